/-! BUILD'S CONTRACT, and its call -/
def jBP (as : List Value) (D : va_G) (g : Nat → ClassId) (adk : Nat → Nat) (k mo : kS) (b L : Nat) (xs : Nat → Int32) (sz : Nat) : Array Value → State → Prop :=
  va_Pc as (fun U => (U.heap.size = sz ∧ va_P D vwCl (jY adk g k mo) U.heap ∧ va_K D vwCl (jT g) U ∧ va_D (fun _ => True) (jY adk g k mo)) ∧ jX U ∧ kXA (va_A (jY adk g k mo) sz) U U.heap ∧ va_X b L xs U U.heap ∧ b < sz ∧ ¬ va_A (jY adk g k mo) sz b)
theorem jBP_blind {as : List Value} {D : va_G} {g : Nat → ClassId} {adk : Nat → Nat} {k mo : kS} {b L : Nat} {xs : Nat → Int32} {sz : Nat} : FrameBlind (jBP as D g adk k mo b L xs sz) := fun a U g2 mk q => by
  obtain ⟨q0, ⟨q1, qP, qK, qD⟩, qX, qN, qS, qb⟩ := q
  exact ⟨q0, ⟨q1, qP, va_K.moved (u := U) (U := U.calling g2 mk a) (Vm.Alike.refl U.vm) qK, qD⟩, qX.calling, kXA_calling qN, va_X.moved (u := U) (U := U.calling g2 mk a) (Vm.Alike.refl U.vm) qS, qb⟩
set_option maxHeartbeats 4000000 in
set_option maxRecDepth 100000 in
theorem c_L_build (l : Launch) (hst : l.stackTraces = false) {D : va_G} {g : Nat → ClassId} {adk : Nat → Nat} {k mo : kS} {b L : Nat} {xs : Nat → Int32} (hL : L < 2 ^ 31) {o : kS × kS} {mc ms : Nat} (hf : F_L_build xs L k = some (o, mc, ms)) (sz : Nat) : Met l yL_build (Cond.code yL_build cL_build 8 (some (.object "KingTiesLaw$Sim")) :: kWA) (rm_L_build mc ms) (jBP [.ref (adk 0), .ref b] D g adk k mo b L xs sz) (jLQs D g (va_A (jY adk g k mo) sz) adk o.1 mo o.2) mc ms (va_A (jY adk g k mo) sz) := by
  refine Met.ofW (cc := cL_build) (maxL := 8) (ret := some (.object "KingTiesLaw$Sim")) (by decide +kernel) rfl ?_
  intro p e s m args below meth c s₁ B hml hv
  obtain ⟨rfl, ⟨hsz, hP, hK, hD0⟩, hJ, hXA, hS, hbs, hbA⟩ := hv
  have hts := atoms_spec (ws := Cond.code yL_build cL_build 8 (some (.object "KingTiesLaw$Sim")) :: kWA) B.pre
  have hown : s.vm.findClass yL_build.cls = some m.cls := findClass_of_methodNamed B.named
  subst hsz
  have hl := lv_entry [.ref (adk 0), .ref b] (n := 8) (Nat.le_of_ble_eq_true rfl)
  rw [lg_entry_eq]
  generalize (lg_sl [Value.ref (adk 0), Value.ref b] ++ List.replicate (8 - (lg_sl [Value.ref (adk 0), Value.ref b]).length) Slot.unset).toArray = ls at hl ⊢
  have hl : lv_has ls 8 [(0, .ref (adk 0)), (1, .ref b)] := hl
  have hD := hD0.self (sz := s.heap.size)
  exact w_L_build_0 (ad := fun _ => 0) (z := jS0) ⟨B.exec, B.bytes, hml, hown, fun w hw => hts w (List.mem_cons_of_mem _ hw), B.returns, B.notSynchronized, hK, hJ⟩ (fun q hq => Or.inr hq) ⟨hst, hXA⟩ ⟨hS, hbs, hbA, hL⟩ trivial ⟨hP, hD, va_S.rf⟩ ⟨hl, by intro q hq; simp at hq; rcases hq with rfl | rfl <;> rfl⟩ hf (Nat.zero_add _) (Nat.zero_add _)
section LB
variable {p : Program} {l : Launch} {e : Env} {R : Room} {s : State} {m : MethodId} {args : Array Value} {below : List Frame} {meth : Method} {c : Code} {H : Heap} {locs : List Loc} {cells slots : Nat} {Q : State → Prop} {A : Nat → Prop}
variable {cc : ByteArray} {nL : Nat} {ret : Option FieldType} {D : va_G} {g : Nat → ClassId} {adk ad : Nat → Nat} {k k2 mo z z2 : kS} {pc : Nat} {ls : Array Slot} {rest : List Value} {mc ms : Nat} {b L : Nat} {xs : Nat → Int32}
theorem jl_build (V : jV p s m args meth c cc RL nL ret D g) (hA : ∀ q, s.heap.size ≤ q → A q) (LX : jLX l A s) (SX : jSX A s b L xs) (h : jW A s H locs D (jY adk g k mo)) {o : kS × kS} (hf : F_L_build xs L k = some (o, mc, ms)) (hR : 53 ≤ R.frames ∧ 8 + (8 + 11) + 1444 ≤ R.locals) (hsz : ls.size = nL) (hroom : rest.length ≤ 4) (hdg : decode cc pc = .ok (.invokestatic 119, 3)) (hfc : cells + mc ≤ R.cells ∧ slots + ms ≤ R.slots)
    (kk : ∀ (ad : Nat → Nat) (H1 : Heap) (locs1 : List Loc), jH A s H1 locs1 D g ad o.2 (jY adk g o.1 mo) [] → W p l e R s m args below meth c H1 locs1 (cells + mc) (slots + ms) Q (F0 m (pc + 3) ls (.ref (ad 0) :: rest))) : W p l e R s m args below meth c H locs cells slots Q (F0 m pc ls (.ref b :: .ref (adk 0) :: rest)) := by
  obtain ⟨hx, hb, hml, hown, hts, hr, hlk, hK, hJ⟩ := V
  obtain ⟨hP, hD, hS⟩ := h
  obtain ⟨sX, sb, sA, sL⟩ := SX
  obtain ⟨y1, y2, y3, y4⟩ := kYL_build
  have hF : ∀ q, va_A (jY adk g k mo) H.size q → A q := by
    rintro q (⟨i, x, hi⟩ | hq)
    · exact hD.2 i (q, x) hi
    · exact hA q (Nat.le_trans hS.1 hq)
  refine va_callr (va_runS (As := [.ref (adk 0), .ref b]) (rest := rest) (nL := nL) ⟨hx, hb, hml, hown, hts⟩ (c_L_build l LX.1 sL hf H.size) (va_cwS 2 hts (fun w hw => ?_) rfl rfl rfl y4 hR) ⟨jBP_blind, fun U hU hW => ⟨rfl, ⟨by rw [hU], by rw [hU]; exact hP, va_K.moved hW.alike hK, hD.weaken (fun _ _ _ _ => trivial)⟩, hJ.warm hW, ?_, ?_, Nat.lt_of_lt_of_le sb hS.1, fun h => sA (hF b h)⟩⟩ rfl rfl hsz rfl (lv_room (jroom hroom)) hdg hfc) hS (fun q _ h => hF q h) hF (fun u ra t H1 locs1 ht hvm hp hB hz hk hS => ?_)
  · rcases List.mem_append.mp hw with hw | hw
    · simp only [List.mem_cons, List.not_mem_nil, or_false] at hw
      rcases hw with rfl | rfl | rfl
      · exact ⟨kl_L_119, kWA_good _ kl_L_119⟩
      · exact ⟨y1, kWA_good _ y1⟩
      · exact ⟨y2, kWA_good _ y2⟩
    · exact kY_good y3 w hw
  · exact kXA_next LX.2 hS hU hW (fun q hq => hF q hq)
  · rw [hU]
    exact va_X.moved hW.alike (sX.kept (hS.2.1 b sb sA))
  · obtain ⟨hra, h1, h2, h3⟩ := hB
    subst hra
    rw [ht] at h1
    refine kk u _ _ ⟨?_, ?_, hS⟩
    · rw [List.append_nil]; exact h1
    · rw [List.append_nil]; exact h3.weaken (fun _ _ _ h => hF _ h)
end LB
