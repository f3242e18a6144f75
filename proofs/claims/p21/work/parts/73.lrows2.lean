/-! THE LAW'S METHODS: a new Sim, the script, ends -/
def jS0 : kS := fun p _ => if p = 4 ∨ p = 8 then -1 else 0
def jSX (A : Nat → Prop) (s : State) (b L : Nat) (xs : Nat → Int32) : Prop := va_X b L xs s s.heap ∧ b < s.heap.size ∧ ¬ A b ∧ L < 2 ^ 31
def F_L_cell (xs : Nat → Int32) (L : Nat) (v : Int32) : Option Int32 := if v < 0 then none else if nI L ≤ v then some (790386105 * (v + 3)) else some (xs v.toNatClampNeg)
section JS
variable {p : Program} {l : Launch} {e : Env} {R : Room} {s : State} {m : MethodId} {args : Array Value} {below : List Frame} {meth : Method} {c : Code} {H : Heap} {locs : List Loc} {cells slots : Nat} {Q : State → Prop} {A : Nat → Prop}
variable {cc : ByteArray} {own : String} {nL : Nat} {ret : Option FieldType} {D : va_G} {g : Nat → ClassId} {adk ad : Nat → Nat} {k k2 mo z z2 : kS} {Y X : va_W} {pc : Nat} {ls : Array Slot} {rest : List Value} {mc ms : Nat} {G : (Nat → Nat) → Prop}
theorem jS0_pl : jPl jS0 = [0, 4, 8] := by
  unfold jPl
  rw [show jN jS0 = 0 from rfl, show jM jS0 = 0 from rfl]
  rfl
/-- new Sim() -/
theorem jnew_S (V : jV p s m args meth c cc RL nL ret D g) (hA : ∀ q, s.heap.size ≤ q → A q) (h : jW A s H locs D Y) (hsz : ls.size = nL) (hr : rest.length ≤ 3) (hfr : 2 ≤ R.frames) (hlo : 40 ≤ R.locals) (hc : cells + 3 ≤ R.cells) (hs : slots + 3 ≤ R.slots) (d0 : decode cc pc = .ok (.new 10, 3)) (d3 : decode cc (pc + 3) = .ok (.dup, 1)) (d4 : decode cc (pc + 4) = .ok (.invokespecial 103, 3))
    (kk : ∀ (ad : Nat → Nat) (H1 : Heap) (locs1 : List Loc), jH A s H1 locs1 D g ad jS0 Y [] → W p l e R s m args below meth c H1 locs1 (cells + 3) (slots + 3) Q (F0 m (pc + 7) ls (.ref (ad 0) :: rest))) : W p l e R s m args below meth c H locs cells slots Q (F0 m pc ls rest) := by
  have V' := V
  obtain ⟨hx, hb, hml, hown, hts, hr2, hlk, hK, hJ⟩ := V
  refine va_new (D := D) (ci := 8) (fs := js0) (C := RX8) (T := TX8) (N := 3) hx hb hts kX8 tyX8 tyX8_ok hown (hts _ kc_L_10) (hts _ ki_X8) (hts _ kz_X8) hK h.1 h.2.1 h.2.2 hA rfl (fun j hj => match j, hj with
    | 0, _ => rfl | 1, _ => rfl | 2, _ => rfl
    | n + 3, h => absurd h (by omega)) (by omega) hs d0 (fun q H1 hP hD hS => ?_)
  refine lv_dup hx hb d3 rfl ?_
  refine jr_initN (x := (q, .inr (8, js0))) (Wn := fun u => [(q, .inr (8, [.ref (u 0), .ref (u 1), .int 0])), (u 0, .inl (g 3, 0, jRf fun _ => none)), (u 1, .inl (g 4, 0, jRf fun _ => none))]) (host := RL) V' hA ⟨hP, hD, hS⟩ (c_X8_init l q H1.size) kd_yX8_init rfl rfl kz_X8 hJ.2.2.2.2 kinst_yX8_init rfl (by decide +kernel) ⟨hfr, Nat.le_trans (by decide) hlo⟩ hsz (by show rest.length + 1 ≤ 4; omega) ⟨by omega, hs⟩ d4 (fun u H2 locs2 hW => ?_)
  have e : jC g (fun p => if p = 0 then q else if p = 4 then u 0 else u 1) jS0 = [(q, .inr (8, [.ref (u 0), .ref (u 1), .int 0])), (u 0, .inl (g 3, 0, jRf fun _ => none)), (u 1, .inl (g 4, 0, jRf fun _ => none))] := by
    unfold jC
    rw [jS0_pl]
    simp only [List.map_cons, List.map_nil, jE_0, jE_4, jE_8]
    simp [jS0, jr]
  have := kk (fun p => if p = 0 then q else if p = 4 then u 0 else u 1) H2 locs2 (by
    unfold jH
    rw [List.append_nil, e]
    exact hW)
  exact this
set_option maxHeartbeats 4000000 in
set_option maxRecDepth 100000 in
theorem c_L_cell (l : Launch) {b L : Nat} {xs : Nat → Int32} (hL : L < 2 ^ 31) (v : Int32) {out : Int32} (hf : F_L_cell xs L v = some out) (sz : Nat) : Met l yL_cell (Cond.code yL_cell cL_cell 2 (some .int) :: kWA) { frames := 0, cells := 0, slots := 0, locals := 0 } (va_Pc [.ref b, .int v] (fun U => U.heap.size = sz ∧ va_X b L xs U U.heap ∧ b < sz)) (va_Qi (fun (r' : Int32) (_ : Unit) => r' = out) (fun _ _ => True) (fun q => sz ≤ q)) 0 0 (fun q => sz ≤ q) := by
  refine Met.ofW (cc := cL_cell) (maxL := 2) (ret := some .int) (by decide +kernel) rfl ?_
  intro p e s m args below meth c s₁ B hml hv
  obtain ⟨rfl, hsz, hX, hbs⟩ := hv
  subst hsz
  have hx := B.exec
  have hb := B.bytes
  have hr := B.returns
  have hts := atoms_spec (ws := Cond.code yL_cell cL_cell 2 (some .int) :: kWA) B.pre
  have hown : s.vm.findClass yL_cell.cls = some m.cls := findClass_of_methodNamed B.named
  have hlocks := B.notSynchronized
  have hl := lv_entry [.ref b, .int v] (n := 2) (Nat.le_of_ble_eq_true rfl)
  rw [lg_entry_eq]
  generalize (lg_sl [Value.ref b, .int v] ++ List.replicate (2 - (lg_sl [Value.ref b, .int v]).length) Slot.unset).toArray = ls at hl ⊢
  have hl : lv_has ls 2 [(0, .ref b), (1, .int v)] := hl
  have hS : va_S (fun q => s.heap.size ≤ q) s.heap s.heap [] := va_S.rf
  unfold F_L_cell at hf
  obtain ⟨h0, hf⟩ := kif hf
  refine lv_iload_n hx hb dL_cell_0 rfl (lv_at hl 1 rfl) ?_
  refine lv_aload_n hx hb dL_cell_1 rfl (lv_at hl 0 rfl) ?_
  refine va_slen (A := fun q => s.heap.size ≤ q) hx hb hX hbs (by omega) hS dL_cell_2 ?_
  refine lv_icmp_ge (tgt := 12) hx hb dL_cell_3 (by decide) (fun hq => ?_) (fun hq => ?_)
  · have hf := kpos (show nI L ≤ v from hq) hf
    refine lv_ldc (v := 790386105) hx hb hown (hts _ (List.mem_cons_of_mem _ ki4_L_8)) dL_cell_12 ?_
    refine lv_iload_n hx hb dL_cell_14 rfl (lv_at hl 1 rfl) ?_
    refine lv_iconst (v := 3) hx hb dL_cell_15 (by decide) ?_
    refine lv_iadd hx hb dL_cell_16 ?_
    refine lv_imul hx hb dL_cell_17 ?_
    exact W.iret (v := 790386105 * (v + 3)) hx hb hr (fun t ht hW => ⟨⟨_, (), rfl, Option.some.inj hf, trivial⟩, hS.F ht⟩) hS.2.2 dL_cell_18 hlocks
  · have hf := kneg (show ¬ nI L ≤ v from hq) hf
    have hin : vp_in v L := by
      rcases pk_ix v (n := L) hL with h | h | ⟨q, hq2, rfl⟩
      · exact absurd h h0
      · exact absurd h hq
      · exact nI_in hq2 hL
    refine lv_aload_n hx hb dL_cell_6 rfl (lv_at hl 0 rfl) ?_
    refine lv_iload_n hx hb dL_cell_7 rfl (lv_at hl 1 rfl) ?_
    refine va_sld (A := fun q => s.heap.size ≤ q) hx hb hX hbs (by omega) hS hin dL_cell_8 ?_
    refine lv_goto (tgt := 18) hx hb dL_cell_9 (by decide) ?_
    exact W.iret (v := xs v.toNatClampNeg) hx hb hr (fun t ht hW => ⟨⟨_, (), rfl, Option.some.inj hf, trivial⟩, hS.F ht⟩) hS.2.2 dL_cell_18 hlocks
/-- a call of cell -/
theorem jl_cell {b L : Nat} {xs : Nat → Int32} {v r : Int32} (V : jV p s m args meth c cc RL nL ret D g) (SX : jSX A s b L xs) (h : jH A s H locs D g ad z Y X) (hf : F_L_cell xs L v = some r) (hfr : 1 ≤ R.frames) (hlo : 40 ≤ R.locals) (hsz : ls.size = nL) (hroom : rest.length ≤ 4) (hdg : decode cc pc = .ok (.invokestatic 104, 3)) (hfc : cells + 0 ≤ R.cells ∧ slots + 0 ≤ R.slots)
    (kk : ∀ (H1 : Heap) (locs1 : List Loc), jH A s H1 locs1 D g ad z Y X → W p l e R s m args below meth c H1 locs1 cells slots Q (F0 m (pc + 3) ls (.int r :: rest))) (hA : ∀ q, s.heap.size ≤ q → A q) : W p l e R s m args below meth c H locs cells slots Q (F0 m pc ls (.int v :: .ref b :: rest)) := by
  obtain ⟨hx, hb, hml, hown, hts, hr, hlk, hK, hJ⟩ := V
  obtain ⟨sX, sb, sA, sL⟩ := SX
  obtain ⟨y1, y2, y3, y4⟩ := kYL_cell
  have hbH : b < H.size := Nat.lt_of_lt_of_le sb h.2.2.1
  refine va_calli (va_runS (As := [.ref b, .int v]) (rest := rest) (nL := nL) ⟨hx, hb, hml, hown, hts⟩ (c_L_cell l sL v hf H.size) (va_cwS 2 hts (fun w hw => ?_) rfl rfl rfl y4 ⟨hfr, Nat.le_trans (by decide) hlo⟩) ⟨fun a U g2 mk q => ⟨q.1, q.2.1, va_X.moved (u := U) (U := U.calling g2 mk a) (Vm.Alike.refl U.vm) q.2.2.1, q.2.2.2⟩, fun U hU hW => ⟨rfl, by rw [hU], ?_, hbH⟩⟩ rfl rfl hsz rfl (lv_room (jroom hroom)) hdg hfc) h.2.2 (fun q h1 h2 => absurd h2 (Nat.not_le.mpr h1)) (fun q h2 => hA q (Nat.le_trans h.2.2.1 h2)) (fun r' u t H1 locs1 ht hvm hp hB hz hk hS => ?_)
  · rcases List.mem_append.mp hw with hw | hw
    · simp only [List.mem_cons, List.not_mem_nil, or_false] at hw
      rcases hw with rfl | rfl | rfl
      · exact ⟨kl_L_104, kWA_good _ kl_L_104⟩
      · exact ⟨y1, kWA_good _ y1⟩
      · exact ⟨y2, kWA_good _ y2⟩
    · exact kY_good y3 w hw
  · rw [hU]
    exact va_X.moved hW.alike (sX.kept (h.2.2.2.1 b sb sA))
  · subst hp
    refine kk H1 locs1 ⟨h.1.kept (fun i x hi => hk x.1 (h.1 i x hi).lt (Nat.not_le.mpr (h.1 i x hi).lt)), h.2.1, hS⟩
end JS
