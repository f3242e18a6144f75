/-! ROWS OF A TEMPORARY ARRAY BESIDE THE WORLD, AND OF Arrays.fill -/
section KX
variable {p : Program} {l : Launch} {e : Env} {R : Room} {s : State} {mm : MethodId} {args : Array Value} {below : List Frame} {meth : Method} {c : Code} {H : Heap} {locs : List Loc} {cells slots : Nat} {Q : State → Prop}
variable {cc : ByteArray} {own : String} {nL : Nat} {ret : Option FieldType} {D : va_G} {cI cZ cO : ClassId} {ad : Nat → Nat} {k mo : kS} {X : va_W} {pc : Nat} {ls : Array Slot} {rest : List Value} {xq N : Nat} {xf : Nat → Int32}
/-- the class of int[] is one -/
theorem kcI {cA : ClassId} {ty : FieldType} (h : va_K D vwCl (kT cI cZ cO ++ [(cA, .int)]) s) : cA = cI := by
  have h1 := (h.2 0 _ rfl).2
  have h2 := (h.2 3 _ rfl).2
  have h3 : s.vm.findClass ("[" ++ (FieldType.int).toString) = some cI := h1
  have h4 : s.vm.findClass ("[" ++ (FieldType.int).toString) = some cA := h2
  rw [h3] at h4
  exact (Option.some.inj h4).symm
end KX
/-! Arrays.fill over one array -/
abbrev kfW (a : Nat) (cI : ClassId) (n : Nat) (f : Nat → Int32) : va_W := [(a, .inl (cI, n, .inl f))]
abbrev rm_fill : Room := { frames := 0, cells := 0, slots := 0, locals := 0 }
abbrev ws_fill : List Cond := Cond.code yJ7_fill_53178 cJ7_fill_53178 4 none :: kWA
theorem dJf_0 : decode cJ7_fill_53178 0 = .ok (.iconst 0, 1) := by decide +kernel
theorem dJf_1 : decode cJ7_fill_53178 1 = .ok (.istore_n 2, 1) := by decide +kernel
theorem dJf_2 : decode cJ7_fill_53178 2 = .ok (.aload_n 0, 1) := by decide +kernel
theorem dJf_3 : decode cJ7_fill_53178 3 = .ok (.arraylength, 1) := by decide +kernel
theorem dJf_4 : decode cJ7_fill_53178 4 = .ok (.istore_n 3, 1) := by decide +kernel
theorem dJf_5 : decode cJ7_fill_53178 5 = .ok (.iload_n 2, 1) := by decide +kernel
theorem dJf_6 : decode cJ7_fill_53178 6 = .ok (.iload_n 3, 1) := by decide +kernel
theorem dJf_7 : decode cJ7_fill_53178 7 = .ok (.if_icmp .ge 13, 3) := by decide +kernel
theorem dJf_10 : decode cJ7_fill_53178 10 = .ok (.aload_n 0, 1) := by decide +kernel
theorem dJf_11 : decode cJ7_fill_53178 11 = .ok (.iload_n 2, 1) := by decide +kernel
theorem dJf_12 : decode cJ7_fill_53178 12 = .ok (.iload_n 1, 1) := by decide +kernel
theorem dJf_13 : decode cJ7_fill_53178 13 = .ok (.iastore, 1) := by decide +kernel
theorem dJf_14 : decode cJ7_fill_53178 14 = .ok (.iinc 2 1, 3) := by decide +kernel
theorem dJf_17 : decode cJ7_fill_53178 17 = .ok (.goto (-12), 3) := by decide +kernel
theorem dJf_20 : decode cJ7_fill_53178 20 = .ok (.return_, 1) := by decide +kernel
theorem kfill_step (n i : Nat) (v : Int32) (f : Nat → Int32) : upd (kfill i v f) i v = kfill (i + 1) v f := by
  funext j
  unfold upd kfill
  by_cases h : j = i
  · rw [if_pos h, if_pos (by omega)]
  · rw [if_neg h]
    by_cases h2 : j < i
    · rw [if_pos h2, if_pos (by omega)]
    · rw [if_neg h2, if_neg (by omega)]
set_option maxHeartbeats 4000000 in
set_option maxRecDepth 100000 in
theorem c_fill (l : Launch) (D : va_G) (cI : ClassId) (a sz n : Nat) (hn : n < 2 ^ 31) (f : Nat → Int32) (v : Int32) : Met l yJ7_fill_53178 ws_fill rm_fill (va_Pc [.ref a, .int v] (fun U => U.heap.size = sz ∧ va_P D vwCl (kfW a cI n f) U.heap ∧ va_K D vwCl [(cI, .int)] U ∧ va_D (fun _ => True) (kfW a cI n f))) (va_Qv (fun _ : Unit => True) (fun _ t => va_P D vwCl (kfW a cI n (kfill n v f)) t.heap ∧ va_K D vwCl [(cI, .int)] t ∧ va_D (va_A (kfW a cI n f) sz) (kfW a cI n (kfill n v f))) (va_A (kfW a cI n f) sz)) 0 0 (va_A (kfW a cI n f) sz) := by
  refine Met.ofW (cc := cJ7_fill_53178) (maxL := 4) (ret := none) (by decide +kernel) rfl ?_
  intro p e s m args below meth c s₁ B hml hv
  obtain ⟨rfl, hsz, hP, hK, hD0⟩ := hv
  have hx := B.exec
  have hb := B.bytes
  have hr := B.returns
  have hlocks := B.notSynchronized
  subst hsz
  have hD := hD0.self (sz := s.heap.size)
  have hl := lv_entry ([.ref a, .int v]) (n := 4) (Nat.le_of_ble_eq_true rfl)
  rw [lg_entry_eq]
  generalize (lg_sl ([.ref a, .int v]) ++ List.replicate (4 - (lg_sl ([.ref a, .int v])).length) Slot.unset).toArray = ls at hl ⊢
  have hl : lv_has ls 4 [(0, .ref a), (1, .int v)] := hl
  have hS : va_S (va_A (kfW a cI n f) s.heap.size) s.heap s.heap [] := va_S.rf
  refine lv_iconst (v := 0) hx hb dJf_0 (by decide) ?_
  refine lv_istore_n (lv' := [(2, .int 0), (0, .ref a), (1, .int v)]) hx hb dJf_1 rfl hl (by decide) rfl (fun ls hl => ?_)
  refine lv_aload_n hx hb dJf_2 rfl (lv_at hl 1 rfl) ?_
  refine va_alen (D := D) (cA := cI) (x := (n, .inl f)) (ty := .int) (v := nI n) hx hb hK hP 0 0 rfl rfl rfl dJf_3 ?_
  refine lv_istore_n (lv' := [(3, .int (nI n)), (2, .int 0), (0, .ref a), (1, .int v)]) hx hb dJf_4 rfl hl (by decide) rfl (fun ls hl => ?_)
  suffices K : ∀ (d i : Nat), i ≤ n → n - i < d → ∀ (H : Heap) (locs : List Loc) (ls : Array Slot), va_P D vwCl (kfW a cI n (kfill i v f)) H → va_D (va_A (kfW a cI n f) s.heap.size) (kfW a cI n (kfill i v f)) → va_S (va_A (kfW a cI n f) s.heap.size) s.heap H locs → lv_has ls 4 [(3, .int (nI n)), (2, .int (nI i)), (0, .ref a), (1, .int v)] → W p l e (headSpec ws_fill rm_fill).room s m ([Value.ref a, .int v] : List Value).toArray below meth c H locs 0 0 (MQ below (va_Qv (fun _ : Unit => True) (fun _ t => va_P D vwCl (kfW a cI n (kfill n v f)) t.heap ∧ va_K D vwCl [(cI, .int)] t ∧ va_D (va_A (kfW a cI n f) s.heap.size) (kfW a cI n (kfill n v f))) (va_A (kfW a cI n f) s.heap.size)) ([Value.ref a, .int v] : List Value).toArray s 0 0 (va_A (kfW a cI n f) s.heap.size)) (F0 m 5 ls []) by
    have h0 : kfill 0 v f = f := by funext j; simp [kfill]
    exact K (n + 1) 0 (Nat.zero_le _) (by omega) s.heap [] ls (by rw [h0]; exact hP) (by rw [h0]; exact hD) hS hl
  intro d
  induction d with
  | zero => intro i _ h; omega
  | succ d ih =>
    intro i hi hd H locs ls hP hD hS hl
    refine lv_iload_n hx hb dJf_5 rfl (lv_at hl 1 rfl) ?_
    refine lv_iload_n hx hb dJf_6 rfl (lv_at hl 0 rfl) ?_
    refine lv_icmp_ge (tgt := 20) hx hb dJf_7 (by decide) (fun hq => ?_) (fun hq => ?_)
    · have hin : i = n := by
        rcases Nat.lt_or_ge i n with q | q
        · exact absurd hq (nI_ge q hn)
        · omega
      subst hin
      exact W.vret hx hb hr (fun t ht hW => ⟨⟨(), rfl, trivial, by rw [ht]; exact hP, va_K.moved hW.alike hK, hD⟩, hS.F ht⟩) hS.2.2 dJf_20 hlocks
    · have hlt : i < n := by
        rcases Nat.lt_or_ge i n with q | q
        · exact q
        · exact absurd (nI_le q (by omega)) hq
      refine lv_aload_n hx hb dJf_10 rfl (lv_at hl 2 rfl) ?_
      refine lv_iload_n hx hb dJf_11 rfl (lv_at hl 1 rfl) ?_
      refine lv_iload_n hx hb dJf_12 rfl (lv_at hl 3 rfl) ?_
      refine va_iast (D := D) (cA := cI) (n := n) (f := kfill i v f) hx hb hK hP hD hS 0 0 rfl rfl (vp_in_nI hlt hn) dJf_13 (fun H locs hP hD hS => ?_)
      have hc : (nI i).toNatClampNeg = i := nI_clamp (by omega)
      have hP : va_P D vwCl (kfW a cI n (upd (kfill i v f) (nI i).toNatClampNeg v)) H := hP
      have hD : va_D (va_A (kfW a cI n f) s.heap.size) (kfW a cI n (upd (kfill i v f) (nI i).toNatClampNeg v)) := hD
      rw [hc, kfill_step n] at hP hD
      refine lv_iinc (v := nI i + 1) (lv' := [(2, .int (nI i + 1)), (3, .int (nI n)), (0, .ref a), (1, .int v)]) hx hb dJf_14 hl (k := 1) rfl rfl (by decide) rfl (fun ls hl => ?_)
      refine lv_goto (tgt := 5) hx hb dJf_17 (by decide) ?_
      rw [nI_1] at hl
      exact ih (i + 1) hlt (by omega) H locs ls hP hD hS (lv_sub hl [1, 0, 2, 3] rfl)
section KF
variable {p : Program} {l : Launch} {e : Env} {R : Room} {s : State} {mm : MethodId} {args : Array Value} {below : List Frame} {meth : Method} {c : Code} {H : Heap} {locs : List Loc} {cells slots : Nat} {Q : State → Prop}
variable {cc : ByteArray} {own : String} {nL : Nat} {ret : Option FieldType} {D : va_G} {cI cZ cO : ClassId} {ad : Nat → Nat} {k mo : kS} {X : va_W} {pc : Nat} {ls : Array Slot} {rest : List Value}
theorem kYJ7_fill : kYs yJ7_fill_53178 cJ7_fill_53178 4 none 2 := ⟨kstatic_yJ7_fill_53178, kz_J7, kd_yJ7_fill_53178, by decide +kernel⟩
set_option maxHeartbeats 4000000 in
/-- Arrays.fill of a place of the class -/
theorem kr_fill (V : kV p s mm args meth c cc own nL ret D cI cZ cO) (h : kHE s H locs D ad cI cZ cO k mo []) (hsz : ls.size = nL) {index : Nat} (w1 : Cond.methodLink own index yJ7_fill_53178 ∈ kWA) {q : Nat} (hq : kOK q) {n : Nat} (hn : n < 2 ^ 31) (hf : ∀ k : kS, kE ad cI cZ cO k mo q = .inl (cI, n, .inl (k q))) {v : Int32} (hroom : (rest.map fun v => v.category).sum ≤ 8) (hR : rm_fill.frames + 1 ≤ R.frames ∧ 8 + (4 + 11) + rm_fill.locals ≤ R.locals) (hcs : cells + 0 ≤ R.cells ∧ slots + 0 ≤ R.slots) (hdg : decode cc pc = .ok (.invokestatic index, 3))
    (kk : ∀ (H1 : Heap) (locs1 : List Loc), kHE s H1 locs1 D ad cI cZ cO (kst k q (kfill n v (k q))) mo [] → W p l e R s mm args below meth c H1 locs1 cells slots Q (F0 mm (pc + 3) ls rest)) : W p l e R s mm args below meth c H locs cells slots Q (F0 mm pc ls (.int v :: .ref (ad q) :: rest)) := by
  have V' := V
  obtain ⟨hx, hb, hml, hown, hts, hr, hlk, hK⟩ := V
  obtain ⟨y1, y2, y3, y4⟩ := kYJ7_fill
  have hg : (kC ad (kE ad cI cZ cO k mo) ++ [])[kIx q]? = some (ad q, .inl (cI, n, .inl (k q))) := by rw [kC_get hq, hf]
  have hg2 : (kC ad (kE ad cI cZ cO k mo))[kIx q]? = some (ad q, .inl (cI, n, .inl (k q))) := by rw [← hg, List.append_nil]
  have hPc : va_P D vwCl (kfW (ad q) cI n (k q)) H := h.1.sub [kIx q] (by simp [hg2])
  have hDc : va_D (fA ad s.heap.size) (kfW (ad q) cI n (k q)) := h.2.1.sub [kIx q] (by simp [va_nd]) (by simp [hg2])
  have hKc : va_K D vwCl [(cI, .int)] s := hK.sub [0] rfl
  have hFc : ∀ a, va_A (kfW (ad q) cI n (k q)) H.size a → fA ad s.heap.size a := va_free h.2.1 h.2.2 fA_new [kIx q] (by simp [hg2])
  refine va_callv (va_runS (As := [.ref (ad q), .int v]) (rest := rest) (nL := nL) ⟨hx, hb, hml, hown, hts⟩ (c_fill l D cI (ad q) H.size n hn (k q) v) (va_cwS 2 hts (fun w hw => ?_) rfl rfl rfl y4 hR) ⟨fun a U g mk q => by obtain ⟨q0, q1, qP, qK, qD⟩ := q; exact ⟨q0, q1, qP, va_K.moved (u := U) (U := U.calling g mk a) (Vm.Alike.refl U.vm) qK, qD⟩, fun U hU hW => ⟨rfl, by rw [hU], by rw [hU]; exact hPc, va_K.moved hW.alike hKc, hDc.weaken (fun _ _ _ _ => trivial)⟩⟩ rfl rfl hsz rfl (lv_room hroom) hdg hcs) h.2.2 (fun q _ h => hFc q h) hFc (fun u t H1 locs1 ht hvm hw hB hz1 hk1 hS => ?_)
  · rcases List.mem_append.mp hw with hw | hw
    · simp only [List.mem_cons, List.not_mem_nil, or_false] at hw
      rcases hw with rfl | rfl | rfl
      · exact ⟨w1, kWA_good _ w1⟩
      · exact ⟨y1, kWA_good _ y1⟩
      · exact ⟨y2, kWA_good _ y2⟩
    · exact kY_good y3 w hw
  · obtain ⟨hP1, hK1, hD1⟩ := hB
    rw [ht] at hP1
    refine kk H1 locs1 ⟨?_, ?_, hS⟩
    · intro i x hi
      have hi2 : i < 101 ∧ x = (ad (kPl i), kE ad cI cZ cO (kst k q (kfill n v (k q))) mo (kPl i)) := kC_inv (by rwa [List.append_nil] at hi)
      obtain ⟨h1, rfl⟩ := hi2
      by_cases hiq : kPl i = q
      · have := hP1 0 _ rfl
        rw [hiq, hf, kst_eq]
        exact this
      · rw [kst_o hiq]
        have hat := h.1 i _ (kC_getI h1)
        refine hat.kept (hk1 (ad (kPl i)) hat.lt ?_)
        rintro (⟨j, x, hj⟩ | hj)
        · cases j with
          | zero =>
            have hj2 : (ad q : Nat) = ad (kPl i) := (Prod.ext_iff.mp (Option.some.inj hj)).1
            exact hiq (by rw [h.2.1.1 i (kIx q) _ _ (kC_getI h1) (kC_get hq) hj2.symm, kPl_Ix hq])
          | succ j => simp at hj
        · exact absurd hat.lt (Nat.not_lt.mpr hj)
    · refine ⟨fun i j x y hx hy hxy => ?_, fun i x hx => ?_⟩
      · rw [List.append_nil] at hx hy
        obtain ⟨h1, rfl⟩ := kC_inv hx
        obtain ⟨h2, rfl⟩ := kC_inv hy
        exact h.2.1.1 i j _ _ (kC_getI h1) (kC_getI h2) hxy
      · rw [List.append_nil] at hx
        obtain ⟨h1, rfl⟩ := kC_inv hx
        exact h.2.1.2 i (ad (kPl i), kE ad cI cZ cO k mo (kPl i)) (kC_getI h1)
end KF
