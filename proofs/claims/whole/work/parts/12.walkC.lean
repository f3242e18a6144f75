section
variable {p : Program} {l : Launch} {e : Env} {s : State} {mm : MethodId} {args : Array Value} {below : List Frame} {meth : Method} {c : Code} {D : va_G} {cI cZ cO : ClassId} {ad : Nat → Nat}
abbrev rm_X6_person (mc ms : Nat) : Room := { frames := 1, cells := mc, slots := ms, locals := 40 }
set_option maxHeartbeats 4000000 in
set_option maxRecDepth 100000 in
theorem w_X6_person_0 (V : kV p s mm args meth c cX6_person RX6 6 (some .int) D cI cZ cO) {k : kS} {v1 : Int32} {v2 : Int32} {v3 : Int32} {v4 : Int32} {mo : kS} {H : Heap} {locs : List Loc} {ls : Array Slot} {cells slots mc ms uc us : Nat} {o : (Int32 × kS)} (hH : kHE s H locs D ad cI cZ cO k mo []) (hl : lv_has ls 6 [(0, .ref (ad 7)), (1, .int v1), (2, .int v2), (3, .int v3), (4, .int v4)]) (hf : F_X6_person_0 v1 v2 v3 v4 mo = some (o, uc, us)) (hc : cells + uc = mc) (hs : slots + us = ms) : W p l e (rm_X6_person mc ms) s mm args below meth c H locs cells slots (kGi below args s D cI cZ cO ad o.1 k o.2 mc ms) (F0 mm 0 ls []) := by
  have hx := V.1
  have hb := V.2.1
  refine lv_bipush (v := 9) hx hb dX6_person_0 (by decide) ?_
  obtain ⟨uc0_1, us0_2, hf, e1, e2⟩ := kadd_some2 hf
  have e1 : uc = 1 + uc0_1 := e1
  have e2 : us = 9 + us0_2 := e2
  have hc : cells + 1 + uc0_1 = mc := by rw [Nat.add_assoc, ← e1]; exact hc
  have hs : slots + 9 + us0_2 = ms := by rw [Nat.add_assoc, ← e2]; exact hs
  have lc : cells + 1 ≤ mc := Nat.le.intro hc
  have ls2 : slots + 9 ≤ ms := Nat.le.intro hs
  refine kx_newa V hH (N := 9) (by decide) (by decide) (by decide) lc ls2 dX6_person_2 (fun xq H hH => ?_)
  refine lv_dup hx hb dX6_person_4 rfl ?_
  refine lv_iconst (v := 0) hx hb dX6_person_5 (by decide) ?_
  refine lv_iload_n hx hb dX6_person_6 rfl (lv_at hl 1 rfl) ?_
  obtain ⟨h0_3, hf⟩ := kif hf
  refine kx_iast V hH h0_3 dX6_person_7 (fun H locs hH => ?_)
  refine lv_dup hx hb dX6_person_8 rfl ?_
  refine lv_iconst (v := 1) hx hb dX6_person_9 (by decide) ?_
  refine lv_iload_n hx hb dX6_person_10 rfl (lv_at hl 2 rfl) ?_
  obtain ⟨h0_4, hf⟩ := kif hf
  refine kx_iast V hH h0_4 dX6_person_11 (fun H locs hH => ?_)
  refine lv_dup hx hb dX6_person_12 rfl ?_
  refine lv_iconst (v := 2) hx hb dX6_person_13 (by decide) ?_
  refine lv_iconst (v := 1) hx hb dX6_person_14 (by decide) ?_
  obtain ⟨h0_5, hf⟩ := kif hf
  refine kx_iast V hH h0_5 dX6_person_15 (fun H locs hH => ?_)
  refine lv_dup hx hb dX6_person_16 rfl ?_
  refine lv_iconst (v := 3) hx hb dX6_person_17 (by decide) ?_
  refine lv_iload_n hx hb dX6_person_18 rfl (lv_at hl 3 rfl) ?_
  obtain ⟨h0_6, hf⟩ := kif hf
  refine kx_iast V hH h0_6 dX6_person_19 (fun H locs hH => ?_)
  refine lv_dup hx hb dX6_person_20 rfl ?_
  refine lv_iconst (v := 4) hx hb dX6_person_21 (by decide) ?_
  refine lv_iload hx hb dX6_person_22 (lv_at hl 4 rfl) ?_
  obtain ⟨h0_7, hf⟩ := kif hf
  refine kx_iast V hH h0_7 dX6_person_24 (fun H locs hH => ?_)
  refine lv_dup hx hb dX6_person_25 rfl ?_
  refine lv_iconst (v := 5) hx hb dX6_person_26 (by decide) ?_
  refine lv_iconst (v := (-1)) hx hb dX6_person_27 (by decide) ?_
  obtain ⟨h0_8, hf⟩ := kif hf
  refine kx_iast V hH h0_8 dX6_person_28 (fun H locs hH => ?_)
  refine lv_dup hx hb dX6_person_29 rfl ?_
  refine lv_bipush (v := 6) hx hb dX6_person_30 (by decide) ?_
  refine lv_iconst (v := (-1)) hx hb dX6_person_32 (by decide) ?_
  obtain ⟨h0_9, hf⟩ := kif hf
  refine kx_iast V hH h0_9 dX6_person_33 (fun H locs hH => ?_)
  refine lv_dup hx hb dX6_person_34 rfl ?_
  refine lv_bipush (v := 7) hx hb dX6_person_35 (by decide) ?_
  refine lv_iconst (v := (-1)) hx hb dX6_person_37 (by decide) ?_
  obtain ⟨h0_10, hf⟩ := kif hf
  refine kx_iast V hH h0_10 dX6_person_38 (fun H locs hH => ?_)
  refine lv_dup hx hb dX6_person_39 rfl ?_
  refine lv_bipush (v := 8) hx hb dX6_person_40 (by decide) ?_
  refine lv_iconst (v := (-1)) hx hb dX6_person_42 (by decide) ?_
  obtain ⟨h0_11, hf⟩ := kif hf
  refine kx_iast V hH h0_11 dX6_person_43 (fun H locs hH => ?_)
  refine lv_astore (lv' := [(5, .ref xq), (0, .ref (ad 7)), (1, .int v1), (2, .int v2), (3, .int v3), (4, .int v4)]) hx hb dX6_person_44 hl (by decide) rfl (fun ls hl => ?_)
  refine lv_aload hx hb dX6_person_46 (lv_at hl 0 rfl) ?_
  refine lv_iconst (v := 0) hx hb dX6_person_48 (by decide) ?_
  refine lv_aload_n hx hb dX6_person_49 rfl (lv_at hl 1 rfl) ?_
  refine kg_X6_9 V hH dX6_person_50 ?_
  refine lv_bipush (v := 9) hx hb dX6_person_53 (by decide) ?_
  refine lv_aload_n hx hb dX6_person_55 rfl (lv_at hl 1 rfl) ?_
  refine kg_X6_35 V hH dX6_person_56 ?_
  refine lv_imul hx hb dX6_person_59 ?_
  refine lv_bipush (v := 9) hx hb dX6_person_60 (by decide) ?_
  obtain ⟨h0_12, hf⟩ := kif hf
  refine kx_copy V hH hl.1 kl_X6_49 (q := 8) (by decide) (fun _ => kE_8) h0_12 (Nat.le_of_ble_eq_true rfl) (Nat.le_of_ble_eq_true rfl) dX6_person_62 (fun H locs hH => ?_)
  refine lv_aload_n hx hb dX6_person_65 rfl (lv_at hl 1 rfl) ?_
  refine lv_dup hx hb dX6_person_66 rfl ?_
  refine kg_X6_35 V hH dX6_person_67 ?_
  refine lv_iconst (v := 1) hx hb dX6_person_70 (by decide) ?_
  refine lv_iadd hx hb dX6_person_71 ?_
  refine kp_X6_35 V hH dX6_person_72 (fun H locs hH => ?_)
  refine lv_aload_n hx hb dX6_person_75 rfl (lv_at hl 1 rfl) ?_
  refine kg_X6_35 V hH dX6_person_76 ?_
  refine lv_iconst (v := 1) hx hb dX6_person_79 (by decide) ?_
  refine lv_isub hx hb dX6_person_80 ?_
  cases hf
  subst hc
  subst hs
  exact kr_iret V hH dX6_person_81
set_option maxHeartbeats 4000000 in
set_option maxRecDepth 100000 in
theorem c_X6_person (l : Launch) {D : va_G} {cI cZ cO : ClassId} {ad : Nat → Nat} {k mo : kS} (v1 : Int32) (v2 : Int32) (v3 : Int32) (v4 : Int32) {o : (Int32 × kS)} {mc ms : Nat} (hf : F_X6_person v1 v2 v3 v4 mo = some (o, mc, ms)) (sz : Nat) : Met l yX6_person (Cond.code yX6_person cX6_person 6 (some .int) :: kWA) (rm_X6_person mc ms) (kP [.ref (ad 7), .int v1, .int v2, .int v3, .int v4] D cI cZ cO ad (kE ad cI cZ cO k mo) sz) (kQi o.1 D cI cZ cO ad (kE ad cI cZ cO k o.2) sz) mc ms (fA ad sz) := by
  refine kr_met (as := [.ref (ad 7), .int v1, .int v2, .int v3, .int v4]) (bytes := cX6_person) (maxL := 6) (rt := (some .int)) (Qc := fun sz => kQi o.1 D cI cZ cO ad (kE ad cI cZ cO k o.2) sz) (lv := [(0, .ref (ad 7)), (1, .int v1), (2, .int v2), (3, .int v3), (4, .int v4)]) (by decide +kernel) (Nat.le_of_ble_eq_true rfl) rfl (fun p e s mm below meth c ls V hH hl => ?_) sz
  exact w_X6_person_0 V hH (lv_sub hl [0, 1, 2, 3, 4] rfl) hf (Nat.zero_add _) (Nat.zero_add _)
end
section
variable {p : Program} {l : Launch} {e : Env} {s : State} {mm : MethodId} {args : Array Value} {below : List Frame} {meth : Method} {c : Code} {D : va_G} {cI cZ cO : ClassId} {ad : Nat → Nat}
abbrev rm_X6_come (mc ms : Nat) : Room := { frames := 2, cells := mc, slots := ms, locals := 65 }
set_option maxHeartbeats 4000000 in
set_option maxRecDepth 100000 in
theorem w_X6_come_15 (V : kV p s mm args meth c cX6_come RX6 3 (some .int) D cI cZ cO) {k : kS} {mo : kS} {H : Heap} {locs : List Loc} {ls : Array Slot} {cells slots mc ms uc us : Nat} {o : (Int32 × kS)} (hH : kHE s H locs D ad cI cZ cO k mo []) (hl : lv_has ls 3 [(0, .ref (ad 7))]) (hf : F_X6_come_15 mo = some (o, uc, us)) (hc : cells + uc = mc) (hs : slots + us = ms) : W p l e (rm_X6_come mc ms) s mm args below meth c H locs cells slots (kGi below args s D cI cZ cO ad o.1 k o.2 mc ms) (F0 mm 15 ls []) := by
  have hx := V.1
  have hb := V.2.1
  refine lv_aload_n hx hb dX6_come_15 rfl (lv_at hl 0 rfl) ?_
  refine lv_iconst (v := 1) hx hb dX6_come_16 (by decide) ?_
  obtain ⟨x15_1, hx15_1, hf⟩ := kbind hf
  refine kr_calli0 hH (kr_runV (as := [.int 1]) (rest := []) (pl := 7) V hH kYX6_fail kl_X6_55 (c_X6_fail l _ hx15_1 _) rfl rfl ⟨Nat.le_of_ble_eq_true rfl, Nat.le_of_ble_eq_true rfl⟩ (by decide) kE_7 rfl rfl hl.1 (Nat.le_of_ble_eq_true rfl) dX6_come_17 ⟨by show cells + 0 ≤ mc; omega, by show slots + 0 ≤ ms; omega⟩ rfl) (fun H locs hH => ?_)
  cases hf
  subst hc
  subst hs
  exact kr_iret V hH dX6_come_20
set_option maxHeartbeats 4000000 in
set_option maxRecDepth 100000 in
theorem w_X6_come_61 (V : kV p s mm args meth c cX6_come RX6 3 (some .int) D cI cZ cO) {k : kS} {s0 : Int32} {mo : kS} {H : Heap} {locs : List Loc} {ls : Array Slot} {cells slots mc ms uc us : Nat} {o : (Int32 × kS)} (hH : kHE s H locs D ad cI cZ cO k mo []) (hl : lv_has ls 3 []) (hf : F_X6_come_61 s0 mo = some (o, uc, us)) (hc : cells + uc = mc) (hs : slots + us = ms) : W p l e (rm_X6_come mc ms) s mm args below meth c H locs cells slots (kGi below args s D cI cZ cO ad o.1 k o.2 mc ms) (F0 mm 61 ls [.int s0]) := by
  have hx := V.1
  have hb := V.2.1
  cases hf
  subst hc
  subst hs
  exact kr_iret V hH dX6_come_61
set_option maxHeartbeats 4000000 in
set_option maxRecDepth 100000 in
theorem w_X6_come_30 (V : kV p s mm args meth c cX6_come RX6 3 (some .int) D cI cZ cO) {k : kS} {mo : kS} {H : Heap} {locs : List Loc} {ls : Array Slot} {cells slots mc ms uc us : Nat} {o : (Int32 × kS)} (hH : kHE s H locs D ad cI cZ cO k mo []) (hl : lv_has ls 3 [(0, .ref (ad 7))]) (hf : F_X6_come_30 mo = some (o, uc, us)) (hc : cells + uc = mc) (hs : slots + us = ms) : W p l e (rm_X6_come mc ms) s mm args below meth c H locs cells slots (kGi below args s D cI cZ cO ad o.1 k o.2 mc ms) (F0 mm 30 ls []) := by
  have hx := V.1
  have hb := V.2.1
  refine lv_aload_n hx hb dX6_come_30 rfl (lv_at hl 0 rfl) ?_
  refine lv_iconst (v := 2) hx hb dX6_come_31 (by decide) ?_
  obtain ⟨x30_1, hx30_1, hf⟩ := kbind hf
  refine kr_calli0 hH (kr_runV (as := [.int 2]) (rest := []) (pl := 7) V hH kYX6_fail kl_X6_55 (c_X6_fail l _ hx30_1 _) rfl rfl ⟨Nat.le_of_ble_eq_true rfl, Nat.le_of_ble_eq_true rfl⟩ (by decide) kE_7 rfl rfl hl.1 (Nat.le_of_ble_eq_true rfl) dX6_come_32 ⟨by show cells + 0 ≤ mc; omega, by show slots + 0 ≤ ms; omega⟩ rfl) (fun H locs hH => ?_)
  refine lv_goto (tgt := 61) hx hb dX6_come_35 (by decide) ?_
  exact w_X6_come_61 V hH (lv_sub hl [] rfl) hf hc hs
set_option maxHeartbeats 4000000 in
set_option maxRecDepth 100000 in
theorem w_X6_come_48 (V : kV p s mm args meth c cX6_come RX6 3 (some .int) D cI cZ cO) {k : kS} {s1 : Int32} {v2 : Int32} {mo : kS} {H : Heap} {locs : List Loc} {ls : Array Slot} {cells slots mc ms uc us : Nat} {o : (Int32 × kS)} (hH : kHE s H locs D ad cI cZ cO k mo []) (hl : lv_has ls 3 [(0, .ref (ad 7)), (2, .int v2)]) (hf : F_X6_come_48 s1 v2 mo = some (o, uc, us)) (hc : cells + uc = mc) (hs : slots + us = ms) : W p l e (rm_X6_come mc ms) s mm args below meth c H locs cells slots (kGi below args s D cI cZ cO ad o.1 k o.2 mc ms) (F0 mm 48 ls [.int s1, .ref (ad 7)]) := by
  have hx := V.1
  have hb := V.2.1
  refine lv_aload_n hx hb dX6_come_48 rfl (lv_at hl 0 rfl) ?_
  refine kg_X6_19 V hH dX6_come_49 ?_
  refine lv_iconst (v := 0) hx hb dX6_come_52 (by decide) ?_
  obtain ⟨h48_1, hf⟩ := kif hf
  refine kr_iald V hH (q := 11) (by decide) kE_11 h48_1 dX6_come_53 ?_
  refine lv_iload_n hx hb dX6_come_54 rfl (lv_at hl 1 rfl) ?_
  refine lv_isub hx hb dX6_come_55 ?_
  refine lv_iconst (v := (-1)) hx hb dX6_come_56 (by decide) ?_
  refine lv_iconst (v := (-1)) hx hb dX6_come_57 (by decide) ?_
  obtain ⟨x48_2, hx48_2, hf⟩ := kbind hf
  obtain ⟨uc48_3, us48_4, hf, e1, e2⟩ := kadd_some2 hf
  have e1 : uc = x48_2.2.1 + uc48_3 := e1
  have e2 : us = x48_2.2.2 + us48_4 := e2
  have hc : cells + x48_2.2.1 + uc48_3 = mc := by rw [Nat.add_assoc, ← e1]; exact hc
  have hs : slots + x48_2.2.2 + us48_4 = ms := by rw [Nat.add_assoc, ← e2]; exact hs
  have lc : cells + x48_2.2.1 ≤ mc := Nat.le.intro hc
  have ls2 : slots + x48_2.2.2 ≤ ms := Nat.le.intro hs
  refine kr_calli hH (kr_runV (as := [.int s1, .int ((mo 11 (0 : Int32).toNatClampNeg) - v2), .int (-1), .int (-1)]) (rest := []) (pl := 7) V hH kYX6_person kl_X6_59 (c_X6_person l _ _ _ _ hx48_2 _) rfl rfl ⟨Nat.le_of_ble_eq_true rfl, Nat.le_of_ble_eq_true rfl⟩ (by decide) kE_7 rfl rfl hl.1 (Nat.le_of_ble_eq_true rfl) dX6_come_58 ⟨lc, ls2⟩ rfl) (fun H locs hH => ?_)
  exact w_X6_come_61 V hH (lv_sub hl [] rfl) hf hc hs
set_option maxHeartbeats 4000000 in
set_option maxRecDepth 100000 in
theorem w_X6_come_43 (V : kV p s mm args meth c cX6_come RX6 3 (some .int) D cI cZ cO) {k : kS} {v2 : Int32} {mo : kS} {H : Heap} {locs : List Loc} {ls : Array Slot} {cells slots mc ms uc us : Nat} {o : (Int32 × kS)} (hH : kHE s H locs D ad cI cZ cO k mo []) (hl : lv_has ls 3 [(0, .ref (ad 7)), (2, .int v2)]) (hf : F_X6_come_43 v2 mo = some (o, uc, us)) (hc : cells + uc = mc) (hs : slots + us = ms) : W p l e (rm_X6_come mc ms) s mm args below meth c H locs cells slots (kGi below args s D cI cZ cO ad o.1 k o.2 mc ms) (F0 mm 43 ls [.ref (ad 7)]) := by
  have hx := V.1
  have hb := V.2.1
  refine lv_iconst (v := 1) hx hb dX6_come_43 (by decide) ?_
  refine lv_goto (tgt := 48) hx hb dX6_come_44 (by decide) ?_
  exact w_X6_come_48 V hH (lv_sub hl [0, 1] rfl) hf hc hs
set_option maxHeartbeats 4000000 in
set_option maxRecDepth 100000 in
theorem w_X6_come_47 (V : kV p s mm args meth c cX6_come RX6 3 (some .int) D cI cZ cO) {k : kS} {v2 : Int32} {mo : kS} {H : Heap} {locs : List Loc} {ls : Array Slot} {cells slots mc ms uc us : Nat} {o : (Int32 × kS)} (hH : kHE s H locs D ad cI cZ cO k mo []) (hl : lv_has ls 3 [(0, .ref (ad 7)), (2, .int v2)]) (hf : F_X6_come_47 v2 mo = some (o, uc, us)) (hc : cells + uc = mc) (hs : slots + us = ms) : W p l e (rm_X6_come mc ms) s mm args below meth c H locs cells slots (kGi below args s D cI cZ cO ad o.1 k o.2 mc ms) (F0 mm 47 ls [.ref (ad 7)]) := by
  have hx := V.1
  have hb := V.2.1
  refine lv_iconst (v := 0) hx hb dX6_come_47 (by decide) ?_
  exact w_X6_come_48 V hH (lv_sub hl [0, 1] rfl) hf hc hs
set_option maxHeartbeats 4000000 in
set_option maxRecDepth 100000 in
theorem w_X6_come_38 (V : kV p s mm args meth c cX6_come RX6 3 (some .int) D cI cZ cO) {k : kS} {v1 : Int32} {v2 : Int32} {mo : kS} {H : Heap} {locs : List Loc} {ls : Array Slot} {cells slots mc ms uc us : Nat} {o : (Int32 × kS)} (hH : kHE s H locs D ad cI cZ cO k mo []) (hl : lv_has ls 3 [(0, .ref (ad 7)), (1, .int v1), (2, .int v2)]) (hf : F_X6_come_38 v1 v2 mo = some (o, uc, us)) (hc : cells + uc = mc) (hs : slots + us = ms) : W p l e (rm_X6_come mc ms) s mm args below meth c H locs cells slots (kGi below args s D cI cZ cO ad o.1 k o.2 mc ms) (F0 mm 38 ls []) := by
  have hx := V.1
  have hb := V.2.1
  refine lv_aload_n hx hb dX6_come_38 rfl (lv_at hl 0 rfl) ?_
  refine lv_iload_n hx hb dX6_come_39 rfl (lv_at hl 1 rfl) ?_
  refine lv_if_eq (tgt := 47) hx hb dX6_come_40 (by decide) (fun hq => ?_) (fun hq => ?_)
  · have hf := kpos hq hf
    exact w_X6_come_47 V hH (lv_sub hl [0, 2] rfl) hf hc hs
  · have hf := kneg hq hf
    exact w_X6_come_43 V hH (lv_sub hl [0, 2] rfl) hf hc hs
set_option maxHeartbeats 4000000 in
set_option maxRecDepth 100000 in
theorem w_X6_come_21 (V : kV p s mm args meth c cX6_come RX6 3 (some .int) D cI cZ cO) {k : kS} {v1 : Int32} {v2 : Int32} {mo : kS} {H : Heap} {locs : List Loc} {ls : Array Slot} {cells slots mc ms uc us : Nat} {o : (Int32 × kS)} (hH : kHE s H locs D ad cI cZ cO k mo []) (hl : lv_has ls 3 [(0, .ref (ad 7)), (1, .int v1), (2, .int v2)]) (hf : F_X6_come_21 v1 v2 mo = some (o, uc, us)) (hc : cells + uc = mc) (hs : slots + us = ms) : W p l e (rm_X6_come mc ms) s mm args below meth c H locs cells slots (kGi below args s D cI cZ cO ad o.1 k o.2 mc ms) (F0 mm 21 ls []) := by
  have hx := V.1
  have hb := V.2.1
  refine lv_aload_n hx hb dX6_come_21 rfl (lv_at hl 0 rfl) ?_
  refine kg_X6_35 V hH dX6_come_22 ?_
  refine lv_bipush (v := 40) hx hb dX6_come_25 (by decide) ?_
  refine lv_icmp_ne (tgt := 38) hx hb dX6_come_27 (by decide) (fun hq => ?_) (fun hq => ?_)
  · have hf := kneg hq hf
    exact w_X6_come_38 V hH (lv_sub hl [0, 1, 2] rfl) hf hc hs
  · have hf := kpos hq hf
    exact w_X6_come_30 V hH (lv_sub hl [0] rfl) hf hc hs
set_option maxHeartbeats 4000000 in
set_option maxRecDepth 100000 in
theorem w_X6_come_0 (V : kV p s mm args meth c cX6_come RX6 3 (some .int) D cI cZ cO) {k : kS} {v1 : Int32} {v2 : Int32} {mo : kS} {H : Heap} {locs : List Loc} {ls : Array Slot} {cells slots mc ms uc us : Nat} {o : (Int32 × kS)} (hH : kHE s H locs D ad cI cZ cO k mo []) (hl : lv_has ls 3 [(0, .ref (ad 7)), (1, .int v1), (2, .int v2)]) (hf : F_X6_come_0 v1 v2 mo = some (o, uc, us)) (hc : cells + uc = mc) (hs : slots + us = ms) : W p l e (rm_X6_come mc ms) s mm args below meth c H locs cells slots (kGi below args s D cI cZ cO ad o.1 k o.2 mc ms) (F0 mm 0 ls []) := by
  have hx := V.1
  have hb := V.2.1
  refine lv_aload_n hx hb dX6_come_0 rfl (lv_at hl 0 rfl) ?_
  refine lv_iconst (v := 0) hx hb dX6_come_1 (by decide) ?_
  refine kp_X6_31 V hH dX6_come_2 (fun H locs hH => ?_)
  refine lv_iload_n hx hb dX6_come_5 rfl (lv_at hl 2 rfl) ?_
  refine lv_iconst (v := 0) hx hb dX6_come_6 (by decide) ?_
  refine lv_bipush (v := 60) hx hb dX6_come_7 (by decide) ?_
  obtain ⟨x0_1, hx0_1, hf⟩ := kbind hf
  refine kr_calli0 hH (kr_runS (as := [.int v2, .int 0, .int 60]) (rest := []) V hH kYX6_isIn kl_X6_38 (c_X6_isIn l _ _ _ hx0_1 _) rfl rfl ⟨Nat.le_of_ble_eq_true rfl, Nat.le_of_ble_eq_true rfl⟩ rfl hl.1 (Nat.le_of_ble_eq_true rfl) dX6_come_9 ⟨by show cells + 0 ≤ mc; omega, by show slots + 0 ≤ ms; omega⟩ rfl) (fun H locs hH => ?_)
  refine lv_if_ne (tgt := 21) hx hb dX6_come_12 (by decide) (fun hq => ?_) (fun hq => ?_)
  · have hf := kneg hq hf
    exact w_X6_come_21 V hH (lv_sub hl [0, 1, 2] rfl) hf hc hs
  · have hf := kpos hq hf
    exact w_X6_come_15 V hH (lv_sub hl [0] rfl) hf hc hs
set_option maxHeartbeats 4000000 in
set_option maxRecDepth 100000 in
theorem c_X6_come (l : Launch) {D : va_G} {cI cZ cO : ClassId} {ad : Nat → Nat} {k mo : kS} (v1 : Int32) (v2 : Int32) {o : (Int32 × kS)} {mc ms : Nat} (hf : F_X6_come v1 v2 mo = some (o, mc, ms)) (sz : Nat) : Met l yX6_come (Cond.code yX6_come cX6_come 3 (some .int) :: kWA) (rm_X6_come mc ms) (kP [.ref (ad 7), .int v1, .int v2] D cI cZ cO ad (kE ad cI cZ cO k mo) sz) (kQi o.1 D cI cZ cO ad (kE ad cI cZ cO k o.2) sz) mc ms (fA ad sz) := by
  refine kr_met (as := [.ref (ad 7), .int v1, .int v2]) (bytes := cX6_come) (maxL := 3) (rt := (some .int)) (Qc := fun sz => kQi o.1 D cI cZ cO ad (kE ad cI cZ cO k o.2) sz) (lv := [(0, .ref (ad 7)), (1, .int v1), (2, .int v2)]) (by decide +kernel) (Nat.le_of_ble_eq_true rfl) rfl (fun p e s mm below meth c ls V hH hl => ?_) sz
  exact w_X6_come_0 V hH (lv_sub hl [0, 1, 2] rfl) hf (Nat.zero_add _) (Nat.zero_add _)
end
section
variable {p : Program} {l : Launch} {e : Env} {s : State} {mm : MethodId} {args : Array Value} {below : List Frame} {meth : Method} {c : Code} {D : va_G} {cI cZ cO : ClassId} {ad : Nat → Nat}
abbrev rm_X6_bear (mc ms : Nat) : Room := { frames := 2, cells := mc, slots := ms, locals := 65 }
set_option maxHeartbeats 4000000 in
set_option maxRecDepth 100000 in
theorem w_X6_bear_13 (V : kV p s mm args meth c cX6_bear RX6 3 (some .int) D cI cZ cO) {k : kS} {mo : kS} {H : Heap} {locs : List Loc} {ls : Array Slot} {cells slots mc ms uc us : Nat} {o : (Int32 × kS)} (hH : kHE s H locs D ad cI cZ cO k mo []) (hl : lv_has ls 3 [(0, .ref (ad 7))]) (hf : F_X6_bear_13 mo = some (o, uc, us)) (hc : cells + uc = mc) (hs : slots + us = ms) : W p l e (rm_X6_bear mc ms) s mm args below meth c H locs cells slots (kGi below args s D cI cZ cO ad o.1 k o.2 mc ms) (F0 mm 13 ls []) := by
  have hx := V.1
  have hb := V.2.1
  refine lv_aload_n hx hb dX6_bear_13 rfl (lv_at hl 0 rfl) ?_
  refine lv_iconst (v := 1) hx hb dX6_bear_14 (by decide) ?_
  obtain ⟨x13_1, hx13_1, hf⟩ := kbind hf
  refine kr_calli0 hH (kr_runV (as := [.int 1]) (rest := []) (pl := 7) V hH kYX6_fail kl_X6_55 (c_X6_fail l _ hx13_1 _) rfl rfl ⟨Nat.le_of_ble_eq_true rfl, Nat.le_of_ble_eq_true rfl⟩ (by decide) kE_7 rfl rfl hl.1 (Nat.le_of_ble_eq_true rfl) dX6_bear_15 ⟨by show cells + 0 ≤ mc; omega, by show slots + 0 ≤ ms; omega⟩ rfl) (fun H locs hH => ?_)
  cases hf
  subst hc
  subst hs
  exact kr_iret V hH dX6_bear_18
set_option maxHeartbeats 4000000 in
set_option maxRecDepth 100000 in
theorem w_X6_bear_56 (V : kV p s mm args meth c cX6_bear RX6 3 (some .int) D cI cZ cO) {k : kS} {mo : kS} {H : Heap} {locs : List Loc} {ls : Array Slot} {cells slots mc ms uc us : Nat} {o : (Int32 × kS)} (hH : kHE s H locs D ad cI cZ cO k mo []) (hl : lv_has ls 3 [(0, .ref (ad 7))]) (hf : F_X6_bear_56 mo = some (o, uc, us)) (hc : cells + uc = mc) (hs : slots + us = ms) : W p l e (rm_X6_bear mc ms) s mm args below meth c H locs cells slots (kGi below args s D cI cZ cO ad o.1 k o.2 mc ms) (F0 mm 56 ls []) := by
  have hx := V.1
  have hb := V.2.1
  refine lv_aload_n hx hb dX6_bear_56 rfl (lv_at hl 0 rfl) ?_
  refine lv_iconst (v := 2) hx hb dX6_bear_57 (by decide) ?_
  obtain ⟨x56_1, hx56_1, hf⟩ := kbind hf
  refine kr_calli0 hH (kr_runV (as := [.int 2]) (rest := []) (pl := 7) V hH kYX6_fail kl_X6_55 (c_X6_fail l _ hx56_1 _) rfl rfl ⟨Nat.le_of_ble_eq_true rfl, Nat.le_of_ble_eq_true rfl⟩ (by decide) kE_7 rfl rfl hl.1 (Nat.le_of_ble_eq_true rfl) dX6_bear_58 ⟨by show cells + 0 ≤ mc; omega, by show slots + 0 ≤ ms; omega⟩ rfl) (fun H locs hH => ?_)
  cases hf
  subst hc
  subst hs
  exact kr_iret V hH dX6_bear_61
set_option maxHeartbeats 4000000 in
set_option maxRecDepth 100000 in
theorem w_X6_bear_72 (V : kV p s mm args meth c cX6_bear RX6 3 (some .int) D cI cZ cO) {k : kS} {s1 : Int32} {v1 : Int32} {mo : kS} {H : Heap} {locs : List Loc} {ls : Array Slot} {cells slots mc ms uc us : Nat} {o : (Int32 × kS)} (hH : kHE s H locs D ad cI cZ cO k mo []) (hl : lv_has ls 3 [(0, .ref (ad 7)), (1, .int v1)]) (hf : F_X6_bear_72 s1 v1 mo = some (o, uc, us)) (hc : cells + uc = mc) (hs : slots + us = ms) : W p l e (rm_X6_bear mc ms) s mm args below meth c H locs cells slots (kGi below args s D cI cZ cO ad o.1 k o.2 mc ms) (F0 mm 72 ls [.int s1, .ref (ad 7)]) := by
  have hx := V.1
  have hb := V.2.1
  refine lv_aload_n hx hb dX6_bear_72 rfl (lv_at hl 0 rfl) ?_
  refine kg_X6_19 V hH dX6_bear_73 ?_
  refine lv_iconst (v := 0) hx hb dX6_bear_76 (by decide) ?_
  obtain ⟨h72_1, hf⟩ := kif hf
  refine kr_iald V hH (q := 11) (by decide) kE_11 h72_1 dX6_bear_77 ?_
  refine lv_iload_n hx hb dX6_bear_78 rfl (lv_at hl 1 rfl) ?_
  refine lv_aload_n hx hb dX6_bear_79 rfl (lv_at hl 0 rfl) ?_
  refine lv_iload_n hx hb dX6_bear_80 rfl (lv_at hl 1 rfl) ?_
  refine lv_iconst (v := 5) hx hb dX6_bear_81 (by decide) ?_
  obtain ⟨x72_2, hx72_2, hf⟩ := kbind hf
  refine kr_calli0 hH (kr_runV (as := [.int v1, .int 5]) (rest := [.int v1, .int (mo 11 (0 : Int32).toNatClampNeg), .int s1, .ref (ad 7)]) (pl := 7) V hH kYX6_pe kl_X6_45 (c_X6_pe l _ _ hx72_2 _) rfl rfl ⟨Nat.le_of_ble_eq_true rfl, Nat.le_of_ble_eq_true rfl⟩ (by decide) kE_7 rfl rfl hl.1 (Nat.le_of_ble_eq_true rfl) dX6_bear_82 ⟨by show cells + 0 ≤ mc; omega, by show slots + 0 ≤ ms; omega⟩ rfl) (fun H locs hH => ?_)
  obtain ⟨x72_3, hx72_3, hf⟩ := kbind hf
  obtain ⟨uc72_4, us72_5, hf, e1, e2⟩ := kadd_some2 hf
  have e1 : uc = x72_3.2.1 + uc72_4 := e1
  have e2 : us = x72_3.2.2 + us72_5 := e2
  have hc : cells + x72_3.2.1 + uc72_4 = mc := by rw [Nat.add_assoc, ← e1]; exact hc
  have hs : slots + x72_3.2.2 + us72_5 = ms := by rw [Nat.add_assoc, ← e2]; exact hs
  have lc : cells + x72_3.2.1 ≤ mc := Nat.le.intro hc
  have ls2 : slots + x72_3.2.2 ≤ ms := Nat.le.intro hs
  refine kr_calli hH (kr_runV (as := [.int s1, .int (mo 11 (0 : Int32).toNatClampNeg), .int v1, .int x72_2]) (rest := []) (pl := 7) V hH kYX6_person kl_X6_59 (c_X6_person l _ _ _ _ hx72_3 _) rfl rfl ⟨Nat.le_of_ble_eq_true rfl, Nat.le_of_ble_eq_true rfl⟩ (by decide) kE_7 rfl rfl hl.1 (Nat.le_of_ble_eq_true rfl) dX6_bear_85 ⟨lc, ls2⟩ rfl) (fun H locs hH => ?_)
  cases hf
  subst hc
  subst hs
  exact kr_iret V hH dX6_bear_88
set_option maxHeartbeats 4000000 in
set_option maxRecDepth 100000 in
theorem w_X6_bear_67 (V : kV p s mm args meth c cX6_bear RX6 3 (some .int) D cI cZ cO) {k : kS} {v1 : Int32} {mo : kS} {H : Heap} {locs : List Loc} {ls : Array Slot} {cells slots mc ms uc us : Nat} {o : (Int32 × kS)} (hH : kHE s H locs D ad cI cZ cO k mo []) (hl : lv_has ls 3 [(0, .ref (ad 7)), (1, .int v1)]) (hf : F_X6_bear_67 v1 mo = some (o, uc, us)) (hc : cells + uc = mc) (hs : slots + us = ms) : W p l e (rm_X6_bear mc ms) s mm args below meth c H locs cells slots (kGi below args s D cI cZ cO ad o.1 k o.2 mc ms) (F0 mm 67 ls [.ref (ad 7)]) := by
  have hx := V.1
  have hb := V.2.1
  refine lv_iconst (v := 1) hx hb dX6_bear_67 (by decide) ?_
  refine lv_goto (tgt := 72) hx hb dX6_bear_68 (by decide) ?_
  exact w_X6_bear_72 V hH (lv_sub hl [0, 1] rfl) hf hc hs
set_option maxHeartbeats 4000000 in
set_option maxRecDepth 100000 in
theorem w_X6_bear_71 (V : kV p s mm args meth c cX6_bear RX6 3 (some .int) D cI cZ cO) {k : kS} {v1 : Int32} {mo : kS} {H : Heap} {locs : List Loc} {ls : Array Slot} {cells slots mc ms uc us : Nat} {o : (Int32 × kS)} (hH : kHE s H locs D ad cI cZ cO k mo []) (hl : lv_has ls 3 [(0, .ref (ad 7)), (1, .int v1)]) (hf : F_X6_bear_71 v1 mo = some (o, uc, us)) (hc : cells + uc = mc) (hs : slots + us = ms) : W p l e (rm_X6_bear mc ms) s mm args below meth c H locs cells slots (kGi below args s D cI cZ cO ad o.1 k o.2 mc ms) (F0 mm 71 ls [.ref (ad 7)]) := by
  have hx := V.1
  have hb := V.2.1
  refine lv_iconst (v := 0) hx hb dX6_bear_71 (by decide) ?_
  exact w_X6_bear_72 V hH (lv_sub hl [0, 1] rfl) hf hc hs
set_option maxHeartbeats 4000000 in
set_option maxRecDepth 100000 in
theorem w_X6_bear_62 (V : kV p s mm args meth c cX6_bear RX6 3 (some .int) D cI cZ cO) {k : kS} {v1 : Int32} {v2 : Int32} {mo : kS} {H : Heap} {locs : List Loc} {ls : Array Slot} {cells slots mc ms uc us : Nat} {o : (Int32 × kS)} (hH : kHE s H locs D ad cI cZ cO k mo []) (hl : lv_has ls 3 [(0, .ref (ad 7)), (1, .int v1), (2, .int v2)]) (hf : F_X6_bear_62 v1 v2 mo = some (o, uc, us)) (hc : cells + uc = mc) (hs : slots + us = ms) : W p l e (rm_X6_bear mc ms) s mm args below meth c H locs cells slots (kGi below args s D cI cZ cO ad o.1 k o.2 mc ms) (F0 mm 62 ls []) := by
  have hx := V.1
  have hb := V.2.1
  refine lv_aload_n hx hb dX6_bear_62 rfl (lv_at hl 0 rfl) ?_
  refine lv_iload_n hx hb dX6_bear_63 rfl (lv_at hl 2 rfl) ?_
  refine lv_if_eq (tgt := 71) hx hb dX6_bear_64 (by decide) (fun hq => ?_) (fun hq => ?_)
  · have hf := kpos hq hf
    exact w_X6_bear_71 V hH (lv_sub hl [0, 1] rfl) hf hc hs
  · have hf := kneg hq hf
    exact w_X6_bear_67 V hH (lv_sub hl [0, 1] rfl) hf hc hs
set_option maxHeartbeats 4000000 in
set_option maxRecDepth 100000 in
theorem w_X6_bear_47 (V : kV p s mm args meth c cX6_bear RX6 3 (some .int) D cI cZ cO) {k : kS} {v1 : Int32} {v2 : Int32} {mo : kS} {H : Heap} {locs : List Loc} {ls : Array Slot} {cells slots mc ms uc us : Nat} {o : (Int32 × kS)} (hH : kHE s H locs D ad cI cZ cO k mo []) (hl : lv_has ls 3 [(0, .ref (ad 7)), (1, .int v1), (2, .int v2)]) (hf : F_X6_bear_47 v1 v2 mo = some (o, uc, us)) (hc : cells + uc = mc) (hs : slots + us = ms) : W p l e (rm_X6_bear mc ms) s mm args below meth c H locs cells slots (kGi below args s D cI cZ cO ad o.1 k o.2 mc ms) (F0 mm 47 ls []) := by
  have hx := V.1
  have hb := V.2.1
  refine lv_aload_n hx hb dX6_bear_47 rfl (lv_at hl 0 rfl) ?_
  refine kg_X6_35 V hH dX6_bear_48 ?_
  refine lv_bipush (v := 40) hx hb dX6_bear_51 (by decide) ?_
  refine lv_icmp_ne (tgt := 62) hx hb dX6_bear_53 (by decide) (fun hq => ?_) (fun hq => ?_)
  · have hf := kneg hq hf
    exact w_X6_bear_62 V hH (lv_sub hl [0, 1, 2] rfl) hf hc hs
  · have hf := kpos hq hf
    exact w_X6_bear_56 V hH (lv_sub hl [0] rfl) hf hc hs
set_option maxHeartbeats 4000000 in
set_option maxRecDepth 100000 in
theorem w_X6_bear_39 (V : kV p s mm args meth c cX6_bear RX6 3 (some .int) D cI cZ cO) {k : kS} {v1 : Int32} {v2 : Int32} {mo : kS} {H : Heap} {locs : List Loc} {ls : Array Slot} {cells slots mc ms uc us : Nat} {o : (Int32 × kS)} (hH : kHE s H locs D ad cI cZ cO k mo []) (hl : lv_has ls 3 [(0, .ref (ad 7)), (1, .int v1), (2, .int v2)]) (hf : F_X6_bear_39 v1 v2 mo = some (o, uc, us)) (hc : cells + uc = mc) (hs : slots + us = ms) : W p l e (rm_X6_bear mc ms) s mm args below meth c H locs cells slots (kGi below args s D cI cZ cO ad o.1 k o.2 mc ms) (F0 mm 39 ls []) := by
  have hx := V.1
  have hb := V.2.1
  refine lv_aload_n hx hb dX6_bear_39 rfl (lv_at hl 0 rfl) ?_
  refine lv_iload_n hx hb dX6_bear_40 rfl (lv_at hl 1 rfl) ?_
  obtain ⟨x39_1, hx39_1, hf⟩ := kbind hf
  refine kr_calli0 hH (kr_runV (as := [.int v1]) (rest := []) (pl := 7) V hH kYX6_lives kl_X6_67 (c_X6_lives l _ hx39_1 _) rfl rfl ⟨Nat.le_of_ble_eq_true rfl, Nat.le_of_ble_eq_true rfl⟩ (by decide) kE_7 rfl rfl hl.1 (Nat.le_of_ble_eq_true rfl) dX6_bear_41 ⟨by show cells + 0 ≤ mc; omega, by show slots + 0 ≤ ms; omega⟩ rfl) (fun H locs hH => ?_)
  refine lv_if_eq (tgt := 56) hx hb dX6_bear_44 (by decide) (fun hq => ?_) (fun hq => ?_)
  · have hf := kpos hq hf
    exact w_X6_bear_56 V hH (lv_sub hl [0] rfl) hf hc hs
  · have hf := kneg hq hf
    exact w_X6_bear_47 V hH (lv_sub hl [0, 1, 2] rfl) hf hc hs
set_option maxHeartbeats 4000000 in
set_option maxRecDepth 100000 in
theorem w_X6_bear_29 (V : kV p s mm args meth c cX6_bear RX6 3 (some .int) D cI cZ cO) {k : kS} {v1 : Int32} {v2 : Int32} {mo : kS} {H : Heap} {locs : List Loc} {ls : Array Slot} {cells slots mc ms uc us : Nat} {o : (Int32 × kS)} (hH : kHE s H locs D ad cI cZ cO k mo []) (hl : lv_has ls 3 [(0, .ref (ad 7)), (1, .int v1), (2, .int v2)]) (hf : F_X6_bear_29 v1 v2 mo = some (o, uc, us)) (hc : cells + uc = mc) (hs : slots + us = ms) : W p l e (rm_X6_bear mc ms) s mm args below meth c H locs cells slots (kGi below args s D cI cZ cO ad o.1 k o.2 mc ms) (F0 mm 29 ls []) := by
  have hx := V.1
  have hb := V.2.1
  refine lv_aload_n hx hb dX6_bear_29 rfl (lv_at hl 0 rfl) ?_
  refine lv_iload_n hx hb dX6_bear_30 rfl (lv_at hl 1 rfl) ?_
  refine lv_iconst (v := 5) hx hb dX6_bear_31 (by decide) ?_
  obtain ⟨x29_1, hx29_1, hf⟩ := kbind hf
  refine kr_calli0 hH (kr_runV (as := [.int v1, .int 5]) (rest := []) (pl := 7) V hH kYX6_pe kl_X6_45 (c_X6_pe l _ _ hx29_1 _) rfl rfl ⟨Nat.le_of_ble_eq_true rfl, Nat.le_of_ble_eq_true rfl⟩ (by decide) kE_7 rfl rfl hl.1 (Nat.le_of_ble_eq_true rfl) dX6_bear_32 ⟨by show cells + 0 ≤ mc; omega, by show slots + 0 ≤ ms; omega⟩ rfl) (fun H locs hH => ?_)
  refine lv_iconst (v := (-1)) hx hb dX6_bear_35 (by decide) ?_
  refine lv_icmp_eq (tgt := 56) hx hb dX6_bear_36 (by decide) (fun hq => ?_) (fun hq => ?_)
  · have hf := kpos hq hf
    exact w_X6_bear_56 V hH (lv_sub hl [0] rfl) hf hc hs
  · have hf := kneg hq hf
    exact w_X6_bear_39 V hH (lv_sub hl [0, 1, 2] rfl) hf hc hs
set_option maxHeartbeats 4000000 in
set_option maxRecDepth 100000 in
theorem w_X6_bear_19 (V : kV p s mm args meth c cX6_bear RX6 3 (some .int) D cI cZ cO) {k : kS} {v1 : Int32} {v2 : Int32} {mo : kS} {H : Heap} {locs : List Loc} {ls : Array Slot} {cells slots mc ms uc us : Nat} {o : (Int32 × kS)} (hH : kHE s H locs D ad cI cZ cO k mo []) (hl : lv_has ls 3 [(0, .ref (ad 7)), (1, .int v1), (2, .int v2)]) (hf : F_X6_bear_19 v1 v2 mo = some (o, uc, us)) (hc : cells + uc = mc) (hs : slots + us = ms) : W p l e (rm_X6_bear mc ms) s mm args below meth c H locs cells slots (kGi below args s D cI cZ cO ad o.1 k o.2 mc ms) (F0 mm 19 ls []) := by
  have hx := V.1
  have hb := V.2.1
  refine lv_aload_n hx hb dX6_bear_19 rfl (lv_at hl 0 rfl) ?_
  refine lv_iload_n hx hb dX6_bear_20 rfl (lv_at hl 1 rfl) ?_
  refine lv_iconst (v := 0) hx hb dX6_bear_21 (by decide) ?_
  obtain ⟨x19_1, hx19_1, hf⟩ := kbind hf
  refine kr_calli0 hH (kr_runV (as := [.int v1, .int 0]) (rest := []) (pl := 7) V hH kYX6_pe kl_X6_45 (c_X6_pe l _ _ hx19_1 _) rfl rfl ⟨Nat.le_of_ble_eq_true rfl, Nat.le_of_ble_eq_true rfl⟩ (by decide) kE_7 rfl rfl hl.1 (Nat.le_of_ble_eq_true rfl) dX6_bear_22 ⟨by show cells + 0 ≤ mc; omega, by show slots + 0 ≤ ms; omega⟩ rfl) (fun H locs hH => ?_)
  refine lv_iconst (v := 1) hx hb dX6_bear_25 (by decide) ?_
  refine lv_icmp_eq (tgt := 56) hx hb dX6_bear_26 (by decide) (fun hq => ?_) (fun hq => ?_)
  · have hf := kpos hq hf
    exact w_X6_bear_56 V hH (lv_sub hl [0] rfl) hf hc hs
  · have hf := kneg hq hf
    exact w_X6_bear_29 V hH (lv_sub hl [0, 1, 2] rfl) hf hc hs
set_option maxHeartbeats 4000000 in
set_option maxRecDepth 100000 in
theorem w_X6_bear_0 (V : kV p s mm args meth c cX6_bear RX6 3 (some .int) D cI cZ cO) {k : kS} {v1 : Int32} {v2 : Int32} {mo : kS} {H : Heap} {locs : List Loc} {ls : Array Slot} {cells slots mc ms uc us : Nat} {o : (Int32 × kS)} (hH : kHE s H locs D ad cI cZ cO k mo []) (hl : lv_has ls 3 [(0, .ref (ad 7)), (1, .int v1), (2, .int v2)]) (hf : F_X6_bear_0 v1 v2 mo = some (o, uc, us)) (hc : cells + uc = mc) (hs : slots + us = ms) : W p l e (rm_X6_bear mc ms) s mm args below meth c H locs cells slots (kGi below args s D cI cZ cO ad o.1 k o.2 mc ms) (F0 mm 0 ls []) := by
  have hx := V.1
  have hb := V.2.1
  refine lv_aload_n hx hb dX6_bear_0 rfl (lv_at hl 0 rfl) ?_
  refine lv_iconst (v := 0) hx hb dX6_bear_1 (by decide) ?_
  refine kp_X6_31 V hH dX6_bear_2 (fun H locs hH => ?_)
  refine lv_aload_n hx hb dX6_bear_5 rfl (lv_at hl 0 rfl) ?_
  refine lv_iload_n hx hb dX6_bear_6 rfl (lv_at hl 1 rfl) ?_
  obtain ⟨x0_1, hx0_1, hf⟩ := kbind hf
  refine kr_calli0 hH (kr_runV (as := [.int v1]) (rest := []) (pl := 7) V hH kYX6_isPerson kl_X6_63 (c_X6_isPerson l _ hx0_1 _) rfl rfl ⟨Nat.le_of_ble_eq_true rfl, Nat.le_of_ble_eq_true rfl⟩ (by decide) kE_7 rfl rfl hl.1 (Nat.le_of_ble_eq_true rfl) dX6_bear_7 ⟨by show cells + 0 ≤ mc; omega, by show slots + 0 ≤ ms; omega⟩ rfl) (fun H locs hH => ?_)
  refine lv_if_ne (tgt := 19) hx hb dX6_bear_10 (by decide) (fun hq => ?_) (fun hq => ?_)
  · have hf := kneg hq hf
    exact w_X6_bear_19 V hH (lv_sub hl [0, 1, 2] rfl) hf hc hs
  · have hf := kpos hq hf
    exact w_X6_bear_13 V hH (lv_sub hl [0] rfl) hf hc hs
set_option maxHeartbeats 4000000 in
set_option maxRecDepth 100000 in
theorem c_X6_bear (l : Launch) {D : va_G} {cI cZ cO : ClassId} {ad : Nat → Nat} {k mo : kS} (v1 : Int32) (v2 : Int32) {o : (Int32 × kS)} {mc ms : Nat} (hf : F_X6_bear v1 v2 mo = some (o, mc, ms)) (sz : Nat) : Met l yX6_bear (Cond.code yX6_bear cX6_bear 3 (some .int) :: kWA) (rm_X6_bear mc ms) (kP [.ref (ad 7), .int v1, .int v2] D cI cZ cO ad (kE ad cI cZ cO k mo) sz) (kQi o.1 D cI cZ cO ad (kE ad cI cZ cO k o.2) sz) mc ms (fA ad sz) := by
  refine kr_met (as := [.ref (ad 7), .int v1, .int v2]) (bytes := cX6_bear) (maxL := 3) (rt := (some .int)) (Qc := fun sz => kQi o.1 D cI cZ cO ad (kE ad cI cZ cO k o.2) sz) (lv := [(0, .ref (ad 7)), (1, .int v1), (2, .int v2)]) (by decide +kernel) (Nat.le_of_ble_eq_true rfl) rfl (fun p e s mm below meth c ls V hH hl => ?_) sz
  exact w_X6_bear_0 V hH (lv_sub hl [0, 1, 2] rfl) hf (Nat.zero_add _) (Nat.zero_add _)
end
section
variable {p : Program} {l : Launch} {e : Env} {s : State} {mm : MethodId} {args : Array Value} {below : List Frame} {meth : Method} {c : Code} {D : va_G} {cI cZ cO : ClassId} {ad : Nat → Nat}
abbrev rm_X6_found (mc ms : Nat) : Room := { frames := 2, cells := mc, slots := ms, locals := 62 }
set_option maxHeartbeats 4000000 in
set_option maxRecDepth 100000 in
theorem w_X6_found_24 (V : kV p s mm args meth c cX6_found RX6 5 (some .int) D cI cZ cO) {k : kS} {mo : kS} {H : Heap} {locs : List Loc} {ls : Array Slot} {cells slots mc ms uc us : Nat} {o : (Int32 × kS)} (hH : kHE s H locs D ad cI cZ cO k mo []) (hl : lv_has ls 5 [(0, .ref (ad 7))]) (hf : F_X6_found_24 mo = some (o, uc, us)) (hc : cells + uc = mc) (hs : slots + us = ms) : W p l e (rm_X6_found mc ms) s mm args below meth c H locs cells slots (kGi below args s D cI cZ cO ad o.1 k o.2 mc ms) (F0 mm 24 ls []) := by
  have hx := V.1
  have hb := V.2.1
  refine lv_aload_n hx hb dX6_found_24 rfl (lv_at hl 0 rfl) ?_
  refine lv_iconst (v := 1) hx hb dX6_found_25 (by decide) ?_
  obtain ⟨x24_1, hx24_1, hf⟩ := kbind hf
  refine kr_calli0 hH (kr_runV (as := [.int 1]) (rest := []) (pl := 7) V hH kYX6_fail kl_X6_55 (c_X6_fail l _ hx24_1 _) rfl rfl ⟨Nat.le_of_ble_eq_true rfl, Nat.le_of_ble_eq_true rfl⟩ (by decide) kE_7 rfl rfl hl.1 (Nat.le_of_ble_eq_true rfl) dX6_found_26 ⟨by show cells + 0 ≤ mc; omega, by show slots + 0 ≤ ms; omega⟩ rfl) (fun H locs hH => ?_)
  cases hf
  subst hc
  subst hs
  exact kr_iret V hH dX6_found_29
set_option maxHeartbeats 4000000 in
set_option maxRecDepth 100000 in
theorem w_X6_found_43 (V : kV p s mm args meth c cX6_found RX6 5 (some .int) D cI cZ cO) {k : kS} {mo : kS} {H : Heap} {locs : List Loc} {ls : Array Slot} {cells slots mc ms uc us : Nat} {o : (Int32 × kS)} (hH : kHE s H locs D ad cI cZ cO k mo []) (hl : lv_has ls 5 [(0, .ref (ad 7))]) (hf : F_X6_found_43 mo = some (o, uc, us)) (hc : cells + uc = mc) (hs : slots + us = ms) : W p l e (rm_X6_found mc ms) s mm args below meth c H locs cells slots (kGi below args s D cI cZ cO ad o.1 k o.2 mc ms) (F0 mm 43 ls []) := by
  have hx := V.1
  have hb := V.2.1
  refine lv_aload_n hx hb dX6_found_43 rfl (lv_at hl 0 rfl) ?_
  refine lv_iconst (v := 2) hx hb dX6_found_44 (by decide) ?_
  obtain ⟨x43_1, hx43_1, hf⟩ := kbind hf
  refine kr_calli0 hH (kr_runV (as := [.int 2]) (rest := []) (pl := 7) V hH kYX6_fail kl_X6_55 (c_X6_fail l _ hx43_1 _) rfl rfl ⟨Nat.le_of_ble_eq_true rfl, Nat.le_of_ble_eq_true rfl⟩ (by decide) kE_7 rfl rfl hl.1 (Nat.le_of_ble_eq_true rfl) dX6_found_45 ⟨by show cells + 0 ≤ mc; omega, by show slots + 0 ≤ ms; omega⟩ rfl) (fun H locs hH => ?_)
  cases hf
  subst hc
  subst hs
  exact kr_iret V hH dX6_found_48
set_option maxHeartbeats 4000000 in
set_option maxRecDepth 100000 in
theorem w_X6_found_71 (V : kV p s mm args meth c cX6_found RX6 5 (some .int) D cI cZ cO) {k : kS} {mo : kS} {H : Heap} {locs : List Loc} {ls : Array Slot} {cells slots mc ms uc us : Nat} {o : (Int32 × kS)} (hH : kHE s H locs D ad cI cZ cO k mo []) (hl : lv_has ls 5 [(0, .ref (ad 7))]) (hf : F_X6_found_71 mo = some (o, uc, us)) (hc : cells + uc = mc) (hs : slots + us = ms) : W p l e (rm_X6_found mc ms) s mm args below meth c H locs cells slots (kGi below args s D cI cZ cO ad o.1 k o.2 mc ms) (F0 mm 71 ls []) := by
  have hx := V.1
  have hb := V.2.1
  refine lv_aload_n hx hb dX6_found_71 rfl (lv_at hl 0 rfl) ?_
  refine lv_iconst (v := 3) hx hb dX6_found_72 (by decide) ?_
  obtain ⟨x71_1, hx71_1, hf⟩ := kbind hf
  refine kr_calli0 hH (kr_runV (as := [.int 3]) (rest := []) (pl := 7) V hH kYX6_fail kl_X6_55 (c_X6_fail l _ hx71_1 _) rfl rfl ⟨Nat.le_of_ble_eq_true rfl, Nat.le_of_ble_eq_true rfl⟩ (by decide) kE_7 rfl rfl hl.1 (Nat.le_of_ble_eq_true rfl) dX6_found_73 ⟨by show cells + 0 ≤ mc; omega, by show slots + 0 ≤ ms; omega⟩ rfl) (fun H locs hH => ?_)
  cases hf
  subst hc
  subst hs
  exact kr_iret V hH dX6_found_76
set_option maxHeartbeats 4000000 in
set_option maxRecDepth 100000 in
theorem w_X6_found_77 (V : kV p s mm args meth c cX6_found RX6 5 (some .int) D cI cZ cO) {k : kS} {v1 : Int32} {v2 : Int32} {v3 : Int32} {mo : kS} {H : Heap} {locs : List Loc} {ls : Array Slot} {cells slots mc ms uc us : Nat} {o : (Int32 × kS)} (hH : kHE s H locs D ad cI cZ cO k mo []) (hl : lv_has ls 5 [(0, .ref (ad 7)), (1, .int v1), (2, .int v2), (3, .int v3)]) (hf : F_X6_found_77 v1 v2 v3 mo = some (o, uc, us)) (hc : cells + uc = mc) (hs : slots + us = ms) : W p l e (rm_X6_found mc ms) s mm args below meth c H locs cells slots (kGi below args s D cI cZ cO ad o.1 k o.2 mc ms) (F0 mm 77 ls []) := by
  have hx := V.1
  have hb := V.2.1
  refine lv_iconst (v := 4) hx hb dX6_found_77 (by decide) ?_
  obtain ⟨uc77_1, us77_2, hf, e1, e2⟩ := kadd_some2 hf
  have e1 : uc = 1 + uc77_1 := e1
  have e2 : us = 4 + us77_2 := e2
  have hc : cells + 1 + uc77_1 = mc := by rw [Nat.add_assoc, ← e1]; exact hc
  have hs : slots + 4 + us77_2 = ms := by rw [Nat.add_assoc, ← e2]; exact hs
  have lc : cells + 1 ≤ mc := Nat.le.intro hc
  have ls2 : slots + 4 ≤ ms := Nat.le.intro hs
  refine kx_newa V hH (N := 4) (by decide) (by decide) (by decide) lc ls2 dX6_found_78 (fun xq H hH => ?_)
  refine lv_dup hx hb dX6_found_80 rfl ?_
  refine lv_iconst (v := 0) hx hb dX6_found_81 (by decide) ?_
  refine lv_iload_n hx hb dX6_found_82 rfl (lv_at hl 1 rfl) ?_
  obtain ⟨h77_3, hf⟩ := kif hf
  refine kx_iast V hH h77_3 dX6_found_83 (fun H locs hH => ?_)
  refine lv_dup hx hb dX6_found_84 rfl ?_
  refine lv_iconst (v := 1) hx hb dX6_found_85 (by decide) ?_
  refine lv_iload_n hx hb dX6_found_86 rfl (lv_at hl 2 rfl) ?_
  obtain ⟨h77_4, hf⟩ := kif hf
  refine kx_iast V hH h77_4 dX6_found_87 (fun H locs hH => ?_)
  refine lv_dup hx hb dX6_found_88 rfl ?_
  refine lv_iconst (v := 2) hx hb dX6_found_89 (by decide) ?_
  refine lv_iconst (v := (-1)) hx hb dX6_found_90 (by decide) ?_
  obtain ⟨h77_5, hf⟩ := kif hf
  refine kx_iast V hH h77_5 dX6_found_91 (fun H locs hH => ?_)
  refine lv_dup hx hb dX6_found_92 rfl ?_
  refine lv_iconst (v := 3) hx hb dX6_found_93 (by decide) ?_
  refine lv_iconst (v := 0) hx hb dX6_found_94 (by decide) ?_
  obtain ⟨h77_6, hf⟩ := kif hf
  refine kx_iast V hH h77_6 dX6_found_95 (fun H locs hH => ?_)
  refine lv_astore (lv' := [(4, .ref xq), (0, .ref (ad 7)), (1, .int v1), (2, .int v2), (3, .int v3)]) hx hb dX6_found_96 hl (by decide) rfl (fun ls hl => ?_)
  refine lv_aload hx hb dX6_found_98 (lv_at hl 0 rfl) ?_
  refine lv_iconst (v := 0) hx hb dX6_found_100 (by decide) ?_
  refine lv_aload_n hx hb dX6_found_101 rfl (lv_at hl 1 rfl) ?_
  refine kg_X6_13 V hH dX6_found_102 ?_
  refine lv_iconst (v := 4) hx hb dX6_found_105 (by decide) ?_
  refine lv_aload_n hx hb dX6_found_106 rfl (lv_at hl 1 rfl) ?_
  refine kg_X6_42 V hH dX6_found_107 ?_
  refine lv_imul hx hb dX6_found_110 ?_
  refine lv_iconst (v := 4) hx hb dX6_found_111 (by decide) ?_
  obtain ⟨h77_7, hf⟩ := kif hf
  refine kx_copy V hH hl.1 kl_X6_49 (q := 9) (by decide) (fun _ => kE_9) h77_7 (Nat.le_of_ble_eq_true rfl) (Nat.le_of_ble_eq_true rfl) dX6_found_112 (fun H locs hH => ?_)
  refine lv_aload_n hx hb dX6_found_115 rfl (lv_at hl 1 rfl) ?_
  refine lv_aload_n hx hb dX6_found_116 rfl (lv_at hl 1 rfl) ?_
  refine kg_X6_42 V hH dX6_found_117 ?_
  refine lv_iload_n hx hb dX6_found_120 rfl (lv_at hl 4 rfl) ?_
  obtain ⟨x77_8, hx77_8, hf⟩ := kbind hf
  refine kr_callv0 hH (kr_runV (as := [.int ((kst mo 9 (va_cpy (upd (upd (upd (upd (fun _ => 0) (0 : Int32).toNatClampNeg v1) (1 : Int32).toNatClampNeg v2) (2 : Int32).toNatClampNeg (-1)) (3 : Int32).toNatClampNeg 0) (mo 9) (0 : Int32).toNatClampNeg (4 * (mo 7 2)).toNatClampNeg (4 : Int32).toNatClampNeg)) 7 2), .int v3]) (rest := []) (pl := 7) V hH kYX6_rule kl_X6_70 (c_X6_rule l _ _ hx77_8 _) rfl rfl ⟨Nat.le_of_ble_eq_true rfl, Nat.le_of_ble_eq_true rfl⟩ (by decide) kE_7 rfl rfl hl.1 (Nat.le_of_ble_eq_true rfl) dX6_found_121 ⟨by show cells + 1 + 0 ≤ mc; omega, by show slots + 4 + 0 ≤ ms; omega⟩ rfl) (fun H locs hH => ?_)
  refine lv_aload_n hx hb dX6_found_124 rfl (lv_at hl 1 rfl) ?_
  refine lv_dup hx hb dX6_found_125 rfl ?_
  refine kg_X6_42 V hH dX6_found_126 ?_
  refine lv_iconst (v := 1) hx hb dX6_found_129 (by decide) ?_
  refine lv_iadd hx hb dX6_found_130 ?_
  refine kp_X6_42 V hH dX6_found_131 (fun H locs hH => ?_)
  refine lv_aload_n hx hb dX6_found_134 rfl (lv_at hl 1 rfl) ?_
  refine kg_X6_42 V hH dX6_found_135 ?_
  refine lv_iconst (v := 1) hx hb dX6_found_138 (by decide) ?_
  refine lv_isub hx hb dX6_found_139 ?_
  cases hf
  subst hc
  subst hs
  exact kr_iret V hH dX6_found_140
set_option maxHeartbeats 4000000 in
set_option maxRecDepth 100000 in
theorem w_X6_found_63 (V : kV p s mm args meth c cX6_found RX6 5 (some .int) D cI cZ cO) {k : kS} {v1 : Int32} {v2 : Int32} {v3 : Int32} {mo : kS} {H : Heap} {locs : List Loc} {ls : Array Slot} {cells slots mc ms uc us : Nat} {o : (Int32 × kS)} (hH : kHE s H locs D ad cI cZ cO k mo []) (hl : lv_has ls 5 [(0, .ref (ad 7)), (1, .int v1), (2, .int v2), (3, .int v3)]) (hf : F_X6_found_63 v1 v2 v3 mo = some (o, uc, us)) (hc : cells + uc = mc) (hs : slots + us = ms) : W p l e (rm_X6_found mc ms) s mm args below meth c H locs cells slots (kGi below args s D cI cZ cO ad o.1 k o.2 mc ms) (F0 mm 63 ls []) := by
  have hx := V.1
  have hb := V.2.1
  refine lv_aload_n hx hb dX6_found_63 rfl (lv_at hl 0 rfl) ?_
  refine lv_iload_n hx hb dX6_found_64 rfl (lv_at hl 3 rfl) ?_
  obtain ⟨x63_1, hx63_1, hf⟩ := kbind hf
  refine kr_calli0 hH (kr_runV (as := [.int v3]) (rest := []) (pl := 7) V hH kYX6_lives kl_X6_67 (c_X6_lives l _ hx63_1 _) rfl rfl ⟨Nat.le_of_ble_eq_true rfl, Nat.le_of_ble_eq_true rfl⟩ (by decide) kE_7 rfl rfl hl.1 (Nat.le_of_ble_eq_true rfl) dX6_found_65 ⟨by show cells + 0 ≤ mc; omega, by show slots + 0 ≤ ms; omega⟩ rfl) (fun H locs hH => ?_)
  refine lv_if_ne (tgt := 77) hx hb dX6_found_68 (by decide) (fun hq => ?_) (fun hq => ?_)
  · have hf := kneg hq hf
    exact w_X6_found_77 V hH (lv_sub hl [0, 1, 2, 3] rfl) hf hc hs
  · have hf := kpos hq hf
    exact w_X6_found_71 V hH (lv_sub hl [0] rfl) hf hc hs
set_option maxHeartbeats 4000000 in
set_option maxRecDepth 100000 in
theorem w_X6_found_58 (V : kV p s mm args meth c cX6_found RX6 5 (some .int) D cI cZ cO) {k : kS} {v1 : Int32} {v2 : Int32} {v3 : Int32} {mo : kS} {H : Heap} {locs : List Loc} {ls : Array Slot} {cells slots mc ms uc us : Nat} {o : (Int32 × kS)} (hH : kHE s H locs D ad cI cZ cO k mo []) (hl : lv_has ls 5 [(0, .ref (ad 7)), (1, .int v1), (2, .int v2), (3, .int v3)]) (hf : F_X6_found_58 v1 v2 v3 mo = some (o, uc, us)) (hc : cells + uc = mc) (hs : slots + us = ms) : W p l e (rm_X6_found mc ms) s mm args below meth c H locs cells slots (kGi below args s D cI cZ cO ad o.1 k o.2 mc ms) (F0 mm 58 ls []) := by
  have hx := V.1
  have hb := V.2.1
  refine lv_iload_n hx hb dX6_found_58 rfl (lv_at hl 3 rfl) ?_
  refine lv_iconst (v := (-1)) hx hb dX6_found_59 (by decide) ?_
  refine lv_icmp_eq (tgt := 77) hx hb dX6_found_60 (by decide) (fun hq => ?_) (fun hq => ?_)
  · have hf := kpos hq hf
    exact w_X6_found_77 V hH (lv_sub hl [0, 1, 2, 3] rfl) hf hc hs
  · have hf := kneg hq hf
    exact w_X6_found_63 V hH (lv_sub hl [0, 1, 2, 3] rfl) hf hc hs
set_option maxHeartbeats 4000000 in
set_option maxRecDepth 100000 in
theorem w_X6_found_49 (V : kV p s mm args meth c cX6_found RX6 5 (some .int) D cI cZ cO) {k : kS} {v1 : Int32} {v2 : Int32} {v3 : Int32} {mo : kS} {H : Heap} {locs : List Loc} {ls : Array Slot} {cells slots mc ms uc us : Nat} {o : (Int32 × kS)} (hH : kHE s H locs D ad cI cZ cO k mo []) (hl : lv_has ls 5 [(0, .ref (ad 7)), (1, .int v1), (2, .int v2), (3, .int v3)]) (hf : F_X6_found_49 v1 v2 v3 mo = some (o, uc, us)) (hc : cells + uc = mc) (hs : slots + us = ms) : W p l e (rm_X6_found mc ms) s mm args below meth c H locs cells slots (kGi below args s D cI cZ cO ad o.1 k o.2 mc ms) (F0 mm 49 ls []) := by
  have hx := V.1
  have hb := V.2.1
  refine lv_aload_n hx hb dX6_found_49 rfl (lv_at hl 0 rfl) ?_
  refine kg_X6_42 V hH dX6_found_50 ?_
  refine lv_bipush (v := 12) hx hb dX6_found_53 (by decide) ?_
  refine lv_icmp_eq (tgt := 71) hx hb dX6_found_55 (by decide) (fun hq => ?_) (fun hq => ?_)
  · have hf := kpos hq hf
    exact w_X6_found_71 V hH (lv_sub hl [0] rfl) hf hc hs
  · have hf := kneg hq hf
    exact w_X6_found_58 V hH (lv_sub hl [0, 1, 2, 3] rfl) hf hc hs
set_option maxHeartbeats 4000000 in
set_option maxRecDepth 100000 in
theorem w_X6_found_35 (V : kV p s mm args meth c cX6_found RX6 5 (some .int) D cI cZ cO) {k : kS} {v1 : Int32} {v2 : Int32} {v3 : Int32} {mo : kS} {H : Heap} {locs : List Loc} {ls : Array Slot} {cells slots mc ms uc us : Nat} {o : (Int32 × kS)} (hH : kHE s H locs D ad cI cZ cO k mo []) (hl : lv_has ls 5 [(0, .ref (ad 7)), (1, .int v1), (2, .int v2), (3, .int v3)]) (hf : F_X6_found_35 v1 v2 v3 mo = some (o, uc, us)) (hc : cells + uc = mc) (hs : slots + us = ms) : W p l e (rm_X6_found mc ms) s mm args below meth c H locs cells slots (kGi below args s D cI cZ cO ad o.1 k o.2 mc ms) (F0 mm 35 ls []) := by
  have hx := V.1
  have hb := V.2.1
  refine lv_aload_n hx hb dX6_found_35 rfl (lv_at hl 0 rfl) ?_
  refine lv_iload_n hx hb dX6_found_36 rfl (lv_at hl 3 rfl) ?_
  obtain ⟨x35_1, hx35_1, hf⟩ := kbind hf
  refine kr_calli0 hH (kr_runV (as := [.int v3]) (rest := []) (pl := 7) V hH kYX6_isPerson kl_X6_63 (c_X6_isPerson l _ hx35_1 _) rfl rfl ⟨Nat.le_of_ble_eq_true rfl, Nat.le_of_ble_eq_true rfl⟩ (by decide) kE_7 rfl rfl hl.1 (Nat.le_of_ble_eq_true rfl) dX6_found_37 ⟨by show cells + 0 ≤ mc; omega, by show slots + 0 ≤ ms; omega⟩ rfl) (fun H locs hH => ?_)
  refine lv_if_ne (tgt := 49) hx hb dX6_found_40 (by decide) (fun hq => ?_) (fun hq => ?_)
  · have hf := kneg hq hf
    exact w_X6_found_49 V hH (lv_sub hl [0, 1, 2, 3] rfl) hf hc hs
  · have hf := kpos hq hf
    exact w_X6_found_43 V hH (lv_sub hl [0] rfl) hf hc hs
set_option maxHeartbeats 4000000 in
set_option maxRecDepth 100000 in
theorem w_X6_found_30 (V : kV p s mm args meth c cX6_found RX6 5 (some .int) D cI cZ cO) {k : kS} {v1 : Int32} {v2 : Int32} {v3 : Int32} {mo : kS} {H : Heap} {locs : List Loc} {ls : Array Slot} {cells slots mc ms uc us : Nat} {o : (Int32 × kS)} (hH : kHE s H locs D ad cI cZ cO k mo []) (hl : lv_has ls 5 [(0, .ref (ad 7)), (1, .int v1), (2, .int v2), (3, .int v3)]) (hf : F_X6_found_30 v1 v2 v3 mo = some (o, uc, us)) (hc : cells + uc = mc) (hs : slots + us = ms) : W p l e (rm_X6_found mc ms) s mm args below meth c H locs cells slots (kGi below args s D cI cZ cO ad o.1 k o.2 mc ms) (F0 mm 30 ls []) := by
  have hx := V.1
  have hb := V.2.1
  refine lv_iload_n hx hb dX6_found_30 rfl (lv_at hl 3 rfl) ?_
  refine lv_iconst (v := (-1)) hx hb dX6_found_31 (by decide) ?_
  refine lv_icmp_eq (tgt := 49) hx hb dX6_found_32 (by decide) (fun hq => ?_) (fun hq => ?_)
  · have hf := kpos hq hf
    exact w_X6_found_49 V hH (lv_sub hl [0, 1, 2, 3] rfl) hf hc hs
  · have hf := kneg hq hf
    exact w_X6_found_35 V hH (lv_sub hl [0, 1, 2, 3] rfl) hf hc hs
set_option maxHeartbeats 4000000 in
set_option maxRecDepth 100000 in
theorem w_X6_found_15 (V : kV p s mm args meth c cX6_found RX6 5 (some .int) D cI cZ cO) {k : kS} {v1 : Int32} {v2 : Int32} {v3 : Int32} {mo : kS} {H : Heap} {locs : List Loc} {ls : Array Slot} {cells slots mc ms uc us : Nat} {o : (Int32 × kS)} (hH : kHE s H locs D ad cI cZ cO k mo []) (hl : lv_has ls 5 [(0, .ref (ad 7)), (1, .int v1), (2, .int v2), (3, .int v3)]) (hf : F_X6_found_15 v1 v2 v3 mo = some (o, uc, us)) (hc : cells + uc = mc) (hs : slots + us = ms) : W p l e (rm_X6_found mc ms) s mm args below meth c H locs cells slots (kGi below args s D cI cZ cO ad o.1 k o.2 mc ms) (F0 mm 15 ls []) := by
  have hx := V.1
  have hb := V.2.1
  refine lv_iload_n hx hb dX6_found_15 rfl (lv_at hl 2 rfl) ?_
  refine lv_iconst (v := 0) hx hb dX6_found_16 (by decide) ?_
  refine lv_iconst (v := 3) hx hb dX6_found_17 (by decide) ?_
  obtain ⟨x15_1, hx15_1, hf⟩ := kbind hf
  refine kr_calli0 hH (kr_runS (as := [.int v2, .int 0, .int 3]) (rest := []) V hH kYX6_isIn kl_X6_38 (c_X6_isIn l _ _ _ hx15_1 _) rfl rfl ⟨Nat.le_of_ble_eq_true rfl, Nat.le_of_ble_eq_true rfl⟩ rfl hl.1 (Nat.le_of_ble_eq_true rfl) dX6_found_18 ⟨by show cells + 0 ≤ mc; omega, by show slots + 0 ≤ ms; omega⟩ rfl) (fun H locs hH => ?_)
  refine lv_if_ne (tgt := 30) hx hb dX6_found_21 (by decide) (fun hq => ?_) (fun hq => ?_)
  · have hf := kneg hq hf
    exact w_X6_found_30 V hH (lv_sub hl [0, 1, 2, 3] rfl) hf hc hs
  · have hf := kpos hq hf
    exact w_X6_found_24 V hH (lv_sub hl [0] rfl) hf hc hs
set_option maxHeartbeats 4000000 in
set_option maxRecDepth 100000 in
theorem w_X6_found_0 (V : kV p s mm args meth c cX6_found RX6 5 (some .int) D cI cZ cO) {k : kS} {v1 : Int32} {v2 : Int32} {v3 : Int32} {mo : kS} {H : Heap} {locs : List Loc} {ls : Array Slot} {cells slots mc ms uc us : Nat} {o : (Int32 × kS)} (hH : kHE s H locs D ad cI cZ cO k mo []) (hl : lv_has ls 5 [(0, .ref (ad 7)), (1, .int v1), (2, .int v2), (3, .int v3)]) (hf : F_X6_found_0 v1 v2 v3 mo = some (o, uc, us)) (hc : cells + uc = mc) (hs : slots + us = ms) : W p l e (rm_X6_found mc ms) s mm args below meth c H locs cells slots (kGi below args s D cI cZ cO ad o.1 k o.2 mc ms) (F0 mm 0 ls []) := by
  have hx := V.1
  have hb := V.2.1
  refine lv_aload_n hx hb dX6_found_0 rfl (lv_at hl 0 rfl) ?_
  refine lv_iconst (v := 0) hx hb dX6_found_1 (by decide) ?_
  refine kp_X6_31 V hH dX6_found_2 (fun H locs hH => ?_)
  refine lv_iload_n hx hb dX6_found_5 rfl (lv_at hl 1 rfl) ?_
  refine lv_iconst (v := 1) hx hb dX6_found_6 (by decide) ?_
  refine lv_bipush (v := 50) hx hb dX6_found_7 (by decide) ?_
  obtain ⟨x0_1, hx0_1, hf⟩ := kbind hf
  refine kr_calli0 hH (kr_runS (as := [.int v1, .int 1, .int 50]) (rest := []) V hH kYX6_isIn kl_X6_38 (c_X6_isIn l _ _ _ hx0_1 _) rfl rfl ⟨Nat.le_of_ble_eq_true rfl, Nat.le_of_ble_eq_true rfl⟩ rfl hl.1 (Nat.le_of_ble_eq_true rfl) dX6_found_9 ⟨by show cells + 0 ≤ mc; omega, by show slots + 0 ≤ ms; omega⟩ rfl) (fun H locs hH => ?_)
  refine lv_if_eq (tgt := 24) hx hb dX6_found_12 (by decide) (fun hq => ?_) (fun hq => ?_)
  · have hf := kpos hq hf
    exact w_X6_found_24 V hH (lv_sub hl [0] rfl) hf hc hs
  · have hf := kneg hq hf
    exact w_X6_found_15 V hH (lv_sub hl [0, 1, 2, 3] rfl) hf hc hs
set_option maxHeartbeats 4000000 in
set_option maxRecDepth 100000 in
theorem c_X6_found (l : Launch) {D : va_G} {cI cZ cO : ClassId} {ad : Nat → Nat} {k mo : kS} (v1 : Int32) (v2 : Int32) (v3 : Int32) {o : (Int32 × kS)} {mc ms : Nat} (hf : F_X6_found v1 v2 v3 mo = some (o, mc, ms)) (sz : Nat) : Met l yX6_found (Cond.code yX6_found cX6_found 5 (some .int) :: kWA) (rm_X6_found mc ms) (kP [.ref (ad 7), .int v1, .int v2, .int v3] D cI cZ cO ad (kE ad cI cZ cO k mo) sz) (kQi o.1 D cI cZ cO ad (kE ad cI cZ cO k o.2) sz) mc ms (fA ad sz) := by
  refine kr_met (as := [.ref (ad 7), .int v1, .int v2, .int v3]) (bytes := cX6_found) (maxL := 5) (rt := (some .int)) (Qc := fun sz => kQi o.1 D cI cZ cO ad (kE ad cI cZ cO k o.2) sz) (lv := [(0, .ref (ad 7)), (1, .int v1), (2, .int v2), (3, .int v3)]) (by decide +kernel) (Nat.le_of_ble_eq_true rfl) rfl (fun p e s mm below meth c ls V hH hl => ?_) sz
  exact w_X6_found_0 V hH (lv_sub hl [0, 1, 2, 3] rfl) hf (Nat.zero_add _) (Nat.zero_add _)
end
section
variable {p : Program} {l : Launch} {e : Env} {s : State} {mm : MethodId} {args : Array Value} {below : List Frame} {meth : Method} {c : Code} {D : va_G} {cI cZ cO : ClassId} {ad : Nat → Nat}
abbrev rm_X6_part (mc ms : Nat) : Room := { frames := 1, cells := mc, slots := ms, locals := 23 }
set_option maxHeartbeats 4000000 in
set_option maxRecDepth 100000 in
theorem w_X6_part_12 (V : kV p s mm args meth c cX6_part RX6 7 none D cI cZ cO) {k : kS} {mo : kS} {H : Heap} {locs : List Loc} {ls : Array Slot} {cells slots mc ms uc us : Nat} {o : kS} (hH : kHE s H locs D ad cI cZ cO k mo []) (hl : lv_has ls 7 []) (hf : F_X6_part_12 mo = some (o, uc, us)) (hc : cells + uc = mc) (hs : slots + us = ms) : W p l e (rm_X6_part mc ms) s mm args below meth c H locs cells slots (kGv below args s D cI cZ cO ad k o mc ms) (F0 mm 12 ls []) := by
  have hx := V.1
  have hb := V.2.1
  cases hf
  subst hc
  subst hs
  exact kr_vret V hH dX6_part_12
set_option maxHeartbeats 4000000 in
set_option maxRecDepth 100000 in
theorem w_X6_part_45 (V : kV p s mm args meth c cX6_part RX6 7 none D cI cZ cO) {k : kS} {c38 : Int32 → Int32 → Int32 → Int32 → (Nat → Int32) → kS → Option (kS × Nat × Nat)} (hk38 : ∀ {v1 : Int32} {v2 : Int32} {v4 : Int32} {v5 : Int32} {xq : Nat} {xf : Nat → Int32} {mo : kS} {H : Heap} {locs : List Loc} {ls : Array Slot} {cells slots mc ms uc us : Nat} {o : kS}, kHE s H locs D ad cI cZ cO k mo [(xq, .inl (cI, 3, .inl xf))] → lv_has ls 7 [(0, .ref (ad 7)), (1, .int v1), (2, .int v2), (3, .ref xq), (4, .int v4), (5, .int v5)] → c38 v1 v2 v4 v5 xf mo = some (o, uc, us) → cells + uc = mc → slots + us = ms → W p l e (rm_X6_part mc ms) s mm args below meth c H locs cells slots (kGv below args s D cI cZ cO ad k o mc ms) (F0 mm 38 ls [])) {v1 : Int32} {v2 : Int32} {v4 : Int32} {v5 : Int32} {xq : Nat} {xf : Nat → Int32} {mo : kS} {H : Heap} {locs : List Loc} {ls : Array Slot} {cells slots mc ms uc us : Nat} {o : kS} (hH : kHE s H locs D ad cI cZ cO k mo [(xq, .inl (cI, 3, .inl xf))]) (hl : lv_has ls 7 [(0, .ref (ad 7)), (1, .int v1), (2, .int v2), (3, .ref xq), (4, .int v4), (5, .int v5)]) (hf : F_X6_part_45 c38 v1 v2 v4 v5 xf mo = some (o, uc, us)) (hc : cells + uc = mc) (hs : slots + us = ms) : W p l e (rm_X6_part mc ms) s mm args below meth c H locs cells slots (kGv below args s D cI cZ cO ad k o mc ms) (F0 mm 45 ls []) := by
  have hx := V.1
  have hb := V.2.1
  refine lv_aload_n hx hb dX6_part_45 rfl (lv_at hl 3 rfl) ?_
  refine lv_iload hx hb dX6_part_46 (lv_at hl 5 rfl) ?_
  obtain ⟨h45_1, hf⟩ := kif hf
  refine kx_iald V hH h45_1 dX6_part_48 ?_
  refine lv_istore (lv' := [(6, .int (xf v5.toNatClampNeg)), (0, .ref (ad 7)), (1, .int v1), (2, .int v2), (3, .ref xq), (4, .int v4), (5, .int v5)]) hx hb dX6_part_49 hl (by decide) rfl (fun ls hl => ?_)
  refine lv_aload_n hx hb dX6_part_51 rfl (lv_at hl 1 rfl) ?_
  refine lv_iload_n hx hb dX6_part_52 rfl (lv_at hl 2 rfl) ?_
  refine lv_iload hx hb dX6_part_53 (lv_at hl 0 rfl) ?_
  refine lv_iconst (v := (-1)) hx hb dX6_part_55 (by decide) ?_
  obtain ⟨x45_2, hx45_2, hf⟩ := kbind hf
  refine kr_callv0 hH (kr_runV (as := [.int v1, .int (xf v5.toNatClampNeg), .int (-1)]) (rest := []) (pl := 7) V hH kYX6_set kl_X6_121 (c_X6_set l _ _ _ hx45_2 _) rfl rfl ⟨Nat.le_of_ble_eq_true rfl, Nat.le_of_ble_eq_true rfl⟩ (by decide) kE_7 rfl rfl hl.1 (Nat.le_of_ble_eq_true rfl) dX6_part_56 ⟨by show cells + 0 ≤ mc; omega, by show slots + 0 ≤ ms; omega⟩ rfl) (fun H locs hH => ?_)
  refine lv_aload_n hx hb dX6_part_59 rfl (lv_at hl 1 rfl) ?_
  refine lv_iload_n hx hb dX6_part_60 rfl (lv_at hl 3 rfl) ?_
  refine lv_iload hx hb dX6_part_61 (lv_at hl 0 rfl) ?_
  refine lv_iconst (v := (-1)) hx hb dX6_part_63 (by decide) ?_
  obtain ⟨x45_3, hx45_3, hf⟩ := kbind hf
  refine kr_callv0 hH (kr_runV (as := [.int v2, .int (xf v5.toNatClampNeg), .int (-1)]) (rest := []) (pl := 7) V hH kYX6_set kl_X6_121 (c_X6_set l _ _ _ hx45_3 _) rfl rfl ⟨Nat.le_of_ble_eq_true rfl, Nat.le_of_ble_eq_true rfl⟩ (by decide) kE_7 rfl rfl hl.1 (Nat.le_of_ble_eq_true rfl) dX6_part_64 ⟨by show cells + 0 ≤ mc; omega, by show slots + 0 ≤ ms; omega⟩ rfl) (fun H locs hH => ?_)
  refine lv_iinc (v := (v5 + 1)) (lv' := [(5, .int (v5 + 1)), (6, .int (xf v5.toNatClampNeg)), (0, .ref (ad 7)), (1, .int v1), (2, .int v2), (3, .ref xq), (4, .int v4)]) hx hb dX6_part_67 hl (k := 6) rfl rfl (by decide) rfl (fun ls hl => ?_)
  refine lv_goto (tgt := 38) hx hb dX6_part_70 (by decide) ?_
  exact hk38 hH (lv_sub hl [2, 3, 4, 5, 6, 0] rfl) hf hc hs
set_option maxHeartbeats 4000000 in
set_option maxRecDepth 100000 in
theorem w_X6_part_73 (V : kV p s mm args meth c cX6_part RX6 7 none D cI cZ cO) {k : kS} {mo : kS} {H : Heap} {locs : List Loc} {ls : Array Slot} {cells slots mc ms uc us : Nat} {o : kS} (hH : kHE s H locs D ad cI cZ cO k mo []) (hl : lv_has ls 7 []) (hf : F_X6_part_73 mo = some (o, uc, us)) (hc : cells + uc = mc) (hs : slots + us = ms) : W p l e (rm_X6_part mc ms) s mm args below meth c H locs cells slots (kGv below args s D cI cZ cO ad k o mc ms) (F0 mm 73 ls []) := by
  have hx := V.1
  have hb := V.2.1
  cases hf
  subst hc
  subst hs
  exact kr_vret V hH dX6_part_73
set_option maxHeartbeats 4000000 in
set_option maxRecDepth 100000 in
theorem w_X6_part_38 (V : kV p s mm args meth c cX6_part RX6 7 none D cI cZ cO) {k : kS} : ∀ (n : Nat) {v1 : Int32} {v2 : Int32} {v4 : Int32} {v5 : Int32} {xq : Nat} {xf : Nat → Int32} {mo : kS} {H : Heap} {locs : List Loc} {ls : Array Slot} {cells slots mc ms uc us : Nat} {o : kS}, kHE s H locs D ad cI cZ cO k mo [(xq, .inl (cI, 3, .inl xf))] → lv_has ls 7 [(0, .ref (ad 7)), (1, .int v1), (2, .int v2), (3, .ref xq), (4, .int v4), (5, .int v5)] → F_X6_part_38 n v1 v2 v4 v5 xf mo = some (o, uc, us) → cells + uc = mc → slots + us = ms → W p l e (rm_X6_part mc ms) s mm args below meth c H locs cells slots (kGv below args s D cI cZ cO ad k o mc ms) (F0 mm 38 ls []) := by
  have hx := V.1
  have hb := V.2.1
  intro n
  induction n with
  | zero => intro _ _ _ _ _ _ _ _ _ _ _ _ _ _ _ _ _ hH hl hf hc hs; cases hf
  | succ n hk38 =>
    intro v1 v2 v4 v5 xq xf mo H locs ls cells slots mc ms uc us o hH hl hf hc hs
    refine lv_iload hx hb dX6_part_38 (lv_at hl 5 rfl) ?_
    refine lv_iload hx hb dX6_part_40 (lv_at hl 4 rfl) ?_
    refine lv_icmp_ge (tgt := 73) hx hb dX6_part_42 (by decide) (fun hq => ?_) (fun hq => ?_)
    · have hf := kpos hq hf
      exact w_X6_part_73 V (kH_drop hH) (lv_sub hl [] rfl) hf hc hs
    · have hf := kneg hq hf
      exact w_X6_part_45 V hk38 hH (lv_sub hl [0, 1, 2, 3, 4, 5] rfl) hf hc hs
set_option maxHeartbeats 4000000 in
set_option maxRecDepth 100000 in
theorem w_X6_part_13 (V : kV p s mm args meth c cX6_part RX6 7 none D cI cZ cO) {k : kS} {v1 : Int32} {v2 : Int32} {mo : kS} {H : Heap} {locs : List Loc} {ls : Array Slot} {cells slots mc ms uc us : Nat} {o : kS} (hH : kHE s H locs D ad cI cZ cO k mo []) (hl : lv_has ls 7 [(0, .ref (ad 7)), (1, .int v1), (2, .int v2)]) (hf : F_X6_part_13 v1 v2 mo = some (o, uc, us)) (hc : cells + uc = mc) (hs : slots + us = ms) : W p l e (rm_X6_part mc ms) s mm args below meth c H locs cells slots (kGv below args s D cI cZ cO ad k o mc ms) (F0 mm 13 ls []) := by
  have hx := V.1
  have hb := V.2.1
  refine lv_iconst (v := 3) hx hb dX6_part_13 (by decide) ?_
  obtain ⟨uc13_1, us13_2, hf, e1, e2⟩ := kadd_some2 hf
  have e1 : uc = 1 + uc13_1 := e1
  have e2 : us = 3 + us13_2 := e2
  have hc : cells + 1 + uc13_1 = mc := by rw [Nat.add_assoc, ← e1]; exact hc
  have hs : slots + 3 + us13_2 = ms := by rw [Nat.add_assoc, ← e2]; exact hs
  have lc : cells + 1 ≤ mc := Nat.le.intro hc
  have ls2 : slots + 3 ≤ ms := Nat.le.intro hs
  refine kx_newa V hH (N := 3) (by decide) (by decide) (by decide) lc ls2 dX6_part_14 (fun xq H hH => ?_)
  refine lv_dup hx hb dX6_part_16 rfl ?_
  refine lv_iconst (v := 0) hx hb dX6_part_17 (by decide) ?_
  refine lv_iconst (v := 5) hx hb dX6_part_18 (by decide) ?_
  obtain ⟨h13_3, hf⟩ := kif hf
  refine kx_iast V hH h13_3 dX6_part_19 (fun H locs hH => ?_)
  refine lv_dup hx hb dX6_part_20 rfl ?_
  refine lv_iconst (v := 1) hx hb dX6_part_21 (by decide) ?_
  refine lv_bipush (v := 7) hx hb dX6_part_22 (by decide) ?_
  obtain ⟨h13_4, hf⟩ := kif hf
  refine kx_iast V hH h13_4 dX6_part_24 (fun H locs hH => ?_)
  refine lv_dup hx hb dX6_part_25 rfl ?_
  refine lv_iconst (v := 2) hx hb dX6_part_26 (by decide) ?_
  refine lv_bipush (v := 8) hx hb dX6_part_27 (by decide) ?_
  obtain ⟨h13_5, hf⟩ := kif hf
  refine kx_iast V hH h13_5 dX6_part_29 (fun H locs hH => ?_)
  refine lv_astore_n (lv' := [(3, .ref xq), (0, .ref (ad 7)), (1, .int v1), (2, .int v2)]) hx hb dX6_part_30 rfl hl (by decide) rfl (fun ls hl => ?_)
  refine lv_aload_n hx hb dX6_part_31 rfl (lv_at hl 0 rfl) ?_
  refine kx_alen V hH (v := 3) rfl dX6_part_32 ?_
  refine lv_istore (lv' := [(4, .int 3), (3, .ref xq), (0, .ref (ad 7)), (1, .int v1), (2, .int v2)]) hx hb dX6_part_33 hl (by decide) rfl (fun ls hl => ?_)
  refine lv_iconst (v := 0) hx hb dX6_part_35 (by decide) ?_
  refine lv_istore (lv' := [(5, .int 0), (4, .int 3), (3, .ref xq), (0, .ref (ad 7)), (1, .int v1), (2, .int v2)]) hx hb dX6_part_36 hl (by decide) rfl (fun ls hl => ?_)
  exact w_X6_part_38 V kN hH (lv_sub hl [3, 4, 5, 2, 1, 0] rfl) hf hc hs
set_option maxHeartbeats 4000000 in
set_option maxRecDepth 100000 in
theorem w_X6_part_0 (V : kV p s mm args meth c cX6_part RX6 7 none D cI cZ cO) {k : kS} {v1 : Int32} {mo : kS} {H : Heap} {locs : List Loc} {ls : Array Slot} {cells slots mc ms uc us : Nat} {o : kS} (hH : kHE s H locs D ad cI cZ cO k mo []) (hl : lv_has ls 7 [(0, .ref (ad 7)), (1, .int v1)]) (hf : F_X6_part_0 v1 mo = some (o, uc, us)) (hc : cells + uc = mc) (hs : slots + us = ms) : W p l e (rm_X6_part mc ms) s mm args below meth c H locs cells slots (kGv below args s D cI cZ cO ad k o mc ms) (F0 mm 0 ls []) := by
  have hx := V.1
  have hb := V.2.1
  refine lv_aload_n hx hb dX6_part_0 rfl (lv_at hl 0 rfl) ?_
  refine lv_iload_n hx hb dX6_part_1 rfl (lv_at hl 1 rfl) ?_
  refine lv_iconst (v := 5) hx hb dX6_part_2 (by decide) ?_
  obtain ⟨x0_1, hx0_1, hf⟩ := kbind hf
  refine kr_calli0 hH (kr_runV (as := [.int v1, .int 5]) (rest := []) (pl := 7) V hH kYX6_pe kl_X6_45 (c_X6_pe l _ _ hx0_1 _) rfl rfl ⟨Nat.le_of_ble_eq_true rfl, Nat.le_of_ble_eq_true rfl⟩ (by decide) kE_7 rfl rfl hl.1 (Nat.le_of_ble_eq_true rfl) dX6_part_3 ⟨by show cells + 0 ≤ mc; omega, by show slots + 0 ≤ ms; omega⟩ rfl) (fun H locs hH => ?_)
  refine lv_istore_n (lv' := [(2, .int x0_1), (0, .ref (ad 7)), (1, .int v1)]) hx hb dX6_part_6 rfl hl (by decide) rfl (fun ls hl => ?_)
  refine lv_iload_n hx hb dX6_part_7 rfl (lv_at hl 0 rfl) ?_
  refine lv_iconst (v := (-1)) hx hb dX6_part_8 (by decide) ?_
  refine lv_icmp_ne (tgt := 13) hx hb dX6_part_9 (by decide) (fun hq => ?_) (fun hq => ?_)
  · have hf := kneg hq hf
    exact w_X6_part_13 V hH (lv_sub hl [1, 2, 0] rfl) hf hc hs
  · have hf := kpos hq hf
    exact w_X6_part_12 V hH (lv_sub hl [] rfl) hf hc hs
set_option maxHeartbeats 4000000 in
set_option maxRecDepth 100000 in
theorem c_X6_part (l : Launch) {D : va_G} {cI cZ cO : ClassId} {ad : Nat → Nat} {k mo : kS} (v1 : Int32) {o : kS} {mc ms : Nat} (hf : F_X6_part v1 mo = some (o, mc, ms)) (sz : Nat) : Met l yX6_part (Cond.code yX6_part cX6_part 7 none :: kWA) (rm_X6_part mc ms) (kP [.ref (ad 7), .int v1] D cI cZ cO ad (kE ad cI cZ cO k mo) sz) (kQv D cI cZ cO ad (kE ad cI cZ cO k o) sz) mc ms (fA ad sz) := by
  refine kr_met (as := [.ref (ad 7), .int v1]) (bytes := cX6_part) (maxL := 7) (rt := none) (Qc := fun sz => kQv D cI cZ cO ad (kE ad cI cZ cO k o) sz) (lv := [(0, .ref (ad 7)), (1, .int v1)]) (by decide +kernel) (Nat.le_of_ble_eq_true rfl) rfl (fun p e s mm below meth c ls V hH hl => ?_) sz
  exact w_X6_part_0 V hH (lv_sub hl [0, 1] rfl) hf (Nat.zero_add _) (Nat.zero_add _)
end
section
variable {p : Program} {l : Launch} {e : Env} {s : State} {mm : MethodId} {args : Array Value} {below : List Frame} {meth : Method} {c : Code} {D : va_G} {cI cZ cO : ClassId} {ad : Nat → Nat}
abbrev rm_X6_annul (mc ms : Nat) : Room := { frames := 2, cells := mc, slots := ms, locals := 62 }
set_option maxHeartbeats 4000000 in
set_option maxRecDepth 100000 in
theorem w_X6_annul_13 (V : kV p s mm args meth c cX6_annul RX6 5 (some .int) D cI cZ cO) {k : kS} {mo : kS} {H : Heap} {locs : List Loc} {ls : Array Slot} {cells slots mc ms uc us : Nat} {o : (Int32 × kS)} (hH : kHE s H locs D ad cI cZ cO k mo []) (hl : lv_has ls 5 [(0, .ref (ad 7))]) (hf : F_X6_annul_13 mo = some (o, uc, us)) (hc : cells + uc = mc) (hs : slots + us = ms) : W p l e (rm_X6_annul mc ms) s mm args below meth c H locs cells slots (kGi below args s D cI cZ cO ad o.1 k o.2 mc ms) (F0 mm 13 ls []) := by
  have hx := V.1
  have hb := V.2.1
  refine lv_aload_n hx hb dX6_annul_13 rfl (lv_at hl 0 rfl) ?_
  refine lv_iconst (v := 1) hx hb dX6_annul_14 (by decide) ?_
  obtain ⟨x13_1, hx13_1, hf⟩ := kbind hf
  refine kr_calli0 hH (kr_runV (as := [.int 1]) (rest := []) (pl := 7) V hH kYX6_fail kl_X6_55 (c_X6_fail l _ hx13_1 _) rfl rfl ⟨Nat.le_of_ble_eq_true rfl, Nat.le_of_ble_eq_true rfl⟩ (by decide) kE_7 rfl rfl hl.1 (Nat.le_of_ble_eq_true rfl) dX6_annul_15 ⟨by show cells + 0 ≤ mc; omega, by show slots + 0 ≤ ms; omega⟩ rfl) (fun H locs hH => ?_)
  cases hf
  subst hc
  subst hs
  exact kr_iret V hH dX6_annul_18
set_option maxHeartbeats 4000000 in
set_option maxRecDepth 100000 in
theorem w_X6_annul_31 (V : kV p s mm args meth c cX6_annul RX6 5 (some .int) D cI cZ cO) {k : kS} {mo : kS} {H : Heap} {locs : List Loc} {ls : Array Slot} {cells slots mc ms uc us : Nat} {o : (Int32 × kS)} (hH : kHE s H locs D ad cI cZ cO k mo []) (hl : lv_has ls 5 [(0, .ref (ad 7))]) (hf : F_X6_annul_31 mo = some (o, uc, us)) (hc : cells + uc = mc) (hs : slots + us = ms) : W p l e (rm_X6_annul mc ms) s mm args below meth c H locs cells slots (kGi below args s D cI cZ cO ad o.1 k o.2 mc ms) (F0 mm 31 ls []) := by
  have hx := V.1
  have hb := V.2.1
  refine lv_aload_n hx hb dX6_annul_31 rfl (lv_at hl 0 rfl) ?_
  refine lv_iconst (v := 2) hx hb dX6_annul_32 (by decide) ?_
  obtain ⟨x31_1, hx31_1, hf⟩ := kbind hf
  refine kr_calli0 hH (kr_runV (as := [.int 2]) (rest := []) (pl := 7) V hH kYX6_fail kl_X6_55 (c_X6_fail l _ hx31_1 _) rfl rfl ⟨Nat.le_of_ble_eq_true rfl, Nat.le_of_ble_eq_true rfl⟩ (by decide) kE_7 rfl rfl hl.1 (Nat.le_of_ble_eq_true rfl) dX6_annul_33 ⟨by show cells + 0 ≤ mc; omega, by show slots + 0 ≤ ms; omega⟩ rfl) (fun H locs hH => ?_)
  cases hf
  subst hc
  subst hs
  exact kr_iret V hH dX6_annul_36
set_option maxHeartbeats 4000000 in
set_option maxRecDepth 100000 in
theorem w_X6_annul_79 (V : kV p s mm args meth c cX6_annul RX6 5 (some .int) D cI cZ cO) {k : kS} {mo : kS} {H : Heap} {locs : List Loc} {ls : Array Slot} {cells slots mc ms uc us : Nat} {o : (Int32 × kS)} (hH : kHE s H locs D ad cI cZ cO k mo []) (hl : lv_has ls 5 []) (hf : F_X6_annul_79 mo = some (o, uc, us)) (hc : cells + uc = mc) (hs : slots + us = ms) : W p l e (rm_X6_annul mc ms) s mm args below meth c H locs cells slots (kGi below args s D cI cZ cO ad o.1 k o.2 mc ms) (F0 mm 79 ls []) := by
  have hx := V.1
  have hb := V.2.1
  refine lv_iconst (v := (-1)) hx hb dX6_annul_79 (by decide) ?_
  cases hf
  subst hc
  subst hs
  exact kr_iret V hH dX6_annul_80
set_option maxHeartbeats 4000000 in
set_option maxRecDepth 100000 in
theorem w_X6_annul_81 (V : kV p s mm args meth c cX6_annul RX6 5 (some .int) D cI cZ cO) {k : kS} {v3 : Int32} {v4 : Int32} {mo : kS} {H : Heap} {locs : List Loc} {ls : Array Slot} {cells slots mc ms uc us : Nat} {o : (Int32 × kS)} (hH : kHE s H locs D ad cI cZ cO k mo []) (hl : lv_has ls 5 [(0, .ref (ad 7)), (3, .int v3), (4, .int v4)]) (hf : F_X6_annul_81 v3 v4 mo = some (o, uc, us)) (hc : cells + uc = mc) (hs : slots + us = ms) : W p l e (rm_X6_annul mc ms) s mm args below meth c H locs cells slots (kGi below args s D cI cZ cO ad o.1 k o.2 mc ms) (F0 mm 81 ls []) := by
  have hx := V.1
  have hb := V.2.1
  refine lv_aload_n hx hb dX6_annul_81 rfl (lv_at hl 0 rfl) ?_
  refine lv_iload_n hx hb dX6_annul_82 rfl (lv_at hl 1 rfl) ?_
  refine lv_iload hx hb dX6_annul_83 (lv_at hl 2 rfl) ?_
  obtain ⟨x81_1, hx81_1, hf⟩ := kbind hf
  refine kr_callv0 hH (kr_runV (as := [.int v3, .int v4]) (rest := []) (pl := 7) V hH kYX6_rule kl_X6_70 (c_X6_rule l _ _ hx81_1 _) rfl rfl ⟨Nat.le_of_ble_eq_true rfl, Nat.le_of_ble_eq_true rfl⟩ (by decide) kE_7 rfl rfl hl.1 (Nat.le_of_ble_eq_true rfl) dX6_annul_85 ⟨by show cells + 0 ≤ mc; omega, by show slots + 0 ≤ ms; omega⟩ rfl) (fun H locs hH => ?_)
  refine lv_iload_n hx hb dX6_annul_88 rfl (lv_at hl 1 rfl) ?_
  cases hf
  subst hc
  subst hs
  exact kr_iret V hH dX6_annul_89
set_option maxHeartbeats 4000000 in
set_option maxRecDepth 100000 in
theorem w_X6_annul_64 (V : kV p s mm args meth c cX6_annul RX6 5 (some .int) D cI cZ cO) {k : kS} {v1 : Int32} {v2 : Int32} {v3 : Int32} {v4 : Int32} {mo : kS} {H : Heap} {locs : List Loc} {ls : Array Slot} {cells slots mc ms uc us : Nat} {o : (Int32 × kS)} (hH : kHE s H locs D ad cI cZ cO k mo []) (hl : lv_has ls 5 [(0, .ref (ad 7)), (1, .int v1), (2, .int v2), (3, .int v3), (4, .int v4)]) (hf : F_X6_annul_64 v1 v2 v3 v4 mo = some (o, uc, us)) (hc : cells + uc = mc) (hs : slots + us = ms) : W p l e (rm_X6_annul mc ms) s mm args below meth c H locs cells slots (kGi below args s D cI cZ cO ad o.1 k o.2 mc ms) (F0 mm 64 ls []) := by
  have hx := V.1
  have hb := V.2.1
  refine lv_aload_n hx hb dX6_annul_64 rfl (lv_at hl 0 rfl) ?_
  refine lv_iload_n hx hb dX6_annul_65 rfl (lv_at hl 3 rfl) ?_
  refine lv_iconst (v := 2) hx hb dX6_annul_66 (by decide) ?_
  obtain ⟨x64_1, hx64_1, hf⟩ := kbind hf
  refine kr_calli0 hH (kr_runV (as := [.int v3, .int 2]) (rest := []) (pl := 7) V hH kYX6_la kl_X6_77 (c_X6_la l _ _ hx64_1 _) rfl rfl ⟨Nat.le_of_ble_eq_true rfl, Nat.le_of_ble_eq_true rfl⟩ (by decide) kE_7 rfl rfl hl.1 (Nat.le_of_ble_eq_true rfl) dX6_annul_67 ⟨by show cells + 0 ≤ mc; omega, by show slots + 0 ≤ ms; omega⟩ rfl) (fun H locs hH => ?_)
  refine lv_iload_n hx hb dX6_annul_70 rfl (lv_at hl 1 rfl) ?_
  refine lv_iload_n hx hb dX6_annul_71 rfl (lv_at hl 2 rfl) ?_
  refine lv_iadd hx hb dX6_annul_72 ?_
  refine lv_iload hx hb dX6_annul_73 (lv_at hl 4 rfl) ?_
  refine lv_isub hx hb dX6_annul_75 ?_
  refine lv_icmp_eq (tgt := 81) hx hb dX6_annul_76 (by decide) (fun hq => ?_) (fun hq => ?_)
  · have hf := kpos hq hf
    exact w_X6_annul_81 V hH (lv_sub hl [0, 3, 4] rfl) hf hc hs
  · have hf := kneg hq hf
    exact w_X6_annul_79 V hH (lv_sub hl [] rfl) hf hc hs
set_option maxHeartbeats 4000000 in
set_option maxRecDepth 100000 in
theorem w_X6_annul_37 (V : kV p s mm args meth c cX6_annul RX6 5 (some .int) D cI cZ cO) {k : kS} {v1 : Int32} {v2 : Int32} {mo : kS} {H : Heap} {locs : List Loc} {ls : Array Slot} {cells slots mc ms uc us : Nat} {o : (Int32 × kS)} (hH : kHE s H locs D ad cI cZ cO k mo []) (hl : lv_has ls 5 [(0, .ref (ad 7)), (1, .int v1), (2, .int v2)]) (hf : F_X6_annul_37 v1 v2 mo = some (o, uc, us)) (hc : cells + uc = mc) (hs : slots + us = ms) : W p l e (rm_X6_annul mc ms) s mm args below meth c H locs cells slots (kGi below args s D cI cZ cO ad o.1 k o.2 mc ms) (F0 mm 37 ls []) := by
  have hx := V.1
  have hb := V.2.1
  refine lv_aload_n hx hb dX6_annul_37 rfl (lv_at hl 0 rfl) ?_
  refine lv_iload_n hx hb dX6_annul_38 rfl (lv_at hl 1 rfl) ?_
  refine lv_bipush (v := 7) hx hb dX6_annul_39 (by decide) ?_
  obtain ⟨x37_1, hx37_1, hf⟩ := kbind hf
  refine kr_calli0 hH (kr_runV (as := [.int v1, .int 7]) (rest := []) (pl := 7) V hH kYX6_pe kl_X6_45 (c_X6_pe l _ _ hx37_1 _) rfl rfl ⟨Nat.le_of_ble_eq_true rfl, Nat.le_of_ble_eq_true rfl⟩ (by decide) kE_7 rfl rfl hl.1 (Nat.le_of_ble_eq_true rfl) dX6_annul_41 ⟨by show cells + 0 ≤ mc; omega, by show slots + 0 ≤ ms; omega⟩ rfl) (fun H locs hH => ?_)
  refine lv_istore_n (lv' := [(3, .int x37_1), (0, .ref (ad 7)), (1, .int v1), (2, .int v2)]) hx hb dX6_annul_44 rfl hl (by decide) rfl (fun ls hl => ?_)
  refine lv_aload_n hx hb dX6_annul_45 rfl (lv_at hl 1 rfl) ?_
  refine lv_iload_n hx hb dX6_annul_46 rfl (lv_at hl 2 rfl) ?_
  refine lv_bipush (v := 8) hx hb dX6_annul_47 (by decide) ?_
  obtain ⟨x37_2, hx37_2, hf⟩ := kbind hf
  refine kr_calli0 hH (kr_runV (as := [.int v1, .int 8]) (rest := []) (pl := 7) V hH kYX6_pe kl_X6_45 (c_X6_pe l _ _ hx37_2 _) rfl rfl ⟨Nat.le_of_ble_eq_true rfl, Nat.le_of_ble_eq_true rfl⟩ (by decide) kE_7 rfl rfl hl.1 (Nat.le_of_ble_eq_true rfl) dX6_annul_49 ⟨by show cells + 0 ≤ mc; omega, by show slots + 0 ≤ ms; omega⟩ rfl) (fun H locs hH => ?_)
  refine lv_istore (lv' := [(4, .int x37_2), (3, .int x37_1), (0, .ref (ad 7)), (1, .int v1), (2, .int v2)]) hx hb dX6_annul_52 hl (by decide) rfl (fun ls hl => ?_)
  refine lv_aload_n hx hb dX6_annul_54 rfl (lv_at hl 2 rfl) ?_
  refine lv_iload_n hx hb dX6_annul_55 rfl (lv_at hl 3 rfl) ?_
  obtain ⟨x37_3, hx37_3, hf⟩ := kbind hf
  obtain ⟨uc37_4, us37_5, hf, e1, e2⟩ := kadd_some2 hf
  have e1 : uc = x37_3.2.1 + uc37_4 := e1
  have e2 : us = x37_3.2.2 + us37_5 := e2
  have hc : cells + x37_3.2.1 + uc37_4 = mc := by rw [Nat.add_assoc, ← e1]; exact hc
  have hs : slots + x37_3.2.2 + us37_5 = ms := by rw [Nat.add_assoc, ← e2]; exact hs
  have lc : cells + x37_3.2.1 ≤ mc := Nat.le.intro hc
  have ls2 : slots + x37_3.2.2 ≤ ms := Nat.le.intro hs
  refine kr_callv hH (kr_runV (as := [.int v1]) (rest := []) (pl := 7) V hH kYX6_part kl_X6_128 (c_X6_part l _ hx37_3 _) rfl rfl ⟨Nat.le_of_ble_eq_true rfl, Nat.le_of_ble_eq_true rfl⟩ (by decide) kE_7 rfl rfl hl.1 (Nat.le_of_ble_eq_true rfl) dX6_annul_56 ⟨lc, ls2⟩ rfl) (fun H locs hH => ?_)
  refine lv_iload_n hx hb dX6_annul_59 rfl (lv_at hl 1 rfl) ?_
  refine lv_iconst (v := (-1)) hx hb dX6_annul_60 (by decide) ?_
  refine lv_icmp_eq (tgt := 79) hx hb dX6_annul_61 (by decide) (fun hq => ?_) (fun hq => ?_)
  · have hf := kpos hq hf
    exact w_X6_annul_79 V hH (lv_sub hl [] rfl) hf hc hs
  · have hf := kneg hq hf
    exact w_X6_annul_64 V hH (lv_sub hl [2, 3, 4, 1, 0] rfl) hf hc hs
set_option maxHeartbeats 4000000 in
set_option maxRecDepth 100000 in
theorem w_X6_annul_19 (V : kV p s mm args meth c cX6_annul RX6 5 (some .int) D cI cZ cO) {k : kS} {v1 : Int32} {mo : kS} {H : Heap} {locs : List Loc} {ls : Array Slot} {cells slots mc ms uc us : Nat} {o : (Int32 × kS)} (hH : kHE s H locs D ad cI cZ cO k mo []) (hl : lv_has ls 5 [(0, .ref (ad 7)), (1, .int v1)]) (hf : F_X6_annul_19 v1 mo = some (o, uc, us)) (hc : cells + uc = mc) (hs : slots + us = ms) : W p l e (rm_X6_annul mc ms) s mm args below meth c H locs cells slots (kGi below args s D cI cZ cO ad o.1 k o.2 mc ms) (F0 mm 19 ls []) := by
  have hx := V.1
  have hb := V.2.1
  refine lv_aload_n hx hb dX6_annul_19 rfl (lv_at hl 0 rfl) ?_
  refine lv_iload_n hx hb dX6_annul_20 rfl (lv_at hl 1 rfl) ?_
  refine lv_iconst (v := 5) hx hb dX6_annul_21 (by decide) ?_
  obtain ⟨x19_1, hx19_1, hf⟩ := kbind hf
  refine kr_calli0 hH (kr_runV (as := [.int v1, .int 5]) (rest := []) (pl := 7) V hH kYX6_pe kl_X6_45 (c_X6_pe l _ _ hx19_1 _) rfl rfl ⟨Nat.le_of_ble_eq_true rfl, Nat.le_of_ble_eq_true rfl⟩ (by decide) kE_7 rfl rfl hl.1 (Nat.le_of_ble_eq_true rfl) dX6_annul_22 ⟨by show cells + 0 ≤ mc; omega, by show slots + 0 ≤ ms; omega⟩ rfl) (fun H locs hH => ?_)
  refine lv_istore_n (lv' := [(2, .int x19_1), (0, .ref (ad 7)), (1, .int v1)]) hx hb dX6_annul_25 rfl hl (by decide) rfl (fun ls hl => ?_)
  refine lv_iload_n hx hb dX6_annul_26 rfl (lv_at hl 0 rfl) ?_
  refine lv_iconst (v := (-1)) hx hb dX6_annul_27 (by decide) ?_
  refine lv_icmp_ne (tgt := 37) hx hb dX6_annul_28 (by decide) (fun hq => ?_) (fun hq => ?_)
  · have hf := kneg hq hf
    exact w_X6_annul_37 V hH (lv_sub hl [1, 2, 0] rfl) hf hc hs
  · have hf := kpos hq hf
    exact w_X6_annul_31 V hH (lv_sub hl [1] rfl) hf hc hs
set_option maxHeartbeats 4000000 in
set_option maxRecDepth 100000 in
theorem w_X6_annul_0 (V : kV p s mm args meth c cX6_annul RX6 5 (some .int) D cI cZ cO) {k : kS} {v1 : Int32} {mo : kS} {H : Heap} {locs : List Loc} {ls : Array Slot} {cells slots mc ms uc us : Nat} {o : (Int32 × kS)} (hH : kHE s H locs D ad cI cZ cO k mo []) (hl : lv_has ls 5 [(0, .ref (ad 7)), (1, .int v1)]) (hf : F_X6_annul_0 v1 mo = some (o, uc, us)) (hc : cells + uc = mc) (hs : slots + us = ms) : W p l e (rm_X6_annul mc ms) s mm args below meth c H locs cells slots (kGi below args s D cI cZ cO ad o.1 k o.2 mc ms) (F0 mm 0 ls []) := by
  have hx := V.1
  have hb := V.2.1
  refine lv_aload_n hx hb dX6_annul_0 rfl (lv_at hl 0 rfl) ?_
  refine lv_iconst (v := 0) hx hb dX6_annul_1 (by decide) ?_
  refine kp_X6_31 V hH dX6_annul_2 (fun H locs hH => ?_)
  refine lv_aload_n hx hb dX6_annul_5 rfl (lv_at hl 0 rfl) ?_
  refine lv_iload_n hx hb dX6_annul_6 rfl (lv_at hl 1 rfl) ?_
  obtain ⟨x0_1, hx0_1, hf⟩ := kbind hf
  refine kr_calli0 hH (kr_runV (as := [.int v1]) (rest := []) (pl := 7) V hH kYX6_isPerson kl_X6_63 (c_X6_isPerson l _ hx0_1 _) rfl rfl ⟨Nat.le_of_ble_eq_true rfl, Nat.le_of_ble_eq_true rfl⟩ (by decide) kE_7 rfl rfl hl.1 (Nat.le_of_ble_eq_true rfl) dX6_annul_7 ⟨by show cells + 0 ≤ mc; omega, by show slots + 0 ≤ ms; omega⟩ rfl) (fun H locs hH => ?_)
  refine lv_if_ne (tgt := 19) hx hb dX6_annul_10 (by decide) (fun hq => ?_) (fun hq => ?_)
  · have hf := kneg hq hf
    exact w_X6_annul_19 V hH (lv_sub hl [0, 1] rfl) hf hc hs
  · have hf := kpos hq hf
    exact w_X6_annul_13 V hH (lv_sub hl [0] rfl) hf hc hs
set_option maxHeartbeats 4000000 in
set_option maxRecDepth 100000 in
theorem c_X6_annul (l : Launch) {D : va_G} {cI cZ cO : ClassId} {ad : Nat → Nat} {k mo : kS} (v1 : Int32) {o : (Int32 × kS)} {mc ms : Nat} (hf : F_X6_annul v1 mo = some (o, mc, ms)) (sz : Nat) : Met l yX6_annul (Cond.code yX6_annul cX6_annul 5 (some .int) :: kWA) (rm_X6_annul mc ms) (kP [.ref (ad 7), .int v1] D cI cZ cO ad (kE ad cI cZ cO k mo) sz) (kQi o.1 D cI cZ cO ad (kE ad cI cZ cO k o.2) sz) mc ms (fA ad sz) := by
  refine kr_met (as := [.ref (ad 7), .int v1]) (bytes := cX6_annul) (maxL := 5) (rt := (some .int)) (Qc := fun sz => kQi o.1 D cI cZ cO ad (kE ad cI cZ cO k o.2) sz) (lv := [(0, .ref (ad 7)), (1, .int v1)]) (by decide +kernel) (Nat.le_of_ble_eq_true rfl) rfl (fun p e s mm below meth c ls V hH hl => ?_) sz
  exact w_X6_annul_0 V hH (lv_sub hl [0, 1] rfl) hf (Nat.zero_add _) (Nat.zero_add _)
end
section
variable {p : Program} {l : Launch} {e : Env} {s : State} {mm : MethodId} {args : Array Value} {below : List Frame} {meth : Method} {c : Code} {D : va_G} {cI cZ cO : ClassId} {ad : Nat → Nat}
abbrev rm_X6_dies (mc ms : Nat) : Room := { frames := 51, cells := mc, slots := ms, locals := 1265 }
set_option maxHeartbeats 4000000 in
set_option maxRecDepth 100000 in
theorem w_X6_dies_42 (V : kV p s mm args meth c cX6_dies RX6 4 (some .int) D cI cZ cO) {k : kS} {c4 : Int32 → Int32 → Int32 → kS → Option ((Int32 × kS) × Nat × Nat)} (hk4 : ∀ {v1 : Int32} {v2 : Int32} {v3 : Int32} {mo : kS} {H : Heap} {locs : List Loc} {ls : Array Slot} {cells slots mc ms uc us : Nat} {o : (Int32 × kS)}, kHE s H locs D ad cI cZ cO k mo [] → lv_has ls 4 [(0, .ref (ad 7)), (1, .int v1), (2, .int v2), (3, .int v3)] → c4 v1 v2 v3 mo = some (o, uc, us) → cells + uc = mc → slots + us = ms → W p l e (rm_X6_dies mc ms) s mm args below meth c H locs cells slots (kGi below args s D cI cZ cO ad o.1 k o.2 mc ms) (F0 mm 4 ls [])) {s1 : Int32} {s2 : Int32} {v1 : Int32} {v2 : Int32} {v3 : Int32} {mo : kS} {H : Heap} {locs : List Loc} {ls : Array Slot} {cells slots mc ms uc us : Nat} {o : (Int32 × kS)} (hH : kHE s H locs D ad cI cZ cO k mo []) (hl : lv_has ls 4 [(0, .ref (ad 7)), (1, .int v1), (2, .int v2), (3, .int v3)]) (hf : F_X6_dies_42 c4 s1 s2 v1 v2 v3 mo = some (o, uc, us)) (hc : cells + uc = mc) (hs : slots + us = ms) : W p l e (rm_X6_dies mc ms) s mm args below meth c H locs cells slots (kGi below args s D cI cZ cO ad o.1 k o.2 mc ms) (F0 mm 42 ls [.int s2, .int s1, .ref (ad 14)]) := by
  have hx := V.1
  have hb := V.2.1
  obtain ⟨h42_1, hf⟩ := kif hf
  refine kr_iastM V hH (q := 14) (by decide) (fun _ => kE_14) h42_1 dX6_dies_42 (fun H locs hH => ?_)
  refine lv_iinc (v := (v3 + 1)) (lv' := [(3, .int (v3 + 1)), (0, .ref (ad 7)), (1, .int v1), (2, .int v2)]) hx hb dX6_dies_43 hl (k := 3) rfl rfl (by decide) rfl (fun ls hl => ?_)
  refine lv_goto (tgt := 4) hx hb dX6_dies_46 (by decide) ?_
  exact hk4 hH (lv_sub hl [1, 2, 3, 0] rfl) hf hc hs
set_option maxHeartbeats 4000000 in
set_option maxRecDepth 100000 in
theorem w_X6_dies_27 (V : kV p s mm args meth c cX6_dies RX6 4 (some .int) D cI cZ cO) {k : kS} {c4 : Int32 → Int32 → Int32 → kS → Option ((Int32 × kS) × Nat × Nat)} (hk4 : ∀ {v1 : Int32} {v2 : Int32} {v3 : Int32} {mo : kS} {H : Heap} {locs : List Loc} {ls : Array Slot} {cells slots mc ms uc us : Nat} {o : (Int32 × kS)}, kHE s H locs D ad cI cZ cO k mo [] → lv_has ls 4 [(0, .ref (ad 7)), (1, .int v1), (2, .int v2), (3, .int v3)] → c4 v1 v2 v3 mo = some (o, uc, us) → cells + uc = mc → slots + us = ms → W p l e (rm_X6_dies mc ms) s mm args below meth c H locs cells slots (kGi below args s D cI cZ cO ad o.1 k o.2 mc ms) (F0 mm 4 ls [])) {s1 : Int32} {v1 : Int32} {v2 : Int32} {v3 : Int32} {mo : kS} {H : Heap} {locs : List Loc} {ls : Array Slot} {cells slots mc ms uc us : Nat} {o : (Int32 × kS)} (hH : kHE s H locs D ad cI cZ cO k mo []) (hl : lv_has ls 4 [(0, .ref (ad 7)), (1, .int v1), (2, .int v2), (3, .int v3)]) (hf : F_X6_dies_27 c4 s1 v1 v2 v3 mo = some (o, uc, us)) (hc : cells + uc = mc) (hs : slots + us = ms) : W p l e (rm_X6_dies mc ms) s mm args below meth c H locs cells slots (kGi below args s D cI cZ cO ad o.1 k o.2 mc ms) (F0 mm 27 ls [.int s1, .ref (ad 14)]) := by
  have hx := V.1
  have hb := V.2.1
  refine lv_aload_n hx hb dX6_dies_27 rfl (lv_at hl 0 rfl) ?_
  refine lv_iload_n hx hb dX6_dies_28 rfl (lv_at hl 1 rfl) ?_
  refine lv_aload_n hx hb dX6_dies_29 rfl (lv_at hl 0 rfl) ?_
  refine lv_iload_n hx hb dX6_dies_30 rfl (lv_at hl 3 rfl) ?_
  refine lv_iconst (v := 1) hx hb dX6_dies_31 (by decide) ?_
  obtain ⟨x27_1, hx27_1, hf⟩ := kbind hf
  refine kr_calli0 hH (kr_runV (as := [.int v3, .int 1]) (rest := [.int v1, .ref (ad 7), .int s1, .ref (ad 14)]) (pl := 7) V hH kYX6_la kl_X6_77 (c_X6_la l _ _ hx27_1 _) rfl rfl ⟨Nat.le_of_ble_eq_true rfl, Nat.le_of_ble_eq_true rfl⟩ (by decide) kE_7 rfl rfl hl.1 (Nat.le_of_ble_eq_true rfl) dX6_dies_32 ⟨by show cells + 0 ≤ mc; omega, by show slots + 0 ≤ ms; omega⟩ rfl) (fun H locs hH => ?_)
  obtain ⟨x27_2, hx27_2, hf⟩ := kbind hf
  refine kr_calli0 hH (kr_runV (as := [.int v1, .int x27_1]) (rest := [.int s1, .ref (ad 14)]) (pl := 7) V hH kYX6_heir kl_X6_132 (c_X6_heir l _ _ hx27_2 _) rfl rfl ⟨Nat.le_of_ble_eq_true rfl, Nat.le_of_ble_eq_true rfl⟩ (by decide) kE_7 rfl rfl hl.1 (Nat.le_of_ble_eq_true rfl) dX6_dies_35 ⟨by show cells + 0 ≤ mc; omega, by show slots + 0 ≤ ms; omega⟩ rfl) (fun H locs hH => ?_)
  refine lv_goto (tgt := 42) hx hb dX6_dies_38 (by decide) ?_
  exact w_X6_dies_42 V hk4 hH (lv_sub hl [0, 1, 2, 3] rfl) hf hc hs
set_option maxHeartbeats 4000000 in
set_option maxRecDepth 100000 in
theorem w_X6_dies_41 (V : kV p s mm args meth c cX6_dies RX6 4 (some .int) D cI cZ cO) {k : kS} {c4 : Int32 → Int32 → Int32 → kS → Option ((Int32 × kS) × Nat × Nat)} (hk4 : ∀ {v1 : Int32} {v2 : Int32} {v3 : Int32} {mo : kS} {H : Heap} {locs : List Loc} {ls : Array Slot} {cells slots mc ms uc us : Nat} {o : (Int32 × kS)}, kHE s H locs D ad cI cZ cO k mo [] → lv_has ls 4 [(0, .ref (ad 7)), (1, .int v1), (2, .int v2), (3, .int v3)] → c4 v1 v2 v3 mo = some (o, uc, us) → cells + uc = mc → slots + us = ms → W p l e (rm_X6_dies mc ms) s mm args below meth c H locs cells slots (kGi below args s D cI cZ cO ad o.1 k o.2 mc ms) (F0 mm 4 ls [])) {s1 : Int32} {v1 : Int32} {v2 : Int32} {v3 : Int32} {mo : kS} {H : Heap} {locs : List Loc} {ls : Array Slot} {cells slots mc ms uc us : Nat} {o : (Int32 × kS)} (hH : kHE s H locs D ad cI cZ cO k mo []) (hl : lv_has ls 4 [(0, .ref (ad 7)), (1, .int v1), (2, .int v2), (3, .int v3)]) (hf : F_X6_dies_41 c4 s1 v1 v2 v3 mo = some (o, uc, us)) (hc : cells + uc = mc) (hs : slots + us = ms) : W p l e (rm_X6_dies mc ms) s mm args below meth c H locs cells slots (kGi below args s D cI cZ cO ad o.1 k o.2 mc ms) (F0 mm 41 ls [.int s1, .ref (ad 14)]) := by
  have hx := V.1
  have hb := V.2.1
  refine lv_iconst (v := (-1)) hx hb dX6_dies_41 (by decide) ?_
  exact w_X6_dies_42 V hk4 hH (lv_sub hl [0, 1, 2, 3] rfl) hf hc hs
set_option maxHeartbeats 4000000 in
set_option maxRecDepth 100000 in
theorem w_X6_dies_12 (V : kV p s mm args meth c cX6_dies RX6 4 (some .int) D cI cZ cO) {k : kS} {c4 : Int32 → Int32 → Int32 → kS → Option ((Int32 × kS) × Nat × Nat)} (hk4 : ∀ {v1 : Int32} {v2 : Int32} {v3 : Int32} {mo : kS} {H : Heap} {locs : List Loc} {ls : Array Slot} {cells slots mc ms uc us : Nat} {o : (Int32 × kS)}, kHE s H locs D ad cI cZ cO k mo [] → lv_has ls 4 [(0, .ref (ad 7)), (1, .int v1), (2, .int v2), (3, .int v3)] → c4 v1 v2 v3 mo = some (o, uc, us) → cells + uc = mc → slots + us = ms → W p l e (rm_X6_dies mc ms) s mm args below meth c H locs cells slots (kGi below args s D cI cZ cO ad o.1 k o.2 mc ms) (F0 mm 4 ls [])) {v1 : Int32} {v2 : Int32} {v3 : Int32} {mo : kS} {H : Heap} {locs : List Loc} {ls : Array Slot} {cells slots mc ms uc us : Nat} {o : (Int32 × kS)} (hH : kHE s H locs D ad cI cZ cO k mo []) (hl : lv_has ls 4 [(0, .ref (ad 7)), (1, .int v1), (2, .int v2), (3, .int v3)]) (hf : F_X6_dies_12 c4 v1 v2 v3 mo = some (o, uc, us)) (hc : cells + uc = mc) (hs : slots + us = ms) : W p l e (rm_X6_dies mc ms) s mm args below meth c H locs cells slots (kGi below args s D cI cZ cO ad o.1 k o.2 mc ms) (F0 mm 12 ls []) := by
  have hx := V.1
  have hb := V.2.1
  refine lv_aload_n hx hb dX6_dies_12 rfl (lv_at hl 0 rfl) ?_
  refine kg_X6_28 V hH dX6_dies_13 ?_
  refine lv_iload_n hx hb dX6_dies_16 rfl (lv_at hl 3 rfl) ?_
  refine lv_aload_n hx hb dX6_dies_17 rfl (lv_at hl 0 rfl) ?_
  refine lv_iload_n hx hb dX6_dies_18 rfl (lv_at hl 3 rfl) ?_
  refine lv_iconst (v := 2) hx hb dX6_dies_19 (by decide) ?_
  obtain ⟨x12_1, hx12_1, hf⟩ := kbind hf
  refine kr_calli0 hH (kr_runV (as := [.int v3, .int 2]) (rest := [.int v3, .ref (ad 14)]) (pl := 7) V hH kYX6_la kl_X6_77 (c_X6_la l _ _ hx12_1 _) rfl rfl ⟨Nat.le_of_ble_eq_true rfl, Nat.le_of_ble_eq_true rfl⟩ (by decide) kE_7 rfl rfl hl.1 (Nat.le_of_ble_eq_true rfl) dX6_dies_20 ⟨by show cells + 0 ≤ mc; omega, by show slots + 0 ≤ ms; omega⟩ rfl) (fun H locs hH => ?_)
  refine lv_iload_n hx hb dX6_dies_23 rfl (lv_at hl 1 rfl) ?_
  refine lv_icmp_ne (tgt := 41) hx hb dX6_dies_24 (by decide) (fun hq => ?_) (fun hq => ?_)
  · have hf := kneg hq hf
    exact w_X6_dies_41 V hk4 hH (lv_sub hl [0, 1, 2, 3] rfl) hf hc hs
  · have hf := kpos hq hf
    exact w_X6_dies_27 V hk4 hH (lv_sub hl [0, 1, 2, 3] rfl) hf hc hs
set_option maxHeartbeats 4000000 in
set_option maxRecDepth 100000 in
theorem w_X6_dies_106 (V : kV p s mm args meth c cX6_dies RX6 4 (some .int) D cI cZ cO) {k : kS} {c71 : Int32 → Int32 → Int32 → kS → Option ((Int32 × kS) × Nat × Nat)} (hk71 : ∀ {v1 : Int32} {v2 : Int32} {v3 : Int32} {mo : kS} {H : Heap} {locs : List Loc} {ls : Array Slot} {cells slots mc ms uc us : Nat} {o : (Int32 × kS)}, kHE s H locs D ad cI cZ cO k mo [] → lv_has ls 4 [(0, .ref (ad 7)), (1, .int v1), (2, .int v2), (3, .int v3)] → c71 v1 v2 v3 mo = some (o, uc, us) → cells + uc = mc → slots + us = ms → W p l e (rm_X6_dies mc ms) s mm args below meth c H locs cells slots (kGi below args s D cI cZ cO ad o.1 k o.2 mc ms) (F0 mm 71 ls [])) {v1 : Int32} {v2 : Int32} {v3 : Int32} {mo : kS} {H : Heap} {locs : List Loc} {ls : Array Slot} {cells slots mc ms uc us : Nat} {o : (Int32 × kS)} (hH : kHE s H locs D ad cI cZ cO k mo []) (hl : lv_has ls 4 [(0, .ref (ad 7)), (1, .int v1), (2, .int v2), (3, .int v3)]) (hf : F_X6_dies_106 c71 v1 v2 v3 mo = some (o, uc, us)) (hc : cells + uc = mc) (hs : slots + us = ms) : W p l e (rm_X6_dies mc ms) s mm args below meth c H locs cells slots (kGi below args s D cI cZ cO ad o.1 k o.2 mc ms) (F0 mm 106 ls []) := by
  have hx := V.1
  have hb := V.2.1
  refine lv_iinc (v := (v3 + 1)) (lv' := [(3, .int (v3 + 1)), (0, .ref (ad 7)), (1, .int v1), (2, .int v2)]) hx hb dX6_dies_106 hl (k := 3) rfl rfl (by decide) rfl (fun ls hl => ?_)
  refine lv_goto (tgt := 71) hx hb dX6_dies_109 (by decide) ?_
  exact hk71 hH (lv_sub hl [1, 2, 3, 0] rfl) hf hc hs
set_option maxHeartbeats 4000000 in
set_option maxRecDepth 100000 in
theorem w_X6_dies_89 (V : kV p s mm args meth c cX6_dies RX6 4 (some .int) D cI cZ cO) {k : kS} {c71 : Int32 → Int32 → Int32 → kS → Option ((Int32 × kS) × Nat × Nat)} (hk71 : ∀ {v1 : Int32} {v2 : Int32} {v3 : Int32} {mo : kS} {H : Heap} {locs : List Loc} {ls : Array Slot} {cells slots mc ms uc us : Nat} {o : (Int32 × kS)}, kHE s H locs D ad cI cZ cO k mo [] → lv_has ls 4 [(0, .ref (ad 7)), (1, .int v1), (2, .int v2), (3, .int v3)] → c71 v1 v2 v3 mo = some (o, uc, us) → cells + uc = mc → slots + us = ms → W p l e (rm_X6_dies mc ms) s mm args below meth c H locs cells slots (kGi below args s D cI cZ cO ad o.1 k o.2 mc ms) (F0 mm 71 ls [])) {v1 : Int32} {v2 : Int32} {v3 : Int32} {mo : kS} {H : Heap} {locs : List Loc} {ls : Array Slot} {cells slots mc ms uc us : Nat} {o : (Int32 × kS)} (hH : kHE s H locs D ad cI cZ cO k mo []) (hl : lv_has ls 4 [(0, .ref (ad 7)), (1, .int v1), (2, .int v2), (3, .int v3)]) (hf : F_X6_dies_89 c71 v1 v2 v3 mo = some (o, uc, us)) (hc : cells + uc = mc) (hs : slots + us = ms) : W p l e (rm_X6_dies mc ms) s mm args below meth c H locs cells slots (kGi below args s D cI cZ cO ad o.1 k o.2 mc ms) (F0 mm 89 ls []) := by
  have hx := V.1
  have hb := V.2.1
  refine lv_goto (tgt := 106) hx hb dX6_dies_89 (by decide) ?_
  exact w_X6_dies_106 V hk71 hH (lv_sub hl [0, 1, 2, 3] rfl) hf hc hs
set_option maxHeartbeats 4000000 in
set_option maxRecDepth 100000 in
theorem w_X6_dies_92 (V : kV p s mm args meth c cX6_dies RX6 4 (some .int) D cI cZ cO) {k : kS} {c71 : Int32 → Int32 → Int32 → kS → Option ((Int32 × kS) × Nat × Nat)} (hk71 : ∀ {v1 : Int32} {v2 : Int32} {v3 : Int32} {mo : kS} {H : Heap} {locs : List Loc} {ls : Array Slot} {cells slots mc ms uc us : Nat} {o : (Int32 × kS)}, kHE s H locs D ad cI cZ cO k mo [] → lv_has ls 4 [(0, .ref (ad 7)), (1, .int v1), (2, .int v2), (3, .int v3)] → c71 v1 v2 v3 mo = some (o, uc, us) → cells + uc = mc → slots + us = ms → W p l e (rm_X6_dies mc ms) s mm args below meth c H locs cells slots (kGi below args s D cI cZ cO ad o.1 k o.2 mc ms) (F0 mm 71 ls [])) {v1 : Int32} {v2 : Int32} {v3 : Int32} {mo : kS} {H : Heap} {locs : List Loc} {ls : Array Slot} {cells slots mc ms uc us : Nat} {o : (Int32 × kS)} (hH : kHE s H locs D ad cI cZ cO k mo []) (hl : lv_has ls 4 [(0, .ref (ad 7)), (1, .int v1), (2, .int v2), (3, .int v3)]) (hf : F_X6_dies_92 c71 v1 v2 v3 mo = some (o, uc, us)) (hc : cells + uc = mc) (hs : slots + us = ms) : W p l e (rm_X6_dies mc ms) s mm args below meth c H locs cells slots (kGi below args s D cI cZ cO ad o.1 k o.2 mc ms) (F0 mm 92 ls []) := by
  have hx := V.1
  have hb := V.2.1
  refine lv_aload_n hx hb dX6_dies_92 rfl (lv_at hl 0 rfl) ?_
  refine lv_iload_n hx hb dX6_dies_93 rfl (lv_at hl 3 rfl) ?_
  refine lv_aload_n hx hb dX6_dies_94 rfl (lv_at hl 0 rfl) ?_
  refine kg_X6_28 V hH dX6_dies_95 ?_
  refine lv_iload_n hx hb dX6_dies_98 rfl (lv_at hl 3 rfl) ?_
  obtain ⟨h92_1, hf⟩ := kif hf
  refine kr_iald V hH (q := 14) (by decide) kE_14 h92_1 dX6_dies_99 ?_
  obtain ⟨x92_2, hx92_2, hf⟩ := kbind hf
  refine kr_callv0 hH (kr_runV (as := [.int v3, .int (mo 14 v3.toNatClampNeg)]) (rest := []) (pl := 7) V hH kYX6_rule kl_X6_70 (c_X6_rule l _ _ hx92_2 _) rfl rfl ⟨Nat.le_of_ble_eq_true rfl, Nat.le_of_ble_eq_true rfl⟩ (by decide) kE_7 rfl rfl hl.1 (Nat.le_of_ble_eq_true rfl) dX6_dies_100 ⟨by show cells + 0 ≤ mc; omega, by show slots + 0 ≤ ms; omega⟩ rfl) (fun H locs hH => ?_)
  refine lv_iinc (v := (v2 + 1)) (lv' := [(2, .int (v2 + 1)), (0, .ref (ad 7)), (1, .int v1), (3, .int v3)]) hx hb dX6_dies_103 hl (k := 2) rfl rfl (by decide) rfl (fun ls hl => ?_)
  exact w_X6_dies_106 V hk71 hH (lv_sub hl [1, 2, 0, 3] rfl) hf hc hs
set_option maxHeartbeats 4000000 in
set_option maxRecDepth 100000 in
theorem w_X6_dies_79 (V : kV p s mm args meth c cX6_dies RX6 4 (some .int) D cI cZ cO) {k : kS} {c71 : Int32 → Int32 → Int32 → kS → Option ((Int32 × kS) × Nat × Nat)} (hk71 : ∀ {v1 : Int32} {v2 : Int32} {v3 : Int32} {mo : kS} {H : Heap} {locs : List Loc} {ls : Array Slot} {cells slots mc ms uc us : Nat} {o : (Int32 × kS)}, kHE s H locs D ad cI cZ cO k mo [] → lv_has ls 4 [(0, .ref (ad 7)), (1, .int v1), (2, .int v2), (3, .int v3)] → c71 v1 v2 v3 mo = some (o, uc, us) → cells + uc = mc → slots + us = ms → W p l e (rm_X6_dies mc ms) s mm args below meth c H locs cells slots (kGi below args s D cI cZ cO ad o.1 k o.2 mc ms) (F0 mm 71 ls [])) {v1 : Int32} {v2 : Int32} {v3 : Int32} {mo : kS} {H : Heap} {locs : List Loc} {ls : Array Slot} {cells slots mc ms uc us : Nat} {o : (Int32 × kS)} (hH : kHE s H locs D ad cI cZ cO k mo []) (hl : lv_has ls 4 [(0, .ref (ad 7)), (1, .int v1), (2, .int v2), (3, .int v3)]) (hf : F_X6_dies_79 c71 v1 v2 v3 mo = some (o, uc, us)) (hc : cells + uc = mc) (hs : slots + us = ms) : W p l e (rm_X6_dies mc ms) s mm args below meth c H locs cells slots (kGi below args s D cI cZ cO ad o.1 k o.2 mc ms) (F0 mm 79 ls []) := by
  have hx := V.1
  have hb := V.2.1
  refine lv_aload_n hx hb dX6_dies_79 rfl (lv_at hl 0 rfl) ?_
  refine lv_iload_n hx hb dX6_dies_80 rfl (lv_at hl 3 rfl) ?_
  refine lv_iconst (v := 2) hx hb dX6_dies_81 (by decide) ?_
  obtain ⟨x79_1, hx79_1, hf⟩ := kbind hf
  refine kr_calli0 hH (kr_runV (as := [.int v3, .int 2]) (rest := []) (pl := 7) V hH kYX6_la kl_X6_77 (c_X6_la l _ _ hx79_1 _) rfl rfl ⟨Nat.le_of_ble_eq_true rfl, Nat.le_of_ble_eq_true rfl⟩ (by decide) kE_7 rfl rfl hl.1 (Nat.le_of_ble_eq_true rfl) dX6_dies_82 ⟨by show cells + 0 ≤ mc; omega, by show slots + 0 ≤ ms; omega⟩ rfl) (fun H locs hH => ?_)
  refine lv_iload_n hx hb dX6_dies_85 rfl (lv_at hl 1 rfl) ?_
  refine lv_icmp_eq (tgt := 92) hx hb dX6_dies_86 (by decide) (fun hq => ?_) (fun hq => ?_)
  · have hf := kpos hq hf
    exact w_X6_dies_92 V hk71 hH (lv_sub hl [0, 1, 2, 3] rfl) hf hc hs
  · have hf := kneg hq hf
    exact w_X6_dies_89 V hk71 hH (lv_sub hl [0, 1, 2, 3] rfl) hf hc hs
set_option maxHeartbeats 4000000 in
set_option maxRecDepth 100000 in
theorem w_X6_dies_112 (V : kV p s mm args meth c cX6_dies RX6 4 (some .int) D cI cZ cO) {k : kS} {v1 : Int32} {v2 : Int32} {mo : kS} {H : Heap} {locs : List Loc} {ls : Array Slot} {cells slots mc ms uc us : Nat} {o : (Int32 × kS)} (hH : kHE s H locs D ad cI cZ cO k mo []) (hl : lv_has ls 4 [(0, .ref (ad 7)), (1, .int v1), (2, .int v2)]) (hf : F_X6_dies_112 v1 v2 mo = some (o, uc, us)) (hc : cells + uc = mc) (hs : slots + us = ms) : W p l e (rm_X6_dies mc ms) s mm args below meth c H locs cells slots (kGi below args s D cI cZ cO ad o.1 k o.2 mc ms) (F0 mm 112 ls []) := by
  have hx := V.1
  have hb := V.2.1
  refine lv_aload_n hx hb dX6_dies_112 rfl (lv_at hl 0 rfl) ?_
  refine lv_iload_n hx hb dX6_dies_113 rfl (lv_at hl 1 rfl) ?_
  obtain ⟨x112_1, hx112_1, hf⟩ := kbind hf
  obtain ⟨uc112_2, us112_3, hf, e1, e2⟩ := kadd_some2 hf
  have e1 : uc = x112_1.2.1 + uc112_2 := e1
  have e2 : us = x112_1.2.2 + us112_3 := e2
  have hc : cells + x112_1.2.1 + uc112_2 = mc := by rw [Nat.add_assoc, ← e1]; exact hc
  have hs : slots + x112_1.2.2 + us112_3 = ms := by rw [Nat.add_assoc, ← e2]; exact hs
  have lc : cells + x112_1.2.1 ≤ mc := Nat.le.intro hc
  have ls2 : slots + x112_1.2.2 ≤ ms := Nat.le.intro hs
  refine kr_callv hH (kr_runV (as := [.int v1]) (rest := []) (pl := 7) V hH kYX6_part kl_X6_128 (c_X6_part l _ hx112_1 _) rfl rfl ⟨Nat.le_of_ble_eq_true rfl, Nat.le_of_ble_eq_true rfl⟩ (by decide) kE_7 rfl rfl hl.1 (Nat.le_of_ble_eq_true rfl) dX6_dies_114 ⟨lc, ls2⟩ rfl) (fun H locs hH => ?_)
  refine lv_iload_n hx hb dX6_dies_117 rfl (lv_at hl 2 rfl) ?_
  cases hf
  subst hc
  subst hs
  exact kr_iret V hH dX6_dies_118
set_option maxHeartbeats 4000000 in
set_option maxRecDepth 100000 in
theorem w_X6_dies_71 (V : kV p s mm args meth c cX6_dies RX6 4 (some .int) D cI cZ cO) {k : kS} : ∀ (n : Nat) {v1 : Int32} {v2 : Int32} {v3 : Int32} {mo : kS} {H : Heap} {locs : List Loc} {ls : Array Slot} {cells slots mc ms uc us : Nat} {o : (Int32 × kS)}, kHE s H locs D ad cI cZ cO k mo [] → lv_has ls 4 [(0, .ref (ad 7)), (1, .int v1), (2, .int v2), (3, .int v3)] → F_X6_dies_71 n v1 v2 v3 mo = some (o, uc, us) → cells + uc = mc → slots + us = ms → W p l e (rm_X6_dies mc ms) s mm args below meth c H locs cells slots (kGi below args s D cI cZ cO ad o.1 k o.2 mc ms) (F0 mm 71 ls []) := by
  have hx := V.1
  have hb := V.2.1
  intro n
  induction n with
  | zero => intro _ _ _ _ _ _ _ _ _ _ _ _ _ _ hH hl hf hc hs; cases hf
  | succ n hk71 =>
    intro v1 v2 v3 mo H locs ls cells slots mc ms uc us o hH hl hf hc hs
    refine lv_iload_n hx hb dX6_dies_71 rfl (lv_at hl 3 rfl) ?_
    refine lv_aload_n hx hb dX6_dies_72 rfl (lv_at hl 0 rfl) ?_
    refine kg_X6_42 V hH dX6_dies_73 ?_
    refine lv_icmp_ge (tgt := 112) hx hb dX6_dies_76 (by decide) (fun hq => ?_) (fun hq => ?_)
    · have hf := kpos hq hf
      exact w_X6_dies_112 V hH (lv_sub hl [0, 1, 2] rfl) hf hc hs
    · have hf := kneg hq hf
      exact w_X6_dies_79 V hk71 hH (lv_sub hl [0, 1, 2, 3] rfl) hf hc hs
set_option maxHeartbeats 4000000 in
set_option maxRecDepth 100000 in
theorem w_X6_dies_49 (V : kV p s mm args meth c cX6_dies RX6 4 (some .int) D cI cZ cO) {k : kS} {v1 : Int32} {v2 : Int32} {mo : kS} {H : Heap} {locs : List Loc} {ls : Array Slot} {cells slots mc ms uc us : Nat} {o : (Int32 × kS)} (hH : kHE s H locs D ad cI cZ cO k mo []) (hl : lv_has ls 4 [(0, .ref (ad 7)), (1, .int v1), (2, .int v2)]) (hf : F_X6_dies_49 v1 v2 mo = some (o, uc, us)) (hc : cells + uc = mc) (hs : slots + us = ms) : W p l e (rm_X6_dies mc ms) s mm args below meth c H locs cells slots (kGi below args s D cI cZ cO ad o.1 k o.2 mc ms) (F0 mm 49 ls []) := by
  have hx := V.1
  have hb := V.2.1
  refine lv_aload_n hx hb dX6_dies_49 rfl (lv_at hl 0 rfl) ?_
  refine lv_iload_n hx hb dX6_dies_50 rfl (lv_at hl 1 rfl) ?_
  refine lv_iconst (v := 2) hx hb dX6_dies_51 (by decide) ?_
  refine lv_iconst (v := 0) hx hb dX6_dies_52 (by decide) ?_
  obtain ⟨x49_1, hx49_1, hf⟩ := kbind hf
  refine kr_callv0 hH (kr_runV (as := [.int v1, .int 2, .int 0]) (rest := []) (pl := 7) V hH kYX6_set kl_X6_121 (c_X6_set l _ _ _ hx49_1 _) rfl rfl ⟨Nat.le_of_ble_eq_true rfl, Nat.le_of_ble_eq_true rfl⟩ (by decide) kE_7 rfl rfl hl.1 (Nat.le_of_ble_eq_true rfl) dX6_dies_53 ⟨by show cells + 0 ≤ mc; omega, by show slots + 0 ≤ ms; omega⟩ rfl) (fun H locs hH => ?_)
  refine lv_aload_n hx hb dX6_dies_56 rfl (lv_at hl 0 rfl) ?_
  refine lv_iload_n hx hb dX6_dies_57 rfl (lv_at hl 1 rfl) ?_
  refine lv_bipush (v := 6) hx hb dX6_dies_58 (by decide) ?_
  refine lv_aload_n hx hb dX6_dies_60 rfl (lv_at hl 0 rfl) ?_
  refine kg_X6_19 V hH dX6_dies_61 ?_
  refine lv_iconst (v := 0) hx hb dX6_dies_64 (by decide) ?_
  obtain ⟨h49_2, hf⟩ := kif hf
  refine kr_iald V hH (q := 11) (by decide) kE_11 h49_2 dX6_dies_65 ?_
  obtain ⟨x49_3, hx49_3, hf⟩ := kbind hf
  refine kr_callv0 hH (kr_runV (as := [.int v1, .int 6, .int (x49_1 11 (0 : Int32).toNatClampNeg)]) (rest := []) (pl := 7) V hH kYX6_set kl_X6_121 (c_X6_set l _ _ _ hx49_3 _) rfl rfl ⟨Nat.le_of_ble_eq_true rfl, Nat.le_of_ble_eq_true rfl⟩ (by decide) kE_7 rfl rfl hl.1 (Nat.le_of_ble_eq_true rfl) dX6_dies_66 ⟨by show cells + 0 ≤ mc; omega, by show slots + 0 ≤ ms; omega⟩ rfl) (fun H locs hH => ?_)
  refine lv_iconst (v := 0) hx hb dX6_dies_69 (by decide) ?_
  refine lv_istore_n (lv' := [(3, .int 0), (0, .ref (ad 7)), (1, .int v1), (2, .int v2)]) hx hb dX6_dies_70 rfl hl (by decide) rfl (fun ls hl => ?_)
  exact w_X6_dies_71 V kN hH (lv_sub hl [1, 2, 3, 0] rfl) hf hc hs
set_option maxHeartbeats 4000000 in
set_option maxRecDepth 100000 in
theorem w_X6_dies_4 (V : kV p s mm args meth c cX6_dies RX6 4 (some .int) D cI cZ cO) {k : kS} : ∀ (n : Nat) {v1 : Int32} {v2 : Int32} {v3 : Int32} {mo : kS} {H : Heap} {locs : List Loc} {ls : Array Slot} {cells slots mc ms uc us : Nat} {o : (Int32 × kS)}, kHE s H locs D ad cI cZ cO k mo [] → lv_has ls 4 [(0, .ref (ad 7)), (1, .int v1), (2, .int v2), (3, .int v3)] → F_X6_dies_4 n v1 v2 v3 mo = some (o, uc, us) → cells + uc = mc → slots + us = ms → W p l e (rm_X6_dies mc ms) s mm args below meth c H locs cells slots (kGi below args s D cI cZ cO ad o.1 k o.2 mc ms) (F0 mm 4 ls []) := by
  have hx := V.1
  have hb := V.2.1
  intro n
  induction n with
  | zero => intro _ _ _ _ _ _ _ _ _ _ _ _ _ _ hH hl hf hc hs; cases hf
  | succ n hk4 =>
    intro v1 v2 v3 mo H locs ls cells slots mc ms uc us o hH hl hf hc hs
    refine lv_iload_n hx hb dX6_dies_4 rfl (lv_at hl 3 rfl) ?_
    refine lv_aload_n hx hb dX6_dies_5 rfl (lv_at hl 0 rfl) ?_
    refine kg_X6_42 V hH dX6_dies_6 ?_
    refine lv_icmp_ge (tgt := 49) hx hb dX6_dies_9 (by decide) (fun hq => ?_) (fun hq => ?_)
    · have hf := kpos hq hf
      exact w_X6_dies_49 V hH (lv_sub hl [0, 1, 2] rfl) hf hc hs
    · have hf := kneg hq hf
      exact w_X6_dies_12 V hk4 hH (lv_sub hl [0, 1, 2, 3] rfl) hf hc hs
set_option maxHeartbeats 4000000 in
set_option maxRecDepth 100000 in
theorem w_X6_dies_0 (V : kV p s mm args meth c cX6_dies RX6 4 (some .int) D cI cZ cO) {k : kS} {v1 : Int32} {mo : kS} {H : Heap} {locs : List Loc} {ls : Array Slot} {cells slots mc ms uc us : Nat} {o : (Int32 × kS)} (hH : kHE s H locs D ad cI cZ cO k mo []) (hl : lv_has ls 4 [(0, .ref (ad 7)), (1, .int v1)]) (hf : F_X6_dies_0 v1 mo = some (o, uc, us)) (hc : cells + uc = mc) (hs : slots + us = ms) : W p l e (rm_X6_dies mc ms) s mm args below meth c H locs cells slots (kGi below args s D cI cZ cO ad o.1 k o.2 mc ms) (F0 mm 0 ls []) := by
  have hx := V.1
  have hb := V.2.1
  refine lv_iconst (v := 0) hx hb dX6_dies_0 (by decide) ?_
  refine lv_istore_n (lv' := [(2, .int 0), (0, .ref (ad 7)), (1, .int v1)]) hx hb dX6_dies_1 rfl hl (by decide) rfl (fun ls hl => ?_)
  refine lv_iconst (v := 0) hx hb dX6_dies_2 (by decide) ?_
  refine lv_istore_n (lv' := [(3, .int 0), (2, .int 0), (0, .ref (ad 7)), (1, .int v1)]) hx hb dX6_dies_3 rfl hl (by decide) rfl (fun ls hl => ?_)
  exact w_X6_dies_4 V kN hH (lv_sub hl [2, 3, 1, 0] rfl) hf hc hs
set_option maxHeartbeats 4000000 in
set_option maxRecDepth 100000 in
theorem c_X6_dies (l : Launch) {D : va_G} {cI cZ cO : ClassId} {ad : Nat → Nat} {k mo : kS} (v1 : Int32) {o : (Int32 × kS)} {mc ms : Nat} (hf : F_X6_dies v1 mo = some (o, mc, ms)) (sz : Nat) : Met l yX6_dies (Cond.code yX6_dies cX6_dies 4 (some .int) :: kWA) (rm_X6_dies mc ms) (kP [.ref (ad 7), .int v1] D cI cZ cO ad (kE ad cI cZ cO k mo) sz) (kQi o.1 D cI cZ cO ad (kE ad cI cZ cO k o.2) sz) mc ms (fA ad sz) := by
  refine kr_met (as := [.ref (ad 7), .int v1]) (bytes := cX6_dies) (maxL := 4) (rt := (some .int)) (Qc := fun sz => kQi o.1 D cI cZ cO ad (kE ad cI cZ cO k o.2) sz) (lv := [(0, .ref (ad 7)), (1, .int v1)]) (by decide +kernel) (Nat.le_of_ble_eq_true rfl) rfl (fun p e s mm below meth c ls V hH hl => ?_) sz
  exact w_X6_dies_0 V hH (lv_sub hl [0, 1] rfl) hf (Nat.zero_add _) (Nat.zero_add _)
end
section
variable {p : Program} {l : Launch} {e : Env} {s : State} {mm : MethodId} {args : Array Value} {below : List Frame} {meth : Method} {c : Code} {D : va_G} {cI cZ cO : ClassId} {ad : Nat → Nat}
abbrev rm_X6_die (mc ms : Nat) : Room := { frames := 52, cells := mc, slots := ms, locals := 1288 }
set_option maxHeartbeats 4000000 in
set_option maxRecDepth 100000 in
theorem w_X6_die_13 (V : kV p s mm args meth c cX6_die RX6 2 (some .int) D cI cZ cO) {k : kS} {mo : kS} {H : Heap} {locs : List Loc} {ls : Array Slot} {cells slots mc ms uc us : Nat} {o : (Int32 × kS)} (hH : kHE s H locs D ad cI cZ cO k mo []) (hl : lv_has ls 2 [(0, .ref (ad 7))]) (hf : F_X6_die_13 mo = some (o, uc, us)) (hc : cells + uc = mc) (hs : slots + us = ms) : W p l e (rm_X6_die mc ms) s mm args below meth c H locs cells slots (kGi below args s D cI cZ cO ad o.1 k o.2 mc ms) (F0 mm 13 ls []) := by
  have hx := V.1
  have hb := V.2.1
  refine lv_aload_n hx hb dX6_die_13 rfl (lv_at hl 0 rfl) ?_
  refine lv_iconst (v := 1) hx hb dX6_die_14 (by decide) ?_
  obtain ⟨x13_1, hx13_1, hf⟩ := kbind hf
  refine kr_calli0 hH (kr_runV (as := [.int 1]) (rest := []) (pl := 7) V hH kYX6_fail kl_X6_55 (c_X6_fail l _ hx13_1 _) rfl rfl ⟨Nat.le_of_ble_eq_true rfl, Nat.le_of_ble_eq_true rfl⟩ (by decide) kE_7 rfl rfl hl.1 (Nat.le_of_ble_eq_true rfl) dX6_die_15 ⟨by show cells + 0 ≤ mc; omega, by show slots + 0 ≤ ms; omega⟩ rfl) (fun H locs hH => ?_)
  cases hf
  subst hc
  subst hs
  exact kr_iret V hH dX6_die_18
set_option maxHeartbeats 4000000 in
set_option maxRecDepth 100000 in
theorem w_X6_die_40 (V : kV p s mm args meth c cX6_die RX6 2 (some .int) D cI cZ cO) {k : kS} {s0 : Int32} {mo : kS} {H : Heap} {locs : List Loc} {ls : Array Slot} {cells slots mc ms uc us : Nat} {o : (Int32 × kS)} (hH : kHE s H locs D ad cI cZ cO k mo []) (hl : lv_has ls 2 []) (hf : F_X6_die_40 s0 mo = some (o, uc, us)) (hc : cells + uc = mc) (hs : slots + us = ms) : W p l e (rm_X6_die mc ms) s mm args below meth c H locs cells slots (kGi below args s D cI cZ cO ad o.1 k o.2 mc ms) (F0 mm 40 ls [.int s0]) := by
  have hx := V.1
  have hb := V.2.1
  cases hf
  subst hc
  subst hs
  exact kr_iret V hH dX6_die_40
set_option maxHeartbeats 4000000 in
set_option maxRecDepth 100000 in
theorem w_X6_die_27 (V : kV p s mm args meth c cX6_die RX6 2 (some .int) D cI cZ cO) {k : kS} {v1 : Int32} {mo : kS} {H : Heap} {locs : List Loc} {ls : Array Slot} {cells slots mc ms uc us : Nat} {o : (Int32 × kS)} (hH : kHE s H locs D ad cI cZ cO k mo []) (hl : lv_has ls 2 [(0, .ref (ad 7)), (1, .int v1)]) (hf : F_X6_die_27 v1 mo = some (o, uc, us)) (hc : cells + uc = mc) (hs : slots + us = ms) : W p l e (rm_X6_die mc ms) s mm args below meth c H locs cells slots (kGi below args s D cI cZ cO ad o.1 k o.2 mc ms) (F0 mm 27 ls []) := by
  have hx := V.1
  have hb := V.2.1
  refine lv_aload_n hx hb dX6_die_27 rfl (lv_at hl 0 rfl) ?_
  refine lv_iload_n hx hb dX6_die_28 rfl (lv_at hl 1 rfl) ?_
  obtain ⟨x27_1, hx27_1, hf⟩ := kbind hf
  obtain ⟨uc27_2, us27_3, hf, e1, e2⟩ := kadd_some2 hf
  have e1 : uc = x27_1.2.1 + uc27_2 := e1
  have e2 : us = x27_1.2.2 + us27_3 := e2
  have hc : cells + x27_1.2.1 + uc27_2 = mc := by rw [Nat.add_assoc, ← e1]; exact hc
  have hs : slots + x27_1.2.2 + us27_3 = ms := by rw [Nat.add_assoc, ← e2]; exact hs
  have lc : cells + x27_1.2.1 ≤ mc := Nat.le.intro hc
  have ls2 : slots + x27_1.2.2 ≤ ms := Nat.le.intro hs
  refine kr_calli hH (kr_runV (as := [.int v1]) (rest := []) (pl := 7) V hH kYX6_dies kl_X6_135 (c_X6_dies l _ hx27_1 _) rfl rfl ⟨Nat.le_of_ble_eq_true rfl, Nat.le_of_ble_eq_true rfl⟩ (by decide) kE_7 rfl rfl hl.1 (Nat.le_of_ble_eq_true rfl) dX6_die_29 ⟨lc, ls2⟩ rfl) (fun H locs hH => ?_)
  refine lv_goto (tgt := 40) hx hb dX6_die_32 (by decide) ?_
  exact w_X6_die_40 V hH (lv_sub hl [] rfl) hf hc hs
set_option maxHeartbeats 4000000 in
set_option maxRecDepth 100000 in
theorem w_X6_die_35 (V : kV p s mm args meth c cX6_die RX6 2 (some .int) D cI cZ cO) {k : kS} {mo : kS} {H : Heap} {locs : List Loc} {ls : Array Slot} {cells slots mc ms uc us : Nat} {o : (Int32 × kS)} (hH : kHE s H locs D ad cI cZ cO k mo []) (hl : lv_has ls 2 [(0, .ref (ad 7))]) (hf : F_X6_die_35 mo = some (o, uc, us)) (hc : cells + uc = mc) (hs : slots + us = ms) : W p l e (rm_X6_die mc ms) s mm args below meth c H locs cells slots (kGi below args s D cI cZ cO ad o.1 k o.2 mc ms) (F0 mm 35 ls []) := by
  have hx := V.1
  have hb := V.2.1
  refine lv_aload_n hx hb dX6_die_35 rfl (lv_at hl 0 rfl) ?_
  refine lv_iconst (v := 2) hx hb dX6_die_36 (by decide) ?_
  obtain ⟨x35_1, hx35_1, hf⟩ := kbind hf
  refine kr_calli0 hH (kr_runV (as := [.int 2]) (rest := []) (pl := 7) V hH kYX6_fail kl_X6_55 (c_X6_fail l _ hx35_1 _) rfl rfl ⟨Nat.le_of_ble_eq_true rfl, Nat.le_of_ble_eq_true rfl⟩ (by decide) kE_7 rfl rfl hl.1 (Nat.le_of_ble_eq_true rfl) dX6_die_37 ⟨by show cells + 0 ≤ mc; omega, by show slots + 0 ≤ ms; omega⟩ rfl) (fun H locs hH => ?_)
  exact w_X6_die_40 V hH (lv_sub hl [] rfl) hf hc hs
set_option maxHeartbeats 4000000 in
set_option maxRecDepth 100000 in
theorem w_X6_die_19 (V : kV p s mm args meth c cX6_die RX6 2 (some .int) D cI cZ cO) {k : kS} {v1 : Int32} {mo : kS} {H : Heap} {locs : List Loc} {ls : Array Slot} {cells slots mc ms uc us : Nat} {o : (Int32 × kS)} (hH : kHE s H locs D ad cI cZ cO k mo []) (hl : lv_has ls 2 [(0, .ref (ad 7)), (1, .int v1)]) (hf : F_X6_die_19 v1 mo = some (o, uc, us)) (hc : cells + uc = mc) (hs : slots + us = ms) : W p l e (rm_X6_die mc ms) s mm args below meth c H locs cells slots (kGi below args s D cI cZ cO ad o.1 k o.2 mc ms) (F0 mm 19 ls []) := by
  have hx := V.1
  have hb := V.2.1
  refine lv_aload_n hx hb dX6_die_19 rfl (lv_at hl 0 rfl) ?_
  refine lv_iload_n hx hb dX6_die_20 rfl (lv_at hl 1 rfl) ?_
  obtain ⟨x19_1, hx19_1, hf⟩ := kbind hf
  refine kr_calli0 hH (kr_runV (as := [.int v1]) (rest := []) (pl := 7) V hH kYX6_lives kl_X6_67 (c_X6_lives l _ hx19_1 _) rfl rfl ⟨Nat.le_of_ble_eq_true rfl, Nat.le_of_ble_eq_true rfl⟩ (by decide) kE_7 rfl rfl hl.1 (Nat.le_of_ble_eq_true rfl) dX6_die_21 ⟨by show cells + 0 ≤ mc; omega, by show slots + 0 ≤ ms; omega⟩ rfl) (fun H locs hH => ?_)
  refine lv_if_eq (tgt := 35) hx hb dX6_die_24 (by decide) (fun hq => ?_) (fun hq => ?_)
  · have hf := kpos hq hf
    exact w_X6_die_35 V hH (lv_sub hl [0] rfl) hf hc hs
  · have hf := kneg hq hf
    exact w_X6_die_27 V hH (lv_sub hl [0, 1] rfl) hf hc hs
set_option maxHeartbeats 4000000 in
set_option maxRecDepth 100000 in
theorem w_X6_die_0 (V : kV p s mm args meth c cX6_die RX6 2 (some .int) D cI cZ cO) {k : kS} {v1 : Int32} {mo : kS} {H : Heap} {locs : List Loc} {ls : Array Slot} {cells slots mc ms uc us : Nat} {o : (Int32 × kS)} (hH : kHE s H locs D ad cI cZ cO k mo []) (hl : lv_has ls 2 [(0, .ref (ad 7)), (1, .int v1)]) (hf : F_X6_die_0 v1 mo = some (o, uc, us)) (hc : cells + uc = mc) (hs : slots + us = ms) : W p l e (rm_X6_die mc ms) s mm args below meth c H locs cells slots (kGi below args s D cI cZ cO ad o.1 k o.2 mc ms) (F0 mm 0 ls []) := by
  have hx := V.1
  have hb := V.2.1
  refine lv_aload_n hx hb dX6_die_0 rfl (lv_at hl 0 rfl) ?_
  refine lv_iconst (v := 0) hx hb dX6_die_1 (by decide) ?_
  refine kp_X6_31 V hH dX6_die_2 (fun H locs hH => ?_)
  refine lv_aload_n hx hb dX6_die_5 rfl (lv_at hl 0 rfl) ?_
  refine lv_iload_n hx hb dX6_die_6 rfl (lv_at hl 1 rfl) ?_
  obtain ⟨x0_1, hx0_1, hf⟩ := kbind hf
  refine kr_calli0 hH (kr_runV (as := [.int v1]) (rest := []) (pl := 7) V hH kYX6_isPerson kl_X6_63 (c_X6_isPerson l _ hx0_1 _) rfl rfl ⟨Nat.le_of_ble_eq_true rfl, Nat.le_of_ble_eq_true rfl⟩ (by decide) kE_7 rfl rfl hl.1 (Nat.le_of_ble_eq_true rfl) dX6_die_7 ⟨by show cells + 0 ≤ mc; omega, by show slots + 0 ≤ ms; omega⟩ rfl) (fun H locs hH => ?_)
  refine lv_if_ne (tgt := 19) hx hb dX6_die_10 (by decide) (fun hq => ?_) (fun hq => ?_)
  · have hf := kneg hq hf
    exact w_X6_die_19 V hH (lv_sub hl [0, 1] rfl) hf hc hs
  · have hf := kpos hq hf
    exact w_X6_die_13 V hH (lv_sub hl [0] rfl) hf hc hs
set_option maxHeartbeats 4000000 in
set_option maxRecDepth 100000 in
theorem c_X6_die (l : Launch) {D : va_G} {cI cZ cO : ClassId} {ad : Nat → Nat} {k mo : kS} (v1 : Int32) {o : (Int32 × kS)} {mc ms : Nat} (hf : F_X6_die v1 mo = some (o, mc, ms)) (sz : Nat) : Met l yX6_die (Cond.code yX6_die cX6_die 2 (some .int) :: kWA) (rm_X6_die mc ms) (kP [.ref (ad 7), .int v1] D cI cZ cO ad (kE ad cI cZ cO k mo) sz) (kQi o.1 D cI cZ cO ad (kE ad cI cZ cO k o.2) sz) mc ms (fA ad sz) := by
  refine kr_met (as := [.ref (ad 7), .int v1]) (bytes := cX6_die) (maxL := 2) (rt := (some .int)) (Qc := fun sz => kQi o.1 D cI cZ cO ad (kE ad cI cZ cO k o.2) sz) (lv := [(0, .ref (ad 7)), (1, .int v1)]) (by decide +kernel) (Nat.le_of_ble_eq_true rfl) rfl (fun p e s mm below meth c ls V hH hl => ?_) sz
  exact w_X6_die_0 V hH (lv_sub hl [0, 1] rfl) hf (Nat.zero_add _) (Nat.zero_add _)
end
section
variable {p : Program} {l : Launch} {e : Env} {s : State} {mm : MethodId} {args : Array Value} {below : List Frame} {meth : Method} {c : Code} {D : va_G} {cI cZ cO : ClassId} {ad : Nat → Nat}
abbrev rm_X6_yearOn (mc ms : Nat) : Room := { frames := 52, cells := mc, slots := ms, locals := 1288 }
set_option maxHeartbeats 4000000 in
set_option maxRecDepth 100000 in
theorem w_X6_yearOn_52 (V : kV p s mm args meth c cX6_yearOn RX6 3 (some .int) D cI cZ cO) {k : kS} {c14 : Int32 → Int32 → kS → Option ((Int32 × kS) × Nat × Nat)} (hk14 : ∀ {v1 : Int32} {v2 : Int32} {mo : kS} {H : Heap} {locs : List Loc} {ls : Array Slot} {cells slots mc ms uc us : Nat} {o : (Int32 × kS)}, kHE s H locs D ad cI cZ cO k mo [] → lv_has ls 3 [(0, .ref (ad 7)), (1, .int v1), (2, .int v2)] → c14 v1 v2 mo = some (o, uc, us) → cells + uc = mc → slots + us = ms → W p l e (rm_X6_yearOn mc ms) s mm args below meth c H locs cells slots (kGi below args s D cI cZ cO ad o.1 k o.2 mc ms) (F0 mm 14 ls [])) {v1 : Int32} {v2 : Int32} {mo : kS} {H : Heap} {locs : List Loc} {ls : Array Slot} {cells slots mc ms uc us : Nat} {o : (Int32 × kS)} (hH : kHE s H locs D ad cI cZ cO k mo []) (hl : lv_has ls 3 [(0, .ref (ad 7)), (1, .int v1), (2, .int v2)]) (hf : F_X6_yearOn_52 c14 v1 v2 mo = some (o, uc, us)) (hc : cells + uc = mc) (hs : slots + us = ms) : W p l e (rm_X6_yearOn mc ms) s mm args below meth c H locs cells slots (kGi below args s D cI cZ cO ad o.1 k o.2 mc ms) (F0 mm 52 ls []) := by
  have hx := V.1
  have hb := V.2.1
  refine lv_iinc (v := (v2 + 1)) (lv' := [(2, .int (v2 + 1)), (0, .ref (ad 7)), (1, .int v1)]) hx hb dX6_yearOn_52 hl (k := 2) rfl rfl (by decide) rfl (fun ls hl => ?_)
  refine lv_goto (tgt := 14) hx hb dX6_yearOn_55 (by decide) ?_
  exact hk14 hH (lv_sub hl [1, 2, 0] rfl) hf hc hs
set_option maxHeartbeats 4000000 in
set_option maxRecDepth 100000 in
theorem w_X6_yearOn_40 (V : kV p s mm args meth c cX6_yearOn RX6 3 (some .int) D cI cZ cO) {k : kS} {c14 : Int32 → Int32 → kS → Option ((Int32 × kS) × Nat × Nat)} (hk14 : ∀ {v1 : Int32} {v2 : Int32} {mo : kS} {H : Heap} {locs : List Loc} {ls : Array Slot} {cells slots mc ms uc us : Nat} {o : (Int32 × kS)}, kHE s H locs D ad cI cZ cO k mo [] → lv_has ls 3 [(0, .ref (ad 7)), (1, .int v1), (2, .int v2)] → c14 v1 v2 mo = some (o, uc, us) → cells + uc = mc → slots + us = ms → W p l e (rm_X6_yearOn mc ms) s mm args below meth c H locs cells slots (kGi below args s D cI cZ cO ad o.1 k o.2 mc ms) (F0 mm 14 ls [])) {v1 : Int32} {v2 : Int32} {mo : kS} {H : Heap} {locs : List Loc} {ls : Array Slot} {cells slots mc ms uc us : Nat} {o : (Int32 × kS)} (hH : kHE s H locs D ad cI cZ cO k mo []) (hl : lv_has ls 3 [(0, .ref (ad 7)), (1, .int v1), (2, .int v2)]) (hf : F_X6_yearOn_40 c14 v1 v2 mo = some (o, uc, us)) (hc : cells + uc = mc) (hs : slots + us = ms) : W p l e (rm_X6_yearOn mc ms) s mm args below meth c H locs cells slots (kGi below args s D cI cZ cO ad o.1 k o.2 mc ms) (F0 mm 40 ls []) := by
  have hx := V.1
  have hb := V.2.1
  refine lv_goto (tgt := 52) hx hb dX6_yearOn_40 (by decide) ?_
  exact w_X6_yearOn_52 V hk14 hH (lv_sub hl [0, 1, 2] rfl) hf hc hs
set_option maxHeartbeats 4000000 in
set_option maxRecDepth 100000 in
theorem w_X6_yearOn_43 (V : kV p s mm args meth c cX6_yearOn RX6 3 (some .int) D cI cZ cO) {k : kS} {c14 : Int32 → Int32 → kS → Option ((Int32 × kS) × Nat × Nat)} (hk14 : ∀ {v1 : Int32} {v2 : Int32} {mo : kS} {H : Heap} {locs : List Loc} {ls : Array Slot} {cells slots mc ms uc us : Nat} {o : (Int32 × kS)}, kHE s H locs D ad cI cZ cO k mo [] → lv_has ls 3 [(0, .ref (ad 7)), (1, .int v1), (2, .int v2)] → c14 v1 v2 mo = some (o, uc, us) → cells + uc = mc → slots + us = ms → W p l e (rm_X6_yearOn mc ms) s mm args below meth c H locs cells slots (kGi below args s D cI cZ cO ad o.1 k o.2 mc ms) (F0 mm 14 ls [])) {v1 : Int32} {v2 : Int32} {mo : kS} {H : Heap} {locs : List Loc} {ls : Array Slot} {cells slots mc ms uc us : Nat} {o : (Int32 × kS)} (hH : kHE s H locs D ad cI cZ cO k mo []) (hl : lv_has ls 3 [(0, .ref (ad 7)), (1, .int v1), (2, .int v2)]) (hf : F_X6_yearOn_43 c14 v1 v2 mo = some (o, uc, us)) (hc : cells + uc = mc) (hs : slots + us = ms) : W p l e (rm_X6_yearOn mc ms) s mm args below meth c H locs cells slots (kGi below args s D cI cZ cO ad o.1 k o.2 mc ms) (F0 mm 43 ls []) := by
  have hx := V.1
  have hb := V.2.1
  refine lv_aload_n hx hb dX6_yearOn_43 rfl (lv_at hl 0 rfl) ?_
  refine lv_iload_n hx hb dX6_yearOn_44 rfl (lv_at hl 2 rfl) ?_
  obtain ⟨x43_1, hx43_1, hf⟩ := kbind hf
  obtain ⟨uc43_2, us43_3, hf, e1, e2⟩ := kadd_some2 hf
  have e1 : uc = x43_1.2.1 + uc43_2 := e1
  have e2 : us = x43_1.2.2 + us43_3 := e2
  have hc : cells + x43_1.2.1 + uc43_2 = mc := by rw [Nat.add_assoc, ← e1]; exact hc
  have hs : slots + x43_1.2.2 + us43_3 = ms := by rw [Nat.add_assoc, ← e2]; exact hs
  have lc : cells + x43_1.2.1 ≤ mc := Nat.le.intro hc
  have ls2 : slots + x43_1.2.2 ≤ ms := Nat.le.intro hs
  refine kr_calli hH (kr_runV (as := [.int v2]) (rest := []) (pl := 7) V hH kYX6_dies kl_X6_135 (c_X6_dies l _ hx43_1 _) rfl rfl ⟨Nat.le_of_ble_eq_true rfl, Nat.le_of_ble_eq_true rfl⟩ (by decide) kE_7 rfl rfl hl.1 (Nat.le_of_ble_eq_true rfl) dX6_yearOn_45 ⟨lc, ls2⟩ rfl) (fun H locs hH => ?_)
  refine lv_pop hx hb dX6_yearOn_48 rfl ?_
  refine lv_iinc (v := (v1 + 1)) (lv' := [(1, .int (v1 + 1)), (0, .ref (ad 7)), (2, .int v2)]) hx hb dX6_yearOn_49 hl (k := 1) rfl rfl (by decide) rfl (fun ls hl => ?_)
  exact w_X6_yearOn_52 V hk14 hH (lv_sub hl [1, 0, 2] rfl) hf hc hs
set_option maxHeartbeats 4000000 in
set_option maxRecDepth 100000 in
theorem w_X6_yearOn_30 (V : kV p s mm args meth c cX6_yearOn RX6 3 (some .int) D cI cZ cO) {k : kS} {c14 : Int32 → Int32 → kS → Option ((Int32 × kS) × Nat × Nat)} (hk14 : ∀ {v1 : Int32} {v2 : Int32} {mo : kS} {H : Heap} {locs : List Loc} {ls : Array Slot} {cells slots mc ms uc us : Nat} {o : (Int32 × kS)}, kHE s H locs D ad cI cZ cO k mo [] → lv_has ls 3 [(0, .ref (ad 7)), (1, .int v1), (2, .int v2)] → c14 v1 v2 mo = some (o, uc, us) → cells + uc = mc → slots + us = ms → W p l e (rm_X6_yearOn mc ms) s mm args below meth c H locs cells slots (kGi below args s D cI cZ cO ad o.1 k o.2 mc ms) (F0 mm 14 ls [])) {v1 : Int32} {v2 : Int32} {mo : kS} {H : Heap} {locs : List Loc} {ls : Array Slot} {cells slots mc ms uc us : Nat} {o : (Int32 × kS)} (hH : kHE s H locs D ad cI cZ cO k mo []) (hl : lv_has ls 3 [(0, .ref (ad 7)), (1, .int v1), (2, .int v2)]) (hf : F_X6_yearOn_30 c14 v1 v2 mo = some (o, uc, us)) (hc : cells + uc = mc) (hs : slots + us = ms) : W p l e (rm_X6_yearOn mc ms) s mm args below meth c H locs cells slots (kGi below args s D cI cZ cO ad o.1 k o.2 mc ms) (F0 mm 30 ls []) := by
  have hx := V.1
  have hb := V.2.1
  refine lv_aload_n hx hb dX6_yearOn_30 rfl (lv_at hl 0 rfl) ?_
  refine lv_iload_n hx hb dX6_yearOn_31 rfl (lv_at hl 2 rfl) ?_
  obtain ⟨x30_1, hx30_1, hf⟩ := kbind hf
  refine kr_calli0 hH (kr_runV (as := [.int v2]) (rest := []) (pl := 7) V hH kYX6_age kl_X6_112 (c_X6_age l _ hx30_1 _) rfl rfl ⟨Nat.le_of_ble_eq_true rfl, Nat.le_of_ble_eq_true rfl⟩ (by decide) kE_7 rfl rfl hl.1 (Nat.le_of_ble_eq_true rfl) dX6_yearOn_32 ⟨by show cells + 0 ≤ mc; omega, by show slots + 0 ≤ ms; omega⟩ rfl) (fun H locs hH => ?_)
  refine lv_bipush (v := 80) hx hb dX6_yearOn_35 (by decide) ?_
  refine lv_icmp_ge (tgt := 43) hx hb dX6_yearOn_37 (by decide) (fun hq => ?_) (fun hq => ?_)
  · have hf := kpos hq hf
    exact w_X6_yearOn_43 V hk14 hH (lv_sub hl [0, 1, 2] rfl) hf hc hs
  · have hf := kneg hq hf
    exact w_X6_yearOn_40 V hk14 hH (lv_sub hl [0, 1, 2] rfl) hf hc hs
set_option maxHeartbeats 4000000 in
set_option maxRecDepth 100000 in
theorem w_X6_yearOn_22 (V : kV p s mm args meth c cX6_yearOn RX6 3 (some .int) D cI cZ cO) {k : kS} {c14 : Int32 → Int32 → kS → Option ((Int32 × kS) × Nat × Nat)} (hk14 : ∀ {v1 : Int32} {v2 : Int32} {mo : kS} {H : Heap} {locs : List Loc} {ls : Array Slot} {cells slots mc ms uc us : Nat} {o : (Int32 × kS)}, kHE s H locs D ad cI cZ cO k mo [] → lv_has ls 3 [(0, .ref (ad 7)), (1, .int v1), (2, .int v2)] → c14 v1 v2 mo = some (o, uc, us) → cells + uc = mc → slots + us = ms → W p l e (rm_X6_yearOn mc ms) s mm args below meth c H locs cells slots (kGi below args s D cI cZ cO ad o.1 k o.2 mc ms) (F0 mm 14 ls [])) {v1 : Int32} {v2 : Int32} {mo : kS} {H : Heap} {locs : List Loc} {ls : Array Slot} {cells slots mc ms uc us : Nat} {o : (Int32 × kS)} (hH : kHE s H locs D ad cI cZ cO k mo []) (hl : lv_has ls 3 [(0, .ref (ad 7)), (1, .int v1), (2, .int v2)]) (hf : F_X6_yearOn_22 c14 v1 v2 mo = some (o, uc, us)) (hc : cells + uc = mc) (hs : slots + us = ms) : W p l e (rm_X6_yearOn mc ms) s mm args below meth c H locs cells slots (kGi below args s D cI cZ cO ad o.1 k o.2 mc ms) (F0 mm 22 ls []) := by
  have hx := V.1
  have hb := V.2.1
  refine lv_aload_n hx hb dX6_yearOn_22 rfl (lv_at hl 0 rfl) ?_
  refine lv_iload_n hx hb dX6_yearOn_23 rfl (lv_at hl 2 rfl) ?_
  obtain ⟨x22_1, hx22_1, hf⟩ := kbind hf
  refine kr_calli0 hH (kr_runV (as := [.int v2]) (rest := []) (pl := 7) V hH kYX6_lives kl_X6_67 (c_X6_lives l _ hx22_1 _) rfl rfl ⟨Nat.le_of_ble_eq_true rfl, Nat.le_of_ble_eq_true rfl⟩ (by decide) kE_7 rfl rfl hl.1 (Nat.le_of_ble_eq_true rfl) dX6_yearOn_24 ⟨by show cells + 0 ≤ mc; omega, by show slots + 0 ≤ ms; omega⟩ rfl) (fun H locs hH => ?_)
  refine lv_if_eq (tgt := 52) hx hb dX6_yearOn_27 (by decide) (fun hq => ?_) (fun hq => ?_)
  · have hf := kpos hq hf
    exact w_X6_yearOn_52 V hk14 hH (lv_sub hl [0, 1, 2] rfl) hf hc hs
  · have hf := kneg hq hf
    exact w_X6_yearOn_30 V hk14 hH (lv_sub hl [0, 1, 2] rfl) hf hc hs
set_option maxHeartbeats 4000000 in
set_option maxRecDepth 100000 in
theorem w_X6_yearOn_58 (V : kV p s mm args meth c cX6_yearOn RX6 3 (some .int) D cI cZ cO) {k : kS} {v1 : Int32} {mo : kS} {H : Heap} {locs : List Loc} {ls : Array Slot} {cells slots mc ms uc us : Nat} {o : (Int32 × kS)} (hH : kHE s H locs D ad cI cZ cO k mo []) (hl : lv_has ls 3 [(1, .int v1)]) (hf : F_X6_yearOn_58 v1 mo = some (o, uc, us)) (hc : cells + uc = mc) (hs : slots + us = ms) : W p l e (rm_X6_yearOn mc ms) s mm args below meth c H locs cells slots (kGi below args s D cI cZ cO ad o.1 k o.2 mc ms) (F0 mm 58 ls []) := by
  have hx := V.1
  have hb := V.2.1
  refine lv_iload_n hx hb dX6_yearOn_58 rfl (lv_at hl 0 rfl) ?_
  cases hf
  subst hc
  subst hs
  exact kr_iret V hH dX6_yearOn_59
set_option maxHeartbeats 4000000 in
set_option maxRecDepth 100000 in
theorem w_X6_yearOn_14 (V : kV p s mm args meth c cX6_yearOn RX6 3 (some .int) D cI cZ cO) {k : kS} : ∀ (n : Nat) {v1 : Int32} {v2 : Int32} {mo : kS} {H : Heap} {locs : List Loc} {ls : Array Slot} {cells slots mc ms uc us : Nat} {o : (Int32 × kS)}, kHE s H locs D ad cI cZ cO k mo [] → lv_has ls 3 [(0, .ref (ad 7)), (1, .int v1), (2, .int v2)] → F_X6_yearOn_14 n v1 v2 mo = some (o, uc, us) → cells + uc = mc → slots + us = ms → W p l e (rm_X6_yearOn mc ms) s mm args below meth c H locs cells slots (kGi below args s D cI cZ cO ad o.1 k o.2 mc ms) (F0 mm 14 ls []) := by
  have hx := V.1
  have hb := V.2.1
  intro n
  induction n with
  | zero => intro _ _ _ _ _ _ _ _ _ _ _ _ _ hH hl hf hc hs; cases hf
  | succ n hk14 =>
    intro v1 v2 mo H locs ls cells slots mc ms uc us o hH hl hf hc hs
    refine lv_iload_n hx hb dX6_yearOn_14 rfl (lv_at hl 2 rfl) ?_
    refine lv_aload_n hx hb dX6_yearOn_15 rfl (lv_at hl 0 rfl) ?_
    refine kg_X6_35 V hH dX6_yearOn_16 ?_
    refine lv_icmp_ge (tgt := 58) hx hb dX6_yearOn_19 (by decide) (fun hq => ?_) (fun hq => ?_)
    · have hf := kpos hq hf
      exact w_X6_yearOn_58 V hH (lv_sub hl [1] rfl) hf hc hs
    · have hf := kneg hq hf
      exact w_X6_yearOn_22 V hk14 hH (lv_sub hl [0, 1, 2] rfl) hf hc hs
set_option maxHeartbeats 4000000 in
set_option maxRecDepth 100000 in
theorem w_X6_yearOn_0 (V : kV p s mm args meth c cX6_yearOn RX6 3 (some .int) D cI cZ cO) {k : kS} {mo : kS} {H : Heap} {locs : List Loc} {ls : Array Slot} {cells slots mc ms uc us : Nat} {o : (Int32 × kS)} (hH : kHE s H locs D ad cI cZ cO k mo []) (hl : lv_has ls 3 [(0, .ref (ad 7))]) (hf : F_X6_yearOn_0 mo = some (o, uc, us)) (hc : cells + uc = mc) (hs : slots + us = ms) : W p l e (rm_X6_yearOn mc ms) s mm args below meth c H locs cells slots (kGi below args s D cI cZ cO ad o.1 k o.2 mc ms) (F0 mm 0 ls []) := by
  have hx := V.1
  have hb := V.2.1
  refine lv_iconst (v := 0) hx hb dX6_yearOn_0 (by decide) ?_
  refine lv_istore_n (lv' := [(1, .int 0), (0, .ref (ad 7))]) hx hb dX6_yearOn_1 rfl hl (by decide) rfl (fun ls hl => ?_)
  refine lv_aload_n hx hb dX6_yearOn_2 rfl (lv_at hl 1 rfl) ?_
  refine kg_X6_19 V hH dX6_yearOn_3 ?_
  refine lv_iconst (v := 0) hx hb dX6_yearOn_6 (by decide) ?_
  refine lv_dup2_11 hx hb dX6_yearOn_7 rfl rfl ?_
  obtain ⟨h0_1, hf⟩ := kif hf
  refine kr_iald V hH (q := 11) (by decide) kE_11 h0_1 dX6_yearOn_8 ?_
  refine lv_iconst (v := 1) hx hb dX6_yearOn_9 (by decide) ?_
  refine lv_iadd hx hb dX6_yearOn_10 ?_
  obtain ⟨h0_2, hf⟩ := kif hf
  refine kr_iastM V hH (q := 11) (by decide) (fun _ => kE_11) h0_2 dX6_yearOn_11 (fun H locs hH => ?_)
  refine lv_iconst (v := 0) hx hb dX6_yearOn_12 (by decide) ?_
  refine lv_istore_n (lv' := [(2, .int 0), (1, .int 0), (0, .ref (ad 7))]) hx hb dX6_yearOn_13 rfl hl (by decide) rfl (fun ls hl => ?_)
  exact w_X6_yearOn_14 V kN hH (lv_sub hl [2, 1, 0] rfl) hf hc hs
set_option maxHeartbeats 4000000 in
set_option maxRecDepth 100000 in
theorem c_X6_yearOn (l : Launch) {D : va_G} {cI cZ cO : ClassId} {ad : Nat → Nat} {k mo : kS} {o : (Int32 × kS)} {mc ms : Nat} (hf : F_X6_yearOn mo = some (o, mc, ms)) (sz : Nat) : Met l yX6_yearOn (Cond.code yX6_yearOn cX6_yearOn 3 (some .int) :: kWA) (rm_X6_yearOn mc ms) (kP [.ref (ad 7)] D cI cZ cO ad (kE ad cI cZ cO k mo) sz) (kQi o.1 D cI cZ cO ad (kE ad cI cZ cO k o.2) sz) mc ms (fA ad sz) := by
  refine kr_met (as := [.ref (ad 7)]) (bytes := cX6_yearOn) (maxL := 3) (rt := (some .int)) (Qc := fun sz => kQi o.1 D cI cZ cO ad (kE ad cI cZ cO k o.2) sz) (lv := [(0, .ref (ad 7))]) (by decide +kernel) (Nat.le_of_ble_eq_true rfl) rfl (fun p e s mm below meth c ls V hH hl => ?_) sz
  exact w_X6_yearOn_0 V hH (lv_sub hl [0] rfl) hf (Nat.zero_add _) (Nat.zero_add _)
end
section
variable {p : Program} {l : Launch} {e : Env} {s : State} {mm : MethodId} {args : Array Value} {below : List Frame} {meth : Method} {c : Code} {D : va_G} {cI cZ cO : ClassId} {ad : Nat → Nat}
abbrev rm_X6_yearsOn (mc ms : Nat) : Room := { frames := 53, cells := mc, slots := ms, locals := 1310 }
set_option maxHeartbeats 4000000 in
set_option maxRecDepth 100000 in
theorem w_X6_yearsOn_9 (V : kV p s mm args meth c cX6_yearsOn RX6 4 (some .int) D cI cZ cO) {k : kS} {c4 : Int32 → Int32 → Int32 → kS → Option ((Int32 × kS) × Nat × Nat)} (hk4 : ∀ {v1 : Int32} {v2 : Int32} {v3 : Int32} {mo : kS} {H : Heap} {locs : List Loc} {ls : Array Slot} {cells slots mc ms uc us : Nat} {o : (Int32 × kS)}, kHE s H locs D ad cI cZ cO k mo [] → lv_has ls 4 [(0, .ref (ad 7)), (1, .int v1), (2, .int v2), (3, .int v3)] → c4 v1 v2 v3 mo = some (o, uc, us) → cells + uc = mc → slots + us = ms → W p l e (rm_X6_yearsOn mc ms) s mm args below meth c H locs cells slots (kGi below args s D cI cZ cO ad o.1 k o.2 mc ms) (F0 mm 4 ls [])) {v1 : Int32} {v2 : Int32} {v3 : Int32} {mo : kS} {H : Heap} {locs : List Loc} {ls : Array Slot} {cells slots mc ms uc us : Nat} {o : (Int32 × kS)} (hH : kHE s H locs D ad cI cZ cO k mo []) (hl : lv_has ls 4 [(0, .ref (ad 7)), (1, .int v1), (2, .int v2), (3, .int v3)]) (hf : F_X6_yearsOn_9 c4 v1 v2 v3 mo = some (o, uc, us)) (hc : cells + uc = mc) (hs : slots + us = ms) : W p l e (rm_X6_yearsOn mc ms) s mm args below meth c H locs cells slots (kGi below args s D cI cZ cO ad o.1 k o.2 mc ms) (F0 mm 9 ls []) := by
  have hx := V.1
  have hb := V.2.1
  refine lv_iload_n hx hb dX6_yearsOn_9 rfl (lv_at hl 2 rfl) ?_
  refine lv_aload_n hx hb dX6_yearsOn_10 rfl (lv_at hl 0 rfl) ?_
  obtain ⟨x9_1, hx9_1, hf⟩ := kbind hf
  obtain ⟨uc9_2, us9_3, hf, e1, e2⟩ := kadd_some2 hf
  have e1 : uc = x9_1.2.1 + uc9_2 := e1
  have e2 : us = x9_1.2.2 + us9_3 := e2
  have hc : cells + x9_1.2.1 + uc9_2 = mc := by rw [Nat.add_assoc, ← e1]; exact hc
  have hs : slots + x9_1.2.2 + us9_3 = ms := by rw [Nat.add_assoc, ← e2]; exact hs
  have lc : cells + x9_1.2.1 ≤ mc := Nat.le.intro hc
  have ls2 : slots + x9_1.2.2 ≤ ms := Nat.le.intro hs
  refine kr_calli hH (kr_runV (as := []) (rest := [.int v2]) (pl := 7) V hH kYX6_yearOn kl_X6_156 (c_X6_yearOn l hx9_1 _) rfl rfl ⟨Nat.le_of_ble_eq_true rfl, Nat.le_of_ble_eq_true rfl⟩ (by decide) kE_7 rfl rfl hl.1 (Nat.le_of_ble_eq_true rfl) dX6_yearsOn_11 ⟨lc, ls2⟩ rfl) (fun H locs hH => ?_)
  refine lv_iadd hx hb dX6_yearsOn_14 ?_
  refine lv_istore_n (lv' := [(2, .int (v2 + x9_1.1.1)), (0, .ref (ad 7)), (1, .int v1), (3, .int v3)]) hx hb dX6_yearsOn_15 rfl hl (by decide) rfl (fun ls hl => ?_)
  refine lv_iinc (v := (v3 + 1)) (lv' := [(3, .int (v3 + 1)), (2, .int (v2 + x9_1.1.1)), (0, .ref (ad 7)), (1, .int v1)]) hx hb dX6_yearsOn_16 hl (k := 3) rfl rfl (by decide) rfl (fun ls hl => ?_)
  refine lv_goto (tgt := 4) hx hb dX6_yearsOn_19 (by decide) ?_
  exact hk4 hH (lv_sub hl [2, 3, 1, 0] rfl) hf hc hs
set_option maxHeartbeats 4000000 in
set_option maxRecDepth 100000 in
theorem w_X6_yearsOn_22 (V : kV p s mm args meth c cX6_yearsOn RX6 4 (some .int) D cI cZ cO) {k : kS} {v2 : Int32} {mo : kS} {H : Heap} {locs : List Loc} {ls : Array Slot} {cells slots mc ms uc us : Nat} {o : (Int32 × kS)} (hH : kHE s H locs D ad cI cZ cO k mo []) (hl : lv_has ls 4 [(2, .int v2)]) (hf : F_X6_yearsOn_22 v2 mo = some (o, uc, us)) (hc : cells + uc = mc) (hs : slots + us = ms) : W p l e (rm_X6_yearsOn mc ms) s mm args below meth c H locs cells slots (kGi below args s D cI cZ cO ad o.1 k o.2 mc ms) (F0 mm 22 ls []) := by
  have hx := V.1
  have hb := V.2.1
  refine lv_iload_n hx hb dX6_yearsOn_22 rfl (lv_at hl 0 rfl) ?_
  cases hf
  subst hc
  subst hs
  exact kr_iret V hH dX6_yearsOn_23
set_option maxHeartbeats 4000000 in
set_option maxRecDepth 100000 in
theorem w_X6_yearsOn_4 (V : kV p s mm args meth c cX6_yearsOn RX6 4 (some .int) D cI cZ cO) {k : kS} : ∀ (n : Nat) {v1 : Int32} {v2 : Int32} {v3 : Int32} {mo : kS} {H : Heap} {locs : List Loc} {ls : Array Slot} {cells slots mc ms uc us : Nat} {o : (Int32 × kS)}, kHE s H locs D ad cI cZ cO k mo [] → lv_has ls 4 [(0, .ref (ad 7)), (1, .int v1), (2, .int v2), (3, .int v3)] → F_X6_yearsOn_4 n v1 v2 v3 mo = some (o, uc, us) → cells + uc = mc → slots + us = ms → W p l e (rm_X6_yearsOn mc ms) s mm args below meth c H locs cells slots (kGi below args s D cI cZ cO ad o.1 k o.2 mc ms) (F0 mm 4 ls []) := by
  have hx := V.1
  have hb := V.2.1
  intro n
  induction n with
  | zero => intro _ _ _ _ _ _ _ _ _ _ _ _ _ _ hH hl hf hc hs; cases hf
  | succ n hk4 =>
    intro v1 v2 v3 mo H locs ls cells slots mc ms uc us o hH hl hf hc hs
    refine lv_iload_n hx hb dX6_yearsOn_4 rfl (lv_at hl 3 rfl) ?_
    refine lv_iload_n hx hb dX6_yearsOn_5 rfl (lv_at hl 1 rfl) ?_
    refine lv_icmp_ge (tgt := 22) hx hb dX6_yearsOn_6 (by decide) (fun hq => ?_) (fun hq => ?_)
    · have hf := kpos hq hf
      exact w_X6_yearsOn_22 V hH (lv_sub hl [2] rfl) hf hc hs
    · have hf := kneg hq hf
      exact w_X6_yearsOn_9 V hk4 hH (lv_sub hl [0, 1, 2, 3] rfl) hf hc hs
set_option maxHeartbeats 4000000 in
set_option maxRecDepth 100000 in
theorem w_X6_yearsOn_0 (V : kV p s mm args meth c cX6_yearsOn RX6 4 (some .int) D cI cZ cO) {k : kS} {v1 : Int32} {mo : kS} {H : Heap} {locs : List Loc} {ls : Array Slot} {cells slots mc ms uc us : Nat} {o : (Int32 × kS)} (hH : kHE s H locs D ad cI cZ cO k mo []) (hl : lv_has ls 4 [(0, .ref (ad 7)), (1, .int v1)]) (hf : F_X6_yearsOn_0 v1 mo = some (o, uc, us)) (hc : cells + uc = mc) (hs : slots + us = ms) : W p l e (rm_X6_yearsOn mc ms) s mm args below meth c H locs cells slots (kGi below args s D cI cZ cO ad o.1 k o.2 mc ms) (F0 mm 0 ls []) := by
  have hx := V.1
  have hb := V.2.1
  refine lv_iconst (v := 0) hx hb dX6_yearsOn_0 (by decide) ?_
  refine lv_istore_n (lv' := [(2, .int 0), (0, .ref (ad 7)), (1, .int v1)]) hx hb dX6_yearsOn_1 rfl hl (by decide) rfl (fun ls hl => ?_)
  refine lv_iconst (v := 0) hx hb dX6_yearsOn_2 (by decide) ?_
  refine lv_istore_n (lv' := [(3, .int 0), (2, .int 0), (0, .ref (ad 7)), (1, .int v1)]) hx hb dX6_yearsOn_3 rfl hl (by decide) rfl (fun ls hl => ?_)
  exact w_X6_yearsOn_4 V kN hH (lv_sub hl [2, 3, 1, 0] rfl) hf hc hs
set_option maxHeartbeats 4000000 in
set_option maxRecDepth 100000 in
theorem c_X6_yearsOn (l : Launch) {D : va_G} {cI cZ cO : ClassId} {ad : Nat → Nat} {k mo : kS} (v1 : Int32) {o : (Int32 × kS)} {mc ms : Nat} (hf : F_X6_yearsOn v1 mo = some (o, mc, ms)) (sz : Nat) : Met l yX6_yearsOn (Cond.code yX6_yearsOn cX6_yearsOn 4 (some .int) :: kWA) (rm_X6_yearsOn mc ms) (kP [.ref (ad 7), .int v1] D cI cZ cO ad (kE ad cI cZ cO k mo) sz) (kQi o.1 D cI cZ cO ad (kE ad cI cZ cO k o.2) sz) mc ms (fA ad sz) := by
  refine kr_met (as := [.ref (ad 7), .int v1]) (bytes := cX6_yearsOn) (maxL := 4) (rt := (some .int)) (Qc := fun sz => kQi o.1 D cI cZ cO ad (kE ad cI cZ cO k o.2) sz) (lv := [(0, .ref (ad 7)), (1, .int v1)]) (by decide +kernel) (Nat.le_of_ble_eq_true rfl) rfl (fun p e s mm below meth c ls V hH hl => ?_) sz
  exact w_X6_yearsOn_0 V hH (lv_sub hl [0, 1] rfl) hf (Nat.zero_add _) (Nat.zero_add _)
end
section
variable {p : Program} {l : Launch} {e : Env} {s : State} {mm : MethodId} {args : Array Value} {below : List Frame} {meth : Method} {c : Code} {D : va_G} {cI cZ cO : ClassId} {ad : Nat → Nat}
abbrev rm_X6_pass (mc ms : Nat) : Room := { frames := 54, cells := mc, slots := ms, locals := 1333 }
set_option maxHeartbeats 4000000 in
set_option maxRecDepth 100000 in
theorem w_X6_pass_28 (V : kV p s mm args meth c cX6_pass RX6 2 (some .int) D cI cZ cO) {k : kS} {s0 : Int32} {mo : kS} {H : Heap} {locs : List Loc} {ls : Array Slot} {cells slots mc ms uc us : Nat} {o : (Int32 × kS)} (hH : kHE s H locs D ad cI cZ cO k mo []) (hl : lv_has ls 2 []) (hf : F_X6_pass_28 s0 mo = some (o, uc, us)) (hc : cells + uc = mc) (hs : slots + us = ms) : W p l e (rm_X6_pass mc ms) s mm args below meth c H locs cells slots (kGi below args s D cI cZ cO ad o.1 k o.2 mc ms) (F0 mm 28 ls [.int s0]) := by
  have hx := V.1
  have hb := V.2.1
  cases hf
  subst hc
  subst hs
  exact kr_iret V hH dX6_pass_28
set_option maxHeartbeats 4000000 in
set_option maxRecDepth 100000 in
theorem w_X6_pass_15 (V : kV p s mm args meth c cX6_pass RX6 2 (some .int) D cI cZ cO) {k : kS} {v1 : Int32} {mo : kS} {H : Heap} {locs : List Loc} {ls : Array Slot} {cells slots mc ms uc us : Nat} {o : (Int32 × kS)} (hH : kHE s H locs D ad cI cZ cO k mo []) (hl : lv_has ls 2 [(0, .ref (ad 7)), (1, .int v1)]) (hf : F_X6_pass_15 v1 mo = some (o, uc, us)) (hc : cells + uc = mc) (hs : slots + us = ms) : W p l e (rm_X6_pass mc ms) s mm args below meth c H locs cells slots (kGi below args s D cI cZ cO ad o.1 k o.2 mc ms) (F0 mm 15 ls []) := by
  have hx := V.1
  have hb := V.2.1
  refine lv_aload_n hx hb dX6_pass_15 rfl (lv_at hl 0 rfl) ?_
  refine lv_iload_n hx hb dX6_pass_16 rfl (lv_at hl 1 rfl) ?_
  obtain ⟨x15_1, hx15_1, hf⟩ := kbind hf
  obtain ⟨uc15_2, us15_3, hf, e1, e2⟩ := kadd_some2 hf
  have e1 : uc = x15_1.2.1 + uc15_2 := e1
  have e2 : us = x15_1.2.2 + us15_3 := e2
  have hc : cells + x15_1.2.1 + uc15_2 = mc := by rw [Nat.add_assoc, ← e1]; exact hc
  have hs : slots + x15_1.2.2 + us15_3 = ms := by rw [Nat.add_assoc, ← e2]; exact hs
  have lc : cells + x15_1.2.1 ≤ mc := Nat.le.intro hc
  have ls2 : slots + x15_1.2.2 ≤ ms := Nat.le.intro hs
  refine kr_calli hH (kr_runV (as := [.int v1]) (rest := []) (pl := 7) V hH kYX6_yearsOn kl_X6_160 (c_X6_yearsOn l _ hx15_1 _) rfl rfl ⟨Nat.le_of_ble_eq_true rfl, Nat.le_of_ble_eq_true rfl⟩ (by decide) kE_7 rfl rfl hl.1 (Nat.le_of_ble_eq_true rfl) dX6_pass_17 ⟨lc, ls2⟩ rfl) (fun H locs hH => ?_)
  refine lv_goto (tgt := 28) hx hb dX6_pass_20 (by decide) ?_
  exact w_X6_pass_28 V hH (lv_sub hl [] rfl) hf hc hs
set_option maxHeartbeats 4000000 in
set_option maxRecDepth 100000 in
theorem w_X6_pass_23 (V : kV p s mm args meth c cX6_pass RX6 2 (some .int) D cI cZ cO) {k : kS} {mo : kS} {H : Heap} {locs : List Loc} {ls : Array Slot} {cells slots mc ms uc us : Nat} {o : (Int32 × kS)} (hH : kHE s H locs D ad cI cZ cO k mo []) (hl : lv_has ls 2 [(0, .ref (ad 7))]) (hf : F_X6_pass_23 mo = some (o, uc, us)) (hc : cells + uc = mc) (hs : slots + us = ms) : W p l e (rm_X6_pass mc ms) s mm args below meth c H locs cells slots (kGi below args s D cI cZ cO ad o.1 k o.2 mc ms) (F0 mm 23 ls []) := by
  have hx := V.1
  have hb := V.2.1
  refine lv_aload_n hx hb dX6_pass_23 rfl (lv_at hl 0 rfl) ?_
  refine lv_iconst (v := 1) hx hb dX6_pass_24 (by decide) ?_
  obtain ⟨x23_1, hx23_1, hf⟩ := kbind hf
  refine kr_calli0 hH (kr_runV (as := [.int 1]) (rest := []) (pl := 7) V hH kYX6_fail kl_X6_55 (c_X6_fail l _ hx23_1 _) rfl rfl ⟨Nat.le_of_ble_eq_true rfl, Nat.le_of_ble_eq_true rfl⟩ (by decide) kE_7 rfl rfl hl.1 (Nat.le_of_ble_eq_true rfl) dX6_pass_25 ⟨by show cells + 0 ≤ mc; omega, by show slots + 0 ≤ ms; omega⟩ rfl) (fun H locs hH => ?_)
  exact w_X6_pass_28 V hH (lv_sub hl [] rfl) hf hc hs
set_option maxHeartbeats 4000000 in
set_option maxRecDepth 100000 in
theorem w_X6_pass_0 (V : kV p s mm args meth c cX6_pass RX6 2 (some .int) D cI cZ cO) {k : kS} {v1 : Int32} {mo : kS} {H : Heap} {locs : List Loc} {ls : Array Slot} {cells slots mc ms uc us : Nat} {o : (Int32 × kS)} (hH : kHE s H locs D ad cI cZ cO k mo []) (hl : lv_has ls 2 [(0, .ref (ad 7)), (1, .int v1)]) (hf : F_X6_pass_0 v1 mo = some (o, uc, us)) (hc : cells + uc = mc) (hs : slots + us = ms) : W p l e (rm_X6_pass mc ms) s mm args below meth c H locs cells slots (kGi below args s D cI cZ cO ad o.1 k o.2 mc ms) (F0 mm 0 ls []) := by
  have hx := V.1
  have hb := V.2.1
  refine lv_aload_n hx hb dX6_pass_0 rfl (lv_at hl 0 rfl) ?_
  refine lv_iconst (v := 0) hx hb dX6_pass_1 (by decide) ?_
  refine kp_X6_31 V hH dX6_pass_2 (fun H locs hH => ?_)
  refine lv_iload_n hx hb dX6_pass_5 rfl (lv_at hl 1 rfl) ?_
  refine lv_iconst (v := 1) hx hb dX6_pass_6 (by decide) ?_
  refine lv_bipush (v := 100) hx hb dX6_pass_7 (by decide) ?_
  obtain ⟨x0_1, hx0_1, hf⟩ := kbind hf
  refine kr_calli0 hH (kr_runS (as := [.int v1, .int 1, .int 100]) (rest := []) V hH kYX6_isIn kl_X6_38 (c_X6_isIn l _ _ _ hx0_1 _) rfl rfl ⟨Nat.le_of_ble_eq_true rfl, Nat.le_of_ble_eq_true rfl⟩ rfl hl.1 (Nat.le_of_ble_eq_true rfl) dX6_pass_9 ⟨by show cells + 0 ≤ mc; omega, by show slots + 0 ≤ ms; omega⟩ rfl) (fun H locs hH => ?_)
  refine lv_if_eq (tgt := 23) hx hb dX6_pass_12 (by decide) (fun hq => ?_) (fun hq => ?_)
  · have hf := kpos hq hf
    exact w_X6_pass_23 V hH (lv_sub hl [0] rfl) hf hc hs
  · have hf := kneg hq hf
    exact w_X6_pass_15 V hH (lv_sub hl [0, 1] rfl) hf hc hs
set_option maxHeartbeats 4000000 in
set_option maxRecDepth 100000 in
theorem c_X6_pass (l : Launch) {D : va_G} {cI cZ cO : ClassId} {ad : Nat → Nat} {k mo : kS} (v1 : Int32) {o : (Int32 × kS)} {mc ms : Nat} (hf : F_X6_pass v1 mo = some (o, mc, ms)) (sz : Nat) : Met l yX6_pass (Cond.code yX6_pass cX6_pass 2 (some .int) :: kWA) (rm_X6_pass mc ms) (kP [.ref (ad 7), .int v1] D cI cZ cO ad (kE ad cI cZ cO k mo) sz) (kQi o.1 D cI cZ cO ad (kE ad cI cZ cO k o.2) sz) mc ms (fA ad sz) := by
  refine kr_met (as := [.ref (ad 7), .int v1]) (bytes := cX6_pass) (maxL := 2) (rt := (some .int)) (Qc := fun sz => kQi o.1 D cI cZ cO ad (kE ad cI cZ cO k o.2) sz) (lv := [(0, .ref (ad 7)), (1, .int v1)]) (by decide +kernel) (Nat.le_of_ble_eq_true rfl) rfl (fun p e s mm below meth c ls V hH hl => ?_) sz
  exact w_X6_pass_0 V hH (lv_sub hl [0, 1] rfl) hf (Nat.zero_add _) (Nat.zero_add _)
end
