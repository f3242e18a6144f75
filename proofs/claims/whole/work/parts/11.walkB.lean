section
variable {p : Program} {l : Launch} {e : Env} {s : State} {mm : MethodId} {args : Array Value} {below : List Frame} {meth : Method} {c : Code} {D : va_G} {cI cZ cO : ClassId} {ad : Nat → Nat}
abbrev rm_X6_thrown : Room := { frames := 0, cells := 0, slots := 0, locals := 0 }
set_option maxHeartbeats 4000000 in
set_option maxRecDepth 100000 in
theorem w_X6_thrown_0 (V : kV p s mm args meth c cX6_thrown RX6 1 (some .int) D cI cZ cO) {k mo : kS} {H : Heap} {locs : List Loc} {ls : Array Slot} {out : Int32} (hH : kHE s H locs D ad cI cZ cO k mo []) (hl : lv_has ls 1 [(0, .ref (ad 7))]) (hf : F_X6_thrown_0 mo = some out) : W p l e rm_X6_thrown s mm args below meth c H locs 0 0 (kGi below args s D cI cZ cO ad out k mo 0 0) (F0 mm 0 ls []) := by
  have hx := V.1
  have hb := V.2.1
  refine lv_aload_n hx hb dX6_thrown_0 rfl (lv_at hl 0 rfl) ?_
  refine kg_X6_31 V hH dX6_thrown_1 ?_
  cases hf
  exact kr_iret V hH dX6_thrown_4
set_option maxHeartbeats 4000000 in
set_option maxRecDepth 100000 in
theorem c_X6_thrown (l : Launch) {D : va_G} {cI cZ cO : ClassId} {ad : Nat → Nat} {k mo : kS} {out : Int32} (hf : F_X6_thrown mo = some out) (sz : Nat) : Met l yX6_thrown (Cond.code yX6_thrown cX6_thrown 1 (some .int) :: kWA) rm_X6_thrown (kP [.ref (ad 7)] D cI cZ cO ad (kE ad cI cZ cO k mo) sz) (kQi out D cI cZ cO ad (kE ad cI cZ cO k mo) sz) 0 0 (fA ad sz) := by
  refine kr_met (as := [.ref (ad 7)]) (bytes := cX6_thrown) (maxL := 1) (rt := (some .int)) (Qc := fun sz => kQi out D cI cZ cO ad (kE ad cI cZ cO k mo) sz) (lv := [(0, .ref (ad 7))]) (by decide +kernel) (Nat.le_of_ble_eq_true rfl) rfl (fun p e s mm below meth c ls V hH hl => ?_) sz
  exact w_X6_thrown_0 V hH (lv_sub hl [0] rfl) hf
end
section
variable {p : Program} {l : Launch} {e : Env} {s : State} {mm : MethodId} {args : Array Value} {below : List Frame} {meth : Method} {c : Code} {D : va_G} {cI cZ cO : ClassId} {ad : Nat → Nat}
abbrev rm_X6_fail : Room := { frames := 0, cells := 0, slots := 0, locals := 0 }
set_option maxHeartbeats 4000000 in
set_option maxRecDepth 100000 in
theorem w_X6_fail_0 (V : kV p s mm args meth c cX6_fail RX6 2 (some .int) D cI cZ cO) {k : kS} {v1 : Int32} {mo : kS} {H : Heap} {locs : List Loc} {ls : Array Slot} {out : (Int32 × kS)} (hH : kHE s H locs D ad cI cZ cO k mo []) (hl : lv_has ls 2 [(0, .ref (ad 7)), (1, .int v1)]) (hf : F_X6_fail_0 v1 mo = some out) : W p l e rm_X6_fail s mm args below meth c H locs 0 0 (kGi below args s D cI cZ cO ad out.1 k out.2 0 0) (F0 mm 0 ls []) := by
  have hx := V.1
  have hb := V.2.1
  refine lv_aload_n hx hb dX6_fail_0 rfl (lv_at hl 0 rfl) ?_
  refine lv_iload_n hx hb dX6_fail_1 rfl (lv_at hl 1 rfl) ?_
  refine kp_X6_31 V hH dX6_fail_2 (fun H locs hH => ?_)
  refine lv_iconst (v := 0) hx hb dX6_fail_5 (by decide) ?_
  cases hf
  exact kr_iret V hH dX6_fail_6
set_option maxHeartbeats 4000000 in
set_option maxRecDepth 100000 in
theorem c_X6_fail (l : Launch) {D : va_G} {cI cZ cO : ClassId} {ad : Nat → Nat} {k mo : kS} (v1 : Int32) {out : (Int32 × kS)} (hf : F_X6_fail v1 mo = some out) (sz : Nat) : Met l yX6_fail (Cond.code yX6_fail cX6_fail 2 (some .int) :: kWA) rm_X6_fail (kP [.ref (ad 7), .int v1] D cI cZ cO ad (kE ad cI cZ cO k mo) sz) (kQi out.1 D cI cZ cO ad (kE ad cI cZ cO k out.2) sz) 0 0 (fA ad sz) := by
  refine kr_met (as := [.ref (ad 7), .int v1]) (bytes := cX6_fail) (maxL := 2) (rt := (some .int)) (Qc := fun sz => kQi out.1 D cI cZ cO ad (kE ad cI cZ cO k out.2) sz) (lv := [(0, .ref (ad 7)), (1, .int v1)]) (by decide +kernel) (Nat.le_of_ble_eq_true rfl) rfl (fun p e s mm below meth c ls V hH hl => ?_) sz
  exact w_X6_fail_0 V hH (lv_sub hl [0, 1] rfl) hf
end
section
variable {p : Program} {l : Launch} {e : Env} {s : State} {mm : MethodId} {args : Array Value} {below : List Frame} {meth : Method} {c : Code} {D : va_G} {cI cZ cO : ClassId} {ad : Nat → Nat}
abbrev rm_X6_isIn : Room := { frames := 0, cells := 0, slots := 0, locals := 0 }
set_option maxHeartbeats 4000000 in
set_option maxRecDepth 100000 in
theorem w_X6_isIn_15 (V : kV p s mm args meth c cX6_isIn RX6 3 (some .boolean) D cI cZ cO) {k mo : kS} {s0 : Int32} {H : Heap} {locs : List Loc} {ls : Array Slot} {out : Int32} (hH : kHE s H locs D ad cI cZ cO k mo []) (hl : lv_has ls 3 []) (hf : F_X6_isIn_15 mo s0 = some out) : W p l e rm_X6_isIn s mm args below meth c H locs 0 0 (kGi below args s D cI cZ cO ad out k mo 0 0) (F0 mm 15 ls [.int s0]) := by
  have hx := V.1
  have hb := V.2.1
  obtain ⟨h15_1, hf⟩ := kif hf
  cases hf
  exact kr_zret V hH (Decidable.not_not.mp h15_1) dX6_isIn_15
set_option maxHeartbeats 4000000 in
set_option maxRecDepth 100000 in
theorem w_X6_isIn_10 (V : kV p s mm args meth c cX6_isIn RX6 3 (some .boolean) D cI cZ cO) {k mo : kS} {H : Heap} {locs : List Loc} {ls : Array Slot} {out : Int32} (hH : kHE s H locs D ad cI cZ cO k mo []) (hl : lv_has ls 3 []) (hf : F_X6_isIn_10 mo = some out) : W p l e rm_X6_isIn s mm args below meth c H locs 0 0 (kGi below args s D cI cZ cO ad out k mo 0 0) (F0 mm 10 ls []) := by
  have hx := V.1
  have hb := V.2.1
  refine lv_iconst (v := 1) hx hb dX6_isIn_10 (by decide) ?_
  refine lv_goto (tgt := 15) hx hb dX6_isIn_11 (by decide) ?_
  exact w_X6_isIn_15 V hH (lv_sub hl [] rfl) hf
set_option maxHeartbeats 4000000 in
set_option maxRecDepth 100000 in
theorem w_X6_isIn_14 (V : kV p s mm args meth c cX6_isIn RX6 3 (some .boolean) D cI cZ cO) {k mo : kS} {H : Heap} {locs : List Loc} {ls : Array Slot} {out : Int32} (hH : kHE s H locs D ad cI cZ cO k mo []) (hl : lv_has ls 3 []) (hf : F_X6_isIn_14 mo = some out) : W p l e rm_X6_isIn s mm args below meth c H locs 0 0 (kGi below args s D cI cZ cO ad out k mo 0 0) (F0 mm 14 ls []) := by
  have hx := V.1
  have hb := V.2.1
  refine lv_iconst (v := 0) hx hb dX6_isIn_14 (by decide) ?_
  exact w_X6_isIn_15 V hH (lv_sub hl [] rfl) hf
set_option maxHeartbeats 4000000 in
set_option maxRecDepth 100000 in
theorem w_X6_isIn_5 (V : kV p s mm args meth c cX6_isIn RX6 3 (some .boolean) D cI cZ cO) {k mo : kS} {v0 : Int32} {v2 : Int32} {H : Heap} {locs : List Loc} {ls : Array Slot} {out : Int32} (hH : kHE s H locs D ad cI cZ cO k mo []) (hl : lv_has ls 3 [(0, .int v0), (2, .int v2)]) (hf : F_X6_isIn_5 mo v0 v2 = some out) : W p l e rm_X6_isIn s mm args below meth c H locs 0 0 (kGi below args s D cI cZ cO ad out k mo 0 0) (F0 mm 5 ls []) := by
  have hx := V.1
  have hb := V.2.1
  refine lv_iload_n hx hb dX6_isIn_5 rfl (lv_at hl 0 rfl) ?_
  refine lv_iload_n hx hb dX6_isIn_6 rfl (lv_at hl 1 rfl) ?_
  refine lv_icmp_gt (tgt := 14) hx hb dX6_isIn_7 (by decide) (fun hq => ?_) (fun hq => ?_)
  · have hf := kpos hq hf
    exact w_X6_isIn_14 V hH (lv_sub hl [] rfl) hf
  · have hf := kneg hq hf
    exact w_X6_isIn_10 V hH (lv_sub hl [] rfl) hf
set_option maxHeartbeats 4000000 in
set_option maxRecDepth 100000 in
theorem w_X6_isIn_0 (V : kV p s mm args meth c cX6_isIn RX6 3 (some .boolean) D cI cZ cO) {k mo : kS} {v0 : Int32} {v1 : Int32} {v2 : Int32} {H : Heap} {locs : List Loc} {ls : Array Slot} {out : Int32} (hH : kHE s H locs D ad cI cZ cO k mo []) (hl : lv_has ls 3 [(0, .int v0), (1, .int v1), (2, .int v2)]) (hf : F_X6_isIn_0 mo v0 v1 v2 = some out) : W p l e rm_X6_isIn s mm args below meth c H locs 0 0 (kGi below args s D cI cZ cO ad out k mo 0 0) (F0 mm 0 ls []) := by
  have hx := V.1
  have hb := V.2.1
  refine lv_iload_n hx hb dX6_isIn_0 rfl (lv_at hl 0 rfl) ?_
  refine lv_iload_n hx hb dX6_isIn_1 rfl (lv_at hl 1 rfl) ?_
  refine lv_icmp_lt (tgt := 14) hx hb dX6_isIn_2 (by decide) (fun hq => ?_) (fun hq => ?_)
  · have hf := kpos hq hf
    exact w_X6_isIn_14 V hH (lv_sub hl [] rfl) hf
  · have hf := kneg hq hf
    exact w_X6_isIn_5 V hH (lv_sub hl [0, 2] rfl) hf
set_option maxHeartbeats 4000000 in
set_option maxRecDepth 100000 in
theorem c_X6_isIn (l : Launch) {D : va_G} {cI cZ cO : ClassId} {ad : Nat → Nat} {k mo : kS} (v0 : Int32) (v1 : Int32) (v2 : Int32) {out : Int32} (hf : F_X6_isIn mo v0 v1 v2 = some out) (sz : Nat) : Met l yX6_isIn (Cond.code yX6_isIn cX6_isIn 3 (some .boolean) :: kWA) rm_X6_isIn (kP [.int v0, .int v1, .int v2] D cI cZ cO ad (kE ad cI cZ cO k mo) sz) (kQi out D cI cZ cO ad (kE ad cI cZ cO k mo) sz) 0 0 (fA ad sz) := by
  refine kr_met (as := [.int v0, .int v1, .int v2]) (bytes := cX6_isIn) (maxL := 3) (rt := (some .boolean)) (Qc := fun sz => kQi out D cI cZ cO ad (kE ad cI cZ cO k mo) sz) (lv := [(0, .int v0), (1, .int v1), (2, .int v2)]) (by decide +kernel) (Nat.le_of_ble_eq_true rfl) rfl (fun p e s mm below meth c ls V hH hl => ?_) sz
  exact w_X6_isIn_0 V hH (lv_sub hl [0, 1, 2] rfl) hf
end
section
variable {p : Program} {l : Launch} {e : Env} {s : State} {mm : MethodId} {args : Array Value} {below : List Frame} {meth : Method} {c : Code} {D : va_G} {cI cZ cO : ClassId} {ad : Nat → Nat}
abbrev rm_X6_isPerson : Room := { frames := 1, cells := 0, slots := 0, locals := 22 }
set_option maxHeartbeats 4000000 in
set_option maxRecDepth 100000 in
theorem w_X6_isPerson_0 (V : kV p s mm args meth c cX6_isPerson RX6 2 (some .boolean) D cI cZ cO) {k mo : kS} {v1 : Int32} {H : Heap} {locs : List Loc} {ls : Array Slot} {out : Int32} (hH : kHE s H locs D ad cI cZ cO k mo []) (hl : lv_has ls 2 [(0, .ref (ad 7)), (1, .int v1)]) (hf : F_X6_isPerson_0 mo v1 = some out) : W p l e rm_X6_isPerson s mm args below meth c H locs 0 0 (kGi below args s D cI cZ cO ad out k mo 0 0) (F0 mm 0 ls []) := by
  have hx := V.1
  have hb := V.2.1
  refine lv_iload_n hx hb dX6_isPerson_0 rfl (lv_at hl 1 rfl) ?_
  refine lv_iconst (v := 0) hx hb dX6_isPerson_1 (by decide) ?_
  refine lv_aload_n hx hb dX6_isPerson_2 rfl (lv_at hl 0 rfl) ?_
  refine kg_X6_35 V hH dX6_isPerson_3 ?_
  refine lv_iconst (v := 1) hx hb dX6_isPerson_6 (by decide) ?_
  refine lv_isub hx hb dX6_isPerson_7 ?_
  obtain ⟨x0_1, hx0_1, hf⟩ := kbind hf
  refine kr_calli0 hH (kr_runS (as := [.int v1, .int 0, .int ((mo 7 1) - 1)]) (rest := []) V hH kYX6_isIn kl_X6_38 (c_X6_isIn l _ _ _ hx0_1 _) rfl rfl ⟨Nat.le_of_ble_eq_true rfl, Nat.le_of_ble_eq_true rfl⟩ rfl hl.1 (Nat.le_of_ble_eq_true rfl) dX6_isPerson_8 ⟨Nat.le_refl _, Nat.le_refl _⟩ rfl) (fun H locs hH => ?_)
  obtain ⟨h0_2, hf⟩ := kif hf
  cases hf
  exact kr_zret V hH (Decidable.not_not.mp h0_2) dX6_isPerson_11
set_option maxHeartbeats 4000000 in
set_option maxRecDepth 100000 in
theorem c_X6_isPerson (l : Launch) {D : va_G} {cI cZ cO : ClassId} {ad : Nat → Nat} {k mo : kS} (v1 : Int32) {out : Int32} (hf : F_X6_isPerson mo v1 = some out) (sz : Nat) : Met l yX6_isPerson (Cond.code yX6_isPerson cX6_isPerson 2 (some .boolean) :: kWA) rm_X6_isPerson (kP [.ref (ad 7), .int v1] D cI cZ cO ad (kE ad cI cZ cO k mo) sz) (kQi out D cI cZ cO ad (kE ad cI cZ cO k mo) sz) 0 0 (fA ad sz) := by
  refine kr_met (as := [.ref (ad 7), .int v1]) (bytes := cX6_isPerson) (maxL := 2) (rt := (some .boolean)) (Qc := fun sz => kQi out D cI cZ cO ad (kE ad cI cZ cO k mo) sz) (lv := [(0, .ref (ad 7)), (1, .int v1)]) (by decide +kernel) (Nat.le_of_ble_eq_true rfl) rfl (fun p e s mm below meth c ls V hH hl => ?_) sz
  exact w_X6_isPerson_0 V hH (lv_sub hl [0, 1] rfl) hf
end
section
variable {p : Program} {l : Launch} {e : Env} {s : State} {mm : MethodId} {args : Array Value} {below : List Frame} {meth : Method} {c : Code} {D : va_G} {cI cZ cO : ClassId} {ad : Nat → Nat}
abbrev rm_X6_isLand : Room := { frames := 1, cells := 0, slots := 0, locals := 22 }
set_option maxHeartbeats 4000000 in
set_option maxRecDepth 100000 in
theorem w_X6_isLand_0 (V : kV p s mm args meth c cX6_isLand RX6 2 (some .boolean) D cI cZ cO) {k mo : kS} {v1 : Int32} {H : Heap} {locs : List Loc} {ls : Array Slot} {out : Int32} (hH : kHE s H locs D ad cI cZ cO k mo []) (hl : lv_has ls 2 [(0, .ref (ad 7)), (1, .int v1)]) (hf : F_X6_isLand_0 mo v1 = some out) : W p l e rm_X6_isLand s mm args below meth c H locs 0 0 (kGi below args s D cI cZ cO ad out k mo 0 0) (F0 mm 0 ls []) := by
  have hx := V.1
  have hb := V.2.1
  refine lv_iload_n hx hb dX6_isLand_0 rfl (lv_at hl 1 rfl) ?_
  refine lv_iconst (v := 0) hx hb dX6_isLand_1 (by decide) ?_
  refine lv_aload_n hx hb dX6_isLand_2 rfl (lv_at hl 0 rfl) ?_
  refine kg_X6_42 V hH dX6_isLand_3 ?_
  refine lv_iconst (v := 1) hx hb dX6_isLand_6 (by decide) ?_
  refine lv_isub hx hb dX6_isLand_7 ?_
  obtain ⟨x0_1, hx0_1, hf⟩ := kbind hf
  refine kr_calli0 hH (kr_runS (as := [.int v1, .int 0, .int ((mo 7 2) - 1)]) (rest := []) V hH kYX6_isIn kl_X6_38 (c_X6_isIn l _ _ _ hx0_1 _) rfl rfl ⟨Nat.le_of_ble_eq_true rfl, Nat.le_of_ble_eq_true rfl⟩ rfl hl.1 (Nat.le_of_ble_eq_true rfl) dX6_isLand_8 ⟨Nat.le_refl _, Nat.le_refl _⟩ rfl) (fun H locs hH => ?_)
  obtain ⟨h0_2, hf⟩ := kif hf
  cases hf
  exact kr_zret V hH (Decidable.not_not.mp h0_2) dX6_isLand_11
set_option maxHeartbeats 4000000 in
set_option maxRecDepth 100000 in
theorem c_X6_isLand (l : Launch) {D : va_G} {cI cZ cO : ClassId} {ad : Nat → Nat} {k mo : kS} (v1 : Int32) {out : Int32} (hf : F_X6_isLand mo v1 = some out) (sz : Nat) : Met l yX6_isLand (Cond.code yX6_isLand cX6_isLand 2 (some .boolean) :: kWA) rm_X6_isLand (kP [.ref (ad 7), .int v1] D cI cZ cO ad (kE ad cI cZ cO k mo) sz) (kQi out D cI cZ cO ad (kE ad cI cZ cO k mo) sz) 0 0 (fA ad sz) := by
  refine kr_met (as := [.ref (ad 7), .int v1]) (bytes := cX6_isLand) (maxL := 2) (rt := (some .boolean)) (Qc := fun sz => kQi out D cI cZ cO ad (kE ad cI cZ cO k mo) sz) (lv := [(0, .ref (ad 7)), (1, .int v1)]) (by decide +kernel) (Nat.le_of_ble_eq_true rfl) rfl (fun p e s mm below meth c ls V hH hl => ?_) sz
  exact w_X6_isLand_0 V hH (lv_sub hl [0, 1] rfl) hf
end
section
variable {p : Program} {l : Launch} {e : Env} {s : State} {mm : MethodId} {args : Array Value} {below : List Frame} {meth : Method} {c : Code} {D : va_G} {cI cZ cO : ClassId} {ad : Nat → Nat}
abbrev rm_X6_pe : Room := { frames := 0, cells := 0, slots := 0, locals := 0 }
set_option maxHeartbeats 4000000 in
set_option maxRecDepth 100000 in
theorem w_X6_pe_0 (V : kV p s mm args meth c cX6_pe RX6 3 (some .int) D cI cZ cO) {k mo : kS} {v1 : Int32} {v2 : Int32} {H : Heap} {locs : List Loc} {ls : Array Slot} {out : Int32} (hH : kHE s H locs D ad cI cZ cO k mo []) (hl : lv_has ls 3 [(0, .ref (ad 7)), (1, .int v1), (2, .int v2)]) (hf : F_X6_pe_0 mo v1 v2 = some out) : W p l e rm_X6_pe s mm args below meth c H locs 0 0 (kGi below args s D cI cZ cO ad out k mo 0 0) (F0 mm 0 ls []) := by
  have hx := V.1
  have hb := V.2.1
  refine lv_aload_n hx hb dX6_pe_0 rfl (lv_at hl 0 rfl) ?_
  refine kg_X6_9 V hH dX6_pe_1 ?_
  refine lv_bipush (v := 9) hx hb dX6_pe_4 (by decide) ?_
  refine lv_iload_n hx hb dX6_pe_6 rfl (lv_at hl 1 rfl) ?_
  refine lv_imul hx hb dX6_pe_7 ?_
  refine lv_iload_n hx hb dX6_pe_8 rfl (lv_at hl 2 rfl) ?_
  refine lv_iadd hx hb dX6_pe_9 ?_
  obtain ⟨h0_1, hf⟩ := kif hf
  refine kr_iald V hH (q := 8) (by decide) kE_8 h0_1 dX6_pe_10 ?_
  cases hf
  exact kr_iret V hH dX6_pe_11
set_option maxHeartbeats 4000000 in
set_option maxRecDepth 100000 in
theorem c_X6_pe (l : Launch) {D : va_G} {cI cZ cO : ClassId} {ad : Nat → Nat} {k mo : kS} (v1 : Int32) (v2 : Int32) {out : Int32} (hf : F_X6_pe mo v1 v2 = some out) (sz : Nat) : Met l yX6_pe (Cond.code yX6_pe cX6_pe 3 (some .int) :: kWA) rm_X6_pe (kP [.ref (ad 7), .int v1, .int v2] D cI cZ cO ad (kE ad cI cZ cO k mo) sz) (kQi out D cI cZ cO ad (kE ad cI cZ cO k mo) sz) 0 0 (fA ad sz) := by
  refine kr_met (as := [.ref (ad 7), .int v1, .int v2]) (bytes := cX6_pe) (maxL := 3) (rt := (some .int)) (Qc := fun sz => kQi out D cI cZ cO ad (kE ad cI cZ cO k mo) sz) (lv := [(0, .ref (ad 7)), (1, .int v1), (2, .int v2)]) (by decide +kernel) (Nat.le_of_ble_eq_true rfl) rfl (fun p e s mm below meth c ls V hH hl => ?_) sz
  exact w_X6_pe_0 V hH (lv_sub hl [0, 1, 2] rfl) hf
end
section
variable {p : Program} {l : Launch} {e : Env} {s : State} {mm : MethodId} {args : Array Value} {below : List Frame} {meth : Method} {c : Code} {D : va_G} {cI cZ cO : ClassId} {ad : Nat → Nat}
abbrev rm_X6_set : Room := { frames := 0, cells := 0, slots := 0, locals := 0 }
set_option maxHeartbeats 4000000 in
set_option maxRecDepth 100000 in
theorem w_X6_set_0 (V : kV p s mm args meth c cX6_set RX6 4 none D cI cZ cO) {k : kS} {v1 : Int32} {v2 : Int32} {v3 : Int32} {mo : kS} {H : Heap} {locs : List Loc} {ls : Array Slot} {out : kS} (hH : kHE s H locs D ad cI cZ cO k mo []) (hl : lv_has ls 4 [(0, .ref (ad 7)), (1, .int v1), (2, .int v2), (3, .int v3)]) (hf : F_X6_set_0 v1 v2 v3 mo = some out) : W p l e rm_X6_set s mm args below meth c H locs 0 0 (kGv below args s D cI cZ cO ad k out 0 0) (F0 mm 0 ls []) := by
  have hx := V.1
  have hb := V.2.1
  refine lv_aload_n hx hb dX6_set_0 rfl (lv_at hl 0 rfl) ?_
  refine kg_X6_9 V hH dX6_set_1 ?_
  refine lv_bipush (v := 9) hx hb dX6_set_4 (by decide) ?_
  refine lv_iload_n hx hb dX6_set_6 rfl (lv_at hl 1 rfl) ?_
  refine lv_imul hx hb dX6_set_7 ?_
  refine lv_iload_n hx hb dX6_set_8 rfl (lv_at hl 2 rfl) ?_
  refine lv_iadd hx hb dX6_set_9 ?_
  refine lv_iload_n hx hb dX6_set_10 rfl (lv_at hl 3 rfl) ?_
  obtain ⟨h0_1, hf⟩ := kif hf
  refine kr_iastM V hH (q := 8) (by decide) (fun _ => kE_8) h0_1 dX6_set_11 (fun H locs hH => ?_)
  cases hf
  exact kr_vret V hH dX6_set_12
set_option maxHeartbeats 4000000 in
set_option maxRecDepth 100000 in
theorem c_X6_set (l : Launch) {D : va_G} {cI cZ cO : ClassId} {ad : Nat → Nat} {k mo : kS} (v1 : Int32) (v2 : Int32) (v3 : Int32) {out : kS} (hf : F_X6_set v1 v2 v3 mo = some out) (sz : Nat) : Met l yX6_set (Cond.code yX6_set cX6_set 4 none :: kWA) rm_X6_set (kP [.ref (ad 7), .int v1, .int v2, .int v3] D cI cZ cO ad (kE ad cI cZ cO k mo) sz) (kQv D cI cZ cO ad (kE ad cI cZ cO k out) sz) 0 0 (fA ad sz) := by
  refine kr_met (as := [.ref (ad 7), .int v1, .int v2, .int v3]) (bytes := cX6_set) (maxL := 4) (rt := none) (Qc := fun sz => kQv D cI cZ cO ad (kE ad cI cZ cO k out) sz) (lv := [(0, .ref (ad 7)), (1, .int v1), (2, .int v2), (3, .int v3)]) (by decide +kernel) (Nat.le_of_ble_eq_true rfl) rfl (fun p e s mm below meth c ls V hH hl => ?_) sz
  exact w_X6_set_0 V hH (lv_sub hl [0, 1, 2, 3] rfl) hf
end
section
variable {p : Program} {l : Launch} {e : Env} {s : State} {mm : MethodId} {args : Array Value} {below : List Frame} {meth : Method} {c : Code} {D : va_G} {cI cZ cO : ClassId} {ad : Nat → Nat}
abbrev rm_X6_la : Room := { frames := 0, cells := 0, slots := 0, locals := 0 }
set_option maxHeartbeats 4000000 in
set_option maxRecDepth 100000 in
theorem w_X6_la_0 (V : kV p s mm args meth c cX6_la RX6 3 (some .int) D cI cZ cO) {k mo : kS} {v1 : Int32} {v2 : Int32} {H : Heap} {locs : List Loc} {ls : Array Slot} {out : Int32} (hH : kHE s H locs D ad cI cZ cO k mo []) (hl : lv_has ls 3 [(0, .ref (ad 7)), (1, .int v1), (2, .int v2)]) (hf : F_X6_la_0 mo v1 v2 = some out) : W p l e rm_X6_la s mm args below meth c H locs 0 0 (kGi below args s D cI cZ cO ad out k mo 0 0) (F0 mm 0 ls []) := by
  have hx := V.1
  have hb := V.2.1
  refine lv_aload_n hx hb dX6_la_0 rfl (lv_at hl 0 rfl) ?_
  refine kg_X6_13 V hH dX6_la_1 ?_
  refine lv_iconst (v := 4) hx hb dX6_la_4 (by decide) ?_
  refine lv_iload_n hx hb dX6_la_5 rfl (lv_at hl 1 rfl) ?_
  refine lv_imul hx hb dX6_la_6 ?_
  refine lv_iload_n hx hb dX6_la_7 rfl (lv_at hl 2 rfl) ?_
  refine lv_iadd hx hb dX6_la_8 ?_
  obtain ⟨h0_1, hf⟩ := kif hf
  refine kr_iald V hH (q := 9) (by decide) kE_9 h0_1 dX6_la_9 ?_
  cases hf
  exact kr_iret V hH dX6_la_10
set_option maxHeartbeats 4000000 in
set_option maxRecDepth 100000 in
theorem c_X6_la (l : Launch) {D : va_G} {cI cZ cO : ClassId} {ad : Nat → Nat} {k mo : kS} (v1 : Int32) (v2 : Int32) {out : Int32} (hf : F_X6_la mo v1 v2 = some out) (sz : Nat) : Met l yX6_la (Cond.code yX6_la cX6_la 3 (some .int) :: kWA) rm_X6_la (kP [.ref (ad 7), .int v1, .int v2] D cI cZ cO ad (kE ad cI cZ cO k mo) sz) (kQi out D cI cZ cO ad (kE ad cI cZ cO k mo) sz) 0 0 (fA ad sz) := by
  refine kr_met (as := [.ref (ad 7), .int v1, .int v2]) (bytes := cX6_la) (maxL := 3) (rt := (some .int)) (Qc := fun sz => kQi out D cI cZ cO ad (kE ad cI cZ cO k mo) sz) (lv := [(0, .ref (ad 7)), (1, .int v1), (2, .int v2)]) (by decide +kernel) (Nat.le_of_ble_eq_true rfl) rfl (fun p e s mm below meth c ls V hH hl => ?_) sz
  exact w_X6_la_0 V hH (lv_sub hl [0, 1, 2] rfl) hf
end
section
variable {p : Program} {l : Launch} {e : Env} {s : State} {mm : MethodId} {args : Array Value} {below : List Frame} {meth : Method} {c : Code} {D : va_G} {cI cZ cO : ClassId} {ad : Nat → Nat}
abbrev rm_X6_lives : Room := { frames := 1, cells := 0, slots := 0, locals := 22 }
set_option maxHeartbeats 4000000 in
set_option maxRecDepth 100000 in
theorem w_X6_lives_15 (V : kV p s mm args meth c cX6_lives RX6 2 (some .boolean) D cI cZ cO) {k mo : kS} {s0 : Int32} {H : Heap} {locs : List Loc} {ls : Array Slot} {out : Int32} (hH : kHE s H locs D ad cI cZ cO k mo []) (hl : lv_has ls 2 []) (hf : F_X6_lives_15 mo s0 = some out) : W p l e rm_X6_lives s mm args below meth c H locs 0 0 (kGi below args s D cI cZ cO ad out k mo 0 0) (F0 mm 15 ls [.int s0]) := by
  have hx := V.1
  have hb := V.2.1
  obtain ⟨h15_1, hf⟩ := kif hf
  cases hf
  exact kr_zret V hH (Decidable.not_not.mp h15_1) dX6_lives_15
set_option maxHeartbeats 4000000 in
set_option maxRecDepth 100000 in
theorem w_X6_lives_10 (V : kV p s mm args meth c cX6_lives RX6 2 (some .boolean) D cI cZ cO) {k mo : kS} {H : Heap} {locs : List Loc} {ls : Array Slot} {out : Int32} (hH : kHE s H locs D ad cI cZ cO k mo []) (hl : lv_has ls 2 []) (hf : F_X6_lives_10 mo = some out) : W p l e rm_X6_lives s mm args below meth c H locs 0 0 (kGi below args s D cI cZ cO ad out k mo 0 0) (F0 mm 10 ls []) := by
  have hx := V.1
  have hb := V.2.1
  refine lv_iconst (v := 1) hx hb dX6_lives_10 (by decide) ?_
  refine lv_goto (tgt := 15) hx hb dX6_lives_11 (by decide) ?_
  exact w_X6_lives_15 V hH (lv_sub hl [] rfl) hf
set_option maxHeartbeats 4000000 in
set_option maxRecDepth 100000 in
theorem w_X6_lives_14 (V : kV p s mm args meth c cX6_lives RX6 2 (some .boolean) D cI cZ cO) {k mo : kS} {H : Heap} {locs : List Loc} {ls : Array Slot} {out : Int32} (hH : kHE s H locs D ad cI cZ cO k mo []) (hl : lv_has ls 2 []) (hf : F_X6_lives_14 mo = some out) : W p l e rm_X6_lives s mm args below meth c H locs 0 0 (kGi below args s D cI cZ cO ad out k mo 0 0) (F0 mm 14 ls []) := by
  have hx := V.1
  have hb := V.2.1
  refine lv_iconst (v := 0) hx hb dX6_lives_14 (by decide) ?_
  exact w_X6_lives_15 V hH (lv_sub hl [] rfl) hf
set_option maxHeartbeats 4000000 in
set_option maxRecDepth 100000 in
theorem w_X6_lives_0 (V : kV p s mm args meth c cX6_lives RX6 2 (some .boolean) D cI cZ cO) {k mo : kS} {v1 : Int32} {H : Heap} {locs : List Loc} {ls : Array Slot} {out : Int32} (hH : kHE s H locs D ad cI cZ cO k mo []) (hl : lv_has ls 2 [(0, .ref (ad 7)), (1, .int v1)]) (hf : F_X6_lives_0 mo v1 = some out) : W p l e rm_X6_lives s mm args below meth c H locs 0 0 (kGi below args s D cI cZ cO ad out k mo 0 0) (F0 mm 0 ls []) := by
  have hx := V.1
  have hb := V.2.1
  refine lv_aload_n hx hb dX6_lives_0 rfl (lv_at hl 0 rfl) ?_
  refine lv_iload_n hx hb dX6_lives_1 rfl (lv_at hl 1 rfl) ?_
  refine lv_iconst (v := 2) hx hb dX6_lives_2 (by decide) ?_
  obtain ⟨x0_1, hx0_1, hf⟩ := kbind hf
  refine kr_calli0 hH (kr_runV (as := [.int v1, .int 2]) (rest := []) (pl := 7) V hH kYX6_pe kl_X6_45 (c_X6_pe l _ _ hx0_1 _) rfl rfl ⟨Nat.le_of_ble_eq_true rfl, Nat.le_of_ble_eq_true rfl⟩ (by decide) kE_7 rfl rfl hl.1 (Nat.le_of_ble_eq_true rfl) dX6_lives_3 ⟨Nat.le_refl _, Nat.le_refl _⟩ rfl) (fun H locs hH => ?_)
  refine lv_iconst (v := 1) hx hb dX6_lives_6 (by decide) ?_
  refine lv_icmp_ne (tgt := 14) hx hb dX6_lives_7 (by decide) (fun hq => ?_) (fun hq => ?_)
  · have hf := kneg hq hf
    exact w_X6_lives_14 V hH (lv_sub hl [] rfl) hf
  · have hf := kpos hq hf
    exact w_X6_lives_10 V hH (lv_sub hl [] rfl) hf
set_option maxHeartbeats 4000000 in
set_option maxRecDepth 100000 in
theorem c_X6_lives (l : Launch) {D : va_G} {cI cZ cO : ClassId} {ad : Nat → Nat} {k mo : kS} (v1 : Int32) {out : Int32} (hf : F_X6_lives mo v1 = some out) (sz : Nat) : Met l yX6_lives (Cond.code yX6_lives cX6_lives 2 (some .boolean) :: kWA) rm_X6_lives (kP [.ref (ad 7), .int v1] D cI cZ cO ad (kE ad cI cZ cO k mo) sz) (kQi out D cI cZ cO ad (kE ad cI cZ cO k mo) sz) 0 0 (fA ad sz) := by
  refine kr_met (as := [.ref (ad 7), .int v1]) (bytes := cX6_lives) (maxL := 2) (rt := (some .boolean)) (Qc := fun sz => kQi out D cI cZ cO ad (kE ad cI cZ cO k mo) sz) (lv := [(0, .ref (ad 7)), (1, .int v1)]) (by decide +kernel) (Nat.le_of_ble_eq_true rfl) rfl (fun p e s mm below meth c ls V hH hl => ?_) sz
  exact w_X6_lives_0 V hH (lv_sub hl [0, 1] rfl) hf
end
section
variable {p : Program} {l : Launch} {e : Env} {s : State} {mm : MethodId} {args : Array Value} {below : List Frame} {meth : Method} {c : Code} {D : va_G} {cI cZ cO : ClassId} {ad : Nat → Nat}
abbrev rm_X6_age : Room := { frames := 1, cells := 0, slots := 0, locals := 22 }
set_option maxHeartbeats 4000000 in
set_option maxRecDepth 100000 in
theorem w_X6_age_0 (V : kV p s mm args meth c cX6_age RX6 2 (some .int) D cI cZ cO) {k mo : kS} {v1 : Int32} {H : Heap} {locs : List Loc} {ls : Array Slot} {out : Int32} (hH : kHE s H locs D ad cI cZ cO k mo []) (hl : lv_has ls 2 [(0, .ref (ad 7)), (1, .int v1)]) (hf : F_X6_age_0 mo v1 = some out) : W p l e rm_X6_age s mm args below meth c H locs 0 0 (kGi below args s D cI cZ cO ad out k mo 0 0) (F0 mm 0 ls []) := by
  have hx := V.1
  have hb := V.2.1
  refine lv_aload_n hx hb dX6_age_0 rfl (lv_at hl 0 rfl) ?_
  refine kg_X6_19 V hH dX6_age_1 ?_
  refine lv_iconst (v := 0) hx hb dX6_age_4 (by decide) ?_
  obtain ⟨h0_1, hf⟩ := kif hf
  refine kr_iald V hH (q := 11) (by decide) kE_11 h0_1 dX6_age_5 ?_
  refine lv_aload_n hx hb dX6_age_6 rfl (lv_at hl 0 rfl) ?_
  refine lv_iload_n hx hb dX6_age_7 rfl (lv_at hl 1 rfl) ?_
  refine lv_iconst (v := 1) hx hb dX6_age_8 (by decide) ?_
  obtain ⟨x0_2, hx0_2, hf⟩ := kbind hf
  refine kr_calli0 hH (kr_runV (as := [.int v1, .int 1]) (rest := [.int (mo 11 (0 : Int32).toNatClampNeg)]) (pl := 7) V hH kYX6_pe kl_X6_45 (c_X6_pe l _ _ hx0_2 _) rfl rfl ⟨Nat.le_of_ble_eq_true rfl, Nat.le_of_ble_eq_true rfl⟩ (by decide) kE_7 rfl rfl hl.1 (Nat.le_of_ble_eq_true rfl) dX6_age_9 ⟨Nat.le_refl _, Nat.le_refl _⟩ rfl) (fun H locs hH => ?_)
  refine lv_isub hx hb dX6_age_12 ?_
  cases hf
  exact kr_iret V hH dX6_age_13
set_option maxHeartbeats 4000000 in
set_option maxRecDepth 100000 in
theorem c_X6_age (l : Launch) {D : va_G} {cI cZ cO : ClassId} {ad : Nat → Nat} {k mo : kS} (v1 : Int32) {out : Int32} (hf : F_X6_age mo v1 = some out) (sz : Nat) : Met l yX6_age (Cond.code yX6_age cX6_age 2 (some .int) :: kWA) rm_X6_age (kP [.ref (ad 7), .int v1] D cI cZ cO ad (kE ad cI cZ cO k mo) sz) (kQi out D cI cZ cO ad (kE ad cI cZ cO k mo) sz) 0 0 (fA ad sz) := by
  refine kr_met (as := [.ref (ad 7), .int v1]) (bytes := cX6_age) (maxL := 2) (rt := (some .int)) (Qc := fun sz => kQi out D cI cZ cO ad (kE ad cI cZ cO k mo) sz) (lv := [(0, .ref (ad 7)), (1, .int v1)]) (by decide +kernel) (Nat.le_of_ble_eq_true rfl) rfl (fun p e s mm below meth c ls V hH hl => ?_) sz
  exact w_X6_age_0 V hH (lv_sub hl [0, 1] rfl) hf
end
section
variable {p : Program} {l : Launch} {e : Env} {s : State} {mm : MethodId} {args : Array Value} {below : List Frame} {meth : Method} {c : Code} {D : va_G} {cI cZ cO : ClassId} {ad : Nat → Nat}
abbrev rm_X6_rule : Room := { frames := 1, cells := 0, slots := 0, locals := 40 }
set_option maxHeartbeats 4000000 in
set_option maxRecDepth 100000 in
theorem w_X6_rule_16 (V : kV p s mm args meth c cX6_rule RX6 3 none D cI cZ cO) {k : kS} {mo : kS} {H : Heap} {locs : List Loc} {ls : Array Slot} {out : kS} (hH : kHE s H locs D ad cI cZ cO k mo []) (hl : lv_has ls 3 []) (hf : F_X6_rule_16 mo = some out) : W p l e rm_X6_rule s mm args below meth c H locs 0 0 (kGv below args s D cI cZ cO ad k out 0 0) (F0 mm 16 ls []) := by
  have hx := V.1
  have hb := V.2.1
  cases hf
  exact kr_vret V hH dX6_rule_16
set_option maxHeartbeats 4000000 in
set_option maxRecDepth 100000 in
theorem w_X6_rule_17 (V : kV p s mm args meth c cX6_rule RX6 3 none D cI cZ cO) {k : kS} {v1 : Int32} {v2 : Int32} {mo : kS} {H : Heap} {locs : List Loc} {ls : Array Slot} {out : kS} (hH : kHE s H locs D ad cI cZ cO k mo []) (hl : lv_has ls 3 [(0, .ref (ad 7)), (1, .int v1), (2, .int v2)]) (hf : F_X6_rule_17 v1 v2 mo = some out) : W p l e rm_X6_rule s mm args below meth c H locs 0 0 (kGv below args s D cI cZ cO ad k out 0 0) (F0 mm 17 ls []) := by
  have hx := V.1
  have hb := V.2.1
  refine lv_aload_n hx hb dX6_rule_17 rfl (lv_at hl 0 rfl) ?_
  refine kg_X6_16 V hH dX6_rule_18 ?_
  refine lv_bipush (v := 15) hx hb dX6_rule_21 (by decide) ?_
  refine lv_iload_n hx hb dX6_rule_23 rfl (lv_at hl 1 rfl) ?_
  refine lv_imul hx hb dX6_rule_24 ?_
  refine lv_aload_n hx hb dX6_rule_25 rfl (lv_at hl 0 rfl) ?_
  refine kg_X6_16 V hH dX6_rule_26 ?_
  refine lv_bipush (v := 15) hx hb dX6_rule_29 (by decide) ?_
  refine lv_iload_n hx hb dX6_rule_31 rfl (lv_at hl 1 rfl) ?_
  refine lv_imul hx hb dX6_rule_32 ?_
  refine lv_iconst (v := 1) hx hb dX6_rule_33 (by decide) ?_
  refine lv_iadd hx hb dX6_rule_34 ?_
  refine lv_bipush (v := 14) hx hb dX6_rule_35 (by decide) ?_
  obtain ⟨h17_1, hf⟩ := kif hf
  refine kr_copyM V hH hl.1 kl_X6_49 (q0 := 10) (q := 10) (by decide) (by decide) (fun _ => kE_10) (fun _ => kE_10) h17_1 (Nat.le_of_ble_eq_true rfl) (Nat.le_of_ble_eq_true rfl) dX6_rule_37 (fun H locs hH => ?_)
  refine lv_aload_n hx hb dX6_rule_40 rfl (lv_at hl 0 rfl) ?_
  refine kg_X6_16 V hH dX6_rule_41 ?_
  refine lv_bipush (v := 15) hx hb dX6_rule_44 (by decide) ?_
  refine lv_iload_n hx hb dX6_rule_46 rfl (lv_at hl 1 rfl) ?_
  refine lv_imul hx hb dX6_rule_47 ?_
  refine lv_iload_n hx hb dX6_rule_48 rfl (lv_at hl 2 rfl) ?_
  obtain ⟨h17_2, hf⟩ := kif hf
  refine kr_iastM V hH (q := 10) (by decide) (fun _ => kE_10) h17_2 dX6_rule_49 (fun H locs hH => ?_)
  refine lv_aload_n hx hb dX6_rule_50 rfl (lv_at hl 0 rfl) ?_
  refine kg_X6_13 V hH dX6_rule_51 ?_
  refine lv_iconst (v := 4) hx hb dX6_rule_54 (by decide) ?_
  refine lv_iload_n hx hb dX6_rule_55 rfl (lv_at hl 1 rfl) ?_
  refine lv_imul hx hb dX6_rule_56 ?_
  refine lv_iconst (v := 3) hx hb dX6_rule_57 (by decide) ?_
  refine lv_iadd hx hb dX6_rule_58 ?_
  refine lv_dup2_11 hx hb dX6_rule_59 rfl rfl ?_
  obtain ⟨h17_3, hf⟩ := kif hf
  refine kr_iald V hH (q := 9) (by decide) kE_9 h17_3 dX6_rule_60 ?_
  refine lv_iconst (v := 1) hx hb dX6_rule_61 (by decide) ?_
  refine lv_iadd hx hb dX6_rule_62 ?_
  obtain ⟨h17_4, hf⟩ := kif hf
  refine kr_iastM V hH (q := 9) (by decide) (fun _ => kE_9) h17_4 dX6_rule_63 (fun H locs hH => ?_)
  cases hf
  exact kr_vret V hH dX6_rule_64
set_option maxHeartbeats 4000000 in
set_option maxRecDepth 100000 in
theorem w_X6_rule_0 (V : kV p s mm args meth c cX6_rule RX6 3 none D cI cZ cO) {k : kS} {v1 : Int32} {v2 : Int32} {mo : kS} {H : Heap} {locs : List Loc} {ls : Array Slot} {out : kS} (hH : kHE s H locs D ad cI cZ cO k mo []) (hl : lv_has ls 3 [(0, .ref (ad 7)), (1, .int v1), (2, .int v2)]) (hf : F_X6_rule_0 v1 v2 mo = some out) : W p l e rm_X6_rule s mm args below meth c H locs 0 0 (kGv below args s D cI cZ cO ad k out 0 0) (F0 mm 0 ls []) := by
  have hx := V.1
  have hb := V.2.1
  refine lv_aload_n hx hb dX6_rule_0 rfl (lv_at hl 0 rfl) ?_
  refine kg_X6_13 V hH dX6_rule_1 ?_
  refine lv_iconst (v := 4) hx hb dX6_rule_4 (by decide) ?_
  refine lv_iload_n hx hb dX6_rule_5 rfl (lv_at hl 1 rfl) ?_
  refine lv_imul hx hb dX6_rule_6 ?_
  refine lv_iconst (v := 2) hx hb dX6_rule_7 (by decide) ?_
  refine lv_iadd hx hb dX6_rule_8 ?_
  refine lv_iload_n hx hb dX6_rule_9 rfl (lv_at hl 2 rfl) ?_
  obtain ⟨h0_1, hf⟩ := kif hf
  refine kr_iastM V hH (q := 9) (by decide) (fun _ => kE_9) h0_1 dX6_rule_10 (fun H locs hH => ?_)
  refine lv_iload_n hx hb dX6_rule_11 rfl (lv_at hl 2 rfl) ?_
  refine lv_iconst (v := (-1)) hx hb dX6_rule_12 (by decide) ?_
  refine lv_icmp_ne (tgt := 17) hx hb dX6_rule_13 (by decide) (fun hq => ?_) (fun hq => ?_)
  · have hf := kneg hq hf
    exact w_X6_rule_17 V hH (lv_sub hl [0, 1, 2] rfl) hf
  · have hf := kpos hq hf
    exact w_X6_rule_16 V hH (lv_sub hl [] rfl) hf
set_option maxHeartbeats 4000000 in
set_option maxRecDepth 100000 in
theorem c_X6_rule (l : Launch) {D : va_G} {cI cZ cO : ClassId} {ad : Nat → Nat} {k mo : kS} (v1 : Int32) (v2 : Int32) {out : kS} (hf : F_X6_rule v1 v2 mo = some out) (sz : Nat) : Met l yX6_rule (Cond.code yX6_rule cX6_rule 3 none :: kWA) rm_X6_rule (kP [.ref (ad 7), .int v1, .int v2] D cI cZ cO ad (kE ad cI cZ cO k mo) sz) (kQv D cI cZ cO ad (kE ad cI cZ cO k out) sz) 0 0 (fA ad sz) := by
  refine kr_met (as := [.ref (ad 7), .int v1, .int v2]) (bytes := cX6_rule) (maxL := 3) (rt := none) (Qc := fun sz => kQv D cI cZ cO ad (kE ad cI cZ cO k out) sz) (lv := [(0, .ref (ad 7)), (1, .int v1), (2, .int v2)]) (by decide +kernel) (Nat.le_of_ble_eq_true rfl) rfl (fun p e s mm below meth c ls V hH hl => ?_) sz
  exact w_X6_rule_0 V hH (lv_sub hl [0, 1, 2] rfl) hf
end
section
variable {p : Program} {l : Launch} {e : Env} {s : State} {mm : MethodId} {args : Array Value} {below : List Frame} {meth : Method} {c : Code} {D : va_G} {cI cZ cO : ClassId} {ad : Nat → Nat}
abbrev rm_X6_setLaw : Room := { frames := 2, cells := 0, slots := 0, locals := 43 }
set_option maxHeartbeats 4000000 in
set_option maxRecDepth 100000 in
theorem w_X6_setLaw_13 (V : kV p s mm args meth c cX6_setLaw RX6 4 (some .int) D cI cZ cO) {k : kS} {mo : kS} {H : Heap} {locs : List Loc} {ls : Array Slot} {out : (Int32 × kS)} (hH : kHE s H locs D ad cI cZ cO k mo []) (hl : lv_has ls 4 [(0, .ref (ad 7))]) (hf : F_X6_setLaw_13 mo = some out) : W p l e rm_X6_setLaw s mm args below meth c H locs 0 0 (kGi below args s D cI cZ cO ad out.1 k out.2 0 0) (F0 mm 13 ls []) := by
  have hx := V.1
  have hb := V.2.1
  refine lv_aload_n hx hb dX6_setLaw_13 rfl (lv_at hl 0 rfl) ?_
  refine lv_iconst (v := 1) hx hb dX6_setLaw_14 (by decide) ?_
  obtain ⟨x13_1, hx13_1, hf⟩ := kbind hf
  refine kr_calli0 hH (kr_runV (as := [.int 1]) (rest := []) (pl := 7) V hH kYX6_fail kl_X6_55 (c_X6_fail l _ hx13_1 _) rfl rfl ⟨Nat.le_of_ble_eq_true rfl, Nat.le_of_ble_eq_true rfl⟩ (by decide) kE_7 rfl rfl hl.1 (Nat.le_of_ble_eq_true rfl) dX6_setLaw_15 ⟨Nat.le_refl _, Nat.le_refl _⟩ rfl) (fun H locs hH => ?_)
  cases hf
  exact kr_iret V hH dX6_setLaw_18
set_option maxHeartbeats 4000000 in
set_option maxRecDepth 100000 in
theorem w_X6_setLaw_28 (V : kV p s mm args meth c cX6_setLaw RX6 4 (some .int) D cI cZ cO) {k : kS} {mo : kS} {H : Heap} {locs : List Loc} {ls : Array Slot} {out : (Int32 × kS)} (hH : kHE s H locs D ad cI cZ cO k mo []) (hl : lv_has ls 4 [(0, .ref (ad 7))]) (hf : F_X6_setLaw_28 mo = some out) : W p l e rm_X6_setLaw s mm args below meth c H locs 0 0 (kGi below args s D cI cZ cO ad out.1 k out.2 0 0) (F0 mm 28 ls []) := by
  have hx := V.1
  have hb := V.2.1
  refine lv_aload_n hx hb dX6_setLaw_28 rfl (lv_at hl 0 rfl) ?_
  refine lv_iconst (v := 2) hx hb dX6_setLaw_29 (by decide) ?_
  obtain ⟨x28_1, hx28_1, hf⟩ := kbind hf
  refine kr_calli0 hH (kr_runV (as := [.int 2]) (rest := []) (pl := 7) V hH kYX6_fail kl_X6_55 (c_X6_fail l _ hx28_1 _) rfl rfl ⟨Nat.le_of_ble_eq_true rfl, Nat.le_of_ble_eq_true rfl⟩ (by decide) kE_7 rfl rfl hl.1 (Nat.le_of_ble_eq_true rfl) dX6_setLaw_30 ⟨Nat.le_refl _, Nat.le_refl _⟩ rfl) (fun H locs hH => ?_)
  cases hf
  exact kr_iret V hH dX6_setLaw_33
set_option maxHeartbeats 4000000 in
set_option maxRecDepth 100000 in
theorem w_X6_setLaw_34 (V : kV p s mm args meth c cX6_setLaw RX6 4 (some .int) D cI cZ cO) {k : kS} {v1 : Int32} {v2 : Int32} {mo : kS} {H : Heap} {locs : List Loc} {ls : Array Slot} {out : (Int32 × kS)} (hH : kHE s H locs D ad cI cZ cO k mo []) (hl : lv_has ls 4 [(0, .ref (ad 7)), (1, .int v1), (2, .int v2)]) (hf : F_X6_setLaw_34 v1 v2 mo = some out) : W p l e rm_X6_setLaw s mm args below meth c H locs 0 0 (kGi below args s D cI cZ cO ad out.1 k out.2 0 0) (F0 mm 34 ls []) := by
  have hx := V.1
  have hb := V.2.1
  refine lv_aload_n hx hb dX6_setLaw_34 rfl (lv_at hl 0 rfl) ?_
  refine lv_iload_n hx hb dX6_setLaw_35 rfl (lv_at hl 1 rfl) ?_
  refine lv_iconst (v := 1) hx hb dX6_setLaw_36 (by decide) ?_
  obtain ⟨x34_1, hx34_1, hf⟩ := kbind hf
  refine kr_calli0 hH (kr_runV (as := [.int v1, .int 1]) (rest := []) (pl := 7) V hH kYX6_la kl_X6_77 (c_X6_la l _ _ hx34_1 _) rfl rfl ⟨Nat.le_of_ble_eq_true rfl, Nat.le_of_ble_eq_true rfl⟩ (by decide) kE_7 rfl rfl hl.1 (Nat.le_of_ble_eq_true rfl) dX6_setLaw_37 ⟨Nat.le_refl _, Nat.le_refl _⟩ rfl) (fun H locs hH => ?_)
  refine lv_istore_n (lv' := [(3, .int x34_1), (0, .ref (ad 7)), (1, .int v1), (2, .int v2)]) hx hb dX6_setLaw_40 rfl hl (by decide) rfl (fun ls hl => ?_)
  refine lv_aload_n hx hb dX6_setLaw_41 rfl (lv_at hl 1 rfl) ?_
  refine kg_X6_13 V hH dX6_setLaw_42 ?_
  refine lv_iconst (v := 4) hx hb dX6_setLaw_45 (by decide) ?_
  refine lv_iload_n hx hb dX6_setLaw_46 rfl (lv_at hl 2 rfl) ?_
  refine lv_imul hx hb dX6_setLaw_47 ?_
  refine lv_iconst (v := 1) hx hb dX6_setLaw_48 (by decide) ?_
  refine lv_iadd hx hb dX6_setLaw_49 ?_
  refine lv_iload_n hx hb dX6_setLaw_50 rfl (lv_at hl 3 rfl) ?_
  obtain ⟨h34_2, hf⟩ := kif hf
  refine kr_iastM V hH (q := 9) (by decide) (fun _ => kE_9) h34_2 dX6_setLaw_51 (fun H locs hH => ?_)
  refine lv_iload_n hx hb dX6_setLaw_52 rfl (lv_at hl 0 rfl) ?_
  cases hf
  exact kr_iret V hH dX6_setLaw_53
set_option maxHeartbeats 4000000 in
set_option maxRecDepth 100000 in
theorem w_X6_setLaw_19 (V : kV p s mm args meth c cX6_setLaw RX6 4 (some .int) D cI cZ cO) {k : kS} {v1 : Int32} {v2 : Int32} {mo : kS} {H : Heap} {locs : List Loc} {ls : Array Slot} {out : (Int32 × kS)} (hH : kHE s H locs D ad cI cZ cO k mo []) (hl : lv_has ls 4 [(0, .ref (ad 7)), (1, .int v1), (2, .int v2)]) (hf : F_X6_setLaw_19 v1 v2 mo = some out) : W p l e rm_X6_setLaw s mm args below meth c H locs 0 0 (kGi below args s D cI cZ cO ad out.1 k out.2 0 0) (F0 mm 19 ls []) := by
  have hx := V.1
  have hb := V.2.1
  refine lv_iload_n hx hb dX6_setLaw_19 rfl (lv_at hl 2 rfl) ?_
  refine lv_iconst (v := 0) hx hb dX6_setLaw_20 (by decide) ?_
  refine lv_iconst (v := 3) hx hb dX6_setLaw_21 (by decide) ?_
  obtain ⟨x19_1, hx19_1, hf⟩ := kbind hf
  refine kr_calli0 hH (kr_runS (as := [.int v2, .int 0, .int 3]) (rest := []) V hH kYX6_isIn kl_X6_38 (c_X6_isIn l _ _ _ hx19_1 _) rfl rfl ⟨Nat.le_of_ble_eq_true rfl, Nat.le_of_ble_eq_true rfl⟩ rfl hl.1 (Nat.le_of_ble_eq_true rfl) dX6_setLaw_22 ⟨Nat.le_refl _, Nat.le_refl _⟩ rfl) (fun H locs hH => ?_)
  refine lv_if_ne (tgt := 34) hx hb dX6_setLaw_25 (by decide) (fun hq => ?_) (fun hq => ?_)
  · have hf := kneg hq hf
    exact w_X6_setLaw_34 V hH (lv_sub hl [0, 1, 2] rfl) hf
  · have hf := kpos hq hf
    exact w_X6_setLaw_28 V hH (lv_sub hl [0] rfl) hf
set_option maxHeartbeats 4000000 in
set_option maxRecDepth 100000 in
theorem w_X6_setLaw_0 (V : kV p s mm args meth c cX6_setLaw RX6 4 (some .int) D cI cZ cO) {k : kS} {v1 : Int32} {v2 : Int32} {mo : kS} {H : Heap} {locs : List Loc} {ls : Array Slot} {out : (Int32 × kS)} (hH : kHE s H locs D ad cI cZ cO k mo []) (hl : lv_has ls 4 [(0, .ref (ad 7)), (1, .int v1), (2, .int v2)]) (hf : F_X6_setLaw_0 v1 v2 mo = some out) : W p l e rm_X6_setLaw s mm args below meth c H locs 0 0 (kGi below args s D cI cZ cO ad out.1 k out.2 0 0) (F0 mm 0 ls []) := by
  have hx := V.1
  have hb := V.2.1
  refine lv_aload_n hx hb dX6_setLaw_0 rfl (lv_at hl 0 rfl) ?_
  refine lv_iconst (v := 0) hx hb dX6_setLaw_1 (by decide) ?_
  refine kp_X6_31 V hH dX6_setLaw_2 (fun H locs hH => ?_)
  refine lv_aload_n hx hb dX6_setLaw_5 rfl (lv_at hl 0 rfl) ?_
  refine lv_iload_n hx hb dX6_setLaw_6 rfl (lv_at hl 1 rfl) ?_
  obtain ⟨x0_1, hx0_1, hf⟩ := kbind hf
  refine kr_calli0 hH (kr_runV (as := [.int v1]) (rest := []) (pl := 7) V hH kYX6_isLand kl_X6_74 (c_X6_isLand l _ hx0_1 _) rfl rfl ⟨Nat.le_of_ble_eq_true rfl, Nat.le_of_ble_eq_true rfl⟩ (by decide) kE_7 rfl rfl hl.1 (Nat.le_of_ble_eq_true rfl) dX6_setLaw_7 ⟨Nat.le_refl _, Nat.le_refl _⟩ rfl) (fun H locs hH => ?_)
  refine lv_if_ne (tgt := 19) hx hb dX6_setLaw_10 (by decide) (fun hq => ?_) (fun hq => ?_)
  · have hf := kneg hq hf
    exact w_X6_setLaw_19 V hH (lv_sub hl [0, 1, 2] rfl) hf
  · have hf := kpos hq hf
    exact w_X6_setLaw_13 V hH (lv_sub hl [0] rfl) hf
set_option maxHeartbeats 4000000 in
set_option maxRecDepth 100000 in
theorem c_X6_setLaw (l : Launch) {D : va_G} {cI cZ cO : ClassId} {ad : Nat → Nat} {k mo : kS} (v1 : Int32) (v2 : Int32) {out : (Int32 × kS)} (hf : F_X6_setLaw v1 v2 mo = some out) (sz : Nat) : Met l yX6_setLaw (Cond.code yX6_setLaw cX6_setLaw 4 (some .int) :: kWA) rm_X6_setLaw (kP [.ref (ad 7), .int v1, .int v2] D cI cZ cO ad (kE ad cI cZ cO k mo) sz) (kQi out.1 D cI cZ cO ad (kE ad cI cZ cO k out.2) sz) 0 0 (fA ad sz) := by
  refine kr_met (as := [.ref (ad 7), .int v1, .int v2]) (bytes := cX6_setLaw) (maxL := 4) (rt := (some .int)) (Qc := fun sz => kQi out.1 D cI cZ cO ad (kE ad cI cZ cO k out.2) sz) (lv := [(0, .ref (ad 7)), (1, .int v1), (2, .int v2)]) (by decide +kernel) (Nat.le_of_ble_eq_true rfl) rfl (fun p e s mm below meth c ls V hH hl => ?_) sz
  exact w_X6_setLaw_0 V hH (lv_sub hl [0, 1, 2] rfl) hf
end
section
variable {p : Program} {l : Launch} {e : Env} {s : State} {mm : MethodId} {args : Array Value} {below : List Frame} {meth : Method} {c : Code} {D : va_G} {cI cZ cO : ClassId} {ad : Nat → Nat}
abbrev rm_X6_climb : Room := { frames := 1, cells := 0, slots := 0, locals := 40 }
set_option maxHeartbeats 4000000 in
set_option maxRecDepth 100000 in
theorem w_X6_climb_24 (V : kV p s mm args meth c cX6_climb RX6 4 none D cI cZ cO) {k : kS} {P : Nat} (hP : kU P) {c2 : Int32 → Int32 → kS → Option (kS)} (hk2 : ∀ {v1 : Int32} {v3 : Int32} {mo : kS} {H : Heap} {locs : List Loc} {ls : Array Slot} {out : kS}, kHE s H locs D ad cI cZ cO k mo [] → lv_has ls 4 [(0, .ref (ad 7)), (1, .int v1), (2, .ref (ad P)), (3, .int v3)] → c2 v1 v3 mo = some out → W p l e rm_X6_climb s mm args below meth c H locs 0 0 (kGv below args s D cI cZ cO ad k out 0 0) (F0 mm 2 ls [])) {s1 : Int32} {s2 : Int32} {v1 : Int32} {v3 : Int32} {mo : kS} {H : Heap} {locs : List Loc} {ls : Array Slot} {out : kS} (hH : kHE s H locs D ad cI cZ cO k mo []) (hl : lv_has ls 4 [(0, .ref (ad 7)), (1, .int v1), (2, .ref (ad P)), (3, .int v3)]) (hf : F_X6_climb_24 P c2 s1 s2 v1 v3 mo = some out) : W p l e rm_X6_climb s mm args below meth c H locs 0 0 (kGv below args s D cI cZ cO ad k out 0 0) (F0 mm 24 ls [.int s2, .int s1, .ref (ad P)]) := by
  have hx := V.1
  have hb := V.2.1
  obtain ⟨h24_1, hf⟩ := kif hf
  refine kr_iastM V hH (q := P) (kq_U hP) (fun _ => (kE_U hP)) h24_1 dX6_climb_24 (fun H locs hH => ?_)
  refine lv_iinc (v := (v3 + 1)) (lv' := [(3, .int (v3 + 1)), (0, .ref (ad 7)), (1, .int v1), (2, .ref (ad P))]) hx hb dX6_climb_25 hl (k := 3) rfl rfl (by decide) rfl (fun ls hl => ?_)
  refine lv_goto (tgt := 2) hx hb dX6_climb_28 (by decide) ?_
  exact hk2 hH (lv_sub hl [1, 2, 3, 0] rfl) hf
set_option maxHeartbeats 4000000 in
set_option maxRecDepth 100000 in
theorem w_X6_climb_17 (V : kV p s mm args meth c cX6_climb RX6 4 none D cI cZ cO) {k : kS} {P : Nat} (hP : kU P) {c2 : Int32 → Int32 → kS → Option (kS)} (hk2 : ∀ {v1 : Int32} {v3 : Int32} {mo : kS} {H : Heap} {locs : List Loc} {ls : Array Slot} {out : kS}, kHE s H locs D ad cI cZ cO k mo [] → lv_has ls 4 [(0, .ref (ad 7)), (1, .int v1), (2, .ref (ad P)), (3, .int v3)] → c2 v1 v3 mo = some out → W p l e rm_X6_climb s mm args below meth c H locs 0 0 (kGv below args s D cI cZ cO ad k out 0 0) (F0 mm 2 ls [])) {s1 : Int32} {v1 : Int32} {v3 : Int32} {mo : kS} {H : Heap} {locs : List Loc} {ls : Array Slot} {out : kS} (hH : kHE s H locs D ad cI cZ cO k mo []) (hl : lv_has ls 4 [(0, .ref (ad 7)), (1, .int v1), (2, .ref (ad P)), (3, .int v3)]) (hf : F_X6_climb_17 P c2 s1 v1 v3 mo = some out) : W p l e rm_X6_climb s mm args below meth c H locs 0 0 (kGv below args s D cI cZ cO ad k out 0 0) (F0 mm 17 ls [.int s1, .ref (ad P)]) := by
  have hx := V.1
  have hb := V.2.1
  refine lv_iconst (v := 0) hx hb dX6_climb_17 (by decide) ?_
  refine lv_goto (tgt := 24) hx hb dX6_climb_18 (by decide) ?_
  exact w_X6_climb_24 V hP hk2 hH (lv_sub hl [0, 1, 2, 3] rfl) hf
set_option maxHeartbeats 4000000 in
set_option maxRecDepth 100000 in
theorem w_X6_climb_21 (V : kV p s mm args meth c cX6_climb RX6 4 none D cI cZ cO) {k : kS} {P : Nat} (hP : kU P) {c2 : Int32 → Int32 → kS → Option (kS)} (hk2 : ∀ {v1 : Int32} {v3 : Int32} {mo : kS} {H : Heap} {locs : List Loc} {ls : Array Slot} {out : kS}, kHE s H locs D ad cI cZ cO k mo [] → lv_has ls 4 [(0, .ref (ad 7)), (1, .int v1), (2, .ref (ad P)), (3, .int v3)] → c2 v1 v3 mo = some out → W p l e rm_X6_climb s mm args below meth c H locs 0 0 (kGv below args s D cI cZ cO ad k out 0 0) (F0 mm 2 ls [])) {s1 : Int32} {v1 : Int32} {v3 : Int32} {mo : kS} {H : Heap} {locs : List Loc} {ls : Array Slot} {out : kS} (hH : kHE s H locs D ad cI cZ cO k mo []) (hl : lv_has ls 4 [(0, .ref (ad 7)), (1, .int v1), (2, .ref (ad P)), (3, .int v3)]) (hf : F_X6_climb_21 P c2 s1 v1 v3 mo = some out) : W p l e rm_X6_climb s mm args below meth c H locs 0 0 (kGv below args s D cI cZ cO ad k out 0 0) (F0 mm 21 ls [.int s1, .ref (ad P)]) := by
  have hx := V.1
  have hb := V.2.1
  refine lv_sipush (v := 999) hx hb dX6_climb_21 (by decide) ?_
  exact w_X6_climb_24 V hP hk2 hH (lv_sub hl [0, 1, 2, 3] rfl) hf
set_option maxHeartbeats 4000000 in
set_option maxRecDepth 100000 in
theorem w_X6_climb_10 (V : kV p s mm args meth c cX6_climb RX6 4 none D cI cZ cO) {k : kS} {P : Nat} (hP : kU P) {c2 : Int32 → Int32 → kS → Option (kS)} (hk2 : ∀ {v1 : Int32} {v3 : Int32} {mo : kS} {H : Heap} {locs : List Loc} {ls : Array Slot} {out : kS}, kHE s H locs D ad cI cZ cO k mo [] → lv_has ls 4 [(0, .ref (ad 7)), (1, .int v1), (2, .ref (ad P)), (3, .int v3)] → c2 v1 v3 mo = some out → W p l e rm_X6_climb s mm args below meth c H locs 0 0 (kGv below args s D cI cZ cO ad k out 0 0) (F0 mm 2 ls [])) {v1 : Int32} {v3 : Int32} {mo : kS} {H : Heap} {locs : List Loc} {ls : Array Slot} {out : kS} (hH : kHE s H locs D ad cI cZ cO k mo []) (hl : lv_has ls 4 [(0, .ref (ad 7)), (1, .int v1), (2, .ref (ad P)), (3, .int v3)]) (hf : F_X6_climb_10 P c2 v1 v3 mo = some out) : W p l e rm_X6_climb s mm args below meth c H locs 0 0 (kGv below args s D cI cZ cO ad k out 0 0) (F0 mm 10 ls []) := by
  have hx := V.1
  have hb := V.2.1
  refine lv_aload_n hx hb dX6_climb_10 rfl (lv_at hl 2 rfl) ?_
  refine lv_iload_n hx hb dX6_climb_11 rfl (lv_at hl 3 rfl) ?_
  refine lv_iload_n hx hb dX6_climb_12 rfl (lv_at hl 3 rfl) ?_
  refine lv_iload_n hx hb dX6_climb_13 rfl (lv_at hl 1 rfl) ?_
  refine lv_icmp_ne (tgt := 21) hx hb dX6_climb_14 (by decide) (fun hq => ?_) (fun hq => ?_)
  · have hf := kneg hq hf
    exact w_X6_climb_21 V hP hk2 hH (lv_sub hl [0, 1, 2, 3] rfl) hf
  · have hf := kpos hq hf
    exact w_X6_climb_17 V hP hk2 hH (lv_sub hl [0, 1, 2, 3] rfl) hf
set_option maxHeartbeats 4000000 in
set_option maxRecDepth 100000 in
theorem w_X6_climb_107 (V : kV p s mm args meth c cX6_climb RX6 4 none D cI cZ cO) {k : kS} {P : Nat} (hP : kU P) {c33 : Int32 → kS → Option (kS)} (hk33 : ∀ {v3 : Int32} {mo : kS} {H : Heap} {locs : List Loc} {ls : Array Slot} {out : kS}, kHE s H locs D ad cI cZ cO k mo [] → lv_has ls 4 [(0, .ref (ad 7)), (2, .ref (ad P)), (3, .int v3)] → c33 v3 mo = some out → W p l e rm_X6_climb s mm args below meth c H locs 0 0 (kGv below args s D cI cZ cO ad k out 0 0) (F0 mm 33 ls [])) {v3 : Int32} {mo : kS} {H : Heap} {locs : List Loc} {ls : Array Slot} {out : kS} (hH : kHE s H locs D ad cI cZ cO k mo []) (hl : lv_has ls 4 [(0, .ref (ad 7)), (2, .ref (ad P)), (3, .int v3)]) (hf : F_X6_climb_107 P c33 v3 mo = some out) : W p l e rm_X6_climb s mm args below meth c H locs 0 0 (kGv below args s D cI cZ cO ad k out 0 0) (F0 mm 107 ls []) := by
  have hx := V.1
  have hb := V.2.1
  refine lv_iinc (v := (v3 + (-1))) (lv' := [(3, .int (v3 + (-1))), (0, .ref (ad 7)), (2, .ref (ad P))]) hx hb dX6_climb_107 hl (k := 2) rfl rfl (by decide) rfl (fun ls hl => ?_)
  refine lv_goto (tgt := 33) hx hb dX6_climb_110 (by decide) ?_
  exact hk33 hH (lv_sub hl [1, 2, 0] rfl) hf
set_option maxHeartbeats 4000000 in
set_option maxRecDepth 100000 in
theorem w_X6_climb_56 (V : kV p s mm args meth c cX6_climb RX6 4 none D cI cZ cO) {k : kS} {P : Nat} (hP : kU P) {c33 : Int32 → kS → Option (kS)} (hk33 : ∀ {v3 : Int32} {mo : kS} {H : Heap} {locs : List Loc} {ls : Array Slot} {out : kS}, kHE s H locs D ad cI cZ cO k mo [] → lv_has ls 4 [(0, .ref (ad 7)), (2, .ref (ad P)), (3, .int v3)] → c33 v3 mo = some out → W p l e rm_X6_climb s mm args below meth c H locs 0 0 (kGv below args s D cI cZ cO ad k out 0 0) (F0 mm 33 ls [])) {v3 : Int32} {mo : kS} {H : Heap} {locs : List Loc} {ls : Array Slot} {out : kS} (hH : kHE s H locs D ad cI cZ cO k mo []) (hl : lv_has ls 4 [(0, .ref (ad 7)), (2, .ref (ad P)), (3, .int v3)]) (hf : F_X6_climb_56 P c33 v3 mo = some out) : W p l e rm_X6_climb s mm args below meth c H locs 0 0 (kGv below args s D cI cZ cO ad k out 0 0) (F0 mm 56 ls []) := by
  have hx := V.1
  have hb := V.2.1
  refine lv_goto (tgt := 107) hx hb dX6_climb_56 (by decide) ?_
  exact w_X6_climb_107 V hP hk33 hH (lv_sub hl [0, 1, 2] rfl) hf
set_option maxHeartbeats 4000000 in
set_option maxRecDepth 100000 in
theorem w_X6_climb_59 (V : kV p s mm args meth c cX6_climb RX6 4 none D cI cZ cO) {k : kS} {P : Nat} (hP : kU P) {c33 : Int32 → kS → Option (kS)} (hk33 : ∀ {v3 : Int32} {mo : kS} {H : Heap} {locs : List Loc} {ls : Array Slot} {out : kS}, kHE s H locs D ad cI cZ cO k mo [] → lv_has ls 4 [(0, .ref (ad 7)), (2, .ref (ad P)), (3, .int v3)] → c33 v3 mo = some out → W p l e rm_X6_climb s mm args below meth c H locs 0 0 (kGv below args s D cI cZ cO ad k out 0 0) (F0 mm 33 ls [])) {v3 : Int32} {mo : kS} {H : Heap} {locs : List Loc} {ls : Array Slot} {out : kS} (hH : kHE s H locs D ad cI cZ cO k mo []) (hl : lv_has ls 4 [(0, .ref (ad 7)), (2, .ref (ad P)), (3, .int v3)]) (hf : F_X6_climb_59 P c33 v3 mo = some out) : W p l e rm_X6_climb s mm args below meth c H locs 0 0 (kGv below args s D cI cZ cO ad k out 0 0) (F0 mm 59 ls []) := by
  have hx := V.1
  have hb := V.2.1
  refine lv_aload_n hx hb dX6_climb_59 rfl (lv_at hl 1 rfl) ?_
  refine lv_aload_n hx hb dX6_climb_60 rfl (lv_at hl 0 rfl) ?_
  refine lv_iload_n hx hb dX6_climb_61 rfl (lv_at hl 2 rfl) ?_
  refine lv_iconst (v := 3) hx hb dX6_climb_62 (by decide) ?_
  obtain ⟨x59_1, hx59_1, hf⟩ := kbind hf
  refine kr_calli0 hH (kr_runV (as := [.int v3, .int 3]) (rest := [.ref (ad P)]) (pl := 7) V hH kYX6_pe kl_X6_45 (c_X6_pe l _ _ hx59_1 _) rfl rfl ⟨Nat.le_of_ble_eq_true rfl, Nat.le_of_ble_eq_true rfl⟩ (by decide) kE_7 rfl rfl hl.1 (Nat.le_of_ble_eq_true rfl) dX6_climb_63 ⟨Nat.le_refl _, Nat.le_refl _⟩ rfl) (fun H locs hH => ?_)
  refine lv_aload_n hx hb dX6_climb_66 rfl (lv_at hl 1 rfl) ?_
  refine lv_aload_n hx hb dX6_climb_67 rfl (lv_at hl 0 rfl) ?_
  refine lv_iload_n hx hb dX6_climb_68 rfl (lv_at hl 2 rfl) ?_
  refine lv_iconst (v := 3) hx hb dX6_climb_69 (by decide) ?_
  obtain ⟨x59_2, hx59_2, hf⟩ := kbind hf
  refine kr_calli0 hH (kr_runV (as := [.int v3, .int 3]) (rest := [.ref (ad P), .int x59_1, .ref (ad P)]) (pl := 7) V hH kYX6_pe kl_X6_45 (c_X6_pe l _ _ hx59_2 _) rfl rfl ⟨Nat.le_of_ble_eq_true rfl, Nat.le_of_ble_eq_true rfl⟩ (by decide) kE_7 rfl rfl hl.1 (Nat.le_of_ble_eq_true rfl) dX6_climb_70 ⟨Nat.le_refl _, Nat.le_refl _⟩ rfl) (fun H locs hH => ?_)
  obtain ⟨h59_3, hf⟩ := kif hf
  refine kr_iald V hH (q := P) (kq_U hP) (kE_U hP) h59_3 dX6_climb_73 ?_
  refine lv_aload_n hx hb dX6_climb_74 rfl (lv_at hl 1 rfl) ?_
  refine lv_iload_n hx hb dX6_climb_75 rfl (lv_at hl 2 rfl) ?_
  obtain ⟨h59_4, hf⟩ := kif hf
  refine kr_iald V hH (q := P) (kq_U hP) (kE_U hP) h59_4 dX6_climb_76 ?_
  refine lv_iconst (v := 1) hx hb dX6_climb_77 (by decide) ?_
  refine lv_iadd hx hb dX6_climb_78 ?_
  refine kr_mn V hl.1 kl_X6_80 (Nat.le_of_ble_eq_true rfl) (Nat.le_of_ble_eq_true rfl) (Nat.le_of_ble_eq_true rfl) (Nat.le_of_ble_eq_true rfl) dX6_climb_79 ?_
  obtain ⟨h59_5, hf⟩ := kif hf
  refine kr_iastM V hH (q := P) (kq_U hP) (fun _ => (kE_U hP)) h59_5 dX6_climb_82 (fun H locs hH => ?_)
  refine lv_aload_n hx hb dX6_climb_83 rfl (lv_at hl 1 rfl) ?_
  refine lv_aload_n hx hb dX6_climb_84 rfl (lv_at hl 0 rfl) ?_
  refine lv_iload_n hx hb dX6_climb_85 rfl (lv_at hl 2 rfl) ?_
  refine lv_iconst (v := 4) hx hb dX6_climb_86 (by decide) ?_
  obtain ⟨x59_6, hx59_6, hf⟩ := kbind hf
  refine kr_calli0 hH (kr_runV (as := [.int v3, .int 4]) (rest := [.ref (ad P)]) (pl := 7) V hH kYX6_pe kl_X6_45 (c_X6_pe l _ _ hx59_6 _) rfl rfl ⟨Nat.le_of_ble_eq_true rfl, Nat.le_of_ble_eq_true rfl⟩ (by decide) kE_7 rfl rfl hl.1 (Nat.le_of_ble_eq_true rfl) dX6_climb_87 ⟨Nat.le_refl _, Nat.le_refl _⟩ rfl) (fun H locs hH => ?_)
  refine lv_aload_n hx hb dX6_climb_90 rfl (lv_at hl 1 rfl) ?_
  refine lv_aload_n hx hb dX6_climb_91 rfl (lv_at hl 0 rfl) ?_
  refine lv_iload_n hx hb dX6_climb_92 rfl (lv_at hl 2 rfl) ?_
  refine lv_iconst (v := 4) hx hb dX6_climb_93 (by decide) ?_
  obtain ⟨x59_7, hx59_7, hf⟩ := kbind hf
  refine kr_calli0 hH (kr_runV (as := [.int v3, .int 4]) (rest := [.ref (ad P), .int x59_6, .ref (ad P)]) (pl := 7) V hH kYX6_pe kl_X6_45 (c_X6_pe l _ _ hx59_7 _) rfl rfl ⟨Nat.le_of_ble_eq_true rfl, Nat.le_of_ble_eq_true rfl⟩ (by decide) kE_7 rfl rfl hl.1 (Nat.le_of_ble_eq_true rfl) dX6_climb_94 ⟨Nat.le_refl _, Nat.le_refl _⟩ rfl) (fun H locs hH => ?_)
  obtain ⟨h59_8, hf⟩ := kif hf
  refine kr_iald V hH (q := P) (kq_U hP) (kE_U hP) h59_8 dX6_climb_97 ?_
  refine lv_aload_n hx hb dX6_climb_98 rfl (lv_at hl 1 rfl) ?_
  refine lv_iload_n hx hb dX6_climb_99 rfl (lv_at hl 2 rfl) ?_
  obtain ⟨h59_9, hf⟩ := kif hf
  refine kr_iald V hH (q := P) (kq_U hP) (kE_U hP) h59_9 dX6_climb_100 ?_
  refine lv_iconst (v := 1) hx hb dX6_climb_101 (by decide) ?_
  refine lv_iadd hx hb dX6_climb_102 ?_
  refine kr_mn V hl.1 kl_X6_80 (Nat.le_of_ble_eq_true rfl) (Nat.le_of_ble_eq_true rfl) (Nat.le_of_ble_eq_true rfl) (Nat.le_of_ble_eq_true rfl) dX6_climb_103 ?_
  obtain ⟨h59_10, hf⟩ := kif hf
  refine kr_iastM V hH (q := P) (kq_U hP) (fun _ => (kE_U hP)) h59_10 dX6_climb_106 (fun H locs hH => ?_)
  exact w_X6_climb_107 V hP hk33 hH (lv_sub hl [0, 1, 2] rfl) hf
set_option maxHeartbeats 4000000 in
set_option maxRecDepth 100000 in
theorem w_X6_climb_46 (V : kV p s mm args meth c cX6_climb RX6 4 none D cI cZ cO) {k : kS} {P : Nat} (hP : kU P) {c33 : Int32 → kS → Option (kS)} (hk33 : ∀ {v3 : Int32} {mo : kS} {H : Heap} {locs : List Loc} {ls : Array Slot} {out : kS}, kHE s H locs D ad cI cZ cO k mo [] → lv_has ls 4 [(0, .ref (ad 7)), (2, .ref (ad P)), (3, .int v3)] → c33 v3 mo = some out → W p l e rm_X6_climb s mm args below meth c H locs 0 0 (kGv below args s D cI cZ cO ad k out 0 0) (F0 mm 33 ls [])) {v3 : Int32} {mo : kS} {H : Heap} {locs : List Loc} {ls : Array Slot} {out : kS} (hH : kHE s H locs D ad cI cZ cO k mo []) (hl : lv_has ls 4 [(0, .ref (ad 7)), (2, .ref (ad P)), (3, .int v3)]) (hf : F_X6_climb_46 P c33 v3 mo = some out) : W p l e rm_X6_climb s mm args below meth c H locs 0 0 (kGv below args s D cI cZ cO ad k out 0 0) (F0 mm 46 ls []) := by
  have hx := V.1
  have hb := V.2.1
  refine lv_aload_n hx hb dX6_climb_46 rfl (lv_at hl 0 rfl) ?_
  refine lv_iload_n hx hb dX6_climb_47 rfl (lv_at hl 2 rfl) ?_
  refine lv_iconst (v := 3) hx hb dX6_climb_48 (by decide) ?_
  obtain ⟨x46_1, hx46_1, hf⟩ := kbind hf
  refine kr_calli0 hH (kr_runV (as := [.int v3, .int 3]) (rest := []) (pl := 7) V hH kYX6_pe kl_X6_45 (c_X6_pe l _ _ hx46_1 _) rfl rfl ⟨Nat.le_of_ble_eq_true rfl, Nat.le_of_ble_eq_true rfl⟩ (by decide) kE_7 rfl rfl hl.1 (Nat.le_of_ble_eq_true rfl) dX6_climb_49 ⟨Nat.le_refl _, Nat.le_refl _⟩ rfl) (fun H locs hH => ?_)
  refine lv_iconst (v := (-1)) hx hb dX6_climb_52 (by decide) ?_
  refine lv_icmp_ne (tgt := 59) hx hb dX6_climb_53 (by decide) (fun hq => ?_) (fun hq => ?_)
  · have hf := kneg hq hf
    exact w_X6_climb_59 V hP hk33 hH (lv_sub hl [0, 1, 2] rfl) hf
  · have hf := kpos hq hf
    exact w_X6_climb_56 V hP hk33 hH (lv_sub hl [0, 1, 2] rfl) hf
set_option maxHeartbeats 4000000 in
set_option maxRecDepth 100000 in
theorem w_X6_climb_37 (V : kV p s mm args meth c cX6_climb RX6 4 none D cI cZ cO) {k : kS} {P : Nat} (hP : kU P) {c33 : Int32 → kS → Option (kS)} (hk33 : ∀ {v3 : Int32} {mo : kS} {H : Heap} {locs : List Loc} {ls : Array Slot} {out : kS}, kHE s H locs D ad cI cZ cO k mo [] → lv_has ls 4 [(0, .ref (ad 7)), (2, .ref (ad P)), (3, .int v3)] → c33 v3 mo = some out → W p l e rm_X6_climb s mm args below meth c H locs 0 0 (kGv below args s D cI cZ cO ad k out 0 0) (F0 mm 33 ls [])) {v3 : Int32} {mo : kS} {H : Heap} {locs : List Loc} {ls : Array Slot} {out : kS} (hH : kHE s H locs D ad cI cZ cO k mo []) (hl : lv_has ls 4 [(0, .ref (ad 7)), (2, .ref (ad P)), (3, .int v3)]) (hf : F_X6_climb_37 P c33 v3 mo = some out) : W p l e rm_X6_climb s mm args below meth c H locs 0 0 (kGv below args s D cI cZ cO ad k out 0 0) (F0 mm 37 ls []) := by
  have hx := V.1
  have hb := V.2.1
  refine lv_aload_n hx hb dX6_climb_37 rfl (lv_at hl 1 rfl) ?_
  refine lv_iload_n hx hb dX6_climb_38 rfl (lv_at hl 2 rfl) ?_
  obtain ⟨h37_1, hf⟩ := kif hf
  refine kr_iald V hH (q := P) (kq_U hP) (kE_U hP) h37_1 dX6_climb_39 ?_
  refine lv_sipush (v := 999) hx hb dX6_climb_40 (by decide) ?_
  refine lv_icmp_eq (tgt := 107) hx hb dX6_climb_43 (by decide) (fun hq => ?_) (fun hq => ?_)
  · have hf := kpos hq hf
    exact w_X6_climb_107 V hP hk33 hH (lv_sub hl [0, 1, 2] rfl) hf
  · have hf := kneg hq hf
    exact w_X6_climb_46 V hP hk33 hH (lv_sub hl [0, 1, 2] rfl) hf
set_option maxHeartbeats 4000000 in
set_option maxRecDepth 100000 in
theorem w_X6_climb_113 (V : kV p s mm args meth c cX6_climb RX6 4 none D cI cZ cO) {k : kS} {P : Nat} (hP : kU P) {mo : kS} {H : Heap} {locs : List Loc} {ls : Array Slot} {out : kS} (hH : kHE s H locs D ad cI cZ cO k mo []) (hl : lv_has ls 4 []) (hf : F_X6_climb_113 P mo = some out) : W p l e rm_X6_climb s mm args below meth c H locs 0 0 (kGv below args s D cI cZ cO ad k out 0 0) (F0 mm 113 ls []) := by
  have hx := V.1
  have hb := V.2.1
  cases hf
  exact kr_vret V hH dX6_climb_113
set_option maxHeartbeats 4000000 in
set_option maxRecDepth 100000 in
theorem w_X6_climb_33 (V : kV p s mm args meth c cX6_climb RX6 4 none D cI cZ cO) {k : kS} {P : Nat} (hP : kU P) : ∀ (n : Nat) {v3 : Int32} {mo : kS} {H : Heap} {locs : List Loc} {ls : Array Slot} {out : kS}, kHE s H locs D ad cI cZ cO k mo [] → lv_has ls 4 [(0, .ref (ad 7)), (2, .ref (ad P)), (3, .int v3)] → F_X6_climb_33 P n v3 mo = some out → W p l e rm_X6_climb s mm args below meth c H locs 0 0 (kGv below args s D cI cZ cO ad k out 0 0) (F0 mm 33 ls []) := by
  have hx := V.1
  have hb := V.2.1
  intro n
  induction n with
  | zero => intro _ _ _ _ _ _ hH hl hf; cases hf
  | succ n hk33 =>
    intro v3 mo H locs ls out hH hl hf
    refine lv_iload_n hx hb dX6_climb_33 rfl (lv_at hl 2 rfl) ?_
    refine lv_if_lt (tgt := 113) hx hb dX6_climb_34 (by decide) (fun hq => ?_) (fun hq => ?_)
    · have hf := kpos hq hf
      exact w_X6_climb_113 V hP hH (lv_sub hl [] rfl) hf
    · have hf := kneg hq hf
      exact w_X6_climb_37 V hP hk33 hH (lv_sub hl [0, 1, 2] rfl) hf
set_option maxHeartbeats 4000000 in
set_option maxRecDepth 100000 in
theorem w_X6_climb_31 (V : kV p s mm args meth c cX6_climb RX6 4 none D cI cZ cO) {k : kS} {P : Nat} (hP : kU P) {v1 : Int32} {mo : kS} {H : Heap} {locs : List Loc} {ls : Array Slot} {out : kS} (hH : kHE s H locs D ad cI cZ cO k mo []) (hl : lv_has ls 4 [(0, .ref (ad 7)), (1, .int v1), (2, .ref (ad P))]) (hf : F_X6_climb_31 P v1 mo = some out) : W p l e rm_X6_climb s mm args below meth c H locs 0 0 (kGv below args s D cI cZ cO ad k out 0 0) (F0 mm 31 ls []) := by
  have hx := V.1
  have hb := V.2.1
  refine lv_iload_n hx hb dX6_climb_31 rfl (lv_at hl 1 rfl) ?_
  refine lv_istore_n (lv' := [(3, .int v1), (0, .ref (ad 7)), (1, .int v1), (2, .ref (ad P))]) hx hb dX6_climb_32 rfl hl (by decide) rfl (fun ls hl => ?_)
  exact w_X6_climb_33 V hP kN hH (lv_sub hl [1, 3, 0] rfl) hf
set_option maxHeartbeats 4000000 in
set_option maxRecDepth 100000 in
theorem w_X6_climb_2 (V : kV p s mm args meth c cX6_climb RX6 4 none D cI cZ cO) {k : kS} {P : Nat} (hP : kU P) : ∀ (n : Nat) {v1 : Int32} {v3 : Int32} {mo : kS} {H : Heap} {locs : List Loc} {ls : Array Slot} {out : kS}, kHE s H locs D ad cI cZ cO k mo [] → lv_has ls 4 [(0, .ref (ad 7)), (1, .int v1), (2, .ref (ad P)), (3, .int v3)] → F_X6_climb_2 P n v1 v3 mo = some out → W p l e rm_X6_climb s mm args below meth c H locs 0 0 (kGv below args s D cI cZ cO ad k out 0 0) (F0 mm 2 ls []) := by
  have hx := V.1
  have hb := V.2.1
  intro n
  induction n with
  | zero => intro _ _ _ _ _ _ _ hH hl hf; cases hf
  | succ n hk2 =>
    intro v1 v3 mo H locs ls out hH hl hf
    refine lv_iload_n hx hb dX6_climb_2 rfl (lv_at hl 3 rfl) ?_
    refine lv_aload_n hx hb dX6_climb_3 rfl (lv_at hl 0 rfl) ?_
    refine kg_X6_35 V hH dX6_climb_4 ?_
    refine lv_icmp_ge (tgt := 31) hx hb dX6_climb_7 (by decide) (fun hq => ?_) (fun hq => ?_)
    · have hf := kpos hq hf
      exact w_X6_climb_31 V hP hH (lv_sub hl [0, 1, 2] rfl) hf
    · have hf := kneg hq hf
      exact w_X6_climb_10 V hP hk2 hH (lv_sub hl [0, 1, 2, 3] rfl) hf
set_option maxHeartbeats 4000000 in
set_option maxRecDepth 100000 in
theorem w_X6_climb_0 (V : kV p s mm args meth c cX6_climb RX6 4 none D cI cZ cO) {k : kS} {P : Nat} (hP : kU P) {v1 : Int32} {mo : kS} {H : Heap} {locs : List Loc} {ls : Array Slot} {out : kS} (hH : kHE s H locs D ad cI cZ cO k mo []) (hl : lv_has ls 4 [(0, .ref (ad 7)), (1, .int v1), (2, .ref (ad P))]) (hf : F_X6_climb_0 P v1 mo = some out) : W p l e rm_X6_climb s mm args below meth c H locs 0 0 (kGv below args s D cI cZ cO ad k out 0 0) (F0 mm 0 ls []) := by
  have hx := V.1
  have hb := V.2.1
  refine lv_iconst (v := 0) hx hb dX6_climb_0 (by decide) ?_
  refine lv_istore_n (lv' := [(3, .int 0), (0, .ref (ad 7)), (1, .int v1), (2, .ref (ad P))]) hx hb dX6_climb_1 rfl hl (by decide) rfl (fun ls hl => ?_)
  exact w_X6_climb_2 V hP kN hH (lv_sub hl [1, 2, 3, 0] rfl) hf
set_option maxHeartbeats 4000000 in
set_option maxRecDepth 100000 in
theorem c_X6_climb (l : Launch) {D : va_G} {cI cZ cO : ClassId} {ad : Nat → Nat} {k mo : kS} {P : Nat} (hP : kU P) (v1 : Int32) {out : kS} (hf : F_X6_climb P v1 mo = some out) (sz : Nat) : Met l yX6_climb (Cond.code yX6_climb cX6_climb 4 none :: kWA) rm_X6_climb (kP [.ref (ad 7), .int v1, .ref (ad P)] D cI cZ cO ad (kE ad cI cZ cO k mo) sz) (kQv D cI cZ cO ad (kE ad cI cZ cO k out) sz) 0 0 (fA ad sz) := by
  refine kr_met (as := [.ref (ad 7), .int v1, .ref (ad P)]) (bytes := cX6_climb) (maxL := 4) (rt := none) (Qc := fun sz => kQv D cI cZ cO ad (kE ad cI cZ cO k out) sz) (lv := [(0, .ref (ad 7)), (1, .int v1), (2, .ref (ad P))]) (by decide +kernel) (Nat.le_of_ble_eq_true rfl) rfl (fun p e s mm below meth c ls V hH hl => ?_) sz
  exact w_X6_climb_0 V hP hH (lv_sub hl [0, 1, 2] rfl) hf
end
section
variable {p : Program} {l : Launch} {e : Env} {s : State} {mm : MethodId} {args : Array Value} {below : List Frame} {meth : Method} {c : Code} {D : va_G} {cI cZ cO : ClassId} {ad : Nat → Nat}
abbrev rm_X6_steps : Room := { frames := 2, cells := 0, slots := 0, locals := 63 }
set_option maxHeartbeats 4000000 in
set_option maxRecDepth 100000 in
theorem w_X6_steps_34 (V : kV p s mm args meth c cX6_steps RX6 5 (some .int) D cI cZ cO) {k : kS} {c25 : Int32 → Int32 → kS → Option ((Int32 × kS))} (hk25 : ∀ {v3 : Int32} {v4 : Int32} {mo : kS} {H : Heap} {locs : List Loc} {ls : Array Slot} {out : (Int32 × kS)}, kHE s H locs D ad cI cZ cO k mo [] → lv_has ls 5 [(0, .ref (ad 7)), (3, .int v3), (4, .int v4)] → c25 v3 v4 mo = some out → W p l e rm_X6_steps s mm args below meth c H locs 0 0 (kGi below args s D cI cZ cO ad out.1 k out.2 0 0) (F0 mm 25 ls [])) {v3 : Int32} {v4 : Int32} {mo : kS} {H : Heap} {locs : List Loc} {ls : Array Slot} {out : (Int32 × kS)} (hH : kHE s H locs D ad cI cZ cO k mo []) (hl : lv_has ls 5 [(0, .ref (ad 7)), (3, .int v3), (4, .int v4)]) (hf : F_X6_steps_34 c25 v3 v4 mo = some out) : W p l e rm_X6_steps s mm args below meth c H locs 0 0 (kGi below args s D cI cZ cO ad out.1 k out.2 0 0) (F0 mm 34 ls []) := by
  have hx := V.1
  have hb := V.2.1
  refine lv_iload_n hx hb dX6_steps_34 rfl (lv_at hl 1 rfl) ?_
  refine lv_aload_n hx hb dX6_steps_35 rfl (lv_at hl 0 rfl) ?_
  refine kg_X6_22 V hH dX6_steps_36 ?_
  refine lv_iload hx hb dX6_steps_39 (lv_at hl 2 rfl) ?_
  obtain ⟨h34_1, hf⟩ := kif hf
  refine kr_iald V hH (q := 12) (by decide) kE_12 h34_1 dX6_steps_41 ?_
  refine lv_aload_n hx hb dX6_steps_42 rfl (lv_at hl 0 rfl) ?_
  refine kg_X6_25 V hH dX6_steps_43 ?_
  refine lv_iload hx hb dX6_steps_46 (lv_at hl 2 rfl) ?_
  obtain ⟨h34_2, hf⟩ := kif hf
  refine kr_iald V hH (q := 13) (by decide) kE_13 h34_2 dX6_steps_48 ?_
  refine lv_iadd hx hb dX6_steps_49 ?_
  refine kr_mn V hl.1 kl_X6_80 (Nat.le_of_ble_eq_true rfl) (Nat.le_of_ble_eq_true rfl) (Nat.le_of_ble_eq_true rfl) (Nat.le_of_ble_eq_true rfl) dX6_steps_50 ?_
  refine lv_istore_n (lv' := [(3, .int (if ((mo 12 v4.toNatClampNeg) + (mo 13 v4.toNatClampNeg)) < v3 then ((mo 12 v4.toNatClampNeg) + (mo 13 v4.toNatClampNeg)) else v3)), (0, .ref (ad 7)), (4, .int v4)]) hx hb dX6_steps_53 rfl hl (by decide) rfl (fun ls hl => ?_)
  refine lv_iinc (v := (v4 + 1)) (lv' := [(4, .int (v4 + 1)), (3, .int (if ((mo 12 v4.toNatClampNeg) + (mo 13 v4.toNatClampNeg)) < v3 then ((mo 12 v4.toNatClampNeg) + (mo 13 v4.toNatClampNeg)) else v3)), (0, .ref (ad 7))]) hx hb dX6_steps_54 hl (k := 2) rfl rfl (by decide) rfl (fun ls hl => ?_)
  refine lv_goto (tgt := 25) hx hb dX6_steps_57 (by decide) ?_
  exact hk25 hH (lv_sub hl [2, 1, 0] rfl) hf
set_option maxHeartbeats 4000000 in
set_option maxRecDepth 100000 in
theorem w_X6_steps_60 (V : kV p s mm args meth c cX6_steps RX6 5 (some .int) D cI cZ cO) {k : kS} {v3 : Int32} {mo : kS} {H : Heap} {locs : List Loc} {ls : Array Slot} {out : (Int32 × kS)} (hH : kHE s H locs D ad cI cZ cO k mo []) (hl : lv_has ls 5 [(3, .int v3)]) (hf : F_X6_steps_60 v3 mo = some out) : W p l e rm_X6_steps s mm args below meth c H locs 0 0 (kGi below args s D cI cZ cO ad out.1 k out.2 0 0) (F0 mm 60 ls []) := by
  have hx := V.1
  have hb := V.2.1
  refine lv_iload_n hx hb dX6_steps_60 rfl (lv_at hl 0 rfl) ?_
  cases hf
  exact kr_iret V hH dX6_steps_61
set_option maxHeartbeats 4000000 in
set_option maxRecDepth 100000 in
theorem w_X6_steps_25 (V : kV p s mm args meth c cX6_steps RX6 5 (some .int) D cI cZ cO) {k : kS} : ∀ (n : Nat) {v3 : Int32} {v4 : Int32} {mo : kS} {H : Heap} {locs : List Loc} {ls : Array Slot} {out : (Int32 × kS)}, kHE s H locs D ad cI cZ cO k mo [] → lv_has ls 5 [(0, .ref (ad 7)), (3, .int v3), (4, .int v4)] → F_X6_steps_25 n v3 v4 mo = some out → W p l e rm_X6_steps s mm args below meth c H locs 0 0 (kGi below args s D cI cZ cO ad out.1 k out.2 0 0) (F0 mm 25 ls []) := by
  have hx := V.1
  have hb := V.2.1
  intro n
  induction n with
  | zero => intro _ _ _ _ _ _ _ hH hl hf; cases hf
  | succ n hk25 =>
    intro v3 v4 mo H locs ls out hH hl hf
    refine lv_iload hx hb dX6_steps_25 (lv_at hl 2 rfl) ?_
    refine lv_aload_n hx hb dX6_steps_27 rfl (lv_at hl 0 rfl) ?_
    refine kg_X6_35 V hH dX6_steps_28 ?_
    refine lv_icmp_ge (tgt := 60) hx hb dX6_steps_31 (by decide) (fun hq => ?_) (fun hq => ?_)
    · have hf := kpos hq hf
      exact w_X6_steps_60 V hH (lv_sub hl [1] rfl) hf
    · have hf := kneg hq hf
      exact w_X6_steps_34 V hk25 hH (lv_sub hl [0, 1, 2] rfl) hf
set_option maxHeartbeats 4000000 in
set_option maxRecDepth 100000 in
theorem w_X6_steps_0 (V : kV p s mm args meth c cX6_steps RX6 5 (some .int) D cI cZ cO) {k : kS} {v1 : Int32} {v2 : Int32} {mo : kS} {H : Heap} {locs : List Loc} {ls : Array Slot} {out : (Int32 × kS)} (hH : kHE s H locs D ad cI cZ cO k mo []) (hl : lv_has ls 5 [(0, .ref (ad 7)), (1, .int v1), (2, .int v2)]) (hf : F_X6_steps_0 v1 v2 mo = some out) : W p l e rm_X6_steps s mm args below meth c H locs 0 0 (kGi below args s D cI cZ cO ad out.1 k out.2 0 0) (F0 mm 0 ls []) := by
  have hx := V.1
  have hb := V.2.1
  refine lv_aload_n hx hb dX6_steps_0 rfl (lv_at hl 0 rfl) ?_
  refine lv_iload_n hx hb dX6_steps_1 rfl (lv_at hl 1 rfl) ?_
  refine lv_aload_n hx hb dX6_steps_2 rfl (lv_at hl 0 rfl) ?_
  refine kg_X6_22 V hH dX6_steps_3 ?_
  obtain ⟨x0_1, hx0_1, hf⟩ := kbind hf
  refine kr_callv0 hH (kr_runV (as := [.int v1, .ref (ad 12)]) (rest := []) (pl := 7) V hH kYX6_climb kl_X6_85 (c_X6_climb l kU12 _ hx0_1 _) rfl rfl ⟨Nat.le_of_ble_eq_true rfl, Nat.le_of_ble_eq_true rfl⟩ (by decide) kE_7 rfl rfl hl.1 (Nat.le_of_ble_eq_true rfl) dX6_steps_6 ⟨Nat.le_refl _, Nat.le_refl _⟩ rfl) (fun H locs hH => ?_)
  refine lv_aload_n hx hb dX6_steps_9 rfl (lv_at hl 0 rfl) ?_
  refine lv_iload_n hx hb dX6_steps_10 rfl (lv_at hl 2 rfl) ?_
  refine lv_aload_n hx hb dX6_steps_11 rfl (lv_at hl 0 rfl) ?_
  refine kg_X6_25 V hH dX6_steps_12 ?_
  obtain ⟨x0_2, hx0_2, hf⟩ := kbind hf
  refine kr_callv0 hH (kr_runV (as := [.int v2, .ref (ad 13)]) (rest := []) (pl := 7) V hH kYX6_climb kl_X6_85 (c_X6_climb l kU13 _ hx0_2 _) rfl rfl ⟨Nat.le_of_ble_eq_true rfl, Nat.le_of_ble_eq_true rfl⟩ (by decide) kE_7 rfl rfl hl.1 (Nat.le_of_ble_eq_true rfl) dX6_steps_15 ⟨Nat.le_refl _, Nat.le_refl _⟩ rfl) (fun H locs hH => ?_)
  refine lv_sipush (v := 999) hx hb dX6_steps_18 (by decide) ?_
  refine lv_istore_n (lv' := [(3, .int 999), (0, .ref (ad 7)), (1, .int v1), (2, .int v2)]) hx hb dX6_steps_21 rfl hl (by decide) rfl (fun ls hl => ?_)
  refine lv_iconst (v := 0) hx hb dX6_steps_22 (by decide) ?_
  refine lv_istore (lv' := [(4, .int 0), (3, .int 999), (0, .ref (ad 7)), (1, .int v1), (2, .int v2)]) hx hb dX6_steps_23 hl (by decide) rfl (fun ls hl => ?_)
  exact w_X6_steps_25 V kN hH (lv_sub hl [2, 1, 0] rfl) hf
set_option maxHeartbeats 4000000 in
set_option maxRecDepth 100000 in
theorem c_X6_steps (l : Launch) {D : va_G} {cI cZ cO : ClassId} {ad : Nat → Nat} {k mo : kS} (v1 : Int32) (v2 : Int32) {out : (Int32 × kS)} (hf : F_X6_steps v1 v2 mo = some out) (sz : Nat) : Met l yX6_steps (Cond.code yX6_steps cX6_steps 5 (some .int) :: kWA) rm_X6_steps (kP [.ref (ad 7), .int v1, .int v2] D cI cZ cO ad (kE ad cI cZ cO k mo) sz) (kQi out.1 D cI cZ cO ad (kE ad cI cZ cO k out.2) sz) 0 0 (fA ad sz) := by
  refine kr_met (as := [.ref (ad 7), .int v1, .int v2]) (bytes := cX6_steps) (maxL := 5) (rt := (some .int)) (Qc := fun sz => kQi out.1 D cI cZ cO ad (kE ad cI cZ cO k out.2) sz) (lv := [(0, .ref (ad 7)), (1, .int v1), (2, .int v2)]) (by decide +kernel) (Nat.le_of_ble_eq_true rfl) rfl (fun p e s mm below meth c ls V hH hl => ?_) sz
  exact w_X6_steps_0 V hH (lv_sub hl [0, 1, 2] rfl) hf
end
section
variable {p : Program} {l : Launch} {e : Env} {s : State} {mm : MethodId} {args : Array Value} {below : List Frame} {meth : Method} {c : Code} {D : va_G} {cI cZ cO : ClassId} {ad : Nat → Nat}
abbrev rm_X6_isBefore : Room := { frames := 1, cells := 0, slots := 0, locals := 22 }
set_option maxHeartbeats 4000000 in
set_option maxRecDepth 100000 in
theorem w_X6_isBefore_40 (V : kV p s mm args meth c cX6_isBefore RX6 3 (some .boolean) D cI cZ cO) {k mo : kS} {s0 : Int32} {H : Heap} {locs : List Loc} {ls : Array Slot} {out : Int32} (hH : kHE s H locs D ad cI cZ cO k mo []) (hl : lv_has ls 3 []) (hf : F_X6_isBefore_40 mo s0 = some out) : W p l e rm_X6_isBefore s mm args below meth c H locs 0 0 (kGi below args s D cI cZ cO ad out k mo 0 0) (F0 mm 40 ls [.int s0]) := by
  have hx := V.1
  have hb := V.2.1
  obtain ⟨h40_1, hf⟩ := kif hf
  cases hf
  exact kr_zret V hH (Decidable.not_not.mp h40_1) dX6_isBefore_40
set_option maxHeartbeats 4000000 in
set_option maxRecDepth 100000 in
theorem w_X6_isBefore_35 (V : kV p s mm args meth c cX6_isBefore RX6 3 (some .boolean) D cI cZ cO) {k mo : kS} {H : Heap} {locs : List Loc} {ls : Array Slot} {out : Int32} (hH : kHE s H locs D ad cI cZ cO k mo []) (hl : lv_has ls 3 []) (hf : F_X6_isBefore_35 mo = some out) : W p l e rm_X6_isBefore s mm args below meth c H locs 0 0 (kGi below args s D cI cZ cO ad out k mo 0 0) (F0 mm 35 ls []) := by
  have hx := V.1
  have hb := V.2.1
  refine lv_iconst (v := 1) hx hb dX6_isBefore_35 (by decide) ?_
  refine lv_goto (tgt := 40) hx hb dX6_isBefore_36 (by decide) ?_
  exact w_X6_isBefore_40 V hH (lv_sub hl [] rfl) hf
set_option maxHeartbeats 4000000 in
set_option maxRecDepth 100000 in
theorem w_X6_isBefore_39 (V : kV p s mm args meth c cX6_isBefore RX6 3 (some .boolean) D cI cZ cO) {k mo : kS} {H : Heap} {locs : List Loc} {ls : Array Slot} {out : Int32} (hH : kHE s H locs D ad cI cZ cO k mo []) (hl : lv_has ls 3 []) (hf : F_X6_isBefore_39 mo = some out) : W p l e rm_X6_isBefore s mm args below meth c H locs 0 0 (kGi below args s D cI cZ cO ad out k mo 0 0) (F0 mm 39 ls []) := by
  have hx := V.1
  have hb := V.2.1
  refine lv_iconst (v := 0) hx hb dX6_isBefore_39 (by decide) ?_
  exact w_X6_isBefore_40 V hH (lv_sub hl [] rfl) hf
set_option maxHeartbeats 4000000 in
set_option maxRecDepth 100000 in
theorem w_X6_isBefore_30 (V : kV p s mm args meth c cX6_isBefore RX6 3 (some .boolean) D cI cZ cO) {k mo : kS} {v1 : Int32} {v2 : Int32} {H : Heap} {locs : List Loc} {ls : Array Slot} {out : Int32} (hH : kHE s H locs D ad cI cZ cO k mo []) (hl : lv_has ls 3 [(1, .int v1), (2, .int v2)]) (hf : F_X6_isBefore_30 mo v1 v2 = some out) : W p l e rm_X6_isBefore s mm args below meth c H locs 0 0 (kGi below args s D cI cZ cO ad out k mo 0 0) (F0 mm 30 ls []) := by
  have hx := V.1
  have hb := V.2.1
  refine lv_iload_n hx hb dX6_isBefore_30 rfl (lv_at hl 0 rfl) ?_
  refine lv_iload_n hx hb dX6_isBefore_31 rfl (lv_at hl 1 rfl) ?_
  refine lv_icmp_ge (tgt := 39) hx hb dX6_isBefore_32 (by decide) (fun hq => ?_) (fun hq => ?_)
  · have hf := kpos hq hf
    exact w_X6_isBefore_39 V hH (lv_sub hl [] rfl) hf
  · have hf := kneg hq hf
    exact w_X6_isBefore_35 V hH (lv_sub hl [] rfl) hf
set_option maxHeartbeats 4000000 in
set_option maxRecDepth 100000 in
theorem w_X6_isBefore_15 (V : kV p s mm args meth c cX6_isBefore RX6 3 (some .boolean) D cI cZ cO) {k mo : kS} {v1 : Int32} {v2 : Int32} {H : Heap} {locs : List Loc} {ls : Array Slot} {out : Int32} (hH : kHE s H locs D ad cI cZ cO k mo []) (hl : lv_has ls 3 [(0, .ref (ad 7)), (1, .int v1), (2, .int v2)]) (hf : F_X6_isBefore_15 mo v1 v2 = some out) : W p l e rm_X6_isBefore s mm args below meth c H locs 0 0 (kGi below args s D cI cZ cO ad out k mo 0 0) (F0 mm 15 ls []) := by
  have hx := V.1
  have hb := V.2.1
  refine lv_aload_n hx hb dX6_isBefore_15 rfl (lv_at hl 0 rfl) ?_
  refine lv_iload_n hx hb dX6_isBefore_16 rfl (lv_at hl 1 rfl) ?_
  refine lv_iconst (v := 1) hx hb dX6_isBefore_17 (by decide) ?_
  obtain ⟨x15_1, hx15_1, hf⟩ := kbind hf
  refine kr_calli0 hH (kr_runV (as := [.int v1, .int 1]) (rest := []) (pl := 7) V hH kYX6_pe kl_X6_45 (c_X6_pe l _ _ hx15_1 _) rfl rfl ⟨Nat.le_of_ble_eq_true rfl, Nat.le_of_ble_eq_true rfl⟩ (by decide) kE_7 rfl rfl hl.1 (Nat.le_of_ble_eq_true rfl) dX6_isBefore_18 ⟨Nat.le_refl _, Nat.le_refl _⟩ rfl) (fun H locs hH => ?_)
  refine lv_aload_n hx hb dX6_isBefore_21 rfl (lv_at hl 0 rfl) ?_
  refine lv_iload_n hx hb dX6_isBefore_22 rfl (lv_at hl 2 rfl) ?_
  refine lv_iconst (v := 1) hx hb dX6_isBefore_23 (by decide) ?_
  obtain ⟨x15_2, hx15_2, hf⟩ := kbind hf
  refine kr_calli0 hH (kr_runV (as := [.int v2, .int 1]) (rest := [.int x15_1]) (pl := 7) V hH kYX6_pe kl_X6_45 (c_X6_pe l _ _ hx15_2 _) rfl rfl ⟨Nat.le_of_ble_eq_true rfl, Nat.le_of_ble_eq_true rfl⟩ (by decide) kE_7 rfl rfl hl.1 (Nat.le_of_ble_eq_true rfl) dX6_isBefore_24 ⟨Nat.le_refl _, Nat.le_refl _⟩ rfl) (fun H locs hH => ?_)
  refine lv_icmp_ne (tgt := 39) hx hb dX6_isBefore_27 (by decide) (fun hq => ?_) (fun hq => ?_)
  · have hf := kneg hq hf
    exact w_X6_isBefore_39 V hH (lv_sub hl [] rfl) hf
  · have hf := kpos hq hf
    exact w_X6_isBefore_30 V hH (lv_sub hl [1, 2] rfl) hf
set_option maxHeartbeats 4000000 in
set_option maxRecDepth 100000 in
theorem w_X6_isBefore_0 (V : kV p s mm args meth c cX6_isBefore RX6 3 (some .boolean) D cI cZ cO) {k mo : kS} {v1 : Int32} {v2 : Int32} {H : Heap} {locs : List Loc} {ls : Array Slot} {out : Int32} (hH : kHE s H locs D ad cI cZ cO k mo []) (hl : lv_has ls 3 [(0, .ref (ad 7)), (1, .int v1), (2, .int v2)]) (hf : F_X6_isBefore_0 mo v1 v2 = some out) : W p l e rm_X6_isBefore s mm args below meth c H locs 0 0 (kGi below args s D cI cZ cO ad out k mo 0 0) (F0 mm 0 ls []) := by
  have hx := V.1
  have hb := V.2.1
  refine lv_aload_n hx hb dX6_isBefore_0 rfl (lv_at hl 0 rfl) ?_
  refine lv_iload_n hx hb dX6_isBefore_1 rfl (lv_at hl 1 rfl) ?_
  refine lv_iconst (v := 1) hx hb dX6_isBefore_2 (by decide) ?_
  obtain ⟨x0_1, hx0_1, hf⟩ := kbind hf
  refine kr_calli0 hH (kr_runV (as := [.int v1, .int 1]) (rest := []) (pl := 7) V hH kYX6_pe kl_X6_45 (c_X6_pe l _ _ hx0_1 _) rfl rfl ⟨Nat.le_of_ble_eq_true rfl, Nat.le_of_ble_eq_true rfl⟩ (by decide) kE_7 rfl rfl hl.1 (Nat.le_of_ble_eq_true rfl) dX6_isBefore_3 ⟨Nat.le_refl _, Nat.le_refl _⟩ rfl) (fun H locs hH => ?_)
  refine lv_aload_n hx hb dX6_isBefore_6 rfl (lv_at hl 0 rfl) ?_
  refine lv_iload_n hx hb dX6_isBefore_7 rfl (lv_at hl 2 rfl) ?_
  refine lv_iconst (v := 1) hx hb dX6_isBefore_8 (by decide) ?_
  obtain ⟨x0_2, hx0_2, hf⟩ := kbind hf
  refine kr_calli0 hH (kr_runV (as := [.int v2, .int 1]) (rest := [.int x0_1]) (pl := 7) V hH kYX6_pe kl_X6_45 (c_X6_pe l _ _ hx0_2 _) rfl rfl ⟨Nat.le_of_ble_eq_true rfl, Nat.le_of_ble_eq_true rfl⟩ (by decide) kE_7 rfl rfl hl.1 (Nat.le_of_ble_eq_true rfl) dX6_isBefore_9 ⟨Nat.le_refl _, Nat.le_refl _⟩ rfl) (fun H locs hH => ?_)
  refine lv_icmp_lt (tgt := 35) hx hb dX6_isBefore_12 (by decide) (fun hq => ?_) (fun hq => ?_)
  · have hf := kpos hq hf
    exact w_X6_isBefore_35 V hH (lv_sub hl [] rfl) hf
  · have hf := kneg hq hf
    exact w_X6_isBefore_15 V hH (lv_sub hl [0, 1, 2] rfl) hf
set_option maxHeartbeats 4000000 in
set_option maxRecDepth 100000 in
theorem c_X6_isBefore (l : Launch) {D : va_G} {cI cZ cO : ClassId} {ad : Nat → Nat} {k mo : kS} (v1 : Int32) (v2 : Int32) {out : Int32} (hf : F_X6_isBefore mo v1 v2 = some out) (sz : Nat) : Met l yX6_isBefore (Cond.code yX6_isBefore cX6_isBefore 3 (some .boolean) :: kWA) rm_X6_isBefore (kP [.ref (ad 7), .int v1, .int v2] D cI cZ cO ad (kE ad cI cZ cO k mo) sz) (kQi out D cI cZ cO ad (kE ad cI cZ cO k mo) sz) 0 0 (fA ad sz) := by
  refine kr_met (as := [.ref (ad 7), .int v1, .int v2]) (bytes := cX6_isBefore) (maxL := 3) (rt := (some .boolean)) (Qc := fun sz => kQi out D cI cZ cO ad (kE ad cI cZ cO k mo) sz) (lv := [(0, .ref (ad 7)), (1, .int v1), (2, .int v2)]) (by decide +kernel) (Nat.le_of_ble_eq_true rfl) rfl (fun p e s mm below meth c ls V hH hl => ?_) sz
  exact w_X6_isBefore_0 V hH (lv_sub hl [0, 1, 2] rfl) hf
end
section
variable {p : Program} {l : Launch} {e : Env} {s : State} {mm : MethodId} {args : Array Value} {below : List Frame} {meth : Method} {c : Code} {D : va_G} {cI cZ cO : ClassId} {ad : Nat → Nat}
abbrev rm_X6_isAhead : Room := { frames := 2, cells := 0, slots := 0, locals := 44 }
set_option maxHeartbeats 4000000 in
set_option maxRecDepth 100000 in
theorem w_X6_isAhead_34 (V : kV p s mm args meth c cX6_isAhead RX6 4 (some .boolean) D cI cZ cO) {k mo : kS} {s0 : Int32} {H : Heap} {locs : List Loc} {ls : Array Slot} {out : Int32} (hH : kHE s H locs D ad cI cZ cO k mo []) (hl : lv_has ls 4 []) (hf : F_X6_isAhead_34 mo s0 = some out) : W p l e rm_X6_isAhead s mm args below meth c H locs 0 0 (kGi below args s D cI cZ cO ad out k mo 0 0) (F0 mm 34 ls [.int s0]) := by
  have hx := V.1
  have hb := V.2.1
  obtain ⟨h34_1, hf⟩ := kif hf
  cases hf
  exact kr_zret V hH (Decidable.not_not.mp h34_1) dX6_isAhead_34
set_option maxHeartbeats 4000000 in
set_option maxRecDepth 100000 in
theorem w_X6_isAhead_29 (V : kV p s mm args meth c cX6_isAhead RX6 4 (some .boolean) D cI cZ cO) {k mo : kS} {H : Heap} {locs : List Loc} {ls : Array Slot} {out : Int32} (hH : kHE s H locs D ad cI cZ cO k mo []) (hl : lv_has ls 4 []) (hf : F_X6_isAhead_29 mo = some out) : W p l e rm_X6_isAhead s mm args below meth c H locs 0 0 (kGi below args s D cI cZ cO ad out k mo 0 0) (F0 mm 29 ls []) := by
  have hx := V.1
  have hb := V.2.1
  refine lv_iconst (v := 1) hx hb dX6_isAhead_29 (by decide) ?_
  refine lv_goto (tgt := 34) hx hb dX6_isAhead_30 (by decide) ?_
  exact w_X6_isAhead_34 V hH (lv_sub hl [] rfl) hf
set_option maxHeartbeats 4000000 in
set_option maxRecDepth 100000 in
theorem w_X6_isAhead_33 (V : kV p s mm args meth c cX6_isAhead RX6 4 (some .boolean) D cI cZ cO) {k mo : kS} {H : Heap} {locs : List Loc} {ls : Array Slot} {out : Int32} (hH : kHE s H locs D ad cI cZ cO k mo []) (hl : lv_has ls 4 []) (hf : F_X6_isAhead_33 mo = some out) : W p l e rm_X6_isAhead s mm args below meth c H locs 0 0 (kGi below args s D cI cZ cO ad out k mo 0 0) (F0 mm 33 ls []) := by
  have hx := V.1
  have hb := V.2.1
  refine lv_iconst (v := 0) hx hb dX6_isAhead_33 (by decide) ?_
  exact w_X6_isAhead_34 V hH (lv_sub hl [] rfl) hf
set_option maxHeartbeats 4000000 in
set_option maxRecDepth 100000 in
theorem w_X6_isAhead_19 (V : kV p s mm args meth c cX6_isAhead RX6 4 (some .boolean) D cI cZ cO) {k mo : kS} {v1 : Int32} {H : Heap} {locs : List Loc} {ls : Array Slot} {out : Int32} (hH : kHE s H locs D ad cI cZ cO k mo []) (hl : lv_has ls 4 [(0, .ref (ad 7)), (1, .int v1)]) (hf : F_X6_isAhead_19 mo v1 = some out) : W p l e rm_X6_isAhead s mm args below meth c H locs 0 0 (kGi below args s D cI cZ cO ad out k mo 0 0) (F0 mm 19 ls []) := by
  have hx := V.1
  have hb := V.2.1
  refine lv_aload_n hx hb dX6_isAhead_19 rfl (lv_at hl 0 rfl) ?_
  refine lv_iload_n hx hb dX6_isAhead_20 rfl (lv_at hl 1 rfl) ?_
  refine lv_iconst (v := 0) hx hb dX6_isAhead_21 (by decide) ?_
  obtain ⟨x19_1, hx19_1, hf⟩ := kbind hf
  refine kr_calli0 hH (kr_runV (as := [.int v1, .int 0]) (rest := []) (pl := 7) V hH kYX6_pe kl_X6_45 (c_X6_pe l _ _ hx19_1 _) rfl rfl ⟨Nat.le_of_ble_eq_true rfl, Nat.le_of_ble_eq_true rfl⟩ (by decide) kE_7 rfl rfl hl.1 (Nat.le_of_ble_eq_true rfl) dX6_isAhead_22 ⟨Nat.le_refl _, Nat.le_refl _⟩ rfl) (fun H locs hH => ?_)
  refine lv_iconst (v := 1) hx hb dX6_isAhead_25 (by decide) ?_
  refine lv_icmp_ne (tgt := 33) hx hb dX6_isAhead_26 (by decide) (fun hq => ?_) (fun hq => ?_)
  · have hf := kneg hq hf
    exact w_X6_isAhead_33 V hH (lv_sub hl [] rfl) hf
  · have hf := kpos hq hf
    exact w_X6_isAhead_29 V hH (lv_sub hl [] rfl) hf
set_option maxHeartbeats 4000000 in
set_option maxRecDepth 100000 in
theorem w_X6_isAhead_55 (V : kV p s mm args meth c cX6_isAhead RX6 4 (some .boolean) D cI cZ cO) {k mo : kS} {s0 : Int32} {H : Heap} {locs : List Loc} {ls : Array Slot} {out : Int32} (hH : kHE s H locs D ad cI cZ cO k mo []) (hl : lv_has ls 4 []) (hf : F_X6_isAhead_55 mo s0 = some out) : W p l e rm_X6_isAhead s mm args below meth c H locs 0 0 (kGi below args s D cI cZ cO ad out k mo 0 0) (F0 mm 55 ls [.int s0]) := by
  have hx := V.1
  have hb := V.2.1
  obtain ⟨h55_1, hf⟩ := kif hf
  cases hf
  exact kr_zret V hH (Decidable.not_not.mp h55_1) dX6_isAhead_55
set_option maxHeartbeats 4000000 in
set_option maxRecDepth 100000 in
theorem w_X6_isAhead_40 (V : kV p s mm args meth c cX6_isAhead RX6 4 (some .boolean) D cI cZ cO) {k mo : kS} {v1 : Int32} {v2 : Int32} {H : Heap} {locs : List Loc} {ls : Array Slot} {out : Int32} (hH : kHE s H locs D ad cI cZ cO k mo []) (hl : lv_has ls 4 [(0, .ref (ad 7)), (1, .int v1), (2, .int v2)]) (hf : F_X6_isAhead_40 mo v1 v2 = some out) : W p l e rm_X6_isAhead s mm args below meth c H locs 0 0 (kGi below args s D cI cZ cO ad out k mo 0 0) (F0 mm 40 ls []) := by
  have hx := V.1
  have hb := V.2.1
  refine lv_aload_n hx hb dX6_isAhead_40 rfl (lv_at hl 0 rfl) ?_
  refine lv_iload_n hx hb dX6_isAhead_41 rfl (lv_at hl 2 rfl) ?_
  refine lv_iload_n hx hb dX6_isAhead_42 rfl (lv_at hl 1 rfl) ?_
  obtain ⟨x40_1, hx40_1, hf⟩ := kbind hf
  refine kr_calli0 hH (kr_runV (as := [.int v2, .int v1]) (rest := []) (pl := 7) V hH kYX6_isBefore kl_X6_89 (c_X6_isBefore l _ _ hx40_1 _) rfl rfl ⟨Nat.le_of_ble_eq_true rfl, Nat.le_of_ble_eq_true rfl⟩ (by decide) kE_7 rfl rfl hl.1 (Nat.le_of_ble_eq_true rfl) dX6_isAhead_43 ⟨Nat.le_refl _, Nat.le_refl _⟩ rfl) (fun H locs hH => ?_)
  refine lv_goto (tgt := 55) hx hb dX6_isAhead_46 (by decide) ?_
  exact w_X6_isAhead_55 V hH (lv_sub hl [] rfl) hf
set_option maxHeartbeats 4000000 in
set_option maxRecDepth 100000 in
theorem w_X6_isAhead_49 (V : kV p s mm args meth c cX6_isAhead RX6 4 (some .boolean) D cI cZ cO) {k mo : kS} {v1 : Int32} {v2 : Int32} {H : Heap} {locs : List Loc} {ls : Array Slot} {out : Int32} (hH : kHE s H locs D ad cI cZ cO k mo []) (hl : lv_has ls 4 [(0, .ref (ad 7)), (1, .int v1), (2, .int v2)]) (hf : F_X6_isAhead_49 mo v1 v2 = some out) : W p l e rm_X6_isAhead s mm args below meth c H locs 0 0 (kGi below args s D cI cZ cO ad out k mo 0 0) (F0 mm 49 ls []) := by
  have hx := V.1
  have hb := V.2.1
  refine lv_aload_n hx hb dX6_isAhead_49 rfl (lv_at hl 0 rfl) ?_
  refine lv_iload_n hx hb dX6_isAhead_50 rfl (lv_at hl 1 rfl) ?_
  refine lv_iload_n hx hb dX6_isAhead_51 rfl (lv_at hl 2 rfl) ?_
  obtain ⟨x49_1, hx49_1, hf⟩ := kbind hf
  refine kr_calli0 hH (kr_runV (as := [.int v1, .int v2]) (rest := []) (pl := 7) V hH kYX6_isBefore kl_X6_89 (c_X6_isBefore l _ _ hx49_1 _) rfl rfl ⟨Nat.le_of_ble_eq_true rfl, Nat.le_of_ble_eq_true rfl⟩ (by decide) kE_7 rfl rfl hl.1 (Nat.le_of_ble_eq_true rfl) dX6_isAhead_52 ⟨Nat.le_refl _, Nat.le_refl _⟩ rfl) (fun H locs hH => ?_)
  exact w_X6_isAhead_55 V hH (lv_sub hl [] rfl) hf
set_option maxHeartbeats 4000000 in
set_option maxRecDepth 100000 in
theorem w_X6_isAhead_35 (V : kV p s mm args meth c cX6_isAhead RX6 4 (some .boolean) D cI cZ cO) {k mo : kS} {v1 : Int32} {v2 : Int32} {v3 : Int32} {H : Heap} {locs : List Loc} {ls : Array Slot} {out : Int32} (hH : kHE s H locs D ad cI cZ cO k mo []) (hl : lv_has ls 4 [(0, .ref (ad 7)), (1, .int v1), (2, .int v2), (3, .int v3)]) (hf : F_X6_isAhead_35 mo v1 v2 v3 = some out) : W p l e rm_X6_isAhead s mm args below meth c H locs 0 0 (kGi below args s D cI cZ cO ad out k mo 0 0) (F0 mm 35 ls []) := by
  have hx := V.1
  have hb := V.2.1
  refine lv_iload_n hx hb dX6_isAhead_35 rfl (lv_at hl 3 rfl) ?_
  refine lv_iconst (v := 2) hx hb dX6_isAhead_36 (by decide) ?_
  refine lv_icmp_ne (tgt := 49) hx hb dX6_isAhead_37 (by decide) (fun hq => ?_) (fun hq => ?_)
  · have hf := kneg hq hf
    exact w_X6_isAhead_49 V hH (lv_sub hl [0, 1, 2] rfl) hf
  · have hf := kpos hq hf
    exact w_X6_isAhead_40 V hH (lv_sub hl [0, 1, 2] rfl) hf
set_option maxHeartbeats 4000000 in
set_option maxRecDepth 100000 in
theorem w_X6_isAhead_4 (V : kV p s mm args meth c cX6_isAhead RX6 4 (some .boolean) D cI cZ cO) {k mo : kS} {v1 : Int32} {v2 : Int32} {v3 : Int32} {H : Heap} {locs : List Loc} {ls : Array Slot} {out : Int32} (hH : kHE s H locs D ad cI cZ cO k mo []) (hl : lv_has ls 4 [(0, .ref (ad 7)), (1, .int v1), (2, .int v2), (3, .int v3)]) (hf : F_X6_isAhead_4 mo v1 v2 v3 = some out) : W p l e rm_X6_isAhead s mm args below meth c H locs 0 0 (kGi below args s D cI cZ cO ad out k mo 0 0) (F0 mm 4 ls []) := by
  have hx := V.1
  have hb := V.2.1
  refine lv_aload_n hx hb dX6_isAhead_4 rfl (lv_at hl 0 rfl) ?_
  refine lv_iload_n hx hb dX6_isAhead_5 rfl (lv_at hl 1 rfl) ?_
  refine lv_iconst (v := 0) hx hb dX6_isAhead_6 (by decide) ?_
  obtain ⟨x4_1, hx4_1, hf⟩ := kbind hf
  refine kr_calli0 hH (kr_runV (as := [.int v1, .int 0]) (rest := []) (pl := 7) V hH kYX6_pe kl_X6_45 (c_X6_pe l _ _ hx4_1 _) rfl rfl ⟨Nat.le_of_ble_eq_true rfl, Nat.le_of_ble_eq_true rfl⟩ (by decide) kE_7 rfl rfl hl.1 (Nat.le_of_ble_eq_true rfl) dX6_isAhead_7 ⟨Nat.le_refl _, Nat.le_refl _⟩ rfl) (fun H locs hH => ?_)
  refine lv_aload_n hx hb dX6_isAhead_10 rfl (lv_at hl 0 rfl) ?_
  refine lv_iload_n hx hb dX6_isAhead_11 rfl (lv_at hl 2 rfl) ?_
  refine lv_iconst (v := 0) hx hb dX6_isAhead_12 (by decide) ?_
  obtain ⟨x4_2, hx4_2, hf⟩ := kbind hf
  refine kr_calli0 hH (kr_runV (as := [.int v2, .int 0]) (rest := [.int x4_1]) (pl := 7) V hH kYX6_pe kl_X6_45 (c_X6_pe l _ _ hx4_2 _) rfl rfl ⟨Nat.le_of_ble_eq_true rfl, Nat.le_of_ble_eq_true rfl⟩ (by decide) kE_7 rfl rfl hl.1 (Nat.le_of_ble_eq_true rfl) dX6_isAhead_13 ⟨Nat.le_refl _, Nat.le_refl _⟩ rfl) (fun H locs hH => ?_)
  refine lv_icmp_eq (tgt := 35) hx hb dX6_isAhead_16 (by decide) (fun hq => ?_) (fun hq => ?_)
  · have hf := kpos hq hf
    exact w_X6_isAhead_35 V hH (lv_sub hl [0, 1, 2, 3] rfl) hf
  · have hf := kneg hq hf
    exact w_X6_isAhead_19 V hH (lv_sub hl [0, 1] rfl) hf
set_option maxHeartbeats 4000000 in
set_option maxRecDepth 100000 in
theorem w_X6_isAhead_0 (V : kV p s mm args meth c cX6_isAhead RX6 4 (some .boolean) D cI cZ cO) {k mo : kS} {v1 : Int32} {v2 : Int32} {v3 : Int32} {H : Heap} {locs : List Loc} {ls : Array Slot} {out : Int32} (hH : kHE s H locs D ad cI cZ cO k mo []) (hl : lv_has ls 4 [(0, .ref (ad 7)), (1, .int v1), (2, .int v2), (3, .int v3)]) (hf : F_X6_isAhead_0 mo v1 v2 v3 = some out) : W p l e rm_X6_isAhead s mm args below meth c H locs 0 0 (kGi below args s D cI cZ cO ad out k mo 0 0) (F0 mm 0 ls []) := by
  have hx := V.1
  have hb := V.2.1
  refine lv_iload_n hx hb dX6_isAhead_0 rfl (lv_at hl 3 rfl) ?_
  refine lv_if_ne (tgt := 35) hx hb dX6_isAhead_1 (by decide) (fun hq => ?_) (fun hq => ?_)
  · have hf := kneg hq hf
    exact w_X6_isAhead_35 V hH (lv_sub hl [0, 1, 2, 3] rfl) hf
  · have hf := kpos hq hf
    exact w_X6_isAhead_4 V hH (lv_sub hl [0, 1, 2, 3] rfl) hf
set_option maxHeartbeats 4000000 in
set_option maxRecDepth 100000 in
theorem c_X6_isAhead (l : Launch) {D : va_G} {cI cZ cO : ClassId} {ad : Nat → Nat} {k mo : kS} (v1 : Int32) (v2 : Int32) (v3 : Int32) {out : Int32} (hf : F_X6_isAhead mo v1 v2 v3 = some out) (sz : Nat) : Met l yX6_isAhead (Cond.code yX6_isAhead cX6_isAhead 4 (some .boolean) :: kWA) rm_X6_isAhead (kP [.ref (ad 7), .int v1, .int v2, .int v3] D cI cZ cO ad (kE ad cI cZ cO k mo) sz) (kQi out D cI cZ cO ad (kE ad cI cZ cO k mo) sz) 0 0 (fA ad sz) := by
  refine kr_met (as := [.ref (ad 7), .int v1, .int v2, .int v3]) (bytes := cX6_isAhead) (maxL := 4) (rt := (some .boolean)) (Qc := fun sz => kQi out D cI cZ cO ad (kE ad cI cZ cO k mo) sz) (lv := [(0, .ref (ad 7)), (1, .int v1), (2, .int v2), (3, .int v3)]) (by decide +kernel) (Nat.le_of_ble_eq_true rfl) rfl (fun p e s mm below meth c ls V hH hl => ?_) sz
  exact w_X6_isAhead_0 V hH (lv_sub hl [0, 1, 2, 3] rfl) hf
end
section
variable {p : Program} {l : Launch} {e : Env} {s : State} {mm : MethodId} {args : Array Value} {below : List Frame} {meth : Method} {c : Code} {D : va_G} {cI cZ cO : ClassId} {ad : Nat → Nat}
abbrev rm_X6_isChild : Room := { frames := 1, cells := 0, slots := 0, locals := 22 }
set_option maxHeartbeats 4000000 in
set_option maxRecDepth 100000 in
theorem w_X6_isChild_25 (V : kV p s mm args meth c cX6_isChild RX6 3 (some .boolean) D cI cZ cO) {k mo : kS} {s0 : Int32} {H : Heap} {locs : List Loc} {ls : Array Slot} {out : Int32} (hH : kHE s H locs D ad cI cZ cO k mo []) (hl : lv_has ls 3 []) (hf : F_X6_isChild_25 mo s0 = some out) : W p l e rm_X6_isChild s mm args below meth c H locs 0 0 (kGi below args s D cI cZ cO ad out k mo 0 0) (F0 mm 25 ls [.int s0]) := by
  have hx := V.1
  have hb := V.2.1
  obtain ⟨h25_1, hf⟩ := kif hf
  cases hf
  exact kr_zret V hH (Decidable.not_not.mp h25_1) dX6_isChild_25
set_option maxHeartbeats 4000000 in
set_option maxRecDepth 100000 in
theorem w_X6_isChild_20 (V : kV p s mm args meth c cX6_isChild RX6 3 (some .boolean) D cI cZ cO) {k mo : kS} {H : Heap} {locs : List Loc} {ls : Array Slot} {out : Int32} (hH : kHE s H locs D ad cI cZ cO k mo []) (hl : lv_has ls 3 []) (hf : F_X6_isChild_20 mo = some out) : W p l e rm_X6_isChild s mm args below meth c H locs 0 0 (kGi below args s D cI cZ cO ad out k mo 0 0) (F0 mm 20 ls []) := by
  have hx := V.1
  have hb := V.2.1
  refine lv_iconst (v := 1) hx hb dX6_isChild_20 (by decide) ?_
  refine lv_goto (tgt := 25) hx hb dX6_isChild_21 (by decide) ?_
  exact w_X6_isChild_25 V hH (lv_sub hl [] rfl) hf
set_option maxHeartbeats 4000000 in
set_option maxRecDepth 100000 in
theorem w_X6_isChild_24 (V : kV p s mm args meth c cX6_isChild RX6 3 (some .boolean) D cI cZ cO) {k mo : kS} {H : Heap} {locs : List Loc} {ls : Array Slot} {out : Int32} (hH : kHE s H locs D ad cI cZ cO k mo []) (hl : lv_has ls 3 []) (hf : F_X6_isChild_24 mo = some out) : W p l e rm_X6_isChild s mm args below meth c H locs 0 0 (kGi below args s D cI cZ cO ad out k mo 0 0) (F0 mm 24 ls []) := by
  have hx := V.1
  have hb := V.2.1
  refine lv_iconst (v := 0) hx hb dX6_isChild_24 (by decide) ?_
  exact w_X6_isChild_25 V hH (lv_sub hl [] rfl) hf
set_option maxHeartbeats 4000000 in
set_option maxRecDepth 100000 in
theorem w_X6_isChild_10 (V : kV p s mm args meth c cX6_isChild RX6 3 (some .boolean) D cI cZ cO) {k mo : kS} {v1 : Int32} {v2 : Int32} {H : Heap} {locs : List Loc} {ls : Array Slot} {out : Int32} (hH : kHE s H locs D ad cI cZ cO k mo []) (hl : lv_has ls 3 [(0, .ref (ad 7)), (1, .int v1), (2, .int v2)]) (hf : F_X6_isChild_10 mo v1 v2 = some out) : W p l e rm_X6_isChild s mm args below meth c H locs 0 0 (kGi below args s D cI cZ cO ad out k mo 0 0) (F0 mm 10 ls []) := by
  have hx := V.1
  have hb := V.2.1
  refine lv_aload_n hx hb dX6_isChild_10 rfl (lv_at hl 0 rfl) ?_
  refine lv_iload_n hx hb dX6_isChild_11 rfl (lv_at hl 1 rfl) ?_
  refine lv_iconst (v := 4) hx hb dX6_isChild_12 (by decide) ?_
  obtain ⟨x10_1, hx10_1, hf⟩ := kbind hf
  refine kr_calli0 hH (kr_runV (as := [.int v1, .int 4]) (rest := []) (pl := 7) V hH kYX6_pe kl_X6_45 (c_X6_pe l _ _ hx10_1 _) rfl rfl ⟨Nat.le_of_ble_eq_true rfl, Nat.le_of_ble_eq_true rfl⟩ (by decide) kE_7 rfl rfl hl.1 (Nat.le_of_ble_eq_true rfl) dX6_isChild_13 ⟨Nat.le_refl _, Nat.le_refl _⟩ rfl) (fun H locs hH => ?_)
  refine lv_iload_n hx hb dX6_isChild_16 rfl (lv_at hl 2 rfl) ?_
  refine lv_icmp_ne (tgt := 24) hx hb dX6_isChild_17 (by decide) (fun hq => ?_) (fun hq => ?_)
  · have hf := kneg hq hf
    exact w_X6_isChild_24 V hH (lv_sub hl [] rfl) hf
  · have hf := kpos hq hf
    exact w_X6_isChild_20 V hH (lv_sub hl [] rfl) hf
set_option maxHeartbeats 4000000 in
set_option maxRecDepth 100000 in
theorem w_X6_isChild_0 (V : kV p s mm args meth c cX6_isChild RX6 3 (some .boolean) D cI cZ cO) {k mo : kS} {v1 : Int32} {v2 : Int32} {H : Heap} {locs : List Loc} {ls : Array Slot} {out : Int32} (hH : kHE s H locs D ad cI cZ cO k mo []) (hl : lv_has ls 3 [(0, .ref (ad 7)), (1, .int v1), (2, .int v2)]) (hf : F_X6_isChild_0 mo v1 v2 = some out) : W p l e rm_X6_isChild s mm args below meth c H locs 0 0 (kGi below args s D cI cZ cO ad out k mo 0 0) (F0 mm 0 ls []) := by
  have hx := V.1
  have hb := V.2.1
  refine lv_aload_n hx hb dX6_isChild_0 rfl (lv_at hl 0 rfl) ?_
  refine lv_iload_n hx hb dX6_isChild_1 rfl (lv_at hl 1 rfl) ?_
  refine lv_iconst (v := 3) hx hb dX6_isChild_2 (by decide) ?_
  obtain ⟨x0_1, hx0_1, hf⟩ := kbind hf
  refine kr_calli0 hH (kr_runV (as := [.int v1, .int 3]) (rest := []) (pl := 7) V hH kYX6_pe kl_X6_45 (c_X6_pe l _ _ hx0_1 _) rfl rfl ⟨Nat.le_of_ble_eq_true rfl, Nat.le_of_ble_eq_true rfl⟩ (by decide) kE_7 rfl rfl hl.1 (Nat.le_of_ble_eq_true rfl) dX6_isChild_3 ⟨Nat.le_refl _, Nat.le_refl _⟩ rfl) (fun H locs hH => ?_)
  refine lv_iload_n hx hb dX6_isChild_6 rfl (lv_at hl 2 rfl) ?_
  refine lv_icmp_eq (tgt := 20) hx hb dX6_isChild_7 (by decide) (fun hq => ?_) (fun hq => ?_)
  · have hf := kpos hq hf
    exact w_X6_isChild_20 V hH (lv_sub hl [] rfl) hf
  · have hf := kneg hq hf
    exact w_X6_isChild_10 V hH (lv_sub hl [0, 1, 2] rfl) hf
set_option maxHeartbeats 4000000 in
set_option maxRecDepth 100000 in
theorem c_X6_isChild (l : Launch) {D : va_G} {cI cZ cO : ClassId} {ad : Nat → Nat} {k mo : kS} (v1 : Int32) (v2 : Int32) {out : Int32} (hf : F_X6_isChild mo v1 v2 = some out) (sz : Nat) : Met l yX6_isChild (Cond.code yX6_isChild cX6_isChild 3 (some .boolean) :: kWA) rm_X6_isChild (kP [.ref (ad 7), .int v1, .int v2] D cI cZ cO ad (kE ad cI cZ cO k mo) sz) (kQi out D cI cZ cO ad (kE ad cI cZ cO k mo) sz) 0 0 (fA ad sz) := by
  refine kr_met (as := [.ref (ad 7), .int v1, .int v2]) (bytes := cX6_isChild) (maxL := 3) (rt := (some .boolean)) (Qc := fun sz => kQi out D cI cZ cO ad (kE ad cI cZ cO k mo) sz) (lv := [(0, .ref (ad 7)), (1, .int v1), (2, .int v2)]) (by decide +kernel) (Nat.le_of_ble_eq_true rfl) rfl (fun p e s mm below meth c ls V hH hl => ?_) sz
  exact w_X6_isChild_0 V hH (lv_sub hl [0, 1, 2] rfl) hf
end
section
variable {p : Program} {l : Launch} {e : Env} {s : State} {mm : MethodId} {args : Array Value} {below : List Frame} {meth : Method} {c : Code} {D : va_G} {cI cZ cO : ClassId} {ad : Nat → Nat}
abbrev rm_X6_nextChild : Room := { frames := 3, cells := 0, slots := 0, locals := 67 }
set_option maxHeartbeats 4000000 in
set_option maxRecDepth 100000 in
theorem w_X6_nextChild_66 (V : kV p s mm args meth c cX6_nextChild RX6 6 (some .int) D cI cZ cO) {k mo : kS} {c6 : Int32 → Int32 → Int32 → Int32 → Int32 → Option (Int32)} (hk6 : ∀ {v1 : Int32} {v2 : Int32} {v3 : Int32} {v4 : Int32} {v5 : Int32} {H : Heap} {locs : List Loc} {ls : Array Slot} {out : Int32}, kHE s H locs D ad cI cZ cO k mo [] → lv_has ls 6 [(0, .ref (ad 7)), (1, .int v1), (2, .int v2), (3, .int v3), (4, .int v4), (5, .int v5)] → c6 v1 v2 v3 v4 v5 = some out → W p l e rm_X6_nextChild s mm args below meth c H locs 0 0 (kGi below args s D cI cZ cO ad out k mo 0 0) (F0 mm 6 ls [])) {v1 : Int32} {v2 : Int32} {v3 : Int32} {v4 : Int32} {v5 : Int32} {H : Heap} {locs : List Loc} {ls : Array Slot} {out : Int32} (hH : kHE s H locs D ad cI cZ cO k mo []) (hl : lv_has ls 6 [(0, .ref (ad 7)), (1, .int v1), (2, .int v2), (3, .int v3), (4, .int v4), (5, .int v5)]) (hf : F_X6_nextChild_66 mo c6 v1 v2 v3 v4 v5 = some out) : W p l e rm_X6_nextChild s mm args below meth c H locs 0 0 (kGi below args s D cI cZ cO ad out k mo 0 0) (F0 mm 66 ls []) := by
  have hx := V.1
  have hb := V.2.1
  refine lv_iinc (v := (v5 + 1)) (lv' := [(5, .int (v5 + 1)), (0, .ref (ad 7)), (1, .int v1), (2, .int v2), (3, .int v3), (4, .int v4)]) hx hb dX6_nextChild_66 hl (k := 5) rfl rfl (by decide) rfl (fun ls hl => ?_)
  refine lv_goto (tgt := 6) hx hb dX6_nextChild_69 (by decide) ?_
  exact hk6 hH (lv_sub hl [1, 2, 3, 4, 5, 0] rfl) hf
set_option maxHeartbeats 4000000 in
set_option maxRecDepth 100000 in
theorem w_X6_nextChild_41 (V : kV p s mm args meth c cX6_nextChild RX6 6 (some .int) D cI cZ cO) {k mo : kS} {c6 : Int32 → Int32 → Int32 → Int32 → Int32 → Option (Int32)} (hk6 : ∀ {v1 : Int32} {v2 : Int32} {v3 : Int32} {v4 : Int32} {v5 : Int32} {H : Heap} {locs : List Loc} {ls : Array Slot} {out : Int32}, kHE s H locs D ad cI cZ cO k mo [] → lv_has ls 6 [(0, .ref (ad 7)), (1, .int v1), (2, .int v2), (3, .int v3), (4, .int v4), (5, .int v5)] → c6 v1 v2 v3 v4 v5 = some out → W p l e rm_X6_nextChild s mm args below meth c H locs 0 0 (kGi below args s D cI cZ cO ad out k mo 0 0) (F0 mm 6 ls [])) {v1 : Int32} {v2 : Int32} {v3 : Int32} {v4 : Int32} {v5 : Int32} {H : Heap} {locs : List Loc} {ls : Array Slot} {out : Int32} (hH : kHE s H locs D ad cI cZ cO k mo []) (hl : lv_has ls 6 [(0, .ref (ad 7)), (1, .int v1), (2, .int v2), (3, .int v3), (4, .int v4), (5, .int v5)]) (hf : F_X6_nextChild_41 mo c6 v1 v2 v3 v4 v5 = some out) : W p l e rm_X6_nextChild s mm args below meth c H locs 0 0 (kGi below args s D cI cZ cO ad out k mo 0 0) (F0 mm 41 ls []) := by
  have hx := V.1
  have hb := V.2.1
  refine lv_goto (tgt := 66) hx hb dX6_nextChild_41 (by decide) ?_
  exact w_X6_nextChild_66 V hk6 hH (lv_sub hl [0, 1, 2, 3, 4, 5] rfl) hf
set_option maxHeartbeats 4000000 in
set_option maxRecDepth 100000 in
theorem w_X6_nextChild_62 (V : kV p s mm args meth c cX6_nextChild RX6 6 (some .int) D cI cZ cO) {k mo : kS} {c6 : Int32 → Int32 → Int32 → Int32 → Int32 → Option (Int32)} (hk6 : ∀ {v1 : Int32} {v2 : Int32} {v3 : Int32} {v4 : Int32} {v5 : Int32} {H : Heap} {locs : List Loc} {ls : Array Slot} {out : Int32}, kHE s H locs D ad cI cZ cO k mo [] → lv_has ls 6 [(0, .ref (ad 7)), (1, .int v1), (2, .int v2), (3, .int v3), (4, .int v4), (5, .int v5)] → c6 v1 v2 v3 v4 v5 = some out → W p l e rm_X6_nextChild s mm args below meth c H locs 0 0 (kGi below args s D cI cZ cO ad out k mo 0 0) (F0 mm 6 ls [])) {v1 : Int32} {v2 : Int32} {v3 : Int32} {v5 : Int32} {H : Heap} {locs : List Loc} {ls : Array Slot} {out : Int32} (hH : kHE s H locs D ad cI cZ cO k mo []) (hl : lv_has ls 6 [(0, .ref (ad 7)), (1, .int v1), (2, .int v2), (3, .int v3), (5, .int v5)]) (hf : F_X6_nextChild_62 mo c6 v1 v2 v3 v5 = some out) : W p l e rm_X6_nextChild s mm args below meth c H locs 0 0 (kGi below args s D cI cZ cO ad out k mo 0 0) (F0 mm 62 ls []) := by
  have hx := V.1
  have hb := V.2.1
  refine lv_iload hx hb dX6_nextChild_62 (lv_at hl 4 rfl) ?_
  refine lv_istore (lv' := [(4, .int v5), (0, .ref (ad 7)), (1, .int v1), (2, .int v2), (3, .int v3), (5, .int v5)]) hx hb dX6_nextChild_64 hl (by decide) rfl (fun ls hl => ?_)
  exact w_X6_nextChild_66 V hk6 hH (lv_sub hl [1, 2, 3, 4, 0, 5] rfl) hf
set_option maxHeartbeats 4000000 in
set_option maxRecDepth 100000 in
theorem w_X6_nextChild_50 (V : kV p s mm args meth c cX6_nextChild RX6 6 (some .int) D cI cZ cO) {k mo : kS} {c6 : Int32 → Int32 → Int32 → Int32 → Int32 → Option (Int32)} (hk6 : ∀ {v1 : Int32} {v2 : Int32} {v3 : Int32} {v4 : Int32} {v5 : Int32} {H : Heap} {locs : List Loc} {ls : Array Slot} {out : Int32}, kHE s H locs D ad cI cZ cO k mo [] → lv_has ls 6 [(0, .ref (ad 7)), (1, .int v1), (2, .int v2), (3, .int v3), (4, .int v4), (5, .int v5)] → c6 v1 v2 v3 v4 v5 = some out → W p l e rm_X6_nextChild s mm args below meth c H locs 0 0 (kGi below args s D cI cZ cO ad out k mo 0 0) (F0 mm 6 ls [])) {v1 : Int32} {v2 : Int32} {v3 : Int32} {v4 : Int32} {v5 : Int32} {H : Heap} {locs : List Loc} {ls : Array Slot} {out : Int32} (hH : kHE s H locs D ad cI cZ cO k mo []) (hl : lv_has ls 6 [(0, .ref (ad 7)), (1, .int v1), (2, .int v2), (3, .int v3), (4, .int v4), (5, .int v5)]) (hf : F_X6_nextChild_50 mo c6 v1 v2 v3 v4 v5 = some out) : W p l e rm_X6_nextChild s mm args below meth c H locs 0 0 (kGi below args s D cI cZ cO ad out k mo 0 0) (F0 mm 50 ls []) := by
  have hx := V.1
  have hb := V.2.1
  refine lv_aload_n hx hb dX6_nextChild_50 rfl (lv_at hl 0 rfl) ?_
  refine lv_iload hx hb dX6_nextChild_51 (lv_at hl 5 rfl) ?_
  refine lv_iload hx hb dX6_nextChild_53 (lv_at hl 4 rfl) ?_
  refine lv_iload_n hx hb dX6_nextChild_55 rfl (lv_at hl 3 rfl) ?_
  obtain ⟨x50_1, hx50_1, hf⟩ := kbind hf
  refine kr_calli0 hH (kr_runV (as := [.int v5, .int v4, .int v3]) (rest := []) (pl := 7) V hH kYX6_isAhead kl_X6_96 (c_X6_isAhead l _ _ _ hx50_1 _) rfl rfl ⟨Nat.le_of_ble_eq_true rfl, Nat.le_of_ble_eq_true rfl⟩ (by decide) kE_7 rfl rfl hl.1 (Nat.le_of_ble_eq_true rfl) dX6_nextChild_56 ⟨Nat.le_refl _, Nat.le_refl _⟩ rfl) (fun H locs hH => ?_)
  refine lv_if_eq (tgt := 66) hx hb dX6_nextChild_59 (by decide) (fun hq => ?_) (fun hq => ?_)
  · have hf := kpos hq hf
    exact w_X6_nextChild_66 V hk6 hH (lv_sub hl [0, 1, 2, 3, 4, 5] rfl) hf
  · have hf := kneg hq hf
    exact w_X6_nextChild_62 V hk6 hH (lv_sub hl [0, 1, 2, 3, 5] rfl) hf
set_option maxHeartbeats 4000000 in
set_option maxRecDepth 100000 in
theorem w_X6_nextChild_44 (V : kV p s mm args meth c cX6_nextChild RX6 6 (some .int) D cI cZ cO) {k mo : kS} {c6 : Int32 → Int32 → Int32 → Int32 → Int32 → Option (Int32)} (hk6 : ∀ {v1 : Int32} {v2 : Int32} {v3 : Int32} {v4 : Int32} {v5 : Int32} {H : Heap} {locs : List Loc} {ls : Array Slot} {out : Int32}, kHE s H locs D ad cI cZ cO k mo [] → lv_has ls 6 [(0, .ref (ad 7)), (1, .int v1), (2, .int v2), (3, .int v3), (4, .int v4), (5, .int v5)] → c6 v1 v2 v3 v4 v5 = some out → W p l e rm_X6_nextChild s mm args below meth c H locs 0 0 (kGi below args s D cI cZ cO ad out k mo 0 0) (F0 mm 6 ls [])) {v1 : Int32} {v2 : Int32} {v3 : Int32} {v4 : Int32} {v5 : Int32} {H : Heap} {locs : List Loc} {ls : Array Slot} {out : Int32} (hH : kHE s H locs D ad cI cZ cO k mo []) (hl : lv_has ls 6 [(0, .ref (ad 7)), (1, .int v1), (2, .int v2), (3, .int v3), (4, .int v4), (5, .int v5)]) (hf : F_X6_nextChild_44 mo c6 v1 v2 v3 v4 v5 = some out) : W p l e rm_X6_nextChild s mm args below meth c H locs 0 0 (kGi below args s D cI cZ cO ad out k mo 0 0) (F0 mm 44 ls []) := by
  have hx := V.1
  have hb := V.2.1
  refine lv_iload hx hb dX6_nextChild_44 (lv_at hl 4 rfl) ?_
  refine lv_iconst (v := (-1)) hx hb dX6_nextChild_46 (by decide) ?_
  refine lv_icmp_eq (tgt := 62) hx hb dX6_nextChild_47 (by decide) (fun hq => ?_) (fun hq => ?_)
  · have hf := kpos hq hf
    exact w_X6_nextChild_62 V hk6 hH (lv_sub hl [0, 1, 2, 3, 5] rfl) hf
  · have hf := kneg hq hf
    exact w_X6_nextChild_50 V hk6 hH (lv_sub hl [0, 1, 2, 3, 4, 5] rfl) hf
set_option maxHeartbeats 4000000 in
set_option maxRecDepth 100000 in
theorem w_X6_nextChild_30 (V : kV p s mm args meth c cX6_nextChild RX6 6 (some .int) D cI cZ cO) {k mo : kS} {c6 : Int32 → Int32 → Int32 → Int32 → Int32 → Option (Int32)} (hk6 : ∀ {v1 : Int32} {v2 : Int32} {v3 : Int32} {v4 : Int32} {v5 : Int32} {H : Heap} {locs : List Loc} {ls : Array Slot} {out : Int32}, kHE s H locs D ad cI cZ cO k mo [] → lv_has ls 6 [(0, .ref (ad 7)), (1, .int v1), (2, .int v2), (3, .int v3), (4, .int v4), (5, .int v5)] → c6 v1 v2 v3 v4 v5 = some out → W p l e rm_X6_nextChild s mm args below meth c H locs 0 0 (kGi below args s D cI cZ cO ad out k mo 0 0) (F0 mm 6 ls [])) {v1 : Int32} {v2 : Int32} {v3 : Int32} {v4 : Int32} {v5 : Int32} {H : Heap} {locs : List Loc} {ls : Array Slot} {out : Int32} (hH : kHE s H locs D ad cI cZ cO k mo []) (hl : lv_has ls 6 [(0, .ref (ad 7)), (1, .int v1), (2, .int v2), (3, .int v3), (4, .int v4), (5, .int v5)]) (hf : F_X6_nextChild_30 mo c6 v1 v2 v3 v4 v5 = some out) : W p l e rm_X6_nextChild s mm args below meth c H locs 0 0 (kGi below args s D cI cZ cO ad out k mo 0 0) (F0 mm 30 ls []) := by
  have hx := V.1
  have hb := V.2.1
  refine lv_aload_n hx hb dX6_nextChild_30 rfl (lv_at hl 0 rfl) ?_
  refine lv_iload_n hx hb dX6_nextChild_31 rfl (lv_at hl 2 rfl) ?_
  refine lv_iload hx hb dX6_nextChild_32 (lv_at hl 5 rfl) ?_
  refine lv_iload_n hx hb dX6_nextChild_34 rfl (lv_at hl 3 rfl) ?_
  obtain ⟨x30_1, hx30_1, hf⟩ := kbind hf
  refine kr_calli0 hH (kr_runV (as := [.int v2, .int v5, .int v3]) (rest := []) (pl := 7) V hH kYX6_isAhead kl_X6_96 (c_X6_isAhead l _ _ _ hx30_1 _) rfl rfl ⟨Nat.le_of_ble_eq_true rfl, Nat.le_of_ble_eq_true rfl⟩ (by decide) kE_7 rfl rfl hl.1 (Nat.le_of_ble_eq_true rfl) dX6_nextChild_35 ⟨Nat.le_refl _, Nat.le_refl _⟩ rfl) (fun H locs hH => ?_)
  refine lv_if_ne (tgt := 44) hx hb dX6_nextChild_38 (by decide) (fun hq => ?_) (fun hq => ?_)
  · have hf := kneg hq hf
    exact w_X6_nextChild_44 V hk6 hH (lv_sub hl [0, 1, 2, 3, 4, 5] rfl) hf
  · have hf := kpos hq hf
    exact w_X6_nextChild_41 V hk6 hH (lv_sub hl [0, 1, 2, 3, 4, 5] rfl) hf
set_option maxHeartbeats 4000000 in
set_option maxRecDepth 100000 in
theorem w_X6_nextChild_25 (V : kV p s mm args meth c cX6_nextChild RX6 6 (some .int) D cI cZ cO) {k mo : kS} {c6 : Int32 → Int32 → Int32 → Int32 → Int32 → Option (Int32)} (hk6 : ∀ {v1 : Int32} {v2 : Int32} {v3 : Int32} {v4 : Int32} {v5 : Int32} {H : Heap} {locs : List Loc} {ls : Array Slot} {out : Int32}, kHE s H locs D ad cI cZ cO k mo [] → lv_has ls 6 [(0, .ref (ad 7)), (1, .int v1), (2, .int v2), (3, .int v3), (4, .int v4), (5, .int v5)] → c6 v1 v2 v3 v4 v5 = some out → W p l e rm_X6_nextChild s mm args below meth c H locs 0 0 (kGi below args s D cI cZ cO ad out k mo 0 0) (F0 mm 6 ls [])) {v1 : Int32} {v2 : Int32} {v3 : Int32} {v4 : Int32} {v5 : Int32} {H : Heap} {locs : List Loc} {ls : Array Slot} {out : Int32} (hH : kHE s H locs D ad cI cZ cO k mo []) (hl : lv_has ls 6 [(0, .ref (ad 7)), (1, .int v1), (2, .int v2), (3, .int v3), (4, .int v4), (5, .int v5)]) (hf : F_X6_nextChild_25 mo c6 v1 v2 v3 v4 v5 = some out) : W p l e rm_X6_nextChild s mm args below meth c H locs 0 0 (kGi below args s D cI cZ cO ad out k mo 0 0) (F0 mm 25 ls []) := by
  have hx := V.1
  have hb := V.2.1
  refine lv_iload_n hx hb dX6_nextChild_25 rfl (lv_at hl 2 rfl) ?_
  refine lv_iconst (v := (-1)) hx hb dX6_nextChild_26 (by decide) ?_
  refine lv_icmp_eq (tgt := 44) hx hb dX6_nextChild_27 (by decide) (fun hq => ?_) (fun hq => ?_)
  · have hf := kpos hq hf
    exact w_X6_nextChild_44 V hk6 hH (lv_sub hl [0, 1, 2, 3, 4, 5] rfl) hf
  · have hf := kneg hq hf
    exact w_X6_nextChild_30 V hk6 hH (lv_sub hl [0, 1, 2, 3, 4, 5] rfl) hf
set_option maxHeartbeats 4000000 in
set_option maxRecDepth 100000 in
theorem w_X6_nextChild_15 (V : kV p s mm args meth c cX6_nextChild RX6 6 (some .int) D cI cZ cO) {k mo : kS} {c6 : Int32 → Int32 → Int32 → Int32 → Int32 → Option (Int32)} (hk6 : ∀ {v1 : Int32} {v2 : Int32} {v3 : Int32} {v4 : Int32} {v5 : Int32} {H : Heap} {locs : List Loc} {ls : Array Slot} {out : Int32}, kHE s H locs D ad cI cZ cO k mo [] → lv_has ls 6 [(0, .ref (ad 7)), (1, .int v1), (2, .int v2), (3, .int v3), (4, .int v4), (5, .int v5)] → c6 v1 v2 v3 v4 v5 = some out → W p l e rm_X6_nextChild s mm args below meth c H locs 0 0 (kGi below args s D cI cZ cO ad out k mo 0 0) (F0 mm 6 ls [])) {v1 : Int32} {v2 : Int32} {v3 : Int32} {v4 : Int32} {v5 : Int32} {H : Heap} {locs : List Loc} {ls : Array Slot} {out : Int32} (hH : kHE s H locs D ad cI cZ cO k mo []) (hl : lv_has ls 6 [(0, .ref (ad 7)), (1, .int v1), (2, .int v2), (3, .int v3), (4, .int v4), (5, .int v5)]) (hf : F_X6_nextChild_15 mo c6 v1 v2 v3 v4 v5 = some out) : W p l e rm_X6_nextChild s mm args below meth c H locs 0 0 (kGi below args s D cI cZ cO ad out k mo 0 0) (F0 mm 15 ls []) := by
  have hx := V.1
  have hb := V.2.1
  refine lv_aload_n hx hb dX6_nextChild_15 rfl (lv_at hl 0 rfl) ?_
  refine lv_iload hx hb dX6_nextChild_16 (lv_at hl 5 rfl) ?_
  refine lv_iload_n hx hb dX6_nextChild_18 rfl (lv_at hl 1 rfl) ?_
  obtain ⟨x15_1, hx15_1, hf⟩ := kbind hf
  refine kr_calli0 hH (kr_runV (as := [.int v5, .int v1]) (rest := []) (pl := 7) V hH kYX6_isChild kl_X6_93 (c_X6_isChild l _ _ hx15_1 _) rfl rfl ⟨Nat.le_of_ble_eq_true rfl, Nat.le_of_ble_eq_true rfl⟩ (by decide) kE_7 rfl rfl hl.1 (Nat.le_of_ble_eq_true rfl) dX6_nextChild_19 ⟨Nat.le_refl _, Nat.le_refl _⟩ rfl) (fun H locs hH => ?_)
  refine lv_if_eq (tgt := 66) hx hb dX6_nextChild_22 (by decide) (fun hq => ?_) (fun hq => ?_)
  · have hf := kpos hq hf
    exact w_X6_nextChild_66 V hk6 hH (lv_sub hl [0, 1, 2, 3, 4, 5] rfl) hf
  · have hf := kneg hq hf
    exact w_X6_nextChild_25 V hk6 hH (lv_sub hl [0, 1, 2, 3, 4, 5] rfl) hf
set_option maxHeartbeats 4000000 in
set_option maxRecDepth 100000 in
theorem w_X6_nextChild_72 (V : kV p s mm args meth c cX6_nextChild RX6 6 (some .int) D cI cZ cO) {k mo : kS} {v4 : Int32} {H : Heap} {locs : List Loc} {ls : Array Slot} {out : Int32} (hH : kHE s H locs D ad cI cZ cO k mo []) (hl : lv_has ls 6 [(4, .int v4)]) (hf : F_X6_nextChild_72 mo v4 = some out) : W p l e rm_X6_nextChild s mm args below meth c H locs 0 0 (kGi below args s D cI cZ cO ad out k mo 0 0) (F0 mm 72 ls []) := by
  have hx := V.1
  have hb := V.2.1
  refine lv_iload hx hb dX6_nextChild_72 (lv_at hl 0 rfl) ?_
  cases hf
  exact kr_iret V hH dX6_nextChild_74
set_option maxHeartbeats 4000000 in
set_option maxRecDepth 100000 in
theorem w_X6_nextChild_6 (V : kV p s mm args meth c cX6_nextChild RX6 6 (some .int) D cI cZ cO) {k mo : kS} : ∀ (n : Nat) {v1 : Int32} {v2 : Int32} {v3 : Int32} {v4 : Int32} {v5 : Int32} {H : Heap} {locs : List Loc} {ls : Array Slot} {out : Int32}, kHE s H locs D ad cI cZ cO k mo [] → lv_has ls 6 [(0, .ref (ad 7)), (1, .int v1), (2, .int v2), (3, .int v3), (4, .int v4), (5, .int v5)] → F_X6_nextChild_6 mo n v1 v2 v3 v4 v5 = some out → W p l e rm_X6_nextChild s mm args below meth c H locs 0 0 (kGi below args s D cI cZ cO ad out k mo 0 0) (F0 mm 6 ls []) := by
  have hx := V.1
  have hb := V.2.1
  intro n
  induction n with
  | zero => intro _ _ _ _ _ _ _ _ _ hH hl hf; cases hf
  | succ n hk6 =>
    intro v1 v2 v3 v4 v5 H locs ls out hH hl hf
    refine lv_iload hx hb dX6_nextChild_6 (lv_at hl 5 rfl) ?_
    refine lv_aload_n hx hb dX6_nextChild_8 rfl (lv_at hl 0 rfl) ?_
    refine kg_X6_35 V hH dX6_nextChild_9 ?_
    refine lv_icmp_ge (tgt := 72) hx hb dX6_nextChild_12 (by decide) (fun hq => ?_) (fun hq => ?_)
    · have hf := kpos hq hf
      exact w_X6_nextChild_72 V hH (lv_sub hl [4] rfl) hf
    · have hf := kneg hq hf
      exact w_X6_nextChild_15 V hk6 hH (lv_sub hl [0, 1, 2, 3, 4, 5] rfl) hf
set_option maxHeartbeats 4000000 in
set_option maxRecDepth 100000 in
theorem w_X6_nextChild_0 (V : kV p s mm args meth c cX6_nextChild RX6 6 (some .int) D cI cZ cO) {k mo : kS} {v1 : Int32} {v2 : Int32} {v3 : Int32} {H : Heap} {locs : List Loc} {ls : Array Slot} {out : Int32} (hH : kHE s H locs D ad cI cZ cO k mo []) (hl : lv_has ls 6 [(0, .ref (ad 7)), (1, .int v1), (2, .int v2), (3, .int v3)]) (hf : F_X6_nextChild_0 mo v1 v2 v3 = some out) : W p l e rm_X6_nextChild s mm args below meth c H locs 0 0 (kGi below args s D cI cZ cO ad out k mo 0 0) (F0 mm 0 ls []) := by
  have hx := V.1
  have hb := V.2.1
  refine lv_iconst (v := (-1)) hx hb dX6_nextChild_0 (by decide) ?_
  refine lv_istore (lv' := [(4, .int (-1)), (0, .ref (ad 7)), (1, .int v1), (2, .int v2), (3, .int v3)]) hx hb dX6_nextChild_1 hl (by decide) rfl (fun ls hl => ?_)
  refine lv_iconst (v := 0) hx hb dX6_nextChild_3 (by decide) ?_
  refine lv_istore (lv' := [(5, .int 0), (4, .int (-1)), (0, .ref (ad 7)), (1, .int v1), (2, .int v2), (3, .int v3)]) hx hb dX6_nextChild_4 hl (by decide) rfl (fun ls hl => ?_)
  exact w_X6_nextChild_6 V kN hH (lv_sub hl [2, 3, 4, 5, 1, 0] rfl) hf
set_option maxHeartbeats 4000000 in
set_option maxRecDepth 100000 in
theorem c_X6_nextChild (l : Launch) {D : va_G} {cI cZ cO : ClassId} {ad : Nat → Nat} {k mo : kS} (v1 : Int32) (v2 : Int32) (v3 : Int32) {out : Int32} (hf : F_X6_nextChild mo v1 v2 v3 = some out) (sz : Nat) : Met l yX6_nextChild (Cond.code yX6_nextChild cX6_nextChild 6 (some .int) :: kWA) rm_X6_nextChild (kP [.ref (ad 7), .int v1, .int v2, .int v3] D cI cZ cO ad (kE ad cI cZ cO k mo) sz) (kQi out D cI cZ cO ad (kE ad cI cZ cO k mo) sz) 0 0 (fA ad sz) := by
  refine kr_met (as := [.ref (ad 7), .int v1, .int v2, .int v3]) (bytes := cX6_nextChild) (maxL := 6) (rt := (some .int)) (Qc := fun sz => kQi out D cI cZ cO ad (kE ad cI cZ cO k mo) sz) (lv := [(0, .ref (ad 7)), (1, .int v1), (2, .int v2), (3, .int v3)]) (by decide +kernel) (Nat.le_of_ble_eq_true rfl) rfl (fun p e s mm below meth c ls V hH hl => ?_) sz
  exact w_X6_nextChild_0 V hH (lv_sub hl [0, 1, 2, 3] rfl) hf
end
section
variable {p : Program} {l : Launch} {e : Env} {s : State} {mm : MethodId} {args : Array Value} {below : List Frame} {meth : Method} {c : Code} {D : va_G} {cI cZ cO : ClassId} {ad : Nat → Nat}
abbrev rm_X6_first (d : Nat) : Room := { frames := d + 4, cells := 0, slots := 0, locals := d * 25 + 92 }
set_option maxHeartbeats 4000000 in
set_option maxRecDepth 100000 in
theorem w_X6_first_30 (V : kV p s mm args meth c cX6_first RX6 6 (some .int) D cI cZ cO) {k mo : kS} {d : Nat} {self : Int32 → Int32 → Int32 → Option Int32} (hself : ∀ (a1 a2 a3 : Int32) {r : Int32}, self a1 a2 a3 = some r → ∀ sz : Nat, Met l yX6_first (Cond.code yX6_first cX6_first 6 (some .int) :: kWA) (rm_X6_first d) (kP [.ref (ad 7), .int a1, .int a2, .int a3] D cI cZ cO ad (kE ad cI cZ cO k mo) sz) (kQi r D cI cZ cO ad (kE ad cI cZ cO k mo) sz) 0 0 (fA ad sz)) {v4 : Int32} {H : Heap} {locs : List Loc} {ls : Array Slot} {out : Int32} (hH : kHE s H locs D ad cI cZ cO k mo []) (hl : lv_has ls 6 [(4, .int v4)]) (hf : F_X6_first_30 self mo v4 = some out) : W p l e (rm_X6_first (d + 1)) s mm args below meth c H locs 0 0 (kGi below args s D cI cZ cO ad out k mo 0 0) (F0 mm 30 ls []) := by
  have hx := V.1
  have hb := V.2.1
  refine lv_iload hx hb dX6_first_30 (lv_at hl 0 rfl) ?_
  cases hf
  exact kr_iret V hH dX6_first_32
set_option maxHeartbeats 4000000 in
set_option maxRecDepth 100000 in
theorem w_X6_first_49 (V : kV p s mm args meth c cX6_first RX6 6 (some .int) D cI cZ cO) {k mo : kS} {d : Nat} {self : Int32 → Int32 → Int32 → Option Int32} (hself : ∀ (a1 a2 a3 : Int32) {r : Int32}, self a1 a2 a3 = some r → ∀ sz : Nat, Met l yX6_first (Cond.code yX6_first cX6_first 6 (some .int) :: kWA) (rm_X6_first d) (kP [.ref (ad 7), .int a1, .int a2, .int a3] D cI cZ cO ad (kE ad cI cZ cO k mo) sz) (kQi r D cI cZ cO ad (kE ad cI cZ cO k mo) sz) 0 0 (fA ad sz)) {v5 : Int32} {H : Heap} {locs : List Loc} {ls : Array Slot} {out : Int32} (hH : kHE s H locs D ad cI cZ cO k mo []) (hl : lv_has ls 6 [(5, .int v5)]) (hf : F_X6_first_49 self mo v5 = some out) : W p l e (rm_X6_first (d + 1)) s mm args below meth c H locs 0 0 (kGi below args s D cI cZ cO ad out k mo 0 0) (F0 mm 49 ls []) := by
  have hx := V.1
  have hb := V.2.1
  refine lv_iload hx hb dX6_first_49 (lv_at hl 0 rfl) ?_
  cases hf
  exact kr_iret V hH dX6_first_51
set_option maxHeartbeats 4000000 in
set_option maxRecDepth 100000 in
theorem w_X6_first_52 (V : kV p s mm args meth c cX6_first RX6 6 (some .int) D cI cZ cO) {k mo : kS} {d : Nat} {self : Int32 → Int32 → Int32 → Option Int32} (hself : ∀ (a1 a2 a3 : Int32) {r : Int32}, self a1 a2 a3 = some r → ∀ sz : Nat, Met l yX6_first (Cond.code yX6_first cX6_first 6 (some .int) :: kWA) (rm_X6_first d) (kP [.ref (ad 7), .int a1, .int a2, .int a3] D cI cZ cO ad (kE ad cI cZ cO k mo) sz) (kQi r D cI cZ cO ad (kE ad cI cZ cO k mo) sz) 0 0 (fA ad sz)) {c9 : Int32 → Int32 → Int32 → Int32 → Option (Int32)} (hk9 : ∀ {v1 : Int32} {v2 : Int32} {v3 : Int32} {v4 : Int32} {H : Heap} {locs : List Loc} {ls : Array Slot} {out : Int32}, kHE s H locs D ad cI cZ cO k mo [] → lv_has ls 6 [(0, .ref (ad 7)), (1, .int v1), (2, .int v2), (3, .int v3), (4, .int v4)] → c9 v1 v2 v3 v4 = some out → W p l e (rm_X6_first (d + 1)) s mm args below meth c H locs 0 0 (kGi below args s D cI cZ cO ad out k mo 0 0) (F0 mm 9 ls [])) {v1 : Int32} {v2 : Int32} {v3 : Int32} {v4 : Int32} {H : Heap} {locs : List Loc} {ls : Array Slot} {out : Int32} (hH : kHE s H locs D ad cI cZ cO k mo []) (hl : lv_has ls 6 [(0, .ref (ad 7)), (1, .int v1), (2, .int v2), (3, .int v3), (4, .int v4)]) (hf : F_X6_first_52 self mo c9 v1 v2 v3 v4 = some out) : W p l e (rm_X6_first (d + 1)) s mm args below meth c H locs 0 0 (kGi below args s D cI cZ cO ad out k mo 0 0) (F0 mm 52 ls []) := by
  have hx := V.1
  have hb := V.2.1
  refine lv_aload_n hx hb dX6_first_52 rfl (lv_at hl 0 rfl) ?_
  refine lv_iload_n hx hb dX6_first_53 rfl (lv_at hl 1 rfl) ?_
  refine lv_iload hx hb dX6_first_54 (lv_at hl 4 rfl) ?_
  refine lv_iload_n hx hb dX6_first_56 rfl (lv_at hl 2 rfl) ?_
  obtain ⟨x52_1, hx52_1, hf⟩ := kbind hf
  refine kr_calli0 hH (kr_runV (as := [.int v1, .int v4, .int v2]) (rest := []) (pl := 7) V hH kYX6_nextChild kl_X6_99 (c_X6_nextChild l _ _ _ hx52_1 _) rfl rfl ⟨by show _ ≤ d + 1 + _; refine Nat.le_trans (Nat.le_of_ble_eq_true rfl) (Nat.le_add_left _ (d + 1)), by show _ ≤ (d + 1) * _ + _; refine Nat.le_trans (Nat.le_of_ble_eq_true rfl) (Nat.le_add_left _ _)⟩ (by decide) kE_7 rfl rfl hl.1 (Nat.le_of_ble_eq_true rfl) dX6_first_57 ⟨Nat.le_refl _, Nat.le_refl _⟩ rfl) (fun H locs hH => ?_)
  refine lv_istore (lv' := [(4, .int x52_1), (0, .ref (ad 7)), (1, .int v1), (2, .int v2), (3, .int v3)]) hx hb dX6_first_60 hl (by decide) rfl (fun ls hl => ?_)
  refine lv_goto (tgt := 9) hx hb dX6_first_62 (by decide) ?_
  exact hk9 hH (lv_sub hl [1, 2, 3, 4, 0] rfl) hf
set_option maxHeartbeats 4000000 in
set_option maxRecDepth 100000 in
theorem w_X6_first_33 (V : kV p s mm args meth c cX6_first RX6 6 (some .int) D cI cZ cO) {k mo : kS} {d : Nat} {self : Int32 → Int32 → Int32 → Option Int32} (hself : ∀ (a1 a2 a3 : Int32) {r : Int32}, self a1 a2 a3 = some r → ∀ sz : Nat, Met l yX6_first (Cond.code yX6_first cX6_first 6 (some .int) :: kWA) (rm_X6_first d) (kP [.ref (ad 7), .int a1, .int a2, .int a3] D cI cZ cO ad (kE ad cI cZ cO k mo) sz) (kQi r D cI cZ cO ad (kE ad cI cZ cO k mo) sz) 0 0 (fA ad sz)) {c9 : Int32 → Int32 → Int32 → Int32 → Option (Int32)} (hk9 : ∀ {v1 : Int32} {v2 : Int32} {v3 : Int32} {v4 : Int32} {H : Heap} {locs : List Loc} {ls : Array Slot} {out : Int32}, kHE s H locs D ad cI cZ cO k mo [] → lv_has ls 6 [(0, .ref (ad 7)), (1, .int v1), (2, .int v2), (3, .int v3), (4, .int v4)] → c9 v1 v2 v3 v4 = some out → W p l e (rm_X6_first (d + 1)) s mm args below meth c H locs 0 0 (kGi below args s D cI cZ cO ad out k mo 0 0) (F0 mm 9 ls [])) {v1 : Int32} {v2 : Int32} {v3 : Int32} {v4 : Int32} {H : Heap} {locs : List Loc} {ls : Array Slot} {out : Int32} (hH : kHE s H locs D ad cI cZ cO k mo []) (hl : lv_has ls 6 [(0, .ref (ad 7)), (1, .int v1), (2, .int v2), (3, .int v3), (4, .int v4)]) (hf : F_X6_first_33 self mo c9 v1 v2 v3 v4 = some out) : W p l e (rm_X6_first (d + 1)) s mm args below meth c H locs 0 0 (kGi below args s D cI cZ cO ad out k mo 0 0) (F0 mm 33 ls []) := by
  have hx := V.1
  have hb := V.2.1
  refine lv_aload_n hx hb dX6_first_33 rfl (lv_at hl 0 rfl) ?_
  refine lv_iload hx hb dX6_first_34 (lv_at hl 4 rfl) ?_
  refine lv_iload_n hx hb dX6_first_36 rfl (lv_at hl 2 rfl) ?_
  refine lv_iload_n hx hb dX6_first_37 rfl (lv_at hl 3 rfl) ?_
  obtain ⟨x33_1, hx33_1, hf⟩ := kbind hf
  refine kr_calli0 hH (kr_runV (as := [.int v4, .int v2, .int v3]) (rest := []) (pl := 7) V hH kYX6_first kl_X6_103 (hself _ _ _ hx33_1 _) rfl rfl ⟨Nat.le_of_eq (by show d + _ + 1 = d + 1 + _; omega), by show _ ≤ (d + 1) * _ + _; show 8 + (_ + 11) + (d * _ + _) ≤ _; omega⟩ (by decide) kE_7 rfl rfl hl.1 (Nat.le_of_ble_eq_true rfl) dX6_first_38 ⟨Nat.le_refl _, Nat.le_refl _⟩ rfl) (fun H locs hH => ?_)
  refine lv_istore (lv' := [(5, .int x33_1), (0, .ref (ad 7)), (1, .int v1), (2, .int v2), (3, .int v3), (4, .int v4)]) hx hb dX6_first_41 hl (by decide) rfl (fun ls hl => ?_)
  refine lv_iload hx hb dX6_first_43 (lv_at hl 0 rfl) ?_
  refine lv_iconst (v := (-1)) hx hb dX6_first_45 (by decide) ?_
  refine lv_icmp_eq (tgt := 52) hx hb dX6_first_46 (by decide) (fun hq => ?_) (fun hq => ?_)
  · have hf := kpos hq hf
    exact w_X6_first_52 V hself hk9 hH (lv_sub hl [1, 2, 3, 4, 5] rfl) hf
  · have hf := kneg hq hf
    exact w_X6_first_49 V hself hH (lv_sub hl [0] rfl) hf
set_option maxHeartbeats 4000000 in
set_option maxRecDepth 100000 in
theorem w_X6_first_24 (V : kV p s mm args meth c cX6_first RX6 6 (some .int) D cI cZ cO) {k mo : kS} {d : Nat} {self : Int32 → Int32 → Int32 → Option Int32} (hself : ∀ (a1 a2 a3 : Int32) {r : Int32}, self a1 a2 a3 = some r → ∀ sz : Nat, Met l yX6_first (Cond.code yX6_first cX6_first 6 (some .int) :: kWA) (rm_X6_first d) (kP [.ref (ad 7), .int a1, .int a2, .int a3] D cI cZ cO ad (kE ad cI cZ cO k mo) sz) (kQi r D cI cZ cO ad (kE ad cI cZ cO k mo) sz) 0 0 (fA ad sz)) {c9 : Int32 → Int32 → Int32 → Int32 → Option (Int32)} (hk9 : ∀ {v1 : Int32} {v2 : Int32} {v3 : Int32} {v4 : Int32} {H : Heap} {locs : List Loc} {ls : Array Slot} {out : Int32}, kHE s H locs D ad cI cZ cO k mo [] → lv_has ls 6 [(0, .ref (ad 7)), (1, .int v1), (2, .int v2), (3, .int v3), (4, .int v4)] → c9 v1 v2 v3 v4 = some out → W p l e (rm_X6_first (d + 1)) s mm args below meth c H locs 0 0 (kGi below args s D cI cZ cO ad out k mo 0 0) (F0 mm 9 ls [])) {v1 : Int32} {v2 : Int32} {v3 : Int32} {v4 : Int32} {H : Heap} {locs : List Loc} {ls : Array Slot} {out : Int32} (hH : kHE s H locs D ad cI cZ cO k mo []) (hl : lv_has ls 6 [(0, .ref (ad 7)), (1, .int v1), (2, .int v2), (3, .int v3), (4, .int v4)]) (hf : F_X6_first_24 self mo c9 v1 v2 v3 v4 = some out) : W p l e (rm_X6_first (d + 1)) s mm args below meth c H locs 0 0 (kGi below args s D cI cZ cO ad out k mo 0 0) (F0 mm 24 ls []) := by
  have hx := V.1
  have hb := V.2.1
  refine lv_iload hx hb dX6_first_24 (lv_at hl 4 rfl) ?_
  refine lv_iload_n hx hb dX6_first_26 rfl (lv_at hl 3 rfl) ?_
  refine lv_icmp_eq (tgt := 33) hx hb dX6_first_27 (by decide) (fun hq => ?_) (fun hq => ?_)
  · have hf := kpos hq hf
    exact w_X6_first_33 V hself hk9 hH (lv_sub hl [0, 1, 2, 3, 4] rfl) hf
  · have hf := kneg hq hf
    exact w_X6_first_30 V hself hH (lv_sub hl [4] rfl) hf
set_option maxHeartbeats 4000000 in
set_option maxRecDepth 100000 in
theorem w_X6_first_15 (V : kV p s mm args meth c cX6_first RX6 6 (some .int) D cI cZ cO) {k mo : kS} {d : Nat} {self : Int32 → Int32 → Int32 → Option Int32} (hself : ∀ (a1 a2 a3 : Int32) {r : Int32}, self a1 a2 a3 = some r → ∀ sz : Nat, Met l yX6_first (Cond.code yX6_first cX6_first 6 (some .int) :: kWA) (rm_X6_first d) (kP [.ref (ad 7), .int a1, .int a2, .int a3] D cI cZ cO ad (kE ad cI cZ cO k mo) sz) (kQi r D cI cZ cO ad (kE ad cI cZ cO k mo) sz) 0 0 (fA ad sz)) {c9 : Int32 → Int32 → Int32 → Int32 → Option (Int32)} (hk9 : ∀ {v1 : Int32} {v2 : Int32} {v3 : Int32} {v4 : Int32} {H : Heap} {locs : List Loc} {ls : Array Slot} {out : Int32}, kHE s H locs D ad cI cZ cO k mo [] → lv_has ls 6 [(0, .ref (ad 7)), (1, .int v1), (2, .int v2), (3, .int v3), (4, .int v4)] → c9 v1 v2 v3 v4 = some out → W p l e (rm_X6_first (d + 1)) s mm args below meth c H locs 0 0 (kGi below args s D cI cZ cO ad out k mo 0 0) (F0 mm 9 ls [])) {v1 : Int32} {v2 : Int32} {v3 : Int32} {v4 : Int32} {H : Heap} {locs : List Loc} {ls : Array Slot} {out : Int32} (hH : kHE s H locs D ad cI cZ cO k mo []) (hl : lv_has ls 6 [(0, .ref (ad 7)), (1, .int v1), (2, .int v2), (3, .int v3), (4, .int v4)]) (hf : F_X6_first_15 self mo c9 v1 v2 v3 v4 = some out) : W p l e (rm_X6_first (d + 1)) s mm args below meth c H locs 0 0 (kGi below args s D cI cZ cO ad out k mo 0 0) (F0 mm 15 ls []) := by
  have hx := V.1
  have hb := V.2.1
  refine lv_aload_n hx hb dX6_first_15 rfl (lv_at hl 0 rfl) ?_
  refine lv_iload hx hb dX6_first_16 (lv_at hl 4 rfl) ?_
  obtain ⟨x15_1, hx15_1, hf⟩ := kbind hf
  refine kr_calli0 hH (kr_runV (as := [.int v4]) (rest := []) (pl := 7) V hH kYX6_lives kl_X6_67 (c_X6_lives l _ hx15_1 _) rfl rfl ⟨by show _ ≤ d + 1 + _; refine Nat.le_trans (Nat.le_of_ble_eq_true rfl) (Nat.le_add_left _ (d + 1)), by show _ ≤ (d + 1) * _ + _; refine Nat.le_trans (Nat.le_of_ble_eq_true rfl) (Nat.le_add_left _ _)⟩ (by decide) kE_7 rfl rfl hl.1 (Nat.le_of_ble_eq_true rfl) dX6_first_18 ⟨Nat.le_refl _, Nat.le_refl _⟩ rfl) (fun H locs hH => ?_)
  refine lv_if_eq (tgt := 33) hx hb dX6_first_21 (by decide) (fun hq => ?_) (fun hq => ?_)
  · have hf := kpos hq hf
    exact w_X6_first_33 V hself hk9 hH (lv_sub hl [0, 1, 2, 3, 4] rfl) hf
  · have hf := kneg hq hf
    exact w_X6_first_24 V hself hk9 hH (lv_sub hl [0, 1, 2, 3, 4] rfl) hf
set_option maxHeartbeats 4000000 in
set_option maxRecDepth 100000 in
theorem w_X6_first_65 (V : kV p s mm args meth c cX6_first RX6 6 (some .int) D cI cZ cO) {k mo : kS} {d : Nat} {self : Int32 → Int32 → Int32 → Option Int32} (hself : ∀ (a1 a2 a3 : Int32) {r : Int32}, self a1 a2 a3 = some r → ∀ sz : Nat, Met l yX6_first (Cond.code yX6_first cX6_first 6 (some .int) :: kWA) (rm_X6_first d) (kP [.ref (ad 7), .int a1, .int a2, .int a3] D cI cZ cO ad (kE ad cI cZ cO k mo) sz) (kQi r D cI cZ cO ad (kE ad cI cZ cO k mo) sz) 0 0 (fA ad sz)) {H : Heap} {locs : List Loc} {ls : Array Slot} {out : Int32} (hH : kHE s H locs D ad cI cZ cO k mo []) (hl : lv_has ls 6 []) (hf : F_X6_first_65 self mo = some out) : W p l e (rm_X6_first (d + 1)) s mm args below meth c H locs 0 0 (kGi below args s D cI cZ cO ad out k mo 0 0) (F0 mm 65 ls []) := by
  have hx := V.1
  have hb := V.2.1
  refine lv_iconst (v := (-1)) hx hb dX6_first_65 (by decide) ?_
  cases hf
  exact kr_iret V hH dX6_first_66
set_option maxHeartbeats 4000000 in
set_option maxRecDepth 100000 in
theorem w_X6_first_9 (V : kV p s mm args meth c cX6_first RX6 6 (some .int) D cI cZ cO) {k mo : kS} {d : Nat} {self : Int32 → Int32 → Int32 → Option Int32} (hself : ∀ (a1 a2 a3 : Int32) {r : Int32}, self a1 a2 a3 = some r → ∀ sz : Nat, Met l yX6_first (Cond.code yX6_first cX6_first 6 (some .int) :: kWA) (rm_X6_first d) (kP [.ref (ad 7), .int a1, .int a2, .int a3] D cI cZ cO ad (kE ad cI cZ cO k mo) sz) (kQi r D cI cZ cO ad (kE ad cI cZ cO k mo) sz) 0 0 (fA ad sz)) : ∀ (n : Nat) {v1 : Int32} {v2 : Int32} {v3 : Int32} {v4 : Int32} {H : Heap} {locs : List Loc} {ls : Array Slot} {out : Int32}, kHE s H locs D ad cI cZ cO k mo [] → lv_has ls 6 [(0, .ref (ad 7)), (1, .int v1), (2, .int v2), (3, .int v3), (4, .int v4)] → F_X6_first_9 self mo n v1 v2 v3 v4 = some out → W p l e (rm_X6_first (d + 1)) s mm args below meth c H locs 0 0 (kGi below args s D cI cZ cO ad out k mo 0 0) (F0 mm 9 ls []) := by
  have hx := V.1
  have hb := V.2.1
  intro n
  induction n with
  | zero => intro _ _ _ _ _ _ _ _ hH hl hf; cases hf
  | succ n hk9 =>
    intro v1 v2 v3 v4 H locs ls out hH hl hf
    refine lv_iload hx hb dX6_first_9 (lv_at hl 4 rfl) ?_
    refine lv_iconst (v := (-1)) hx hb dX6_first_11 (by decide) ?_
    refine lv_icmp_eq (tgt := 65) hx hb dX6_first_12 (by decide) (fun hq => ?_) (fun hq => ?_)
    · have hf := kpos hq hf
      exact w_X6_first_65 V hself hH (lv_sub hl [] rfl) hf
    · have hf := kneg hq hf
      exact w_X6_first_15 V hself hk9 hH (lv_sub hl [0, 1, 2, 3, 4] rfl) hf
set_option maxHeartbeats 4000000 in
set_option maxRecDepth 100000 in
theorem w_X6_first_0 (V : kV p s mm args meth c cX6_first RX6 6 (some .int) D cI cZ cO) {k mo : kS} {d : Nat} {self : Int32 → Int32 → Int32 → Option Int32} (hself : ∀ (a1 a2 a3 : Int32) {r : Int32}, self a1 a2 a3 = some r → ∀ sz : Nat, Met l yX6_first (Cond.code yX6_first cX6_first 6 (some .int) :: kWA) (rm_X6_first d) (kP [.ref (ad 7), .int a1, .int a2, .int a3] D cI cZ cO ad (kE ad cI cZ cO k mo) sz) (kQi r D cI cZ cO ad (kE ad cI cZ cO k mo) sz) 0 0 (fA ad sz)) {v1 : Int32} {v2 : Int32} {v3 : Int32} {H : Heap} {locs : List Loc} {ls : Array Slot} {out : Int32} (hH : kHE s H locs D ad cI cZ cO k mo []) (hl : lv_has ls 6 [(0, .ref (ad 7)), (1, .int v1), (2, .int v2), (3, .int v3)]) (hf : F_X6_first_0 self mo v1 v2 v3 = some out) : W p l e (rm_X6_first (d + 1)) s mm args below meth c H locs 0 0 (kGi below args s D cI cZ cO ad out k mo 0 0) (F0 mm 0 ls []) := by
  have hx := V.1
  have hb := V.2.1
  refine lv_aload_n hx hb dX6_first_0 rfl (lv_at hl 0 rfl) ?_
  refine lv_iload_n hx hb dX6_first_1 rfl (lv_at hl 1 rfl) ?_
  refine lv_iconst (v := (-1)) hx hb dX6_first_2 (by decide) ?_
  refine lv_iload_n hx hb dX6_first_3 rfl (lv_at hl 2 rfl) ?_
  obtain ⟨x0_1, hx0_1, hf⟩ := kbind hf
  refine kr_calli0 hH (kr_runV (as := [.int v1, .int (-1), .int v2]) (rest := []) (pl := 7) V hH kYX6_nextChild kl_X6_99 (c_X6_nextChild l _ _ _ hx0_1 _) rfl rfl ⟨by show _ ≤ d + 1 + _; refine Nat.le_trans (Nat.le_of_ble_eq_true rfl) (Nat.le_add_left _ (d + 1)), by show _ ≤ (d + 1) * _ + _; refine Nat.le_trans (Nat.le_of_ble_eq_true rfl) (Nat.le_add_left _ _)⟩ (by decide) kE_7 rfl rfl hl.1 (Nat.le_of_ble_eq_true rfl) dX6_first_4 ⟨Nat.le_refl _, Nat.le_refl _⟩ rfl) (fun H locs hH => ?_)
  refine lv_istore (lv' := [(4, .int x0_1), (0, .ref (ad 7)), (1, .int v1), (2, .int v2), (3, .int v3)]) hx hb dX6_first_7 hl (by decide) rfl (fun ls hl => ?_)
  exact w_X6_first_9 V hself kN hH (lv_sub hl [1, 2, 3, 4, 0] rfl) hf
set_option maxHeartbeats 4000000 in
set_option maxRecDepth 100000 in
theorem c_X6_first (l : Launch) {D : va_G} {cI cZ cO : ClassId} {ad : Nat → Nat} {k mo : kS} : ∀ (d : Nat) (v1 : Int32) (v2 : Int32) (v3 : Int32) {out : Int32}, F_X6_first mo d v1 v2 v3 = some out → ∀ sz : Nat, Met l yX6_first (Cond.code yX6_first cX6_first 6 (some .int) :: kWA) (rm_X6_first d) (kP [.ref (ad 7), .int v1, .int v2, .int v3] D cI cZ cO ad (kE ad cI cZ cO k mo) sz) (kQi out D cI cZ cO ad (kE ad cI cZ cO k mo) sz) 0 0 (fA ad sz) := by
  intro d
  induction d with
  | zero => intro v1 v2 v3 out hf; cases hf
  | succ d ih =>
    intro v1 v2 v3 out hf sz
    refine kr_met (as := [.ref (ad 7), .int v1, .int v2, .int v3]) (bytes := cX6_first) (maxL := 6) (rt := (some .int)) (Qc := fun sz => kQi out D cI cZ cO ad (kE ad cI cZ cO k mo) sz) (lv := [(0, .ref (ad 7)), (1, .int v1), (2, .int v2), (3, .int v3)]) (by decide +kernel) (Nat.le_of_ble_eq_true rfl) rfl (fun p e s mm below meth c ls V hH hl => ?_) sz
    exact w_X6_first_0 V (fun a1 a2 a3 r h sz => ih a1 a2 a3 h sz) hH (lv_sub hl [0, 1, 2, 3] rfl) hf
end
section
variable {p : Program} {l : Launch} {e : Env} {s : State} {mm : MethodId} {args : Array Value} {below : List Frame} {meth : Method} {c : Code} {D : va_G} {cI cZ cO : ClassId} {ad : Nat → Nat}
abbrev rm_X6_oldest : Room := { frames := 3, cells := 0, slots := 0, locals := 87 }
set_option maxHeartbeats 4000000 in
set_option maxRecDepth 100000 in
theorem w_X6_oldest_53 (V : kV p s mm args meth c cX6_oldest RX6 4 (some .int) D cI cZ cO) {k : kS} {c4 : Int32 → Int32 → Int32 → kS → Option ((Int32 × kS))} (hk4 : ∀ {v1 : Int32} {v2 : Int32} {v3 : Int32} {mo : kS} {H : Heap} {locs : List Loc} {ls : Array Slot} {out : (Int32 × kS)}, kHE s H locs D ad cI cZ cO k mo [] → lv_has ls 4 [(0, .ref (ad 7)), (1, .int v1), (2, .int v2), (3, .int v3)] → c4 v1 v2 v3 mo = some out → W p l e rm_X6_oldest s mm args below meth c H locs 0 0 (kGi below args s D cI cZ cO ad out.1 k out.2 0 0) (F0 mm 4 ls [])) {v1 : Int32} {v2 : Int32} {v3 : Int32} {mo : kS} {H : Heap} {locs : List Loc} {ls : Array Slot} {out : (Int32 × kS)} (hH : kHE s H locs D ad cI cZ cO k mo []) (hl : lv_has ls 4 [(0, .ref (ad 7)), (1, .int v1), (2, .int v2), (3, .int v3)]) (hf : F_X6_oldest_53 c4 v1 v2 v3 mo = some out) : W p l e rm_X6_oldest s mm args below meth c H locs 0 0 (kGi below args s D cI cZ cO ad out.1 k out.2 0 0) (F0 mm 53 ls []) := by
  have hx := V.1
  have hb := V.2.1
  refine lv_iinc (v := (v3 + 1)) (lv' := [(3, .int (v3 + 1)), (0, .ref (ad 7)), (1, .int v1), (2, .int v2)]) hx hb dX6_oldest_53 hl (k := 3) rfl rfl (by decide) rfl (fun ls hl => ?_)
  refine lv_goto (tgt := 4) hx hb dX6_oldest_56 (by decide) ?_
  exact hk4 hH (lv_sub hl [1, 2, 3, 0] rfl) hf
set_option maxHeartbeats 4000000 in
set_option maxRecDepth 100000 in
theorem w_X6_oldest_51 (V : kV p s mm args meth c cX6_oldest RX6 4 (some .int) D cI cZ cO) {k : kS} {c4 : Int32 → Int32 → Int32 → kS → Option ((Int32 × kS))} (hk4 : ∀ {v1 : Int32} {v2 : Int32} {v3 : Int32} {mo : kS} {H : Heap} {locs : List Loc} {ls : Array Slot} {out : (Int32 × kS)}, kHE s H locs D ad cI cZ cO k mo [] → lv_has ls 4 [(0, .ref (ad 7)), (1, .int v1), (2, .int v2), (3, .int v3)] → c4 v1 v2 v3 mo = some out → W p l e rm_X6_oldest s mm args below meth c H locs 0 0 (kGi below args s D cI cZ cO ad out.1 k out.2 0 0) (F0 mm 4 ls [])) {v1 : Int32} {v3 : Int32} {mo : kS} {H : Heap} {locs : List Loc} {ls : Array Slot} {out : (Int32 × kS)} (hH : kHE s H locs D ad cI cZ cO k mo []) (hl : lv_has ls 4 [(0, .ref (ad 7)), (1, .int v1), (3, .int v3)]) (hf : F_X6_oldest_51 c4 v1 v3 mo = some out) : W p l e rm_X6_oldest s mm args below meth c H locs 0 0 (kGi below args s D cI cZ cO ad out.1 k out.2 0 0) (F0 mm 51 ls []) := by
  have hx := V.1
  have hb := V.2.1
  refine lv_iload_n hx hb dX6_oldest_51 rfl (lv_at hl 2 rfl) ?_
  refine lv_istore_n (lv' := [(2, .int v3), (0, .ref (ad 7)), (1, .int v1), (3, .int v3)]) hx hb dX6_oldest_52 rfl hl (by decide) rfl (fun ls hl => ?_)
  exact w_X6_oldest_53 V hk4 hH (lv_sub hl [1, 2, 0, 3] rfl) hf
set_option maxHeartbeats 4000000 in
set_option maxRecDepth 100000 in
theorem w_X6_oldest_42 (V : kV p s mm args meth c cX6_oldest RX6 4 (some .int) D cI cZ cO) {k : kS} {c4 : Int32 → Int32 → Int32 → kS → Option ((Int32 × kS))} (hk4 : ∀ {v1 : Int32} {v2 : Int32} {v3 : Int32} {mo : kS} {H : Heap} {locs : List Loc} {ls : Array Slot} {out : (Int32 × kS)}, kHE s H locs D ad cI cZ cO k mo [] → lv_has ls 4 [(0, .ref (ad 7)), (1, .int v1), (2, .int v2), (3, .int v3)] → c4 v1 v2 v3 mo = some out → W p l e rm_X6_oldest s mm args below meth c H locs 0 0 (kGi below args s D cI cZ cO ad out.1 k out.2 0 0) (F0 mm 4 ls [])) {v1 : Int32} {v2 : Int32} {v3 : Int32} {mo : kS} {H : Heap} {locs : List Loc} {ls : Array Slot} {out : (Int32 × kS)} (hH : kHE s H locs D ad cI cZ cO k mo []) (hl : lv_has ls 4 [(0, .ref (ad 7)), (1, .int v1), (2, .int v2), (3, .int v3)]) (hf : F_X6_oldest_42 c4 v1 v2 v3 mo = some out) : W p l e rm_X6_oldest s mm args below meth c H locs 0 0 (kGi below args s D cI cZ cO ad out.1 k out.2 0 0) (F0 mm 42 ls []) := by
  have hx := V.1
  have hb := V.2.1
  refine lv_aload_n hx hb dX6_oldest_42 rfl (lv_at hl 0 rfl) ?_
  refine lv_iload_n hx hb dX6_oldest_43 rfl (lv_at hl 3 rfl) ?_
  refine lv_iload_n hx hb dX6_oldest_44 rfl (lv_at hl 2 rfl) ?_
  obtain ⟨x42_1, hx42_1, hf⟩ := kbind hf
  refine kr_calli0 hH (kr_runV (as := [.int v3, .int v2]) (rest := []) (pl := 7) V hH kYX6_isBefore kl_X6_89 (c_X6_isBefore l _ _ hx42_1 _) rfl rfl ⟨Nat.le_of_ble_eq_true rfl, Nat.le_of_ble_eq_true rfl⟩ (by decide) kE_7 rfl rfl hl.1 (Nat.le_of_ble_eq_true rfl) dX6_oldest_45 ⟨Nat.le_refl _, Nat.le_refl _⟩ rfl) (fun H locs hH => ?_)
  refine lv_if_eq (tgt := 53) hx hb dX6_oldest_48 (by decide) (fun hq => ?_) (fun hq => ?_)
  · have hf := kpos hq hf
    exact w_X6_oldest_53 V hk4 hH (lv_sub hl [0, 1, 2, 3] rfl) hf
  · have hf := kneg hq hf
    exact w_X6_oldest_51 V hk4 hH (lv_sub hl [0, 1, 3] rfl) hf
set_option maxHeartbeats 4000000 in
set_option maxRecDepth 100000 in
theorem w_X6_oldest_37 (V : kV p s mm args meth c cX6_oldest RX6 4 (some .int) D cI cZ cO) {k : kS} {c4 : Int32 → Int32 → Int32 → kS → Option ((Int32 × kS))} (hk4 : ∀ {v1 : Int32} {v2 : Int32} {v3 : Int32} {mo : kS} {H : Heap} {locs : List Loc} {ls : Array Slot} {out : (Int32 × kS)}, kHE s H locs D ad cI cZ cO k mo [] → lv_has ls 4 [(0, .ref (ad 7)), (1, .int v1), (2, .int v2), (3, .int v3)] → c4 v1 v2 v3 mo = some out → W p l e rm_X6_oldest s mm args below meth c H locs 0 0 (kGi below args s D cI cZ cO ad out.1 k out.2 0 0) (F0 mm 4 ls [])) {v1 : Int32} {v2 : Int32} {v3 : Int32} {mo : kS} {H : Heap} {locs : List Loc} {ls : Array Slot} {out : (Int32 × kS)} (hH : kHE s H locs D ad cI cZ cO k mo []) (hl : lv_has ls 4 [(0, .ref (ad 7)), (1, .int v1), (2, .int v2), (3, .int v3)]) (hf : F_X6_oldest_37 c4 v1 v2 v3 mo = some out) : W p l e rm_X6_oldest s mm args below meth c H locs 0 0 (kGi below args s D cI cZ cO ad out.1 k out.2 0 0) (F0 mm 37 ls []) := by
  have hx := V.1
  have hb := V.2.1
  refine lv_iload_n hx hb dX6_oldest_37 rfl (lv_at hl 2 rfl) ?_
  refine lv_iconst (v := (-1)) hx hb dX6_oldest_38 (by decide) ?_
  refine lv_icmp_eq (tgt := 51) hx hb dX6_oldest_39 (by decide) (fun hq => ?_) (fun hq => ?_)
  · have hf := kpos hq hf
    exact w_X6_oldest_51 V hk4 hH (lv_sub hl [0, 1, 3] rfl) hf
  · have hf := kneg hq hf
    exact w_X6_oldest_42 V hk4 hH (lv_sub hl [0, 1, 2, 3] rfl) hf
set_option maxHeartbeats 4000000 in
set_option maxRecDepth 100000 in
theorem w_X6_oldest_25 (V : kV p s mm args meth c cX6_oldest RX6 4 (some .int) D cI cZ cO) {k : kS} {c4 : Int32 → Int32 → Int32 → kS → Option ((Int32 × kS))} (hk4 : ∀ {v1 : Int32} {v2 : Int32} {v3 : Int32} {mo : kS} {H : Heap} {locs : List Loc} {ls : Array Slot} {out : (Int32 × kS)}, kHE s H locs D ad cI cZ cO k mo [] → lv_has ls 4 [(0, .ref (ad 7)), (1, .int v1), (2, .int v2), (3, .int v3)] → c4 v1 v2 v3 mo = some out → W p l e rm_X6_oldest s mm args below meth c H locs 0 0 (kGi below args s D cI cZ cO ad out.1 k out.2 0 0) (F0 mm 4 ls [])) {v1 : Int32} {v2 : Int32} {v3 : Int32} {mo : kS} {H : Heap} {locs : List Loc} {ls : Array Slot} {out : (Int32 × kS)} (hH : kHE s H locs D ad cI cZ cO k mo []) (hl : lv_has ls 4 [(0, .ref (ad 7)), (1, .int v1), (2, .int v2), (3, .int v3)]) (hf : F_X6_oldest_25 c4 v1 v2 v3 mo = some out) : W p l e rm_X6_oldest s mm args below meth c H locs 0 0 (kGi below args s D cI cZ cO ad out.1 k out.2 0 0) (F0 mm 25 ls []) := by
  have hx := V.1
  have hb := V.2.1
  refine lv_aload_n hx hb dX6_oldest_25 rfl (lv_at hl 0 rfl) ?_
  refine lv_iload_n hx hb dX6_oldest_26 rfl (lv_at hl 3 rfl) ?_
  refine lv_iload_n hx hb dX6_oldest_27 rfl (lv_at hl 1 rfl) ?_
  obtain ⟨x25_1, hx25_1, hf⟩ := kbind hf
  refine kr_calli0 hH (kr_runV (as := [.int v3, .int v1]) (rest := []) (pl := 7) V hH kYX6_steps kl_X6_106 (c_X6_steps l _ _ hx25_1 _) rfl rfl ⟨Nat.le_of_ble_eq_true rfl, Nat.le_of_ble_eq_true rfl⟩ (by decide) kE_7 rfl rfl hl.1 (Nat.le_of_ble_eq_true rfl) dX6_oldest_28 ⟨Nat.le_refl _, Nat.le_refl _⟩ rfl) (fun H locs hH => ?_)
  refine lv_sipush (v := 999) hx hb dX6_oldest_31 (by decide) ?_
  refine lv_icmp_ge (tgt := 53) hx hb dX6_oldest_34 (by decide) (fun hq => ?_) (fun hq => ?_)
  · have hf := kpos hq hf
    exact w_X6_oldest_53 V hk4 hH (lv_sub hl [0, 1, 2, 3] rfl) hf
  · have hf := kneg hq hf
    exact w_X6_oldest_37 V hk4 hH (lv_sub hl [0, 1, 2, 3] rfl) hf
set_option maxHeartbeats 4000000 in
set_option maxRecDepth 100000 in
theorem w_X6_oldest_17 (V : kV p s mm args meth c cX6_oldest RX6 4 (some .int) D cI cZ cO) {k : kS} {c4 : Int32 → Int32 → Int32 → kS → Option ((Int32 × kS))} (hk4 : ∀ {v1 : Int32} {v2 : Int32} {v3 : Int32} {mo : kS} {H : Heap} {locs : List Loc} {ls : Array Slot} {out : (Int32 × kS)}, kHE s H locs D ad cI cZ cO k mo [] → lv_has ls 4 [(0, .ref (ad 7)), (1, .int v1), (2, .int v2), (3, .int v3)] → c4 v1 v2 v3 mo = some out → W p l e rm_X6_oldest s mm args below meth c H locs 0 0 (kGi below args s D cI cZ cO ad out.1 k out.2 0 0) (F0 mm 4 ls [])) {v1 : Int32} {v2 : Int32} {v3 : Int32} {mo : kS} {H : Heap} {locs : List Loc} {ls : Array Slot} {out : (Int32 × kS)} (hH : kHE s H locs D ad cI cZ cO k mo []) (hl : lv_has ls 4 [(0, .ref (ad 7)), (1, .int v1), (2, .int v2), (3, .int v3)]) (hf : F_X6_oldest_17 c4 v1 v2 v3 mo = some out) : W p l e rm_X6_oldest s mm args below meth c H locs 0 0 (kGi below args s D cI cZ cO ad out.1 k out.2 0 0) (F0 mm 17 ls []) := by
  have hx := V.1
  have hb := V.2.1
  refine lv_aload_n hx hb dX6_oldest_17 rfl (lv_at hl 0 rfl) ?_
  refine lv_iload_n hx hb dX6_oldest_18 rfl (lv_at hl 3 rfl) ?_
  obtain ⟨x17_1, hx17_1, hf⟩ := kbind hf
  refine kr_calli0 hH (kr_runV (as := [.int v3]) (rest := []) (pl := 7) V hH kYX6_lives kl_X6_67 (c_X6_lives l _ hx17_1 _) rfl rfl ⟨Nat.le_of_ble_eq_true rfl, Nat.le_of_ble_eq_true rfl⟩ (by decide) kE_7 rfl rfl hl.1 (Nat.le_of_ble_eq_true rfl) dX6_oldest_19 ⟨Nat.le_refl _, Nat.le_refl _⟩ rfl) (fun H locs hH => ?_)
  refine lv_if_eq (tgt := 53) hx hb dX6_oldest_22 (by decide) (fun hq => ?_) (fun hq => ?_)
  · have hf := kpos hq hf
    exact w_X6_oldest_53 V hk4 hH (lv_sub hl [0, 1, 2, 3] rfl) hf
  · have hf := kneg hq hf
    exact w_X6_oldest_25 V hk4 hH (lv_sub hl [0, 1, 2, 3] rfl) hf
set_option maxHeartbeats 4000000 in
set_option maxRecDepth 100000 in
theorem w_X6_oldest_12 (V : kV p s mm args meth c cX6_oldest RX6 4 (some .int) D cI cZ cO) {k : kS} {c4 : Int32 → Int32 → Int32 → kS → Option ((Int32 × kS))} (hk4 : ∀ {v1 : Int32} {v2 : Int32} {v3 : Int32} {mo : kS} {H : Heap} {locs : List Loc} {ls : Array Slot} {out : (Int32 × kS)}, kHE s H locs D ad cI cZ cO k mo [] → lv_has ls 4 [(0, .ref (ad 7)), (1, .int v1), (2, .int v2), (3, .int v3)] → c4 v1 v2 v3 mo = some out → W p l e rm_X6_oldest s mm args below meth c H locs 0 0 (kGi below args s D cI cZ cO ad out.1 k out.2 0 0) (F0 mm 4 ls [])) {v1 : Int32} {v2 : Int32} {v3 : Int32} {mo : kS} {H : Heap} {locs : List Loc} {ls : Array Slot} {out : (Int32 × kS)} (hH : kHE s H locs D ad cI cZ cO k mo []) (hl : lv_has ls 4 [(0, .ref (ad 7)), (1, .int v1), (2, .int v2), (3, .int v3)]) (hf : F_X6_oldest_12 c4 v1 v2 v3 mo = some out) : W p l e rm_X6_oldest s mm args below meth c H locs 0 0 (kGi below args s D cI cZ cO ad out.1 k out.2 0 0) (F0 mm 12 ls []) := by
  have hx := V.1
  have hb := V.2.1
  refine lv_iload_n hx hb dX6_oldest_12 rfl (lv_at hl 3 rfl) ?_
  refine lv_iload_n hx hb dX6_oldest_13 rfl (lv_at hl 1 rfl) ?_
  refine lv_icmp_eq (tgt := 53) hx hb dX6_oldest_14 (by decide) (fun hq => ?_) (fun hq => ?_)
  · have hf := kpos hq hf
    exact w_X6_oldest_53 V hk4 hH (lv_sub hl [0, 1, 2, 3] rfl) hf
  · have hf := kneg hq hf
    exact w_X6_oldest_17 V hk4 hH (lv_sub hl [0, 1, 2, 3] rfl) hf
set_option maxHeartbeats 4000000 in
set_option maxRecDepth 100000 in
theorem w_X6_oldest_59 (V : kV p s mm args meth c cX6_oldest RX6 4 (some .int) D cI cZ cO) {k : kS} {v2 : Int32} {mo : kS} {H : Heap} {locs : List Loc} {ls : Array Slot} {out : (Int32 × kS)} (hH : kHE s H locs D ad cI cZ cO k mo []) (hl : lv_has ls 4 [(2, .int v2)]) (hf : F_X6_oldest_59 v2 mo = some out) : W p l e rm_X6_oldest s mm args below meth c H locs 0 0 (kGi below args s D cI cZ cO ad out.1 k out.2 0 0) (F0 mm 59 ls []) := by
  have hx := V.1
  have hb := V.2.1
  refine lv_iload_n hx hb dX6_oldest_59 rfl (lv_at hl 0 rfl) ?_
  cases hf
  exact kr_iret V hH dX6_oldest_60
set_option maxHeartbeats 4000000 in
set_option maxRecDepth 100000 in
theorem w_X6_oldest_4 (V : kV p s mm args meth c cX6_oldest RX6 4 (some .int) D cI cZ cO) {k : kS} : ∀ (n : Nat) {v1 : Int32} {v2 : Int32} {v3 : Int32} {mo : kS} {H : Heap} {locs : List Loc} {ls : Array Slot} {out : (Int32 × kS)}, kHE s H locs D ad cI cZ cO k mo [] → lv_has ls 4 [(0, .ref (ad 7)), (1, .int v1), (2, .int v2), (3, .int v3)] → F_X6_oldest_4 n v1 v2 v3 mo = some out → W p l e rm_X6_oldest s mm args below meth c H locs 0 0 (kGi below args s D cI cZ cO ad out.1 k out.2 0 0) (F0 mm 4 ls []) := by
  have hx := V.1
  have hb := V.2.1
  intro n
  induction n with
  | zero => intro _ _ _ _ _ _ _ _ hH hl hf; cases hf
  | succ n hk4 =>
    intro v1 v2 v3 mo H locs ls out hH hl hf
    refine lv_iload_n hx hb dX6_oldest_4 rfl (lv_at hl 3 rfl) ?_
    refine lv_aload_n hx hb dX6_oldest_5 rfl (lv_at hl 0 rfl) ?_
    refine kg_X6_35 V hH dX6_oldest_6 ?_
    refine lv_icmp_ge (tgt := 59) hx hb dX6_oldest_9 (by decide) (fun hq => ?_) (fun hq => ?_)
    · have hf := kpos hq hf
      exact w_X6_oldest_59 V hH (lv_sub hl [2] rfl) hf
    · have hf := kneg hq hf
      exact w_X6_oldest_12 V hk4 hH (lv_sub hl [0, 1, 2, 3] rfl) hf
set_option maxHeartbeats 4000000 in
set_option maxRecDepth 100000 in
theorem w_X6_oldest_0 (V : kV p s mm args meth c cX6_oldest RX6 4 (some .int) D cI cZ cO) {k : kS} {v1 : Int32} {mo : kS} {H : Heap} {locs : List Loc} {ls : Array Slot} {out : (Int32 × kS)} (hH : kHE s H locs D ad cI cZ cO k mo []) (hl : lv_has ls 4 [(0, .ref (ad 7)), (1, .int v1)]) (hf : F_X6_oldest_0 v1 mo = some out) : W p l e rm_X6_oldest s mm args below meth c H locs 0 0 (kGi below args s D cI cZ cO ad out.1 k out.2 0 0) (F0 mm 0 ls []) := by
  have hx := V.1
  have hb := V.2.1
  refine lv_iconst (v := (-1)) hx hb dX6_oldest_0 (by decide) ?_
  refine lv_istore_n (lv' := [(2, .int (-1)), (0, .ref (ad 7)), (1, .int v1)]) hx hb dX6_oldest_1 rfl hl (by decide) rfl (fun ls hl => ?_)
  refine lv_iconst (v := 0) hx hb dX6_oldest_2 (by decide) ?_
  refine lv_istore_n (lv' := [(3, .int 0), (2, .int (-1)), (0, .ref (ad 7)), (1, .int v1)]) hx hb dX6_oldest_3 rfl hl (by decide) rfl (fun ls hl => ?_)
  exact w_X6_oldest_4 V kN hH (lv_sub hl [2, 3, 1, 0] rfl) hf
set_option maxHeartbeats 4000000 in
set_option maxRecDepth 100000 in
theorem c_X6_oldest (l : Launch) {D : va_G} {cI cZ cO : ClassId} {ad : Nat → Nat} {k mo : kS} (v1 : Int32) {out : (Int32 × kS)} (hf : F_X6_oldest v1 mo = some out) (sz : Nat) : Met l yX6_oldest (Cond.code yX6_oldest cX6_oldest 4 (some .int) :: kWA) rm_X6_oldest (kP [.ref (ad 7), .int v1] D cI cZ cO ad (kE ad cI cZ cO k mo) sz) (kQi out.1 D cI cZ cO ad (kE ad cI cZ cO k out.2) sz) 0 0 (fA ad sz) := by
  refine kr_met (as := [.ref (ad 7), .int v1]) (bytes := cX6_oldest) (maxL := 4) (rt := (some .int)) (Qc := fun sz => kQi out.1 D cI cZ cO ad (kE ad cI cZ cO k out.2) sz) (lv := [(0, .ref (ad 7)), (1, .int v1)]) (by decide +kernel) (Nat.le_of_ble_eq_true rfl) rfl (fun p e s mm below meth c ls V hH hl => ?_) sz
  exact w_X6_oldest_0 V hH (lv_sub hl [0, 1] rfl) hf
end
section
variable {p : Program} {l : Launch} {e : Env} {s : State} {mm : MethodId} {args : Array Value} {below : List Frame} {meth : Method} {c : Code} {D : va_G} {cI cZ cO : ClassId} {ad : Nat → Nat}
abbrev rm_X6_heir : Room := { frames := 50, cells := 0, slots := 0, locals := 1242 }
set_option maxHeartbeats 4000000 in
set_option maxRecDepth 100000 in
theorem w_X6_heir_5 (V : kV p s mm args meth c cX6_heir RX6 4 (some .int) D cI cZ cO) {k : kS} {v1 : Int32} {mo : kS} {H : Heap} {locs : List Loc} {ls : Array Slot} {out : (Int32 × kS)} (hH : kHE s H locs D ad cI cZ cO k mo []) (hl : lv_has ls 4 [(0, .ref (ad 7)), (1, .int v1)]) (hf : F_X6_heir_5 v1 mo = some out) : W p l e rm_X6_heir s mm args below meth c H locs 0 0 (kGi below args s D cI cZ cO ad out.1 k out.2 0 0) (F0 mm 5 ls []) := by
  have hx := V.1
  have hb := V.2.1
  refine lv_aload_n hx hb dX6_heir_5 rfl (lv_at hl 0 rfl) ?_
  refine lv_iload_n hx hb dX6_heir_6 rfl (lv_at hl 1 rfl) ?_
  obtain ⟨x5_1, hx5_1, hf⟩ := kbind hf
  refine kr_calli0 hH (kr_runV (as := [.int v1]) (rest := []) (pl := 7) V hH kYX6_oldest kl_X6_109 (c_X6_oldest l _ hx5_1 _) rfl rfl ⟨Nat.le_of_ble_eq_true rfl, Nat.le_of_ble_eq_true rfl⟩ (by decide) kE_7 rfl rfl hl.1 (Nat.le_of_ble_eq_true rfl) dX6_heir_7 ⟨Nat.le_refl _, Nat.le_refl _⟩ rfl) (fun H locs hH => ?_)
  cases hf
  exact kr_iret V hH dX6_heir_10
set_option maxHeartbeats 4000000 in
set_option maxRecDepth 100000 in
theorem w_X6_heir_75 (V : kV p s mm args meth c cX6_heir RX6 4 (some .int) D cI cZ cO) {k : kS} {v3 : Int32} {mo : kS} {H : Heap} {locs : List Loc} {ls : Array Slot} {out : (Int32 × kS)} (hH : kHE s H locs D ad cI cZ cO k mo []) (hl : lv_has ls 4 [(3, .int v3)]) (hf : F_X6_heir_75 v3 mo = some out) : W p l e rm_X6_heir s mm args below meth c H locs 0 0 (kGi below args s D cI cZ cO ad out.1 k out.2 0 0) (F0 mm 75 ls []) := by
  have hx := V.1
  have hb := V.2.1
  refine lv_iload_n hx hb dX6_heir_75 rfl (lv_at hl 0 rfl) ?_
  cases hf
  exact kr_iret V hH dX6_heir_76
set_option maxHeartbeats 4000000 in
set_option maxRecDepth 100000 in
theorem w_X6_heir_62 (V : kV p s mm args meth c cX6_heir RX6 4 (some .int) D cI cZ cO) {k : kS} {v1 : Int32} {v2 : Int32} {mo : kS} {H : Heap} {locs : List Loc} {ls : Array Slot} {out : (Int32 × kS)} (hH : kHE s H locs D ad cI cZ cO k mo []) (hl : lv_has ls 4 [(0, .ref (ad 7)), (1, .int v1), (2, .int v2)]) (hf : F_X6_heir_62 v1 v2 mo = some out) : W p l e rm_X6_heir s mm args below meth c H locs 0 0 (kGi below args s D cI cZ cO ad out.1 k out.2 0 0) (F0 mm 62 ls []) := by
  have hx := V.1
  have hb := V.2.1
  refine lv_aload_n hx hb dX6_heir_62 rfl (lv_at hl 0 rfl) ?_
  refine lv_aload_n hx hb dX6_heir_63 rfl (lv_at hl 0 rfl) ?_
  refine lv_iload_n hx hb dX6_heir_64 rfl (lv_at hl 1 rfl) ?_
  refine lv_iconst (v := 3) hx hb dX6_heir_65 (by decide) ?_
  obtain ⟨x62_1, hx62_1, hf⟩ := kbind hf
  refine kr_calli0 hH (kr_runV (as := [.int v1, .int 3]) (rest := [.ref (ad 7)]) (pl := 7) V hH kYX6_pe kl_X6_45 (c_X6_pe l _ _ hx62_1 _) rfl rfl ⟨Nat.le_of_ble_eq_true rfl, Nat.le_of_ble_eq_true rfl⟩ (by decide) kE_7 rfl rfl hl.1 (Nat.le_of_ble_eq_true rfl) dX6_heir_66 ⟨Nat.le_refl _, Nat.le_refl _⟩ rfl) (fun H locs hH => ?_)
  refine lv_iload_n hx hb dX6_heir_69 rfl (lv_at hl 2 rfl) ?_
  refine lv_iload_n hx hb dX6_heir_70 rfl (lv_at hl 1 rfl) ?_
  obtain ⟨x62_2, hx62_2, hf⟩ := kbind hf
  refine kr_calli0 hH (kr_runV (as := [.int x62_1, .int v2, .int v1]) (rest := []) (pl := 7) V hH kYX6_first kl_X6_103 (c_X6_first l kD _ _ _ hx62_2 _) rfl rfl ⟨Nat.le_of_ble_eq_true rfl, Nat.le_of_ble_eq_true rfl⟩ (by decide) kE_7 rfl rfl hl.1 (Nat.le_of_ble_eq_true rfl) dX6_heir_71 ⟨Nat.le_refl _, Nat.le_refl _⟩ rfl) (fun H locs hH => ?_)
  refine lv_istore_n (lv' := [(3, .int x62_2), (0, .ref (ad 7)), (1, .int v1), (2, .int v2)]) hx hb dX6_heir_74 rfl hl (by decide) rfl (fun ls hl => ?_)
  exact w_X6_heir_75 V hH (lv_sub hl [0] rfl) hf
set_option maxHeartbeats 4000000 in
set_option maxRecDepth 100000 in
theorem w_X6_heir_52 (V : kV p s mm args meth c cX6_heir RX6 4 (some .int) D cI cZ cO) {k : kS} {v1 : Int32} {v2 : Int32} {v3 : Int32} {mo : kS} {H : Heap} {locs : List Loc} {ls : Array Slot} {out : (Int32 × kS)} (hH : kHE s H locs D ad cI cZ cO k mo []) (hl : lv_has ls 4 [(0, .ref (ad 7)), (1, .int v1), (2, .int v2), (3, .int v3)]) (hf : F_X6_heir_52 v1 v2 v3 mo = some out) : W p l e rm_X6_heir s mm args below meth c H locs 0 0 (kGi below args s D cI cZ cO ad out.1 k out.2 0 0) (F0 mm 52 ls []) := by
  have hx := V.1
  have hb := V.2.1
  refine lv_aload_n hx hb dX6_heir_52 rfl (lv_at hl 0 rfl) ?_
  refine lv_iload_n hx hb dX6_heir_53 rfl (lv_at hl 1 rfl) ?_
  refine lv_iconst (v := 3) hx hb dX6_heir_54 (by decide) ?_
  obtain ⟨x52_1, hx52_1, hf⟩ := kbind hf
  refine kr_calli0 hH (kr_runV (as := [.int v1, .int 3]) (rest := []) (pl := 7) V hH kYX6_pe kl_X6_45 (c_X6_pe l _ _ hx52_1 _) rfl rfl ⟨Nat.le_of_ble_eq_true rfl, Nat.le_of_ble_eq_true rfl⟩ (by decide) kE_7 rfl rfl hl.1 (Nat.le_of_ble_eq_true rfl) dX6_heir_55 ⟨Nat.le_refl _, Nat.le_refl _⟩ rfl) (fun H locs hH => ?_)
  refine lv_iconst (v := (-1)) hx hb dX6_heir_58 (by decide) ?_
  refine lv_icmp_eq (tgt := 75) hx hb dX6_heir_59 (by decide) (fun hq => ?_) (fun hq => ?_)
  · have hf := kpos hq hf
    exact w_X6_heir_75 V hH (lv_sub hl [3] rfl) hf
  · have hf := kneg hq hf
    exact w_X6_heir_62 V hH (lv_sub hl [0, 1, 2] rfl) hf
set_option maxHeartbeats 4000000 in
set_option maxRecDepth 100000 in
theorem w_X6_heir_47 (V : kV p s mm args meth c cX6_heir RX6 4 (some .int) D cI cZ cO) {k : kS} {v1 : Int32} {v2 : Int32} {v3 : Int32} {mo : kS} {H : Heap} {locs : List Loc} {ls : Array Slot} {out : (Int32 × kS)} (hH : kHE s H locs D ad cI cZ cO k mo []) (hl : lv_has ls 4 [(0, .ref (ad 7)), (1, .int v1), (2, .int v2), (3, .int v3)]) (hf : F_X6_heir_47 v1 v2 v3 mo = some out) : W p l e rm_X6_heir s mm args below meth c H locs 0 0 (kGi below args s D cI cZ cO ad out.1 k out.2 0 0) (F0 mm 47 ls []) := by
  have hx := V.1
  have hb := V.2.1
  refine lv_iload_n hx hb dX6_heir_47 rfl (lv_at hl 3 rfl) ?_
  refine lv_iconst (v := (-1)) hx hb dX6_heir_48 (by decide) ?_
  refine lv_icmp_ne (tgt := 75) hx hb dX6_heir_49 (by decide) (fun hq => ?_) (fun hq => ?_)
  · have hf := kneg hq hf
    exact w_X6_heir_75 V hH (lv_sub hl [3] rfl) hf
  · have hf := kpos hq hf
    exact w_X6_heir_52 V hH (lv_sub hl [0, 1, 2, 3] rfl) hf
set_option maxHeartbeats 4000000 in
set_option maxRecDepth 100000 in
theorem w_X6_heir_34 (V : kV p s mm args meth c cX6_heir RX6 4 (some .int) D cI cZ cO) {k : kS} {v1 : Int32} {v2 : Int32} {mo : kS} {H : Heap} {locs : List Loc} {ls : Array Slot} {out : (Int32 × kS)} (hH : kHE s H locs D ad cI cZ cO k mo []) (hl : lv_has ls 4 [(0, .ref (ad 7)), (1, .int v1), (2, .int v2)]) (hf : F_X6_heir_34 v1 v2 mo = some out) : W p l e rm_X6_heir s mm args below meth c H locs 0 0 (kGi below args s D cI cZ cO ad out.1 k out.2 0 0) (F0 mm 34 ls []) := by
  have hx := V.1
  have hb := V.2.1
  refine lv_aload_n hx hb dX6_heir_34 rfl (lv_at hl 0 rfl) ?_
  refine lv_aload_n hx hb dX6_heir_35 rfl (lv_at hl 0 rfl) ?_
  refine lv_iload_n hx hb dX6_heir_36 rfl (lv_at hl 1 rfl) ?_
  refine lv_iconst (v := 4) hx hb dX6_heir_37 (by decide) ?_
  obtain ⟨x34_1, hx34_1, hf⟩ := kbind hf
  refine kr_calli0 hH (kr_runV (as := [.int v1, .int 4]) (rest := [.ref (ad 7)]) (pl := 7) V hH kYX6_pe kl_X6_45 (c_X6_pe l _ _ hx34_1 _) rfl rfl ⟨Nat.le_of_ble_eq_true rfl, Nat.le_of_ble_eq_true rfl⟩ (by decide) kE_7 rfl rfl hl.1 (Nat.le_of_ble_eq_true rfl) dX6_heir_38 ⟨Nat.le_refl _, Nat.le_refl _⟩ rfl) (fun H locs hH => ?_)
  refine lv_iload_n hx hb dX6_heir_41 rfl (lv_at hl 2 rfl) ?_
  refine lv_iload_n hx hb dX6_heir_42 rfl (lv_at hl 1 rfl) ?_
  obtain ⟨x34_2, hx34_2, hf⟩ := kbind hf
  refine kr_calli0 hH (kr_runV (as := [.int x34_1, .int v2, .int v1]) (rest := []) (pl := 7) V hH kYX6_first kl_X6_103 (c_X6_first l kD _ _ _ hx34_2 _) rfl rfl ⟨Nat.le_of_ble_eq_true rfl, Nat.le_of_ble_eq_true rfl⟩ (by decide) kE_7 rfl rfl hl.1 (Nat.le_of_ble_eq_true rfl) dX6_heir_43 ⟨Nat.le_refl _, Nat.le_refl _⟩ rfl) (fun H locs hH => ?_)
  refine lv_istore_n (lv' := [(3, .int x34_2), (0, .ref (ad 7)), (1, .int v1), (2, .int v2)]) hx hb dX6_heir_46 rfl hl (by decide) rfl (fun ls hl => ?_)
  exact w_X6_heir_47 V hH (lv_sub hl [1, 2, 3, 0] rfl) hf
set_option maxHeartbeats 4000000 in
set_option maxRecDepth 100000 in
theorem w_X6_heir_24 (V : kV p s mm args meth c cX6_heir RX6 4 (some .int) D cI cZ cO) {k : kS} {v1 : Int32} {v2 : Int32} {v3 : Int32} {mo : kS} {H : Heap} {locs : List Loc} {ls : Array Slot} {out : (Int32 × kS)} (hH : kHE s H locs D ad cI cZ cO k mo []) (hl : lv_has ls 4 [(0, .ref (ad 7)), (1, .int v1), (2, .int v2), (3, .int v3)]) (hf : F_X6_heir_24 v1 v2 v3 mo = some out) : W p l e rm_X6_heir s mm args below meth c H locs 0 0 (kGi below args s D cI cZ cO ad out.1 k out.2 0 0) (F0 mm 24 ls []) := by
  have hx := V.1
  have hb := V.2.1
  refine lv_aload_n hx hb dX6_heir_24 rfl (lv_at hl 0 rfl) ?_
  refine lv_iload_n hx hb dX6_heir_25 rfl (lv_at hl 1 rfl) ?_
  refine lv_iconst (v := 4) hx hb dX6_heir_26 (by decide) ?_
  obtain ⟨x24_1, hx24_1, hf⟩ := kbind hf
  refine kr_calli0 hH (kr_runV (as := [.int v1, .int 4]) (rest := []) (pl := 7) V hH kYX6_pe kl_X6_45 (c_X6_pe l _ _ hx24_1 _) rfl rfl ⟨Nat.le_of_ble_eq_true rfl, Nat.le_of_ble_eq_true rfl⟩ (by decide) kE_7 rfl rfl hl.1 (Nat.le_of_ble_eq_true rfl) dX6_heir_27 ⟨Nat.le_refl _, Nat.le_refl _⟩ rfl) (fun H locs hH => ?_)
  refine lv_iconst (v := (-1)) hx hb dX6_heir_30 (by decide) ?_
  refine lv_icmp_eq (tgt := 47) hx hb dX6_heir_31 (by decide) (fun hq => ?_) (fun hq => ?_)
  · have hf := kpos hq hf
    exact w_X6_heir_47 V hH (lv_sub hl [0, 1, 2, 3] rfl) hf
  · have hf := kneg hq hf
    exact w_X6_heir_34 V hH (lv_sub hl [0, 1, 2] rfl) hf
set_option maxHeartbeats 4000000 in
set_option maxRecDepth 100000 in
theorem w_X6_heir_11 (V : kV p s mm args meth c cX6_heir RX6 4 (some .int) D cI cZ cO) {k : kS} {v1 : Int32} {v2 : Int32} {mo : kS} {H : Heap} {locs : List Loc} {ls : Array Slot} {out : (Int32 × kS)} (hH : kHE s H locs D ad cI cZ cO k mo []) (hl : lv_has ls 4 [(0, .ref (ad 7)), (1, .int v1), (2, .int v2)]) (hf : F_X6_heir_11 v1 v2 mo = some out) : W p l e rm_X6_heir s mm args below meth c H locs 0 0 (kGi below args s D cI cZ cO ad out.1 k out.2 0 0) (F0 mm 11 ls []) := by
  have hx := V.1
  have hb := V.2.1
  refine lv_aload_n hx hb dX6_heir_11 rfl (lv_at hl 0 rfl) ?_
  refine lv_iload_n hx hb dX6_heir_12 rfl (lv_at hl 1 rfl) ?_
  refine lv_iload_n hx hb dX6_heir_13 rfl (lv_at hl 2 rfl) ?_
  refine lv_iload_n hx hb dX6_heir_14 rfl (lv_at hl 1 rfl) ?_
  obtain ⟨x11_1, hx11_1, hf⟩ := kbind hf
  refine kr_calli0 hH (kr_runV (as := [.int v1, .int v2, .int v1]) (rest := []) (pl := 7) V hH kYX6_first kl_X6_103 (c_X6_first l kD _ _ _ hx11_1 _) rfl rfl ⟨Nat.le_of_ble_eq_true rfl, Nat.le_of_ble_eq_true rfl⟩ (by decide) kE_7 rfl rfl hl.1 (Nat.le_of_ble_eq_true rfl) dX6_heir_15 ⟨Nat.le_refl _, Nat.le_refl _⟩ rfl) (fun H locs hH => ?_)
  refine lv_istore_n (lv' := [(3, .int x11_1), (0, .ref (ad 7)), (1, .int v1), (2, .int v2)]) hx hb dX6_heir_18 rfl hl (by decide) rfl (fun ls hl => ?_)
  refine lv_iload_n hx hb dX6_heir_19 rfl (lv_at hl 0 rfl) ?_
  refine lv_iconst (v := (-1)) hx hb dX6_heir_20 (by decide) ?_
  refine lv_icmp_ne (tgt := 47) hx hb dX6_heir_21 (by decide) (fun hq => ?_) (fun hq => ?_)
  · have hf := kneg hq hf
    exact w_X6_heir_47 V hH (lv_sub hl [1, 2, 3, 0] rfl) hf
  · have hf := kpos hq hf
    exact w_X6_heir_24 V hH (lv_sub hl [1, 2, 3, 0] rfl) hf
set_option maxHeartbeats 4000000 in
set_option maxRecDepth 100000 in
theorem w_X6_heir_0 (V : kV p s mm args meth c cX6_heir RX6 4 (some .int) D cI cZ cO) {k : kS} {v1 : Int32} {v2 : Int32} {mo : kS} {H : Heap} {locs : List Loc} {ls : Array Slot} {out : (Int32 × kS)} (hH : kHE s H locs D ad cI cZ cO k mo []) (hl : lv_has ls 4 [(0, .ref (ad 7)), (1, .int v1), (2, .int v2)]) (hf : F_X6_heir_0 v1 v2 mo = some out) : W p l e rm_X6_heir s mm args below meth c H locs 0 0 (kGi below args s D cI cZ cO ad out.1 k out.2 0 0) (F0 mm 0 ls []) := by
  have hx := V.1
  have hb := V.2.1
  refine lv_iload_n hx hb dX6_heir_0 rfl (lv_at hl 2 rfl) ?_
  refine lv_iconst (v := 3) hx hb dX6_heir_1 (by decide) ?_
  refine lv_icmp_ne (tgt := 11) hx hb dX6_heir_2 (by decide) (fun hq => ?_) (fun hq => ?_)
  · have hf := kneg hq hf
    exact w_X6_heir_11 V hH (lv_sub hl [0, 1, 2] rfl) hf
  · have hf := kpos hq hf
    exact w_X6_heir_5 V hH (lv_sub hl [0, 1] rfl) hf
set_option maxHeartbeats 4000000 in
set_option maxRecDepth 100000 in
theorem c_X6_heir (l : Launch) {D : va_G} {cI cZ cO : ClassId} {ad : Nat → Nat} {k mo : kS} (v1 : Int32) (v2 : Int32) {out : (Int32 × kS)} (hf : F_X6_heir v1 v2 mo = some out) (sz : Nat) : Met l yX6_heir (Cond.code yX6_heir cX6_heir 4 (some .int) :: kWA) rm_X6_heir (kP [.ref (ad 7), .int v1, .int v2] D cI cZ cO ad (kE ad cI cZ cO k mo) sz) (kQi out.1 D cI cZ cO ad (kE ad cI cZ cO k out.2) sz) 0 0 (fA ad sz) := by
  refine kr_met (as := [.ref (ad 7), .int v1, .int v2]) (bytes := cX6_heir) (maxL := 4) (rt := (some .int)) (Qc := fun sz => kQi out.1 D cI cZ cO ad (kE ad cI cZ cO k out.2) sz) (lv := [(0, .ref (ad 7)), (1, .int v1), (2, .int v2)]) (by decide +kernel) (Nat.le_of_ble_eq_true rfl) rfl (fun p e s mm below meth c ls V hH hl => ?_) sz
  exact w_X6_heir_0 V hH (lv_sub hl [0, 1, 2] rfl) hf
end
section
variable {p : Program} {l : Launch} {e : Env} {s : State} {mm : MethodId} {args : Array Value} {below : List Frame} {meth : Method} {c : Code} {D : va_G} {cI cZ cO : ClassId} {ad : Nat → Nat}
abbrev rm_X6_regent : Room := { frames := 3, cells := 0, slots := 0, locals := 87 }
set_option maxHeartbeats 4000000 in
set_option maxRecDepth 100000 in
theorem w_X6_regent_15 (V : kV p s mm args meth c cX6_regent RX6 7 (some .int) D cI cZ cO) {k : kS} {mo : kS} {H : Heap} {locs : List Loc} {ls : Array Slot} {out : (Int32 × kS)} (hH : kHE s H locs D ad cI cZ cO k mo []) (hl : lv_has ls 7 []) (hf : F_X6_regent_15 mo = some out) : W p l e rm_X6_regent s mm args below meth c H locs 0 0 (kGi below args s D cI cZ cO ad out.1 k out.2 0 0) (F0 mm 15 ls []) := by
  have hx := V.1
  have hb := V.2.1
  refine lv_iconst (v := (-1)) hx hb dX6_regent_15 (by decide) ?_
  cases hf
  exact kr_iret V hH dX6_regent_16
set_option maxHeartbeats 4000000 in
set_option maxRecDepth 100000 in
theorem w_X6_regent_44 (V : kV p s mm args meth c cX6_regent RX6 7 (some .int) D cI cZ cO) {k : kS} {v2 : Int32} {mo : kS} {H : Heap} {locs : List Loc} {ls : Array Slot} {out : (Int32 × kS)} (hH : kHE s H locs D ad cI cZ cO k mo []) (hl : lv_has ls 7 [(2, .int v2)]) (hf : F_X6_regent_44 v2 mo = some out) : W p l e rm_X6_regent s mm args below meth c H locs 0 0 (kGi below args s D cI cZ cO ad out.1 k out.2 0 0) (F0 mm 44 ls []) := by
  have hx := V.1
  have hb := V.2.1
  refine lv_iload_n hx hb dX6_regent_44 rfl (lv_at hl 0 rfl) ?_
  cases hf
  exact kr_iret V hH dX6_regent_45
set_option maxHeartbeats 4000000 in
set_option maxRecDepth 100000 in
theorem w_X6_regent_59 (V : kV p s mm args meth c cX6_regent RX6 7 (some .int) D cI cZ cO) {k : kS} {v3 : Int32} {mo : kS} {H : Heap} {locs : List Loc} {ls : Array Slot} {out : (Int32 × kS)} (hH : kHE s H locs D ad cI cZ cO k mo []) (hl : lv_has ls 7 [(3, .int v3)]) (hf : F_X6_regent_59 v3 mo = some out) : W p l e rm_X6_regent s mm args below meth c H locs 0 0 (kGi below args s D cI cZ cO ad out.1 k out.2 0 0) (F0 mm 59 ls []) := by
  have hx := V.1
  have hb := V.2.1
  refine lv_iload_n hx hb dX6_regent_59 rfl (lv_at hl 0 rfl) ?_
  cases hf
  exact kr_iret V hH dX6_regent_60
set_option maxHeartbeats 4000000 in
set_option maxRecDepth 100000 in
theorem w_X6_regent_164 (V : kV p s mm args meth c cX6_regent RX6 7 (some .int) D cI cZ cO) {k : kS} {c67 : Int32 → Int32 → Int32 → kS → Option ((Int32 × kS))} (hk67 : ∀ {v1 : Int32} {v4 : Int32} {v5 : Int32} {mo : kS} {H : Heap} {locs : List Loc} {ls : Array Slot} {out : (Int32 × kS)}, kHE s H locs D ad cI cZ cO k mo [] → lv_has ls 7 [(0, .ref (ad 7)), (1, .int v1), (4, .int v4), (5, .int v5)] → c67 v1 v4 v5 mo = some out → W p l e rm_X6_regent s mm args below meth c H locs 0 0 (kGi below args s D cI cZ cO ad out.1 k out.2 0 0) (F0 mm 67 ls [])) {v1 : Int32} {v4 : Int32} {v5 : Int32} {mo : kS} {H : Heap} {locs : List Loc} {ls : Array Slot} {out : (Int32 × kS)} (hH : kHE s H locs D ad cI cZ cO k mo []) (hl : lv_has ls 7 [(0, .ref (ad 7)), (1, .int v1), (4, .int v4), (5, .int v5)]) (hf : F_X6_regent_164 c67 v1 v4 v5 mo = some out) : W p l e rm_X6_regent s mm args below meth c H locs 0 0 (kGi below args s D cI cZ cO ad out.1 k out.2 0 0) (F0 mm 164 ls []) := by
  have hx := V.1
  have hb := V.2.1
  refine lv_iinc (v := (v5 + 1)) (lv' := [(5, .int (v5 + 1)), (0, .ref (ad 7)), (1, .int v1), (4, .int v4)]) hx hb dX6_regent_164 hl (k := 3) rfl rfl (by decide) rfl (fun ls hl => ?_)
  refine lv_goto (tgt := 67) hx hb dX6_regent_167 (by decide) ?_
  exact hk67 hH (lv_sub hl [1, 2, 3, 0] rfl) hf
set_option maxHeartbeats 4000000 in
set_option maxRecDepth 100000 in
theorem w_X6_regent_109 (V : kV p s mm args meth c cX6_regent RX6 7 (some .int) D cI cZ cO) {k : kS} {c67 : Int32 → Int32 → Int32 → kS → Option ((Int32 × kS))} (hk67 : ∀ {v1 : Int32} {v4 : Int32} {v5 : Int32} {mo : kS} {H : Heap} {locs : List Loc} {ls : Array Slot} {out : (Int32 × kS)}, kHE s H locs D ad cI cZ cO k mo [] → lv_has ls 7 [(0, .ref (ad 7)), (1, .int v1), (4, .int v4), (5, .int v5)] → c67 v1 v4 v5 mo = some out → W p l e rm_X6_regent s mm args below meth c H locs 0 0 (kGi below args s D cI cZ cO ad out.1 k out.2 0 0) (F0 mm 67 ls [])) {v1 : Int32} {v4 : Int32} {v5 : Int32} {mo : kS} {H : Heap} {locs : List Loc} {ls : Array Slot} {out : (Int32 × kS)} (hH : kHE s H locs D ad cI cZ cO k mo []) (hl : lv_has ls 7 [(0, .ref (ad 7)), (1, .int v1), (4, .int v4), (5, .int v5)]) (hf : F_X6_regent_109 c67 v1 v4 v5 mo = some out) : W p l e rm_X6_regent s mm args below meth c H locs 0 0 (kGi below args s D cI cZ cO ad out.1 k out.2 0 0) (F0 mm 109 ls []) := by
  have hx := V.1
  have hb := V.2.1
  refine lv_goto (tgt := 164) hx hb dX6_regent_109 (by decide) ?_
  exact w_X6_regent_164 V hk67 hH (lv_sub hl [0, 1, 2, 3] rfl) hf
set_option maxHeartbeats 4000000 in
set_option maxRecDepth 100000 in
theorem w_X6_regent_160 (V : kV p s mm args meth c cX6_regent RX6 7 (some .int) D cI cZ cO) {k : kS} {c67 : Int32 → Int32 → Int32 → kS → Option ((Int32 × kS))} (hk67 : ∀ {v1 : Int32} {v4 : Int32} {v5 : Int32} {mo : kS} {H : Heap} {locs : List Loc} {ls : Array Slot} {out : (Int32 × kS)}, kHE s H locs D ad cI cZ cO k mo [] → lv_has ls 7 [(0, .ref (ad 7)), (1, .int v1), (4, .int v4), (5, .int v5)] → c67 v1 v4 v5 mo = some out → W p l e rm_X6_regent s mm args below meth c H locs 0 0 (kGi below args s D cI cZ cO ad out.1 k out.2 0 0) (F0 mm 67 ls [])) {v1 : Int32} {v5 : Int32} {mo : kS} {H : Heap} {locs : List Loc} {ls : Array Slot} {out : (Int32 × kS)} (hH : kHE s H locs D ad cI cZ cO k mo []) (hl : lv_has ls 7 [(0, .ref (ad 7)), (1, .int v1), (5, .int v5)]) (hf : F_X6_regent_160 c67 v1 v5 mo = some out) : W p l e rm_X6_regent s mm args below meth c H locs 0 0 (kGi below args s D cI cZ cO ad out.1 k out.2 0 0) (F0 mm 160 ls []) := by
  have hx := V.1
  have hb := V.2.1
  refine lv_iload hx hb dX6_regent_160 (lv_at hl 2 rfl) ?_
  refine lv_istore (lv' := [(4, .int v5), (0, .ref (ad 7)), (1, .int v1), (5, .int v5)]) hx hb dX6_regent_162 hl (by decide) rfl (fun ls hl => ?_)
  exact w_X6_regent_164 V hk67 hH (lv_sub hl [1, 2, 0, 3] rfl) hf
set_option maxHeartbeats 4000000 in
set_option maxRecDepth 100000 in
theorem w_X6_regent_149 (V : kV p s mm args meth c cX6_regent RX6 7 (some .int) D cI cZ cO) {k : kS} {c67 : Int32 → Int32 → Int32 → kS → Option ((Int32 × kS))} (hk67 : ∀ {v1 : Int32} {v4 : Int32} {v5 : Int32} {mo : kS} {H : Heap} {locs : List Loc} {ls : Array Slot} {out : (Int32 × kS)}, kHE s H locs D ad cI cZ cO k mo [] → lv_has ls 7 [(0, .ref (ad 7)), (1, .int v1), (4, .int v4), (5, .int v5)] → c67 v1 v4 v5 mo = some out → W p l e rm_X6_regent s mm args below meth c H locs 0 0 (kGi below args s D cI cZ cO ad out.1 k out.2 0 0) (F0 mm 67 ls [])) {v1 : Int32} {v4 : Int32} {v5 : Int32} {mo : kS} {H : Heap} {locs : List Loc} {ls : Array Slot} {out : (Int32 × kS)} (hH : kHE s H locs D ad cI cZ cO k mo []) (hl : lv_has ls 7 [(0, .ref (ad 7)), (1, .int v1), (4, .int v4), (5, .int v5)]) (hf : F_X6_regent_149 c67 v1 v4 v5 mo = some out) : W p l e rm_X6_regent s mm args below meth c H locs 0 0 (kGi below args s D cI cZ cO ad out.1 k out.2 0 0) (F0 mm 149 ls []) := by
  have hx := V.1
  have hb := V.2.1
  refine lv_aload_n hx hb dX6_regent_149 rfl (lv_at hl 0 rfl) ?_
  refine lv_iload hx hb dX6_regent_150 (lv_at hl 3 rfl) ?_
  refine lv_iload hx hb dX6_regent_152 (lv_at hl 2 rfl) ?_
  obtain ⟨x149_1, hx149_1, hf⟩ := kbind hf
  refine kr_calli0 hH (kr_runV (as := [.int v5, .int v4]) (rest := []) (pl := 7) V hH kYX6_isBefore kl_X6_89 (c_X6_isBefore l _ _ hx149_1 _) rfl rfl ⟨Nat.le_of_ble_eq_true rfl, Nat.le_of_ble_eq_true rfl⟩ (by decide) kE_7 rfl rfl hl.1 (Nat.le_of_ble_eq_true rfl) dX6_regent_154 ⟨Nat.le_refl _, Nat.le_refl _⟩ rfl) (fun H locs hH => ?_)
  refine lv_if_eq (tgt := 164) hx hb dX6_regent_157 (by decide) (fun hq => ?_) (fun hq => ?_)
  · have hf := kpos hq hf
    exact w_X6_regent_164 V hk67 hH (lv_sub hl [0, 1, 2, 3] rfl) hf
  · have hf := kneg hq hf
    exact w_X6_regent_160 V hk67 hH (lv_sub hl [0, 1, 3] rfl) hf
set_option maxHeartbeats 4000000 in
set_option maxRecDepth 100000 in
theorem w_X6_regent_144 (V : kV p s mm args meth c cX6_regent RX6 7 (some .int) D cI cZ cO) {k : kS} {c67 : Int32 → Int32 → Int32 → kS → Option ((Int32 × kS))} (hk67 : ∀ {v1 : Int32} {v4 : Int32} {v5 : Int32} {mo : kS} {H : Heap} {locs : List Loc} {ls : Array Slot} {out : (Int32 × kS)}, kHE s H locs D ad cI cZ cO k mo [] → lv_has ls 7 [(0, .ref (ad 7)), (1, .int v1), (4, .int v4), (5, .int v5)] → c67 v1 v4 v5 mo = some out → W p l e rm_X6_regent s mm args below meth c H locs 0 0 (kGi below args s D cI cZ cO ad out.1 k out.2 0 0) (F0 mm 67 ls [])) {v1 : Int32} {v4 : Int32} {v5 : Int32} {v6 : Int32} {mo : kS} {H : Heap} {locs : List Loc} {ls : Array Slot} {out : (Int32 × kS)} (hH : kHE s H locs D ad cI cZ cO k mo []) (hl : lv_has ls 7 [(0, .ref (ad 7)), (1, .int v1), (4, .int v4), (5, .int v5), (6, .int v6)]) (hf : F_X6_regent_144 c67 v1 v4 v5 v6 mo = some out) : W p l e rm_X6_regent s mm args below meth c H locs 0 0 (kGi below args s D cI cZ cO ad out.1 k out.2 0 0) (F0 mm 144 ls []) := by
  have hx := V.1
  have hb := V.2.1
  refine lv_iload hx hb dX6_regent_144 (lv_at hl 4 rfl) ?_
  refine lv_if_ne (tgt := 164) hx hb dX6_regent_146 (by decide) (fun hq => ?_) (fun hq => ?_)
  · have hf := kneg hq hf
    exact w_X6_regent_164 V hk67 hH (lv_sub hl [0, 1, 2, 3] rfl) hf
  · have hf := kpos hq hf
    exact w_X6_regent_149 V hk67 hH (lv_sub hl [0, 1, 2, 3] rfl) hf
set_option maxHeartbeats 4000000 in
set_option maxRecDepth 100000 in
theorem w_X6_regent_137 (V : kV p s mm args meth c cX6_regent RX6 7 (some .int) D cI cZ cO) {k : kS} {c67 : Int32 → Int32 → Int32 → kS → Option ((Int32 × kS))} (hk67 : ∀ {v1 : Int32} {v4 : Int32} {v5 : Int32} {mo : kS} {H : Heap} {locs : List Loc} {ls : Array Slot} {out : (Int32 × kS)}, kHE s H locs D ad cI cZ cO k mo [] → lv_has ls 7 [(0, .ref (ad 7)), (1, .int v1), (4, .int v4), (5, .int v5)] → c67 v1 v4 v5 mo = some out → W p l e rm_X6_regent s mm args below meth c H locs 0 0 (kGi below args s D cI cZ cO ad out.1 k out.2 0 0) (F0 mm 67 ls [])) {s0 : Int32} {v1 : Int32} {v4 : Int32} {v5 : Int32} {mo : kS} {H : Heap} {locs : List Loc} {ls : Array Slot} {out : (Int32 × kS)} (hH : kHE s H locs D ad cI cZ cO k mo []) (hl : lv_has ls 7 [(0, .ref (ad 7)), (1, .int v1), (4, .int v4), (5, .int v5)]) (hf : F_X6_regent_137 c67 s0 v1 v4 v5 mo = some out) : W p l e rm_X6_regent s mm args below meth c H locs 0 0 (kGi below args s D cI cZ cO ad out.1 k out.2 0 0) (F0 mm 137 ls [.int s0]) := by
  have hx := V.1
  have hb := V.2.1
  refine lv_istore (lv' := [(6, .int s0), (0, .ref (ad 7)), (1, .int v1), (4, .int v4), (5, .int v5)]) hx hb dX6_regent_137 hl (by decide) rfl (fun ls hl => ?_)
  refine lv_iload hx hb dX6_regent_139 (lv_at hl 0 rfl) ?_
  refine lv_if_lt (tgt := 160) hx hb dX6_regent_141 (by decide) (fun hq => ?_) (fun hq => ?_)
  · have hf := kpos hq hf
    exact w_X6_regent_160 V hk67 hH (lv_sub hl [1, 2, 4] rfl) hf
  · have hf := kneg hq hf
    exact w_X6_regent_144 V hk67 hH (lv_sub hl [1, 2, 3, 4, 0] rfl) hf
set_option maxHeartbeats 4000000 in
set_option maxRecDepth 100000 in
theorem w_X6_regent_118 (V : kV p s mm args meth c cX6_regent RX6 7 (some .int) D cI cZ cO) {k : kS} {c67 : Int32 → Int32 → Int32 → kS → Option ((Int32 × kS))} (hk67 : ∀ {v1 : Int32} {v4 : Int32} {v5 : Int32} {mo : kS} {H : Heap} {locs : List Loc} {ls : Array Slot} {out : (Int32 × kS)}, kHE s H locs D ad cI cZ cO k mo [] → lv_has ls 7 [(0, .ref (ad 7)), (1, .int v1), (4, .int v4), (5, .int v5)] → c67 v1 v4 v5 mo = some out → W p l e rm_X6_regent s mm args below meth c H locs 0 0 (kGi below args s D cI cZ cO ad out.1 k out.2 0 0) (F0 mm 67 ls [])) {v1 : Int32} {v4 : Int32} {v5 : Int32} {mo : kS} {H : Heap} {locs : List Loc} {ls : Array Slot} {out : (Int32 × kS)} (hH : kHE s H locs D ad cI cZ cO k mo []) (hl : lv_has ls 7 [(0, .ref (ad 7)), (1, .int v1), (4, .int v4), (5, .int v5)]) (hf : F_X6_regent_118 c67 v1 v4 v5 mo = some out) : W p l e rm_X6_regent s mm args below meth c H locs 0 0 (kGi below args s D cI cZ cO ad out.1 k out.2 0 0) (F0 mm 118 ls []) := by
  have hx := V.1
  have hb := V.2.1
  refine lv_iconst (v := (-1)) hx hb dX6_regent_118 (by decide) ?_
  refine lv_goto (tgt := 137) hx hb dX6_regent_119 (by decide) ?_
  exact w_X6_regent_137 V hk67 hH (lv_sub hl [0, 1, 2, 3] rfl) hf
set_option maxHeartbeats 4000000 in
set_option maxRecDepth 100000 in
theorem w_X6_regent_122 (V : kV p s mm args meth c cX6_regent RX6 7 (some .int) D cI cZ cO) {k : kS} {c67 : Int32 → Int32 → Int32 → kS → Option ((Int32 × kS))} (hk67 : ∀ {v1 : Int32} {v4 : Int32} {v5 : Int32} {mo : kS} {H : Heap} {locs : List Loc} {ls : Array Slot} {out : (Int32 × kS)}, kHE s H locs D ad cI cZ cO k mo [] → lv_has ls 7 [(0, .ref (ad 7)), (1, .int v1), (4, .int v4), (5, .int v5)] → c67 v1 v4 v5 mo = some out → W p l e rm_X6_regent s mm args below meth c H locs 0 0 (kGi below args s D cI cZ cO ad out.1 k out.2 0 0) (F0 mm 67 ls [])) {v1 : Int32} {v4 : Int32} {v5 : Int32} {mo : kS} {H : Heap} {locs : List Loc} {ls : Array Slot} {out : (Int32 × kS)} (hH : kHE s H locs D ad cI cZ cO k mo []) (hl : lv_has ls 7 [(0, .ref (ad 7)), (1, .int v1), (4, .int v4), (5, .int v5)]) (hf : F_X6_regent_122 c67 v1 v4 v5 mo = some out) : W p l e rm_X6_regent s mm args below meth c H locs 0 0 (kGi below args s D cI cZ cO ad out.1 k out.2 0 0) (F0 mm 122 ls []) := by
  have hx := V.1
  have hb := V.2.1
  refine lv_aload_n hx hb dX6_regent_122 rfl (lv_at hl 0 rfl) ?_
  refine lv_iload hx hb dX6_regent_123 (lv_at hl 3 rfl) ?_
  refine lv_iload_n hx hb dX6_regent_125 rfl (lv_at hl 1 rfl) ?_
  obtain ⟨x122_1, hx122_1, hf⟩ := kbind hf
  refine kr_calli0 hH (kr_runV (as := [.int v5, .int v1]) (rest := []) (pl := 7) V hH kYX6_steps kl_X6_106 (c_X6_steps l _ _ hx122_1 _) rfl rfl ⟨Nat.le_of_ble_eq_true rfl, Nat.le_of_ble_eq_true rfl⟩ (by decide) kE_7 rfl rfl hl.1 (Nat.le_of_ble_eq_true rfl) dX6_regent_126 ⟨Nat.le_refl _, Nat.le_refl _⟩ rfl) (fun H locs hH => ?_)
  refine lv_aload_n hx hb dX6_regent_129 rfl (lv_at hl 0 rfl) ?_
  refine lv_iload hx hb dX6_regent_130 (lv_at hl 2 rfl) ?_
  refine lv_iload_n hx hb dX6_regent_132 rfl (lv_at hl 1 rfl) ?_
  obtain ⟨x122_2, hx122_2, hf⟩ := kbind hf
  refine kr_calli0 hH (kr_runV (as := [.int v4, .int v1]) (rest := [.int x122_1.1]) (pl := 7) V hH kYX6_steps kl_X6_106 (c_X6_steps l _ _ hx122_2 _) rfl rfl ⟨Nat.le_of_ble_eq_true rfl, Nat.le_of_ble_eq_true rfl⟩ (by decide) kE_7 rfl rfl hl.1 (Nat.le_of_ble_eq_true rfl) dX6_regent_133 ⟨Nat.le_refl _, Nat.le_refl _⟩ rfl) (fun H locs hH => ?_)
  refine lv_isub hx hb dX6_regent_136 ?_
  exact w_X6_regent_137 V hk67 hH (lv_sub hl [0, 1, 2, 3] rfl) hf
set_option maxHeartbeats 4000000 in
set_option maxRecDepth 100000 in
theorem w_X6_regent_112 (V : kV p s mm args meth c cX6_regent RX6 7 (some .int) D cI cZ cO) {k : kS} {c67 : Int32 → Int32 → Int32 → kS → Option ((Int32 × kS))} (hk67 : ∀ {v1 : Int32} {v4 : Int32} {v5 : Int32} {mo : kS} {H : Heap} {locs : List Loc} {ls : Array Slot} {out : (Int32 × kS)}, kHE s H locs D ad cI cZ cO k mo [] → lv_has ls 7 [(0, .ref (ad 7)), (1, .int v1), (4, .int v4), (5, .int v5)] → c67 v1 v4 v5 mo = some out → W p l e rm_X6_regent s mm args below meth c H locs 0 0 (kGi below args s D cI cZ cO ad out.1 k out.2 0 0) (F0 mm 67 ls [])) {v1 : Int32} {v4 : Int32} {v5 : Int32} {mo : kS} {H : Heap} {locs : List Loc} {ls : Array Slot} {out : (Int32 × kS)} (hH : kHE s H locs D ad cI cZ cO k mo []) (hl : lv_has ls 7 [(0, .ref (ad 7)), (1, .int v1), (4, .int v4), (5, .int v5)]) (hf : F_X6_regent_112 c67 v1 v4 v5 mo = some out) : W p l e rm_X6_regent s mm args below meth c H locs 0 0 (kGi below args s D cI cZ cO ad out.1 k out.2 0 0) (F0 mm 112 ls []) := by
  have hx := V.1
  have hb := V.2.1
  refine lv_iload hx hb dX6_regent_112 (lv_at hl 2 rfl) ?_
  refine lv_iconst (v := (-1)) hx hb dX6_regent_114 (by decide) ?_
  refine lv_icmp_ne (tgt := 122) hx hb dX6_regent_115 (by decide) (fun hq => ?_) (fun hq => ?_)
  · have hf := kneg hq hf
    exact w_X6_regent_122 V hk67 hH (lv_sub hl [0, 1, 2, 3] rfl) hf
  · have hf := kpos hq hf
    exact w_X6_regent_118 V hk67 hH (lv_sub hl [0, 1, 2, 3] rfl) hf
set_option maxHeartbeats 4000000 in
set_option maxRecDepth 100000 in
theorem w_X6_regent_96 (V : kV p s mm args meth c cX6_regent RX6 7 (some .int) D cI cZ cO) {k : kS} {c67 : Int32 → Int32 → Int32 → kS → Option ((Int32 × kS))} (hk67 : ∀ {v1 : Int32} {v4 : Int32} {v5 : Int32} {mo : kS} {H : Heap} {locs : List Loc} {ls : Array Slot} {out : (Int32 × kS)}, kHE s H locs D ad cI cZ cO k mo [] → lv_has ls 7 [(0, .ref (ad 7)), (1, .int v1), (4, .int v4), (5, .int v5)] → c67 v1 v4 v5 mo = some out → W p l e rm_X6_regent s mm args below meth c H locs 0 0 (kGi below args s D cI cZ cO ad out.1 k out.2 0 0) (F0 mm 67 ls [])) {v1 : Int32} {v4 : Int32} {v5 : Int32} {mo : kS} {H : Heap} {locs : List Loc} {ls : Array Slot} {out : (Int32 × kS)} (hH : kHE s H locs D ad cI cZ cO k mo []) (hl : lv_has ls 7 [(0, .ref (ad 7)), (1, .int v1), (4, .int v4), (5, .int v5)]) (hf : F_X6_regent_96 c67 v1 v4 v5 mo = some out) : W p l e rm_X6_regent s mm args below meth c H locs 0 0 (kGi below args s D cI cZ cO ad out.1 k out.2 0 0) (F0 mm 96 ls []) := by
  have hx := V.1
  have hb := V.2.1
  refine lv_aload_n hx hb dX6_regent_96 rfl (lv_at hl 0 rfl) ?_
  refine lv_iload hx hb dX6_regent_97 (lv_at hl 3 rfl) ?_
  refine lv_iload_n hx hb dX6_regent_99 rfl (lv_at hl 1 rfl) ?_
  obtain ⟨x96_1, hx96_1, hf⟩ := kbind hf
  refine kr_calli0 hH (kr_runV (as := [.int v5, .int v1]) (rest := []) (pl := 7) V hH kYX6_steps kl_X6_106 (c_X6_steps l _ _ hx96_1 _) rfl rfl ⟨Nat.le_of_ble_eq_true rfl, Nat.le_of_ble_eq_true rfl⟩ (by decide) kE_7 rfl rfl hl.1 (Nat.le_of_ble_eq_true rfl) dX6_regent_100 ⟨Nat.le_refl _, Nat.le_refl _⟩ rfl) (fun H locs hH => ?_)
  refine lv_sipush (v := 999) hx hb dX6_regent_103 (by decide) ?_
  refine lv_icmp_ne (tgt := 112) hx hb dX6_regent_106 (by decide) (fun hq => ?_) (fun hq => ?_)
  · have hf := kneg hq hf
    exact w_X6_regent_112 V hk67 hH (lv_sub hl [0, 1, 2, 3] rfl) hf
  · have hf := kpos hq hf
    exact w_X6_regent_109 V hk67 hH (lv_sub hl [0, 1, 2, 3] rfl) hf
set_option maxHeartbeats 4000000 in
set_option maxRecDepth 100000 in
theorem w_X6_regent_85 (V : kV p s mm args meth c cX6_regent RX6 7 (some .int) D cI cZ cO) {k : kS} {c67 : Int32 → Int32 → Int32 → kS → Option ((Int32 × kS))} (hk67 : ∀ {v1 : Int32} {v4 : Int32} {v5 : Int32} {mo : kS} {H : Heap} {locs : List Loc} {ls : Array Slot} {out : (Int32 × kS)}, kHE s H locs D ad cI cZ cO k mo [] → lv_has ls 7 [(0, .ref (ad 7)), (1, .int v1), (4, .int v4), (5, .int v5)] → c67 v1 v4 v5 mo = some out → W p l e rm_X6_regent s mm args below meth c H locs 0 0 (kGi below args s D cI cZ cO ad out.1 k out.2 0 0) (F0 mm 67 ls [])) {v1 : Int32} {v4 : Int32} {v5 : Int32} {mo : kS} {H : Heap} {locs : List Loc} {ls : Array Slot} {out : (Int32 × kS)} (hH : kHE s H locs D ad cI cZ cO k mo []) (hl : lv_has ls 7 [(0, .ref (ad 7)), (1, .int v1), (4, .int v4), (5, .int v5)]) (hf : F_X6_regent_85 c67 v1 v4 v5 mo = some out) : W p l e rm_X6_regent s mm args below meth c H locs 0 0 (kGi below args s D cI cZ cO ad out.1 k out.2 0 0) (F0 mm 85 ls []) := by
  have hx := V.1
  have hb := V.2.1
  refine lv_aload_n hx hb dX6_regent_85 rfl (lv_at hl 0 rfl) ?_
  refine lv_iload hx hb dX6_regent_86 (lv_at hl 3 rfl) ?_
  obtain ⟨x85_1, hx85_1, hf⟩ := kbind hf
  refine kr_calli0 hH (kr_runV (as := [.int v5]) (rest := []) (pl := 7) V hH kYX6_age kl_X6_112 (c_X6_age l _ hx85_1 _) rfl rfl ⟨Nat.le_of_ble_eq_true rfl, Nat.le_of_ble_eq_true rfl⟩ (by decide) kE_7 rfl rfl hl.1 (Nat.le_of_ble_eq_true rfl) dX6_regent_88 ⟨Nat.le_refl _, Nat.le_refl _⟩ rfl) (fun H locs hH => ?_)
  refine lv_bipush (v := 16) hx hb dX6_regent_91 (by decide) ?_
  refine lv_icmp_lt (tgt := 164) hx hb dX6_regent_93 (by decide) (fun hq => ?_) (fun hq => ?_)
  · have hf := kpos hq hf
    exact w_X6_regent_164 V hk67 hH (lv_sub hl [0, 1, 2, 3] rfl) hf
  · have hf := kneg hq hf
    exact w_X6_regent_96 V hk67 hH (lv_sub hl [0, 1, 2, 3] rfl) hf
set_option maxHeartbeats 4000000 in
set_option maxRecDepth 100000 in
theorem w_X6_regent_76 (V : kV p s mm args meth c cX6_regent RX6 7 (some .int) D cI cZ cO) {k : kS} {c67 : Int32 → Int32 → Int32 → kS → Option ((Int32 × kS))} (hk67 : ∀ {v1 : Int32} {v4 : Int32} {v5 : Int32} {mo : kS} {H : Heap} {locs : List Loc} {ls : Array Slot} {out : (Int32 × kS)}, kHE s H locs D ad cI cZ cO k mo [] → lv_has ls 7 [(0, .ref (ad 7)), (1, .int v1), (4, .int v4), (5, .int v5)] → c67 v1 v4 v5 mo = some out → W p l e rm_X6_regent s mm args below meth c H locs 0 0 (kGi below args s D cI cZ cO ad out.1 k out.2 0 0) (F0 mm 67 ls [])) {v1 : Int32} {v4 : Int32} {v5 : Int32} {mo : kS} {H : Heap} {locs : List Loc} {ls : Array Slot} {out : (Int32 × kS)} (hH : kHE s H locs D ad cI cZ cO k mo []) (hl : lv_has ls 7 [(0, .ref (ad 7)), (1, .int v1), (4, .int v4), (5, .int v5)]) (hf : F_X6_regent_76 c67 v1 v4 v5 mo = some out) : W p l e rm_X6_regent s mm args below meth c H locs 0 0 (kGi below args s D cI cZ cO ad out.1 k out.2 0 0) (F0 mm 76 ls []) := by
  have hx := V.1
  have hb := V.2.1
  refine lv_aload_n hx hb dX6_regent_76 rfl (lv_at hl 0 rfl) ?_
  refine lv_iload hx hb dX6_regent_77 (lv_at hl 3 rfl) ?_
  obtain ⟨x76_1, hx76_1, hf⟩ := kbind hf
  refine kr_calli0 hH (kr_runV (as := [.int v5]) (rest := []) (pl := 7) V hH kYX6_lives kl_X6_67 (c_X6_lives l _ hx76_1 _) rfl rfl ⟨Nat.le_of_ble_eq_true rfl, Nat.le_of_ble_eq_true rfl⟩ (by decide) kE_7 rfl rfl hl.1 (Nat.le_of_ble_eq_true rfl) dX6_regent_79 ⟨Nat.le_refl _, Nat.le_refl _⟩ rfl) (fun H locs hH => ?_)
  refine lv_if_eq (tgt := 164) hx hb dX6_regent_82 (by decide) (fun hq => ?_) (fun hq => ?_)
  · have hf := kpos hq hf
    exact w_X6_regent_164 V hk67 hH (lv_sub hl [0, 1, 2, 3] rfl) hf
  · have hf := kneg hq hf
    exact w_X6_regent_85 V hk67 hH (lv_sub hl [0, 1, 2, 3] rfl) hf
set_option maxHeartbeats 4000000 in
set_option maxRecDepth 100000 in
theorem w_X6_regent_170 (V : kV p s mm args meth c cX6_regent RX6 7 (some .int) D cI cZ cO) {k : kS} {v4 : Int32} {mo : kS} {H : Heap} {locs : List Loc} {ls : Array Slot} {out : (Int32 × kS)} (hH : kHE s H locs D ad cI cZ cO k mo []) (hl : lv_has ls 7 [(4, .int v4)]) (hf : F_X6_regent_170 v4 mo = some out) : W p l e rm_X6_regent s mm args below meth c H locs 0 0 (kGi below args s D cI cZ cO ad out.1 k out.2 0 0) (F0 mm 170 ls []) := by
  have hx := V.1
  have hb := V.2.1
  refine lv_iload hx hb dX6_regent_170 (lv_at hl 0 rfl) ?_
  cases hf
  exact kr_iret V hH dX6_regent_172
set_option maxHeartbeats 4000000 in
set_option maxRecDepth 100000 in
theorem w_X6_regent_67 (V : kV p s mm args meth c cX6_regent RX6 7 (some .int) D cI cZ cO) {k : kS} : ∀ (n : Nat) {v1 : Int32} {v4 : Int32} {v5 : Int32} {mo : kS} {H : Heap} {locs : List Loc} {ls : Array Slot} {out : (Int32 × kS)}, kHE s H locs D ad cI cZ cO k mo [] → lv_has ls 7 [(0, .ref (ad 7)), (1, .int v1), (4, .int v4), (5, .int v5)] → F_X6_regent_67 n v1 v4 v5 mo = some out → W p l e rm_X6_regent s mm args below meth c H locs 0 0 (kGi below args s D cI cZ cO ad out.1 k out.2 0 0) (F0 mm 67 ls []) := by
  have hx := V.1
  have hb := V.2.1
  intro n
  induction n with
  | zero => intro _ _ _ _ _ _ _ _ hH hl hf; cases hf
  | succ n hk67 =>
    intro v1 v4 v5 mo H locs ls out hH hl hf
    refine lv_iload hx hb dX6_regent_67 (lv_at hl 3 rfl) ?_
    refine lv_aload_n hx hb dX6_regent_69 rfl (lv_at hl 0 rfl) ?_
    refine kg_X6_35 V hH dX6_regent_70 ?_
    refine lv_icmp_ge (tgt := 170) hx hb dX6_regent_73 (by decide) (fun hq => ?_) (fun hq => ?_)
    · have hf := kpos hq hf
      exact w_X6_regent_170 V hH (lv_sub hl [2] rfl) hf
    · have hf := kneg hq hf
      exact w_X6_regent_76 V hk67 hH (lv_sub hl [0, 1, 2, 3] rfl) hf
set_option maxHeartbeats 4000000 in
set_option maxRecDepth 100000 in
theorem w_X6_regent_61 (V : kV p s mm args meth c cX6_regent RX6 7 (some .int) D cI cZ cO) {k : kS} {v1 : Int32} {mo : kS} {H : Heap} {locs : List Loc} {ls : Array Slot} {out : (Int32 × kS)} (hH : kHE s H locs D ad cI cZ cO k mo []) (hl : lv_has ls 7 [(0, .ref (ad 7)), (1, .int v1)]) (hf : F_X6_regent_61 v1 mo = some out) : W p l e rm_X6_regent s mm args below meth c H locs 0 0 (kGi below args s D cI cZ cO ad out.1 k out.2 0 0) (F0 mm 61 ls []) := by
  have hx := V.1
  have hb := V.2.1
  refine lv_iconst (v := (-1)) hx hb dX6_regent_61 (by decide) ?_
  refine lv_istore (lv' := [(4, .int (-1)), (0, .ref (ad 7)), (1, .int v1)]) hx hb dX6_regent_62 hl (by decide) rfl (fun ls hl => ?_)
  refine lv_iconst (v := 0) hx hb dX6_regent_64 (by decide) ?_
  refine lv_istore (lv' := [(5, .int 0), (4, .int (-1)), (0, .ref (ad 7)), (1, .int v1)]) hx hb dX6_regent_65 hl (by decide) rfl (fun ls hl => ?_)
  exact w_X6_regent_67 V kN hH (lv_sub hl [2, 3, 1, 0] rfl) hf
set_option maxHeartbeats 4000000 in
set_option maxRecDepth 100000 in
theorem w_X6_regent_51 (V : kV p s mm args meth c cX6_regent RX6 7 (some .int) D cI cZ cO) {k : kS} {v1 : Int32} {v3 : Int32} {mo : kS} {H : Heap} {locs : List Loc} {ls : Array Slot} {out : (Int32 × kS)} (hH : kHE s H locs D ad cI cZ cO k mo []) (hl : lv_has ls 7 [(0, .ref (ad 7)), (1, .int v1), (3, .int v3)]) (hf : F_X6_regent_51 v1 v3 mo = some out) : W p l e rm_X6_regent s mm args below meth c H locs 0 0 (kGi below args s D cI cZ cO ad out.1 k out.2 0 0) (F0 mm 51 ls []) := by
  have hx := V.1
  have hb := V.2.1
  refine lv_aload_n hx hb dX6_regent_51 rfl (lv_at hl 0 rfl) ?_
  refine lv_iload_n hx hb dX6_regent_52 rfl (lv_at hl 2 rfl) ?_
  obtain ⟨x51_1, hx51_1, hf⟩ := kbind hf
  refine kr_calli0 hH (kr_runV (as := [.int v3]) (rest := []) (pl := 7) V hH kYX6_lives kl_X6_67 (c_X6_lives l _ hx51_1 _) rfl rfl ⟨Nat.le_of_ble_eq_true rfl, Nat.le_of_ble_eq_true rfl⟩ (by decide) kE_7 rfl rfl hl.1 (Nat.le_of_ble_eq_true rfl) dX6_regent_53 ⟨Nat.le_refl _, Nat.le_refl _⟩ rfl) (fun H locs hH => ?_)
  refine lv_if_eq (tgt := 61) hx hb dX6_regent_56 (by decide) (fun hq => ?_) (fun hq => ?_)
  · have hf := kpos hq hf
    exact w_X6_regent_61 V hH (lv_sub hl [0, 1] rfl) hf
  · have hf := kneg hq hf
    exact w_X6_regent_59 V hH (lv_sub hl [2] rfl) hf
set_option maxHeartbeats 4000000 in
set_option maxRecDepth 100000 in
theorem w_X6_regent_46 (V : kV p s mm args meth c cX6_regent RX6 7 (some .int) D cI cZ cO) {k : kS} {v1 : Int32} {v3 : Int32} {mo : kS} {H : Heap} {locs : List Loc} {ls : Array Slot} {out : (Int32 × kS)} (hH : kHE s H locs D ad cI cZ cO k mo []) (hl : lv_has ls 7 [(0, .ref (ad 7)), (1, .int v1), (3, .int v3)]) (hf : F_X6_regent_46 v1 v3 mo = some out) : W p l e rm_X6_regent s mm args below meth c H locs 0 0 (kGi below args s D cI cZ cO ad out.1 k out.2 0 0) (F0 mm 46 ls []) := by
  have hx := V.1
  have hb := V.2.1
  refine lv_iload_n hx hb dX6_regent_46 rfl (lv_at hl 2 rfl) ?_
  refine lv_iconst (v := (-1)) hx hb dX6_regent_47 (by decide) ?_
  refine lv_icmp_eq (tgt := 61) hx hb dX6_regent_48 (by decide) (fun hq => ?_) (fun hq => ?_)
  · have hf := kpos hq hf
    exact w_X6_regent_61 V hH (lv_sub hl [0, 1] rfl) hf
  · have hf := kneg hq hf
    exact w_X6_regent_51 V hH (lv_sub hl [0, 1, 2] rfl) hf
set_option maxHeartbeats 4000000 in
set_option maxRecDepth 100000 in
theorem w_X6_regent_36 (V : kV p s mm args meth c cX6_regent RX6 7 (some .int) D cI cZ cO) {k : kS} {v1 : Int32} {v2 : Int32} {v3 : Int32} {mo : kS} {H : Heap} {locs : List Loc} {ls : Array Slot} {out : (Int32 × kS)} (hH : kHE s H locs D ad cI cZ cO k mo []) (hl : lv_has ls 7 [(0, .ref (ad 7)), (1, .int v1), (2, .int v2), (3, .int v3)]) (hf : F_X6_regent_36 v1 v2 v3 mo = some out) : W p l e rm_X6_regent s mm args below meth c H locs 0 0 (kGi below args s D cI cZ cO ad out.1 k out.2 0 0) (F0 mm 36 ls []) := by
  have hx := V.1
  have hb := V.2.1
  refine lv_aload_n hx hb dX6_regent_36 rfl (lv_at hl 0 rfl) ?_
  refine lv_iload_n hx hb dX6_regent_37 rfl (lv_at hl 2 rfl) ?_
  obtain ⟨x36_1, hx36_1, hf⟩ := kbind hf
  refine kr_calli0 hH (kr_runV (as := [.int v2]) (rest := []) (pl := 7) V hH kYX6_lives kl_X6_67 (c_X6_lives l _ hx36_1 _) rfl rfl ⟨Nat.le_of_ble_eq_true rfl, Nat.le_of_ble_eq_true rfl⟩ (by decide) kE_7 rfl rfl hl.1 (Nat.le_of_ble_eq_true rfl) dX6_regent_38 ⟨Nat.le_refl _, Nat.le_refl _⟩ rfl) (fun H locs hH => ?_)
  refine lv_if_eq (tgt := 46) hx hb dX6_regent_41 (by decide) (fun hq => ?_) (fun hq => ?_)
  · have hf := kpos hq hf
    exact w_X6_regent_46 V hH (lv_sub hl [0, 1, 3] rfl) hf
  · have hf := kneg hq hf
    exact w_X6_regent_44 V hH (lv_sub hl [2] rfl) hf
set_option maxHeartbeats 4000000 in
set_option maxRecDepth 100000 in
theorem w_X6_regent_17 (V : kV p s mm args meth c cX6_regent RX6 7 (some .int) D cI cZ cO) {k : kS} {v1 : Int32} {mo : kS} {H : Heap} {locs : List Loc} {ls : Array Slot} {out : (Int32 × kS)} (hH : kHE s H locs D ad cI cZ cO k mo []) (hl : lv_has ls 7 [(0, .ref (ad 7)), (1, .int v1)]) (hf : F_X6_regent_17 v1 mo = some out) : W p l e rm_X6_regent s mm args below meth c H locs 0 0 (kGi below args s D cI cZ cO ad out.1 k out.2 0 0) (F0 mm 17 ls []) := by
  have hx := V.1
  have hb := V.2.1
  refine lv_aload_n hx hb dX6_regent_17 rfl (lv_at hl 0 rfl) ?_
  refine lv_iload_n hx hb dX6_regent_18 rfl (lv_at hl 1 rfl) ?_
  refine lv_iconst (v := 3) hx hb dX6_regent_19 (by decide) ?_
  obtain ⟨x17_1, hx17_1, hf⟩ := kbind hf
  refine kr_calli0 hH (kr_runV (as := [.int v1, .int 3]) (rest := []) (pl := 7) V hH kYX6_pe kl_X6_45 (c_X6_pe l _ _ hx17_1 _) rfl rfl ⟨Nat.le_of_ble_eq_true rfl, Nat.le_of_ble_eq_true rfl⟩ (by decide) kE_7 rfl rfl hl.1 (Nat.le_of_ble_eq_true rfl) dX6_regent_20 ⟨Nat.le_refl _, Nat.le_refl _⟩ rfl) (fun H locs hH => ?_)
  refine lv_istore_n (lv' := [(2, .int x17_1), (0, .ref (ad 7)), (1, .int v1)]) hx hb dX6_regent_23 rfl hl (by decide) rfl (fun ls hl => ?_)
  refine lv_aload_n hx hb dX6_regent_24 rfl (lv_at hl 1 rfl) ?_
  refine lv_iload_n hx hb dX6_regent_25 rfl (lv_at hl 2 rfl) ?_
  refine lv_iconst (v := 4) hx hb dX6_regent_26 (by decide) ?_
  obtain ⟨x17_2, hx17_2, hf⟩ := kbind hf
  refine kr_calli0 hH (kr_runV (as := [.int v1, .int 4]) (rest := []) (pl := 7) V hH kYX6_pe kl_X6_45 (c_X6_pe l _ _ hx17_2 _) rfl rfl ⟨Nat.le_of_ble_eq_true rfl, Nat.le_of_ble_eq_true rfl⟩ (by decide) kE_7 rfl rfl hl.1 (Nat.le_of_ble_eq_true rfl) dX6_regent_27 ⟨Nat.le_refl _, Nat.le_refl _⟩ rfl) (fun H locs hH => ?_)
  refine lv_istore_n (lv' := [(3, .int x17_2), (2, .int x17_1), (0, .ref (ad 7)), (1, .int v1)]) hx hb dX6_regent_30 rfl hl (by decide) rfl (fun ls hl => ?_)
  refine lv_iload_n hx hb dX6_regent_31 rfl (lv_at hl 1 rfl) ?_
  refine lv_iconst (v := (-1)) hx hb dX6_regent_32 (by decide) ?_
  refine lv_icmp_eq (tgt := 46) hx hb dX6_regent_33 (by decide) (fun hq => ?_) (fun hq => ?_)
  · have hf := kpos hq hf
    exact w_X6_regent_46 V hH (lv_sub hl [2, 3, 0] rfl) hf
  · have hf := kneg hq hf
    exact w_X6_regent_36 V hH (lv_sub hl [2, 3, 1, 0] rfl) hf
set_option maxHeartbeats 4000000 in
set_option maxRecDepth 100000 in
theorem w_X6_regent_5 (V : kV p s mm args meth c cX6_regent RX6 7 (some .int) D cI cZ cO) {k : kS} {v1 : Int32} {mo : kS} {H : Heap} {locs : List Loc} {ls : Array Slot} {out : (Int32 × kS)} (hH : kHE s H locs D ad cI cZ cO k mo []) (hl : lv_has ls 7 [(0, .ref (ad 7)), (1, .int v1)]) (hf : F_X6_regent_5 v1 mo = some out) : W p l e rm_X6_regent s mm args below meth c H locs 0 0 (kGi below args s D cI cZ cO ad out.1 k out.2 0 0) (F0 mm 5 ls []) := by
  have hx := V.1
  have hb := V.2.1
  refine lv_aload_n hx hb dX6_regent_5 rfl (lv_at hl 0 rfl) ?_
  refine lv_iload_n hx hb dX6_regent_6 rfl (lv_at hl 1 rfl) ?_
  obtain ⟨x5_1, hx5_1, hf⟩ := kbind hf
  refine kr_calli0 hH (kr_runV (as := [.int v1]) (rest := []) (pl := 7) V hH kYX6_age kl_X6_112 (c_X6_age l _ hx5_1 _) rfl rfl ⟨Nat.le_of_ble_eq_true rfl, Nat.le_of_ble_eq_true rfl⟩ (by decide) kE_7 rfl rfl hl.1 (Nat.le_of_ble_eq_true rfl) dX6_regent_7 ⟨Nat.le_refl _, Nat.le_refl _⟩ rfl) (fun H locs hH => ?_)
  refine lv_bipush (v := 16) hx hb dX6_regent_10 (by decide) ?_
  refine lv_icmp_lt (tgt := 17) hx hb dX6_regent_12 (by decide) (fun hq => ?_) (fun hq => ?_)
  · have hf := kpos hq hf
    exact w_X6_regent_17 V hH (lv_sub hl [0, 1] rfl) hf
  · have hf := kneg hq hf
    exact w_X6_regent_15 V hH (lv_sub hl [] rfl) hf
set_option maxHeartbeats 4000000 in
set_option maxRecDepth 100000 in
theorem w_X6_regent_0 (V : kV p s mm args meth c cX6_regent RX6 7 (some .int) D cI cZ cO) {k : kS} {v1 : Int32} {mo : kS} {H : Heap} {locs : List Loc} {ls : Array Slot} {out : (Int32 × kS)} (hH : kHE s H locs D ad cI cZ cO k mo []) (hl : lv_has ls 7 [(0, .ref (ad 7)), (1, .int v1)]) (hf : F_X6_regent_0 v1 mo = some out) : W p l e rm_X6_regent s mm args below meth c H locs 0 0 (kGi below args s D cI cZ cO ad out.1 k out.2 0 0) (F0 mm 0 ls []) := by
  have hx := V.1
  have hb := V.2.1
  refine lv_iload_n hx hb dX6_regent_0 rfl (lv_at hl 1 rfl) ?_
  refine lv_iconst (v := (-1)) hx hb dX6_regent_1 (by decide) ?_
  refine lv_icmp_eq (tgt := 15) hx hb dX6_regent_2 (by decide) (fun hq => ?_) (fun hq => ?_)
  · have hf := kpos hq hf
    exact w_X6_regent_15 V hH (lv_sub hl [] rfl) hf
  · have hf := kneg hq hf
    exact w_X6_regent_5 V hH (lv_sub hl [0, 1] rfl) hf
set_option maxHeartbeats 4000000 in
set_option maxRecDepth 100000 in
theorem c_X6_regent (l : Launch) {D : va_G} {cI cZ cO : ClassId} {ad : Nat → Nat} {k mo : kS} (v1 : Int32) {out : (Int32 × kS)} (hf : F_X6_regent v1 mo = some out) (sz : Nat) : Met l yX6_regent (Cond.code yX6_regent cX6_regent 7 (some .int) :: kWA) rm_X6_regent (kP [.ref (ad 7), .int v1] D cI cZ cO ad (kE ad cI cZ cO k mo) sz) (kQi out.1 D cI cZ cO ad (kE ad cI cZ cO k out.2) sz) 0 0 (fA ad sz) := by
  refine kr_met (as := [.ref (ad 7), .int v1]) (bytes := cX6_regent) (maxL := 7) (rt := (some .int)) (Qc := fun sz => kQi out.1 D cI cZ cO ad (kE ad cI cZ cO k out.2) sz) (lv := [(0, .ref (ad 7)), (1, .int v1)]) (by decide +kernel) (Nat.le_of_ble_eq_true rfl) rfl (fun p e s mm below meth c ls V hH hl => ?_) sz
  exact w_X6_regent_0 V hH (lv_sub hl [0, 1] rfl) hf
end
section
variable {p : Program} {l : Launch} {e : Env} {s : State} {mm : MethodId} {args : Array Value} {below : List Frame} {meth : Method} {c : Code} {D : va_G} {cI cZ cO : ClassId} {ad : Nat → Nat}
abbrev rm_X6_worthOf : Room := { frames := 1, cells := 0, slots := 0, locals := 22 }
set_option maxHeartbeats 4000000 in
set_option maxRecDepth 100000 in
theorem w_X6_worthOf_33 (V : kV p s mm args meth c cX6_worthOf RX6 4 (some .int) D cI cZ cO) {k mo : kS} {c4 : Int32 → Int32 → Int32 → Option (Int32)} (hk4 : ∀ {v1 : Int32} {v2 : Int32} {v3 : Int32} {H : Heap} {locs : List Loc} {ls : Array Slot} {out : Int32}, kHE s H locs D ad cI cZ cO k mo [] → lv_has ls 4 [(0, .ref (ad 7)), (1, .int v1), (2, .int v2), (3, .int v3)] → c4 v1 v2 v3 = some out → W p l e rm_X6_worthOf s mm args below meth c H locs 0 0 (kGi below args s D cI cZ cO ad out k mo 0 0) (F0 mm 4 ls [])) {s0 : Int32} {s1 : Int32} {v1 : Int32} {v3 : Int32} {H : Heap} {locs : List Loc} {ls : Array Slot} {out : Int32} (hH : kHE s H locs D ad cI cZ cO k mo []) (hl : lv_has ls 4 [(0, .ref (ad 7)), (1, .int v1), (3, .int v3)]) (hf : F_X6_worthOf_33 mo c4 s0 s1 v1 v3 = some out) : W p l e rm_X6_worthOf s mm args below meth c H locs 0 0 (kGi below args s D cI cZ cO ad out k mo 0 0) (F0 mm 33 ls [.int s1, .int s0]) := by
  have hx := V.1
  have hb := V.2.1
  refine lv_iadd hx hb dX6_worthOf_33 ?_
  refine lv_istore_n (lv' := [(2, .int (s0 + s1)), (0, .ref (ad 7)), (1, .int v1), (3, .int v3)]) hx hb dX6_worthOf_34 rfl hl (by decide) rfl (fun ls hl => ?_)
  refine lv_iinc (v := (v3 + 1)) (lv' := [(3, .int (v3 + 1)), (2, .int (s0 + s1)), (0, .ref (ad 7)), (1, .int v1)]) hx hb dX6_worthOf_35 hl (k := 3) rfl rfl (by decide) rfl (fun ls hl => ?_)
  refine lv_goto (tgt := 4) hx hb dX6_worthOf_38 (by decide) ?_
  exact hk4 hH (lv_sub hl [2, 3, 1, 0] rfl) hf
set_option maxHeartbeats 4000000 in
set_option maxRecDepth 100000 in
theorem w_X6_worthOf_23 (V : kV p s mm args meth c cX6_worthOf RX6 4 (some .int) D cI cZ cO) {k mo : kS} {c4 : Int32 → Int32 → Int32 → Option (Int32)} (hk4 : ∀ {v1 : Int32} {v2 : Int32} {v3 : Int32} {H : Heap} {locs : List Loc} {ls : Array Slot} {out : Int32}, kHE s H locs D ad cI cZ cO k mo [] → lv_has ls 4 [(0, .ref (ad 7)), (1, .int v1), (2, .int v2), (3, .int v3)] → c4 v1 v2 v3 = some out → W p l e rm_X6_worthOf s mm args below meth c H locs 0 0 (kGi below args s D cI cZ cO ad out k mo 0 0) (F0 mm 4 ls [])) {s0 : Int32} {v1 : Int32} {v3 : Int32} {H : Heap} {locs : List Loc} {ls : Array Slot} {out : Int32} (hH : kHE s H locs D ad cI cZ cO k mo []) (hl : lv_has ls 4 [(0, .ref (ad 7)), (1, .int v1), (3, .int v3)]) (hf : F_X6_worthOf_23 mo c4 s0 v1 v3 = some out) : W p l e rm_X6_worthOf s mm args below meth c H locs 0 0 (kGi below args s D cI cZ cO ad out k mo 0 0) (F0 mm 23 ls [.int s0]) := by
  have hx := V.1
  have hb := V.2.1
  refine lv_aload_n hx hb dX6_worthOf_23 rfl (lv_at hl 0 rfl) ?_
  refine lv_iload_n hx hb dX6_worthOf_24 rfl (lv_at hl 2 rfl) ?_
  refine lv_iconst (v := 0) hx hb dX6_worthOf_25 (by decide) ?_
  obtain ⟨x23_1, hx23_1, hf⟩ := kbind hf
  refine kr_calli0 hH (kr_runV (as := [.int v3, .int 0]) (rest := [.int s0]) (pl := 7) V hH kYX6_la kl_X6_77 (c_X6_la l _ _ hx23_1 _) rfl rfl ⟨Nat.le_of_ble_eq_true rfl, Nat.le_of_ble_eq_true rfl⟩ (by decide) kE_7 rfl rfl hl.1 (Nat.le_of_ble_eq_true rfl) dX6_worthOf_26 ⟨Nat.le_refl _, Nat.le_refl _⟩ rfl) (fun H locs hH => ?_)
  refine lv_goto (tgt := 33) hx hb dX6_worthOf_29 (by decide) ?_
  exact w_X6_worthOf_33 V hk4 hH (lv_sub hl [0, 1, 2] rfl) hf
set_option maxHeartbeats 4000000 in
set_option maxRecDepth 100000 in
theorem w_X6_worthOf_32 (V : kV p s mm args meth c cX6_worthOf RX6 4 (some .int) D cI cZ cO) {k mo : kS} {c4 : Int32 → Int32 → Int32 → Option (Int32)} (hk4 : ∀ {v1 : Int32} {v2 : Int32} {v3 : Int32} {H : Heap} {locs : List Loc} {ls : Array Slot} {out : Int32}, kHE s H locs D ad cI cZ cO k mo [] → lv_has ls 4 [(0, .ref (ad 7)), (1, .int v1), (2, .int v2), (3, .int v3)] → c4 v1 v2 v3 = some out → W p l e rm_X6_worthOf s mm args below meth c H locs 0 0 (kGi below args s D cI cZ cO ad out k mo 0 0) (F0 mm 4 ls [])) {s0 : Int32} {v1 : Int32} {v3 : Int32} {H : Heap} {locs : List Loc} {ls : Array Slot} {out : Int32} (hH : kHE s H locs D ad cI cZ cO k mo []) (hl : lv_has ls 4 [(0, .ref (ad 7)), (1, .int v1), (3, .int v3)]) (hf : F_X6_worthOf_32 mo c4 s0 v1 v3 = some out) : W p l e rm_X6_worthOf s mm args below meth c H locs 0 0 (kGi below args s D cI cZ cO ad out k mo 0 0) (F0 mm 32 ls [.int s0]) := by
  have hx := V.1
  have hb := V.2.1
  refine lv_iconst (v := 0) hx hb dX6_worthOf_32 (by decide) ?_
  exact w_X6_worthOf_33 V hk4 hH (lv_sub hl [0, 1, 2] rfl) hf
set_option maxHeartbeats 4000000 in
set_option maxRecDepth 100000 in
theorem w_X6_worthOf_12 (V : kV p s mm args meth c cX6_worthOf RX6 4 (some .int) D cI cZ cO) {k mo : kS} {c4 : Int32 → Int32 → Int32 → Option (Int32)} (hk4 : ∀ {v1 : Int32} {v2 : Int32} {v3 : Int32} {H : Heap} {locs : List Loc} {ls : Array Slot} {out : Int32}, kHE s H locs D ad cI cZ cO k mo [] → lv_has ls 4 [(0, .ref (ad 7)), (1, .int v1), (2, .int v2), (3, .int v3)] → c4 v1 v2 v3 = some out → W p l e rm_X6_worthOf s mm args below meth c H locs 0 0 (kGi below args s D cI cZ cO ad out k mo 0 0) (F0 mm 4 ls [])) {v1 : Int32} {v2 : Int32} {v3 : Int32} {H : Heap} {locs : List Loc} {ls : Array Slot} {out : Int32} (hH : kHE s H locs D ad cI cZ cO k mo []) (hl : lv_has ls 4 [(0, .ref (ad 7)), (1, .int v1), (2, .int v2), (3, .int v3)]) (hf : F_X6_worthOf_12 mo c4 v1 v2 v3 = some out) : W p l e rm_X6_worthOf s mm args below meth c H locs 0 0 (kGi below args s D cI cZ cO ad out k mo 0 0) (F0 mm 12 ls []) := by
  have hx := V.1
  have hb := V.2.1
  refine lv_iload_n hx hb dX6_worthOf_12 rfl (lv_at hl 2 rfl) ?_
  refine lv_aload_n hx hb dX6_worthOf_13 rfl (lv_at hl 0 rfl) ?_
  refine lv_iload_n hx hb dX6_worthOf_14 rfl (lv_at hl 3 rfl) ?_
  refine lv_iconst (v := 2) hx hb dX6_worthOf_15 (by decide) ?_
  obtain ⟨x12_1, hx12_1, hf⟩ := kbind hf
  refine kr_calli0 hH (kr_runV (as := [.int v3, .int 2]) (rest := [.int v2]) (pl := 7) V hH kYX6_la kl_X6_77 (c_X6_la l _ _ hx12_1 _) rfl rfl ⟨Nat.le_of_ble_eq_true rfl, Nat.le_of_ble_eq_true rfl⟩ (by decide) kE_7 rfl rfl hl.1 (Nat.le_of_ble_eq_true rfl) dX6_worthOf_16 ⟨Nat.le_refl _, Nat.le_refl _⟩ rfl) (fun H locs hH => ?_)
  refine lv_iload_n hx hb dX6_worthOf_19 rfl (lv_at hl 1 rfl) ?_
  refine lv_icmp_ne (tgt := 32) hx hb dX6_worthOf_20 (by decide) (fun hq => ?_) (fun hq => ?_)
  · have hf := kneg hq hf
    exact w_X6_worthOf_32 V hk4 hH (lv_sub hl [0, 1, 3] rfl) hf
  · have hf := kpos hq hf
    exact w_X6_worthOf_23 V hk4 hH (lv_sub hl [0, 1, 3] rfl) hf
set_option maxHeartbeats 4000000 in
set_option maxRecDepth 100000 in
theorem w_X6_worthOf_41 (V : kV p s mm args meth c cX6_worthOf RX6 4 (some .int) D cI cZ cO) {k mo : kS} {v2 : Int32} {H : Heap} {locs : List Loc} {ls : Array Slot} {out : Int32} (hH : kHE s H locs D ad cI cZ cO k mo []) (hl : lv_has ls 4 [(2, .int v2)]) (hf : F_X6_worthOf_41 mo v2 = some out) : W p l e rm_X6_worthOf s mm args below meth c H locs 0 0 (kGi below args s D cI cZ cO ad out k mo 0 0) (F0 mm 41 ls []) := by
  have hx := V.1
  have hb := V.2.1
  refine lv_iload_n hx hb dX6_worthOf_41 rfl (lv_at hl 0 rfl) ?_
  cases hf
  exact kr_iret V hH dX6_worthOf_42
set_option maxHeartbeats 4000000 in
set_option maxRecDepth 100000 in
theorem w_X6_worthOf_4 (V : kV p s mm args meth c cX6_worthOf RX6 4 (some .int) D cI cZ cO) {k mo : kS} : ∀ (n : Nat) {v1 : Int32} {v2 : Int32} {v3 : Int32} {H : Heap} {locs : List Loc} {ls : Array Slot} {out : Int32}, kHE s H locs D ad cI cZ cO k mo [] → lv_has ls 4 [(0, .ref (ad 7)), (1, .int v1), (2, .int v2), (3, .int v3)] → F_X6_worthOf_4 mo n v1 v2 v3 = some out → W p l e rm_X6_worthOf s mm args below meth c H locs 0 0 (kGi below args s D cI cZ cO ad out k mo 0 0) (F0 mm 4 ls []) := by
  have hx := V.1
  have hb := V.2.1
  intro n
  induction n with
  | zero => intro _ _ _ _ _ _ _ hH hl hf; cases hf
  | succ n hk4 =>
    intro v1 v2 v3 H locs ls out hH hl hf
    refine lv_iload_n hx hb dX6_worthOf_4 rfl (lv_at hl 3 rfl) ?_
    refine lv_aload_n hx hb dX6_worthOf_5 rfl (lv_at hl 0 rfl) ?_
    refine kg_X6_42 V hH dX6_worthOf_6 ?_
    refine lv_icmp_ge (tgt := 41) hx hb dX6_worthOf_9 (by decide) (fun hq => ?_) (fun hq => ?_)
    · have hf := kpos hq hf
      exact w_X6_worthOf_41 V hH (lv_sub hl [2] rfl) hf
    · have hf := kneg hq hf
      exact w_X6_worthOf_12 V hk4 hH (lv_sub hl [0, 1, 2, 3] rfl) hf
set_option maxHeartbeats 4000000 in
set_option maxRecDepth 100000 in
theorem w_X6_worthOf_0 (V : kV p s mm args meth c cX6_worthOf RX6 4 (some .int) D cI cZ cO) {k mo : kS} {v1 : Int32} {H : Heap} {locs : List Loc} {ls : Array Slot} {out : Int32} (hH : kHE s H locs D ad cI cZ cO k mo []) (hl : lv_has ls 4 [(0, .ref (ad 7)), (1, .int v1)]) (hf : F_X6_worthOf_0 mo v1 = some out) : W p l e rm_X6_worthOf s mm args below meth c H locs 0 0 (kGi below args s D cI cZ cO ad out k mo 0 0) (F0 mm 0 ls []) := by
  have hx := V.1
  have hb := V.2.1
  refine lv_iconst (v := 0) hx hb dX6_worthOf_0 (by decide) ?_
  refine lv_istore_n (lv' := [(2, .int 0), (0, .ref (ad 7)), (1, .int v1)]) hx hb dX6_worthOf_1 rfl hl (by decide) rfl (fun ls hl => ?_)
  refine lv_iconst (v := 0) hx hb dX6_worthOf_2 (by decide) ?_
  refine lv_istore_n (lv' := [(3, .int 0), (2, .int 0), (0, .ref (ad 7)), (1, .int v1)]) hx hb dX6_worthOf_3 rfl hl (by decide) rfl (fun ls hl => ?_)
  exact w_X6_worthOf_4 V kN hH (lv_sub hl [2, 3, 1, 0] rfl) hf
set_option maxHeartbeats 4000000 in
set_option maxRecDepth 100000 in
theorem c_X6_worthOf (l : Launch) {D : va_G} {cI cZ cO : ClassId} {ad : Nat → Nat} {k mo : kS} (v1 : Int32) {out : Int32} (hf : F_X6_worthOf mo v1 = some out) (sz : Nat) : Met l yX6_worthOf (Cond.code yX6_worthOf cX6_worthOf 4 (some .int) :: kWA) rm_X6_worthOf (kP [.ref (ad 7), .int v1] D cI cZ cO ad (kE ad cI cZ cO k mo) sz) (kQi out D cI cZ cO ad (kE ad cI cZ cO k mo) sz) 0 0 (fA ad sz) := by
  refine kr_met (as := [.ref (ad 7), .int v1]) (bytes := cX6_worthOf) (maxL := 4) (rt := (some .int)) (Qc := fun sz => kQi out D cI cZ cO ad (kE ad cI cZ cO k mo) sz) (lv := [(0, .ref (ad 7)), (1, .int v1)]) (by decide +kernel) (Nat.le_of_ble_eq_true rfl) rfl (fun p e s mm below meth c ls V hH hl => ?_) sz
  exact w_X6_worthOf_0 V hH (lv_sub hl [0, 1] rfl) hf
end
section
variable {p : Program} {l : Launch} {e : Env} {s : State} {mm : MethodId} {args : Array Value} {below : List Frame} {meth : Method} {c : Code} {D : va_G} {cI cZ cO : ClassId} {ad : Nat → Nat}
abbrev rm_X6_isFree : Room := { frames := 2, cells := 0, slots := 0, locals := 43 }
set_option maxHeartbeats 4000000 in
set_option maxRecDepth 100000 in
theorem w_X6_isFree_33 (V : kV p s mm args meth c cX6_isFree RX6 2 (some .boolean) D cI cZ cO) {k mo : kS} {s0 : Int32} {H : Heap} {locs : List Loc} {ls : Array Slot} {out : Int32} (hH : kHE s H locs D ad cI cZ cO k mo []) (hl : lv_has ls 2 []) (hf : F_X6_isFree_33 mo s0 = some out) : W p l e rm_X6_isFree s mm args below meth c H locs 0 0 (kGi below args s D cI cZ cO ad out k mo 0 0) (F0 mm 33 ls [.int s0]) := by
  have hx := V.1
  have hb := V.2.1
  obtain ⟨h33_1, hf⟩ := kif hf
  cases hf
  exact kr_zret V hH (Decidable.not_not.mp h33_1) dX6_isFree_33
set_option maxHeartbeats 4000000 in
set_option maxRecDepth 100000 in
theorem w_X6_isFree_28 (V : kV p s mm args meth c cX6_isFree RX6 2 (some .boolean) D cI cZ cO) {k mo : kS} {H : Heap} {locs : List Loc} {ls : Array Slot} {out : Int32} (hH : kHE s H locs D ad cI cZ cO k mo []) (hl : lv_has ls 2 []) (hf : F_X6_isFree_28 mo = some out) : W p l e rm_X6_isFree s mm args below meth c H locs 0 0 (kGi below args s D cI cZ cO ad out k mo 0 0) (F0 mm 28 ls []) := by
  have hx := V.1
  have hb := V.2.1
  refine lv_iconst (v := 1) hx hb dX6_isFree_28 (by decide) ?_
  refine lv_goto (tgt := 33) hx hb dX6_isFree_29 (by decide) ?_
  exact w_X6_isFree_33 V hH (lv_sub hl [] rfl) hf
set_option maxHeartbeats 4000000 in
set_option maxRecDepth 100000 in
theorem w_X6_isFree_32 (V : kV p s mm args meth c cX6_isFree RX6 2 (some .boolean) D cI cZ cO) {k mo : kS} {H : Heap} {locs : List Loc} {ls : Array Slot} {out : Int32} (hH : kHE s H locs D ad cI cZ cO k mo []) (hl : lv_has ls 2 []) (hf : F_X6_isFree_32 mo = some out) : W p l e rm_X6_isFree s mm args below meth c H locs 0 0 (kGi below args s D cI cZ cO ad out k mo 0 0) (F0 mm 32 ls []) := by
  have hx := V.1
  have hb := V.2.1
  refine lv_iconst (v := 0) hx hb dX6_isFree_32 (by decide) ?_
  exact w_X6_isFree_33 V hH (lv_sub hl [] rfl) hf
set_option maxHeartbeats 4000000 in
set_option maxRecDepth 100000 in
theorem w_X6_isFree_18 (V : kV p s mm args meth c cX6_isFree RX6 2 (some .boolean) D cI cZ cO) {k mo : kS} {v1 : Int32} {H : Heap} {locs : List Loc} {ls : Array Slot} {out : Int32} (hH : kHE s H locs D ad cI cZ cO k mo []) (hl : lv_has ls 2 [(0, .ref (ad 7)), (1, .int v1)]) (hf : F_X6_isFree_18 mo v1 = some out) : W p l e rm_X6_isFree s mm args below meth c H locs 0 0 (kGi below args s D cI cZ cO ad out k mo 0 0) (F0 mm 18 ls []) := by
  have hx := V.1
  have hb := V.2.1
  refine lv_aload_n hx hb dX6_isFree_18 rfl (lv_at hl 0 rfl) ?_
  refine lv_iload_n hx hb dX6_isFree_19 rfl (lv_at hl 1 rfl) ?_
  refine lv_iconst (v := 5) hx hb dX6_isFree_20 (by decide) ?_
  obtain ⟨x18_1, hx18_1, hf⟩ := kbind hf
  refine kr_calli0 hH (kr_runV (as := [.int v1, .int 5]) (rest := []) (pl := 7) V hH kYX6_pe kl_X6_45 (c_X6_pe l _ _ hx18_1 _) rfl rfl ⟨Nat.le_of_ble_eq_true rfl, Nat.le_of_ble_eq_true rfl⟩ (by decide) kE_7 rfl rfl hl.1 (Nat.le_of_ble_eq_true rfl) dX6_isFree_21 ⟨Nat.le_refl _, Nat.le_refl _⟩ rfl) (fun H locs hH => ?_)
  refine lv_iconst (v := (-1)) hx hb dX6_isFree_24 (by decide) ?_
  refine lv_icmp_ne (tgt := 32) hx hb dX6_isFree_25 (by decide) (fun hq => ?_) (fun hq => ?_)
  · have hf := kneg hq hf
    exact w_X6_isFree_32 V hH (lv_sub hl [] rfl) hf
  · have hf := kpos hq hf
    exact w_X6_isFree_28 V hH (lv_sub hl [] rfl) hf
set_option maxHeartbeats 4000000 in
set_option maxRecDepth 100000 in
theorem w_X6_isFree_8 (V : kV p s mm args meth c cX6_isFree RX6 2 (some .boolean) D cI cZ cO) {k mo : kS} {v1 : Int32} {H : Heap} {locs : List Loc} {ls : Array Slot} {out : Int32} (hH : kHE s H locs D ad cI cZ cO k mo []) (hl : lv_has ls 2 [(0, .ref (ad 7)), (1, .int v1)]) (hf : F_X6_isFree_8 mo v1 = some out) : W p l e rm_X6_isFree s mm args below meth c H locs 0 0 (kGi below args s D cI cZ cO ad out k mo 0 0) (F0 mm 8 ls []) := by
  have hx := V.1
  have hb := V.2.1
  refine lv_aload_n hx hb dX6_isFree_8 rfl (lv_at hl 0 rfl) ?_
  refine lv_iload_n hx hb dX6_isFree_9 rfl (lv_at hl 1 rfl) ?_
  obtain ⟨x8_1, hx8_1, hf⟩ := kbind hf
  refine kr_calli0 hH (kr_runV (as := [.int v1]) (rest := []) (pl := 7) V hH kYX6_age kl_X6_112 (c_X6_age l _ hx8_1 _) rfl rfl ⟨Nat.le_of_ble_eq_true rfl, Nat.le_of_ble_eq_true rfl⟩ (by decide) kE_7 rfl rfl hl.1 (Nat.le_of_ble_eq_true rfl) dX6_isFree_10 ⟨Nat.le_refl _, Nat.le_refl _⟩ rfl) (fun H locs hH => ?_)
  refine lv_bipush (v := 16) hx hb dX6_isFree_13 (by decide) ?_
  refine lv_icmp_lt (tgt := 32) hx hb dX6_isFree_15 (by decide) (fun hq => ?_) (fun hq => ?_)
  · have hf := kpos hq hf
    exact w_X6_isFree_32 V hH (lv_sub hl [] rfl) hf
  · have hf := kneg hq hf
    exact w_X6_isFree_18 V hH (lv_sub hl [0, 1] rfl) hf
set_option maxHeartbeats 4000000 in
set_option maxRecDepth 100000 in
theorem w_X6_isFree_0 (V : kV p s mm args meth c cX6_isFree RX6 2 (some .boolean) D cI cZ cO) {k mo : kS} {v1 : Int32} {H : Heap} {locs : List Loc} {ls : Array Slot} {out : Int32} (hH : kHE s H locs D ad cI cZ cO k mo []) (hl : lv_has ls 2 [(0, .ref (ad 7)), (1, .int v1)]) (hf : F_X6_isFree_0 mo v1 = some out) : W p l e rm_X6_isFree s mm args below meth c H locs 0 0 (kGi below args s D cI cZ cO ad out k mo 0 0) (F0 mm 0 ls []) := by
  have hx := V.1
  have hb := V.2.1
  refine lv_aload_n hx hb dX6_isFree_0 rfl (lv_at hl 0 rfl) ?_
  refine lv_iload_n hx hb dX6_isFree_1 rfl (lv_at hl 1 rfl) ?_
  obtain ⟨x0_1, hx0_1, hf⟩ := kbind hf
  refine kr_calli0 hH (kr_runV (as := [.int v1]) (rest := []) (pl := 7) V hH kYX6_lives kl_X6_67 (c_X6_lives l _ hx0_1 _) rfl rfl ⟨Nat.le_of_ble_eq_true rfl, Nat.le_of_ble_eq_true rfl⟩ (by decide) kE_7 rfl rfl hl.1 (Nat.le_of_ble_eq_true rfl) dX6_isFree_2 ⟨Nat.le_refl _, Nat.le_refl _⟩ rfl) (fun H locs hH => ?_)
  refine lv_if_eq (tgt := 32) hx hb dX6_isFree_5 (by decide) (fun hq => ?_) (fun hq => ?_)
  · have hf := kpos hq hf
    exact w_X6_isFree_32 V hH (lv_sub hl [] rfl) hf
  · have hf := kneg hq hf
    exact w_X6_isFree_8 V hH (lv_sub hl [0, 1] rfl) hf
set_option maxHeartbeats 4000000 in
set_option maxRecDepth 100000 in
theorem c_X6_isFree (l : Launch) {D : va_G} {cI cZ cO : ClassId} {ad : Nat → Nat} {k mo : kS} (v1 : Int32) {out : Int32} (hf : F_X6_isFree mo v1 = some out) (sz : Nat) : Met l yX6_isFree (Cond.code yX6_isFree cX6_isFree 2 (some .boolean) :: kWA) rm_X6_isFree (kP [.ref (ad 7), .int v1] D cI cZ cO ad (kE ad cI cZ cO k mo) sz) (kQi out D cI cZ cO ad (kE ad cI cZ cO k mo) sz) 0 0 (fA ad sz) := by
  refine kr_met (as := [.ref (ad 7), .int v1]) (bytes := cX6_isFree) (maxL := 2) (rt := (some .boolean)) (Qc := fun sz => kQi out D cI cZ cO ad (kE ad cI cZ cO k mo) sz) (lv := [(0, .ref (ad 7)), (1, .int v1)]) (by decide +kernel) (Nat.le_of_ble_eq_true rfl) rfl (fun p e s mm below meth c ls V hH hl => ?_) sz
  exact w_X6_isFree_0 V hH (lv_sub hl [0, 1] rfl) hf
end
section
variable {p : Program} {l : Launch} {e : Env} {s : State} {mm : MethodId} {args : Array Value} {below : List Frame} {meth : Method} {c : Code} {D : va_G} {cI cZ cO : ClassId} {ad : Nat → Nat}
abbrev rm_X6_canMarry : Room := { frames := 3, cells := 0, slots := 0, locals := 87 }
set_option maxHeartbeats 4000000 in
set_option maxRecDepth 100000 in
theorem w_X6_canMarry_46 (V : kV p s mm args meth c cX6_canMarry RX6 3 (some .boolean) D cI cZ cO) {k : kS} {s0 : Int32} {mo : kS} {H : Heap} {locs : List Loc} {ls : Array Slot} {out : (Int32 × kS)} (hH : kHE s H locs D ad cI cZ cO k mo []) (hl : lv_has ls 3 []) (hf : F_X6_canMarry_46 s0 mo = some out) : W p l e rm_X6_canMarry s mm args below meth c H locs 0 0 (kGi below args s D cI cZ cO ad out.1 k out.2 0 0) (F0 mm 46 ls [.int s0]) := by
  have hx := V.1
  have hb := V.2.1
  obtain ⟨h46_1, hf⟩ := kif hf
  cases hf
  exact kr_zret V hH (Decidable.not_not.mp h46_1) dX6_canMarry_46
set_option maxHeartbeats 4000000 in
set_option maxRecDepth 100000 in
theorem w_X6_canMarry_41 (V : kV p s mm args meth c cX6_canMarry RX6 3 (some .boolean) D cI cZ cO) {k : kS} {mo : kS} {H : Heap} {locs : List Loc} {ls : Array Slot} {out : (Int32 × kS)} (hH : kHE s H locs D ad cI cZ cO k mo []) (hl : lv_has ls 3 []) (hf : F_X6_canMarry_41 mo = some out) : W p l e rm_X6_canMarry s mm args below meth c H locs 0 0 (kGi below args s D cI cZ cO ad out.1 k out.2 0 0) (F0 mm 41 ls []) := by
  have hx := V.1
  have hb := V.2.1
  refine lv_iconst (v := 1) hx hb dX6_canMarry_41 (by decide) ?_
  refine lv_goto (tgt := 46) hx hb dX6_canMarry_42 (by decide) ?_
  exact w_X6_canMarry_46 V hH (lv_sub hl [] rfl) hf
set_option maxHeartbeats 4000000 in
set_option maxRecDepth 100000 in
theorem w_X6_canMarry_45 (V : kV p s mm args meth c cX6_canMarry RX6 3 (some .boolean) D cI cZ cO) {k : kS} {mo : kS} {H : Heap} {locs : List Loc} {ls : Array Slot} {out : (Int32 × kS)} (hH : kHE s H locs D ad cI cZ cO k mo []) (hl : lv_has ls 3 []) (hf : F_X6_canMarry_45 mo = some out) : W p l e rm_X6_canMarry s mm args below meth c H locs 0 0 (kGi below args s D cI cZ cO ad out.1 k out.2 0 0) (F0 mm 45 ls []) := by
  have hx := V.1
  have hb := V.2.1
  refine lv_iconst (v := 0) hx hb dX6_canMarry_45 (by decide) ?_
  exact w_X6_canMarry_46 V hH (lv_sub hl [] rfl) hf
set_option maxHeartbeats 4000000 in
set_option maxRecDepth 100000 in
theorem w_X6_canMarry_31 (V : kV p s mm args meth c cX6_canMarry RX6 3 (some .boolean) D cI cZ cO) {k : kS} {v1 : Int32} {v2 : Int32} {mo : kS} {H : Heap} {locs : List Loc} {ls : Array Slot} {out : (Int32 × kS)} (hH : kHE s H locs D ad cI cZ cO k mo []) (hl : lv_has ls 3 [(0, .ref (ad 7)), (1, .int v1), (2, .int v2)]) (hf : F_X6_canMarry_31 v1 v2 mo = some out) : W p l e rm_X6_canMarry s mm args below meth c H locs 0 0 (kGi below args s D cI cZ cO ad out.1 k out.2 0 0) (F0 mm 31 ls []) := by
  have hx := V.1
  have hb := V.2.1
  refine lv_aload_n hx hb dX6_canMarry_31 rfl (lv_at hl 0 rfl) ?_
  refine lv_iload_n hx hb dX6_canMarry_32 rfl (lv_at hl 1 rfl) ?_
  refine lv_iload_n hx hb dX6_canMarry_33 rfl (lv_at hl 2 rfl) ?_
  obtain ⟨x31_1, hx31_1, hf⟩ := kbind hf
  refine kr_calli0 hH (kr_runV (as := [.int v1, .int v2]) (rest := []) (pl := 7) V hH kYX6_steps kl_X6_106 (c_X6_steps l _ _ hx31_1 _) rfl rfl ⟨Nat.le_of_ble_eq_true rfl, Nat.le_of_ble_eq_true rfl⟩ (by decide) kE_7 rfl rfl hl.1 (Nat.le_of_ble_eq_true rfl) dX6_canMarry_34 ⟨Nat.le_refl _, Nat.le_refl _⟩ rfl) (fun H locs hH => ?_)
  refine lv_iconst (v := 3) hx hb dX6_canMarry_37 (by decide) ?_
  refine lv_icmp_lt (tgt := 45) hx hb dX6_canMarry_38 (by decide) (fun hq => ?_) (fun hq => ?_)
  · have hf := kpos hq hf
    exact w_X6_canMarry_45 V hH (lv_sub hl [] rfl) hf
  · have hf := kneg hq hf
    exact w_X6_canMarry_41 V hH (lv_sub hl [] rfl) hf
set_option maxHeartbeats 4000000 in
set_option maxRecDepth 100000 in
theorem w_X6_canMarry_16 (V : kV p s mm args meth c cX6_canMarry RX6 3 (some .boolean) D cI cZ cO) {k : kS} {v1 : Int32} {v2 : Int32} {mo : kS} {H : Heap} {locs : List Loc} {ls : Array Slot} {out : (Int32 × kS)} (hH : kHE s H locs D ad cI cZ cO k mo []) (hl : lv_has ls 3 [(0, .ref (ad 7)), (1, .int v1), (2, .int v2)]) (hf : F_X6_canMarry_16 v1 v2 mo = some out) : W p l e rm_X6_canMarry s mm args below meth c H locs 0 0 (kGi below args s D cI cZ cO ad out.1 k out.2 0 0) (F0 mm 16 ls []) := by
  have hx := V.1
  have hb := V.2.1
  refine lv_aload_n hx hb dX6_canMarry_16 rfl (lv_at hl 0 rfl) ?_
  refine lv_iload_n hx hb dX6_canMarry_17 rfl (lv_at hl 1 rfl) ?_
  refine lv_iconst (v := 0) hx hb dX6_canMarry_18 (by decide) ?_
  obtain ⟨x16_1, hx16_1, hf⟩ := kbind hf
  refine kr_calli0 hH (kr_runV (as := [.int v1, .int 0]) (rest := []) (pl := 7) V hH kYX6_pe kl_X6_45 (c_X6_pe l _ _ hx16_1 _) rfl rfl ⟨Nat.le_of_ble_eq_true rfl, Nat.le_of_ble_eq_true rfl⟩ (by decide) kE_7 rfl rfl hl.1 (Nat.le_of_ble_eq_true rfl) dX6_canMarry_19 ⟨Nat.le_refl _, Nat.le_refl _⟩ rfl) (fun H locs hH => ?_)
  refine lv_aload_n hx hb dX6_canMarry_22 rfl (lv_at hl 0 rfl) ?_
  refine lv_iload_n hx hb dX6_canMarry_23 rfl (lv_at hl 2 rfl) ?_
  refine lv_iconst (v := 0) hx hb dX6_canMarry_24 (by decide) ?_
  obtain ⟨x16_2, hx16_2, hf⟩ := kbind hf
  refine kr_calli0 hH (kr_runV (as := [.int v2, .int 0]) (rest := [.int x16_1]) (pl := 7) V hH kYX6_pe kl_X6_45 (c_X6_pe l _ _ hx16_2 _) rfl rfl ⟨Nat.le_of_ble_eq_true rfl, Nat.le_of_ble_eq_true rfl⟩ (by decide) kE_7 rfl rfl hl.1 (Nat.le_of_ble_eq_true rfl) dX6_canMarry_25 ⟨Nat.le_refl _, Nat.le_refl _⟩ rfl) (fun H locs hH => ?_)
  refine lv_icmp_eq (tgt := 45) hx hb dX6_canMarry_28 (by decide) (fun hq => ?_) (fun hq => ?_)
  · have hf := kpos hq hf
    exact w_X6_canMarry_45 V hH (lv_sub hl [] rfl) hf
  · have hf := kneg hq hf
    exact w_X6_canMarry_31 V hH (lv_sub hl [0, 1, 2] rfl) hf
set_option maxHeartbeats 4000000 in
set_option maxRecDepth 100000 in
theorem w_X6_canMarry_8 (V : kV p s mm args meth c cX6_canMarry RX6 3 (some .boolean) D cI cZ cO) {k : kS} {v1 : Int32} {v2 : Int32} {mo : kS} {H : Heap} {locs : List Loc} {ls : Array Slot} {out : (Int32 × kS)} (hH : kHE s H locs D ad cI cZ cO k mo []) (hl : lv_has ls 3 [(0, .ref (ad 7)), (1, .int v1), (2, .int v2)]) (hf : F_X6_canMarry_8 v1 v2 mo = some out) : W p l e rm_X6_canMarry s mm args below meth c H locs 0 0 (kGi below args s D cI cZ cO ad out.1 k out.2 0 0) (F0 mm 8 ls []) := by
  have hx := V.1
  have hb := V.2.1
  refine lv_aload_n hx hb dX6_canMarry_8 rfl (lv_at hl 0 rfl) ?_
  refine lv_iload_n hx hb dX6_canMarry_9 rfl (lv_at hl 2 rfl) ?_
  obtain ⟨x8_1, hx8_1, hf⟩ := kbind hf
  refine kr_calli0 hH (kr_runV (as := [.int v2]) (rest := []) (pl := 7) V hH kYX6_isFree kl_X6_115 (c_X6_isFree l _ hx8_1 _) rfl rfl ⟨Nat.le_of_ble_eq_true rfl, Nat.le_of_ble_eq_true rfl⟩ (by decide) kE_7 rfl rfl hl.1 (Nat.le_of_ble_eq_true rfl) dX6_canMarry_10 ⟨Nat.le_refl _, Nat.le_refl _⟩ rfl) (fun H locs hH => ?_)
  refine lv_if_eq (tgt := 45) hx hb dX6_canMarry_13 (by decide) (fun hq => ?_) (fun hq => ?_)
  · have hf := kpos hq hf
    exact w_X6_canMarry_45 V hH (lv_sub hl [] rfl) hf
  · have hf := kneg hq hf
    exact w_X6_canMarry_16 V hH (lv_sub hl [0, 1, 2] rfl) hf
set_option maxHeartbeats 4000000 in
set_option maxRecDepth 100000 in
theorem w_X6_canMarry_0 (V : kV p s mm args meth c cX6_canMarry RX6 3 (some .boolean) D cI cZ cO) {k : kS} {v1 : Int32} {v2 : Int32} {mo : kS} {H : Heap} {locs : List Loc} {ls : Array Slot} {out : (Int32 × kS)} (hH : kHE s H locs D ad cI cZ cO k mo []) (hl : lv_has ls 3 [(0, .ref (ad 7)), (1, .int v1), (2, .int v2)]) (hf : F_X6_canMarry_0 v1 v2 mo = some out) : W p l e rm_X6_canMarry s mm args below meth c H locs 0 0 (kGi below args s D cI cZ cO ad out.1 k out.2 0 0) (F0 mm 0 ls []) := by
  have hx := V.1
  have hb := V.2.1
  refine lv_aload_n hx hb dX6_canMarry_0 rfl (lv_at hl 0 rfl) ?_
  refine lv_iload_n hx hb dX6_canMarry_1 rfl (lv_at hl 1 rfl) ?_
  obtain ⟨x0_1, hx0_1, hf⟩ := kbind hf
  refine kr_calli0 hH (kr_runV (as := [.int v1]) (rest := []) (pl := 7) V hH kYX6_isFree kl_X6_115 (c_X6_isFree l _ hx0_1 _) rfl rfl ⟨Nat.le_of_ble_eq_true rfl, Nat.le_of_ble_eq_true rfl⟩ (by decide) kE_7 rfl rfl hl.1 (Nat.le_of_ble_eq_true rfl) dX6_canMarry_2 ⟨Nat.le_refl _, Nat.le_refl _⟩ rfl) (fun H locs hH => ?_)
  refine lv_if_eq (tgt := 45) hx hb dX6_canMarry_5 (by decide) (fun hq => ?_) (fun hq => ?_)
  · have hf := kpos hq hf
    exact w_X6_canMarry_45 V hH (lv_sub hl [] rfl) hf
  · have hf := kneg hq hf
    exact w_X6_canMarry_8 V hH (lv_sub hl [0, 1, 2] rfl) hf
set_option maxHeartbeats 4000000 in
set_option maxRecDepth 100000 in
theorem c_X6_canMarry (l : Launch) {D : va_G} {cI cZ cO : ClassId} {ad : Nat → Nat} {k mo : kS} (v1 : Int32) (v2 : Int32) {out : (Int32 × kS)} (hf : F_X6_canMarry v1 v2 mo = some out) (sz : Nat) : Met l yX6_canMarry (Cond.code yX6_canMarry cX6_canMarry 3 (some .boolean) :: kWA) rm_X6_canMarry (kP [.ref (ad 7), .int v1, .int v2] D cI cZ cO ad (kE ad cI cZ cO k mo) sz) (kQi out.1 D cI cZ cO ad (kE ad cI cZ cO k out.2) sz) 0 0 (fA ad sz) := by
  refine kr_met (as := [.ref (ad 7), .int v1, .int v2]) (bytes := cX6_canMarry) (maxL := 3) (rt := (some .boolean)) (Qc := fun sz => kQi out.1 D cI cZ cO ad (kE ad cI cZ cO k out.2) sz) (lv := [(0, .ref (ad 7)), (1, .int v1), (2, .int v2)]) (by decide +kernel) (Nat.le_of_ble_eq_true rfl) rfl (fun p e s mm below meth c ls V hH hl => ?_) sz
  exact w_X6_canMarry_0 V hH (lv_sub hl [0, 1, 2] rfl) hf
end
section
variable {p : Program} {l : Launch} {e : Env} {s : State} {mm : MethodId} {args : Array Value} {below : List Frame} {meth : Method} {c : Code} {D : va_G} {cI cZ cO : ClassId} {ad : Nat → Nat}
abbrev rm_X6_marry : Room := { frames := 4, cells := 0, slots := 0, locals := 109 }
set_option maxHeartbeats 4000000 in
set_option maxRecDepth 100000 in
theorem w_X6_marry_34 (V : kV p s mm args meth c cX6_marry RX6 5 (some .int) D cI cZ cO) {k : kS} {mo : kS} {H : Heap} {locs : List Loc} {ls : Array Slot} {out : (Int32 × kS)} (hH : kHE s H locs D ad cI cZ cO k mo []) (hl : lv_has ls 5 [(0, .ref (ad 7))]) (hf : F_X6_marry_34 mo = some out) : W p l e rm_X6_marry s mm args below meth c H locs 0 0 (kGi below args s D cI cZ cO ad out.1 k out.2 0 0) (F0 mm 34 ls []) := by
  have hx := V.1
  have hb := V.2.1
  refine lv_aload_n hx hb dX6_marry_34 rfl (lv_at hl 0 rfl) ?_
  refine lv_iconst (v := 1) hx hb dX6_marry_35 (by decide) ?_
  obtain ⟨x34_1, hx34_1, hf⟩ := kbind hf
  refine kr_calli0 hH (kr_runV (as := [.int 1]) (rest := []) (pl := 7) V hH kYX6_fail kl_X6_55 (c_X6_fail l _ hx34_1 _) rfl rfl ⟨Nat.le_of_ble_eq_true rfl, Nat.le_of_ble_eq_true rfl⟩ (by decide) kE_7 rfl rfl hl.1 (Nat.le_of_ble_eq_true rfl) dX6_marry_36 ⟨Nat.le_refl _, Nat.le_refl _⟩ rfl) (fun H locs hH => ?_)
  cases hf
  exact kr_iret V hH dX6_marry_39
set_option maxHeartbeats 4000000 in
set_option maxRecDepth 100000 in
theorem w_X6_marry_74 (V : kV p s mm args meth c cX6_marry RX6 5 (some .int) D cI cZ cO) {k : kS} {mo : kS} {H : Heap} {locs : List Loc} {ls : Array Slot} {out : (Int32 × kS)} (hH : kHE s H locs D ad cI cZ cO k mo []) (hl : lv_has ls 5 [(0, .ref (ad 7))]) (hf : F_X6_marry_74 mo = some out) : W p l e rm_X6_marry s mm args below meth c H locs 0 0 (kGi below args s D cI cZ cO ad out.1 k out.2 0 0) (F0 mm 74 ls []) := by
  have hx := V.1
  have hb := V.2.1
  refine lv_aload_n hx hb dX6_marry_74 rfl (lv_at hl 0 rfl) ?_
  refine lv_iconst (v := 2) hx hb dX6_marry_75 (by decide) ?_
  obtain ⟨x74_1, hx74_1, hf⟩ := kbind hf
  refine kr_calli0 hH (kr_runV (as := [.int 2]) (rest := []) (pl := 7) V hH kYX6_fail kl_X6_55 (c_X6_fail l _ hx74_1 _) rfl rfl ⟨Nat.le_of_ble_eq_true rfl, Nat.le_of_ble_eq_true rfl⟩ (by decide) kE_7 rfl rfl hl.1 (Nat.le_of_ble_eq_true rfl) dX6_marry_76 ⟨Nat.le_refl _, Nat.le_refl _⟩ rfl) (fun H locs hH => ?_)
  cases hf
  exact kr_iret V hH dX6_marry_79
set_option maxHeartbeats 4000000 in
set_option maxRecDepth 100000 in
theorem w_X6_marry_161 (V : kV p s mm args meth c cX6_marry RX6 5 (some .int) D cI cZ cO) {k : kS} {v1 : Int32} {v2 : Int32} {mo : kS} {H : Heap} {locs : List Loc} {ls : Array Slot} {out : (Int32 × kS)} (hH : kHE s H locs D ad cI cZ cO k mo []) (hl : lv_has ls 5 [(0, .ref (ad 7)), (1, .int v1), (2, .int v2)]) (hf : F_X6_marry_161 v1 v2 mo = some out) : W p l e rm_X6_marry s mm args below meth c H locs 0 0 (kGi below args s D cI cZ cO ad out.1 k out.2 0 0) (F0 mm 161 ls []) := by
  have hx := V.1
  have hb := V.2.1
  refine lv_aload_n hx hb dX6_marry_161 rfl (lv_at hl 0 rfl) ?_
  refine lv_iload_n hx hb dX6_marry_162 rfl (lv_at hl 1 rfl) ?_
  obtain ⟨x161_1, hx161_1, hf⟩ := kbind hf
  refine kr_calli0 hH (kr_runV (as := [.int v1]) (rest := []) (pl := 7) V hH kYX6_worthOf kl_X6_125 (c_X6_worthOf l _ hx161_1 _) rfl rfl ⟨Nat.le_of_ble_eq_true rfl, Nat.le_of_ble_eq_true rfl⟩ (by decide) kE_7 rfl rfl hl.1 (Nat.le_of_ble_eq_true rfl) dX6_marry_163 ⟨Nat.le_refl _, Nat.le_refl _⟩ rfl) (fun H locs hH => ?_)
  refine lv_aload_n hx hb dX6_marry_166 rfl (lv_at hl 0 rfl) ?_
  refine lv_iload_n hx hb dX6_marry_167 rfl (lv_at hl 2 rfl) ?_
  obtain ⟨x161_2, hx161_2, hf⟩ := kbind hf
  refine kr_calli0 hH (kr_runV (as := [.int v2]) (rest := [.int x161_1]) (pl := 7) V hH kYX6_worthOf kl_X6_125 (c_X6_worthOf l _ hx161_2 _) rfl rfl ⟨Nat.le_of_ble_eq_true rfl, Nat.le_of_ble_eq_true rfl⟩ (by decide) kE_7 rfl rfl hl.1 (Nat.le_of_ble_eq_true rfl) dX6_marry_168 ⟨Nat.le_refl _, Nat.le_refl _⟩ rfl) (fun H locs hH => ?_)
  refine lv_iadd hx hb dX6_marry_171 ?_
  cases hf
  exact kr_iret V hH dX6_marry_172
set_option maxHeartbeats 4000000 in
set_option maxRecDepth 100000 in
theorem w_X6_marry_150 (V : kV p s mm args meth c cX6_marry RX6 5 (some .int) D cI cZ cO) {k : kS} {v1 : Int32} {v2 : Int32} {v3 : Int32} {v4 : Int32} {mo : kS} {H : Heap} {locs : List Loc} {ls : Array Slot} {out : (Int32 × kS)} (hH : kHE s H locs D ad cI cZ cO k mo []) (hl : lv_has ls 5 [(0, .ref (ad 7)), (1, .int v1), (2, .int v2), (3, .int v3), (4, .int v4)]) (hf : F_X6_marry_150 v1 v2 v3 v4 mo = some out) : W p l e rm_X6_marry s mm args below meth c H locs 0 0 (kGi below args s D cI cZ cO ad out.1 k out.2 0 0) (F0 mm 150 ls []) := by
  have hx := V.1
  have hb := V.2.1
  refine lv_aload_n hx hb dX6_marry_150 rfl (lv_at hl 0 rfl) ?_
  refine lv_iload_n hx hb dX6_marry_151 rfl (lv_at hl 3 rfl) ?_
  refine lv_iload_n hx hb dX6_marry_152 rfl (lv_at hl 1 rfl) ?_
  refine lv_iload_n hx hb dX6_marry_153 rfl (lv_at hl 2 rfl) ?_
  refine lv_iadd hx hb dX6_marry_154 ?_
  refine lv_iload hx hb dX6_marry_155 (lv_at hl 4 rfl) ?_
  refine lv_isub hx hb dX6_marry_157 ?_
  obtain ⟨x150_1, hx150_1, hf⟩ := kbind hf
  refine kr_callv0 hH (kr_runV (as := [.int v3, .int ((v1 + v2) - v4)]) (rest := []) (pl := 7) V hH kYX6_rule kl_X6_70 (c_X6_rule l _ _ hx150_1 _) rfl rfl ⟨Nat.le_of_ble_eq_true rfl, Nat.le_of_ble_eq_true rfl⟩ (by decide) kE_7 rfl rfl hl.1 (Nat.le_of_ble_eq_true rfl) dX6_marry_158 ⟨Nat.le_refl _, Nat.le_refl _⟩ rfl) (fun H locs hH => ?_)
  exact w_X6_marry_161 V hH (lv_sub hl [0, 1, 2] rfl) hf
set_option maxHeartbeats 4000000 in
set_option maxRecDepth 100000 in
theorem w_X6_marry_109 (V : kV p s mm args meth c cX6_marry RX6 5 (some .int) D cI cZ cO) {k : kS} {s0 : Int32} {v1 : Int32} {v2 : Int32} {v3 : Int32} {mo : kS} {H : Heap} {locs : List Loc} {ls : Array Slot} {out : (Int32 × kS)} (hH : kHE s H locs D ad cI cZ cO k mo []) (hl : lv_has ls 5 [(0, .ref (ad 7)), (1, .int v1), (2, .int v2), (3, .int v3)]) (hf : F_X6_marry_109 s0 v1 v2 v3 mo = some out) : W p l e rm_X6_marry s mm args below meth c H locs 0 0 (kGi below args s D cI cZ cO ad out.1 k out.2 0 0) (F0 mm 109 ls [.int s0]) := by
  have hx := V.1
  have hb := V.2.1
  refine lv_istore (lv' := [(4, .int s0), (0, .ref (ad 7)), (1, .int v1), (2, .int v2), (3, .int v3)]) hx hb dX6_marry_109 hl (by decide) rfl (fun ls hl => ?_)
  refine lv_aload_n hx hb dX6_marry_111 rfl (lv_at hl 1 rfl) ?_
  refine lv_iload_n hx hb dX6_marry_112 rfl (lv_at hl 2 rfl) ?_
  refine lv_bipush (v := 7) hx hb dX6_marry_113 (by decide) ?_
  refine lv_iload_n hx hb dX6_marry_115 rfl (lv_at hl 4 rfl) ?_
  obtain ⟨x109_1, hx109_1, hf⟩ := kbind hf
  refine kr_callv0 hH (kr_runV (as := [.int v1, .int 7, .int v3]) (rest := []) (pl := 7) V hH kYX6_set kl_X6_121 (c_X6_set l _ _ _ hx109_1 _) rfl rfl ⟨Nat.le_of_ble_eq_true rfl, Nat.le_of_ble_eq_true rfl⟩ (by decide) kE_7 rfl rfl hl.1 (Nat.le_of_ble_eq_true rfl) dX6_marry_116 ⟨Nat.le_refl _, Nat.le_refl _⟩ rfl) (fun H locs hH => ?_)
  refine lv_aload_n hx hb dX6_marry_119 rfl (lv_at hl 1 rfl) ?_
  refine lv_iload_n hx hb dX6_marry_120 rfl (lv_at hl 3 rfl) ?_
  refine lv_bipush (v := 7) hx hb dX6_marry_121 (by decide) ?_
  refine lv_iload_n hx hb dX6_marry_123 rfl (lv_at hl 4 rfl) ?_
  obtain ⟨x109_2, hx109_2, hf⟩ := kbind hf
  refine kr_callv0 hH (kr_runV (as := [.int v2, .int 7, .int v3]) (rest := []) (pl := 7) V hH kYX6_set kl_X6_121 (c_X6_set l _ _ _ hx109_2 _) rfl rfl ⟨Nat.le_of_ble_eq_true rfl, Nat.le_of_ble_eq_true rfl⟩ (by decide) kE_7 rfl rfl hl.1 (Nat.le_of_ble_eq_true rfl) dX6_marry_124 ⟨Nat.le_refl _, Nat.le_refl _⟩ rfl) (fun H locs hH => ?_)
  refine lv_aload_n hx hb dX6_marry_127 rfl (lv_at hl 1 rfl) ?_
  refine lv_iload_n hx hb dX6_marry_128 rfl (lv_at hl 2 rfl) ?_
  refine lv_bipush (v := 8) hx hb dX6_marry_129 (by decide) ?_
  refine lv_iload hx hb dX6_marry_131 (lv_at hl 0 rfl) ?_
  obtain ⟨x109_3, hx109_3, hf⟩ := kbind hf
  refine kr_callv0 hH (kr_runV (as := [.int v1, .int 8, .int s0]) (rest := []) (pl := 7) V hH kYX6_set kl_X6_121 (c_X6_set l _ _ _ hx109_3 _) rfl rfl ⟨Nat.le_of_ble_eq_true rfl, Nat.le_of_ble_eq_true rfl⟩ (by decide) kE_7 rfl rfl hl.1 (Nat.le_of_ble_eq_true rfl) dX6_marry_133 ⟨Nat.le_refl _, Nat.le_refl _⟩ rfl) (fun H locs hH => ?_)
  refine lv_aload_n hx hb dX6_marry_136 rfl (lv_at hl 1 rfl) ?_
  refine lv_iload_n hx hb dX6_marry_137 rfl (lv_at hl 3 rfl) ?_
  refine lv_bipush (v := 8) hx hb dX6_marry_138 (by decide) ?_
  refine lv_iload hx hb dX6_marry_140 (lv_at hl 0 rfl) ?_
  obtain ⟨x109_4, hx109_4, hf⟩ := kbind hf
  refine kr_callv0 hH (kr_runV (as := [.int v2, .int 8, .int s0]) (rest := []) (pl := 7) V hH kYX6_set kl_X6_121 (c_X6_set l _ _ _ hx109_4 _) rfl rfl ⟨Nat.le_of_ble_eq_true rfl, Nat.le_of_ble_eq_true rfl⟩ (by decide) kE_7 rfl rfl hl.1 (Nat.le_of_ble_eq_true rfl) dX6_marry_142 ⟨Nat.le_refl _, Nat.le_refl _⟩ rfl) (fun H locs hH => ?_)
  refine lv_iload_n hx hb dX6_marry_145 rfl (lv_at hl 4 rfl) ?_
  refine lv_iconst (v := (-1)) hx hb dX6_marry_146 (by decide) ?_
  refine lv_icmp_eq (tgt := 161) hx hb dX6_marry_147 (by decide) (fun hq => ?_) (fun hq => ?_)
  · have hf := kpos hq hf
    exact w_X6_marry_161 V hH (lv_sub hl [1, 2, 3] rfl) hf
  · have hf := kneg hq hf
    exact w_X6_marry_150 V hH (lv_sub hl [1, 2, 3, 4, 0] rfl) hf
set_option maxHeartbeats 4000000 in
set_option maxRecDepth 100000 in
theorem w_X6_marry_99 (V : kV p s mm args meth c cX6_marry RX6 5 (some .int) D cI cZ cO) {k : kS} {v1 : Int32} {v2 : Int32} {v3 : Int32} {mo : kS} {H : Heap} {locs : List Loc} {ls : Array Slot} {out : (Int32 × kS)} (hH : kHE s H locs D ad cI cZ cO k mo []) (hl : lv_has ls 5 [(0, .ref (ad 7)), (1, .int v1), (2, .int v2), (3, .int v3)]) (hf : F_X6_marry_99 v1 v2 v3 mo = some out) : W p l e rm_X6_marry s mm args below meth c H locs 0 0 (kGi below args s D cI cZ cO ad out.1 k out.2 0 0) (F0 mm 99 ls []) := by
  have hx := V.1
  have hb := V.2.1
  refine lv_iconst (v := (-1)) hx hb dX6_marry_99 (by decide) ?_
  refine lv_goto (tgt := 109) hx hb dX6_marry_100 (by decide) ?_
  exact w_X6_marry_109 V hH (lv_sub hl [0, 1, 2, 3] rfl) hf
set_option maxHeartbeats 4000000 in
set_option maxRecDepth 100000 in
theorem w_X6_marry_103 (V : kV p s mm args meth c cX6_marry RX6 5 (some .int) D cI cZ cO) {k : kS} {v1 : Int32} {v2 : Int32} {v3 : Int32} {mo : kS} {H : Heap} {locs : List Loc} {ls : Array Slot} {out : (Int32 × kS)} (hH : kHE s H locs D ad cI cZ cO k mo []) (hl : lv_has ls 5 [(0, .ref (ad 7)), (1, .int v1), (2, .int v2), (3, .int v3)]) (hf : F_X6_marry_103 v1 v2 v3 mo = some out) : W p l e rm_X6_marry s mm args below meth c H locs 0 0 (kGi below args s D cI cZ cO ad out.1 k out.2 0 0) (F0 mm 103 ls []) := by
  have hx := V.1
  have hb := V.2.1
  refine lv_aload_n hx hb dX6_marry_103 rfl (lv_at hl 0 rfl) ?_
  refine lv_iload_n hx hb dX6_marry_104 rfl (lv_at hl 3 rfl) ?_
  refine lv_iconst (v := 2) hx hb dX6_marry_105 (by decide) ?_
  obtain ⟨x103_1, hx103_1, hf⟩ := kbind hf
  refine kr_calli0 hH (kr_runV (as := [.int v3, .int 2]) (rest := []) (pl := 7) V hH kYX6_la kl_X6_77 (c_X6_la l _ _ hx103_1 _) rfl rfl ⟨Nat.le_of_ble_eq_true rfl, Nat.le_of_ble_eq_true rfl⟩ (by decide) kE_7 rfl rfl hl.1 (Nat.le_of_ble_eq_true rfl) dX6_marry_106 ⟨Nat.le_refl _, Nat.le_refl _⟩ rfl) (fun H locs hH => ?_)
  exact w_X6_marry_109 V hH (lv_sub hl [0, 1, 2, 3] rfl) hf
set_option maxHeartbeats 4000000 in
set_option maxRecDepth 100000 in
theorem w_X6_marry_80 (V : kV p s mm args meth c cX6_marry RX6 5 (some .int) D cI cZ cO) {k : kS} {v1 : Int32} {v2 : Int32} {v3 : Int32} {mo : kS} {H : Heap} {locs : List Loc} {ls : Array Slot} {out : (Int32 × kS)} (hH : kHE s H locs D ad cI cZ cO k mo []) (hl : lv_has ls 5 [(0, .ref (ad 7)), (1, .int v1), (2, .int v2), (3, .int v3)]) (hf : F_X6_marry_80 v1 v2 v3 mo = some out) : W p l e rm_X6_marry s mm args below meth c H locs 0 0 (kGi below args s D cI cZ cO ad out.1 k out.2 0 0) (F0 mm 80 ls []) := by
  have hx := V.1
  have hb := V.2.1
  refine lv_aload_n hx hb dX6_marry_80 rfl (lv_at hl 0 rfl) ?_
  refine lv_iload_n hx hb dX6_marry_81 rfl (lv_at hl 1 rfl) ?_
  refine lv_iconst (v := 5) hx hb dX6_marry_82 (by decide) ?_
  refine lv_iload_n hx hb dX6_marry_83 rfl (lv_at hl 2 rfl) ?_
  obtain ⟨x80_1, hx80_1, hf⟩ := kbind hf
  refine kr_callv0 hH (kr_runV (as := [.int v1, .int 5, .int v2]) (rest := []) (pl := 7) V hH kYX6_set kl_X6_121 (c_X6_set l _ _ _ hx80_1 _) rfl rfl ⟨Nat.le_of_ble_eq_true rfl, Nat.le_of_ble_eq_true rfl⟩ (by decide) kE_7 rfl rfl hl.1 (Nat.le_of_ble_eq_true rfl) dX6_marry_84 ⟨Nat.le_refl _, Nat.le_refl _⟩ rfl) (fun H locs hH => ?_)
  refine lv_aload_n hx hb dX6_marry_87 rfl (lv_at hl 0 rfl) ?_
  refine lv_iload_n hx hb dX6_marry_88 rfl (lv_at hl 2 rfl) ?_
  refine lv_iconst (v := 5) hx hb dX6_marry_89 (by decide) ?_
  refine lv_iload_n hx hb dX6_marry_90 rfl (lv_at hl 1 rfl) ?_
  obtain ⟨x80_2, hx80_2, hf⟩ := kbind hf
  refine kr_callv0 hH (kr_runV (as := [.int v2, .int 5, .int v1]) (rest := []) (pl := 7) V hH kYX6_set kl_X6_121 (c_X6_set l _ _ _ hx80_2 _) rfl rfl ⟨Nat.le_of_ble_eq_true rfl, Nat.le_of_ble_eq_true rfl⟩ (by decide) kE_7 rfl rfl hl.1 (Nat.le_of_ble_eq_true rfl) dX6_marry_91 ⟨Nat.le_refl _, Nat.le_refl _⟩ rfl) (fun H locs hH => ?_)
  refine lv_iload_n hx hb dX6_marry_94 rfl (lv_at hl 3 rfl) ?_
  refine lv_iconst (v := (-1)) hx hb dX6_marry_95 (by decide) ?_
  refine lv_icmp_ne (tgt := 103) hx hb dX6_marry_96 (by decide) (fun hq => ?_) (fun hq => ?_)
  · have hf := kneg hq hf
    exact w_X6_marry_103 V hH (lv_sub hl [0, 1, 2, 3] rfl) hf
  · have hf := kpos hq hf
    exact w_X6_marry_99 V hH (lv_sub hl [0, 1, 2, 3] rfl) hf
set_option maxHeartbeats 4000000 in
set_option maxRecDepth 100000 in
theorem w_X6_marry_64 (V : kV p s mm args meth c cX6_marry RX6 5 (some .int) D cI cZ cO) {k : kS} {v1 : Int32} {v2 : Int32} {v3 : Int32} {mo : kS} {H : Heap} {locs : List Loc} {ls : Array Slot} {out : (Int32 × kS)} (hH : kHE s H locs D ad cI cZ cO k mo []) (hl : lv_has ls 5 [(0, .ref (ad 7)), (1, .int v1), (2, .int v2), (3, .int v3)]) (hf : F_X6_marry_64 v1 v2 v3 mo = some out) : W p l e rm_X6_marry s mm args below meth c H locs 0 0 (kGi below args s D cI cZ cO ad out.1 k out.2 0 0) (F0 mm 64 ls []) := by
  have hx := V.1
  have hb := V.2.1
  refine lv_aload_n hx hb dX6_marry_64 rfl (lv_at hl 0 rfl) ?_
  refine lv_iload_n hx hb dX6_marry_65 rfl (lv_at hl 3 rfl) ?_
  refine lv_iconst (v := 2) hx hb dX6_marry_66 (by decide) ?_
  obtain ⟨x64_1, hx64_1, hf⟩ := kbind hf
  refine kr_calli0 hH (kr_runV (as := [.int v3, .int 2]) (rest := []) (pl := 7) V hH kYX6_la kl_X6_77 (c_X6_la l _ _ hx64_1 _) rfl rfl ⟨Nat.le_of_ble_eq_true rfl, Nat.le_of_ble_eq_true rfl⟩ (by decide) kE_7 rfl rfl hl.1 (Nat.le_of_ble_eq_true rfl) dX6_marry_67 ⟨Nat.le_refl _, Nat.le_refl _⟩ rfl) (fun H locs hH => ?_)
  refine lv_iload_n hx hb dX6_marry_70 rfl (lv_at hl 2 rfl) ?_
  refine lv_icmp_eq (tgt := 80) hx hb dX6_marry_71 (by decide) (fun hq => ?_) (fun hq => ?_)
  · have hf := kpos hq hf
    exact w_X6_marry_80 V hH (lv_sub hl [0, 1, 2, 3] rfl) hf
  · have hf := kneg hq hf
    exact w_X6_marry_74 V hH (lv_sub hl [0] rfl) hf
set_option maxHeartbeats 4000000 in
set_option maxRecDepth 100000 in
theorem w_X6_marry_54 (V : kV p s mm args meth c cX6_marry RX6 5 (some .int) D cI cZ cO) {k : kS} {v1 : Int32} {v2 : Int32} {v3 : Int32} {mo : kS} {H : Heap} {locs : List Loc} {ls : Array Slot} {out : (Int32 × kS)} (hH : kHE s H locs D ad cI cZ cO k mo []) (hl : lv_has ls 5 [(0, .ref (ad 7)), (1, .int v1), (2, .int v2), (3, .int v3)]) (hf : F_X6_marry_54 v1 v2 v3 mo = some out) : W p l e rm_X6_marry s mm args below meth c H locs 0 0 (kGi below args s D cI cZ cO ad out.1 k out.2 0 0) (F0 mm 54 ls []) := by
  have hx := V.1
  have hb := V.2.1
  refine lv_aload_n hx hb dX6_marry_54 rfl (lv_at hl 0 rfl) ?_
  refine lv_iload_n hx hb dX6_marry_55 rfl (lv_at hl 3 rfl) ?_
  refine lv_iconst (v := 2) hx hb dX6_marry_56 (by decide) ?_
  obtain ⟨x54_1, hx54_1, hf⟩ := kbind hf
  refine kr_calli0 hH (kr_runV (as := [.int v3, .int 2]) (rest := []) (pl := 7) V hH kYX6_la kl_X6_77 (c_X6_la l _ _ hx54_1 _) rfl rfl ⟨Nat.le_of_ble_eq_true rfl, Nat.le_of_ble_eq_true rfl⟩ (by decide) kE_7 rfl rfl hl.1 (Nat.le_of_ble_eq_true rfl) dX6_marry_57 ⟨Nat.le_refl _, Nat.le_refl _⟩ rfl) (fun H locs hH => ?_)
  refine lv_iload_n hx hb dX6_marry_60 rfl (lv_at hl 1 rfl) ?_
  refine lv_icmp_eq (tgt := 80) hx hb dX6_marry_61 (by decide) (fun hq => ?_) (fun hq => ?_)
  · have hf := kpos hq hf
    exact w_X6_marry_80 V hH (lv_sub hl [0, 1, 2, 3] rfl) hf
  · have hf := kneg hq hf
    exact w_X6_marry_64 V hH (lv_sub hl [0, 1, 2, 3] rfl) hf
set_option maxHeartbeats 4000000 in
set_option maxRecDepth 100000 in
theorem w_X6_marry_49 (V : kV p s mm args meth c cX6_marry RX6 5 (some .int) D cI cZ cO) {k : kS} {v1 : Int32} {v2 : Int32} {v3 : Int32} {mo : kS} {H : Heap} {locs : List Loc} {ls : Array Slot} {out : (Int32 × kS)} (hH : kHE s H locs D ad cI cZ cO k mo []) (hl : lv_has ls 5 [(0, .ref (ad 7)), (1, .int v1), (2, .int v2), (3, .int v3)]) (hf : F_X6_marry_49 v1 v2 v3 mo = some out) : W p l e rm_X6_marry s mm args below meth c H locs 0 0 (kGi below args s D cI cZ cO ad out.1 k out.2 0 0) (F0 mm 49 ls []) := by
  have hx := V.1
  have hb := V.2.1
  refine lv_iload_n hx hb dX6_marry_49 rfl (lv_at hl 3 rfl) ?_
  refine lv_iconst (v := (-1)) hx hb dX6_marry_50 (by decide) ?_
  refine lv_icmp_eq (tgt := 80) hx hb dX6_marry_51 (by decide) (fun hq => ?_) (fun hq => ?_)
  · have hf := kpos hq hf
    exact w_X6_marry_80 V hH (lv_sub hl [0, 1, 2, 3] rfl) hf
  · have hf := kneg hq hf
    exact w_X6_marry_54 V hH (lv_sub hl [0, 1, 2, 3] rfl) hf
set_option maxHeartbeats 4000000 in
set_option maxRecDepth 100000 in
theorem w_X6_marry_40 (V : kV p s mm args meth c cX6_marry RX6 5 (some .int) D cI cZ cO) {k : kS} {v1 : Int32} {v2 : Int32} {v3 : Int32} {mo : kS} {H : Heap} {locs : List Loc} {ls : Array Slot} {out : (Int32 × kS)} (hH : kHE s H locs D ad cI cZ cO k mo []) (hl : lv_has ls 5 [(0, .ref (ad 7)), (1, .int v1), (2, .int v2), (3, .int v3)]) (hf : F_X6_marry_40 v1 v2 v3 mo = some out) : W p l e rm_X6_marry s mm args below meth c H locs 0 0 (kGi below args s D cI cZ cO ad out.1 k out.2 0 0) (F0 mm 40 ls []) := by
  have hx := V.1
  have hb := V.2.1
  refine lv_aload_n hx hb dX6_marry_40 rfl (lv_at hl 0 rfl) ?_
  refine lv_iload_n hx hb dX6_marry_41 rfl (lv_at hl 1 rfl) ?_
  refine lv_iload_n hx hb dX6_marry_42 rfl (lv_at hl 2 rfl) ?_
  obtain ⟨x40_1, hx40_1, hf⟩ := kbind hf
  refine kr_calli0 hH (kr_runV (as := [.int v1, .int v2]) (rest := []) (pl := 7) V hH kYX6_canMarry kl_X6_118 (c_X6_canMarry l _ _ hx40_1 _) rfl rfl ⟨Nat.le_of_ble_eq_true rfl, Nat.le_of_ble_eq_true rfl⟩ (by decide) kE_7 rfl rfl hl.1 (Nat.le_of_ble_eq_true rfl) dX6_marry_43 ⟨Nat.le_refl _, Nat.le_refl _⟩ rfl) (fun H locs hH => ?_)
  refine lv_if_eq (tgt := 74) hx hb dX6_marry_46 (by decide) (fun hq => ?_) (fun hq => ?_)
  · have hf := kpos hq hf
    exact w_X6_marry_74 V hH (lv_sub hl [0] rfl) hf
  · have hf := kneg hq hf
    exact w_X6_marry_49 V hH (lv_sub hl [0, 1, 2, 3] rfl) hf
set_option maxHeartbeats 4000000 in
set_option maxRecDepth 100000 in
theorem w_X6_marry_26 (V : kV p s mm args meth c cX6_marry RX6 5 (some .int) D cI cZ cO) {k : kS} {v1 : Int32} {v2 : Int32} {v3 : Int32} {mo : kS} {H : Heap} {locs : List Loc} {ls : Array Slot} {out : (Int32 × kS)} (hH : kHE s H locs D ad cI cZ cO k mo []) (hl : lv_has ls 5 [(0, .ref (ad 7)), (1, .int v1), (2, .int v2), (3, .int v3)]) (hf : F_X6_marry_26 v1 v2 v3 mo = some out) : W p l e rm_X6_marry s mm args below meth c H locs 0 0 (kGi below args s D cI cZ cO ad out.1 k out.2 0 0) (F0 mm 26 ls []) := by
  have hx := V.1
  have hb := V.2.1
  refine lv_aload_n hx hb dX6_marry_26 rfl (lv_at hl 0 rfl) ?_
  refine lv_iload_n hx hb dX6_marry_27 rfl (lv_at hl 3 rfl) ?_
  obtain ⟨x26_1, hx26_1, hf⟩ := kbind hf
  refine kr_calli0 hH (kr_runV (as := [.int v3]) (rest := []) (pl := 7) V hH kYX6_isLand kl_X6_74 (c_X6_isLand l _ hx26_1 _) rfl rfl ⟨Nat.le_of_ble_eq_true rfl, Nat.le_of_ble_eq_true rfl⟩ (by decide) kE_7 rfl rfl hl.1 (Nat.le_of_ble_eq_true rfl) dX6_marry_28 ⟨Nat.le_refl _, Nat.le_refl _⟩ rfl) (fun H locs hH => ?_)
  refine lv_if_ne (tgt := 40) hx hb dX6_marry_31 (by decide) (fun hq => ?_) (fun hq => ?_)
  · have hf := kneg hq hf
    exact w_X6_marry_40 V hH (lv_sub hl [0, 1, 2, 3] rfl) hf
  · have hf := kpos hq hf
    exact w_X6_marry_34 V hH (lv_sub hl [0] rfl) hf
set_option maxHeartbeats 4000000 in
set_option maxRecDepth 100000 in
theorem w_X6_marry_21 (V : kV p s mm args meth c cX6_marry RX6 5 (some .int) D cI cZ cO) {k : kS} {v1 : Int32} {v2 : Int32} {v3 : Int32} {mo : kS} {H : Heap} {locs : List Loc} {ls : Array Slot} {out : (Int32 × kS)} (hH : kHE s H locs D ad cI cZ cO k mo []) (hl : lv_has ls 5 [(0, .ref (ad 7)), (1, .int v1), (2, .int v2), (3, .int v3)]) (hf : F_X6_marry_21 v1 v2 v3 mo = some out) : W p l e rm_X6_marry s mm args below meth c H locs 0 0 (kGi below args s D cI cZ cO ad out.1 k out.2 0 0) (F0 mm 21 ls []) := by
  have hx := V.1
  have hb := V.2.1
  refine lv_iload_n hx hb dX6_marry_21 rfl (lv_at hl 3 rfl) ?_
  refine lv_iconst (v := (-1)) hx hb dX6_marry_22 (by decide) ?_
  refine lv_icmp_eq (tgt := 40) hx hb dX6_marry_23 (by decide) (fun hq => ?_) (fun hq => ?_)
  · have hf := kpos hq hf
    exact w_X6_marry_40 V hH (lv_sub hl [0, 1, 2, 3] rfl) hf
  · have hf := kneg hq hf
    exact w_X6_marry_26 V hH (lv_sub hl [0, 1, 2, 3] rfl) hf
set_option maxHeartbeats 4000000 in
set_option maxRecDepth 100000 in
theorem w_X6_marry_13 (V : kV p s mm args meth c cX6_marry RX6 5 (some .int) D cI cZ cO) {k : kS} {v1 : Int32} {v2 : Int32} {v3 : Int32} {mo : kS} {H : Heap} {locs : List Loc} {ls : Array Slot} {out : (Int32 × kS)} (hH : kHE s H locs D ad cI cZ cO k mo []) (hl : lv_has ls 5 [(0, .ref (ad 7)), (1, .int v1), (2, .int v2), (3, .int v3)]) (hf : F_X6_marry_13 v1 v2 v3 mo = some out) : W p l e rm_X6_marry s mm args below meth c H locs 0 0 (kGi below args s D cI cZ cO ad out.1 k out.2 0 0) (F0 mm 13 ls []) := by
  have hx := V.1
  have hb := V.2.1
  refine lv_aload_n hx hb dX6_marry_13 rfl (lv_at hl 0 rfl) ?_
  refine lv_iload_n hx hb dX6_marry_14 rfl (lv_at hl 2 rfl) ?_
  obtain ⟨x13_1, hx13_1, hf⟩ := kbind hf
  refine kr_calli0 hH (kr_runV (as := [.int v2]) (rest := []) (pl := 7) V hH kYX6_isPerson kl_X6_63 (c_X6_isPerson l _ hx13_1 _) rfl rfl ⟨Nat.le_of_ble_eq_true rfl, Nat.le_of_ble_eq_true rfl⟩ (by decide) kE_7 rfl rfl hl.1 (Nat.le_of_ble_eq_true rfl) dX6_marry_15 ⟨Nat.le_refl _, Nat.le_refl _⟩ rfl) (fun H locs hH => ?_)
  refine lv_if_eq (tgt := 34) hx hb dX6_marry_18 (by decide) (fun hq => ?_) (fun hq => ?_)
  · have hf := kpos hq hf
    exact w_X6_marry_34 V hH (lv_sub hl [0] rfl) hf
  · have hf := kneg hq hf
    exact w_X6_marry_21 V hH (lv_sub hl [0, 1, 2, 3] rfl) hf
set_option maxHeartbeats 4000000 in
set_option maxRecDepth 100000 in
theorem w_X6_marry_0 (V : kV p s mm args meth c cX6_marry RX6 5 (some .int) D cI cZ cO) {k : kS} {v1 : Int32} {v2 : Int32} {v3 : Int32} {mo : kS} {H : Heap} {locs : List Loc} {ls : Array Slot} {out : (Int32 × kS)} (hH : kHE s H locs D ad cI cZ cO k mo []) (hl : lv_has ls 5 [(0, .ref (ad 7)), (1, .int v1), (2, .int v2), (3, .int v3)]) (hf : F_X6_marry_0 v1 v2 v3 mo = some out) : W p l e rm_X6_marry s mm args below meth c H locs 0 0 (kGi below args s D cI cZ cO ad out.1 k out.2 0 0) (F0 mm 0 ls []) := by
  have hx := V.1
  have hb := V.2.1
  refine lv_aload_n hx hb dX6_marry_0 rfl (lv_at hl 0 rfl) ?_
  refine lv_iconst (v := 0) hx hb dX6_marry_1 (by decide) ?_
  refine kp_X6_31 V hH dX6_marry_2 (fun H locs hH => ?_)
  refine lv_aload_n hx hb dX6_marry_5 rfl (lv_at hl 0 rfl) ?_
  refine lv_iload_n hx hb dX6_marry_6 rfl (lv_at hl 1 rfl) ?_
  obtain ⟨x0_1, hx0_1, hf⟩ := kbind hf
  refine kr_calli0 hH (kr_runV (as := [.int v1]) (rest := []) (pl := 7) V hH kYX6_isPerson kl_X6_63 (c_X6_isPerson l _ hx0_1 _) rfl rfl ⟨Nat.le_of_ble_eq_true rfl, Nat.le_of_ble_eq_true rfl⟩ (by decide) kE_7 rfl rfl hl.1 (Nat.le_of_ble_eq_true rfl) dX6_marry_7 ⟨Nat.le_refl _, Nat.le_refl _⟩ rfl) (fun H locs hH => ?_)
  refine lv_if_eq (tgt := 34) hx hb dX6_marry_10 (by decide) (fun hq => ?_) (fun hq => ?_)
  · have hf := kpos hq hf
    exact w_X6_marry_34 V hH (lv_sub hl [0] rfl) hf
  · have hf := kneg hq hf
    exact w_X6_marry_13 V hH (lv_sub hl [0, 1, 2, 3] rfl) hf
set_option maxHeartbeats 4000000 in
set_option maxRecDepth 100000 in
theorem c_X6_marry (l : Launch) {D : va_G} {cI cZ cO : ClassId} {ad : Nat → Nat} {k mo : kS} (v1 : Int32) (v2 : Int32) (v3 : Int32) {out : (Int32 × kS)} (hf : F_X6_marry v1 v2 v3 mo = some out) (sz : Nat) : Met l yX6_marry (Cond.code yX6_marry cX6_marry 5 (some .int) :: kWA) rm_X6_marry (kP [.ref (ad 7), .int v1, .int v2, .int v3] D cI cZ cO ad (kE ad cI cZ cO k mo) sz) (kQi out.1 D cI cZ cO ad (kE ad cI cZ cO k out.2) sz) 0 0 (fA ad sz) := by
  refine kr_met (as := [.ref (ad 7), .int v1, .int v2, .int v3]) (bytes := cX6_marry) (maxL := 5) (rt := (some .int)) (Qc := fun sz => kQi out.1 D cI cZ cO ad (kE ad cI cZ cO k out.2) sz) (lv := [(0, .ref (ad 7)), (1, .int v1), (2, .int v2), (3, .int v3)]) (by decide +kernel) (Nat.le_of_ble_eq_true rfl) rfl (fun p e s mm below meth c ls V hH hl => ?_) sz
  exact w_X6_marry_0 V hH (lv_sub hl [0, 1, 2, 3] rfl) hf
end
section
variable {p : Program} {l : Launch} {e : Env} {s : State} {mm : MethodId} {args : Array Value} {below : List Frame} {meth : Method} {c : Code} {D : va_G} {cI cZ cO : ClassId} {ad : Nat → Nat}
abbrev rm_X6_personTold : Room := { frames := 2, cells := 0, slots := 0, locals := 45 }
set_option maxHeartbeats 4000000 in
set_option maxRecDepth 100000 in
theorem w_X6_personTold_56 (V : kV p s mm args meth c cX6_personTold RX6 5 (some .int) D cI cZ cO) {k mo : kS} {v1 : Int32} {H : Heap} {locs : List Loc} {ls : Array Slot} {out : Int32} (hH : kHE s H locs D ad cI cZ cO k mo []) (hl : lv_has ls 5 [(0, .ref (ad 7)), (1, .int v1)]) (hf : F_X6_personTold_56 mo v1 = some out) : W p l e rm_X6_personTold s mm args below meth c H locs 0 0 (kGi below args s D cI cZ cO ad out k mo 0 0) (F0 mm 56 ls []) := by
  have hx := V.1
  have hb := V.2.1
  refine lv_aload_n hx hb dX6_personTold_56 rfl (lv_at hl 0 rfl) ?_
  refine lv_iload_n hx hb dX6_personTold_57 rfl (lv_at hl 1 rfl) ?_
  refine lv_iconst (v := 0) hx hb dX6_personTold_58 (by decide) ?_
  obtain ⟨x56_1, hx56_1, hf⟩ := kbind hf
  refine kr_calli0 hH (kr_runV (as := [.int v1, .int 0]) (rest := []) (pl := 7) V hH kYX6_pe kl_X6_45 (c_X6_pe l _ _ hx56_1 _) rfl rfl ⟨Nat.le_of_ble_eq_true rfl, Nat.le_of_ble_eq_true rfl⟩ (by decide) kE_7 rfl rfl hl.1 (Nat.le_of_ble_eq_true rfl) dX6_personTold_59 ⟨Nat.le_refl _, Nat.le_refl _⟩ rfl) (fun H locs hH => ?_)
  cases hf
  exact kr_iret V hH dX6_personTold_62
set_option maxHeartbeats 4000000 in
set_option maxRecDepth 100000 in
theorem w_X6_personTold_91 (V : kV p s mm args meth c cX6_personTold RX6 5 (some .int) D cI cZ cO) {k mo : kS} {c66 : Int32 → Int32 → Int32 → Option (Int32)} (hk66 : ∀ {v1 : Int32} {v3 : Int32} {v4 : Int32} {H : Heap} {locs : List Loc} {ls : Array Slot} {out : Int32}, kHE s H locs D ad cI cZ cO k mo [] → lv_has ls 5 [(0, .ref (ad 7)), (1, .int v1), (3, .int v3), (4, .int v4)] → c66 v1 v3 v4 = some out → W p l e rm_X6_personTold s mm args below meth c H locs 0 0 (kGi below args s D cI cZ cO ad out k mo 0 0) (F0 mm 66 ls [])) {s0 : Int32} {s1 : Int32} {v1 : Int32} {v4 : Int32} {H : Heap} {locs : List Loc} {ls : Array Slot} {out : Int32} (hH : kHE s H locs D ad cI cZ cO k mo []) (hl : lv_has ls 5 [(0, .ref (ad 7)), (1, .int v1), (4, .int v4)]) (hf : F_X6_personTold_91 mo c66 s0 s1 v1 v4 = some out) : W p l e rm_X6_personTold s mm args below meth c H locs 0 0 (kGi below args s D cI cZ cO ad out k mo 0 0) (F0 mm 91 ls [.int s1, .int s0]) := by
  have hx := V.1
  have hb := V.2.1
  refine lv_iadd hx hb dX6_personTold_91 ?_
  refine lv_istore_n (lv' := [(3, .int (s0 + s1)), (0, .ref (ad 7)), (1, .int v1), (4, .int v4)]) hx hb dX6_personTold_92 rfl hl (by decide) rfl (fun ls hl => ?_)
  refine lv_iinc (v := (v4 + 1)) (lv' := [(4, .int (v4 + 1)), (3, .int (s0 + s1)), (0, .ref (ad 7)), (1, .int v1)]) hx hb dX6_personTold_93 hl (k := 3) rfl rfl (by decide) rfl (fun ls hl => ?_)
  refine lv_goto (tgt := 66) hx hb dX6_personTold_96 (by decide) ?_
  exact hk66 hH (lv_sub hl [2, 3, 1, 0] rfl) hf
set_option maxHeartbeats 4000000 in
set_option maxRecDepth 100000 in
theorem w_X6_personTold_86 (V : kV p s mm args meth c cX6_personTold RX6 5 (some .int) D cI cZ cO) {k mo : kS} {c66 : Int32 → Int32 → Int32 → Option (Int32)} (hk66 : ∀ {v1 : Int32} {v3 : Int32} {v4 : Int32} {H : Heap} {locs : List Loc} {ls : Array Slot} {out : Int32}, kHE s H locs D ad cI cZ cO k mo [] → lv_has ls 5 [(0, .ref (ad 7)), (1, .int v1), (3, .int v3), (4, .int v4)] → c66 v1 v3 v4 = some out → W p l e rm_X6_personTold s mm args below meth c H locs 0 0 (kGi below args s D cI cZ cO ad out k mo 0 0) (F0 mm 66 ls [])) {s0 : Int32} {v1 : Int32} {v4 : Int32} {H : Heap} {locs : List Loc} {ls : Array Slot} {out : Int32} (hH : kHE s H locs D ad cI cZ cO k mo []) (hl : lv_has ls 5 [(0, .ref (ad 7)), (1, .int v1), (4, .int v4)]) (hf : F_X6_personTold_86 mo c66 s0 v1 v4 = some out) : W p l e rm_X6_personTold s mm args below meth c H locs 0 0 (kGi below args s D cI cZ cO ad out k mo 0 0) (F0 mm 86 ls [.int s0]) := by
  have hx := V.1
  have hb := V.2.1
  refine lv_iconst (v := 1) hx hb dX6_personTold_86 (by decide) ?_
  refine lv_goto (tgt := 91) hx hb dX6_personTold_87 (by decide) ?_
  exact w_X6_personTold_91 V hk66 hH (lv_sub hl [0, 1, 2] rfl) hf
set_option maxHeartbeats 4000000 in
set_option maxRecDepth 100000 in
theorem w_X6_personTold_90 (V : kV p s mm args meth c cX6_personTold RX6 5 (some .int) D cI cZ cO) {k mo : kS} {c66 : Int32 → Int32 → Int32 → Option (Int32)} (hk66 : ∀ {v1 : Int32} {v3 : Int32} {v4 : Int32} {H : Heap} {locs : List Loc} {ls : Array Slot} {out : Int32}, kHE s H locs D ad cI cZ cO k mo [] → lv_has ls 5 [(0, .ref (ad 7)), (1, .int v1), (3, .int v3), (4, .int v4)] → c66 v1 v3 v4 = some out → W p l e rm_X6_personTold s mm args below meth c H locs 0 0 (kGi below args s D cI cZ cO ad out k mo 0 0) (F0 mm 66 ls [])) {s0 : Int32} {v1 : Int32} {v4 : Int32} {H : Heap} {locs : List Loc} {ls : Array Slot} {out : Int32} (hH : kHE s H locs D ad cI cZ cO k mo []) (hl : lv_has ls 5 [(0, .ref (ad 7)), (1, .int v1), (4, .int v4)]) (hf : F_X6_personTold_90 mo c66 s0 v1 v4 = some out) : W p l e rm_X6_personTold s mm args below meth c H locs 0 0 (kGi below args s D cI cZ cO ad out k mo 0 0) (F0 mm 90 ls [.int s0]) := by
  have hx := V.1
  have hb := V.2.1
  refine lv_iconst (v := 0) hx hb dX6_personTold_90 (by decide) ?_
  exact w_X6_personTold_91 V hk66 hH (lv_sub hl [0, 1, 2] rfl) hf
set_option maxHeartbeats 4000000 in
set_option maxRecDepth 100000 in
theorem w_X6_personTold_75 (V : kV p s mm args meth c cX6_personTold RX6 5 (some .int) D cI cZ cO) {k mo : kS} {c66 : Int32 → Int32 → Int32 → Option (Int32)} (hk66 : ∀ {v1 : Int32} {v3 : Int32} {v4 : Int32} {H : Heap} {locs : List Loc} {ls : Array Slot} {out : Int32}, kHE s H locs D ad cI cZ cO k mo [] → lv_has ls 5 [(0, .ref (ad 7)), (1, .int v1), (3, .int v3), (4, .int v4)] → c66 v1 v3 v4 = some out → W p l e rm_X6_personTold s mm args below meth c H locs 0 0 (kGi below args s D cI cZ cO ad out k mo 0 0) (F0 mm 66 ls [])) {v1 : Int32} {v3 : Int32} {v4 : Int32} {H : Heap} {locs : List Loc} {ls : Array Slot} {out : Int32} (hH : kHE s H locs D ad cI cZ cO k mo []) (hl : lv_has ls 5 [(0, .ref (ad 7)), (1, .int v1), (3, .int v3), (4, .int v4)]) (hf : F_X6_personTold_75 mo c66 v1 v3 v4 = some out) : W p l e rm_X6_personTold s mm args below meth c H locs 0 0 (kGi below args s D cI cZ cO ad out k mo 0 0) (F0 mm 75 ls []) := by
  have hx := V.1
  have hb := V.2.1
  refine lv_iload_n hx hb dX6_personTold_75 rfl (lv_at hl 2 rfl) ?_
  refine lv_aload_n hx hb dX6_personTold_76 rfl (lv_at hl 0 rfl) ?_
  refine lv_iload hx hb dX6_personTold_77 (lv_at hl 3 rfl) ?_
  refine lv_iload_n hx hb dX6_personTold_79 rfl (lv_at hl 1 rfl) ?_
  obtain ⟨x75_1, hx75_1, hf⟩ := kbind hf
  refine kr_calli0 hH (kr_runV (as := [.int v4, .int v1]) (rest := [.int v3]) (pl := 7) V hH kYX6_isChild kl_X6_93 (c_X6_isChild l _ _ hx75_1 _) rfl rfl ⟨Nat.le_of_ble_eq_true rfl, Nat.le_of_ble_eq_true rfl⟩ (by decide) kE_7 rfl rfl hl.1 (Nat.le_of_ble_eq_true rfl) dX6_personTold_80 ⟨Nat.le_refl _, Nat.le_refl _⟩ rfl) (fun H locs hH => ?_)
  refine lv_if_eq (tgt := 90) hx hb dX6_personTold_83 (by decide) (fun hq => ?_) (fun hq => ?_)
  · have hf := kpos hq hf
    exact w_X6_personTold_90 V hk66 hH (lv_sub hl [0, 1, 3] rfl) hf
  · have hf := kneg hq hf
    exact w_X6_personTold_86 V hk66 hH (lv_sub hl [0, 1, 3] rfl) hf
set_option maxHeartbeats 4000000 in
set_option maxRecDepth 100000 in
theorem w_X6_personTold_99 (V : kV p s mm args meth c cX6_personTold RX6 5 (some .int) D cI cZ cO) {k mo : kS} {v3 : Int32} {H : Heap} {locs : List Loc} {ls : Array Slot} {out : Int32} (hH : kHE s H locs D ad cI cZ cO k mo []) (hl : lv_has ls 5 [(3, .int v3)]) (hf : F_X6_personTold_99 mo v3 = some out) : W p l e rm_X6_personTold s mm args below meth c H locs 0 0 (kGi below args s D cI cZ cO ad out k mo 0 0) (F0 mm 99 ls []) := by
  have hx := V.1
  have hb := V.2.1
  refine lv_iload_n hx hb dX6_personTold_99 rfl (lv_at hl 0 rfl) ?_
  cases hf
  exact kr_iret V hH dX6_personTold_100
set_option maxHeartbeats 4000000 in
set_option maxRecDepth 100000 in
theorem w_X6_personTold_66 (V : kV p s mm args meth c cX6_personTold RX6 5 (some .int) D cI cZ cO) {k mo : kS} : ∀ (n : Nat) {v1 : Int32} {v3 : Int32} {v4 : Int32} {H : Heap} {locs : List Loc} {ls : Array Slot} {out : Int32}, kHE s H locs D ad cI cZ cO k mo [] → lv_has ls 5 [(0, .ref (ad 7)), (1, .int v1), (3, .int v3), (4, .int v4)] → F_X6_personTold_66 mo n v1 v3 v4 = some out → W p l e rm_X6_personTold s mm args below meth c H locs 0 0 (kGi below args s D cI cZ cO ad out k mo 0 0) (F0 mm 66 ls []) := by
  have hx := V.1
  have hb := V.2.1
  intro n
  induction n with
  | zero => intro _ _ _ _ _ _ _ hH hl hf; cases hf
  | succ n hk66 =>
    intro v1 v3 v4 H locs ls out hH hl hf
    refine lv_iload hx hb dX6_personTold_66 (lv_at hl 3 rfl) ?_
    refine lv_aload_n hx hb dX6_personTold_68 rfl (lv_at hl 0 rfl) ?_
    refine kg_X6_35 V hH dX6_personTold_69 ?_
    refine lv_icmp_ge (tgt := 99) hx hb dX6_personTold_72 (by decide) (fun hq => ?_) (fun hq => ?_)
    · have hf := kpos hq hf
      exact w_X6_personTold_99 V hH (lv_sub hl [2] rfl) hf
    · have hf := kneg hq hf
      exact w_X6_personTold_75 V hk66 hH (lv_sub hl [0, 1, 2, 3] rfl) hf
set_option maxHeartbeats 4000000 in
set_option maxRecDepth 100000 in
theorem w_X6_personTold_63 (V : kV p s mm args meth c cX6_personTold RX6 5 (some .int) D cI cZ cO) {k mo : kS} {v1 : Int32} {v3 : Int32} {H : Heap} {locs : List Loc} {ls : Array Slot} {out : Int32} (hH : kHE s H locs D ad cI cZ cO k mo []) (hl : lv_has ls 5 [(0, .ref (ad 7)), (1, .int v1), (3, .int v3)]) (hf : F_X6_personTold_63 mo v1 v3 = some out) : W p l e rm_X6_personTold s mm args below meth c H locs 0 0 (kGi below args s D cI cZ cO ad out k mo 0 0) (F0 mm 63 ls []) := by
  have hx := V.1
  have hb := V.2.1
  refine lv_iconst (v := 0) hx hb dX6_personTold_63 (by decide) ?_
  refine lv_istore (lv' := [(4, .int 0), (0, .ref (ad 7)), (1, .int v1), (3, .int v3)]) hx hb dX6_personTold_64 hl (by decide) rfl (fun ls hl => ?_)
  exact w_X6_personTold_66 V kN hH (lv_sub hl [1, 2, 3, 0] rfl) hf
set_option maxHeartbeats 4000000 in
set_option maxRecDepth 100000 in
theorem w_X6_personTold_130 (V : kV p s mm args meth c cX6_personTold RX6 5 (some .int) D cI cZ cO) {k mo : kS} {c104 : Int32 → Int32 → Int32 → Option (Int32)} (hk104 : ∀ {v1 : Int32} {v3 : Int32} {v4 : Int32} {H : Heap} {locs : List Loc} {ls : Array Slot} {out : Int32}, kHE s H locs D ad cI cZ cO k mo [] → lv_has ls 5 [(0, .ref (ad 7)), (1, .int v1), (3, .int v3), (4, .int v4)] → c104 v1 v3 v4 = some out → W p l e rm_X6_personTold s mm args below meth c H locs 0 0 (kGi below args s D cI cZ cO ad out k mo 0 0) (F0 mm 104 ls [])) {s0 : Int32} {s1 : Int32} {v1 : Int32} {v4 : Int32} {H : Heap} {locs : List Loc} {ls : Array Slot} {out : Int32} (hH : kHE s H locs D ad cI cZ cO k mo []) (hl : lv_has ls 5 [(0, .ref (ad 7)), (1, .int v1), (4, .int v4)]) (hf : F_X6_personTold_130 mo c104 s0 s1 v1 v4 = some out) : W p l e rm_X6_personTold s mm args below meth c H locs 0 0 (kGi below args s D cI cZ cO ad out k mo 0 0) (F0 mm 130 ls [.int s1, .int s0]) := by
  have hx := V.1
  have hb := V.2.1
  refine lv_iadd hx hb dX6_personTold_130 ?_
  refine lv_istore_n (lv' := [(3, .int (s0 + s1)), (0, .ref (ad 7)), (1, .int v1), (4, .int v4)]) hx hb dX6_personTold_131 rfl hl (by decide) rfl (fun ls hl => ?_)
  refine lv_iinc (v := (v4 + 1)) (lv' := [(4, .int (v4 + 1)), (3, .int (s0 + s1)), (0, .ref (ad 7)), (1, .int v1)]) hx hb dX6_personTold_132 hl (k := 3) rfl rfl (by decide) rfl (fun ls hl => ?_)
  refine lv_goto (tgt := 104) hx hb dX6_personTold_135 (by decide) ?_
  exact hk104 hH (lv_sub hl [2, 3, 1, 0] rfl) hf
set_option maxHeartbeats 4000000 in
set_option maxRecDepth 100000 in
theorem w_X6_personTold_125 (V : kV p s mm args meth c cX6_personTold RX6 5 (some .int) D cI cZ cO) {k mo : kS} {c104 : Int32 → Int32 → Int32 → Option (Int32)} (hk104 : ∀ {v1 : Int32} {v3 : Int32} {v4 : Int32} {H : Heap} {locs : List Loc} {ls : Array Slot} {out : Int32}, kHE s H locs D ad cI cZ cO k mo [] → lv_has ls 5 [(0, .ref (ad 7)), (1, .int v1), (3, .int v3), (4, .int v4)] → c104 v1 v3 v4 = some out → W p l e rm_X6_personTold s mm args below meth c H locs 0 0 (kGi below args s D cI cZ cO ad out k mo 0 0) (F0 mm 104 ls [])) {s0 : Int32} {v1 : Int32} {v4 : Int32} {H : Heap} {locs : List Loc} {ls : Array Slot} {out : Int32} (hH : kHE s H locs D ad cI cZ cO k mo []) (hl : lv_has ls 5 [(0, .ref (ad 7)), (1, .int v1), (4, .int v4)]) (hf : F_X6_personTold_125 mo c104 s0 v1 v4 = some out) : W p l e rm_X6_personTold s mm args below meth c H locs 0 0 (kGi below args s D cI cZ cO ad out k mo 0 0) (F0 mm 125 ls [.int s0]) := by
  have hx := V.1
  have hb := V.2.1
  refine lv_iconst (v := 1) hx hb dX6_personTold_125 (by decide) ?_
  refine lv_goto (tgt := 130) hx hb dX6_personTold_126 (by decide) ?_
  exact w_X6_personTold_130 V hk104 hH (lv_sub hl [0, 1, 2] rfl) hf
set_option maxHeartbeats 4000000 in
set_option maxRecDepth 100000 in
theorem w_X6_personTold_129 (V : kV p s mm args meth c cX6_personTold RX6 5 (some .int) D cI cZ cO) {k mo : kS} {c104 : Int32 → Int32 → Int32 → Option (Int32)} (hk104 : ∀ {v1 : Int32} {v3 : Int32} {v4 : Int32} {H : Heap} {locs : List Loc} {ls : Array Slot} {out : Int32}, kHE s H locs D ad cI cZ cO k mo [] → lv_has ls 5 [(0, .ref (ad 7)), (1, .int v1), (3, .int v3), (4, .int v4)] → c104 v1 v3 v4 = some out → W p l e rm_X6_personTold s mm args below meth c H locs 0 0 (kGi below args s D cI cZ cO ad out k mo 0 0) (F0 mm 104 ls [])) {s0 : Int32} {v1 : Int32} {v4 : Int32} {H : Heap} {locs : List Loc} {ls : Array Slot} {out : Int32} (hH : kHE s H locs D ad cI cZ cO k mo []) (hl : lv_has ls 5 [(0, .ref (ad 7)), (1, .int v1), (4, .int v4)]) (hf : F_X6_personTold_129 mo c104 s0 v1 v4 = some out) : W p l e rm_X6_personTold s mm args below meth c H locs 0 0 (kGi below args s D cI cZ cO ad out k mo 0 0) (F0 mm 129 ls [.int s0]) := by
  have hx := V.1
  have hb := V.2.1
  refine lv_iconst (v := 0) hx hb dX6_personTold_129 (by decide) ?_
  exact w_X6_personTold_130 V hk104 hH (lv_sub hl [0, 1, 2] rfl) hf
set_option maxHeartbeats 4000000 in
set_option maxRecDepth 100000 in
theorem w_X6_personTold_113 (V : kV p s mm args meth c cX6_personTold RX6 5 (some .int) D cI cZ cO) {k mo : kS} {c104 : Int32 → Int32 → Int32 → Option (Int32)} (hk104 : ∀ {v1 : Int32} {v3 : Int32} {v4 : Int32} {H : Heap} {locs : List Loc} {ls : Array Slot} {out : Int32}, kHE s H locs D ad cI cZ cO k mo [] → lv_has ls 5 [(0, .ref (ad 7)), (1, .int v1), (3, .int v3), (4, .int v4)] → c104 v1 v3 v4 = some out → W p l e rm_X6_personTold s mm args below meth c H locs 0 0 (kGi below args s D cI cZ cO ad out k mo 0 0) (F0 mm 104 ls [])) {v1 : Int32} {v3 : Int32} {v4 : Int32} {H : Heap} {locs : List Loc} {ls : Array Slot} {out : Int32} (hH : kHE s H locs D ad cI cZ cO k mo []) (hl : lv_has ls 5 [(0, .ref (ad 7)), (1, .int v1), (3, .int v3), (4, .int v4)]) (hf : F_X6_personTold_113 mo c104 v1 v3 v4 = some out) : W p l e rm_X6_personTold s mm args below meth c H locs 0 0 (kGi below args s D cI cZ cO ad out k mo 0 0) (F0 mm 113 ls []) := by
  have hx := V.1
  have hb := V.2.1
  refine lv_iload_n hx hb dX6_personTold_113 rfl (lv_at hl 2 rfl) ?_
  refine lv_aload_n hx hb dX6_personTold_114 rfl (lv_at hl 0 rfl) ?_
  refine lv_iload hx hb dX6_personTold_115 (lv_at hl 3 rfl) ?_
  refine lv_iconst (v := 2) hx hb dX6_personTold_117 (by decide) ?_
  obtain ⟨x113_1, hx113_1, hf⟩ := kbind hf
  refine kr_calli0 hH (kr_runV (as := [.int v4, .int 2]) (rest := [.int v3]) (pl := 7) V hH kYX6_la kl_X6_77 (c_X6_la l _ _ hx113_1 _) rfl rfl ⟨Nat.le_of_ble_eq_true rfl, Nat.le_of_ble_eq_true rfl⟩ (by decide) kE_7 rfl rfl hl.1 (Nat.le_of_ble_eq_true rfl) dX6_personTold_118 ⟨Nat.le_refl _, Nat.le_refl _⟩ rfl) (fun H locs hH => ?_)
  refine lv_iload_n hx hb dX6_personTold_121 rfl (lv_at hl 1 rfl) ?_
  refine lv_icmp_ne (tgt := 129) hx hb dX6_personTold_122 (by decide) (fun hq => ?_) (fun hq => ?_)
  · have hf := kneg hq hf
    exact w_X6_personTold_129 V hk104 hH (lv_sub hl [0, 1, 3] rfl) hf
  · have hf := kpos hq hf
    exact w_X6_personTold_125 V hk104 hH (lv_sub hl [0, 1, 3] rfl) hf
set_option maxHeartbeats 4000000 in
set_option maxRecDepth 100000 in
theorem w_X6_personTold_138 (V : kV p s mm args meth c cX6_personTold RX6 5 (some .int) D cI cZ cO) {k mo : kS} {v3 : Int32} {H : Heap} {locs : List Loc} {ls : Array Slot} {out : Int32} (hH : kHE s H locs D ad cI cZ cO k mo []) (hl : lv_has ls 5 [(3, .int v3)]) (hf : F_X6_personTold_138 mo v3 = some out) : W p l e rm_X6_personTold s mm args below meth c H locs 0 0 (kGi below args s D cI cZ cO ad out k mo 0 0) (F0 mm 138 ls []) := by
  have hx := V.1
  have hb := V.2.1
  refine lv_iload_n hx hb dX6_personTold_138 rfl (lv_at hl 0 rfl) ?_
  cases hf
  exact kr_iret V hH dX6_personTold_139
set_option maxHeartbeats 4000000 in
set_option maxRecDepth 100000 in
theorem w_X6_personTold_104 (V : kV p s mm args meth c cX6_personTold RX6 5 (some .int) D cI cZ cO) {k mo : kS} : ∀ (n : Nat) {v1 : Int32} {v3 : Int32} {v4 : Int32} {H : Heap} {locs : List Loc} {ls : Array Slot} {out : Int32}, kHE s H locs D ad cI cZ cO k mo [] → lv_has ls 5 [(0, .ref (ad 7)), (1, .int v1), (3, .int v3), (4, .int v4)] → F_X6_personTold_104 mo n v1 v3 v4 = some out → W p l e rm_X6_personTold s mm args below meth c H locs 0 0 (kGi below args s D cI cZ cO ad out k mo 0 0) (F0 mm 104 ls []) := by
  have hx := V.1
  have hb := V.2.1
  intro n
  induction n with
  | zero => intro _ _ _ _ _ _ _ hH hl hf; cases hf
  | succ n hk104 =>
    intro v1 v3 v4 H locs ls out hH hl hf
    refine lv_iload hx hb dX6_personTold_104 (lv_at hl 3 rfl) ?_
    refine lv_aload_n hx hb dX6_personTold_106 rfl (lv_at hl 0 rfl) ?_
    refine kg_X6_42 V hH dX6_personTold_107 ?_
    refine lv_icmp_ge (tgt := 138) hx hb dX6_personTold_110 (by decide) (fun hq => ?_) (fun hq => ?_)
    · have hf := kpos hq hf
      exact w_X6_personTold_138 V hH (lv_sub hl [2] rfl) hf
    · have hf := kneg hq hf
      exact w_X6_personTold_113 V hk104 hH (lv_sub hl [0, 1, 2, 3] rfl) hf
set_option maxHeartbeats 4000000 in
set_option maxRecDepth 100000 in
theorem w_X6_personTold_101 (V : kV p s mm args meth c cX6_personTold RX6 5 (some .int) D cI cZ cO) {k mo : kS} {v1 : Int32} {v3 : Int32} {H : Heap} {locs : List Loc} {ls : Array Slot} {out : Int32} (hH : kHE s H locs D ad cI cZ cO k mo []) (hl : lv_has ls 5 [(0, .ref (ad 7)), (1, .int v1), (3, .int v3)]) (hf : F_X6_personTold_101 mo v1 v3 = some out) : W p l e rm_X6_personTold s mm args below meth c H locs 0 0 (kGi below args s D cI cZ cO ad out k mo 0 0) (F0 mm 101 ls []) := by
  have hx := V.1
  have hb := V.2.1
  refine lv_iconst (v := 0) hx hb dX6_personTold_101 (by decide) ?_
  refine lv_istore (lv' := [(4, .int 0), (0, .ref (ad 7)), (1, .int v1), (3, .int v3)]) hx hb dX6_personTold_102 hl (by decide) rfl (fun ls hl => ?_)
  exact w_X6_personTold_104 V kN hH (lv_sub hl [1, 2, 3, 0] rfl) hf
set_option maxHeartbeats 4000000 in
set_option maxRecDepth 100000 in
theorem w_X6_personTold_140 (V : kV p s mm args meth c cX6_personTold RX6 5 (some .int) D cI cZ cO) {k mo : kS} {v1 : Int32} {H : Heap} {locs : List Loc} {ls : Array Slot} {out : Int32} (hH : kHE s H locs D ad cI cZ cO k mo []) (hl : lv_has ls 5 [(0, .ref (ad 7)), (1, .int v1)]) (hf : F_X6_personTold_140 mo v1 = some out) : W p l e rm_X6_personTold s mm args below meth c H locs 0 0 (kGi below args s D cI cZ cO ad out k mo 0 0) (F0 mm 140 ls []) := by
  have hx := V.1
  have hb := V.2.1
  refine lv_aload_n hx hb dX6_personTold_140 rfl (lv_at hl 0 rfl) ?_
  refine lv_iload_n hx hb dX6_personTold_141 rfl (lv_at hl 1 rfl) ?_
  obtain ⟨x140_1, hx140_1, hf⟩ := kbind hf
  refine kr_calli0 hH (kr_runV (as := [.int v1]) (rest := []) (pl := 7) V hH kYX6_worthOf kl_X6_125 (c_X6_worthOf l _ hx140_1 _) rfl rfl ⟨Nat.le_of_ble_eq_true rfl, Nat.le_of_ble_eq_true rfl⟩ (by decide) kE_7 rfl rfl hl.1 (Nat.le_of_ble_eq_true rfl) dX6_personTold_142 ⟨Nat.le_refl _, Nat.le_refl _⟩ rfl) (fun H locs hH => ?_)
  cases hf
  exact kr_iret V hH dX6_personTold_145
set_option maxHeartbeats 4000000 in
set_option maxRecDepth 100000 in
theorem w_X6_personTold_146 (V : kV p s mm args meth c cX6_personTold RX6 5 (some .int) D cI cZ cO) {k mo : kS} {v1 : Int32} {H : Heap} {locs : List Loc} {ls : Array Slot} {out : Int32} (hH : kHE s H locs D ad cI cZ cO k mo []) (hl : lv_has ls 5 [(0, .ref (ad 7)), (1, .int v1)]) (hf : F_X6_personTold_146 mo v1 = some out) : W p l e rm_X6_personTold s mm args below meth c H locs 0 0 (kGi below args s D cI cZ cO ad out k mo 0 0) (F0 mm 146 ls []) := by
  have hx := V.1
  have hb := V.2.1
  refine lv_aload_n hx hb dX6_personTold_146 rfl (lv_at hl 0 rfl) ?_
  refine lv_iload_n hx hb dX6_personTold_147 rfl (lv_at hl 1 rfl) ?_
  refine lv_bipush (v := 6) hx hb dX6_personTold_148 (by decide) ?_
  obtain ⟨x146_1, hx146_1, hf⟩ := kbind hf
  refine kr_calli0 hH (kr_runV (as := [.int v1, .int 6]) (rest := []) (pl := 7) V hH kYX6_pe kl_X6_45 (c_X6_pe l _ _ hx146_1 _) rfl rfl ⟨Nat.le_of_ble_eq_true rfl, Nat.le_of_ble_eq_true rfl⟩ (by decide) kE_7 rfl rfl hl.1 (Nat.le_of_ble_eq_true rfl) dX6_personTold_150 ⟨Nat.le_refl _, Nat.le_refl _⟩ rfl) (fun H locs hH => ?_)
  cases hf
  exact kr_iret V hH dX6_personTold_153
set_option maxHeartbeats 4000000 in
set_option maxRecDepth 100000 in
theorem w_X6_personTold_154 (V : kV p s mm args meth c cX6_personTold RX6 5 (some .int) D cI cZ cO) {k mo : kS} {v1 : Int32} {v2 : Int32} {H : Heap} {locs : List Loc} {ls : Array Slot} {out : Int32} (hH : kHE s H locs D ad cI cZ cO k mo []) (hl : lv_has ls 5 [(0, .ref (ad 7)), (1, .int v1), (2, .int v2)]) (hf : F_X6_personTold_154 mo v1 v2 = some out) : W p l e rm_X6_personTold s mm args below meth c H locs 0 0 (kGi below args s D cI cZ cO ad out k mo 0 0) (F0 mm 154 ls []) := by
  have hx := V.1
  have hb := V.2.1
  refine lv_aload_n hx hb dX6_personTold_154 rfl (lv_at hl 0 rfl) ?_
  refine lv_iload_n hx hb dX6_personTold_155 rfl (lv_at hl 1 rfl) ?_
  refine lv_iload_n hx hb dX6_personTold_156 rfl (lv_at hl 2 rfl) ?_
  obtain ⟨x154_1, hx154_1, hf⟩ := kbind hf
  refine kr_calli0 hH (kr_runV (as := [.int v1, .int v2]) (rest := []) (pl := 7) V hH kYX6_pe kl_X6_45 (c_X6_pe l _ _ hx154_1 _) rfl rfl ⟨Nat.le_of_ble_eq_true rfl, Nat.le_of_ble_eq_true rfl⟩ (by decide) kE_7 rfl rfl hl.1 (Nat.le_of_ble_eq_true rfl) dX6_personTold_157 ⟨Nat.le_refl _, Nat.le_refl _⟩ rfl) (fun H locs hH => ?_)
  cases hf
  exact kr_iret V hH dX6_personTold_160
set_option maxHeartbeats 4000000 in
set_option maxRecDepth 100000 in
theorem w_X6_personTold_0 (V : kV p s mm args meth c cX6_personTold RX6 5 (some .int) D cI cZ cO) {k mo : kS} {v1 : Int32} {v2 : Int32} {H : Heap} {locs : List Loc} {ls : Array Slot} {out : Int32} (hH : kHE s H locs D ad cI cZ cO k mo []) (hl : lv_has ls 5 [(0, .ref (ad 7)), (1, .int v1), (2, .int v2)]) (hf : F_X6_personTold_0 mo v1 v2 = some out) : W p l e rm_X6_personTold s mm args below meth c H locs 0 0 (kGi below args s D cI cZ cO ad out k mo 0 0) (F0 mm 0 ls []) := by
  have hx := V.1
  have hb := V.2.1
  refine lv_iconst (v := 0) hx hb dX6_personTold_0 (by decide) ?_
  refine lv_istore_n (lv' := [(3, .int 0), (0, .ref (ad 7)), (1, .int v1), (2, .int v2)]) hx hb dX6_personTold_1 rfl hl (by decide) rfl (fun ls hl => ?_)
  refine lv_iload_n hx hb dX6_personTold_2 rfl (lv_at hl 3 rfl) ?_
  by_cases hq0 : v2 = 0
  · have hf := kpos hq0 hf
    refine lv_tableIn (tgt := 56) hx hb dX6_personTold_3 (by rw [hq0]; decide) (by rw [hq0]; decide) (by rw [hq0]; rfl) (by decide) ?_
    exact w_X6_personTold_56 V hH (lv_sub hl [1, 2] rfl) hf
  have hf := kneg hq0 hf
  by_cases hq1 : v2 = 1
  · have hf := kpos hq1 hf
    refine lv_tableIn (tgt := 154) hx hb dX6_personTold_3 (by rw [hq1]; decide) (by rw [hq1]; decide) (by rw [hq1]; rfl) (by decide) ?_
    exact w_X6_personTold_154 V hH (lv_sub hl [1, 2, 3] rfl) hf
  have hf := kneg hq1 hf
  by_cases hq2 : v2 = 2
  · have hf := kpos hq2 hf
    refine lv_tableIn (tgt := 154) hx hb dX6_personTold_3 (by rw [hq2]; decide) (by rw [hq2]; decide) (by rw [hq2]; rfl) (by decide) ?_
    exact w_X6_personTold_154 V hH (lv_sub hl [1, 2, 3] rfl) hf
  have hf := kneg hq2 hf
  by_cases hq3 : v2 = 3
  · have hf := kpos hq3 hf
    refine lv_tableIn (tgt := 154) hx hb dX6_personTold_3 (by rw [hq3]; decide) (by rw [hq3]; decide) (by rw [hq3]; rfl) (by decide) ?_
    exact w_X6_personTold_154 V hH (lv_sub hl [1, 2, 3] rfl) hf
  have hf := kneg hq3 hf
  by_cases hq4 : v2 = 4
  · have hf := kpos hq4 hf
    refine lv_tableIn (tgt := 154) hx hb dX6_personTold_3 (by rw [hq4]; decide) (by rw [hq4]; decide) (by rw [hq4]; rfl) (by decide) ?_
    exact w_X6_personTold_154 V hH (lv_sub hl [1, 2, 3] rfl) hf
  have hf := kneg hq4 hf
  by_cases hq5 : v2 = 5
  · have hf := kpos hq5 hf
    refine lv_tableIn (tgt := 154) hx hb dX6_personTold_3 (by rw [hq5]; decide) (by rw [hq5]; decide) (by rw [hq5]; rfl) (by decide) ?_
    exact w_X6_personTold_154 V hH (lv_sub hl [1, 2, 3] rfl) hf
  have hf := kneg hq5 hf
  by_cases hq6 : v2 = 6
  · have hf := kpos hq6 hf
    refine lv_tableIn (tgt := 63) hx hb dX6_personTold_3 (by rw [hq6]; decide) (by rw [hq6]; decide) (by rw [hq6]; rfl) (by decide) ?_
    exact w_X6_personTold_63 V hH (lv_sub hl [1, 2, 0] rfl) hf
  have hf := kneg hq6 hf
  by_cases hq7 : v2 = 7
  · have hf := kpos hq7 hf
    refine lv_tableIn (tgt := 101) hx hb dX6_personTold_3 (by rw [hq7]; decide) (by rw [hq7]; decide) (by rw [hq7]; rfl) (by decide) ?_
    exact w_X6_personTold_101 V hH (lv_sub hl [1, 2, 0] rfl) hf
  have hf := kneg hq7 hf
  by_cases hq8 : v2 = 8
  · have hf := kpos hq8 hf
    refine lv_tableIn (tgt := 140) hx hb dX6_personTold_3 (by rw [hq8]; decide) (by rw [hq8]; decide) (by rw [hq8]; rfl) (by decide) ?_
    exact w_X6_personTold_140 V hH (lv_sub hl [1, 2] rfl) hf
  have hf := kneg hq8 hf
  by_cases hq9 : v2 = 9
  · have hf := kpos hq9 hf
    refine lv_tableIn (tgt := 146) hx hb dX6_personTold_3 (by rw [hq9]; decide) (by rw [hq9]; decide) (by rw [hq9]; rfl) (by decide) ?_
    exact w_X6_personTold_146 V hH (lv_sub hl [1, 2] rfl) hf
  have hf := kneg hq9 hf
  refine lv_tableOut (tgt := 154) hx hb dX6_personTold_3 (by have z0 := kne (n := 0) hq0 (by decide) (by decide); have z1 := kne (n := 1) hq1 (by decide) (by decide); have z2 := kne (n := 2) hq2 (by decide) (by decide); have z3 := kne (n := 3) hq3 (by decide) (by decide); have z4 := kne (n := 4) hq4 (by decide) (by decide); have z5 := kne (n := 5) hq5 (by decide) (by decide); have z6 := kne (n := 6) hq6 (by decide) (by decide); have z7 := kne (n := 7) hq7 (by decide) (by decide); have z8 := kne (n := 8) hq8 (by decide) (by decide); have z9 := kne (n := 9) hq9 (by decide) (by decide); omega) (by decide) ?_
  exact w_X6_personTold_154 V hH (lv_sub hl [1, 2, 3] rfl) hf
set_option maxHeartbeats 4000000 in
set_option maxRecDepth 100000 in
theorem c_X6_personTold (l : Launch) {D : va_G} {cI cZ cO : ClassId} {ad : Nat → Nat} {k mo : kS} (v1 : Int32) (v2 : Int32) {out : Int32} (hf : F_X6_personTold mo v1 v2 = some out) (sz : Nat) : Met l yX6_personTold (Cond.code yX6_personTold cX6_personTold 5 (some .int) :: kWA) rm_X6_personTold (kP [.ref (ad 7), .int v1, .int v2] D cI cZ cO ad (kE ad cI cZ cO k mo) sz) (kQi out D cI cZ cO ad (kE ad cI cZ cO k mo) sz) 0 0 (fA ad sz) := by
  refine kr_met (as := [.ref (ad 7), .int v1, .int v2]) (bytes := cX6_personTold) (maxL := 5) (rt := (some .int)) (Qc := fun sz => kQi out D cI cZ cO ad (kE ad cI cZ cO k mo) sz) (lv := [(0, .ref (ad 7)), (1, .int v1), (2, .int v2)]) (by decide +kernel) (Nat.le_of_ble_eq_true rfl) rfl (fun p e s mm below meth c ls V hH hl => ?_) sz
  exact w_X6_personTold_0 V hH (lv_sub hl [0, 1, 2] rfl) hf
end
section
variable {p : Program} {l : Launch} {e : Env} {s : State} {mm : MethodId} {args : Array Value} {below : List Frame} {meth : Method} {c : Code} {D : va_G} {cI cZ cO : ClassId} {ad : Nat → Nat}
abbrev rm_X6_person_ : Room := { frames := 3, cells := 0, slots := 0, locals := 69 }
set_option maxHeartbeats 4000000 in
set_option maxRecDepth 100000 in
theorem w_X6_person__37 (V : kV p s mm args meth c cX6_person_ RX6 3 (some .int) D cI cZ cO) {k : kS} {s0 : Int32} {mo : kS} {H : Heap} {locs : List Loc} {ls : Array Slot} {out : (Int32 × kS)} (hH : kHE s H locs D ad cI cZ cO k mo []) (hl : lv_has ls 3 []) (hf : F_X6_person__37 s0 mo = some out) : W p l e rm_X6_person_ s mm args below meth c H locs 0 0 (kGi below args s D cI cZ cO ad out.1 k out.2 0 0) (F0 mm 37 ls [.int s0]) := by
  have hx := V.1
  have hb := V.2.1
  cases hf
  exact kr_iret V hH dX6_person__37
set_option maxHeartbeats 4000000 in
set_option maxRecDepth 100000 in
theorem w_X6_person__23 (V : kV p s mm args meth c cX6_person_ RX6 3 (some .int) D cI cZ cO) {k : kS} {v1 : Int32} {v2 : Int32} {mo : kS} {H : Heap} {locs : List Loc} {ls : Array Slot} {out : (Int32 × kS)} (hH : kHE s H locs D ad cI cZ cO k mo []) (hl : lv_has ls 3 [(0, .ref (ad 7)), (1, .int v1), (2, .int v2)]) (hf : F_X6_person__23 v1 v2 mo = some out) : W p l e rm_X6_person_ s mm args below meth c H locs 0 0 (kGi below args s D cI cZ cO ad out.1 k out.2 0 0) (F0 mm 23 ls []) := by
  have hx := V.1
  have hb := V.2.1
  refine lv_aload_n hx hb dX6_person__23 rfl (lv_at hl 0 rfl) ?_
  refine lv_iload_n hx hb dX6_person__24 rfl (lv_at hl 1 rfl) ?_
  refine lv_iload_n hx hb dX6_person__25 rfl (lv_at hl 2 rfl) ?_
  obtain ⟨x23_1, hx23_1, hf⟩ := kbind hf
  refine kr_calli0 hH (kr_runV (as := [.int v1, .int v2]) (rest := []) (pl := 7) V hH kYX6_personTold kl_X6_138 (c_X6_personTold l _ _ hx23_1 _) rfl rfl ⟨Nat.le_of_ble_eq_true rfl, Nat.le_of_ble_eq_true rfl⟩ (by decide) kE_7 rfl rfl hl.1 (Nat.le_of_ble_eq_true rfl) dX6_person__26 ⟨Nat.le_refl _, Nat.le_refl _⟩ rfl) (fun H locs hH => ?_)
  refine lv_goto (tgt := 37) hx hb dX6_person__29 (by decide) ?_
  exact w_X6_person__37 V hH (lv_sub hl [] rfl) hf
set_option maxHeartbeats 4000000 in
set_option maxRecDepth 100000 in
theorem w_X6_person__32 (V : kV p s mm args meth c cX6_person_ RX6 3 (some .int) D cI cZ cO) {k : kS} {mo : kS} {H : Heap} {locs : List Loc} {ls : Array Slot} {out : (Int32 × kS)} (hH : kHE s H locs D ad cI cZ cO k mo []) (hl : lv_has ls 3 [(0, .ref (ad 7))]) (hf : F_X6_person__32 mo = some out) : W p l e rm_X6_person_ s mm args below meth c H locs 0 0 (kGi below args s D cI cZ cO ad out.1 k out.2 0 0) (F0 mm 32 ls []) := by
  have hx := V.1
  have hb := V.2.1
  refine lv_aload_n hx hb dX6_person__32 rfl (lv_at hl 0 rfl) ?_
  refine lv_iconst (v := 1) hx hb dX6_person__33 (by decide) ?_
  obtain ⟨x32_1, hx32_1, hf⟩ := kbind hf
  refine kr_calli0 hH (kr_runV (as := [.int 1]) (rest := []) (pl := 7) V hH kYX6_fail kl_X6_55 (c_X6_fail l _ hx32_1 _) rfl rfl ⟨Nat.le_of_ble_eq_true rfl, Nat.le_of_ble_eq_true rfl⟩ (by decide) kE_7 rfl rfl hl.1 (Nat.le_of_ble_eq_true rfl) dX6_person__34 ⟨Nat.le_refl _, Nat.le_refl _⟩ rfl) (fun H locs hH => ?_)
  exact w_X6_person__37 V hH (lv_sub hl [] rfl) hf
set_option maxHeartbeats 4000000 in
set_option maxRecDepth 100000 in
theorem w_X6_person__13 (V : kV p s mm args meth c cX6_person_ RX6 3 (some .int) D cI cZ cO) {k : kS} {v1 : Int32} {v2 : Int32} {mo : kS} {H : Heap} {locs : List Loc} {ls : Array Slot} {out : (Int32 × kS)} (hH : kHE s H locs D ad cI cZ cO k mo []) (hl : lv_has ls 3 [(0, .ref (ad 7)), (1, .int v1), (2, .int v2)]) (hf : F_X6_person__13 v1 v2 mo = some out) : W p l e rm_X6_person_ s mm args below meth c H locs 0 0 (kGi below args s D cI cZ cO ad out.1 k out.2 0 0) (F0 mm 13 ls []) := by
  have hx := V.1
  have hb := V.2.1
  refine lv_iload_n hx hb dX6_person__13 rfl (lv_at hl 2 rfl) ?_
  refine lv_iconst (v := 0) hx hb dX6_person__14 (by decide) ?_
  refine lv_bipush (v := 9) hx hb dX6_person__15 (by decide) ?_
  obtain ⟨x13_1, hx13_1, hf⟩ := kbind hf
  refine kr_calli0 hH (kr_runS (as := [.int v2, .int 0, .int 9]) (rest := []) V hH kYX6_isIn kl_X6_38 (c_X6_isIn l _ _ _ hx13_1 _) rfl rfl ⟨Nat.le_of_ble_eq_true rfl, Nat.le_of_ble_eq_true rfl⟩ rfl hl.1 (Nat.le_of_ble_eq_true rfl) dX6_person__17 ⟨Nat.le_refl _, Nat.le_refl _⟩ rfl) (fun H locs hH => ?_)
  refine lv_if_eq (tgt := 32) hx hb dX6_person__20 (by decide) (fun hq => ?_) (fun hq => ?_)
  · have hf := kpos hq hf
    exact w_X6_person__32 V hH (lv_sub hl [0] rfl) hf
  · have hf := kneg hq hf
    exact w_X6_person__23 V hH (lv_sub hl [0, 1, 2] rfl) hf
set_option maxHeartbeats 4000000 in
set_option maxRecDepth 100000 in
theorem w_X6_person__0 (V : kV p s mm args meth c cX6_person_ RX6 3 (some .int) D cI cZ cO) {k : kS} {v1 : Int32} {v2 : Int32} {mo : kS} {H : Heap} {locs : List Loc} {ls : Array Slot} {out : (Int32 × kS)} (hH : kHE s H locs D ad cI cZ cO k mo []) (hl : lv_has ls 3 [(0, .ref (ad 7)), (1, .int v1), (2, .int v2)]) (hf : F_X6_person__0 v1 v2 mo = some out) : W p l e rm_X6_person_ s mm args below meth c H locs 0 0 (kGi below args s D cI cZ cO ad out.1 k out.2 0 0) (F0 mm 0 ls []) := by
  have hx := V.1
  have hb := V.2.1
  refine lv_aload_n hx hb dX6_person__0 rfl (lv_at hl 0 rfl) ?_
  refine lv_iconst (v := 0) hx hb dX6_person__1 (by decide) ?_
  refine kp_X6_31 V hH dX6_person__2 (fun H locs hH => ?_)
  refine lv_aload_n hx hb dX6_person__5 rfl (lv_at hl 0 rfl) ?_
  refine lv_iload_n hx hb dX6_person__6 rfl (lv_at hl 1 rfl) ?_
  obtain ⟨x0_1, hx0_1, hf⟩ := kbind hf
  refine kr_calli0 hH (kr_runV (as := [.int v1]) (rest := []) (pl := 7) V hH kYX6_isPerson kl_X6_63 (c_X6_isPerson l _ hx0_1 _) rfl rfl ⟨Nat.le_of_ble_eq_true rfl, Nat.le_of_ble_eq_true rfl⟩ (by decide) kE_7 rfl rfl hl.1 (Nat.le_of_ble_eq_true rfl) dX6_person__7 ⟨Nat.le_refl _, Nat.le_refl _⟩ rfl) (fun H locs hH => ?_)
  refine lv_if_eq (tgt := 32) hx hb dX6_person__10 (by decide) (fun hq => ?_) (fun hq => ?_)
  · have hf := kpos hq hf
    exact w_X6_person__32 V hH (lv_sub hl [0] rfl) hf
  · have hf := kneg hq hf
    exact w_X6_person__13 V hH (lv_sub hl [0, 1, 2] rfl) hf
set_option maxHeartbeats 4000000 in
set_option maxRecDepth 100000 in
theorem c_X6_person_ (l : Launch) {D : va_G} {cI cZ cO : ClassId} {ad : Nat → Nat} {k mo : kS} (v1 : Int32) (v2 : Int32) {out : (Int32 × kS)} (hf : F_X6_person_ v1 v2 mo = some out) (sz : Nat) : Met l yX6_person_ (Cond.code yX6_person_ cX6_person_ 3 (some .int) :: kWA) rm_X6_person_ (kP [.ref (ad 7), .int v1, .int v2] D cI cZ cO ad (kE ad cI cZ cO k mo) sz) (kQi out.1 D cI cZ cO ad (kE ad cI cZ cO k out.2) sz) 0 0 (fA ad sz) := by
  refine kr_met (as := [.ref (ad 7), .int v1, .int v2]) (bytes := cX6_person_) (maxL := 3) (rt := (some .int)) (Qc := fun sz => kQi out.1 D cI cZ cO ad (kE ad cI cZ cO k out.2) sz) (lv := [(0, .ref (ad 7)), (1, .int v1), (2, .int v2)]) (by decide +kernel) (Nat.le_of_ble_eq_true rfl) rfl (fun p e s mm below meth c ls V hH hl => ?_) sz
  exact w_X6_person__0 V hH (lv_sub hl [0, 1, 2] rfl) hf
end
section
variable {p : Program} {l : Launch} {e : Env} {s : State} {mm : MethodId} {args : Array Value} {below : List Frame} {meth : Method} {c : Code} {D : va_G} {cI cZ cO : ClassId} {ad : Nat → Nat}
abbrev rm_X6_landTold : Room := { frames := 51, cells := 0, slots := 0, locals := 1265 }
set_option maxHeartbeats 4000000 in
set_option maxRecDepth 100000 in
theorem w_X6_landTold_12 (V : kV p s mm args meth c cX6_landTold RX6 4 (some .int) D cI cZ cO) {k : kS} {v1 : Int32} {v2 : Int32} {mo : kS} {H : Heap} {locs : List Loc} {ls : Array Slot} {out : (Int32 × kS)} (hH : kHE s H locs D ad cI cZ cO k mo []) (hl : lv_has ls 4 [(0, .ref (ad 7)), (1, .int v1), (2, .int v2)]) (hf : F_X6_landTold_12 v1 v2 mo = some out) : W p l e rm_X6_landTold s mm args below meth c H locs 0 0 (kGi below args s D cI cZ cO ad out.1 k out.2 0 0) (F0 mm 12 ls []) := by
  have hx := V.1
  have hb := V.2.1
  refine lv_aload_n hx hb dX6_landTold_12 rfl (lv_at hl 0 rfl) ?_
  refine lv_iload_n hx hb dX6_landTold_13 rfl (lv_at hl 1 rfl) ?_
  refine lv_iload_n hx hb dX6_landTold_14 rfl (lv_at hl 2 rfl) ?_
  obtain ⟨x12_1, hx12_1, hf⟩ := kbind hf
  refine kr_calli0 hH (kr_runV (as := [.int v1, .int v2]) (rest := []) (pl := 7) V hH kYX6_la kl_X6_77 (c_X6_la l _ _ hx12_1 _) rfl rfl ⟨Nat.le_of_ble_eq_true rfl, Nat.le_of_ble_eq_true rfl⟩ (by decide) kE_7 rfl rfl hl.1 (Nat.le_of_ble_eq_true rfl) dX6_landTold_15 ⟨Nat.le_refl _, Nat.le_refl _⟩ rfl) (fun H locs hH => ?_)
  cases hf
  exact kr_iret V hH dX6_landTold_18
set_option maxHeartbeats 4000000 in
set_option maxRecDepth 100000 in
theorem w_X6_landTold_66 (V : kV p s mm args meth c cX6_landTold RX6 4 (some .int) D cI cZ cO) {k : kS} {s0 : Int32} {mo : kS} {H : Heap} {locs : List Loc} {ls : Array Slot} {out : (Int32 × kS)} (hH : kHE s H locs D ad cI cZ cO k mo []) (hl : lv_has ls 4 []) (hf : F_X6_landTold_66 s0 mo = some out) : W p l e rm_X6_landTold s mm args below meth c H locs 0 0 (kGi below args s D cI cZ cO ad out.1 k out.2 0 0) (F0 mm 66 ls [.int s0]) := by
  have hx := V.1
  have hb := V.2.1
  cases hf
  exact kr_iret V hH dX6_landTold_66
set_option maxHeartbeats 4000000 in
set_option maxRecDepth 100000 in
theorem w_X6_landTold_24 (V : kV p s mm args meth c cX6_landTold RX6 4 (some .int) D cI cZ cO) {k : kS} {v3 : Int32} {mo : kS} {H : Heap} {locs : List Loc} {ls : Array Slot} {out : (Int32 × kS)} (hH : kHE s H locs D ad cI cZ cO k mo []) (hl : lv_has ls 4 [(0, .ref (ad 7)), (3, .int v3)]) (hf : F_X6_landTold_24 v3 mo = some out) : W p l e rm_X6_landTold s mm args below meth c H locs 0 0 (kGi below args s D cI cZ cO ad out.1 k out.2 0 0) (F0 mm 24 ls []) := by
  have hx := V.1
  have hb := V.2.1
  refine lv_aload_n hx hb dX6_landTold_24 rfl (lv_at hl 0 rfl) ?_
  refine lv_iload_n hx hb dX6_landTold_25 rfl (lv_at hl 1 rfl) ?_
  obtain ⟨x24_1, hx24_1, hf⟩ := kbind hf
  refine kr_calli0 hH (kr_runV (as := [.int v3]) (rest := []) (pl := 7) V hH kYX6_regent kl_X6_141 (c_X6_regent l _ hx24_1 _) rfl rfl ⟨Nat.le_of_ble_eq_true rfl, Nat.le_of_ble_eq_true rfl⟩ (by decide) kE_7 rfl rfl hl.1 (Nat.le_of_ble_eq_true rfl) dX6_landTold_26 ⟨Nat.le_refl _, Nat.le_refl _⟩ rfl) (fun H locs hH => ?_)
  refine lv_goto (tgt := 66) hx hb dX6_landTold_29 (by decide) ?_
  exact w_X6_landTold_66 V hH (lv_sub hl [] rfl) hf
set_option maxHeartbeats 4000000 in
set_option maxRecDepth 100000 in
theorem w_X6_landTold_37 (V : kV p s mm args meth c cX6_landTold RX6 4 (some .int) D cI cZ cO) {k : kS} {v1 : Int32} {mo : kS} {H : Heap} {locs : List Loc} {ls : Array Slot} {out : (Int32 × kS)} (hH : kHE s H locs D ad cI cZ cO k mo []) (hl : lv_has ls 4 [(0, .ref (ad 7)), (1, .int v1)]) (hf : F_X6_landTold_37 v1 mo = some out) : W p l e rm_X6_landTold s mm args below meth c H locs 0 0 (kGi below args s D cI cZ cO ad out.1 k out.2 0 0) (F0 mm 37 ls []) := by
  have hx := V.1
  have hb := V.2.1
  refine lv_aload_n hx hb dX6_landTold_37 rfl (lv_at hl 0 rfl) ?_
  refine lv_iload_n hx hb dX6_landTold_38 rfl (lv_at hl 1 rfl) ?_
  refine lv_iconst (v := 3) hx hb dX6_landTold_39 (by decide) ?_
  obtain ⟨x37_1, hx37_1, hf⟩ := kbind hf
  refine kr_calli0 hH (kr_runV (as := [.int v1, .int 3]) (rest := []) (pl := 7) V hH kYX6_la kl_X6_77 (c_X6_la l _ _ hx37_1 _) rfl rfl ⟨Nat.le_of_ble_eq_true rfl, Nat.le_of_ble_eq_true rfl⟩ (by decide) kE_7 rfl rfl hl.1 (Nat.le_of_ble_eq_true rfl) dX6_landTold_40 ⟨Nat.le_refl _, Nat.le_refl _⟩ rfl) (fun H locs hH => ?_)
  refine lv_goto (tgt := 66) hx hb dX6_landTold_43 (by decide) ?_
  exact w_X6_landTold_66 V hH (lv_sub hl [] rfl) hf
set_option maxHeartbeats 4000000 in
set_option maxRecDepth 100000 in
theorem w_X6_landTold_51 (V : kV p s mm args meth c cX6_landTold RX6 4 (some .int) D cI cZ cO) {k : kS} {mo : kS} {H : Heap} {locs : List Loc} {ls : Array Slot} {out : (Int32 × kS)} (hH : kHE s H locs D ad cI cZ cO k mo []) (hl : lv_has ls 4 []) (hf : F_X6_landTold_51 mo = some out) : W p l e rm_X6_landTold s mm args below meth c H locs 0 0 (kGi below args s D cI cZ cO ad out.1 k out.2 0 0) (F0 mm 51 ls []) := by
  have hx := V.1
  have hb := V.2.1
  refine lv_iconst (v := (-1)) hx hb dX6_landTold_51 (by decide) ?_
  refine lv_goto (tgt := 66) hx hb dX6_landTold_52 (by decide) ?_
  exact w_X6_landTold_66 V hH (lv_sub hl [] rfl) hf
set_option maxHeartbeats 4000000 in
set_option maxRecDepth 100000 in
theorem w_X6_landTold_55 (V : kV p s mm args meth c cX6_landTold RX6 4 (some .int) D cI cZ cO) {k : kS} {v1 : Int32} {v3 : Int32} {mo : kS} {H : Heap} {locs : List Loc} {ls : Array Slot} {out : (Int32 × kS)} (hH : kHE s H locs D ad cI cZ cO k mo []) (hl : lv_has ls 4 [(0, .ref (ad 7)), (1, .int v1), (3, .int v3)]) (hf : F_X6_landTold_55 v1 v3 mo = some out) : W p l e rm_X6_landTold s mm args below meth c H locs 0 0 (kGi below args s D cI cZ cO ad out.1 k out.2 0 0) (F0 mm 55 ls []) := by
  have hx := V.1
  have hb := V.2.1
  refine lv_aload_n hx hb dX6_landTold_55 rfl (lv_at hl 0 rfl) ?_
  refine lv_iload_n hx hb dX6_landTold_56 rfl (lv_at hl 2 rfl) ?_
  refine lv_aload_n hx hb dX6_landTold_57 rfl (lv_at hl 0 rfl) ?_
  refine lv_iload_n hx hb dX6_landTold_58 rfl (lv_at hl 1 rfl) ?_
  refine lv_iconst (v := 1) hx hb dX6_landTold_59 (by decide) ?_
  obtain ⟨x55_1, hx55_1, hf⟩ := kbind hf
  refine kr_calli0 hH (kr_runV (as := [.int v1, .int 1]) (rest := [.int v3, .ref (ad 7)]) (pl := 7) V hH kYX6_la kl_X6_77 (c_X6_la l _ _ hx55_1 _) rfl rfl ⟨Nat.le_of_ble_eq_true rfl, Nat.le_of_ble_eq_true rfl⟩ (by decide) kE_7 rfl rfl hl.1 (Nat.le_of_ble_eq_true rfl) dX6_landTold_60 ⟨Nat.le_refl _, Nat.le_refl _⟩ rfl) (fun H locs hH => ?_)
  obtain ⟨x55_2, hx55_2, hf⟩ := kbind hf
  refine kr_calli0 hH (kr_runV (as := [.int v3, .int x55_1]) (rest := []) (pl := 7) V hH kYX6_heir kl_X6_132 (c_X6_heir l _ _ hx55_2 _) rfl rfl ⟨Nat.le_of_ble_eq_true rfl, Nat.le_of_ble_eq_true rfl⟩ (by decide) kE_7 rfl rfl hl.1 (Nat.le_of_ble_eq_true rfl) dX6_landTold_63 ⟨Nat.le_refl _, Nat.le_refl _⟩ rfl) (fun H locs hH => ?_)
  exact w_X6_landTold_66 V hH (lv_sub hl [] rfl) hf
set_option maxHeartbeats 4000000 in
set_option maxRecDepth 100000 in
theorem w_X6_landTold_46 (V : kV p s mm args meth c cX6_landTold RX6 4 (some .int) D cI cZ cO) {k : kS} {v1 : Int32} {v3 : Int32} {mo : kS} {H : Heap} {locs : List Loc} {ls : Array Slot} {out : (Int32 × kS)} (hH : kHE s H locs D ad cI cZ cO k mo []) (hl : lv_has ls 4 [(0, .ref (ad 7)), (1, .int v1), (3, .int v3)]) (hf : F_X6_landTold_46 v1 v3 mo = some out) : W p l e rm_X6_landTold s mm args below meth c H locs 0 0 (kGi below args s D cI cZ cO ad out.1 k out.2 0 0) (F0 mm 46 ls []) := by
  have hx := V.1
  have hb := V.2.1
  refine lv_iload_n hx hb dX6_landTold_46 rfl (lv_at hl 2 rfl) ?_
  refine lv_iconst (v := (-1)) hx hb dX6_landTold_47 (by decide) ?_
  refine lv_icmp_ne (tgt := 55) hx hb dX6_landTold_48 (by decide) (fun hq => ?_) (fun hq => ?_)
  · have hf := kneg hq hf
    exact w_X6_landTold_55 V hH (lv_sub hl [0, 1, 2] rfl) hf
  · have hf := kpos hq hf
    exact w_X6_landTold_51 V hH (lv_sub hl [] rfl) hf
set_option maxHeartbeats 4000000 in
set_option maxRecDepth 100000 in
theorem w_X6_landTold_32 (V : kV p s mm args meth c cX6_landTold RX6 4 (some .int) D cI cZ cO) {k : kS} {v1 : Int32} {v2 : Int32} {v3 : Int32} {mo : kS} {H : Heap} {locs : List Loc} {ls : Array Slot} {out : (Int32 × kS)} (hH : kHE s H locs D ad cI cZ cO k mo []) (hl : lv_has ls 4 [(0, .ref (ad 7)), (1, .int v1), (2, .int v2), (3, .int v3)]) (hf : F_X6_landTold_32 v1 v2 v3 mo = some out) : W p l e rm_X6_landTold s mm args below meth c H locs 0 0 (kGi below args s D cI cZ cO ad out.1 k out.2 0 0) (F0 mm 32 ls []) := by
  have hx := V.1
  have hb := V.2.1
  refine lv_iload_n hx hb dX6_landTold_32 rfl (lv_at hl 2 rfl) ?_
  refine lv_iconst (v := 5) hx hb dX6_landTold_33 (by decide) ?_
  refine lv_icmp_ne (tgt := 46) hx hb dX6_landTold_34 (by decide) (fun hq => ?_) (fun hq => ?_)
  · have hf := kneg hq hf
    exact w_X6_landTold_46 V hH (lv_sub hl [0, 1, 3] rfl) hf
  · have hf := kpos hq hf
    exact w_X6_landTold_37 V hH (lv_sub hl [0, 1] rfl) hf
set_option maxHeartbeats 4000000 in
set_option maxRecDepth 100000 in
theorem w_X6_landTold_19 (V : kV p s mm args meth c cX6_landTold RX6 4 (some .int) D cI cZ cO) {k : kS} {v1 : Int32} {v2 : Int32} {v3 : Int32} {mo : kS} {H : Heap} {locs : List Loc} {ls : Array Slot} {out : (Int32 × kS)} (hH : kHE s H locs D ad cI cZ cO k mo []) (hl : lv_has ls 4 [(0, .ref (ad 7)), (1, .int v1), (2, .int v2), (3, .int v3)]) (hf : F_X6_landTold_19 v1 v2 v3 mo = some out) : W p l e rm_X6_landTold s mm args below meth c H locs 0 0 (kGi below args s D cI cZ cO ad out.1 k out.2 0 0) (F0 mm 19 ls []) := by
  have hx := V.1
  have hb := V.2.1
  refine lv_iload_n hx hb dX6_landTold_19 rfl (lv_at hl 2 rfl) ?_
  refine lv_iconst (v := 3) hx hb dX6_landTold_20 (by decide) ?_
  refine lv_icmp_ne (tgt := 32) hx hb dX6_landTold_21 (by decide) (fun hq => ?_) (fun hq => ?_)
  · have hf := kneg hq hf
    exact w_X6_landTold_32 V hH (lv_sub hl [0, 1, 2, 3] rfl) hf
  · have hf := kpos hq hf
    exact w_X6_landTold_24 V hH (lv_sub hl [0, 3] rfl) hf
set_option maxHeartbeats 4000000 in
set_option maxRecDepth 100000 in
theorem w_X6_landTold_0 (V : kV p s mm args meth c cX6_landTold RX6 4 (some .int) D cI cZ cO) {k : kS} {v1 : Int32} {v2 : Int32} {mo : kS} {H : Heap} {locs : List Loc} {ls : Array Slot} {out : (Int32 × kS)} (hH : kHE s H locs D ad cI cZ cO k mo []) (hl : lv_has ls 4 [(0, .ref (ad 7)), (1, .int v1), (2, .int v2)]) (hf : F_X6_landTold_0 v1 v2 mo = some out) : W p l e rm_X6_landTold s mm args below meth c H locs 0 0 (kGi below args s D cI cZ cO ad out.1 k out.2 0 0) (F0 mm 0 ls []) := by
  have hx := V.1
  have hb := V.2.1
  refine lv_aload_n hx hb dX6_landTold_0 rfl (lv_at hl 0 rfl) ?_
  refine lv_iload_n hx hb dX6_landTold_1 rfl (lv_at hl 1 rfl) ?_
  refine lv_iconst (v := 2) hx hb dX6_landTold_2 (by decide) ?_
  obtain ⟨x0_1, hx0_1, hf⟩ := kbind hf
  refine kr_calli0 hH (kr_runV (as := [.int v1, .int 2]) (rest := []) (pl := 7) V hH kYX6_la kl_X6_77 (c_X6_la l _ _ hx0_1 _) rfl rfl ⟨Nat.le_of_ble_eq_true rfl, Nat.le_of_ble_eq_true rfl⟩ (by decide) kE_7 rfl rfl hl.1 (Nat.le_of_ble_eq_true rfl) dX6_landTold_3 ⟨Nat.le_refl _, Nat.le_refl _⟩ rfl) (fun H locs hH => ?_)
  refine lv_istore_n (lv' := [(3, .int x0_1), (0, .ref (ad 7)), (1, .int v1), (2, .int v2)]) hx hb dX6_landTold_6 rfl hl (by decide) rfl (fun ls hl => ?_)
  refine lv_iload_n hx hb dX6_landTold_7 rfl (lv_at hl 3 rfl) ?_
  refine lv_iconst (v := 3) hx hb dX6_landTold_8 (by decide) ?_
  refine lv_icmp_ge (tgt := 19) hx hb dX6_landTold_9 (by decide) (fun hq => ?_) (fun hq => ?_)
  · have hf := kpos hq hf
    exact w_X6_landTold_19 V hH (lv_sub hl [1, 2, 3, 0] rfl) hf
  · have hf := kneg hq hf
    exact w_X6_landTold_12 V hH (lv_sub hl [1, 2, 3] rfl) hf
set_option maxHeartbeats 4000000 in
set_option maxRecDepth 100000 in
theorem c_X6_landTold (l : Launch) {D : va_G} {cI cZ cO : ClassId} {ad : Nat → Nat} {k mo : kS} (v1 : Int32) (v2 : Int32) {out : (Int32 × kS)} (hf : F_X6_landTold v1 v2 mo = some out) (sz : Nat) : Met l yX6_landTold (Cond.code yX6_landTold cX6_landTold 4 (some .int) :: kWA) rm_X6_landTold (kP [.ref (ad 7), .int v1, .int v2] D cI cZ cO ad (kE ad cI cZ cO k mo) sz) (kQi out.1 D cI cZ cO ad (kE ad cI cZ cO k out.2) sz) 0 0 (fA ad sz) := by
  refine kr_met (as := [.ref (ad 7), .int v1, .int v2]) (bytes := cX6_landTold) (maxL := 4) (rt := (some .int)) (Qc := fun sz => kQi out.1 D cI cZ cO ad (kE ad cI cZ cO k out.2) sz) (lv := [(0, .ref (ad 7)), (1, .int v1), (2, .int v2)]) (by decide +kernel) (Nat.le_of_ble_eq_true rfl) rfl (fun p e s mm below meth c ls V hH hl => ?_) sz
  exact w_X6_landTold_0 V hH (lv_sub hl [0, 1, 2] rfl) hf
end
section
variable {p : Program} {l : Launch} {e : Env} {s : State} {mm : MethodId} {args : Array Value} {below : List Frame} {meth : Method} {c : Code} {D : va_G} {cI cZ cO : ClassId} {ad : Nat → Nat}
abbrev rm_X6_land : Room := { frames := 52, cells := 0, slots := 0, locals := 1288 }
set_option maxHeartbeats 4000000 in
set_option maxRecDepth 100000 in
theorem w_X6_land_36 (V : kV p s mm args meth c cX6_land RX6 3 (some .int) D cI cZ cO) {k : kS} {s0 : Int32} {mo : kS} {H : Heap} {locs : List Loc} {ls : Array Slot} {out : (Int32 × kS)} (hH : kHE s H locs D ad cI cZ cO k mo []) (hl : lv_has ls 3 []) (hf : F_X6_land_36 s0 mo = some out) : W p l e rm_X6_land s mm args below meth c H locs 0 0 (kGi below args s D cI cZ cO ad out.1 k out.2 0 0) (F0 mm 36 ls [.int s0]) := by
  have hx := V.1
  have hb := V.2.1
  cases hf
  exact kr_iret V hH dX6_land_36
set_option maxHeartbeats 4000000 in
set_option maxRecDepth 100000 in
theorem w_X6_land_22 (V : kV p s mm args meth c cX6_land RX6 3 (some .int) D cI cZ cO) {k : kS} {v1 : Int32} {v2 : Int32} {mo : kS} {H : Heap} {locs : List Loc} {ls : Array Slot} {out : (Int32 × kS)} (hH : kHE s H locs D ad cI cZ cO k mo []) (hl : lv_has ls 3 [(0, .ref (ad 7)), (1, .int v1), (2, .int v2)]) (hf : F_X6_land_22 v1 v2 mo = some out) : W p l e rm_X6_land s mm args below meth c H locs 0 0 (kGi below args s D cI cZ cO ad out.1 k out.2 0 0) (F0 mm 22 ls []) := by
  have hx := V.1
  have hb := V.2.1
  refine lv_aload_n hx hb dX6_land_22 rfl (lv_at hl 0 rfl) ?_
  refine lv_iload_n hx hb dX6_land_23 rfl (lv_at hl 1 rfl) ?_
  refine lv_iload_n hx hb dX6_land_24 rfl (lv_at hl 2 rfl) ?_
  obtain ⟨x22_1, hx22_1, hf⟩ := kbind hf
  refine kr_calli0 hH (kr_runV (as := [.int v1, .int v2]) (rest := []) (pl := 7) V hH kYX6_landTold kl_X6_144 (c_X6_landTold l _ _ hx22_1 _) rfl rfl ⟨Nat.le_of_ble_eq_true rfl, Nat.le_of_ble_eq_true rfl⟩ (by decide) kE_7 rfl rfl hl.1 (Nat.le_of_ble_eq_true rfl) dX6_land_25 ⟨Nat.le_refl _, Nat.le_refl _⟩ rfl) (fun H locs hH => ?_)
  refine lv_goto (tgt := 36) hx hb dX6_land_28 (by decide) ?_
  exact w_X6_land_36 V hH (lv_sub hl [] rfl) hf
set_option maxHeartbeats 4000000 in
set_option maxRecDepth 100000 in
theorem w_X6_land_31 (V : kV p s mm args meth c cX6_land RX6 3 (some .int) D cI cZ cO) {k : kS} {mo : kS} {H : Heap} {locs : List Loc} {ls : Array Slot} {out : (Int32 × kS)} (hH : kHE s H locs D ad cI cZ cO k mo []) (hl : lv_has ls 3 [(0, .ref (ad 7))]) (hf : F_X6_land_31 mo = some out) : W p l e rm_X6_land s mm args below meth c H locs 0 0 (kGi below args s D cI cZ cO ad out.1 k out.2 0 0) (F0 mm 31 ls []) := by
  have hx := V.1
  have hb := V.2.1
  refine lv_aload_n hx hb dX6_land_31 rfl (lv_at hl 0 rfl) ?_
  refine lv_iconst (v := 1) hx hb dX6_land_32 (by decide) ?_
  obtain ⟨x31_1, hx31_1, hf⟩ := kbind hf
  refine kr_calli0 hH (kr_runV (as := [.int 1]) (rest := []) (pl := 7) V hH kYX6_fail kl_X6_55 (c_X6_fail l _ hx31_1 _) rfl rfl ⟨Nat.le_of_ble_eq_true rfl, Nat.le_of_ble_eq_true rfl⟩ (by decide) kE_7 rfl rfl hl.1 (Nat.le_of_ble_eq_true rfl) dX6_land_33 ⟨Nat.le_refl _, Nat.le_refl _⟩ rfl) (fun H locs hH => ?_)
  exact w_X6_land_36 V hH (lv_sub hl [] rfl) hf
set_option maxHeartbeats 4000000 in
set_option maxRecDepth 100000 in
theorem w_X6_land_13 (V : kV p s mm args meth c cX6_land RX6 3 (some .int) D cI cZ cO) {k : kS} {v1 : Int32} {v2 : Int32} {mo : kS} {H : Heap} {locs : List Loc} {ls : Array Slot} {out : (Int32 × kS)} (hH : kHE s H locs D ad cI cZ cO k mo []) (hl : lv_has ls 3 [(0, .ref (ad 7)), (1, .int v1), (2, .int v2)]) (hf : F_X6_land_13 v1 v2 mo = some out) : W p l e rm_X6_land s mm args below meth c H locs 0 0 (kGi below args s D cI cZ cO ad out.1 k out.2 0 0) (F0 mm 13 ls []) := by
  have hx := V.1
  have hb := V.2.1
  refine lv_iload_n hx hb dX6_land_13 rfl (lv_at hl 2 rfl) ?_
  refine lv_iconst (v := 0) hx hb dX6_land_14 (by decide) ?_
  refine lv_iconst (v := 5) hx hb dX6_land_15 (by decide) ?_
  obtain ⟨x13_1, hx13_1, hf⟩ := kbind hf
  refine kr_calli0 hH (kr_runS (as := [.int v2, .int 0, .int 5]) (rest := []) V hH kYX6_isIn kl_X6_38 (c_X6_isIn l _ _ _ hx13_1 _) rfl rfl ⟨Nat.le_of_ble_eq_true rfl, Nat.le_of_ble_eq_true rfl⟩ rfl hl.1 (Nat.le_of_ble_eq_true rfl) dX6_land_16 ⟨Nat.le_refl _, Nat.le_refl _⟩ rfl) (fun H locs hH => ?_)
  refine lv_if_eq (tgt := 31) hx hb dX6_land_19 (by decide) (fun hq => ?_) (fun hq => ?_)
  · have hf := kpos hq hf
    exact w_X6_land_31 V hH (lv_sub hl [0] rfl) hf
  · have hf := kneg hq hf
    exact w_X6_land_22 V hH (lv_sub hl [0, 1, 2] rfl) hf
set_option maxHeartbeats 4000000 in
set_option maxRecDepth 100000 in
theorem w_X6_land_0 (V : kV p s mm args meth c cX6_land RX6 3 (some .int) D cI cZ cO) {k : kS} {v1 : Int32} {v2 : Int32} {mo : kS} {H : Heap} {locs : List Loc} {ls : Array Slot} {out : (Int32 × kS)} (hH : kHE s H locs D ad cI cZ cO k mo []) (hl : lv_has ls 3 [(0, .ref (ad 7)), (1, .int v1), (2, .int v2)]) (hf : F_X6_land_0 v1 v2 mo = some out) : W p l e rm_X6_land s mm args below meth c H locs 0 0 (kGi below args s D cI cZ cO ad out.1 k out.2 0 0) (F0 mm 0 ls []) := by
  have hx := V.1
  have hb := V.2.1
  refine lv_aload_n hx hb dX6_land_0 rfl (lv_at hl 0 rfl) ?_
  refine lv_iconst (v := 0) hx hb dX6_land_1 (by decide) ?_
  refine kp_X6_31 V hH dX6_land_2 (fun H locs hH => ?_)
  refine lv_aload_n hx hb dX6_land_5 rfl (lv_at hl 0 rfl) ?_
  refine lv_iload_n hx hb dX6_land_6 rfl (lv_at hl 1 rfl) ?_
  obtain ⟨x0_1, hx0_1, hf⟩ := kbind hf
  refine kr_calli0 hH (kr_runV (as := [.int v1]) (rest := []) (pl := 7) V hH kYX6_isLand kl_X6_74 (c_X6_isLand l _ hx0_1 _) rfl rfl ⟨Nat.le_of_ble_eq_true rfl, Nat.le_of_ble_eq_true rfl⟩ (by decide) kE_7 rfl rfl hl.1 (Nat.le_of_ble_eq_true rfl) dX6_land_7 ⟨Nat.le_refl _, Nat.le_refl _⟩ rfl) (fun H locs hH => ?_)
  refine lv_if_eq (tgt := 31) hx hb dX6_land_10 (by decide) (fun hq => ?_) (fun hq => ?_)
  · have hf := kpos hq hf
    exact w_X6_land_31 V hH (lv_sub hl [0] rfl) hf
  · have hf := kneg hq hf
    exact w_X6_land_13 V hH (lv_sub hl [0, 1, 2] rfl) hf
set_option maxHeartbeats 4000000 in
set_option maxRecDepth 100000 in
theorem c_X6_land (l : Launch) {D : va_G} {cI cZ cO : ClassId} {ad : Nat → Nat} {k mo : kS} (v1 : Int32) (v2 : Int32) {out : (Int32 × kS)} (hf : F_X6_land v1 v2 mo = some out) (sz : Nat) : Met l yX6_land (Cond.code yX6_land cX6_land 3 (some .int) :: kWA) rm_X6_land (kP [.ref (ad 7), .int v1, .int v2] D cI cZ cO ad (kE ad cI cZ cO k mo) sz) (kQi out.1 D cI cZ cO ad (kE ad cI cZ cO k out.2) sz) 0 0 (fA ad sz) := by
  refine kr_met (as := [.ref (ad 7), .int v1, .int v2]) (bytes := cX6_land) (maxL := 3) (rt := (some .int)) (Qc := fun sz => kQi out.1 D cI cZ cO ad (kE ad cI cZ cO k out.2) sz) (lv := [(0, .ref (ad 7)), (1, .int v1), (2, .int v2)]) (by decide +kernel) (Nat.le_of_ble_eq_true rfl) rfl (fun p e s mm below meth c ls V hH hl => ?_) sz
  exact w_X6_land_0 V hH (lv_sub hl [0, 1, 2] rfl) hf
end
section
variable {p : Program} {l : Launch} {e : Env} {s : State} {mm : MethodId} {args : Array Value} {below : List Frame} {meth : Method} {c : Code} {D : va_G} {cI cZ cO : ClassId} {ad : Nat → Nat}
abbrev rm_X6_kept : Room := { frames := 1, cells := 0, slots := 0, locals := 40 }
set_option maxHeartbeats 4000000 in
set_option maxRecDepth 100000 in
theorem w_X6_kept_0 (V : kV p s mm args meth c cX6_kept RX6 2 (some .int) D cI cZ cO) {k mo : kS} {v1 : Int32} {H : Heap} {locs : List Loc} {ls : Array Slot} {out : Int32} (hH : kHE s H locs D ad cI cZ cO k mo []) (hl : lv_has ls 2 [(0, .ref (ad 7)), (1, .int v1)]) (hf : F_X6_kept_0 mo v1 = some out) : W p l e rm_X6_kept s mm args below meth c H locs 0 0 (kGi below args s D cI cZ cO ad out k mo 0 0) (F0 mm 0 ls []) := by
  have hx := V.1
  have hb := V.2.1
  refine lv_bipush (v := 15) hx hb dX6_kept_0 (by decide) ?_
  refine lv_aload_n hx hb dX6_kept_2 rfl (lv_at hl 0 rfl) ?_
  refine lv_iload_n hx hb dX6_kept_3 rfl (lv_at hl 1 rfl) ?_
  refine lv_iconst (v := 3) hx hb dX6_kept_4 (by decide) ?_
  obtain ⟨x0_1, hx0_1, hf⟩ := kbind hf
  refine kr_calli0 hH (kr_runV (as := [.int v1, .int 3]) (rest := [.int 15]) (pl := 7) V hH kYX6_la kl_X6_77 (c_X6_la l _ _ hx0_1 _) rfl rfl ⟨Nat.le_of_ble_eq_true rfl, Nat.le_of_ble_eq_true rfl⟩ (by decide) kE_7 rfl rfl hl.1 (Nat.le_of_ble_eq_true rfl) dX6_kept_5 ⟨Nat.le_refl _, Nat.le_refl _⟩ rfl) (fun H locs hH => ?_)
  refine kr_mn V hl.1 kl_X6_80 (Nat.le_of_ble_eq_true rfl) (Nat.le_of_ble_eq_true rfl) (Nat.le_of_ble_eq_true rfl) (Nat.le_of_ble_eq_true rfl) dX6_kept_8 ?_
  cases hf
  exact kr_iret V hH dX6_kept_11
set_option maxHeartbeats 4000000 in
set_option maxRecDepth 100000 in
theorem c_X6_kept (l : Launch) {D : va_G} {cI cZ cO : ClassId} {ad : Nat → Nat} {k mo : kS} (v1 : Int32) {out : Int32} (hf : F_X6_kept mo v1 = some out) (sz : Nat) : Met l yX6_kept (Cond.code yX6_kept cX6_kept 2 (some .int) :: kWA) rm_X6_kept (kP [.ref (ad 7), .int v1] D cI cZ cO ad (kE ad cI cZ cO k mo) sz) (kQi out D cI cZ cO ad (kE ad cI cZ cO k mo) sz) 0 0 (fA ad sz) := by
  refine kr_met (as := [.ref (ad 7), .int v1]) (bytes := cX6_kept) (maxL := 2) (rt := (some .int)) (Qc := fun sz => kQi out D cI cZ cO ad (kE ad cI cZ cO k mo) sz) (lv := [(0, .ref (ad 7)), (1, .int v1)]) (by decide +kernel) (Nat.le_of_ble_eq_true rfl) rfl (fun p e s mm below meth c ls V hH hl => ?_) sz
  exact w_X6_kept_0 V hH (lv_sub hl [0, 1] rfl) hf
end
section
variable {p : Program} {l : Launch} {e : Env} {s : State} {mm : MethodId} {args : Array Value} {below : List Frame} {meth : Method} {c : Code} {D : va_G} {cI cZ cO : ClassId} {ad : Nat → Nat}
abbrev rm_X6_ruled : Room := { frames := 2, cells := 0, slots := 0, locals := 61 }
set_option maxHeartbeats 4000000 in
set_option maxRecDepth 100000 in
theorem w_X6_ruled_47 (V : kV p s mm args meth c cX6_ruled RX6 3 (some .int) D cI cZ cO) {k : kS} {s0 : Int32} {mo : kS} {H : Heap} {locs : List Loc} {ls : Array Slot} {out : (Int32 × kS)} (hH : kHE s H locs D ad cI cZ cO k mo []) (hl : lv_has ls 3 []) (hf : F_X6_ruled_47 s0 mo = some out) : W p l e rm_X6_ruled s mm args below meth c H locs 0 0 (kGi below args s D cI cZ cO ad out.1 k out.2 0 0) (F0 mm 47 ls [.int s0]) := by
  have hx := V.1
  have hb := V.2.1
  cases hf
  exact kr_iret V hH dX6_ruled_47
set_option maxHeartbeats 4000000 in
set_option maxRecDepth 100000 in
theorem w_X6_ruled_28 (V : kV p s mm args meth c cX6_ruled RX6 3 (some .int) D cI cZ cO) {k : kS} {v1 : Int32} {v2 : Int32} {mo : kS} {H : Heap} {locs : List Loc} {ls : Array Slot} {out : (Int32 × kS)} (hH : kHE s H locs D ad cI cZ cO k mo []) (hl : lv_has ls 3 [(0, .ref (ad 7)), (1, .int v1), (2, .int v2)]) (hf : F_X6_ruled_28 v1 v2 mo = some out) : W p l e rm_X6_ruled s mm args below meth c H locs 0 0 (kGi below args s D cI cZ cO ad out.1 k out.2 0 0) (F0 mm 28 ls []) := by
  have hx := V.1
  have hb := V.2.1
  refine lv_aload_n hx hb dX6_ruled_28 rfl (lv_at hl 0 rfl) ?_
  refine kg_X6_16 V hH dX6_ruled_29 ?_
  refine lv_bipush (v := 15) hx hb dX6_ruled_32 (by decide) ?_
  refine lv_iload_n hx hb dX6_ruled_34 rfl (lv_at hl 1 rfl) ?_
  refine lv_imul hx hb dX6_ruled_35 ?_
  refine lv_iload_n hx hb dX6_ruled_36 rfl (lv_at hl 2 rfl) ?_
  refine lv_iadd hx hb dX6_ruled_37 ?_
  obtain ⟨h28_1, hf⟩ := kif hf
  refine kr_iald V hH (q := 10) (by decide) kE_10 h28_1 dX6_ruled_38 ?_
  refine lv_goto (tgt := 47) hx hb dX6_ruled_39 (by decide) ?_
  exact w_X6_ruled_47 V hH (lv_sub hl [] rfl) hf
set_option maxHeartbeats 4000000 in
set_option maxRecDepth 100000 in
theorem w_X6_ruled_42 (V : kV p s mm args meth c cX6_ruled RX6 3 (some .int) D cI cZ cO) {k : kS} {mo : kS} {H : Heap} {locs : List Loc} {ls : Array Slot} {out : (Int32 × kS)} (hH : kHE s H locs D ad cI cZ cO k mo []) (hl : lv_has ls 3 [(0, .ref (ad 7))]) (hf : F_X6_ruled_42 mo = some out) : W p l e rm_X6_ruled s mm args below meth c H locs 0 0 (kGi below args s D cI cZ cO ad out.1 k out.2 0 0) (F0 mm 42 ls []) := by
  have hx := V.1
  have hb := V.2.1
  refine lv_aload_n hx hb dX6_ruled_42 rfl (lv_at hl 0 rfl) ?_
  refine lv_iconst (v := 1) hx hb dX6_ruled_43 (by decide) ?_
  obtain ⟨x42_1, hx42_1, hf⟩ := kbind hf
  refine kr_calli0 hH (kr_runV (as := [.int 1]) (rest := []) (pl := 7) V hH kYX6_fail kl_X6_55 (c_X6_fail l _ hx42_1 _) rfl rfl ⟨Nat.le_of_ble_eq_true rfl, Nat.le_of_ble_eq_true rfl⟩ (by decide) kE_7 rfl rfl hl.1 (Nat.le_of_ble_eq_true rfl) dX6_ruled_44 ⟨Nat.le_refl _, Nat.le_refl _⟩ rfl) (fun H locs hH => ?_)
  exact w_X6_ruled_47 V hH (lv_sub hl [] rfl) hf
set_option maxHeartbeats 4000000 in
set_option maxRecDepth 100000 in
theorem w_X6_ruled_13 (V : kV p s mm args meth c cX6_ruled RX6 3 (some .int) D cI cZ cO) {k : kS} {v1 : Int32} {v2 : Int32} {mo : kS} {H : Heap} {locs : List Loc} {ls : Array Slot} {out : (Int32 × kS)} (hH : kHE s H locs D ad cI cZ cO k mo []) (hl : lv_has ls 3 [(0, .ref (ad 7)), (1, .int v1), (2, .int v2)]) (hf : F_X6_ruled_13 v1 v2 mo = some out) : W p l e rm_X6_ruled s mm args below meth c H locs 0 0 (kGi below args s D cI cZ cO ad out.1 k out.2 0 0) (F0 mm 13 ls []) := by
  have hx := V.1
  have hb := V.2.1
  refine lv_iload_n hx hb dX6_ruled_13 rfl (lv_at hl 2 rfl) ?_
  refine lv_iconst (v := 0) hx hb dX6_ruled_14 (by decide) ?_
  refine lv_aload_n hx hb dX6_ruled_15 rfl (lv_at hl 0 rfl) ?_
  refine lv_iload_n hx hb dX6_ruled_16 rfl (lv_at hl 1 rfl) ?_
  obtain ⟨x13_1, hx13_1, hf⟩ := kbind hf
  refine kr_calli0 hH (kr_runV (as := [.int v1]) (rest := [.int 0, .int v2]) (pl := 7) V hH kYX6_kept kl_X6_147 (c_X6_kept l _ hx13_1 _) rfl rfl ⟨Nat.le_of_ble_eq_true rfl, Nat.le_of_ble_eq_true rfl⟩ (by decide) kE_7 rfl rfl hl.1 (Nat.le_of_ble_eq_true rfl) dX6_ruled_17 ⟨Nat.le_refl _, Nat.le_refl _⟩ rfl) (fun H locs hH => ?_)
  refine lv_iconst (v := 1) hx hb dX6_ruled_20 (by decide) ?_
  refine lv_isub hx hb dX6_ruled_21 ?_
  obtain ⟨x13_2, hx13_2, hf⟩ := kbind hf
  refine kr_calli0 hH (kr_runS (as := [.int v2, .int 0, .int (x13_1 - 1)]) (rest := []) V hH kYX6_isIn kl_X6_38 (c_X6_isIn l _ _ _ hx13_2 _) rfl rfl ⟨Nat.le_of_ble_eq_true rfl, Nat.le_of_ble_eq_true rfl⟩ rfl hl.1 (Nat.le_of_ble_eq_true rfl) dX6_ruled_22 ⟨Nat.le_refl _, Nat.le_refl _⟩ rfl) (fun H locs hH => ?_)
  refine lv_if_eq (tgt := 42) hx hb dX6_ruled_25 (by decide) (fun hq => ?_) (fun hq => ?_)
  · have hf := kpos hq hf
    exact w_X6_ruled_42 V hH (lv_sub hl [0] rfl) hf
  · have hf := kneg hq hf
    exact w_X6_ruled_28 V hH (lv_sub hl [0, 1, 2] rfl) hf
set_option maxHeartbeats 4000000 in
set_option maxRecDepth 100000 in
theorem w_X6_ruled_0 (V : kV p s mm args meth c cX6_ruled RX6 3 (some .int) D cI cZ cO) {k : kS} {v1 : Int32} {v2 : Int32} {mo : kS} {H : Heap} {locs : List Loc} {ls : Array Slot} {out : (Int32 × kS)} (hH : kHE s H locs D ad cI cZ cO k mo []) (hl : lv_has ls 3 [(0, .ref (ad 7)), (1, .int v1), (2, .int v2)]) (hf : F_X6_ruled_0 v1 v2 mo = some out) : W p l e rm_X6_ruled s mm args below meth c H locs 0 0 (kGi below args s D cI cZ cO ad out.1 k out.2 0 0) (F0 mm 0 ls []) := by
  have hx := V.1
  have hb := V.2.1
  refine lv_aload_n hx hb dX6_ruled_0 rfl (lv_at hl 0 rfl) ?_
  refine lv_iconst (v := 0) hx hb dX6_ruled_1 (by decide) ?_
  refine kp_X6_31 V hH dX6_ruled_2 (fun H locs hH => ?_)
  refine lv_aload_n hx hb dX6_ruled_5 rfl (lv_at hl 0 rfl) ?_
  refine lv_iload_n hx hb dX6_ruled_6 rfl (lv_at hl 1 rfl) ?_
  obtain ⟨x0_1, hx0_1, hf⟩ := kbind hf
  refine kr_calli0 hH (kr_runV (as := [.int v1]) (rest := []) (pl := 7) V hH kYX6_isLand kl_X6_74 (c_X6_isLand l _ hx0_1 _) rfl rfl ⟨Nat.le_of_ble_eq_true rfl, Nat.le_of_ble_eq_true rfl⟩ (by decide) kE_7 rfl rfl hl.1 (Nat.le_of_ble_eq_true rfl) dX6_ruled_7 ⟨Nat.le_refl _, Nat.le_refl _⟩ rfl) (fun H locs hH => ?_)
  refine lv_if_eq (tgt := 42) hx hb dX6_ruled_10 (by decide) (fun hq => ?_) (fun hq => ?_)
  · have hf := kpos hq hf
    exact w_X6_ruled_42 V hH (lv_sub hl [0] rfl) hf
  · have hf := kneg hq hf
    exact w_X6_ruled_13 V hH (lv_sub hl [0, 1, 2] rfl) hf
set_option maxHeartbeats 4000000 in
set_option maxRecDepth 100000 in
theorem c_X6_ruled (l : Launch) {D : va_G} {cI cZ cO : ClassId} {ad : Nat → Nat} {k mo : kS} (v1 : Int32) (v2 : Int32) {out : (Int32 × kS)} (hf : F_X6_ruled v1 v2 mo = some out) (sz : Nat) : Met l yX6_ruled (Cond.code yX6_ruled cX6_ruled 3 (some .int) :: kWA) rm_X6_ruled (kP [.ref (ad 7), .int v1, .int v2] D cI cZ cO ad (kE ad cI cZ cO k mo) sz) (kQi out.1 D cI cZ cO ad (kE ad cI cZ cO k out.2) sz) 0 0 (fA ad sz) := by
  refine kr_met (as := [.ref (ad 7), .int v1, .int v2]) (bytes := cX6_ruled) (maxL := 3) (rt := (some .int)) (Qc := fun sz => kQi out.1 D cI cZ cO ad (kE ad cI cZ cO k out.2) sz) (lv := [(0, .ref (ad 7)), (1, .int v1), (2, .int v2)]) (by decide +kernel) (Nat.le_of_ble_eq_true rfl) rfl (fun p e s mm below meth c ls V hH hl => ?_) sz
  exact w_X6_ruled_0 V hH (lv_sub hl [0, 1, 2] rfl) hf
end
section
variable {p : Program} {l : Launch} {e : Env} {s : State} {mm : MethodId} {args : Array Value} {below : List Frame} {meth : Method} {c : Code} {D : va_G} {cI cZ cO : ClassId} {ad : Nat → Nat}
abbrev rm_X6_related : Room := { frames := 3, cells := 0, slots := 0, locals := 87 }
set_option maxHeartbeats 4000000 in
set_option maxRecDepth 100000 in
theorem w_X6_related_21 (V : kV p s mm args meth c cX6_related RX6 3 (some .int) D cI cZ cO) {k : kS} {mo : kS} {H : Heap} {locs : List Loc} {ls : Array Slot} {out : (Int32 × kS)} (hH : kHE s H locs D ad cI cZ cO k mo []) (hl : lv_has ls 3 [(0, .ref (ad 7))]) (hf : F_X6_related_21 mo = some out) : W p l e rm_X6_related s mm args below meth c H locs 0 0 (kGi below args s D cI cZ cO ad out.1 k out.2 0 0) (F0 mm 21 ls []) := by
  have hx := V.1
  have hb := V.2.1
  refine lv_aload_n hx hb dX6_related_21 rfl (lv_at hl 0 rfl) ?_
  refine lv_iconst (v := 1) hx hb dX6_related_22 (by decide) ?_
  obtain ⟨x21_1, hx21_1, hf⟩ := kbind hf
  refine kr_calli0 hH (kr_runV (as := [.int 1]) (rest := []) (pl := 7) V hH kYX6_fail kl_X6_55 (c_X6_fail l _ hx21_1 _) rfl rfl ⟨Nat.le_of_ble_eq_true rfl, Nat.le_of_ble_eq_true rfl⟩ (by decide) kE_7 rfl rfl hl.1 (Nat.le_of_ble_eq_true rfl) dX6_related_23 ⟨Nat.le_refl _, Nat.le_refl _⟩ rfl) (fun H locs hH => ?_)
  cases hf
  exact kr_iret V hH dX6_related_26
set_option maxHeartbeats 4000000 in
set_option maxRecDepth 100000 in
theorem w_X6_related_49 (V : kV p s mm args meth c cX6_related RX6 3 (some .int) D cI cZ cO) {k : kS} {s0 : Int32} {mo : kS} {H : Heap} {locs : List Loc} {ls : Array Slot} {out : (Int32 × kS)} (hH : kHE s H locs D ad cI cZ cO k mo []) (hl : lv_has ls 3 []) (hf : F_X6_related_49 s0 mo = some out) : W p l e rm_X6_related s mm args below meth c H locs 0 0 (kGi below args s D cI cZ cO ad out.1 k out.2 0 0) (F0 mm 49 ls [.int s0]) := by
  have hx := V.1
  have hb := V.2.1
  cases hf
  exact kr_iret V hH dX6_related_49
set_option maxHeartbeats 4000000 in
set_option maxRecDepth 100000 in
theorem w_X6_related_39 (V : kV p s mm args meth c cX6_related RX6 3 (some .int) D cI cZ cO) {k : kS} {mo : kS} {H : Heap} {locs : List Loc} {ls : Array Slot} {out : (Int32 × kS)} (hH : kHE s H locs D ad cI cZ cO k mo []) (hl : lv_has ls 3 []) (hf : F_X6_related_39 mo = some out) : W p l e rm_X6_related s mm args below meth c H locs 0 0 (kGi below args s D cI cZ cO ad out.1 k out.2 0 0) (F0 mm 39 ls []) := by
  have hx := V.1
  have hb := V.2.1
  refine lv_iconst (v := (-1)) hx hb dX6_related_39 (by decide) ?_
  refine lv_goto (tgt := 49) hx hb dX6_related_40 (by decide) ?_
  exact w_X6_related_49 V hH (lv_sub hl [] rfl) hf
set_option maxHeartbeats 4000000 in
set_option maxRecDepth 100000 in
theorem w_X6_related_43 (V : kV p s mm args meth c cX6_related RX6 3 (some .int) D cI cZ cO) {k : kS} {v1 : Int32} {v2 : Int32} {mo : kS} {H : Heap} {locs : List Loc} {ls : Array Slot} {out : (Int32 × kS)} (hH : kHE s H locs D ad cI cZ cO k mo []) (hl : lv_has ls 3 [(0, .ref (ad 7)), (1, .int v1), (2, .int v2)]) (hf : F_X6_related_43 v1 v2 mo = some out) : W p l e rm_X6_related s mm args below meth c H locs 0 0 (kGi below args s D cI cZ cO ad out.1 k out.2 0 0) (F0 mm 43 ls []) := by
  have hx := V.1
  have hb := V.2.1
  refine lv_aload_n hx hb dX6_related_43 rfl (lv_at hl 0 rfl) ?_
  refine lv_iload_n hx hb dX6_related_44 rfl (lv_at hl 1 rfl) ?_
  refine lv_iload_n hx hb dX6_related_45 rfl (lv_at hl 2 rfl) ?_
  obtain ⟨x43_1, hx43_1, hf⟩ := kbind hf
  refine kr_calli0 hH (kr_runV (as := [.int v1, .int v2]) (rest := []) (pl := 7) V hH kYX6_steps kl_X6_106 (c_X6_steps l _ _ hx43_1 _) rfl rfl ⟨Nat.le_of_ble_eq_true rfl, Nat.le_of_ble_eq_true rfl⟩ (by decide) kE_7 rfl rfl hl.1 (Nat.le_of_ble_eq_true rfl) dX6_related_46 ⟨Nat.le_refl _, Nat.le_refl _⟩ rfl) (fun H locs hH => ?_)
  exact w_X6_related_49 V hH (lv_sub hl [] rfl) hf
set_option maxHeartbeats 4000000 in
set_option maxRecDepth 100000 in
theorem w_X6_related_27 (V : kV p s mm args meth c cX6_related RX6 3 (some .int) D cI cZ cO) {k : kS} {v1 : Int32} {v2 : Int32} {mo : kS} {H : Heap} {locs : List Loc} {ls : Array Slot} {out : (Int32 × kS)} (hH : kHE s H locs D ad cI cZ cO k mo []) (hl : lv_has ls 3 [(0, .ref (ad 7)), (1, .int v1), (2, .int v2)]) (hf : F_X6_related_27 v1 v2 mo = some out) : W p l e rm_X6_related s mm args below meth c H locs 0 0 (kGi below args s D cI cZ cO ad out.1 k out.2 0 0) (F0 mm 27 ls []) := by
  have hx := V.1
  have hb := V.2.1
  refine lv_aload_n hx hb dX6_related_27 rfl (lv_at hl 0 rfl) ?_
  refine lv_iload_n hx hb dX6_related_28 rfl (lv_at hl 1 rfl) ?_
  refine lv_iload_n hx hb dX6_related_29 rfl (lv_at hl 2 rfl) ?_
  obtain ⟨x27_1, hx27_1, hf⟩ := kbind hf
  refine kr_calli0 hH (kr_runV (as := [.int v1, .int v2]) (rest := []) (pl := 7) V hH kYX6_steps kl_X6_106 (c_X6_steps l _ _ hx27_1 _) rfl rfl ⟨Nat.le_of_ble_eq_true rfl, Nat.le_of_ble_eq_true rfl⟩ (by decide) kE_7 rfl rfl hl.1 (Nat.le_of_ble_eq_true rfl) dX6_related_30 ⟨Nat.le_refl _, Nat.le_refl _⟩ rfl) (fun H locs hH => ?_)
  refine lv_sipush (v := 999) hx hb dX6_related_33 (by decide) ?_
  refine lv_icmp_ne (tgt := 43) hx hb dX6_related_36 (by decide) (fun hq => ?_) (fun hq => ?_)
  · have hf := kneg hq hf
    exact w_X6_related_43 V hH (lv_sub hl [0, 1, 2] rfl) hf
  · have hf := kpos hq hf
    exact w_X6_related_39 V hH (lv_sub hl [] rfl) hf
set_option maxHeartbeats 4000000 in
set_option maxRecDepth 100000 in
theorem w_X6_related_13 (V : kV p s mm args meth c cX6_related RX6 3 (some .int) D cI cZ cO) {k : kS} {v1 : Int32} {v2 : Int32} {mo : kS} {H : Heap} {locs : List Loc} {ls : Array Slot} {out : (Int32 × kS)} (hH : kHE s H locs D ad cI cZ cO k mo []) (hl : lv_has ls 3 [(0, .ref (ad 7)), (1, .int v1), (2, .int v2)]) (hf : F_X6_related_13 v1 v2 mo = some out) : W p l e rm_X6_related s mm args below meth c H locs 0 0 (kGi below args s D cI cZ cO ad out.1 k out.2 0 0) (F0 mm 13 ls []) := by
  have hx := V.1
  have hb := V.2.1
  refine lv_aload_n hx hb dX6_related_13 rfl (lv_at hl 0 rfl) ?_
  refine lv_iload_n hx hb dX6_related_14 rfl (lv_at hl 2 rfl) ?_
  obtain ⟨x13_1, hx13_1, hf⟩ := kbind hf
  refine kr_calli0 hH (kr_runV (as := [.int v2]) (rest := []) (pl := 7) V hH kYX6_isPerson kl_X6_63 (c_X6_isPerson l _ hx13_1 _) rfl rfl ⟨Nat.le_of_ble_eq_true rfl, Nat.le_of_ble_eq_true rfl⟩ (by decide) kE_7 rfl rfl hl.1 (Nat.le_of_ble_eq_true rfl) dX6_related_15 ⟨Nat.le_refl _, Nat.le_refl _⟩ rfl) (fun H locs hH => ?_)
  refine lv_if_ne (tgt := 27) hx hb dX6_related_18 (by decide) (fun hq => ?_) (fun hq => ?_)
  · have hf := kneg hq hf
    exact w_X6_related_27 V hH (lv_sub hl [0, 1, 2] rfl) hf
  · have hf := kpos hq hf
    exact w_X6_related_21 V hH (lv_sub hl [0] rfl) hf
set_option maxHeartbeats 4000000 in
set_option maxRecDepth 100000 in
theorem w_X6_related_0 (V : kV p s mm args meth c cX6_related RX6 3 (some .int) D cI cZ cO) {k : kS} {v1 : Int32} {v2 : Int32} {mo : kS} {H : Heap} {locs : List Loc} {ls : Array Slot} {out : (Int32 × kS)} (hH : kHE s H locs D ad cI cZ cO k mo []) (hl : lv_has ls 3 [(0, .ref (ad 7)), (1, .int v1), (2, .int v2)]) (hf : F_X6_related_0 v1 v2 mo = some out) : W p l e rm_X6_related s mm args below meth c H locs 0 0 (kGi below args s D cI cZ cO ad out.1 k out.2 0 0) (F0 mm 0 ls []) := by
  have hx := V.1
  have hb := V.2.1
  refine lv_aload_n hx hb dX6_related_0 rfl (lv_at hl 0 rfl) ?_
  refine lv_iconst (v := 0) hx hb dX6_related_1 (by decide) ?_
  refine kp_X6_31 V hH dX6_related_2 (fun H locs hH => ?_)
  refine lv_aload_n hx hb dX6_related_5 rfl (lv_at hl 0 rfl) ?_
  refine lv_iload_n hx hb dX6_related_6 rfl (lv_at hl 1 rfl) ?_
  obtain ⟨x0_1, hx0_1, hf⟩ := kbind hf
  refine kr_calli0 hH (kr_runV (as := [.int v1]) (rest := []) (pl := 7) V hH kYX6_isPerson kl_X6_63 (c_X6_isPerson l _ hx0_1 _) rfl rfl ⟨Nat.le_of_ble_eq_true rfl, Nat.le_of_ble_eq_true rfl⟩ (by decide) kE_7 rfl rfl hl.1 (Nat.le_of_ble_eq_true rfl) dX6_related_7 ⟨Nat.le_refl _, Nat.le_refl _⟩ rfl) (fun H locs hH => ?_)
  refine lv_if_eq (tgt := 21) hx hb dX6_related_10 (by decide) (fun hq => ?_) (fun hq => ?_)
  · have hf := kpos hq hf
    exact w_X6_related_21 V hH (lv_sub hl [0] rfl) hf
  · have hf := kneg hq hf
    exact w_X6_related_13 V hH (lv_sub hl [0, 1, 2] rfl) hf
set_option maxHeartbeats 4000000 in
set_option maxRecDepth 100000 in
theorem c_X6_related (l : Launch) {D : va_G} {cI cZ cO : ClassId} {ad : Nat → Nat} {k mo : kS} (v1 : Int32) (v2 : Int32) {out : (Int32 × kS)} (hf : F_X6_related v1 v2 mo = some out) (sz : Nat) : Met l yX6_related (Cond.code yX6_related cX6_related 3 (some .int) :: kWA) rm_X6_related (kP [.ref (ad 7), .int v1, .int v2] D cI cZ cO ad (kE ad cI cZ cO k mo) sz) (kQi out.1 D cI cZ cO ad (kE ad cI cZ cO k out.2) sz) 0 0 (fA ad sz) := by
  refine kr_met (as := [.ref (ad 7), .int v1, .int v2]) (bytes := cX6_related) (maxL := 3) (rt := (some .int)) (Qc := fun sz => kQi out.1 D cI cZ cO ad (kE ad cI cZ cO k out.2) sz) (lv := [(0, .ref (ad 7)), (1, .int v1), (2, .int v2)]) (by decide +kernel) (Nat.le_of_ble_eq_true rfl) rfl (fun p e s mm below meth c ls V hH hl => ?_) sz
  exact w_X6_related_0 V hH (lv_sub hl [0, 1, 2] rfl) hf
end
section
variable {p : Program} {l : Launch} {e : Env} {s : State} {mm : MethodId} {args : Array Value} {below : List Frame} {meth : Method} {c : Code} {D : va_G} {cI cZ cO : ClassId} {ad : Nat → Nat}
abbrev rm_X6_rulesNow : Room := { frames := 3, cells := 0, slots := 0, locals := 69 }
set_option maxHeartbeats 4000000 in
set_option maxRecDepth 100000 in
theorem w_X6_rulesNow_15 (V : kV p s mm args meth c cX6_rulesNow RX6 2 (some .boolean) D cI cZ cO) {k mo : kS} {s0 : Int32} {H : Heap} {locs : List Loc} {ls : Array Slot} {out : Int32} (hH : kHE s H locs D ad cI cZ cO k mo []) (hl : lv_has ls 2 []) (hf : F_X6_rulesNow_15 mo s0 = some out) : W p l e rm_X6_rulesNow s mm args below meth c H locs 0 0 (kGi below args s D cI cZ cO ad out k mo 0 0) (F0 mm 15 ls [.int s0]) := by
  have hx := V.1
  have hb := V.2.1
  obtain ⟨h15_1, hf⟩ := kif hf
  cases hf
  exact kr_zret V hH (Decidable.not_not.mp h15_1) dX6_rulesNow_15
set_option maxHeartbeats 4000000 in
set_option maxRecDepth 100000 in
theorem w_X6_rulesNow_10 (V : kV p s mm args meth c cX6_rulesNow RX6 2 (some .boolean) D cI cZ cO) {k mo : kS} {H : Heap} {locs : List Loc} {ls : Array Slot} {out : Int32} (hH : kHE s H locs D ad cI cZ cO k mo []) (hl : lv_has ls 2 []) (hf : F_X6_rulesNow_10 mo = some out) : W p l e rm_X6_rulesNow s mm args below meth c H locs 0 0 (kGi below args s D cI cZ cO ad out k mo 0 0) (F0 mm 10 ls []) := by
  have hx := V.1
  have hb := V.2.1
  refine lv_iconst (v := 1) hx hb dX6_rulesNow_10 (by decide) ?_
  refine lv_goto (tgt := 15) hx hb dX6_rulesNow_11 (by decide) ?_
  exact w_X6_rulesNow_15 V hH (lv_sub hl [] rfl) hf
set_option maxHeartbeats 4000000 in
set_option maxRecDepth 100000 in
theorem w_X6_rulesNow_14 (V : kV p s mm args meth c cX6_rulesNow RX6 2 (some .boolean) D cI cZ cO) {k mo : kS} {H : Heap} {locs : List Loc} {ls : Array Slot} {out : Int32} (hH : kHE s H locs D ad cI cZ cO k mo []) (hl : lv_has ls 2 []) (hf : F_X6_rulesNow_14 mo = some out) : W p l e rm_X6_rulesNow s mm args below meth c H locs 0 0 (kGi below args s D cI cZ cO ad out k mo 0 0) (F0 mm 14 ls []) := by
  have hx := V.1
  have hb := V.2.1
  refine lv_iconst (v := 0) hx hb dX6_rulesNow_14 (by decide) ?_
  exact w_X6_rulesNow_15 V hH (lv_sub hl [] rfl) hf
set_option maxHeartbeats 4000000 in
set_option maxRecDepth 100000 in
theorem w_X6_rulesNow_0 (V : kV p s mm args meth c cX6_rulesNow RX6 2 (some .boolean) D cI cZ cO) {k mo : kS} {v1 : Int32} {H : Heap} {locs : List Loc} {ls : Array Slot} {out : Int32} (hH : kHE s H locs D ad cI cZ cO k mo []) (hl : lv_has ls 2 [(0, .ref (ad 7)), (1, .int v1)]) (hf : F_X6_rulesNow_0 mo v1 = some out) : W p l e rm_X6_rulesNow s mm args below meth c H locs 0 0 (kGi below args s D cI cZ cO ad out k mo 0 0) (F0 mm 0 ls []) := by
  have hx := V.1
  have hb := V.2.1
  refine lv_aload_n hx hb dX6_rulesNow_0 rfl (lv_at hl 0 rfl) ?_
  refine lv_iload_n hx hb dX6_rulesNow_1 rfl (lv_at hl 1 rfl) ?_
  refine lv_bipush (v := 7) hx hb dX6_rulesNow_2 (by decide) ?_
  obtain ⟨x0_1, hx0_1, hf⟩ := kbind hf
  refine kr_calli0 hH (kr_runV (as := [.int v1, .int 7]) (rest := []) (pl := 7) V hH kYX6_personTold kl_X6_138 (c_X6_personTold l _ _ hx0_1 _) rfl rfl ⟨Nat.le_of_ble_eq_true rfl, Nat.le_of_ble_eq_true rfl⟩ (by decide) kE_7 rfl rfl hl.1 (Nat.le_of_ble_eq_true rfl) dX6_rulesNow_4 ⟨Nat.le_refl _, Nat.le_refl _⟩ rfl) (fun H locs hH => ?_)
  refine lv_if_le (tgt := 14) hx hb dX6_rulesNow_7 (by decide) (fun hq => ?_) (fun hq => ?_)
  · have hf := kpos hq hf
    exact w_X6_rulesNow_14 V hH (lv_sub hl [] rfl) hf
  · have hf := kneg hq hf
    exact w_X6_rulesNow_10 V hH (lv_sub hl [] rfl) hf
set_option maxHeartbeats 4000000 in
set_option maxRecDepth 100000 in
theorem c_X6_rulesNow (l : Launch) {D : va_G} {cI cZ cO : ClassId} {ad : Nat → Nat} {k mo : kS} (v1 : Int32) {out : Int32} (hf : F_X6_rulesNow mo v1 = some out) (sz : Nat) : Met l yX6_rulesNow (Cond.code yX6_rulesNow cX6_rulesNow 2 (some .boolean) :: kWA) rm_X6_rulesNow (kP [.ref (ad 7), .int v1] D cI cZ cO ad (kE ad cI cZ cO k mo) sz) (kQi out D cI cZ cO ad (kE ad cI cZ cO k mo) sz) 0 0 (fA ad sz) := by
  refine kr_met (as := [.ref (ad 7), .int v1]) (bytes := cX6_rulesNow) (maxL := 2) (rt := (some .boolean)) (Qc := fun sz => kQi out D cI cZ cO ad (kE ad cI cZ cO k mo) sz) (lv := [(0, .ref (ad 7)), (1, .int v1)]) (by decide +kernel) (Nat.le_of_ble_eq_true rfl) rfl (fun p e s mm below meth c ls V hH hl => ?_) sz
  exact w_X6_rulesNow_0 V hH (lv_sub hl [0, 1] rfl) hf
end
section
variable {p : Program} {l : Launch} {e : Env} {s : State} {mm : MethodId} {args : Array Value} {below : List Frame} {meth : Method} {c : Code} {D : va_G} {cI cZ cO : ClassId} {ad : Nat → Nat}
abbrev rm_X6_counted : Room := { frames := 4, cells := 0, slots := 0, locals := 90 }
set_option maxHeartbeats 4000000 in
set_option maxRecDepth 100000 in
theorem w_X6_counted_40 (V : kV p s mm args meth c cX6_counted RX6 4 (some .int) D cI cZ cO) {k mo : kS} {H : Heap} {locs : List Loc} {ls : Array Slot} {out : Int32} (hH : kHE s H locs D ad cI cZ cO k mo []) (hl : lv_has ls 4 [(0, .ref (ad 7))]) (hf : F_X6_counted_40 mo = some out) : W p l e rm_X6_counted s mm args below meth c H locs 0 0 (kGi below args s D cI cZ cO ad out k mo 0 0) (F0 mm 40 ls []) := by
  have hx := V.1
  have hb := V.2.1
  refine lv_aload_n hx hb dX6_counted_40 rfl (lv_at hl 0 rfl) ?_
  refine kg_X6_19 V hH dX6_counted_41 ?_
  refine lv_iconst (v := 0) hx hb dX6_counted_44 (by decide) ?_
  obtain ⟨h40_1, hf⟩ := kif hf
  refine kr_iald V hH (q := 11) (by decide) kE_11 h40_1 dX6_counted_45 ?_
  cases hf
  exact kr_iret V hH dX6_counted_46
set_option maxHeartbeats 4000000 in
set_option maxRecDepth 100000 in
theorem w_X6_counted_47 (V : kV p s mm args meth c cX6_counted RX6 4 (some .int) D cI cZ cO) {k mo : kS} {H : Heap} {locs : List Loc} {ls : Array Slot} {out : Int32} (hH : kHE s H locs D ad cI cZ cO k mo []) (hl : lv_has ls 4 [(0, .ref (ad 7))]) (hf : F_X6_counted_47 mo = some out) : W p l e rm_X6_counted s mm args below meth c H locs 0 0 (kGi below args s D cI cZ cO ad out k mo 0 0) (F0 mm 47 ls []) := by
  have hx := V.1
  have hb := V.2.1
  refine lv_aload_n hx hb dX6_counted_47 rfl (lv_at hl 0 rfl) ?_
  refine kg_X6_35 V hH dX6_counted_48 ?_
  cases hf
  exact kr_iret V hH dX6_counted_51
set_option maxHeartbeats 4000000 in
set_option maxRecDepth 100000 in
theorem w_X6_counted_62 (V : kV p s mm args meth c cX6_counted RX6 4 (some .int) D cI cZ cO) {k mo : kS} {c54 : Int32 → Int32 → Option (Int32)} (hk54 : ∀ {v2 : Int32} {v3 : Int32} {H : Heap} {locs : List Loc} {ls : Array Slot} {out : Int32}, kHE s H locs D ad cI cZ cO k mo [] → lv_has ls 4 [(0, .ref (ad 7)), (2, .int v2), (3, .int v3)] → c54 v2 v3 = some out → W p l e rm_X6_counted s mm args below meth c H locs 0 0 (kGi below args s D cI cZ cO ad out k mo 0 0) (F0 mm 54 ls [])) {v2 : Int32} {v3 : Int32} {H : Heap} {locs : List Loc} {ls : Array Slot} {out : Int32} (hH : kHE s H locs D ad cI cZ cO k mo []) (hl : lv_has ls 4 [(0, .ref (ad 7)), (2, .int v2), (3, .int v3)]) (hf : F_X6_counted_62 mo c54 v2 v3 = some out) : W p l e rm_X6_counted s mm args below meth c H locs 0 0 (kGi below args s D cI cZ cO ad out k mo 0 0) (F0 mm 62 ls []) := by
  have hx := V.1
  have hb := V.2.1
  refine lv_iload_n hx hb dX6_counted_62 rfl (lv_at hl 1 rfl) ?_
  refine lv_aload_n hx hb dX6_counted_63 rfl (lv_at hl 0 rfl) ?_
  refine lv_iload_n hx hb dX6_counted_64 rfl (lv_at hl 2 rfl) ?_
  refine lv_iconst (v := 2) hx hb dX6_counted_65 (by decide) ?_
  obtain ⟨x62_1, hx62_1, hf⟩ := kbind hf
  refine kr_calli0 hH (kr_runV (as := [.int v3, .int 2]) (rest := [.int v2]) (pl := 7) V hH kYX6_pe kl_X6_45 (c_X6_pe l _ _ hx62_1 _) rfl rfl ⟨Nat.le_of_ble_eq_true rfl, Nat.le_of_ble_eq_true rfl⟩ (by decide) kE_7 rfl rfl hl.1 (Nat.le_of_ble_eq_true rfl) dX6_counted_66 ⟨Nat.le_refl _, Nat.le_refl _⟩ rfl) (fun H locs hH => ?_)
  refine lv_iadd hx hb dX6_counted_69 ?_
  refine lv_istore_n (lv' := [(2, .int (v2 + x62_1)), (0, .ref (ad 7)), (3, .int v3)]) hx hb dX6_counted_70 rfl hl (by decide) rfl (fun ls hl => ?_)
  refine lv_iinc (v := (v3 + 1)) (lv' := [(3, .int (v3 + 1)), (2, .int (v2 + x62_1)), (0, .ref (ad 7))]) hx hb dX6_counted_71 hl (k := 2) rfl rfl (by decide) rfl (fun ls hl => ?_)
  refine lv_goto (tgt := 54) hx hb dX6_counted_74 (by decide) ?_
  exact hk54 hH (lv_sub hl [2, 1, 0] rfl) hf
set_option maxHeartbeats 4000000 in
set_option maxRecDepth 100000 in
theorem w_X6_counted_77 (V : kV p s mm args meth c cX6_counted RX6 4 (some .int) D cI cZ cO) {k mo : kS} {v2 : Int32} {H : Heap} {locs : List Loc} {ls : Array Slot} {out : Int32} (hH : kHE s H locs D ad cI cZ cO k mo []) (hl : lv_has ls 4 [(2, .int v2)]) (hf : F_X6_counted_77 mo v2 = some out) : W p l e rm_X6_counted s mm args below meth c H locs 0 0 (kGi below args s D cI cZ cO ad out k mo 0 0) (F0 mm 77 ls []) := by
  have hx := V.1
  have hb := V.2.1
  refine lv_iload_n hx hb dX6_counted_77 rfl (lv_at hl 0 rfl) ?_
  cases hf
  exact kr_iret V hH dX6_counted_78
set_option maxHeartbeats 4000000 in
set_option maxRecDepth 100000 in
theorem w_X6_counted_54 (V : kV p s mm args meth c cX6_counted RX6 4 (some .int) D cI cZ cO) {k mo : kS} : ∀ (n : Nat) {v2 : Int32} {v3 : Int32} {H : Heap} {locs : List Loc} {ls : Array Slot} {out : Int32}, kHE s H locs D ad cI cZ cO k mo [] → lv_has ls 4 [(0, .ref (ad 7)), (2, .int v2), (3, .int v3)] → F_X6_counted_54 mo n v2 v3 = some out → W p l e rm_X6_counted s mm args below meth c H locs 0 0 (kGi below args s D cI cZ cO ad out k mo 0 0) (F0 mm 54 ls []) := by
  have hx := V.1
  have hb := V.2.1
  intro n
  induction n with
  | zero => intro _ _ _ _ _ _ hH hl hf; cases hf
  | succ n hk54 =>
    intro v2 v3 H locs ls out hH hl hf
    refine lv_iload_n hx hb dX6_counted_54 rfl (lv_at hl 2 rfl) ?_
    refine lv_aload_n hx hb dX6_counted_55 rfl (lv_at hl 0 rfl) ?_
    refine kg_X6_35 V hH dX6_counted_56 ?_
    refine lv_icmp_ge (tgt := 77) hx hb dX6_counted_59 (by decide) (fun hq => ?_) (fun hq => ?_)
    · have hf := kpos hq hf
      exact w_X6_counted_77 V hH (lv_sub hl [1] rfl) hf
    · have hf := kneg hq hf
      exact w_X6_counted_62 V hk54 hH (lv_sub hl [0, 1, 2] rfl) hf
set_option maxHeartbeats 4000000 in
set_option maxRecDepth 100000 in
theorem w_X6_counted_52 (V : kV p s mm args meth c cX6_counted RX6 4 (some .int) D cI cZ cO) {k mo : kS} {v2 : Int32} {H : Heap} {locs : List Loc} {ls : Array Slot} {out : Int32} (hH : kHE s H locs D ad cI cZ cO k mo []) (hl : lv_has ls 4 [(0, .ref (ad 7)), (2, .int v2)]) (hf : F_X6_counted_52 mo v2 = some out) : W p l e rm_X6_counted s mm args below meth c H locs 0 0 (kGi below args s D cI cZ cO ad out k mo 0 0) (F0 mm 52 ls []) := by
  have hx := V.1
  have hb := V.2.1
  refine lv_iconst (v := 0) hx hb dX6_counted_52 (by decide) ?_
  refine lv_istore_n (lv' := [(3, .int 0), (0, .ref (ad 7)), (2, .int v2)]) hx hb dX6_counted_53 rfl hl (by decide) rfl (fun ls hl => ?_)
  exact w_X6_counted_54 V kN hH (lv_sub hl [1, 2, 0] rfl) hf
set_option maxHeartbeats 4000000 in
set_option maxRecDepth 100000 in
theorem w_X6_counted_105 (V : kV p s mm args meth c cX6_counted RX6 4 (some .int) D cI cZ cO) {k mo : kS} {c81 : Int32 → Int32 → Option (Int32)} (hk81 : ∀ {v2 : Int32} {v3 : Int32} {H : Heap} {locs : List Loc} {ls : Array Slot} {out : Int32}, kHE s H locs D ad cI cZ cO k mo [] → lv_has ls 4 [(0, .ref (ad 7)), (2, .int v2), (3, .int v3)] → c81 v2 v3 = some out → W p l e rm_X6_counted s mm args below meth c H locs 0 0 (kGi below args s D cI cZ cO ad out k mo 0 0) (F0 mm 81 ls [])) {s0 : Int32} {s1 : Int32} {v3 : Int32} {H : Heap} {locs : List Loc} {ls : Array Slot} {out : Int32} (hH : kHE s H locs D ad cI cZ cO k mo []) (hl : lv_has ls 4 [(0, .ref (ad 7)), (3, .int v3)]) (hf : F_X6_counted_105 mo c81 s0 s1 v3 = some out) : W p l e rm_X6_counted s mm args below meth c H locs 0 0 (kGi below args s D cI cZ cO ad out k mo 0 0) (F0 mm 105 ls [.int s1, .int s0]) := by
  have hx := V.1
  have hb := V.2.1
  refine lv_iadd hx hb dX6_counted_105 ?_
  refine lv_istore_n (lv' := [(2, .int (s0 + s1)), (0, .ref (ad 7)), (3, .int v3)]) hx hb dX6_counted_106 rfl hl (by decide) rfl (fun ls hl => ?_)
  refine lv_iinc (v := (v3 + 1)) (lv' := [(3, .int (v3 + 1)), (2, .int (s0 + s1)), (0, .ref (ad 7))]) hx hb dX6_counted_107 hl (k := 2) rfl rfl (by decide) rfl (fun ls hl => ?_)
  refine lv_goto (tgt := 81) hx hb dX6_counted_110 (by decide) ?_
  exact hk81 hH (lv_sub hl [2, 1, 0] rfl) hf
set_option maxHeartbeats 4000000 in
set_option maxRecDepth 100000 in
theorem w_X6_counted_100 (V : kV p s mm args meth c cX6_counted RX6 4 (some .int) D cI cZ cO) {k mo : kS} {c81 : Int32 → Int32 → Option (Int32)} (hk81 : ∀ {v2 : Int32} {v3 : Int32} {H : Heap} {locs : List Loc} {ls : Array Slot} {out : Int32}, kHE s H locs D ad cI cZ cO k mo [] → lv_has ls 4 [(0, .ref (ad 7)), (2, .int v2), (3, .int v3)] → c81 v2 v3 = some out → W p l e rm_X6_counted s mm args below meth c H locs 0 0 (kGi below args s D cI cZ cO ad out k mo 0 0) (F0 mm 81 ls [])) {s0 : Int32} {v3 : Int32} {H : Heap} {locs : List Loc} {ls : Array Slot} {out : Int32} (hH : kHE s H locs D ad cI cZ cO k mo []) (hl : lv_has ls 4 [(0, .ref (ad 7)), (3, .int v3)]) (hf : F_X6_counted_100 mo c81 s0 v3 = some out) : W p l e rm_X6_counted s mm args below meth c H locs 0 0 (kGi below args s D cI cZ cO ad out k mo 0 0) (F0 mm 100 ls [.int s0]) := by
  have hx := V.1
  have hb := V.2.1
  refine lv_iconst (v := 1) hx hb dX6_counted_100 (by decide) ?_
  refine lv_goto (tgt := 105) hx hb dX6_counted_101 (by decide) ?_
  exact w_X6_counted_105 V hk81 hH (lv_sub hl [0, 1] rfl) hf
set_option maxHeartbeats 4000000 in
set_option maxRecDepth 100000 in
theorem w_X6_counted_104 (V : kV p s mm args meth c cX6_counted RX6 4 (some .int) D cI cZ cO) {k mo : kS} {c81 : Int32 → Int32 → Option (Int32)} (hk81 : ∀ {v2 : Int32} {v3 : Int32} {H : Heap} {locs : List Loc} {ls : Array Slot} {out : Int32}, kHE s H locs D ad cI cZ cO k mo [] → lv_has ls 4 [(0, .ref (ad 7)), (2, .int v2), (3, .int v3)] → c81 v2 v3 = some out → W p l e rm_X6_counted s mm args below meth c H locs 0 0 (kGi below args s D cI cZ cO ad out k mo 0 0) (F0 mm 81 ls [])) {s0 : Int32} {v3 : Int32} {H : Heap} {locs : List Loc} {ls : Array Slot} {out : Int32} (hH : kHE s H locs D ad cI cZ cO k mo []) (hl : lv_has ls 4 [(0, .ref (ad 7)), (3, .int v3)]) (hf : F_X6_counted_104 mo c81 s0 v3 = some out) : W p l e rm_X6_counted s mm args below meth c H locs 0 0 (kGi below args s D cI cZ cO ad out k mo 0 0) (F0 mm 104 ls [.int s0]) := by
  have hx := V.1
  have hb := V.2.1
  refine lv_iconst (v := 0) hx hb dX6_counted_104 (by decide) ?_
  exact w_X6_counted_105 V hk81 hH (lv_sub hl [0, 1] rfl) hf
set_option maxHeartbeats 4000000 in
set_option maxRecDepth 100000 in
theorem w_X6_counted_89 (V : kV p s mm args meth c cX6_counted RX6 4 (some .int) D cI cZ cO) {k mo : kS} {c81 : Int32 → Int32 → Option (Int32)} (hk81 : ∀ {v2 : Int32} {v3 : Int32} {H : Heap} {locs : List Loc} {ls : Array Slot} {out : Int32}, kHE s H locs D ad cI cZ cO k mo [] → lv_has ls 4 [(0, .ref (ad 7)), (2, .int v2), (3, .int v3)] → c81 v2 v3 = some out → W p l e rm_X6_counted s mm args below meth c H locs 0 0 (kGi below args s D cI cZ cO ad out k mo 0 0) (F0 mm 81 ls [])) {v2 : Int32} {v3 : Int32} {H : Heap} {locs : List Loc} {ls : Array Slot} {out : Int32} (hH : kHE s H locs D ad cI cZ cO k mo []) (hl : lv_has ls 4 [(0, .ref (ad 7)), (2, .int v2), (3, .int v3)]) (hf : F_X6_counted_89 mo c81 v2 v3 = some out) : W p l e rm_X6_counted s mm args below meth c H locs 0 0 (kGi below args s D cI cZ cO ad out k mo 0 0) (F0 mm 89 ls []) := by
  have hx := V.1
  have hb := V.2.1
  refine lv_iload_n hx hb dX6_counted_89 rfl (lv_at hl 1 rfl) ?_
  refine lv_aload_n hx hb dX6_counted_90 rfl (lv_at hl 0 rfl) ?_
  refine lv_iload_n hx hb dX6_counted_91 rfl (lv_at hl 2 rfl) ?_
  refine lv_iconst (v := 5) hx hb dX6_counted_92 (by decide) ?_
  obtain ⟨x89_1, hx89_1, hf⟩ := kbind hf
  refine kr_calli0 hH (kr_runV (as := [.int v3, .int 5]) (rest := [.int v2]) (pl := 7) V hH kYX6_pe kl_X6_45 (c_X6_pe l _ _ hx89_1 _) rfl rfl ⟨Nat.le_of_ble_eq_true rfl, Nat.le_of_ble_eq_true rfl⟩ (by decide) kE_7 rfl rfl hl.1 (Nat.le_of_ble_eq_true rfl) dX6_counted_93 ⟨Nat.le_refl _, Nat.le_refl _⟩ rfl) (fun H locs hH => ?_)
  refine lv_iload_n hx hb dX6_counted_96 rfl (lv_at hl 2 rfl) ?_
  refine lv_icmp_le (tgt := 104) hx hb dX6_counted_97 (by decide) (fun hq => ?_) (fun hq => ?_)
  · have hf := kpos hq hf
    exact w_X6_counted_104 V hk81 hH (lv_sub hl [0, 2] rfl) hf
  · have hf := kneg hq hf
    exact w_X6_counted_100 V hk81 hH (lv_sub hl [0, 2] rfl) hf
set_option maxHeartbeats 4000000 in
set_option maxRecDepth 100000 in
theorem w_X6_counted_113 (V : kV p s mm args meth c cX6_counted RX6 4 (some .int) D cI cZ cO) {k mo : kS} {v2 : Int32} {H : Heap} {locs : List Loc} {ls : Array Slot} {out : Int32} (hH : kHE s H locs D ad cI cZ cO k mo []) (hl : lv_has ls 4 [(2, .int v2)]) (hf : F_X6_counted_113 mo v2 = some out) : W p l e rm_X6_counted s mm args below meth c H locs 0 0 (kGi below args s D cI cZ cO ad out k mo 0 0) (F0 mm 113 ls []) := by
  have hx := V.1
  have hb := V.2.1
  refine lv_iload_n hx hb dX6_counted_113 rfl (lv_at hl 0 rfl) ?_
  cases hf
  exact kr_iret V hH dX6_counted_114
set_option maxHeartbeats 4000000 in
set_option maxRecDepth 100000 in
theorem w_X6_counted_81 (V : kV p s mm args meth c cX6_counted RX6 4 (some .int) D cI cZ cO) {k mo : kS} : ∀ (n : Nat) {v2 : Int32} {v3 : Int32} {H : Heap} {locs : List Loc} {ls : Array Slot} {out : Int32}, kHE s H locs D ad cI cZ cO k mo [] → lv_has ls 4 [(0, .ref (ad 7)), (2, .int v2), (3, .int v3)] → F_X6_counted_81 mo n v2 v3 = some out → W p l e rm_X6_counted s mm args below meth c H locs 0 0 (kGi below args s D cI cZ cO ad out k mo 0 0) (F0 mm 81 ls []) := by
  have hx := V.1
  have hb := V.2.1
  intro n
  induction n with
  | zero => intro _ _ _ _ _ _ hH hl hf; cases hf
  | succ n hk81 =>
    intro v2 v3 H locs ls out hH hl hf
    refine lv_iload_n hx hb dX6_counted_81 rfl (lv_at hl 2 rfl) ?_
    refine lv_aload_n hx hb dX6_counted_82 rfl (lv_at hl 0 rfl) ?_
    refine kg_X6_35 V hH dX6_counted_83 ?_
    refine lv_icmp_ge (tgt := 113) hx hb dX6_counted_86 (by decide) (fun hq => ?_) (fun hq => ?_)
    · have hf := kpos hq hf
      exact w_X6_counted_113 V hH (lv_sub hl [1] rfl) hf
    · have hf := kneg hq hf
      exact w_X6_counted_89 V hk81 hH (lv_sub hl [0, 1, 2] rfl) hf
set_option maxHeartbeats 4000000 in
set_option maxRecDepth 100000 in
theorem w_X6_counted_79 (V : kV p s mm args meth c cX6_counted RX6 4 (some .int) D cI cZ cO) {k mo : kS} {v2 : Int32} {H : Heap} {locs : List Loc} {ls : Array Slot} {out : Int32} (hH : kHE s H locs D ad cI cZ cO k mo []) (hl : lv_has ls 4 [(0, .ref (ad 7)), (2, .int v2)]) (hf : F_X6_counted_79 mo v2 = some out) : W p l e rm_X6_counted s mm args below meth c H locs 0 0 (kGi below args s D cI cZ cO ad out k mo 0 0) (F0 mm 79 ls []) := by
  have hx := V.1
  have hb := V.2.1
  refine lv_iconst (v := 0) hx hb dX6_counted_79 (by decide) ?_
  refine lv_istore_n (lv' := [(3, .int 0), (0, .ref (ad 7)), (2, .int v2)]) hx hb dX6_counted_80 rfl hl (by decide) rfl (fun ls hl => ?_)
  exact w_X6_counted_81 V kN hH (lv_sub hl [1, 2, 0] rfl) hf
set_option maxHeartbeats 4000000 in
set_option maxRecDepth 100000 in
theorem w_X6_counted_115 (V : kV p s mm args meth c cX6_counted RX6 4 (some .int) D cI cZ cO) {k mo : kS} {H : Heap} {locs : List Loc} {ls : Array Slot} {out : Int32} (hH : kHE s H locs D ad cI cZ cO k mo []) (hl : lv_has ls 4 [(0, .ref (ad 7))]) (hf : F_X6_counted_115 mo = some out) : W p l e rm_X6_counted s mm args below meth c H locs 0 0 (kGi below args s D cI cZ cO ad out k mo 0 0) (F0 mm 115 ls []) := by
  have hx := V.1
  have hb := V.2.1
  refine lv_aload_n hx hb dX6_counted_115 rfl (lv_at hl 0 rfl) ?_
  refine kg_X6_42 V hH dX6_counted_116 ?_
  cases hf
  exact kr_iret V hH dX6_counted_119
set_option maxHeartbeats 4000000 in
set_option maxRecDepth 100000 in
theorem w_X6_counted_146 (V : kV p s mm args meth c cX6_counted RX6 4 (some .int) D cI cZ cO) {k mo : kS} {c122 : Int32 → Int32 → Option (Int32)} (hk122 : ∀ {v2 : Int32} {v3 : Int32} {H : Heap} {locs : List Loc} {ls : Array Slot} {out : Int32}, kHE s H locs D ad cI cZ cO k mo [] → lv_has ls 4 [(0, .ref (ad 7)), (2, .int v2), (3, .int v3)] → c122 v2 v3 = some out → W p l e rm_X6_counted s mm args below meth c H locs 0 0 (kGi below args s D cI cZ cO ad out k mo 0 0) (F0 mm 122 ls [])) {s0 : Int32} {s1 : Int32} {v3 : Int32} {H : Heap} {locs : List Loc} {ls : Array Slot} {out : Int32} (hH : kHE s H locs D ad cI cZ cO k mo []) (hl : lv_has ls 4 [(0, .ref (ad 7)), (3, .int v3)]) (hf : F_X6_counted_146 mo c122 s0 s1 v3 = some out) : W p l e rm_X6_counted s mm args below meth c H locs 0 0 (kGi below args s D cI cZ cO ad out k mo 0 0) (F0 mm 146 ls [.int s1, .int s0]) := by
  have hx := V.1
  have hb := V.2.1
  refine lv_iadd hx hb dX6_counted_146 ?_
  refine lv_istore_n (lv' := [(2, .int (s0 + s1)), (0, .ref (ad 7)), (3, .int v3)]) hx hb dX6_counted_147 rfl hl (by decide) rfl (fun ls hl => ?_)
  refine lv_iinc (v := (v3 + 1)) (lv' := [(3, .int (v3 + 1)), (2, .int (s0 + s1)), (0, .ref (ad 7))]) hx hb dX6_counted_148 hl (k := 2) rfl rfl (by decide) rfl (fun ls hl => ?_)
  refine lv_goto (tgt := 122) hx hb dX6_counted_151 (by decide) ?_
  exact hk122 hH (lv_sub hl [2, 1, 0] rfl) hf
set_option maxHeartbeats 4000000 in
set_option maxRecDepth 100000 in
theorem w_X6_counted_141 (V : kV p s mm args meth c cX6_counted RX6 4 (some .int) D cI cZ cO) {k mo : kS} {c122 : Int32 → Int32 → Option (Int32)} (hk122 : ∀ {v2 : Int32} {v3 : Int32} {H : Heap} {locs : List Loc} {ls : Array Slot} {out : Int32}, kHE s H locs D ad cI cZ cO k mo [] → lv_has ls 4 [(0, .ref (ad 7)), (2, .int v2), (3, .int v3)] → c122 v2 v3 = some out → W p l e rm_X6_counted s mm args below meth c H locs 0 0 (kGi below args s D cI cZ cO ad out k mo 0 0) (F0 mm 122 ls [])) {s0 : Int32} {v3 : Int32} {H : Heap} {locs : List Loc} {ls : Array Slot} {out : Int32} (hH : kHE s H locs D ad cI cZ cO k mo []) (hl : lv_has ls 4 [(0, .ref (ad 7)), (3, .int v3)]) (hf : F_X6_counted_141 mo c122 s0 v3 = some out) : W p l e rm_X6_counted s mm args below meth c H locs 0 0 (kGi below args s D cI cZ cO ad out k mo 0 0) (F0 mm 141 ls [.int s0]) := by
  have hx := V.1
  have hb := V.2.1
  refine lv_iconst (v := 1) hx hb dX6_counted_141 (by decide) ?_
  refine lv_goto (tgt := 146) hx hb dX6_counted_142 (by decide) ?_
  exact w_X6_counted_146 V hk122 hH (lv_sub hl [0, 1] rfl) hf
set_option maxHeartbeats 4000000 in
set_option maxRecDepth 100000 in
theorem w_X6_counted_145 (V : kV p s mm args meth c cX6_counted RX6 4 (some .int) D cI cZ cO) {k mo : kS} {c122 : Int32 → Int32 → Option (Int32)} (hk122 : ∀ {v2 : Int32} {v3 : Int32} {H : Heap} {locs : List Loc} {ls : Array Slot} {out : Int32}, kHE s H locs D ad cI cZ cO k mo [] → lv_has ls 4 [(0, .ref (ad 7)), (2, .int v2), (3, .int v3)] → c122 v2 v3 = some out → W p l e rm_X6_counted s mm args below meth c H locs 0 0 (kGi below args s D cI cZ cO ad out k mo 0 0) (F0 mm 122 ls [])) {s0 : Int32} {v3 : Int32} {H : Heap} {locs : List Loc} {ls : Array Slot} {out : Int32} (hH : kHE s H locs D ad cI cZ cO k mo []) (hl : lv_has ls 4 [(0, .ref (ad 7)), (3, .int v3)]) (hf : F_X6_counted_145 mo c122 s0 v3 = some out) : W p l e rm_X6_counted s mm args below meth c H locs 0 0 (kGi below args s D cI cZ cO ad out k mo 0 0) (F0 mm 145 ls [.int s0]) := by
  have hx := V.1
  have hb := V.2.1
  refine lv_iconst (v := 0) hx hb dX6_counted_145 (by decide) ?_
  exact w_X6_counted_146 V hk122 hH (lv_sub hl [0, 1] rfl) hf
set_option maxHeartbeats 4000000 in
set_option maxRecDepth 100000 in
theorem w_X6_counted_130 (V : kV p s mm args meth c cX6_counted RX6 4 (some .int) D cI cZ cO) {k mo : kS} {c122 : Int32 → Int32 → Option (Int32)} (hk122 : ∀ {v2 : Int32} {v3 : Int32} {H : Heap} {locs : List Loc} {ls : Array Slot} {out : Int32}, kHE s H locs D ad cI cZ cO k mo [] → lv_has ls 4 [(0, .ref (ad 7)), (2, .int v2), (3, .int v3)] → c122 v2 v3 = some out → W p l e rm_X6_counted s mm args below meth c H locs 0 0 (kGi below args s D cI cZ cO ad out k mo 0 0) (F0 mm 122 ls [])) {v2 : Int32} {v3 : Int32} {H : Heap} {locs : List Loc} {ls : Array Slot} {out : Int32} (hH : kHE s H locs D ad cI cZ cO k mo []) (hl : lv_has ls 4 [(0, .ref (ad 7)), (2, .int v2), (3, .int v3)]) (hf : F_X6_counted_130 mo c122 v2 v3 = some out) : W p l e rm_X6_counted s mm args below meth c H locs 0 0 (kGi below args s D cI cZ cO ad out k mo 0 0) (F0 mm 130 ls []) := by
  have hx := V.1
  have hb := V.2.1
  refine lv_iload_n hx hb dX6_counted_130 rfl (lv_at hl 1 rfl) ?_
  refine lv_aload_n hx hb dX6_counted_131 rfl (lv_at hl 0 rfl) ?_
  refine lv_iload_n hx hb dX6_counted_132 rfl (lv_at hl 2 rfl) ?_
  refine lv_iconst (v := 2) hx hb dX6_counted_133 (by decide) ?_
  obtain ⟨x130_1, hx130_1, hf⟩ := kbind hf
  refine kr_calli0 hH (kr_runV (as := [.int v3, .int 2]) (rest := [.int v2]) (pl := 7) V hH kYX6_la kl_X6_77 (c_X6_la l _ _ hx130_1 _) rfl rfl ⟨Nat.le_of_ble_eq_true rfl, Nat.le_of_ble_eq_true rfl⟩ (by decide) kE_7 rfl rfl hl.1 (Nat.le_of_ble_eq_true rfl) dX6_counted_134 ⟨Nat.le_refl _, Nat.le_refl _⟩ rfl) (fun H locs hH => ?_)
  refine lv_iconst (v := (-1)) hx hb dX6_counted_137 (by decide) ?_
  refine lv_icmp_ne (tgt := 145) hx hb dX6_counted_138 (by decide) (fun hq => ?_) (fun hq => ?_)
  · have hf := kneg hq hf
    exact w_X6_counted_145 V hk122 hH (lv_sub hl [0, 2] rfl) hf
  · have hf := kpos hq hf
    exact w_X6_counted_141 V hk122 hH (lv_sub hl [0, 2] rfl) hf
set_option maxHeartbeats 4000000 in
set_option maxRecDepth 100000 in
theorem w_X6_counted_154 (V : kV p s mm args meth c cX6_counted RX6 4 (some .int) D cI cZ cO) {k mo : kS} {v2 : Int32} {H : Heap} {locs : List Loc} {ls : Array Slot} {out : Int32} (hH : kHE s H locs D ad cI cZ cO k mo []) (hl : lv_has ls 4 [(2, .int v2)]) (hf : F_X6_counted_154 mo v2 = some out) : W p l e rm_X6_counted s mm args below meth c H locs 0 0 (kGi below args s D cI cZ cO ad out k mo 0 0) (F0 mm 154 ls []) := by
  have hx := V.1
  have hb := V.2.1
  refine lv_iload_n hx hb dX6_counted_154 rfl (lv_at hl 0 rfl) ?_
  cases hf
  exact kr_iret V hH dX6_counted_155
set_option maxHeartbeats 4000000 in
set_option maxRecDepth 100000 in
theorem w_X6_counted_122 (V : kV p s mm args meth c cX6_counted RX6 4 (some .int) D cI cZ cO) {k mo : kS} : ∀ (n : Nat) {v2 : Int32} {v3 : Int32} {H : Heap} {locs : List Loc} {ls : Array Slot} {out : Int32}, kHE s H locs D ad cI cZ cO k mo [] → lv_has ls 4 [(0, .ref (ad 7)), (2, .int v2), (3, .int v3)] → F_X6_counted_122 mo n v2 v3 = some out → W p l e rm_X6_counted s mm args below meth c H locs 0 0 (kGi below args s D cI cZ cO ad out k mo 0 0) (F0 mm 122 ls []) := by
  have hx := V.1
  have hb := V.2.1
  intro n
  induction n with
  | zero => intro _ _ _ _ _ _ hH hl hf; cases hf
  | succ n hk122 =>
    intro v2 v3 H locs ls out hH hl hf
    refine lv_iload_n hx hb dX6_counted_122 rfl (lv_at hl 2 rfl) ?_
    refine lv_aload_n hx hb dX6_counted_123 rfl (lv_at hl 0 rfl) ?_
    refine kg_X6_42 V hH dX6_counted_124 ?_
    refine lv_icmp_ge (tgt := 154) hx hb dX6_counted_127 (by decide) (fun hq => ?_) (fun hq => ?_)
    · have hf := kpos hq hf
      exact w_X6_counted_154 V hH (lv_sub hl [1] rfl) hf
    · have hf := kneg hq hf
      exact w_X6_counted_130 V hk122 hH (lv_sub hl [0, 1, 2] rfl) hf
set_option maxHeartbeats 4000000 in
set_option maxRecDepth 100000 in
theorem w_X6_counted_120 (V : kV p s mm args meth c cX6_counted RX6 4 (some .int) D cI cZ cO) {k mo : kS} {v2 : Int32} {H : Heap} {locs : List Loc} {ls : Array Slot} {out : Int32} (hH : kHE s H locs D ad cI cZ cO k mo []) (hl : lv_has ls 4 [(0, .ref (ad 7)), (2, .int v2)]) (hf : F_X6_counted_120 mo v2 = some out) : W p l e rm_X6_counted s mm args below meth c H locs 0 0 (kGi below args s D cI cZ cO ad out k mo 0 0) (F0 mm 120 ls []) := by
  have hx := V.1
  have hb := V.2.1
  refine lv_iconst (v := 0) hx hb dX6_counted_120 (by decide) ?_
  refine lv_istore_n (lv' := [(3, .int 0), (0, .ref (ad 7)), (2, .int v2)]) hx hb dX6_counted_121 rfl hl (by decide) rfl (fun ls hl => ?_)
  exact w_X6_counted_122 V kN hH (lv_sub hl [1, 2, 0] rfl) hf
set_option maxHeartbeats 4000000 in
set_option maxRecDepth 100000 in
theorem w_X6_counted_196 (V : kV p s mm args meth c cX6_counted RX6 4 (some .int) D cI cZ cO) {k mo : kS} {c158 : Int32 → Int32 → Int32 → Option (Int32)} (hk158 : ∀ {v1 : Int32} {v2 : Int32} {v3 : Int32} {H : Heap} {locs : List Loc} {ls : Array Slot} {out : Int32}, kHE s H locs D ad cI cZ cO k mo [] → lv_has ls 4 [(0, .ref (ad 7)), (1, .int v1), (2, .int v2), (3, .int v3)] → c158 v1 v2 v3 = some out → W p l e rm_X6_counted s mm args below meth c H locs 0 0 (kGi below args s D cI cZ cO ad out k mo 0 0) (F0 mm 158 ls [])) {s0 : Int32} {s1 : Int32} {v1 : Int32} {v3 : Int32} {H : Heap} {locs : List Loc} {ls : Array Slot} {out : Int32} (hH : kHE s H locs D ad cI cZ cO k mo []) (hl : lv_has ls 4 [(0, .ref (ad 7)), (1, .int v1), (3, .int v3)]) (hf : F_X6_counted_196 mo c158 s0 s1 v1 v3 = some out) : W p l e rm_X6_counted s mm args below meth c H locs 0 0 (kGi below args s D cI cZ cO ad out k mo 0 0) (F0 mm 196 ls [.int s1, .int s0]) := by
  have hx := V.1
  have hb := V.2.1
  refine lv_iadd hx hb dX6_counted_196 ?_
  refine lv_istore_n (lv' := [(2, .int (s0 + s1)), (0, .ref (ad 7)), (1, .int v1), (3, .int v3)]) hx hb dX6_counted_197 rfl hl (by decide) rfl (fun ls hl => ?_)
  refine lv_iinc (v := (v3 + 1)) (lv' := [(3, .int (v3 + 1)), (2, .int (s0 + s1)), (0, .ref (ad 7)), (1, .int v1)]) hx hb dX6_counted_198 hl (k := 3) rfl rfl (by decide) rfl (fun ls hl => ?_)
  refine lv_goto (tgt := 158) hx hb dX6_counted_201 (by decide) ?_
  exact hk158 hH (lv_sub hl [2, 3, 1, 0] rfl) hf
set_option maxHeartbeats 4000000 in
set_option maxRecDepth 100000 in
theorem w_X6_counted_191 (V : kV p s mm args meth c cX6_counted RX6 4 (some .int) D cI cZ cO) {k mo : kS} {c158 : Int32 → Int32 → Int32 → Option (Int32)} (hk158 : ∀ {v1 : Int32} {v2 : Int32} {v3 : Int32} {H : Heap} {locs : List Loc} {ls : Array Slot} {out : Int32}, kHE s H locs D ad cI cZ cO k mo [] → lv_has ls 4 [(0, .ref (ad 7)), (1, .int v1), (2, .int v2), (3, .int v3)] → c158 v1 v2 v3 = some out → W p l e rm_X6_counted s mm args below meth c H locs 0 0 (kGi below args s D cI cZ cO ad out k mo 0 0) (F0 mm 158 ls [])) {s0 : Int32} {v1 : Int32} {v3 : Int32} {H : Heap} {locs : List Loc} {ls : Array Slot} {out : Int32} (hH : kHE s H locs D ad cI cZ cO k mo []) (hl : lv_has ls 4 [(0, .ref (ad 7)), (1, .int v1), (3, .int v3)]) (hf : F_X6_counted_191 mo c158 s0 v1 v3 = some out) : W p l e rm_X6_counted s mm args below meth c H locs 0 0 (kGi below args s D cI cZ cO ad out k mo 0 0) (F0 mm 191 ls [.int s0]) := by
  have hx := V.1
  have hb := V.2.1
  refine lv_iconst (v := 1) hx hb dX6_counted_191 (by decide) ?_
  refine lv_goto (tgt := 196) hx hb dX6_counted_192 (by decide) ?_
  exact w_X6_counted_196 V hk158 hH (lv_sub hl [0, 1, 2] rfl) hf
set_option maxHeartbeats 4000000 in
set_option maxRecDepth 100000 in
theorem w_X6_counted_195 (V : kV p s mm args meth c cX6_counted RX6 4 (some .int) D cI cZ cO) {k mo : kS} {c158 : Int32 → Int32 → Int32 → Option (Int32)} (hk158 : ∀ {v1 : Int32} {v2 : Int32} {v3 : Int32} {H : Heap} {locs : List Loc} {ls : Array Slot} {out : Int32}, kHE s H locs D ad cI cZ cO k mo [] → lv_has ls 4 [(0, .ref (ad 7)), (1, .int v1), (2, .int v2), (3, .int v3)] → c158 v1 v2 v3 = some out → W p l e rm_X6_counted s mm args below meth c H locs 0 0 (kGi below args s D cI cZ cO ad out k mo 0 0) (F0 mm 158 ls [])) {s0 : Int32} {v1 : Int32} {v3 : Int32} {H : Heap} {locs : List Loc} {ls : Array Slot} {out : Int32} (hH : kHE s H locs D ad cI cZ cO k mo []) (hl : lv_has ls 4 [(0, .ref (ad 7)), (1, .int v1), (3, .int v3)]) (hf : F_X6_counted_195 mo c158 s0 v1 v3 = some out) : W p l e rm_X6_counted s mm args below meth c H locs 0 0 (kGi below args s D cI cZ cO ad out k mo 0 0) (F0 mm 195 ls [.int s0]) := by
  have hx := V.1
  have hb := V.2.1
  refine lv_iconst (v := 0) hx hb dX6_counted_195 (by decide) ?_
  exact w_X6_counted_196 V hk158 hH (lv_sub hl [0, 1, 2] rfl) hf
set_option maxHeartbeats 4000000 in
set_option maxRecDepth 100000 in
theorem w_X6_counted_181 (V : kV p s mm args meth c cX6_counted RX6 4 (some .int) D cI cZ cO) {k mo : kS} {c158 : Int32 → Int32 → Int32 → Option (Int32)} (hk158 : ∀ {v1 : Int32} {v2 : Int32} {v3 : Int32} {H : Heap} {locs : List Loc} {ls : Array Slot} {out : Int32}, kHE s H locs D ad cI cZ cO k mo [] → lv_has ls 4 [(0, .ref (ad 7)), (1, .int v1), (2, .int v2), (3, .int v3)] → c158 v1 v2 v3 = some out → W p l e rm_X6_counted s mm args below meth c H locs 0 0 (kGi below args s D cI cZ cO ad out k mo 0 0) (F0 mm 158 ls [])) {s0 : Int32} {v1 : Int32} {v3 : Int32} {H : Heap} {locs : List Loc} {ls : Array Slot} {out : Int32} (hH : kHE s H locs D ad cI cZ cO k mo []) (hl : lv_has ls 4 [(0, .ref (ad 7)), (1, .int v1), (3, .int v3)]) (hf : F_X6_counted_181 mo c158 s0 v1 v3 = some out) : W p l e rm_X6_counted s mm args below meth c H locs 0 0 (kGi below args s D cI cZ cO ad out k mo 0 0) (F0 mm 181 ls [.int s0]) := by
  have hx := V.1
  have hb := V.2.1
  refine lv_aload_n hx hb dX6_counted_181 rfl (lv_at hl 0 rfl) ?_
  refine lv_iload_n hx hb dX6_counted_182 rfl (lv_at hl 2 rfl) ?_
  obtain ⟨x181_1, hx181_1, hf⟩ := kbind hf
  refine kr_calli0 hH (kr_runV (as := [.int v3]) (rest := [.int s0]) (pl := 7) V hH kYX6_age kl_X6_112 (c_X6_age l _ hx181_1 _) rfl rfl ⟨Nat.le_of_ble_eq_true rfl, Nat.le_of_ble_eq_true rfl⟩ (by decide) kE_7 rfl rfl hl.1 (Nat.le_of_ble_eq_true rfl) dX6_counted_183 ⟨Nat.le_refl _, Nat.le_refl _⟩ rfl) (fun H locs hH => ?_)
  refine lv_bipush (v := 16) hx hb dX6_counted_186 (by decide) ?_
  refine lv_icmp_ge (tgt := 195) hx hb dX6_counted_188 (by decide) (fun hq => ?_) (fun hq => ?_)
  · have hf := kpos hq hf
    exact w_X6_counted_195 V hk158 hH (lv_sub hl [0, 1, 2] rfl) hf
  · have hf := kneg hq hf
    exact w_X6_counted_191 V hk158 hH (lv_sub hl [0, 1, 2] rfl) hf
set_option maxHeartbeats 4000000 in
set_option maxRecDepth 100000 in
theorem w_X6_counted_175 (V : kV p s mm args meth c cX6_counted RX6 4 (some .int) D cI cZ cO) {k mo : kS} {c158 : Int32 → Int32 → Int32 → Option (Int32)} (hk158 : ∀ {v1 : Int32} {v2 : Int32} {v3 : Int32} {H : Heap} {locs : List Loc} {ls : Array Slot} {out : Int32}, kHE s H locs D ad cI cZ cO k mo [] → lv_has ls 4 [(0, .ref (ad 7)), (1, .int v1), (2, .int v2), (3, .int v3)] → c158 v1 v2 v3 = some out → W p l e rm_X6_counted s mm args below meth c H locs 0 0 (kGi below args s D cI cZ cO ad out k mo 0 0) (F0 mm 158 ls [])) {s0 : Int32} {v1 : Int32} {v3 : Int32} {H : Heap} {locs : List Loc} {ls : Array Slot} {out : Int32} (hH : kHE s H locs D ad cI cZ cO k mo []) (hl : lv_has ls 4 [(0, .ref (ad 7)), (1, .int v1), (3, .int v3)]) (hf : F_X6_counted_175 mo c158 s0 v1 v3 = some out) : W p l e rm_X6_counted s mm args below meth c H locs 0 0 (kGi below args s D cI cZ cO ad out k mo 0 0) (F0 mm 175 ls [.int s0]) := by
  have hx := V.1
  have hb := V.2.1
  refine lv_iload_n hx hb dX6_counted_175 rfl (lv_at hl 1 rfl) ?_
  refine lv_bipush (v := 6) hx hb dX6_counted_176 (by decide) ?_
  refine lv_icmp_eq (tgt := 191) hx hb dX6_counted_178 (by decide) (fun hq => ?_) (fun hq => ?_)
  · have hf := kpos hq hf
    exact w_X6_counted_191 V hk158 hH (lv_sub hl [0, 1, 2] rfl) hf
  · have hf := kneg hq hf
    exact w_X6_counted_181 V hk158 hH (lv_sub hl [0, 1, 2] rfl) hf
set_option maxHeartbeats 4000000 in
set_option maxRecDepth 100000 in
theorem w_X6_counted_166 (V : kV p s mm args meth c cX6_counted RX6 4 (some .int) D cI cZ cO) {k mo : kS} {c158 : Int32 → Int32 → Int32 → Option (Int32)} (hk158 : ∀ {v1 : Int32} {v2 : Int32} {v3 : Int32} {H : Heap} {locs : List Loc} {ls : Array Slot} {out : Int32}, kHE s H locs D ad cI cZ cO k mo [] → lv_has ls 4 [(0, .ref (ad 7)), (1, .int v1), (2, .int v2), (3, .int v3)] → c158 v1 v2 v3 = some out → W p l e rm_X6_counted s mm args below meth c H locs 0 0 (kGi below args s D cI cZ cO ad out k mo 0 0) (F0 mm 158 ls [])) {v1 : Int32} {v2 : Int32} {v3 : Int32} {H : Heap} {locs : List Loc} {ls : Array Slot} {out : Int32} (hH : kHE s H locs D ad cI cZ cO k mo []) (hl : lv_has ls 4 [(0, .ref (ad 7)), (1, .int v1), (2, .int v2), (3, .int v3)]) (hf : F_X6_counted_166 mo c158 v1 v2 v3 = some out) : W p l e rm_X6_counted s mm args below meth c H locs 0 0 (kGi below args s D cI cZ cO ad out k mo 0 0) (F0 mm 166 ls []) := by
  have hx := V.1
  have hb := V.2.1
  refine lv_iload_n hx hb dX6_counted_166 rfl (lv_at hl 2 rfl) ?_
  refine lv_aload_n hx hb dX6_counted_167 rfl (lv_at hl 0 rfl) ?_
  refine lv_iload_n hx hb dX6_counted_168 rfl (lv_at hl 3 rfl) ?_
  obtain ⟨x166_1, hx166_1, hf⟩ := kbind hf
  refine kr_calli0 hH (kr_runV (as := [.int v3]) (rest := [.int v2]) (pl := 7) V hH kYX6_rulesNow kl_X6_150 (c_X6_rulesNow l _ hx166_1 _) rfl rfl ⟨Nat.le_of_ble_eq_true rfl, Nat.le_of_ble_eq_true rfl⟩ (by decide) kE_7 rfl rfl hl.1 (Nat.le_of_ble_eq_true rfl) dX6_counted_169 ⟨Nat.le_refl _, Nat.le_refl _⟩ rfl) (fun H locs hH => ?_)
  refine lv_if_eq (tgt := 195) hx hb dX6_counted_172 (by decide) (fun hq => ?_) (fun hq => ?_)
  · have hf := kpos hq hf
    exact w_X6_counted_195 V hk158 hH (lv_sub hl [0, 1, 3] rfl) hf
  · have hf := kneg hq hf
    exact w_X6_counted_175 V hk158 hH (lv_sub hl [0, 1, 3] rfl) hf
set_option maxHeartbeats 4000000 in
set_option maxRecDepth 100000 in
theorem w_X6_counted_204 (V : kV p s mm args meth c cX6_counted RX6 4 (some .int) D cI cZ cO) {k mo : kS} {v2 : Int32} {H : Heap} {locs : List Loc} {ls : Array Slot} {out : Int32} (hH : kHE s H locs D ad cI cZ cO k mo []) (hl : lv_has ls 4 [(2, .int v2)]) (hf : F_X6_counted_204 mo v2 = some out) : W p l e rm_X6_counted s mm args below meth c H locs 0 0 (kGi below args s D cI cZ cO ad out k mo 0 0) (F0 mm 204 ls []) := by
  have hx := V.1
  have hb := V.2.1
  refine lv_iload_n hx hb dX6_counted_204 rfl (lv_at hl 0 rfl) ?_
  cases hf
  exact kr_iret V hH dX6_counted_205
set_option maxHeartbeats 4000000 in
set_option maxRecDepth 100000 in
theorem w_X6_counted_158 (V : kV p s mm args meth c cX6_counted RX6 4 (some .int) D cI cZ cO) {k mo : kS} : ∀ (n : Nat) {v1 : Int32} {v2 : Int32} {v3 : Int32} {H : Heap} {locs : List Loc} {ls : Array Slot} {out : Int32}, kHE s H locs D ad cI cZ cO k mo [] → lv_has ls 4 [(0, .ref (ad 7)), (1, .int v1), (2, .int v2), (3, .int v3)] → F_X6_counted_158 mo n v1 v2 v3 = some out → W p l e rm_X6_counted s mm args below meth c H locs 0 0 (kGi below args s D cI cZ cO ad out k mo 0 0) (F0 mm 158 ls []) := by
  have hx := V.1
  have hb := V.2.1
  intro n
  induction n with
  | zero => intro _ _ _ _ _ _ _ hH hl hf; cases hf
  | succ n hk158 =>
    intro v1 v2 v3 H locs ls out hH hl hf
    refine lv_iload_n hx hb dX6_counted_158 rfl (lv_at hl 3 rfl) ?_
    refine lv_aload_n hx hb dX6_counted_159 rfl (lv_at hl 0 rfl) ?_
    refine kg_X6_35 V hH dX6_counted_160 ?_
    refine lv_icmp_ge (tgt := 204) hx hb dX6_counted_163 (by decide) (fun hq => ?_) (fun hq => ?_)
    · have hf := kpos hq hf
      exact w_X6_counted_204 V hH (lv_sub hl [2] rfl) hf
    · have hf := kneg hq hf
      exact w_X6_counted_166 V hk158 hH (lv_sub hl [0, 1, 2, 3] rfl) hf
set_option maxHeartbeats 4000000 in
set_option maxRecDepth 100000 in
theorem w_X6_counted_156 (V : kV p s mm args meth c cX6_counted RX6 4 (some .int) D cI cZ cO) {k mo : kS} {v1 : Int32} {v2 : Int32} {H : Heap} {locs : List Loc} {ls : Array Slot} {out : Int32} (hH : kHE s H locs D ad cI cZ cO k mo []) (hl : lv_has ls 4 [(0, .ref (ad 7)), (1, .int v1), (2, .int v2)]) (hf : F_X6_counted_156 mo v1 v2 = some out) : W p l e rm_X6_counted s mm args below meth c H locs 0 0 (kGi below args s D cI cZ cO ad out k mo 0 0) (F0 mm 156 ls []) := by
  have hx := V.1
  have hb := V.2.1
  refine lv_iconst (v := 0) hx hb dX6_counted_156 (by decide) ?_
  refine lv_istore_n (lv' := [(3, .int 0), (0, .ref (ad 7)), (1, .int v1), (2, .int v2)]) hx hb dX6_counted_157 rfl hl (by decide) rfl (fun ls hl => ?_)
  exact w_X6_counted_158 V kN hH (lv_sub hl [1, 2, 3, 0] rfl) hf
set_option maxHeartbeats 4000000 in
set_option maxRecDepth 100000 in
theorem w_X6_counted_0 (V : kV p s mm args meth c cX6_counted RX6 4 (some .int) D cI cZ cO) {k mo : kS} {v1 : Int32} {H : Heap} {locs : List Loc} {ls : Array Slot} {out : Int32} (hH : kHE s H locs D ad cI cZ cO k mo []) (hl : lv_has ls 4 [(0, .ref (ad 7)), (1, .int v1)]) (hf : F_X6_counted_0 mo v1 = some out) : W p l e rm_X6_counted s mm args below meth c H locs 0 0 (kGi below args s D cI cZ cO ad out k mo 0 0) (F0 mm 0 ls []) := by
  have hx := V.1
  have hb := V.2.1
  refine lv_iconst (v := 0) hx hb dX6_counted_0 (by decide) ?_
  refine lv_istore_n (lv' := [(2, .int 0), (0, .ref (ad 7)), (1, .int v1)]) hx hb dX6_counted_1 rfl hl (by decide) rfl (fun ls hl => ?_)
  refine lv_iload_n hx hb dX6_counted_2 rfl (lv_at hl 2 rfl) ?_
  by_cases hq0 : v1 = 0
  · have hf := kpos hq0 hf
    refine lv_tableIn (tgt := 40) hx hb dX6_counted_3 (by rw [hq0]; decide) (by rw [hq0]; decide) (by rw [hq0]; rfl) (by decide) ?_
    exact w_X6_counted_40 V hH (lv_sub hl [1] rfl) hf
  have hf := kneg hq0 hf
  by_cases hq1 : v1 = 1
  · have hf := kpos hq1 hf
    refine lv_tableIn (tgt := 47) hx hb dX6_counted_3 (by rw [hq1]; decide) (by rw [hq1]; decide) (by rw [hq1]; rfl) (by decide) ?_
    exact w_X6_counted_47 V hH (lv_sub hl [1] rfl) hf
  have hf := kneg hq1 hf
  by_cases hq2 : v1 = 2
  · have hf := kpos hq2 hf
    refine lv_tableIn (tgt := 52) hx hb dX6_counted_3 (by rw [hq2]; decide) (by rw [hq2]; decide) (by rw [hq2]; rfl) (by decide) ?_
    exact w_X6_counted_52 V hH (lv_sub hl [1, 0] rfl) hf
  have hf := kneg hq2 hf
  by_cases hq3 : v1 = 3
  · have hf := kpos hq3 hf
    refine lv_tableIn (tgt := 79) hx hb dX6_counted_3 (by rw [hq3]; decide) (by rw [hq3]; decide) (by rw [hq3]; rfl) (by decide) ?_
    exact w_X6_counted_79 V hH (lv_sub hl [1, 0] rfl) hf
  have hf := kneg hq3 hf
  by_cases hq4 : v1 = 4
  · have hf := kpos hq4 hf
    refine lv_tableIn (tgt := 115) hx hb dX6_counted_3 (by rw [hq4]; decide) (by rw [hq4]; decide) (by rw [hq4]; rfl) (by decide) ?_
    exact w_X6_counted_115 V hH (lv_sub hl [1] rfl) hf
  have hf := kneg hq4 hf
  by_cases hq5 : v1 = 5
  · have hf := kpos hq5 hf
    refine lv_tableIn (tgt := 120) hx hb dX6_counted_3 (by rw [hq5]; decide) (by rw [hq5]; decide) (by rw [hq5]; rfl) (by decide) ?_
    exact w_X6_counted_120 V hH (lv_sub hl [1, 0] rfl) hf
  have hf := kneg hq5 hf
  refine lv_tableOut (tgt := 156) hx hb dX6_counted_3 (by have z0 := kne (n := 0) hq0 (by decide) (by decide); have z1 := kne (n := 1) hq1 (by decide) (by decide); have z2 := kne (n := 2) hq2 (by decide) (by decide); have z3 := kne (n := 3) hq3 (by decide) (by decide); have z4 := kne (n := 4) hq4 (by decide) (by decide); have z5 := kne (n := 5) hq5 (by decide) (by decide); omega) (by decide) ?_
  exact w_X6_counted_156 V hH (lv_sub hl [1, 2, 0] rfl) hf
set_option maxHeartbeats 4000000 in
set_option maxRecDepth 100000 in
theorem c_X6_counted (l : Launch) {D : va_G} {cI cZ cO : ClassId} {ad : Nat → Nat} {k mo : kS} (v1 : Int32) {out : Int32} (hf : F_X6_counted mo v1 = some out) (sz : Nat) : Met l yX6_counted (Cond.code yX6_counted cX6_counted 4 (some .int) :: kWA) rm_X6_counted (kP [.ref (ad 7), .int v1] D cI cZ cO ad (kE ad cI cZ cO k mo) sz) (kQi out D cI cZ cO ad (kE ad cI cZ cO k mo) sz) 0 0 (fA ad sz) := by
  refine kr_met (as := [.ref (ad 7), .int v1]) (bytes := cX6_counted) (maxL := 4) (rt := (some .int)) (Qc := fun sz => kQi out D cI cZ cO ad (kE ad cI cZ cO k mo) sz) (lv := [(0, .ref (ad 7)), (1, .int v1)]) (by decide +kernel) (Nat.le_of_ble_eq_true rfl) rfl (fun p e s mm below meth c ls V hH hl => ?_) sz
  exact w_X6_counted_0 V hH (lv_sub hl [0, 1] rfl) hf
end
section
variable {p : Program} {l : Launch} {e : Env} {s : State} {mm : MethodId} {args : Array Value} {below : List Frame} {meth : Method} {c : Code} {D : va_G} {cI cZ cO : ClassId} {ad : Nat → Nat}
abbrev rm_X6_count : Room := { frames := 5, cells := 0, slots := 0, locals := 113 }
set_option maxHeartbeats 4000000 in
set_option maxRecDepth 100000 in
theorem w_X6_count_28 (V : kV p s mm args meth c cX6_count RX6 2 (some .int) D cI cZ cO) {k : kS} {s0 : Int32} {mo : kS} {H : Heap} {locs : List Loc} {ls : Array Slot} {out : (Int32 × kS)} (hH : kHE s H locs D ad cI cZ cO k mo []) (hl : lv_has ls 2 []) (hf : F_X6_count_28 s0 mo = some out) : W p l e rm_X6_count s mm args below meth c H locs 0 0 (kGi below args s D cI cZ cO ad out.1 k out.2 0 0) (F0 mm 28 ls [.int s0]) := by
  have hx := V.1
  have hb := V.2.1
  cases hf
  exact kr_iret V hH dX6_count_28
set_option maxHeartbeats 4000000 in
set_option maxRecDepth 100000 in
theorem w_X6_count_15 (V : kV p s mm args meth c cX6_count RX6 2 (some .int) D cI cZ cO) {k : kS} {v1 : Int32} {mo : kS} {H : Heap} {locs : List Loc} {ls : Array Slot} {out : (Int32 × kS)} (hH : kHE s H locs D ad cI cZ cO k mo []) (hl : lv_has ls 2 [(0, .ref (ad 7)), (1, .int v1)]) (hf : F_X6_count_15 v1 mo = some out) : W p l e rm_X6_count s mm args below meth c H locs 0 0 (kGi below args s D cI cZ cO ad out.1 k out.2 0 0) (F0 mm 15 ls []) := by
  have hx := V.1
  have hb := V.2.1
  refine lv_aload_n hx hb dX6_count_15 rfl (lv_at hl 0 rfl) ?_
  refine lv_iload_n hx hb dX6_count_16 rfl (lv_at hl 1 rfl) ?_
  obtain ⟨x15_1, hx15_1, hf⟩ := kbind hf
  refine kr_calli0 hH (kr_runV (as := [.int v1]) (rest := []) (pl := 7) V hH kYX6_counted kl_X6_153 (c_X6_counted l _ hx15_1 _) rfl rfl ⟨Nat.le_of_ble_eq_true rfl, Nat.le_of_ble_eq_true rfl⟩ (by decide) kE_7 rfl rfl hl.1 (Nat.le_of_ble_eq_true rfl) dX6_count_17 ⟨Nat.le_refl _, Nat.le_refl _⟩ rfl) (fun H locs hH => ?_)
  refine lv_goto (tgt := 28) hx hb dX6_count_20 (by decide) ?_
  exact w_X6_count_28 V hH (lv_sub hl [] rfl) hf
set_option maxHeartbeats 4000000 in
set_option maxRecDepth 100000 in
theorem w_X6_count_23 (V : kV p s mm args meth c cX6_count RX6 2 (some .int) D cI cZ cO) {k : kS} {mo : kS} {H : Heap} {locs : List Loc} {ls : Array Slot} {out : (Int32 × kS)} (hH : kHE s H locs D ad cI cZ cO k mo []) (hl : lv_has ls 2 [(0, .ref (ad 7))]) (hf : F_X6_count_23 mo = some out) : W p l e rm_X6_count s mm args below meth c H locs 0 0 (kGi below args s D cI cZ cO ad out.1 k out.2 0 0) (F0 mm 23 ls []) := by
  have hx := V.1
  have hb := V.2.1
  refine lv_aload_n hx hb dX6_count_23 rfl (lv_at hl 0 rfl) ?_
  refine lv_iconst (v := 1) hx hb dX6_count_24 (by decide) ?_
  obtain ⟨x23_1, hx23_1, hf⟩ := kbind hf
  refine kr_calli0 hH (kr_runV (as := [.int 1]) (rest := []) (pl := 7) V hH kYX6_fail kl_X6_55 (c_X6_fail l _ hx23_1 _) rfl rfl ⟨Nat.le_of_ble_eq_true rfl, Nat.le_of_ble_eq_true rfl⟩ (by decide) kE_7 rfl rfl hl.1 (Nat.le_of_ble_eq_true rfl) dX6_count_25 ⟨Nat.le_refl _, Nat.le_refl _⟩ rfl) (fun H locs hH => ?_)
  exact w_X6_count_28 V hH (lv_sub hl [] rfl) hf
set_option maxHeartbeats 4000000 in
set_option maxRecDepth 100000 in
theorem w_X6_count_0 (V : kV p s mm args meth c cX6_count RX6 2 (some .int) D cI cZ cO) {k : kS} {v1 : Int32} {mo : kS} {H : Heap} {locs : List Loc} {ls : Array Slot} {out : (Int32 × kS)} (hH : kHE s H locs D ad cI cZ cO k mo []) (hl : lv_has ls 2 [(0, .ref (ad 7)), (1, .int v1)]) (hf : F_X6_count_0 v1 mo = some out) : W p l e rm_X6_count s mm args below meth c H locs 0 0 (kGi below args s D cI cZ cO ad out.1 k out.2 0 0) (F0 mm 0 ls []) := by
  have hx := V.1
  have hb := V.2.1
  refine lv_aload_n hx hb dX6_count_0 rfl (lv_at hl 0 rfl) ?_
  refine lv_iconst (v := 0) hx hb dX6_count_1 (by decide) ?_
  refine kp_X6_31 V hH dX6_count_2 (fun H locs hH => ?_)
  refine lv_iload_n hx hb dX6_count_5 rfl (lv_at hl 1 rfl) ?_
  refine lv_iconst (v := 0) hx hb dX6_count_6 (by decide) ?_
  refine lv_bipush (v := 7) hx hb dX6_count_7 (by decide) ?_
  obtain ⟨x0_1, hx0_1, hf⟩ := kbind hf
  refine kr_calli0 hH (kr_runS (as := [.int v1, .int 0, .int 7]) (rest := []) V hH kYX6_isIn kl_X6_38 (c_X6_isIn l _ _ _ hx0_1 _) rfl rfl ⟨Nat.le_of_ble_eq_true rfl, Nat.le_of_ble_eq_true rfl⟩ rfl hl.1 (Nat.le_of_ble_eq_true rfl) dX6_count_9 ⟨Nat.le_refl _, Nat.le_refl _⟩ rfl) (fun H locs hH => ?_)
  refine lv_if_eq (tgt := 23) hx hb dX6_count_12 (by decide) (fun hq => ?_) (fun hq => ?_)
  · have hf := kpos hq hf
    exact w_X6_count_23 V hH (lv_sub hl [0] rfl) hf
  · have hf := kneg hq hf
    exact w_X6_count_15 V hH (lv_sub hl [0, 1] rfl) hf
set_option maxHeartbeats 4000000 in
set_option maxRecDepth 100000 in
theorem c_X6_count (l : Launch) {D : va_G} {cI cZ cO : ClassId} {ad : Nat → Nat} {k mo : kS} (v1 : Int32) {out : (Int32 × kS)} (hf : F_X6_count v1 mo = some out) (sz : Nat) : Met l yX6_count (Cond.code yX6_count cX6_count 2 (some .int) :: kWA) rm_X6_count (kP [.ref (ad 7), .int v1] D cI cZ cO ad (kE ad cI cZ cO k mo) sz) (kQi out.1 D cI cZ cO ad (kE ad cI cZ cO k out.2) sz) 0 0 (fA ad sz) := by
  refine kr_met (as := [.ref (ad 7), .int v1]) (bytes := cX6_count) (maxL := 2) (rt := (some .int)) (Qc := fun sz => kQi out.1 D cI cZ cO ad (kE ad cI cZ cO k out.2) sz) (lv := [(0, .ref (ad 7)), (1, .int v1)]) (by decide +kernel) (Nat.le_of_ble_eq_true rfl) rfl (fun p e s mm below meth c ls V hH hl => ?_) sz
  exact w_X6_count_0 V hH (lv_sub hl [0, 1] rfl) hf
end
section
variable {p : Program} {l : Launch} {e : Env} {s : State} {mm : MethodId} {args : Array Value} {below : List Frame} {meth : Method} {c : Code} {D : va_G} {cI cZ cO : ClassId} {ad : Nat → Nat}
abbrev rm_X6_best : Room := { frames := 4, cells := 0, slots := 0, locals := 109 }
set_option maxHeartbeats 4000000 in
set_option maxRecDepth 100000 in
theorem w_X6_best_13 (V : kV p s mm args meth c cX6_best RX6 4 (some .int) D cI cZ cO) {k : kS} {mo : kS} {H : Heap} {locs : List Loc} {ls : Array Slot} {out : (Int32 × kS)} (hH : kHE s H locs D ad cI cZ cO k mo []) (hl : lv_has ls 4 [(0, .ref (ad 7))]) (hf : F_X6_best_13 mo = some out) : W p l e rm_X6_best s mm args below meth c H locs 0 0 (kGi below args s D cI cZ cO ad out.1 k out.2 0 0) (F0 mm 13 ls []) := by
  have hx := V.1
  have hb := V.2.1
  refine lv_aload_n hx hb dX6_best_13 rfl (lv_at hl 0 rfl) ?_
  refine lv_iconst (v := 1) hx hb dX6_best_14 (by decide) ?_
  obtain ⟨x13_1, hx13_1, hf⟩ := kbind hf
  refine kr_calli0 hH (kr_runV (as := [.int 1]) (rest := []) (pl := 7) V hH kYX6_fail kl_X6_55 (c_X6_fail l _ hx13_1 _) rfl rfl ⟨Nat.le_of_ble_eq_true rfl, Nat.le_of_ble_eq_true rfl⟩ (by decide) kE_7 rfl rfl hl.1 (Nat.le_of_ble_eq_true rfl) dX6_best_15 ⟨Nat.le_refl _, Nat.le_refl _⟩ rfl) (fun H locs hH => ?_)
  cases hf
  exact kr_iret V hH dX6_best_18
set_option maxHeartbeats 4000000 in
set_option maxRecDepth 100000 in
theorem w_X6_best_60 (V : kV p s mm args meth c cX6_best RX6 4 (some .int) D cI cZ cO) {k : kS} {c23 : Int32 → Int32 → Int32 → kS → Option ((Int32 × kS))} (hk23 : ∀ {v1 : Int32} {v2 : Int32} {v3 : Int32} {mo : kS} {H : Heap} {locs : List Loc} {ls : Array Slot} {out : (Int32 × kS)}, kHE s H locs D ad cI cZ cO k mo [] → lv_has ls 4 [(0, .ref (ad 7)), (1, .int v1), (2, .int v2), (3, .int v3)] → c23 v1 v2 v3 mo = some out → W p l e rm_X6_best s mm args below meth c H locs 0 0 (kGi below args s D cI cZ cO ad out.1 k out.2 0 0) (F0 mm 23 ls [])) {v1 : Int32} {v2 : Int32} {v3 : Int32} {mo : kS} {H : Heap} {locs : List Loc} {ls : Array Slot} {out : (Int32 × kS)} (hH : kHE s H locs D ad cI cZ cO k mo []) (hl : lv_has ls 4 [(0, .ref (ad 7)), (1, .int v1), (2, .int v2), (3, .int v3)]) (hf : F_X6_best_60 c23 v1 v2 v3 mo = some out) : W p l e rm_X6_best s mm args below meth c H locs 0 0 (kGi below args s D cI cZ cO ad out.1 k out.2 0 0) (F0 mm 60 ls []) := by
  have hx := V.1
  have hb := V.2.1
  refine lv_iinc (v := (v3 + 1)) (lv' := [(3, .int (v3 + 1)), (0, .ref (ad 7)), (1, .int v1), (2, .int v2)]) hx hb dX6_best_60 hl (k := 3) rfl rfl (by decide) rfl (fun ls hl => ?_)
  refine lv_goto (tgt := 23) hx hb dX6_best_63 (by decide) ?_
  exact hk23 hH (lv_sub hl [1, 2, 3, 0] rfl) hf
set_option maxHeartbeats 4000000 in
set_option maxRecDepth 100000 in
theorem w_X6_best_58 (V : kV p s mm args meth c cX6_best RX6 4 (some .int) D cI cZ cO) {k : kS} {c23 : Int32 → Int32 → Int32 → kS → Option ((Int32 × kS))} (hk23 : ∀ {v1 : Int32} {v2 : Int32} {v3 : Int32} {mo : kS} {H : Heap} {locs : List Loc} {ls : Array Slot} {out : (Int32 × kS)}, kHE s H locs D ad cI cZ cO k mo [] → lv_has ls 4 [(0, .ref (ad 7)), (1, .int v1), (2, .int v2), (3, .int v3)] → c23 v1 v2 v3 mo = some out → W p l e rm_X6_best s mm args below meth c H locs 0 0 (kGi below args s D cI cZ cO ad out.1 k out.2 0 0) (F0 mm 23 ls [])) {v1 : Int32} {v3 : Int32} {mo : kS} {H : Heap} {locs : List Loc} {ls : Array Slot} {out : (Int32 × kS)} (hH : kHE s H locs D ad cI cZ cO k mo []) (hl : lv_has ls 4 [(0, .ref (ad 7)), (1, .int v1), (3, .int v3)]) (hf : F_X6_best_58 c23 v1 v3 mo = some out) : W p l e rm_X6_best s mm args below meth c H locs 0 0 (kGi below args s D cI cZ cO ad out.1 k out.2 0 0) (F0 mm 58 ls []) := by
  have hx := V.1
  have hb := V.2.1
  refine lv_iload_n hx hb dX6_best_58 rfl (lv_at hl 2 rfl) ?_
  refine lv_istore_n (lv' := [(2, .int v3), (0, .ref (ad 7)), (1, .int v1), (3, .int v3)]) hx hb dX6_best_59 rfl hl (by decide) rfl (fun ls hl => ?_)
  exact w_X6_best_60 V hk23 hH (lv_sub hl [1, 2, 0, 3] rfl) hf
set_option maxHeartbeats 4000000 in
set_option maxRecDepth 100000 in
theorem w_X6_best_45 (V : kV p s mm args meth c cX6_best RX6 4 (some .int) D cI cZ cO) {k : kS} {c23 : Int32 → Int32 → Int32 → kS → Option ((Int32 × kS))} (hk23 : ∀ {v1 : Int32} {v2 : Int32} {v3 : Int32} {mo : kS} {H : Heap} {locs : List Loc} {ls : Array Slot} {out : (Int32 × kS)}, kHE s H locs D ad cI cZ cO k mo [] → lv_has ls 4 [(0, .ref (ad 7)), (1, .int v1), (2, .int v2), (3, .int v3)] → c23 v1 v2 v3 mo = some out → W p l e rm_X6_best s mm args below meth c H locs 0 0 (kGi below args s D cI cZ cO ad out.1 k out.2 0 0) (F0 mm 23 ls [])) {v1 : Int32} {v2 : Int32} {v3 : Int32} {mo : kS} {H : Heap} {locs : List Loc} {ls : Array Slot} {out : (Int32 × kS)} (hH : kHE s H locs D ad cI cZ cO k mo []) (hl : lv_has ls 4 [(0, .ref (ad 7)), (1, .int v1), (2, .int v2), (3, .int v3)]) (hf : F_X6_best_45 c23 v1 v2 v3 mo = some out) : W p l e rm_X6_best s mm args below meth c H locs 0 0 (kGi below args s D cI cZ cO ad out.1 k out.2 0 0) (F0 mm 45 ls []) := by
  have hx := V.1
  have hb := V.2.1
  refine lv_aload_n hx hb dX6_best_45 rfl (lv_at hl 0 rfl) ?_
  refine lv_iload_n hx hb dX6_best_46 rfl (lv_at hl 3 rfl) ?_
  obtain ⟨x45_1, hx45_1, hf⟩ := kbind hf
  refine kr_calli0 hH (kr_runV (as := [.int v3]) (rest := []) (pl := 7) V hH kYX6_worthOf kl_X6_125 (c_X6_worthOf l _ hx45_1 _) rfl rfl ⟨Nat.le_of_ble_eq_true rfl, Nat.le_of_ble_eq_true rfl⟩ (by decide) kE_7 rfl rfl hl.1 (Nat.le_of_ble_eq_true rfl) dX6_best_47 ⟨Nat.le_refl _, Nat.le_refl _⟩ rfl) (fun H locs hH => ?_)
  refine lv_aload_n hx hb dX6_best_50 rfl (lv_at hl 0 rfl) ?_
  refine lv_iload_n hx hb dX6_best_51 rfl (lv_at hl 2 rfl) ?_
  obtain ⟨x45_2, hx45_2, hf⟩ := kbind hf
  refine kr_calli0 hH (kr_runV (as := [.int v2]) (rest := [.int x45_1]) (pl := 7) V hH kYX6_worthOf kl_X6_125 (c_X6_worthOf l _ hx45_2 _) rfl rfl ⟨Nat.le_of_ble_eq_true rfl, Nat.le_of_ble_eq_true rfl⟩ (by decide) kE_7 rfl rfl hl.1 (Nat.le_of_ble_eq_true rfl) dX6_best_52 ⟨Nat.le_refl _, Nat.le_refl _⟩ rfl) (fun H locs hH => ?_)
  refine lv_icmp_le (tgt := 60) hx hb dX6_best_55 (by decide) (fun hq => ?_) (fun hq => ?_)
  · have hf := kpos hq hf
    exact w_X6_best_60 V hk23 hH (lv_sub hl [0, 1, 2, 3] rfl) hf
  · have hf := kneg hq hf
    exact w_X6_best_58 V hk23 hH (lv_sub hl [0, 1, 3] rfl) hf
set_option maxHeartbeats 4000000 in
set_option maxRecDepth 100000 in
theorem w_X6_best_40 (V : kV p s mm args meth c cX6_best RX6 4 (some .int) D cI cZ cO) {k : kS} {c23 : Int32 → Int32 → Int32 → kS → Option ((Int32 × kS))} (hk23 : ∀ {v1 : Int32} {v2 : Int32} {v3 : Int32} {mo : kS} {H : Heap} {locs : List Loc} {ls : Array Slot} {out : (Int32 × kS)}, kHE s H locs D ad cI cZ cO k mo [] → lv_has ls 4 [(0, .ref (ad 7)), (1, .int v1), (2, .int v2), (3, .int v3)] → c23 v1 v2 v3 mo = some out → W p l e rm_X6_best s mm args below meth c H locs 0 0 (kGi below args s D cI cZ cO ad out.1 k out.2 0 0) (F0 mm 23 ls [])) {v1 : Int32} {v2 : Int32} {v3 : Int32} {mo : kS} {H : Heap} {locs : List Loc} {ls : Array Slot} {out : (Int32 × kS)} (hH : kHE s H locs D ad cI cZ cO k mo []) (hl : lv_has ls 4 [(0, .ref (ad 7)), (1, .int v1), (2, .int v2), (3, .int v3)]) (hf : F_X6_best_40 c23 v1 v2 v3 mo = some out) : W p l e rm_X6_best s mm args below meth c H locs 0 0 (kGi below args s D cI cZ cO ad out.1 k out.2 0 0) (F0 mm 40 ls []) := by
  have hx := V.1
  have hb := V.2.1
  refine lv_iload_n hx hb dX6_best_40 rfl (lv_at hl 2 rfl) ?_
  refine lv_iconst (v := (-1)) hx hb dX6_best_41 (by decide) ?_
  refine lv_icmp_eq (tgt := 58) hx hb dX6_best_42 (by decide) (fun hq => ?_) (fun hq => ?_)
  · have hf := kpos hq hf
    exact w_X6_best_58 V hk23 hH (lv_sub hl [0, 1, 3] rfl) hf
  · have hf := kneg hq hf
    exact w_X6_best_45 V hk23 hH (lv_sub hl [0, 1, 2, 3] rfl) hf
set_option maxHeartbeats 4000000 in
set_option maxRecDepth 100000 in
theorem w_X6_best_31 (V : kV p s mm args meth c cX6_best RX6 4 (some .int) D cI cZ cO) {k : kS} {c23 : Int32 → Int32 → Int32 → kS → Option ((Int32 × kS))} (hk23 : ∀ {v1 : Int32} {v2 : Int32} {v3 : Int32} {mo : kS} {H : Heap} {locs : List Loc} {ls : Array Slot} {out : (Int32 × kS)}, kHE s H locs D ad cI cZ cO k mo [] → lv_has ls 4 [(0, .ref (ad 7)), (1, .int v1), (2, .int v2), (3, .int v3)] → c23 v1 v2 v3 mo = some out → W p l e rm_X6_best s mm args below meth c H locs 0 0 (kGi below args s D cI cZ cO ad out.1 k out.2 0 0) (F0 mm 23 ls [])) {v1 : Int32} {v2 : Int32} {v3 : Int32} {mo : kS} {H : Heap} {locs : List Loc} {ls : Array Slot} {out : (Int32 × kS)} (hH : kHE s H locs D ad cI cZ cO k mo []) (hl : lv_has ls 4 [(0, .ref (ad 7)), (1, .int v1), (2, .int v2), (3, .int v3)]) (hf : F_X6_best_31 c23 v1 v2 v3 mo = some out) : W p l e rm_X6_best s mm args below meth c H locs 0 0 (kGi below args s D cI cZ cO ad out.1 k out.2 0 0) (F0 mm 31 ls []) := by
  have hx := V.1
  have hb := V.2.1
  refine lv_aload_n hx hb dX6_best_31 rfl (lv_at hl 0 rfl) ?_
  refine lv_iload_n hx hb dX6_best_32 rfl (lv_at hl 1 rfl) ?_
  refine lv_iload_n hx hb dX6_best_33 rfl (lv_at hl 3 rfl) ?_
  obtain ⟨x31_1, hx31_1, hf⟩ := kbind hf
  refine kr_calli0 hH (kr_runV (as := [.int v1, .int v3]) (rest := []) (pl := 7) V hH kYX6_canMarry kl_X6_118 (c_X6_canMarry l _ _ hx31_1 _) rfl rfl ⟨Nat.le_of_ble_eq_true rfl, Nat.le_of_ble_eq_true rfl⟩ (by decide) kE_7 rfl rfl hl.1 (Nat.le_of_ble_eq_true rfl) dX6_best_34 ⟨Nat.le_refl _, Nat.le_refl _⟩ rfl) (fun H locs hH => ?_)
  refine lv_if_eq (tgt := 60) hx hb dX6_best_37 (by decide) (fun hq => ?_) (fun hq => ?_)
  · have hf := kpos hq hf
    exact w_X6_best_60 V hk23 hH (lv_sub hl [0, 1, 2, 3] rfl) hf
  · have hf := kneg hq hf
    exact w_X6_best_40 V hk23 hH (lv_sub hl [0, 1, 2, 3] rfl) hf
set_option maxHeartbeats 4000000 in
set_option maxRecDepth 100000 in
theorem w_X6_best_66 (V : kV p s mm args meth c cX6_best RX6 4 (some .int) D cI cZ cO) {k : kS} {v2 : Int32} {mo : kS} {H : Heap} {locs : List Loc} {ls : Array Slot} {out : (Int32 × kS)} (hH : kHE s H locs D ad cI cZ cO k mo []) (hl : lv_has ls 4 [(2, .int v2)]) (hf : F_X6_best_66 v2 mo = some out) : W p l e rm_X6_best s mm args below meth c H locs 0 0 (kGi below args s D cI cZ cO ad out.1 k out.2 0 0) (F0 mm 66 ls []) := by
  have hx := V.1
  have hb := V.2.1
  refine lv_iload_n hx hb dX6_best_66 rfl (lv_at hl 0 rfl) ?_
  cases hf
  exact kr_iret V hH dX6_best_67
set_option maxHeartbeats 4000000 in
set_option maxRecDepth 100000 in
theorem w_X6_best_23 (V : kV p s mm args meth c cX6_best RX6 4 (some .int) D cI cZ cO) {k : kS} : ∀ (n : Nat) {v1 : Int32} {v2 : Int32} {v3 : Int32} {mo : kS} {H : Heap} {locs : List Loc} {ls : Array Slot} {out : (Int32 × kS)}, kHE s H locs D ad cI cZ cO k mo [] → lv_has ls 4 [(0, .ref (ad 7)), (1, .int v1), (2, .int v2), (3, .int v3)] → F_X6_best_23 n v1 v2 v3 mo = some out → W p l e rm_X6_best s mm args below meth c H locs 0 0 (kGi below args s D cI cZ cO ad out.1 k out.2 0 0) (F0 mm 23 ls []) := by
  have hx := V.1
  have hb := V.2.1
  intro n
  induction n with
  | zero => intro _ _ _ _ _ _ _ _ hH hl hf; cases hf
  | succ n hk23 =>
    intro v1 v2 v3 mo H locs ls out hH hl hf
    refine lv_iload_n hx hb dX6_best_23 rfl (lv_at hl 3 rfl) ?_
    refine lv_aload_n hx hb dX6_best_24 rfl (lv_at hl 0 rfl) ?_
    refine kg_X6_35 V hH dX6_best_25 ?_
    refine lv_icmp_ge (tgt := 66) hx hb dX6_best_28 (by decide) (fun hq => ?_) (fun hq => ?_)
    · have hf := kpos hq hf
      exact w_X6_best_66 V hH (lv_sub hl [2] rfl) hf
    · have hf := kneg hq hf
      exact w_X6_best_31 V hk23 hH (lv_sub hl [0, 1, 2, 3] rfl) hf
set_option maxHeartbeats 4000000 in
set_option maxRecDepth 100000 in
theorem w_X6_best_19 (V : kV p s mm args meth c cX6_best RX6 4 (some .int) D cI cZ cO) {k : kS} {v1 : Int32} {mo : kS} {H : Heap} {locs : List Loc} {ls : Array Slot} {out : (Int32 × kS)} (hH : kHE s H locs D ad cI cZ cO k mo []) (hl : lv_has ls 4 [(0, .ref (ad 7)), (1, .int v1)]) (hf : F_X6_best_19 v1 mo = some out) : W p l e rm_X6_best s mm args below meth c H locs 0 0 (kGi below args s D cI cZ cO ad out.1 k out.2 0 0) (F0 mm 19 ls []) := by
  have hx := V.1
  have hb := V.2.1
  refine lv_iconst (v := (-1)) hx hb dX6_best_19 (by decide) ?_
  refine lv_istore_n (lv' := [(2, .int (-1)), (0, .ref (ad 7)), (1, .int v1)]) hx hb dX6_best_20 rfl hl (by decide) rfl (fun ls hl => ?_)
  refine lv_iconst (v := 0) hx hb dX6_best_21 (by decide) ?_
  refine lv_istore_n (lv' := [(3, .int 0), (2, .int (-1)), (0, .ref (ad 7)), (1, .int v1)]) hx hb dX6_best_22 rfl hl (by decide) rfl (fun ls hl => ?_)
  exact w_X6_best_23 V kN hH (lv_sub hl [2, 3, 1, 0] rfl) hf
set_option maxHeartbeats 4000000 in
set_option maxRecDepth 100000 in
theorem w_X6_best_0 (V : kV p s mm args meth c cX6_best RX6 4 (some .int) D cI cZ cO) {k : kS} {v1 : Int32} {mo : kS} {H : Heap} {locs : List Loc} {ls : Array Slot} {out : (Int32 × kS)} (hH : kHE s H locs D ad cI cZ cO k mo []) (hl : lv_has ls 4 [(0, .ref (ad 7)), (1, .int v1)]) (hf : F_X6_best_0 v1 mo = some out) : W p l e rm_X6_best s mm args below meth c H locs 0 0 (kGi below args s D cI cZ cO ad out.1 k out.2 0 0) (F0 mm 0 ls []) := by
  have hx := V.1
  have hb := V.2.1
  refine lv_aload_n hx hb dX6_best_0 rfl (lv_at hl 0 rfl) ?_
  refine lv_iconst (v := 0) hx hb dX6_best_1 (by decide) ?_
  refine kp_X6_31 V hH dX6_best_2 (fun H locs hH => ?_)
  refine lv_aload_n hx hb dX6_best_5 rfl (lv_at hl 0 rfl) ?_
  refine lv_iload_n hx hb dX6_best_6 rfl (lv_at hl 1 rfl) ?_
  obtain ⟨x0_1, hx0_1, hf⟩ := kbind hf
  refine kr_calli0 hH (kr_runV (as := [.int v1]) (rest := []) (pl := 7) V hH kYX6_isPerson kl_X6_63 (c_X6_isPerson l _ hx0_1 _) rfl rfl ⟨Nat.le_of_ble_eq_true rfl, Nat.le_of_ble_eq_true rfl⟩ (by decide) kE_7 rfl rfl hl.1 (Nat.le_of_ble_eq_true rfl) dX6_best_7 ⟨Nat.le_refl _, Nat.le_refl _⟩ rfl) (fun H locs hH => ?_)
  refine lv_if_ne (tgt := 19) hx hb dX6_best_10 (by decide) (fun hq => ?_) (fun hq => ?_)
  · have hf := kneg hq hf
    exact w_X6_best_19 V hH (lv_sub hl [0, 1] rfl) hf
  · have hf := kpos hq hf
    exact w_X6_best_13 V hH (lv_sub hl [0] rfl) hf
set_option maxHeartbeats 4000000 in
set_option maxRecDepth 100000 in
theorem c_X6_best (l : Launch) {D : va_G} {cI cZ cO : ClassId} {ad : Nat → Nat} {k mo : kS} (v1 : Int32) {out : (Int32 × kS)} (hf : F_X6_best v1 mo = some out) (sz : Nat) : Met l yX6_best (Cond.code yX6_best cX6_best 4 (some .int) :: kWA) rm_X6_best (kP [.ref (ad 7), .int v1] D cI cZ cO ad (kE ad cI cZ cO k mo) sz) (kQi out.1 D cI cZ cO ad (kE ad cI cZ cO k out.2) sz) 0 0 (fA ad sz) := by
  refine kr_met (as := [.ref (ad 7), .int v1]) (bytes := cX6_best) (maxL := 4) (rt := (some .int)) (Qc := fun sz => kQi out.1 D cI cZ cO ad (kE ad cI cZ cO k out.2) sz) (lv := [(0, .ref (ad 7)), (1, .int v1)]) (by decide +kernel) (Nat.le_of_ble_eq_true rfl) rfl (fun p e s mm below meth c ls V hH hl => ?_) sz
  exact w_X6_best_0 V hH (lv_sub hl [0, 1] rfl) hf
end
section
variable {p : Program} {l : Launch} {e : Env} {s : State} {mm : MethodId} {args : Array Value} {below : List Frame} {meth : Method} {c : Code} {D : va_G} {cI cZ cO : ClassId} {ad : Nat → Nat}
abbrev rm_X6_mean : Room := { frames := 5, cells := 0, slots := 0, locals := 113 }
set_option maxHeartbeats 4000000 in
set_option maxRecDepth 100000 in
theorem w_X6_mean_35 (V : kV p s mm args meth c cX6_mean RX6 3 (some .double) D cI cZ cO) {k : kS} {c9 : Int32 → Int32 → kS → Option ((UInt64 × kS))} (hk9 : ∀ {v1 : Int32} {v2 : Int32} {mo : kS} {H : Heap} {locs : List Loc} {ls : Array Slot} {out : (UInt64 × kS)}, kHE s H locs D ad cI cZ cO k mo [] → lv_has ls 3 [(0, .ref (ad 7)), (1, .int v1), (2, .int v2)] → c9 v1 v2 mo = some out → W p l e rm_X6_mean s mm args below meth c H locs 0 0 (kGd below args s D cI cZ cO ad out.1 k out.2 0 0) (F0 mm 9 ls [])) {s0 : Int32} {s1 : Int32} {v2 : Int32} {mo : kS} {H : Heap} {locs : List Loc} {ls : Array Slot} {out : (UInt64 × kS)} (hH : kHE s H locs D ad cI cZ cO k mo []) (hl : lv_has ls 3 [(0, .ref (ad 7)), (2, .int v2)]) (hf : F_X6_mean_35 c9 s0 s1 v2 mo = some out) : W p l e rm_X6_mean s mm args below meth c H locs 0 0 (kGd below args s D cI cZ cO ad out.1 k out.2 0 0) (F0 mm 35 ls [.int s1, .int s0]) := by
  have hx := V.1
  have hb := V.2.1
  refine lv_iadd hx hb dX6_mean_35 ?_
  refine lv_istore_n (lv' := [(1, .int (s0 + s1)), (0, .ref (ad 7)), (2, .int v2)]) hx hb dX6_mean_36 rfl hl (by decide) rfl (fun ls hl => ?_)
  refine lv_iinc (v := (v2 + 1)) (lv' := [(2, .int (v2 + 1)), (1, .int (s0 + s1)), (0, .ref (ad 7))]) hx hb dX6_mean_37 hl (k := 2) rfl rfl (by decide) rfl (fun ls hl => ?_)
  refine lv_goto (tgt := 9) hx hb dX6_mean_40 (by decide) ?_
  exact hk9 hH (lv_sub hl [2, 1, 0] rfl) hf
set_option maxHeartbeats 4000000 in
set_option maxRecDepth 100000 in
theorem w_X6_mean_26 (V : kV p s mm args meth c cX6_mean RX6 3 (some .double) D cI cZ cO) {k : kS} {c9 : Int32 → Int32 → kS → Option ((UInt64 × kS))} (hk9 : ∀ {v1 : Int32} {v2 : Int32} {mo : kS} {H : Heap} {locs : List Loc} {ls : Array Slot} {out : (UInt64 × kS)}, kHE s H locs D ad cI cZ cO k mo [] → lv_has ls 3 [(0, .ref (ad 7)), (1, .int v1), (2, .int v2)] → c9 v1 v2 mo = some out → W p l e rm_X6_mean s mm args below meth c H locs 0 0 (kGd below args s D cI cZ cO ad out.1 k out.2 0 0) (F0 mm 9 ls [])) {s0 : Int32} {v2 : Int32} {mo : kS} {H : Heap} {locs : List Loc} {ls : Array Slot} {out : (UInt64 × kS)} (hH : kHE s H locs D ad cI cZ cO k mo []) (hl : lv_has ls 3 [(0, .ref (ad 7)), (2, .int v2)]) (hf : F_X6_mean_26 c9 s0 v2 mo = some out) : W p l e rm_X6_mean s mm args below meth c H locs 0 0 (kGd below args s D cI cZ cO ad out.1 k out.2 0 0) (F0 mm 26 ls [.int s0]) := by
  have hx := V.1
  have hb := V.2.1
  refine lv_aload_n hx hb dX6_mean_26 rfl (lv_at hl 0 rfl) ?_
  refine lv_iload_n hx hb dX6_mean_27 rfl (lv_at hl 1 rfl) ?_
  obtain ⟨x26_1, hx26_1, hf⟩ := kbind hf
  refine kr_calli0 hH (kr_runV (as := [.int v2]) (rest := [.int s0]) (pl := 7) V hH kYX6_age kl_X6_112 (c_X6_age l _ hx26_1 _) rfl rfl ⟨Nat.le_of_ble_eq_true rfl, Nat.le_of_ble_eq_true rfl⟩ (by decide) kE_7 rfl rfl hl.1 (Nat.le_of_ble_eq_true rfl) dX6_mean_28 ⟨Nat.le_refl _, Nat.le_refl _⟩ rfl) (fun H locs hH => ?_)
  refine lv_goto (tgt := 35) hx hb dX6_mean_31 (by decide) ?_
  exact w_X6_mean_35 V hk9 hH (lv_sub hl [0, 1] rfl) hf
set_option maxHeartbeats 4000000 in
set_option maxRecDepth 100000 in
theorem w_X6_mean_34 (V : kV p s mm args meth c cX6_mean RX6 3 (some .double) D cI cZ cO) {k : kS} {c9 : Int32 → Int32 → kS → Option ((UInt64 × kS))} (hk9 : ∀ {v1 : Int32} {v2 : Int32} {mo : kS} {H : Heap} {locs : List Loc} {ls : Array Slot} {out : (UInt64 × kS)}, kHE s H locs D ad cI cZ cO k mo [] → lv_has ls 3 [(0, .ref (ad 7)), (1, .int v1), (2, .int v2)] → c9 v1 v2 mo = some out → W p l e rm_X6_mean s mm args below meth c H locs 0 0 (kGd below args s D cI cZ cO ad out.1 k out.2 0 0) (F0 mm 9 ls [])) {s0 : Int32} {v2 : Int32} {mo : kS} {H : Heap} {locs : List Loc} {ls : Array Slot} {out : (UInt64 × kS)} (hH : kHE s H locs D ad cI cZ cO k mo []) (hl : lv_has ls 3 [(0, .ref (ad 7)), (2, .int v2)]) (hf : F_X6_mean_34 c9 s0 v2 mo = some out) : W p l e rm_X6_mean s mm args below meth c H locs 0 0 (kGd below args s D cI cZ cO ad out.1 k out.2 0 0) (F0 mm 34 ls [.int s0]) := by
  have hx := V.1
  have hb := V.2.1
  refine lv_iconst (v := 0) hx hb dX6_mean_34 (by decide) ?_
  exact w_X6_mean_35 V hk9 hH (lv_sub hl [0, 1] rfl) hf
set_option maxHeartbeats 4000000 in
set_option maxRecDepth 100000 in
theorem w_X6_mean_17 (V : kV p s mm args meth c cX6_mean RX6 3 (some .double) D cI cZ cO) {k : kS} {c9 : Int32 → Int32 → kS → Option ((UInt64 × kS))} (hk9 : ∀ {v1 : Int32} {v2 : Int32} {mo : kS} {H : Heap} {locs : List Loc} {ls : Array Slot} {out : (UInt64 × kS)}, kHE s H locs D ad cI cZ cO k mo [] → lv_has ls 3 [(0, .ref (ad 7)), (1, .int v1), (2, .int v2)] → c9 v1 v2 mo = some out → W p l e rm_X6_mean s mm args below meth c H locs 0 0 (kGd below args s D cI cZ cO ad out.1 k out.2 0 0) (F0 mm 9 ls [])) {v1 : Int32} {v2 : Int32} {mo : kS} {H : Heap} {locs : List Loc} {ls : Array Slot} {out : (UInt64 × kS)} (hH : kHE s H locs D ad cI cZ cO k mo []) (hl : lv_has ls 3 [(0, .ref (ad 7)), (1, .int v1), (2, .int v2)]) (hf : F_X6_mean_17 c9 v1 v2 mo = some out) : W p l e rm_X6_mean s mm args below meth c H locs 0 0 (kGd below args s D cI cZ cO ad out.1 k out.2 0 0) (F0 mm 17 ls []) := by
  have hx := V.1
  have hb := V.2.1
  refine lv_iload_n hx hb dX6_mean_17 rfl (lv_at hl 1 rfl) ?_
  refine lv_aload_n hx hb dX6_mean_18 rfl (lv_at hl 0 rfl) ?_
  refine lv_iload_n hx hb dX6_mean_19 rfl (lv_at hl 2 rfl) ?_
  obtain ⟨x17_1, hx17_1, hf⟩ := kbind hf
  refine kr_calli0 hH (kr_runV (as := [.int v2]) (rest := [.int v1]) (pl := 7) V hH kYX6_lives kl_X6_67 (c_X6_lives l _ hx17_1 _) rfl rfl ⟨Nat.le_of_ble_eq_true rfl, Nat.le_of_ble_eq_true rfl⟩ (by decide) kE_7 rfl rfl hl.1 (Nat.le_of_ble_eq_true rfl) dX6_mean_20 ⟨Nat.le_refl _, Nat.le_refl _⟩ rfl) (fun H locs hH => ?_)
  refine lv_if_eq (tgt := 34) hx hb dX6_mean_23 (by decide) (fun hq => ?_) (fun hq => ?_)
  · have hf := kpos hq hf
    exact w_X6_mean_34 V hk9 hH (lv_sub hl [0, 2] rfl) hf
  · have hf := kneg hq hf
    exact w_X6_mean_26 V hk9 hH (lv_sub hl [0, 2] rfl) hf
set_option maxHeartbeats 4000000 in
set_option maxRecDepth 100000 in
theorem w_X6_mean_64 (V : kV p s mm args meth c cX6_mean RX6 3 (some .double) D cI cZ cO) {k : kS} {s0 : UInt64} {mo : kS} {H : Heap} {locs : List Loc} {ls : Array Slot} {out : (UInt64 × kS)} (hH : kHE s H locs D ad cI cZ cO k mo []) (hl : lv_has ls 3 []) (hf : F_X6_mean_64 s0 mo = some out) : W p l e rm_X6_mean s mm args below meth c H locs 0 0 (kGd below args s D cI cZ cO ad out.1 k out.2 0 0) (F0 mm 64 ls [.double s0]) := by
  have hx := V.1
  have hb := V.2.1
  cases hf
  exact kr_dret V hH dX6_mean_64
set_option maxHeartbeats 4000000 in
set_option maxRecDepth 100000 in
theorem w_X6_mean_51 (V : kV p s mm args meth c cX6_mean RX6 3 (some .double) D cI cZ cO) {k : kS} {mo : kS} {H : Heap} {locs : List Loc} {ls : Array Slot} {out : (UInt64 × kS)} (hH : kHE s H locs D ad cI cZ cO k mo []) (hl : lv_has ls 3 []) (hf : F_X6_mean_51 mo = some out) : W p l e rm_X6_mean s mm args below meth c H locs 0 0 (kGd below args s D cI cZ cO ad out.1 k out.2 0 0) (F0 mm 51 ls []) := by
  have hx := V.1
  have hb := V.2.1
  refine lv_dconst0 hx hb dX6_mean_51 ?_
  refine lv_goto (tgt := 64) hx hb dX6_mean_52 (by decide) ?_
  exact w_X6_mean_64 V hH (lv_sub hl [] rfl) hf
set_option maxHeartbeats 4000000 in
set_option maxRecDepth 100000 in
theorem w_X6_mean_55 (V : kV p s mm args meth c cX6_mean RX6 3 (some .double) D cI cZ cO) {k : kS} {v1 : Int32} {mo : kS} {H : Heap} {locs : List Loc} {ls : Array Slot} {out : (UInt64 × kS)} (hH : kHE s H locs D ad cI cZ cO k mo []) (hl : lv_has ls 3 [(0, .ref (ad 7)), (1, .int v1)]) (hf : F_X6_mean_55 v1 mo = some out) : W p l e rm_X6_mean s mm args below meth c H locs 0 0 (kGd below args s D cI cZ cO ad out.1 k out.2 0 0) (F0 mm 55 ls []) := by
  have hx := V.1
  have hb := V.2.1
  refine lv_iload_n hx hb dX6_mean_55 rfl (lv_at hl 1 rfl) ?_
  refine lv_i2d hx hb dX6_mean_56 ?_
  refine lv_aload_n hx hb dX6_mean_57 rfl (lv_at hl 0 rfl) ?_
  refine lv_iconst (v := 2) hx hb dX6_mean_58 (by decide) ?_
  obtain ⟨x55_1, hx55_1, hf⟩ := kbind hf
  refine kr_calli0 hH (kr_runV (as := [.int 2]) (rest := [.double (FP.i2d v1)]) (pl := 7) V hH kYX6_counted kl_X6_153 (c_X6_counted l _ hx55_1 _) rfl rfl ⟨Nat.le_of_ble_eq_true rfl, Nat.le_of_ble_eq_true rfl⟩ (by decide) kE_7 rfl rfl hl.1 (Nat.le_of_ble_eq_true rfl) dX6_mean_59 ⟨Nat.le_refl _, Nat.le_refl _⟩ rfl) (fun H locs hH => ?_)
  refine lv_i2d hx hb dX6_mean_62 ?_
  obtain ⟨h55_2, hf⟩ := kif hf
  refine lv_ddiv hx hb dX6_mean_63 (by unfold vf_n64; exact Classical.not_not.mp h55_2) ?_
  exact w_X6_mean_64 V hH (lv_sub hl [] rfl) hf
set_option maxHeartbeats 4000000 in
set_option maxRecDepth 100000 in
theorem w_X6_mean_43 (V : kV p s mm args meth c cX6_mean RX6 3 (some .double) D cI cZ cO) {k : kS} {v1 : Int32} {mo : kS} {H : Heap} {locs : List Loc} {ls : Array Slot} {out : (UInt64 × kS)} (hH : kHE s H locs D ad cI cZ cO k mo []) (hl : lv_has ls 3 [(0, .ref (ad 7)), (1, .int v1)]) (hf : F_X6_mean_43 v1 mo = some out) : W p l e rm_X6_mean s mm args below meth c H locs 0 0 (kGd below args s D cI cZ cO ad out.1 k out.2 0 0) (F0 mm 43 ls []) := by
  have hx := V.1
  have hb := V.2.1
  refine lv_aload_n hx hb dX6_mean_43 rfl (lv_at hl 0 rfl) ?_
  refine lv_iconst (v := 2) hx hb dX6_mean_44 (by decide) ?_
  obtain ⟨x43_1, hx43_1, hf⟩ := kbind hf
  refine kr_calli0 hH (kr_runV (as := [.int 2]) (rest := []) (pl := 7) V hH kYX6_counted kl_X6_153 (c_X6_counted l _ hx43_1 _) rfl rfl ⟨Nat.le_of_ble_eq_true rfl, Nat.le_of_ble_eq_true rfl⟩ (by decide) kE_7 rfl rfl hl.1 (Nat.le_of_ble_eq_true rfl) dX6_mean_45 ⟨Nat.le_refl _, Nat.le_refl _⟩ rfl) (fun H locs hH => ?_)
  refine lv_if_ne (tgt := 55) hx hb dX6_mean_48 (by decide) (fun hq => ?_) (fun hq => ?_)
  · have hf := kneg hq hf
    exact w_X6_mean_55 V hH (lv_sub hl [0, 1] rfl) hf
  · have hf := kpos hq hf
    exact w_X6_mean_51 V hH (lv_sub hl [] rfl) hf
set_option maxHeartbeats 4000000 in
set_option maxRecDepth 100000 in
theorem w_X6_mean_9 (V : kV p s mm args meth c cX6_mean RX6 3 (some .double) D cI cZ cO) {k : kS} : ∀ (n : Nat) {v1 : Int32} {v2 : Int32} {mo : kS} {H : Heap} {locs : List Loc} {ls : Array Slot} {out : (UInt64 × kS)}, kHE s H locs D ad cI cZ cO k mo [] → lv_has ls 3 [(0, .ref (ad 7)), (1, .int v1), (2, .int v2)] → F_X6_mean_9 n v1 v2 mo = some out → W p l e rm_X6_mean s mm args below meth c H locs 0 0 (kGd below args s D cI cZ cO ad out.1 k out.2 0 0) (F0 mm 9 ls []) := by
  have hx := V.1
  have hb := V.2.1
  intro n
  induction n with
  | zero => intro _ _ _ _ _ _ _ hH hl hf; cases hf
  | succ n hk9 =>
    intro v1 v2 mo H locs ls out hH hl hf
    refine lv_iload_n hx hb dX6_mean_9 rfl (lv_at hl 2 rfl) ?_
    refine lv_aload_n hx hb dX6_mean_10 rfl (lv_at hl 0 rfl) ?_
    refine kg_X6_35 V hH dX6_mean_11 ?_
    refine lv_icmp_ge (tgt := 43) hx hb dX6_mean_14 (by decide) (fun hq => ?_) (fun hq => ?_)
    · have hf := kpos hq hf
      exact w_X6_mean_43 V hH (lv_sub hl [0, 1] rfl) hf
    · have hf := kneg hq hf
      exact w_X6_mean_17 V hk9 hH (lv_sub hl [0, 1, 2] rfl) hf
set_option maxHeartbeats 4000000 in
set_option maxRecDepth 100000 in
theorem w_X6_mean_0 (V : kV p s mm args meth c cX6_mean RX6 3 (some .double) D cI cZ cO) {k : kS} {mo : kS} {H : Heap} {locs : List Loc} {ls : Array Slot} {out : (UInt64 × kS)} (hH : kHE s H locs D ad cI cZ cO k mo []) (hl : lv_has ls 3 [(0, .ref (ad 7))]) (hf : F_X6_mean_0 mo = some out) : W p l e rm_X6_mean s mm args below meth c H locs 0 0 (kGd below args s D cI cZ cO ad out.1 k out.2 0 0) (F0 mm 0 ls []) := by
  have hx := V.1
  have hb := V.2.1
  refine lv_aload_n hx hb dX6_mean_0 rfl (lv_at hl 0 rfl) ?_
  refine lv_iconst (v := 0) hx hb dX6_mean_1 (by decide) ?_
  refine kp_X6_31 V hH dX6_mean_2 (fun H locs hH => ?_)
  refine lv_iconst (v := 0) hx hb dX6_mean_5 (by decide) ?_
  refine lv_istore_n (lv' := [(1, .int 0), (0, .ref (ad 7))]) hx hb dX6_mean_6 rfl hl (by decide) rfl (fun ls hl => ?_)
  refine lv_iconst (v := 0) hx hb dX6_mean_7 (by decide) ?_
  refine lv_istore_n (lv' := [(2, .int 0), (1, .int 0), (0, .ref (ad 7))]) hx hb dX6_mean_8 rfl hl (by decide) rfl (fun ls hl => ?_)
  exact w_X6_mean_9 V kN hH (lv_sub hl [2, 1, 0] rfl) hf
set_option maxHeartbeats 4000000 in
set_option maxRecDepth 100000 in
theorem c_X6_mean (l : Launch) {D : va_G} {cI cZ cO : ClassId} {ad : Nat → Nat} {k mo : kS} {out : (UInt64 × kS)} (hf : F_X6_mean mo = some out) (sz : Nat) : Met l yX6_mean (Cond.code yX6_mean cX6_mean 3 (some .double) :: kWA) rm_X6_mean (kP [.ref (ad 7)] D cI cZ cO ad (kE ad cI cZ cO k mo) sz) (kQd out.1 D cI cZ cO ad (kE ad cI cZ cO k out.2) sz) 0 0 (fA ad sz) := by
  refine kr_met (as := [.ref (ad 7)]) (bytes := cX6_mean) (maxL := 3) (rt := (some .double)) (Qc := fun sz => kQd out.1 D cI cZ cO ad (kE ad cI cZ cO k out.2) sz) (lv := [(0, .ref (ad 7))]) (by decide +kernel) (Nat.le_of_ble_eq_true rfl) rfl (fun p e s mm below meth c ls V hH hl => ?_) sz
  exact w_X6_mean_0 V hH (lv_sub hl [0] rfl) hf
end
section
variable {p : Program} {l : Launch} {e : Env} {s : State} {mm : MethodId} {args : Array Value} {below : List Frame} {meth : Method} {c : Code} {D : va_G} {cI cZ cO : ClassId} {ad : Nat → Nat}
abbrev rm_X6_digest : Room := { frames := 52, cells := 0, slots := 0, locals := 1288 }
set_option maxHeartbeats 4000000 in
set_option maxRecDepth 100000 in
theorem w_X6_digest_17 (V : kV p s mm args meth c cX6_digest RX6 5 (some .long) D cI cZ cO) {k : kS} {c11 : Int64 → Int32 → kS → Option ((Int64 × kS))} (hk11 : ∀ {v1 : Int64} {v3 : Int32} {mo : kS} {H : Heap} {locs : List Loc} {ls : Array Slot} {out : (Int64 × kS)}, kHE s H locs D ad cI cZ cO k mo [] → lv_has ls 5 [(0, .ref (ad 7)), (1, .long v1), (3, .int v3)] → c11 v1 v3 mo = some out → W p l e rm_X6_digest s mm args below meth c H locs 0 0 (kGl below args s D cI cZ cO ad out.1 k out.2 0 0) (F0 mm 11 ls [])) {v1 : Int64} {v3 : Int32} {mo : kS} {H : Heap} {locs : List Loc} {ls : Array Slot} {out : (Int64 × kS)} (hH : kHE s H locs D ad cI cZ cO k mo []) (hl : lv_has ls 5 [(0, .ref (ad 7)), (1, .long v1), (3, .int v3)]) (hf : F_X6_digest_17 c11 v1 v3 mo = some out) : W p l e rm_X6_digest s mm args below meth c H locs 0 0 (kGl below args s D cI cZ cO ad out.1 k out.2 0 0) (F0 mm 17 ls []) := by
  have hx := V.1
  have hb := V.2.1
  refine lv_lload_n hx hb dX6_digest_17 rfl (lv_at hl 1 rfl) ?_
  refine lv_ldc2 hx hb V.2.2.2.1 (V.2.2.2.2.1 _ kn_X6_177) dX6_digest_18 ?_
  refine lv_lmul hx hb dX6_digest_21 ?_
  refine lv_aload_n hx hb dX6_digest_22 rfl (lv_at hl 0 rfl) ?_
  refine lv_iload_n hx hb dX6_digest_23 rfl (lv_at hl 2 rfl) ?_
  obtain ⟨x17_1, hx17_1, hf⟩ := kbind hf
  refine kr_calli0 hH (kr_runV (as := [.int v3]) (rest := [.long (v1 * 31)]) (pl := 7) V hH kYX6_counted kl_X6_153 (c_X6_counted l _ hx17_1 _) rfl rfl ⟨Nat.le_of_ble_eq_true rfl, Nat.le_of_ble_eq_true rfl⟩ (by decide) kE_7 rfl rfl hl.1 (Nat.le_of_ble_eq_true rfl) dX6_digest_24 ⟨Nat.le_refl _, Nat.le_refl _⟩ rfl) (fun H locs hH => ?_)
  refine lv_i2l hx hb dX6_digest_27 rfl ?_
  refine lv_ladd hx hb dX6_digest_28 ?_
  refine lv_lstore_n (lv' := [(1, .long ((v1 * 31) + x17_1.toInt64)), (0, .ref (ad 7)), (3, .int v3)]) hx hb dX6_digest_29 rfl hl (by decide) rfl (fun ls hl => ?_)
  refine lv_iinc (v := (v3 + 1)) (lv' := [(3, .int (v3 + 1)), (1, .long ((v1 * 31) + x17_1.toInt64)), (0, .ref (ad 7))]) hx hb dX6_digest_30 hl (k := 2) rfl rfl (by decide) rfl (fun ls hl => ?_)
  refine lv_goto (tgt := 11) hx hb dX6_digest_33 (by decide) ?_
  exact hk11 hH (lv_sub hl [2, 1, 0] rfl) hf
set_option maxHeartbeats 4000000 in
set_option maxRecDepth 100000 in
theorem w_X6_digest_56 (V : kV p s mm args meth c cX6_digest RX6 5 (some .long) D cI cZ cO) {k : kS} {c38 : Int64 → Int32 → kS → Option ((Int64 × kS))} (hk38 : ∀ {v1 : Int64} {v3 : Int32} {mo : kS} {H : Heap} {locs : List Loc} {ls : Array Slot} {out : (Int64 × kS)}, kHE s H locs D ad cI cZ cO k mo [] → lv_has ls 5 [(0, .ref (ad 7)), (1, .long v1), (3, .int v3)] → c38 v1 v3 mo = some out → W p l e rm_X6_digest s mm args below meth c H locs 0 0 (kGl below args s D cI cZ cO ad out.1 k out.2 0 0) (F0 mm 38 ls [])) {c49 : Int64 → Int32 → Int32 → kS → Option ((Int64 × kS))} (hk49 : ∀ {v1 : Int64} {v3 : Int32} {v4 : Int32} {mo : kS} {H : Heap} {locs : List Loc} {ls : Array Slot} {out : (Int64 × kS)}, kHE s H locs D ad cI cZ cO k mo [] → lv_has ls 5 [(0, .ref (ad 7)), (1, .long v1), (3, .int v3), (4, .int v4)] → c49 v1 v3 v4 mo = some out → W p l e rm_X6_digest s mm args below meth c H locs 0 0 (kGl below args s D cI cZ cO ad out.1 k out.2 0 0) (F0 mm 49 ls [])) {v1 : Int64} {v3 : Int32} {v4 : Int32} {mo : kS} {H : Heap} {locs : List Loc} {ls : Array Slot} {out : (Int64 × kS)} (hH : kHE s H locs D ad cI cZ cO k mo []) (hl : lv_has ls 5 [(0, .ref (ad 7)), (1, .long v1), (3, .int v3), (4, .int v4)]) (hf : F_X6_digest_56 c38 c49 v1 v3 v4 mo = some out) : W p l e rm_X6_digest s mm args below meth c H locs 0 0 (kGl below args s D cI cZ cO ad out.1 k out.2 0 0) (F0 mm 56 ls []) := by
  have hx := V.1
  have hb := V.2.1
  refine lv_lload_n hx hb dX6_digest_56 rfl (lv_at hl 1 rfl) ?_
  refine lv_ldc2 hx hb V.2.2.2.1 (V.2.2.2.2.1 _ kn_X6_177) dX6_digest_57 ?_
  refine lv_lmul hx hb dX6_digest_60 ?_
  refine lv_aload_n hx hb dX6_digest_61 rfl (lv_at hl 0 rfl) ?_
  refine lv_iload_n hx hb dX6_digest_62 rfl (lv_at hl 2 rfl) ?_
  refine lv_iload hx hb dX6_digest_63 (lv_at hl 3 rfl) ?_
  obtain ⟨x56_1, hx56_1, hf⟩ := kbind hf
  refine kr_calli0 hH (kr_runV (as := [.int v3, .int v4]) (rest := [.long (v1 * 31)]) (pl := 7) V hH kYX6_personTold kl_X6_138 (c_X6_personTold l _ _ hx56_1 _) rfl rfl ⟨Nat.le_of_ble_eq_true rfl, Nat.le_of_ble_eq_true rfl⟩ (by decide) kE_7 rfl rfl hl.1 (Nat.le_of_ble_eq_true rfl) dX6_digest_65 ⟨Nat.le_refl _, Nat.le_refl _⟩ rfl) (fun H locs hH => ?_)
  refine lv_i2l hx hb dX6_digest_68 rfl ?_
  refine lv_ladd hx hb dX6_digest_69 ?_
  refine lv_lstore_n (lv' := [(1, .long ((v1 * 31) + x56_1.toInt64)), (0, .ref (ad 7)), (3, .int v3), (4, .int v4)]) hx hb dX6_digest_70 rfl hl (by decide) rfl (fun ls hl => ?_)
  refine lv_iinc (v := (v4 + 1)) (lv' := [(4, .int (v4 + 1)), (1, .long ((v1 * 31) + x56_1.toInt64)), (0, .ref (ad 7)), (3, .int v3)]) hx hb dX6_digest_71 hl (k := 3) rfl rfl (by decide) rfl (fun ls hl => ?_)
  refine lv_goto (tgt := 49) hx hb dX6_digest_74 (by decide) ?_
  exact hk49 hH (lv_sub hl [2, 1, 3, 0] rfl) hf
set_option maxHeartbeats 4000000 in
set_option maxRecDepth 100000 in
theorem w_X6_digest_77 (V : kV p s mm args meth c cX6_digest RX6 5 (some .long) D cI cZ cO) {k : kS} {c38 : Int64 → Int32 → kS → Option ((Int64 × kS))} (hk38 : ∀ {v1 : Int64} {v3 : Int32} {mo : kS} {H : Heap} {locs : List Loc} {ls : Array Slot} {out : (Int64 × kS)}, kHE s H locs D ad cI cZ cO k mo [] → lv_has ls 5 [(0, .ref (ad 7)), (1, .long v1), (3, .int v3)] → c38 v1 v3 mo = some out → W p l e rm_X6_digest s mm args below meth c H locs 0 0 (kGl below args s D cI cZ cO ad out.1 k out.2 0 0) (F0 mm 38 ls [])) {v1 : Int64} {v3 : Int32} {mo : kS} {H : Heap} {locs : List Loc} {ls : Array Slot} {out : (Int64 × kS)} (hH : kHE s H locs D ad cI cZ cO k mo []) (hl : lv_has ls 5 [(0, .ref (ad 7)), (1, .long v1), (3, .int v3)]) (hf : F_X6_digest_77 c38 v1 v3 mo = some out) : W p l e rm_X6_digest s mm args below meth c H locs 0 0 (kGl below args s D cI cZ cO ad out.1 k out.2 0 0) (F0 mm 77 ls []) := by
  have hx := V.1
  have hb := V.2.1
  refine lv_iinc (v := (v3 + 1)) (lv' := [(3, .int (v3 + 1)), (0, .ref (ad 7)), (1, .long v1)]) hx hb dX6_digest_77 hl (k := 2) rfl rfl (by decide) rfl (fun ls hl => ?_)
  refine lv_goto (tgt := 38) hx hb dX6_digest_80 (by decide) ?_
  exact hk38 hH (lv_sub hl [1, 2, 0] rfl) hf
set_option maxHeartbeats 4000000 in
set_option maxRecDepth 100000 in
theorem w_X6_digest_49 (V : kV p s mm args meth c cX6_digest RX6 5 (some .long) D cI cZ cO) {k : kS} {c38 : Int64 → Int32 → kS → Option ((Int64 × kS))} (hk38 : ∀ {v1 : Int64} {v3 : Int32} {mo : kS} {H : Heap} {locs : List Loc} {ls : Array Slot} {out : (Int64 × kS)}, kHE s H locs D ad cI cZ cO k mo [] → lv_has ls 5 [(0, .ref (ad 7)), (1, .long v1), (3, .int v3)] → c38 v1 v3 mo = some out → W p l e rm_X6_digest s mm args below meth c H locs 0 0 (kGl below args s D cI cZ cO ad out.1 k out.2 0 0) (F0 mm 38 ls [])) : ∀ (n : Nat) {v1 : Int64} {v3 : Int32} {v4 : Int32} {mo : kS} {H : Heap} {locs : List Loc} {ls : Array Slot} {out : (Int64 × kS)}, kHE s H locs D ad cI cZ cO k mo [] → lv_has ls 5 [(0, .ref (ad 7)), (1, .long v1), (3, .int v3), (4, .int v4)] → F_X6_digest_49 c38 n v1 v3 v4 mo = some out → W p l e rm_X6_digest s mm args below meth c H locs 0 0 (kGl below args s D cI cZ cO ad out.1 k out.2 0 0) (F0 mm 49 ls []) := by
  have hx := V.1
  have hb := V.2.1
  intro n
  induction n with
  | zero => intro _ _ _ _ _ _ _ _ hH hl hf; cases hf
  | succ n hk49 =>
    intro v1 v3 v4 mo H locs ls out hH hl hf
    refine lv_iload hx hb dX6_digest_49 (lv_at hl 3 rfl) ?_
    refine lv_bipush (v := 10) hx hb dX6_digest_51 (by decide) ?_
    refine lv_icmp_ge (tgt := 77) hx hb dX6_digest_53 (by decide) (fun hq => ?_) (fun hq => ?_)
    · have hf := kpos hq hf
      exact w_X6_digest_77 V hk38 hH (lv_sub hl [0, 1, 2] rfl) hf
    · have hf := kneg hq hf
      exact w_X6_digest_56 V hk38 hk49 hH (lv_sub hl [0, 1, 2, 3] rfl) hf
set_option maxHeartbeats 4000000 in
set_option maxRecDepth 100000 in
theorem w_X6_digest_46 (V : kV p s mm args meth c cX6_digest RX6 5 (some .long) D cI cZ cO) {k : kS} {c38 : Int64 → Int32 → kS → Option ((Int64 × kS))} (hk38 : ∀ {v1 : Int64} {v3 : Int32} {mo : kS} {H : Heap} {locs : List Loc} {ls : Array Slot} {out : (Int64 × kS)}, kHE s H locs D ad cI cZ cO k mo [] → lv_has ls 5 [(0, .ref (ad 7)), (1, .long v1), (3, .int v3)] → c38 v1 v3 mo = some out → W p l e rm_X6_digest s mm args below meth c H locs 0 0 (kGl below args s D cI cZ cO ad out.1 k out.2 0 0) (F0 mm 38 ls [])) {v1 : Int64} {v3 : Int32} {mo : kS} {H : Heap} {locs : List Loc} {ls : Array Slot} {out : (Int64 × kS)} (hH : kHE s H locs D ad cI cZ cO k mo []) (hl : lv_has ls 5 [(0, .ref (ad 7)), (1, .long v1), (3, .int v3)]) (hf : F_X6_digest_46 c38 v1 v3 mo = some out) : W p l e rm_X6_digest s mm args below meth c H locs 0 0 (kGl below args s D cI cZ cO ad out.1 k out.2 0 0) (F0 mm 46 ls []) := by
  have hx := V.1
  have hb := V.2.1
  refine lv_iconst (v := 0) hx hb dX6_digest_46 (by decide) ?_
  refine lv_istore (lv' := [(4, .int 0), (0, .ref (ad 7)), (1, .long v1), (3, .int v3)]) hx hb dX6_digest_47 hl (by decide) rfl (fun ls hl => ?_)
  exact w_X6_digest_49 V hk38 kN hH (lv_sub hl [1, 2, 3, 0] rfl) hf
set_option maxHeartbeats 4000000 in
set_option maxRecDepth 100000 in
theorem w_X6_digest_103 (V : kV p s mm args meth c cX6_digest RX6 5 (some .long) D cI cZ cO) {k : kS} {c85 : Int64 → Int32 → kS → Option ((Int64 × kS))} (hk85 : ∀ {v1 : Int64} {v3 : Int32} {mo : kS} {H : Heap} {locs : List Loc} {ls : Array Slot} {out : (Int64 × kS)}, kHE s H locs D ad cI cZ cO k mo [] → lv_has ls 5 [(0, .ref (ad 7)), (1, .long v1), (3, .int v3)] → c85 v1 v3 mo = some out → W p l e rm_X6_digest s mm args below meth c H locs 0 0 (kGl below args s D cI cZ cO ad out.1 k out.2 0 0) (F0 mm 85 ls [])) {c96 : Int64 → Int32 → Int32 → kS → Option ((Int64 × kS))} (hk96 : ∀ {v1 : Int64} {v3 : Int32} {v4 : Int32} {mo : kS} {H : Heap} {locs : List Loc} {ls : Array Slot} {out : (Int64 × kS)}, kHE s H locs D ad cI cZ cO k mo [] → lv_has ls 5 [(0, .ref (ad 7)), (1, .long v1), (3, .int v3), (4, .int v4)] → c96 v1 v3 v4 mo = some out → W p l e rm_X6_digest s mm args below meth c H locs 0 0 (kGl below args s D cI cZ cO ad out.1 k out.2 0 0) (F0 mm 96 ls [])) {v1 : Int64} {v3 : Int32} {v4 : Int32} {mo : kS} {H : Heap} {locs : List Loc} {ls : Array Slot} {out : (Int64 × kS)} (hH : kHE s H locs D ad cI cZ cO k mo []) (hl : lv_has ls 5 [(0, .ref (ad 7)), (1, .long v1), (3, .int v3), (4, .int v4)]) (hf : F_X6_digest_103 c85 c96 v1 v3 v4 mo = some out) : W p l e rm_X6_digest s mm args below meth c H locs 0 0 (kGl below args s D cI cZ cO ad out.1 k out.2 0 0) (F0 mm 103 ls []) := by
  have hx := V.1
  have hb := V.2.1
  refine lv_lload_n hx hb dX6_digest_103 rfl (lv_at hl 1 rfl) ?_
  refine lv_ldc2 hx hb V.2.2.2.1 (V.2.2.2.2.1 _ kn_X6_177) dX6_digest_104 ?_
  refine lv_lmul hx hb dX6_digest_107 ?_
  refine lv_aload_n hx hb dX6_digest_108 rfl (lv_at hl 0 rfl) ?_
  refine lv_iload_n hx hb dX6_digest_109 rfl (lv_at hl 2 rfl) ?_
  refine lv_iload hx hb dX6_digest_110 (lv_at hl 3 rfl) ?_
  obtain ⟨x103_1, hx103_1, hf⟩ := kbind hf
  refine kr_calli0 hH (kr_runV (as := [.int v3, .int v4]) (rest := [.long (v1 * 31)]) (pl := 7) V hH kYX6_landTold kl_X6_144 (c_X6_landTold l _ _ hx103_1 _) rfl rfl ⟨Nat.le_of_ble_eq_true rfl, Nat.le_of_ble_eq_true rfl⟩ (by decide) kE_7 rfl rfl hl.1 (Nat.le_of_ble_eq_true rfl) dX6_digest_112 ⟨Nat.le_refl _, Nat.le_refl _⟩ rfl) (fun H locs hH => ?_)
  refine lv_i2l hx hb dX6_digest_115 rfl ?_
  refine lv_ladd hx hb dX6_digest_116 ?_
  refine lv_lstore_n (lv' := [(1, .long ((v1 * 31) + (x103_1.1).toInt64)), (0, .ref (ad 7)), (3, .int v3), (4, .int v4)]) hx hb dX6_digest_117 rfl hl (by decide) rfl (fun ls hl => ?_)
  refine lv_iinc (v := (v4 + 1)) (lv' := [(4, .int (v4 + 1)), (1, .long ((v1 * 31) + (x103_1.1).toInt64)), (0, .ref (ad 7)), (3, .int v3)]) hx hb dX6_digest_118 hl (k := 3) rfl rfl (by decide) rfl (fun ls hl => ?_)
  refine lv_goto (tgt := 96) hx hb dX6_digest_121 (by decide) ?_
  exact hk96 hH (lv_sub hl [2, 1, 3, 0] rfl) hf
set_option maxHeartbeats 4000000 in
set_option maxRecDepth 100000 in
theorem w_X6_digest_137 (V : kV p s mm args meth c cX6_digest RX6 5 (some .long) D cI cZ cO) {k : kS} {c85 : Int64 → Int32 → kS → Option ((Int64 × kS))} (hk85 : ∀ {v1 : Int64} {v3 : Int32} {mo : kS} {H : Heap} {locs : List Loc} {ls : Array Slot} {out : (Int64 × kS)}, kHE s H locs D ad cI cZ cO k mo [] → lv_has ls 5 [(0, .ref (ad 7)), (1, .long v1), (3, .int v3)] → c85 v1 v3 mo = some out → W p l e rm_X6_digest s mm args below meth c H locs 0 0 (kGl below args s D cI cZ cO ad out.1 k out.2 0 0) (F0 mm 85 ls [])) {c127 : Int64 → Int32 → Int32 → kS → Option ((Int64 × kS))} (hk127 : ∀ {v1 : Int64} {v3 : Int32} {v4 : Int32} {mo : kS} {H : Heap} {locs : List Loc} {ls : Array Slot} {out : (Int64 × kS)}, kHE s H locs D ad cI cZ cO k mo [] → lv_has ls 5 [(0, .ref (ad 7)), (1, .long v1), (3, .int v3), (4, .int v4)] → c127 v1 v3 v4 mo = some out → W p l e rm_X6_digest s mm args below meth c H locs 0 0 (kGl below args s D cI cZ cO ad out.1 k out.2 0 0) (F0 mm 127 ls [])) {v1 : Int64} {v3 : Int32} {v4 : Int32} {mo : kS} {H : Heap} {locs : List Loc} {ls : Array Slot} {out : (Int64 × kS)} (hH : kHE s H locs D ad cI cZ cO k mo []) (hl : lv_has ls 5 [(0, .ref (ad 7)), (1, .long v1), (3, .int v3), (4, .int v4)]) (hf : F_X6_digest_137 c85 c127 v1 v3 v4 mo = some out) : W p l e rm_X6_digest s mm args below meth c H locs 0 0 (kGl below args s D cI cZ cO ad out.1 k out.2 0 0) (F0 mm 137 ls []) := by
  have hx := V.1
  have hb := V.2.1
  refine lv_lload_n hx hb dX6_digest_137 rfl (lv_at hl 1 rfl) ?_
  refine lv_ldc2 hx hb V.2.2.2.1 (V.2.2.2.2.1 _ kn_X6_177) dX6_digest_138 ?_
  refine lv_lmul hx hb dX6_digest_141 ?_
  refine lv_aload_n hx hb dX6_digest_142 rfl (lv_at hl 0 rfl) ?_
  refine kg_X6_16 V hH dX6_digest_143 ?_
  refine lv_bipush (v := 15) hx hb dX6_digest_146 (by decide) ?_
  refine lv_iload_n hx hb dX6_digest_148 rfl (lv_at hl 2 rfl) ?_
  refine lv_imul hx hb dX6_digest_149 ?_
  refine lv_iload hx hb dX6_digest_150 (lv_at hl 3 rfl) ?_
  refine lv_iadd hx hb dX6_digest_152 ?_
  obtain ⟨h137_1, hf⟩ := kif hf
  refine kr_iald V hH (q := 10) (by decide) kE_10 h137_1 dX6_digest_153 ?_
  refine lv_i2l hx hb dX6_digest_154 rfl ?_
  refine lv_ladd hx hb dX6_digest_155 ?_
  refine lv_lstore_n (lv' := [(1, .long ((v1 * 31) + ((mo 10 ((15 * v3) + v4).toNatClampNeg)).toInt64)), (0, .ref (ad 7)), (3, .int v3), (4, .int v4)]) hx hb dX6_digest_156 rfl hl (by decide) rfl (fun ls hl => ?_)
  refine lv_iinc (v := (v4 + 1)) (lv' := [(4, .int (v4 + 1)), (1, .long ((v1 * 31) + ((mo 10 ((15 * v3) + v4).toNatClampNeg)).toInt64)), (0, .ref (ad 7)), (3, .int v3)]) hx hb dX6_digest_157 hl (k := 3) rfl rfl (by decide) rfl (fun ls hl => ?_)
  refine lv_goto (tgt := 127) hx hb dX6_digest_160 (by decide) ?_
  exact hk127 hH (lv_sub hl [2, 1, 3, 0] rfl) hf
set_option maxHeartbeats 4000000 in
set_option maxRecDepth 100000 in
theorem w_X6_digest_163 (V : kV p s mm args meth c cX6_digest RX6 5 (some .long) D cI cZ cO) {k : kS} {c85 : Int64 → Int32 → kS → Option ((Int64 × kS))} (hk85 : ∀ {v1 : Int64} {v3 : Int32} {mo : kS} {H : Heap} {locs : List Loc} {ls : Array Slot} {out : (Int64 × kS)}, kHE s H locs D ad cI cZ cO k mo [] → lv_has ls 5 [(0, .ref (ad 7)), (1, .long v1), (3, .int v3)] → c85 v1 v3 mo = some out → W p l e rm_X6_digest s mm args below meth c H locs 0 0 (kGl below args s D cI cZ cO ad out.1 k out.2 0 0) (F0 mm 85 ls [])) {v1 : Int64} {v3 : Int32} {mo : kS} {H : Heap} {locs : List Loc} {ls : Array Slot} {out : (Int64 × kS)} (hH : kHE s H locs D ad cI cZ cO k mo []) (hl : lv_has ls 5 [(0, .ref (ad 7)), (1, .long v1), (3, .int v3)]) (hf : F_X6_digest_163 c85 v1 v3 mo = some out) : W p l e rm_X6_digest s mm args below meth c H locs 0 0 (kGl below args s D cI cZ cO ad out.1 k out.2 0 0) (F0 mm 163 ls []) := by
  have hx := V.1
  have hb := V.2.1
  refine lv_iinc (v := (v3 + 1)) (lv' := [(3, .int (v3 + 1)), (0, .ref (ad 7)), (1, .long v1)]) hx hb dX6_digest_163 hl (k := 2) rfl rfl (by decide) rfl (fun ls hl => ?_)
  refine lv_goto (tgt := 85) hx hb dX6_digest_166 (by decide) ?_
  exact hk85 hH (lv_sub hl [1, 2, 0] rfl) hf
set_option maxHeartbeats 4000000 in
set_option maxRecDepth 100000 in
theorem w_X6_digest_127 (V : kV p s mm args meth c cX6_digest RX6 5 (some .long) D cI cZ cO) {k : kS} {c85 : Int64 → Int32 → kS → Option ((Int64 × kS))} (hk85 : ∀ {v1 : Int64} {v3 : Int32} {mo : kS} {H : Heap} {locs : List Loc} {ls : Array Slot} {out : (Int64 × kS)}, kHE s H locs D ad cI cZ cO k mo [] → lv_has ls 5 [(0, .ref (ad 7)), (1, .long v1), (3, .int v3)] → c85 v1 v3 mo = some out → W p l e rm_X6_digest s mm args below meth c H locs 0 0 (kGl below args s D cI cZ cO ad out.1 k out.2 0 0) (F0 mm 85 ls [])) : ∀ (n : Nat) {v1 : Int64} {v3 : Int32} {v4 : Int32} {mo : kS} {H : Heap} {locs : List Loc} {ls : Array Slot} {out : (Int64 × kS)}, kHE s H locs D ad cI cZ cO k mo [] → lv_has ls 5 [(0, .ref (ad 7)), (1, .long v1), (3, .int v3), (4, .int v4)] → F_X6_digest_127 c85 n v1 v3 v4 mo = some out → W p l e rm_X6_digest s mm args below meth c H locs 0 0 (kGl below args s D cI cZ cO ad out.1 k out.2 0 0) (F0 mm 127 ls []) := by
  have hx := V.1
  have hb := V.2.1
  intro n
  induction n with
  | zero => intro _ _ _ _ _ _ _ _ hH hl hf; cases hf
  | succ n hk127 =>
    intro v1 v3 v4 mo H locs ls out hH hl hf
    refine lv_iload hx hb dX6_digest_127 (lv_at hl 3 rfl) ?_
    refine lv_aload_n hx hb dX6_digest_129 rfl (lv_at hl 0 rfl) ?_
    refine lv_iload_n hx hb dX6_digest_130 rfl (lv_at hl 2 rfl) ?_
    obtain ⟨x127_1, hx127_1, hf⟩ := kbind hf
    refine kr_calli0 hH (kr_runV (as := [.int v3]) (rest := [.int v4]) (pl := 7) V hH kYX6_kept kl_X6_147 (c_X6_kept l _ hx127_1 _) rfl rfl ⟨Nat.le_of_ble_eq_true rfl, Nat.le_of_ble_eq_true rfl⟩ (by decide) kE_7 rfl rfl hl.1 (Nat.le_of_ble_eq_true rfl) dX6_digest_131 ⟨Nat.le_refl _, Nat.le_refl _⟩ rfl) (fun H locs hH => ?_)
    refine lv_icmp_ge (tgt := 163) hx hb dX6_digest_134 (by decide) (fun hq => ?_) (fun hq => ?_)
    · have hf := kpos hq hf
      exact w_X6_digest_163 V hk85 hH (lv_sub hl [0, 1, 2] rfl) hf
    · have hf := kneg hq hf
      exact w_X6_digest_137 V hk85 hk127 hH (lv_sub hl [0, 1, 2, 3] rfl) hf
set_option maxHeartbeats 4000000 in
set_option maxRecDepth 100000 in
theorem w_X6_digest_124 (V : kV p s mm args meth c cX6_digest RX6 5 (some .long) D cI cZ cO) {k : kS} {c85 : Int64 → Int32 → kS → Option ((Int64 × kS))} (hk85 : ∀ {v1 : Int64} {v3 : Int32} {mo : kS} {H : Heap} {locs : List Loc} {ls : Array Slot} {out : (Int64 × kS)}, kHE s H locs D ad cI cZ cO k mo [] → lv_has ls 5 [(0, .ref (ad 7)), (1, .long v1), (3, .int v3)] → c85 v1 v3 mo = some out → W p l e rm_X6_digest s mm args below meth c H locs 0 0 (kGl below args s D cI cZ cO ad out.1 k out.2 0 0) (F0 mm 85 ls [])) {v1 : Int64} {v3 : Int32} {mo : kS} {H : Heap} {locs : List Loc} {ls : Array Slot} {out : (Int64 × kS)} (hH : kHE s H locs D ad cI cZ cO k mo []) (hl : lv_has ls 5 [(0, .ref (ad 7)), (1, .long v1), (3, .int v3)]) (hf : F_X6_digest_124 c85 v1 v3 mo = some out) : W p l e rm_X6_digest s mm args below meth c H locs 0 0 (kGl below args s D cI cZ cO ad out.1 k out.2 0 0) (F0 mm 124 ls []) := by
  have hx := V.1
  have hb := V.2.1
  refine lv_iconst (v := 0) hx hb dX6_digest_124 (by decide) ?_
  refine lv_istore (lv' := [(4, .int 0), (0, .ref (ad 7)), (1, .long v1), (3, .int v3)]) hx hb dX6_digest_125 hl (by decide) rfl (fun ls hl => ?_)
  exact w_X6_digest_127 V hk85 kN hH (lv_sub hl [1, 2, 3, 0] rfl) hf
set_option maxHeartbeats 4000000 in
set_option maxRecDepth 100000 in
theorem w_X6_digest_96 (V : kV p s mm args meth c cX6_digest RX6 5 (some .long) D cI cZ cO) {k : kS} {c85 : Int64 → Int32 → kS → Option ((Int64 × kS))} (hk85 : ∀ {v1 : Int64} {v3 : Int32} {mo : kS} {H : Heap} {locs : List Loc} {ls : Array Slot} {out : (Int64 × kS)}, kHE s H locs D ad cI cZ cO k mo [] → lv_has ls 5 [(0, .ref (ad 7)), (1, .long v1), (3, .int v3)] → c85 v1 v3 mo = some out → W p l e rm_X6_digest s mm args below meth c H locs 0 0 (kGl below args s D cI cZ cO ad out.1 k out.2 0 0) (F0 mm 85 ls [])) : ∀ (n : Nat) {v1 : Int64} {v3 : Int32} {v4 : Int32} {mo : kS} {H : Heap} {locs : List Loc} {ls : Array Slot} {out : (Int64 × kS)}, kHE s H locs D ad cI cZ cO k mo [] → lv_has ls 5 [(0, .ref (ad 7)), (1, .long v1), (3, .int v3), (4, .int v4)] → F_X6_digest_96 c85 n v1 v3 v4 mo = some out → W p l e rm_X6_digest s mm args below meth c H locs 0 0 (kGl below args s D cI cZ cO ad out.1 k out.2 0 0) (F0 mm 96 ls []) := by
  have hx := V.1
  have hb := V.2.1
  intro n
  induction n with
  | zero => intro _ _ _ _ _ _ _ _ hH hl hf; cases hf
  | succ n hk96 =>
    intro v1 v3 v4 mo H locs ls out hH hl hf
    refine lv_iload hx hb dX6_digest_96 (lv_at hl 3 rfl) ?_
    refine lv_bipush (v := 6) hx hb dX6_digest_98 (by decide) ?_
    refine lv_icmp_ge (tgt := 124) hx hb dX6_digest_100 (by decide) (fun hq => ?_) (fun hq => ?_)
    · have hf := kpos hq hf
      exact w_X6_digest_124 V hk85 hH (lv_sub hl [0, 1, 2] rfl) hf
    · have hf := kneg hq hf
      exact w_X6_digest_103 V hk85 hk96 hH (lv_sub hl [0, 1, 2, 3] rfl) hf
set_option maxHeartbeats 4000000 in
set_option maxRecDepth 100000 in
theorem w_X6_digest_93 (V : kV p s mm args meth c cX6_digest RX6 5 (some .long) D cI cZ cO) {k : kS} {c85 : Int64 → Int32 → kS → Option ((Int64 × kS))} (hk85 : ∀ {v1 : Int64} {v3 : Int32} {mo : kS} {H : Heap} {locs : List Loc} {ls : Array Slot} {out : (Int64 × kS)}, kHE s H locs D ad cI cZ cO k mo [] → lv_has ls 5 [(0, .ref (ad 7)), (1, .long v1), (3, .int v3)] → c85 v1 v3 mo = some out → W p l e rm_X6_digest s mm args below meth c H locs 0 0 (kGl below args s D cI cZ cO ad out.1 k out.2 0 0) (F0 mm 85 ls [])) {v1 : Int64} {v3 : Int32} {mo : kS} {H : Heap} {locs : List Loc} {ls : Array Slot} {out : (Int64 × kS)} (hH : kHE s H locs D ad cI cZ cO k mo []) (hl : lv_has ls 5 [(0, .ref (ad 7)), (1, .long v1), (3, .int v3)]) (hf : F_X6_digest_93 c85 v1 v3 mo = some out) : W p l e rm_X6_digest s mm args below meth c H locs 0 0 (kGl below args s D cI cZ cO ad out.1 k out.2 0 0) (F0 mm 93 ls []) := by
  have hx := V.1
  have hb := V.2.1
  refine lv_iconst (v := 0) hx hb dX6_digest_93 (by decide) ?_
  refine lv_istore (lv' := [(4, .int 0), (0, .ref (ad 7)), (1, .long v1), (3, .int v3)]) hx hb dX6_digest_94 hl (by decide) rfl (fun ls hl => ?_)
  exact w_X6_digest_96 V hk85 kN hH (lv_sub hl [1, 2, 3, 0] rfl) hf
set_option maxHeartbeats 4000000 in
set_option maxRecDepth 100000 in
theorem w_X6_digest_169 (V : kV p s mm args meth c cX6_digest RX6 5 (some .long) D cI cZ cO) {k : kS} {v1 : Int64} {mo : kS} {H : Heap} {locs : List Loc} {ls : Array Slot} {out : (Int64 × kS)} (hH : kHE s H locs D ad cI cZ cO k mo []) (hl : lv_has ls 5 [(1, .long v1)]) (hf : F_X6_digest_169 v1 mo = some out) : W p l e rm_X6_digest s mm args below meth c H locs 0 0 (kGl below args s D cI cZ cO ad out.1 k out.2 0 0) (F0 mm 169 ls []) := by
  have hx := V.1
  have hb := V.2.1
  refine lv_lload_n hx hb dX6_digest_169 rfl (lv_at hl 0 rfl) ?_
  cases hf
  exact kr_lret V hH dX6_digest_170
set_option maxHeartbeats 4000000 in
set_option maxRecDepth 100000 in
theorem w_X6_digest_85 (V : kV p s mm args meth c cX6_digest RX6 5 (some .long) D cI cZ cO) {k : kS} : ∀ (n : Nat) {v1 : Int64} {v3 : Int32} {mo : kS} {H : Heap} {locs : List Loc} {ls : Array Slot} {out : (Int64 × kS)}, kHE s H locs D ad cI cZ cO k mo [] → lv_has ls 5 [(0, .ref (ad 7)), (1, .long v1), (3, .int v3)] → F_X6_digest_85 n v1 v3 mo = some out → W p l e rm_X6_digest s mm args below meth c H locs 0 0 (kGl below args s D cI cZ cO ad out.1 k out.2 0 0) (F0 mm 85 ls []) := by
  have hx := V.1
  have hb := V.2.1
  intro n
  induction n with
  | zero => intro _ _ _ _ _ _ _ hH hl hf; cases hf
  | succ n hk85 =>
    intro v1 v3 mo H locs ls out hH hl hf
    refine lv_iload_n hx hb dX6_digest_85 rfl (lv_at hl 2 rfl) ?_
    refine lv_aload_n hx hb dX6_digest_86 rfl (lv_at hl 0 rfl) ?_
    refine kg_X6_42 V hH dX6_digest_87 ?_
    refine lv_icmp_ge (tgt := 169) hx hb dX6_digest_90 (by decide) (fun hq => ?_) (fun hq => ?_)
    · have hf := kpos hq hf
      exact w_X6_digest_169 V hH (lv_sub hl [1] rfl) hf
    · have hf := kneg hq hf
      exact w_X6_digest_93 V hk85 hH (lv_sub hl [0, 1, 2] rfl) hf
set_option maxHeartbeats 4000000 in
set_option maxRecDepth 100000 in
theorem w_X6_digest_83 (V : kV p s mm args meth c cX6_digest RX6 5 (some .long) D cI cZ cO) {k : kS} {v1 : Int64} {mo : kS} {H : Heap} {locs : List Loc} {ls : Array Slot} {out : (Int64 × kS)} (hH : kHE s H locs D ad cI cZ cO k mo []) (hl : lv_has ls 5 [(0, .ref (ad 7)), (1, .long v1)]) (hf : F_X6_digest_83 v1 mo = some out) : W p l e rm_X6_digest s mm args below meth c H locs 0 0 (kGl below args s D cI cZ cO ad out.1 k out.2 0 0) (F0 mm 83 ls []) := by
  have hx := V.1
  have hb := V.2.1
  refine lv_iconst (v := 0) hx hb dX6_digest_83 (by decide) ?_
  refine lv_istore_n (lv' := [(3, .int 0), (0, .ref (ad 7)), (1, .long v1)]) hx hb dX6_digest_84 rfl hl (by decide) rfl (fun ls hl => ?_)
  exact w_X6_digest_85 V kN hH (lv_sub hl [1, 2, 0] rfl) hf
set_option maxHeartbeats 4000000 in
set_option maxRecDepth 100000 in
theorem w_X6_digest_38 (V : kV p s mm args meth c cX6_digest RX6 5 (some .long) D cI cZ cO) {k : kS} : ∀ (n : Nat) {v1 : Int64} {v3 : Int32} {mo : kS} {H : Heap} {locs : List Loc} {ls : Array Slot} {out : (Int64 × kS)}, kHE s H locs D ad cI cZ cO k mo [] → lv_has ls 5 [(0, .ref (ad 7)), (1, .long v1), (3, .int v3)] → F_X6_digest_38 n v1 v3 mo = some out → W p l e rm_X6_digest s mm args below meth c H locs 0 0 (kGl below args s D cI cZ cO ad out.1 k out.2 0 0) (F0 mm 38 ls []) := by
  have hx := V.1
  have hb := V.2.1
  intro n
  induction n with
  | zero => intro _ _ _ _ _ _ _ hH hl hf; cases hf
  | succ n hk38 =>
    intro v1 v3 mo H locs ls out hH hl hf
    refine lv_iload_n hx hb dX6_digest_38 rfl (lv_at hl 2 rfl) ?_
    refine lv_aload_n hx hb dX6_digest_39 rfl (lv_at hl 0 rfl) ?_
    refine kg_X6_35 V hH dX6_digest_40 ?_
    refine lv_icmp_ge (tgt := 83) hx hb dX6_digest_43 (by decide) (fun hq => ?_) (fun hq => ?_)
    · have hf := kpos hq hf
      exact w_X6_digest_83 V hH (lv_sub hl [0, 1] rfl) hf
    · have hf := kneg hq hf
      exact w_X6_digest_46 V hk38 hH (lv_sub hl [0, 1, 2] rfl) hf
set_option maxHeartbeats 4000000 in
set_option maxRecDepth 100000 in
theorem w_X6_digest_36 (V : kV p s mm args meth c cX6_digest RX6 5 (some .long) D cI cZ cO) {k : kS} {v1 : Int64} {mo : kS} {H : Heap} {locs : List Loc} {ls : Array Slot} {out : (Int64 × kS)} (hH : kHE s H locs D ad cI cZ cO k mo []) (hl : lv_has ls 5 [(0, .ref (ad 7)), (1, .long v1)]) (hf : F_X6_digest_36 v1 mo = some out) : W p l e rm_X6_digest s mm args below meth c H locs 0 0 (kGl below args s D cI cZ cO ad out.1 k out.2 0 0) (F0 mm 36 ls []) := by
  have hx := V.1
  have hb := V.2.1
  refine lv_iconst (v := 0) hx hb dX6_digest_36 (by decide) ?_
  refine lv_istore_n (lv' := [(3, .int 0), (0, .ref (ad 7)), (1, .long v1)]) hx hb dX6_digest_37 rfl hl (by decide) rfl (fun ls hl => ?_)
  exact w_X6_digest_38 V kN hH (lv_sub hl [1, 2, 0] rfl) hf
set_option maxHeartbeats 4000000 in
set_option maxRecDepth 100000 in
theorem w_X6_digest_11 (V : kV p s mm args meth c cX6_digest RX6 5 (some .long) D cI cZ cO) {k : kS} : ∀ (n : Nat) {v1 : Int64} {v3 : Int32} {mo : kS} {H : Heap} {locs : List Loc} {ls : Array Slot} {out : (Int64 × kS)}, kHE s H locs D ad cI cZ cO k mo [] → lv_has ls 5 [(0, .ref (ad 7)), (1, .long v1), (3, .int v3)] → F_X6_digest_11 n v1 v3 mo = some out → W p l e rm_X6_digest s mm args below meth c H locs 0 0 (kGl below args s D cI cZ cO ad out.1 k out.2 0 0) (F0 mm 11 ls []) := by
  have hx := V.1
  have hb := V.2.1
  intro n
  induction n with
  | zero => intro _ _ _ _ _ _ _ hH hl hf; cases hf
  | succ n hk11 =>
    intro v1 v3 mo H locs ls out hH hl hf
    refine lv_iload_n hx hb dX6_digest_11 rfl (lv_at hl 2 rfl) ?_
    refine lv_bipush (v := 8) hx hb dX6_digest_12 (by decide) ?_
    refine lv_icmp_ge (tgt := 36) hx hb dX6_digest_14 (by decide) (fun hq => ?_) (fun hq => ?_)
    · have hf := kpos hq hf
      exact w_X6_digest_36 V hH (lv_sub hl [0, 1] rfl) hf
    · have hf := kneg hq hf
      exact w_X6_digest_17 V hk11 hH (lv_sub hl [0, 1, 2] rfl) hf
set_option maxHeartbeats 4000000 in
set_option maxRecDepth 100000 in
theorem w_X6_digest_0 (V : kV p s mm args meth c cX6_digest RX6 5 (some .long) D cI cZ cO) {k : kS} {mo : kS} {H : Heap} {locs : List Loc} {ls : Array Slot} {out : (Int64 × kS)} (hH : kHE s H locs D ad cI cZ cO k mo []) (hl : lv_has ls 5 [(0, .ref (ad 7))]) (hf : F_X6_digest_0 mo = some out) : W p l e rm_X6_digest s mm args below meth c H locs 0 0 (kGl below args s D cI cZ cO ad out.1 k out.2 0 0) (F0 mm 0 ls []) := by
  have hx := V.1
  have hb := V.2.1
  refine lv_aload_n hx hb dX6_digest_0 rfl (lv_at hl 0 rfl) ?_
  refine lv_iconst (v := 0) hx hb dX6_digest_1 (by decide) ?_
  refine kp_X6_31 V hH dX6_digest_2 (fun H locs hH => ?_)
  refine lv_ldc2 hx hb V.2.2.2.1 (V.2.2.2.2.1 _ kn_X6_175) dX6_digest_5 ?_
  refine lv_lstore_n (lv' := [(1, .long 887), (0, .ref (ad 7))]) hx hb dX6_digest_8 rfl hl (by decide) rfl (fun ls hl => ?_)
  refine lv_iconst (v := 0) hx hb dX6_digest_9 (by decide) ?_
  refine lv_istore_n (lv' := [(3, .int 0), (1, .long 887), (0, .ref (ad 7))]) hx hb dX6_digest_10 rfl hl (by decide) rfl (fun ls hl => ?_)
  exact w_X6_digest_11 V kN hH (lv_sub hl [2, 1, 0] rfl) hf
set_option maxHeartbeats 4000000 in
set_option maxRecDepth 100000 in
theorem c_X6_digest (l : Launch) {D : va_G} {cI cZ cO : ClassId} {ad : Nat → Nat} {k mo : kS} {out : (Int64 × kS)} (hf : F_X6_digest mo = some out) (sz : Nat) : Met l yX6_digest (Cond.code yX6_digest cX6_digest 5 (some .long) :: kWA) rm_X6_digest (kP [.ref (ad 7)] D cI cZ cO ad (kE ad cI cZ cO k mo) sz) (kQl out.1 D cI cZ cO ad (kE ad cI cZ cO k out.2) sz) 0 0 (fA ad sz) := by
  refine kr_met (as := [.ref (ad 7)]) (bytes := cX6_digest) (maxL := 5) (rt := (some .long)) (Qc := fun sz => kQl out.1 D cI cZ cO ad (kE ad cI cZ cO k out.2) sz) (lv := [(0, .ref (ad 7))]) (by decide +kernel) (Nat.le_of_ble_eq_true rfl) rfl (fun p e s mm below meth c ls V hH hl => ?_) sz
  exact w_X6_digest_0 V hH (lv_sub hl [0] rfl) hf
end
