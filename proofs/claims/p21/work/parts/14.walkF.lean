section
variable {p : Program} {l : Launch} {e : Env} {s : State} {mm : MethodId} {args : Array Value} {below : List Frame} {meth : Method} {c : Code} {D : va_G} {cI cZ cO : ClassId} {ad : Nat → Nat}
abbrev rm_X5_come : Room := { frames := 6, cells := 4, slots := 24, locals := 100 }
set_option maxHeartbeats 4000000 in
set_option maxRecDepth 100000 in
theorem w_X5_come_10 (V : kV p s mm args meth c cX5_come RX5 3 (some .int) D cI cZ cO) {mo : kS} (XV : kVX l s ad c) {k : kS} {H : Heap} {locs : List Loc} {ls : Array Slot} {out : ((Nat × Int32) × kS)} (hH : kHE s H locs D ad cI cZ cO k mo []) (hl : lv_has ls 3 []) (hf : F_X5_come_10 k = some out) : W p l e rm_X5_come s mm args below meth c H locs 0 0 (kGXi below args s D cI cZ cO ad out.1.1 out.1.2 out.2 mo 4 24) (F0 mm 10 ls []) := by
  have hx := V.1
  have hb := V.2.1
  cases hf
  exact kx_throw (code := 1) (text := "the age is not 0 to 60") V XV hH hl.1 (by decide) (by decide +kernel) kc_X5_28 kz_IllegalArgumentException kXg1 kXn1 kXo1 (by decide +kernel) dX5_come_10 dX5_come_13 dX5_come_14 dX5_come_16 dX5_come_19 (by decide) (by decide) (by decide) (by decide) (by decide) (by decide)
set_option maxHeartbeats 4000000 in
set_option maxRecDepth 100000 in
theorem w_X5_come_30 (V : kV p s mm args meth c cX5_come RX5 3 (some .int) D cI cZ cO) {mo : kS} (XV : kVX l s ad c) {k : kS} {H : Heap} {locs : List Loc} {ls : Array Slot} {out : ((Nat × Int32) × kS)} (hH : kHE s H locs D ad cI cZ cO k mo []) (hl : lv_has ls 3 []) (hf : F_X5_come_30 k = some out) : W p l e rm_X5_come s mm args below meth c H locs 0 0 (kGXi below args s D cI cZ cO ad out.1.1 out.1.2 out.2 mo 4 24) (F0 mm 30 ls []) := by
  have hx := V.1
  have hb := V.2.1
  cases hf
  exact kx_throw (code := 2) (text := "there are 40 persons") V XV hH hl.1 (by decide) (by decide +kernel) kc_X5_39 kz_IllegalStateException kXg2 kXn2 kXo2 (by decide +kernel) dX5_come_30 dX5_come_33 dX5_come_34 dX5_come_36 dX5_come_39 (by decide) (by decide) (by decide) (by decide) (by decide) (by decide)
set_option maxHeartbeats 4000000 in
set_option maxRecDepth 100000 in
theorem w_X5_come_40 (V : kV p s mm args meth c cX5_come RX5 3 (some .int) D cI cZ cO) {mo : kS} (XV : kVX l s ad c) {v1 : Int32} {v2 : Int32} {k : kS} {H : Heap} {locs : List Loc} {ls : Array Slot} {out : ((Nat × Int32) × kS)} (hH : kHE s H locs D ad cI cZ cO k mo []) (hl : lv_has ls 3 [(0, .ref (ad 0)), (1, .int v1), (2, .int v2)]) (hf : F_X5_come_40 v1 v2 k = some out) : W p l e rm_X5_come s mm args below meth c H locs 0 0 (kGXi below args s D cI cZ cO ad out.1.1 out.1.2 out.2 mo 4 24) (F0 mm 40 ls []) := by
  have hx := V.1
  have hb := V.2.1
  refine lv_aload_n hx hb dX5_come_40 rfl (lv_at hl 0 rfl) ?_
  refine kg_X5_10 V hH dX5_come_41 ?_
  refine lv_iload_n hx hb dX5_come_44 rfl (lv_at hl 1 rfl) ?_
  refine lv_aload_n hx hb dX5_come_45 rfl (lv_at hl 0 rfl) ?_
  refine kg_X5_21 V hH dX5_come_46 ?_
  refine kg_X5_44 k15 V hH dX5_come_49 ?_
  refine lv_iload_n hx hb dX5_come_52 rfl (lv_at hl 2 rfl) ?_
  refine lv_isub hx hb dX5_come_53 ?_
  refine lv_iconst (v := (-1)) hx hb dX5_come_54 (by decide) ?_
  refine lv_iconst (v := (-1)) hx hb dX5_come_55 (by decide) ?_
  obtain ⟨x40_1, hx40_1, hf⟩ := kbind hf
  refine kr_calli0 hH (kr_runV (as := [.int v1, .int ((k 15 0) - v2), .int (-1), .int (-1)]) (rest := []) (pl := 1) V hH kYX0_add kl_X5_48 (c_X0_add l _ _ _ _ hx40_1 _) rfl rfl ⟨Nat.le_of_ble_eq_true rfl, Nat.le_of_ble_eq_true rfl⟩ (by decide) kE_1 rfl rfl hl.1 (Nat.le_of_ble_eq_true rfl) dX5_come_56 ⟨Nat.le_of_ble_eq_true rfl, Nat.le_of_ble_eq_true rfl⟩ rfl) (fun H locs hH => ?_)
  cases hf
  exact kx_iret V hH (by decide) (by decide) dX5_come_59
set_option maxHeartbeats 4000000 in
set_option maxRecDepth 100000 in
theorem w_X5_come_20 (V : kV p s mm args meth c cX5_come RX5 3 (some .int) D cI cZ cO) {mo : kS} (XV : kVX l s ad c) {v1 : Int32} {v2 : Int32} {k : kS} {H : Heap} {locs : List Loc} {ls : Array Slot} {out : ((Nat × Int32) × kS)} (hH : kHE s H locs D ad cI cZ cO k mo []) (hl : lv_has ls 3 [(0, .ref (ad 0)), (1, .int v1), (2, .int v2)]) (hf : F_X5_come_20 v1 v2 k = some out) : W p l e rm_X5_come s mm args below meth c H locs 0 0 (kGXi below args s D cI cZ cO ad out.1.1 out.1.2 out.2 mo 4 24) (F0 mm 20 ls []) := by
  have hx := V.1
  have hb := V.2.1
  refine lv_aload_n hx hb dX5_come_20 rfl (lv_at hl 0 rfl) ?_
  refine kg_X5_10 V hH dX5_come_21 ?_
  obtain ⟨x20_1, hx20_1, hf⟩ := kbind hf
  refine kr_calli0 hH (kr_runV (as := []) (rest := []) (pl := 1) V hH kYX0_isFull kl_X5_35 (c_X0_isFull l hx20_1 _) rfl rfl ⟨Nat.le_of_ble_eq_true rfl, Nat.le_of_ble_eq_true rfl⟩ (by decide) kE_1 rfl rfl hl.1 (Nat.le_of_ble_eq_true rfl) dX5_come_24 ⟨Nat.le_of_ble_eq_true rfl, Nat.le_of_ble_eq_true rfl⟩ rfl) (fun H locs hH => ?_)
  refine lv_if_eq (tgt := 40) hx hb dX5_come_27 (by decide) (fun hq => ?_) (fun hq => ?_)
  · have hf := kpos hq hf
    refine W.widen (k := 0) (n := 0) (by decide) (by decide) ?_
    exact w_X5_come_40 V XV hH (lv_sub hl [0, 1, 2] rfl) hf
  · have hf := kneg hq hf
    refine W.widen (k := 0) (n := 0) (by decide) (by decide) ?_
    exact w_X5_come_30 V XV hH (lv_sub hl [] rfl) hf
set_option maxHeartbeats 4000000 in
set_option maxRecDepth 100000 in
theorem w_X5_come_4 (V : kV p s mm args meth c cX5_come RX5 3 (some .int) D cI cZ cO) {mo : kS} (XV : kVX l s ad c) {v1 : Int32} {v2 : Int32} {k : kS} {H : Heap} {locs : List Loc} {ls : Array Slot} {out : ((Nat × Int32) × kS)} (hH : kHE s H locs D ad cI cZ cO k mo []) (hl : lv_has ls 3 [(0, .ref (ad 0)), (1, .int v1), (2, .int v2)]) (hf : F_X5_come_4 v1 v2 k = some out) : W p l e rm_X5_come s mm args below meth c H locs 0 0 (kGXi below args s D cI cZ cO ad out.1.1 out.1.2 out.2 mo 4 24) (F0 mm 4 ls []) := by
  have hx := V.1
  have hb := V.2.1
  refine lv_iload_n hx hb dX5_come_4 rfl (lv_at hl 2 rfl) ?_
  refine lv_bipush (v := 60) hx hb dX5_come_5 (by decide) ?_
  refine lv_icmp_le (tgt := 20) hx hb dX5_come_7 (by decide) (fun hq => ?_) (fun hq => ?_)
  · have hf := kpos hq hf
    refine W.widen (k := 0) (n := 0) (by decide) (by decide) ?_
    exact w_X5_come_20 V XV hH (lv_sub hl [0, 1, 2] rfl) hf
  · have hf := kneg hq hf
    refine W.widen (k := 0) (n := 0) (by decide) (by decide) ?_
    exact w_X5_come_10 V XV hH (lv_sub hl [] rfl) hf
set_option maxHeartbeats 4000000 in
set_option maxRecDepth 100000 in
theorem w_X5_come_0 (V : kV p s mm args meth c cX5_come RX5 3 (some .int) D cI cZ cO) {mo : kS} (XV : kVX l s ad c) {v1 : Int32} {v2 : Int32} {k : kS} {H : Heap} {locs : List Loc} {ls : Array Slot} {out : ((Nat × Int32) × kS)} (hH : kHE s H locs D ad cI cZ cO k mo []) (hl : lv_has ls 3 [(0, .ref (ad 0)), (1, .int v1), (2, .int v2)]) (hf : F_X5_come_0 v1 v2 k = some out) : W p l e rm_X5_come s mm args below meth c H locs 0 0 (kGXi below args s D cI cZ cO ad out.1.1 out.1.2 out.2 mo 4 24) (F0 mm 0 ls []) := by
  have hx := V.1
  have hb := V.2.1
  refine lv_iload_n hx hb dX5_come_0 rfl (lv_at hl 2 rfl) ?_
  refine lv_if_lt (tgt := 10) hx hb dX5_come_1 (by decide) (fun hq => ?_) (fun hq => ?_)
  · have hf := kpos hq hf
    refine W.widen (k := 0) (n := 0) (by decide) (by decide) ?_
    exact w_X5_come_10 V XV hH (lv_sub hl [] rfl) hf
  · have hf := kneg hq hf
    refine W.widen (k := 0) (n := 0) (by decide) (by decide) ?_
    exact w_X5_come_4 V XV hH (lv_sub hl [0, 1, 2] rfl) hf
set_option maxHeartbeats 4000000 in
set_option maxRecDepth 100000 in
theorem c_X5_come (l : Launch) (hst : l.stackTraces = false) {D : va_G} {cI cZ cO : ClassId} {ad : Nat → Nat} {k mo : kS} (v1 : Int32) (v2 : Int32) {out : ((Nat × Int32) × kS)} (hf : F_X5_come v1 v2 k = some out) (sz : Nat) : vx_Met l yX5_come (Cond.code yX5_come cX5_come 3 (some .int) :: kWA) rm_X5_come (kPX [.ref (ad 0), .int v1, .int v2] D cI cZ cO ad (kE ad cI cZ cO k mo) sz) (kXi out.1.1 out.1.2 D cI cZ cO ad (kE ad cI cZ cO out.2 mo) sz) (kXC out.1.1 D cI cZ cO ad (kE ad cI cZ cO out.2 mo) sz) 4 24 (fA ad sz) := by
  refine kx_met (as := [.ref (ad 0), .int v1, .int v2]) (bytes := cX5_come) (maxL := 3) (rt := (some .int)) (Qc := fun sz => (kXi out.1.1 out.1.2 D cI cZ cO ad (kE ad cI cZ cO out.2 mo) sz)) (XC := fun sz => (kXC out.1.1 D cI cZ cO ad (kE ad cI cZ cO out.2 mo) sz)) (lv := [(0, .ref (ad 0)), (1, .int v1), (2, .int v2)]) hst (by decide +kernel) (Nat.le_of_ble_eq_true rfl) rfl (fun p e s mm below meth c ls V XV hH hl => ?_) sz
  exact w_X5_come_0 V XV hH (lv_sub hl [0, 1, 2] rfl) hf
end
section
variable {p : Program} {l : Launch} {e : Env} {s : State} {mm : MethodId} {args : Array Value} {below : List Frame} {meth : Method} {c : Code} {D : va_G} {cI cZ cO : ClassId} {ad : Nat → Nat}
abbrev rm_X5_needPerson : Room := { frames := 6, cells := 1, slots := 6, locals := 100 }
set_option maxHeartbeats 4000000 in
set_option maxRecDepth 100000 in
theorem w_X5_needPerson_11 (V : kV p s mm args meth c cX5_needPerson RX5 2 none D cI cZ cO) {k mo : kS} (XV : kVX l s ad c) {H : Heap} {locs : List Loc} {ls : Array Slot} {out : Nat} (hH : kHE s H locs D ad cI cZ cO k mo []) (hl : lv_has ls 2 []) (hf : F_X5_needPerson_11 k = some out) : W p l e rm_X5_needPerson s mm args below meth c H locs 0 0 (kGXv below args s D cI cZ cO ad out k mo 1 6) (F0 mm 11 ls []) := by
  have hx := V.1
  have hb := V.2.1
  cases hf
  exact kx_throw (code := 3) (text := "there is no such person") V XV hH hl.1 (by decide) (by decide +kernel) kc_X5_191 kz_IndexOutOfBoundsException kXg3 kXn3 kXo3 (by decide +kernel) dX5_needPerson_11 dX5_needPerson_14 dX5_needPerson_15 dX5_needPerson_17 dX5_needPerson_20 (by decide) (by decide) (by decide) (by decide) (by decide) (by decide)
set_option maxHeartbeats 4000000 in
set_option maxRecDepth 100000 in
theorem w_X5_needPerson_21 (V : kV p s mm args meth c cX5_needPerson RX5 2 none D cI cZ cO) {k mo : kS} (XV : kVX l s ad c) {H : Heap} {locs : List Loc} {ls : Array Slot} {out : Nat} (hH : kHE s H locs D ad cI cZ cO k mo []) (hl : lv_has ls 2 []) (hf : F_X5_needPerson_21 k = some out) : W p l e rm_X5_needPerson s mm args below meth c H locs 0 0 (kGXv below args s D cI cZ cO ad out k mo 1 6) (F0 mm 21 ls []) := by
  have hx := V.1
  have hb := V.2.1
  cases hf
  exact kx_vret V hH (by decide) (by decide) dX5_needPerson_21
set_option maxHeartbeats 4000000 in
set_option maxRecDepth 100000 in
theorem w_X5_needPerson_0 (V : kV p s mm args meth c cX5_needPerson RX5 2 none D cI cZ cO) {k mo : kS} (XV : kVX l s ad c) {v1 : Int32} {H : Heap} {locs : List Loc} {ls : Array Slot} {out : Nat} (hH : kHE s H locs D ad cI cZ cO k mo []) (hl : lv_has ls 2 [(0, .ref (ad 0)), (1, .int v1)]) (hf : F_X5_needPerson_0 k v1 = some out) : W p l e rm_X5_needPerson s mm args below meth c H locs 0 0 (kGXv below args s D cI cZ cO ad out k mo 1 6) (F0 mm 0 ls []) := by
  have hx := V.1
  have hb := V.2.1
  refine lv_aload_n hx hb dX5_needPerson_0 rfl (lv_at hl 0 rfl) ?_
  refine kg_X5_10 V hH dX5_needPerson_1 ?_
  refine lv_iload_n hx hb dX5_needPerson_4 rfl (lv_at hl 1 rfl) ?_
  obtain ⟨x0_1, hx0_1, hf⟩ := kbind hf
  refine kr_calli0 hH (kr_runV (as := [.int v1]) (rest := []) (pl := 1) V hH kYX0_knows kl_X5_188 (c_X0_knows l _ hx0_1 _) rfl rfl ⟨Nat.le_of_ble_eq_true rfl, Nat.le_of_ble_eq_true rfl⟩ (by decide) kE_1 rfl rfl hl.1 (Nat.le_of_ble_eq_true rfl) dX5_needPerson_5 ⟨Nat.le_of_ble_eq_true rfl, Nat.le_of_ble_eq_true rfl⟩ rfl) (fun H locs hH => ?_)
  refine lv_if_ne (tgt := 21) hx hb dX5_needPerson_8 (by decide) (fun hq => ?_) (fun hq => ?_)
  · have hf := kneg hq hf
    refine W.widen (k := 0) (n := 0) (by decide) (by decide) ?_
    exact w_X5_needPerson_21 V XV hH (lv_sub hl [] rfl) hf
  · have hf := kpos hq hf
    refine W.widen (k := 0) (n := 0) (by decide) (by decide) ?_
    exact w_X5_needPerson_11 V XV hH (lv_sub hl [] rfl) hf
set_option maxHeartbeats 4000000 in
set_option maxRecDepth 100000 in
theorem c_X5_needPerson (l : Launch) (hst : l.stackTraces = false) {D : va_G} {cI cZ cO : ClassId} {ad : Nat → Nat} {k mo : kS} (v1 : Int32) {out : Nat} (hf : F_X5_needPerson k v1 = some out) (sz : Nat) : vx_Met l yX5_needPerson (Cond.code yX5_needPerson cX5_needPerson 2 none :: kWA) rm_X5_needPerson (kPX [.ref (ad 0), .int v1] D cI cZ cO ad (kE ad cI cZ cO k mo) sz) (kXv out D cI cZ cO ad (kE ad cI cZ cO k mo) sz) (kXC out D cI cZ cO ad (kE ad cI cZ cO k mo) sz) 1 6 (fA ad sz) := by
  refine kx_met (as := [.ref (ad 0), .int v1]) (bytes := cX5_needPerson) (maxL := 2) (rt := none) (Qc := fun sz => (kXv out D cI cZ cO ad (kE ad cI cZ cO k mo) sz)) (XC := fun sz => (kXC out D cI cZ cO ad (kE ad cI cZ cO k mo) sz)) (lv := [(0, .ref (ad 0)), (1, .int v1)]) hst (by decide +kernel) (Nat.le_of_ble_eq_true rfl) rfl (fun p e s mm below meth c ls V XV hH hl => ?_) sz
  exact w_X5_needPerson_0 V XV hH (lv_sub hl [0, 1] rfl) hf
end
section
variable {p : Program} {l : Launch} {e : Env} {s : State} {mm : MethodId} {args : Array Value} {below : List Frame} {meth : Method} {c : Code} {D : va_G} {cI cZ cO : ClassId} {ad : Nat → Nat}
abbrev rm_X5_bear : Room := { frames := 7, cells := 4, slots := 24, locals := 121 }
set_option maxHeartbeats 4000000 in
set_option maxRecDepth 100000 in
theorem w_X5_bear_45 (V : kV p s mm args meth c cX5_bear RX5 4 (some .int) D cI cZ cO) {mo : kS} (XV : kVX l s ad c) {k : kS} {H : Heap} {locs : List Loc} {ls : Array Slot} {out : ((Nat × Int32) × kS)} (hH : kHE s H locs D ad cI cZ cO k mo []) (hl : lv_has ls 4 []) (hf : F_X5_bear_45 k = some out) : W p l e rm_X5_bear s mm args below meth c H locs 1 6 (kGXi below args s D cI cZ cO ad out.1.1 out.1.2 out.2 mo 4 24) (F0 mm 45 ls []) := by
  have hx := V.1
  have hb := V.2.1
  cases hf
  exact kx_throw (code := 2) (text := "the mother is no living married woman") V XV hH hl.1 (by decide) (by decide +kernel) kc_X5_39 kz_IllegalStateException kXg2 kXn2 kXo2 (by decide +kernel) dX5_bear_45 dX5_bear_48 dX5_bear_49 dX5_bear_51 dX5_bear_54 (by decide) (by decide) (by decide) (by decide) (by decide) (by decide)
set_option maxHeartbeats 4000000 in
set_option maxRecDepth 100000 in
theorem w_X5_bear_65 (V : kV p s mm args meth c cX5_bear RX5 4 (some .int) D cI cZ cO) {mo : kS} (XV : kVX l s ad c) {k : kS} {H : Heap} {locs : List Loc} {ls : Array Slot} {out : ((Nat × Int32) × kS)} (hH : kHE s H locs D ad cI cZ cO k mo []) (hl : lv_has ls 4 []) (hf : F_X5_bear_65 k = some out) : W p l e rm_X5_bear s mm args below meth c H locs 1 6 (kGXi below args s D cI cZ cO ad out.1.1 out.1.2 out.2 mo 4 24) (F0 mm 65 ls []) := by
  have hx := V.1
  have hb := V.2.1
  cases hf
  exact kx_throw (code := 2) (text := "there are 40 persons") V XV hH hl.1 (by decide) (by decide +kernel) kc_X5_39 kz_IllegalStateException kXg2 kXn2 kXo2 (by decide +kernel) dX5_bear_65 dX5_bear_68 dX5_bear_69 dX5_bear_71 dX5_bear_74 (by decide) (by decide) (by decide) (by decide) (by decide) (by decide)
set_option maxHeartbeats 4000000 in
set_option maxRecDepth 100000 in
theorem w_X5_bear_75 (V : kV p s mm args meth c cX5_bear RX5 4 (some .int) D cI cZ cO) {mo : kS} (XV : kVX l s ad c) {v1 : Int32} {v2 : Int32} {v3 : Int32} {k : kS} {H : Heap} {locs : List Loc} {ls : Array Slot} {out : ((Nat × Int32) × kS)} (hH : kHE s H locs D ad cI cZ cO k mo []) (hl : lv_has ls 4 [(0, .ref (ad 0)), (1, .int v1), (2, .int v2), (3, .int v3)]) (hf : F_X5_bear_75 v1 v2 v3 k = some out) : W p l e rm_X5_bear s mm args below meth c H locs 1 6 (kGXi below args s D cI cZ cO ad out.1.1 out.1.2 out.2 mo 4 24) (F0 mm 75 ls []) := by
  have hx := V.1
  have hb := V.2.1
  refine lv_aload_n hx hb dX5_bear_75 rfl (lv_at hl 0 rfl) ?_
  refine kg_X5_10 V hH dX5_bear_76 ?_
  refine lv_iload_n hx hb dX5_bear_79 rfl (lv_at hl 2 rfl) ?_
  refine lv_aload_n hx hb dX5_bear_80 rfl (lv_at hl 0 rfl) ?_
  refine kg_X5_21 V hH dX5_bear_81 ?_
  refine kg_X5_44 k15 V hH dX5_bear_84 ?_
  refine lv_iload_n hx hb dX5_bear_87 rfl (lv_at hl 1 rfl) ?_
  refine lv_iload_n hx hb dX5_bear_88 rfl (lv_at hl 3 rfl) ?_
  obtain ⟨x75_1, hx75_1, hf⟩ := kbind hf
  refine kr_calli0 hH (kr_runV (as := [.int v2, .int (k 15 0), .int v1, .int v3]) (rest := []) (pl := 1) V hH kYX0_add kl_X5_48 (c_X0_add l _ _ _ _ hx75_1 _) rfl rfl ⟨Nat.le_of_ble_eq_true rfl, Nat.le_of_ble_eq_true rfl⟩ (by decide) kE_1 rfl rfl hl.1 (Nat.le_of_ble_eq_true rfl) dX5_bear_89 ⟨Nat.le_of_ble_eq_true rfl, Nat.le_of_ble_eq_true rfl⟩ rfl) (fun H locs hH => ?_)
  cases hf
  exact kx_iret V hH (by decide) (by decide) dX5_bear_92
set_option maxHeartbeats 4000000 in
set_option maxRecDepth 100000 in
theorem w_X5_bear_55 (V : kV p s mm args meth c cX5_bear RX5 4 (some .int) D cI cZ cO) {mo : kS} (XV : kVX l s ad c) {v1 : Int32} {v2 : Int32} {v3 : Int32} {k : kS} {H : Heap} {locs : List Loc} {ls : Array Slot} {out : ((Nat × Int32) × kS)} (hH : kHE s H locs D ad cI cZ cO k mo []) (hl : lv_has ls 4 [(0, .ref (ad 0)), (1, .int v1), (2, .int v2), (3, .int v3)]) (hf : F_X5_bear_55 v1 v2 v3 k = some out) : W p l e rm_X5_bear s mm args below meth c H locs 1 6 (kGXi below args s D cI cZ cO ad out.1.1 out.1.2 out.2 mo 4 24) (F0 mm 55 ls []) := by
  have hx := V.1
  have hb := V.2.1
  refine lv_aload_n hx hb dX5_bear_55 rfl (lv_at hl 0 rfl) ?_
  refine kg_X5_10 V hH dX5_bear_56 ?_
  obtain ⟨x55_1, hx55_1, hf⟩ := kbind hf
  refine kr_calli0 hH (kr_runV (as := []) (rest := []) (pl := 1) V hH kYX0_isFull kl_X5_35 (c_X0_isFull l hx55_1 _) rfl rfl ⟨Nat.le_of_ble_eq_true rfl, Nat.le_of_ble_eq_true rfl⟩ (by decide) kE_1 rfl rfl hl.1 (Nat.le_of_ble_eq_true rfl) dX5_bear_59 ⟨Nat.le_of_ble_eq_true rfl, Nat.le_of_ble_eq_true rfl⟩ rfl) (fun H locs hH => ?_)
  refine lv_if_eq (tgt := 75) hx hb dX5_bear_62 (by decide) (fun hq => ?_) (fun hq => ?_)
  · have hf := kpos hq hf
    refine W.widen (k := 1) (n := 6) (by decide) (by decide) ?_
    exact w_X5_bear_75 V XV hH (lv_sub hl [0, 1, 2, 3] rfl) hf
  · have hf := kneg hq hf
    refine W.widen (k := 1) (n := 6) (by decide) (by decide) ?_
    exact w_X5_bear_65 V XV hH (lv_sub hl [] rfl) hf
set_option maxHeartbeats 4000000 in
set_option maxRecDepth 100000 in
theorem w_X5_bear_34 (V : kV p s mm args meth c cX5_bear RX5 4 (some .int) D cI cZ cO) {mo : kS} (XV : kVX l s ad c) {v1 : Int32} {v2 : Int32} {v3 : Int32} {k : kS} {H : Heap} {locs : List Loc} {ls : Array Slot} {out : ((Nat × Int32) × kS)} (hH : kHE s H locs D ad cI cZ cO k mo []) (hl : lv_has ls 4 [(0, .ref (ad 0)), (1, .int v1), (2, .int v2), (3, .int v3)]) (hf : F_X5_bear_34 v1 v2 v3 k = some out) : W p l e rm_X5_bear s mm args below meth c H locs 1 6 (kGXi below args s D cI cZ cO ad out.1.1 out.1.2 out.2 mo 4 24) (F0 mm 34 ls []) := by
  have hx := V.1
  have hb := V.2.1
  refine lv_aload_n hx hb dX5_bear_34 rfl (lv_at hl 0 rfl) ?_
  refine kg_X5_21 V hH dX5_bear_35 ?_
  refine lv_iload_n hx hb dX5_bear_38 rfl (lv_at hl 1 rfl) ?_
  obtain ⟨x34_1, hx34_1, hf⟩ := kbind hf
  refine kr_calli0 hH (kr_runV (as := [.int v1]) (rest := []) (pl := 15) V hH kYX4_lives kl_X5_70 (c_X4_lives l k15 _ hx34_1 _) rfl rfl ⟨Nat.le_of_ble_eq_true rfl, Nat.le_of_ble_eq_true rfl⟩ (kq_B k15) (kE_w0 k15) rfl rfl hl.1 (Nat.le_of_ble_eq_true rfl) dX5_bear_39 ⟨Nat.le_of_ble_eq_true rfl, Nat.le_of_ble_eq_true rfl⟩ rfl) (fun H locs hH => ?_)
  refine lv_if_ne (tgt := 55) hx hb dX5_bear_42 (by decide) (fun hq => ?_) (fun hq => ?_)
  · have hf := kneg hq hf
    refine W.widen (k := 1) (n := 6) (by decide) (by decide) ?_
    exact w_X5_bear_55 V XV hH (lv_sub hl [0, 1, 2, 3] rfl) hf
  · have hf := kpos hq hf
    refine W.widen (k := 1) (n := 6) (by decide) (by decide) ?_
    exact w_X5_bear_45 V XV hH (lv_sub hl [] rfl) hf
set_option maxHeartbeats 4000000 in
set_option maxRecDepth 100000 in
theorem w_X5_bear_29 (V : kV p s mm args meth c cX5_bear RX5 4 (some .int) D cI cZ cO) {mo : kS} (XV : kVX l s ad c) {v1 : Int32} {v2 : Int32} {v3 : Int32} {k : kS} {H : Heap} {locs : List Loc} {ls : Array Slot} {out : ((Nat × Int32) × kS)} (hH : kHE s H locs D ad cI cZ cO k mo []) (hl : lv_has ls 4 [(0, .ref (ad 0)), (1, .int v1), (2, .int v2), (3, .int v3)]) (hf : F_X5_bear_29 v1 v2 v3 k = some out) : W p l e rm_X5_bear s mm args below meth c H locs 1 6 (kGXi below args s D cI cZ cO ad out.1.1 out.1.2 out.2 mo 4 24) (F0 mm 29 ls []) := by
  have hx := V.1
  have hb := V.2.1
  refine lv_iload_n hx hb dX5_bear_29 rfl (lv_at hl 3 rfl) ?_
  refine lv_iconst (v := (-1)) hx hb dX5_bear_30 (by decide) ?_
  refine lv_icmp_eq (tgt := 45) hx hb dX5_bear_31 (by decide) (fun hq => ?_) (fun hq => ?_)
  · have hf := kpos hq hf
    refine W.widen (k := 1) (n := 6) (by decide) (by decide) ?_
    exact w_X5_bear_45 V XV hH (lv_sub hl [] rfl) hf
  · have hf := kneg hq hf
    refine W.widen (k := 1) (n := 6) (by decide) (by decide) ?_
    exact w_X5_bear_34 V XV hH (lv_sub hl [0, 1, 2, 3] rfl) hf
set_option maxHeartbeats 4000000 in
set_option maxRecDepth 100000 in
theorem w_X5_bear_0 (V : kV p s mm args meth c cX5_bear RX5 4 (some .int) D cI cZ cO) {mo : kS} (XV : kVX l s ad c) {v1 : Int32} {v2 : Int32} {k : kS} {H : Heap} {locs : List Loc} {ls : Array Slot} {out : ((Nat × Int32) × kS)} (hH : kHE s H locs D ad cI cZ cO k mo []) (hl : lv_has ls 4 [(0, .ref (ad 0)), (1, .int v1), (2, .int v2)]) (hf : F_X5_bear_0 v1 v2 k = some out) : W p l e rm_X5_bear s mm args below meth c H locs 0 0 (kGXi below args s D cI cZ cO ad out.1.1 out.1.2 out.2 mo 4 24) (F0 mm 0 ls []) := by
  have hx := V.1
  have hb := V.2.1
  refine lv_aload_n hx hb dX5_bear_0 rfl (lv_at hl 0 rfl) ?_
  refine lv_iload_n hx hb dX5_bear_1 rfl (lv_at hl 1 rfl) ?_
  obtain ⟨x0_1, hx0_1, hf⟩ := kbind hf
  refine kx_callv hH (kx_runV (as := [.int v1]) (rest := []) (pl := 0) V XV.2.1 hH kYX5_needPerson kl_X5_52 (c_X5_needPerson l XV.1 _ hx0_1 _) rfl rfl ⟨Nat.le_of_ble_eq_true rfl, Nat.le_of_ble_eq_true rfl⟩ (by decide) kE_0 rfl rfl hl.1 (Nat.le_of_ble_eq_true rfl) dX5_bear_2 ⟨Nat.le_of_ble_eq_true rfl, Nat.le_of_ble_eq_true rfl⟩ rfl) (fun h0 En ce q9 H1 locs1 hE hH hcell hv hcl => by have hf := kneg h0 hf; cases hf; exact kx_prop V XV hH h0 hE hcell hv hcl (by decide) (by decide)) (fun h0 H locs hH => ?_)
  have hf := kpos h0 hf
  refine lv_aload_n hx hb dX5_bear_5 rfl (lv_at hl 0 rfl) ?_
  refine kg_X5_21 V hH dX5_bear_6 ?_
  refine kg_X5_56 k15 V hH dX5_bear_9 ?_
  refine lv_iload_n hx hb dX5_bear_12 rfl (lv_at hl 1 rfl) ?_
  obtain ⟨x0_2, hx0_2, hf⟩ := kbind hf
  refine kr_calli0 hH (kr_runV (as := [.int v1]) (rest := []) (pl := (15 + 8)) V hH kYX3_spouseOf kl_X5_60 (c_X3_spouseOf l k15 _ hx0_2 _) rfl rfl ⟨Nat.le_of_ble_eq_true rfl, Nat.le_of_ble_eq_true rfl⟩ (kq_w k15 (by decide)) (kE_w8 k15) rfl rfl hl.1 (Nat.le_of_ble_eq_true rfl) dX5_bear_13 ⟨Nat.le_of_ble_eq_true rfl, Nat.le_of_ble_eq_true rfl⟩ rfl) (fun H locs hH => ?_)
  refine lv_istore_n (lv' := [(3, .int x0_2), (0, .ref (ad 0)), (1, .int v1), (2, .int v2)]) hx hb dX5_bear_16 rfl hl (by decide) rfl (fun ls hl => ?_)
  refine lv_aload_n hx hb dX5_bear_17 rfl (lv_at hl 1 rfl) ?_
  refine kg_X5_10 V hH dX5_bear_18 ?_
  refine kg_X5_66 V hH dX5_bear_21 ?_
  refine lv_iload_n hx hb dX5_bear_24 rfl (lv_at hl 2 rfl) ?_
  obtain ⟨h0_3, hf⟩ := kif hf
  refine kr_zald V hH (q := 2) (by decide) kE_2 h0_3 dX5_bear_25 ?_
  refine lv_if_ne (tgt := 45) hx hb dX5_bear_26 (by decide) (fun hq => ?_) (fun hq => ?_)
  · have hf := kneg hq hf
    refine W.widen (k := 1) (n := 6) (by decide) (by decide) ?_
    exact w_X5_bear_45 V XV hH (lv_sub hl [] rfl) hf
  · have hf := kpos hq hf
    refine W.widen (k := 1) (n := 6) (by decide) (by decide) ?_
    exact w_X5_bear_29 V XV hH (lv_sub hl [1, 2, 3, 0] rfl) hf
set_option maxHeartbeats 4000000 in
set_option maxRecDepth 100000 in
theorem c_X5_bear (l : Launch) (hst : l.stackTraces = false) {D : va_G} {cI cZ cO : ClassId} {ad : Nat → Nat} {k mo : kS} (v1 : Int32) (v2 : Int32) {out : ((Nat × Int32) × kS)} (hf : F_X5_bear v1 v2 k = some out) (sz : Nat) : vx_Met l yX5_bear (Cond.code yX5_bear cX5_bear 4 (some .int) :: kWA) rm_X5_bear (kPX [.ref (ad 0), .int v1, .int v2] D cI cZ cO ad (kE ad cI cZ cO k mo) sz) (kXi out.1.1 out.1.2 D cI cZ cO ad (kE ad cI cZ cO out.2 mo) sz) (kXC out.1.1 D cI cZ cO ad (kE ad cI cZ cO out.2 mo) sz) 4 24 (fA ad sz) := by
  refine kx_met (as := [.ref (ad 0), .int v1, .int v2]) (bytes := cX5_bear) (maxL := 4) (rt := (some .int)) (Qc := fun sz => (kXi out.1.1 out.1.2 D cI cZ cO ad (kE ad cI cZ cO out.2 mo) sz)) (XC := fun sz => (kXC out.1.1 D cI cZ cO ad (kE ad cI cZ cO out.2 mo) sz)) (lv := [(0, .ref (ad 0)), (1, .int v1), (2, .int v2)]) hst (by decide +kernel) (Nat.le_of_ble_eq_true rfl) rfl (fun p e s mm below meth c ls V XV hH hl => ?_) sz
  exact w_X5_bear_0 V XV hH (lv_sub hl [0, 1, 2] rfl) hf
end
section
variable {p : Program} {l : Launch} {e : Env} {s : State} {mm : MethodId} {args : Array Value} {below : List Frame} {meth : Method} {c : Code} {D : va_G} {cI cZ cO : ClassId} {ad : Nat → Nat}
abbrev rm_X5_needLaw : Room := { frames := 6, cells := 1, slots := 6, locals := 100 }
set_option maxHeartbeats 4000000 in
set_option maxRecDepth 100000 in
theorem w_X5_needLaw_9 (V : kV p s mm args meth c cX5_needLaw RX5 1 none D cI cZ cO) {k mo : kS} (XV : kVX l s ad c) {H : Heap} {locs : List Loc} {ls : Array Slot} {out : Nat} (hH : kHE s H locs D ad cI cZ cO k mo []) (hl : lv_has ls 1 []) (hf : F_X5_needLaw_9 k = some out) : W p l e rm_X5_needLaw s mm args below meth c H locs 0 0 (kGXv below args s D cI cZ cO ad out k mo 1 6) (F0 mm 9 ls []) := by
  have hx := V.1
  have hb := V.2.1
  cases hf
  exact kx_throw (code := 1) (text := "the law is not 0 to 3") V XV hH hl.1 (by decide) (by decide +kernel) kc_X5_28 kz_IllegalArgumentException kXg1 kXn1 kXo1 (by decide +kernel) dX5_needLaw_9 dX5_needLaw_12 dX5_needLaw_13 dX5_needLaw_15 dX5_needLaw_18 (by decide) (by decide) (by decide) (by decide) (by decide) (by decide)
set_option maxHeartbeats 4000000 in
set_option maxRecDepth 100000 in
theorem w_X5_needLaw_19 (V : kV p s mm args meth c cX5_needLaw RX5 1 none D cI cZ cO) {k mo : kS} (XV : kVX l s ad c) {H : Heap} {locs : List Loc} {ls : Array Slot} {out : Nat} (hH : kHE s H locs D ad cI cZ cO k mo []) (hl : lv_has ls 1 []) (hf : F_X5_needLaw_19 k = some out) : W p l e rm_X5_needLaw s mm args below meth c H locs 0 0 (kGXv below args s D cI cZ cO ad out k mo 1 6) (F0 mm 19 ls []) := by
  have hx := V.1
  have hb := V.2.1
  cases hf
  exact kx_vret V hH (by decide) (by decide) dX5_needLaw_19
set_option maxHeartbeats 4000000 in
set_option maxRecDepth 100000 in
theorem w_X5_needLaw_4 (V : kV p s mm args meth c cX5_needLaw RX5 1 none D cI cZ cO) {k mo : kS} (XV : kVX l s ad c) {v0 : Int32} {H : Heap} {locs : List Loc} {ls : Array Slot} {out : Nat} (hH : kHE s H locs D ad cI cZ cO k mo []) (hl : lv_has ls 1 [(0, .int v0)]) (hf : F_X5_needLaw_4 k v0 = some out) : W p l e rm_X5_needLaw s mm args below meth c H locs 0 0 (kGXv below args s D cI cZ cO ad out k mo 1 6) (F0 mm 4 ls []) := by
  have hx := V.1
  have hb := V.2.1
  refine lv_iload_n hx hb dX5_needLaw_4 rfl (lv_at hl 0 rfl) ?_
  refine lv_iconst (v := 3) hx hb dX5_needLaw_5 (by decide) ?_
  refine lv_icmp_le (tgt := 19) hx hb dX5_needLaw_6 (by decide) (fun hq => ?_) (fun hq => ?_)
  · have hf := kpos hq hf
    refine W.widen (k := 0) (n := 0) (by decide) (by decide) ?_
    exact w_X5_needLaw_19 V XV hH (lv_sub hl [] rfl) hf
  · have hf := kneg hq hf
    refine W.widen (k := 0) (n := 0) (by decide) (by decide) ?_
    exact w_X5_needLaw_9 V XV hH (lv_sub hl [] rfl) hf
set_option maxHeartbeats 4000000 in
set_option maxRecDepth 100000 in
theorem w_X5_needLaw_0 (V : kV p s mm args meth c cX5_needLaw RX5 1 none D cI cZ cO) {k mo : kS} (XV : kVX l s ad c) {v0 : Int32} {H : Heap} {locs : List Loc} {ls : Array Slot} {out : Nat} (hH : kHE s H locs D ad cI cZ cO k mo []) (hl : lv_has ls 1 [(0, .int v0)]) (hf : F_X5_needLaw_0 k v0 = some out) : W p l e rm_X5_needLaw s mm args below meth c H locs 0 0 (kGXv below args s D cI cZ cO ad out k mo 1 6) (F0 mm 0 ls []) := by
  have hx := V.1
  have hb := V.2.1
  refine lv_iload_n hx hb dX5_needLaw_0 rfl (lv_at hl 0 rfl) ?_
  refine lv_if_lt (tgt := 9) hx hb dX5_needLaw_1 (by decide) (fun hq => ?_) (fun hq => ?_)
  · have hf := kpos hq hf
    refine W.widen (k := 0) (n := 0) (by decide) (by decide) ?_
    exact w_X5_needLaw_9 V XV hH (lv_sub hl [] rfl) hf
  · have hf := kneg hq hf
    refine W.widen (k := 0) (n := 0) (by decide) (by decide) ?_
    exact w_X5_needLaw_4 V XV hH (lv_sub hl [0] rfl) hf
set_option maxHeartbeats 4000000 in
set_option maxRecDepth 100000 in
theorem c_X5_needLaw (l : Launch) (hst : l.stackTraces = false) {D : va_G} {cI cZ cO : ClassId} {ad : Nat → Nat} {k mo : kS} (v0 : Int32) {out : Nat} (hf : F_X5_needLaw k v0 = some out) (sz : Nat) : vx_Met l yX5_needLaw (Cond.code yX5_needLaw cX5_needLaw 1 none :: kWA) rm_X5_needLaw (kPX [.int v0] D cI cZ cO ad (kE ad cI cZ cO k mo) sz) (kXv out D cI cZ cO ad (kE ad cI cZ cO k mo) sz) (kXC out D cI cZ cO ad (kE ad cI cZ cO k mo) sz) 1 6 (fA ad sz) := by
  refine kx_met (as := [.int v0]) (bytes := cX5_needLaw) (maxL := 1) (rt := none) (Qc := fun sz => (kXv out D cI cZ cO ad (kE ad cI cZ cO k mo) sz)) (XC := fun sz => (kXC out D cI cZ cO ad (kE ad cI cZ cO k mo) sz)) (lv := [(0, .int v0)]) hst (by decide +kernel) (Nat.le_of_ble_eq_true rfl) rfl (fun p e s mm below meth c ls V XV hH hl => ?_) sz
  exact w_X5_needLaw_0 V XV hH (lv_sub hl [0] rfl) hf
end
section
variable {p : Program} {l : Launch} {e : Env} {s : State} {mm : MethodId} {args : Array Value} {below : List Frame} {meth : Method} {c : Code} {D : va_G} {cI cZ cO : ClassId} {ad : Nat → Nat}
abbrev rm_X5_found : Room := { frames := 7, cells := 4, slots := 24, locals := 121 }
set_option maxHeartbeats 4000000 in
set_option maxRecDepth 100000 in
theorem w_X5_found_11 (V : kV p s mm args meth c cX5_found RX5 4 (some .int) D cI cZ cO) {mo : kS} (XV : kVX l s ad c) {k : kS} {H : Heap} {locs : List Loc} {ls : Array Slot} {out : ((Nat × Int32) × kS)} (hH : kHE s H locs D ad cI cZ cO k mo []) (hl : lv_has ls 4 []) (hf : F_X5_found_11 k = some out) : W p l e rm_X5_found s mm args below meth c H locs 0 0 (kGXi below args s D cI cZ cO ad out.1.1 out.1.2 out.2 mo 4 24) (F0 mm 11 ls []) := by
  have hx := V.1
  have hb := V.2.1
  cases hf
  exact kx_throw (code := 1) (text := "the worth is not 1 to 50") V XV hH hl.1 (by decide) (by decide +kernel) kc_X5_28 kz_IllegalArgumentException kXg1 kXn1 kXo1 (by decide +kernel) dX5_found_11 dX5_found_14 dX5_found_15 dX5_found_17 dX5_found_20 (by decide) (by decide) (by decide) (by decide) (by decide) (by decide)
set_option maxHeartbeats 4000000 in
set_option maxRecDepth 100000 in
theorem w_X5_found_48 (V : kV p s mm args meth c cX5_found RX5 4 (some .int) D cI cZ cO) {mo : kS} (XV : kVX l s ad c) {k : kS} {H : Heap} {locs : List Loc} {ls : Array Slot} {out : ((Nat × Int32) × kS)} (hH : kHE s H locs D ad cI cZ cO k mo []) (hl : lv_has ls 4 []) (hf : F_X5_found_48 k = some out) : W p l e rm_X5_found s mm args below meth c H locs 2 12 (kGXi below args s D cI cZ cO ad out.1.1 out.1.2 out.2 mo 4 24) (F0 mm 48 ls []) := by
  have hx := V.1
  have hb := V.2.1
  cases hf
  exact kx_throw (code := 2) (text := "there are 12 lands") V XV hH hl.1 (by decide) (by decide +kernel) kc_X5_39 kz_IllegalStateException kXg2 kXn2 kXo2 (by decide +kernel) dX5_found_48 dX5_found_51 dX5_found_52 dX5_found_54 dX5_found_57 (by decide) (by decide) (by decide) (by decide) (by decide) (by decide)
set_option maxHeartbeats 4000000 in
set_option maxRecDepth 100000 in
theorem w_X5_found_74 (V : kV p s mm args meth c cX5_found RX5 4 (some .int) D cI cZ cO) {mo : kS} (XV : kVX l s ad c) {k : kS} {H : Heap} {locs : List Loc} {ls : Array Slot} {out : ((Nat × Int32) × kS)} (hH : kHE s H locs D ad cI cZ cO k mo []) (hl : lv_has ls 4 []) (hf : F_X5_found_74 k = some out) : W p l e rm_X5_found s mm args below meth c H locs 2 12 (kGXi below args s D cI cZ cO ad out.1.1 out.1.2 out.2 mo 4 24) (F0 mm 74 ls []) := by
  have hx := V.1
  have hb := V.2.1
  cases hf
  exact kx_throw (code := 2) (text := "the ruler has died") V XV hH hl.1 (by decide) (by decide +kernel) kc_X5_39 kz_IllegalStateException kXg2 kXn2 kXo2 (by decide +kernel) dX5_found_74 dX5_found_77 dX5_found_78 dX5_found_80 dX5_found_83 (by decide) (by decide) (by decide) (by decide) (by decide) (by decide)
set_option maxHeartbeats 4000000 in
set_option maxRecDepth 100000 in
theorem w_X5_found_84 (V : kV p s mm args meth c cX5_found RX5 4 (some .int) D cI cZ cO) {mo : kS} (XV : kVX l s ad c) {v1 : Int32} {v2 : Int32} {v3 : Int32} {k : kS} {H : Heap} {locs : List Loc} {ls : Array Slot} {out : ((Nat × Int32) × kS)} (hH : kHE s H locs D ad cI cZ cO k mo []) (hl : lv_has ls 4 [(0, .ref (ad 0)), (1, .int v1), (2, .int v2), (3, .int v3)]) (hf : F_X5_found_84 v1 v2 v3 k = some out) : W p l e rm_X5_found s mm args below meth c H locs 2 12 (kGXi below args s D cI cZ cO ad out.1.1 out.1.2 out.2 mo 4 24) (F0 mm 84 ls []) := by
  have hx := V.1
  have hb := V.2.1
  refine lv_aload_n hx hb dX5_found_84 rfl (lv_at hl 0 rfl) ?_
  refine kg_X5_21 V hH dX5_found_85 ?_
  refine kg_X5_81 k15 V hH dX5_found_88 ?_
  refine lv_iload_n hx hb dX5_found_91 rfl (lv_at hl 1 rfl) ?_
  refine lv_iload_n hx hb dX5_found_92 rfl (lv_at hl 2 rfl) ?_
  refine lv_iload_n hx hb dX5_found_93 rfl (lv_at hl 3 rfl) ?_
  obtain ⟨x84_1, hx84_1, hf⟩ := kbind hf
  refine kr_calli0 hH (kr_runV (as := [.int v1, .int v2, .int v3]) (rest := []) (pl := (15 + 1)) V hH kYX1_add kl_X5_92 (c_X1_add l k15 _ _ _ hx84_1 _) rfl rfl ⟨Nat.le_of_ble_eq_true rfl, Nat.le_of_ble_eq_true rfl⟩ (kq_w k15 (by decide)) (kE_w1 k15) rfl rfl hl.1 (Nat.le_of_ble_eq_true rfl) dX5_found_94 ⟨Nat.le_of_ble_eq_true rfl, Nat.le_of_ble_eq_true rfl⟩ rfl) (fun H locs hH => ?_)
  cases hf
  exact kx_iret V hH (by decide) (by decide) dX5_found_97
set_option maxHeartbeats 4000000 in
set_option maxRecDepth 100000 in
theorem w_X5_found_63 (V : kV p s mm args meth c cX5_found RX5 4 (some .int) D cI cZ cO) {mo : kS} (XV : kVX l s ad c) {v1 : Int32} {v2 : Int32} {v3 : Int32} {k : kS} {H : Heap} {locs : List Loc} {ls : Array Slot} {out : ((Nat × Int32) × kS)} (hH : kHE s H locs D ad cI cZ cO k mo []) (hl : lv_has ls 4 [(0, .ref (ad 0)), (1, .int v1), (2, .int v2), (3, .int v3)]) (hf : F_X5_found_63 v1 v2 v3 k = some out) : W p l e rm_X5_found s mm args below meth c H locs 2 12 (kGXi below args s D cI cZ cO ad out.1.1 out.1.2 out.2 mo 4 24) (F0 mm 63 ls []) := by
  have hx := V.1
  have hb := V.2.1
  refine lv_aload_n hx hb dX5_found_63 rfl (lv_at hl 0 rfl) ?_
  refine kg_X5_21 V hH dX5_found_64 ?_
  refine lv_iload_n hx hb dX5_found_67 rfl (lv_at hl 3 rfl) ?_
  obtain ⟨x63_1, hx63_1, hf⟩ := kbind hf
  refine kr_calli0 hH (kr_runV (as := [.int v3]) (rest := []) (pl := 15) V hH kYX4_lives kl_X5_70 (c_X4_lives l k15 _ hx63_1 _) rfl rfl ⟨Nat.le_of_ble_eq_true rfl, Nat.le_of_ble_eq_true rfl⟩ (kq_B k15) (kE_w0 k15) rfl rfl hl.1 (Nat.le_of_ble_eq_true rfl) dX5_found_68 ⟨Nat.le_of_ble_eq_true rfl, Nat.le_of_ble_eq_true rfl⟩ rfl) (fun H locs hH => ?_)
  refine lv_if_ne (tgt := 84) hx hb dX5_found_71 (by decide) (fun hq => ?_) (fun hq => ?_)
  · have hf := kneg hq hf
    refine W.widen (k := 2) (n := 12) (by decide) (by decide) ?_
    exact w_X5_found_84 V XV hH (lv_sub hl [0, 1, 2, 3] rfl) hf
  · have hf := kpos hq hf
    refine W.widen (k := 2) (n := 12) (by decide) (by decide) ?_
    exact w_X5_found_74 V XV hH (lv_sub hl [] rfl) hf
set_option maxHeartbeats 4000000 in
set_option maxRecDepth 100000 in
theorem w_X5_found_58 (V : kV p s mm args meth c cX5_found RX5 4 (some .int) D cI cZ cO) {mo : kS} (XV : kVX l s ad c) {v1 : Int32} {v2 : Int32} {v3 : Int32} {k : kS} {H : Heap} {locs : List Loc} {ls : Array Slot} {out : ((Nat × Int32) × kS)} (hH : kHE s H locs D ad cI cZ cO k mo []) (hl : lv_has ls 4 [(0, .ref (ad 0)), (1, .int v1), (2, .int v2), (3, .int v3)]) (hf : F_X5_found_58 v1 v2 v3 k = some out) : W p l e rm_X5_found s mm args below meth c H locs 2 12 (kGXi below args s D cI cZ cO ad out.1.1 out.1.2 out.2 mo 4 24) (F0 mm 58 ls []) := by
  have hx := V.1
  have hb := V.2.1
  refine lv_iload_n hx hb dX5_found_58 rfl (lv_at hl 3 rfl) ?_
  refine lv_iconst (v := (-1)) hx hb dX5_found_59 (by decide) ?_
  refine lv_icmp_eq (tgt := 84) hx hb dX5_found_60 (by decide) (fun hq => ?_) (fun hq => ?_)
  · have hf := kpos hq hf
    refine W.widen (k := 2) (n := 12) (by decide) (by decide) ?_
    exact w_X5_found_84 V XV hH (lv_sub hl [0, 1, 2, 3] rfl) hf
  · have hf := kneg hq hf
    refine W.widen (k := 2) (n := 12) (by decide) (by decide) ?_
    exact w_X5_found_63 V XV hH (lv_sub hl [0, 1, 2, 3] rfl) hf
set_option maxHeartbeats 4000000 in
set_option maxRecDepth 100000 in
theorem w_X5_found_35 (V : kV p s mm args meth c cX5_found RX5 4 (some .int) D cI cZ cO) {mo : kS} (XV : kVX l s ad c) {v1 : Int32} {v2 : Int32} {v3 : Int32} {k : kS} {H : Heap} {locs : List Loc} {ls : Array Slot} {out : ((Nat × Int32) × kS)} (hH : kHE s H locs D ad cI cZ cO k mo []) (hl : lv_has ls 4 [(0, .ref (ad 0)), (1, .int v1), (2, .int v2), (3, .int v3)]) (hf : F_X5_found_35 v1 v2 v3 k = some out) : W p l e rm_X5_found s mm args below meth c H locs 2 12 (kGXi below args s D cI cZ cO ad out.1.1 out.1.2 out.2 mo 4 24) (F0 mm 35 ls []) := by
  have hx := V.1
  have hb := V.2.1
  refine lv_aload_n hx hb dX5_found_35 rfl (lv_at hl 0 rfl) ?_
  refine kg_X5_21 V hH dX5_found_36 ?_
  refine kg_X5_81 k15 V hH dX5_found_39 ?_
  obtain ⟨x35_1, hx35_1, hf⟩ := kbind hf
  refine kr_calli0 hH (kr_runV (as := []) (rest := []) (pl := (15 + 1)) V hH kYX1_isFull kl_X5_85 (c_X1_isFull l k15 hx35_1 _) rfl rfl ⟨Nat.le_of_ble_eq_true rfl, Nat.le_of_ble_eq_true rfl⟩ (kq_w k15 (by decide)) (kE_w1 k15) rfl rfl hl.1 (Nat.le_of_ble_eq_true rfl) dX5_found_42 ⟨Nat.le_of_ble_eq_true rfl, Nat.le_of_ble_eq_true rfl⟩ rfl) (fun H locs hH => ?_)
  refine lv_if_eq (tgt := 58) hx hb dX5_found_45 (by decide) (fun hq => ?_) (fun hq => ?_)
  · have hf := kpos hq hf
    refine W.widen (k := 2) (n := 12) (by decide) (by decide) ?_
    exact w_X5_found_58 V XV hH (lv_sub hl [0, 1, 2, 3] rfl) hf
  · have hf := kneg hq hf
    refine W.widen (k := 2) (n := 12) (by decide) (by decide) ?_
    exact w_X5_found_48 V XV hH (lv_sub hl [] rfl) hf
set_option maxHeartbeats 4000000 in
set_option maxRecDepth 100000 in
theorem w_X5_found_30 (V : kV p s mm args meth c cX5_found RX5 4 (some .int) D cI cZ cO) {mo : kS} (XV : kVX l s ad c) {v1 : Int32} {v2 : Int32} {v3 : Int32} {k : kS} {H : Heap} {locs : List Loc} {ls : Array Slot} {out : ((Nat × Int32) × kS)} (hH : kHE s H locs D ad cI cZ cO k mo []) (hl : lv_has ls 4 [(0, .ref (ad 0)), (1, .int v1), (2, .int v2), (3, .int v3)]) (hf : F_X5_found_30 v1 v2 v3 k = some out) : W p l e rm_X5_found s mm args below meth c H locs 1 6 (kGXi below args s D cI cZ cO ad out.1.1 out.1.2 out.2 mo 4 24) (F0 mm 30 ls []) := by
  have hx := V.1
  have hb := V.2.1
  refine lv_aload_n hx hb dX5_found_30 rfl (lv_at hl 0 rfl) ?_
  refine lv_iload_n hx hb dX5_found_31 rfl (lv_at hl 3 rfl) ?_
  obtain ⟨x30_1, hx30_1, hf⟩ := kbind hf
  refine kx_callv hH (kx_runV (as := [.int v3]) (rest := []) (pl := 0) V XV.2.1 hH kYX5_needPerson kl_X5_52 (c_X5_needPerson l XV.1 _ hx30_1 _) rfl rfl ⟨Nat.le_of_ble_eq_true rfl, Nat.le_of_ble_eq_true rfl⟩ (by decide) kE_0 rfl rfl hl.1 (Nat.le_of_ble_eq_true rfl) dX5_found_32 ⟨Nat.le_of_ble_eq_true rfl, Nat.le_of_ble_eq_true rfl⟩ rfl) (fun h0 En ce q9 H1 locs1 hE hH hcell hv hcl => by have hf := kneg h0 hf; cases hf; exact kx_prop V XV hH h0 hE hcell hv hcl (by decide) (by decide)) (fun h0 H locs hH => ?_)
  have hf := kpos h0 hf
  refine W.widen (k := 2) (n := 12) (by decide) (by decide) ?_
  exact w_X5_found_35 V XV hH (lv_sub hl [0, 1, 2, 3] rfl) hf
set_option maxHeartbeats 4000000 in
set_option maxRecDepth 100000 in
theorem w_X5_found_21 (V : kV p s mm args meth c cX5_found RX5 4 (some .int) D cI cZ cO) {mo : kS} (XV : kVX l s ad c) {v1 : Int32} {v2 : Int32} {v3 : Int32} {k : kS} {H : Heap} {locs : List Loc} {ls : Array Slot} {out : ((Nat × Int32) × kS)} (hH : kHE s H locs D ad cI cZ cO k mo []) (hl : lv_has ls 4 [(0, .ref (ad 0)), (1, .int v1), (2, .int v2), (3, .int v3)]) (hf : F_X5_found_21 v1 v2 v3 k = some out) : W p l e rm_X5_found s mm args below meth c H locs 0 0 (kGXi below args s D cI cZ cO ad out.1.1 out.1.2 out.2 mo 4 24) (F0 mm 21 ls []) := by
  have hx := V.1
  have hb := V.2.1
  refine lv_iload_n hx hb dX5_found_21 rfl (lv_at hl 2 rfl) ?_
  obtain ⟨x21_1, hx21_1, hf⟩ := kbind hf
  refine kx_callv hH (kx_runS (as := [.int v2]) (rest := []) V XV.2.1 hH kYX5_needLaw kl_X5_78 (c_X5_needLaw l XV.1 _ hx21_1 _) rfl rfl ⟨Nat.le_of_ble_eq_true rfl, Nat.le_of_ble_eq_true rfl⟩ rfl hl.1 (Nat.le_of_ble_eq_true rfl) dX5_found_22 ⟨Nat.le_of_ble_eq_true rfl, Nat.le_of_ble_eq_true rfl⟩ rfl) (fun h0 En ce q9 H1 locs1 hE hH hcell hv hcl => by have hf := kneg h0 hf; cases hf; exact kx_prop V XV hH h0 hE hcell hv hcl (by decide) (by decide)) (fun h0 H locs hH => ?_)
  have hf := kpos h0 hf
  refine lv_iload_n hx hb dX5_found_25 rfl (lv_at hl 3 rfl) ?_
  refine lv_iconst (v := (-1)) hx hb dX5_found_26 (by decide) ?_
  refine lv_icmp_eq (tgt := 35) hx hb dX5_found_27 (by decide) (fun hq => ?_) (fun hq => ?_)
  · have hf := kpos hq hf
    refine W.widen (k := 2) (n := 12) (by decide) (by decide) ?_
    exact w_X5_found_35 V XV hH (lv_sub hl [0, 1, 2, 3] rfl) hf
  · have hf := kneg hq hf
    refine W.widen (k := 1) (n := 6) (by decide) (by decide) ?_
    exact w_X5_found_30 V XV hH (lv_sub hl [0, 1, 2, 3] rfl) hf
set_option maxHeartbeats 4000000 in
set_option maxRecDepth 100000 in
theorem w_X5_found_5 (V : kV p s mm args meth c cX5_found RX5 4 (some .int) D cI cZ cO) {mo : kS} (XV : kVX l s ad c) {v1 : Int32} {v2 : Int32} {v3 : Int32} {k : kS} {H : Heap} {locs : List Loc} {ls : Array Slot} {out : ((Nat × Int32) × kS)} (hH : kHE s H locs D ad cI cZ cO k mo []) (hl : lv_has ls 4 [(0, .ref (ad 0)), (1, .int v1), (2, .int v2), (3, .int v3)]) (hf : F_X5_found_5 v1 v2 v3 k = some out) : W p l e rm_X5_found s mm args below meth c H locs 0 0 (kGXi below args s D cI cZ cO ad out.1.1 out.1.2 out.2 mo 4 24) (F0 mm 5 ls []) := by
  have hx := V.1
  have hb := V.2.1
  refine lv_iload_n hx hb dX5_found_5 rfl (lv_at hl 1 rfl) ?_
  refine lv_bipush (v := 50) hx hb dX5_found_6 (by decide) ?_
  refine lv_icmp_le (tgt := 21) hx hb dX5_found_8 (by decide) (fun hq => ?_) (fun hq => ?_)
  · have hf := kpos hq hf
    refine W.widen (k := 0) (n := 0) (by decide) (by decide) ?_
    exact w_X5_found_21 V XV hH (lv_sub hl [0, 1, 2, 3] rfl) hf
  · have hf := kneg hq hf
    refine W.widen (k := 0) (n := 0) (by decide) (by decide) ?_
    exact w_X5_found_11 V XV hH (lv_sub hl [] rfl) hf
set_option maxHeartbeats 4000000 in
set_option maxRecDepth 100000 in
theorem w_X5_found_0 (V : kV p s mm args meth c cX5_found RX5 4 (some .int) D cI cZ cO) {mo : kS} (XV : kVX l s ad c) {v1 : Int32} {v2 : Int32} {v3 : Int32} {k : kS} {H : Heap} {locs : List Loc} {ls : Array Slot} {out : ((Nat × Int32) × kS)} (hH : kHE s H locs D ad cI cZ cO k mo []) (hl : lv_has ls 4 [(0, .ref (ad 0)), (1, .int v1), (2, .int v2), (3, .int v3)]) (hf : F_X5_found_0 v1 v2 v3 k = some out) : W p l e rm_X5_found s mm args below meth c H locs 0 0 (kGXi below args s D cI cZ cO ad out.1.1 out.1.2 out.2 mo 4 24) (F0 mm 0 ls []) := by
  have hx := V.1
  have hb := V.2.1
  refine lv_iload_n hx hb dX5_found_0 rfl (lv_at hl 1 rfl) ?_
  refine lv_iconst (v := 1) hx hb dX5_found_1 (by decide) ?_
  refine lv_icmp_lt (tgt := 11) hx hb dX5_found_2 (by decide) (fun hq => ?_) (fun hq => ?_)
  · have hf := kpos hq hf
    refine W.widen (k := 0) (n := 0) (by decide) (by decide) ?_
    exact w_X5_found_11 V XV hH (lv_sub hl [] rfl) hf
  · have hf := kneg hq hf
    refine W.widen (k := 0) (n := 0) (by decide) (by decide) ?_
    exact w_X5_found_5 V XV hH (lv_sub hl [0, 1, 2, 3] rfl) hf
set_option maxHeartbeats 4000000 in
set_option maxRecDepth 100000 in
theorem c_X5_found (l : Launch) (hst : l.stackTraces = false) {D : va_G} {cI cZ cO : ClassId} {ad : Nat → Nat} {k mo : kS} (v1 : Int32) (v2 : Int32) (v3 : Int32) {out : ((Nat × Int32) × kS)} (hf : F_X5_found v1 v2 v3 k = some out) (sz : Nat) : vx_Met l yX5_found (Cond.code yX5_found cX5_found 4 (some .int) :: kWA) rm_X5_found (kPX [.ref (ad 0), .int v1, .int v2, .int v3] D cI cZ cO ad (kE ad cI cZ cO k mo) sz) (kXi out.1.1 out.1.2 D cI cZ cO ad (kE ad cI cZ cO out.2 mo) sz) (kXC out.1.1 D cI cZ cO ad (kE ad cI cZ cO out.2 mo) sz) 4 24 (fA ad sz) := by
  refine kx_met (as := [.ref (ad 0), .int v1, .int v2, .int v3]) (bytes := cX5_found) (maxL := 4) (rt := (some .int)) (Qc := fun sz => (kXi out.1.1 out.1.2 D cI cZ cO ad (kE ad cI cZ cO out.2 mo) sz)) (XC := fun sz => (kXC out.1.1 D cI cZ cO ad (kE ad cI cZ cO out.2 mo) sz)) (lv := [(0, .ref (ad 0)), (1, .int v1), (2, .int v2), (3, .int v3)]) hst (by decide +kernel) (Nat.le_of_ble_eq_true rfl) rfl (fun p e s mm below meth c ls V XV hH hl => ?_) sz
  exact w_X5_found_0 V XV hH (lv_sub hl [0, 1, 2, 3] rfl) hf
end
section
variable {p : Program} {l : Launch} {e : Env} {s : State} {mm : MethodId} {args : Array Value} {below : List Frame} {meth : Method} {c : Code} {D : va_G} {cI cZ cO : ClassId} {ad : Nat → Nat}
abbrev rm_X5_needLand : Room := { frames := 6, cells := 1, slots := 6, locals := 100 }
set_option maxHeartbeats 4000000 in
set_option maxRecDepth 100000 in
theorem w_X5_needLand_14 (V : kV p s mm args meth c cX5_needLand RX5 2 none D cI cZ cO) {k mo : kS} (XV : kVX l s ad c) {H : Heap} {locs : List Loc} {ls : Array Slot} {out : Nat} (hH : kHE s H locs D ad cI cZ cO k mo []) (hl : lv_has ls 2 []) (hf : F_X5_needLand_14 k = some out) : W p l e rm_X5_needLand s mm args below meth c H locs 0 0 (kGXv below args s D cI cZ cO ad out k mo 1 6) (F0 mm 14 ls []) := by
  have hx := V.1
  have hb := V.2.1
  cases hf
  exact kx_throw (code := 3) (text := "there is no such land") V XV hH hl.1 (by decide) (by decide +kernel) kc_X5_191 kz_IndexOutOfBoundsException kXg3 kXn3 kXo3 (by decide +kernel) dX5_needLand_14 dX5_needLand_17 dX5_needLand_18 dX5_needLand_20 dX5_needLand_23 (by decide) (by decide) (by decide) (by decide) (by decide) (by decide)
set_option maxHeartbeats 4000000 in
set_option maxRecDepth 100000 in
theorem w_X5_needLand_24 (V : kV p s mm args meth c cX5_needLand RX5 2 none D cI cZ cO) {k mo : kS} (XV : kVX l s ad c) {H : Heap} {locs : List Loc} {ls : Array Slot} {out : Nat} (hH : kHE s H locs D ad cI cZ cO k mo []) (hl : lv_has ls 2 []) (hf : F_X5_needLand_24 k = some out) : W p l e rm_X5_needLand s mm args below meth c H locs 0 0 (kGXv below args s D cI cZ cO ad out k mo 1 6) (F0 mm 24 ls []) := by
  have hx := V.1
  have hb := V.2.1
  cases hf
  exact kx_vret V hH (by decide) (by decide) dX5_needLand_24
set_option maxHeartbeats 4000000 in
set_option maxRecDepth 100000 in
theorem w_X5_needLand_0 (V : kV p s mm args meth c cX5_needLand RX5 2 none D cI cZ cO) {k mo : kS} (XV : kVX l s ad c) {v1 : Int32} {H : Heap} {locs : List Loc} {ls : Array Slot} {out : Nat} (hH : kHE s H locs D ad cI cZ cO k mo []) (hl : lv_has ls 2 [(0, .ref (ad 0)), (1, .int v1)]) (hf : F_X5_needLand_0 k v1 = some out) : W p l e rm_X5_needLand s mm args below meth c H locs 0 0 (kGXv below args s D cI cZ cO ad out k mo 1 6) (F0 mm 0 ls []) := by
  have hx := V.1
  have hb := V.2.1
  refine lv_aload_n hx hb dX5_needLand_0 rfl (lv_at hl 0 rfl) ?_
  refine kg_X5_21 V hH dX5_needLand_1 ?_
  refine kg_X5_81 k15 V hH dX5_needLand_4 ?_
  refine lv_iload_n hx hb dX5_needLand_7 rfl (lv_at hl 1 rfl) ?_
  obtain ⟨x0_1, hx0_1, hf⟩ := kbind hf
  refine kr_calli0 hH (kr_runV (as := [.int v1]) (rest := []) (pl := (15 + 1)) V hH kYX1_knows kl_X5_196 (c_X1_knows l k15 _ hx0_1 _) rfl rfl ⟨Nat.le_of_ble_eq_true rfl, Nat.le_of_ble_eq_true rfl⟩ (kq_w k15 (by decide)) (kE_w1 k15) rfl rfl hl.1 (Nat.le_of_ble_eq_true rfl) dX5_needLand_8 ⟨Nat.le_of_ble_eq_true rfl, Nat.le_of_ble_eq_true rfl⟩ rfl) (fun H locs hH => ?_)
  refine lv_if_ne (tgt := 24) hx hb dX5_needLand_11 (by decide) (fun hq => ?_) (fun hq => ?_)
  · have hf := kneg hq hf
    refine W.widen (k := 0) (n := 0) (by decide) (by decide) ?_
    exact w_X5_needLand_24 V XV hH (lv_sub hl [] rfl) hf
  · have hf := kpos hq hf
    refine W.widen (k := 0) (n := 0) (by decide) (by decide) ?_
    exact w_X5_needLand_14 V XV hH (lv_sub hl [] rfl) hf
set_option maxHeartbeats 4000000 in
set_option maxRecDepth 100000 in
theorem c_X5_needLand (l : Launch) (hst : l.stackTraces = false) {D : va_G} {cI cZ cO : ClassId} {ad : Nat → Nat} {k mo : kS} (v1 : Int32) {out : Nat} (hf : F_X5_needLand k v1 = some out) (sz : Nat) : vx_Met l yX5_needLand (Cond.code yX5_needLand cX5_needLand 2 none :: kWA) rm_X5_needLand (kPX [.ref (ad 0), .int v1] D cI cZ cO ad (kE ad cI cZ cO k mo) sz) (kXv out D cI cZ cO ad (kE ad cI cZ cO k mo) sz) (kXC out D cI cZ cO ad (kE ad cI cZ cO k mo) sz) 1 6 (fA ad sz) := by
  refine kx_met (as := [.ref (ad 0), .int v1]) (bytes := cX5_needLand) (maxL := 2) (rt := none) (Qc := fun sz => (kXv out D cI cZ cO ad (kE ad cI cZ cO k mo) sz)) (XC := fun sz => (kXC out D cI cZ cO ad (kE ad cI cZ cO k mo) sz)) (lv := [(0, .ref (ad 0)), (1, .int v1)]) hst (by decide +kernel) (Nat.le_of_ble_eq_true rfl) rfl (fun p e s mm below meth c ls V XV hH hl => ?_) sz
  exact w_X5_needLand_0 V XV hH (lv_sub hl [0, 1] rfl) hf
end
section
variable {p : Program} {l : Launch} {e : Env} {s : State} {mm : MethodId} {args : Array Value} {below : List Frame} {meth : Method} {c : Code} {D : va_G} {cI cZ cO : ClassId} {ad : Nat → Nat}
abbrev rm_X5_setLaw : Room := { frames := 7, cells := 4, slots := 24, locals := 121 }
set_option maxHeartbeats 4000000 in
set_option maxRecDepth 100000 in
theorem w_X5_setLaw_0 (V : kV p s mm args meth c cX5_setLaw RX5 4 (some .int) D cI cZ cO) {mo : kS} (XV : kVX l s ad c) {v1 : Int32} {v2 : Int32} {k : kS} {H : Heap} {locs : List Loc} {ls : Array Slot} {out : ((Nat × Int32) × kS)} (hH : kHE s H locs D ad cI cZ cO k mo []) (hl : lv_has ls 4 [(0, .ref (ad 0)), (1, .int v1), (2, .int v2)]) (hf : F_X5_setLaw_0 v1 v2 k = some out) : W p l e rm_X5_setLaw s mm args below meth c H locs 0 0 (kGXi below args s D cI cZ cO ad out.1.1 out.1.2 out.2 mo 4 24) (F0 mm 0 ls []) := by
  have hx := V.1
  have hb := V.2.1
  refine lv_aload_n hx hb dX5_setLaw_0 rfl (lv_at hl 0 rfl) ?_
  refine lv_iload_n hx hb dX5_setLaw_1 rfl (lv_at hl 1 rfl) ?_
  obtain ⟨x0_1, hx0_1, hf⟩ := kbind hf
  refine kx_callv hH (kx_runV (as := [.int v1]) (rest := []) (pl := 0) V XV.2.1 hH kYX5_needLand kl_X5_95 (c_X5_needLand l XV.1 _ hx0_1 _) rfl rfl ⟨Nat.le_of_ble_eq_true rfl, Nat.le_of_ble_eq_true rfl⟩ (by decide) kE_0 rfl rfl hl.1 (Nat.le_of_ble_eq_true rfl) dX5_setLaw_2 ⟨Nat.le_of_ble_eq_true rfl, Nat.le_of_ble_eq_true rfl⟩ rfl) (fun h0 En ce q9 H1 locs1 hE hH hcell hv hcl => by have hf := kneg h0 hf; cases hf; exact kx_prop V XV hH h0 hE hcell hv hcl (by decide) (by decide)) (fun h0 H locs hH => ?_)
  have hf := kpos h0 hf
  refine lv_iload_n hx hb dX5_setLaw_5 rfl (lv_at hl 2 rfl) ?_
  obtain ⟨x0_2, hx0_2, hf⟩ := kbind hf
  refine kx_callv hH (kx_runS (as := [.int v2]) (rest := []) V XV.2.1 hH kYX5_needLaw kl_X5_78 (c_X5_needLaw l XV.1 _ hx0_2 _) rfl rfl ⟨Nat.le_of_ble_eq_true rfl, Nat.le_of_ble_eq_true rfl⟩ rfl hl.1 (Nat.le_of_ble_eq_true rfl) dX5_setLaw_6 ⟨Nat.le_of_ble_eq_true rfl, Nat.le_of_ble_eq_true rfl⟩ rfl) (fun h0 En ce q9 H1 locs1 hE hH hcell hv hcl => by have hf := kneg h0 hf; cases hf; exact kx_prop V XV hH h0 hE hcell hv hcl (by decide) (by decide)) (fun h0 H locs hH => ?_)
  have hf := kpos h0 hf
  refine lv_aload_n hx hb dX5_setLaw_9 rfl (lv_at hl 0 rfl) ?_
  refine kg_X5_21 V hH dX5_setLaw_10 ?_
  refine kg_X5_81 k15 V hH dX5_setLaw_13 ?_
  refine kg_X5_98 k15 V hH dX5_setLaw_16 ?_
  refine lv_iload_n hx hb dX5_setLaw_19 rfl (lv_at hl 1 rfl) ?_
  obtain ⟨h0_3, hf⟩ := kif hf
  refine kr_iald V hH (q := (15 + 3)) (kq_w k15 (by decide)) (kE_w3 k15) h0_3 dX5_setLaw_20 ?_
  refine lv_istore_n (lv' := [(3, .int (k (15 + 3) v1.toNatClampNeg)), (0, .ref (ad 0)), (1, .int v1), (2, .int v2)]) hx hb dX5_setLaw_21 rfl hl (by decide) rfl (fun ls hl => ?_)
  refine lv_aload_n hx hb dX5_setLaw_22 rfl (lv_at hl 1 rfl) ?_
  refine kg_X5_21 V hH dX5_setLaw_23 ?_
  refine kg_X5_81 k15 V hH dX5_setLaw_26 ?_
  refine kg_X5_98 k15 V hH dX5_setLaw_29 ?_
  refine lv_iload_n hx hb dX5_setLaw_32 rfl (lv_at hl 2 rfl) ?_
  refine lv_iload_n hx hb dX5_setLaw_33 rfl (lv_at hl 3 rfl) ?_
  obtain ⟨h0_4, hf⟩ := kif hf
  refine kr_iastK V hH (q := (15 + 3)) (kq_w k15 (by decide)) (fun _ => (kE_w3 k15)) h0_4 dX5_setLaw_34 (fun H locs hH => ?_)
  refine lv_iload_n hx hb dX5_setLaw_35 rfl (lv_at hl 0 rfl) ?_
  cases hf
  exact kx_iret V hH (by decide) (by decide) dX5_setLaw_36
set_option maxHeartbeats 4000000 in
set_option maxRecDepth 100000 in
theorem c_X5_setLaw (l : Launch) (hst : l.stackTraces = false) {D : va_G} {cI cZ cO : ClassId} {ad : Nat → Nat} {k mo : kS} (v1 : Int32) (v2 : Int32) {out : ((Nat × Int32) × kS)} (hf : F_X5_setLaw v1 v2 k = some out) (sz : Nat) : vx_Met l yX5_setLaw (Cond.code yX5_setLaw cX5_setLaw 4 (some .int) :: kWA) rm_X5_setLaw (kPX [.ref (ad 0), .int v1, .int v2] D cI cZ cO ad (kE ad cI cZ cO k mo) sz) (kXi out.1.1 out.1.2 D cI cZ cO ad (kE ad cI cZ cO out.2 mo) sz) (kXC out.1.1 D cI cZ cO ad (kE ad cI cZ cO out.2 mo) sz) 4 24 (fA ad sz) := by
  refine kx_met (as := [.ref (ad 0), .int v1, .int v2]) (bytes := cX5_setLaw) (maxL := 4) (rt := (some .int)) (Qc := fun sz => (kXi out.1.1 out.1.2 D cI cZ cO ad (kE ad cI cZ cO out.2 mo) sz)) (XC := fun sz => (kXC out.1.1 D cI cZ cO ad (kE ad cI cZ cO out.2 mo) sz)) (lv := [(0, .ref (ad 0)), (1, .int v1), (2, .int v2)]) hst (by decide +kernel) (Nat.le_of_ble_eq_true rfl) rfl (fun p e s mm below meth c ls V XV hH hl => ?_) sz
  exact w_X5_setLaw_0 V XV hH (lv_sub hl [0, 1, 2] rfl) hf
end
section
variable {p : Program} {l : Launch} {e : Env} {s : State} {mm : MethodId} {args : Array Value} {below : List Frame} {meth : Method} {c : Code} {D : va_G} {cI cZ cO : ClassId} {ad : Nat → Nat}
abbrev rm_X5_marry : Room := { frames := 7, cells := 4, slots := 24, locals := 121 }
set_option maxHeartbeats 4000000 in
set_option maxRecDepth 100000 in
theorem w_X5_marry_32 (V : kV p s mm args meth c cX5_marry RX5 5 (some .int) D cI cZ cO) {mo : kS} (XV : kVX l s ad c) {k : kS} {H : Heap} {locs : List Loc} {ls : Array Slot} {out : ((Nat × Int32) × kS)} (hH : kHE s H locs D ad cI cZ cO k mo []) (hl : lv_has ls 5 []) (hf : F_X5_marry_32 k = some out) : W p l e rm_X5_marry s mm args below meth c H locs 3 18 (kGXi below args s D cI cZ cO ad out.1.1 out.1.2 out.2 mo 4 24) (F0 mm 32 ls []) := by
  have hx := V.1
  have hb := V.2.1
  cases hf
  exact kx_throw (code := 2) (text := "these two can\'t marry") V XV hH hl.1 (by decide) (by decide +kernel) kc_X5_39 kz_IllegalStateException kXg2 kXn2 kXo2 (by decide +kernel) dX5_marry_32 dX5_marry_35 dX5_marry_36 dX5_marry_38 dX5_marry_41 (by decide) (by decide) (by decide) (by decide) (by decide) (by decide)
set_option maxHeartbeats 4000000 in
set_option maxRecDepth 100000 in
theorem w_X5_marry_72 (V : kV p s mm args meth c cX5_marry RX5 5 (some .int) D cI cZ cO) {mo : kS} (XV : kVX l s ad c) {k : kS} {H : Heap} {locs : List Loc} {ls : Array Slot} {out : ((Nat × Int32) × kS)} (hH : kHE s H locs D ad cI cZ cO k mo []) (hl : lv_has ls 5 []) (hf : F_X5_marry_72 k = some out) : W p l e rm_X5_marry s mm args below meth c H locs 3 18 (kGXi below args s D cI cZ cO ad out.1.1 out.1.2 out.2 mo 4 24) (F0 mm 72 ls []) := by
  have hx := V.1
  have hb := V.2.1
  cases hf
  exact kx_throw (code := 2) (text := "neither rules the land") V XV hH hl.1 (by decide) (by decide +kernel) kc_X5_39 kz_IllegalStateException kXg2 kXn2 kXo2 (by decide +kernel) dX5_marry_72 dX5_marry_75 dX5_marry_76 dX5_marry_78 dX5_marry_81 (by decide) (by decide) (by decide) (by decide) (by decide) (by decide)
set_option maxHeartbeats 4000000 in
set_option maxRecDepth 100000 in
theorem w_X5_marry_82 (V : kV p s mm args meth c cX5_marry RX5 5 (some .int) D cI cZ cO) {mo : kS} (XV : kVX l s ad c) {v1 : Int32} {v2 : Int32} {v3 : Int32} {k : kS} {H : Heap} {locs : List Loc} {ls : Array Slot} {out : ((Nat × Int32) × kS)} (hH : kHE s H locs D ad cI cZ cO k mo []) (hl : lv_has ls 5 [(0, .ref (ad 0)), (1, .int v1), (2, .int v2), (3, .int v3)]) (hf : F_X5_marry_82 v1 v2 v3 k = some out) : W p l e rm_X5_marry s mm args below meth c H locs 3 18 (kGXi below args s D cI cZ cO ad out.1.1 out.1.2 out.2 mo 4 24) (F0 mm 82 ls []) := by
  have hx := V.1
  have hb := V.2.1
  refine lv_aload_n hx hb dX5_marry_82 rfl (lv_at hl 0 rfl) ?_
  refine kg_X5_21 V hH dX5_marry_83 ?_
  refine lv_iload_n hx hb dX5_marry_86 rfl (lv_at hl 1 rfl) ?_
  refine lv_iload_n hx hb dX5_marry_87 rfl (lv_at hl 2 rfl) ?_
  refine lv_iload_n hx hb dX5_marry_88 rfl (lv_at hl 3 rfl) ?_
  obtain ⟨x82_1, hx82_1, hf⟩ := kbind hf
  refine kr_callv0 hH (kr_runV (as := [.int v1, .int v2, .int v3]) (rest := []) (pl := 15) V hH kYX4_wed kl_X5_113 (c_X4_wed l k15 _ _ _ hx82_1 _) rfl rfl ⟨Nat.le_of_ble_eq_true rfl, Nat.le_of_ble_eq_true rfl⟩ (kq_B k15) (kE_w0 k15) rfl rfl hl.1 (Nat.le_of_ble_eq_true rfl) dX5_marry_89 ⟨Nat.le_of_ble_eq_true rfl, Nat.le_of_ble_eq_true rfl⟩ rfl) (fun H locs hH => ?_)
  refine lv_aload_n hx hb dX5_marry_92 rfl (lv_at hl 0 rfl) ?_
  refine kg_X5_21 V hH dX5_marry_93 ?_
  refine kg_X5_81 k15 V hH dX5_marry_96 ?_
  refine lv_iload_n hx hb dX5_marry_99 rfl (lv_at hl 1 rfl) ?_
  obtain ⟨x82_2, hx82_2, hf⟩ := kbind hf
  refine kr_calli0 hH (kr_runV (as := [.int v1]) (rest := []) (pl := (15 + 1)) V hH kYX1_worthUnder kl_X5_117 (c_X1_worthUnder l k15 _ hx82_2 _) rfl rfl ⟨Nat.le_of_ble_eq_true rfl, Nat.le_of_ble_eq_true rfl⟩ (kq_w k15 (by decide)) (kE_w1 k15) rfl rfl hl.1 (Nat.le_of_ble_eq_true rfl) dX5_marry_100 ⟨Nat.le_of_ble_eq_true rfl, Nat.le_of_ble_eq_true rfl⟩ rfl) (fun H locs hH => ?_)
  refine lv_aload_n hx hb dX5_marry_103 rfl (lv_at hl 0 rfl) ?_
  refine kg_X5_21 V hH dX5_marry_104 ?_
  refine kg_X5_81 k15 V hH dX5_marry_107 ?_
  refine lv_iload_n hx hb dX5_marry_110 rfl (lv_at hl 2 rfl) ?_
  obtain ⟨x82_3, hx82_3, hf⟩ := kbind hf
  refine kr_calli0 hH (kr_runV (as := [.int v2]) (rest := [.int x82_2]) (pl := (15 + 1)) V hH kYX1_worthUnder kl_X5_117 (c_X1_worthUnder l k15 _ hx82_3 _) rfl rfl ⟨Nat.le_of_ble_eq_true rfl, Nat.le_of_ble_eq_true rfl⟩ (kq_w k15 (by decide)) (kE_w1 k15) rfl rfl hl.1 (Nat.le_of_ble_eq_true rfl) dX5_marry_111 ⟨Nat.le_of_ble_eq_true rfl, Nat.le_of_ble_eq_true rfl⟩ rfl) (fun H locs hH => ?_)
  refine lv_iadd hx hb dX5_marry_114 ?_
  cases hf
  exact kx_iret V hH (by decide) (by decide) dX5_marry_115
set_option maxHeartbeats 4000000 in
set_option maxRecDepth 100000 in
theorem w_X5_marry_66 (V : kV p s mm args meth c cX5_marry RX5 5 (some .int) D cI cZ cO) {mo : kS} (XV : kVX l s ad c) {v1 : Int32} {v2 : Int32} {v3 : Int32} {v4 : Int32} {k : kS} {H : Heap} {locs : List Loc} {ls : Array Slot} {out : ((Nat × Int32) × kS)} (hH : kHE s H locs D ad cI cZ cO k mo []) (hl : lv_has ls 5 [(0, .ref (ad 0)), (1, .int v1), (2, .int v2), (3, .int v3), (4, .int v4)]) (hf : F_X5_marry_66 v1 v2 v3 v4 k = some out) : W p l e rm_X5_marry s mm args below meth c H locs 3 18 (kGXi below args s D cI cZ cO ad out.1.1 out.1.2 out.2 mo 4 24) (F0 mm 66 ls []) := by
  have hx := V.1
  have hb := V.2.1
  refine lv_iload hx hb dX5_marry_66 (lv_at hl 4 rfl) ?_
  refine lv_iload_n hx hb dX5_marry_68 rfl (lv_at hl 2 rfl) ?_
  refine lv_icmp_eq (tgt := 82) hx hb dX5_marry_69 (by decide) (fun hq => ?_) (fun hq => ?_)
  · have hf := kpos hq hf
    refine W.widen (k := 3) (n := 18) (by decide) (by decide) ?_
    exact w_X5_marry_82 V XV hH (lv_sub hl [0, 1, 2, 3] rfl) hf
  · have hf := kneg hq hf
    refine W.widen (k := 3) (n := 18) (by decide) (by decide) ?_
    exact w_X5_marry_72 V XV hH (lv_sub hl [] rfl) hf
set_option maxHeartbeats 4000000 in
set_option maxRecDepth 100000 in
theorem w_X5_marry_60 (V : kV p s mm args meth c cX5_marry RX5 5 (some .int) D cI cZ cO) {mo : kS} (XV : kVX l s ad c) {v1 : Int32} {v2 : Int32} {v3 : Int32} {v4 : Int32} {k : kS} {H : Heap} {locs : List Loc} {ls : Array Slot} {out : ((Nat × Int32) × kS)} (hH : kHE s H locs D ad cI cZ cO k mo []) (hl : lv_has ls 5 [(0, .ref (ad 0)), (1, .int v1), (2, .int v2), (3, .int v3), (4, .int v4)]) (hf : F_X5_marry_60 v1 v2 v3 v4 k = some out) : W p l e rm_X5_marry s mm args below meth c H locs 3 18 (kGXi below args s D cI cZ cO ad out.1.1 out.1.2 out.2 mo 4 24) (F0 mm 60 ls []) := by
  have hx := V.1
  have hb := V.2.1
  refine lv_iload hx hb dX5_marry_60 (lv_at hl 4 rfl) ?_
  refine lv_iload_n hx hb dX5_marry_62 rfl (lv_at hl 1 rfl) ?_
  refine lv_icmp_eq (tgt := 82) hx hb dX5_marry_63 (by decide) (fun hq => ?_) (fun hq => ?_)
  · have hf := kpos hq hf
    refine W.widen (k := 3) (n := 18) (by decide) (by decide) ?_
    exact w_X5_marry_82 V XV hH (lv_sub hl [0, 1, 2, 3] rfl) hf
  · have hf := kneg hq hf
    refine W.widen (k := 3) (n := 18) (by decide) (by decide) ?_
    exact w_X5_marry_66 V XV hH (lv_sub hl [0, 1, 2, 3, 4] rfl) hf
set_option maxHeartbeats 4000000 in
set_option maxRecDepth 100000 in
theorem w_X5_marry_42 (V : kV p s mm args meth c cX5_marry RX5 5 (some .int) D cI cZ cO) {mo : kS} (XV : kVX l s ad c) {v1 : Int32} {v2 : Int32} {v3 : Int32} {k : kS} {H : Heap} {locs : List Loc} {ls : Array Slot} {out : ((Nat × Int32) × kS)} (hH : kHE s H locs D ad cI cZ cO k mo []) (hl : lv_has ls 5 [(0, .ref (ad 0)), (1, .int v1), (2, .int v2), (3, .int v3)]) (hf : F_X5_marry_42 v1 v2 v3 k = some out) : W p l e rm_X5_marry s mm args below meth c H locs 3 18 (kGXi below args s D cI cZ cO ad out.1.1 out.1.2 out.2 mo 4 24) (F0 mm 42 ls []) := by
  have hx := V.1
  have hb := V.2.1
  refine lv_aload_n hx hb dX5_marry_42 rfl (lv_at hl 0 rfl) ?_
  refine kg_X5_21 V hH dX5_marry_43 ?_
  refine kg_X5_81 k15 V hH dX5_marry_46 ?_
  refine lv_iload_n hx hb dX5_marry_49 rfl (lv_at hl 3 rfl) ?_
  obtain ⟨x42_1, hx42_1, hf⟩ := kbind hf
  refine kr_calli0 hH (kr_runV (as := [.int v3]) (rest := []) (pl := (15 + 1)) V hH kYX1_rulerOf kl_X5_108 (c_X1_rulerOf l k15 _ hx42_1 _) rfl rfl ⟨Nat.le_of_ble_eq_true rfl, Nat.le_of_ble_eq_true rfl⟩ (kq_w k15 (by decide)) (kE_w1 k15) rfl rfl hl.1 (Nat.le_of_ble_eq_true rfl) dX5_marry_50 ⟨Nat.le_of_ble_eq_true rfl, Nat.le_of_ble_eq_true rfl⟩ rfl) (fun H locs hH => ?_)
  refine lv_istore (lv' := [(4, .int x42_1), (0, .ref (ad 0)), (1, .int v1), (2, .int v2), (3, .int v3)]) hx hb dX5_marry_53 hl (by decide) rfl (fun ls hl => ?_)
  refine lv_iload_n hx hb dX5_marry_55 rfl (lv_at hl 4 rfl) ?_
  refine lv_iconst (v := (-1)) hx hb dX5_marry_56 (by decide) ?_
  refine lv_icmp_eq (tgt := 82) hx hb dX5_marry_57 (by decide) (fun hq => ?_) (fun hq => ?_)
  · have hf := kpos hq hf
    refine W.widen (k := 3) (n := 18) (by decide) (by decide) ?_
    exact w_X5_marry_82 V XV hH (lv_sub hl [1, 2, 3, 4] rfl) hf
  · have hf := kneg hq hf
    refine W.widen (k := 3) (n := 18) (by decide) (by decide) ?_
    exact w_X5_marry_60 V XV hH (lv_sub hl [1, 2, 3, 4, 0] rfl) hf
set_option maxHeartbeats 4000000 in
set_option maxRecDepth 100000 in
theorem w_X5_marry_20 (V : kV p s mm args meth c cX5_marry RX5 5 (some .int) D cI cZ cO) {mo : kS} (XV : kVX l s ad c) {v1 : Int32} {v2 : Int32} {v3 : Int32} {k : kS} {H : Heap} {locs : List Loc} {ls : Array Slot} {out : ((Nat × Int32) × kS)} (hH : kHE s H locs D ad cI cZ cO k mo []) (hl : lv_has ls 5 [(0, .ref (ad 0)), (1, .int v1), (2, .int v2), (3, .int v3)]) (hf : F_X5_marry_20 v1 v2 v3 k = some out) : W p l e rm_X5_marry s mm args below meth c H locs 3 18 (kGXi below args s D cI cZ cO ad out.1.1 out.1.2 out.2 mo 4 24) (F0 mm 20 ls []) := by
  have hx := V.1
  have hb := V.2.1
  refine lv_aload_n hx hb dX5_marry_20 rfl (lv_at hl 0 rfl) ?_
  refine kg_X5_21 V hH dX5_marry_21 ?_
  refine lv_iload_n hx hb dX5_marry_24 rfl (lv_at hl 1 rfl) ?_
  refine lv_iload_n hx hb dX5_marry_25 rfl (lv_at hl 2 rfl) ?_
  obtain ⟨x20_1, hx20_1, hf⟩ := kbind hf
  refine kr_calli0 hH (kr_runV (as := [.int v1, .int v2]) (rest := []) (pl := 15) V hH kYX4_mayMarry kl_X5_102 (c_X4_mayMarry l k15 _ _ hx20_1 _) rfl rfl ⟨Nat.le_of_ble_eq_true rfl, Nat.le_of_ble_eq_true rfl⟩ (kq_B k15) (kE_w0 k15) rfl rfl hl.1 (Nat.le_of_ble_eq_true rfl) dX5_marry_26 ⟨Nat.le_of_ble_eq_true rfl, Nat.le_of_ble_eq_true rfl⟩ rfl) (fun H locs hH => ?_)
  refine lv_if_ne (tgt := 42) hx hb dX5_marry_29 (by decide) (fun hq => ?_) (fun hq => ?_)
  · have hf := kneg hq hf
    refine W.widen (k := 3) (n := 18) (by decide) (by decide) ?_
    exact w_X5_marry_42 V XV hH (lv_sub hl [0, 1, 2, 3] rfl) hf
  · have hf := kpos hq hf
    refine W.widen (k := 3) (n := 18) (by decide) (by decide) ?_
    exact w_X5_marry_32 V XV hH (lv_sub hl [] rfl) hf
set_option maxHeartbeats 4000000 in
set_option maxRecDepth 100000 in
theorem w_X5_marry_15 (V : kV p s mm args meth c cX5_marry RX5 5 (some .int) D cI cZ cO) {mo : kS} (XV : kVX l s ad c) {v1 : Int32} {v2 : Int32} {v3 : Int32} {k : kS} {H : Heap} {locs : List Loc} {ls : Array Slot} {out : ((Nat × Int32) × kS)} (hH : kHE s H locs D ad cI cZ cO k mo []) (hl : lv_has ls 5 [(0, .ref (ad 0)), (1, .int v1), (2, .int v2), (3, .int v3)]) (hf : F_X5_marry_15 v1 v2 v3 k = some out) : W p l e rm_X5_marry s mm args below meth c H locs 2 12 (kGXi below args s D cI cZ cO ad out.1.1 out.1.2 out.2 mo 4 24) (F0 mm 15 ls []) := by
  have hx := V.1
  have hb := V.2.1
  refine lv_aload_n hx hb dX5_marry_15 rfl (lv_at hl 0 rfl) ?_
  refine lv_iload_n hx hb dX5_marry_16 rfl (lv_at hl 3 rfl) ?_
  obtain ⟨x15_1, hx15_1, hf⟩ := kbind hf
  refine kx_callv hH (kx_runV (as := [.int v3]) (rest := []) (pl := 0) V XV.2.1 hH kYX5_needLand kl_X5_95 (c_X5_needLand l XV.1 _ hx15_1 _) rfl rfl ⟨Nat.le_of_ble_eq_true rfl, Nat.le_of_ble_eq_true rfl⟩ (by decide) kE_0 rfl rfl hl.1 (Nat.le_of_ble_eq_true rfl) dX5_marry_17 ⟨Nat.le_of_ble_eq_true rfl, Nat.le_of_ble_eq_true rfl⟩ rfl) (fun h0 En ce q9 H1 locs1 hE hH hcell hv hcl => by have hf := kneg h0 hf; cases hf; exact kx_prop V XV hH h0 hE hcell hv hcl (by decide) (by decide)) (fun h0 H locs hH => ?_)
  have hf := kpos h0 hf
  refine W.widen (k := 3) (n := 18) (by decide) (by decide) ?_
  exact w_X5_marry_20 V XV hH (lv_sub hl [0, 1, 2, 3] rfl) hf
set_option maxHeartbeats 4000000 in
set_option maxRecDepth 100000 in
theorem w_X5_marry_0 (V : kV p s mm args meth c cX5_marry RX5 5 (some .int) D cI cZ cO) {mo : kS} (XV : kVX l s ad c) {v1 : Int32} {v2 : Int32} {v3 : Int32} {k : kS} {H : Heap} {locs : List Loc} {ls : Array Slot} {out : ((Nat × Int32) × kS)} (hH : kHE s H locs D ad cI cZ cO k mo []) (hl : lv_has ls 5 [(0, .ref (ad 0)), (1, .int v1), (2, .int v2), (3, .int v3)]) (hf : F_X5_marry_0 v1 v2 v3 k = some out) : W p l e rm_X5_marry s mm args below meth c H locs 0 0 (kGXi below args s D cI cZ cO ad out.1.1 out.1.2 out.2 mo 4 24) (F0 mm 0 ls []) := by
  have hx := V.1
  have hb := V.2.1
  refine lv_aload_n hx hb dX5_marry_0 rfl (lv_at hl 0 rfl) ?_
  refine lv_iload_n hx hb dX5_marry_1 rfl (lv_at hl 1 rfl) ?_
  obtain ⟨x0_1, hx0_1, hf⟩ := kbind hf
  refine kx_callv hH (kx_runV (as := [.int v1]) (rest := []) (pl := 0) V XV.2.1 hH kYX5_needPerson kl_X5_52 (c_X5_needPerson l XV.1 _ hx0_1 _) rfl rfl ⟨Nat.le_of_ble_eq_true rfl, Nat.le_of_ble_eq_true rfl⟩ (by decide) kE_0 rfl rfl hl.1 (Nat.le_of_ble_eq_true rfl) dX5_marry_2 ⟨Nat.le_of_ble_eq_true rfl, Nat.le_of_ble_eq_true rfl⟩ rfl) (fun h0 En ce q9 H1 locs1 hE hH hcell hv hcl => by have hf := kneg h0 hf; cases hf; exact kx_prop V XV hH h0 hE hcell hv hcl (by decide) (by decide)) (fun h0 H locs hH => ?_)
  have hf := kpos h0 hf
  refine lv_aload_n hx hb dX5_marry_5 rfl (lv_at hl 0 rfl) ?_
  refine lv_iload_n hx hb dX5_marry_6 rfl (lv_at hl 2 rfl) ?_
  obtain ⟨x0_2, hx0_2, hf⟩ := kbind hf
  refine kx_callv hH (kx_runV (as := [.int v2]) (rest := []) (pl := 0) V XV.2.1 hH kYX5_needPerson kl_X5_52 (c_X5_needPerson l XV.1 _ hx0_2 _) rfl rfl ⟨Nat.le_of_ble_eq_true rfl, Nat.le_of_ble_eq_true rfl⟩ (by decide) kE_0 rfl rfl hl.1 (Nat.le_of_ble_eq_true rfl) dX5_marry_7 ⟨Nat.le_of_ble_eq_true rfl, Nat.le_of_ble_eq_true rfl⟩ rfl) (fun h0 En ce q9 H1 locs1 hE hH hcell hv hcl => by have hf := kneg h0 hf; cases hf; exact kx_prop V XV hH h0 hE hcell hv hcl (by decide) (by decide)) (fun h0 H locs hH => ?_)
  have hf := kpos h0 hf
  refine lv_iload_n hx hb dX5_marry_10 rfl (lv_at hl 3 rfl) ?_
  refine lv_iconst (v := (-1)) hx hb dX5_marry_11 (by decide) ?_
  refine lv_icmp_eq (tgt := 20) hx hb dX5_marry_12 (by decide) (fun hq => ?_) (fun hq => ?_)
  · have hf := kpos hq hf
    refine W.widen (k := 3) (n := 18) (by decide) (by decide) ?_
    exact w_X5_marry_20 V XV hH (lv_sub hl [0, 1, 2, 3] rfl) hf
  · have hf := kneg hq hf
    refine W.widen (k := 2) (n := 12) (by decide) (by decide) ?_
    exact w_X5_marry_15 V XV hH (lv_sub hl [0, 1, 2, 3] rfl) hf
set_option maxHeartbeats 4000000 in
set_option maxRecDepth 100000 in
theorem c_X5_marry (l : Launch) (hst : l.stackTraces = false) {D : va_G} {cI cZ cO : ClassId} {ad : Nat → Nat} {k mo : kS} (v1 : Int32) (v2 : Int32) (v3 : Int32) {out : ((Nat × Int32) × kS)} (hf : F_X5_marry v1 v2 v3 k = some out) (sz : Nat) : vx_Met l yX5_marry (Cond.code yX5_marry cX5_marry 5 (some .int) :: kWA) rm_X5_marry (kPX [.ref (ad 0), .int v1, .int v2, .int v3] D cI cZ cO ad (kE ad cI cZ cO k mo) sz) (kXi out.1.1 out.1.2 D cI cZ cO ad (kE ad cI cZ cO out.2 mo) sz) (kXC out.1.1 D cI cZ cO ad (kE ad cI cZ cO out.2 mo) sz) 4 24 (fA ad sz) := by
  refine kx_met (as := [.ref (ad 0), .int v1, .int v2, .int v3]) (bytes := cX5_marry) (maxL := 5) (rt := (some .int)) (Qc := fun sz => (kXi out.1.1 out.1.2 D cI cZ cO ad (kE ad cI cZ cO out.2 mo) sz)) (XC := fun sz => (kXC out.1.1 D cI cZ cO ad (kE ad cI cZ cO out.2 mo) sz)) (lv := [(0, .ref (ad 0)), (1, .int v1), (2, .int v2), (3, .int v3)]) hst (by decide +kernel) (Nat.le_of_ble_eq_true rfl) rfl (fun p e s mm below meth c ls V XV hH hl => ?_) sz
  exact w_X5_marry_0 V XV hH (lv_sub hl [0, 1, 2, 3] rfl) hf
end
section
variable {p : Program} {l : Launch} {e : Env} {s : State} {mm : MethodId} {args : Array Value} {below : List Frame} {meth : Method} {c : Code} {D : va_G} {cI cZ cO : ClassId} {ad : Nat → Nat}
abbrev rm_X5_annul : Room := { frames := 7, cells := 4, slots := 24, locals := 121 }
set_option maxHeartbeats 4000000 in
set_option maxRecDepth 100000 in
theorem w_X5_annul_20 (V : kV p s mm args meth c cX5_annul RX5 2 (some .int) D cI cZ cO) {mo : kS} (XV : kVX l s ad c) {k : kS} {H : Heap} {locs : List Loc} {ls : Array Slot} {out : ((Nat × Int32) × kS)} (hH : kHE s H locs D ad cI cZ cO k mo []) (hl : lv_has ls 2 []) (hf : F_X5_annul_20 k = some out) : W p l e rm_X5_annul s mm args below meth c H locs 1 6 (kGXi below args s D cI cZ cO ad out.1.1 out.1.2 out.2 mo 4 24) (F0 mm 20 ls []) := by
  have hx := V.1
  have hb := V.2.1
  cases hf
  exact kx_throw (code := 2) (text := "this one is not married") V XV hH hl.1 (by decide) (by decide +kernel) kc_X5_39 kz_IllegalStateException kXg2 kXn2 kXo2 (by decide +kernel) dX5_annul_20 dX5_annul_23 dX5_annul_24 dX5_annul_26 dX5_annul_29 (by decide) (by decide) (by decide) (by decide) (by decide) (by decide)
set_option maxHeartbeats 4000000 in
set_option maxRecDepth 100000 in
theorem w_X5_annul_30 (V : kV p s mm args meth c cX5_annul RX5 2 (some .int) D cI cZ cO) {mo : kS} (XV : kVX l s ad c) {v1 : Int32} {k : kS} {H : Heap} {locs : List Loc} {ls : Array Slot} {out : ((Nat × Int32) × kS)} (hH : kHE s H locs D ad cI cZ cO k mo []) (hl : lv_has ls 2 [(0, .ref (ad 0)), (1, .int v1)]) (hf : F_X5_annul_30 v1 k = some out) : W p l e rm_X5_annul s mm args below meth c H locs 1 6 (kGXi below args s D cI cZ cO ad out.1.1 out.1.2 out.2 mo 4 24) (F0 mm 30 ls []) := by
  have hx := V.1
  have hb := V.2.1
  refine lv_aload_n hx hb dX5_annul_30 rfl (lv_at hl 0 rfl) ?_
  refine kg_X5_21 V hH dX5_annul_31 ?_
  refine lv_iload_n hx hb dX5_annul_34 rfl (lv_at hl 1 rfl) ?_
  obtain ⟨x30_1, hx30_1, hf⟩ := kbind hf
  refine kr_calli0 hH (kr_runV (as := [.int v1]) (rest := []) (pl := 15) V hH kYX4_separate kl_X5_122 (c_X4_separate l k15 _ hx30_1 _) rfl rfl ⟨Nat.le_of_ble_eq_true rfl, Nat.le_of_ble_eq_true rfl⟩ (kq_B k15) (kE_w0 k15) rfl rfl hl.1 (Nat.le_of_ble_eq_true rfl) dX5_annul_35 ⟨Nat.le_of_ble_eq_true rfl, Nat.le_of_ble_eq_true rfl⟩ rfl) (fun H locs hH => ?_)
  cases hf
  exact kx_iret V hH (by decide) (by decide) dX5_annul_38
set_option maxHeartbeats 4000000 in
set_option maxRecDepth 100000 in
theorem w_X5_annul_0 (V : kV p s mm args meth c cX5_annul RX5 2 (some .int) D cI cZ cO) {mo : kS} (XV : kVX l s ad c) {v1 : Int32} {k : kS} {H : Heap} {locs : List Loc} {ls : Array Slot} {out : ((Nat × Int32) × kS)} (hH : kHE s H locs D ad cI cZ cO k mo []) (hl : lv_has ls 2 [(0, .ref (ad 0)), (1, .int v1)]) (hf : F_X5_annul_0 v1 k = some out) : W p l e rm_X5_annul s mm args below meth c H locs 0 0 (kGXi below args s D cI cZ cO ad out.1.1 out.1.2 out.2 mo 4 24) (F0 mm 0 ls []) := by
  have hx := V.1
  have hb := V.2.1
  refine lv_aload_n hx hb dX5_annul_0 rfl (lv_at hl 0 rfl) ?_
  refine lv_iload_n hx hb dX5_annul_1 rfl (lv_at hl 1 rfl) ?_
  obtain ⟨x0_1, hx0_1, hf⟩ := kbind hf
  refine kx_callv hH (kx_runV (as := [.int v1]) (rest := []) (pl := 0) V XV.2.1 hH kYX5_needPerson kl_X5_52 (c_X5_needPerson l XV.1 _ hx0_1 _) rfl rfl ⟨Nat.le_of_ble_eq_true rfl, Nat.le_of_ble_eq_true rfl⟩ (by decide) kE_0 rfl rfl hl.1 (Nat.le_of_ble_eq_true rfl) dX5_annul_2 ⟨Nat.le_of_ble_eq_true rfl, Nat.le_of_ble_eq_true rfl⟩ rfl) (fun h0 En ce q9 H1 locs1 hE hH hcell hv hcl => by have hf := kneg h0 hf; cases hf; exact kx_prop V XV hH h0 hE hcell hv hcl (by decide) (by decide)) (fun h0 H locs hH => ?_)
  have hf := kpos h0 hf
  refine lv_aload_n hx hb dX5_annul_5 rfl (lv_at hl 0 rfl) ?_
  refine kg_X5_21 V hH dX5_annul_6 ?_
  refine kg_X5_56 k15 V hH dX5_annul_9 ?_
  refine lv_iload_n hx hb dX5_annul_12 rfl (lv_at hl 1 rfl) ?_
  obtain ⟨x0_2, hx0_2, hf⟩ := kbind hf
  refine kr_calli0 hH (kr_runV (as := [.int v1]) (rest := []) (pl := (15 + 8)) V hH kYX3_spouseOf kl_X5_60 (c_X3_spouseOf l k15 _ hx0_2 _) rfl rfl ⟨Nat.le_of_ble_eq_true rfl, Nat.le_of_ble_eq_true rfl⟩ (kq_w k15 (by decide)) (kE_w8 k15) rfl rfl hl.1 (Nat.le_of_ble_eq_true rfl) dX5_annul_13 ⟨Nat.le_of_ble_eq_true rfl, Nat.le_of_ble_eq_true rfl⟩ rfl) (fun H locs hH => ?_)
  refine lv_iconst (v := (-1)) hx hb dX5_annul_16 (by decide) ?_
  refine lv_icmp_ne (tgt := 30) hx hb dX5_annul_17 (by decide) (fun hq => ?_) (fun hq => ?_)
  · have hf := kneg hq hf
    refine W.widen (k := 1) (n := 6) (by decide) (by decide) ?_
    exact w_X5_annul_30 V XV hH (lv_sub hl [0, 1] rfl) hf
  · have hf := kpos hq hf
    refine W.widen (k := 1) (n := 6) (by decide) (by decide) ?_
    exact w_X5_annul_20 V XV hH (lv_sub hl [] rfl) hf
set_option maxHeartbeats 4000000 in
set_option maxRecDepth 100000 in
theorem c_X5_annul (l : Launch) (hst : l.stackTraces = false) {D : va_G} {cI cZ cO : ClassId} {ad : Nat → Nat} {k mo : kS} (v1 : Int32) {out : ((Nat × Int32) × kS)} (hf : F_X5_annul v1 k = some out) (sz : Nat) : vx_Met l yX5_annul (Cond.code yX5_annul cX5_annul 2 (some .int) :: kWA) rm_X5_annul (kPX [.ref (ad 0), .int v1] D cI cZ cO ad (kE ad cI cZ cO k mo) sz) (kXi out.1.1 out.1.2 D cI cZ cO ad (kE ad cI cZ cO out.2 mo) sz) (kXC out.1.1 D cI cZ cO ad (kE ad cI cZ cO out.2 mo) sz) 4 24 (fA ad sz) := by
  refine kx_met (as := [.ref (ad 0), .int v1]) (bytes := cX5_annul) (maxL := 2) (rt := (some .int)) (Qc := fun sz => (kXi out.1.1 out.1.2 D cI cZ cO ad (kE ad cI cZ cO out.2 mo) sz)) (XC := fun sz => (kXC out.1.1 D cI cZ cO ad (kE ad cI cZ cO out.2 mo) sz)) (lv := [(0, .ref (ad 0)), (1, .int v1)]) hst (by decide +kernel) (Nat.le_of_ble_eq_true rfl) rfl (fun p e s mm below meth c ls V XV hH hl => ?_) sz
  exact w_X5_annul_0 V XV hH (lv_sub hl [0, 1] rfl) hf
end
section
variable {p : Program} {l : Launch} {e : Env} {s : State} {mm : MethodId} {args : Array Value} {below : List Frame} {meth : Method} {c : Code} {D : va_G} {cI cZ cO : ClassId} {ad : Nat → Nat}
abbrev rm_X5_die : Room := { frames := 7, cells := 4, slots := 24, locals := 121 }
set_option maxHeartbeats 4000000 in
set_option maxRecDepth 100000 in
theorem w_X5_die_16 (V : kV p s mm args meth c cX5_die RX5 2 (some .int) D cI cZ cO) {mo : kS} (XV : kVX l s ad c) {k : kS} {H : Heap} {locs : List Loc} {ls : Array Slot} {out : ((Nat × Int32) × kS)} (hH : kHE s H locs D ad cI cZ cO k mo []) (hl : lv_has ls 2 []) (hf : F_X5_die_16 k = some out) : W p l e rm_X5_die s mm args below meth c H locs 1 6 (kGXi below args s D cI cZ cO ad out.1.1 out.1.2 out.2 mo 4 24) (F0 mm 16 ls []) := by
  have hx := V.1
  have hb := V.2.1
  cases hf
  exact kx_throw (code := 2) (text := "this one has died already") V XV hH hl.1 (by decide) (by decide +kernel) kc_X5_39 kz_IllegalStateException kXg2 kXn2 kXo2 (by decide +kernel) dX5_die_16 dX5_die_19 dX5_die_20 dX5_die_22 dX5_die_25 (by decide) (by decide) (by decide) (by decide) (by decide) (by decide)
set_option maxHeartbeats 4000000 in
set_option maxRecDepth 100000 in
theorem w_X5_die_26 (V : kV p s mm args meth c cX5_die RX5 2 (some .int) D cI cZ cO) {mo : kS} (XV : kVX l s ad c) {v1 : Int32} {k : kS} {H : Heap} {locs : List Loc} {ls : Array Slot} {out : ((Nat × Int32) × kS)} (hH : kHE s H locs D ad cI cZ cO k mo []) (hl : lv_has ls 2 [(0, .ref (ad 0)), (1, .int v1)]) (hf : F_X5_die_26 v1 k = some out) : W p l e rm_X5_die s mm args below meth c H locs 1 6 (kGXi below args s D cI cZ cO ad out.1.1 out.1.2 out.2 mo 4 24) (F0 mm 26 ls []) := by
  have hx := V.1
  have hb := V.2.1
  refine lv_aload_n hx hb dX5_die_26 rfl (lv_at hl 0 rfl) ?_
  refine kg_X5_21 V hH dX5_die_27 ?_
  refine lv_iload_n hx hb dX5_die_30 rfl (lv_at hl 1 rfl) ?_
  obtain ⟨x26_1, hx26_1, hf⟩ := kbind hf
  refine kr_calli0 hH (kr_runV (as := [.int v1]) (rest := []) (pl := 15) V hH kYX4_bury kl_X5_127 (c_X4_bury l k15 _ hx26_1 _) rfl rfl ⟨Nat.le_of_ble_eq_true rfl, Nat.le_of_ble_eq_true rfl⟩ (kq_B k15) (kE_w0 k15) rfl rfl hl.1 (Nat.le_of_ble_eq_true rfl) dX5_die_31 ⟨Nat.le_of_ble_eq_true rfl, Nat.le_of_ble_eq_true rfl⟩ rfl) (fun H locs hH => ?_)
  cases hf
  exact kx_iret V hH (by decide) (by decide) dX5_die_34
set_option maxHeartbeats 4000000 in
set_option maxRecDepth 100000 in
theorem w_X5_die_0 (V : kV p s mm args meth c cX5_die RX5 2 (some .int) D cI cZ cO) {mo : kS} (XV : kVX l s ad c) {v1 : Int32} {k : kS} {H : Heap} {locs : List Loc} {ls : Array Slot} {out : ((Nat × Int32) × kS)} (hH : kHE s H locs D ad cI cZ cO k mo []) (hl : lv_has ls 2 [(0, .ref (ad 0)), (1, .int v1)]) (hf : F_X5_die_0 v1 k = some out) : W p l e rm_X5_die s mm args below meth c H locs 0 0 (kGXi below args s D cI cZ cO ad out.1.1 out.1.2 out.2 mo 4 24) (F0 mm 0 ls []) := by
  have hx := V.1
  have hb := V.2.1
  refine lv_aload_n hx hb dX5_die_0 rfl (lv_at hl 0 rfl) ?_
  refine lv_iload_n hx hb dX5_die_1 rfl (lv_at hl 1 rfl) ?_
  obtain ⟨x0_1, hx0_1, hf⟩ := kbind hf
  refine kx_callv hH (kx_runV (as := [.int v1]) (rest := []) (pl := 0) V XV.2.1 hH kYX5_needPerson kl_X5_52 (c_X5_needPerson l XV.1 _ hx0_1 _) rfl rfl ⟨Nat.le_of_ble_eq_true rfl, Nat.le_of_ble_eq_true rfl⟩ (by decide) kE_0 rfl rfl hl.1 (Nat.le_of_ble_eq_true rfl) dX5_die_2 ⟨Nat.le_of_ble_eq_true rfl, Nat.le_of_ble_eq_true rfl⟩ rfl) (fun h0 En ce q9 H1 locs1 hE hH hcell hv hcl => by have hf := kneg h0 hf; cases hf; exact kx_prop V XV hH h0 hE hcell hv hcl (by decide) (by decide)) (fun h0 H locs hH => ?_)
  have hf := kpos h0 hf
  refine lv_aload_n hx hb dX5_die_5 rfl (lv_at hl 0 rfl) ?_
  refine kg_X5_21 V hH dX5_die_6 ?_
  refine lv_iload_n hx hb dX5_die_9 rfl (lv_at hl 1 rfl) ?_
  obtain ⟨x0_2, hx0_2, hf⟩ := kbind hf
  refine kr_calli0 hH (kr_runV (as := [.int v1]) (rest := []) (pl := 15) V hH kYX4_lives kl_X5_70 (c_X4_lives l k15 _ hx0_2 _) rfl rfl ⟨Nat.le_of_ble_eq_true rfl, Nat.le_of_ble_eq_true rfl⟩ (kq_B k15) (kE_w0 k15) rfl rfl hl.1 (Nat.le_of_ble_eq_true rfl) dX5_die_10 ⟨Nat.le_of_ble_eq_true rfl, Nat.le_of_ble_eq_true rfl⟩ rfl) (fun H locs hH => ?_)
  refine lv_if_ne (tgt := 26) hx hb dX5_die_13 (by decide) (fun hq => ?_) (fun hq => ?_)
  · have hf := kneg hq hf
    refine W.widen (k := 1) (n := 6) (by decide) (by decide) ?_
    exact w_X5_die_26 V XV hH (lv_sub hl [0, 1] rfl) hf
  · have hf := kpos hq hf
    refine W.widen (k := 1) (n := 6) (by decide) (by decide) ?_
    exact w_X5_die_16 V XV hH (lv_sub hl [] rfl) hf
set_option maxHeartbeats 4000000 in
set_option maxRecDepth 100000 in
theorem c_X5_die (l : Launch) (hst : l.stackTraces = false) {D : va_G} {cI cZ cO : ClassId} {ad : Nat → Nat} {k mo : kS} (v1 : Int32) {out : ((Nat × Int32) × kS)} (hf : F_X5_die v1 k = some out) (sz : Nat) : vx_Met l yX5_die (Cond.code yX5_die cX5_die 2 (some .int) :: kWA) rm_X5_die (kPX [.ref (ad 0), .int v1] D cI cZ cO ad (kE ad cI cZ cO k mo) sz) (kXi out.1.1 out.1.2 D cI cZ cO ad (kE ad cI cZ cO out.2 mo) sz) (kXC out.1.1 D cI cZ cO ad (kE ad cI cZ cO out.2 mo) sz) 4 24 (fA ad sz) := by
  refine kx_met (as := [.ref (ad 0), .int v1]) (bytes := cX5_die) (maxL := 2) (rt := (some .int)) (Qc := fun sz => (kXi out.1.1 out.1.2 D cI cZ cO ad (kE ad cI cZ cO out.2 mo) sz)) (XC := fun sz => (kXC out.1.1 D cI cZ cO ad (kE ad cI cZ cO out.2 mo) sz)) (lv := [(0, .ref (ad 0)), (1, .int v1)]) hst (by decide +kernel) (Nat.le_of_ble_eq_true rfl) rfl (fun p e s mm below meth c ls V XV hH hl => ?_) sz
  exact w_X5_die_0 V XV hH (lv_sub hl [0, 1] rfl) hf
end
section
variable {p : Program} {l : Launch} {e : Env} {s : State} {mm : MethodId} {args : Array Value} {below : List Frame} {meth : Method} {c : Code} {D : va_G} {cI cZ cO : ClassId} {ad : Nat → Nat}
abbrev rm_X5_needBelow : Room := { frames := 6, cells := 1, slots := 6, locals := 100 }
set_option maxHeartbeats 4000000 in
set_option maxRecDepth 100000 in
theorem w_X5_needBelow_9 (V : kV p s mm args meth c cX5_needBelow RX5 2 none D cI cZ cO) {k mo : kS} (XV : kVX l s ad c) {H : Heap} {locs : List Loc} {ls : Array Slot} {out : Nat} (hH : kHE s H locs D ad cI cZ cO k mo []) (hl : lv_has ls 2 []) (hf : F_X5_needBelow_9 k = some out) : W p l e rm_X5_needBelow s mm args below meth c H locs 0 0 (kGXv below args s D cI cZ cO ad out k mo 1 6) (F0 mm 9 ls []) := by
  have hx := V.1
  have hb := V.2.1
  cases hf
  exact kx_throw (code := 3) (text := "there is nothing of that number") V XV hH hl.1 (by decide) (by decide +kernel) kc_X5_191 kz_IndexOutOfBoundsException kXg3 kXn3 kXo3 (by decide +kernel) dX5_needBelow_9 dX5_needBelow_12 dX5_needBelow_13 dX5_needBelow_15 dX5_needBelow_18 (by decide) (by decide) (by decide) (by decide) (by decide) (by decide)
set_option maxHeartbeats 4000000 in
set_option maxRecDepth 100000 in
theorem w_X5_needBelow_19 (V : kV p s mm args meth c cX5_needBelow RX5 2 none D cI cZ cO) {k mo : kS} (XV : kVX l s ad c) {H : Heap} {locs : List Loc} {ls : Array Slot} {out : Nat} (hH : kHE s H locs D ad cI cZ cO k mo []) (hl : lv_has ls 2 []) (hf : F_X5_needBelow_19 k = some out) : W p l e rm_X5_needBelow s mm args below meth c H locs 0 0 (kGXv below args s D cI cZ cO ad out k mo 1 6) (F0 mm 19 ls []) := by
  have hx := V.1
  have hb := V.2.1
  cases hf
  exact kx_vret V hH (by decide) (by decide) dX5_needBelow_19
set_option maxHeartbeats 4000000 in
set_option maxRecDepth 100000 in
theorem w_X5_needBelow_4 (V : kV p s mm args meth c cX5_needBelow RX5 2 none D cI cZ cO) {k mo : kS} (XV : kVX l s ad c) {v0 : Int32} {v1 : Int32} {H : Heap} {locs : List Loc} {ls : Array Slot} {out : Nat} (hH : kHE s H locs D ad cI cZ cO k mo []) (hl : lv_has ls 2 [(0, .int v0), (1, .int v1)]) (hf : F_X5_needBelow_4 k v0 v1 = some out) : W p l e rm_X5_needBelow s mm args below meth c H locs 0 0 (kGXv below args s D cI cZ cO ad out k mo 1 6) (F0 mm 4 ls []) := by
  have hx := V.1
  have hb := V.2.1
  refine lv_iload_n hx hb dX5_needBelow_4 rfl (lv_at hl 0 rfl) ?_
  refine lv_iload_n hx hb dX5_needBelow_5 rfl (lv_at hl 1 rfl) ?_
  refine lv_icmp_lt (tgt := 19) hx hb dX5_needBelow_6 (by decide) (fun hq => ?_) (fun hq => ?_)
  · have hf := kpos hq hf
    refine W.widen (k := 0) (n := 0) (by decide) (by decide) ?_
    exact w_X5_needBelow_19 V XV hH (lv_sub hl [] rfl) hf
  · have hf := kneg hq hf
    refine W.widen (k := 0) (n := 0) (by decide) (by decide) ?_
    exact w_X5_needBelow_9 V XV hH (lv_sub hl [] rfl) hf
set_option maxHeartbeats 4000000 in
set_option maxRecDepth 100000 in
theorem w_X5_needBelow_0 (V : kV p s mm args meth c cX5_needBelow RX5 2 none D cI cZ cO) {k mo : kS} (XV : kVX l s ad c) {v0 : Int32} {v1 : Int32} {H : Heap} {locs : List Loc} {ls : Array Slot} {out : Nat} (hH : kHE s H locs D ad cI cZ cO k mo []) (hl : lv_has ls 2 [(0, .int v0), (1, .int v1)]) (hf : F_X5_needBelow_0 k v0 v1 = some out) : W p l e rm_X5_needBelow s mm args below meth c H locs 0 0 (kGXv below args s D cI cZ cO ad out k mo 1 6) (F0 mm 0 ls []) := by
  have hx := V.1
  have hb := V.2.1
  refine lv_iload_n hx hb dX5_needBelow_0 rfl (lv_at hl 0 rfl) ?_
  refine lv_if_lt (tgt := 9) hx hb dX5_needBelow_1 (by decide) (fun hq => ?_) (fun hq => ?_)
  · have hf := kpos hq hf
    refine W.widen (k := 0) (n := 0) (by decide) (by decide) ?_
    exact w_X5_needBelow_9 V XV hH (lv_sub hl [] rfl) hf
  · have hf := kneg hq hf
    refine W.widen (k := 0) (n := 0) (by decide) (by decide) ?_
    exact w_X5_needBelow_4 V XV hH (lv_sub hl [0, 1] rfl) hf
set_option maxHeartbeats 4000000 in
set_option maxRecDepth 100000 in
theorem c_X5_needBelow (l : Launch) (hst : l.stackTraces = false) {D : va_G} {cI cZ cO : ClassId} {ad : Nat → Nat} {k mo : kS} (v0 : Int32) (v1 : Int32) {out : Nat} (hf : F_X5_needBelow k v0 v1 = some out) (sz : Nat) : vx_Met l yX5_needBelow (Cond.code yX5_needBelow cX5_needBelow 2 none :: kWA) rm_X5_needBelow (kPX [.int v0, .int v1] D cI cZ cO ad (kE ad cI cZ cO k mo) sz) (kXv out D cI cZ cO ad (kE ad cI cZ cO k mo) sz) (kXC out D cI cZ cO ad (kE ad cI cZ cO k mo) sz) 1 6 (fA ad sz) := by
  refine kx_met (as := [.int v0, .int v1]) (bytes := cX5_needBelow) (maxL := 2) (rt := none) (Qc := fun sz => (kXv out D cI cZ cO ad (kE ad cI cZ cO k mo) sz)) (XC := fun sz => (kXC out D cI cZ cO ad (kE ad cI cZ cO k mo) sz)) (lv := [(0, .int v0), (1, .int v1)]) hst (by decide +kernel) (Nat.le_of_ble_eq_true rfl) rfl (fun p e s mm below meth c ls V XV hH hl => ?_) sz
  exact w_X5_needBelow_0 V XV hH (lv_sub hl [0, 1] rfl) hf
end
section
variable {p : Program} {l : Launch} {e : Env} {s : State} {mm : MethodId} {args : Array Value} {below : List Frame} {meth : Method} {c : Code} {D : va_G} {cI cZ cO : ClassId} {ad : Nat → Nat}
abbrev rm_X5_person : Room := { frames := 7, cells := 4, slots := 24, locals := 121 }
set_option maxHeartbeats 4000000 in
set_option maxRecDepth 100000 in
theorem w_X5_person_0 (V : kV p s mm args meth c cX5_person RX5 3 (some .int) D cI cZ cO) {k mo : kS} (XV : kVX l s ad c) {v1 : Int32} {v2 : Int32} {H : Heap} {locs : List Loc} {ls : Array Slot} {out : (Nat × Int32)} (hH : kHE s H locs D ad cI cZ cO k mo []) (hl : lv_has ls 3 [(0, .ref (ad 0)), (1, .int v1), (2, .int v2)]) (hf : F_X5_person_0 k v1 v2 = some out) : W p l e rm_X5_person s mm args below meth c H locs 0 0 (kGXi below args s D cI cZ cO ad out.1 out.2 k mo 4 24) (F0 mm 0 ls []) := by
  have hx := V.1
  have hb := V.2.1
  refine lv_aload_n hx hb dX5_person_0 rfl (lv_at hl 0 rfl) ?_
  refine lv_iload_n hx hb dX5_person_1 rfl (lv_at hl 1 rfl) ?_
  obtain ⟨x0_1, hx0_1, hf⟩ := kbind hf
  refine kx_callv hH (kx_runV (as := [.int v1]) (rest := []) (pl := 0) V XV.2.1 hH kYX5_needPerson kl_X5_52 (c_X5_needPerson l XV.1 _ hx0_1 _) rfl rfl ⟨Nat.le_of_ble_eq_true rfl, Nat.le_of_ble_eq_true rfl⟩ (by decide) kE_0 rfl rfl hl.1 (Nat.le_of_ble_eq_true rfl) dX5_person_2 ⟨Nat.le_of_ble_eq_true rfl, Nat.le_of_ble_eq_true rfl⟩ rfl) (fun h0 En ce q9 H1 locs1 hE hH hcell hv hcl => by have hf := kneg h0 hf; cases hf; exact kx_prop V XV hH h0 hE hcell hv hcl (by decide) (by decide)) (fun h0 H locs hH => ?_)
  have hf := kpos h0 hf
  refine lv_iload_n hx hb dX5_person_5 rfl (lv_at hl 2 rfl) ?_
  refine lv_bipush (v := 10) hx hb dX5_person_6 (by decide) ?_
  obtain ⟨x0_2, hx0_2, hf⟩ := kbind hf
  refine kx_callv hH (kx_runS (as := [.int v2, .int 10]) (rest := []) V XV.2.1 hH kYX5_needBelow kl_X5_130 (c_X5_needBelow l XV.1 _ _ hx0_2 _) rfl rfl ⟨Nat.le_of_ble_eq_true rfl, Nat.le_of_ble_eq_true rfl⟩ rfl hl.1 (Nat.le_of_ble_eq_true rfl) dX5_person_8 ⟨Nat.le_of_ble_eq_true rfl, Nat.le_of_ble_eq_true rfl⟩ rfl) (fun h0 En ce q9 H1 locs1 hE hH hcell hv hcl => by have hf := kneg h0 hf; cases hf; exact kx_prop V XV hH h0 hE hcell hv hcl (by decide) (by decide)) (fun h0 H locs hH => ?_)
  have hf := kpos h0 hf
  refine lv_aload_n hx hb dX5_person_11 rfl (lv_at hl 0 rfl) ?_
  refine kg_X5_21 V hH dX5_person_12 ?_
  refine lv_iload_n hx hb dX5_person_15 rfl (lv_at hl 1 rfl) ?_
  refine lv_iload_n hx hb dX5_person_16 rfl (lv_at hl 2 rfl) ?_
  obtain ⟨x0_3, hx0_3, hf⟩ := kbind hf
  refine kr_calli0 hH (kr_runV (as := [.int v1, .int v2]) (rest := []) (pl := 15) V hH kYX4_personFact kl_X5_134 (c_X4_personFact l k15 _ _ hx0_3 _) rfl rfl ⟨Nat.le_of_ble_eq_true rfl, Nat.le_of_ble_eq_true rfl⟩ (kq_B k15) (kE_w0 k15) rfl rfl hl.1 (Nat.le_of_ble_eq_true rfl) dX5_person_17 ⟨Nat.le_of_ble_eq_true rfl, Nat.le_of_ble_eq_true rfl⟩ rfl) (fun H locs hH => ?_)
  cases hf
  exact kx_iret V hH (by decide) (by decide) dX5_person_20
set_option maxHeartbeats 4000000 in
set_option maxRecDepth 100000 in
theorem c_X5_person (l : Launch) (hst : l.stackTraces = false) {D : va_G} {cI cZ cO : ClassId} {ad : Nat → Nat} {k mo : kS} (v1 : Int32) (v2 : Int32) {out : (Nat × Int32)} (hf : F_X5_person k v1 v2 = some out) (sz : Nat) : vx_Met l yX5_person (Cond.code yX5_person cX5_person 3 (some .int) :: kWA) rm_X5_person (kPX [.ref (ad 0), .int v1, .int v2] D cI cZ cO ad (kE ad cI cZ cO k mo) sz) (kXi out.1 out.2 D cI cZ cO ad (kE ad cI cZ cO k mo) sz) (kXC out.1 D cI cZ cO ad (kE ad cI cZ cO k mo) sz) 4 24 (fA ad sz) := by
  refine kx_met (as := [.ref (ad 0), .int v1, .int v2]) (bytes := cX5_person) (maxL := 3) (rt := (some .int)) (Qc := fun sz => (kXi out.1 out.2 D cI cZ cO ad (kE ad cI cZ cO k mo) sz)) (XC := fun sz => (kXC out.1 D cI cZ cO ad (kE ad cI cZ cO k mo) sz)) (lv := [(0, .ref (ad 0)), (1, .int v1), (2, .int v2)]) hst (by decide +kernel) (Nat.le_of_ble_eq_true rfl) rfl (fun p e s mm below meth c ls V XV hH hl => ?_) sz
  exact w_X5_person_0 V XV hH (lv_sub hl [0, 1, 2] rfl) hf
end
section
variable {p : Program} {l : Launch} {e : Env} {s : State} {mm : MethodId} {args : Array Value} {below : List Frame} {meth : Method} {c : Code} {D : va_G} {cI cZ cO : ClassId} {ad : Nat → Nat}
abbrev rm_X5_land : Room := { frames := 7, cells := 4, slots := 24, locals := 121 }
set_option maxHeartbeats 4000000 in
set_option maxRecDepth 100000 in
theorem w_X5_land_0 (V : kV p s mm args meth c cX5_land RX5 3 (some .int) D cI cZ cO) {mo : kS} (XV : kVX l s ad c) {v1 : Int32} {v2 : Int32} {k : kS} {H : Heap} {locs : List Loc} {ls : Array Slot} {out : ((Nat × Int32) × kS)} (hH : kHE s H locs D ad cI cZ cO k mo []) (hl : lv_has ls 3 [(0, .ref (ad 0)), (1, .int v1), (2, .int v2)]) (hf : F_X5_land_0 v1 v2 k = some out) : W p l e rm_X5_land s mm args below meth c H locs 0 0 (kGXi below args s D cI cZ cO ad out.1.1 out.1.2 out.2 mo 4 24) (F0 mm 0 ls []) := by
  have hx := V.1
  have hb := V.2.1
  refine lv_aload_n hx hb dX5_land_0 rfl (lv_at hl 0 rfl) ?_
  refine lv_iload_n hx hb dX5_land_1 rfl (lv_at hl 1 rfl) ?_
  obtain ⟨x0_1, hx0_1, hf⟩ := kbind hf
  refine kx_callv hH (kx_runV (as := [.int v1]) (rest := []) (pl := 0) V XV.2.1 hH kYX5_needLand kl_X5_95 (c_X5_needLand l XV.1 _ hx0_1 _) rfl rfl ⟨Nat.le_of_ble_eq_true rfl, Nat.le_of_ble_eq_true rfl⟩ (by decide) kE_0 rfl rfl hl.1 (Nat.le_of_ble_eq_true rfl) dX5_land_2 ⟨Nat.le_of_ble_eq_true rfl, Nat.le_of_ble_eq_true rfl⟩ rfl) (fun h0 En ce q9 H1 locs1 hE hH hcell hv hcl => by have hf := kneg h0 hf; cases hf; exact kx_prop V XV hH h0 hE hcell hv hcl (by decide) (by decide)) (fun h0 H locs hH => ?_)
  have hf := kpos h0 hf
  refine lv_iload_n hx hb dX5_land_5 rfl (lv_at hl 2 rfl) ?_
  refine lv_bipush (v := 6) hx hb dX5_land_6 (by decide) ?_
  obtain ⟨x0_2, hx0_2, hf⟩ := kbind hf
  refine kx_callv hH (kx_runS (as := [.int v2, .int 6]) (rest := []) V XV.2.1 hH kYX5_needBelow kl_X5_130 (c_X5_needBelow l XV.1 _ _ hx0_2 _) rfl rfl ⟨Nat.le_of_ble_eq_true rfl, Nat.le_of_ble_eq_true rfl⟩ rfl hl.1 (Nat.le_of_ble_eq_true rfl) dX5_land_8 ⟨Nat.le_of_ble_eq_true rfl, Nat.le_of_ble_eq_true rfl⟩ rfl) (fun h0 En ce q9 H1 locs1 hE hH hcell hv hcl => by have hf := kneg h0 hf; cases hf; exact kx_prop V XV hH h0 hE hcell hv hcl (by decide) (by decide)) (fun h0 H locs hH => ?_)
  have hf := kpos h0 hf
  refine lv_aload_n hx hb dX5_land_11 rfl (lv_at hl 0 rfl) ?_
  refine kg_X5_21 V hH dX5_land_12 ?_
  refine lv_iload_n hx hb dX5_land_15 rfl (lv_at hl 1 rfl) ?_
  refine lv_iload_n hx hb dX5_land_16 rfl (lv_at hl 2 rfl) ?_
  obtain ⟨x0_3, hx0_3, hf⟩ := kbind hf
  refine kr_calli0 hH (kr_runV (as := [.int v1, .int v2]) (rest := []) (pl := 15) V hH kYX4_landFact kl_X5_138 (c_X4_landFact l k15 _ _ hx0_3 _) rfl rfl ⟨Nat.le_of_ble_eq_true rfl, Nat.le_of_ble_eq_true rfl⟩ (kq_B k15) (kE_w0 k15) rfl rfl hl.1 (Nat.le_of_ble_eq_true rfl) dX5_land_17 ⟨Nat.le_of_ble_eq_true rfl, Nat.le_of_ble_eq_true rfl⟩ rfl) (fun H locs hH => ?_)
  cases hf
  exact kx_iret V hH (by decide) (by decide) dX5_land_20
set_option maxHeartbeats 4000000 in
set_option maxRecDepth 100000 in
theorem c_X5_land (l : Launch) (hst : l.stackTraces = false) {D : va_G} {cI cZ cO : ClassId} {ad : Nat → Nat} {k mo : kS} (v1 : Int32) (v2 : Int32) {out : ((Nat × Int32) × kS)} (hf : F_X5_land v1 v2 k = some out) (sz : Nat) : vx_Met l yX5_land (Cond.code yX5_land cX5_land 3 (some .int) :: kWA) rm_X5_land (kPX [.ref (ad 0), .int v1, .int v2] D cI cZ cO ad (kE ad cI cZ cO k mo) sz) (kXi out.1.1 out.1.2 D cI cZ cO ad (kE ad cI cZ cO out.2 mo) sz) (kXC out.1.1 D cI cZ cO ad (kE ad cI cZ cO out.2 mo) sz) 4 24 (fA ad sz) := by
  refine kx_met (as := [.ref (ad 0), .int v1, .int v2]) (bytes := cX5_land) (maxL := 3) (rt := (some .int)) (Qc := fun sz => (kXi out.1.1 out.1.2 D cI cZ cO ad (kE ad cI cZ cO out.2 mo) sz)) (XC := fun sz => (kXC out.1.1 D cI cZ cO ad (kE ad cI cZ cO out.2 mo) sz)) (lv := [(0, .ref (ad 0)), (1, .int v1), (2, .int v2)]) hst (by decide +kernel) (Nat.le_of_ble_eq_true rfl) rfl (fun p e s mm below meth c ls V XV hH hl => ?_) sz
  exact w_X5_land_0 V XV hH (lv_sub hl [0, 1, 2] rfl) hf
end
section
variable {p : Program} {l : Launch} {e : Env} {s : State} {mm : MethodId} {args : Array Value} {below : List Frame} {meth : Method} {c : Code} {D : va_G} {cI cZ cO : ClassId} {ad : Nat → Nat}
abbrev rm_X5_ruled : Room := { frames := 7, cells := 4, slots := 24, locals := 121 }
set_option maxHeartbeats 4000000 in
set_option maxRecDepth 100000 in
theorem w_X5_ruled_0 (V : kV p s mm args meth c cX5_ruled RX5 3 (some .int) D cI cZ cO) {k mo : kS} (XV : kVX l s ad c) {v1 : Int32} {v2 : Int32} {H : Heap} {locs : List Loc} {ls : Array Slot} {out : (Nat × Int32)} (hH : kHE s H locs D ad cI cZ cO k mo []) (hl : lv_has ls 3 [(0, .ref (ad 0)), (1, .int v1), (2, .int v2)]) (hf : F_X5_ruled_0 k v1 v2 = some out) : W p l e rm_X5_ruled s mm args below meth c H locs 0 0 (kGXi below args s D cI cZ cO ad out.1 out.2 k mo 4 24) (F0 mm 0 ls []) := by
  have hx := V.1
  have hb := V.2.1
  refine lv_aload_n hx hb dX5_ruled_0 rfl (lv_at hl 0 rfl) ?_
  refine lv_iload_n hx hb dX5_ruled_1 rfl (lv_at hl 1 rfl) ?_
  obtain ⟨x0_1, hx0_1, hf⟩ := kbind hf
  refine kx_callv hH (kx_runV (as := [.int v1]) (rest := []) (pl := 0) V XV.2.1 hH kYX5_needLand kl_X5_95 (c_X5_needLand l XV.1 _ hx0_1 _) rfl rfl ⟨Nat.le_of_ble_eq_true rfl, Nat.le_of_ble_eq_true rfl⟩ (by decide) kE_0 rfl rfl hl.1 (Nat.le_of_ble_eq_true rfl) dX5_ruled_2 ⟨Nat.le_of_ble_eq_true rfl, Nat.le_of_ble_eq_true rfl⟩ rfl) (fun h0 En ce q9 H1 locs1 hE hH hcell hv hcl => by have hf := kneg h0 hf; cases hf; exact kx_prop V XV hH h0 hE hcell hv hcl (by decide) (by decide)) (fun h0 H locs hH => ?_)
  have hf := kpos h0 hf
  refine lv_iload_n hx hb dX5_ruled_5 rfl (lv_at hl 2 rfl) ?_
  refine lv_aload_n hx hb dX5_ruled_6 rfl (lv_at hl 0 rfl) ?_
  refine kg_X5_21 V hH dX5_ruled_7 ?_
  refine kg_X5_81 k15 V hH dX5_ruled_10 ?_
  refine kg_X5_141 k15 V hH dX5_ruled_13 ?_
  refine lv_iload_n hx hb dX5_ruled_16 rfl (lv_at hl 1 rfl) ?_
  obtain ⟨h0_2, hf⟩ := kif hf
  refine kr_iald V hH (q := (15 + 6)) (kq_w k15 (by decide)) (kE_w6 k15) h0_2 dX5_ruled_17 ?_
  obtain ⟨x0_3, hx0_3, hf⟩ := kbind hf
  refine kx_callv hH (kx_runS (as := [.int v2, .int (k (15 + 6) v1.toNatClampNeg)]) (rest := []) V XV.2.1 hH kYX5_needBelow kl_X5_130 (c_X5_needBelow l XV.1 _ _ hx0_3 _) rfl rfl ⟨Nat.le_of_ble_eq_true rfl, Nat.le_of_ble_eq_true rfl⟩ rfl hl.1 (Nat.le_of_ble_eq_true rfl) dX5_ruled_18 ⟨Nat.le_of_ble_eq_true rfl, Nat.le_of_ble_eq_true rfl⟩ rfl) (fun h0 En ce q9 H1 locs1 hE hH hcell hv hcl => by have hf := kneg h0 hf; cases hf; exact kx_prop V XV hH h0 hE hcell hv hcl (by decide) (by decide)) (fun h0 H locs hH => ?_)
  have hf := kpos h0 hf
  refine lv_aload_n hx hb dX5_ruled_21 rfl (lv_at hl 0 rfl) ?_
  refine kg_X5_21 V hH dX5_ruled_22 ?_
  refine kg_X5_81 k15 V hH dX5_ruled_25 ?_
  refine kg_X5_144 k15 V hH dX5_ruled_28 ?_
  refine lv_iload_n hx hb dX5_ruled_31 rfl (lv_at hl 1 rfl) ?_
  obtain ⟨h0_4, hf⟩ := kif hf
  refine kr_aald V hH (q := (15 + 7)) (kq_w k15 (by decide)) (kE_w7 k15) h0_4 dX5_ruled_32 ?_
  refine lv_iload_n hx hb dX5_ruled_33 rfl (lv_at hl 2 rfl) ?_
  obtain ⟨h0_5, hf⟩ := kif hf
  refine kr_iald V hH (q := (kpb 15 + v1.toNatClampNeg)) (kq_past k15 (kidx h0_4)) (kE_pastB k15 (kidx h0_4)) h0_5 dX5_ruled_34 ?_
  cases hf
  exact kx_iret V hH (by decide) (by decide) dX5_ruled_35
set_option maxHeartbeats 4000000 in
set_option maxRecDepth 100000 in
theorem c_X5_ruled (l : Launch) (hst : l.stackTraces = false) {D : va_G} {cI cZ cO : ClassId} {ad : Nat → Nat} {k mo : kS} (v1 : Int32) (v2 : Int32) {out : (Nat × Int32)} (hf : F_X5_ruled k v1 v2 = some out) (sz : Nat) : vx_Met l yX5_ruled (Cond.code yX5_ruled cX5_ruled 3 (some .int) :: kWA) rm_X5_ruled (kPX [.ref (ad 0), .int v1, .int v2] D cI cZ cO ad (kE ad cI cZ cO k mo) sz) (kXi out.1 out.2 D cI cZ cO ad (kE ad cI cZ cO k mo) sz) (kXC out.1 D cI cZ cO ad (kE ad cI cZ cO k mo) sz) 4 24 (fA ad sz) := by
  refine kx_met (as := [.ref (ad 0), .int v1, .int v2]) (bytes := cX5_ruled) (maxL := 3) (rt := (some .int)) (Qc := fun sz => (kXi out.1 out.2 D cI cZ cO ad (kE ad cI cZ cO k mo) sz)) (XC := fun sz => (kXC out.1 D cI cZ cO ad (kE ad cI cZ cO k mo) sz)) (lv := [(0, .ref (ad 0)), (1, .int v1), (2, .int v2)]) hst (by decide +kernel) (Nat.le_of_ble_eq_true rfl) rfl (fun p e s mm below meth c ls V XV hH hl => ?_) sz
  exact w_X5_ruled_0 V XV hH (lv_sub hl [0, 1, 2] rfl) hf
end
section
variable {p : Program} {l : Launch} {e : Env} {s : State} {mm : MethodId} {args : Array Value} {below : List Frame} {meth : Method} {c : Code} {D : va_G} {cI cZ cO : ClassId} {ad : Nat → Nat}
abbrev rm_X5_related : Room := { frames := 7, cells := 4, slots := 24, locals := 121 }
set_option maxHeartbeats 4000000 in
set_option maxRecDepth 100000 in
theorem w_X5_related_0 (V : kV p s mm args meth c cX5_related RX5 3 (some .int) D cI cZ cO) {k mo : kS} (XV : kVX l s ad c) {v1 : Int32} {v2 : Int32} {H : Heap} {locs : List Loc} {ls : Array Slot} {out : (Nat × Int32)} (hH : kHE s H locs D ad cI cZ cO k mo []) (hl : lv_has ls 3 [(0, .ref (ad 0)), (1, .int v1), (2, .int v2)]) (hf : F_X5_related_0 k v1 v2 = some out) : W p l e rm_X5_related s mm args below meth c H locs 0 0 (kGXi below args s D cI cZ cO ad out.1 out.2 k mo 4 24) (F0 mm 0 ls []) := by
  have hx := V.1
  have hb := V.2.1
  refine lv_aload_n hx hb dX5_related_0 rfl (lv_at hl 0 rfl) ?_
  refine lv_iload_n hx hb dX5_related_1 rfl (lv_at hl 1 rfl) ?_
  obtain ⟨x0_1, hx0_1, hf⟩ := kbind hf
  refine kx_callv hH (kx_runV (as := [.int v1]) (rest := []) (pl := 0) V XV.2.1 hH kYX5_needPerson kl_X5_52 (c_X5_needPerson l XV.1 _ hx0_1 _) rfl rfl ⟨Nat.le_of_ble_eq_true rfl, Nat.le_of_ble_eq_true rfl⟩ (by decide) kE_0 rfl rfl hl.1 (Nat.le_of_ble_eq_true rfl) dX5_related_2 ⟨Nat.le_of_ble_eq_true rfl, Nat.le_of_ble_eq_true rfl⟩ rfl) (fun h0 En ce q9 H1 locs1 hE hH hcell hv hcl => by have hf := kneg h0 hf; cases hf; exact kx_prop V XV hH h0 hE hcell hv hcl (by decide) (by decide)) (fun h0 H locs hH => ?_)
  have hf := kpos h0 hf
  refine lv_aload_n hx hb dX5_related_5 rfl (lv_at hl 0 rfl) ?_
  refine lv_iload_n hx hb dX5_related_6 rfl (lv_at hl 2 rfl) ?_
  obtain ⟨x0_2, hx0_2, hf⟩ := kbind hf
  refine kx_callv hH (kx_runV (as := [.int v2]) (rest := []) (pl := 0) V XV.2.1 hH kYX5_needPerson kl_X5_52 (c_X5_needPerson l XV.1 _ hx0_2 _) rfl rfl ⟨Nat.le_of_ble_eq_true rfl, Nat.le_of_ble_eq_true rfl⟩ (by decide) kE_0 rfl rfl hl.1 (Nat.le_of_ble_eq_true rfl) dX5_related_7 ⟨Nat.le_of_ble_eq_true rfl, Nat.le_of_ble_eq_true rfl⟩ rfl) (fun h0 En ce q9 H1 locs1 hE hH hcell hv hcl => by have hf := kneg h0 hf; cases hf; exact kx_prop V XV hH h0 hE hcell hv hcl (by decide) (by decide)) (fun h0 H locs hH => ?_)
  have hf := kpos h0 hf
  refine lv_aload_n hx hb dX5_related_10 rfl (lv_at hl 0 rfl) ?_
  refine kg_X5_10 V hH dX5_related_11 ?_
  refine kg_X5_148 V hH dX5_related_14 ?_
  refine lv_iload_n hx hb dX5_related_17 rfl (lv_at hl 1 rfl) ?_
  obtain ⟨h0_3, hf⟩ := kif hf
  refine kr_aald V hH (q := 6) (by decide) kE_6 h0_3 dX5_related_18 ?_
  refine lv_iload_n hx hb dX5_related_19 rfl (lv_at hl 2 rfl) ?_
  obtain ⟨h0_4, hf⟩ := kif hf
  refine kr_iald V hH (q := (69 + v1.toNatClampNeg)) (kq_steps (kidx h0_3)) kE_stepsI h0_4 dX5_related_20 ?_
  cases hf
  exact kx_iret V hH (by decide) (by decide) dX5_related_21
set_option maxHeartbeats 4000000 in
set_option maxRecDepth 100000 in
theorem c_X5_related (l : Launch) (hst : l.stackTraces = false) {D : va_G} {cI cZ cO : ClassId} {ad : Nat → Nat} {k mo : kS} (v1 : Int32) (v2 : Int32) {out : (Nat × Int32)} (hf : F_X5_related k v1 v2 = some out) (sz : Nat) : vx_Met l yX5_related (Cond.code yX5_related cX5_related 3 (some .int) :: kWA) rm_X5_related (kPX [.ref (ad 0), .int v1, .int v2] D cI cZ cO ad (kE ad cI cZ cO k mo) sz) (kXi out.1 out.2 D cI cZ cO ad (kE ad cI cZ cO k mo) sz) (kXC out.1 D cI cZ cO ad (kE ad cI cZ cO k mo) sz) 4 24 (fA ad sz) := by
  refine kx_met (as := [.ref (ad 0), .int v1, .int v2]) (bytes := cX5_related) (maxL := 3) (rt := (some .int)) (Qc := fun sz => (kXi out.1 out.2 D cI cZ cO ad (kE ad cI cZ cO k mo) sz)) (XC := fun sz => (kXC out.1 D cI cZ cO ad (kE ad cI cZ cO k mo) sz)) (lv := [(0, .ref (ad 0)), (1, .int v1), (2, .int v2)]) hst (by decide +kernel) (Nat.le_of_ble_eq_true rfl) rfl (fun p e s mm below meth c ls V XV hH hl => ?_) sz
  exact w_X5_related_0 V XV hH (lv_sub hl [0, 1, 2] rfl) hf
end
section
variable {p : Program} {l : Launch} {e : Env} {s : State} {mm : MethodId} {args : Array Value} {below : List Frame} {meth : Method} {c : Code} {D : va_G} {cI cZ cO : ClassId} {ad : Nat → Nat}
abbrev rm_X5_count : Room := { frames := 7, cells := 4, slots := 24, locals := 121 }
set_option maxHeartbeats 4000000 in
set_option maxRecDepth 100000 in
theorem w_X5_count_0 (V : kV p s mm args meth c cX5_count RX5 2 (some .int) D cI cZ cO) {k mo : kS} (XV : kVX l s ad c) {v1 : Int32} {H : Heap} {locs : List Loc} {ls : Array Slot} {out : (Nat × Int32)} (hH : kHE s H locs D ad cI cZ cO k mo []) (hl : lv_has ls 2 [(0, .ref (ad 0)), (1, .int v1)]) (hf : F_X5_count_0 k v1 = some out) : W p l e rm_X5_count s mm args below meth c H locs 0 0 (kGXi below args s D cI cZ cO ad out.1 out.2 k mo 4 24) (F0 mm 0 ls []) := by
  have hx := V.1
  have hb := V.2.1
  refine lv_iload_n hx hb dX5_count_0 rfl (lv_at hl 1 rfl) ?_
  refine lv_bipush (v := 8) hx hb dX5_count_1 (by decide) ?_
  obtain ⟨x0_1, hx0_1, hf⟩ := kbind hf
  refine kx_callv hH (kx_runS (as := [.int v1, .int 8]) (rest := []) V XV.2.1 hH kYX5_needBelow kl_X5_130 (c_X5_needBelow l XV.1 _ _ hx0_1 _) rfl rfl ⟨Nat.le_of_ble_eq_true rfl, Nat.le_of_ble_eq_true rfl⟩ rfl hl.1 (Nat.le_of_ble_eq_true rfl) dX5_count_3 ⟨Nat.le_of_ble_eq_true rfl, Nat.le_of_ble_eq_true rfl⟩ rfl) (fun h0 En ce q9 H1 locs1 hE hH hcell hv hcl => by have hf := kneg h0 hf; cases hf; exact kx_prop V XV hH h0 hE hcell hv hcl (by decide) (by decide)) (fun h0 H locs hH => ?_)
  have hf := kpos h0 hf
  refine lv_aload_n hx hb dX5_count_6 rfl (lv_at hl 0 rfl) ?_
  refine kg_X5_21 V hH dX5_count_7 ?_
  refine lv_iload_n hx hb dX5_count_10 rfl (lv_at hl 1 rfl) ?_
  obtain ⟨x0_2, hx0_2, hf⟩ := kbind hf
  refine kr_calli0 hH (kr_runV (as := [.int v1]) (rest := []) (pl := 15) V hH kYX4_countFact kl_X5_151 (c_X4_countFact l k15 _ hx0_2 _) rfl rfl ⟨Nat.le_of_ble_eq_true rfl, Nat.le_of_ble_eq_true rfl⟩ (kq_B k15) (kE_w0 k15) rfl rfl hl.1 (Nat.le_of_ble_eq_true rfl) dX5_count_11 ⟨Nat.le_of_ble_eq_true rfl, Nat.le_of_ble_eq_true rfl⟩ rfl) (fun H locs hH => ?_)
  cases hf
  exact kx_iret V hH (by decide) (by decide) dX5_count_14
set_option maxHeartbeats 4000000 in
set_option maxRecDepth 100000 in
theorem c_X5_count (l : Launch) (hst : l.stackTraces = false) {D : va_G} {cI cZ cO : ClassId} {ad : Nat → Nat} {k mo : kS} (v1 : Int32) {out : (Nat × Int32)} (hf : F_X5_count k v1 = some out) (sz : Nat) : vx_Met l yX5_count (Cond.code yX5_count cX5_count 2 (some .int) :: kWA) rm_X5_count (kPX [.ref (ad 0), .int v1] D cI cZ cO ad (kE ad cI cZ cO k mo) sz) (kXi out.1 out.2 D cI cZ cO ad (kE ad cI cZ cO k mo) sz) (kXC out.1 D cI cZ cO ad (kE ad cI cZ cO k mo) sz) 4 24 (fA ad sz) := by
  refine kx_met (as := [.ref (ad 0), .int v1]) (bytes := cX5_count) (maxL := 2) (rt := (some .int)) (Qc := fun sz => (kXi out.1 out.2 D cI cZ cO ad (kE ad cI cZ cO k mo) sz)) (XC := fun sz => (kXC out.1 D cI cZ cO ad (kE ad cI cZ cO k mo) sz)) (lv := [(0, .ref (ad 0)), (1, .int v1)]) hst (by decide +kernel) (Nat.le_of_ble_eq_true rfl) rfl (fun p e s mm below meth c ls V XV hH hl => ?_) sz
  exact w_X5_count_0 V XV hH (lv_sub hl [0, 1] rfl) hf
end
section
variable {p : Program} {l : Launch} {e : Env} {s : State} {mm : MethodId} {args : Array Value} {below : List Frame} {meth : Method} {c : Code} {D : va_G} {cI cZ cO : ClassId} {ad : Nat → Nat}
abbrev rm_X5_needYears : Room := { frames := 6, cells := 1, slots := 6, locals := 100 }
set_option maxHeartbeats 4000000 in
set_option maxRecDepth 100000 in
theorem w_X5_needYears_11 (V : kV p s mm args meth c cX5_needYears RX5 1 none D cI cZ cO) {k mo : kS} (XV : kVX l s ad c) {H : Heap} {locs : List Loc} {ls : Array Slot} {out : Nat} (hH : kHE s H locs D ad cI cZ cO k mo []) (hl : lv_has ls 1 []) (hf : F_X5_needYears_11 k = some out) : W p l e rm_X5_needYears s mm args below meth c H locs 0 0 (kGXv below args s D cI cZ cO ad out k mo 1 6) (F0 mm 11 ls []) := by
  have hx := V.1
  have hb := V.2.1
  cases hf
  exact kx_throw (code := 1) (text := "the years are not 1 to 100") V XV hH hl.1 (by decide) (by decide +kernel) kc_X5_28 kz_IllegalArgumentException kXg1 kXn1 kXo1 (by decide +kernel) dX5_needYears_11 dX5_needYears_14 dX5_needYears_15 dX5_needYears_17 dX5_needYears_20 (by decide) (by decide) (by decide) (by decide) (by decide) (by decide)
set_option maxHeartbeats 4000000 in
set_option maxRecDepth 100000 in
theorem w_X5_needYears_21 (V : kV p s mm args meth c cX5_needYears RX5 1 none D cI cZ cO) {k mo : kS} (XV : kVX l s ad c) {H : Heap} {locs : List Loc} {ls : Array Slot} {out : Nat} (hH : kHE s H locs D ad cI cZ cO k mo []) (hl : lv_has ls 1 []) (hf : F_X5_needYears_21 k = some out) : W p l e rm_X5_needYears s mm args below meth c H locs 0 0 (kGXv below args s D cI cZ cO ad out k mo 1 6) (F0 mm 21 ls []) := by
  have hx := V.1
  have hb := V.2.1
  cases hf
  exact kx_vret V hH (by decide) (by decide) dX5_needYears_21
set_option maxHeartbeats 4000000 in
set_option maxRecDepth 100000 in
theorem w_X5_needYears_5 (V : kV p s mm args meth c cX5_needYears RX5 1 none D cI cZ cO) {k mo : kS} (XV : kVX l s ad c) {v0 : Int32} {H : Heap} {locs : List Loc} {ls : Array Slot} {out : Nat} (hH : kHE s H locs D ad cI cZ cO k mo []) (hl : lv_has ls 1 [(0, .int v0)]) (hf : F_X5_needYears_5 k v0 = some out) : W p l e rm_X5_needYears s mm args below meth c H locs 0 0 (kGXv below args s D cI cZ cO ad out k mo 1 6) (F0 mm 5 ls []) := by
  have hx := V.1
  have hb := V.2.1
  refine lv_iload_n hx hb dX5_needYears_5 rfl (lv_at hl 0 rfl) ?_
  refine lv_bipush (v := 100) hx hb dX5_needYears_6 (by decide) ?_
  refine lv_icmp_le (tgt := 21) hx hb dX5_needYears_8 (by decide) (fun hq => ?_) (fun hq => ?_)
  · have hf := kpos hq hf
    refine W.widen (k := 0) (n := 0) (by decide) (by decide) ?_
    exact w_X5_needYears_21 V XV hH (lv_sub hl [] rfl) hf
  · have hf := kneg hq hf
    refine W.widen (k := 0) (n := 0) (by decide) (by decide) ?_
    exact w_X5_needYears_11 V XV hH (lv_sub hl [] rfl) hf
set_option maxHeartbeats 4000000 in
set_option maxRecDepth 100000 in
theorem w_X5_needYears_0 (V : kV p s mm args meth c cX5_needYears RX5 1 none D cI cZ cO) {k mo : kS} (XV : kVX l s ad c) {v0 : Int32} {H : Heap} {locs : List Loc} {ls : Array Slot} {out : Nat} (hH : kHE s H locs D ad cI cZ cO k mo []) (hl : lv_has ls 1 [(0, .int v0)]) (hf : F_X5_needYears_0 k v0 = some out) : W p l e rm_X5_needYears s mm args below meth c H locs 0 0 (kGXv below args s D cI cZ cO ad out k mo 1 6) (F0 mm 0 ls []) := by
  have hx := V.1
  have hb := V.2.1
  refine lv_iload_n hx hb dX5_needYears_0 rfl (lv_at hl 0 rfl) ?_
  refine lv_iconst (v := 1) hx hb dX5_needYears_1 (by decide) ?_
  refine lv_icmp_lt (tgt := 11) hx hb dX5_needYears_2 (by decide) (fun hq => ?_) (fun hq => ?_)
  · have hf := kpos hq hf
    refine W.widen (k := 0) (n := 0) (by decide) (by decide) ?_
    exact w_X5_needYears_11 V XV hH (lv_sub hl [] rfl) hf
  · have hf := kneg hq hf
    refine W.widen (k := 0) (n := 0) (by decide) (by decide) ?_
    exact w_X5_needYears_5 V XV hH (lv_sub hl [0] rfl) hf
set_option maxHeartbeats 4000000 in
set_option maxRecDepth 100000 in
theorem c_X5_needYears (l : Launch) (hst : l.stackTraces = false) {D : va_G} {cI cZ cO : ClassId} {ad : Nat → Nat} {k mo : kS} (v0 : Int32) {out : Nat} (hf : F_X5_needYears k v0 = some out) (sz : Nat) : vx_Met l yX5_needYears (Cond.code yX5_needYears cX5_needYears 1 none :: kWA) rm_X5_needYears (kPX [.int v0] D cI cZ cO ad (kE ad cI cZ cO k mo) sz) (kXv out D cI cZ cO ad (kE ad cI cZ cO k mo) sz) (kXC out D cI cZ cO ad (kE ad cI cZ cO k mo) sz) 1 6 (fA ad sz) := by
  refine kx_met (as := [.int v0]) (bytes := cX5_needYears) (maxL := 1) (rt := none) (Qc := fun sz => (kXv out D cI cZ cO ad (kE ad cI cZ cO k mo) sz)) (XC := fun sz => (kXC out D cI cZ cO ad (kE ad cI cZ cO k mo) sz)) (lv := [(0, .int v0)]) hst (by decide +kernel) (Nat.le_of_ble_eq_true rfl) rfl (fun p e s mm below meth c ls V XV hH hl => ?_) sz
  exact w_X5_needYears_0 V XV hH (lv_sub hl [0] rfl) hf
end
section
variable {p : Program} {l : Launch} {e : Env} {s : State} {mm : MethodId} {args : Array Value} {below : List Frame} {meth : Method} {c : Code} {D : va_G} {cI cZ cO : ClassId} {ad : Nat → Nat}
abbrev rm_X5_pass : Room := { frames := 7, cells := 4, slots := 24, locals := 142 }
set_option maxHeartbeats 4000000 in
set_option maxRecDepth 100000 in
theorem w_X5_pass_0 (V : kV p s mm args meth c cX5_pass RX5 2 (some .int) D cI cZ cO) {mo : kS} (XV : kVX l s ad c) {v1 : Int32} {k : kS} {H : Heap} {locs : List Loc} {ls : Array Slot} {out : ((Nat × Int32) × kS)} (hH : kHE s H locs D ad cI cZ cO k mo []) (hl : lv_has ls 2 [(0, .ref (ad 0)), (1, .int v1)]) (hf : F_X5_pass_0 v1 k = some out) : W p l e rm_X5_pass s mm args below meth c H locs 0 0 (kGXi below args s D cI cZ cO ad out.1.1 out.1.2 out.2 mo 4 24) (F0 mm 0 ls []) := by
  have hx := V.1
  have hb := V.2.1
  refine lv_iload_n hx hb dX5_pass_0 rfl (lv_at hl 1 rfl) ?_
  obtain ⟨x0_1, hx0_1, hf⟩ := kbind hf
  refine kx_callv hH (kx_runS (as := [.int v1]) (rest := []) V XV.2.1 hH kYX5_needYears kl_X5_154 (c_X5_needYears l XV.1 _ hx0_1 _) rfl rfl ⟨Nat.le_of_ble_eq_true rfl, Nat.le_of_ble_eq_true rfl⟩ rfl hl.1 (Nat.le_of_ble_eq_true rfl) dX5_pass_1 ⟨Nat.le_of_ble_eq_true rfl, Nat.le_of_ble_eq_true rfl⟩ rfl) (fun h0 En ce q9 H1 locs1 hE hH hcell hv hcl => by have hf := kneg h0 hf; cases hf; exact kx_prop V XV hH h0 hE hcell hv hcl (by decide) (by decide)) (fun h0 H locs hH => ?_)
  have hf := kpos h0 hf
  refine lv_aload_n hx hb dX5_pass_4 rfl (lv_at hl 0 rfl) ?_
  refine kg_X5_21 V hH dX5_pass_5 ?_
  refine lv_iload_n hx hb dX5_pass_8 rfl (lv_at hl 1 rfl) ?_
  obtain ⟨x0_2, hx0_2, hf⟩ := kbind hf
  refine kr_calli0 hH (kr_runV (as := [.int v1]) (rest := []) (pl := 15) V hH kYX4_letPass kl_X5_157 (c_X4_letPass l k15 _ hx0_2 _) rfl rfl ⟨Nat.le_of_ble_eq_true rfl, Nat.le_of_ble_eq_true rfl⟩ (kq_B k15) (kE_w0 k15) rfl rfl hl.1 (Nat.le_of_ble_eq_true rfl) dX5_pass_9 ⟨Nat.le_of_ble_eq_true rfl, Nat.le_of_ble_eq_true rfl⟩ rfl) (fun H locs hH => ?_)
  cases hf
  exact kx_iret V hH (by decide) (by decide) dX5_pass_12
set_option maxHeartbeats 4000000 in
set_option maxRecDepth 100000 in
theorem c_X5_pass (l : Launch) (hst : l.stackTraces = false) {D : va_G} {cI cZ cO : ClassId} {ad : Nat → Nat} {k mo : kS} (v1 : Int32) {out : ((Nat × Int32) × kS)} (hf : F_X5_pass v1 k = some out) (sz : Nat) : vx_Met l yX5_pass (Cond.code yX5_pass cX5_pass 2 (some .int) :: kWA) rm_X5_pass (kPX [.ref (ad 0), .int v1] D cI cZ cO ad (kE ad cI cZ cO k mo) sz) (kXi out.1.1 out.1.2 D cI cZ cO ad (kE ad cI cZ cO out.2 mo) sz) (kXC out.1.1 D cI cZ cO ad (kE ad cI cZ cO out.2 mo) sz) 4 24 (fA ad sz) := by
  refine kx_met (as := [.ref (ad 0), .int v1]) (bytes := cX5_pass) (maxL := 2) (rt := (some .int)) (Qc := fun sz => (kXi out.1.1 out.1.2 D cI cZ cO ad (kE ad cI cZ cO out.2 mo) sz)) (XC := fun sz => (kXC out.1.1 D cI cZ cO ad (kE ad cI cZ cO out.2 mo) sz)) (lv := [(0, .ref (ad 0)), (1, .int v1)]) hst (by decide +kernel) (Nat.le_of_ble_eq_true rfl) rfl (fun p e s mm below meth c ls V XV hH hl => ?_) sz
  exact w_X5_pass_0 V XV hH (lv_sub hl [0, 1] rfl) hf
end
section
variable {p : Program} {l : Launch} {e : Env} {s : State} {mm : MethodId} {args : Array Value} {below : List Frame} {meth : Method} {c : Code} {D : va_G} {cI cZ cO : ClassId} {ad : Nat → Nat}
abbrev rm_X5_rules : Room := { frames := 7, cells := 4, slots := 24, locals := 142 }
set_option maxHeartbeats 4000000 in
set_option maxRecDepth 100000 in
theorem w_X5_rules_38 (V : kV p s mm args meth c cX5_rules RX5 3 (some .int) D cI cZ cO) {mo : kS} (XV : kVX l s ad c) {v2 : Int32} {k : kS} {H : Heap} {locs : List Loc} {ls : Array Slot} {out : ((Nat × Int32) × kS)} (hH : kHE s H locs D ad cI cZ cO k mo []) (hl : lv_has ls 3 [(2, .int v2)]) (hf : F_X5_rules_38 v2 k = some out) : W p l e rm_X5_rules s mm args below meth c H locs 1 6 (kGXi below args s D cI cZ cO ad out.1.1 out.1.2 out.2 mo 4 24) (F0 mm 38 ls []) := by
  have hx := V.1
  have hb := V.2.1
  refine lv_iload_n hx hb dX5_rules_38 rfl (lv_at hl 0 rfl) ?_
  cases hf
  exact kx_iret V hH (by decide) (by decide) dX5_rules_39
set_option maxHeartbeats 4000000 in
set_option maxRecDepth 100000 in
theorem w_X5_rules_40 (V : kV p s mm args meth c cX5_rules RX5 3 (some .int) D cI cZ cO) {mo : kS} (XV : kVX l s ad c) {c18 : Int32 → Int32 → kS → Option (((Nat × Int32) × kS))} (hk18 : ∀ {v1 : Int32} {v2 : Int32} {k : kS} {H : Heap} {locs : List Loc} {ls : Array Slot} {out : ((Nat × Int32) × kS)}, kHE s H locs D ad cI cZ cO k mo [] → lv_has ls 3 [(0, .ref (ad 0)), (1, .int v1), (2, .int v2)] → c18 v1 v2 k = some out → W p l e rm_X5_rules s mm args below meth c H locs 1 6 (kGXi below args s D cI cZ cO ad out.1.1 out.1.2 out.2 mo 4 24) (F0 mm 18 ls [])) {v1 : Int32} {v2 : Int32} {k : kS} {H : Heap} {locs : List Loc} {ls : Array Slot} {out : ((Nat × Int32) × kS)} (hH : kHE s H locs D ad cI cZ cO k mo []) (hl : lv_has ls 3 [(0, .ref (ad 0)), (1, .int v1), (2, .int v2)]) (hf : F_X5_rules_40 c18 v1 v2 k = some out) : W p l e rm_X5_rules s mm args below meth c H locs 1 6 (kGXi below args s D cI cZ cO ad out.1.1 out.1.2 out.2 mo 4 24) (F0 mm 40 ls []) := by
  have hx := V.1
  have hb := V.2.1
  refine lv_aload_n hx hb dX5_rules_40 rfl (lv_at hl 0 rfl) ?_
  refine kg_X5_25 V hH dX5_rules_41 ?_
  refine lv_iconst (v := 1) hx hb dX5_rules_44 (by decide) ?_
  obtain ⟨x40_1, hx40_1, hf⟩ := kbind hf
  refine kr_calli0 hH (kr_runV (as := [.int 1]) (rest := []) (pl := 30) V hH kYX4_letPass kl_X5_157 (c_X4_letPass l k30 _ hx40_1 _) rfl rfl ⟨Nat.le_of_ble_eq_true rfl, Nat.le_of_ble_eq_true rfl⟩ (kq_B k30) (kE_w0 k30) rfl rfl hl.1 (Nat.le_of_ble_eq_true rfl) dX5_rules_45 ⟨Nat.le_of_ble_eq_true rfl, Nat.le_of_ble_eq_true rfl⟩ rfl) (fun H locs hH => ?_)
  refine lv_pop hx hb dX5_rules_48 rfl ?_
  refine lv_iinc (v := (v2 + 1)) (lv' := [(2, .int (v2 + 1)), (0, .ref (ad 0)), (1, .int v1)]) hx hb dX5_rules_49 hl (k := 2) rfl rfl (by decide) rfl (fun ls hl => ?_)
  refine lv_goto (tgt := 18) hx hb dX5_rules_52 (by decide) ?_
  refine W.widen (k := 1) (n := 6) (by decide) (by decide) ?_
  exact hk18 hH (lv_sub hl [1, 2, 0] rfl) hf
set_option maxHeartbeats 4000000 in
set_option maxRecDepth 100000 in
theorem w_X5_rules_24 (V : kV p s mm args meth c cX5_rules RX5 3 (some .int) D cI cZ cO) {mo : kS} (XV : kVX l s ad c) {c18 : Int32 → Int32 → kS → Option (((Nat × Int32) × kS))} (hk18 : ∀ {v1 : Int32} {v2 : Int32} {k : kS} {H : Heap} {locs : List Loc} {ls : Array Slot} {out : ((Nat × Int32) × kS)}, kHE s H locs D ad cI cZ cO k mo [] → lv_has ls 3 [(0, .ref (ad 0)), (1, .int v1), (2, .int v2)] → c18 v1 v2 k = some out → W p l e rm_X5_rules s mm args below meth c H locs 1 6 (kGXi below args s D cI cZ cO ad out.1.1 out.1.2 out.2 mo 4 24) (F0 mm 18 ls [])) {v1 : Int32} {v2 : Int32} {k : kS} {H : Heap} {locs : List Loc} {ls : Array Slot} {out : ((Nat × Int32) × kS)} (hH : kHE s H locs D ad cI cZ cO k mo []) (hl : lv_has ls 3 [(0, .ref (ad 0)), (1, .int v1), (2, .int v2)]) (hf : F_X5_rules_24 c18 v1 v2 k = some out) : W p l e rm_X5_rules s mm args below meth c H locs 1 6 (kGXi below args s D cI cZ cO ad out.1.1 out.1.2 out.2 mo 4 24) (F0 mm 24 ls []) := by
  have hx := V.1
  have hb := V.2.1
  refine lv_aload_n hx hb dX5_rules_24 rfl (lv_at hl 0 rfl) ?_
  refine kg_X5_25 V hH dX5_rules_25 ?_
  refine kg_X5_81 k30 V hH dX5_rules_28 ?_
  refine lv_iload_n hx hb dX5_rules_31 rfl (lv_at hl 1 rfl) ?_
  obtain ⟨x24_1, hx24_1, hf⟩ := kbind hf
  refine kr_calli0 hH (kr_runV (as := [.int v1]) (rest := []) (pl := (30 + 1)) V hH kYX1_numberUnder kl_X5_164 (c_X1_numberUnder l k30 _ hx24_1 _) rfl rfl ⟨Nat.le_of_ble_eq_true rfl, Nat.le_of_ble_eq_true rfl⟩ (kq_w k30 (by decide)) (kE_w1 k30) rfl rfl hl.1 (Nat.le_of_ble_eq_true rfl) dX5_rules_32 ⟨Nat.le_of_ble_eq_true rfl, Nat.le_of_ble_eq_true rfl⟩ rfl) (fun H locs hH => ?_)
  refine lv_if_le (tgt := 40) hx hb dX5_rules_35 (by decide) (fun hq => ?_) (fun hq => ?_)
  · have hf := kpos hq hf
    refine W.widen (k := 1) (n := 6) (by decide) (by decide) ?_
    exact w_X5_rules_40 V XV hk18 hH (lv_sub hl [0, 1, 2] rfl) hf
  · have hf := kneg hq hf
    refine W.widen (k := 1) (n := 6) (by decide) (by decide) ?_
    exact w_X5_rules_38 V XV hH (lv_sub hl [2] rfl) hf
set_option maxHeartbeats 4000000 in
set_option maxRecDepth 100000 in
theorem w_X5_rules_55 (V : kV p s mm args meth c cX5_rules RX5 3 (some .int) D cI cZ cO) {mo : kS} (XV : kVX l s ad c) {k : kS} {H : Heap} {locs : List Loc} {ls : Array Slot} {out : ((Nat × Int32) × kS)} (hH : kHE s H locs D ad cI cZ cO k mo []) (hl : lv_has ls 3 []) (hf : F_X5_rules_55 k = some out) : W p l e rm_X5_rules s mm args below meth c H locs 1 6 (kGXi below args s D cI cZ cO ad out.1.1 out.1.2 out.2 mo 4 24) (F0 mm 55 ls []) := by
  have hx := V.1
  have hb := V.2.1
  refine lv_iconst (v := (-1)) hx hb dX5_rules_55 (by decide) ?_
  cases hf
  exact kx_iret V hH (by decide) (by decide) dX5_rules_56
set_option maxHeartbeats 4000000 in
set_option maxRecDepth 100000 in
theorem w_X5_rules_18 (V : kV p s mm args meth c cX5_rules RX5 3 (some .int) D cI cZ cO) {mo : kS} (XV : kVX l s ad c) : ∀ (n : Nat) {v1 : Int32} {v2 : Int32} {k : kS} {H : Heap} {locs : List Loc} {ls : Array Slot} {out : ((Nat × Int32) × kS)}, kHE s H locs D ad cI cZ cO k mo [] → lv_has ls 3 [(0, .ref (ad 0)), (1, .int v1), (2, .int v2)] → F_X5_rules_18 n v1 v2 k = some out → W p l e rm_X5_rules s mm args below meth c H locs 1 6 (kGXi below args s D cI cZ cO ad out.1.1 out.1.2 out.2 mo 4 24) (F0 mm 18 ls []) := by
  have hx := V.1
  have hb := V.2.1
  intro n
  induction n with
  | zero => intro _ _ _ _ _ _ _ hH hl hf; cases hf
  | succ n hk18 =>
    intro v1 v2 k H locs ls out hH hl hf
    refine lv_iload_n hx hb dX5_rules_18 rfl (lv_at hl 2 rfl) ?_
    refine lv_bipush (v := 100) hx hb dX5_rules_19 (by decide) ?_
    refine lv_icmp_gt (tgt := 55) hx hb dX5_rules_21 (by decide) (fun hq => ?_) (fun hq => ?_)
    · have hf := kpos hq hf
      refine W.widen (k := 1) (n := 6) (by decide) (by decide) ?_
      exact w_X5_rules_55 V XV hH (lv_sub hl [] rfl) hf
    · have hf := kneg hq hf
      refine W.widen (k := 1) (n := 6) (by decide) (by decide) ?_
      exact w_X5_rules_24 V XV hk18 hH (lv_sub hl [0, 1, 2] rfl) hf
set_option maxHeartbeats 4000000 in
set_option maxRecDepth 100000 in
theorem w_X5_rules_0 (V : kV p s mm args meth c cX5_rules RX5 3 (some .int) D cI cZ cO) {mo : kS} (XV : kVX l s ad c) {v1 : Int32} {k : kS} {H : Heap} {locs : List Loc} {ls : Array Slot} {out : ((Nat × Int32) × kS)} (hH : kHE s H locs D ad cI cZ cO k mo []) (hl : lv_has ls 3 [(0, .ref (ad 0)), (1, .int v1)]) (hf : F_X5_rules_0 v1 k = some out) : W p l e rm_X5_rules s mm args below meth c H locs 0 0 (kGXi below args s D cI cZ cO ad out.1.1 out.1.2 out.2 mo 4 24) (F0 mm 0 ls []) := by
  have hx := V.1
  have hb := V.2.1
  refine lv_aload_n hx hb dX5_rules_0 rfl (lv_at hl 0 rfl) ?_
  refine lv_iload_n hx hb dX5_rules_1 rfl (lv_at hl 1 rfl) ?_
  obtain ⟨x0_1, hx0_1, hf⟩ := kbind hf
  refine kx_callv hH (kx_runV (as := [.int v1]) (rest := []) (pl := 0) V XV.2.1 hH kYX5_needPerson kl_X5_52 (c_X5_needPerson l XV.1 _ hx0_1 _) rfl rfl ⟨Nat.le_of_ble_eq_true rfl, Nat.le_of_ble_eq_true rfl⟩ (by decide) kE_0 rfl rfl hl.1 (Nat.le_of_ble_eq_true rfl) dX5_rules_2 ⟨Nat.le_of_ble_eq_true rfl, Nat.le_of_ble_eq_true rfl⟩ rfl) (fun h0 En ce q9 H1 locs1 hE hH hcell hv hcl => by have hf := kneg h0 hf; cases hf; exact kx_prop V XV hH h0 hE hcell hv hcl (by decide) (by decide)) (fun h0 H locs hH => ?_)
  have hf := kpos h0 hf
  refine lv_aload_n hx hb dX5_rules_5 rfl (lv_at hl 0 rfl) ?_
  refine kg_X5_25 V hH dX5_rules_6 ?_
  refine lv_aload_n hx hb dX5_rules_9 rfl (lv_at hl 0 rfl) ?_
  refine kg_X5_21 V hH dX5_rules_10 ?_
  obtain ⟨x0_2, hx0_2, hf⟩ := kbind hf
  refine kr_callv0 hH (kr_runV (as := [.ref (ad 15)]) (rest := []) (pl := 30) V hH kYX4_startFrom kl_X5_160 (c_X4_startFrom l hx0_2 _) rfl rfl ⟨Nat.le_of_ble_eq_true rfl, Nat.le_of_ble_eq_true rfl⟩ (kq_B k30) (kE_w0 k30) rfl rfl hl.1 (Nat.le_of_ble_eq_true rfl) dX5_rules_13 ⟨Nat.le_of_ble_eq_true rfl, Nat.le_of_ble_eq_true rfl⟩ rfl) (fun H locs hH => ?_)
  refine lv_iconst (v := 0) hx hb dX5_rules_16 (by decide) ?_
  refine lv_istore_n (lv' := [(2, .int 0), (0, .ref (ad 0)), (1, .int v1)]) hx hb dX5_rules_17 rfl hl (by decide) rfl (fun ls hl => ?_)
  refine W.widen (k := 1) (n := 6) (by decide) (by decide) ?_
  exact w_X5_rules_18 V XV kN hH (lv_sub hl [1, 2, 0] rfl) hf
set_option maxHeartbeats 4000000 in
set_option maxRecDepth 100000 in
theorem c_X5_rules (l : Launch) (hst : l.stackTraces = false) {D : va_G} {cI cZ cO : ClassId} {ad : Nat → Nat} {k mo : kS} (v1 : Int32) {out : ((Nat × Int32) × kS)} (hf : F_X5_rules v1 k = some out) (sz : Nat) : vx_Met l yX5_rules (Cond.code yX5_rules cX5_rules 3 (some .int) :: kWA) rm_X5_rules (kPX [.ref (ad 0), .int v1] D cI cZ cO ad (kE ad cI cZ cO k mo) sz) (kXi out.1.1 out.1.2 D cI cZ cO ad (kE ad cI cZ cO out.2 mo) sz) (kXC out.1.1 D cI cZ cO ad (kE ad cI cZ cO out.2 mo) sz) 4 24 (fA ad sz) := by
  refine kx_met (as := [.ref (ad 0), .int v1]) (bytes := cX5_rules) (maxL := 3) (rt := (some .int)) (Qc := fun sz => (kXi out.1.1 out.1.2 D cI cZ cO ad (kE ad cI cZ cO out.2 mo) sz)) (XC := fun sz => (kXC out.1.1 D cI cZ cO ad (kE ad cI cZ cO out.2 mo) sz)) (lv := [(0, .ref (ad 0)), (1, .int v1)]) hst (by decide +kernel) (Nat.le_of_ble_eq_true rfl) rfl (fun p e s mm below meth c ls V XV hH hl => ?_) sz
  exact w_X5_rules_0 V XV hH (lv_sub hl [0, 1] rfl) hf
end
section
variable {p : Program} {l : Launch} {e : Env} {s : State} {mm : MethodId} {args : Array Value} {below : List Frame} {meth : Method} {c : Code} {D : va_G} {cI cZ cO : ClassId} {ad : Nat → Nat}
abbrev rm_X5_foresee : Room := { frames := 7, cells := 4, slots := 24, locals := 142 }
set_option maxHeartbeats 4000000 in
set_option maxRecDepth 100000 in
theorem w_X5_foresee_0 (V : kV p s mm args meth c cX5_foresee RX5 3 (some .int) D cI cZ cO) {mo : kS} (XV : kVX l s ad c) {v1 : Int32} {v2 : Int32} {k : kS} {H : Heap} {locs : List Loc} {ls : Array Slot} {out : ((Nat × Int32) × kS)} (hH : kHE s H locs D ad cI cZ cO k mo []) (hl : lv_has ls 3 [(0, .ref (ad 0)), (1, .int v1), (2, .int v2)]) (hf : F_X5_foresee_0 v1 v2 k = some out) : W p l e rm_X5_foresee s mm args below meth c H locs 0 0 (kGXi below args s D cI cZ cO ad out.1.1 out.1.2 out.2 mo 4 24) (F0 mm 0 ls []) := by
  have hx := V.1
  have hb := V.2.1
  refine lv_iload_n hx hb dX5_foresee_0 rfl (lv_at hl 1 rfl) ?_
  obtain ⟨x0_1, hx0_1, hf⟩ := kbind hf
  refine kx_callv hH (kx_runS (as := [.int v1]) (rest := []) V XV.2.1 hH kYX5_needYears kl_X5_154 (c_X5_needYears l XV.1 _ hx0_1 _) rfl rfl ⟨Nat.le_of_ble_eq_true rfl, Nat.le_of_ble_eq_true rfl⟩ rfl hl.1 (Nat.le_of_ble_eq_true rfl) dX5_foresee_1 ⟨Nat.le_of_ble_eq_true rfl, Nat.le_of_ble_eq_true rfl⟩ rfl) (fun h0 En ce q9 H1 locs1 hE hH hcell hv hcl => by have hf := kneg h0 hf; cases hf; exact kx_prop V XV hH h0 hE hcell hv hcl (by decide) (by decide)) (fun h0 H locs hH => ?_)
  have hf := kpos h0 hf
  refine lv_aload_n hx hb dX5_foresee_4 rfl (lv_at hl 0 rfl) ?_
  refine lv_iload_n hx hb dX5_foresee_5 rfl (lv_at hl 2 rfl) ?_
  obtain ⟨x0_2, hx0_2, hf⟩ := kbind hf
  refine kx_callv hH (kx_runV (as := [.int v2]) (rest := []) (pl := 0) V XV.2.1 hH kYX5_needLand kl_X5_95 (c_X5_needLand l XV.1 _ hx0_2 _) rfl rfl ⟨Nat.le_of_ble_eq_true rfl, Nat.le_of_ble_eq_true rfl⟩ (by decide) kE_0 rfl rfl hl.1 (Nat.le_of_ble_eq_true rfl) dX5_foresee_6 ⟨Nat.le_of_ble_eq_true rfl, Nat.le_of_ble_eq_true rfl⟩ rfl) (fun h0 En ce q9 H1 locs1 hE hH hcell hv hcl => by have hf := kneg h0 hf; cases hf; exact kx_prop V XV hH h0 hE hcell hv hcl (by decide) (by decide)) (fun h0 H locs hH => ?_)
  have hf := kpos h0 hf
  refine lv_aload_n hx hb dX5_foresee_9 rfl (lv_at hl 0 rfl) ?_
  refine kg_X5_25 V hH dX5_foresee_10 ?_
  refine lv_aload_n hx hb dX5_foresee_13 rfl (lv_at hl 0 rfl) ?_
  refine kg_X5_21 V hH dX5_foresee_14 ?_
  obtain ⟨x0_3, hx0_3, hf⟩ := kbind hf
  refine kr_callv0 hH (kr_runV (as := [.ref (ad 15)]) (rest := []) (pl := 30) V hH kYX4_startFrom kl_X5_160 (c_X4_startFrom l hx0_3 _) rfl rfl ⟨Nat.le_of_ble_eq_true rfl, Nat.le_of_ble_eq_true rfl⟩ (kq_B k30) (kE_w0 k30) rfl rfl hl.1 (Nat.le_of_ble_eq_true rfl) dX5_foresee_17 ⟨Nat.le_of_ble_eq_true rfl, Nat.le_of_ble_eq_true rfl⟩ rfl) (fun H locs hH => ?_)
  refine lv_aload_n hx hb dX5_foresee_20 rfl (lv_at hl 0 rfl) ?_
  refine kg_X5_25 V hH dX5_foresee_21 ?_
  refine lv_iload_n hx hb dX5_foresee_24 rfl (lv_at hl 1 rfl) ?_
  obtain ⟨x0_4, hx0_4, hf⟩ := kbind hf
  refine kr_calli0 hH (kr_runV (as := [.int v1]) (rest := []) (pl := 30) V hH kYX4_letPass kl_X5_157 (c_X4_letPass l k30 _ hx0_4 _) rfl rfl ⟨Nat.le_of_ble_eq_true rfl, Nat.le_of_ble_eq_true rfl⟩ (kq_B k30) (kE_w0 k30) rfl rfl hl.1 (Nat.le_of_ble_eq_true rfl) dX5_foresee_25 ⟨Nat.le_of_ble_eq_true rfl, Nat.le_of_ble_eq_true rfl⟩ rfl) (fun H locs hH => ?_)
  refine lv_pop hx hb dX5_foresee_28 rfl ?_
  refine lv_aload_n hx hb dX5_foresee_29 rfl (lv_at hl 0 rfl) ?_
  refine kg_X5_25 V hH dX5_foresee_30 ?_
  refine kg_X5_81 k30 V hH dX5_foresee_33 ?_
  refine lv_iload_n hx hb dX5_foresee_36 rfl (lv_at hl 2 rfl) ?_
  obtain ⟨x0_5, hx0_5, hf⟩ := kbind hf
  refine kr_calli0 hH (kr_runV (as := [.int v2]) (rest := []) (pl := (30 + 1)) V hH kYX1_rulerOf kl_X5_108 (c_X1_rulerOf l k30 _ hx0_5 _) rfl rfl ⟨Nat.le_of_ble_eq_true rfl, Nat.le_of_ble_eq_true rfl⟩ (kq_w k30 (by decide)) (kE_w1 k30) rfl rfl hl.1 (Nat.le_of_ble_eq_true rfl) dX5_foresee_37 ⟨Nat.le_of_ble_eq_true rfl, Nat.le_of_ble_eq_true rfl⟩ rfl) (fun H locs hH => ?_)
  cases hf
  exact kx_iret V hH (by decide) (by decide) dX5_foresee_40
set_option maxHeartbeats 4000000 in
set_option maxRecDepth 100000 in
theorem c_X5_foresee (l : Launch) (hst : l.stackTraces = false) {D : va_G} {cI cZ cO : ClassId} {ad : Nat → Nat} {k mo : kS} (v1 : Int32) (v2 : Int32) {out : ((Nat × Int32) × kS)} (hf : F_X5_foresee v1 v2 k = some out) (sz : Nat) : vx_Met l yX5_foresee (Cond.code yX5_foresee cX5_foresee 3 (some .int) :: kWA) rm_X5_foresee (kPX [.ref (ad 0), .int v1, .int v2] D cI cZ cO ad (kE ad cI cZ cO k mo) sz) (kXi out.1.1 out.1.2 D cI cZ cO ad (kE ad cI cZ cO out.2 mo) sz) (kXC out.1.1 D cI cZ cO ad (kE ad cI cZ cO out.2 mo) sz) 4 24 (fA ad sz) := by
  refine kx_met (as := [.ref (ad 0), .int v1, .int v2]) (bytes := cX5_foresee) (maxL := 3) (rt := (some .int)) (Qc := fun sz => (kXi out.1.1 out.1.2 D cI cZ cO ad (kE ad cI cZ cO out.2 mo) sz)) (XC := fun sz => (kXC out.1.1 D cI cZ cO ad (kE ad cI cZ cO out.2 mo) sz)) (lv := [(0, .ref (ad 0)), (1, .int v1), (2, .int v2)]) hst (by decide +kernel) (Nat.le_of_ble_eq_true rfl) rfl (fun p e s mm below meth c ls V XV hH hl => ?_) sz
  exact w_X5_foresee_0 V XV hH (lv_sub hl [0, 1, 2] rfl) hf
end
section
variable {p : Program} {l : Launch} {e : Env} {s : State} {mm : MethodId} {args : Array Value} {below : List Frame} {meth : Method} {c : Code} {D : va_G} {cI cZ cO : ClassId} {ad : Nat → Nat}
abbrev rm_X5_best : Room := { frames := 7, cells := 4, slots := 24, locals := 121 }
set_option maxHeartbeats 4000000 in
set_option maxRecDepth 100000 in
theorem w_X5_best_63 (V : kV p s mm args meth c cX5_best RX5 6 (some .int) D cI cZ cO) {k mo : kS} (XV : kVX l s ad c) {c12 : Int32 → Int32 → Int32 → Int32 → Option ((Nat × Int32))} (hk12 : ∀ {v1 : Int32} {v2 : Int32} {v3 : Int32} {v4 : Int32} {H : Heap} {locs : List Loc} {ls : Array Slot} {out : (Nat × Int32)}, kHE s H locs D ad cI cZ cO k mo [] → lv_has ls 6 [(0, .ref (ad 0)), (1, .int v1), (2, .int v2), (3, .int v3), (4, .int v4)] → c12 v1 v2 v3 v4 = some out → W p l e rm_X5_best s mm args below meth c H locs 1 6 (kGXi below args s D cI cZ cO ad out.1 out.2 k mo 4 24) (F0 mm 12 ls [])) {v1 : Int32} {v2 : Int32} {v3 : Int32} {v4 : Int32} {H : Heap} {locs : List Loc} {ls : Array Slot} {out : (Nat × Int32)} (hH : kHE s H locs D ad cI cZ cO k mo []) (hl : lv_has ls 6 [(0, .ref (ad 0)), (1, .int v1), (2, .int v2), (3, .int v3), (4, .int v4)]) (hf : F_X5_best_63 k c12 v1 v2 v3 v4 = some out) : W p l e rm_X5_best s mm args below meth c H locs 1 6 (kGXi below args s D cI cZ cO ad out.1 out.2 k mo 4 24) (F0 mm 63 ls []) := by
  have hx := V.1
  have hb := V.2.1
  refine lv_iinc (v := (v4 + 1)) (lv' := [(4, .int (v4 + 1)), (0, .ref (ad 0)), (1, .int v1), (2, .int v2), (3, .int v3)]) hx hb dX5_best_63 hl (k := 4) rfl rfl (by decide) rfl (fun ls hl => ?_)
  refine lv_goto (tgt := 12) hx hb dX5_best_66 (by decide) ?_
  refine W.widen (k := 1) (n := 6) (by decide) (by decide) ?_
  exact hk12 hH (lv_sub hl [1, 2, 3, 4, 0] rfl) hf
set_option maxHeartbeats 4000000 in
set_option maxRecDepth 100000 in
theorem w_X5_best_57 (V : kV p s mm args meth c cX5_best RX5 6 (some .int) D cI cZ cO) {k mo : kS} (XV : kVX l s ad c) {c12 : Int32 → Int32 → Int32 → Int32 → Option ((Nat × Int32))} (hk12 : ∀ {v1 : Int32} {v2 : Int32} {v3 : Int32} {v4 : Int32} {H : Heap} {locs : List Loc} {ls : Array Slot} {out : (Nat × Int32)}, kHE s H locs D ad cI cZ cO k mo [] → lv_has ls 6 [(0, .ref (ad 0)), (1, .int v1), (2, .int v2), (3, .int v3), (4, .int v4)] → c12 v1 v2 v3 v4 = some out → W p l e rm_X5_best s mm args below meth c H locs 1 6 (kGXi below args s D cI cZ cO ad out.1 out.2 k mo 4 24) (F0 mm 12 ls [])) {v1 : Int32} {v4 : Int32} {v5 : Int32} {H : Heap} {locs : List Loc} {ls : Array Slot} {out : (Nat × Int32)} (hH : kHE s H locs D ad cI cZ cO k mo []) (hl : lv_has ls 6 [(0, .ref (ad 0)), (1, .int v1), (4, .int v4), (5, .int v5)]) (hf : F_X5_best_57 k c12 v1 v4 v5 = some out) : W p l e rm_X5_best s mm args below meth c H locs 1 6 (kGXi below args s D cI cZ cO ad out.1 out.2 k mo 4 24) (F0 mm 57 ls []) := by
  have hx := V.1
  have hb := V.2.1
  refine lv_iload hx hb dX5_best_57 (lv_at hl 2 rfl) ?_
  refine lv_istore_n (lv' := [(2, .int v4), (0, .ref (ad 0)), (1, .int v1), (4, .int v4), (5, .int v5)]) hx hb dX5_best_59 rfl hl (by decide) rfl (fun ls hl => ?_)
  refine lv_iload hx hb dX5_best_60 (lv_at hl 4 rfl) ?_
  refine lv_istore_n (lv' := [(3, .int v5), (2, .int v4), (0, .ref (ad 0)), (1, .int v1), (4, .int v4), (5, .int v5)]) hx hb dX5_best_62 rfl hl (by decide) rfl (fun ls hl => ?_)
  refine W.widen (k := 1) (n := 6) (by decide) (by decide) ?_
  exact w_X5_best_63 V XV hk12 hH (lv_sub hl [2, 3, 1, 0, 4] rfl) hf
set_option maxHeartbeats 4000000 in
set_option maxRecDepth 100000 in
theorem w_X5_best_44 (V : kV p s mm args meth c cX5_best RX5 6 (some .int) D cI cZ cO) {k mo : kS} (XV : kVX l s ad c) {c12 : Int32 → Int32 → Int32 → Int32 → Option ((Nat × Int32))} (hk12 : ∀ {v1 : Int32} {v2 : Int32} {v3 : Int32} {v4 : Int32} {H : Heap} {locs : List Loc} {ls : Array Slot} {out : (Nat × Int32)}, kHE s H locs D ad cI cZ cO k mo [] → lv_has ls 6 [(0, .ref (ad 0)), (1, .int v1), (2, .int v2), (3, .int v3), (4, .int v4)] → c12 v1 v2 v3 v4 = some out → W p l e rm_X5_best s mm args below meth c H locs 1 6 (kGXi below args s D cI cZ cO ad out.1 out.2 k mo 4 24) (F0 mm 12 ls [])) {v1 : Int32} {v2 : Int32} {v3 : Int32} {v4 : Int32} {v5 : Int32} {H : Heap} {locs : List Loc} {ls : Array Slot} {out : (Nat × Int32)} (hH : kHE s H locs D ad cI cZ cO k mo []) (hl : lv_has ls 6 [(0, .ref (ad 0)), (1, .int v1), (2, .int v2), (3, .int v3), (4, .int v4), (5, .int v5)]) (hf : F_X5_best_44 k c12 v1 v2 v3 v4 v5 = some out) : W p l e rm_X5_best s mm args below meth c H locs 1 6 (kGXi below args s D cI cZ cO ad out.1 out.2 k mo 4 24) (F0 mm 44 ls []) := by
  have hx := V.1
  have hb := V.2.1
  refine lv_aload_n hx hb dX5_best_44 rfl (lv_at hl 0 rfl) ?_
  refine kg_X5_21 V hH dX5_best_45 ?_
  refine lv_iload_n hx hb dX5_best_48 rfl (lv_at hl 1 rfl) ?_
  refine lv_iload hx hb dX5_best_49 (lv_at hl 4 rfl) ?_
  obtain ⟨x44_1, hx44_1, hf⟩ := kbind hf
  refine kr_calli0 hH (kr_runV (as := [.int v1, .int v4]) (rest := []) (pl := 15) V hH kYX4_mayMarry kl_X5_102 (c_X4_mayMarry l k15 _ _ hx44_1 _) rfl rfl ⟨Nat.le_of_ble_eq_true rfl, Nat.le_of_ble_eq_true rfl⟩ (kq_B k15) (kE_w0 k15) rfl rfl hl.1 (Nat.le_of_ble_eq_true rfl) dX5_best_51 ⟨Nat.le_of_ble_eq_true rfl, Nat.le_of_ble_eq_true rfl⟩ rfl) (fun H locs hH => ?_)
  refine lv_if_eq (tgt := 63) hx hb dX5_best_54 (by decide) (fun hq => ?_) (fun hq => ?_)
  · have hf := kpos hq hf
    refine W.widen (k := 1) (n := 6) (by decide) (by decide) ?_
    exact w_X5_best_63 V XV hk12 hH (lv_sub hl [0, 1, 2, 3, 4] rfl) hf
  · have hf := kneg hq hf
    refine W.widen (k := 1) (n := 6) (by decide) (by decide) ?_
    exact w_X5_best_57 V XV hk12 hH (lv_sub hl [0, 1, 4, 5] rfl) hf
set_option maxHeartbeats 4000000 in
set_option maxRecDepth 100000 in
theorem w_X5_best_24 (V : kV p s mm args meth c cX5_best RX5 6 (some .int) D cI cZ cO) {k mo : kS} (XV : kVX l s ad c) {c12 : Int32 → Int32 → Int32 → Int32 → Option ((Nat × Int32))} (hk12 : ∀ {v1 : Int32} {v2 : Int32} {v3 : Int32} {v4 : Int32} {H : Heap} {locs : List Loc} {ls : Array Slot} {out : (Nat × Int32)}, kHE s H locs D ad cI cZ cO k mo [] → lv_has ls 6 [(0, .ref (ad 0)), (1, .int v1), (2, .int v2), (3, .int v3), (4, .int v4)] → c12 v1 v2 v3 v4 = some out → W p l e rm_X5_best s mm args below meth c H locs 1 6 (kGXi below args s D cI cZ cO ad out.1 out.2 k mo 4 24) (F0 mm 12 ls [])) {v1 : Int32} {v2 : Int32} {v3 : Int32} {v4 : Int32} {H : Heap} {locs : List Loc} {ls : Array Slot} {out : (Nat × Int32)} (hH : kHE s H locs D ad cI cZ cO k mo []) (hl : lv_has ls 6 [(0, .ref (ad 0)), (1, .int v1), (2, .int v2), (3, .int v3), (4, .int v4)]) (hf : F_X5_best_24 k c12 v1 v2 v3 v4 = some out) : W p l e rm_X5_best s mm args below meth c H locs 1 6 (kGXi below args s D cI cZ cO ad out.1 out.2 k mo 4 24) (F0 mm 24 ls []) := by
  have hx := V.1
  have hb := V.2.1
  refine lv_aload_n hx hb dX5_best_24 rfl (lv_at hl 0 rfl) ?_
  refine kg_X5_21 V hH dX5_best_25 ?_
  refine kg_X5_81 k15 V hH dX5_best_28 ?_
  refine lv_iload hx hb dX5_best_31 (lv_at hl 4 rfl) ?_
  obtain ⟨x24_1, hx24_1, hf⟩ := kbind hf
  refine kr_calli0 hH (kr_runV (as := [.int v4]) (rest := []) (pl := (15 + 1)) V hH kYX1_worthUnder kl_X5_117 (c_X1_worthUnder l k15 _ hx24_1 _) rfl rfl ⟨Nat.le_of_ble_eq_true rfl, Nat.le_of_ble_eq_true rfl⟩ (kq_w k15 (by decide)) (kE_w1 k15) rfl rfl hl.1 (Nat.le_of_ble_eq_true rfl) dX5_best_33 ⟨Nat.le_of_ble_eq_true rfl, Nat.le_of_ble_eq_true rfl⟩ rfl) (fun H locs hH => ?_)
  refine lv_istore (lv' := [(5, .int x24_1), (0, .ref (ad 0)), (1, .int v1), (2, .int v2), (3, .int v3), (4, .int v4)]) hx hb dX5_best_36 hl (by decide) rfl (fun ls hl => ?_)
  refine lv_iload hx hb dX5_best_38 (lv_at hl 0 rfl) ?_
  refine lv_iload_n hx hb dX5_best_40 rfl (lv_at hl 4 rfl) ?_
  refine lv_icmp_le (tgt := 63) hx hb dX5_best_41 (by decide) (fun hq => ?_) (fun hq => ?_)
  · have hf := kpos hq hf
    refine W.widen (k := 1) (n := 6) (by decide) (by decide) ?_
    exact w_X5_best_63 V XV hk12 hH (lv_sub hl [1, 2, 3, 4, 5] rfl) hf
  · have hf := kneg hq hf
    refine W.widen (k := 1) (n := 6) (by decide) (by decide) ?_
    exact w_X5_best_44 V XV hk12 hH (lv_sub hl [1, 2, 3, 4, 5, 0] rfl) hf
set_option maxHeartbeats 4000000 in
set_option maxRecDepth 100000 in
theorem w_X5_best_69 (V : kV p s mm args meth c cX5_best RX5 6 (some .int) D cI cZ cO) {k mo : kS} (XV : kVX l s ad c) {v2 : Int32} {H : Heap} {locs : List Loc} {ls : Array Slot} {out : (Nat × Int32)} (hH : kHE s H locs D ad cI cZ cO k mo []) (hl : lv_has ls 6 [(2, .int v2)]) (hf : F_X5_best_69 k v2 = some out) : W p l e rm_X5_best s mm args below meth c H locs 1 6 (kGXi below args s D cI cZ cO ad out.1 out.2 k mo 4 24) (F0 mm 69 ls []) := by
  have hx := V.1
  have hb := V.2.1
  refine lv_iload_n hx hb dX5_best_69 rfl (lv_at hl 0 rfl) ?_
  cases hf
  exact kx_iret V hH (by decide) (by decide) dX5_best_70
set_option maxHeartbeats 4000000 in
set_option maxRecDepth 100000 in
theorem w_X5_best_12 (V : kV p s mm args meth c cX5_best RX5 6 (some .int) D cI cZ cO) {k mo : kS} (XV : kVX l s ad c) : ∀ (n : Nat) {v1 : Int32} {v2 : Int32} {v3 : Int32} {v4 : Int32} {H : Heap} {locs : List Loc} {ls : Array Slot} {out : (Nat × Int32)}, kHE s H locs D ad cI cZ cO k mo [] → lv_has ls 6 [(0, .ref (ad 0)), (1, .int v1), (2, .int v2), (3, .int v3), (4, .int v4)] → F_X5_best_12 k n v1 v2 v3 v4 = some out → W p l e rm_X5_best s mm args below meth c H locs 1 6 (kGXi below args s D cI cZ cO ad out.1 out.2 k mo 4 24) (F0 mm 12 ls []) := by
  have hx := V.1
  have hb := V.2.1
  intro n
  induction n with
  | zero => intro _ _ _ _ _ _ _ _ hH hl hf; cases hf
  | succ n hk12 =>
    intro v1 v2 v3 v4 H locs ls out hH hl hf
    refine lv_iload hx hb dX5_best_12 (lv_at hl 4 rfl) ?_
    refine lv_aload_n hx hb dX5_best_14 rfl (lv_at hl 0 rfl) ?_
    refine kg_X5_10 V hH dX5_best_15 ?_
    refine kg_X5_167 V hH dX5_best_18 ?_
    refine lv_icmp_ge (tgt := 69) hx hb dX5_best_21 (by decide) (fun hq => ?_) (fun hq => ?_)
    · have hf := kpos hq hf
      refine W.widen (k := 1) (n := 6) (by decide) (by decide) ?_
      exact w_X5_best_69 V XV hH (lv_sub hl [2] rfl) hf
    · have hf := kneg hq hf
      refine W.widen (k := 1) (n := 6) (by decide) (by decide) ?_
      exact w_X5_best_24 V XV hk12 hH (lv_sub hl [0, 1, 2, 3, 4] rfl) hf
set_option maxHeartbeats 4000000 in
set_option maxRecDepth 100000 in
theorem w_X5_best_0 (V : kV p s mm args meth c cX5_best RX5 6 (some .int) D cI cZ cO) {k mo : kS} (XV : kVX l s ad c) {v1 : Int32} {H : Heap} {locs : List Loc} {ls : Array Slot} {out : (Nat × Int32)} (hH : kHE s H locs D ad cI cZ cO k mo []) (hl : lv_has ls 6 [(0, .ref (ad 0)), (1, .int v1)]) (hf : F_X5_best_0 k v1 = some out) : W p l e rm_X5_best s mm args below meth c H locs 0 0 (kGXi below args s D cI cZ cO ad out.1 out.2 k mo 4 24) (F0 mm 0 ls []) := by
  have hx := V.1
  have hb := V.2.1
  refine lv_aload_n hx hb dX5_best_0 rfl (lv_at hl 0 rfl) ?_
  refine lv_iload_n hx hb dX5_best_1 rfl (lv_at hl 1 rfl) ?_
  obtain ⟨x0_1, hx0_1, hf⟩ := kbind hf
  refine kx_callv hH (kx_runV (as := [.int v1]) (rest := []) (pl := 0) V XV.2.1 hH kYX5_needPerson kl_X5_52 (c_X5_needPerson l XV.1 _ hx0_1 _) rfl rfl ⟨Nat.le_of_ble_eq_true rfl, Nat.le_of_ble_eq_true rfl⟩ (by decide) kE_0 rfl rfl hl.1 (Nat.le_of_ble_eq_true rfl) dX5_best_2 ⟨Nat.le_of_ble_eq_true rfl, Nat.le_of_ble_eq_true rfl⟩ rfl) (fun h0 En ce q9 H1 locs1 hE hH hcell hv hcl => by have hf := kneg h0 hf; cases hf; exact kx_prop V XV hH h0 hE hcell hv hcl (by decide) (by decide)) (fun h0 H locs hH => ?_)
  have hf := kpos h0 hf
  refine lv_iconst (v := (-1)) hx hb dX5_best_5 (by decide) ?_
  refine lv_istore_n (lv' := [(2, .int (-1)), (0, .ref (ad 0)), (1, .int v1)]) hx hb dX5_best_6 rfl hl (by decide) rfl (fun ls hl => ?_)
  refine lv_iconst (v := (-1)) hx hb dX5_best_7 (by decide) ?_
  refine lv_istore_n (lv' := [(3, .int (-1)), (2, .int (-1)), (0, .ref (ad 0)), (1, .int v1)]) hx hb dX5_best_8 rfl hl (by decide) rfl (fun ls hl => ?_)
  refine lv_iconst (v := 0) hx hb dX5_best_9 (by decide) ?_
  refine lv_istore (lv' := [(4, .int 0), (3, .int (-1)), (2, .int (-1)), (0, .ref (ad 0)), (1, .int v1)]) hx hb dX5_best_10 hl (by decide) rfl (fun ls hl => ?_)
  refine W.widen (k := 1) (n := 6) (by decide) (by decide) ?_
  exact w_X5_best_12 V XV kN hH (lv_sub hl [3, 4, 2, 1, 0] rfl) hf
set_option maxHeartbeats 4000000 in
set_option maxRecDepth 100000 in
theorem c_X5_best (l : Launch) (hst : l.stackTraces = false) {D : va_G} {cI cZ cO : ClassId} {ad : Nat → Nat} {k mo : kS} (v1 : Int32) {out : (Nat × Int32)} (hf : F_X5_best k v1 = some out) (sz : Nat) : vx_Met l yX5_best (Cond.code yX5_best cX5_best 6 (some .int) :: kWA) rm_X5_best (kPX [.ref (ad 0), .int v1] D cI cZ cO ad (kE ad cI cZ cO k mo) sz) (kXi out.1 out.2 D cI cZ cO ad (kE ad cI cZ cO k mo) sz) (kXC out.1 D cI cZ cO ad (kE ad cI cZ cO k mo) sz) 4 24 (fA ad sz) := by
  refine kx_met (as := [.ref (ad 0), .int v1]) (bytes := cX5_best) (maxL := 6) (rt := (some .int)) (Qc := fun sz => (kXi out.1 out.2 D cI cZ cO ad (kE ad cI cZ cO k mo) sz)) (XC := fun sz => (kXC out.1 D cI cZ cO ad (kE ad cI cZ cO k mo) sz)) (lv := [(0, .ref (ad 0)), (1, .int v1)]) hst (by decide +kernel) (Nat.le_of_ble_eq_true rfl) rfl (fun p e s mm below meth c ls V XV hH hl => ?_) sz
  exact w_X5_best_0 V XV hH (lv_sub hl [0, 1] rfl) hf
end
section
variable {p : Program} {l : Launch} {e : Env} {s : State} {mm : MethodId} {args : Array Value} {below : List Frame} {meth : Method} {c : Code} {D : va_G} {cI cZ cO : ClassId} {ad : Nat → Nat}
abbrev rm_X5_mean : Room := { frames := 2, cells := 0, slots := 0, locals := 42 }
set_option maxHeartbeats 4000000 in
set_option maxRecDepth 100000 in
theorem w_X5_mean_42 (V : kV p s mm args meth c cX5_mean RX5 4 (some .double) D cI cZ cO) {k mo : kS} {c6 : Int32 → Int32 → Int32 → Option (UInt64)} (hk6 : ∀ {v1 : Int32} {v2 : Int32} {v3 : Int32} {H : Heap} {locs : List Loc} {ls : Array Slot} {out : UInt64}, kHE s H locs D ad cI cZ cO k mo [] → lv_has ls 4 [(0, .ref (ad 0)), (1, .int v1), (2, .int v2), (3, .int v3)] → c6 v1 v2 v3 = some out → W p l e rm_X5_mean s mm args below meth c H locs 0 0 (kGd below args s D cI cZ cO ad out k mo 0 0) (F0 mm 6 ls [])) {v1 : Int32} {v2 : Int32} {v3 : Int32} {H : Heap} {locs : List Loc} {ls : Array Slot} {out : UInt64} (hH : kHE s H locs D ad cI cZ cO k mo []) (hl : lv_has ls 4 [(0, .ref (ad 0)), (1, .int v1), (2, .int v2), (3, .int v3)]) (hf : F_X5_mean_42 k c6 v1 v2 v3 = some out) : W p l e rm_X5_mean s mm args below meth c H locs 0 0 (kGd below args s D cI cZ cO ad out k mo 0 0) (F0 mm 42 ls []) := by
  have hx := V.1
  have hb := V.2.1
  refine lv_iinc (v := (v3 + 1)) (lv' := [(3, .int (v3 + 1)), (0, .ref (ad 0)), (1, .int v1), (2, .int v2)]) hx hb dX5_mean_42 hl (k := 3) rfl rfl (by decide) rfl (fun ls hl => ?_)
  refine lv_goto (tgt := 6) hx hb dX5_mean_45 (by decide) ?_
  exact hk6 hH (lv_sub hl [1, 2, 3, 0] rfl) hf
set_option maxHeartbeats 4000000 in
set_option maxRecDepth 100000 in
theorem w_X5_mean_28 (V : kV p s mm args meth c cX5_mean RX5 4 (some .double) D cI cZ cO) {k mo : kS} {c6 : Int32 → Int32 → Int32 → Option (UInt64)} (hk6 : ∀ {v1 : Int32} {v2 : Int32} {v3 : Int32} {H : Heap} {locs : List Loc} {ls : Array Slot} {out : UInt64}, kHE s H locs D ad cI cZ cO k mo [] → lv_has ls 4 [(0, .ref (ad 0)), (1, .int v1), (2, .int v2), (3, .int v3)] → c6 v1 v2 v3 = some out → W p l e rm_X5_mean s mm args below meth c H locs 0 0 (kGd below args s D cI cZ cO ad out k mo 0 0) (F0 mm 6 ls [])) {v1 : Int32} {v2 : Int32} {v3 : Int32} {H : Heap} {locs : List Loc} {ls : Array Slot} {out : UInt64} (hH : kHE s H locs D ad cI cZ cO k mo []) (hl : lv_has ls 4 [(0, .ref (ad 0)), (1, .int v1), (2, .int v2), (3, .int v3)]) (hf : F_X5_mean_28 k c6 v1 v2 v3 = some out) : W p l e rm_X5_mean s mm args below meth c H locs 0 0 (kGd below args s D cI cZ cO ad out k mo 0 0) (F0 mm 28 ls []) := by
  have hx := V.1
  have hb := V.2.1
  refine lv_iinc (v := (v1 + 1)) (lv' := [(1, .int (v1 + 1)), (0, .ref (ad 0)), (2, .int v2), (3, .int v3)]) hx hb dX5_mean_28 hl (k := 1) rfl rfl (by decide) rfl (fun ls hl => ?_)
  refine lv_iload_n hx hb dX5_mean_31 rfl (lv_at hl 2 rfl) ?_
  refine lv_aload_n hx hb dX5_mean_32 rfl (lv_at hl 1 rfl) ?_
  refine kg_X5_21 V hH dX5_mean_33 ?_
  refine lv_iload_n hx hb dX5_mean_36 rfl (lv_at hl 3 rfl) ?_
  obtain ⟨x28_1, hx28_1, hf⟩ := kbind hf
  refine kr_calli0 hH (kr_runV (as := [.int v3]) (rest := [.int v2]) (pl := 15) V hH kYX4_age kl_X5_170 (c_X4_age l k15 _ hx28_1 _) rfl rfl ⟨Nat.le_of_ble_eq_true rfl, Nat.le_of_ble_eq_true rfl⟩ (kq_B k15) (kE_w0 k15) rfl rfl hl.1 (Nat.le_of_ble_eq_true rfl) dX5_mean_37 ⟨Nat.le_refl _, Nat.le_refl _⟩ rfl) (fun H locs hH => ?_)
  refine lv_iadd hx hb dX5_mean_40 ?_
  refine lv_istore_n (lv' := [(2, .int (v2 + x28_1)), (1, .int (v1 + 1)), (0, .ref (ad 0)), (3, .int v3)]) hx hb dX5_mean_41 rfl hl (by decide) rfl (fun ls hl => ?_)
  exact w_X5_mean_42 V hk6 hH (lv_sub hl [2, 1, 0, 3] rfl) hf
set_option maxHeartbeats 4000000 in
set_option maxRecDepth 100000 in
theorem w_X5_mean_17 (V : kV p s mm args meth c cX5_mean RX5 4 (some .double) D cI cZ cO) {k mo : kS} {c6 : Int32 → Int32 → Int32 → Option (UInt64)} (hk6 : ∀ {v1 : Int32} {v2 : Int32} {v3 : Int32} {H : Heap} {locs : List Loc} {ls : Array Slot} {out : UInt64}, kHE s H locs D ad cI cZ cO k mo [] → lv_has ls 4 [(0, .ref (ad 0)), (1, .int v1), (2, .int v2), (3, .int v3)] → c6 v1 v2 v3 = some out → W p l e rm_X5_mean s mm args below meth c H locs 0 0 (kGd below args s D cI cZ cO ad out k mo 0 0) (F0 mm 6 ls [])) {v1 : Int32} {v2 : Int32} {v3 : Int32} {H : Heap} {locs : List Loc} {ls : Array Slot} {out : UInt64} (hH : kHE s H locs D ad cI cZ cO k mo []) (hl : lv_has ls 4 [(0, .ref (ad 0)), (1, .int v1), (2, .int v2), (3, .int v3)]) (hf : F_X5_mean_17 k c6 v1 v2 v3 = some out) : W p l e rm_X5_mean s mm args below meth c H locs 0 0 (kGd below args s D cI cZ cO ad out k mo 0 0) (F0 mm 17 ls []) := by
  have hx := V.1
  have hb := V.2.1
  refine lv_aload_n hx hb dX5_mean_17 rfl (lv_at hl 0 rfl) ?_
  refine kg_X5_21 V hH dX5_mean_18 ?_
  refine lv_iload_n hx hb dX5_mean_21 rfl (lv_at hl 3 rfl) ?_
  obtain ⟨x17_1, hx17_1, hf⟩ := kbind hf
  refine kr_calli0 hH (kr_runV (as := [.int v3]) (rest := []) (pl := 15) V hH kYX4_lives kl_X5_70 (c_X4_lives l k15 _ hx17_1 _) rfl rfl ⟨Nat.le_of_ble_eq_true rfl, Nat.le_of_ble_eq_true rfl⟩ (kq_B k15) (kE_w0 k15) rfl rfl hl.1 (Nat.le_of_ble_eq_true rfl) dX5_mean_22 ⟨Nat.le_refl _, Nat.le_refl _⟩ rfl) (fun H locs hH => ?_)
  refine lv_if_eq (tgt := 42) hx hb dX5_mean_25 (by decide) (fun hq => ?_) (fun hq => ?_)
  · have hf := kpos hq hf
    exact w_X5_mean_42 V hk6 hH (lv_sub hl [0, 1, 2, 3] rfl) hf
  · have hf := kneg hq hf
    exact w_X5_mean_28 V hk6 hH (lv_sub hl [0, 1, 2, 3] rfl) hf
set_option maxHeartbeats 4000000 in
set_option maxRecDepth 100000 in
theorem w_X5_mean_61 (V : kV p s mm args meth c cX5_mean RX5 4 (some .double) D cI cZ cO) {k mo : kS} {s0 : UInt64} {H : Heap} {locs : List Loc} {ls : Array Slot} {out : UInt64} (hH : kHE s H locs D ad cI cZ cO k mo []) (hl : lv_has ls 4 []) (hf : F_X5_mean_61 k s0 = some out) : W p l e rm_X5_mean s mm args below meth c H locs 0 0 (kGd below args s D cI cZ cO ad out k mo 0 0) (F0 mm 61 ls [.double s0]) := by
  have hx := V.1
  have hb := V.2.1
  cases hf
  exact kr_dret V hH dX5_mean_61
set_option maxHeartbeats 4000000 in
set_option maxRecDepth 100000 in
theorem w_X5_mean_52 (V : kV p s mm args meth c cX5_mean RX5 4 (some .double) D cI cZ cO) {k mo : kS} {H : Heap} {locs : List Loc} {ls : Array Slot} {out : UInt64} (hH : kHE s H locs D ad cI cZ cO k mo []) (hl : lv_has ls 4 []) (hf : F_X5_mean_52 k = some out) : W p l e rm_X5_mean s mm args below meth c H locs 0 0 (kGd below args s D cI cZ cO ad out k mo 0 0) (F0 mm 52 ls []) := by
  have hx := V.1
  have hb := V.2.1
  refine lv_dconst0 hx hb dX5_mean_52 ?_
  refine lv_goto (tgt := 61) hx hb dX5_mean_53 (by decide) ?_
  exact w_X5_mean_61 V hH (lv_sub hl [] rfl) hf
set_option maxHeartbeats 4000000 in
set_option maxRecDepth 100000 in
theorem w_X5_mean_56 (V : kV p s mm args meth c cX5_mean RX5 4 (some .double) D cI cZ cO) {k mo : kS} {v1 : Int32} {v2 : Int32} {H : Heap} {locs : List Loc} {ls : Array Slot} {out : UInt64} (hH : kHE s H locs D ad cI cZ cO k mo []) (hl : lv_has ls 4 [(1, .int v1), (2, .int v2)]) (hf : F_X5_mean_56 k v1 v2 = some out) : W p l e rm_X5_mean s mm args below meth c H locs 0 0 (kGd below args s D cI cZ cO ad out k mo 0 0) (F0 mm 56 ls []) := by
  have hx := V.1
  have hb := V.2.1
  refine lv_iload_n hx hb dX5_mean_56 rfl (lv_at hl 1 rfl) ?_
  refine lv_i2d hx hb dX5_mean_57 ?_
  refine lv_iload_n hx hb dX5_mean_58 rfl (lv_at hl 0 rfl) ?_
  refine lv_i2d hx hb dX5_mean_59 ?_
  obtain ⟨h56_1, hf⟩ := kif hf
  refine lv_ddiv hx hb dX5_mean_60 (by unfold vf_n64; exact Classical.not_not.mp h56_1) ?_
  exact w_X5_mean_61 V hH (lv_sub hl [] rfl) hf
set_option maxHeartbeats 4000000 in
set_option maxRecDepth 100000 in
theorem w_X5_mean_48 (V : kV p s mm args meth c cX5_mean RX5 4 (some .double) D cI cZ cO) {k mo : kS} {v1 : Int32} {v2 : Int32} {H : Heap} {locs : List Loc} {ls : Array Slot} {out : UInt64} (hH : kHE s H locs D ad cI cZ cO k mo []) (hl : lv_has ls 4 [(1, .int v1), (2, .int v2)]) (hf : F_X5_mean_48 k v1 v2 = some out) : W p l e rm_X5_mean s mm args below meth c H locs 0 0 (kGd below args s D cI cZ cO ad out k mo 0 0) (F0 mm 48 ls []) := by
  have hx := V.1
  have hb := V.2.1
  refine lv_iload_n hx hb dX5_mean_48 rfl (lv_at hl 0 rfl) ?_
  refine lv_if_ne (tgt := 56) hx hb dX5_mean_49 (by decide) (fun hq => ?_) (fun hq => ?_)
  · have hf := kneg hq hf
    exact w_X5_mean_56 V hH (lv_sub hl [0, 1] rfl) hf
  · have hf := kpos hq hf
    exact w_X5_mean_52 V hH (lv_sub hl [] rfl) hf
set_option maxHeartbeats 4000000 in
set_option maxRecDepth 100000 in
theorem w_X5_mean_6 (V : kV p s mm args meth c cX5_mean RX5 4 (some .double) D cI cZ cO) {k mo : kS} : ∀ (n : Nat) {v1 : Int32} {v2 : Int32} {v3 : Int32} {H : Heap} {locs : List Loc} {ls : Array Slot} {out : UInt64}, kHE s H locs D ad cI cZ cO k mo [] → lv_has ls 4 [(0, .ref (ad 0)), (1, .int v1), (2, .int v2), (3, .int v3)] → F_X5_mean_6 k n v1 v2 v3 = some out → W p l e rm_X5_mean s mm args below meth c H locs 0 0 (kGd below args s D cI cZ cO ad out k mo 0 0) (F0 mm 6 ls []) := by
  have hx := V.1
  have hb := V.2.1
  intro n
  induction n with
  | zero => intro _ _ _ _ _ _ _ hH hl hf; cases hf
  | succ n hk6 =>
    intro v1 v2 v3 H locs ls out hH hl hf
    refine lv_iload_n hx hb dX5_mean_6 rfl (lv_at hl 3 rfl) ?_
    refine lv_aload_n hx hb dX5_mean_7 rfl (lv_at hl 0 rfl) ?_
    refine kg_X5_10 V hH dX5_mean_8 ?_
    refine kg_X5_167 V hH dX5_mean_11 ?_
    refine lv_icmp_ge (tgt := 48) hx hb dX5_mean_14 (by decide) (fun hq => ?_) (fun hq => ?_)
    · have hf := kpos hq hf
      exact w_X5_mean_48 V hH (lv_sub hl [1, 2] rfl) hf
    · have hf := kneg hq hf
      exact w_X5_mean_17 V hk6 hH (lv_sub hl [0, 1, 2, 3] rfl) hf
set_option maxHeartbeats 4000000 in
set_option maxRecDepth 100000 in
theorem w_X5_mean_0 (V : kV p s mm args meth c cX5_mean RX5 4 (some .double) D cI cZ cO) {k mo : kS} {H : Heap} {locs : List Loc} {ls : Array Slot} {out : UInt64} (hH : kHE s H locs D ad cI cZ cO k mo []) (hl : lv_has ls 4 [(0, .ref (ad 0))]) (hf : F_X5_mean_0 k = some out) : W p l e rm_X5_mean s mm args below meth c H locs 0 0 (kGd below args s D cI cZ cO ad out k mo 0 0) (F0 mm 0 ls []) := by
  have hx := V.1
  have hb := V.2.1
  refine lv_iconst (v := 0) hx hb dX5_mean_0 (by decide) ?_
  refine lv_istore_n (lv' := [(1, .int 0), (0, .ref (ad 0))]) hx hb dX5_mean_1 rfl hl (by decide) rfl (fun ls hl => ?_)
  refine lv_iconst (v := 0) hx hb dX5_mean_2 (by decide) ?_
  refine lv_istore_n (lv' := [(2, .int 0), (1, .int 0), (0, .ref (ad 0))]) hx hb dX5_mean_3 rfl hl (by decide) rfl (fun ls hl => ?_)
  refine lv_iconst (v := 0) hx hb dX5_mean_4 (by decide) ?_
  refine lv_istore_n (lv' := [(3, .int 0), (2, .int 0), (1, .int 0), (0, .ref (ad 0))]) hx hb dX5_mean_5 rfl hl (by decide) rfl (fun ls hl => ?_)
  exact w_X5_mean_6 V kN hH (lv_sub hl [3, 2, 1, 0] rfl) hf
set_option maxHeartbeats 4000000 in
set_option maxRecDepth 100000 in
theorem c_X5_mean (l : Launch) {D : va_G} {cI cZ cO : ClassId} {ad : Nat → Nat} {k mo : kS} {out : UInt64} (hf : F_X5_mean k = some out) (sz : Nat) : Met l yX5_mean (Cond.code yX5_mean cX5_mean 4 (some .double) :: kWA) rm_X5_mean (kP [.ref (ad 0)] D cI cZ cO ad (kE ad cI cZ cO k mo) sz) (kQd out D cI cZ cO ad (kE ad cI cZ cO k mo) sz) 0 0 (fA ad sz) := by
  refine kr_met (as := [.ref (ad 0)]) (bytes := cX5_mean) (maxL := 4) (rt := (some .double)) (Qc := fun sz => kQd out D cI cZ cO ad (kE ad cI cZ cO k mo) sz) (lv := [(0, .ref (ad 0))]) (by decide +kernel) (Nat.le_of_ble_eq_true rfl) rfl (fun p e s mm below meth c ls V hH hl => ?_) sz
  exact w_X5_mean_0 V hH (lv_sub hl [0] rfl) hf
end
