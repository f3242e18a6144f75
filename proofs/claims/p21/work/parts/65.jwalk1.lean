/-! SIM'S METHODS: walks and contracts -/
section
variable {p : Program} {l : Launch} {e : Env} {s : State} {mm : MethodId} {args : Array Value} {below : List Frame} {meth : Method} {c : Code} {D : va_G} {g : Nat → ClassId} {A : Nat → Prop}
variable {ad : Nat → Nat}
variable {z : kS}
abbrev rm_X8_isBefore : Room := { frames := 0, cells := 0, slots := 0, locals := 0 }
set_option maxHeartbeats 4000000 in
set_option maxRecDepth 100000 in
theorem w_X8_isBefore_46 (V : jV p s mm args meth c cX8_isBefore RX8 2 (some .boolean) D g) (hA : ∀ q, s.heap.size ≤ q → A q) {s0 : Int32} {H : Heap} {locs : List Loc} {ls : Array Slot} {out : Int32} (hH : jH A s H locs D g ad z [] []) (hl : jl_has ls 2 []) (hf : F_X8_isBefore_46 z s0 = some out) : W p l e rm_X8_isBefore s mm args below meth c H locs 0 0 (jGi below args s D g A (fun a => a = ad) out z 0 0) (F0 mm 46 ls [.int s0]) := by
  have hx := V.1
  have hb := V.2.1
  obtain ⟨h46_1, hf⟩ := kif hf
  cases hf
  exact je_zret (G := fun a => a = ad) V rfl hH (Decidable.not_not.mp h46_1) dX8_isBefore_46
set_option maxHeartbeats 4000000 in
set_option maxRecDepth 100000 in
theorem w_X8_isBefore_22 (V : jV p s mm args meth c cX8_isBefore RX8 2 (some .boolean) D g) (hA : ∀ q, s.heap.size ≤ q → A q) {H : Heap} {locs : List Loc} {ls : Array Slot} {out : Int32} (hH : jH A s H locs D g ad z [] []) (hl : jl_has ls 2 []) (hf : F_X8_isBefore_22 z = some out) : W p l e rm_X8_isBefore s mm args below meth c H locs 0 0 (jGi below args s D g A (fun a => a = ad) out z 0 0) (F0 mm 22 ls []) := by
  have hx := V.1
  have hb := V.2.1
  refine lv_iconst (v := 1) hx hb dX8_isBefore_22 (by decide) ?_
  refine lv_goto (tgt := 46) hx hb dX8_isBefore_23 (by decide) ?_
  exact w_X8_isBefore_46 V hA hH (jl_sub hl [] rfl) hf
set_option maxHeartbeats 4000000 in
set_option maxRecDepth 100000 in
theorem w_X8_isBefore_26 (V : jV p s mm args meth c cX8_isBefore RX8 2 (some .boolean) D g) (hA : ∀ q, s.heap.size ≤ q → A q) {H : Heap} {locs : List Loc} {ls : Array Slot} {out : Int32} (hH : jH A s H locs D g ad z [] []) (hl : jl_has ls 2 []) (hf : F_X8_isBefore_26 z = some out) : W p l e rm_X8_isBefore s mm args below meth c H locs 0 0 (jGi below args s D g A (fun a => a = ad) out z 0 0) (F0 mm 26 ls []) := by
  have hx := V.1
  have hb := V.2.1
  refine lv_iconst (v := 0) hx hb dX8_isBefore_26 (by decide) ?_
  refine lv_goto (tgt := 46) hx hb dX8_isBefore_27 (by decide) ?_
  exact w_X8_isBefore_46 V hA hH (jl_sub hl [] rfl) hf
set_option maxHeartbeats 4000000 in
set_option maxRecDepth 100000 in
theorem w_X8_isBefore_11 (V : jV p s mm args meth c cX8_isBefore RX8 2 (some .boolean) D g) (hA : ∀ q, s.heap.size ≤ q → A q) {v0 : Int32} {v1 : Int32} {H : Heap} {locs : List Loc} {ls : Array Slot} {out : Int32} (hH : jH A s H locs D g ad z [] []) (hl : jl_has ls 2 [(0, jv ad 1 v0), (1, jv ad 1 v1)]) (hf : F_X8_isBefore_11 z v0 v1 = some out) : W p l e rm_X8_isBefore s mm args below meth c H locs 0 0 (jGi below args s D g A (fun a => a = ad) out z 0 0) (F0 mm 11 ls []) := by
  have hx := V.1
  have hb := V.2.1
  refine jl_aload_n hx hb dX8_isBefore_11 rfl (lv_at hl.1 0 rfl) ?_
  obtain ⟨h11_1, hf⟩ := kif hf
  refine jg_P V hH h11_1 2 (by decide) kf_X8_33 rfl dX8_isBefore_12 ?_
  refine jl_aload_n hx hb dX8_isBefore_15 rfl (lv_at hl.1 1 rfl) ?_
  obtain ⟨h11_2, hf⟩ := kif hf
  refine jg_P V hH h11_2 2 (by decide) kf_X8_33 rfl dX8_isBefore_16 ?_
  refine lv_icmp_ge (tgt := 26) hx hb dX8_isBefore_19 (by decide) (fun hq => ?_) (fun hq => ?_)
  · have hf := kpos hq hf
    exact w_X8_isBefore_26 V hA hH (jl_sub hl [] rfl) hf
  · have hf := kneg hq hf
    exact w_X8_isBefore_22 V hA hH (jl_sub hl [] rfl) hf
set_option maxHeartbeats 4000000 in
set_option maxRecDepth 100000 in
theorem w_X8_isBefore_41 (V : jV p s mm args meth c cX8_isBefore RX8 2 (some .boolean) D g) (hA : ∀ q, s.heap.size ≤ q → A q) {H : Heap} {locs : List Loc} {ls : Array Slot} {out : Int32} (hH : jH A s H locs D g ad z [] []) (hl : jl_has ls 2 []) (hf : F_X8_isBefore_41 z = some out) : W p l e rm_X8_isBefore s mm args below meth c H locs 0 0 (jGi below args s D g A (fun a => a = ad) out z 0 0) (F0 mm 41 ls []) := by
  have hx := V.1
  have hb := V.2.1
  refine lv_iconst (v := 1) hx hb dX8_isBefore_41 (by decide) ?_
  refine lv_goto (tgt := 46) hx hb dX8_isBefore_42 (by decide) ?_
  exact w_X8_isBefore_46 V hA hH (jl_sub hl [] rfl) hf
set_option maxHeartbeats 4000000 in
set_option maxRecDepth 100000 in
theorem w_X8_isBefore_45 (V : jV p s mm args meth c cX8_isBefore RX8 2 (some .boolean) D g) (hA : ∀ q, s.heap.size ≤ q → A q) {H : Heap} {locs : List Loc} {ls : Array Slot} {out : Int32} (hH : jH A s H locs D g ad z [] []) (hl : jl_has ls 2 []) (hf : F_X8_isBefore_45 z = some out) : W p l e rm_X8_isBefore s mm args below meth c H locs 0 0 (jGi below args s D g A (fun a => a = ad) out z 0 0) (F0 mm 45 ls []) := by
  have hx := V.1
  have hb := V.2.1
  refine lv_iconst (v := 0) hx hb dX8_isBefore_45 (by decide) ?_
  exact w_X8_isBefore_46 V hA hH (jl_sub hl [] rfl) hf
set_option maxHeartbeats 4000000 in
set_option maxRecDepth 100000 in
theorem w_X8_isBefore_30 (V : jV p s mm args meth c cX8_isBefore RX8 2 (some .boolean) D g) (hA : ∀ q, s.heap.size ≤ q → A q) {v0 : Int32} {v1 : Int32} {H : Heap} {locs : List Loc} {ls : Array Slot} {out : Int32} (hH : jH A s H locs D g ad z [] []) (hl : jl_has ls 2 [(0, jv ad 1 v0), (1, jv ad 1 v1)]) (hf : F_X8_isBefore_30 z v0 v1 = some out) : W p l e rm_X8_isBefore s mm args below meth c H locs 0 0 (jGi below args s D g A (fun a => a = ad) out z 0 0) (F0 mm 30 ls []) := by
  have hx := V.1
  have hb := V.2.1
  refine jl_aload_n hx hb dX8_isBefore_30 rfl (lv_at hl.1 0 rfl) ?_
  obtain ⟨h30_1, hf⟩ := kif hf
  refine jg_P V hH h30_1 0 (by decide) kf_X8_22 rfl dX8_isBefore_31 ?_
  refine jl_aload_n hx hb dX8_isBefore_34 rfl (lv_at hl.1 1 rfl) ?_
  obtain ⟨h30_2, hf⟩ := kif hf
  refine jg_P V hH h30_2 0 (by decide) kf_X8_22 rfl dX8_isBefore_35 ?_
  refine lv_icmp_ge (tgt := 45) hx hb dX8_isBefore_38 (by decide) (fun hq => ?_) (fun hq => ?_)
  · have hf := kpos hq hf
    exact w_X8_isBefore_45 V hA hH (jl_sub hl [] rfl) hf
  · have hf := kneg hq hf
    exact w_X8_isBefore_41 V hA hH (jl_sub hl [] rfl) hf
set_option maxHeartbeats 4000000 in
set_option maxRecDepth 100000 in
theorem w_X8_isBefore_0 (V : jV p s mm args meth c cX8_isBefore RX8 2 (some .boolean) D g) (hA : ∀ q, s.heap.size ≤ q → A q) {v0 : Int32} {v1 : Int32} {H : Heap} {locs : List Loc} {ls : Array Slot} {out : Int32} (hH : jH A s H locs D g ad z [] []) (hl : jl_has ls 2 [(0, jv ad 1 v0), (1, jv ad 1 v1)]) (hf : F_X8_isBefore_0 z v0 v1 = some out) : W p l e rm_X8_isBefore s mm args below meth c H locs 0 0 (jGi below args s D g A (fun a => a = ad) out z 0 0) (F0 mm 0 ls []) := by
  have hx := V.1
  have hb := V.2.1
  refine jl_aload_n hx hb dX8_isBefore_0 rfl (lv_at hl.1 0 rfl) ?_
  obtain ⟨h0_1, hf⟩ := kif hf
  refine jg_P V hH h0_1 2 (by decide) kf_X8_33 rfl dX8_isBefore_1 ?_
  refine jl_aload_n hx hb dX8_isBefore_4 rfl (lv_at hl.1 1 rfl) ?_
  obtain ⟨h0_2, hf⟩ := kif hf
  refine jg_P V hH h0_2 2 (by decide) kf_X8_33 rfl dX8_isBefore_5 ?_
  refine lv_icmp_eq (tgt := 30) hx hb dX8_isBefore_8 (by decide) (fun hq => ?_) (fun hq => ?_)
  · have hf := kpos hq hf
    exact w_X8_isBefore_30 V hA hH (jl_sub hl [0, 1] rfl) hf
  · have hf := kneg hq hf
    exact w_X8_isBefore_11 V hA hH (jl_sub hl [0, 1] rfl) hf
set_option maxHeartbeats 4000000 in
set_option maxRecDepth 100000 in
theorem c_X8_isBefore (l : Launch) {D : va_G} {g : Nat → ClassId} {ad : Nat → Nat} {z : kS} (v0 : Int32) (v1 : Int32) {out : Int32} (hf : F_X8_isBefore z v0 v1 = some out) (sz : Nat) : Met l yX8_isBefore (Cond.code yX8_isBefore cX8_isBefore 2 (some .boolean) :: kWA) rm_X8_isBefore (jP [jv ad 1 v0, jv ad 1 v1] D g ad z sz) (jQi out (fun a => a = ad) D g (va_A (jC g ad z) sz) z) 0 0 (va_A (jC g ad z) sz) := by
  refine j_met (as := [jv ad 1 v0, jv ad 1 v1]) (bytes := cX8_isBefore) (maxL := 2) (rt := (some .boolean)) (lv := [(0, jv ad 1 v0), (1, jv ad 1 v1)]) (by decide +kernel) (by simp [lg_sl, jcatv, jcati, jcatr]) (by simp [lv_args, jcatv, jcati, jcatr]) (by simp [jcatv, jcati, jcatr]) (fun p e s mm below meth c ls hsz V hA hH hl => ?_)
  exact w_X8_isBefore_0 V hA hH (jl_sub hl [0, 1] rfl) hf
end
section
variable {p : Program} {l : Launch} {e : Env} {s : State} {mm : MethodId} {args : Array Value} {below : List Frame} {meth : Method} {c : Code} {D : va_G} {g : Nat → ClassId} {A : Nat → Prop}
variable {ad : Nat → Nat}
variable {z : kS}
abbrev rm_X8_isAhead : Room := { frames := 1, cells := 0, slots := 0, locals := 21 }
set_option maxHeartbeats 4000000 in
set_option maxRecDepth 100000 in
theorem w_X8_isAhead_18 (V : jV p s mm args meth c cX8_isAhead RX8 3 (some .boolean) D g) (hA : ∀ q, s.heap.size ≤ q → A q) {H : Heap} {locs : List Loc} {ls : Array Slot} {out : Int32} (hH : jH A s H locs D g ad z [] []) (hl : jl_has ls 3 []) (hf : F_X8_isAhead_18 z = some out) : W p l e rm_X8_isAhead s mm args below meth c H locs 0 0 (jGi below args s D g A (fun a => a = ad) out z 0 0) (F0 mm 18 ls []) := by
  have hx := V.1
  have hb := V.2.1
  refine lv_iconst (v := 1) hx hb dX8_isAhead_18 (by decide) ?_
  obtain ⟨h18_1, hf⟩ := kif hf
  cases hf
  exact je_zret (G := fun a => a = ad) V rfl hH (Decidable.not_not.mp h18_1) dX8_isAhead_19
set_option maxHeartbeats 4000000 in
set_option maxRecDepth 100000 in
theorem w_X8_isAhead_38 (V : jV p s mm args meth c cX8_isAhead RX8 3 (some .boolean) D g) (hA : ∀ q, s.heap.size ≤ q → A q) {H : Heap} {locs : List Loc} {ls : Array Slot} {out : Int32} (hH : jH A s H locs D g ad z [] []) (hl : jl_has ls 3 []) (hf : F_X8_isAhead_38 z = some out) : W p l e rm_X8_isAhead s mm args below meth c H locs 0 0 (jGi below args s D g A (fun a => a = ad) out z 0 0) (F0 mm 38 ls []) := by
  have hx := V.1
  have hb := V.2.1
  refine lv_iconst (v := 0) hx hb dX8_isAhead_38 (by decide) ?_
  obtain ⟨h38_1, hf⟩ := kif hf
  cases hf
  exact je_zret (G := fun a => a = ad) V rfl hH (Decidable.not_not.mp h38_1) dX8_isAhead_39
set_option maxHeartbeats 4000000 in
set_option maxRecDepth 100000 in
theorem w_X8_isAhead_63 (V : jV p s mm args meth c cX8_isAhead RX8 3 (some .boolean) D g) (hA : ∀ q, s.heap.size ≤ q → A q) {s0 : Int32} {H : Heap} {locs : List Loc} {ls : Array Slot} {out : Int32} (hH : jH A s H locs D g ad z [] []) (hl : jl_has ls 3 []) (hf : F_X8_isAhead_63 z s0 = some out) : W p l e rm_X8_isAhead s mm args below meth c H locs 0 0 (jGi below args s D g A (fun a => a = ad) out z 0 0) (F0 mm 63 ls [.int s0]) := by
  have hx := V.1
  have hb := V.2.1
  obtain ⟨h63_1, hf⟩ := kif hf
  cases hf
  exact je_zret (G := fun a => a = ad) V rfl hH (Decidable.not_not.mp h63_1) dX8_isAhead_63
set_option maxHeartbeats 4000000 in
set_option maxRecDepth 100000 in
theorem w_X8_isAhead_58 (V : jV p s mm args meth c cX8_isAhead RX8 3 (some .boolean) D g) (hA : ∀ q, s.heap.size ≤ q → A q) {H : Heap} {locs : List Loc} {ls : Array Slot} {out : Int32} (hH : jH A s H locs D g ad z [] []) (hl : jl_has ls 3 []) (hf : F_X8_isAhead_58 z = some out) : W p l e rm_X8_isAhead s mm args below meth c H locs 0 0 (jGi below args s D g A (fun a => a = ad) out z 0 0) (F0 mm 58 ls []) := by
  have hx := V.1
  have hb := V.2.1
  refine lv_iconst (v := 1) hx hb dX8_isAhead_58 (by decide) ?_
  refine lv_goto (tgt := 63) hx hb dX8_isAhead_59 (by decide) ?_
  exact w_X8_isAhead_63 V hA hH (jl_sub hl [] rfl) hf
set_option maxHeartbeats 4000000 in
set_option maxRecDepth 100000 in
theorem w_X8_isAhead_62 (V : jV p s mm args meth c cX8_isAhead RX8 3 (some .boolean) D g) (hA : ∀ q, s.heap.size ≤ q → A q) {H : Heap} {locs : List Loc} {ls : Array Slot} {out : Int32} (hH : jH A s H locs D g ad z [] []) (hl : jl_has ls 3 []) (hf : F_X8_isAhead_62 z = some out) : W p l e rm_X8_isAhead s mm args below meth c H locs 0 0 (jGi below args s D g A (fun a => a = ad) out z 0 0) (F0 mm 62 ls []) := by
  have hx := V.1
  have hb := V.2.1
  refine lv_iconst (v := 0) hx hb dX8_isAhead_62 (by decide) ?_
  exact w_X8_isAhead_63 V hA hH (jl_sub hl [] rfl) hf
set_option maxHeartbeats 4000000 in
set_option maxRecDepth 100000 in
theorem w_X8_isAhead_55 (V : jV p s mm args meth c cX8_isAhead RX8 3 (some .boolean) D g) (hA : ∀ q, s.heap.size ≤ q → A q) {s0 : Int32} {s1 : Int32} {H : Heap} {locs : List Loc} {ls : Array Slot} {out : Int32} (hH : jH A s H locs D g ad z [] []) (hl : jl_has ls 3 []) (hf : F_X8_isAhead_55 z s0 s1 = some out) : W p l e rm_X8_isAhead s mm args below meth c H locs 0 0 (jGi below args s D g A (fun a => a = ad) out z 0 0) (F0 mm 55 ls [.int s1, .int s0]) := by
  have hx := V.1
  have hb := V.2.1
  refine lv_icmp_ne (tgt := 62) hx hb dX8_isAhead_55 (by decide) (fun hq => ?_) (fun hq => ?_)
  · have hf := kneg hq hf
    exact w_X8_isAhead_62 V hA hH (jl_sub hl [] rfl) hf
  · have hf := kpos hq hf
    exact w_X8_isAhead_58 V hA hH (jl_sub hl [] rfl) hf
set_option maxHeartbeats 4000000 in
set_option maxRecDepth 100000 in
theorem w_X8_isAhead_50 (V : jV p s mm args meth c cX8_isAhead RX8 3 (some .boolean) D g) (hA : ∀ q, s.heap.size ≤ q → A q) {s0 : Int32} {H : Heap} {locs : List Loc} {ls : Array Slot} {out : Int32} (hH : jH A s H locs D g ad z [] []) (hl : jl_has ls 3 []) (hf : F_X8_isAhead_50 z s0 = some out) : W p l e rm_X8_isAhead s mm args below meth c H locs 0 0 (jGi below args s D g A (fun a => a = ad) out z 0 0) (F0 mm 50 ls [.int s0]) := by
  have hx := V.1
  have hb := V.2.1
  refine lv_iconst (v := 1) hx hb dX8_isAhead_50 (by decide) ?_
  refine lv_goto (tgt := 55) hx hb dX8_isAhead_51 (by decide) ?_
  exact w_X8_isAhead_55 V hA hH (jl_sub hl [] rfl) hf
set_option maxHeartbeats 4000000 in
set_option maxRecDepth 100000 in
theorem w_X8_isAhead_54 (V : jV p s mm args meth c cX8_isAhead RX8 3 (some .boolean) D g) (hA : ∀ q, s.heap.size ≤ q → A q) {s0 : Int32} {H : Heap} {locs : List Loc} {ls : Array Slot} {out : Int32} (hH : jH A s H locs D g ad z [] []) (hl : jl_has ls 3 []) (hf : F_X8_isAhead_54 z s0 = some out) : W p l e rm_X8_isAhead s mm args below meth c H locs 0 0 (jGi below args s D g A (fun a => a = ad) out z 0 0) (F0 mm 54 ls [.int s0]) := by
  have hx := V.1
  have hb := V.2.1
  refine lv_iconst (v := 0) hx hb dX8_isAhead_54 (by decide) ?_
  exact w_X8_isAhead_55 V hA hH (jl_sub hl [] rfl) hf
set_option maxHeartbeats 4000000 in
set_option maxRecDepth 100000 in
theorem w_X8_isAhead_40 (V : jV p s mm args meth c cX8_isAhead RX8 3 (some .boolean) D g) (hA : ∀ q, s.heap.size ≤ q → A q) {v0 : Int32} {v1 : Int32} {v2 : Int32} {H : Heap} {locs : List Loc} {ls : Array Slot} {out : Int32} (hH : jH A s H locs D g ad z [] []) (hl : jl_has ls 3 [(0, jv ad 1 v0), (1, jv ad 1 v1), (2, .int v2)]) (hf : F_X8_isAhead_40 z v0 v1 v2 = some out) : W p l e rm_X8_isAhead s mm args below meth c H locs 0 0 (jGi below args s D g A (fun a => a = ad) out z 0 0) (F0 mm 40 ls []) := by
  have hx := V.1
  have hb := V.2.1
  refine jl_aload_n hx hb dX8_isAhead_40 rfl (lv_at hl.1 0 rfl) ?_
  refine jl_aload_n hx hb dX8_isAhead_41 rfl (lv_at hl.1 1 rfl) ?_
  obtain ⟨x40_1, hx40_1, hf⟩ := kbind hf
  refine jr_calliR0 hA hH (jr_runS (as := [jv ad 1 v0, jv ad 1 v1]) (rest := []) V hH kYX8_isBefore kl_X8_85 (c_X8_isBefore l _ _ hx40_1 _) rfl rfl ⟨Nat.le_of_ble_eq_true rfl, Nat.le_of_ble_eq_true rfl⟩ rfl hl.1.1 (Nat.le_of_ble_eq_true rfl) dX8_isAhead_42 ⟨Nat.le_refl _, Nat.le_refl _⟩ rfl) (fun H locs hH => ?_)
  refine lv_iload_n hx hb dX8_isAhead_45 rfl (lv_at hl.1 2 rfl) ?_
  refine lv_iconst (v := 2) hx hb dX8_isAhead_46 (by decide) ?_
  refine lv_icmp_eq (tgt := 54) hx hb dX8_isAhead_47 (by decide) (fun hq => ?_) (fun hq => ?_)
  · have hf := kpos hq hf
    exact w_X8_isAhead_54 V hA hH (jl_sub hl [] rfl) hf
  · have hf := kneg hq hf
    exact w_X8_isAhead_50 V hA hH (jl_sub hl [] rfl) hf
set_option maxHeartbeats 4000000 in
set_option maxRecDepth 100000 in
theorem w_X8_isAhead_31 (V : jV p s mm args meth c cX8_isAhead RX8 3 (some .boolean) D g) (hA : ∀ q, s.heap.size ≤ q → A q) {v0 : Int32} {v1 : Int32} {v2 : Int32} {H : Heap} {locs : List Loc} {ls : Array Slot} {out : Int32} (hH : jH A s H locs D g ad z [] []) (hl : jl_has ls 3 [(0, jv ad 1 v0), (1, jv ad 1 v1), (2, .int v2)]) (hf : F_X8_isAhead_31 z v0 v1 v2 = some out) : W p l e rm_X8_isAhead s mm args below meth c H locs 0 0 (jGi below args s D g A (fun a => a = ad) out z 0 0) (F0 mm 31 ls []) := by
  have hx := V.1
  have hb := V.2.1
  refine jl_aload_n hx hb dX8_isAhead_31 rfl (lv_at hl.1 0 rfl) ?_
  obtain ⟨h31_1, hf⟩ := kif hf
  refine jg_P V hH h31_1 1 (by decide) kf_X8_26 rfl dX8_isAhead_32 ?_
  refine lv_if_ne (tgt := 40) hx hb dX8_isAhead_35 (by decide) (fun hq => ?_) (fun hq => ?_)
  · have hf := kneg hq hf
    exact w_X8_isAhead_40 V hA hH (jl_sub hl [0, 1, 2] rfl) hf
  · have hf := kpos hq hf
    exact w_X8_isAhead_38 V hA hH (jl_sub hl [] rfl) hf
set_option maxHeartbeats 4000000 in
set_option maxRecDepth 100000 in
theorem w_X8_isAhead_24 (V : jV p s mm args meth c cX8_isAhead RX8 3 (some .boolean) D g) (hA : ∀ q, s.heap.size ≤ q → A q) {v0 : Int32} {v1 : Int32} {v2 : Int32} {H : Heap} {locs : List Loc} {ls : Array Slot} {out : Int32} (hH : jH A s H locs D g ad z [] []) (hl : jl_has ls 3 [(0, jv ad 1 v0), (1, jv ad 1 v1), (2, .int v2)]) (hf : F_X8_isAhead_24 z v0 v1 v2 = some out) : W p l e rm_X8_isAhead s mm args below meth c H locs 0 0 (jGi below args s D g A (fun a => a = ad) out z 0 0) (F0 mm 24 ls []) := by
  have hx := V.1
  have hb := V.2.1
  refine jl_aload_n hx hb dX8_isAhead_24 rfl (lv_at hl.1 1 rfl) ?_
  obtain ⟨h24_1, hf⟩ := kif hf
  refine jg_P V hH h24_1 1 (by decide) kf_X8_26 rfl dX8_isAhead_25 ?_
  refine lv_if_eq (tgt := 40) hx hb dX8_isAhead_28 (by decide) (fun hq => ?_) (fun hq => ?_)
  · have hf := kpos hq hf
    exact w_X8_isAhead_40 V hA hH (jl_sub hl [0, 1, 2] rfl) hf
  · have hf := kneg hq hf
    exact w_X8_isAhead_31 V hA hH (jl_sub hl [0, 1, 2] rfl) hf
set_option maxHeartbeats 4000000 in
set_option maxRecDepth 100000 in
theorem w_X8_isAhead_20 (V : jV p s mm args meth c cX8_isAhead RX8 3 (some .boolean) D g) (hA : ∀ q, s.heap.size ≤ q → A q) {v0 : Int32} {v1 : Int32} {v2 : Int32} {H : Heap} {locs : List Loc} {ls : Array Slot} {out : Int32} (hH : jH A s H locs D g ad z [] []) (hl : jl_has ls 3 [(0, jv ad 1 v0), (1, jv ad 1 v1), (2, .int v2)]) (hf : F_X8_isAhead_20 z v0 v1 v2 = some out) : W p l e rm_X8_isAhead s mm args below meth c H locs 0 0 (jGi below args s D g A (fun a => a = ad) out z 0 0) (F0 mm 20 ls []) := by
  have hx := V.1
  have hb := V.2.1
  refine lv_iload_n hx hb dX8_isAhead_20 rfl (lv_at hl.1 2 rfl) ?_
  refine lv_if_ne (tgt := 40) hx hb dX8_isAhead_21 (by decide) (fun hq => ?_) (fun hq => ?_)
  · have hf := kneg hq hf
    exact w_X8_isAhead_40 V hA hH (jl_sub hl [0, 1, 2] rfl) hf
  · have hf := kpos hq hf
    exact w_X8_isAhead_24 V hA hH (jl_sub hl [0, 1, 2] rfl) hf
set_option maxHeartbeats 4000000 in
set_option maxRecDepth 100000 in
theorem w_X8_isAhead_11 (V : jV p s mm args meth c cX8_isAhead RX8 3 (some .boolean) D g) (hA : ∀ q, s.heap.size ≤ q → A q) {v0 : Int32} {v1 : Int32} {v2 : Int32} {H : Heap} {locs : List Loc} {ls : Array Slot} {out : Int32} (hH : jH A s H locs D g ad z [] []) (hl : jl_has ls 3 [(0, jv ad 1 v0), (1, jv ad 1 v1), (2, .int v2)]) (hf : F_X8_isAhead_11 z v0 v1 v2 = some out) : W p l e rm_X8_isAhead s mm args below meth c H locs 0 0 (jGi below args s D g A (fun a => a = ad) out z 0 0) (F0 mm 11 ls []) := by
  have hx := V.1
  have hb := V.2.1
  refine jl_aload_n hx hb dX8_isAhead_11 rfl (lv_at hl.1 1 rfl) ?_
  obtain ⟨h11_1, hf⟩ := kif hf
  refine jg_P V hH h11_1 1 (by decide) kf_X8_26 rfl dX8_isAhead_12 ?_
  refine lv_if_ne (tgt := 20) hx hb dX8_isAhead_15 (by decide) (fun hq => ?_) (fun hq => ?_)
  · have hf := kneg hq hf
    exact w_X8_isAhead_20 V hA hH (jl_sub hl [0, 1, 2] rfl) hf
  · have hf := kpos hq hf
    exact w_X8_isAhead_18 V hA hH (jl_sub hl [] rfl) hf
set_option maxHeartbeats 4000000 in
set_option maxRecDepth 100000 in
theorem w_X8_isAhead_4 (V : jV p s mm args meth c cX8_isAhead RX8 3 (some .boolean) D g) (hA : ∀ q, s.heap.size ≤ q → A q) {v0 : Int32} {v1 : Int32} {v2 : Int32} {H : Heap} {locs : List Loc} {ls : Array Slot} {out : Int32} (hH : jH A s H locs D g ad z [] []) (hl : jl_has ls 3 [(0, jv ad 1 v0), (1, jv ad 1 v1), (2, .int v2)]) (hf : F_X8_isAhead_4 z v0 v1 v2 = some out) : W p l e rm_X8_isAhead s mm args below meth c H locs 0 0 (jGi below args s D g A (fun a => a = ad) out z 0 0) (F0 mm 4 ls []) := by
  have hx := V.1
  have hb := V.2.1
  refine jl_aload_n hx hb dX8_isAhead_4 rfl (lv_at hl.1 0 rfl) ?_
  obtain ⟨h4_1, hf⟩ := kif hf
  refine jg_P V hH h4_1 1 (by decide) kf_X8_26 rfl dX8_isAhead_5 ?_
  refine lv_if_eq (tgt := 20) hx hb dX8_isAhead_8 (by decide) (fun hq => ?_) (fun hq => ?_)
  · have hf := kpos hq hf
    exact w_X8_isAhead_20 V hA hH (jl_sub hl [0, 1, 2] rfl) hf
  · have hf := kneg hq hf
    exact w_X8_isAhead_11 V hA hH (jl_sub hl [0, 1, 2] rfl) hf
set_option maxHeartbeats 4000000 in
set_option maxRecDepth 100000 in
theorem w_X8_isAhead_0 (V : jV p s mm args meth c cX8_isAhead RX8 3 (some .boolean) D g) (hA : ∀ q, s.heap.size ≤ q → A q) {v0 : Int32} {v1 : Int32} {v2 : Int32} {H : Heap} {locs : List Loc} {ls : Array Slot} {out : Int32} (hH : jH A s H locs D g ad z [] []) (hl : jl_has ls 3 [(0, jv ad 1 v0), (1, jv ad 1 v1), (2, .int v2)]) (hf : F_X8_isAhead_0 z v0 v1 v2 = some out) : W p l e rm_X8_isAhead s mm args below meth c H locs 0 0 (jGi below args s D g A (fun a => a = ad) out z 0 0) (F0 mm 0 ls []) := by
  have hx := V.1
  have hb := V.2.1
  refine lv_iload_n hx hb dX8_isAhead_0 rfl (lv_at hl.1 2 rfl) ?_
  refine lv_if_ne (tgt := 20) hx hb dX8_isAhead_1 (by decide) (fun hq => ?_) (fun hq => ?_)
  · have hf := kneg hq hf
    exact w_X8_isAhead_20 V hA hH (jl_sub hl [0, 1, 2] rfl) hf
  · have hf := kpos hq hf
    exact w_X8_isAhead_4 V hA hH (jl_sub hl [0, 1, 2] rfl) hf
set_option maxHeartbeats 4000000 in
set_option maxRecDepth 100000 in
theorem c_X8_isAhead (l : Launch) {D : va_G} {g : Nat → ClassId} {ad : Nat → Nat} {z : kS} (v0 : Int32) (v1 : Int32) (v2 : Int32) {out : Int32} (hf : F_X8_isAhead z v0 v1 v2 = some out) (sz : Nat) : Met l yX8_isAhead (Cond.code yX8_isAhead cX8_isAhead 3 (some .boolean) :: kWA) rm_X8_isAhead (jP [jv ad 1 v0, jv ad 1 v1, .int v2] D g ad z sz) (jQi out (fun a => a = ad) D g (va_A (jC g ad z) sz) z) 0 0 (va_A (jC g ad z) sz) := by
  refine j_met (as := [jv ad 1 v0, jv ad 1 v1, .int v2]) (bytes := cX8_isAhead) (maxL := 3) (rt := (some .boolean)) (lv := [(0, jv ad 1 v0), (1, jv ad 1 v1), (2, .int v2)]) (by decide +kernel) (by simp [lg_sl, jcatv, jcati, jcatr]) (by simp [lv_args, jcatv, jcati, jcatr]) (by simp [jcatv, jcati, jcatr]) (fun p e s mm below meth c ls hsz V hA hH hl => ?_)
  exact w_X8_isAhead_0 V hA hH (jl_sub hl [0, 1, 2] rfl) hf
end
section
variable {p : Program} {l : Launch} {e : Env} {s : State} {mm : MethodId} {args : Array Value} {below : List Frame} {meth : Method} {c : Code} {D : va_G} {g : Nat → ClassId} {A : Nat → Prop}
variable {ad : Nat → Nat}
variable {z : kS}
abbrev rm_X8_number : Room := { frames := 0, cells := 0, slots := 0, locals := 0 }
set_option maxHeartbeats 4000000 in
set_option maxRecDepth 100000 in
theorem w_X8_number_12 (V : jV p s mm args meth c cX8_number RX8 1 (some .int) D g) (hA : ∀ q, s.heap.size ≤ q → A q) {s0 : Int32} {H : Heap} {locs : List Loc} {ls : Array Slot} {out : Int32} (hH : jH A s H locs D g ad z [] []) (hl : jl_has ls 1 []) (hf : F_X8_number_12 z s0 = some out) : W p l e rm_X8_number s mm args below meth c H locs 0 0 (jGi below args s D g A (fun a => a = ad) out z 0 0) (F0 mm 12 ls [.int s0]) := by
  have hx := V.1
  have hb := V.2.1
  cases hf
  exact je_iret (G := fun a => a = ad) V rfl hH dX8_number_12
set_option maxHeartbeats 4000000 in
set_option maxRecDepth 100000 in
theorem w_X8_number_4 (V : jV p s mm args meth c cX8_number RX8 1 (some .int) D g) (hA : ∀ q, s.heap.size ≤ q → A q) {H : Heap} {locs : List Loc} {ls : Array Slot} {out : Int32} (hH : jH A s H locs D g ad z [] []) (hl : jl_has ls 1 []) (hf : F_X8_number_4 z = some out) : W p l e rm_X8_number s mm args below meth c H locs 0 0 (jGi below args s D g A (fun a => a = ad) out z 0 0) (F0 mm 4 ls []) := by
  have hx := V.1
  have hb := V.2.1
  refine lv_iconst (v := (-1)) hx hb dX8_number_4 (by decide) ?_
  refine lv_goto (tgt := 12) hx hb dX8_number_5 (by decide) ?_
  exact w_X8_number_12 V hA hH (jl_sub hl [] rfl) hf
set_option maxHeartbeats 4000000 in
set_option maxRecDepth 100000 in
theorem w_X8_number_8 (V : jV p s mm args meth c cX8_number RX8 1 (some .int) D g) (hA : ∀ q, s.heap.size ≤ q → A q) {v0 : Int32} {H : Heap} {locs : List Loc} {ls : Array Slot} {out : Int32} (hH : jH A s H locs D g ad z [] []) (hl : jl_has ls 1 [(0, jv ad 1 v0)]) (hf : F_X8_number_8 z v0 = some out) : W p l e rm_X8_number s mm args below meth c H locs 0 0 (jGi below args s D g A (fun a => a = ad) out z 0 0) (F0 mm 8 ls []) := by
  have hx := V.1
  have hb := V.2.1
  refine jl_aload_n hx hb dX8_number_8 rfl (lv_at hl.1 0 rfl) ?_
  obtain ⟨h8_1, hf⟩ := kif hf
  refine jg_P V hH h8_1 0 (by decide) kf_X8_22 rfl dX8_number_9 ?_
  exact w_X8_number_12 V hA hH (jl_sub hl [] rfl) hf
set_option maxHeartbeats 4000000 in
set_option maxRecDepth 100000 in
theorem w_X8_number_0 (V : jV p s mm args meth c cX8_number RX8 1 (some .int) D g) (hA : ∀ q, s.heap.size ≤ q → A q) {v0 : Int32} {H : Heap} {locs : List Loc} {ls : Array Slot} {out : Int32} (hH : jH A s H locs D g ad z [] []) (hl : jl_has ls 1 [(0, jv ad 1 v0)]) (hf : F_X8_number_0 z v0 = some out) : W p l e rm_X8_number s mm args below meth c H locs 0 0 (jGi below args s D g A (fun a => a = ad) out z 0 0) (F0 mm 0 ls []) := by
  have hx := V.1
  have hb := V.2.1
  refine jl_aload_n hx hb dX8_number_0 rfl (lv_at hl.1 0 rfl) ?_
  refine jl_ifnonnull (tgt := 8) hx hb dX8_number_1 (by decide) (fun hq => ?_) (fun hq => ?_)
  · have hf := kneg hq hf
    exact w_X8_number_8 V hA hH (jl_sub hl [0] rfl) hf
  · have hf := kpos hq hf
    exact w_X8_number_4 V hA hH (jl_sub hl [] rfl) hf
set_option maxHeartbeats 4000000 in
set_option maxRecDepth 100000 in
theorem c_X8_number (l : Launch) {D : va_G} {g : Nat → ClassId} {ad : Nat → Nat} {z : kS} (v0 : Int32) {out : Int32} (hf : F_X8_number z v0 = some out) (sz : Nat) : Met l yX8_number (Cond.code yX8_number cX8_number 1 (some .int) :: kWA) rm_X8_number (jP [jv ad 1 v0] D g ad z sz) (jQi out (fun a => a = ad) D g (va_A (jC g ad z) sz) z) 0 0 (va_A (jC g ad z) sz) := by
  refine j_met (as := [jv ad 1 v0]) (bytes := cX8_number) (maxL := 1) (rt := (some .int)) (lv := [(0, jv ad 1 v0)]) (by decide +kernel) (by simp [lg_sl, jcatv, jcati, jcatr]) (by simp [lv_args, jcatv, jcati, jcatr]) (by simp [jcatv, jcati, jcatr]) (fun p e s mm below meth c ls hsz V hA hH hl => ?_)
  exact w_X8_number_0 V hA hH (jl_sub hl [0] rfl) hf
end
section
variable {p : Program} {l : Launch} {e : Env} {s : State} {mm : MethodId} {args : Array Value} {below : List Frame} {meth : Method} {c : Code} {D : va_G} {g : Nat → ClassId} {A : Nat → Prop}
variable {ad : Nat → Nat}
variable {z : kS}
abbrev rm_X8_up (d : Nat) : Room := { frames := d + 2, cells := 0, slots := 0, locals := d * 21 + 60 }
set_option maxHeartbeats 4000000 in
set_option maxRecDepth 100000 in
theorem w_X8_up_4 (V : jV p s mm args meth c cX8_up RX8 2 (some .int) D g) (hA : ∀ q, s.heap.size ≤ q → A q) {d : Nat} {self : Int32 → Int32 → Option (Int32)} (hself : ∀ (a1 a2 : Int32) {r : Int32}, self a1 a2 = some r → ∀ sz : Nat, Met l yX8_up (Cond.code yX8_up cX8_up 2 (some .int) :: kWA) (rm_X8_up d) (jP [jv ad 1 a1, jv ad 1 a2] D g ad z sz) (jQi r (fun a => a = ad) D g (va_A (jC g ad z) sz) z) 0 0 (va_A (jC g ad z) sz)) {H : Heap} {locs : List Loc} {ls : Array Slot} {out : Int32} (hH : jH A s H locs D g ad z [] []) (hl : jl_has ls 2 []) (hf : F_X8_up_4 self z = some out) : W p l e (rm_X8_up (d + 1)) s mm args below meth c H locs 0 0 (jGi below args s D g A (fun a => a = ad) out z 0 0) (F0 mm 4 ls []) := by
  have hx := V.1
  have hb := V.2.1
  refine lv_sipush (v := 1000) hx hb dX8_up_4 (by decide) ?_
  cases hf
  exact je_iret (G := fun a => a = ad) V rfl hH dX8_up_7
set_option maxHeartbeats 4000000 in
set_option maxRecDepth 100000 in
theorem w_X8_up_13 (V : jV p s mm args meth c cX8_up RX8 2 (some .int) D g) (hA : ∀ q, s.heap.size ≤ q → A q) {d : Nat} {self : Int32 → Int32 → Option (Int32)} (hself : ∀ (a1 a2 : Int32) {r : Int32}, self a1 a2 = some r → ∀ sz : Nat, Met l yX8_up (Cond.code yX8_up cX8_up 2 (some .int) :: kWA) (rm_X8_up d) (jP [jv ad 1 a1, jv ad 1 a2] D g ad z sz) (jQi r (fun a => a = ad) D g (va_A (jC g ad z) sz) z) 0 0 (va_A (jC g ad z) sz)) {H : Heap} {locs : List Loc} {ls : Array Slot} {out : Int32} (hH : jH A s H locs D g ad z [] []) (hl : jl_has ls 2 []) (hf : F_X8_up_13 self z = some out) : W p l e (rm_X8_up (d + 1)) s mm args below meth c H locs 0 0 (jGi below args s D g A (fun a => a = ad) out z 0 0) (F0 mm 13 ls []) := by
  have hx := V.1
  have hb := V.2.1
  refine lv_iconst (v := 0) hx hb dX8_up_13 (by decide) ?_
  cases hf
  exact je_iret (G := fun a => a = ad) V rfl hH dX8_up_14
set_option maxHeartbeats 4000000 in
set_option maxRecDepth 100000 in
theorem w_X8_up_15 (V : jV p s mm args meth c cX8_up RX8 2 (some .int) D g) (hA : ∀ q, s.heap.size ≤ q → A q) {d : Nat} {self : Int32 → Int32 → Option (Int32)} (hself : ∀ (a1 a2 : Int32) {r : Int32}, self a1 a2 = some r → ∀ sz : Nat, Met l yX8_up (Cond.code yX8_up cX8_up 2 (some .int) :: kWA) (rm_X8_up d) (jP [jv ad 1 a1, jv ad 1 a2] D g ad z sz) (jQi r (fun a => a = ad) D g (va_A (jC g ad z) sz) z) 0 0 (va_A (jC g ad z) sz)) {v0 : Int32} {v1 : Int32} {H : Heap} {locs : List Loc} {ls : Array Slot} {out : Int32} (hH : jH A s H locs D g ad z [] []) (hl : jl_has ls 2 [(0, jv ad 1 v0), (1, jv ad 1 v1)]) (hf : F_X8_up_15 self z v0 v1 = some out) : W p l e (rm_X8_up (d + 1)) s mm args below meth c H locs 0 0 (jGi below args s D g A (fun a => a = ad) out z 0 0) (F0 mm 15 ls []) := by
  have hx := V.1
  have hb := V.2.1
  refine lv_sipush (v := 1000) hx hb dX8_up_15 (by decide) ?_
  refine lv_iconst (v := 1) hx hb dX8_up_18 (by decide) ?_
  refine jl_aload_n hx hb dX8_up_19 rfl (lv_at hl.1 0 rfl) ?_
  obtain ⟨h15_1, hf⟩ := kif hf
  refine jg_P V hH h15_1 4 (by decide) kf_X8_40 rfl dX8_up_20 ?_
  refine jl_aload_n hx hb dX8_up_23 rfl (lv_at hl.1 1 rfl) ?_
  obtain ⟨x15_2, hx15_2, hf⟩ := kbind hf
  refine jr_calliR0 hA hH (jr_runS (as := [jv ad 1 (z (4 * v0.toNatClampNeg + 1) 4), jv ad 1 v1]) (rest := [.int 1, .int 1000]) V hH kYX8_up kl_X8_67 (hself _ _ hx15_2 _) rfl rfl ⟨Nat.le_of_eq (by show d + _ + 1 = d + 1 + _; omega), by show _ ≤ (d + 1) * _ + _; show 8 + (_ + 11) + (d * _ + _) ≤ _; omega⟩ rfl hl.1.1 (Nat.le_of_ble_eq_true rfl) dX8_up_24 ⟨Nat.le_refl _, Nat.le_refl _⟩ rfl) (fun H locs hH => ?_)
  refine jl_aload_n hx hb dX8_up_27 rfl (lv_at hl.1 0 rfl) ?_
  obtain ⟨h15_3, hf⟩ := kif hf
  refine jg_P V hH h15_3 5 (by decide) kf_X8_47 rfl dX8_up_28 ?_
  refine jl_aload_n hx hb dX8_up_31 rfl (lv_at hl.1 1 rfl) ?_
  obtain ⟨x15_4, hx15_4, hf⟩ := kbind hf
  refine jr_calliR0 hA hH (jr_runS (as := [jv ad 1 (z (4 * v0.toNatClampNeg + 1) 5), jv ad 1 v1]) (rest := [.int x15_2, .int 1, .int 1000]) V hH kYX8_up kl_X8_67 (hself _ _ hx15_4 _) rfl rfl ⟨Nat.le_of_eq (by show d + _ + 1 = d + 1 + _; omega), by show _ ≤ (d + 1) * _ + _; show 8 + (_ + 11) + (d * _ + _) ≤ _; omega⟩ rfl hl.1.1 (Nat.le_of_ble_eq_true rfl) dX8_up_32 ⟨Nat.le_refl _, Nat.le_refl _⟩ rfl) (fun H locs hH => ?_)
  refine jr_mn V hl.1.1 kl_X8_71 (by show 1 ≤ d + 1 + _; omega) (by show 21 ≤ (d + 1) * _ + _; omega) (Nat.zero_le _) (Nat.zero_le _) (Nat.le_of_ble_eq_true rfl) dX8_up_35 ?_
  refine lv_iadd hx hb dX8_up_38 ?_
  refine jr_mn V hl.1.1 kl_X8_71 (by show 1 ≤ d + 1 + _; omega) (by show 21 ≤ (d + 1) * _ + _; omega) (Nat.zero_le _) (Nat.zero_le _) (Nat.le_of_ble_eq_true rfl) dX8_up_39 ?_
  cases hf
  exact je_iret (G := fun a => a = ad) V rfl hH dX8_up_42
set_option maxHeartbeats 4000000 in
set_option maxRecDepth 100000 in
theorem w_X8_up_8 (V : jV p s mm args meth c cX8_up RX8 2 (some .int) D g) (hA : ∀ q, s.heap.size ≤ q → A q) {d : Nat} {self : Int32 → Int32 → Option (Int32)} (hself : ∀ (a1 a2 : Int32) {r : Int32}, self a1 a2 = some r → ∀ sz : Nat, Met l yX8_up (Cond.code yX8_up cX8_up 2 (some .int) :: kWA) (rm_X8_up d) (jP [jv ad 1 a1, jv ad 1 a2] D g ad z sz) (jQi r (fun a => a = ad) D g (va_A (jC g ad z) sz) z) 0 0 (va_A (jC g ad z) sz)) {v0 : Int32} {v1 : Int32} {H : Heap} {locs : List Loc} {ls : Array Slot} {out : Int32} (hH : jH A s H locs D g ad z [] []) (hl : jl_has ls 2 [(0, jv ad 1 v0), (1, jv ad 1 v1)]) (hf : F_X8_up_8 self z v0 v1 = some out) : W p l e (rm_X8_up (d + 1)) s mm args below meth c H locs 0 0 (jGi below args s D g A (fun a => a = ad) out z 0 0) (F0 mm 8 ls []) := by
  have hx := V.1
  have hb := V.2.1
  refine jl_aload_n hx hb dX8_up_8 rfl (lv_at hl.1 0 rfl) ?_
  refine jl_aload_n hx hb dX8_up_9 rfl (lv_at hl.1 1 rfl) ?_
  obtain ⟨h8_1, hf⟩ := kif hf
  obtain ⟨h8_2, hf⟩ := kif hf
  refine jl_acmp_ne1 V hH (tgt := 15) h8_1 h8_2 dX8_up_10 (by decide) (fun hq => ?_) (fun hq => ?_)
  · have hf := kneg hq hf
    exact w_X8_up_15 V hA hself hH (jl_sub hl [0, 1] rfl) hf
  · have hf := kpos hq hf
    exact w_X8_up_13 V hA hself hH (jl_sub hl [] rfl) hf
set_option maxHeartbeats 4000000 in
set_option maxRecDepth 100000 in
theorem w_X8_up_0 (V : jV p s mm args meth c cX8_up RX8 2 (some .int) D g) (hA : ∀ q, s.heap.size ≤ q → A q) {d : Nat} {self : Int32 → Int32 → Option (Int32)} (hself : ∀ (a1 a2 : Int32) {r : Int32}, self a1 a2 = some r → ∀ sz : Nat, Met l yX8_up (Cond.code yX8_up cX8_up 2 (some .int) :: kWA) (rm_X8_up d) (jP [jv ad 1 a1, jv ad 1 a2] D g ad z sz) (jQi r (fun a => a = ad) D g (va_A (jC g ad z) sz) z) 0 0 (va_A (jC g ad z) sz)) {v0 : Int32} {v1 : Int32} {H : Heap} {locs : List Loc} {ls : Array Slot} {out : Int32} (hH : jH A s H locs D g ad z [] []) (hl : jl_has ls 2 [(0, jv ad 1 v0), (1, jv ad 1 v1)]) (hf : F_X8_up_0 self z v0 v1 = some out) : W p l e (rm_X8_up (d + 1)) s mm args below meth c H locs 0 0 (jGi below args s D g A (fun a => a = ad) out z 0 0) (F0 mm 0 ls []) := by
  have hx := V.1
  have hb := V.2.1
  refine jl_aload_n hx hb dX8_up_0 rfl (lv_at hl.1 0 rfl) ?_
  refine jl_ifnonnull (tgt := 8) hx hb dX8_up_1 (by decide) (fun hq => ?_) (fun hq => ?_)
  · have hf := kneg hq hf
    exact w_X8_up_8 V hA hself hH (jl_sub hl [0, 1] rfl) hf
  · have hf := kpos hq hf
    exact w_X8_up_4 V hA hself hH (jl_sub hl [] rfl) hf
set_option maxHeartbeats 4000000 in
set_option maxRecDepth 100000 in
theorem c_X8_up (l : Launch) {D : va_G} {g : Nat → ClassId} {ad : Nat → Nat} {z : kS} : ∀ (d : Nat) (v0 : Int32) (v1 : Int32) {out : Int32}, F_X8_up z d v0 v1 = some out → ∀ sz : Nat, Met l yX8_up (Cond.code yX8_up cX8_up 2 (some .int) :: kWA) (rm_X8_up d) (jP [jv ad 1 v0, jv ad 1 v1] D g ad z sz) (jQi out (fun a => a = ad) D g (va_A (jC g ad z) sz) z) 0 0 (va_A (jC g ad z) sz) := by
  intro d
  induction d with
  | zero => intro v0 v1 out hf; cases hf
  | succ d ih =>
    intro v0 v1 out hf sz
    refine j_met (as := [jv ad 1 v0, jv ad 1 v1]) (bytes := cX8_up) (maxL := 2) (rt := (some .int)) (lv := [(0, jv ad 1 v0), (1, jv ad 1 v1)]) (by decide +kernel) (by simp [lg_sl, jcatv, jcati, jcatr]) (by simp [lv_args, jcatv, jcati, jcatr]) (by simp [jcatv, jcati, jcatr]) (fun p e s mm below meth c ls hsz V hA hH hl => ?_)
    exact w_X8_up_0 V hA (fun a1 a2 r h sz => ih a1 a2 h sz) hH (jl_sub hl [0, 1] rfl) hf
end
section
variable {p : Program} {l : Launch} {e : Env} {s : State} {mm : MethodId} {args : Array Value} {below : List Frame} {meth : Method} {c : Code} {D : va_G} {g : Nat → ClassId} {A : Nat → Prop}
variable {ad : Nat → Nat}
variable {z : kS}
abbrev rm_X8_children : Room := { frames := 0, cells := 0, slots := 0, locals := 0 }
set_option maxHeartbeats 4000000 in
set_option maxRecDepth 100000 in
theorem w_X8_children_51 (V : jV p s mm args meth c cX8_children RX8 7 (some .int) D g) (hA : ∀ q, s.heap.size ≤ q → A q) {c14 : Int32 → Int32 → Int32 → Int32 → Option (Int32)} (hk14 : ∀ {v1 : Int32} {v2 : Int32} {v4 : Int32} {v5 : Int32} {H : Heap} {locs : List Loc} {ls : Array Slot} {out : Int32}, jH A s H locs D g ad z [] [] → jl_has ls 7 [(1, jv ad 1 v1), (2, .int v2), (3, .ref (ad 4)), (4, .int v4), (5, .int v5)] → c14 v1 v2 v4 v5 = some out → W p l e rm_X8_children s mm args below meth c H locs 0 0 (jGi below args s D g A (fun a => a = ad) out z 0 0) (F0 mm 14 ls [])) {s0 : Int32} {s1 : Int32} {v1 : Int32} {v4 : Int32} {v5 : Int32} {H : Heap} {locs : List Loc} {ls : Array Slot} {out : Int32} (hH : jH A s H locs D g ad z [] []) (hl : jl_has ls 7 [(1, jv ad 1 v1), (3, .ref (ad 4)), (4, .int v4), (5, .int v5)]) (hf : F_X8_children_51 z c14 s0 s1 v1 v4 v5 = some out) : W p l e rm_X8_children s mm args below meth c H locs 0 0 (jGi below args s D g A (fun a => a = ad) out z 0 0) (F0 mm 51 ls [.int s1, .int s0]) := by
  have hx := V.1
  have hb := V.2.1
  refine lv_iadd hx hb dX8_children_51 ?_
  refine jl_istore_n (lv' := [(2, .int (s0 + s1)), (1, jv ad 1 v1), (3, .ref (ad 4)), (4, .int v4), (5, .int v5)]) hx hb dX8_children_52 rfl hl (by decide) rfl (fun ls hl => ?_)
  refine jl_iinc (v := (v5 + 1)) (lv' := [(5, .int (v5 + 1)), (2, .int (s0 + s1)), (1, jv ad 1 v1), (3, .ref (ad 4)), (4, .int v4)]) hx hb dX8_children_53 hl (k := 4) rfl rfl (by decide) rfl (fun ls hl => ?_)
  refine lv_goto (tgt := 14) hx hb dX8_children_56 (by decide) ?_
  exact hk14 hH (jl_sub hl [2, 1, 3, 4, 0] rfl) hf
set_option maxHeartbeats 4000000 in
set_option maxRecDepth 100000 in
theorem w_X8_children_46 (V : jV p s mm args meth c cX8_children RX8 7 (some .int) D g) (hA : ∀ q, s.heap.size ≤ q → A q) {c14 : Int32 → Int32 → Int32 → Int32 → Option (Int32)} (hk14 : ∀ {v1 : Int32} {v2 : Int32} {v4 : Int32} {v5 : Int32} {H : Heap} {locs : List Loc} {ls : Array Slot} {out : Int32}, jH A s H locs D g ad z [] [] → jl_has ls 7 [(1, jv ad 1 v1), (2, .int v2), (3, .ref (ad 4)), (4, .int v4), (5, .int v5)] → c14 v1 v2 v4 v5 = some out → W p l e rm_X8_children s mm args below meth c H locs 0 0 (jGi below args s D g A (fun a => a = ad) out z 0 0) (F0 mm 14 ls [])) {s0 : Int32} {v1 : Int32} {v4 : Int32} {v5 : Int32} {H : Heap} {locs : List Loc} {ls : Array Slot} {out : Int32} (hH : jH A s H locs D g ad z [] []) (hl : jl_has ls 7 [(1, jv ad 1 v1), (3, .ref (ad 4)), (4, .int v4), (5, .int v5)]) (hf : F_X8_children_46 z c14 s0 v1 v4 v5 = some out) : W p l e rm_X8_children s mm args below meth c H locs 0 0 (jGi below args s D g A (fun a => a = ad) out z 0 0) (F0 mm 46 ls [.int s0]) := by
  have hx := V.1
  have hb := V.2.1
  refine lv_iconst (v := 1) hx hb dX8_children_46 (by decide) ?_
  refine lv_goto (tgt := 51) hx hb dX8_children_47 (by decide) ?_
  exact w_X8_children_51 V hA hk14 hH (jl_sub hl [0, 1, 2, 3] rfl) hf
set_option maxHeartbeats 4000000 in
set_option maxRecDepth 100000 in
theorem w_X8_children_50 (V : jV p s mm args meth c cX8_children RX8 7 (some .int) D g) (hA : ∀ q, s.heap.size ≤ q → A q) {c14 : Int32 → Int32 → Int32 → Int32 → Option (Int32)} (hk14 : ∀ {v1 : Int32} {v2 : Int32} {v4 : Int32} {v5 : Int32} {H : Heap} {locs : List Loc} {ls : Array Slot} {out : Int32}, jH A s H locs D g ad z [] [] → jl_has ls 7 [(1, jv ad 1 v1), (2, .int v2), (3, .ref (ad 4)), (4, .int v4), (5, .int v5)] → c14 v1 v2 v4 v5 = some out → W p l e rm_X8_children s mm args below meth c H locs 0 0 (jGi below args s D g A (fun a => a = ad) out z 0 0) (F0 mm 14 ls [])) {s0 : Int32} {v1 : Int32} {v4 : Int32} {v5 : Int32} {H : Heap} {locs : List Loc} {ls : Array Slot} {out : Int32} (hH : jH A s H locs D g ad z [] []) (hl : jl_has ls 7 [(1, jv ad 1 v1), (3, .ref (ad 4)), (4, .int v4), (5, .int v5)]) (hf : F_X8_children_50 z c14 s0 v1 v4 v5 = some out) : W p l e rm_X8_children s mm args below meth c H locs 0 0 (jGi below args s D g A (fun a => a = ad) out z 0 0) (F0 mm 50 ls [.int s0]) := by
  have hx := V.1
  have hb := V.2.1
  refine lv_iconst (v := 0) hx hb dX8_children_50 (by decide) ?_
  exact w_X8_children_51 V hA hk14 hH (jl_sub hl [0, 1, 2, 3] rfl) hf
set_option maxHeartbeats 4000000 in
set_option maxRecDepth 100000 in
theorem w_X8_children_37 (V : jV p s mm args meth c cX8_children RX8 7 (some .int) D g) (hA : ∀ q, s.heap.size ≤ q → A q) {c14 : Int32 → Int32 → Int32 → Int32 → Option (Int32)} (hk14 : ∀ {v1 : Int32} {v2 : Int32} {v4 : Int32} {v5 : Int32} {H : Heap} {locs : List Loc} {ls : Array Slot} {out : Int32}, jH A s H locs D g ad z [] [] → jl_has ls 7 [(1, jv ad 1 v1), (2, .int v2), (3, .ref (ad 4)), (4, .int v4), (5, .int v5)] → c14 v1 v2 v4 v5 = some out → W p l e rm_X8_children s mm args below meth c H locs 0 0 (jGi below args s D g A (fun a => a = ad) out z 0 0) (F0 mm 14 ls [])) {s0 : Int32} {v1 : Int32} {v4 : Int32} {v5 : Int32} {v6 : Int32} {H : Heap} {locs : List Loc} {ls : Array Slot} {out : Int32} (hH : jH A s H locs D g ad z [] []) (hl : jl_has ls 7 [(1, jv ad 1 v1), (3, .ref (ad 4)), (4, .int v4), (5, .int v5), (6, jv ad 1 v6)]) (hf : F_X8_children_37 z c14 s0 v1 v4 v5 v6 = some out) : W p l e rm_X8_children s mm args below meth c H locs 0 0 (jGi below args s D g A (fun a => a = ad) out z 0 0) (F0 mm 37 ls [.int s0]) := by
  have hx := V.1
  have hb := V.2.1
  refine jl_aload hx hb dX8_children_37 (lv_at hl.1 4 rfl) ?_
  obtain ⟨h37_1, hf⟩ := kif hf
  refine jg_P V hH h37_1 5 (by decide) kf_X8_47 rfl dX8_children_39 ?_
  refine jl_aload_n hx hb dX8_children_42 rfl (lv_at hl.1 0 rfl) ?_
  obtain ⟨h37_2, hf⟩ := kif hf
  obtain ⟨h37_3, hf⟩ := kif hf
  refine jl_acmp_ne1 V hH (tgt := 50) h37_2 h37_3 dX8_children_43 (by decide) (fun hq => ?_) (fun hq => ?_)
  · have hf := kneg hq hf
    exact w_X8_children_50 V hA hk14 hH (jl_sub hl [0, 1, 2, 3] rfl) hf
  · have hf := kpos hq hf
    exact w_X8_children_46 V hA hk14 hH (jl_sub hl [0, 1, 2, 3] rfl) hf
set_option maxHeartbeats 4000000 in
set_option maxRecDepth 100000 in
theorem w_X8_children_21 (V : jV p s mm args meth c cX8_children RX8 7 (some .int) D g) (hA : ∀ q, s.heap.size ≤ q → A q) {c14 : Int32 → Int32 → Int32 → Int32 → Option (Int32)} (hk14 : ∀ {v1 : Int32} {v2 : Int32} {v4 : Int32} {v5 : Int32} {H : Heap} {locs : List Loc} {ls : Array Slot} {out : Int32}, jH A s H locs D g ad z [] [] → jl_has ls 7 [(1, jv ad 1 v1), (2, .int v2), (3, .ref (ad 4)), (4, .int v4), (5, .int v5)] → c14 v1 v2 v4 v5 = some out → W p l e rm_X8_children s mm args below meth c H locs 0 0 (jGi below args s D g A (fun a => a = ad) out z 0 0) (F0 mm 14 ls [])) {v1 : Int32} {v2 : Int32} {v4 : Int32} {v5 : Int32} {H : Heap} {locs : List Loc} {ls : Array Slot} {out : Int32} (hH : jH A s H locs D g ad z [] []) (hl : jl_has ls 7 [(1, jv ad 1 v1), (2, .int v2), (3, .ref (ad 4)), (4, .int v4), (5, .int v5)]) (hf : F_X8_children_21 z c14 v1 v2 v4 v5 = some out) : W p l e rm_X8_children s mm args below meth c H locs 0 0 (jGi below args s D g A (fun a => a = ad) out z 0 0) (F0 mm 21 ls []) := by
  have hx := V.1
  have hb := V.2.1
  refine lv_aload_n hx hb dX8_children_21 rfl (lv_at hl.1 2 rfl) ?_
  refine lv_iload hx hb dX8_children_22 (lv_at hl.1 4 rfl) ?_
  obtain ⟨h21_1, hf⟩ := kif hf
  refine jald_4 V hH h21_1 dX8_children_24 ?_
  refine jl_astore (lv' := [(6, jv ad 1 (z 4 v5.toNatClampNeg)), (1, jv ad 1 v1), (2, .int v2), (3, .ref (ad 4)), (4, .int v4), (5, .int v5)]) hx hb dX8_children_25 hl (by decide) rfl (fun ls hl => ?_)
  refine lv_iload_n hx hb dX8_children_27 rfl (lv_at hl.1 2 rfl) ?_
  refine jl_aload hx hb dX8_children_28 (lv_at hl.1 0 rfl) ?_
  obtain ⟨h21_2, hf⟩ := kif hf
  refine jg_P V hH h21_2 4 (by decide) kf_X8_40 rfl dX8_children_30 ?_
  refine jl_aload_n hx hb dX8_children_33 rfl (lv_at hl.1 1 rfl) ?_
  obtain ⟨h21_3, hf⟩ := kif hf
  obtain ⟨h21_4, hf⟩ := kif hf
  refine jl_acmp_eq1 V hH (tgt := 46) h21_3 h21_4 dX8_children_34 (by decide) (fun hq => ?_) (fun hq => ?_)
  · have hf := kpos hq hf
    exact w_X8_children_46 V hA hk14 hH (jl_sub hl [1, 3, 4, 5] rfl) hf
  · have hf := kneg hq hf
    exact w_X8_children_37 V hA hk14 hH (jl_sub hl [1, 3, 4, 5, 0] rfl) hf
set_option maxHeartbeats 4000000 in
set_option maxRecDepth 100000 in
theorem w_X8_children_59 (V : jV p s mm args meth c cX8_children RX8 7 (some .int) D g) (hA : ∀ q, s.heap.size ≤ q → A q) {v2 : Int32} {H : Heap} {locs : List Loc} {ls : Array Slot} {out : Int32} (hH : jH A s H locs D g ad z [] []) (hl : jl_has ls 7 [(2, .int v2)]) (hf : F_X8_children_59 z v2 = some out) : W p l e rm_X8_children s mm args below meth c H locs 0 0 (jGi below args s D g A (fun a => a = ad) out z 0 0) (F0 mm 59 ls []) := by
  have hx := V.1
  have hb := V.2.1
  refine lv_iload_n hx hb dX8_children_59 rfl (lv_at hl.1 0 rfl) ?_
  cases hf
  exact je_iret (G := fun a => a = ad) V rfl hH dX8_children_60
set_option maxHeartbeats 4000000 in
set_option maxRecDepth 100000 in
theorem w_X8_children_14 (V : jV p s mm args meth c cX8_children RX8 7 (some .int) D g) (hA : ∀ q, s.heap.size ≤ q → A q) : ∀ (n : Nat) {v1 : Int32} {v2 : Int32} {v4 : Int32} {v5 : Int32} {H : Heap} {locs : List Loc} {ls : Array Slot} {out : Int32}, jH A s H locs D g ad z [] [] → jl_has ls 7 [(1, jv ad 1 v1), (2, .int v2), (3, .ref (ad 4)), (4, .int v4), (5, .int v5)] → F_X8_children_14 z n v1 v2 v4 v5 = some out → W p l e rm_X8_children s mm args below meth c H locs 0 0 (jGi below args s D g A (fun a => a = ad) out z 0 0) (F0 mm 14 ls []) := by
  have hx := V.1
  have hb := V.2.1
  intro n
  induction n with
  | zero => intro _ _ _ _ _ _ _ _ hH hl hf; cases hf
  | succ n hk14 =>
    intro v1 v2 v4 v5 H locs ls out hH hl hf
    refine lv_iload hx hb dX8_children_14 (lv_at hl.1 4 rfl) ?_
    refine lv_iload hx hb dX8_children_16 (lv_at hl.1 3 rfl) ?_
    refine lv_icmp_ge (tgt := 59) hx hb dX8_children_18 (by decide) (fun hq => ?_) (fun hq => ?_)
    · have hf := kpos hq hf
      exact w_X8_children_59 V hA hH (jl_sub hl [1] rfl) hf
    · have hf := kneg hq hf
      exact w_X8_children_21 V hA hk14 hH (jl_sub hl [0, 1, 2, 3, 4] rfl) hf
set_option maxHeartbeats 4000000 in
set_option maxRecDepth 100000 in
theorem w_X8_children_0 (V : jV p s mm args meth c cX8_children RX8 7 (some .int) D g) (hA : ∀ q, s.heap.size ≤ q → A q) {v1 : Int32} {H : Heap} {locs : List Loc} {ls : Array Slot} {out : Int32} (hH : jH A s H locs D g ad z [] []) (hl : jl_has ls 7 [(0, .ref (ad 0)), (1, jv ad 1 v1)]) (hf : F_X8_children_0 z v1 = some out) : W p l e rm_X8_children s mm args below meth c H locs 0 0 (jGi below args s D g A (fun a => a = ad) out z 0 0) (F0 mm 0 ls []) := by
  have hx := V.1
  have hb := V.2.1
  refine lv_iconst (v := 0) hx hb dX8_children_0 (by decide) ?_
  refine jl_istore_n (lv' := [(2, .int 0), (0, .ref (ad 0)), (1, jv ad 1 v1)]) hx hb dX8_children_1 rfl hl (by decide) rfl (fun ls hl => ?_)
  refine lv_aload_n hx hb dX8_children_2 rfl (lv_at hl.1 1 rfl) ?_
  refine jg_S V hH 0 (by decide) kf_X8_9 rfl dX8_children_3 ?_
  refine jl_astore_n (o := some (ad 4)) (lv' := [(3, .ref (ad 4)), (2, .int 0), (0, .ref (ad 0)), (1, jv ad 1 v1)]) hx hb dX8_children_6 rfl hl (by decide) rfl (fun ls hl => ?_)
  refine lv_aload_n hx hb dX8_children_7 rfl (lv_at hl.1 0 rfl) ?_
  refine jalen_4 V hH dX8_children_8 ?_
  refine jl_istore (lv' := [(4, .int (nI (z 12 0).toNatClampNeg)), (3, .ref (ad 4)), (2, .int 0), (0, .ref (ad 0)), (1, jv ad 1 v1)]) hx hb dX8_children_9 hl (by decide) rfl (fun ls hl => ?_)
  refine lv_iconst (v := 0) hx hb dX8_children_11 (by decide) ?_
  refine jl_istore (lv' := [(5, .int 0), (4, .int (nI (z 12 0).toNatClampNeg)), (3, .ref (ad 4)), (2, .int 0), (0, .ref (ad 0)), (1, jv ad 1 v1)]) hx hb dX8_children_12 hl (by decide) rfl (fun ls hl => ?_)
  exact w_X8_children_14 V hA kN hH (jl_sub hl [5, 3, 2, 1, 0] rfl) hf
set_option maxHeartbeats 4000000 in
set_option maxRecDepth 100000 in
theorem c_X8_children (l : Launch) {D : va_G} {g : Nat → ClassId} {ad : Nat → Nat} {z : kS} (v1 : Int32) {out : Int32} (hf : F_X8_children z v1 = some out) (sz : Nat) : Met l yX8_children (Cond.code yX8_children cX8_children 7 (some .int) :: kWA) rm_X8_children (jP [.ref (ad 0), jv ad 1 v1] D g ad z sz) (jQi out (fun a => a = ad) D g (va_A (jC g ad z) sz) z) 0 0 (va_A (jC g ad z) sz) := by
  refine j_met (as := [.ref (ad 0), jv ad 1 v1]) (bytes := cX8_children) (maxL := 7) (rt := (some .int)) (lv := [(0, .ref (ad 0)), (1, jv ad 1 v1)]) (by decide +kernel) (by simp [lg_sl, jcatv, jcati, jcatr]) (by simp [lv_args, jcatv, jcati, jcatr]) (by simp [jcatv, jcati, jcatr]) (fun p e s mm below meth c ls hsz V hA hH hl => ?_)
  exact w_X8_children_0 V hA hH (jl_sub hl [0, 1] rfl) hf
end
section
variable {p : Program} {l : Launch} {e : Env} {s : State} {mm : MethodId} {args : Array Value} {below : List Frame} {meth : Method} {c : Code} {D : va_G} {g : Nat → ClassId} {A : Nat → Prop}
variable {ad : Nat → Nat}
variable {z : kS}
abbrev rm_X8_worth : Room := { frames := 0, cells := 0, slots := 0, locals := 0 }
set_option maxHeartbeats 4000000 in
set_option maxRecDepth 100000 in
theorem w_X8_worth_46 (V : jV p s mm args meth c cX8_worth RX8 7 (some .int) D g) (hA : ∀ q, s.heap.size ≤ q → A q) {c14 : Int32 → Int32 → Int32 → Int32 → Option (Int32)} (hk14 : ∀ {v1 : Int32} {v2 : Int32} {v4 : Int32} {v5 : Int32} {H : Heap} {locs : List Loc} {ls : Array Slot} {out : Int32}, jH A s H locs D g ad z [] [] → jl_has ls 7 [(1, jv ad 1 v1), (2, .int v2), (3, .ref (ad 8)), (4, .int v4), (5, .int v5)] → c14 v1 v2 v4 v5 = some out → W p l e rm_X8_worth s mm args below meth c H locs 0 0 (jGi below args s D g A (fun a => a = ad) out z 0 0) (F0 mm 14 ls [])) {s0 : Int32} {s1 : Int32} {v1 : Int32} {v4 : Int32} {v5 : Int32} {H : Heap} {locs : List Loc} {ls : Array Slot} {out : Int32} (hH : jH A s H locs D g ad z [] []) (hl : jl_has ls 7 [(1, jv ad 1 v1), (3, .ref (ad 8)), (4, .int v4), (5, .int v5)]) (hf : F_X8_worth_46 z c14 s0 s1 v1 v4 v5 = some out) : W p l e rm_X8_worth s mm args below meth c H locs 0 0 (jGi below args s D g A (fun a => a = ad) out z 0 0) (F0 mm 46 ls [.int s1, .int s0]) := by
  have hx := V.1
  have hb := V.2.1
  refine lv_iadd hx hb dX8_worth_46 ?_
  refine jl_istore_n (lv' := [(2, .int (s0 + s1)), (1, jv ad 1 v1), (3, .ref (ad 8)), (4, .int v4), (5, .int v5)]) hx hb dX8_worth_47 rfl hl (by decide) rfl (fun ls hl => ?_)
  refine jl_iinc (v := (v5 + 1)) (lv' := [(5, .int (v5 + 1)), (2, .int (s0 + s1)), (1, jv ad 1 v1), (3, .ref (ad 8)), (4, .int v4)]) hx hb dX8_worth_48 hl (k := 4) rfl rfl (by decide) rfl (fun ls hl => ?_)
  refine lv_goto (tgt := 14) hx hb dX8_worth_51 (by decide) ?_
  exact hk14 hH (jl_sub hl [2, 1, 3, 4, 0] rfl) hf
set_option maxHeartbeats 4000000 in
set_option maxRecDepth 100000 in
theorem w_X8_worth_37 (V : jV p s mm args meth c cX8_worth RX8 7 (some .int) D g) (hA : ∀ q, s.heap.size ≤ q → A q) {c14 : Int32 → Int32 → Int32 → Int32 → Option (Int32)} (hk14 : ∀ {v1 : Int32} {v2 : Int32} {v4 : Int32} {v5 : Int32} {H : Heap} {locs : List Loc} {ls : Array Slot} {out : Int32}, jH A s H locs D g ad z [] [] → jl_has ls 7 [(1, jv ad 1 v1), (2, .int v2), (3, .ref (ad 8)), (4, .int v4), (5, .int v5)] → c14 v1 v2 v4 v5 = some out → W p l e rm_X8_worth s mm args below meth c H locs 0 0 (jGi below args s D g A (fun a => a = ad) out z 0 0) (F0 mm 14 ls [])) {s0 : Int32} {v1 : Int32} {v4 : Int32} {v5 : Int32} {v6 : Int32} {H : Heap} {locs : List Loc} {ls : Array Slot} {out : Int32} (hH : jH A s H locs D g ad z [] []) (hl : jl_has ls 7 [(1, jv ad 1 v1), (3, .ref (ad 8)), (4, .int v4), (5, .int v5), (6, jv ad 2 v6)]) (hf : F_X8_worth_37 z c14 s0 v1 v4 v5 v6 = some out) : W p l e rm_X8_worth s mm args below meth c H locs 0 0 (jGi below args s D g A (fun a => a = ad) out z 0 0) (F0 mm 37 ls [.int s0]) := by
  have hx := V.1
  have hb := V.2.1
  refine jl_aload hx hb dX8_worth_37 (lv_at hl.1 4 rfl) ?_
  obtain ⟨h37_1, hf⟩ := kif hf
  refine jg_L V hH h37_1 0 (by decide) kf_X8_57 rfl dX8_worth_39 ?_
  refine lv_goto (tgt := 46) hx hb dX8_worth_42 (by decide) ?_
  exact w_X8_worth_46 V hA hk14 hH (jl_sub hl [0, 1, 2, 3] rfl) hf
set_option maxHeartbeats 4000000 in
set_option maxRecDepth 100000 in
theorem w_X8_worth_45 (V : jV p s mm args meth c cX8_worth RX8 7 (some .int) D g) (hA : ∀ q, s.heap.size ≤ q → A q) {c14 : Int32 → Int32 → Int32 → Int32 → Option (Int32)} (hk14 : ∀ {v1 : Int32} {v2 : Int32} {v4 : Int32} {v5 : Int32} {H : Heap} {locs : List Loc} {ls : Array Slot} {out : Int32}, jH A s H locs D g ad z [] [] → jl_has ls 7 [(1, jv ad 1 v1), (2, .int v2), (3, .ref (ad 8)), (4, .int v4), (5, .int v5)] → c14 v1 v2 v4 v5 = some out → W p l e rm_X8_worth s mm args below meth c H locs 0 0 (jGi below args s D g A (fun a => a = ad) out z 0 0) (F0 mm 14 ls [])) {s0 : Int32} {v1 : Int32} {v4 : Int32} {v5 : Int32} {H : Heap} {locs : List Loc} {ls : Array Slot} {out : Int32} (hH : jH A s H locs D g ad z [] []) (hl : jl_has ls 7 [(1, jv ad 1 v1), (3, .ref (ad 8)), (4, .int v4), (5, .int v5)]) (hf : F_X8_worth_45 z c14 s0 v1 v4 v5 = some out) : W p l e rm_X8_worth s mm args below meth c H locs 0 0 (jGi below args s D g A (fun a => a = ad) out z 0 0) (F0 mm 45 ls [.int s0]) := by
  have hx := V.1
  have hb := V.2.1
  refine lv_iconst (v := 0) hx hb dX8_worth_45 (by decide) ?_
  exact w_X8_worth_46 V hA hk14 hH (jl_sub hl [0, 1, 2, 3] rfl) hf
set_option maxHeartbeats 4000000 in
set_option maxRecDepth 100000 in
theorem w_X8_worth_21 (V : jV p s mm args meth c cX8_worth RX8 7 (some .int) D g) (hA : ∀ q, s.heap.size ≤ q → A q) {c14 : Int32 → Int32 → Int32 → Int32 → Option (Int32)} (hk14 : ∀ {v1 : Int32} {v2 : Int32} {v4 : Int32} {v5 : Int32} {H : Heap} {locs : List Loc} {ls : Array Slot} {out : Int32}, jH A s H locs D g ad z [] [] → jl_has ls 7 [(1, jv ad 1 v1), (2, .int v2), (3, .ref (ad 8)), (4, .int v4), (5, .int v5)] → c14 v1 v2 v4 v5 = some out → W p l e rm_X8_worth s mm args below meth c H locs 0 0 (jGi below args s D g A (fun a => a = ad) out z 0 0) (F0 mm 14 ls [])) {v1 : Int32} {v2 : Int32} {v4 : Int32} {v5 : Int32} {H : Heap} {locs : List Loc} {ls : Array Slot} {out : Int32} (hH : jH A s H locs D g ad z [] []) (hl : jl_has ls 7 [(1, jv ad 1 v1), (2, .int v2), (3, .ref (ad 8)), (4, .int v4), (5, .int v5)]) (hf : F_X8_worth_21 z c14 v1 v2 v4 v5 = some out) : W p l e rm_X8_worth s mm args below meth c H locs 0 0 (jGi below args s D g A (fun a => a = ad) out z 0 0) (F0 mm 21 ls []) := by
  have hx := V.1
  have hb := V.2.1
  refine lv_aload_n hx hb dX8_worth_21 rfl (lv_at hl.1 2 rfl) ?_
  refine lv_iload hx hb dX8_worth_22 (lv_at hl.1 4 rfl) ?_
  obtain ⟨h21_1, hf⟩ := kif hf
  refine jald_8 V hH h21_1 dX8_worth_24 ?_
  refine jl_astore (lv' := [(6, jv ad 2 (z 8 v5.toNatClampNeg)), (1, jv ad 1 v1), (2, .int v2), (3, .ref (ad 8)), (4, .int v4), (5, .int v5)]) hx hb dX8_worth_25 hl (by decide) rfl (fun ls hl => ?_)
  refine lv_iload_n hx hb dX8_worth_27 rfl (lv_at hl.1 2 rfl) ?_
  refine jl_aload hx hb dX8_worth_28 (lv_at hl.1 0 rfl) ?_
  obtain ⟨h21_2, hf⟩ := kif hf
  refine jg_L V hH h21_2 2 (by decide) kf_X8_50 rfl dX8_worth_30 ?_
  refine jl_aload_n hx hb dX8_worth_33 rfl (lv_at hl.1 1 rfl) ?_
  obtain ⟨h21_3, hf⟩ := kif hf
  obtain ⟨h21_4, hf⟩ := kif hf
  refine jl_acmp_ne1 V hH (tgt := 45) h21_3 h21_4 dX8_worth_34 (by decide) (fun hq => ?_) (fun hq => ?_)
  · have hf := kneg hq hf
    exact w_X8_worth_45 V hA hk14 hH (jl_sub hl [1, 3, 4, 5] rfl) hf
  · have hf := kpos hq hf
    exact w_X8_worth_37 V hA hk14 hH (jl_sub hl [1, 3, 4, 5, 0] rfl) hf
set_option maxHeartbeats 4000000 in
set_option maxRecDepth 100000 in
theorem w_X8_worth_54 (V : jV p s mm args meth c cX8_worth RX8 7 (some .int) D g) (hA : ∀ q, s.heap.size ≤ q → A q) {v2 : Int32} {H : Heap} {locs : List Loc} {ls : Array Slot} {out : Int32} (hH : jH A s H locs D g ad z [] []) (hl : jl_has ls 7 [(2, .int v2)]) (hf : F_X8_worth_54 z v2 = some out) : W p l e rm_X8_worth s mm args below meth c H locs 0 0 (jGi below args s D g A (fun a => a = ad) out z 0 0) (F0 mm 54 ls []) := by
  have hx := V.1
  have hb := V.2.1
  refine lv_iload_n hx hb dX8_worth_54 rfl (lv_at hl.1 0 rfl) ?_
  cases hf
  exact je_iret (G := fun a => a = ad) V rfl hH dX8_worth_55
set_option maxHeartbeats 4000000 in
set_option maxRecDepth 100000 in
theorem w_X8_worth_14 (V : jV p s mm args meth c cX8_worth RX8 7 (some .int) D g) (hA : ∀ q, s.heap.size ≤ q → A q) : ∀ (n : Nat) {v1 : Int32} {v2 : Int32} {v4 : Int32} {v5 : Int32} {H : Heap} {locs : List Loc} {ls : Array Slot} {out : Int32}, jH A s H locs D g ad z [] [] → jl_has ls 7 [(1, jv ad 1 v1), (2, .int v2), (3, .ref (ad 8)), (4, .int v4), (5, .int v5)] → F_X8_worth_14 z n v1 v2 v4 v5 = some out → W p l e rm_X8_worth s mm args below meth c H locs 0 0 (jGi below args s D g A (fun a => a = ad) out z 0 0) (F0 mm 14 ls []) := by
  have hx := V.1
  have hb := V.2.1
  intro n
  induction n with
  | zero => intro _ _ _ _ _ _ _ _ hH hl hf; cases hf
  | succ n hk14 =>
    intro v1 v2 v4 v5 H locs ls out hH hl hf
    refine lv_iload hx hb dX8_worth_14 (lv_at hl.1 4 rfl) ?_
    refine lv_iload hx hb dX8_worth_16 (lv_at hl.1 3 rfl) ?_
    refine lv_icmp_ge (tgt := 54) hx hb dX8_worth_18 (by decide) (fun hq => ?_) (fun hq => ?_)
    · have hf := kpos hq hf
      exact w_X8_worth_54 V hA hH (jl_sub hl [1] rfl) hf
    · have hf := kneg hq hf
      exact w_X8_worth_21 V hA hk14 hH (jl_sub hl [0, 1, 2, 3, 4] rfl) hf
set_option maxHeartbeats 4000000 in
set_option maxRecDepth 100000 in
theorem w_X8_worth_0 (V : jV p s mm args meth c cX8_worth RX8 7 (some .int) D g) (hA : ∀ q, s.heap.size ≤ q → A q) {v1 : Int32} {H : Heap} {locs : List Loc} {ls : Array Slot} {out : Int32} (hH : jH A s H locs D g ad z [] []) (hl : jl_has ls 7 [(0, .ref (ad 0)), (1, jv ad 1 v1)]) (hf : F_X8_worth_0 z v1 = some out) : W p l e rm_X8_worth s mm args below meth c H locs 0 0 (jGi below args s D g A (fun a => a = ad) out z 0 0) (F0 mm 0 ls []) := by
  have hx := V.1
  have hb := V.2.1
  refine lv_iconst (v := 0) hx hb dX8_worth_0 (by decide) ?_
  refine jl_istore_n (lv' := [(2, .int 0), (0, .ref (ad 0)), (1, jv ad 1 v1)]) hx hb dX8_worth_1 rfl hl (by decide) rfl (fun ls hl => ?_)
  refine lv_aload_n hx hb dX8_worth_2 rfl (lv_at hl.1 1 rfl) ?_
  refine jg_S V hH 1 (by decide) kf_X8_17 rfl dX8_worth_3 ?_
  refine jl_astore_n (o := some (ad 8)) (lv' := [(3, .ref (ad 8)), (2, .int 0), (0, .ref (ad 0)), (1, jv ad 1 v1)]) hx hb dX8_worth_6 rfl hl (by decide) rfl (fun ls hl => ?_)
  refine lv_aload_n hx hb dX8_worth_7 rfl (lv_at hl.1 0 rfl) ?_
  refine jalen_8 V hH dX8_worth_8 ?_
  refine jl_istore (lv' := [(4, .int (nI (z 12 1).toNatClampNeg)), (3, .ref (ad 8)), (2, .int 0), (0, .ref (ad 0)), (1, jv ad 1 v1)]) hx hb dX8_worth_9 hl (by decide) rfl (fun ls hl => ?_)
  refine lv_iconst (v := 0) hx hb dX8_worth_11 (by decide) ?_
  refine jl_istore (lv' := [(5, .int 0), (4, .int (nI (z 12 1).toNatClampNeg)), (3, .ref (ad 8)), (2, .int 0), (0, .ref (ad 0)), (1, jv ad 1 v1)]) hx hb dX8_worth_12 hl (by decide) rfl (fun ls hl => ?_)
  exact w_X8_worth_14 V hA kN hH (jl_sub hl [5, 3, 2, 1, 0] rfl) hf
set_option maxHeartbeats 4000000 in
set_option maxRecDepth 100000 in
theorem c_X8_worth (l : Launch) {D : va_G} {g : Nat → ClassId} {ad : Nat → Nat} {z : kS} (v1 : Int32) {out : Int32} (hf : F_X8_worth z v1 = some out) (sz : Nat) : Met l yX8_worth (Cond.code yX8_worth cX8_worth 7 (some .int) :: kWA) rm_X8_worth (jP [.ref (ad 0), jv ad 1 v1] D g ad z sz) (jQi out (fun a => a = ad) D g (va_A (jC g ad z) sz) z) 0 0 (va_A (jC g ad z) sz) := by
  refine j_met (as := [.ref (ad 0), jv ad 1 v1]) (bytes := cX8_worth) (maxL := 7) (rt := (some .int)) (lv := [(0, .ref (ad 0)), (1, jv ad 1 v1)]) (by decide +kernel) (by simp [lg_sl, jcatv, jcati, jcatr]) (by simp [lv_args, jcatv, jcati, jcatr]) (by simp [jcatv, jcati, jcatr]) (fun p e s mm below meth c ls hsz V hA hH hl => ?_)
  exact w_X8_worth_0 V hA hH (jl_sub hl [0, 1] rfl) hf
end
section
variable {p : Program} {l : Launch} {e : Env} {s : State} {mm : MethodId} {args : Array Value} {below : List Frame} {meth : Method} {c : Code} {D : va_G} {g : Nat → ClassId} {A : Nat → Prop}
variable {ad : Nat → Nat}
variable {z : kS}
abbrev rm_X8_rules : Room := { frames := 0, cells := 0, slots := 0, locals := 0 }
set_option maxHeartbeats 4000000 in
set_option maxRecDepth 100000 in
theorem w_X8_rules_42 (V : jV p s mm args meth c cX8_rules RX8 7 (some .int) D g) (hA : ∀ q, s.heap.size ≤ q → A q) {c14 : Int32 → Int32 → Int32 → Int32 → Option (Int32)} (hk14 : ∀ {v1 : Int32} {v2 : Int32} {v4 : Int32} {v5 : Int32} {H : Heap} {locs : List Loc} {ls : Array Slot} {out : Int32}, jH A s H locs D g ad z [] [] → jl_has ls 7 [(1, jv ad 1 v1), (2, .int v2), (3, .ref (ad 8)), (4, .int v4), (5, .int v5)] → c14 v1 v2 v4 v5 = some out → W p l e rm_X8_rules s mm args below meth c H locs 0 0 (jGi below args s D g A (fun a => a = ad) out z 0 0) (F0 mm 14 ls [])) {s0 : Int32} {s1 : Int32} {v1 : Int32} {v4 : Int32} {v5 : Int32} {H : Heap} {locs : List Loc} {ls : Array Slot} {out : Int32} (hH : jH A s H locs D g ad z [] []) (hl : jl_has ls 7 [(1, jv ad 1 v1), (3, .ref (ad 8)), (4, .int v4), (5, .int v5)]) (hf : F_X8_rules_42 z c14 s0 s1 v1 v4 v5 = some out) : W p l e rm_X8_rules s mm args below meth c H locs 0 0 (jGi below args s D g A (fun a => a = ad) out z 0 0) (F0 mm 42 ls [.int s1, .int s0]) := by
  have hx := V.1
  have hb := V.2.1
  refine lv_iadd hx hb dX8_rules_42 ?_
  refine jl_istore_n (lv' := [(2, .int (s0 + s1)), (1, jv ad 1 v1), (3, .ref (ad 8)), (4, .int v4), (5, .int v5)]) hx hb dX8_rules_43 rfl hl (by decide) rfl (fun ls hl => ?_)
  refine jl_iinc (v := (v5 + 1)) (lv' := [(5, .int (v5 + 1)), (2, .int (s0 + s1)), (1, jv ad 1 v1), (3, .ref (ad 8)), (4, .int v4)]) hx hb dX8_rules_44 hl (k := 4) rfl rfl (by decide) rfl (fun ls hl => ?_)
  refine lv_goto (tgt := 14) hx hb dX8_rules_47 (by decide) ?_
  exact hk14 hH (jl_sub hl [2, 1, 3, 4, 0] rfl) hf
set_option maxHeartbeats 4000000 in
set_option maxRecDepth 100000 in
theorem w_X8_rules_37 (V : jV p s mm args meth c cX8_rules RX8 7 (some .int) D g) (hA : ∀ q, s.heap.size ≤ q → A q) {c14 : Int32 → Int32 → Int32 → Int32 → Option (Int32)} (hk14 : ∀ {v1 : Int32} {v2 : Int32} {v4 : Int32} {v5 : Int32} {H : Heap} {locs : List Loc} {ls : Array Slot} {out : Int32}, jH A s H locs D g ad z [] [] → jl_has ls 7 [(1, jv ad 1 v1), (2, .int v2), (3, .ref (ad 8)), (4, .int v4), (5, .int v5)] → c14 v1 v2 v4 v5 = some out → W p l e rm_X8_rules s mm args below meth c H locs 0 0 (jGi below args s D g A (fun a => a = ad) out z 0 0) (F0 mm 14 ls [])) {s0 : Int32} {v1 : Int32} {v4 : Int32} {v5 : Int32} {H : Heap} {locs : List Loc} {ls : Array Slot} {out : Int32} (hH : jH A s H locs D g ad z [] []) (hl : jl_has ls 7 [(1, jv ad 1 v1), (3, .ref (ad 8)), (4, .int v4), (5, .int v5)]) (hf : F_X8_rules_37 z c14 s0 v1 v4 v5 = some out) : W p l e rm_X8_rules s mm args below meth c H locs 0 0 (jGi below args s D g A (fun a => a = ad) out z 0 0) (F0 mm 37 ls [.int s0]) := by
  have hx := V.1
  have hb := V.2.1
  refine lv_iconst (v := 1) hx hb dX8_rules_37 (by decide) ?_
  refine lv_goto (tgt := 42) hx hb dX8_rules_38 (by decide) ?_
  exact w_X8_rules_42 V hA hk14 hH (jl_sub hl [0, 1, 2, 3] rfl) hf
set_option maxHeartbeats 4000000 in
set_option maxRecDepth 100000 in
theorem w_X8_rules_41 (V : jV p s mm args meth c cX8_rules RX8 7 (some .int) D g) (hA : ∀ q, s.heap.size ≤ q → A q) {c14 : Int32 → Int32 → Int32 → Int32 → Option (Int32)} (hk14 : ∀ {v1 : Int32} {v2 : Int32} {v4 : Int32} {v5 : Int32} {H : Heap} {locs : List Loc} {ls : Array Slot} {out : Int32}, jH A s H locs D g ad z [] [] → jl_has ls 7 [(1, jv ad 1 v1), (2, .int v2), (3, .ref (ad 8)), (4, .int v4), (5, .int v5)] → c14 v1 v2 v4 v5 = some out → W p l e rm_X8_rules s mm args below meth c H locs 0 0 (jGi below args s D g A (fun a => a = ad) out z 0 0) (F0 mm 14 ls [])) {s0 : Int32} {v1 : Int32} {v4 : Int32} {v5 : Int32} {H : Heap} {locs : List Loc} {ls : Array Slot} {out : Int32} (hH : jH A s H locs D g ad z [] []) (hl : jl_has ls 7 [(1, jv ad 1 v1), (3, .ref (ad 8)), (4, .int v4), (5, .int v5)]) (hf : F_X8_rules_41 z c14 s0 v1 v4 v5 = some out) : W p l e rm_X8_rules s mm args below meth c H locs 0 0 (jGi below args s D g A (fun a => a = ad) out z 0 0) (F0 mm 41 ls [.int s0]) := by
  have hx := V.1
  have hb := V.2.1
  refine lv_iconst (v := 0) hx hb dX8_rules_41 (by decide) ?_
  exact w_X8_rules_42 V hA hk14 hH (jl_sub hl [0, 1, 2, 3] rfl) hf
set_option maxHeartbeats 4000000 in
set_option maxRecDepth 100000 in
theorem w_X8_rules_21 (V : jV p s mm args meth c cX8_rules RX8 7 (some .int) D g) (hA : ∀ q, s.heap.size ≤ q → A q) {c14 : Int32 → Int32 → Int32 → Int32 → Option (Int32)} (hk14 : ∀ {v1 : Int32} {v2 : Int32} {v4 : Int32} {v5 : Int32} {H : Heap} {locs : List Loc} {ls : Array Slot} {out : Int32}, jH A s H locs D g ad z [] [] → jl_has ls 7 [(1, jv ad 1 v1), (2, .int v2), (3, .ref (ad 8)), (4, .int v4), (5, .int v5)] → c14 v1 v2 v4 v5 = some out → W p l e rm_X8_rules s mm args below meth c H locs 0 0 (jGi below args s D g A (fun a => a = ad) out z 0 0) (F0 mm 14 ls [])) {v1 : Int32} {v2 : Int32} {v4 : Int32} {v5 : Int32} {H : Heap} {locs : List Loc} {ls : Array Slot} {out : Int32} (hH : jH A s H locs D g ad z [] []) (hl : jl_has ls 7 [(1, jv ad 1 v1), (2, .int v2), (3, .ref (ad 8)), (4, .int v4), (5, .int v5)]) (hf : F_X8_rules_21 z c14 v1 v2 v4 v5 = some out) : W p l e rm_X8_rules s mm args below meth c H locs 0 0 (jGi below args s D g A (fun a => a = ad) out z 0 0) (F0 mm 21 ls []) := by
  have hx := V.1
  have hb := V.2.1
  refine lv_aload_n hx hb dX8_rules_21 rfl (lv_at hl.1 2 rfl) ?_
  refine lv_iload hx hb dX8_rules_22 (lv_at hl.1 4 rfl) ?_
  obtain ⟨h21_1, hf⟩ := kif hf
  refine jald_8 V hH h21_1 dX8_rules_24 ?_
  refine jl_astore (lv' := [(6, jv ad 2 (z 8 v5.toNatClampNeg)), (1, jv ad 1 v1), (2, .int v2), (3, .ref (ad 8)), (4, .int v4), (5, .int v5)]) hx hb dX8_rules_25 hl (by decide) rfl (fun ls hl => ?_)
  refine lv_iload_n hx hb dX8_rules_27 rfl (lv_at hl.1 2 rfl) ?_
  refine jl_aload hx hb dX8_rules_28 (lv_at hl.1 0 rfl) ?_
  obtain ⟨h21_2, hf⟩ := kif hf
  refine jg_L V hH h21_2 2 (by decide) kf_X8_50 rfl dX8_rules_30 ?_
  refine jl_aload_n hx hb dX8_rules_33 rfl (lv_at hl.1 1 rfl) ?_
  obtain ⟨h21_3, hf⟩ := kif hf
  obtain ⟨h21_4, hf⟩ := kif hf
  refine jl_acmp_ne1 V hH (tgt := 41) h21_3 h21_4 dX8_rules_34 (by decide) (fun hq => ?_) (fun hq => ?_)
  · have hf := kneg hq hf
    exact w_X8_rules_41 V hA hk14 hH (jl_sub hl [1, 3, 4, 5] rfl) hf
  · have hf := kpos hq hf
    exact w_X8_rules_37 V hA hk14 hH (jl_sub hl [1, 3, 4, 5] rfl) hf
set_option maxHeartbeats 4000000 in
set_option maxRecDepth 100000 in
theorem w_X8_rules_50 (V : jV p s mm args meth c cX8_rules RX8 7 (some .int) D g) (hA : ∀ q, s.heap.size ≤ q → A q) {v2 : Int32} {H : Heap} {locs : List Loc} {ls : Array Slot} {out : Int32} (hH : jH A s H locs D g ad z [] []) (hl : jl_has ls 7 [(2, .int v2)]) (hf : F_X8_rules_50 z v2 = some out) : W p l e rm_X8_rules s mm args below meth c H locs 0 0 (jGi below args s D g A (fun a => a = ad) out z 0 0) (F0 mm 50 ls []) := by
  have hx := V.1
  have hb := V.2.1
  refine lv_iload_n hx hb dX8_rules_50 rfl (lv_at hl.1 0 rfl) ?_
  cases hf
  exact je_iret (G := fun a => a = ad) V rfl hH dX8_rules_51
set_option maxHeartbeats 4000000 in
set_option maxRecDepth 100000 in
theorem w_X8_rules_14 (V : jV p s mm args meth c cX8_rules RX8 7 (some .int) D g) (hA : ∀ q, s.heap.size ≤ q → A q) : ∀ (n : Nat) {v1 : Int32} {v2 : Int32} {v4 : Int32} {v5 : Int32} {H : Heap} {locs : List Loc} {ls : Array Slot} {out : Int32}, jH A s H locs D g ad z [] [] → jl_has ls 7 [(1, jv ad 1 v1), (2, .int v2), (3, .ref (ad 8)), (4, .int v4), (5, .int v5)] → F_X8_rules_14 z n v1 v2 v4 v5 = some out → W p l e rm_X8_rules s mm args below meth c H locs 0 0 (jGi below args s D g A (fun a => a = ad) out z 0 0) (F0 mm 14 ls []) := by
  have hx := V.1
  have hb := V.2.1
  intro n
  induction n with
  | zero => intro _ _ _ _ _ _ _ _ hH hl hf; cases hf
  | succ n hk14 =>
    intro v1 v2 v4 v5 H locs ls out hH hl hf
    refine lv_iload hx hb dX8_rules_14 (lv_at hl.1 4 rfl) ?_
    refine lv_iload hx hb dX8_rules_16 (lv_at hl.1 3 rfl) ?_
    refine lv_icmp_ge (tgt := 50) hx hb dX8_rules_18 (by decide) (fun hq => ?_) (fun hq => ?_)
    · have hf := kpos hq hf
      exact w_X8_rules_50 V hA hH (jl_sub hl [1] rfl) hf
    · have hf := kneg hq hf
      exact w_X8_rules_21 V hA hk14 hH (jl_sub hl [0, 1, 2, 3, 4] rfl) hf
set_option maxHeartbeats 4000000 in
set_option maxRecDepth 100000 in
theorem w_X8_rules_0 (V : jV p s mm args meth c cX8_rules RX8 7 (some .int) D g) (hA : ∀ q, s.heap.size ≤ q → A q) {v1 : Int32} {H : Heap} {locs : List Loc} {ls : Array Slot} {out : Int32} (hH : jH A s H locs D g ad z [] []) (hl : jl_has ls 7 [(0, .ref (ad 0)), (1, jv ad 1 v1)]) (hf : F_X8_rules_0 z v1 = some out) : W p l e rm_X8_rules s mm args below meth c H locs 0 0 (jGi below args s D g A (fun a => a = ad) out z 0 0) (F0 mm 0 ls []) := by
  have hx := V.1
  have hb := V.2.1
  refine lv_iconst (v := 0) hx hb dX8_rules_0 (by decide) ?_
  refine jl_istore_n (lv' := [(2, .int 0), (0, .ref (ad 0)), (1, jv ad 1 v1)]) hx hb dX8_rules_1 rfl hl (by decide) rfl (fun ls hl => ?_)
  refine lv_aload_n hx hb dX8_rules_2 rfl (lv_at hl.1 1 rfl) ?_
  refine jg_S V hH 1 (by decide) kf_X8_17 rfl dX8_rules_3 ?_
  refine jl_astore_n (o := some (ad 8)) (lv' := [(3, .ref (ad 8)), (2, .int 0), (0, .ref (ad 0)), (1, jv ad 1 v1)]) hx hb dX8_rules_6 rfl hl (by decide) rfl (fun ls hl => ?_)
  refine lv_aload_n hx hb dX8_rules_7 rfl (lv_at hl.1 0 rfl) ?_
  refine jalen_8 V hH dX8_rules_8 ?_
  refine jl_istore (lv' := [(4, .int (nI (z 12 1).toNatClampNeg)), (3, .ref (ad 8)), (2, .int 0), (0, .ref (ad 0)), (1, jv ad 1 v1)]) hx hb dX8_rules_9 hl (by decide) rfl (fun ls hl => ?_)
  refine lv_iconst (v := 0) hx hb dX8_rules_11 (by decide) ?_
  refine jl_istore (lv' := [(5, .int 0), (4, .int (nI (z 12 1).toNatClampNeg)), (3, .ref (ad 8)), (2, .int 0), (0, .ref (ad 0)), (1, jv ad 1 v1)]) hx hb dX8_rules_12 hl (by decide) rfl (fun ls hl => ?_)
  exact w_X8_rules_14 V hA kN hH (jl_sub hl [5, 3, 2, 1, 0] rfl) hf
set_option maxHeartbeats 4000000 in
set_option maxRecDepth 100000 in
theorem c_X8_rules (l : Launch) {D : va_G} {g : Nat → ClassId} {ad : Nat → Nat} {z : kS} (v1 : Int32) {out : Int32} (hf : F_X8_rules z v1 = some out) (sz : Nat) : Met l yX8_rules (Cond.code yX8_rules cX8_rules 7 (some .int) :: kWA) rm_X8_rules (jP [.ref (ad 0), jv ad 1 v1] D g ad z sz) (jQi out (fun a => a = ad) D g (va_A (jC g ad z) sz) z) 0 0 (va_A (jC g ad z) sz) := by
  refine j_met (as := [.ref (ad 0), jv ad 1 v1]) (bytes := cX8_rules) (maxL := 7) (rt := (some .int)) (lv := [(0, .ref (ad 0)), (1, jv ad 1 v1)]) (by decide +kernel) (by simp [lg_sl, jcatv, jcati, jcatr]) (by simp [lv_args, jcatv, jcati, jcatr]) (by simp [jcatv, jcati, jcatr]) (fun p e s mm below meth c ls hsz V hA hH hl => ?_)
  exact w_X8_rules_0 V hA hH (jl_sub hl [0, 1] rfl) hf
end
section
variable {p : Program} {l : Launch} {e : Env} {s : State} {mm : MethodId} {args : Array Value} {below : List Frame} {meth : Method} {c : Code} {D : va_G} {g : Nat → ClassId} {A : Nat → Prop}
variable {ad : Nat → Nat}
variable {z : kS}
abbrev rm_X8_isFree : Room := { frames := 0, cells := 0, slots := 0, locals := 0 }
set_option maxHeartbeats 4000000 in
set_option maxRecDepth 100000 in
theorem w_X8_isFree_33 (V : jV p s mm args meth c cX8_isFree RX8 2 (some .boolean) D g) (hA : ∀ q, s.heap.size ≤ q → A q) {s0 : Int32} {H : Heap} {locs : List Loc} {ls : Array Slot} {out : Int32} (hH : jH A s H locs D g ad z [] []) (hl : jl_has ls 2 []) (hf : F_X8_isFree_33 z s0 = some out) : W p l e rm_X8_isFree s mm args below meth c H locs 0 0 (jGi below args s D g A (fun a => a = ad) out z 0 0) (F0 mm 33 ls [.int s0]) := by
  have hx := V.1
  have hb := V.2.1
  obtain ⟨h33_1, hf⟩ := kif hf
  cases hf
  exact je_zret (G := fun a => a = ad) V rfl hH (Decidable.not_not.mp h33_1) dX8_isFree_33
set_option maxHeartbeats 4000000 in
set_option maxRecDepth 100000 in
theorem w_X8_isFree_28 (V : jV p s mm args meth c cX8_isFree RX8 2 (some .boolean) D g) (hA : ∀ q, s.heap.size ≤ q → A q) {H : Heap} {locs : List Loc} {ls : Array Slot} {out : Int32} (hH : jH A s H locs D g ad z [] []) (hl : jl_has ls 2 []) (hf : F_X8_isFree_28 z = some out) : W p l e rm_X8_isFree s mm args below meth c H locs 0 0 (jGi below args s D g A (fun a => a = ad) out z 0 0) (F0 mm 28 ls []) := by
  have hx := V.1
  have hb := V.2.1
  refine lv_iconst (v := 1) hx hb dX8_isFree_28 (by decide) ?_
  refine lv_goto (tgt := 33) hx hb dX8_isFree_29 (by decide) ?_
  exact w_X8_isFree_33 V hA hH (jl_sub hl [] rfl) hf
set_option maxHeartbeats 4000000 in
set_option maxRecDepth 100000 in
theorem w_X8_isFree_32 (V : jV p s mm args meth c cX8_isFree RX8 2 (some .boolean) D g) (hA : ∀ q, s.heap.size ≤ q → A q) {H : Heap} {locs : List Loc} {ls : Array Slot} {out : Int32} (hH : jH A s H locs D g ad z [] []) (hl : jl_has ls 2 []) (hf : F_X8_isFree_32 z = some out) : W p l e rm_X8_isFree s mm args below meth c H locs 0 0 (jGi below args s D g A (fun a => a = ad) out z 0 0) (F0 mm 32 ls []) := by
  have hx := V.1
  have hb := V.2.1
  refine lv_iconst (v := 0) hx hb dX8_isFree_32 (by decide) ?_
  exact w_X8_isFree_33 V hA hH (jl_sub hl [] rfl) hf
set_option maxHeartbeats 4000000 in
set_option maxRecDepth 100000 in
theorem w_X8_isFree_14 (V : jV p s mm args meth c cX8_isFree RX8 2 (some .boolean) D g) (hA : ∀ q, s.heap.size ≤ q → A q) {v1 : Int32} {H : Heap} {locs : List Loc} {ls : Array Slot} {out : Int32} (hH : jH A s H locs D g ad z [] []) (hl : jl_has ls 2 [(0, .ref (ad 0)), (1, jv ad 1 v1)]) (hf : F_X8_isFree_14 z v1 = some out) : W p l e rm_X8_isFree s mm args below meth c H locs 0 0 (jGi below args s D g A (fun a => a = ad) out z 0 0) (F0 mm 14 ls []) := by
  have hx := V.1
  have hb := V.2.1
  refine lv_aload_n hx hb dX8_isFree_14 rfl (lv_at hl.1 0 rfl) ?_
  refine jg_S V hH 2 (by decide) kf_X8_30 rfl dX8_isFree_15 ?_
  refine jl_aload_n hx hb dX8_isFree_18 rfl (lv_at hl.1 1 rfl) ?_
  obtain ⟨h14_1, hf⟩ := kif hf
  refine jg_P V hH h14_1 2 (by decide) kf_X8_33 rfl dX8_isFree_19 ?_
  refine lv_isub hx hb dX8_isFree_22 ?_
  refine lv_bipush (v := 15) hx hb dX8_isFree_23 (by decide) ?_
  refine lv_icmp_le (tgt := 32) hx hb dX8_isFree_25 (by decide) (fun hq => ?_) (fun hq => ?_)
  · have hf := kpos hq hf
    exact w_X8_isFree_32 V hA hH (jl_sub hl [] rfl) hf
  · have hf := kneg hq hf
    exact w_X8_isFree_28 V hA hH (jl_sub hl [] rfl) hf
set_option maxHeartbeats 4000000 in
set_option maxRecDepth 100000 in
theorem w_X8_isFree_7 (V : jV p s mm args meth c cX8_isFree RX8 2 (some .boolean) D g) (hA : ∀ q, s.heap.size ≤ q → A q) {v1 : Int32} {H : Heap} {locs : List Loc} {ls : Array Slot} {out : Int32} (hH : jH A s H locs D g ad z [] []) (hl : jl_has ls 2 [(0, .ref (ad 0)), (1, jv ad 1 v1)]) (hf : F_X8_isFree_7 z v1 = some out) : W p l e rm_X8_isFree s mm args below meth c H locs 0 0 (jGi below args s D g A (fun a => a = ad) out z 0 0) (F0 mm 7 ls []) := by
  have hx := V.1
  have hb := V.2.1
  refine jl_aload_n hx hb dX8_isFree_7 rfl (lv_at hl.1 1 rfl) ?_
  obtain ⟨h7_1, hf⟩ := kif hf
  refine jg_P V hH h7_1 6 (by decide) kf_X8_44 rfl dX8_isFree_8 ?_
  refine jl_ifnonnull (tgt := 32) hx hb dX8_isFree_11 (by decide) (fun hq => ?_) (fun hq => ?_)
  · have hf := kneg hq hf
    exact w_X8_isFree_32 V hA hH (jl_sub hl [] rfl) hf
  · have hf := kpos hq hf
    exact w_X8_isFree_14 V hA hH (jl_sub hl [0, 1] rfl) hf
set_option maxHeartbeats 4000000 in
set_option maxRecDepth 100000 in
theorem w_X8_isFree_0 (V : jV p s mm args meth c cX8_isFree RX8 2 (some .boolean) D g) (hA : ∀ q, s.heap.size ≤ q → A q) {v1 : Int32} {H : Heap} {locs : List Loc} {ls : Array Slot} {out : Int32} (hH : jH A s H locs D g ad z [] []) (hl : jl_has ls 2 [(0, .ref (ad 0)), (1, jv ad 1 v1)]) (hf : F_X8_isFree_0 z v1 = some out) : W p l e rm_X8_isFree s mm args below meth c H locs 0 0 (jGi below args s D g A (fun a => a = ad) out z 0 0) (F0 mm 0 ls []) := by
  have hx := V.1
  have hb := V.2.1
  refine jl_aload_n hx hb dX8_isFree_0 rfl (lv_at hl.1 1 rfl) ?_
  obtain ⟨h0_1, hf⟩ := kif hf
  refine jg_P V hH h0_1 3 (by decide) kf_X8_93 rfl dX8_isFree_1 ?_
  refine lv_if_ge (tgt := 32) hx hb dX8_isFree_4 (by decide) (fun hq => ?_) (fun hq => ?_)
  · have hf := kpos hq hf
    exact w_X8_isFree_32 V hA hH (jl_sub hl [] rfl) hf
  · have hf := kneg hq hf
    exact w_X8_isFree_7 V hA hH (jl_sub hl [0, 1] rfl) hf
set_option maxHeartbeats 4000000 in
set_option maxRecDepth 100000 in
theorem c_X8_isFree (l : Launch) {D : va_G} {g : Nat → ClassId} {ad : Nat → Nat} {z : kS} (v1 : Int32) {out : Int32} (hf : F_X8_isFree z v1 = some out) (sz : Nat) : Met l yX8_isFree (Cond.code yX8_isFree cX8_isFree 2 (some .boolean) :: kWA) rm_X8_isFree (jP [.ref (ad 0), jv ad 1 v1] D g ad z sz) (jQi out (fun a => a = ad) D g (va_A (jC g ad z) sz) z) 0 0 (va_A (jC g ad z) sz) := by
  refine j_met (as := [.ref (ad 0), jv ad 1 v1]) (bytes := cX8_isFree) (maxL := 2) (rt := (some .boolean)) (lv := [(0, .ref (ad 0)), (1, jv ad 1 v1)]) (by decide +kernel) (by simp [lg_sl, jcatv, jcati, jcatr]) (by simp [lv_args, jcatv, jcati, jcatr]) (by simp [jcatv, jcati, jcatr]) (fun p e s mm below meth c ls hsz V hA hH hl => ?_)
  exact w_X8_isFree_0 V hA hH (jl_sub hl [0, 1] rfl) hf
end
section
variable {p : Program} {l : Launch} {e : Env} {s : State} {mm : MethodId} {args : Array Value} {below : List Frame} {meth : Method} {c : Code} {D : va_G} {g : Nat → ClassId} {A : Nat → Prop}
variable {ad : Nat → Nat}
variable {z : kS}
abbrev rm_X8_related : Room := { frames := 48, cells := 0, slots := 0, locals := 1026 }
set_option maxHeartbeats 4000000 in
set_option maxRecDepth 100000 in
theorem w_X8_related_25 (V : jV p s mm args meth c cX8_related RX8 8 (some .int) D g) (hA : ∀ q, s.heap.size ≤ q → A q) {c18 : Int32 → Int32 → Int32 → Int32 → Int32 → Option (Int32)} (hk18 : ∀ {v1 : Int32} {v2 : Int32} {v3 : Int32} {v5 : Int32} {v6 : Int32} {H : Heap} {locs : List Loc} {ls : Array Slot} {out : Int32}, jH A s H locs D g ad z [] [] → jl_has ls 8 [(1, jv ad 1 v1), (2, jv ad 1 v2), (3, .int v3), (4, .ref (ad 4)), (5, .int v5), (6, .int v6)] → c18 v1 v2 v3 v5 v6 = some out → W p l e rm_X8_related s mm args below meth c H locs 0 0 (jGi below args s D g A (fun a => a = ad) out z 0 0) (F0 mm 18 ls [])) {v1 : Int32} {v2 : Int32} {v3 : Int32} {v5 : Int32} {v6 : Int32} {H : Heap} {locs : List Loc} {ls : Array Slot} {out : Int32} (hH : jH A s H locs D g ad z [] []) (hl : jl_has ls 8 [(1, jv ad 1 v1), (2, jv ad 1 v2), (3, .int v3), (4, .ref (ad 4)), (5, .int v5), (6, .int v6)]) (hf : F_X8_related_25 z c18 v1 v2 v3 v5 v6 = some out) : W p l e rm_X8_related s mm args below meth c H locs 0 0 (jGi below args s D g A (fun a => a = ad) out z 0 0) (F0 mm 25 ls []) := by
  have hx := V.1
  have hb := V.2.1
  refine lv_aload hx hb dX8_related_25 (lv_at hl.1 3 rfl) ?_
  refine lv_iload hx hb dX8_related_27 (lv_at hl.1 5 rfl) ?_
  obtain ⟨h25_1, hf⟩ := kif hf
  refine jald_4 V hH h25_1 dX8_related_29 ?_
  refine jl_astore (lv' := [(7, jv ad 1 (z 4 v6.toNatClampNeg)), (1, jv ad 1 v1), (2, jv ad 1 v2), (3, .int v3), (4, .ref (ad 4)), (5, .int v5), (6, .int v6)]) hx hb dX8_related_30 hl (by decide) rfl (fun ls hl => ?_)
  refine lv_iload_n hx hb dX8_related_32 rfl (lv_at hl.1 3 rfl) ?_
  refine jl_aload_n hx hb dX8_related_33 rfl (lv_at hl.1 1 rfl) ?_
  refine jl_aload hx hb dX8_related_34 (lv_at hl.1 0 rfl) ?_
  obtain ⟨x25_2, hx25_2, hf⟩ := kbind hf
  refine jr_calliR0 hA hH (jr_runS (as := [jv ad 1 v1, jv ad 1 (z 4 v6.toNatClampNeg)]) (rest := [.int v3]) V hH kYX8_up kl_X8_67 (c_X8_up l kD _ _ hx25_2 _) rfl rfl ⟨Nat.le_of_ble_eq_true rfl, Nat.le_of_ble_eq_true rfl⟩ rfl hl.1.1 (Nat.le_of_ble_eq_true rfl) dX8_related_36 ⟨Nat.le_refl _, Nat.le_refl _⟩ rfl) (fun H locs hH => ?_)
  refine jl_aload_n hx hb dX8_related_39 rfl (lv_at hl.1 2 rfl) ?_
  refine jl_aload hx hb dX8_related_40 (lv_at hl.1 0 rfl) ?_
  obtain ⟨x25_3, hx25_3, hf⟩ := kbind hf
  refine jr_calliR0 hA hH (jr_runS (as := [jv ad 1 v2, jv ad 1 (z 4 v6.toNatClampNeg)]) (rest := [.int x25_2, .int v3]) V hH kYX8_up kl_X8_67 (c_X8_up l kD _ _ hx25_3 _) rfl rfl ⟨Nat.le_of_ble_eq_true rfl, Nat.le_of_ble_eq_true rfl⟩ rfl hl.1.1 (Nat.le_of_ble_eq_true rfl) dX8_related_42 ⟨Nat.le_refl _, Nat.le_refl _⟩ rfl) (fun H locs hH => ?_)
  refine lv_iadd hx hb dX8_related_45 ?_
  refine jr_mn V hl.1.1 kl_X8_71 (Nat.le_of_ble_eq_true rfl) (Nat.le_of_ble_eq_true rfl) (Nat.zero_le _) (Nat.zero_le _) (Nat.le_of_ble_eq_true rfl) dX8_related_46 ?_
  refine jl_istore_n (lv' := [(3, .int (if (x25_2 + x25_3) < v3 then (x25_2 + x25_3) else v3)), (7, jv ad 1 (z 4 v6.toNatClampNeg)), (1, jv ad 1 v1), (2, jv ad 1 v2), (4, .ref (ad 4)), (5, .int v5), (6, .int v6)]) hx hb dX8_related_49 rfl hl (by decide) rfl (fun ls hl => ?_)
  refine jl_iinc (v := (v6 + 1)) (lv' := [(6, .int (v6 + 1)), (3, .int (if (x25_2 + x25_3) < v3 then (x25_2 + x25_3) else v3)), (7, jv ad 1 (z 4 v6.toNatClampNeg)), (1, jv ad 1 v1), (2, jv ad 1 v2), (4, .ref (ad 4)), (5, .int v5)]) hx hb dX8_related_50 hl (k := 6) rfl rfl (by decide) rfl (fun ls hl => ?_)
  refine lv_goto (tgt := 18) hx hb dX8_related_53 (by decide) ?_
  exact hk18 hH (jl_sub hl [3, 4, 1, 5, 6, 0] rfl) hf
set_option maxHeartbeats 4000000 in
set_option maxRecDepth 100000 in
theorem w_X8_related_56 (V : jV p s mm args meth c cX8_related RX8 8 (some .int) D g) (hA : ∀ q, s.heap.size ≤ q → A q) {v3 : Int32} {H : Heap} {locs : List Loc} {ls : Array Slot} {out : Int32} (hH : jH A s H locs D g ad z [] []) (hl : jl_has ls 8 [(3, .int v3)]) (hf : F_X8_related_56 z v3 = some out) : W p l e rm_X8_related s mm args below meth c H locs 0 0 (jGi below args s D g A (fun a => a = ad) out z 0 0) (F0 mm 56 ls []) := by
  have hx := V.1
  have hb := V.2.1
  refine lv_iload_n hx hb dX8_related_56 rfl (lv_at hl.1 0 rfl) ?_
  cases hf
  exact je_iret (G := fun a => a = ad) V rfl hH dX8_related_57
set_option maxHeartbeats 4000000 in
set_option maxRecDepth 100000 in
theorem w_X8_related_18 (V : jV p s mm args meth c cX8_related RX8 8 (some .int) D g) (hA : ∀ q, s.heap.size ≤ q → A q) : ∀ (n : Nat) {v1 : Int32} {v2 : Int32} {v3 : Int32} {v5 : Int32} {v6 : Int32} {H : Heap} {locs : List Loc} {ls : Array Slot} {out : Int32}, jH A s H locs D g ad z [] [] → jl_has ls 8 [(1, jv ad 1 v1), (2, jv ad 1 v2), (3, .int v3), (4, .ref (ad 4)), (5, .int v5), (6, .int v6)] → F_X8_related_18 z n v1 v2 v3 v5 v6 = some out → W p l e rm_X8_related s mm args below meth c H locs 0 0 (jGi below args s D g A (fun a => a = ad) out z 0 0) (F0 mm 18 ls []) := by
  have hx := V.1
  have hb := V.2.1
  intro n
  induction n with
  | zero => intro _ _ _ _ _ _ _ _ _ hH hl hf; cases hf
  | succ n hk18 =>
    intro v1 v2 v3 v5 v6 H locs ls out hH hl hf
    refine lv_iload hx hb dX8_related_18 (lv_at hl.1 5 rfl) ?_
    refine lv_iload hx hb dX8_related_20 (lv_at hl.1 4 rfl) ?_
    refine lv_icmp_ge (tgt := 56) hx hb dX8_related_22 (by decide) (fun hq => ?_) (fun hq => ?_)
    · have hf := kpos hq hf
      exact w_X8_related_56 V hA hH (jl_sub hl [2] rfl) hf
    · have hf := kneg hq hf
      exact w_X8_related_25 V hA hk18 hH (jl_sub hl [0, 1, 2, 3, 4, 5] rfl) hf
set_option maxHeartbeats 4000000 in
set_option maxRecDepth 100000 in
theorem w_X8_related_0 (V : jV p s mm args meth c cX8_related RX8 8 (some .int) D g) (hA : ∀ q, s.heap.size ≤ q → A q) {v1 : Int32} {v2 : Int32} {H : Heap} {locs : List Loc} {ls : Array Slot} {out : Int32} (hH : jH A s H locs D g ad z [] []) (hl : jl_has ls 8 [(0, .ref (ad 0)), (1, jv ad 1 v1), (2, jv ad 1 v2)]) (hf : F_X8_related_0 z v1 v2 = some out) : W p l e rm_X8_related s mm args below meth c H locs 0 0 (jGi below args s D g A (fun a => a = ad) out z 0 0) (F0 mm 0 ls []) := by
  have hx := V.1
  have hb := V.2.1
  refine lv_sipush (v := 1000) hx hb dX8_related_0 (by decide) ?_
  refine jl_istore_n (lv' := [(3, .int 1000), (0, .ref (ad 0)), (1, jv ad 1 v1), (2, jv ad 1 v2)]) hx hb dX8_related_3 rfl hl (by decide) rfl (fun ls hl => ?_)
  refine lv_aload_n hx hb dX8_related_4 rfl (lv_at hl.1 1 rfl) ?_
  refine jg_S V hH 0 (by decide) kf_X8_9 rfl dX8_related_5 ?_
  refine jl_astore (o := some (ad 4)) (lv' := [(4, .ref (ad 4)), (3, .int 1000), (0, .ref (ad 0)), (1, jv ad 1 v1), (2, jv ad 1 v2)]) hx hb dX8_related_8 hl (by decide) rfl (fun ls hl => ?_)
  refine lv_aload hx hb dX8_related_10 (lv_at hl.1 0 rfl) ?_
  refine jalen_4 V hH dX8_related_12 ?_
  refine jl_istore (lv' := [(5, .int (nI (z 12 0).toNatClampNeg)), (4, .ref (ad 4)), (3, .int 1000), (0, .ref (ad 0)), (1, jv ad 1 v1), (2, jv ad 1 v2)]) hx hb dX8_related_13 hl (by decide) rfl (fun ls hl => ?_)
  refine lv_iconst (v := 0) hx hb dX8_related_15 (by decide) ?_
  refine jl_istore (lv' := [(6, .int 0), (5, .int (nI (z 12 0).toNatClampNeg)), (4, .ref (ad 4)), (3, .int 1000), (0, .ref (ad 0)), (1, jv ad 1 v1), (2, jv ad 1 v2)]) hx hb dX8_related_16 hl (by decide) rfl (fun ls hl => ?_)
  exact w_X8_related_18 V hA kN hH (jl_sub hl [5, 6, 3, 2, 1, 0] rfl) hf
set_option maxHeartbeats 4000000 in
set_option maxRecDepth 100000 in
theorem c_X8_related (l : Launch) {D : va_G} {g : Nat → ClassId} {ad : Nat → Nat} {z : kS} (v1 : Int32) (v2 : Int32) {out : Int32} (hf : F_X8_related z v1 v2 = some out) (sz : Nat) : Met l yX8_related (Cond.code yX8_related cX8_related 8 (some .int) :: kWA) rm_X8_related (jP [.ref (ad 0), jv ad 1 v1, jv ad 1 v2] D g ad z sz) (jQi out (fun a => a = ad) D g (va_A (jC g ad z) sz) z) 0 0 (va_A (jC g ad z) sz) := by
  refine j_met (as := [.ref (ad 0), jv ad 1 v1, jv ad 1 v2]) (bytes := cX8_related) (maxL := 8) (rt := (some .int)) (lv := [(0, .ref (ad 0)), (1, jv ad 1 v1), (2, jv ad 1 v2)]) (by decide +kernel) (by simp [lg_sl, jcatv, jcati, jcatr]) (by simp [lv_args, jcatv, jcati, jcatr]) (by simp [jcatv, jcati, jcatr]) (fun p e s mm below meth c ls hsz V hA hH hl => ?_)
  exact w_X8_related_0 V hA hH (jl_sub hl [0, 1, 2] rfl) hf
end
section
variable {p : Program} {l : Launch} {e : Env} {s : State} {mm : MethodId} {args : Array Value} {below : List Frame} {meth : Method} {c : Code} {D : va_G} {g : Nat → ClassId} {A : Nat → Prop}
variable {ad : Nat → Nat}
variable {z : kS}
abbrev rm_X8_can : Room := { frames := 49, cells := 0, slots := 0, locals := 1053 }
set_option maxHeartbeats 4000000 in
set_option maxRecDepth 100000 in
theorem w_X8_can_42 (V : jV p s mm args meth c cX8_can RX8 3 (some .boolean) D g) (hA : ∀ q, s.heap.size ≤ q → A q) {s0 : Int32} {H : Heap} {locs : List Loc} {ls : Array Slot} {out : Int32} (hH : jH A s H locs D g ad z [] []) (hl : jl_has ls 3 []) (hf : F_X8_can_42 z s0 = some out) : W p l e rm_X8_can s mm args below meth c H locs 0 0 (jGi below args s D g A (fun a => a = ad) out z 0 0) (F0 mm 42 ls [.int s0]) := by
  have hx := V.1
  have hb := V.2.1
  obtain ⟨h42_1, hf⟩ := kif hf
  cases hf
  exact je_zret (G := fun a => a = ad) V rfl hH (Decidable.not_not.mp h42_1) dX8_can_42
set_option maxHeartbeats 4000000 in
set_option maxRecDepth 100000 in
theorem w_X8_can_37 (V : jV p s mm args meth c cX8_can RX8 3 (some .boolean) D g) (hA : ∀ q, s.heap.size ≤ q → A q) {H : Heap} {locs : List Loc} {ls : Array Slot} {out : Int32} (hH : jH A s H locs D g ad z [] []) (hl : jl_has ls 3 []) (hf : F_X8_can_37 z = some out) : W p l e rm_X8_can s mm args below meth c H locs 0 0 (jGi below args s D g A (fun a => a = ad) out z 0 0) (F0 mm 37 ls []) := by
  have hx := V.1
  have hb := V.2.1
  refine lv_iconst (v := 1) hx hb dX8_can_37 (by decide) ?_
  refine lv_goto (tgt := 42) hx hb dX8_can_38 (by decide) ?_
  exact w_X8_can_42 V hA hH (jl_sub hl [] rfl) hf
set_option maxHeartbeats 4000000 in
set_option maxRecDepth 100000 in
theorem w_X8_can_41 (V : jV p s mm args meth c cX8_can RX8 3 (some .boolean) D g) (hA : ∀ q, s.heap.size ≤ q → A q) {H : Heap} {locs : List Loc} {ls : Array Slot} {out : Int32} (hH : jH A s H locs D g ad z [] []) (hl : jl_has ls 3 []) (hf : F_X8_can_41 z = some out) : W p l e rm_X8_can s mm args below meth c H locs 0 0 (jGi below args s D g A (fun a => a = ad) out z 0 0) (F0 mm 41 ls []) := by
  have hx := V.1
  have hb := V.2.1
  refine lv_iconst (v := 0) hx hb dX8_can_41 (by decide) ?_
  exact w_X8_can_42 V hA hH (jl_sub hl [] rfl) hf
set_option maxHeartbeats 4000000 in
set_option maxRecDepth 100000 in
theorem w_X8_can_27 (V : jV p s mm args meth c cX8_can RX8 3 (some .boolean) D g) (hA : ∀ q, s.heap.size ≤ q → A q) {v1 : Int32} {v2 : Int32} {H : Heap} {locs : List Loc} {ls : Array Slot} {out : Int32} (hH : jH A s H locs D g ad z [] []) (hl : jl_has ls 3 [(0, .ref (ad 0)), (1, jv ad 1 v1), (2, jv ad 1 v2)]) (hf : F_X8_can_27 z v1 v2 = some out) : W p l e rm_X8_can s mm args below meth c H locs 0 0 (jGi below args s D g A (fun a => a = ad) out z 0 0) (F0 mm 27 ls []) := by
  have hx := V.1
  have hb := V.2.1
  refine lv_aload_n hx hb dX8_can_27 rfl (lv_at hl.1 0 rfl) ?_
  refine jl_aload_n hx hb dX8_can_28 rfl (lv_at hl.1 1 rfl) ?_
  refine jl_aload_n hx hb dX8_can_29 rfl (lv_at hl.1 2 rfl) ?_
  obtain ⟨x27_1, hx27_1, hf⟩ := kbind hf
  refine jr_calliR0 hA hH (jr_runV (as := [jv ad 1 v1, jv ad 1 v2]) (rest := []) V hH kYX8_related kl_X8_100 (c_X8_related l _ _ hx27_1 _) rfl rfl ⟨Nat.le_of_ble_eq_true rfl, Nat.le_of_ble_eq_true rfl⟩ rfl hl.1.1 (Nat.le_of_ble_eq_true rfl) dX8_can_30 ⟨Nat.le_refl _, Nat.le_refl _⟩ rfl) (fun H locs hH => ?_)
  refine lv_iconst (v := 2) hx hb dX8_can_33 (by decide) ?_
  refine lv_icmp_le (tgt := 41) hx hb dX8_can_34 (by decide) (fun hq => ?_) (fun hq => ?_)
  · have hf := kpos hq hf
    exact w_X8_can_41 V hA hH (jl_sub hl [] rfl) hf
  · have hf := kneg hq hf
    exact w_X8_can_37 V hA hH (jl_sub hl [] rfl) hf
set_option maxHeartbeats 4000000 in
set_option maxRecDepth 100000 in
theorem w_X8_can_16 (V : jV p s mm args meth c cX8_can RX8 3 (some .boolean) D g) (hA : ∀ q, s.heap.size ≤ q → A q) {v1 : Int32} {v2 : Int32} {H : Heap} {locs : List Loc} {ls : Array Slot} {out : Int32} (hH : jH A s H locs D g ad z [] []) (hl : jl_has ls 3 [(0, .ref (ad 0)), (1, jv ad 1 v1), (2, jv ad 1 v2)]) (hf : F_X8_can_16 z v1 v2 = some out) : W p l e rm_X8_can s mm args below meth c H locs 0 0 (jGi below args s D g A (fun a => a = ad) out z 0 0) (F0 mm 16 ls []) := by
  have hx := V.1
  have hb := V.2.1
  refine jl_aload_n hx hb dX8_can_16 rfl (lv_at hl.1 1 rfl) ?_
  obtain ⟨h16_1, hf⟩ := kif hf
  refine jg_P V hH h16_1 1 (by decide) kf_X8_26 rfl dX8_can_17 ?_
  refine jl_aload_n hx hb dX8_can_20 rfl (lv_at hl.1 2 rfl) ?_
  obtain ⟨h16_2, hf⟩ := kif hf
  refine jg_P V hH h16_2 1 (by decide) kf_X8_26 rfl dX8_can_21 ?_
  refine lv_icmp_eq (tgt := 41) hx hb dX8_can_24 (by decide) (fun hq => ?_) (fun hq => ?_)
  · have hf := kpos hq hf
    exact w_X8_can_41 V hA hH (jl_sub hl [] rfl) hf
  · have hf := kneg hq hf
    exact w_X8_can_27 V hA hH (jl_sub hl [0, 1, 2] rfl) hf
set_option maxHeartbeats 4000000 in
set_option maxRecDepth 100000 in
theorem w_X8_can_8 (V : jV p s mm args meth c cX8_can RX8 3 (some .boolean) D g) (hA : ∀ q, s.heap.size ≤ q → A q) {v1 : Int32} {v2 : Int32} {H : Heap} {locs : List Loc} {ls : Array Slot} {out : Int32} (hH : jH A s H locs D g ad z [] []) (hl : jl_has ls 3 [(0, .ref (ad 0)), (1, jv ad 1 v1), (2, jv ad 1 v2)]) (hf : F_X8_can_8 z v1 v2 = some out) : W p l e rm_X8_can s mm args below meth c H locs 0 0 (jGi below args s D g A (fun a => a = ad) out z 0 0) (F0 mm 8 ls []) := by
  have hx := V.1
  have hb := V.2.1
  refine lv_aload_n hx hb dX8_can_8 rfl (lv_at hl.1 0 rfl) ?_
  refine jl_aload_n hx hb dX8_can_9 rfl (lv_at hl.1 2 rfl) ?_
  obtain ⟨x8_1, hx8_1, hf⟩ := kbind hf
  refine jr_calliR0 hA hH (jr_runV (as := [jv ad 1 v2]) (rest := []) V hH kYX8_isFree kl_X8_103 (c_X8_isFree l _ hx8_1 _) rfl rfl ⟨Nat.le_of_ble_eq_true rfl, Nat.le_of_ble_eq_true rfl⟩ rfl hl.1.1 (Nat.le_of_ble_eq_true rfl) dX8_can_10 ⟨Nat.le_refl _, Nat.le_refl _⟩ rfl) (fun H locs hH => ?_)
  refine lv_if_eq (tgt := 41) hx hb dX8_can_13 (by decide) (fun hq => ?_) (fun hq => ?_)
  · have hf := kpos hq hf
    exact w_X8_can_41 V hA hH (jl_sub hl [] rfl) hf
  · have hf := kneg hq hf
    exact w_X8_can_16 V hA hH (jl_sub hl [0, 1, 2] rfl) hf
set_option maxHeartbeats 4000000 in
set_option maxRecDepth 100000 in
theorem w_X8_can_0 (V : jV p s mm args meth c cX8_can RX8 3 (some .boolean) D g) (hA : ∀ q, s.heap.size ≤ q → A q) {v1 : Int32} {v2 : Int32} {H : Heap} {locs : List Loc} {ls : Array Slot} {out : Int32} (hH : jH A s H locs D g ad z [] []) (hl : jl_has ls 3 [(0, .ref (ad 0)), (1, jv ad 1 v1), (2, jv ad 1 v2)]) (hf : F_X8_can_0 z v1 v2 = some out) : W p l e rm_X8_can s mm args below meth c H locs 0 0 (jGi below args s D g A (fun a => a = ad) out z 0 0) (F0 mm 0 ls []) := by
  have hx := V.1
  have hb := V.2.1
  refine lv_aload_n hx hb dX8_can_0 rfl (lv_at hl.1 0 rfl) ?_
  refine jl_aload_n hx hb dX8_can_1 rfl (lv_at hl.1 1 rfl) ?_
  obtain ⟨x0_1, hx0_1, hf⟩ := kbind hf
  refine jr_calliR0 hA hH (jr_runV (as := [jv ad 1 v1]) (rest := []) V hH kYX8_isFree kl_X8_103 (c_X8_isFree l _ hx0_1 _) rfl rfl ⟨Nat.le_of_ble_eq_true rfl, Nat.le_of_ble_eq_true rfl⟩ rfl hl.1.1 (Nat.le_of_ble_eq_true rfl) dX8_can_2 ⟨Nat.le_refl _, Nat.le_refl _⟩ rfl) (fun H locs hH => ?_)
  refine lv_if_eq (tgt := 41) hx hb dX8_can_5 (by decide) (fun hq => ?_) (fun hq => ?_)
  · have hf := kpos hq hf
    exact w_X8_can_41 V hA hH (jl_sub hl [] rfl) hf
  · have hf := kneg hq hf
    exact w_X8_can_8 V hA hH (jl_sub hl [0, 1, 2] rfl) hf
set_option maxHeartbeats 4000000 in
set_option maxRecDepth 100000 in
theorem c_X8_can (l : Launch) {D : va_G} {g : Nat → ClassId} {ad : Nat → Nat} {z : kS} (v1 : Int32) (v2 : Int32) {out : Int32} (hf : F_X8_can z v1 v2 = some out) (sz : Nat) : Met l yX8_can (Cond.code yX8_can cX8_can 3 (some .boolean) :: kWA) rm_X8_can (jP [.ref (ad 0), jv ad 1 v1, jv ad 1 v2] D g ad z sz) (jQi out (fun a => a = ad) D g (va_A (jC g ad z) sz) z) 0 0 (va_A (jC g ad z) sz) := by
  refine j_met (as := [.ref (ad 0), jv ad 1 v1, jv ad 1 v2]) (bytes := cX8_can) (maxL := 3) (rt := (some .boolean)) (lv := [(0, .ref (ad 0)), (1, jv ad 1 v1), (2, jv ad 1 v2)]) (by decide +kernel) (by simp [lg_sl, jcatv, jcati, jcatr]) (by simp [lv_args, jcatv, jcati, jcatr]) (by simp [jcatv, jcati, jcatr]) (fun p e s mm below meth c ls hsz V hA hH hl => ?_)
  exact w_X8_can_0 V hA hH (jl_sub hl [0, 1, 2] rfl) hf
end
section
variable {p : Program} {l : Launch} {e : Env} {s : State} {mm : MethodId} {args : Array Value} {below : List Frame} {meth : Method} {c : Code} {D : va_G} {g : Nat → ClassId} {A : Nat → Prop}
variable {ad : Nat → Nat}
variable {z : kS}
abbrev rm_X8_regent : Room := { frames := 49, cells := 0, slots := 0, locals := 1053 }
set_option maxHeartbeats 4000000 in
set_option maxRecDepth 100000 in
theorem w_X8_regent_18 (V : jV p s mm args meth c cX8_regent RX8 7 (some (.object "KingTiesLaw$Person")) D g) (hA : ∀ q, s.heap.size ≤ q → A q) {H : Heap} {locs : List Loc} {ls : Array Slot} {out : Int32} (hH : jH A s H locs D g ad z [] []) (hl : jl_has ls 7 []) (hf : F_X8_regent_18 z = some out) : W p l e rm_X8_regent s mm args below meth c H locs 0 0 (jGq below args s D g A (fun a => a = ad) 1 out z 0 0) (F0 mm 18 ls []) := by
  have hx := V.1
  have hb := V.2.1
  refine jl_null (ad := ad) hx hb 1 dX8_regent_18 ?_
  cases hf
  exact je_qret (G := fun a => a = ad) V rfl hH dX8_regent_19
set_option maxHeartbeats 4000000 in
set_option maxRecDepth 100000 in
theorem w_X8_regent_37 (V : jV p s mm args meth c cX8_regent RX8 7 (some (.object "KingTiesLaw$Person")) D g) (hA : ∀ q, s.heap.size ≤ q → A q) {v1 : Int32} {H : Heap} {locs : List Loc} {ls : Array Slot} {out : Int32} (hH : jH A s H locs D g ad z [] []) (hl : jl_has ls 7 [(1, jv ad 1 v1)]) (hf : F_X8_regent_37 z v1 = some out) : W p l e rm_X8_regent s mm args below meth c H locs 0 0 (jGq below args s D g A (fun a => a = ad) 1 out z 0 0) (F0 mm 37 ls []) := by
  have hx := V.1
  have hb := V.2.1
  refine jl_aload_n hx hb dX8_regent_37 rfl (lv_at hl.1 0 rfl) ?_
  obtain ⟨h37_1, hf⟩ := kif hf
  refine jg_P V hH h37_1 4 (by decide) kf_X8_40 rfl dX8_regent_38 ?_
  cases hf
  exact je_qret (G := fun a => a = ad) V rfl hH dX8_regent_41
set_option maxHeartbeats 4000000 in
set_option maxRecDepth 100000 in
theorem w_X8_regent_59 (V : jV p s mm args meth c cX8_regent RX8 7 (some (.object "KingTiesLaw$Person")) D g) (hA : ∀ q, s.heap.size ≤ q → A q) {v1 : Int32} {H : Heap} {locs : List Loc} {ls : Array Slot} {out : Int32} (hH : jH A s H locs D g ad z [] []) (hl : jl_has ls 7 [(1, jv ad 1 v1)]) (hf : F_X8_regent_59 z v1 = some out) : W p l e rm_X8_regent s mm args below meth c H locs 0 0 (jGq below args s D g A (fun a => a = ad) 1 out z 0 0) (F0 mm 59 ls []) := by
  have hx := V.1
  have hb := V.2.1
  refine jl_aload_n hx hb dX8_regent_59 rfl (lv_at hl.1 0 rfl) ?_
  obtain ⟨h59_1, hf⟩ := kif hf
  refine jg_P V hH h59_1 5 (by decide) kf_X8_47 rfl dX8_regent_60 ?_
  cases hf
  exact je_qret (G := fun a => a = ad) V rfl hH dX8_regent_63
set_option maxHeartbeats 4000000 in
set_option maxRecDepth 100000 in
theorem w_X8_regent_166 (V : jV p s mm args meth c cX8_regent RX8 7 (some (.object "KingTiesLaw$Person")) D g) (hA : ∀ q, s.heap.size ≤ q → A q) {c79 : Int32 → Int32 → Int32 → Int32 → Option (Int32)} (hk79 : ∀ {v1 : Int32} {v2 : Int32} {v3 : Int32} {v4 : Int32} {H : Heap} {locs : List Loc} {ls : Array Slot} {out : Int32}, jH A s H locs D g ad z [] [] → jl_has ls 7 [(0, .ref (ad 0)), (1, jv ad 1 v1), (2, jv ad 1 v2), (3, .int v3), (4, .int v4)] → c79 v1 v2 v3 v4 = some out → W p l e rm_X8_regent s mm args below meth c H locs 0 0 (jGq below args s D g A (fun a => a = ad) 1 out z 0 0) (F0 mm 79 ls [])) {v1 : Int32} {v2 : Int32} {v3 : Int32} {v4 : Int32} {H : Heap} {locs : List Loc} {ls : Array Slot} {out : Int32} (hH : jH A s H locs D g ad z [] []) (hl : jl_has ls 7 [(0, .ref (ad 0)), (1, jv ad 1 v1), (2, jv ad 1 v2), (3, .int v3), (4, .int v4)]) (hf : F_X8_regent_166 z c79 v1 v2 v3 v4 = some out) : W p l e rm_X8_regent s mm args below meth c H locs 0 0 (jGq below args s D g A (fun a => a = ad) 1 out z 0 0) (F0 mm 166 ls []) := by
  have hx := V.1
  have hb := V.2.1
  refine jl_iinc (v := (v4 + (-1))) (lv' := [(4, .int (v4 + (-1))), (0, .ref (ad 0)), (1, jv ad 1 v1), (2, jv ad 1 v2), (3, .int v3)]) hx hb dX8_regent_166 hl (k := 4) rfl rfl (by decide) rfl (fun ls hl => ?_)
  refine lv_goto (tgt := 79) hx hb dX8_regent_169 (by decide) ?_
  exact hk79 hH (jl_sub hl [1, 2, 3, 4, 0] rfl) hf
set_option maxHeartbeats 4000000 in
set_option maxRecDepth 100000 in
theorem w_X8_regent_139 (V : jV p s mm args meth c cX8_regent RX8 7 (some (.object "KingTiesLaw$Person")) D g) (hA : ∀ q, s.heap.size ≤ q → A q) {c79 : Int32 → Int32 → Int32 → Int32 → Option (Int32)} (hk79 : ∀ {v1 : Int32} {v2 : Int32} {v3 : Int32} {v4 : Int32} {H : Heap} {locs : List Loc} {ls : Array Slot} {out : Int32}, jH A s H locs D g ad z [] [] → jl_has ls 7 [(0, .ref (ad 0)), (1, jv ad 1 v1), (2, jv ad 1 v2), (3, .int v3), (4, .int v4)] → c79 v1 v2 v3 v4 = some out → W p l e rm_X8_regent s mm args below meth c H locs 0 0 (jGq below args s D g A (fun a => a = ad) 1 out z 0 0) (F0 mm 79 ls [])) {v1 : Int32} {v2 : Int32} {v3 : Int32} {v4 : Int32} {H : Heap} {locs : List Loc} {ls : Array Slot} {out : Int32} (hH : jH A s H locs D g ad z [] []) (hl : jl_has ls 7 [(0, .ref (ad 0)), (1, jv ad 1 v1), (2, jv ad 1 v2), (3, .int v3), (4, .int v4)]) (hf : F_X8_regent_139 z c79 v1 v2 v3 v4 = some out) : W p l e rm_X8_regent s mm args below meth c H locs 0 0 (jGq below args s D g A (fun a => a = ad) 1 out z 0 0) (F0 mm 139 ls []) := by
  have hx := V.1
  have hb := V.2.1
  refine lv_goto (tgt := 166) hx hb dX8_regent_139 (by decide) ?_
  exact w_X8_regent_166 V hA hk79 hH (jl_sub hl [0, 1, 2, 3, 4] rfl) hf
set_option maxHeartbeats 4000000 in
set_option maxRecDepth 100000 in
theorem w_X8_regent_157 (V : jV p s mm args meth c cX8_regent RX8 7 (some (.object "KingTiesLaw$Person")) D g) (hA : ∀ q, s.heap.size ≤ q → A q) {c79 : Int32 → Int32 → Int32 → Int32 → Option (Int32)} (hk79 : ∀ {v1 : Int32} {v2 : Int32} {v3 : Int32} {v4 : Int32} {H : Heap} {locs : List Loc} {ls : Array Slot} {out : Int32}, jH A s H locs D g ad z [] [] → jl_has ls 7 [(0, .ref (ad 0)), (1, jv ad 1 v1), (2, jv ad 1 v2), (3, .int v3), (4, .int v4)] → c79 v1 v2 v3 v4 = some out → W p l e rm_X8_regent s mm args below meth c H locs 0 0 (jGq below args s D g A (fun a => a = ad) 1 out z 0 0) (F0 mm 79 ls [])) {v1 : Int32} {v2 : Int32} {v3 : Int32} {v4 : Int32} {H : Heap} {locs : List Loc} {ls : Array Slot} {out : Int32} (hH : jH A s H locs D g ad z [] []) (hl : jl_has ls 7 [(0, .ref (ad 0)), (1, jv ad 1 v1), (2, jv ad 1 v2), (3, .int v3), (4, .int v4)]) (hf : F_X8_regent_157 z c79 v1 v2 v3 v4 = some out) : W p l e rm_X8_regent s mm args below meth c H locs 0 0 (jGq below args s D g A (fun a => a = ad) 1 out z 0 0) (F0 mm 157 ls []) := by
  have hx := V.1
  have hb := V.2.1
  refine lv_goto (tgt := 166) hx hb dX8_regent_157 (by decide) ?_
  exact w_X8_regent_166 V hA hk79 hH (jl_sub hl [0, 1, 2, 3, 4] rfl) hf
set_option maxHeartbeats 4000000 in
set_option maxRecDepth 100000 in
theorem w_X8_regent_160 (V : jV p s mm args meth c cX8_regent RX8 7 (some (.object "KingTiesLaw$Person")) D g) (hA : ∀ q, s.heap.size ≤ q → A q) {c79 : Int32 → Int32 → Int32 → Int32 → Option (Int32)} (hk79 : ∀ {v1 : Int32} {v2 : Int32} {v3 : Int32} {v4 : Int32} {H : Heap} {locs : List Loc} {ls : Array Slot} {out : Int32}, jH A s H locs D g ad z [] [] → jl_has ls 7 [(0, .ref (ad 0)), (1, jv ad 1 v1), (2, jv ad 1 v2), (3, .int v3), (4, .int v4)] → c79 v1 v2 v3 v4 = some out → W p l e rm_X8_regent s mm args below meth c H locs 0 0 (jGq below args s D g A (fun a => a = ad) 1 out z 0 0) (F0 mm 79 ls [])) {v1 : Int32} {v4 : Int32} {v5 : Int32} {v6 : Int32} {H : Heap} {locs : List Loc} {ls : Array Slot} {out : Int32} (hH : jH A s H locs D g ad z [] []) (hl : jl_has ls 7 [(0, .ref (ad 0)), (1, jv ad 1 v1), (4, .int v4), (5, jv ad 1 v5), (6, .int v6)]) (hf : F_X8_regent_160 z c79 v1 v4 v5 v6 = some out) : W p l e rm_X8_regent s mm args below meth c H locs 0 0 (jGq below args s D g A (fun a => a = ad) 1 out z 0 0) (F0 mm 160 ls []) := by
  have hx := V.1
  have hb := V.2.1
  refine jl_aload hx hb dX8_regent_160 (lv_at hl.1 3 rfl) ?_
  refine jl_astore_n (lv' := [(2, jv ad 1 v5), (0, .ref (ad 0)), (1, jv ad 1 v1), (4, .int v4), (5, jv ad 1 v5), (6, .int v6)]) hx hb dX8_regent_162 rfl hl (by decide) rfl (fun ls hl => ?_)
  refine lv_iload hx hb dX8_regent_163 (lv_at hl.1 5 rfl) ?_
  refine jl_istore_n (lv' := [(3, .int v6), (2, jv ad 1 v5), (0, .ref (ad 0)), (1, jv ad 1 v1), (4, .int v4), (5, jv ad 1 v5), (6, .int v6)]) hx hb dX8_regent_165 rfl hl (by decide) rfl (fun ls hl => ?_)
  exact w_X8_regent_166 V hA hk79 hH (jl_sub hl [2, 3, 1, 0, 4] rfl) hf
set_option maxHeartbeats 4000000 in
set_option maxRecDepth 100000 in
theorem w_X8_regent_148 (V : jV p s mm args meth c cX8_regent RX8 7 (some (.object "KingTiesLaw$Person")) D g) (hA : ∀ q, s.heap.size ≤ q → A q) {c79 : Int32 → Int32 → Int32 → Int32 → Option (Int32)} (hk79 : ∀ {v1 : Int32} {v2 : Int32} {v3 : Int32} {v4 : Int32} {H : Heap} {locs : List Loc} {ls : Array Slot} {out : Int32}, jH A s H locs D g ad z [] [] → jl_has ls 7 [(0, .ref (ad 0)), (1, jv ad 1 v1), (2, jv ad 1 v2), (3, .int v3), (4, .int v4)] → c79 v1 v2 v3 v4 = some out → W p l e rm_X8_regent s mm args below meth c H locs 0 0 (jGq below args s D g A (fun a => a = ad) 1 out z 0 0) (F0 mm 79 ls [])) {v1 : Int32} {v2 : Int32} {v3 : Int32} {v4 : Int32} {v5 : Int32} {v6 : Int32} {H : Heap} {locs : List Loc} {ls : Array Slot} {out : Int32} (hH : jH A s H locs D g ad z [] []) (hl : jl_has ls 7 [(0, .ref (ad 0)), (1, jv ad 1 v1), (2, jv ad 1 v2), (3, .int v3), (4, .int v4), (5, jv ad 1 v5), (6, .int v6)]) (hf : F_X8_regent_148 z c79 v1 v2 v3 v4 v5 v6 = some out) : W p l e rm_X8_regent s mm args below meth c H locs 0 0 (jGq below args s D g A (fun a => a = ad) 1 out z 0 0) (F0 mm 148 ls []) := by
  have hx := V.1
  have hb := V.2.1
  refine jl_aload hx hb dX8_regent_148 (lv_at hl.1 5 rfl) ?_
  refine jl_aload_n hx hb dX8_regent_150 rfl (lv_at hl.1 2 rfl) ?_
  obtain ⟨x148_1, hx148_1, hf⟩ := kbind hf
  refine jr_calliR0 hA hH (jr_runS (as := [jv ad 1 v5, jv ad 1 v2]) (rest := []) V hH kYX8_isBefore kl_X8_85 (c_X8_isBefore l _ _ hx148_1 _) rfl rfl ⟨Nat.le_of_ble_eq_true rfl, Nat.le_of_ble_eq_true rfl⟩ rfl hl.1.1 (Nat.le_of_ble_eq_true rfl) dX8_regent_151 ⟨Nat.le_refl _, Nat.le_refl _⟩ rfl) (fun H locs hH => ?_)
  refine lv_if_ne (tgt := 160) hx hb dX8_regent_154 (by decide) (fun hq => ?_) (fun hq => ?_)
  · have hf := kneg hq hf
    exact w_X8_regent_160 V hA hk79 hH (jl_sub hl [0, 1, 4, 5, 6] rfl) hf
  · have hf := kpos hq hf
    exact w_X8_regent_157 V hA hk79 hH (jl_sub hl [0, 1, 2, 3, 4] rfl) hf
set_option maxHeartbeats 4000000 in
set_option maxRecDepth 100000 in
theorem w_X8_regent_142 (V : jV p s mm args meth c cX8_regent RX8 7 (some (.object "KingTiesLaw$Person")) D g) (hA : ∀ q, s.heap.size ≤ q → A q) {c79 : Int32 → Int32 → Int32 → Int32 → Option (Int32)} (hk79 : ∀ {v1 : Int32} {v2 : Int32} {v3 : Int32} {v4 : Int32} {H : Heap} {locs : List Loc} {ls : Array Slot} {out : Int32}, jH A s H locs D g ad z [] [] → jl_has ls 7 [(0, .ref (ad 0)), (1, jv ad 1 v1), (2, jv ad 1 v2), (3, .int v3), (4, .int v4)] → c79 v1 v2 v3 v4 = some out → W p l e rm_X8_regent s mm args below meth c H locs 0 0 (jGq below args s D g A (fun a => a = ad) 1 out z 0 0) (F0 mm 79 ls [])) {v1 : Int32} {v2 : Int32} {v3 : Int32} {v4 : Int32} {v5 : Int32} {v6 : Int32} {H : Heap} {locs : List Loc} {ls : Array Slot} {out : Int32} (hH : jH A s H locs D g ad z [] []) (hl : jl_has ls 7 [(0, .ref (ad 0)), (1, jv ad 1 v1), (2, jv ad 1 v2), (3, .int v3), (4, .int v4), (5, jv ad 1 v5), (6, .int v6)]) (hf : F_X8_regent_142 z c79 v1 v2 v3 v4 v5 v6 = some out) : W p l e rm_X8_regent s mm args below meth c H locs 0 0 (jGq below args s D g A (fun a => a = ad) 1 out z 0 0) (F0 mm 142 ls []) := by
  have hx := V.1
  have hb := V.2.1
  refine lv_iload hx hb dX8_regent_142 (lv_at hl.1 6 rfl) ?_
  refine lv_iload_n hx hb dX8_regent_144 rfl (lv_at hl.1 3 rfl) ?_
  refine lv_icmp_ne (tgt := 160) hx hb dX8_regent_145 (by decide) (fun hq => ?_) (fun hq => ?_)
  · have hf := kneg hq hf
    exact w_X8_regent_160 V hA hk79 hH (jl_sub hl [0, 1, 4, 5, 6] rfl) hf
  · have hf := kpos hq hf
    exact w_X8_regent_148 V hA hk79 hH (jl_sub hl [0, 1, 2, 3, 4, 5, 6] rfl) hf
set_option maxHeartbeats 4000000 in
set_option maxRecDepth 100000 in
theorem w_X8_regent_131 (V : jV p s mm args meth c cX8_regent RX8 7 (some (.object "KingTiesLaw$Person")) D g) (hA : ∀ q, s.heap.size ≤ q → A q) {c79 : Int32 → Int32 → Int32 → Int32 → Option (Int32)} (hk79 : ∀ {v1 : Int32} {v2 : Int32} {v3 : Int32} {v4 : Int32} {H : Heap} {locs : List Loc} {ls : Array Slot} {out : Int32}, jH A s H locs D g ad z [] [] → jl_has ls 7 [(0, .ref (ad 0)), (1, jv ad 1 v1), (2, jv ad 1 v2), (3, .int v3), (4, .int v4)] → c79 v1 v2 v3 v4 = some out → W p l e rm_X8_regent s mm args below meth c H locs 0 0 (jGq below args s D g A (fun a => a = ad) 1 out z 0 0) (F0 mm 79 ls [])) {v1 : Int32} {v2 : Int32} {v3 : Int32} {v4 : Int32} {v5 : Int32} {v6 : Int32} {H : Heap} {locs : List Loc} {ls : Array Slot} {out : Int32} (hH : jH A s H locs D g ad z [] []) (hl : jl_has ls 7 [(0, .ref (ad 0)), (1, jv ad 1 v1), (2, jv ad 1 v2), (3, .int v3), (4, .int v4), (5, jv ad 1 v5), (6, .int v6)]) (hf : F_X8_regent_131 z c79 v1 v2 v3 v4 v5 v6 = some out) : W p l e rm_X8_regent s mm args below meth c H locs 0 0 (jGq below args s D g A (fun a => a = ad) 1 out z 0 0) (F0 mm 131 ls []) := by
  have hx := V.1
  have hb := V.2.1
  refine lv_iload hx hb dX8_regent_131 (lv_at hl.1 6 rfl) ?_
  refine lv_sipush (v := 1000) hx hb dX8_regent_133 (by decide) ?_
  refine lv_icmp_ne (tgt := 142) hx hb dX8_regent_136 (by decide) (fun hq => ?_) (fun hq => ?_)
  · have hf := kneg hq hf
    exact w_X8_regent_142 V hA hk79 hH (jl_sub hl [0, 1, 2, 3, 4, 5, 6] rfl) hf
  · have hf := kpos hq hf
    exact w_X8_regent_139 V hA hk79 hH (jl_sub hl [0, 1, 2, 3, 4] rfl) hf
set_option maxHeartbeats 4000000 in
set_option maxRecDepth 100000 in
theorem w_X8_regent_125 (V : jV p s mm args meth c cX8_regent RX8 7 (some (.object "KingTiesLaw$Person")) D g) (hA : ∀ q, s.heap.size ≤ q → A q) {c79 : Int32 → Int32 → Int32 → Int32 → Option (Int32)} (hk79 : ∀ {v1 : Int32} {v2 : Int32} {v3 : Int32} {v4 : Int32} {H : Heap} {locs : List Loc} {ls : Array Slot} {out : Int32}, jH A s H locs D g ad z [] [] → jl_has ls 7 [(0, .ref (ad 0)), (1, jv ad 1 v1), (2, jv ad 1 v2), (3, .int v3), (4, .int v4)] → c79 v1 v2 v3 v4 = some out → W p l e rm_X8_regent s mm args below meth c H locs 0 0 (jGq below args s D g A (fun a => a = ad) 1 out z 0 0) (F0 mm 79 ls [])) {v1 : Int32} {v2 : Int32} {v3 : Int32} {v4 : Int32} {v5 : Int32} {v6 : Int32} {H : Heap} {locs : List Loc} {ls : Array Slot} {out : Int32} (hH : jH A s H locs D g ad z [] []) (hl : jl_has ls 7 [(0, .ref (ad 0)), (1, jv ad 1 v1), (2, jv ad 1 v2), (3, .int v3), (4, .int v4), (5, jv ad 1 v5), (6, .int v6)]) (hf : F_X8_regent_125 z c79 v1 v2 v3 v4 v5 v6 = some out) : W p l e rm_X8_regent s mm args below meth c H locs 0 0 (jGq below args s D g A (fun a => a = ad) 1 out z 0 0) (F0 mm 125 ls []) := by
  have hx := V.1
  have hb := V.2.1
  refine lv_iload hx hb dX8_regent_125 (lv_at hl.1 6 rfl) ?_
  refine lv_iload_n hx hb dX8_regent_127 rfl (lv_at hl.1 3 rfl) ?_
  refine lv_icmp_gt (tgt := 166) hx hb dX8_regent_128 (by decide) (fun hq => ?_) (fun hq => ?_)
  · have hf := kpos hq hf
    exact w_X8_regent_166 V hA hk79 hH (jl_sub hl [0, 1, 2, 3, 4] rfl) hf
  · have hf := kneg hq hf
    exact w_X8_regent_131 V hA hk79 hH (jl_sub hl [0, 1, 2, 3, 4, 5, 6] rfl) hf
set_option maxHeartbeats 4000000 in
set_option maxRecDepth 100000 in
theorem w_X8_regent_110 (V : jV p s mm args meth c cX8_regent RX8 7 (some (.object "KingTiesLaw$Person")) D g) (hA : ∀ q, s.heap.size ≤ q → A q) {c79 : Int32 → Int32 → Int32 → Int32 → Option (Int32)} (hk79 : ∀ {v1 : Int32} {v2 : Int32} {v3 : Int32} {v4 : Int32} {H : Heap} {locs : List Loc} {ls : Array Slot} {out : Int32}, jH A s H locs D g ad z [] [] → jl_has ls 7 [(0, .ref (ad 0)), (1, jv ad 1 v1), (2, jv ad 1 v2), (3, .int v3), (4, .int v4)] → c79 v1 v2 v3 v4 = some out → W p l e rm_X8_regent s mm args below meth c H locs 0 0 (jGq below args s D g A (fun a => a = ad) 1 out z 0 0) (F0 mm 79 ls [])) {v1 : Int32} {v2 : Int32} {v3 : Int32} {v4 : Int32} {v5 : Int32} {v6 : Int32} {H : Heap} {locs : List Loc} {ls : Array Slot} {out : Int32} (hH : jH A s H locs D g ad z [] []) (hl : jl_has ls 7 [(0, .ref (ad 0)), (1, jv ad 1 v1), (2, jv ad 1 v2), (3, .int v3), (4, .int v4), (5, jv ad 1 v5), (6, .int v6)]) (hf : F_X8_regent_110 z c79 v1 v2 v3 v4 v5 v6 = some out) : W p l e rm_X8_regent s mm args below meth c H locs 0 0 (jGq below args s D g A (fun a => a = ad) 1 out z 0 0) (F0 mm 110 ls []) := by
  have hx := V.1
  have hb := V.2.1
  refine lv_aload_n hx hb dX8_regent_110 rfl (lv_at hl.1 0 rfl) ?_
  refine jg_S V hH 2 (by decide) kf_X8_30 rfl dX8_regent_111 ?_
  refine jl_aload hx hb dX8_regent_114 (lv_at hl.1 5 rfl) ?_
  obtain ⟨h110_1, hf⟩ := kif hf
  refine jg_P V hH h110_1 2 (by decide) kf_X8_33 rfl dX8_regent_116 ?_
  refine lv_isub hx hb dX8_regent_119 ?_
  refine lv_bipush (v := 16) hx hb dX8_regent_120 (by decide) ?_
  refine lv_icmp_lt (tgt := 166) hx hb dX8_regent_122 (by decide) (fun hq => ?_) (fun hq => ?_)
  · have hf := kpos hq hf
    exact w_X8_regent_166 V hA hk79 hH (jl_sub hl [0, 1, 2, 3, 4] rfl) hf
  · have hf := kneg hq hf
    exact w_X8_regent_125 V hA hk79 hH (jl_sub hl [0, 1, 2, 3, 4, 5, 6] rfl) hf
set_option maxHeartbeats 4000000 in
set_option maxRecDepth 100000 in
theorem w_X8_regent_84 (V : jV p s mm args meth c cX8_regent RX8 7 (some (.object "KingTiesLaw$Person")) D g) (hA : ∀ q, s.heap.size ≤ q → A q) {c79 : Int32 → Int32 → Int32 → Int32 → Option (Int32)} (hk79 : ∀ {v1 : Int32} {v2 : Int32} {v3 : Int32} {v4 : Int32} {H : Heap} {locs : List Loc} {ls : Array Slot} {out : Int32}, jH A s H locs D g ad z [] [] → jl_has ls 7 [(0, .ref (ad 0)), (1, jv ad 1 v1), (2, jv ad 1 v2), (3, .int v3), (4, .int v4)] → c79 v1 v2 v3 v4 = some out → W p l e rm_X8_regent s mm args below meth c H locs 0 0 (jGq below args s D g A (fun a => a = ad) 1 out z 0 0) (F0 mm 79 ls [])) {v1 : Int32} {v2 : Int32} {v3 : Int32} {v4 : Int32} {H : Heap} {locs : List Loc} {ls : Array Slot} {out : Int32} (hH : jH A s H locs D g ad z [] []) (hl : jl_has ls 7 [(0, .ref (ad 0)), (1, jv ad 1 v1), (2, jv ad 1 v2), (3, .int v3), (4, .int v4)]) (hf : F_X8_regent_84 z c79 v1 v2 v3 v4 = some out) : W p l e rm_X8_regent s mm args below meth c H locs 0 0 (jGq below args s D g A (fun a => a = ad) 1 out z 0 0) (F0 mm 84 ls []) := by
  have hx := V.1
  have hb := V.2.1
  refine lv_aload_n hx hb dX8_regent_84 rfl (lv_at hl.1 0 rfl) ?_
  refine jg_S V hH 0 (by decide) kf_X8_9 rfl dX8_regent_85 ?_
  refine lv_iload hx hb dX8_regent_88 (lv_at hl.1 4 rfl) ?_
  obtain ⟨h84_1, hf⟩ := kif hf
  refine jald_4 V hH h84_1 dX8_regent_90 ?_
  refine jl_astore (lv' := [(5, jv ad 1 (z 4 v4.toNatClampNeg)), (0, .ref (ad 0)), (1, jv ad 1 v1), (2, jv ad 1 v2), (3, .int v3), (4, .int v4)]) hx hb dX8_regent_91 hl (by decide) rfl (fun ls hl => ?_)
  refine lv_aload_n hx hb dX8_regent_93 rfl (lv_at hl.1 1 rfl) ?_
  refine jl_aload hx hb dX8_regent_94 (lv_at hl.1 0 rfl) ?_
  refine jl_aload_n hx hb dX8_regent_96 rfl (lv_at hl.1 2 rfl) ?_
  obtain ⟨x84_2, hx84_2, hf⟩ := kbind hf
  refine jr_calliR0 hA hH (jr_runV (as := [jv ad 1 (z 4 v4.toNatClampNeg), jv ad 1 v1]) (rest := []) V hH kYX8_related kl_X8_100 (c_X8_related l _ _ hx84_2 _) rfl rfl ⟨Nat.le_of_ble_eq_true rfl, Nat.le_of_ble_eq_true rfl⟩ rfl hl.1.1 (Nat.le_of_ble_eq_true rfl) dX8_regent_97 ⟨Nat.le_refl _, Nat.le_refl _⟩ rfl) (fun H locs hH => ?_)
  refine jl_istore (lv' := [(6, .int x84_2), (5, jv ad 1 (z 4 v4.toNatClampNeg)), (0, .ref (ad 0)), (1, jv ad 1 v1), (2, jv ad 1 v2), (3, .int v3), (4, .int v4)]) hx hb dX8_regent_100 hl (by decide) rfl (fun ls hl => ?_)
  refine jl_aload hx hb dX8_regent_102 (lv_at hl.1 1 rfl) ?_
  obtain ⟨h84_3, hf⟩ := kif hf
  refine jg_P V hH h84_3 3 (by decide) kf_X8_93 rfl dX8_regent_104 ?_
  refine lv_if_ge (tgt := 166) hx hb dX8_regent_107 (by decide) (fun hq => ?_) (fun hq => ?_)
  · have hf := kpos hq hf
    exact w_X8_regent_166 V hA hk79 hH (jl_sub hl [2, 3, 4, 5, 6] rfl) hf
  · have hf := kneg hq hf
    exact w_X8_regent_110 V hA hk79 hH (jl_sub hl [2, 3, 4, 5, 6, 1, 0] rfl) hf
set_option maxHeartbeats 4000000 in
set_option maxRecDepth 100000 in
theorem w_X8_regent_172 (V : jV p s mm args meth c cX8_regent RX8 7 (some (.object "KingTiesLaw$Person")) D g) (hA : ∀ q, s.heap.size ≤ q → A q) {v2 : Int32} {H : Heap} {locs : List Loc} {ls : Array Slot} {out : Int32} (hH : jH A s H locs D g ad z [] []) (hl : jl_has ls 7 [(2, jv ad 1 v2)]) (hf : F_X8_regent_172 z v2 = some out) : W p l e rm_X8_regent s mm args below meth c H locs 0 0 (jGq below args s D g A (fun a => a = ad) 1 out z 0 0) (F0 mm 172 ls []) := by
  have hx := V.1
  have hb := V.2.1
  refine jl_aload_n hx hb dX8_regent_172 rfl (lv_at hl.1 0 rfl) ?_
  cases hf
  exact je_qret (G := fun a => a = ad) V rfl hH dX8_regent_173
set_option maxHeartbeats 4000000 in
set_option maxRecDepth 100000 in
theorem w_X8_regent_79 (V : jV p s mm args meth c cX8_regent RX8 7 (some (.object "KingTiesLaw$Person")) D g) (hA : ∀ q, s.heap.size ≤ q → A q) : ∀ (n : Nat) {v1 : Int32} {v2 : Int32} {v3 : Int32} {v4 : Int32} {H : Heap} {locs : List Loc} {ls : Array Slot} {out : Int32}, jH A s H locs D g ad z [] [] → jl_has ls 7 [(0, .ref (ad 0)), (1, jv ad 1 v1), (2, jv ad 1 v2), (3, .int v3), (4, .int v4)] → F_X8_regent_79 z n v1 v2 v3 v4 = some out → W p l e rm_X8_regent s mm args below meth c H locs 0 0 (jGq below args s D g A (fun a => a = ad) 1 out z 0 0) (F0 mm 79 ls []) := by
  have hx := V.1
  have hb := V.2.1
  intro n
  induction n with
  | zero => intro _ _ _ _ _ _ _ _ hH hl hf; cases hf
  | succ n hk79 =>
    intro v1 v2 v3 v4 H locs ls out hH hl hf
    refine lv_iload hx hb dX8_regent_79 (lv_at hl.1 4 rfl) ?_
    refine lv_if_lt (tgt := 172) hx hb dX8_regent_81 (by decide) (fun hq => ?_) (fun hq => ?_)
    · have hf := kpos hq hf
      exact w_X8_regent_172 V hA hH (jl_sub hl [2] rfl) hf
    · have hf := kneg hq hf
      exact w_X8_regent_84 V hA hk79 hH (jl_sub hl [0, 1, 2, 3, 4] rfl) hf
set_option maxHeartbeats 4000000 in
set_option maxRecDepth 100000 in
theorem w_X8_regent_64 (V : jV p s mm args meth c cX8_regent RX8 7 (some (.object "KingTiesLaw$Person")) D g) (hA : ∀ q, s.heap.size ≤ q → A q) {v1 : Int32} {H : Heap} {locs : List Loc} {ls : Array Slot} {out : Int32} (hH : jH A s H locs D g ad z [] []) (hl : jl_has ls 7 [(0, .ref (ad 0)), (1, jv ad 1 v1)]) (hf : F_X8_regent_64 z v1 = some out) : W p l e rm_X8_regent s mm args below meth c H locs 0 0 (jGq below args s D g A (fun a => a = ad) 1 out z 0 0) (F0 mm 64 ls []) := by
  have hx := V.1
  have hb := V.2.1
  refine jl_null (ad := ad) hx hb 1 dX8_regent_64 ?_
  refine jl_astore_n (lv' := [(2, jv ad 1 (-1)), (0, .ref (ad 0)), (1, jv ad 1 v1)]) hx hb dX8_regent_65 rfl hl (by decide) rfl (fun ls hl => ?_)
  refine lv_sipush (v := 1000) hx hb dX8_regent_66 (by decide) ?_
  refine jl_istore_n (lv' := [(3, .int 1000), (2, jv ad 1 (-1)), (0, .ref (ad 0)), (1, jv ad 1 v1)]) hx hb dX8_regent_69 rfl hl (by decide) rfl (fun ls hl => ?_)
  refine lv_aload_n hx hb dX8_regent_70 rfl (lv_at hl.1 2 rfl) ?_
  refine jg_S V hH 0 (by decide) kf_X8_9 rfl dX8_regent_71 ?_
  refine jalen_4 V hH dX8_regent_74 ?_
  refine lv_iconst (v := 1) hx hb dX8_regent_75 (by decide) ?_
  refine lv_isub hx hb dX8_regent_76 ?_
  refine jl_istore (lv' := [(4, .int ((nI (z 12 0).toNatClampNeg) - 1)), (3, .int 1000), (2, jv ad 1 (-1)), (0, .ref (ad 0)), (1, jv ad 1 v1)]) hx hb dX8_regent_77 hl (by decide) rfl (fun ls hl => ?_)
  exact w_X8_regent_79 V hA kN hH (jl_sub hl [3, 4, 2, 1, 0] rfl) hf
set_option maxHeartbeats 4000000 in
set_option maxRecDepth 100000 in
theorem w_X8_regent_49 (V : jV p s mm args meth c cX8_regent RX8 7 (some (.object "KingTiesLaw$Person")) D g) (hA : ∀ q, s.heap.size ≤ q → A q) {v1 : Int32} {H : Heap} {locs : List Loc} {ls : Array Slot} {out : Int32} (hH : jH A s H locs D g ad z [] []) (hl : jl_has ls 7 [(0, .ref (ad 0)), (1, jv ad 1 v1)]) (hf : F_X8_regent_49 z v1 = some out) : W p l e rm_X8_regent s mm args below meth c H locs 0 0 (jGq below args s D g A (fun a => a = ad) 1 out z 0 0) (F0 mm 49 ls []) := by
  have hx := V.1
  have hb := V.2.1
  refine jl_aload_n hx hb dX8_regent_49 rfl (lv_at hl.1 1 rfl) ?_
  obtain ⟨h49_1, hf⟩ := kif hf
  refine jg_P V hH h49_1 5 (by decide) kf_X8_47 rfl dX8_regent_50 ?_
  obtain ⟨h49_2, hf⟩ := kif hf
  refine jg_P V hH h49_2 3 (by decide) kf_X8_93 rfl dX8_regent_53 ?_
  refine lv_if_ge (tgt := 64) hx hb dX8_regent_56 (by decide) (fun hq => ?_) (fun hq => ?_)
  · have hf := kpos hq hf
    exact w_X8_regent_64 V hA hH (jl_sub hl [0, 1] rfl) hf
  · have hf := kneg hq hf
    exact w_X8_regent_59 V hA hH (jl_sub hl [1] rfl) hf
set_option maxHeartbeats 4000000 in
set_option maxRecDepth 100000 in
theorem w_X8_regent_42 (V : jV p s mm args meth c cX8_regent RX8 7 (some (.object "KingTiesLaw$Person")) D g) (hA : ∀ q, s.heap.size ≤ q → A q) {v1 : Int32} {H : Heap} {locs : List Loc} {ls : Array Slot} {out : Int32} (hH : jH A s H locs D g ad z [] []) (hl : jl_has ls 7 [(0, .ref (ad 0)), (1, jv ad 1 v1)]) (hf : F_X8_regent_42 z v1 = some out) : W p l e rm_X8_regent s mm args below meth c H locs 0 0 (jGq below args s D g A (fun a => a = ad) 1 out z 0 0) (F0 mm 42 ls []) := by
  have hx := V.1
  have hb := V.2.1
  refine jl_aload_n hx hb dX8_regent_42 rfl (lv_at hl.1 1 rfl) ?_
  obtain ⟨h42_1, hf⟩ := kif hf
  refine jg_P V hH h42_1 5 (by decide) kf_X8_47 rfl dX8_regent_43 ?_
  refine jl_ifnull (tgt := 64) hx hb dX8_regent_46 (by decide) (fun hq => ?_) (fun hq => ?_)
  · have hf := kpos hq hf
    exact w_X8_regent_64 V hA hH (jl_sub hl [0, 1] rfl) hf
  · have hf := kneg hq hf
    exact w_X8_regent_49 V hA hH (jl_sub hl [0, 1] rfl) hf
set_option maxHeartbeats 4000000 in
set_option maxRecDepth 100000 in
theorem w_X8_regent_27 (V : jV p s mm args meth c cX8_regent RX8 7 (some (.object "KingTiesLaw$Person")) D g) (hA : ∀ q, s.heap.size ≤ q → A q) {v1 : Int32} {H : Heap} {locs : List Loc} {ls : Array Slot} {out : Int32} (hH : jH A s H locs D g ad z [] []) (hl : jl_has ls 7 [(0, .ref (ad 0)), (1, jv ad 1 v1)]) (hf : F_X8_regent_27 z v1 = some out) : W p l e rm_X8_regent s mm args below meth c H locs 0 0 (jGq below args s D g A (fun a => a = ad) 1 out z 0 0) (F0 mm 27 ls []) := by
  have hx := V.1
  have hb := V.2.1
  refine jl_aload_n hx hb dX8_regent_27 rfl (lv_at hl.1 1 rfl) ?_
  obtain ⟨h27_1, hf⟩ := kif hf
  refine jg_P V hH h27_1 4 (by decide) kf_X8_40 rfl dX8_regent_28 ?_
  obtain ⟨h27_2, hf⟩ := kif hf
  refine jg_P V hH h27_2 3 (by decide) kf_X8_93 rfl dX8_regent_31 ?_
  refine lv_if_ge (tgt := 42) hx hb dX8_regent_34 (by decide) (fun hq => ?_) (fun hq => ?_)
  · have hf := kpos hq hf
    exact w_X8_regent_42 V hA hH (jl_sub hl [0, 1] rfl) hf
  · have hf := kneg hq hf
    exact w_X8_regent_37 V hA hH (jl_sub hl [1] rfl) hf
set_option maxHeartbeats 4000000 in
set_option maxRecDepth 100000 in
theorem w_X8_regent_20 (V : jV p s mm args meth c cX8_regent RX8 7 (some (.object "KingTiesLaw$Person")) D g) (hA : ∀ q, s.heap.size ≤ q → A q) {v1 : Int32} {H : Heap} {locs : List Loc} {ls : Array Slot} {out : Int32} (hH : jH A s H locs D g ad z [] []) (hl : jl_has ls 7 [(0, .ref (ad 0)), (1, jv ad 1 v1)]) (hf : F_X8_regent_20 z v1 = some out) : W p l e rm_X8_regent s mm args below meth c H locs 0 0 (jGq below args s D g A (fun a => a = ad) 1 out z 0 0) (F0 mm 20 ls []) := by
  have hx := V.1
  have hb := V.2.1
  refine jl_aload_n hx hb dX8_regent_20 rfl (lv_at hl.1 1 rfl) ?_
  obtain ⟨h20_1, hf⟩ := kif hf
  refine jg_P V hH h20_1 4 (by decide) kf_X8_40 rfl dX8_regent_21 ?_
  refine jl_ifnull (tgt := 42) hx hb dX8_regent_24 (by decide) (fun hq => ?_) (fun hq => ?_)
  · have hf := kpos hq hf
    exact w_X8_regent_42 V hA hH (jl_sub hl [0, 1] rfl) hf
  · have hf := kneg hq hf
    exact w_X8_regent_27 V hA hH (jl_sub hl [0, 1] rfl) hf
set_option maxHeartbeats 4000000 in
set_option maxRecDepth 100000 in
theorem w_X8_regent_4 (V : jV p s mm args meth c cX8_regent RX8 7 (some (.object "KingTiesLaw$Person")) D g) (hA : ∀ q, s.heap.size ≤ q → A q) {v1 : Int32} {H : Heap} {locs : List Loc} {ls : Array Slot} {out : Int32} (hH : jH A s H locs D g ad z [] []) (hl : jl_has ls 7 [(0, .ref (ad 0)), (1, jv ad 1 v1)]) (hf : F_X8_regent_4 z v1 = some out) : W p l e rm_X8_regent s mm args below meth c H locs 0 0 (jGq below args s D g A (fun a => a = ad) 1 out z 0 0) (F0 mm 4 ls []) := by
  have hx := V.1
  have hb := V.2.1
  refine lv_aload_n hx hb dX8_regent_4 rfl (lv_at hl.1 0 rfl) ?_
  refine jg_S V hH 2 (by decide) kf_X8_30 rfl dX8_regent_5 ?_
  refine jl_aload_n hx hb dX8_regent_8 rfl (lv_at hl.1 1 rfl) ?_
  obtain ⟨h4_1, hf⟩ := kif hf
  refine jg_P V hH h4_1 2 (by decide) kf_X8_33 rfl dX8_regent_9 ?_
  refine lv_isub hx hb dX8_regent_12 ?_
  refine lv_bipush (v := 15) hx hb dX8_regent_13 (by decide) ?_
  refine lv_icmp_le (tgt := 20) hx hb dX8_regent_15 (by decide) (fun hq => ?_) (fun hq => ?_)
  · have hf := kpos hq hf
    exact w_X8_regent_20 V hA hH (jl_sub hl [0, 1] rfl) hf
  · have hf := kneg hq hf
    exact w_X8_regent_18 V hA hH (jl_sub hl [] rfl) hf
set_option maxHeartbeats 4000000 in
set_option maxRecDepth 100000 in
theorem w_X8_regent_0 (V : jV p s mm args meth c cX8_regent RX8 7 (some (.object "KingTiesLaw$Person")) D g) (hA : ∀ q, s.heap.size ≤ q → A q) {v1 : Int32} {H : Heap} {locs : List Loc} {ls : Array Slot} {out : Int32} (hH : jH A s H locs D g ad z [] []) (hl : jl_has ls 7 [(0, .ref (ad 0)), (1, jv ad 1 v1)]) (hf : F_X8_regent_0 z v1 = some out) : W p l e rm_X8_regent s mm args below meth c H locs 0 0 (jGq below args s D g A (fun a => a = ad) 1 out z 0 0) (F0 mm 0 ls []) := by
  have hx := V.1
  have hb := V.2.1
  refine jl_aload_n hx hb dX8_regent_0 rfl (lv_at hl.1 1 rfl) ?_
  refine jl_ifnull (tgt := 18) hx hb dX8_regent_1 (by decide) (fun hq => ?_) (fun hq => ?_)
  · have hf := kpos hq hf
    exact w_X8_regent_18 V hA hH (jl_sub hl [] rfl) hf
  · have hf := kneg hq hf
    exact w_X8_regent_4 V hA hH (jl_sub hl [0, 1] rfl) hf
set_option maxHeartbeats 4000000 in
set_option maxRecDepth 100000 in
theorem c_X8_regent (l : Launch) {D : va_G} {g : Nat → ClassId} {ad : Nat → Nat} {z : kS} (v1 : Int32) {out : Int32} (hf : F_X8_regent z v1 = some out) (sz : Nat) : Met l yX8_regent (Cond.code yX8_regent cX8_regent 7 (some (.object "KingTiesLaw$Person")) :: kWA) rm_X8_regent (jP [.ref (ad 0), jv ad 1 v1] D g ad z sz) (jQq 1 out (fun a => a = ad) D g (va_A (jC g ad z) sz) z) 0 0 (va_A (jC g ad z) sz) := by
  refine j_met (as := [.ref (ad 0), jv ad 1 v1]) (bytes := cX8_regent) (maxL := 7) (rt := (some (.object "KingTiesLaw$Person"))) (lv := [(0, .ref (ad 0)), (1, jv ad 1 v1)]) (by decide +kernel) (by simp [lg_sl, jcatv, jcati, jcatr]) (by simp [lv_args, jcatv, jcati, jcatr]) (by simp [jcatv, jcati, jcatr]) (fun p e s mm below meth c ls hsz V hA hH hl => ?_)
  exact w_X8_regent_0 V hA hH (jl_sub hl [0, 1] rfl) hf
end
section
variable {p : Program} {l : Launch} {e : Env} {s : State} {mm : MethodId} {args : Array Value} {below : List Frame} {meth : Method} {c : Code} {D : va_G} {g : Nat → ClassId} {A : Nat → Prop}
variable {ad : Nat → Nat}
variable {z : kS}
abbrev rm_X8_row (mc ms : Nat) : Room := { frames := 2, cells := mc, slots := ms, locals := 43 }
set_option maxHeartbeats 4000000 in
set_option maxRecDepth 100000 in
theorem w_X8_row_110 (V : jV p s mm args meth c cX8_row RX8 10 (some (.array (.object "KingTiesLaw$Person"))) D g) (hA : ∀ q, s.heap.size ≤ q → A q) {c26 : Int32 → Int32 → Int32 → Int32 → Int32 → Int32 → (Nat → Int32) → Option ((Int32 × (Nat → Int32)) × Nat × Nat)} (hk26 : ∀ {v1 : Int32} {v2 : Int32} {v4 : Int32} {v6 : Int32} {v7 : Int32} {xq5 : Nat} {xl5 : Int32} {xf5 : Nat → Int32} {H : Heap} {locs : List Loc} {ls : Array Slot} {cells slots mc ms uc us : Nat} {o : (Int32 × (Nat → Int32))}, jH A s H locs D g ad z [] [jTp g ad xq5 xl5 xf5] → jl_has ls 10 [(1, jv ad 1 v1), (2, .int v2), (3, .ref xq5), (4, .int v4), (5, .ref (ad 4)), (6, .int v6), (7, .int v7)] → c26 v1 v2 v4 v6 v7 xl5 xf5 = some (o, uc, us) → cells + uc = mc → slots + us = ms → W p l e (rm_X8_row mc ms) s mm args below meth c H locs cells slots (jGr below args s D g A ad o.1 o.2 z mc ms) (F0 mm 26 ls [])) {v1 : Int32} {v2 : Int32} {v4 : Int32} {v6 : Int32} {v7 : Int32} {xq5 : Nat} {xl5 : Int32} {xf5 : Nat → Int32} {H : Heap} {locs : List Loc} {ls : Array Slot} {cells slots mc ms uc us : Nat} {o : (Int32 × (Nat → Int32))} (hH : jH A s H locs D g ad z [] [jTp g ad xq5 xl5 xf5]) (hl : jl_has ls 10 [(1, jv ad 1 v1), (2, .int v2), (3, .ref xq5), (4, .int v4), (5, .ref (ad 4)), (6, .int v6), (7, .int v7)]) (hf : F_X8_row_110 z c26 v1 v2 v4 v6 v7 xl5 xf5 = some (o, uc, us)) (hc : cells + uc = mc) (hs : slots + us = ms) : W p l e (rm_X8_row mc ms) s mm args below meth c H locs cells slots (jGr below args s D g A ad o.1 o.2 z mc ms) (F0 mm 110 ls []) := by
  have hx := V.1
  have hb := V.2.1
  refine jl_iinc (v := (v7 + 1)) (lv' := [(7, .int (v7 + 1)), (1, jv ad 1 v1), (2, .int v2), (3, .ref xq5), (4, .int v4), (5, .ref (ad 4)), (6, .int v6)]) hx hb dX8_row_110 hl (k := 6) rfl rfl (by decide) rfl (fun ls hl => ?_)
  refine lv_goto (tgt := 26) hx hb dX8_row_113 (by decide) ?_
  exact hk26 hH (jl_sub hl [1, 2, 3, 4, 5, 6, 0] rfl) hf hc hs
set_option maxHeartbeats 4000000 in
set_option maxRecDepth 100000 in
theorem w_X8_row_58 (V : jV p s mm args meth c cX8_row RX8 10 (some (.array (.object "KingTiesLaw$Person"))) D g) (hA : ∀ q, s.heap.size ≤ q → A q) {c26 : Int32 → Int32 → Int32 → Int32 → Int32 → Int32 → (Nat → Int32) → Option ((Int32 × (Nat → Int32)) × Nat × Nat)} (hk26 : ∀ {v1 : Int32} {v2 : Int32} {v4 : Int32} {v6 : Int32} {v7 : Int32} {xq5 : Nat} {xl5 : Int32} {xf5 : Nat → Int32} {H : Heap} {locs : List Loc} {ls : Array Slot} {cells slots mc ms uc us : Nat} {o : (Int32 × (Nat → Int32))}, jH A s H locs D g ad z [] [jTp g ad xq5 xl5 xf5] → jl_has ls 10 [(1, jv ad 1 v1), (2, .int v2), (3, .ref xq5), (4, .int v4), (5, .ref (ad 4)), (6, .int v6), (7, .int v7)] → c26 v1 v2 v4 v6 v7 xl5 xf5 = some (o, uc, us) → cells + uc = mc → slots + us = ms → W p l e (rm_X8_row mc ms) s mm args below meth c H locs cells slots (jGr below args s D g A ad o.1 o.2 z mc ms) (F0 mm 26 ls [])) {v1 : Int32} {v2 : Int32} {v4 : Int32} {v6 : Int32} {v7 : Int32} {xq5 : Nat} {xl5 : Int32} {xf5 : Nat → Int32} {H : Heap} {locs : List Loc} {ls : Array Slot} {cells slots mc ms uc us : Nat} {o : (Int32 × (Nat → Int32))} (hH : jH A s H locs D g ad z [] [jTp g ad xq5 xl5 xf5]) (hl : jl_has ls 10 [(1, jv ad 1 v1), (2, .int v2), (3, .ref xq5), (4, .int v4), (5, .ref (ad 4)), (6, .int v6), (7, .int v7)]) (hf : F_X8_row_58 z c26 v1 v2 v4 v6 v7 xl5 xf5 = some (o, uc, us)) (hc : cells + uc = mc) (hs : slots + us = ms) : W p l e (rm_X8_row mc ms) s mm args below meth c H locs cells slots (jGr below args s D g A ad o.1 o.2 z mc ms) (F0 mm 58 ls []) := by
  have hx := V.1
  have hb := V.2.1
  refine lv_goto (tgt := 110) hx hb dX8_row_58 (by decide) ?_
  exact w_X8_row_110 V hA hk26 hH (jl_sub hl [0, 1, 2, 3, 4, 5, 6] rfl) hf hc hs
set_option maxHeartbeats 4000000 in
set_option maxRecDepth 100000 in
theorem w_X8_row_85 (V : jV p s mm args meth c cX8_row RX8 10 (some (.array (.object "KingTiesLaw$Person"))) D g) (hA : ∀ q, s.heap.size ≤ q → A q) {c26 : Int32 → Int32 → Int32 → Int32 → Int32 → Int32 → (Nat → Int32) → Option ((Int32 × (Nat → Int32)) × Nat × Nat)} (hk26 : ∀ {v1 : Int32} {v2 : Int32} {v4 : Int32} {v6 : Int32} {v7 : Int32} {xq5 : Nat} {xl5 : Int32} {xf5 : Nat → Int32} {H : Heap} {locs : List Loc} {ls : Array Slot} {cells slots mc ms uc us : Nat} {o : (Int32 × (Nat → Int32))}, jH A s H locs D g ad z [] [jTp g ad xq5 xl5 xf5] → jl_has ls 10 [(1, jv ad 1 v1), (2, .int v2), (3, .ref xq5), (4, .int v4), (5, .ref (ad 4)), (6, .int v6), (7, .int v7)] → c26 v1 v2 v4 v6 v7 xl5 xf5 = some (o, uc, us) → cells + uc = mc → slots + us = ms → W p l e (rm_X8_row mc ms) s mm args below meth c H locs cells slots (jGr below args s D g A ad o.1 o.2 z mc ms) (F0 mm 26 ls [])) {c65 : Int32 → Int32 → Int32 → Int32 → Int32 → Int32 → Int32 → Int32 → (Nat → Int32) → Option ((Int32 × (Nat → Int32)) × Nat × Nat)} (hk65 : ∀ {v1 : Int32} {v2 : Int32} {v4 : Int32} {v6 : Int32} {v7 : Int32} {v8 : Int32} {v9 : Int32} {xq5 : Nat} {xl5 : Int32} {xf5 : Nat → Int32} {H : Heap} {locs : List Loc} {ls : Array Slot} {cells slots mc ms uc us : Nat} {o : (Int32 × (Nat → Int32))}, jH A s H locs D g ad z [] [jTp g ad xq5 xl5 xf5] → jl_has ls 10 [(1, jv ad 1 v1), (2, .int v2), (3, .ref xq5), (4, .int v4), (5, .ref (ad 4)), (6, .int v6), (7, .int v7), (8, jv ad 1 v8), (9, .int v9)] → c65 v1 v2 v4 v6 v7 v8 v9 xl5 xf5 = some (o, uc, us) → cells + uc = mc → slots + us = ms → W p l e (rm_X8_row mc ms) s mm args below meth c H locs cells slots (jGr below args s D g A ad o.1 o.2 z mc ms) (F0 mm 65 ls [])) {v1 : Int32} {v2 : Int32} {v4 : Int32} {v6 : Int32} {v7 : Int32} {v8 : Int32} {v9 : Int32} {xq5 : Nat} {xl5 : Int32} {xf5 : Nat → Int32} {H : Heap} {locs : List Loc} {ls : Array Slot} {cells slots mc ms uc us : Nat} {o : (Int32 × (Nat → Int32))} (hH : jH A s H locs D g ad z [] [jTp g ad xq5 xl5 xf5]) (hl : jl_has ls 10 [(1, jv ad 1 v1), (2, .int v2), (3, .ref xq5), (4, .int v4), (5, .ref (ad 4)), (6, .int v6), (7, .int v7), (8, jv ad 1 v8), (9, .int v9)]) (hf : F_X8_row_85 z c26 c65 v1 v2 v4 v6 v7 v8 v9 xl5 xf5 = some (o, uc, us)) (hc : cells + uc = mc) (hs : slots + us = ms) : W p l e (rm_X8_row mc ms) s mm args below meth c H locs cells slots (jGr below args s D g A ad o.1 o.2 z mc ms) (F0 mm 85 ls []) := by
  have hx := V.1
  have hb := V.2.1
  refine lv_aload_n hx hb dX8_row_85 rfl (lv_at hl.1 2 rfl) ?_
  refine lv_iload hx hb dX8_row_86 (lv_at hl.1 8 rfl) ?_
  refine lv_aload_n hx hb dX8_row_88 rfl (lv_at hl.1 2 rfl) ?_
  refine lv_iload hx hb dX8_row_89 (lv_at hl.1 8 rfl) ?_
  refine lv_iconst (v := 1) hx hb dX8_row_91 (by decide) ?_
  refine lv_isub hx hb dX8_row_92 ?_
  obtain ⟨h85_1, hf⟩ := kif hf
  refine jt_aldp V hH 0 rfl h85_1 dX8_row_93 ?_
  obtain ⟨h85_2, hf⟩ := kif hf
  obtain ⟨h85_3, hf⟩ := kif hf
  refine jt_astp V hH 0 rfl h85_2 h85_3 rfl dX8_row_94 (fun H locs hH => ?_)
  refine jl_iinc (v := (v9 + (-1))) (lv' := [(9, .int (v9 + (-1))), (1, jv ad 1 v1), (2, .int v2), (3, .ref xq5), (4, .int v4), (5, .ref (ad 4)), (6, .int v6), (7, .int v7), (8, jv ad 1 v8)]) hx hb dX8_row_95 hl (k := 8) rfl rfl (by decide) rfl (fun ls hl => ?_)
  refine lv_goto (tgt := 65) hx hb dX8_row_98 (by decide) ?_
  exact hk65 hH (jl_sub hl [1, 2, 3, 4, 5, 6, 7, 8, 0] rfl) hf hc hs
set_option maxHeartbeats 4000000 in
set_option maxRecDepth 100000 in
theorem w_X8_row_101 (V : jV p s mm args meth c cX8_row RX8 10 (some (.array (.object "KingTiesLaw$Person"))) D g) (hA : ∀ q, s.heap.size ≤ q → A q) {c26 : Int32 → Int32 → Int32 → Int32 → Int32 → Int32 → (Nat → Int32) → Option ((Int32 × (Nat → Int32)) × Nat × Nat)} (hk26 : ∀ {v1 : Int32} {v2 : Int32} {v4 : Int32} {v6 : Int32} {v7 : Int32} {xq5 : Nat} {xl5 : Int32} {xf5 : Nat → Int32} {H : Heap} {locs : List Loc} {ls : Array Slot} {cells slots mc ms uc us : Nat} {o : (Int32 × (Nat → Int32))}, jH A s H locs D g ad z [] [jTp g ad xq5 xl5 xf5] → jl_has ls 10 [(1, jv ad 1 v1), (2, .int v2), (3, .ref xq5), (4, .int v4), (5, .ref (ad 4)), (6, .int v6), (7, .int v7)] → c26 v1 v2 v4 v6 v7 xl5 xf5 = some (o, uc, us) → cells + uc = mc → slots + us = ms → W p l e (rm_X8_row mc ms) s mm args below meth c H locs cells slots (jGr below args s D g A ad o.1 o.2 z mc ms) (F0 mm 26 ls [])) {v1 : Int32} {v2 : Int32} {v4 : Int32} {v6 : Int32} {v7 : Int32} {v8 : Int32} {v9 : Int32} {xq5 : Nat} {xl5 : Int32} {xf5 : Nat → Int32} {H : Heap} {locs : List Loc} {ls : Array Slot} {cells slots mc ms uc us : Nat} {o : (Int32 × (Nat → Int32))} (hH : jH A s H locs D g ad z [] [jTp g ad xq5 xl5 xf5]) (hl : jl_has ls 10 [(1, jv ad 1 v1), (2, .int v2), (3, .ref xq5), (4, .int v4), (5, .ref (ad 4)), (6, .int v6), (7, .int v7), (8, jv ad 1 v8), (9, .int v9)]) (hf : F_X8_row_101 z c26 v1 v2 v4 v6 v7 v8 v9 xl5 xf5 = some (o, uc, us)) (hc : cells + uc = mc) (hs : slots + us = ms) : W p l e (rm_X8_row mc ms) s mm args below meth c H locs cells slots (jGr below args s D g A ad o.1 o.2 z mc ms) (F0 mm 101 ls []) := by
  have hx := V.1
  have hb := V.2.1
  refine lv_aload_n hx hb dX8_row_101 rfl (lv_at hl.1 2 rfl) ?_
  refine lv_iload hx hb dX8_row_102 (lv_at hl.1 8 rfl) ?_
  refine jl_aload hx hb dX8_row_104 (lv_at hl.1 7 rfl) ?_
  obtain ⟨h101_1, hf⟩ := kif hf
  obtain ⟨h101_2, hf⟩ := kif hf
  refine jt_astp V hH 0 rfl h101_1 h101_2 rfl dX8_row_106 (fun H locs hH => ?_)
  refine jl_iinc (v := (v4 + 1)) (lv' := [(4, .int (v4 + 1)), (1, jv ad 1 v1), (2, .int v2), (3, .ref xq5), (5, .ref (ad 4)), (6, .int v6), (7, .int v7), (8, jv ad 1 v8), (9, .int v9)]) hx hb dX8_row_107 hl (k := 3) rfl rfl (by decide) rfl (fun ls hl => ?_)
  exact w_X8_row_110 V hA hk26 hH (jl_sub hl [1, 2, 3, 0, 4, 5, 6] rfl) hf hc hs
set_option maxHeartbeats 4000000 in
set_option maxRecDepth 100000 in
theorem w_X8_row_70 (V : jV p s mm args meth c cX8_row RX8 10 (some (.array (.object "KingTiesLaw$Person"))) D g) (hA : ∀ q, s.heap.size ≤ q → A q) {c26 : Int32 → Int32 → Int32 → Int32 → Int32 → Int32 → (Nat → Int32) → Option ((Int32 × (Nat → Int32)) × Nat × Nat)} (hk26 : ∀ {v1 : Int32} {v2 : Int32} {v4 : Int32} {v6 : Int32} {v7 : Int32} {xq5 : Nat} {xl5 : Int32} {xf5 : Nat → Int32} {H : Heap} {locs : List Loc} {ls : Array Slot} {cells slots mc ms uc us : Nat} {o : (Int32 × (Nat → Int32))}, jH A s H locs D g ad z [] [jTp g ad xq5 xl5 xf5] → jl_has ls 10 [(1, jv ad 1 v1), (2, .int v2), (3, .ref xq5), (4, .int v4), (5, .ref (ad 4)), (6, .int v6), (7, .int v7)] → c26 v1 v2 v4 v6 v7 xl5 xf5 = some (o, uc, us) → cells + uc = mc → slots + us = ms → W p l e (rm_X8_row mc ms) s mm args below meth c H locs cells slots (jGr below args s D g A ad o.1 o.2 z mc ms) (F0 mm 26 ls [])) {c65 : Int32 → Int32 → Int32 → Int32 → Int32 → Int32 → Int32 → Int32 → (Nat → Int32) → Option ((Int32 × (Nat → Int32)) × Nat × Nat)} (hk65 : ∀ {v1 : Int32} {v2 : Int32} {v4 : Int32} {v6 : Int32} {v7 : Int32} {v8 : Int32} {v9 : Int32} {xq5 : Nat} {xl5 : Int32} {xf5 : Nat → Int32} {H : Heap} {locs : List Loc} {ls : Array Slot} {cells slots mc ms uc us : Nat} {o : (Int32 × (Nat → Int32))}, jH A s H locs D g ad z [] [jTp g ad xq5 xl5 xf5] → jl_has ls 10 [(1, jv ad 1 v1), (2, .int v2), (3, .ref xq5), (4, .int v4), (5, .ref (ad 4)), (6, .int v6), (7, .int v7), (8, jv ad 1 v8), (9, .int v9)] → c65 v1 v2 v4 v6 v7 v8 v9 xl5 xf5 = some (o, uc, us) → cells + uc = mc → slots + us = ms → W p l e (rm_X8_row mc ms) s mm args below meth c H locs cells slots (jGr below args s D g A ad o.1 o.2 z mc ms) (F0 mm 65 ls [])) {v1 : Int32} {v2 : Int32} {v4 : Int32} {v6 : Int32} {v7 : Int32} {v8 : Int32} {v9 : Int32} {xq5 : Nat} {xl5 : Int32} {xf5 : Nat → Int32} {H : Heap} {locs : List Loc} {ls : Array Slot} {cells slots mc ms uc us : Nat} {o : (Int32 × (Nat → Int32))} (hH : jH A s H locs D g ad z [] [jTp g ad xq5 xl5 xf5]) (hl : jl_has ls 10 [(1, jv ad 1 v1), (2, .int v2), (3, .ref xq5), (4, .int v4), (5, .ref (ad 4)), (6, .int v6), (7, .int v7), (8, jv ad 1 v8), (9, .int v9)]) (hf : F_X8_row_70 z c26 c65 v1 v2 v4 v6 v7 v8 v9 xl5 xf5 = some (o, uc, us)) (hc : cells + uc = mc) (hs : slots + us = ms) : W p l e (rm_X8_row mc ms) s mm args below meth c H locs cells slots (jGr below args s D g A ad o.1 o.2 z mc ms) (F0 mm 70 ls []) := by
  have hx := V.1
  have hb := V.2.1
  refine jl_aload hx hb dX8_row_70 (lv_at hl.1 7 rfl) ?_
  refine lv_aload_n hx hb dX8_row_72 rfl (lv_at hl.1 2 rfl) ?_
  refine lv_iload hx hb dX8_row_73 (lv_at hl.1 8 rfl) ?_
  refine lv_iconst (v := 1) hx hb dX8_row_75 (by decide) ?_
  refine lv_isub hx hb dX8_row_76 ?_
  obtain ⟨h70_1, hf⟩ := kif hf
  refine jt_aldp V hH 0 rfl h70_1 dX8_row_77 ?_
  refine lv_iload_n hx hb dX8_row_78 rfl (lv_at hl.1 1 rfl) ?_
  obtain ⟨x70_2, hx70_2, hf⟩ := kbind hf
  refine jr_calliR0 hA hH (jr_runS (as := [jv ad 1 v8, jv ad 1 (xf5 (v9 - 1).toNatClampNeg), .int v2]) (rest := []) V hH kYX8_isAhead kl_X8_81 (c_X8_isAhead l _ _ _ hx70_2 _) rfl rfl ⟨Nat.le_of_ble_eq_true rfl, Nat.le_of_ble_eq_true rfl⟩ rfl hl.1.1 (Nat.le_of_ble_eq_true rfl) dX8_row_79 ⟨by show cells + 0 ≤ mc; omega, by show slots + 0 ≤ ms; omega⟩ rfl) (fun H locs hH => ?_)
  refine lv_if_eq (tgt := 101) hx hb dX8_row_82 (by decide) (fun hq => ?_) (fun hq => ?_)
  · have hf := kpos hq hf
    exact w_X8_row_101 V hA hk26 hH (jl_sub hl [0, 1, 2, 3, 4, 5, 6, 7, 8] rfl) hf hc hs
  · have hf := kneg hq hf
    exact w_X8_row_85 V hA hk26 hk65 hH (jl_sub hl [0, 1, 2, 3, 4, 5, 6, 7, 8] rfl) hf hc hs
set_option maxHeartbeats 4000000 in
set_option maxRecDepth 100000 in
theorem w_X8_row_65 (V : jV p s mm args meth c cX8_row RX8 10 (some (.array (.object "KingTiesLaw$Person"))) D g) (hA : ∀ q, s.heap.size ≤ q → A q) {c26 : Int32 → Int32 → Int32 → Int32 → Int32 → Int32 → (Nat → Int32) → Option ((Int32 × (Nat → Int32)) × Nat × Nat)} (hk26 : ∀ {v1 : Int32} {v2 : Int32} {v4 : Int32} {v6 : Int32} {v7 : Int32} {xq5 : Nat} {xl5 : Int32} {xf5 : Nat → Int32} {H : Heap} {locs : List Loc} {ls : Array Slot} {cells slots mc ms uc us : Nat} {o : (Int32 × (Nat → Int32))}, jH A s H locs D g ad z [] [jTp g ad xq5 xl5 xf5] → jl_has ls 10 [(1, jv ad 1 v1), (2, .int v2), (3, .ref xq5), (4, .int v4), (5, .ref (ad 4)), (6, .int v6), (7, .int v7)] → c26 v1 v2 v4 v6 v7 xl5 xf5 = some (o, uc, us) → cells + uc = mc → slots + us = ms → W p l e (rm_X8_row mc ms) s mm args below meth c H locs cells slots (jGr below args s D g A ad o.1 o.2 z mc ms) (F0 mm 26 ls [])) : ∀ (n : Nat) {v1 : Int32} {v2 : Int32} {v4 : Int32} {v6 : Int32} {v7 : Int32} {v8 : Int32} {v9 : Int32} {xq5 : Nat} {xl5 : Int32} {xf5 : Nat → Int32} {H : Heap} {locs : List Loc} {ls : Array Slot} {cells slots mc ms uc us : Nat} {o : (Int32 × (Nat → Int32))}, jH A s H locs D g ad z [] [jTp g ad xq5 xl5 xf5] → jl_has ls 10 [(1, jv ad 1 v1), (2, .int v2), (3, .ref xq5), (4, .int v4), (5, .ref (ad 4)), (6, .int v6), (7, .int v7), (8, jv ad 1 v8), (9, .int v9)] → F_X8_row_65 z c26 n v1 v2 v4 v6 v7 v8 v9 xl5 xf5 = some (o, uc, us) → cells + uc = mc → slots + us = ms → W p l e (rm_X8_row mc ms) s mm args below meth c H locs cells slots (jGr below args s D g A ad o.1 o.2 z mc ms) (F0 mm 65 ls []) := by
  have hx := V.1
  have hb := V.2.1
  intro n
  induction n with
  | zero => intro _ _ _ _ _ _ _ _ _ _ _ _ _ _ _ _ _ _ _ _ hH hl hf hc hs; cases hf
  | succ n hk65 =>
    intro v1 v2 v4 v6 v7 v8 v9 xq5 xl5 xf5 H locs ls cells slots mc ms uc us o hH hl hf hc hs
    refine lv_iload hx hb dX8_row_65 (lv_at hl.1 8 rfl) ?_
    refine lv_if_le (tgt := 101) hx hb dX8_row_67 (by decide) (fun hq => ?_) (fun hq => ?_)
    · have hf := kpos hq hf
      exact w_X8_row_101 V hA hk26 hH (jl_sub hl [0, 1, 2, 3, 4, 5, 6, 7, 8] rfl) hf hc hs
    · have hf := kneg hq hf
      exact w_X8_row_70 V hA hk26 hk65 hH (jl_sub hl [0, 1, 2, 3, 4, 5, 6, 7, 8] rfl) hf hc hs
set_option maxHeartbeats 4000000 in
set_option maxRecDepth 100000 in
theorem w_X8_row_61 (V : jV p s mm args meth c cX8_row RX8 10 (some (.array (.object "KingTiesLaw$Person"))) D g) (hA : ∀ q, s.heap.size ≤ q → A q) {c26 : Int32 → Int32 → Int32 → Int32 → Int32 → Int32 → (Nat → Int32) → Option ((Int32 × (Nat → Int32)) × Nat × Nat)} (hk26 : ∀ {v1 : Int32} {v2 : Int32} {v4 : Int32} {v6 : Int32} {v7 : Int32} {xq5 : Nat} {xl5 : Int32} {xf5 : Nat → Int32} {H : Heap} {locs : List Loc} {ls : Array Slot} {cells slots mc ms uc us : Nat} {o : (Int32 × (Nat → Int32))}, jH A s H locs D g ad z [] [jTp g ad xq5 xl5 xf5] → jl_has ls 10 [(1, jv ad 1 v1), (2, .int v2), (3, .ref xq5), (4, .int v4), (5, .ref (ad 4)), (6, .int v6), (7, .int v7)] → c26 v1 v2 v4 v6 v7 xl5 xf5 = some (o, uc, us) → cells + uc = mc → slots + us = ms → W p l e (rm_X8_row mc ms) s mm args below meth c H locs cells slots (jGr below args s D g A ad o.1 o.2 z mc ms) (F0 mm 26 ls [])) {v1 : Int32} {v2 : Int32} {v4 : Int32} {v6 : Int32} {v7 : Int32} {v8 : Int32} {xq5 : Nat} {xl5 : Int32} {xf5 : Nat → Int32} {H : Heap} {locs : List Loc} {ls : Array Slot} {cells slots mc ms uc us : Nat} {o : (Int32 × (Nat → Int32))} (hH : jH A s H locs D g ad z [] [jTp g ad xq5 xl5 xf5]) (hl : jl_has ls 10 [(1, jv ad 1 v1), (2, .int v2), (3, .ref xq5), (4, .int v4), (5, .ref (ad 4)), (6, .int v6), (7, .int v7), (8, jv ad 1 v8)]) (hf : F_X8_row_61 z c26 v1 v2 v4 v6 v7 v8 xl5 xf5 = some (o, uc, us)) (hc : cells + uc = mc) (hs : slots + us = ms) : W p l e (rm_X8_row mc ms) s mm args below meth c H locs cells slots (jGr below args s D g A ad o.1 o.2 z mc ms) (F0 mm 61 ls []) := by
  have hx := V.1
  have hb := V.2.1
  refine lv_iload hx hb dX8_row_61 (lv_at hl.1 3 rfl) ?_
  refine jl_istore (lv' := [(9, .int v4), (1, jv ad 1 v1), (2, .int v2), (3, .ref xq5), (4, .int v4), (5, .ref (ad 4)), (6, .int v6), (7, .int v7), (8, jv ad 1 v8)]) hx hb dX8_row_63 hl (by decide) rfl (fun ls hl => ?_)
  exact w_X8_row_65 V hA hk26 kN hH (jl_sub hl [1, 2, 3, 4, 5, 6, 7, 8, 0] rfl) hf hc hs
set_option maxHeartbeats 4000000 in
set_option maxRecDepth 100000 in
theorem w_X8_row_49 (V : jV p s mm args meth c cX8_row RX8 10 (some (.array (.object "KingTiesLaw$Person"))) D g) (hA : ∀ q, s.heap.size ≤ q → A q) {c26 : Int32 → Int32 → Int32 → Int32 → Int32 → Int32 → (Nat → Int32) → Option ((Int32 × (Nat → Int32)) × Nat × Nat)} (hk26 : ∀ {v1 : Int32} {v2 : Int32} {v4 : Int32} {v6 : Int32} {v7 : Int32} {xq5 : Nat} {xl5 : Int32} {xf5 : Nat → Int32} {H : Heap} {locs : List Loc} {ls : Array Slot} {cells slots mc ms uc us : Nat} {o : (Int32 × (Nat → Int32))}, jH A s H locs D g ad z [] [jTp g ad xq5 xl5 xf5] → jl_has ls 10 [(1, jv ad 1 v1), (2, .int v2), (3, .ref xq5), (4, .int v4), (5, .ref (ad 4)), (6, .int v6), (7, .int v7)] → c26 v1 v2 v4 v6 v7 xl5 xf5 = some (o, uc, us) → cells + uc = mc → slots + us = ms → W p l e (rm_X8_row mc ms) s mm args below meth c H locs cells slots (jGr below args s D g A ad o.1 o.2 z mc ms) (F0 mm 26 ls [])) {v1 : Int32} {v2 : Int32} {v4 : Int32} {v6 : Int32} {v7 : Int32} {v8 : Int32} {xq5 : Nat} {xl5 : Int32} {xf5 : Nat → Int32} {H : Heap} {locs : List Loc} {ls : Array Slot} {cells slots mc ms uc us : Nat} {o : (Int32 × (Nat → Int32))} (hH : jH A s H locs D g ad z [] [jTp g ad xq5 xl5 xf5]) (hl : jl_has ls 10 [(1, jv ad 1 v1), (2, .int v2), (3, .ref xq5), (4, .int v4), (5, .ref (ad 4)), (6, .int v6), (7, .int v7), (8, jv ad 1 v8)]) (hf : F_X8_row_49 z c26 v1 v2 v4 v6 v7 v8 xl5 xf5 = some (o, uc, us)) (hc : cells + uc = mc) (hs : slots + us = ms) : W p l e (rm_X8_row mc ms) s mm args below meth c H locs cells slots (jGr below args s D g A ad o.1 o.2 z mc ms) (F0 mm 49 ls []) := by
  have hx := V.1
  have hb := V.2.1
  refine jl_aload hx hb dX8_row_49 (lv_at hl.1 7 rfl) ?_
  obtain ⟨h49_1, hf⟩ := kif hf
  refine jg_P V hH h49_1 5 (by decide) kf_X8_47 rfl dX8_row_51 ?_
  refine jl_aload_n hx hb dX8_row_54 rfl (lv_at hl.1 0 rfl) ?_
  obtain ⟨h49_2, hf⟩ := kif hf
  obtain ⟨h49_3, hf⟩ := kif hf
  refine jl_acmp_eq1 V hH (tgt := 61) h49_2 h49_3 dX8_row_55 (by decide) (fun hq => ?_) (fun hq => ?_)
  · have hf := kpos hq hf
    exact w_X8_row_61 V hA hk26 hH (jl_sub hl [0, 1, 2, 3, 4, 5, 6, 7] rfl) hf hc hs
  · have hf := kneg hq hf
    exact w_X8_row_58 V hA hk26 hH (jl_sub hl [0, 1, 2, 3, 4, 5, 6] rfl) hf hc hs
set_option maxHeartbeats 4000000 in
set_option maxRecDepth 100000 in
theorem w_X8_row_33 (V : jV p s mm args meth c cX8_row RX8 10 (some (.array (.object "KingTiesLaw$Person"))) D g) (hA : ∀ q, s.heap.size ≤ q → A q) {c26 : Int32 → Int32 → Int32 → Int32 → Int32 → Int32 → (Nat → Int32) → Option ((Int32 × (Nat → Int32)) × Nat × Nat)} (hk26 : ∀ {v1 : Int32} {v2 : Int32} {v4 : Int32} {v6 : Int32} {v7 : Int32} {xq5 : Nat} {xl5 : Int32} {xf5 : Nat → Int32} {H : Heap} {locs : List Loc} {ls : Array Slot} {cells slots mc ms uc us : Nat} {o : (Int32 × (Nat → Int32))}, jH A s H locs D g ad z [] [jTp g ad xq5 xl5 xf5] → jl_has ls 10 [(1, jv ad 1 v1), (2, .int v2), (3, .ref xq5), (4, .int v4), (5, .ref (ad 4)), (6, .int v6), (7, .int v7)] → c26 v1 v2 v4 v6 v7 xl5 xf5 = some (o, uc, us) → cells + uc = mc → slots + us = ms → W p l e (rm_X8_row mc ms) s mm args below meth c H locs cells slots (jGr below args s D g A ad o.1 o.2 z mc ms) (F0 mm 26 ls [])) {v1 : Int32} {v2 : Int32} {v4 : Int32} {v6 : Int32} {v7 : Int32} {xq5 : Nat} {xl5 : Int32} {xf5 : Nat → Int32} {H : Heap} {locs : List Loc} {ls : Array Slot} {cells slots mc ms uc us : Nat} {o : (Int32 × (Nat → Int32))} (hH : jH A s H locs D g ad z [] [jTp g ad xq5 xl5 xf5]) (hl : jl_has ls 10 [(1, jv ad 1 v1), (2, .int v2), (3, .ref xq5), (4, .int v4), (5, .ref (ad 4)), (6, .int v6), (7, .int v7)]) (hf : F_X8_row_33 z c26 v1 v2 v4 v6 v7 xl5 xf5 = some (o, uc, us)) (hc : cells + uc = mc) (hs : slots + us = ms) : W p l e (rm_X8_row mc ms) s mm args below meth c H locs cells slots (jGr below args s D g A ad o.1 o.2 z mc ms) (F0 mm 33 ls []) := by
  have hx := V.1
  have hb := V.2.1
  refine lv_aload hx hb dX8_row_33 (lv_at hl.1 4 rfl) ?_
  refine lv_iload hx hb dX8_row_35 (lv_at hl.1 6 rfl) ?_
  obtain ⟨h33_1, hf⟩ := kif hf
  refine jald_4 V hH h33_1 dX8_row_37 ?_
  refine jl_astore (lv' := [(8, jv ad 1 (z 4 v7.toNatClampNeg)), (1, jv ad 1 v1), (2, .int v2), (3, .ref xq5), (4, .int v4), (5, .ref (ad 4)), (6, .int v6), (7, .int v7)]) hx hb dX8_row_38 hl (by decide) rfl (fun ls hl => ?_)
  refine jl_aload hx hb dX8_row_40 (lv_at hl.1 0 rfl) ?_
  obtain ⟨h33_2, hf⟩ := kif hf
  refine jg_P V hH h33_2 4 (by decide) kf_X8_40 rfl dX8_row_42 ?_
  refine jl_aload_n hx hb dX8_row_45 rfl (lv_at hl.1 1 rfl) ?_
  obtain ⟨h33_3, hf⟩ := kif hf
  obtain ⟨h33_4, hf⟩ := kif hf
  refine jl_acmp_eq1 V hH (tgt := 61) h33_3 h33_4 dX8_row_46 (by decide) (fun hq => ?_) (fun hq => ?_)
  · have hf := kpos hq hf
    exact w_X8_row_61 V hA hk26 hH (jl_sub hl [1, 2, 3, 4, 5, 6, 7, 0] rfl) hf hc hs
  · have hf := kneg hq hf
    exact w_X8_row_49 V hA hk26 hH (jl_sub hl [1, 2, 3, 4, 5, 6, 7, 0] rfl) hf hc hs
set_option maxHeartbeats 4000000 in
set_option maxRecDepth 100000 in
theorem w_X8_row_116 (V : jV p s mm args meth c cX8_row RX8 10 (some (.array (.object "KingTiesLaw$Person"))) D g) (hA : ∀ q, s.heap.size ≤ q → A q) {xq5 : Nat} {xl5 : Int32} {xf5 : Nat → Int32} {H : Heap} {locs : List Loc} {ls : Array Slot} {cells slots mc ms uc us : Nat} {o : (Int32 × (Nat → Int32))} (hH : jH A s H locs D g ad z [] [jTp g ad xq5 xl5 xf5]) (hl : jl_has ls 10 [(3, .ref xq5)]) (hf : F_X8_row_116 z xl5 xf5 = some (o, uc, us)) (hc : cells + uc = mc) (hs : slots + us = ms) : W p l e (rm_X8_row mc ms) s mm args below meth c H locs cells slots (jGr below args s D g A ad o.1 o.2 z mc ms) (F0 mm 116 ls []) := by
  have hx := V.1
  have hb := V.2.1
  refine lv_aload_n hx hb dX8_row_116 rfl (lv_at hl.1 0 rfl) ?_
  cases hf
  subst hc
  subst hs
  exact je_rret V hH dX8_row_117
set_option maxHeartbeats 4000000 in
set_option maxRecDepth 100000 in
theorem w_X8_row_26 (V : jV p s mm args meth c cX8_row RX8 10 (some (.array (.object "KingTiesLaw$Person"))) D g) (hA : ∀ q, s.heap.size ≤ q → A q) : ∀ (n : Nat) {v1 : Int32} {v2 : Int32} {v4 : Int32} {v6 : Int32} {v7 : Int32} {xq5 : Nat} {xl5 : Int32} {xf5 : Nat → Int32} {H : Heap} {locs : List Loc} {ls : Array Slot} {cells slots mc ms uc us : Nat} {o : (Int32 × (Nat → Int32))}, jH A s H locs D g ad z [] [jTp g ad xq5 xl5 xf5] → jl_has ls 10 [(1, jv ad 1 v1), (2, .int v2), (3, .ref xq5), (4, .int v4), (5, .ref (ad 4)), (6, .int v6), (7, .int v7)] → F_X8_row_26 z n v1 v2 v4 v6 v7 xl5 xf5 = some (o, uc, us) → cells + uc = mc → slots + us = ms → W p l e (rm_X8_row mc ms) s mm args below meth c H locs cells slots (jGr below args s D g A ad o.1 o.2 z mc ms) (F0 mm 26 ls []) := by
  have hx := V.1
  have hb := V.2.1
  intro n
  induction n with
  | zero => intro _ _ _ _ _ _ _ _ _ _ _ _ _ _ _ _ _ _ hH hl hf hc hs; cases hf
  | succ n hk26 =>
    intro v1 v2 v4 v6 v7 xq5 xl5 xf5 H locs ls cells slots mc ms uc us o hH hl hf hc hs
    refine lv_iload hx hb dX8_row_26 (lv_at hl.1 6 rfl) ?_
    refine lv_iload hx hb dX8_row_28 (lv_at hl.1 5 rfl) ?_
    refine lv_icmp_ge (tgt := 116) hx hb dX8_row_30 (by decide) (fun hq => ?_) (fun hq => ?_)
    · have hf := kpos hq hf
      exact w_X8_row_116 V hA hH (jl_sub hl [2] rfl) hf hc hs
    · have hf := kneg hq hf
      exact w_X8_row_33 V hA hk26 hH (jl_sub hl [0, 1, 2, 3, 4, 5, 6] rfl) hf hc hs
set_option maxHeartbeats 4000000 in
set_option maxRecDepth 100000 in
theorem w_X8_row_0 (V : jV p s mm args meth c cX8_row RX8 10 (some (.array (.object "KingTiesLaw$Person"))) D g) (hA : ∀ q, s.heap.size ≤ q → A q) {v1 : Int32} {v2 : Int32} {H : Heap} {locs : List Loc} {ls : Array Slot} {cells slots mc ms uc us : Nat} {o : (Int32 × (Nat → Int32))} (hH : jH A s H locs D g ad z [] []) (hl : jl_has ls 10 [(0, .ref (ad 0)), (1, jv ad 1 v1), (2, .int v2)]) (hf : F_X8_row_0 z v1 v2 = some (o, uc, us)) (hc : cells + uc = mc) (hs : slots + us = ms) : W p l e (rm_X8_row mc ms) s mm args below meth c H locs cells slots (jGr below args s D g A ad o.1 o.2 z mc ms) (F0 mm 0 ls []) := by
  have hx := V.1
  have hb := V.2.1
  refine lv_aload_n hx hb dX8_row_0 rfl (lv_at hl.1 0 rfl) ?_
  refine jl_aload_n hx hb dX8_row_1 rfl (lv_at hl.1 1 rfl) ?_
  obtain ⟨x0_1, hx0_1, hf⟩ := kbind hf
  refine jr_calliR0 hA hH (jr_runV (as := [jv ad 1 v1]) (rest := []) V hH kYX8_children kl_X8_77 (c_X8_children l _ hx0_1 _) rfl rfl ⟨Nat.le_of_ble_eq_true rfl, Nat.le_of_ble_eq_true rfl⟩ rfl hl.1.1 (Nat.le_of_ble_eq_true rfl) dX8_row_2 ⟨by show cells + 0 ≤ mc; omega, by show slots + 0 ≤ ms; omega⟩ rfl) (fun H locs hH => ?_)
  obtain ⟨h0_2, hf⟩ := kif hf
  obtain ⟨uc0_3, us0_4, hf, e1, e2⟩ := kadd_some2 hf
  have e1 : uc = 1 + uc0_3 := e1
  have e2 : us = x0_1.toNatClampNeg + us0_4 := e2
  have hc : cells + 1 + uc0_3 = mc := by rw [Nat.add_assoc, ← e1]; exact hc
  have hs : slots + x0_1.toNatClampNeg + us0_4 = ms := by rw [Nat.add_assoc, ← e2]; exact hs
  have lc : cells + 1 ≤ mc := Nat.le.intro hc
  have ls2 : slots + x0_1.toNatClampNeg ≤ ms := Nat.le.intro hs
  refine jt_newp V hA hH (fun q => h0_2 (Or.inl q)) (Nat.not_lt.mp fun q => h0_2 (Or.inr q)) kc_X8_7 lc ls2 dX8_row_5 (fun xq5 H hH => ?_)
  refine jl_astore_n (o := some xq5) (lv' := [(3, .ref xq5), (0, .ref (ad 0)), (1, jv ad 1 v1), (2, .int v2)]) hx hb dX8_row_8 rfl hl (by decide) rfl (fun ls hl => ?_)
  refine lv_iconst (v := 0) hx hb dX8_row_9 (by decide) ?_
  refine jl_istore (lv' := [(4, .int 0), (3, .ref xq5), (0, .ref (ad 0)), (1, jv ad 1 v1), (2, .int v2)]) hx hb dX8_row_10 hl (by decide) rfl (fun ls hl => ?_)
  refine lv_aload_n hx hb dX8_row_12 rfl (lv_at hl.1 2 rfl) ?_
  refine jg_S V hH 0 (by decide) kf_X8_9 rfl dX8_row_13 ?_
  refine jl_astore (o := some (ad 4)) (lv' := [(5, .ref (ad 4)), (4, .int 0), (3, .ref xq5), (0, .ref (ad 0)), (1, jv ad 1 v1), (2, .int v2)]) hx hb dX8_row_16 hl (by decide) rfl (fun ls hl => ?_)
  refine lv_aload hx hb dX8_row_18 (lv_at hl.1 0 rfl) ?_
  refine jalen_4 V hH dX8_row_20 ?_
  refine jl_istore (lv' := [(6, .int (nI (z 12 0).toNatClampNeg)), (5, .ref (ad 4)), (4, .int 0), (3, .ref xq5), (0, .ref (ad 0)), (1, jv ad 1 v1), (2, .int v2)]) hx hb dX8_row_21 hl (by decide) rfl (fun ls hl => ?_)
  refine lv_iconst (v := 0) hx hb dX8_row_23 (by decide) ?_
  refine jl_istore (lv' := [(7, .int 0), (6, .int (nI (z 12 0).toNatClampNeg)), (5, .ref (ad 4)), (4, .int 0), (3, .ref xq5), (0, .ref (ad 0)), (1, jv ad 1 v1), (2, .int v2)]) hx hb dX8_row_24 hl (by decide) rfl (fun ls hl => ?_)
  exact w_X8_row_26 V hA kN hH (jl_sub hl [6, 7, 4, 3, 2, 1, 0] rfl) hf hc hs
set_option maxHeartbeats 4000000 in
set_option maxRecDepth 100000 in
theorem c_X8_row (l : Launch) {D : va_G} {g : Nat → ClassId} {ad : Nat → Nat} {z : kS} (v1 : Int32) (v2 : Int32) {o : (Int32 × (Nat → Int32))} {mc ms : Nat} (hf : F_X8_row z v1 v2 = some (o, mc, ms)) (sz : Nat) : Met l yX8_row (Cond.code yX8_row cX8_row 10 (some (.array (.object "KingTiesLaw$Person"))) :: kWA) (rm_X8_row mc ms) (jP [.ref (ad 0), jv ad 1 v1, .int v2] D g ad z sz) (jQr o.1 o.2 ad D g (va_A (jC g ad z) sz) z) mc ms (va_A (jC g ad z) sz) := by
  refine j_met (as := [.ref (ad 0), jv ad 1 v1, .int v2]) (bytes := cX8_row) (maxL := 10) (rt := (some (.array (.object "KingTiesLaw$Person")))) (lv := [(0, .ref (ad 0)), (1, jv ad 1 v1), (2, .int v2)]) (by decide +kernel) (by simp [lg_sl, jcatv, jcati, jcatr]) (by simp [lv_args, jcatv, jcati, jcatr]) (by simp [jcatv, jcati, jcatr]) (fun p e s mm below meth c ls hsz V hA hH hl => ?_)
  exact w_X8_row_0 V hA hH (jl_sub hl [0, 1, 2] rfl) hf (Nat.zero_add _) (Nat.zero_add _)
end
section
variable {p : Program} {l : Launch} {e : Env} {s : State} {mm : MethodId} {args : Array Value} {below : List Frame} {meth : Method} {c : Code} {D : va_G} {g : Nat → ClassId} {A : Nat → Prop}
variable {ad : Nat → Nat}
variable {z : kS}
abbrev rm_X8_first (d mc ms : Nat) : Room := { frames := d + 3, cells := mc, slots := ms, locals := d * 28 + 72 }
set_option maxHeartbeats 4000000 in
set_option maxRecDepth 100000 in
theorem w_X8_first_4 (V : jV p s mm args meth c cX8_first RX8 9 (some (.object "KingTiesLaw$Person")) D g) (hA : ∀ q, s.heap.size ≤ q → A q) {d : Nat} {self : Int32 → Int32 → Int32 → Option (Int32 × Nat × Nat)} (hself : ∀ (a1 a2 a3 : Int32) {r : Int32} {uc us : Nat}, self a1 a2 a3 = some (r, uc, us) → ∀ sz : Nat, Met l yX8_first (Cond.code yX8_first cX8_first 9 (some (.object "KingTiesLaw$Person")) :: kWA) (rm_X8_first d uc us) (jP [.ref (ad 0), jv ad 1 a1, .int a2, jv ad 1 a3] D g ad z sz) (jQq 1 r (fun a => a = ad) D g (va_A (jC g ad z) sz) z) uc us (va_A (jC g ad z) sz)) {H : Heap} {locs : List Loc} {ls : Array Slot} {cells slots mc ms uc us : Nat} {o : Int32} (hH : jH A s H locs D g ad z [] []) (hl : jl_has ls 9 []) (hf : F_X8_first_4 self z = some (o, uc, us)) (hc : cells + uc = mc) (hs : slots + us = ms) : W p l e (rm_X8_first (d + 1) mc ms) s mm args below meth c H locs cells slots (jGq below args s D g A (fun a => a = ad) 1 o z mc ms) (F0 mm 4 ls []) := by
  have hx := V.1
  have hb := V.2.1
  refine jl_null (ad := ad) hx hb 1 dX8_first_4 ?_
  cases hf
  subst hc
  subst hs
  exact je_qret (G := fun a => a = ad) V rfl hH dX8_first_5
set_option maxHeartbeats 4000000 in
set_option maxRecDepth 100000 in
theorem w_X8_first_70 (V : jV p s mm args meth c cX8_first RX8 9 (some (.object "KingTiesLaw$Person")) D g) (hA : ∀ q, s.heap.size ≤ q → A q) {d : Nat} {self : Int32 → Int32 → Int32 → Option (Int32 × Nat × Nat)} (hself : ∀ (a1 a2 a3 : Int32) {r : Int32} {uc us : Nat}, self a1 a2 a3 = some (r, uc, us) → ∀ sz : Nat, Met l yX8_first (Cond.code yX8_first cX8_first 9 (some (.object "KingTiesLaw$Person")) :: kWA) (rm_X8_first d uc us) (jP [.ref (ad 0), jv ad 1 a1, .int a2, jv ad 1 a3] D g ad z sz) (jQq 1 r (fun a => a = ad) D g (va_A (jC g ad z) sz) z) uc us (va_A (jC g ad z) sz)) {v8 : Int32} {H : Heap} {locs : List Loc} {ls : Array Slot} {cells slots mc ms uc us : Nat} {o : Int32} (hH : jH A s H locs D g ad z [] []) (hl : jl_has ls 9 [(8, jv ad 1 v8)]) (hf : F_X8_first_70 self z v8 = some (o, uc, us)) (hc : cells + uc = mc) (hs : slots + us = ms) : W p l e (rm_X8_first (d + 1) mc ms) s mm args below meth c H locs cells slots (jGq below args s D g A (fun a => a = ad) 1 o z mc ms) (F0 mm 70 ls []) := by
  have hx := V.1
  have hb := V.2.1
  refine jl_aload hx hb dX8_first_70 (lv_at hl.1 0 rfl) ?_
  cases hf
  subst hc
  subst hs
  exact je_qret (G := fun a => a = ad) V rfl hH dX8_first_72
set_option maxHeartbeats 4000000 in
set_option maxRecDepth 100000 in
theorem w_X8_first_73 (V : jV p s mm args meth c cX8_first RX8 9 (some (.object "KingTiesLaw$Person")) D g) (hA : ∀ q, s.heap.size ≤ q → A q) {d : Nat} {self : Int32 → Int32 → Int32 → Option (Int32 × Nat × Nat)} (hself : ∀ (a1 a2 a3 : Int32) {r : Int32} {uc us : Nat}, self a1 a2 a3 = some (r, uc, us) → ∀ sz : Nat, Met l yX8_first (Cond.code yX8_first cX8_first 9 (some (.object "KingTiesLaw$Person")) :: kWA) (rm_X8_first d uc us) (jP [.ref (ad 0), jv ad 1 a1, .int a2, jv ad 1 a3] D g ad z sz) (jQq 1 r (fun a => a = ad) D g (va_A (jC g ad z) sz) z) uc us (va_A (jC g ad z) sz)) {c22 : Int32 → Int32 → Int32 → Int32 → Int32 → (Nat → Int32) → Option (Int32 × Nat × Nat)} (hk22 : ∀ {v2 : Int32} {v3 : Int32} {v5 : Int32} {v6 : Int32} {xq9 : Nat} {xl9 : Int32} {xf9 : Nat → Int32} {H : Heap} {locs : List Loc} {ls : Array Slot} {cells slots mc ms uc us : Nat} {o : Int32}, jH A s H locs D g ad z [] [jTp g ad xq9 xl9 xf9] → jl_has ls 9 [(0, .ref (ad 0)), (2, .int v2), (3, jv ad 1 v3), (4, .ref xq9), (5, .int v5), (6, .int v6)] → c22 v2 v3 v5 v6 xl9 xf9 = some (o, uc, us) → cells + uc = mc → slots + us = ms → W p l e (rm_X8_first (d + 1) mc ms) s mm args below meth c H locs cells slots (jGq below args s D g A (fun a => a = ad) 1 o z mc ms) (F0 mm 22 ls [])) {v2 : Int32} {v3 : Int32} {v5 : Int32} {v6 : Int32} {xq9 : Nat} {xl9 : Int32} {xf9 : Nat → Int32} {H : Heap} {locs : List Loc} {ls : Array Slot} {cells slots mc ms uc us : Nat} {o : Int32} (hH : jH A s H locs D g ad z [] [jTp g ad xq9 xl9 xf9]) (hl : jl_has ls 9 [(0, .ref (ad 0)), (2, .int v2), (3, jv ad 1 v3), (4, .ref xq9), (5, .int v5), (6, .int v6)]) (hf : F_X8_first_73 self z c22 v2 v3 v5 v6 xl9 xf9 = some (o, uc, us)) (hc : cells + uc = mc) (hs : slots + us = ms) : W p l e (rm_X8_first (d + 1) mc ms) s mm args below meth c H locs cells slots (jGq below args s D g A (fun a => a = ad) 1 o z mc ms) (F0 mm 73 ls []) := by
  have hx := V.1
  have hb := V.2.1
  refine jl_iinc (v := (v6 + 1)) (lv' := [(6, .int (v6 + 1)), (0, .ref (ad 0)), (2, .int v2), (3, jv ad 1 v3), (4, .ref xq9), (5, .int v5)]) hx hb dX8_first_73 hl (k := 5) rfl rfl (by decide) rfl (fun ls hl => ?_)
  refine lv_goto (tgt := 22) hx hb dX8_first_76 (by decide) ?_
  exact hk22 hH (jl_sub hl [1, 2, 3, 4, 5, 0] rfl) hf hc hs
set_option maxHeartbeats 4000000 in
set_option maxRecDepth 100000 in
theorem w_X8_first_63 (V : jV p s mm args meth c cX8_first RX8 9 (some (.object "KingTiesLaw$Person")) D g) (hA : ∀ q, s.heap.size ≤ q → A q) {d : Nat} {self : Int32 → Int32 → Int32 → Option (Int32 × Nat × Nat)} (hself : ∀ (a1 a2 a3 : Int32) {r : Int32} {uc us : Nat}, self a1 a2 a3 = some (r, uc, us) → ∀ sz : Nat, Met l yX8_first (Cond.code yX8_first cX8_first 9 (some (.object "KingTiesLaw$Person")) :: kWA) (rm_X8_first d uc us) (jP [.ref (ad 0), jv ad 1 a1, .int a2, jv ad 1 a3] D g ad z sz) (jQq 1 r (fun a => a = ad) D g (va_A (jC g ad z) sz) z) uc us (va_A (jC g ad z) sz)) {c22 : Int32 → Int32 → Int32 → Int32 → Int32 → (Nat → Int32) → Option (Int32 × Nat × Nat)} (hk22 : ∀ {v2 : Int32} {v3 : Int32} {v5 : Int32} {v6 : Int32} {xq9 : Nat} {xl9 : Int32} {xf9 : Nat → Int32} {H : Heap} {locs : List Loc} {ls : Array Slot} {cells slots mc ms uc us : Nat} {o : Int32}, jH A s H locs D g ad z [] [jTp g ad xq9 xl9 xf9] → jl_has ls 9 [(0, .ref (ad 0)), (2, .int v2), (3, jv ad 1 v3), (4, .ref xq9), (5, .int v5), (6, .int v6)] → c22 v2 v3 v5 v6 xl9 xf9 = some (o, uc, us) → cells + uc = mc → slots + us = ms → W p l e (rm_X8_first (d + 1) mc ms) s mm args below meth c H locs cells slots (jGq below args s D g A (fun a => a = ad) 1 o z mc ms) (F0 mm 22 ls [])) {s0 : Int32} {v2 : Int32} {v3 : Int32} {v5 : Int32} {v6 : Int32} {xq9 : Nat} {xl9 : Int32} {xf9 : Nat → Int32} {H : Heap} {locs : List Loc} {ls : Array Slot} {cells slots mc ms uc us : Nat} {o : Int32} (hH : jH A s H locs D g ad z [] [jTp g ad xq9 xl9 xf9]) (hl : jl_has ls 9 [(0, .ref (ad 0)), (2, .int v2), (3, jv ad 1 v3), (4, .ref xq9), (5, .int v5), (6, .int v6)]) (hf : F_X8_first_63 self z c22 s0 v2 v3 v5 v6 xl9 xf9 = some (o, uc, us)) (hc : cells + uc = mc) (hs : slots + us = ms) : W p l e (rm_X8_first (d + 1) mc ms) s mm args below meth c H locs cells slots (jGq below args s D g A (fun a => a = ad) 1 o z mc ms) (F0 mm 63 ls [jv ad 1 s0]) := by
  have hx := V.1
  have hb := V.2.1
  refine jl_astore (lv' := [(8, jv ad 1 s0), (0, .ref (ad 0)), (2, .int v2), (3, jv ad 1 v3), (4, .ref xq9), (5, .int v5), (6, .int v6)]) hx hb dX8_first_63 hl (by decide) rfl (fun ls hl => ?_)
  refine jl_aload hx hb dX8_first_65 (lv_at hl.1 0 rfl) ?_
  refine jl_ifnull (tgt := 73) hx hb dX8_first_67 (by decide) (fun hq => ?_) (fun hq => ?_)
  · have hf := kpos hq hf
    exact w_X8_first_73 V hA hself hk22 hH (jl_sub hl [1, 2, 3, 4, 5, 6] rfl) hf hc hs
  · have hf := kneg hq hf
    exact w_X8_first_70 V hA hself (jH_sub hH [] (by decide) rfl) (jl_sub hl [0] rfl) hf hc hs
set_option maxHeartbeats 4000000 in
set_option maxRecDepth 100000 in
theorem w_X8_first_50 (V : jV p s mm args meth c cX8_first RX8 9 (some (.object "KingTiesLaw$Person")) D g) (hA : ∀ q, s.heap.size ≤ q → A q) {d : Nat} {self : Int32 → Int32 → Int32 → Option (Int32 × Nat × Nat)} (hself : ∀ (a1 a2 a3 : Int32) {r : Int32} {uc us : Nat}, self a1 a2 a3 = some (r, uc, us) → ∀ sz : Nat, Met l yX8_first (Cond.code yX8_first cX8_first 9 (some (.object "KingTiesLaw$Person")) :: kWA) (rm_X8_first d uc us) (jP [.ref (ad 0), jv ad 1 a1, .int a2, jv ad 1 a3] D g ad z sz) (jQq 1 r (fun a => a = ad) D g (va_A (jC g ad z) sz) z) uc us (va_A (jC g ad z) sz)) {c22 : Int32 → Int32 → Int32 → Int32 → Int32 → (Nat → Int32) → Option (Int32 × Nat × Nat)} (hk22 : ∀ {v2 : Int32} {v3 : Int32} {v5 : Int32} {v6 : Int32} {xq9 : Nat} {xl9 : Int32} {xf9 : Nat → Int32} {H : Heap} {locs : List Loc} {ls : Array Slot} {cells slots mc ms uc us : Nat} {o : Int32}, jH A s H locs D g ad z [] [jTp g ad xq9 xl9 xf9] → jl_has ls 9 [(0, .ref (ad 0)), (2, .int v2), (3, jv ad 1 v3), (4, .ref xq9), (5, .int v5), (6, .int v6)] → c22 v2 v3 v5 v6 xl9 xf9 = some (o, uc, us) → cells + uc = mc → slots + us = ms → W p l e (rm_X8_first (d + 1) mc ms) s mm args below meth c H locs cells slots (jGq below args s D g A (fun a => a = ad) 1 o z mc ms) (F0 mm 22 ls [])) {v2 : Int32} {v3 : Int32} {v5 : Int32} {v6 : Int32} {v7 : Int32} {xq9 : Nat} {xl9 : Int32} {xf9 : Nat → Int32} {H : Heap} {locs : List Loc} {ls : Array Slot} {cells slots mc ms uc us : Nat} {o : Int32} (hH : jH A s H locs D g ad z [] [jTp g ad xq9 xl9 xf9]) (hl : jl_has ls 9 [(0, .ref (ad 0)), (2, .int v2), (3, jv ad 1 v3), (4, .ref xq9), (5, .int v5), (6, .int v6), (7, jv ad 1 v7)]) (hf : F_X8_first_50 self z c22 v2 v3 v5 v6 v7 xl9 xf9 = some (o, uc, us)) (hc : cells + uc = mc) (hs : slots + us = ms) : W p l e (rm_X8_first (d + 1) mc ms) s mm args below meth c H locs cells slots (jGq below args s D g A (fun a => a = ad) 1 o z mc ms) (F0 mm 50 ls []) := by
  have hx := V.1
  have hb := V.2.1
  refine jl_aload hx hb dX8_first_50 (lv_at hl.1 6 rfl) ?_
  refine lv_goto (tgt := 63) hx hb dX8_first_52 (by decide) ?_
  exact w_X8_first_63 V hA hself hk22 hH (jl_sub hl [0, 1, 2, 3, 4, 5] rfl) hf hc hs
set_option maxHeartbeats 4000000 in
set_option maxRecDepth 100000 in
theorem w_X8_first_55 (V : jV p s mm args meth c cX8_first RX8 9 (some (.object "KingTiesLaw$Person")) D g) (hA : ∀ q, s.heap.size ≤ q → A q) {d : Nat} {self : Int32 → Int32 → Int32 → Option (Int32 × Nat × Nat)} (hself : ∀ (a1 a2 a3 : Int32) {r : Int32} {uc us : Nat}, self a1 a2 a3 = some (r, uc, us) → ∀ sz : Nat, Met l yX8_first (Cond.code yX8_first cX8_first 9 (some (.object "KingTiesLaw$Person")) :: kWA) (rm_X8_first d uc us) (jP [.ref (ad 0), jv ad 1 a1, .int a2, jv ad 1 a3] D g ad z sz) (jQq 1 r (fun a => a = ad) D g (va_A (jC g ad z) sz) z) uc us (va_A (jC g ad z) sz)) {c22 : Int32 → Int32 → Int32 → Int32 → Int32 → (Nat → Int32) → Option (Int32 × Nat × Nat)} (hk22 : ∀ {v2 : Int32} {v3 : Int32} {v5 : Int32} {v6 : Int32} {xq9 : Nat} {xl9 : Int32} {xf9 : Nat → Int32} {H : Heap} {locs : List Loc} {ls : Array Slot} {cells slots mc ms uc us : Nat} {o : Int32}, jH A s H locs D g ad z [] [jTp g ad xq9 xl9 xf9] → jl_has ls 9 [(0, .ref (ad 0)), (2, .int v2), (3, jv ad 1 v3), (4, .ref xq9), (5, .int v5), (6, .int v6)] → c22 v2 v3 v5 v6 xl9 xf9 = some (o, uc, us) → cells + uc = mc → slots + us = ms → W p l e (rm_X8_first (d + 1) mc ms) s mm args below meth c H locs cells slots (jGq below args s D g A (fun a => a = ad) 1 o z mc ms) (F0 mm 22 ls [])) {v2 : Int32} {v3 : Int32} {v5 : Int32} {v6 : Int32} {v7 : Int32} {xq9 : Nat} {xl9 : Int32} {xf9 : Nat → Int32} {H : Heap} {locs : List Loc} {ls : Array Slot} {cells slots mc ms uc us : Nat} {o : Int32} (hH : jH A s H locs D g ad z [] [jTp g ad xq9 xl9 xf9]) (hl : jl_has ls 9 [(0, .ref (ad 0)), (2, .int v2), (3, jv ad 1 v3), (4, .ref xq9), (5, .int v5), (6, .int v6), (7, jv ad 1 v7)]) (hf : F_X8_first_55 self z c22 v2 v3 v5 v6 v7 xl9 xf9 = some (o, uc, us)) (hc : cells + uc = mc) (hs : slots + us = ms) : W p l e (rm_X8_first (d + 1) mc ms) s mm args below meth c H locs cells slots (jGq below args s D g A (fun a => a = ad) 1 o z mc ms) (F0 mm 55 ls []) := by
  have hx := V.1
  have hb := V.2.1
  refine lv_aload_n hx hb dX8_first_55 rfl (lv_at hl.1 0 rfl) ?_
  refine jl_aload hx hb dX8_first_56 (lv_at hl.1 6 rfl) ?_
  refine lv_iload_n hx hb dX8_first_58 rfl (lv_at hl.1 1 rfl) ?_
  refine jl_aload_n hx hb dX8_first_59 rfl (lv_at hl.1 2 rfl) ?_
  obtain ⟨x55_1, hx55_1, hf⟩ := kbind hf
  obtain ⟨uc55_2, us55_3, hf, e1, e2⟩ := kadd_some2 hf
  have e1 : uc = x55_1.2.1 + uc55_2 := e1
  have e2 : us = x55_1.2.2 + us55_3 := e2
  have hc : cells + x55_1.2.1 + uc55_2 = mc := by rw [Nat.add_assoc, ← e1]; exact hc
  have hs : slots + x55_1.2.2 + us55_3 = ms := by rw [Nat.add_assoc, ← e2]; exact hs
  have lc : cells + x55_1.2.1 ≤ mc := Nat.le.intro hc
  have ls2 : slots + x55_1.2.2 ≤ ms := Nat.le.intro hs
  refine jr_callqR hA hH (jr_runV (as := [jv ad 1 v7, .int v2, jv ad 1 v3]) (rest := []) V hH kYX8_first kl_X8_96 (hself _ _ _ hx55_1 _) rfl rfl ⟨Nat.le_of_eq (by show d + _ + 1 = d + 1 + _; omega), by show _ ≤ (d + 1) * _ + _; show 8 + (_ + 11) + (d * _ + _) ≤ _; omega⟩ rfl hl.1.1 (Nat.le_of_ble_eq_true rfl) dX8_first_60 ⟨lc, ls2⟩ rfl) (fun H locs hH => ?_)
  exact w_X8_first_63 V hA hself hk22 hH (jl_sub hl [0, 1, 2, 3, 4, 5] rfl) hf hc hs
set_option maxHeartbeats 4000000 in
set_option maxRecDepth 100000 in
theorem w_X8_first_44 (V : jV p s mm args meth c cX8_first RX8 9 (some (.object "KingTiesLaw$Person")) D g) (hA : ∀ q, s.heap.size ≤ q → A q) {d : Nat} {self : Int32 → Int32 → Int32 → Option (Int32 × Nat × Nat)} (hself : ∀ (a1 a2 a3 : Int32) {r : Int32} {uc us : Nat}, self a1 a2 a3 = some (r, uc, us) → ∀ sz : Nat, Met l yX8_first (Cond.code yX8_first cX8_first 9 (some (.object "KingTiesLaw$Person")) :: kWA) (rm_X8_first d uc us) (jP [.ref (ad 0), jv ad 1 a1, .int a2, jv ad 1 a3] D g ad z sz) (jQq 1 r (fun a => a = ad) D g (va_A (jC g ad z) sz) z) uc us (va_A (jC g ad z) sz)) {c22 : Int32 → Int32 → Int32 → Int32 → Int32 → (Nat → Int32) → Option (Int32 × Nat × Nat)} (hk22 : ∀ {v2 : Int32} {v3 : Int32} {v5 : Int32} {v6 : Int32} {xq9 : Nat} {xl9 : Int32} {xf9 : Nat → Int32} {H : Heap} {locs : List Loc} {ls : Array Slot} {cells slots mc ms uc us : Nat} {o : Int32}, jH A s H locs D g ad z [] [jTp g ad xq9 xl9 xf9] → jl_has ls 9 [(0, .ref (ad 0)), (2, .int v2), (3, jv ad 1 v3), (4, .ref xq9), (5, .int v5), (6, .int v6)] → c22 v2 v3 v5 v6 xl9 xf9 = some (o, uc, us) → cells + uc = mc → slots + us = ms → W p l e (rm_X8_first (d + 1) mc ms) s mm args below meth c H locs cells slots (jGq below args s D g A (fun a => a = ad) 1 o z mc ms) (F0 mm 22 ls [])) {v2 : Int32} {v3 : Int32} {v5 : Int32} {v6 : Int32} {v7 : Int32} {xq9 : Nat} {xl9 : Int32} {xf9 : Nat → Int32} {H : Heap} {locs : List Loc} {ls : Array Slot} {cells slots mc ms uc us : Nat} {o : Int32} (hH : jH A s H locs D g ad z [] [jTp g ad xq9 xl9 xf9]) (hl : jl_has ls 9 [(0, .ref (ad 0)), (2, .int v2), (3, jv ad 1 v3), (4, .ref xq9), (5, .int v5), (6, .int v6), (7, jv ad 1 v7)]) (hf : F_X8_first_44 self z c22 v2 v3 v5 v6 v7 xl9 xf9 = some (o, uc, us)) (hc : cells + uc = mc) (hs : slots + us = ms) : W p l e (rm_X8_first (d + 1) mc ms) s mm args below meth c H locs cells slots (jGq below args s D g A (fun a => a = ad) 1 o z mc ms) (F0 mm 44 ls []) := by
  have hx := V.1
  have hb := V.2.1
  refine jl_aload hx hb dX8_first_44 (lv_at hl.1 6 rfl) ?_
  refine jl_aload_n hx hb dX8_first_46 rfl (lv_at hl.1 2 rfl) ?_
  obtain ⟨h44_1, hf⟩ := kif hf
  obtain ⟨h44_2, hf⟩ := kif hf
  refine jl_acmp_eq1 V hH (tgt := 55) h44_1 h44_2 dX8_first_47 (by decide) (fun hq => ?_) (fun hq => ?_)
  · have hf := kpos hq hf
    exact w_X8_first_55 V hA hself hk22 hH (jl_sub hl [0, 1, 2, 3, 4, 5, 6] rfl) hf hc hs
  · have hf := kneg hq hf
    exact w_X8_first_50 V hA hself hk22 hH (jl_sub hl [0, 1, 2, 3, 4, 5, 6] rfl) hf hc hs
set_option maxHeartbeats 4000000 in
set_option maxRecDepth 100000 in
theorem w_X8_first_29 (V : jV p s mm args meth c cX8_first RX8 9 (some (.object "KingTiesLaw$Person")) D g) (hA : ∀ q, s.heap.size ≤ q → A q) {d : Nat} {self : Int32 → Int32 → Int32 → Option (Int32 × Nat × Nat)} (hself : ∀ (a1 a2 a3 : Int32) {r : Int32} {uc us : Nat}, self a1 a2 a3 = some (r, uc, us) → ∀ sz : Nat, Met l yX8_first (Cond.code yX8_first cX8_first 9 (some (.object "KingTiesLaw$Person")) :: kWA) (rm_X8_first d uc us) (jP [.ref (ad 0), jv ad 1 a1, .int a2, jv ad 1 a3] D g ad z sz) (jQq 1 r (fun a => a = ad) D g (va_A (jC g ad z) sz) z) uc us (va_A (jC g ad z) sz)) {c22 : Int32 → Int32 → Int32 → Int32 → Int32 → (Nat → Int32) → Option (Int32 × Nat × Nat)} (hk22 : ∀ {v2 : Int32} {v3 : Int32} {v5 : Int32} {v6 : Int32} {xq9 : Nat} {xl9 : Int32} {xf9 : Nat → Int32} {H : Heap} {locs : List Loc} {ls : Array Slot} {cells slots mc ms uc us : Nat} {o : Int32}, jH A s H locs D g ad z [] [jTp g ad xq9 xl9 xf9] → jl_has ls 9 [(0, .ref (ad 0)), (2, .int v2), (3, jv ad 1 v3), (4, .ref xq9), (5, .int v5), (6, .int v6)] → c22 v2 v3 v5 v6 xl9 xf9 = some (o, uc, us) → cells + uc = mc → slots + us = ms → W p l e (rm_X8_first (d + 1) mc ms) s mm args below meth c H locs cells slots (jGq below args s D g A (fun a => a = ad) 1 o z mc ms) (F0 mm 22 ls [])) {v2 : Int32} {v3 : Int32} {v5 : Int32} {v6 : Int32} {xq9 : Nat} {xl9 : Int32} {xf9 : Nat → Int32} {H : Heap} {locs : List Loc} {ls : Array Slot} {cells slots mc ms uc us : Nat} {o : Int32} (hH : jH A s H locs D g ad z [] [jTp g ad xq9 xl9 xf9]) (hl : jl_has ls 9 [(0, .ref (ad 0)), (2, .int v2), (3, jv ad 1 v3), (4, .ref xq9), (5, .int v5), (6, .int v6)]) (hf : F_X8_first_29 self z c22 v2 v3 v5 v6 xl9 xf9 = some (o, uc, us)) (hc : cells + uc = mc) (hs : slots + us = ms) : W p l e (rm_X8_first (d + 1) mc ms) s mm args below meth c H locs cells slots (jGq below args s D g A (fun a => a = ad) 1 o z mc ms) (F0 mm 29 ls []) := by
  have hx := V.1
  have hb := V.2.1
  refine lv_aload hx hb dX8_first_29 (lv_at hl.1 3 rfl) ?_
  refine lv_iload hx hb dX8_first_31 (lv_at hl.1 5 rfl) ?_
  obtain ⟨h29_1, hf⟩ := kif hf
  refine jt_aldp V hH 0 rfl h29_1 dX8_first_33 ?_
  refine jl_astore (lv' := [(7, jv ad 1 (xf9 v6.toNatClampNeg)), (0, .ref (ad 0)), (2, .int v2), (3, jv ad 1 v3), (4, .ref xq9), (5, .int v5), (6, .int v6)]) hx hb dX8_first_34 hl (by decide) rfl (fun ls hl => ?_)
  refine jl_aload hx hb dX8_first_36 (lv_at hl.1 0 rfl) ?_
  obtain ⟨h29_2, hf⟩ := kif hf
  refine jg_P V hH h29_2 3 (by decide) kf_X8_93 rfl dX8_first_38 ?_
  refine lv_if_ge (tgt := 55) hx hb dX8_first_41 (by decide) (fun hq => ?_) (fun hq => ?_)
  · have hf := kpos hq hf
    exact w_X8_first_55 V hA hself hk22 hH (jl_sub hl [1, 2, 3, 4, 5, 6, 0] rfl) hf hc hs
  · have hf := kneg hq hf
    exact w_X8_first_44 V hA hself hk22 hH (jl_sub hl [1, 2, 3, 4, 5, 6, 0] rfl) hf hc hs
set_option maxHeartbeats 4000000 in
set_option maxRecDepth 100000 in
theorem w_X8_first_79 (V : jV p s mm args meth c cX8_first RX8 9 (some (.object "KingTiesLaw$Person")) D g) (hA : ∀ q, s.heap.size ≤ q → A q) {d : Nat} {self : Int32 → Int32 → Int32 → Option (Int32 × Nat × Nat)} (hself : ∀ (a1 a2 a3 : Int32) {r : Int32} {uc us : Nat}, self a1 a2 a3 = some (r, uc, us) → ∀ sz : Nat, Met l yX8_first (Cond.code yX8_first cX8_first 9 (some (.object "KingTiesLaw$Person")) :: kWA) (rm_X8_first d uc us) (jP [.ref (ad 0), jv ad 1 a1, .int a2, jv ad 1 a3] D g ad z sz) (jQq 1 r (fun a => a = ad) D g (va_A (jC g ad z) sz) z) uc us (va_A (jC g ad z) sz)) {H : Heap} {locs : List Loc} {ls : Array Slot} {cells slots mc ms uc us : Nat} {o : Int32} (hH : jH A s H locs D g ad z [] []) (hl : jl_has ls 9 []) (hf : F_X8_first_79 self z = some (o, uc, us)) (hc : cells + uc = mc) (hs : slots + us = ms) : W p l e (rm_X8_first (d + 1) mc ms) s mm args below meth c H locs cells slots (jGq below args s D g A (fun a => a = ad) 1 o z mc ms) (F0 mm 79 ls []) := by
  have hx := V.1
  have hb := V.2.1
  refine jl_null (ad := ad) hx hb 1 dX8_first_79 ?_
  cases hf
  subst hc
  subst hs
  exact je_qret (G := fun a => a = ad) V rfl hH dX8_first_80
set_option maxHeartbeats 4000000 in
set_option maxRecDepth 100000 in
theorem w_X8_first_22 (V : jV p s mm args meth c cX8_first RX8 9 (some (.object "KingTiesLaw$Person")) D g) (hA : ∀ q, s.heap.size ≤ q → A q) {d : Nat} {self : Int32 → Int32 → Int32 → Option (Int32 × Nat × Nat)} (hself : ∀ (a1 a2 a3 : Int32) {r : Int32} {uc us : Nat}, self a1 a2 a3 = some (r, uc, us) → ∀ sz : Nat, Met l yX8_first (Cond.code yX8_first cX8_first 9 (some (.object "KingTiesLaw$Person")) :: kWA) (rm_X8_first d uc us) (jP [.ref (ad 0), jv ad 1 a1, .int a2, jv ad 1 a3] D g ad z sz) (jQq 1 r (fun a => a = ad) D g (va_A (jC g ad z) sz) z) uc us (va_A (jC g ad z) sz)) : ∀ (n : Nat) {v2 : Int32} {v3 : Int32} {v5 : Int32} {v6 : Int32} {xq9 : Nat} {xl9 : Int32} {xf9 : Nat → Int32} {H : Heap} {locs : List Loc} {ls : Array Slot} {cells slots mc ms uc us : Nat} {o : Int32}, jH A s H locs D g ad z [] [jTp g ad xq9 xl9 xf9] → jl_has ls 9 [(0, .ref (ad 0)), (2, .int v2), (3, jv ad 1 v3), (4, .ref xq9), (5, .int v5), (6, .int v6)] → F_X8_first_22 self z n v2 v3 v5 v6 xl9 xf9 = some (o, uc, us) → cells + uc = mc → slots + us = ms → W p l e (rm_X8_first (d + 1) mc ms) s mm args below meth c H locs cells slots (jGq below args s D g A (fun a => a = ad) 1 o z mc ms) (F0 mm 22 ls []) := by
  have hx := V.1
  have hb := V.2.1
  intro n
  induction n with
  | zero => intro _ _ _ _ _ _ _ _ _ _ _ _ _ _ _ _ _ hH hl hf hc hs; cases hf
  | succ n hk22 =>
    intro v2 v3 v5 v6 xq9 xl9 xf9 H locs ls cells slots mc ms uc us o hH hl hf hc hs
    refine lv_iload hx hb dX8_first_22 (lv_at hl.1 5 rfl) ?_
    refine lv_iload hx hb dX8_first_24 (lv_at hl.1 4 rfl) ?_
    refine lv_icmp_ge (tgt := 79) hx hb dX8_first_26 (by decide) (fun hq => ?_) (fun hq => ?_)
    · have hf := kpos hq hf
      exact w_X8_first_79 V hA hself (jH_sub hH [] (by decide) rfl) (jl_sub hl [] rfl) hf hc hs
    · have hf := kneg hq hf
      exact w_X8_first_29 V hA hself hk22 hH (jl_sub hl [0, 1, 2, 3, 4, 5] rfl) hf hc hs
set_option maxHeartbeats 4000000 in
set_option maxRecDepth 100000 in
theorem w_X8_first_6 (V : jV p s mm args meth c cX8_first RX8 9 (some (.object "KingTiesLaw$Person")) D g) (hA : ∀ q, s.heap.size ≤ q → A q) {d : Nat} {self : Int32 → Int32 → Int32 → Option (Int32 × Nat × Nat)} (hself : ∀ (a1 a2 a3 : Int32) {r : Int32} {uc us : Nat}, self a1 a2 a3 = some (r, uc, us) → ∀ sz : Nat, Met l yX8_first (Cond.code yX8_first cX8_first 9 (some (.object "KingTiesLaw$Person")) :: kWA) (rm_X8_first d uc us) (jP [.ref (ad 0), jv ad 1 a1, .int a2, jv ad 1 a3] D g ad z sz) (jQq 1 r (fun a => a = ad) D g (va_A (jC g ad z) sz) z) uc us (va_A (jC g ad z) sz)) {v1 : Int32} {v2 : Int32} {v3 : Int32} {H : Heap} {locs : List Loc} {ls : Array Slot} {cells slots mc ms uc us : Nat} {o : Int32} (hH : jH A s H locs D g ad z [] []) (hl : jl_has ls 9 [(0, .ref (ad 0)), (1, jv ad 1 v1), (2, .int v2), (3, jv ad 1 v3)]) (hf : F_X8_first_6 self z v1 v2 v3 = some (o, uc, us)) (hc : cells + uc = mc) (hs : slots + us = ms) : W p l e (rm_X8_first (d + 1) mc ms) s mm args below meth c H locs cells slots (jGq below args s D g A (fun a => a = ad) 1 o z mc ms) (F0 mm 6 ls []) := by
  have hx := V.1
  have hb := V.2.1
  refine lv_aload_n hx hb dX8_first_6 rfl (lv_at hl.1 0 rfl) ?_
  refine jl_aload_n hx hb dX8_first_7 rfl (lv_at hl.1 1 rfl) ?_
  refine lv_iload_n hx hb dX8_first_8 rfl (lv_at hl.1 2 rfl) ?_
  obtain ⟨x6_1, hx6_1, hf⟩ := kbind hf
  obtain ⟨uc6_2, us6_3, hf, e1, e2⟩ := kadd_some2 hf
  have e1 : uc = x6_1.2.1 + uc6_2 := e1
  have e2 : us = x6_1.2.2 + us6_3 := e2
  have hc : cells + x6_1.2.1 + uc6_2 = mc := by rw [Nat.add_assoc, ← e1]; exact hc
  have hs : slots + x6_1.2.2 + us6_3 = ms := by rw [Nat.add_assoc, ← e2]; exact hs
  have lc : cells + x6_1.2.1 ≤ mc := Nat.le.intro hc
  have ls2 : slots + x6_1.2.2 ≤ ms := Nat.le.intro hs
  refine jr_callr hA hH (jr_runV (as := [jv ad 1 v1, .int v2]) (rest := []) V hH kYX8_row kl_X8_89 (c_X8_row l _ _ hx6_1 _) rfl rfl ⟨by show _ ≤ d + 1 + _; refine Nat.le_trans (Nat.le_of_ble_eq_true rfl) (Nat.le_add_left _ (d + 1)), by show _ ≤ (d + 1) * _ + _; refine Nat.le_trans (Nat.le_of_ble_eq_true rfl) (Nat.le_add_left _ _)⟩ rfl hl.1.1 (Nat.le_of_ble_eq_true rfl) dX8_first_9 ⟨lc, ls2⟩ rfl) (fun xq9 H locs hH => ?_)
  refine jl_astore (o := some xq9) (lv' := [(4, .ref xq9), (0, .ref (ad 0)), (1, jv ad 1 v1), (2, .int v2), (3, jv ad 1 v3)]) hx hb dX8_first_12 hl (by decide) rfl (fun ls hl => ?_)
  refine lv_aload hx hb dX8_first_14 (lv_at hl.1 0 rfl) ?_
  refine jt_alenp V hH 0 rfl dX8_first_16 ?_
  refine jl_istore (lv' := [(5, .int (nI x6_1.1.1.toNatClampNeg)), (4, .ref xq9), (0, .ref (ad 0)), (1, jv ad 1 v1), (2, .int v2), (3, jv ad 1 v3)]) hx hb dX8_first_17 hl (by decide) rfl (fun ls hl => ?_)
  refine lv_iconst (v := 0) hx hb dX8_first_19 (by decide) ?_
  refine jl_istore (lv' := [(6, .int 0), (5, .int (nI x6_1.1.1.toNatClampNeg)), (4, .ref xq9), (0, .ref (ad 0)), (1, jv ad 1 v1), (2, .int v2), (3, jv ad 1 v3)]) hx hb dX8_first_20 hl (by decide) rfl (fun ls hl => ?_)
  exact w_X8_first_22 V hA hself kN hH (jl_sub hl [3, 5, 6, 2, 1, 0] rfl) hf hc hs
set_option maxHeartbeats 4000000 in
set_option maxRecDepth 100000 in
theorem w_X8_first_0 (V : jV p s mm args meth c cX8_first RX8 9 (some (.object "KingTiesLaw$Person")) D g) (hA : ∀ q, s.heap.size ≤ q → A q) {d : Nat} {self : Int32 → Int32 → Int32 → Option (Int32 × Nat × Nat)} (hself : ∀ (a1 a2 a3 : Int32) {r : Int32} {uc us : Nat}, self a1 a2 a3 = some (r, uc, us) → ∀ sz : Nat, Met l yX8_first (Cond.code yX8_first cX8_first 9 (some (.object "KingTiesLaw$Person")) :: kWA) (rm_X8_first d uc us) (jP [.ref (ad 0), jv ad 1 a1, .int a2, jv ad 1 a3] D g ad z sz) (jQq 1 r (fun a => a = ad) D g (va_A (jC g ad z) sz) z) uc us (va_A (jC g ad z) sz)) {v1 : Int32} {v2 : Int32} {v3 : Int32} {H : Heap} {locs : List Loc} {ls : Array Slot} {cells slots mc ms uc us : Nat} {o : Int32} (hH : jH A s H locs D g ad z [] []) (hl : jl_has ls 9 [(0, .ref (ad 0)), (1, jv ad 1 v1), (2, .int v2), (3, jv ad 1 v3)]) (hf : F_X8_first_0 self z v1 v2 v3 = some (o, uc, us)) (hc : cells + uc = mc) (hs : slots + us = ms) : W p l e (rm_X8_first (d + 1) mc ms) s mm args below meth c H locs cells slots (jGq below args s D g A (fun a => a = ad) 1 o z mc ms) (F0 mm 0 ls []) := by
  have hx := V.1
  have hb := V.2.1
  refine jl_aload_n hx hb dX8_first_0 rfl (lv_at hl.1 1 rfl) ?_
  refine jl_ifnonnull (tgt := 6) hx hb dX8_first_1 (by decide) (fun hq => ?_) (fun hq => ?_)
  · have hf := kneg hq hf
    exact w_X8_first_6 V hA hself hH (jl_sub hl [0, 1, 2, 3] rfl) hf hc hs
  · have hf := kpos hq hf
    exact w_X8_first_4 V hA hself hH (jl_sub hl [] rfl) hf hc hs
set_option maxHeartbeats 4000000 in
set_option maxRecDepth 100000 in
theorem c_X8_first (l : Launch) {D : va_G} {g : Nat → ClassId} {ad : Nat → Nat} {z : kS} : ∀ (d : Nat) (v1 : Int32) (v2 : Int32) (v3 : Int32) {o : Int32} {mc ms : Nat}, F_X8_first z d v1 v2 v3 = some (o, mc, ms) → ∀ sz : Nat, Met l yX8_first (Cond.code yX8_first cX8_first 9 (some (.object "KingTiesLaw$Person")) :: kWA) (rm_X8_first d mc ms) (jP [.ref (ad 0), jv ad 1 v1, .int v2, jv ad 1 v3] D g ad z sz) (jQq 1 o (fun a => a = ad) D g (va_A (jC g ad z) sz) z) mc ms (va_A (jC g ad z) sz) := by
  intro d
  induction d with
  | zero => intro v1 v2 v3 o mc ms hf; cases hf
  | succ d ih =>
    intro v1 v2 v3 o mc ms hf sz
    refine j_met (as := [.ref (ad 0), jv ad 1 v1, .int v2, jv ad 1 v3]) (bytes := cX8_first) (maxL := 9) (rt := (some (.object "KingTiesLaw$Person"))) (lv := [(0, .ref (ad 0)), (1, jv ad 1 v1), (2, .int v2), (3, jv ad 1 v3)]) (by decide +kernel) (by simp [lg_sl, jcatv, jcati, jcatr]) (by simp [lv_args, jcatv, jcati, jcatr]) (by simp [jcatv, jcati, jcatr]) (fun p e s mm below meth c ls hsz V hA hH hl => ?_)
    exact w_X8_first_0 V hA (fun a1 a2 a3 r uc us h sz => ih a1 a2 a3 h sz) hH (jl_sub hl [0, 1, 2, 3] rfl) hf (Nat.zero_add _) (Nat.zero_add _)
end
section
variable {p : Program} {l : Launch} {e : Env} {s : State} {mm : MethodId} {args : Array Value} {below : List Frame} {meth : Method} {c : Code} {D : va_G} {g : Nat → ClassId} {A : Nat → Prop}
variable {ad : Nat → Nat}
variable {z : kS}
abbrev rm_X8_heir (mc ms : Nat) : Room := { frames := 49, cells := mc, slots := ms, locals := 1360 }
set_option maxHeartbeats 4000000 in
set_option maxRecDepth 100000 in
theorem w_X8_heir_78 (V : jV p s mm args meth c cX8_heir RX8 8 (some (.object "KingTiesLaw$Person")) D g) (hA : ∀ q, s.heap.size ≤ q → A q) {c21 : Int32 → Int32 → Int32 → Int32 → Option (Int32 × Nat × Nat)} (hk21 : ∀ {v1 : Int32} {v3 : Int32} {v5 : Int32} {v6 : Int32} {H : Heap} {locs : List Loc} {ls : Array Slot} {cells slots mc ms uc us : Nat} {o : Int32}, jH A s H locs D g ad z [] [] → jl_has ls 8 [(0, .ref (ad 0)), (1, jv ad 1 v1), (3, jv ad 1 v3), (4, .ref (ad 4)), (5, .int v5), (6, .int v6)] → c21 v1 v3 v5 v6 = some (o, uc, us) → cells + uc = mc → slots + us = ms → W p l e (rm_X8_heir mc ms) s mm args below meth c H locs cells slots (jGq below args s D g A (fun a => a = ad) 1 o z mc ms) (F0 mm 21 ls [])) {v1 : Int32} {v3 : Int32} {v5 : Int32} {v6 : Int32} {H : Heap} {locs : List Loc} {ls : Array Slot} {cells slots mc ms uc us : Nat} {o : Int32} (hH : jH A s H locs D g ad z [] []) (hl : jl_has ls 8 [(0, .ref (ad 0)), (1, jv ad 1 v1), (3, jv ad 1 v3), (4, .ref (ad 4)), (5, .int v5), (6, .int v6)]) (hf : F_X8_heir_78 z c21 v1 v3 v5 v6 = some (o, uc, us)) (hc : cells + uc = mc) (hs : slots + us = ms) : W p l e (rm_X8_heir mc ms) s mm args below meth c H locs cells slots (jGq below args s D g A (fun a => a = ad) 1 o z mc ms) (F0 mm 78 ls []) := by
  have hx := V.1
  have hb := V.2.1
  refine jl_iinc (v := (v6 + 1)) (lv' := [(6, .int (v6 + 1)), (0, .ref (ad 0)), (1, jv ad 1 v1), (3, jv ad 1 v3), (4, .ref (ad 4)), (5, .int v5)]) hx hb dX8_heir_78 hl (k := 5) rfl rfl (by decide) rfl (fun ls hl => ?_)
  refine lv_goto (tgt := 21) hx hb dX8_heir_81 (by decide) ?_
  exact hk21 hH (jl_sub hl [1, 2, 3, 4, 5, 0] rfl) hf hc hs
set_option maxHeartbeats 4000000 in
set_option maxRecDepth 100000 in
theorem w_X8_heir_75 (V : jV p s mm args meth c cX8_heir RX8 8 (some (.object "KingTiesLaw$Person")) D g) (hA : ∀ q, s.heap.size ≤ q → A q) {c21 : Int32 → Int32 → Int32 → Int32 → Option (Int32 × Nat × Nat)} (hk21 : ∀ {v1 : Int32} {v3 : Int32} {v5 : Int32} {v6 : Int32} {H : Heap} {locs : List Loc} {ls : Array Slot} {cells slots mc ms uc us : Nat} {o : Int32}, jH A s H locs D g ad z [] [] → jl_has ls 8 [(0, .ref (ad 0)), (1, jv ad 1 v1), (3, jv ad 1 v3), (4, .ref (ad 4)), (5, .int v5), (6, .int v6)] → c21 v1 v3 v5 v6 = some (o, uc, us) → cells + uc = mc → slots + us = ms → W p l e (rm_X8_heir mc ms) s mm args below meth c H locs cells slots (jGq below args s D g A (fun a => a = ad) 1 o z mc ms) (F0 mm 21 ls [])) {v1 : Int32} {v5 : Int32} {v6 : Int32} {v7 : Int32} {H : Heap} {locs : List Loc} {ls : Array Slot} {cells slots mc ms uc us : Nat} {o : Int32} (hH : jH A s H locs D g ad z [] []) (hl : jl_has ls 8 [(0, .ref (ad 0)), (1, jv ad 1 v1), (4, .ref (ad 4)), (5, .int v5), (6, .int v6), (7, jv ad 1 v7)]) (hf : F_X8_heir_75 z c21 v1 v5 v6 v7 = some (o, uc, us)) (hc : cells + uc = mc) (hs : slots + us = ms) : W p l e (rm_X8_heir mc ms) s mm args below meth c H locs cells slots (jGq below args s D g A (fun a => a = ad) 1 o z mc ms) (F0 mm 75 ls []) := by
  have hx := V.1
  have hb := V.2.1
  refine jl_aload hx hb dX8_heir_75 (lv_at hl.1 5 rfl) ?_
  refine jl_astore_n (lv' := [(3, jv ad 1 v7), (0, .ref (ad 0)), (1, jv ad 1 v1), (4, .ref (ad 4)), (5, .int v5), (6, .int v6), (7, jv ad 1 v7)]) hx hb dX8_heir_77 rfl hl (by decide) rfl (fun ls hl => ?_)
  exact w_X8_heir_78 V hA hk21 hH (jl_sub hl [1, 2, 0, 3, 4, 5] rfl) hf hc hs
set_option maxHeartbeats 4000000 in
set_option maxRecDepth 100000 in
theorem w_X8_heir_66 (V : jV p s mm args meth c cX8_heir RX8 8 (some (.object "KingTiesLaw$Person")) D g) (hA : ∀ q, s.heap.size ≤ q → A q) {c21 : Int32 → Int32 → Int32 → Int32 → Option (Int32 × Nat × Nat)} (hk21 : ∀ {v1 : Int32} {v3 : Int32} {v5 : Int32} {v6 : Int32} {H : Heap} {locs : List Loc} {ls : Array Slot} {cells slots mc ms uc us : Nat} {o : Int32}, jH A s H locs D g ad z [] [] → jl_has ls 8 [(0, .ref (ad 0)), (1, jv ad 1 v1), (3, jv ad 1 v3), (4, .ref (ad 4)), (5, .int v5), (6, .int v6)] → c21 v1 v3 v5 v6 = some (o, uc, us) → cells + uc = mc → slots + us = ms → W p l e (rm_X8_heir mc ms) s mm args below meth c H locs cells slots (jGq below args s D g A (fun a => a = ad) 1 o z mc ms) (F0 mm 21 ls [])) {v1 : Int32} {v3 : Int32} {v5 : Int32} {v6 : Int32} {v7 : Int32} {H : Heap} {locs : List Loc} {ls : Array Slot} {cells slots mc ms uc us : Nat} {o : Int32} (hH : jH A s H locs D g ad z [] []) (hl : jl_has ls 8 [(0, .ref (ad 0)), (1, jv ad 1 v1), (3, jv ad 1 v3), (4, .ref (ad 4)), (5, .int v5), (6, .int v6), (7, jv ad 1 v7)]) (hf : F_X8_heir_66 z c21 v1 v3 v5 v6 v7 = some (o, uc, us)) (hc : cells + uc = mc) (hs : slots + us = ms) : W p l e (rm_X8_heir mc ms) s mm args below meth c H locs cells slots (jGq below args s D g A (fun a => a = ad) 1 o z mc ms) (F0 mm 66 ls []) := by
  have hx := V.1
  have hb := V.2.1
  refine jl_aload hx hb dX8_heir_66 (lv_at hl.1 6 rfl) ?_
  refine jl_aload_n hx hb dX8_heir_68 rfl (lv_at hl.1 2 rfl) ?_
  obtain ⟨x66_1, hx66_1, hf⟩ := kbind hf
  refine jr_calliR0 hA hH (jr_runS (as := [jv ad 1 v7, jv ad 1 v3]) (rest := []) V hH kYX8_isBefore kl_X8_85 (c_X8_isBefore l _ _ hx66_1 _) rfl rfl ⟨Nat.le_of_ble_eq_true rfl, Nat.le_of_ble_eq_true rfl⟩ rfl hl.1.1 (Nat.le_of_ble_eq_true rfl) dX8_heir_69 ⟨by show cells + 0 ≤ mc; omega, by show slots + 0 ≤ ms; omega⟩ rfl) (fun H locs hH => ?_)
  refine lv_if_eq (tgt := 78) hx hb dX8_heir_72 (by decide) (fun hq => ?_) (fun hq => ?_)
  · have hf := kpos hq hf
    exact w_X8_heir_78 V hA hk21 hH (jl_sub hl [0, 1, 2, 3, 4, 5] rfl) hf hc hs
  · have hf := kneg hq hf
    exact w_X8_heir_75 V hA hk21 hH (jl_sub hl [0, 1, 3, 4, 5, 6] rfl) hf hc hs
set_option maxHeartbeats 4000000 in
set_option maxRecDepth 100000 in
theorem w_X8_heir_62 (V : jV p s mm args meth c cX8_heir RX8 8 (some (.object "KingTiesLaw$Person")) D g) (hA : ∀ q, s.heap.size ≤ q → A q) {c21 : Int32 → Int32 → Int32 → Int32 → Option (Int32 × Nat × Nat)} (hk21 : ∀ {v1 : Int32} {v3 : Int32} {v5 : Int32} {v6 : Int32} {H : Heap} {locs : List Loc} {ls : Array Slot} {cells slots mc ms uc us : Nat} {o : Int32}, jH A s H locs D g ad z [] [] → jl_has ls 8 [(0, .ref (ad 0)), (1, jv ad 1 v1), (3, jv ad 1 v3), (4, .ref (ad 4)), (5, .int v5), (6, .int v6)] → c21 v1 v3 v5 v6 = some (o, uc, us) → cells + uc = mc → slots + us = ms → W p l e (rm_X8_heir mc ms) s mm args below meth c H locs cells slots (jGq below args s D g A (fun a => a = ad) 1 o z mc ms) (F0 mm 21 ls [])) {v1 : Int32} {v3 : Int32} {v5 : Int32} {v6 : Int32} {v7 : Int32} {H : Heap} {locs : List Loc} {ls : Array Slot} {cells slots mc ms uc us : Nat} {o : Int32} (hH : jH A s H locs D g ad z [] []) (hl : jl_has ls 8 [(0, .ref (ad 0)), (1, jv ad 1 v1), (3, jv ad 1 v3), (4, .ref (ad 4)), (5, .int v5), (6, .int v6), (7, jv ad 1 v7)]) (hf : F_X8_heir_62 z c21 v1 v3 v5 v6 v7 = some (o, uc, us)) (hc : cells + uc = mc) (hs : slots + us = ms) : W p l e (rm_X8_heir mc ms) s mm args below meth c H locs cells slots (jGq below args s D g A (fun a => a = ad) 1 o z mc ms) (F0 mm 62 ls []) := by
  have hx := V.1
  have hb := V.2.1
  refine jl_aload_n hx hb dX8_heir_62 rfl (lv_at hl.1 2 rfl) ?_
  refine jl_ifnull (tgt := 75) hx hb dX8_heir_63 (by decide) (fun hq => ?_) (fun hq => ?_)
  · have hf := kpos hq hf
    exact w_X8_heir_75 V hA hk21 hH (jl_sub hl [0, 1, 3, 4, 5, 6] rfl) hf hc hs
  · have hf := kneg hq hf
    exact w_X8_heir_66 V hA hk21 hH (jl_sub hl [0, 1, 2, 3, 4, 5, 6] rfl) hf hc hs
set_option maxHeartbeats 4000000 in
set_option maxRecDepth 100000 in
theorem w_X8_heir_49 (V : jV p s mm args meth c cX8_heir RX8 8 (some (.object "KingTiesLaw$Person")) D g) (hA : ∀ q, s.heap.size ≤ q → A q) {c21 : Int32 → Int32 → Int32 → Int32 → Option (Int32 × Nat × Nat)} (hk21 : ∀ {v1 : Int32} {v3 : Int32} {v5 : Int32} {v6 : Int32} {H : Heap} {locs : List Loc} {ls : Array Slot} {cells slots mc ms uc us : Nat} {o : Int32}, jH A s H locs D g ad z [] [] → jl_has ls 8 [(0, .ref (ad 0)), (1, jv ad 1 v1), (3, jv ad 1 v3), (4, .ref (ad 4)), (5, .int v5), (6, .int v6)] → c21 v1 v3 v5 v6 = some (o, uc, us) → cells + uc = mc → slots + us = ms → W p l e (rm_X8_heir mc ms) s mm args below meth c H locs cells slots (jGq below args s D g A (fun a => a = ad) 1 o z mc ms) (F0 mm 21 ls [])) {v1 : Int32} {v3 : Int32} {v5 : Int32} {v6 : Int32} {v7 : Int32} {H : Heap} {locs : List Loc} {ls : Array Slot} {cells slots mc ms uc us : Nat} {o : Int32} (hH : jH A s H locs D g ad z [] []) (hl : jl_has ls 8 [(0, .ref (ad 0)), (1, jv ad 1 v1), (3, jv ad 1 v3), (4, .ref (ad 4)), (5, .int v5), (6, .int v6), (7, jv ad 1 v7)]) (hf : F_X8_heir_49 z c21 v1 v3 v5 v6 v7 = some (o, uc, us)) (hc : cells + uc = mc) (hs : slots + us = ms) : W p l e (rm_X8_heir mc ms) s mm args below meth c H locs cells slots (jGq below args s D g A (fun a => a = ad) 1 o z mc ms) (F0 mm 49 ls []) := by
  have hx := V.1
  have hb := V.2.1
  refine lv_aload_n hx hb dX8_heir_49 rfl (lv_at hl.1 0 rfl) ?_
  refine jl_aload hx hb dX8_heir_50 (lv_at hl.1 6 rfl) ?_
  refine jl_aload_n hx hb dX8_heir_52 rfl (lv_at hl.1 1 rfl) ?_
  obtain ⟨x49_1, hx49_1, hf⟩ := kbind hf
  refine jr_calliR0 hA hH (jr_runV (as := [jv ad 1 v7, jv ad 1 v1]) (rest := []) V hH kYX8_related kl_X8_100 (c_X8_related l _ _ hx49_1 _) rfl rfl ⟨Nat.le_of_ble_eq_true rfl, Nat.le_of_ble_eq_true rfl⟩ rfl hl.1.1 (Nat.le_of_ble_eq_true rfl) dX8_heir_53 ⟨by show cells + 0 ≤ mc; omega, by show slots + 0 ≤ ms; omega⟩ rfl) (fun H locs hH => ?_)
  refine lv_sipush (v := 1000) hx hb dX8_heir_56 (by decide) ?_
  refine lv_icmp_ge (tgt := 78) hx hb dX8_heir_59 (by decide) (fun hq => ?_) (fun hq => ?_)
  · have hf := kpos hq hf
    exact w_X8_heir_78 V hA hk21 hH (jl_sub hl [0, 1, 2, 3, 4, 5] rfl) hf hc hs
  · have hf := kneg hq hf
    exact w_X8_heir_62 V hA hk21 hH (jl_sub hl [0, 1, 2, 3, 4, 5, 6] rfl) hf hc hs
set_option maxHeartbeats 4000000 in
set_option maxRecDepth 100000 in
theorem w_X8_heir_41 (V : jV p s mm args meth c cX8_heir RX8 8 (some (.object "KingTiesLaw$Person")) D g) (hA : ∀ q, s.heap.size ≤ q → A q) {c21 : Int32 → Int32 → Int32 → Int32 → Option (Int32 × Nat × Nat)} (hk21 : ∀ {v1 : Int32} {v3 : Int32} {v5 : Int32} {v6 : Int32} {H : Heap} {locs : List Loc} {ls : Array Slot} {cells slots mc ms uc us : Nat} {o : Int32}, jH A s H locs D g ad z [] [] → jl_has ls 8 [(0, .ref (ad 0)), (1, jv ad 1 v1), (3, jv ad 1 v3), (4, .ref (ad 4)), (5, .int v5), (6, .int v6)] → c21 v1 v3 v5 v6 = some (o, uc, us) → cells + uc = mc → slots + us = ms → W p l e (rm_X8_heir mc ms) s mm args below meth c H locs cells slots (jGq below args s D g A (fun a => a = ad) 1 o z mc ms) (F0 mm 21 ls [])) {v1 : Int32} {v3 : Int32} {v5 : Int32} {v6 : Int32} {v7 : Int32} {H : Heap} {locs : List Loc} {ls : Array Slot} {cells slots mc ms uc us : Nat} {o : Int32} (hH : jH A s H locs D g ad z [] []) (hl : jl_has ls 8 [(0, .ref (ad 0)), (1, jv ad 1 v1), (3, jv ad 1 v3), (4, .ref (ad 4)), (5, .int v5), (6, .int v6), (7, jv ad 1 v7)]) (hf : F_X8_heir_41 z c21 v1 v3 v5 v6 v7 = some (o, uc, us)) (hc : cells + uc = mc) (hs : slots + us = ms) : W p l e (rm_X8_heir mc ms) s mm args below meth c H locs cells slots (jGq below args s D g A (fun a => a = ad) 1 o z mc ms) (F0 mm 41 ls []) := by
  have hx := V.1
  have hb := V.2.1
  refine jl_aload hx hb dX8_heir_41 (lv_at hl.1 6 rfl) ?_
  obtain ⟨h41_1, hf⟩ := kif hf
  refine jg_P V hH h41_1 3 (by decide) kf_X8_93 rfl dX8_heir_43 ?_
  refine lv_if_ge (tgt := 78) hx hb dX8_heir_46 (by decide) (fun hq => ?_) (fun hq => ?_)
  · have hf := kpos hq hf
    exact w_X8_heir_78 V hA hk21 hH (jl_sub hl [0, 1, 2, 3, 4, 5] rfl) hf hc hs
  · have hf := kneg hq hf
    exact w_X8_heir_49 V hA hk21 hH (jl_sub hl [0, 1, 2, 3, 4, 5, 6] rfl) hf hc hs
set_option maxHeartbeats 4000000 in
set_option maxRecDepth 100000 in
theorem w_X8_heir_28 (V : jV p s mm args meth c cX8_heir RX8 8 (some (.object "KingTiesLaw$Person")) D g) (hA : ∀ q, s.heap.size ≤ q → A q) {c21 : Int32 → Int32 → Int32 → Int32 → Option (Int32 × Nat × Nat)} (hk21 : ∀ {v1 : Int32} {v3 : Int32} {v5 : Int32} {v6 : Int32} {H : Heap} {locs : List Loc} {ls : Array Slot} {cells slots mc ms uc us : Nat} {o : Int32}, jH A s H locs D g ad z [] [] → jl_has ls 8 [(0, .ref (ad 0)), (1, jv ad 1 v1), (3, jv ad 1 v3), (4, .ref (ad 4)), (5, .int v5), (6, .int v6)] → c21 v1 v3 v5 v6 = some (o, uc, us) → cells + uc = mc → slots + us = ms → W p l e (rm_X8_heir mc ms) s mm args below meth c H locs cells slots (jGq below args s D g A (fun a => a = ad) 1 o z mc ms) (F0 mm 21 ls [])) {v1 : Int32} {v3 : Int32} {v5 : Int32} {v6 : Int32} {H : Heap} {locs : List Loc} {ls : Array Slot} {cells slots mc ms uc us : Nat} {o : Int32} (hH : jH A s H locs D g ad z [] []) (hl : jl_has ls 8 [(0, .ref (ad 0)), (1, jv ad 1 v1), (3, jv ad 1 v3), (4, .ref (ad 4)), (5, .int v5), (6, .int v6)]) (hf : F_X8_heir_28 z c21 v1 v3 v5 v6 = some (o, uc, us)) (hc : cells + uc = mc) (hs : slots + us = ms) : W p l e (rm_X8_heir mc ms) s mm args below meth c H locs cells slots (jGq below args s D g A (fun a => a = ad) 1 o z mc ms) (F0 mm 28 ls []) := by
  have hx := V.1
  have hb := V.2.1
  refine lv_aload hx hb dX8_heir_28 (lv_at hl.1 3 rfl) ?_
  refine lv_iload hx hb dX8_heir_30 (lv_at hl.1 5 rfl) ?_
  obtain ⟨h28_1, hf⟩ := kif hf
  refine jald_4 V hH h28_1 dX8_heir_32 ?_
  refine jl_astore (lv' := [(7, jv ad 1 (z 4 v6.toNatClampNeg)), (0, .ref (ad 0)), (1, jv ad 1 v1), (3, jv ad 1 v3), (4, .ref (ad 4)), (5, .int v5), (6, .int v6)]) hx hb dX8_heir_33 hl (by decide) rfl (fun ls hl => ?_)
  refine jl_aload hx hb dX8_heir_35 (lv_at hl.1 0 rfl) ?_
  refine jl_aload_n hx hb dX8_heir_37 rfl (lv_at hl.1 2 rfl) ?_
  obtain ⟨h28_2, hf⟩ := kif hf
  obtain ⟨h28_3, hf⟩ := kif hf
  refine jl_acmp_eq1 V hH (tgt := 78) h28_2 h28_3 dX8_heir_38 (by decide) (fun hq => ?_) (fun hq => ?_)
  · have hf := kpos hq hf
    exact w_X8_heir_78 V hA hk21 hH (jl_sub hl [1, 2, 3, 4, 5, 6] rfl) hf hc hs
  · have hf := kneg hq hf
    exact w_X8_heir_41 V hA hk21 hH (jl_sub hl [1, 2, 3, 4, 5, 6, 0] rfl) hf hc hs
set_option maxHeartbeats 4000000 in
set_option maxRecDepth 100000 in
theorem w_X8_heir_84 (V : jV p s mm args meth c cX8_heir RX8 8 (some (.object "KingTiesLaw$Person")) D g) (hA : ∀ q, s.heap.size ≤ q → A q) {v3 : Int32} {H : Heap} {locs : List Loc} {ls : Array Slot} {cells slots mc ms uc us : Nat} {o : Int32} (hH : jH A s H locs D g ad z [] []) (hl : jl_has ls 8 [(3, jv ad 1 v3)]) (hf : F_X8_heir_84 z v3 = some (o, uc, us)) (hc : cells + uc = mc) (hs : slots + us = ms) : W p l e (rm_X8_heir mc ms) s mm args below meth c H locs cells slots (jGq below args s D g A (fun a => a = ad) 1 o z mc ms) (F0 mm 84 ls []) := by
  have hx := V.1
  have hb := V.2.1
  refine jl_aload_n hx hb dX8_heir_84 rfl (lv_at hl.1 0 rfl) ?_
  cases hf
  subst hc
  subst hs
  exact je_qret (G := fun a => a = ad) V rfl hH dX8_heir_85
set_option maxHeartbeats 4000000 in
set_option maxRecDepth 100000 in
theorem w_X8_heir_21 (V : jV p s mm args meth c cX8_heir RX8 8 (some (.object "KingTiesLaw$Person")) D g) (hA : ∀ q, s.heap.size ≤ q → A q) : ∀ (n : Nat) {v1 : Int32} {v3 : Int32} {v5 : Int32} {v6 : Int32} {H : Heap} {locs : List Loc} {ls : Array Slot} {cells slots mc ms uc us : Nat} {o : Int32}, jH A s H locs D g ad z [] [] → jl_has ls 8 [(0, .ref (ad 0)), (1, jv ad 1 v1), (3, jv ad 1 v3), (4, .ref (ad 4)), (5, .int v5), (6, .int v6)] → F_X8_heir_21 z n v1 v3 v5 v6 = some (o, uc, us) → cells + uc = mc → slots + us = ms → W p l e (rm_X8_heir mc ms) s mm args below meth c H locs cells slots (jGq below args s D g A (fun a => a = ad) 1 o z mc ms) (F0 mm 21 ls []) := by
  have hx := V.1
  have hb := V.2.1
  intro n
  induction n with
  | zero => intro _ _ _ _ _ _ _ _ _ _ _ _ _ _ hH hl hf hc hs; cases hf
  | succ n hk21 =>
    intro v1 v3 v5 v6 H locs ls cells slots mc ms uc us o hH hl hf hc hs
    refine lv_iload hx hb dX8_heir_21 (lv_at hl.1 5 rfl) ?_
    refine lv_iload hx hb dX8_heir_23 (lv_at hl.1 4 rfl) ?_
    refine lv_icmp_ge (tgt := 84) hx hb dX8_heir_25 (by decide) (fun hq => ?_) (fun hq => ?_)
    · have hf := kpos hq hf
      exact w_X8_heir_84 V hA hH (jl_sub hl [2] rfl) hf hc hs
    · have hf := kneg hq hf
      exact w_X8_heir_28 V hA hk21 hH (jl_sub hl [0, 1, 2, 3, 4, 5] rfl) hf hc hs
set_option maxHeartbeats 4000000 in
set_option maxRecDepth 100000 in
theorem w_X8_heir_7 (V : jV p s mm args meth c cX8_heir RX8 8 (some (.object "KingTiesLaw$Person")) D g) (hA : ∀ q, s.heap.size ≤ q → A q) {v1 : Int32} {v3 : Int32} {H : Heap} {locs : List Loc} {ls : Array Slot} {cells slots mc ms uc us : Nat} {o : Int32} (hH : jH A s H locs D g ad z [] []) (hl : jl_has ls 8 [(0, .ref (ad 0)), (1, jv ad 1 v1), (3, jv ad 1 v3)]) (hf : F_X8_heir_7 z v1 v3 = some (o, uc, us)) (hc : cells + uc = mc) (hs : slots + us = ms) : W p l e (rm_X8_heir mc ms) s mm args below meth c H locs cells slots (jGq below args s D g A (fun a => a = ad) 1 o z mc ms) (F0 mm 7 ls []) := by
  have hx := V.1
  have hb := V.2.1
  refine lv_aload_n hx hb dX8_heir_7 rfl (lv_at hl.1 0 rfl) ?_
  refine jg_S V hH 0 (by decide) kf_X8_9 rfl dX8_heir_8 ?_
  refine jl_astore (o := some (ad 4)) (lv' := [(4, .ref (ad 4)), (0, .ref (ad 0)), (1, jv ad 1 v1), (3, jv ad 1 v3)]) hx hb dX8_heir_11 hl (by decide) rfl (fun ls hl => ?_)
  refine lv_aload hx hb dX8_heir_13 (lv_at hl.1 0 rfl) ?_
  refine jalen_4 V hH dX8_heir_15 ?_
  refine jl_istore (lv' := [(5, .int (nI (z 12 0).toNatClampNeg)), (4, .ref (ad 4)), (0, .ref (ad 0)), (1, jv ad 1 v1), (3, jv ad 1 v3)]) hx hb dX8_heir_16 hl (by decide) rfl (fun ls hl => ?_)
  refine lv_iconst (v := 0) hx hb dX8_heir_18 (by decide) ?_
  refine jl_istore (lv' := [(6, .int 0), (5, .int (nI (z 12 0).toNatClampNeg)), (4, .ref (ad 4)), (0, .ref (ad 0)), (1, jv ad 1 v1), (3, jv ad 1 v3)]) hx hb dX8_heir_19 hl (by decide) rfl (fun ls hl => ?_)
  exact w_X8_heir_21 V hA kN hH (jl_sub hl [3, 4, 5, 2, 1, 0] rfl) hf hc hs
set_option maxHeartbeats 4000000 in
set_option maxRecDepth 100000 in
theorem w_X8_heir_127 (V : jV p s mm args meth c cX8_heir RX8 8 (some (.object "KingTiesLaw$Person")) D g) (hA : ∀ q, s.heap.size ≤ q → A q) {s0 : Int32} {H : Heap} {locs : List Loc} {ls : Array Slot} {cells slots mc ms uc us : Nat} {o : Int32} (hH : jH A s H locs D g ad z [] []) (hl : jl_has ls 8 []) (hf : F_X8_heir_127 z s0 = some (o, uc, us)) (hc : cells + uc = mc) (hs : slots + us = ms) : W p l e (rm_X8_heir mc ms) s mm args below meth c H locs cells slots (jGq below args s D g A (fun a => a = ad) 1 o z mc ms) (F0 mm 127 ls [jv ad 1 s0]) := by
  have hx := V.1
  have hb := V.2.1
  cases hf
  subst hc
  subst hs
  exact je_qret (G := fun a => a = ad) V rfl hH dX8_heir_127
set_option maxHeartbeats 4000000 in
set_option maxRecDepth 100000 in
theorem w_X8_heir_113 (V : jV p s mm args meth c cX8_heir RX8 8 (some (.object "KingTiesLaw$Person")) D g) (hA : ∀ q, s.heap.size ≤ q → A q) {v1 : Int32} {v2 : Int32} {H : Heap} {locs : List Loc} {ls : Array Slot} {cells slots mc ms uc us : Nat} {o : Int32} (hH : jH A s H locs D g ad z [] []) (hl : jl_has ls 8 [(0, .ref (ad 0)), (1, jv ad 1 v1), (2, .int v2)]) (hf : F_X8_heir_113 z v1 v2 = some (o, uc, us)) (hc : cells + uc = mc) (hs : slots + us = ms) : W p l e (rm_X8_heir mc ms) s mm args below meth c H locs cells slots (jGq below args s D g A (fun a => a = ad) 1 o z mc ms) (F0 mm 113 ls []) := by
  have hx := V.1
  have hb := V.2.1
  refine lv_aload_n hx hb dX8_heir_113 rfl (lv_at hl.1 0 rfl) ?_
  refine jl_aload_n hx hb dX8_heir_114 rfl (lv_at hl.1 1 rfl) ?_
  obtain ⟨h113_1, hf⟩ := kif hf
  refine jg_P V hH h113_1 4 (by decide) kf_X8_40 rfl dX8_heir_115 ?_
  refine lv_iload_n hx hb dX8_heir_118 rfl (lv_at hl.1 2 rfl) ?_
  refine jl_aload_n hx hb dX8_heir_119 rfl (lv_at hl.1 1 rfl) ?_
  obtain ⟨x113_2, hx113_2, hf⟩ := kbind hf
  obtain ⟨uc113_3, us113_4, hf, e1, e2⟩ := kadd_some2 hf
  have e1 : uc = x113_2.2.1 + uc113_3 := e1
  have e2 : us = x113_2.2.2 + us113_4 := e2
  have hc : cells + x113_2.2.1 + uc113_3 = mc := by rw [Nat.add_assoc, ← e1]; exact hc
  have hs : slots + x113_2.2.2 + us113_4 = ms := by rw [Nat.add_assoc, ← e2]; exact hs
  have lc : cells + x113_2.2.1 ≤ mc := Nat.le.intro hc
  have ls2 : slots + x113_2.2.2 ≤ ms := Nat.le.intro hs
  refine jr_callqR hA hH (jr_runV (as := [jv ad 1 (z (4 * v1.toNatClampNeg + 1) 4), .int v2, jv ad 1 v1]) (rest := []) V hH kYX8_first kl_X8_96 (c_X8_first l kD _ _ _ hx113_2 _) rfl rfl ⟨Nat.le_of_ble_eq_true rfl, Nat.le_of_ble_eq_true rfl⟩ rfl hl.1.1 (Nat.le_of_ble_eq_true rfl) dX8_heir_120 ⟨lc, ls2⟩ rfl) (fun H locs hH => ?_)
  refine lv_goto (tgt := 127) hx hb dX8_heir_123 (by decide) ?_
  exact w_X8_heir_127 V hA hH (jl_sub hl [] rfl) hf hc hs
set_option maxHeartbeats 4000000 in
set_option maxRecDepth 100000 in
theorem w_X8_heir_126 (V : jV p s mm args meth c cX8_heir RX8 8 (some (.object "KingTiesLaw$Person")) D g) (hA : ∀ q, s.heap.size ≤ q → A q) {v3 : Int32} {H : Heap} {locs : List Loc} {ls : Array Slot} {cells slots mc ms uc us : Nat} {o : Int32} (hH : jH A s H locs D g ad z [] []) (hl : jl_has ls 8 [(3, jv ad 1 v3)]) (hf : F_X8_heir_126 z v3 = some (o, uc, us)) (hc : cells + uc = mc) (hs : slots + us = ms) : W p l e (rm_X8_heir mc ms) s mm args below meth c H locs cells slots (jGq below args s D g A (fun a => a = ad) 1 o z mc ms) (F0 mm 126 ls []) := by
  have hx := V.1
  have hb := V.2.1
  refine jl_aload_n hx hb dX8_heir_126 rfl (lv_at hl.1 0 rfl) ?_
  exact w_X8_heir_127 V hA hH (jl_sub hl [] rfl) hf hc hs
set_option maxHeartbeats 4000000 in
set_option maxRecDepth 100000 in
theorem w_X8_heir_109 (V : jV p s mm args meth c cX8_heir RX8 8 (some (.object "KingTiesLaw$Person")) D g) (hA : ∀ q, s.heap.size ≤ q → A q) {v1 : Int32} {v2 : Int32} {v3 : Int32} {H : Heap} {locs : List Loc} {ls : Array Slot} {cells slots mc ms uc us : Nat} {o : Int32} (hH : jH A s H locs D g ad z [] []) (hl : jl_has ls 8 [(0, .ref (ad 0)), (1, jv ad 1 v1), (2, .int v2), (3, jv ad 1 v3)]) (hf : F_X8_heir_109 z v1 v2 v3 = some (o, uc, us)) (hc : cells + uc = mc) (hs : slots + us = ms) : W p l e (rm_X8_heir mc ms) s mm args below meth c H locs cells slots (jGq below args s D g A (fun a => a = ad) 1 o z mc ms) (F0 mm 109 ls []) := by
  have hx := V.1
  have hb := V.2.1
  refine jl_aload_n hx hb dX8_heir_109 rfl (lv_at hl.1 3 rfl) ?_
  refine jl_ifnonnull (tgt := 126) hx hb dX8_heir_110 (by decide) (fun hq => ?_) (fun hq => ?_)
  · have hf := kneg hq hf
    exact w_X8_heir_126 V hA hH (jl_sub hl [3] rfl) hf hc hs
  · have hf := kpos hq hf
    exact w_X8_heir_113 V hA hH (jl_sub hl [0, 1, 2] rfl) hf hc hs
set_option maxHeartbeats 4000000 in
set_option maxRecDepth 100000 in
theorem w_X8_heir_98 (V : jV p s mm args meth c cX8_heir RX8 8 (some (.object "KingTiesLaw$Person")) D g) (hA : ∀ q, s.heap.size ≤ q → A q) {v1 : Int32} {v2 : Int32} {H : Heap} {locs : List Loc} {ls : Array Slot} {cells slots mc ms uc us : Nat} {o : Int32} (hH : jH A s H locs D g ad z [] []) (hl : jl_has ls 8 [(0, .ref (ad 0)), (1, jv ad 1 v1), (2, .int v2)]) (hf : F_X8_heir_98 z v1 v2 = some (o, uc, us)) (hc : cells + uc = mc) (hs : slots + us = ms) : W p l e (rm_X8_heir mc ms) s mm args below meth c H locs cells slots (jGq below args s D g A (fun a => a = ad) 1 o z mc ms) (F0 mm 98 ls []) := by
  have hx := V.1
  have hb := V.2.1
  refine lv_aload_n hx hb dX8_heir_98 rfl (lv_at hl.1 0 rfl) ?_
  refine jl_aload_n hx hb dX8_heir_99 rfl (lv_at hl.1 1 rfl) ?_
  obtain ⟨h98_1, hf⟩ := kif hf
  refine jg_P V hH h98_1 5 (by decide) kf_X8_47 rfl dX8_heir_100 ?_
  refine lv_iload_n hx hb dX8_heir_103 rfl (lv_at hl.1 2 rfl) ?_
  refine jl_aload_n hx hb dX8_heir_104 rfl (lv_at hl.1 1 rfl) ?_
  obtain ⟨x98_2, hx98_2, hf⟩ := kbind hf
  obtain ⟨uc98_3, us98_4, hf, e1, e2⟩ := kadd_some2 hf
  have e1 : uc = x98_2.2.1 + uc98_3 := e1
  have e2 : us = x98_2.2.2 + us98_4 := e2
  have hc : cells + x98_2.2.1 + uc98_3 = mc := by rw [Nat.add_assoc, ← e1]; exact hc
  have hs : slots + x98_2.2.2 + us98_4 = ms := by rw [Nat.add_assoc, ← e2]; exact hs
  have lc : cells + x98_2.2.1 ≤ mc := Nat.le.intro hc
  have ls2 : slots + x98_2.2.2 ≤ ms := Nat.le.intro hs
  refine jr_callqR hA hH (jr_runV (as := [jv ad 1 (z (4 * v1.toNatClampNeg + 1) 5), .int v2, jv ad 1 v1]) (rest := []) V hH kYX8_first kl_X8_96 (c_X8_first l kD _ _ _ hx98_2 _) rfl rfl ⟨Nat.le_of_ble_eq_true rfl, Nat.le_of_ble_eq_true rfl⟩ rfl hl.1.1 (Nat.le_of_ble_eq_true rfl) dX8_heir_105 ⟨lc, ls2⟩ rfl) (fun H locs hH => ?_)
  refine jl_astore_n (lv' := [(3, jv ad 1 x98_2.1), (0, .ref (ad 0)), (1, jv ad 1 v1), (2, .int v2)]) hx hb dX8_heir_108 rfl hl (by decide) rfl (fun ls hl => ?_)
  exact w_X8_heir_109 V hA hH (jl_sub hl [1, 2, 3, 0] rfl) hf hc hs
set_option maxHeartbeats 4000000 in
set_option maxRecDepth 100000 in
theorem w_X8_heir_86 (V : jV p s mm args meth c cX8_heir RX8 8 (some (.object "KingTiesLaw$Person")) D g) (hA : ∀ q, s.heap.size ≤ q → A q) {v1 : Int32} {v2 : Int32} {H : Heap} {locs : List Loc} {ls : Array Slot} {cells slots mc ms uc us : Nat} {o : Int32} (hH : jH A s H locs D g ad z [] []) (hl : jl_has ls 8 [(0, .ref (ad 0)), (1, jv ad 1 v1), (2, .int v2)]) (hf : F_X8_heir_86 z v1 v2 = some (o, uc, us)) (hc : cells + uc = mc) (hs : slots + us = ms) : W p l e (rm_X8_heir mc ms) s mm args below meth c H locs cells slots (jGq below args s D g A (fun a => a = ad) 1 o z mc ms) (F0 mm 86 ls []) := by
  have hx := V.1
  have hb := V.2.1
  refine lv_aload_n hx hb dX8_heir_86 rfl (lv_at hl.1 0 rfl) ?_
  refine jl_aload_n hx hb dX8_heir_87 rfl (lv_at hl.1 1 rfl) ?_
  refine lv_iload_n hx hb dX8_heir_88 rfl (lv_at hl.1 2 rfl) ?_
  refine jl_aload_n hx hb dX8_heir_89 rfl (lv_at hl.1 1 rfl) ?_
  obtain ⟨x86_1, hx86_1, hf⟩ := kbind hf
  obtain ⟨uc86_2, us86_3, hf, e1, e2⟩ := kadd_some2 hf
  have e1 : uc = x86_1.2.1 + uc86_2 := e1
  have e2 : us = x86_1.2.2 + us86_3 := e2
  have hc : cells + x86_1.2.1 + uc86_2 = mc := by rw [Nat.add_assoc, ← e1]; exact hc
  have hs : slots + x86_1.2.2 + us86_3 = ms := by rw [Nat.add_assoc, ← e2]; exact hs
  have lc : cells + x86_1.2.1 ≤ mc := Nat.le.intro hc
  have ls2 : slots + x86_1.2.2 ≤ ms := Nat.le.intro hs
  refine jr_callqR hA hH (jr_runV (as := [jv ad 1 v1, .int v2, jv ad 1 v1]) (rest := []) V hH kYX8_first kl_X8_96 (c_X8_first l kD _ _ _ hx86_1 _) rfl rfl ⟨Nat.le_of_ble_eq_true rfl, Nat.le_of_ble_eq_true rfl⟩ rfl hl.1.1 (Nat.le_of_ble_eq_true rfl) dX8_heir_90 ⟨lc, ls2⟩ rfl) (fun H locs hH => ?_)
  refine jl_astore_n (lv' := [(3, jv ad 1 x86_1.1), (0, .ref (ad 0)), (1, jv ad 1 v1), (2, .int v2)]) hx hb dX8_heir_93 rfl hl (by decide) rfl (fun ls hl => ?_)
  refine jl_aload_n hx hb dX8_heir_94 rfl (lv_at hl.1 0 rfl) ?_
  refine jl_ifnonnull (tgt := 109) hx hb dX8_heir_95 (by decide) (fun hq => ?_) (fun hq => ?_)
  · have hf := kneg hq hf
    exact w_X8_heir_109 V hA hH (jl_sub hl [1, 2, 3, 0] rfl) hf hc hs
  · have hf := kpos hq hf
    exact w_X8_heir_98 V hA hH (jl_sub hl [1, 2, 3] rfl) hf hc hs
set_option maxHeartbeats 4000000 in
set_option maxRecDepth 100000 in
theorem w_X8_heir_0 (V : jV p s mm args meth c cX8_heir RX8 8 (some (.object "KingTiesLaw$Person")) D g) (hA : ∀ q, s.heap.size ≤ q → A q) {v1 : Int32} {v2 : Int32} {H : Heap} {locs : List Loc} {ls : Array Slot} {cells slots mc ms uc us : Nat} {o : Int32} (hH : jH A s H locs D g ad z [] []) (hl : jl_has ls 8 [(0, .ref (ad 0)), (1, jv ad 1 v1), (2, .int v2)]) (hf : F_X8_heir_0 z v1 v2 = some (o, uc, us)) (hc : cells + uc = mc) (hs : slots + us = ms) : W p l e (rm_X8_heir mc ms) s mm args below meth c H locs cells slots (jGq below args s D g A (fun a => a = ad) 1 o z mc ms) (F0 mm 0 ls []) := by
  have hx := V.1
  have hb := V.2.1
  refine jl_null (ad := ad) hx hb 1 dX8_heir_0 ?_
  refine jl_astore_n (lv' := [(3, jv ad 1 (-1)), (0, .ref (ad 0)), (1, jv ad 1 v1), (2, .int v2)]) hx hb dX8_heir_1 rfl hl (by decide) rfl (fun ls hl => ?_)
  refine lv_iload_n hx hb dX8_heir_2 rfl (lv_at hl.1 3 rfl) ?_
  refine lv_iconst (v := 3) hx hb dX8_heir_3 (by decide) ?_
  refine lv_icmp_ne (tgt := 86) hx hb dX8_heir_4 (by decide) (fun hq => ?_) (fun hq => ?_)
  · have hf := kneg hq hf
    exact w_X8_heir_86 V hA hH (jl_sub hl [1, 2, 3] rfl) hf hc hs
  · have hf := kpos hq hf
    exact w_X8_heir_7 V hA hH (jl_sub hl [1, 2, 0] rfl) hf hc hs
set_option maxHeartbeats 4000000 in
set_option maxRecDepth 100000 in
theorem c_X8_heir (l : Launch) {D : va_G} {g : Nat → ClassId} {ad : Nat → Nat} {z : kS} (v1 : Int32) (v2 : Int32) {o : Int32} {mc ms : Nat} (hf : F_X8_heir z v1 v2 = some (o, mc, ms)) (sz : Nat) : Met l yX8_heir (Cond.code yX8_heir cX8_heir 8 (some (.object "KingTiesLaw$Person")) :: kWA) (rm_X8_heir mc ms) (jP [.ref (ad 0), jv ad 1 v1, .int v2] D g ad z sz) (jQq 1 o (fun a => a = ad) D g (va_A (jC g ad z) sz) z) mc ms (va_A (jC g ad z) sz) := by
  refine j_met (as := [.ref (ad 0), jv ad 1 v1, .int v2]) (bytes := cX8_heir) (maxL := 8) (rt := (some (.object "KingTiesLaw$Person"))) (lv := [(0, .ref (ad 0)), (1, jv ad 1 v1), (2, .int v2)]) (by decide +kernel) (by simp [lg_sl, jcatv, jcati, jcatr]) (by simp [lv_args, jcatv, jcati, jcatr]) (by simp [jcatv, jcati, jcatr]) (fun p e s mm below meth c ls hsz V hA hH hl => ?_)
  exact w_X8_heir_0 V hA hH (jl_sub hl [0, 1, 2] rfl) hf (Nat.zero_add _) (Nat.zero_add _)
end
section
variable {p : Program} {l : Launch} {e : Env} {s : State} {mm : MethodId} {args : Array Value} {below : List Frame} {meth : Method} {c : Code} {D : va_G} {g : Nat → ClassId} {A : Nat → Prop}
variable {ad : Nat → Nat}
abbrev rm_X8_part : Room := { frames := 0, cells := 0, slots := 0, locals := 0 }
set_option maxHeartbeats 4000000 in
set_option maxRecDepth 100000 in
theorem w_X8_part_7 (V : jV p s mm args meth c cX8_part RX8 2 none D g) (hA : ∀ q, s.heap.size ≤ q → A q) {z : kS} {H : Heap} {locs : List Loc} {ls : Array Slot} {out : kS} (hH : jH A s H locs D g ad z [] []) (hl : jl_has ls 2 []) (hf : F_X8_part_7 z = some out) : W p l e rm_X8_part s mm args below meth c H locs 0 0 (jGv below args s D g A (fun a => a = ad) out 0 0) (F0 mm 7 ls []) := by
  have hx := V.1
  have hb := V.2.1
  cases hf
  exact je_vret (G := fun a => a = ad) V rfl hH dX8_part_7
set_option maxHeartbeats 4000000 in
set_option maxRecDepth 100000 in
theorem w_X8_part_8 (V : jV p s mm args meth c cX8_part RX8 2 none D g) (hA : ∀ q, s.heap.size ≤ q → A q) {v1 : Int32} {z : kS} {H : Heap} {locs : List Loc} {ls : Array Slot} {out : kS} (hH : jH A s H locs D g ad z [] []) (hl : jl_has ls 2 [(1, jv ad 1 v1)]) (hf : F_X8_part_8 v1 z = some out) : W p l e rm_X8_part s mm args below meth c H locs 0 0 (jGv below args s D g A (fun a => a = ad) out 0 0) (F0 mm 8 ls []) := by
  have hx := V.1
  have hb := V.2.1
  refine jl_aload_n hx hb dX8_part_8 rfl (lv_at hl.1 0 rfl) ?_
  obtain ⟨h8_1, hf⟩ := kif hf
  refine jg_P V hH h8_1 6 (by decide) kf_X8_44 rfl dX8_part_9 ?_
  refine jl_null (ad := ad) hx hb 1 dX8_part_12 ?_
  obtain ⟨h8_2, hf⟩ := kif hf
  refine jp_P6 V hH h8_2 kf_X8_44 dX8_part_13 (fun H locs hH => ?_)
  refine jl_aload_n hx hb dX8_part_16 rfl (lv_at hl.1 0 rfl) ?_
  obtain ⟨h8_3, hf⟩ := kif hf
  refine jg_P V hH h8_3 6 (by decide) kf_X8_44 rfl dX8_part_17 ?_
  refine jl_null (ad := ad) hx hb 2 dX8_part_20 ?_
  obtain ⟨h8_4, hf⟩ := kif hf
  refine jp_P7 V hH h8_4 kf_X8_107 dX8_part_21 (fun H locs hH => ?_)
  refine jl_aload_n hx hb dX8_part_24 rfl (lv_at hl.1 0 rfl) ?_
  refine jl_null (ad := ad) hx hb 1 dX8_part_25 ?_
  obtain ⟨h8_5, hf⟩ := kif hf
  refine jp_P6 V hH h8_5 kf_X8_44 dX8_part_26 (fun H locs hH => ?_)
  refine jl_aload_n hx hb dX8_part_29 rfl (lv_at hl.1 0 rfl) ?_
  refine jl_null (ad := ad) hx hb 2 dX8_part_30 ?_
  obtain ⟨h8_6, hf⟩ := kif hf
  refine jp_P7 V hH h8_6 kf_X8_107 dX8_part_31 (fun H locs hH => ?_)
  cases hf
  exact je_vret (G := fun a => a = ad) V rfl hH dX8_part_34
set_option maxHeartbeats 4000000 in
set_option maxRecDepth 100000 in
theorem w_X8_part_0 (V : jV p s mm args meth c cX8_part RX8 2 none D g) (hA : ∀ q, s.heap.size ≤ q → A q) {v1 : Int32} {z : kS} {H : Heap} {locs : List Loc} {ls : Array Slot} {out : kS} (hH : jH A s H locs D g ad z [] []) (hl : jl_has ls 2 [(1, jv ad 1 v1)]) (hf : F_X8_part_0 v1 z = some out) : W p l e rm_X8_part s mm args below meth c H locs 0 0 (jGv below args s D g A (fun a => a = ad) out 0 0) (F0 mm 0 ls []) := by
  have hx := V.1
  have hb := V.2.1
  refine jl_aload_n hx hb dX8_part_0 rfl (lv_at hl.1 0 rfl) ?_
  obtain ⟨h0_1, hf⟩ := kif hf
  refine jg_P V hH h0_1 6 (by decide) kf_X8_44 rfl dX8_part_1 ?_
  refine jl_ifnonnull (tgt := 8) hx hb dX8_part_4 (by decide) (fun hq => ?_) (fun hq => ?_)
  · have hf := kneg hq hf
    exact w_X8_part_8 V hA hH (jl_sub hl [0] rfl) hf
  · have hf := kpos hq hf
    exact w_X8_part_7 V hA hH (jl_sub hl [] rfl) hf
set_option maxHeartbeats 4000000 in
set_option maxRecDepth 100000 in
theorem c_X8_part (l : Launch) {D : va_G} {g : Nat → ClassId} {ad : Nat → Nat} {z : kS} (v1 : Int32) {out : kS} (hf : F_X8_part v1 z = some out) (sz : Nat) : Met l yX8_part (Cond.code yX8_part cX8_part 2 none :: kWA) rm_X8_part (jP [.ref (ad 0), jv ad 1 v1] D g ad z sz) (jQv (fun a => a = ad) D g (va_A (jC g ad z) sz) out) 0 0 (va_A (jC g ad z) sz) := by
  refine j_met (as := [.ref (ad 0), jv ad 1 v1]) (bytes := cX8_part) (maxL := 2) (rt := none) (lv := [(0, .ref (ad 0)), (1, jv ad 1 v1)]) (by decide +kernel) (by simp [lg_sl, jcatv, jcati, jcatr]) (by simp [lv_args, jcatv, jcati, jcatr]) (by simp [jcatv, jcati, jcatr]) (fun p e s mm below meth c ls hsz V hA hH hl => ?_)
  exact w_X8_part_0 V hA hH (jl_sub hl [1] rfl) hf
end
