/-! ENDS OF METHODS -/
section
variable (below : List Frame) (args : Array Value) (s : State) (D : va_G) (cI cZ cO : ClassId) (ad : Nat → Nat)
abbrev kGi (r : Int32) (k mo : kS) (mc ms : Nat) : State → Prop := MQ below (kQi r D cI cZ cO ad (kE ad cI cZ cO k mo) s.heap.size) args s mc ms (fA ad s.heap.size)
abbrev kGl (r : Int64) (k mo : kS) (mc ms : Nat) : State → Prop := MQ below (kQl r D cI cZ cO ad (kE ad cI cZ cO k mo) s.heap.size) args s mc ms (fA ad s.heap.size)
abbrev kGd (r : UInt64) (k mo : kS) (mc ms : Nat) : State → Prop := MQ below (kQd r D cI cZ cO ad (kE ad cI cZ cO k mo) s.heap.size) args s mc ms (fA ad s.heap.size)
abbrev kGv (k mo : kS) (mc ms : Nat) : State → Prop := MQ below (kQv D cI cZ cO ad (kE ad cI cZ cO k mo) s.heap.size) args s mc ms (fA ad s.heap.size)
end
section
variable {p : Program} {l : Launch} {e : Env} {R : Room} {s : State} {m : MethodId} {args : Array Value} {below : List Frame} {meth : Method} {c : Code} {H : Heap} {locs : List Loc} {cells slots : Nat} {Q : State → Prop} {D : va_G} {cI cZ cO : ClassId} {ad : Nat → Nat} {E E' : Nat → va_E} {X : va_W} {pc : Nat} {ls : Array Slot} {rest st : List Value} {a : Array Value}
theorem kH_drop (h : kH s H locs D ad E X) : kH s H locs D ad E [] := ⟨by rw [List.append_nil]; exact h.1.by id (fun k q hk => kC_left hk), by rw [List.append_nil]; exact h.2.1.by id (fun k q hk => kC_left hk) (fun i j _ _ e => e), h.2.2⟩
theorem kr_calli0 {r : Int32} (h : kH s H locs D ad E X) (hr : va_Run p l e R s m args below meth c H locs cells slots 0 0 (F0 m pc ls st) rest (kQi r D cI cZ cO ad E' H.size a) (fA ad H.size)) (kk : ∀ (H1 : Heap) (locs1 : List Loc), kH s H1 locs1 D ad E' X → W p l e R s m args below meth c H1 locs1 cells slots Q (F0 m (pc + 3) ls (.int r :: rest))) : W p l e R s m args below meth c H locs cells slots Q (F0 m pc ls st) := kr_calli h hr kk
theorem kr_calll0 {r : Int64} (h : kH s H locs D ad E X) (hr : va_Run p l e R s m args below meth c H locs cells slots 0 0 (F0 m pc ls st) rest (kQl r D cI cZ cO ad E' H.size a) (fA ad H.size)) (kk : ∀ (H1 : Heap) (locs1 : List Loc), kH s H1 locs1 D ad E' X → W p l e R s m args below meth c H1 locs1 cells slots Q (F0 m (pc + 3) ls (.long r :: rest))) : W p l e R s m args below meth c H locs cells slots Q (F0 m pc ls st) := kr_calll h hr kk
theorem kr_calld0 {r : UInt64} (h : kH s H locs D ad E X) (hr : va_Run p l e R s m args below meth c H locs cells slots 0 0 (F0 m pc ls st) rest (kQd r D cI cZ cO ad E' H.size a) (fA ad H.size)) (kk : ∀ (H1 : Heap) (locs1 : List Loc), kH s H1 locs1 D ad E' X → W p l e R s m args below meth c H1 locs1 cells slots Q (F0 m (pc + 3) ls (.double r :: rest))) : W p l e R s m args below meth c H locs cells slots Q (F0 m pc ls st) := kr_calld h hr kk
theorem kr_callv0 (h : kH s H locs D ad E X) (hr : va_Run p l e R s m args below meth c H locs cells slots 0 0 (F0 m pc ls st) rest (kQv D cI cZ cO ad E' H.size a) (fA ad H.size)) (kk : ∀ (H1 : Heap) (locs1 : List Loc), kH s H1 locs1 D ad E' X → W p l e R s m args below meth c H1 locs1 cells slots Q (F0 m (pc + 3) ls rest)) : W p l e R s m args below meth c H locs cells slots Q (F0 m pc ls st) := kr_callv h hr kk
end
theorem kadd_some2 {α : Type} {a b : Nat} {x : Option (α × Nat × Nat)} {o : α} {uc us : Nat} (h : kadd a b x = some (o, uc, us)) : ∃ uc2 us2, x = some (o, uc2, us2) ∧ uc = a + uc2 ∧ us = b + us2 := by
  obtain ⟨y, h1, h2⟩ := kadd_some h
  cases h2
  exact ⟨y.2.1, y.2.2, h1, rfl, rfl⟩

section
variable {p : Program} {l : Launch} {e : Env} {s : State} {mm : MethodId} {args : Array Value} {below : List Frame} {meth : Method} {c : Code} {D : va_G} {cI cZ cO : ClassId} {ad : Nat → Nat}
abbrev rm_X0_knows : Room := { frames := 0, cells := 0, slots := 0, locals := 0 }
set_option maxHeartbeats 4000000 in
set_option maxRecDepth 100000 in
theorem w_X0_knows_17 (V : kV p s mm args meth c cX0_knows RX0 2 (some .boolean) D cI cZ cO) {k mo : kS} {s0 : Int32} {H : Heap} {locs : List Loc} {ls : Array Slot} {out : Int32} (hH : kHE s H locs D ad cI cZ cO k mo []) (hl : lv_has ls 2 []) (hf : F_X0_knows_17 k s0 = some out) : W p l e rm_X0_knows s mm args below meth c H locs 0 0 (kGi below args s D cI cZ cO ad out k mo 0 0) (F0 mm 17 ls [.int s0]) := by
  have hx := V.1
  have hb := V.2.1
  obtain ⟨h17_1, hf⟩ := kif hf
  cases hf
  exact kr_zret V hH (Decidable.not_not.mp h17_1) dX0_knows_17
set_option maxHeartbeats 4000000 in
set_option maxRecDepth 100000 in
theorem w_X0_knows_12 (V : kV p s mm args meth c cX0_knows RX0 2 (some .boolean) D cI cZ cO) {k mo : kS} {H : Heap} {locs : List Loc} {ls : Array Slot} {out : Int32} (hH : kHE s H locs D ad cI cZ cO k mo []) (hl : lv_has ls 2 []) (hf : F_X0_knows_12 k = some out) : W p l e rm_X0_knows s mm args below meth c H locs 0 0 (kGi below args s D cI cZ cO ad out k mo 0 0) (F0 mm 12 ls []) := by
  have hx := V.1
  have hb := V.2.1
  refine lv_iconst (v := 1) hx hb dX0_knows_12 (by decide) ?_
  refine lv_goto (tgt := 17) hx hb dX0_knows_13 (by decide) ?_
  exact w_X0_knows_17 V hH (lv_sub hl [] rfl) hf
set_option maxHeartbeats 4000000 in
set_option maxRecDepth 100000 in
theorem w_X0_knows_16 (V : kV p s mm args meth c cX0_knows RX0 2 (some .boolean) D cI cZ cO) {k mo : kS} {H : Heap} {locs : List Loc} {ls : Array Slot} {out : Int32} (hH : kHE s H locs D ad cI cZ cO k mo []) (hl : lv_has ls 2 []) (hf : F_X0_knows_16 k = some out) : W p l e rm_X0_knows s mm args below meth c H locs 0 0 (kGi below args s D cI cZ cO ad out k mo 0 0) (F0 mm 16 ls []) := by
  have hx := V.1
  have hb := V.2.1
  refine lv_iconst (v := 0) hx hb dX0_knows_16 (by decide) ?_
  exact w_X0_knows_17 V hH (lv_sub hl [] rfl) hf
set_option maxHeartbeats 4000000 in
set_option maxRecDepth 100000 in
theorem w_X0_knows_4 (V : kV p s mm args meth c cX0_knows RX0 2 (some .boolean) D cI cZ cO) {k mo : kS} {v1 : Int32} {H : Heap} {locs : List Loc} {ls : Array Slot} {out : Int32} (hH : kHE s H locs D ad cI cZ cO k mo []) (hl : lv_has ls 2 [(0, .ref (ad 1)), (1, .int v1)]) (hf : F_X0_knows_4 k v1 = some out) : W p l e rm_X0_knows s mm args below meth c H locs 0 0 (kGi below args s D cI cZ cO ad out k mo 0 0) (F0 mm 4 ls []) := by
  have hx := V.1
  have hb := V.2.1
  refine lv_iload_n hx hb dX0_knows_4 rfl (lv_at hl 1 rfl) ?_
  refine lv_aload_n hx hb dX0_knows_5 rfl (lv_at hl 0 rfl) ?_
  refine kg_X0_9 V hH dX0_knows_6 ?_
  refine lv_icmp_ge (tgt := 16) hx hb dX0_knows_9 (by decide) (fun hq => ?_) (fun hq => ?_)
  · have hf := kpos hq hf
    exact w_X0_knows_16 V hH (lv_sub hl [] rfl) hf
  · have hf := kneg hq hf
    exact w_X0_knows_12 V hH (lv_sub hl [] rfl) hf
set_option maxHeartbeats 4000000 in
set_option maxRecDepth 100000 in
theorem w_X0_knows_0 (V : kV p s mm args meth c cX0_knows RX0 2 (some .boolean) D cI cZ cO) {k mo : kS} {v1 : Int32} {H : Heap} {locs : List Loc} {ls : Array Slot} {out : Int32} (hH : kHE s H locs D ad cI cZ cO k mo []) (hl : lv_has ls 2 [(0, .ref (ad 1)), (1, .int v1)]) (hf : F_X0_knows_0 k v1 = some out) : W p l e rm_X0_knows s mm args below meth c H locs 0 0 (kGi below args s D cI cZ cO ad out k mo 0 0) (F0 mm 0 ls []) := by
  have hx := V.1
  have hb := V.2.1
  refine lv_iload_n hx hb dX0_knows_0 rfl (lv_at hl 1 rfl) ?_
  refine lv_if_lt (tgt := 16) hx hb dX0_knows_1 (by decide) (fun hq => ?_) (fun hq => ?_)
  · have hf := kpos hq hf
    exact w_X0_knows_16 V hH (lv_sub hl [] rfl) hf
  · have hf := kneg hq hf
    exact w_X0_knows_4 V hH (lv_sub hl [0, 1] rfl) hf
set_option maxHeartbeats 4000000 in
set_option maxRecDepth 100000 in
theorem c_X0_knows (l : Launch) {D : va_G} {cI cZ cO : ClassId} {ad : Nat → Nat} {k mo : kS} (v1 : Int32) {out : Int32} (hf : F_X0_knows k v1 = some out) (sz : Nat) : Met l yX0_knows (Cond.code yX0_knows cX0_knows 2 (some .boolean) :: kWA) rm_X0_knows (kP [.ref (ad 1), .int v1] D cI cZ cO ad (kE ad cI cZ cO k mo) sz) (kQi out D cI cZ cO ad (kE ad cI cZ cO k mo) sz) 0 0 (fA ad sz) := by
  refine kr_met (as := [.ref (ad 1), .int v1]) (bytes := cX0_knows) (maxL := 2) (rt := (some .boolean)) (Qc := fun sz => kQi out D cI cZ cO ad (kE ad cI cZ cO k mo) sz) (lv := [(0, .ref (ad 1)), (1, .int v1)]) (by decide +kernel) (Nat.le_of_ble_eq_true rfl) rfl (fun p e s mm below meth c ls V hH hl => ?_) sz
  exact w_X0_knows_0 V hH (lv_sub hl [0, 1] rfl) hf
end
section
variable {p : Program} {l : Launch} {e : Env} {s : State} {mm : MethodId} {args : Array Value} {below : List Frame} {meth : Method} {c : Code} {D : va_G} {cI cZ cO : ClassId} {ad : Nat → Nat}
abbrev rm_X0_isFull : Room := { frames := 0, cells := 0, slots := 0, locals := 0 }
set_option maxHeartbeats 4000000 in
set_option maxRecDepth 100000 in
theorem w_X0_isFull_14 (V : kV p s mm args meth c cX0_isFull RX0 1 (some .boolean) D cI cZ cO) {k mo : kS} {s0 : Int32} {H : Heap} {locs : List Loc} {ls : Array Slot} {out : Int32} (hH : kHE s H locs D ad cI cZ cO k mo []) (hl : lv_has ls 1 []) (hf : F_X0_isFull_14 k s0 = some out) : W p l e rm_X0_isFull s mm args below meth c H locs 0 0 (kGi below args s D cI cZ cO ad out k mo 0 0) (F0 mm 14 ls [.int s0]) := by
  have hx := V.1
  have hb := V.2.1
  obtain ⟨h14_1, hf⟩ := kif hf
  cases hf
  exact kr_zret V hH (Decidable.not_not.mp h14_1) dX0_isFull_14
set_option maxHeartbeats 4000000 in
set_option maxRecDepth 100000 in
theorem w_X0_isFull_9 (V : kV p s mm args meth c cX0_isFull RX0 1 (some .boolean) D cI cZ cO) {k mo : kS} {H : Heap} {locs : List Loc} {ls : Array Slot} {out : Int32} (hH : kHE s H locs D ad cI cZ cO k mo []) (hl : lv_has ls 1 []) (hf : F_X0_isFull_9 k = some out) : W p l e rm_X0_isFull s mm args below meth c H locs 0 0 (kGi below args s D cI cZ cO ad out k mo 0 0) (F0 mm 9 ls []) := by
  have hx := V.1
  have hb := V.2.1
  refine lv_iconst (v := 1) hx hb dX0_isFull_9 (by decide) ?_
  refine lv_goto (tgt := 14) hx hb dX0_isFull_10 (by decide) ?_
  exact w_X0_isFull_14 V hH (lv_sub hl [] rfl) hf
set_option maxHeartbeats 4000000 in
set_option maxRecDepth 100000 in
theorem w_X0_isFull_13 (V : kV p s mm args meth c cX0_isFull RX0 1 (some .boolean) D cI cZ cO) {k mo : kS} {H : Heap} {locs : List Loc} {ls : Array Slot} {out : Int32} (hH : kHE s H locs D ad cI cZ cO k mo []) (hl : lv_has ls 1 []) (hf : F_X0_isFull_13 k = some out) : W p l e rm_X0_isFull s mm args below meth c H locs 0 0 (kGi below args s D cI cZ cO ad out k mo 0 0) (F0 mm 13 ls []) := by
  have hx := V.1
  have hb := V.2.1
  refine lv_iconst (v := 0) hx hb dX0_isFull_13 (by decide) ?_
  exact w_X0_isFull_14 V hH (lv_sub hl [] rfl) hf
set_option maxHeartbeats 4000000 in
set_option maxRecDepth 100000 in
theorem w_X0_isFull_0 (V : kV p s mm args meth c cX0_isFull RX0 1 (some .boolean) D cI cZ cO) {k mo : kS} {H : Heap} {locs : List Loc} {ls : Array Slot} {out : Int32} (hH : kHE s H locs D ad cI cZ cO k mo []) (hl : lv_has ls 1 [(0, .ref (ad 1))]) (hf : F_X0_isFull_0 k = some out) : W p l e rm_X0_isFull s mm args below meth c H locs 0 0 (kGi below args s D cI cZ cO ad out k mo 0 0) (F0 mm 0 ls []) := by
  have hx := V.1
  have hb := V.2.1
  refine lv_aload_n hx hb dX0_isFull_0 rfl (lv_at hl 0 rfl) ?_
  refine kg_X0_9 V hH dX0_isFull_1 ?_
  refine lv_bipush (v := 40) hx hb dX0_isFull_4 (by decide) ?_
  refine lv_icmp_lt (tgt := 13) hx hb dX0_isFull_6 (by decide) (fun hq => ?_) (fun hq => ?_)
  · have hf := kpos hq hf
    exact w_X0_isFull_13 V hH (lv_sub hl [] rfl) hf
  · have hf := kneg hq hf
    exact w_X0_isFull_9 V hH (lv_sub hl [] rfl) hf
set_option maxHeartbeats 4000000 in
set_option maxRecDepth 100000 in
theorem c_X0_isFull (l : Launch) {D : va_G} {cI cZ cO : ClassId} {ad : Nat → Nat} {k mo : kS} {out : Int32} (hf : F_X0_isFull k = some out) (sz : Nat) : Met l yX0_isFull (Cond.code yX0_isFull cX0_isFull 1 (some .boolean) :: kWA) rm_X0_isFull (kP [.ref (ad 1)] D cI cZ cO ad (kE ad cI cZ cO k mo) sz) (kQi out D cI cZ cO ad (kE ad cI cZ cO k mo) sz) 0 0 (fA ad sz) := by
  refine kr_met (as := [.ref (ad 1)]) (bytes := cX0_isFull) (maxL := 1) (rt := (some .boolean)) (Qc := fun sz => kQi out D cI cZ cO ad (kE ad cI cZ cO k mo) sz) (lv := [(0, .ref (ad 1))]) (by decide +kernel) (Nat.le_of_ble_eq_true rfl) rfl (fun p e s mm below meth c ls V hH hl => ?_) sz
  exact w_X0_isFull_0 V hH (lv_sub hl [0] rfl) hf
end
section
variable {p : Program} {l : Launch} {e : Env} {s : State} {mm : MethodId} {args : Array Value} {below : List Frame} {meth : Method} {c : Code} {D : va_G} {cI cZ cO : ClassId} {ad : Nat → Nat}
abbrev rm_X0_stepsBetween : Room := { frames := 1, cells := 0, slots := 0, locals := 21 }
set_option maxHeartbeats 4000000 in
set_option maxRecDepth 100000 in
theorem w_X0_stepsBetween_28 (V : kV p s mm args meth c cX0_stepsBetween RX0 3 (some .int) D cI cZ cO) {k mo : kS} {s0 : Int32} {H : Heap} {locs : List Loc} {ls : Array Slot} {out : Int32} (hH : kHE s H locs D ad cI cZ cO k mo []) (hl : lv_has ls 3 []) (hf : F_X0_stepsBetween_28 k s0 = some out) : W p l e rm_X0_stepsBetween s mm args below meth c H locs 0 0 (kGi below args s D cI cZ cO ad out k mo 0 0) (F0 mm 28 ls [.int s0]) := by
  have hx := V.1
  have hb := V.2.1
  cases hf
  exact kr_iret V hH dX0_stepsBetween_28
set_option maxHeartbeats 4000000 in
set_option maxRecDepth 100000 in
theorem w_X0_stepsBetween_16 (V : kV p s mm args meth c cX0_stepsBetween RX0 3 (some .int) D cI cZ cO) {k mo : kS} {v1 : Int32} {v2 : Int32} {H : Heap} {locs : List Loc} {ls : Array Slot} {out : Int32} (hH : kHE s H locs D ad cI cZ cO k mo []) (hl : lv_has ls 3 [(0, .ref (ad 1)), (1, .int v1), (2, .int v2)]) (hf : F_X0_stepsBetween_16 k v1 v2 = some out) : W p l e rm_X0_stepsBetween s mm args below meth c H locs 0 0 (kGi below args s D cI cZ cO ad out k mo 0 0) (F0 mm 16 ls []) := by
  have hx := V.1
  have hb := V.2.1
  refine lv_aload_n hx hb dX0_stepsBetween_16 rfl (lv_at hl 0 rfl) ?_
  refine kg_X0_31 V hH dX0_stepsBetween_17 ?_
  refine lv_iload_n hx hb dX0_stepsBetween_20 rfl (lv_at hl 1 rfl) ?_
  obtain ⟨h16_1, hf⟩ := kif hf
  refine kr_aald V hH (q := 6) (by decide) kE_6 h16_1 dX0_stepsBetween_21 ?_
  refine lv_iload_n hx hb dX0_stepsBetween_22 rfl (lv_at hl 2 rfl) ?_
  obtain ⟨h16_2, hf⟩ := kif hf
  refine kr_iald V hH (q := (69 + v1.toNatClampNeg)) (kq_steps (kidx h16_1)) kE_stepsI h16_2 dX0_stepsBetween_23 ?_
  refine lv_goto (tgt := 28) hx hb dX0_stepsBetween_24 (by decide) ?_
  exact w_X0_stepsBetween_28 V hH (lv_sub hl [] rfl) hf
set_option maxHeartbeats 4000000 in
set_option maxRecDepth 100000 in
theorem w_X0_stepsBetween_27 (V : kV p s mm args meth c cX0_stepsBetween RX0 3 (some .int) D cI cZ cO) {k mo : kS} {H : Heap} {locs : List Loc} {ls : Array Slot} {out : Int32} (hH : kHE s H locs D ad cI cZ cO k mo []) (hl : lv_has ls 3 []) (hf : F_X0_stepsBetween_27 k = some out) : W p l e rm_X0_stepsBetween s mm args below meth c H locs 0 0 (kGi below args s D cI cZ cO ad out k mo 0 0) (F0 mm 27 ls []) := by
  have hx := V.1
  have hb := V.2.1
  refine lv_iconst (v := (-1)) hx hb dX0_stepsBetween_27 (by decide) ?_
  exact w_X0_stepsBetween_28 V hH (lv_sub hl [] rfl) hf
set_option maxHeartbeats 4000000 in
set_option maxRecDepth 100000 in
theorem w_X0_stepsBetween_8 (V : kV p s mm args meth c cX0_stepsBetween RX0 3 (some .int) D cI cZ cO) {k mo : kS} {v1 : Int32} {v2 : Int32} {H : Heap} {locs : List Loc} {ls : Array Slot} {out : Int32} (hH : kHE s H locs D ad cI cZ cO k mo []) (hl : lv_has ls 3 [(0, .ref (ad 1)), (1, .int v1), (2, .int v2)]) (hf : F_X0_stepsBetween_8 k v1 v2 = some out) : W p l e rm_X0_stepsBetween s mm args below meth c H locs 0 0 (kGi below args s D cI cZ cO ad out k mo 0 0) (F0 mm 8 ls []) := by
  have hx := V.1
  have hb := V.2.1
  refine lv_aload_n hx hb dX0_stepsBetween_8 rfl (lv_at hl 0 rfl) ?_
  refine lv_iload_n hx hb dX0_stepsBetween_9 rfl (lv_at hl 2 rfl) ?_
  obtain ⟨x8_1, hx8_1, hf⟩ := kbind hf
  refine kr_calli0 hH (kr_runV (as := [.int v2]) (rest := []) (pl := 1) V hH kYX0_knows kl_X0_51 (c_X0_knows l _ hx8_1 _) rfl rfl ⟨Nat.le_of_ble_eq_true rfl, Nat.le_of_ble_eq_true rfl⟩ (by decide) kE_1 rfl rfl hl.1 (Nat.le_of_ble_eq_true rfl) dX0_stepsBetween_10 ⟨Nat.le_refl _, Nat.le_refl _⟩ rfl) (fun H locs hH => ?_)
  refine lv_if_eq (tgt := 27) hx hb dX0_stepsBetween_13 (by decide) (fun hq => ?_) (fun hq => ?_)
  · have hf := kpos hq hf
    exact w_X0_stepsBetween_27 V hH (lv_sub hl [] rfl) hf
  · have hf := kneg hq hf
    exact w_X0_stepsBetween_16 V hH (lv_sub hl [0, 1, 2] rfl) hf
set_option maxHeartbeats 4000000 in
set_option maxRecDepth 100000 in
theorem w_X0_stepsBetween_0 (V : kV p s mm args meth c cX0_stepsBetween RX0 3 (some .int) D cI cZ cO) {k mo : kS} {v1 : Int32} {v2 : Int32} {H : Heap} {locs : List Loc} {ls : Array Slot} {out : Int32} (hH : kHE s H locs D ad cI cZ cO k mo []) (hl : lv_has ls 3 [(0, .ref (ad 1)), (1, .int v1), (2, .int v2)]) (hf : F_X0_stepsBetween_0 k v1 v2 = some out) : W p l e rm_X0_stepsBetween s mm args below meth c H locs 0 0 (kGi below args s D cI cZ cO ad out k mo 0 0) (F0 mm 0 ls []) := by
  have hx := V.1
  have hb := V.2.1
  refine lv_aload_n hx hb dX0_stepsBetween_0 rfl (lv_at hl 0 rfl) ?_
  refine lv_iload_n hx hb dX0_stepsBetween_1 rfl (lv_at hl 1 rfl) ?_
  obtain ⟨x0_1, hx0_1, hf⟩ := kbind hf
  refine kr_calli0 hH (kr_runV (as := [.int v1]) (rest := []) (pl := 1) V hH kYX0_knows kl_X0_51 (c_X0_knows l _ hx0_1 _) rfl rfl ⟨Nat.le_of_ble_eq_true rfl, Nat.le_of_ble_eq_true rfl⟩ (by decide) kE_1 rfl rfl hl.1 (Nat.le_of_ble_eq_true rfl) dX0_stepsBetween_2 ⟨Nat.le_refl _, Nat.le_refl _⟩ rfl) (fun H locs hH => ?_)
  refine lv_if_eq (tgt := 27) hx hb dX0_stepsBetween_5 (by decide) (fun hq => ?_) (fun hq => ?_)
  · have hf := kpos hq hf
    exact w_X0_stepsBetween_27 V hH (lv_sub hl [] rfl) hf
  · have hf := kneg hq hf
    exact w_X0_stepsBetween_8 V hH (lv_sub hl [0, 1, 2] rfl) hf
set_option maxHeartbeats 4000000 in
set_option maxRecDepth 100000 in
theorem c_X0_stepsBetween (l : Launch) {D : va_G} {cI cZ cO : ClassId} {ad : Nat → Nat} {k mo : kS} (v1 : Int32) (v2 : Int32) {out : Int32} (hf : F_X0_stepsBetween k v1 v2 = some out) (sz : Nat) : Met l yX0_stepsBetween (Cond.code yX0_stepsBetween cX0_stepsBetween 3 (some .int) :: kWA) rm_X0_stepsBetween (kP [.ref (ad 1), .int v1, .int v2] D cI cZ cO ad (kE ad cI cZ cO k mo) sz) (kQi out D cI cZ cO ad (kE ad cI cZ cO k mo) sz) 0 0 (fA ad sz) := by
  refine kr_met (as := [.ref (ad 1), .int v1, .int v2]) (bytes := cX0_stepsBetween) (maxL := 3) (rt := (some .int)) (Qc := fun sz => kQi out D cI cZ cO ad (kE ad cI cZ cO k mo) sz) (lv := [(0, .ref (ad 1)), (1, .int v1), (2, .int v2)]) (by decide +kernel) (Nat.le_of_ble_eq_true rfl) rfl (fun p e s mm below meth c ls V hH hl => ?_) sz
  exact w_X0_stepsBetween_0 V hH (lv_sub hl [0, 1, 2] rfl) hf
end
section
variable {p : Program} {l : Launch} {e : Env} {s : State} {mm : MethodId} {args : Array Value} {below : List Frame} {meth : Method} {c : Code} {D : va_G} {cI cZ cO : ClassId} {ad : Nat → Nat}
abbrev rm_X0_stepsThroughParents : Room := { frames := 2, cells := 0, slots := 0, locals := 43 }
set_option maxHeartbeats 4000000 in
set_option maxRecDepth 100000 in
theorem w_X0_stepsThroughParents_28 (V : kV p s mm args meth c cX0_stepsThroughParents RX0 6 (some .int) D cI cZ cO) {k mo : kS} {H : Heap} {locs : List Loc} {ls : Array Slot} {out : Int32} (hH : kHE s H locs D ad cI cZ cO k mo []) (hl : lv_has ls 6 []) (hf : F_X0_stepsThroughParents_28 k = some out) : W p l e rm_X0_stepsThroughParents s mm args below meth c H locs 0 0 (kGi below args s D cI cZ cO ad out k mo 0 0) (F0 mm 28 ls []) := by
  have hx := V.1
  have hb := V.2.1
  refine lv_iconst (v := (-1)) hx hb dX0_stepsThroughParents_28 (by decide) ?_
  cases hf
  exact kr_iret V hH dX0_stepsThroughParents_29
set_option maxHeartbeats 4000000 in
set_option maxRecDepth 100000 in
theorem w_X0_stepsThroughParents_36 (V : kV p s mm args meth c cX0_stepsThroughParents RX0 6 (some .int) D cI cZ cO) {k mo : kS} {v5 : Int32} {H : Heap} {locs : List Loc} {ls : Array Slot} {out : Int32} (hH : kHE s H locs D ad cI cZ cO k mo []) (hl : lv_has ls 6 [(5, .int v5)]) (hf : F_X0_stepsThroughParents_36 k v5 = some out) : W p l e rm_X0_stepsThroughParents s mm args below meth c H locs 0 0 (kGi below args s D cI cZ cO ad out k mo 0 0) (F0 mm 36 ls []) := by
  have hx := V.1
  have hb := V.2.1
  refine lv_iload hx hb dX0_stepsThroughParents_36 (lv_at hl 0 rfl) ?_
  refine lv_iconst (v := 1) hx hb dX0_stepsThroughParents_38 (by decide) ?_
  refine lv_iadd hx hb dX0_stepsThroughParents_39 ?_
  cases hf
  exact kr_iret V hH dX0_stepsThroughParents_40
set_option maxHeartbeats 4000000 in
set_option maxRecDepth 100000 in
theorem w_X0_stepsThroughParents_63 (V : kV p s mm args meth c cX0_stepsThroughParents RX0 6 (some .int) D cI cZ cO) {k mo : kS} {s0 : Int32} {H : Heap} {locs : List Loc} {ls : Array Slot} {out : Int32} (hH : kHE s H locs D ad cI cZ cO k mo []) (hl : lv_has ls 6 []) (hf : F_X0_stepsThroughParents_63 k s0 = some out) : W p l e rm_X0_stepsThroughParents s mm args below meth c H locs 0 0 (kGi below args s D cI cZ cO ad out k mo 0 0) (F0 mm 63 ls [.int s0]) := by
  have hx := V.1
  have hb := V.2.1
  cases hf
  exact kr_iret V hH dX0_stepsThroughParents_63
set_option maxHeartbeats 4000000 in
set_option maxRecDepth 100000 in
theorem w_X0_stepsThroughParents_47 (V : kV p s mm args meth c cX0_stepsThroughParents RX0 6 (some .int) D cI cZ cO) {k mo : kS} {v4 : Int32} {H : Heap} {locs : List Loc} {ls : Array Slot} {out : Int32} (hH : kHE s H locs D ad cI cZ cO k mo []) (hl : lv_has ls 6 [(4, .int v4)]) (hf : F_X0_stepsThroughParents_47 k v4 = some out) : W p l e rm_X0_stepsThroughParents s mm args below meth c H locs 0 0 (kGi below args s D cI cZ cO ad out k mo 0 0) (F0 mm 47 ls []) := by
  have hx := V.1
  have hb := V.2.1
  refine lv_iload hx hb dX0_stepsThroughParents_47 (lv_at hl 0 rfl) ?_
  refine lv_iconst (v := 1) hx hb dX0_stepsThroughParents_49 (by decide) ?_
  refine lv_iadd hx hb dX0_stepsThroughParents_50 ?_
  refine lv_goto (tgt := 63) hx hb dX0_stepsThroughParents_51 (by decide) ?_
  exact w_X0_stepsThroughParents_63 V hH (lv_sub hl [] rfl) hf
set_option maxHeartbeats 4000000 in
set_option maxRecDepth 100000 in
theorem w_X0_stepsThroughParents_54 (V : kV p s mm args meth c cX0_stepsThroughParents RX0 6 (some .int) D cI cZ cO) {k mo : kS} {v4 : Int32} {v5 : Int32} {H : Heap} {locs : List Loc} {ls : Array Slot} {out : Int32} (hH : kHE s H locs D ad cI cZ cO k mo []) (hl : lv_has ls 6 [(4, .int v4), (5, .int v5)]) (hf : F_X0_stepsThroughParents_54 k v4 v5 = some out) : W p l e rm_X0_stepsThroughParents s mm args below meth c H locs 0 0 (kGi below args s D cI cZ cO ad out k mo 0 0) (F0 mm 54 ls []) := by
  have hx := V.1
  have hb := V.2.1
  refine lv_iload hx hb dX0_stepsThroughParents_54 (lv_at hl 0 rfl) ?_
  refine lv_iload hx hb dX0_stepsThroughParents_56 (lv_at hl 1 rfl) ?_
  refine kr_mn V hl.1 kl_X0_46 (Nat.le_of_ble_eq_true rfl) (Nat.le_of_ble_eq_true rfl) (Nat.le_of_ble_eq_true rfl) (Nat.le_of_ble_eq_true rfl) dX0_stepsThroughParents_58 ?_
  refine lv_iconst (v := 1) hx hb dX0_stepsThroughParents_61 (by decide) ?_
  refine lv_iadd hx hb dX0_stepsThroughParents_62 ?_
  exact w_X0_stepsThroughParents_63 V hH (lv_sub hl [] rfl) hf
set_option maxHeartbeats 4000000 in
set_option maxRecDepth 100000 in
theorem w_X0_stepsThroughParents_41 (V : kV p s mm args meth c cX0_stepsThroughParents RX0 6 (some .int) D cI cZ cO) {k mo : kS} {v4 : Int32} {v5 : Int32} {H : Heap} {locs : List Loc} {ls : Array Slot} {out : Int32} (hH : kHE s H locs D ad cI cZ cO k mo []) (hl : lv_has ls 6 [(4, .int v4), (5, .int v5)]) (hf : F_X0_stepsThroughParents_41 k v4 v5 = some out) : W p l e rm_X0_stepsThroughParents s mm args below meth c H locs 0 0 (kGi below args s D cI cZ cO ad out k mo 0 0) (F0 mm 41 ls []) := by
  have hx := V.1
  have hb := V.2.1
  refine lv_iload hx hb dX0_stepsThroughParents_41 (lv_at hl 1 rfl) ?_
  refine lv_iconst (v := (-1)) hx hb dX0_stepsThroughParents_43 (by decide) ?_
  refine lv_icmp_ne (tgt := 54) hx hb dX0_stepsThroughParents_44 (by decide) (fun hq => ?_) (fun hq => ?_)
  · have hf := kneg hq hf
    exact w_X0_stepsThroughParents_54 V hH (lv_sub hl [0, 1] rfl) hf
  · have hf := kpos hq hf
    exact w_X0_stepsThroughParents_47 V hH (lv_sub hl [0] rfl) hf
set_option maxHeartbeats 4000000 in
set_option maxRecDepth 100000 in
theorem w_X0_stepsThroughParents_30 (V : kV p s mm args meth c cX0_stepsThroughParents RX0 6 (some .int) D cI cZ cO) {k mo : kS} {v4 : Int32} {v5 : Int32} {H : Heap} {locs : List Loc} {ls : Array Slot} {out : Int32} (hH : kHE s H locs D ad cI cZ cO k mo []) (hl : lv_has ls 6 [(4, .int v4), (5, .int v5)]) (hf : F_X0_stepsThroughParents_30 k v4 v5 = some out) : W p l e rm_X0_stepsThroughParents s mm args below meth c H locs 0 0 (kGi below args s D cI cZ cO ad out k mo 0 0) (F0 mm 30 ls []) := by
  have hx := V.1
  have hb := V.2.1
  refine lv_iload hx hb dX0_stepsThroughParents_30 (lv_at hl 0 rfl) ?_
  refine lv_iconst (v := (-1)) hx hb dX0_stepsThroughParents_32 (by decide) ?_
  refine lv_icmp_ne (tgt := 41) hx hb dX0_stepsThroughParents_33 (by decide) (fun hq => ?_) (fun hq => ?_)
  · have hf := kneg hq hf
    exact w_X0_stepsThroughParents_41 V hH (lv_sub hl [0, 1] rfl) hf
  · have hf := kpos hq hf
    exact w_X0_stepsThroughParents_36 V hH (lv_sub hl [1] rfl) hf
set_option maxHeartbeats 4000000 in
set_option maxRecDepth 100000 in
theorem w_X0_stepsThroughParents_22 (V : kV p s mm args meth c cX0_stepsThroughParents RX0 6 (some .int) D cI cZ cO) {k mo : kS} {v4 : Int32} {v5 : Int32} {H : Heap} {locs : List Loc} {ls : Array Slot} {out : Int32} (hH : kHE s H locs D ad cI cZ cO k mo []) (hl : lv_has ls 6 [(4, .int v4), (5, .int v5)]) (hf : F_X0_stepsThroughParents_22 k v4 v5 = some out) : W p l e rm_X0_stepsThroughParents s mm args below meth c H locs 0 0 (kGi below args s D cI cZ cO ad out k mo 0 0) (F0 mm 22 ls []) := by
  have hx := V.1
  have hb := V.2.1
  refine lv_iload hx hb dX0_stepsThroughParents_22 (lv_at hl 1 rfl) ?_
  refine lv_iconst (v := (-1)) hx hb dX0_stepsThroughParents_24 (by decide) ?_
  refine lv_icmp_ne (tgt := 30) hx hb dX0_stepsThroughParents_25 (by decide) (fun hq => ?_) (fun hq => ?_)
  · have hf := kneg hq hf
    exact w_X0_stepsThroughParents_30 V hH (lv_sub hl [0, 1] rfl) hf
  · have hf := kpos hq hf
    exact w_X0_stepsThroughParents_28 V hH (lv_sub hl [] rfl) hf
set_option maxHeartbeats 4000000 in
set_option maxRecDepth 100000 in
theorem w_X0_stepsThroughParents_0 (V : kV p s mm args meth c cX0_stepsThroughParents RX0 6 (some .int) D cI cZ cO) {k mo : kS} {v1 : Int32} {v2 : Int32} {v3 : Int32} {H : Heap} {locs : List Loc} {ls : Array Slot} {out : Int32} (hH : kHE s H locs D ad cI cZ cO k mo []) (hl : lv_has ls 6 [(0, .ref (ad 1)), (1, .int v1), (2, .int v2), (3, .int v3)]) (hf : F_X0_stepsThroughParents_0 k v1 v2 v3 = some out) : W p l e rm_X0_stepsThroughParents s mm args below meth c H locs 0 0 (kGi below args s D cI cZ cO ad out k mo 0 0) (F0 mm 0 ls []) := by
  have hx := V.1
  have hb := V.2.1
  refine lv_aload_n hx hb dX0_stepsThroughParents_0 rfl (lv_at hl 0 rfl) ?_
  refine lv_iload_n hx hb dX0_stepsThroughParents_1 rfl (lv_at hl 1 rfl) ?_
  refine lv_iload_n hx hb dX0_stepsThroughParents_2 rfl (lv_at hl 3 rfl) ?_
  obtain ⟨x0_1, hx0_1, hf⟩ := kbind hf
  refine kr_calli0 hH (kr_runV (as := [.int v1, .int v3]) (rest := []) (pl := 1) V hH kYX0_stepsBetween kl_X0_42 (c_X0_stepsBetween l _ _ hx0_1 _) rfl rfl ⟨Nat.le_of_ble_eq_true rfl, Nat.le_of_ble_eq_true rfl⟩ (by decide) kE_1 rfl rfl hl.1 (Nat.le_of_ble_eq_true rfl) dX0_stepsThroughParents_3 ⟨Nat.le_refl _, Nat.le_refl _⟩ rfl) (fun H locs hH => ?_)
  refine lv_istore (lv' := [(4, .int x0_1), (0, .ref (ad 1)), (1, .int v1), (2, .int v2), (3, .int v3)]) hx hb dX0_stepsThroughParents_6 hl (by decide) rfl (fun ls hl => ?_)
  refine lv_aload_n hx hb dX0_stepsThroughParents_8 rfl (lv_at hl 1 rfl) ?_
  refine lv_iload_n hx hb dX0_stepsThroughParents_9 rfl (lv_at hl 3 rfl) ?_
  refine lv_iload_n hx hb dX0_stepsThroughParents_10 rfl (lv_at hl 4 rfl) ?_
  obtain ⟨x0_2, hx0_2, hf⟩ := kbind hf
  refine kr_calli0 hH (kr_runV (as := [.int v2, .int v3]) (rest := []) (pl := 1) V hH kYX0_stepsBetween kl_X0_42 (c_X0_stepsBetween l _ _ hx0_2 _) rfl rfl ⟨Nat.le_of_ble_eq_true rfl, Nat.le_of_ble_eq_true rfl⟩ (by decide) kE_1 rfl rfl hl.1 (Nat.le_of_ble_eq_true rfl) dX0_stepsThroughParents_11 ⟨Nat.le_refl _, Nat.le_refl _⟩ rfl) (fun H locs hH => ?_)
  refine lv_istore (lv' := [(5, .int x0_2), (4, .int x0_1), (0, .ref (ad 1)), (1, .int v1), (2, .int v2), (3, .int v3)]) hx hb dX0_stepsThroughParents_14 hl (by decide) rfl (fun ls hl => ?_)
  refine lv_iload hx hb dX0_stepsThroughParents_16 (lv_at hl 1 rfl) ?_
  refine lv_iconst (v := (-1)) hx hb dX0_stepsThroughParents_18 (by decide) ?_
  refine lv_icmp_ne (tgt := 30) hx hb dX0_stepsThroughParents_19 (by decide) (fun hq => ?_) (fun hq => ?_)
  · have hf := kneg hq hf
    exact w_X0_stepsThroughParents_30 V hH (lv_sub hl [1, 0] rfl) hf
  · have hf := kpos hq hf
    exact w_X0_stepsThroughParents_22 V hH (lv_sub hl [1, 0] rfl) hf
set_option maxHeartbeats 4000000 in
set_option maxRecDepth 100000 in
theorem c_X0_stepsThroughParents (l : Launch) {D : va_G} {cI cZ cO : ClassId} {ad : Nat → Nat} {k mo : kS} (v1 : Int32) (v2 : Int32) (v3 : Int32) {out : Int32} (hf : F_X0_stepsThroughParents k v1 v2 v3 = some out) (sz : Nat) : Met l yX0_stepsThroughParents (Cond.code yX0_stepsThroughParents cX0_stepsThroughParents 6 (some .int) :: kWA) rm_X0_stepsThroughParents (kP [.ref (ad 1), .int v1, .int v2, .int v3] D cI cZ cO ad (kE ad cI cZ cO k mo) sz) (kQi out D cI cZ cO ad (kE ad cI cZ cO k mo) sz) 0 0 (fA ad sz) := by
  refine kr_met (as := [.ref (ad 1), .int v1, .int v2, .int v3]) (bytes := cX0_stepsThroughParents) (maxL := 6) (rt := (some .int)) (Qc := fun sz => kQi out D cI cZ cO ad (kE ad cI cZ cO k mo) sz) (lv := [(0, .ref (ad 1)), (1, .int v1), (2, .int v2), (3, .int v3)]) (by decide +kernel) (Nat.le_of_ble_eq_true rfl) rfl (fun p e s mm below meth c ls V hH hl => ?_) sz
  exact w_X0_stepsThroughParents_0 V hH (lv_sub hl [0, 1, 2, 3] rfl) hf
end
section
variable {p : Program} {l : Launch} {e : Env} {s : State} {mm : MethodId} {args : Array Value} {below : List Frame} {meth : Method} {c : Code} {D : va_G} {cI cZ cO : ClassId} {ad : Nat → Nat}
abbrev rm_X0_add : Room := { frames := 3, cells := 0, slots := 0, locals := 68 }
set_option maxHeartbeats 4000000 in
set_option maxRecDepth 100000 in
theorem w_X0_add_7 (V : kV p s mm args meth c cX0_add RX0 8 (some .int) D cI cZ cO) {mo : kS} {k : kS} {H : Heap} {locs : List Loc} {ls : Array Slot} {out : (Int32 × kS)} (hH : kHE s H locs D ad cI cZ cO k mo []) (hl : lv_has ls 8 []) (hf : F_X0_add_7 k = some out) : W p l e rm_X0_add s mm args below meth c H locs 0 0 (kGi below args s D cI cZ cO ad out.1 out.2 mo 0 0) (F0 mm 7 ls []) := by
  have hx := V.1
  have hb := V.2.1
  refine lv_iconst (v := (-1)) hx hb dX0_add_7 (by decide) ?_
  cases hf
  exact kr_iret V hH dX0_add_8
set_option maxHeartbeats 4000000 in
set_option maxRecDepth 100000 in
theorem w_X0_add_58 (V : kV p s mm args meth c cX0_add RX0 8 (some .int) D cI cZ cO) {mo : kS} {c51 : Int32 → Int32 → Int32 → Int32 → kS → Option ((Int32 × kS))} (hk51 : ∀ {v3 : Int32} {v4 : Int32} {v5 : Int32} {v6 : Int32} {k : kS} {H : Heap} {locs : List Loc} {ls : Array Slot} {out : (Int32 × kS)}, kHE s H locs D ad cI cZ cO k mo [] → lv_has ls 8 [(0, .ref (ad 1)), (3, .int v3), (4, .int v4), (5, .int v5), (6, .int v6)] → c51 v3 v4 v5 v6 k = some out → W p l e rm_X0_add s mm args below meth c H locs 0 0 (kGi below args s D cI cZ cO ad out.1 out.2 mo 0 0) (F0 mm 51 ls [])) {v3 : Int32} {v4 : Int32} {v5 : Int32} {v6 : Int32} {k : kS} {H : Heap} {locs : List Loc} {ls : Array Slot} {out : (Int32 × kS)} (hH : kHE s H locs D ad cI cZ cO k mo []) (hl : lv_has ls 8 [(0, .ref (ad 1)), (3, .int v3), (4, .int v4), (5, .int v5), (6, .int v6)]) (hf : F_X0_add_58 c51 v3 v4 v5 v6 k = some out) : W p l e rm_X0_add s mm args below meth c H locs 0 0 (kGi below args s D cI cZ cO ad out.1 out.2 mo 0 0) (F0 mm 58 ls []) := by
  have hx := V.1
  have hb := V.2.1
  refine lv_aload_n hx hb dX0_add_58 rfl (lv_at hl 0 rfl) ?_
  refine lv_iload_n hx hb dX0_add_59 rfl (lv_at hl 1 rfl) ?_
  refine lv_iload hx hb dX0_add_60 (lv_at hl 2 rfl) ?_
  refine lv_iload hx hb dX0_add_62 (lv_at hl 4 rfl) ?_
  obtain ⟨x58_1, hx58_1, hf⟩ := kbind hf
  refine kr_calli0 hH (kr_runV (as := [.int v3, .int v4, .int v6]) (rest := []) (pl := 1) V hH kYX0_stepsThroughParents kl_X0_38 (c_X0_stepsThroughParents l _ _ _ hx58_1 _) rfl rfl ⟨Nat.le_of_ble_eq_true rfl, Nat.le_of_ble_eq_true rfl⟩ (by decide) kE_1 rfl rfl hl.1 (Nat.le_of_ble_eq_true rfl) dX0_add_64 ⟨Nat.le_refl _, Nat.le_refl _⟩ rfl) (fun H locs hH => ?_)
  refine lv_istore (lv' := [(7, .int x58_1), (0, .ref (ad 1)), (3, .int v3), (4, .int v4), (5, .int v5), (6, .int v6)]) hx hb dX0_add_67 hl (by decide) rfl (fun ls hl => ?_)
  refine lv_aload_n hx hb dX0_add_69 rfl (lv_at hl 1 rfl) ?_
  refine kg_X0_31 V hH dX0_add_70 ?_
  refine lv_iload hx hb dX0_add_73 (lv_at hl 4 rfl) ?_
  obtain ⟨h58_2, hf⟩ := kif hf
  refine kr_aald V hH (q := 6) (by decide) kE_6 h58_2 dX0_add_75 ?_
  refine lv_iload hx hb dX0_add_76 (lv_at hl 5 rfl) ?_
  refine lv_iload hx hb dX0_add_78 (lv_at hl 0 rfl) ?_
  obtain ⟨h58_3, hf⟩ := kif hf
  refine kr_iastK V hH (q := (69 + v5.toNatClampNeg)) (kq_steps (kidx h58_2)) (fun _ => kE_stepsI) h58_3 dX0_add_80 (fun H locs hH => ?_)
  refine lv_aload_n hx hb dX0_add_81 rfl (lv_at hl 1 rfl) ?_
  refine kg_X0_31 V hH dX0_add_82 ?_
  refine lv_iload hx hb dX0_add_85 (lv_at hl 5 rfl) ?_
  obtain ⟨h58_4, hf⟩ := kif hf
  refine kr_aald V hH (q := 6) (by decide) kE_6 h58_4 dX0_add_87 ?_
  refine lv_iload hx hb dX0_add_88 (lv_at hl 4 rfl) ?_
  refine lv_iload hx hb dX0_add_90 (lv_at hl 0 rfl) ?_
  obtain ⟨h58_5, hf⟩ := kif hf
  refine kr_iastK V hH (q := (69 + v6.toNatClampNeg)) (kq_steps (kidx h58_4)) (fun _ => kE_stepsI) h58_5 dX0_add_92 (fun H locs hH => ?_)
  refine lv_iinc (v := (v6 + 1)) (lv' := [(6, .int (v6 + 1)), (7, .int x58_1), (0, .ref (ad 1)), (3, .int v3), (4, .int v4), (5, .int v5)]) hx hb dX0_add_93 hl (k := 5) rfl rfl (by decide) rfl (fun ls hl => ?_)
  refine lv_goto (tgt := 51) hx hb dX0_add_96 (by decide) ?_
  exact hk51 hH (lv_sub hl [2, 3, 4, 5, 0] rfl) hf
set_option maxHeartbeats 4000000 in
set_option maxRecDepth 100000 in
theorem w_X0_add_99 (V : kV p s mm args meth c cX0_add RX0 8 (some .int) D cI cZ cO) {mo : kS} {v5 : Int32} {k : kS} {H : Heap} {locs : List Loc} {ls : Array Slot} {out : (Int32 × kS)} (hH : kHE s H locs D ad cI cZ cO k mo []) (hl : lv_has ls 8 [(0, .ref (ad 1)), (5, .int v5)]) (hf : F_X0_add_99 v5 k = some out) : W p l e rm_X0_add s mm args below meth c H locs 0 0 (kGi below args s D cI cZ cO ad out.1 out.2 mo 0 0) (F0 mm 99 ls []) := by
  have hx := V.1
  have hb := V.2.1
  refine lv_aload_n hx hb dX0_add_99 rfl (lv_at hl 0 rfl) ?_
  refine kg_X0_31 V hH dX0_add_100 ?_
  refine lv_iload hx hb dX0_add_103 (lv_at hl 1 rfl) ?_
  obtain ⟨h99_1, hf⟩ := kif hf
  refine kr_aald V hH (q := 6) (by decide) kE_6 h99_1 dX0_add_105 ?_
  refine lv_iload hx hb dX0_add_106 (lv_at hl 1 rfl) ?_
  refine lv_iconst (v := 0) hx hb dX0_add_108 (by decide) ?_
  obtain ⟨h99_2, hf⟩ := kif hf
  refine kr_iastK V hH (q := (69 + v5.toNatClampNeg)) (kq_steps (kidx h99_1)) (fun _ => kE_stepsI) h99_2 dX0_add_109 (fun H locs hH => ?_)
  refine lv_aload_n hx hb dX0_add_110 rfl (lv_at hl 0 rfl) ?_
  refine lv_iload hx hb dX0_add_111 (lv_at hl 1 rfl) ?_
  refine lv_iconst (v := 1) hx hb dX0_add_113 (by decide) ?_
  refine lv_iadd hx hb dX0_add_114 ?_
  refine kp_X0_9 V hH dX0_add_115 (fun H locs hH => ?_)
  refine lv_iload hx hb dX0_add_118 (lv_at hl 1 rfl) ?_
  cases hf
  exact kr_iret V hH dX0_add_120
set_option maxHeartbeats 4000000 in
set_option maxRecDepth 100000 in
theorem w_X0_add_51 (V : kV p s mm args meth c cX0_add RX0 8 (some .int) D cI cZ cO) {mo : kS} : ∀ (n : Nat) {v3 : Int32} {v4 : Int32} {v5 : Int32} {v6 : Int32} {k : kS} {H : Heap} {locs : List Loc} {ls : Array Slot} {out : (Int32 × kS)}, kHE s H locs D ad cI cZ cO k mo [] → lv_has ls 8 [(0, .ref (ad 1)), (3, .int v3), (4, .int v4), (5, .int v5), (6, .int v6)] → F_X0_add_51 n v3 v4 v5 v6 k = some out → W p l e rm_X0_add s mm args below meth c H locs 0 0 (kGi below args s D cI cZ cO ad out.1 out.2 mo 0 0) (F0 mm 51 ls []) := by
  have hx := V.1
  have hb := V.2.1
  intro n
  induction n with
  | zero => intro _ _ _ _ _ _ _ _ _ hH hl hf; cases hf
  | succ n hk51 =>
    intro v3 v4 v5 v6 k H locs ls out hH hl hf
    refine lv_iload hx hb dX0_add_51 (lv_at hl 4 rfl) ?_
    refine lv_iload hx hb dX0_add_53 (lv_at hl 3 rfl) ?_
    refine lv_icmp_ge (tgt := 99) hx hb dX0_add_55 (by decide) (fun hq => ?_) (fun hq => ?_)
    · have hf := kpos hq hf
      exact w_X0_add_99 V hH (lv_sub hl [0, 3] rfl) hf
    · have hf := kneg hq hf
      exact w_X0_add_58 V hk51 hH (lv_sub hl [0, 1, 2, 3, 4] rfl) hf
set_option maxHeartbeats 4000000 in
set_option maxRecDepth 100000 in
theorem w_X0_add_9 (V : kV p s mm args meth c cX0_add RX0 8 (some .int) D cI cZ cO) {mo : kS} {v1 : Int32} {v2 : Int32} {v3 : Int32} {v4 : Int32} {k : kS} {H : Heap} {locs : List Loc} {ls : Array Slot} {out : (Int32 × kS)} (hH : kHE s H locs D ad cI cZ cO k mo []) (hl : lv_has ls 8 [(0, .ref (ad 1)), (1, .int v1), (2, .int v2), (3, .int v3), (4, .int v4)]) (hf : F_X0_add_9 v1 v2 v3 v4 k = some out) : W p l e rm_X0_add s mm args below meth c H locs 0 0 (kGi below args s D cI cZ cO ad out.1 out.2 mo 0 0) (F0 mm 9 ls []) := by
  have hx := V.1
  have hb := V.2.1
  refine lv_aload_n hx hb dX0_add_9 rfl (lv_at hl 0 rfl) ?_
  refine kg_X0_9 V hH dX0_add_10 ?_
  refine lv_istore (lv' := [(5, .int (k 1 0)), (0, .ref (ad 1)), (1, .int v1), (2, .int v2), (3, .int v3), (4, .int v4)]) hx hb dX0_add_13 hl (by decide) rfl (fun ls hl => ?_)
  refine lv_aload_n hx hb dX0_add_15 rfl (lv_at hl 1 rfl) ?_
  refine kg_X0_15 V hH dX0_add_16 ?_
  refine lv_iload hx hb dX0_add_19 (lv_at hl 0 rfl) ?_
  refine lv_iload_n hx hb dX0_add_21 rfl (lv_at hl 2 rfl) ?_
  obtain ⟨h9_1, hf⟩ := kif hf
  refine kr_zastK V hH (q := 2) (by decide) (fun _ => kE_2) h9_1 dX0_add_22 (fun H locs hH => ?_)
  refine lv_aload_n hx hb dX0_add_23 rfl (lv_at hl 1 rfl) ?_
  refine kg_X0_19 V hH dX0_add_24 ?_
  refine lv_iload hx hb dX0_add_27 (lv_at hl 0 rfl) ?_
  refine lv_iload_n hx hb dX0_add_29 rfl (lv_at hl 3 rfl) ?_
  obtain ⟨h9_2, hf⟩ := kif hf
  refine kr_iastK V hH (q := 3) (by decide) (fun _ => kE_3) h9_2 dX0_add_30 (fun H locs hH => ?_)
  refine lv_aload_n hx hb dX0_add_31 rfl (lv_at hl 1 rfl) ?_
  refine kg_X0_23 V hH dX0_add_32 ?_
  refine lv_iload hx hb dX0_add_35 (lv_at hl 0 rfl) ?_
  refine lv_iload_n hx hb dX0_add_37 rfl (lv_at hl 4 rfl) ?_
  obtain ⟨h9_3, hf⟩ := kif hf
  refine kr_iastK V hH (q := 4) (by decide) (fun _ => kE_4) h9_3 dX0_add_38 (fun H locs hH => ?_)
  refine lv_aload_n hx hb dX0_add_39 rfl (lv_at hl 1 rfl) ?_
  refine kg_X0_26 V hH dX0_add_40 ?_
  refine lv_iload hx hb dX0_add_43 (lv_at hl 0 rfl) ?_
  refine lv_iload hx hb dX0_add_45 (lv_at hl 5 rfl) ?_
  obtain ⟨h9_4, hf⟩ := kif hf
  refine kr_iastK V hH (q := 5) (by decide) (fun _ => kE_5) h9_4 dX0_add_47 (fun H locs hH => ?_)
  refine lv_iconst (v := 0) hx hb dX0_add_48 (by decide) ?_
  refine lv_istore (lv' := [(6, .int 0), (5, .int (k 1 0)), (0, .ref (ad 1)), (1, .int v1), (2, .int v2), (3, .int v3), (4, .int v4)]) hx hb dX0_add_49 hl (by decide) rfl (fun ls hl => ?_)
  exact w_X0_add_51 V kN hH (lv_sub hl [2, 5, 6, 1, 0] rfl) hf
set_option maxHeartbeats 4000000 in
set_option maxRecDepth 100000 in
theorem w_X0_add_0 (V : kV p s mm args meth c cX0_add RX0 8 (some .int) D cI cZ cO) {mo : kS} {v1 : Int32} {v2 : Int32} {v3 : Int32} {v4 : Int32} {k : kS} {H : Heap} {locs : List Loc} {ls : Array Slot} {out : (Int32 × kS)} (hH : kHE s H locs D ad cI cZ cO k mo []) (hl : lv_has ls 8 [(0, .ref (ad 1)), (1, .int v1), (2, .int v2), (3, .int v3), (4, .int v4)]) (hf : F_X0_add_0 v1 v2 v3 v4 k = some out) : W p l e rm_X0_add s mm args below meth c H locs 0 0 (kGi below args s D cI cZ cO ad out.1 out.2 mo 0 0) (F0 mm 0 ls []) := by
  have hx := V.1
  have hb := V.2.1
  refine lv_aload_n hx hb dX0_add_0 rfl (lv_at hl 0 rfl) ?_
  obtain ⟨x0_1, hx0_1, hf⟩ := kbind hf
  refine kr_calli0 hH (kr_runV (as := []) (rest := []) (pl := 1) V hH kYX0_isFull kl_X0_34 (c_X0_isFull l hx0_1 _) rfl rfl ⟨Nat.le_of_ble_eq_true rfl, Nat.le_of_ble_eq_true rfl⟩ (by decide) kE_1 rfl rfl hl.1 (Nat.le_of_ble_eq_true rfl) dX0_add_1 ⟨Nat.le_refl _, Nat.le_refl _⟩ rfl) (fun H locs hH => ?_)
  refine lv_if_eq (tgt := 9) hx hb dX0_add_4 (by decide) (fun hq => ?_) (fun hq => ?_)
  · have hf := kpos hq hf
    exact w_X0_add_9 V hH (lv_sub hl [0, 1, 2, 3, 4] rfl) hf
  · have hf := kneg hq hf
    exact w_X0_add_7 V hH (lv_sub hl [] rfl) hf
set_option maxHeartbeats 4000000 in
set_option maxRecDepth 100000 in
theorem c_X0_add (l : Launch) {D : va_G} {cI cZ cO : ClassId} {ad : Nat → Nat} {k mo : kS} (v1 : Int32) (v2 : Int32) (v3 : Int32) (v4 : Int32) {out : (Int32 × kS)} (hf : F_X0_add v1 v2 v3 v4 k = some out) (sz : Nat) : Met l yX0_add (Cond.code yX0_add cX0_add 8 (some .int) :: kWA) rm_X0_add (kP [.ref (ad 1), .int v1, .int v2, .int v3, .int v4] D cI cZ cO ad (kE ad cI cZ cO k mo) sz) (kQi out.1 D cI cZ cO ad (kE ad cI cZ cO out.2 mo) sz) 0 0 (fA ad sz) := by
  refine kr_met (as := [.ref (ad 1), .int v1, .int v2, .int v3, .int v4]) (bytes := cX0_add) (maxL := 8) (rt := (some .int)) (Qc := fun sz => kQi out.1 D cI cZ cO ad (kE ad cI cZ cO out.2 mo) sz) (lv := [(0, .ref (ad 1)), (1, .int v1), (2, .int v2), (3, .int v3), (4, .int v4)]) (by decide +kernel) (Nat.le_of_ble_eq_true rfl) rfl (fun p e s mm below meth c ls V hH hl => ?_) sz
  exact w_X0_add_0 V hH (lv_sub hl [0, 1, 2, 3, 4] rfl) hf
end
section
variable {p : Program} {l : Launch} {e : Env} {s : State} {mm : MethodId} {args : Array Value} {below : List Frame} {meth : Method} {c : Code} {D : va_G} {cI cZ cO : ClassId} {ad : Nat → Nat}
abbrev rm_X0_isBefore : Room := { frames := 0, cells := 0, slots := 0, locals := 0 }
set_option maxHeartbeats 4000000 in
set_option maxRecDepth 100000 in
theorem w_X0_isBefore_40 (V : kV p s mm args meth c cX0_isBefore RX0 3 (some .boolean) D cI cZ cO) {k mo : kS} {s0 : Int32} {H : Heap} {locs : List Loc} {ls : Array Slot} {out : Int32} (hH : kHE s H locs D ad cI cZ cO k mo []) (hl : lv_has ls 3 []) (hf : F_X0_isBefore_40 k s0 = some out) : W p l e rm_X0_isBefore s mm args below meth c H locs 0 0 (kGi below args s D cI cZ cO ad out k mo 0 0) (F0 mm 40 ls [.int s0]) := by
  have hx := V.1
  have hb := V.2.1
  obtain ⟨h40_1, hf⟩ := kif hf
  cases hf
  exact kr_zret V hH (Decidable.not_not.mp h40_1) dX0_isBefore_40
set_option maxHeartbeats 4000000 in
set_option maxRecDepth 100000 in
theorem w_X0_isBefore_35 (V : kV p s mm args meth c cX0_isBefore RX0 3 (some .boolean) D cI cZ cO) {k mo : kS} {H : Heap} {locs : List Loc} {ls : Array Slot} {out : Int32} (hH : kHE s H locs D ad cI cZ cO k mo []) (hl : lv_has ls 3 []) (hf : F_X0_isBefore_35 k = some out) : W p l e rm_X0_isBefore s mm args below meth c H locs 0 0 (kGi below args s D cI cZ cO ad out k mo 0 0) (F0 mm 35 ls []) := by
  have hx := V.1
  have hb := V.2.1
  refine lv_iconst (v := 1) hx hb dX0_isBefore_35 (by decide) ?_
  refine lv_goto (tgt := 40) hx hb dX0_isBefore_36 (by decide) ?_
  exact w_X0_isBefore_40 V hH (lv_sub hl [] rfl) hf
set_option maxHeartbeats 4000000 in
set_option maxRecDepth 100000 in
theorem w_X0_isBefore_39 (V : kV p s mm args meth c cX0_isBefore RX0 3 (some .boolean) D cI cZ cO) {k mo : kS} {H : Heap} {locs : List Loc} {ls : Array Slot} {out : Int32} (hH : kHE s H locs D ad cI cZ cO k mo []) (hl : lv_has ls 3 []) (hf : F_X0_isBefore_39 k = some out) : W p l e rm_X0_isBefore s mm args below meth c H locs 0 0 (kGi below args s D cI cZ cO ad out k mo 0 0) (F0 mm 39 ls []) := by
  have hx := V.1
  have hb := V.2.1
  refine lv_iconst (v := 0) hx hb dX0_isBefore_39 (by decide) ?_
  exact w_X0_isBefore_40 V hH (lv_sub hl [] rfl) hf
set_option maxHeartbeats 4000000 in
set_option maxRecDepth 100000 in
theorem w_X0_isBefore_30 (V : kV p s mm args meth c cX0_isBefore RX0 3 (some .boolean) D cI cZ cO) {k mo : kS} {v1 : Int32} {v2 : Int32} {H : Heap} {locs : List Loc} {ls : Array Slot} {out : Int32} (hH : kHE s H locs D ad cI cZ cO k mo []) (hl : lv_has ls 3 [(1, .int v1), (2, .int v2)]) (hf : F_X0_isBefore_30 k v1 v2 = some out) : W p l e rm_X0_isBefore s mm args below meth c H locs 0 0 (kGi below args s D cI cZ cO ad out k mo 0 0) (F0 mm 30 ls []) := by
  have hx := V.1
  have hb := V.2.1
  refine lv_iload_n hx hb dX0_isBefore_30 rfl (lv_at hl 0 rfl) ?_
  refine lv_iload_n hx hb dX0_isBefore_31 rfl (lv_at hl 1 rfl) ?_
  refine lv_icmp_ge (tgt := 39) hx hb dX0_isBefore_32 (by decide) (fun hq => ?_) (fun hq => ?_)
  · have hf := kpos hq hf
    exact w_X0_isBefore_39 V hH (lv_sub hl [] rfl) hf
  · have hf := kneg hq hf
    exact w_X0_isBefore_35 V hH (lv_sub hl [] rfl) hf
set_option maxHeartbeats 4000000 in
set_option maxRecDepth 100000 in
theorem w_X0_isBefore_15 (V : kV p s mm args meth c cX0_isBefore RX0 3 (some .boolean) D cI cZ cO) {k mo : kS} {v1 : Int32} {v2 : Int32} {H : Heap} {locs : List Loc} {ls : Array Slot} {out : Int32} (hH : kHE s H locs D ad cI cZ cO k mo []) (hl : lv_has ls 3 [(0, .ref (ad 1)), (1, .int v1), (2, .int v2)]) (hf : F_X0_isBefore_15 k v1 v2 = some out) : W p l e rm_X0_isBefore s mm args below meth c H locs 0 0 (kGi below args s D cI cZ cO ad out k mo 0 0) (F0 mm 15 ls []) := by
  have hx := V.1
  have hb := V.2.1
  refine lv_aload_n hx hb dX0_isBefore_15 rfl (lv_at hl 0 rfl) ?_
  refine kg_X0_19 V hH dX0_isBefore_16 ?_
  refine lv_iload_n hx hb dX0_isBefore_19 rfl (lv_at hl 1 rfl) ?_
  obtain ⟨h15_1, hf⟩ := kif hf
  refine kr_iald V hH (q := 3) (by decide) kE_3 h15_1 dX0_isBefore_20 ?_
  refine lv_aload_n hx hb dX0_isBefore_21 rfl (lv_at hl 0 rfl) ?_
  refine kg_X0_19 V hH dX0_isBefore_22 ?_
  refine lv_iload_n hx hb dX0_isBefore_25 rfl (lv_at hl 2 rfl) ?_
  obtain ⟨h15_2, hf⟩ := kif hf
  refine kr_iald V hH (q := 3) (by decide) kE_3 h15_2 dX0_isBefore_26 ?_
  refine lv_icmp_ne (tgt := 39) hx hb dX0_isBefore_27 (by decide) (fun hq => ?_) (fun hq => ?_)
  · have hf := kneg hq hf
    exact w_X0_isBefore_39 V hH (lv_sub hl [] rfl) hf
  · have hf := kpos hq hf
    exact w_X0_isBefore_30 V hH (lv_sub hl [1, 2] rfl) hf
set_option maxHeartbeats 4000000 in
set_option maxRecDepth 100000 in
theorem w_X0_isBefore_0 (V : kV p s mm args meth c cX0_isBefore RX0 3 (some .boolean) D cI cZ cO) {k mo : kS} {v1 : Int32} {v2 : Int32} {H : Heap} {locs : List Loc} {ls : Array Slot} {out : Int32} (hH : kHE s H locs D ad cI cZ cO k mo []) (hl : lv_has ls 3 [(0, .ref (ad 1)), (1, .int v1), (2, .int v2)]) (hf : F_X0_isBefore_0 k v1 v2 = some out) : W p l e rm_X0_isBefore s mm args below meth c H locs 0 0 (kGi below args s D cI cZ cO ad out k mo 0 0) (F0 mm 0 ls []) := by
  have hx := V.1
  have hb := V.2.1
  refine lv_aload_n hx hb dX0_isBefore_0 rfl (lv_at hl 0 rfl) ?_
  refine kg_X0_19 V hH dX0_isBefore_1 ?_
  refine lv_iload_n hx hb dX0_isBefore_4 rfl (lv_at hl 1 rfl) ?_
  obtain ⟨h0_1, hf⟩ := kif hf
  refine kr_iald V hH (q := 3) (by decide) kE_3 h0_1 dX0_isBefore_5 ?_
  refine lv_aload_n hx hb dX0_isBefore_6 rfl (lv_at hl 0 rfl) ?_
  refine kg_X0_19 V hH dX0_isBefore_7 ?_
  refine lv_iload_n hx hb dX0_isBefore_10 rfl (lv_at hl 2 rfl) ?_
  obtain ⟨h0_2, hf⟩ := kif hf
  refine kr_iald V hH (q := 3) (by decide) kE_3 h0_2 dX0_isBefore_11 ?_
  refine lv_icmp_lt (tgt := 35) hx hb dX0_isBefore_12 (by decide) (fun hq => ?_) (fun hq => ?_)
  · have hf := kpos hq hf
    exact w_X0_isBefore_35 V hH (lv_sub hl [] rfl) hf
  · have hf := kneg hq hf
    exact w_X0_isBefore_15 V hH (lv_sub hl [0, 1, 2] rfl) hf
set_option maxHeartbeats 4000000 in
set_option maxRecDepth 100000 in
theorem c_X0_isBefore (l : Launch) {D : va_G} {cI cZ cO : ClassId} {ad : Nat → Nat} {k mo : kS} (v1 : Int32) (v2 : Int32) {out : Int32} (hf : F_X0_isBefore k v1 v2 = some out) (sz : Nat) : Met l yX0_isBefore (Cond.code yX0_isBefore cX0_isBefore 3 (some .boolean) :: kWA) rm_X0_isBefore (kP [.ref (ad 1), .int v1, .int v2] D cI cZ cO ad (kE ad cI cZ cO k mo) sz) (kQi out D cI cZ cO ad (kE ad cI cZ cO k mo) sz) 0 0 (fA ad sz) := by
  refine kr_met (as := [.ref (ad 1), .int v1, .int v2]) (bytes := cX0_isBefore) (maxL := 3) (rt := (some .boolean)) (Qc := fun sz => kQi out D cI cZ cO ad (kE ad cI cZ cO k mo) sz) (lv := [(0, .ref (ad 1)), (1, .int v1), (2, .int v2)]) (by decide +kernel) (Nat.le_of_ble_eq_true rfl) rfl (fun p e s mm below meth c ls V hH hl => ?_) sz
  exact w_X0_isBefore_0 V hH (lv_sub hl [0, 1, 2] rfl) hf
end
section
variable {p : Program} {l : Launch} {e : Env} {s : State} {mm : MethodId} {args : Array Value} {below : List Frame} {meth : Method} {c : Code} {D : va_G} {cI cZ cO : ClassId} {ad : Nat → Nat}
abbrev rm_X0_isAhead : Room := { frames := 1, cells := 0, slots := 0, locals := 22 }
set_option maxHeartbeats 4000000 in
set_option maxRecDepth 100000 in
theorem w_X0_isAhead_19 (V : kV p s mm args meth c cX0_isAhead RX0 4 (some .boolean) D cI cZ cO) {k mo : kS} {v1 : Int32} {H : Heap} {locs : List Loc} {ls : Array Slot} {out : Int32} (hH : kHE s H locs D ad cI cZ cO k mo []) (hl : lv_has ls 4 [(0, .ref (ad 1)), (1, .int v1)]) (hf : F_X0_isAhead_19 k v1 = some out) : W p l e rm_X0_isAhead s mm args below meth c H locs 0 0 (kGi below args s D cI cZ cO ad out k mo 0 0) (F0 mm 19 ls []) := by
  have hx := V.1
  have hb := V.2.1
  refine lv_aload_n hx hb dX0_isAhead_19 rfl (lv_at hl 0 rfl) ?_
  refine kg_X0_15 V hH dX0_isAhead_20 ?_
  refine lv_iload_n hx hb dX0_isAhead_23 rfl (lv_at hl 1 rfl) ?_
  obtain ⟨h19_1, hf⟩ := kif hf
  refine kr_zald V hH (q := 2) (by decide) kE_2 h19_1 dX0_isAhead_24 ?_
  obtain ⟨h19_2, hf⟩ := kif hf
  cases hf
  exact kr_zret V hH (Decidable.not_not.mp h19_2) dX0_isAhead_25
set_option maxHeartbeats 4000000 in
set_option maxRecDepth 100000 in
theorem w_X0_isAhead_35 (V : kV p s mm args meth c cX0_isAhead RX0 4 (some .boolean) D cI cZ cO) {k mo : kS} {v1 : Int32} {v2 : Int32} {H : Heap} {locs : List Loc} {ls : Array Slot} {out : Int32} (hH : kHE s H locs D ad cI cZ cO k mo []) (hl : lv_has ls 4 [(0, .ref (ad 1)), (1, .int v1), (2, .int v2)]) (hf : F_X0_isAhead_35 k v1 v2 = some out) : W p l e rm_X0_isAhead s mm args below meth c H locs 0 0 (kGi below args s D cI cZ cO ad out k mo 0 0) (F0 mm 35 ls []) := by
  have hx := V.1
  have hb := V.2.1
  refine lv_aload_n hx hb dX0_isAhead_35 rfl (lv_at hl 0 rfl) ?_
  refine lv_iload_n hx hb dX0_isAhead_36 rfl (lv_at hl 1 rfl) ?_
  refine lv_iload_n hx hb dX0_isAhead_37 rfl (lv_at hl 2 rfl) ?_
  obtain ⟨x35_1, hx35_1, hf⟩ := kbind hf
  refine kr_calli0 hH (kr_runV (as := [.int v1, .int v2]) (rest := []) (pl := 1) V hH kYX0_isBefore kl_X0_55 (c_X0_isBefore l _ _ hx35_1 _) rfl rfl ⟨Nat.le_of_ble_eq_true rfl, Nat.le_of_ble_eq_true rfl⟩ (by decide) kE_1 rfl rfl hl.1 (Nat.le_of_ble_eq_true rfl) dX0_isAhead_38 ⟨Nat.le_refl _, Nat.le_refl _⟩ rfl) (fun H locs hH => ?_)
  obtain ⟨h35_2, hf⟩ := kif hf
  cases hf
  exact kr_zret V hH (Decidable.not_not.mp h35_2) dX0_isAhead_41
set_option maxHeartbeats 4000000 in
set_option maxRecDepth 100000 in
theorem w_X0_isAhead_42 (V : kV p s mm args meth c cX0_isAhead RX0 4 (some .boolean) D cI cZ cO) {k mo : kS} {v1 : Int32} {v2 : Int32} {H : Heap} {locs : List Loc} {ls : Array Slot} {out : Int32} (hH : kHE s H locs D ad cI cZ cO k mo []) (hl : lv_has ls 4 [(0, .ref (ad 1)), (1, .int v1), (2, .int v2)]) (hf : F_X0_isAhead_42 k v1 v2 = some out) : W p l e rm_X0_isAhead s mm args below meth c H locs 0 0 (kGi below args s D cI cZ cO ad out k mo 0 0) (F0 mm 42 ls []) := by
  have hx := V.1
  have hb := V.2.1
  refine lv_aload_n hx hb dX0_isAhead_42 rfl (lv_at hl 0 rfl) ?_
  refine lv_iload_n hx hb dX0_isAhead_43 rfl (lv_at hl 2 rfl) ?_
  refine lv_iload_n hx hb dX0_isAhead_44 rfl (lv_at hl 1 rfl) ?_
  obtain ⟨x42_1, hx42_1, hf⟩ := kbind hf
  refine kr_calli0 hH (kr_runV (as := [.int v2, .int v1]) (rest := []) (pl := 1) V hH kYX0_isBefore kl_X0_55 (c_X0_isBefore l _ _ hx42_1 _) rfl rfl ⟨Nat.le_of_ble_eq_true rfl, Nat.le_of_ble_eq_true rfl⟩ (by decide) kE_1 rfl rfl hl.1 (Nat.le_of_ble_eq_true rfl) dX0_isAhead_45 ⟨Nat.le_refl _, Nat.le_refl _⟩ rfl) (fun H locs hH => ?_)
  obtain ⟨h42_2, hf⟩ := kif hf
  cases hf
  exact kr_zret V hH (Decidable.not_not.mp h42_2) dX0_isAhead_48
set_option maxHeartbeats 4000000 in
set_option maxRecDepth 100000 in
theorem w_X0_isAhead_30 (V : kV p s mm args meth c cX0_isAhead RX0 4 (some .boolean) D cI cZ cO) {k mo : kS} {v1 : Int32} {v2 : Int32} {v3 : Int32} {H : Heap} {locs : List Loc} {ls : Array Slot} {out : Int32} (hH : kHE s H locs D ad cI cZ cO k mo []) (hl : lv_has ls 4 [(0, .ref (ad 1)), (1, .int v1), (2, .int v2), (3, .int v3)]) (hf : F_X0_isAhead_30 k v1 v2 v3 = some out) : W p l e rm_X0_isAhead s mm args below meth c H locs 0 0 (kGi below args s D cI cZ cO ad out k mo 0 0) (F0 mm 30 ls []) := by
  have hx := V.1
  have hb := V.2.1
  refine lv_iload_n hx hb dX0_isAhead_30 rfl (lv_at hl 3 rfl) ?_
  refine lv_iconst (v := 1) hx hb dX0_isAhead_31 (by decide) ?_
  refine lv_icmp_ne (tgt := 42) hx hb dX0_isAhead_32 (by decide) (fun hq => ?_) (fun hq => ?_)
  · have hf := kneg hq hf
    exact w_X0_isAhead_42 V hH (lv_sub hl [0, 1, 2] rfl) hf
  · have hf := kpos hq hf
    exact w_X0_isAhead_35 V hH (lv_sub hl [0, 1, 2] rfl) hf
set_option maxHeartbeats 4000000 in
set_option maxRecDepth 100000 in
theorem w_X0_isAhead_26 (V : kV p s mm args meth c cX0_isAhead RX0 4 (some .boolean) D cI cZ cO) {k mo : kS} {v1 : Int32} {v2 : Int32} {v3 : Int32} {H : Heap} {locs : List Loc} {ls : Array Slot} {out : Int32} (hH : kHE s H locs D ad cI cZ cO k mo []) (hl : lv_has ls 4 [(0, .ref (ad 1)), (1, .int v1), (2, .int v2), (3, .int v3)]) (hf : F_X0_isAhead_26 k v1 v2 v3 = some out) : W p l e rm_X0_isAhead s mm args below meth c H locs 0 0 (kGi below args s D cI cZ cO ad out k mo 0 0) (F0 mm 26 ls []) := by
  have hx := V.1
  have hb := V.2.1
  refine lv_iload_n hx hb dX0_isAhead_26 rfl (lv_at hl 3 rfl) ?_
  refine lv_if_eq (tgt := 35) hx hb dX0_isAhead_27 (by decide) (fun hq => ?_) (fun hq => ?_)
  · have hf := kpos hq hf
    exact w_X0_isAhead_35 V hH (lv_sub hl [0, 1, 2] rfl) hf
  · have hf := kneg hq hf
    exact w_X0_isAhead_30 V hH (lv_sub hl [0, 1, 2, 3] rfl) hf
set_option maxHeartbeats 4000000 in
set_option maxRecDepth 100000 in
theorem w_X0_isAhead_4 (V : kV p s mm args meth c cX0_isAhead RX0 4 (some .boolean) D cI cZ cO) {k mo : kS} {v1 : Int32} {v2 : Int32} {v3 : Int32} {H : Heap} {locs : List Loc} {ls : Array Slot} {out : Int32} (hH : kHE s H locs D ad cI cZ cO k mo []) (hl : lv_has ls 4 [(0, .ref (ad 1)), (1, .int v1), (2, .int v2), (3, .int v3)]) (hf : F_X0_isAhead_4 k v1 v2 v3 = some out) : W p l e rm_X0_isAhead s mm args below meth c H locs 0 0 (kGi below args s D cI cZ cO ad out k mo 0 0) (F0 mm 4 ls []) := by
  have hx := V.1
  have hb := V.2.1
  refine lv_aload_n hx hb dX0_isAhead_4 rfl (lv_at hl 0 rfl) ?_
  refine kg_X0_15 V hH dX0_isAhead_5 ?_
  refine lv_iload_n hx hb dX0_isAhead_8 rfl (lv_at hl 1 rfl) ?_
  obtain ⟨h4_1, hf⟩ := kif hf
  refine kr_zald V hH (q := 2) (by decide) kE_2 h4_1 dX0_isAhead_9 ?_
  refine lv_aload_n hx hb dX0_isAhead_10 rfl (lv_at hl 0 rfl) ?_
  refine kg_X0_15 V hH dX0_isAhead_11 ?_
  refine lv_iload_n hx hb dX0_isAhead_14 rfl (lv_at hl 2 rfl) ?_
  obtain ⟨h4_2, hf⟩ := kif hf
  refine kr_zald V hH (q := 2) (by decide) kE_2 h4_2 dX0_isAhead_15 ?_
  refine lv_icmp_eq (tgt := 26) hx hb dX0_isAhead_16 (by decide) (fun hq => ?_) (fun hq => ?_)
  · have hf := kpos hq hf
    exact w_X0_isAhead_26 V hH (lv_sub hl [0, 1, 2, 3] rfl) hf
  · have hf := kneg hq hf
    exact w_X0_isAhead_19 V hH (lv_sub hl [0, 1] rfl) hf
set_option maxHeartbeats 4000000 in
set_option maxRecDepth 100000 in
theorem w_X0_isAhead_0 (V : kV p s mm args meth c cX0_isAhead RX0 4 (some .boolean) D cI cZ cO) {k mo : kS} {v1 : Int32} {v2 : Int32} {v3 : Int32} {H : Heap} {locs : List Loc} {ls : Array Slot} {out : Int32} (hH : kHE s H locs D ad cI cZ cO k mo []) (hl : lv_has ls 4 [(0, .ref (ad 1)), (1, .int v1), (2, .int v2), (3, .int v3)]) (hf : F_X0_isAhead_0 k v1 v2 v3 = some out) : W p l e rm_X0_isAhead s mm args below meth c H locs 0 0 (kGi below args s D cI cZ cO ad out k mo 0 0) (F0 mm 0 ls []) := by
  have hx := V.1
  have hb := V.2.1
  refine lv_iload_n hx hb dX0_isAhead_0 rfl (lv_at hl 3 rfl) ?_
  refine lv_if_ne (tgt := 26) hx hb dX0_isAhead_1 (by decide) (fun hq => ?_) (fun hq => ?_)
  · have hf := kneg hq hf
    exact w_X0_isAhead_26 V hH (lv_sub hl [0, 1, 2, 3] rfl) hf
  · have hf := kpos hq hf
    exact w_X0_isAhead_4 V hH (lv_sub hl [0, 1, 2, 3] rfl) hf
set_option maxHeartbeats 4000000 in
set_option maxRecDepth 100000 in
theorem c_X0_isAhead (l : Launch) {D : va_G} {cI cZ cO : ClassId} {ad : Nat → Nat} {k mo : kS} (v1 : Int32) (v2 : Int32) (v3 : Int32) {out : Int32} (hf : F_X0_isAhead k v1 v2 v3 = some out) (sz : Nat) : Met l yX0_isAhead (Cond.code yX0_isAhead cX0_isAhead 4 (some .boolean) :: kWA) rm_X0_isAhead (kP [.ref (ad 1), .int v1, .int v2, .int v3] D cI cZ cO ad (kE ad cI cZ cO k mo) sz) (kQi out D cI cZ cO ad (kE ad cI cZ cO k mo) sz) 0 0 (fA ad sz) := by
  refine kr_met (as := [.ref (ad 1), .int v1, .int v2, .int v3]) (bytes := cX0_isAhead) (maxL := 4) (rt := (some .boolean)) (Qc := fun sz => kQi out D cI cZ cO ad (kE ad cI cZ cO k mo) sz) (lv := [(0, .ref (ad 1)), (1, .int v1), (2, .int v2), (3, .int v3)]) (by decide +kernel) (Nat.le_of_ble_eq_true rfl) rfl (fun p e s mm below meth c ls V hH hl => ?_) sz
  exact w_X0_isAhead_0 V hH (lv_sub hl [0, 1, 2, 3] rfl) hf
end
section
variable {p : Program} {l : Launch} {e : Env} {s : State} {mm : MethodId} {args : Array Value} {below : List Frame} {meth : Method} {c : Code} {D : va_G} {cI cZ cO : ClassId} {ad : Nat → Nat}
abbrev rm_X0_childrenOf : Room := { frames := 0, cells := 0, slots := 0, locals := 0 }
set_option maxHeartbeats 4000000 in
set_option maxRecDepth 100000 in
theorem w_X0_childrenOf_35 (V : kV p s mm args meth c cX0_childrenOf RX0 4 (some .int) D cI cZ cO) {k mo : kS} {c4 : Int32 → Int32 → Int32 → Option (Int32)} (hk4 : ∀ {v1 : Int32} {v2 : Int32} {v3 : Int32} {H : Heap} {locs : List Loc} {ls : Array Slot} {out : Int32}, kHE s H locs D ad cI cZ cO k mo [] → lv_has ls 4 [(0, .ref (ad 1)), (1, .int v1), (2, .int v2), (3, .int v3)] → c4 v1 v2 v3 = some out → W p l e rm_X0_childrenOf s mm args below meth c H locs 0 0 (kGi below args s D cI cZ cO ad out k mo 0 0) (F0 mm 4 ls [])) {v1 : Int32} {v2 : Int32} {v3 : Int32} {H : Heap} {locs : List Loc} {ls : Array Slot} {out : Int32} (hH : kHE s H locs D ad cI cZ cO k mo []) (hl : lv_has ls 4 [(0, .ref (ad 1)), (1, .int v1), (2, .int v2), (3, .int v3)]) (hf : F_X0_childrenOf_35 k c4 v1 v2 v3 = some out) : W p l e rm_X0_childrenOf s mm args below meth c H locs 0 0 (kGi below args s D cI cZ cO ad out k mo 0 0) (F0 mm 35 ls []) := by
  have hx := V.1
  have hb := V.2.1
  refine lv_iinc (v := (v3 + 1)) (lv' := [(3, .int (v3 + 1)), (0, .ref (ad 1)), (1, .int v1), (2, .int v2)]) hx hb dX0_childrenOf_35 hl (k := 3) rfl rfl (by decide) rfl (fun ls hl => ?_)
  refine lv_goto (tgt := 4) hx hb dX0_childrenOf_38 (by decide) ?_
  exact hk4 hH (lv_sub hl [1, 2, 3, 0] rfl) hf
set_option maxHeartbeats 4000000 in
set_option maxRecDepth 100000 in
theorem w_X0_childrenOf_32 (V : kV p s mm args meth c cX0_childrenOf RX0 4 (some .int) D cI cZ cO) {k mo : kS} {c4 : Int32 → Int32 → Int32 → Option (Int32)} (hk4 : ∀ {v1 : Int32} {v2 : Int32} {v3 : Int32} {H : Heap} {locs : List Loc} {ls : Array Slot} {out : Int32}, kHE s H locs D ad cI cZ cO k mo [] → lv_has ls 4 [(0, .ref (ad 1)), (1, .int v1), (2, .int v2), (3, .int v3)] → c4 v1 v2 v3 = some out → W p l e rm_X0_childrenOf s mm args below meth c H locs 0 0 (kGi below args s D cI cZ cO ad out k mo 0 0) (F0 mm 4 ls [])) {v1 : Int32} {v2 : Int32} {v3 : Int32} {H : Heap} {locs : List Loc} {ls : Array Slot} {out : Int32} (hH : kHE s H locs D ad cI cZ cO k mo []) (hl : lv_has ls 4 [(0, .ref (ad 1)), (1, .int v1), (2, .int v2), (3, .int v3)]) (hf : F_X0_childrenOf_32 k c4 v1 v2 v3 = some out) : W p l e rm_X0_childrenOf s mm args below meth c H locs 0 0 (kGi below args s D cI cZ cO ad out k mo 0 0) (F0 mm 32 ls []) := by
  have hx := V.1
  have hb := V.2.1
  refine lv_iinc (v := (v2 + 1)) (lv' := [(2, .int (v2 + 1)), (0, .ref (ad 1)), (1, .int v1), (3, .int v3)]) hx hb dX0_childrenOf_32 hl (k := 2) rfl rfl (by decide) rfl (fun ls hl => ?_)
  exact w_X0_childrenOf_35 V hk4 hH (lv_sub hl [1, 2, 0, 3] rfl) hf
set_option maxHeartbeats 4000000 in
set_option maxRecDepth 100000 in
theorem w_X0_childrenOf_22 (V : kV p s mm args meth c cX0_childrenOf RX0 4 (some .int) D cI cZ cO) {k mo : kS} {c4 : Int32 → Int32 → Int32 → Option (Int32)} (hk4 : ∀ {v1 : Int32} {v2 : Int32} {v3 : Int32} {H : Heap} {locs : List Loc} {ls : Array Slot} {out : Int32}, kHE s H locs D ad cI cZ cO k mo [] → lv_has ls 4 [(0, .ref (ad 1)), (1, .int v1), (2, .int v2), (3, .int v3)] → c4 v1 v2 v3 = some out → W p l e rm_X0_childrenOf s mm args below meth c H locs 0 0 (kGi below args s D cI cZ cO ad out k mo 0 0) (F0 mm 4 ls [])) {v1 : Int32} {v2 : Int32} {v3 : Int32} {H : Heap} {locs : List Loc} {ls : Array Slot} {out : Int32} (hH : kHE s H locs D ad cI cZ cO k mo []) (hl : lv_has ls 4 [(0, .ref (ad 1)), (1, .int v1), (2, .int v2), (3, .int v3)]) (hf : F_X0_childrenOf_22 k c4 v1 v2 v3 = some out) : W p l e rm_X0_childrenOf s mm args below meth c H locs 0 0 (kGi below args s D cI cZ cO ad out k mo 0 0) (F0 mm 22 ls []) := by
  have hx := V.1
  have hb := V.2.1
  refine lv_aload_n hx hb dX0_childrenOf_22 rfl (lv_at hl 0 rfl) ?_
  refine kg_X0_26 V hH dX0_childrenOf_23 ?_
  refine lv_iload_n hx hb dX0_childrenOf_26 rfl (lv_at hl 3 rfl) ?_
  obtain ⟨h22_1, hf⟩ := kif hf
  refine kr_iald V hH (q := 5) (by decide) kE_5 h22_1 dX0_childrenOf_27 ?_
  refine lv_iload_n hx hb dX0_childrenOf_28 rfl (lv_at hl 1 rfl) ?_
  refine lv_icmp_ne (tgt := 35) hx hb dX0_childrenOf_29 (by decide) (fun hq => ?_) (fun hq => ?_)
  · have hf := kneg hq hf
    exact w_X0_childrenOf_35 V hk4 hH (lv_sub hl [0, 1, 2, 3] rfl) hf
  · have hf := kpos hq hf
    exact w_X0_childrenOf_32 V hk4 hH (lv_sub hl [0, 1, 2, 3] rfl) hf
set_option maxHeartbeats 4000000 in
set_option maxRecDepth 100000 in
theorem w_X0_childrenOf_12 (V : kV p s mm args meth c cX0_childrenOf RX0 4 (some .int) D cI cZ cO) {k mo : kS} {c4 : Int32 → Int32 → Int32 → Option (Int32)} (hk4 : ∀ {v1 : Int32} {v2 : Int32} {v3 : Int32} {H : Heap} {locs : List Loc} {ls : Array Slot} {out : Int32}, kHE s H locs D ad cI cZ cO k mo [] → lv_has ls 4 [(0, .ref (ad 1)), (1, .int v1), (2, .int v2), (3, .int v3)] → c4 v1 v2 v3 = some out → W p l e rm_X0_childrenOf s mm args below meth c H locs 0 0 (kGi below args s D cI cZ cO ad out k mo 0 0) (F0 mm 4 ls [])) {v1 : Int32} {v2 : Int32} {v3 : Int32} {H : Heap} {locs : List Loc} {ls : Array Slot} {out : Int32} (hH : kHE s H locs D ad cI cZ cO k mo []) (hl : lv_has ls 4 [(0, .ref (ad 1)), (1, .int v1), (2, .int v2), (3, .int v3)]) (hf : F_X0_childrenOf_12 k c4 v1 v2 v3 = some out) : W p l e rm_X0_childrenOf s mm args below meth c H locs 0 0 (kGi below args s D cI cZ cO ad out k mo 0 0) (F0 mm 12 ls []) := by
  have hx := V.1
  have hb := V.2.1
  refine lv_aload_n hx hb dX0_childrenOf_12 rfl (lv_at hl 0 rfl) ?_
  refine kg_X0_23 V hH dX0_childrenOf_13 ?_
  refine lv_iload_n hx hb dX0_childrenOf_16 rfl (lv_at hl 3 rfl) ?_
  obtain ⟨h12_1, hf⟩ := kif hf
  refine kr_iald V hH (q := 4) (by decide) kE_4 h12_1 dX0_childrenOf_17 ?_
  refine lv_iload_n hx hb dX0_childrenOf_18 rfl (lv_at hl 1 rfl) ?_
  refine lv_icmp_eq (tgt := 32) hx hb dX0_childrenOf_19 (by decide) (fun hq => ?_) (fun hq => ?_)
  · have hf := kpos hq hf
    exact w_X0_childrenOf_32 V hk4 hH (lv_sub hl [0, 1, 2, 3] rfl) hf
  · have hf := kneg hq hf
    exact w_X0_childrenOf_22 V hk4 hH (lv_sub hl [0, 1, 2, 3] rfl) hf
set_option maxHeartbeats 4000000 in
set_option maxRecDepth 100000 in
theorem w_X0_childrenOf_41 (V : kV p s mm args meth c cX0_childrenOf RX0 4 (some .int) D cI cZ cO) {k mo : kS} {v2 : Int32} {H : Heap} {locs : List Loc} {ls : Array Slot} {out : Int32} (hH : kHE s H locs D ad cI cZ cO k mo []) (hl : lv_has ls 4 [(2, .int v2)]) (hf : F_X0_childrenOf_41 k v2 = some out) : W p l e rm_X0_childrenOf s mm args below meth c H locs 0 0 (kGi below args s D cI cZ cO ad out k mo 0 0) (F0 mm 41 ls []) := by
  have hx := V.1
  have hb := V.2.1
  refine lv_iload_n hx hb dX0_childrenOf_41 rfl (lv_at hl 0 rfl) ?_
  cases hf
  exact kr_iret V hH dX0_childrenOf_42
set_option maxHeartbeats 4000000 in
set_option maxRecDepth 100000 in
theorem w_X0_childrenOf_4 (V : kV p s mm args meth c cX0_childrenOf RX0 4 (some .int) D cI cZ cO) {k mo : kS} : ∀ (n : Nat) {v1 : Int32} {v2 : Int32} {v3 : Int32} {H : Heap} {locs : List Loc} {ls : Array Slot} {out : Int32}, kHE s H locs D ad cI cZ cO k mo [] → lv_has ls 4 [(0, .ref (ad 1)), (1, .int v1), (2, .int v2), (3, .int v3)] → F_X0_childrenOf_4 k n v1 v2 v3 = some out → W p l e rm_X0_childrenOf s mm args below meth c H locs 0 0 (kGi below args s D cI cZ cO ad out k mo 0 0) (F0 mm 4 ls []) := by
  have hx := V.1
  have hb := V.2.1
  intro n
  induction n with
  | zero => intro _ _ _ _ _ _ _ hH hl hf; cases hf
  | succ n hk4 =>
    intro v1 v2 v3 H locs ls out hH hl hf
    refine lv_iload_n hx hb dX0_childrenOf_4 rfl (lv_at hl 3 rfl) ?_
    refine lv_aload_n hx hb dX0_childrenOf_5 rfl (lv_at hl 0 rfl) ?_
    refine kg_X0_9 V hH dX0_childrenOf_6 ?_
    refine lv_icmp_ge (tgt := 41) hx hb dX0_childrenOf_9 (by decide) (fun hq => ?_) (fun hq => ?_)
    · have hf := kpos hq hf
      exact w_X0_childrenOf_41 V hH (lv_sub hl [2] rfl) hf
    · have hf := kneg hq hf
      exact w_X0_childrenOf_12 V hk4 hH (lv_sub hl [0, 1, 2, 3] rfl) hf
set_option maxHeartbeats 4000000 in
set_option maxRecDepth 100000 in
theorem w_X0_childrenOf_0 (V : kV p s mm args meth c cX0_childrenOf RX0 4 (some .int) D cI cZ cO) {k mo : kS} {v1 : Int32} {H : Heap} {locs : List Loc} {ls : Array Slot} {out : Int32} (hH : kHE s H locs D ad cI cZ cO k mo []) (hl : lv_has ls 4 [(0, .ref (ad 1)), (1, .int v1)]) (hf : F_X0_childrenOf_0 k v1 = some out) : W p l e rm_X0_childrenOf s mm args below meth c H locs 0 0 (kGi below args s D cI cZ cO ad out k mo 0 0) (F0 mm 0 ls []) := by
  have hx := V.1
  have hb := V.2.1
  refine lv_iconst (v := 0) hx hb dX0_childrenOf_0 (by decide) ?_
  refine lv_istore_n (lv' := [(2, .int 0), (0, .ref (ad 1)), (1, .int v1)]) hx hb dX0_childrenOf_1 rfl hl (by decide) rfl (fun ls hl => ?_)
  refine lv_iconst (v := 0) hx hb dX0_childrenOf_2 (by decide) ?_
  refine lv_istore_n (lv' := [(3, .int 0), (2, .int 0), (0, .ref (ad 1)), (1, .int v1)]) hx hb dX0_childrenOf_3 rfl hl (by decide) rfl (fun ls hl => ?_)
  exact w_X0_childrenOf_4 V kN hH (lv_sub hl [2, 3, 1, 0] rfl) hf
set_option maxHeartbeats 4000000 in
set_option maxRecDepth 100000 in
theorem c_X0_childrenOf (l : Launch) {D : va_G} {cI cZ cO : ClassId} {ad : Nat → Nat} {k mo : kS} (v1 : Int32) {out : Int32} (hf : F_X0_childrenOf k v1 = some out) (sz : Nat) : Met l yX0_childrenOf (Cond.code yX0_childrenOf cX0_childrenOf 4 (some .int) :: kWA) rm_X0_childrenOf (kP [.ref (ad 1), .int v1] D cI cZ cO ad (kE ad cI cZ cO k mo) sz) (kQi out D cI cZ cO ad (kE ad cI cZ cO k mo) sz) 0 0 (fA ad sz) := by
  refine kr_met (as := [.ref (ad 1), .int v1]) (bytes := cX0_childrenOf) (maxL := 4) (rt := (some .int)) (Qc := fun sz => kQi out D cI cZ cO ad (kE ad cI cZ cO k mo) sz) (lv := [(0, .ref (ad 1)), (1, .int v1)]) (by decide +kernel) (Nat.le_of_ble_eq_true rfl) rfl (fun p e s mm below meth c ls V hH hl => ?_) sz
  exact w_X0_childrenOf_0 V hH (lv_sub hl [0, 1] rfl) hf
end
section
variable {p : Program} {l : Launch} {e : Env} {s : State} {mm : MethodId} {args : Array Value} {below : List Frame} {meth : Method} {c : Code} {D : va_G} {cI cZ cO : ClassId} {ad : Nat → Nat}
abbrev rm_X1_knows : Room := { frames := 0, cells := 0, slots := 0, locals := 0 }
set_option maxHeartbeats 4000000 in
set_option maxRecDepth 100000 in
theorem w_X1_knows_17 (V : kV p s mm args meth c cX1_knows RX1 2 (some .boolean) D cI cZ cO) {k mo : kS} {B : Nat} (hB : kB B) {s0 : Int32} {H : Heap} {locs : List Loc} {ls : Array Slot} {out : Int32} (hH : kHE s H locs D ad cI cZ cO k mo []) (hl : lv_has ls 2 []) (hf : F_X1_knows_17 B k s0 = some out) : W p l e rm_X1_knows s mm args below meth c H locs 0 0 (kGi below args s D cI cZ cO ad out k mo 0 0) (F0 mm 17 ls [.int s0]) := by
  have hx := V.1
  have hb := V.2.1
  obtain ⟨h17_1, hf⟩ := kif hf
  cases hf
  exact kr_zret V hH (Decidable.not_not.mp h17_1) dX1_knows_17
set_option maxHeartbeats 4000000 in
set_option maxRecDepth 100000 in
theorem w_X1_knows_12 (V : kV p s mm args meth c cX1_knows RX1 2 (some .boolean) D cI cZ cO) {k mo : kS} {B : Nat} (hB : kB B) {H : Heap} {locs : List Loc} {ls : Array Slot} {out : Int32} (hH : kHE s H locs D ad cI cZ cO k mo []) (hl : lv_has ls 2 []) (hf : F_X1_knows_12 B k = some out) : W p l e rm_X1_knows s mm args below meth c H locs 0 0 (kGi below args s D cI cZ cO ad out k mo 0 0) (F0 mm 12 ls []) := by
  have hx := V.1
  have hb := V.2.1
  refine lv_iconst (v := 1) hx hb dX1_knows_12 (by decide) ?_
  refine lv_goto (tgt := 17) hx hb dX1_knows_13 (by decide) ?_
  exact w_X1_knows_17 V hB hH (lv_sub hl [] rfl) hf
set_option maxHeartbeats 4000000 in
set_option maxRecDepth 100000 in
theorem w_X1_knows_16 (V : kV p s mm args meth c cX1_knows RX1 2 (some .boolean) D cI cZ cO) {k mo : kS} {B : Nat} (hB : kB B) {H : Heap} {locs : List Loc} {ls : Array Slot} {out : Int32} (hH : kHE s H locs D ad cI cZ cO k mo []) (hl : lv_has ls 2 []) (hf : F_X1_knows_16 B k = some out) : W p l e rm_X1_knows s mm args below meth c H locs 0 0 (kGi below args s D cI cZ cO ad out k mo 0 0) (F0 mm 16 ls []) := by
  have hx := V.1
  have hb := V.2.1
  refine lv_iconst (v := 0) hx hb dX1_knows_16 (by decide) ?_
  exact w_X1_knows_17 V hB hH (lv_sub hl [] rfl) hf
set_option maxHeartbeats 4000000 in
set_option maxRecDepth 100000 in
theorem w_X1_knows_4 (V : kV p s mm args meth c cX1_knows RX1 2 (some .boolean) D cI cZ cO) {k mo : kS} {B : Nat} (hB : kB B) {v1 : Int32} {H : Heap} {locs : List Loc} {ls : Array Slot} {out : Int32} (hH : kHE s H locs D ad cI cZ cO k mo []) (hl : lv_has ls 2 [(0, .ref (ad (B + 1))), (1, .int v1)]) (hf : F_X1_knows_4 B k v1 = some out) : W p l e rm_X1_knows s mm args below meth c H locs 0 0 (kGi below args s D cI cZ cO ad out k mo 0 0) (F0 mm 4 ls []) := by
  have hx := V.1
  have hb := V.2.1
  refine lv_iload_n hx hb dX1_knows_4 rfl (lv_at hl 1 rfl) ?_
  refine lv_aload_n hx hb dX1_knows_5 rfl (lv_at hl 0 rfl) ?_
  refine kg_X1_9 hB V hH dX1_knows_6 ?_
  refine lv_icmp_ge (tgt := 16) hx hb dX1_knows_9 (by decide) (fun hq => ?_) (fun hq => ?_)
  · have hf := kpos hq hf
    exact w_X1_knows_16 V hB hH (lv_sub hl [] rfl) hf
  · have hf := kneg hq hf
    exact w_X1_knows_12 V hB hH (lv_sub hl [] rfl) hf
set_option maxHeartbeats 4000000 in
set_option maxRecDepth 100000 in
theorem w_X1_knows_0 (V : kV p s mm args meth c cX1_knows RX1 2 (some .boolean) D cI cZ cO) {k mo : kS} {B : Nat} (hB : kB B) {v1 : Int32} {H : Heap} {locs : List Loc} {ls : Array Slot} {out : Int32} (hH : kHE s H locs D ad cI cZ cO k mo []) (hl : lv_has ls 2 [(0, .ref (ad (B + 1))), (1, .int v1)]) (hf : F_X1_knows_0 B k v1 = some out) : W p l e rm_X1_knows s mm args below meth c H locs 0 0 (kGi below args s D cI cZ cO ad out k mo 0 0) (F0 mm 0 ls []) := by
  have hx := V.1
  have hb := V.2.1
  refine lv_iload_n hx hb dX1_knows_0 rfl (lv_at hl 1 rfl) ?_
  refine lv_if_lt (tgt := 16) hx hb dX1_knows_1 (by decide) (fun hq => ?_) (fun hq => ?_)
  · have hf := kpos hq hf
    exact w_X1_knows_16 V hB hH (lv_sub hl [] rfl) hf
  · have hf := kneg hq hf
    exact w_X1_knows_4 V hB hH (lv_sub hl [0, 1] rfl) hf
set_option maxHeartbeats 4000000 in
set_option maxRecDepth 100000 in
theorem c_X1_knows (l : Launch) {D : va_G} {cI cZ cO : ClassId} {ad : Nat → Nat} {k mo : kS} {B : Nat} (hB : kB B) (v1 : Int32) {out : Int32} (hf : F_X1_knows B k v1 = some out) (sz : Nat) : Met l yX1_knows (Cond.code yX1_knows cX1_knows 2 (some .boolean) :: kWA) rm_X1_knows (kP [.ref (ad (B + 1)), .int v1] D cI cZ cO ad (kE ad cI cZ cO k mo) sz) (kQi out D cI cZ cO ad (kE ad cI cZ cO k mo) sz) 0 0 (fA ad sz) := by
  refine kr_met (as := [.ref (ad (B + 1)), .int v1]) (bytes := cX1_knows) (maxL := 2) (rt := (some .boolean)) (Qc := fun sz => kQi out D cI cZ cO ad (kE ad cI cZ cO k mo) sz) (lv := [(0, .ref (ad (B + 1))), (1, .int v1)]) (by decide +kernel) (Nat.le_of_ble_eq_true rfl) rfl (fun p e s mm below meth c ls V hH hl => ?_) sz
  exact w_X1_knows_0 V hB hH (lv_sub hl [0, 1] rfl) hf
end
section
variable {p : Program} {l : Launch} {e : Env} {s : State} {mm : MethodId} {args : Array Value} {below : List Frame} {meth : Method} {c : Code} {D : va_G} {cI cZ cO : ClassId} {ad : Nat → Nat}
abbrev rm_X1_isFull : Room := { frames := 0, cells := 0, slots := 0, locals := 0 }
set_option maxHeartbeats 4000000 in
set_option maxRecDepth 100000 in
theorem w_X1_isFull_14 (V : kV p s mm args meth c cX1_isFull RX1 1 (some .boolean) D cI cZ cO) {k mo : kS} {B : Nat} (hB : kB B) {s0 : Int32} {H : Heap} {locs : List Loc} {ls : Array Slot} {out : Int32} (hH : kHE s H locs D ad cI cZ cO k mo []) (hl : lv_has ls 1 []) (hf : F_X1_isFull_14 B k s0 = some out) : W p l e rm_X1_isFull s mm args below meth c H locs 0 0 (kGi below args s D cI cZ cO ad out k mo 0 0) (F0 mm 14 ls [.int s0]) := by
  have hx := V.1
  have hb := V.2.1
  obtain ⟨h14_1, hf⟩ := kif hf
  cases hf
  exact kr_zret V hH (Decidable.not_not.mp h14_1) dX1_isFull_14
set_option maxHeartbeats 4000000 in
set_option maxRecDepth 100000 in
theorem w_X1_isFull_9 (V : kV p s mm args meth c cX1_isFull RX1 1 (some .boolean) D cI cZ cO) {k mo : kS} {B : Nat} (hB : kB B) {H : Heap} {locs : List Loc} {ls : Array Slot} {out : Int32} (hH : kHE s H locs D ad cI cZ cO k mo []) (hl : lv_has ls 1 []) (hf : F_X1_isFull_9 B k = some out) : W p l e rm_X1_isFull s mm args below meth c H locs 0 0 (kGi below args s D cI cZ cO ad out k mo 0 0) (F0 mm 9 ls []) := by
  have hx := V.1
  have hb := V.2.1
  refine lv_iconst (v := 1) hx hb dX1_isFull_9 (by decide) ?_
  refine lv_goto (tgt := 14) hx hb dX1_isFull_10 (by decide) ?_
  exact w_X1_isFull_14 V hB hH (lv_sub hl [] rfl) hf
set_option maxHeartbeats 4000000 in
set_option maxRecDepth 100000 in
theorem w_X1_isFull_13 (V : kV p s mm args meth c cX1_isFull RX1 1 (some .boolean) D cI cZ cO) {k mo : kS} {B : Nat} (hB : kB B) {H : Heap} {locs : List Loc} {ls : Array Slot} {out : Int32} (hH : kHE s H locs D ad cI cZ cO k mo []) (hl : lv_has ls 1 []) (hf : F_X1_isFull_13 B k = some out) : W p l e rm_X1_isFull s mm args below meth c H locs 0 0 (kGi below args s D cI cZ cO ad out k mo 0 0) (F0 mm 13 ls []) := by
  have hx := V.1
  have hb := V.2.1
  refine lv_iconst (v := 0) hx hb dX1_isFull_13 (by decide) ?_
  exact w_X1_isFull_14 V hB hH (lv_sub hl [] rfl) hf
set_option maxHeartbeats 4000000 in
set_option maxRecDepth 100000 in
theorem w_X1_isFull_0 (V : kV p s mm args meth c cX1_isFull RX1 1 (some .boolean) D cI cZ cO) {k mo : kS} {B : Nat} (hB : kB B) {H : Heap} {locs : List Loc} {ls : Array Slot} {out : Int32} (hH : kHE s H locs D ad cI cZ cO k mo []) (hl : lv_has ls 1 [(0, .ref (ad (B + 1)))]) (hf : F_X1_isFull_0 B k = some out) : W p l e rm_X1_isFull s mm args below meth c H locs 0 0 (kGi below args s D cI cZ cO ad out k mo 0 0) (F0 mm 0 ls []) := by
  have hx := V.1
  have hb := V.2.1
  refine lv_aload_n hx hb dX1_isFull_0 rfl (lv_at hl 0 rfl) ?_
  refine kg_X1_9 hB V hH dX1_isFull_1 ?_
  refine lv_bipush (v := 12) hx hb dX1_isFull_4 (by decide) ?_
  refine lv_icmp_lt (tgt := 13) hx hb dX1_isFull_6 (by decide) (fun hq => ?_) (fun hq => ?_)
  · have hf := kpos hq hf
    exact w_X1_isFull_13 V hB hH (lv_sub hl [] rfl) hf
  · have hf := kneg hq hf
    exact w_X1_isFull_9 V hB hH (lv_sub hl [] rfl) hf
set_option maxHeartbeats 4000000 in
set_option maxRecDepth 100000 in
theorem c_X1_isFull (l : Launch) {D : va_G} {cI cZ cO : ClassId} {ad : Nat → Nat} {k mo : kS} {B : Nat} (hB : kB B) {out : Int32} (hf : F_X1_isFull B k = some out) (sz : Nat) : Met l yX1_isFull (Cond.code yX1_isFull cX1_isFull 1 (some .boolean) :: kWA) rm_X1_isFull (kP [.ref (ad (B + 1))] D cI cZ cO ad (kE ad cI cZ cO k mo) sz) (kQi out D cI cZ cO ad (kE ad cI cZ cO k mo) sz) 0 0 (fA ad sz) := by
  refine kr_met (as := [.ref (ad (B + 1))]) (bytes := cX1_isFull) (maxL := 1) (rt := (some .boolean)) (Qc := fun sz => kQi out D cI cZ cO ad (kE ad cI cZ cO k mo) sz) (lv := [(0, .ref (ad (B + 1)))]) (by decide +kernel) (Nat.le_of_ble_eq_true rfl) rfl (fun p e s mm below meth c ls V hH hl => ?_) sz
  exact w_X1_isFull_0 V hB hH (lv_sub hl [0] rfl) hf
end
section
variable {p : Program} {l : Launch} {e : Env} {s : State} {mm : MethodId} {args : Array Value} {below : List Frame} {meth : Method} {c : Code} {D : va_G} {cI cZ cO : ClassId} {ad : Nat → Nat}
abbrev rm_X1_handTo : Room := { frames := 1, cells := 0, slots := 0, locals := 40 }
set_option maxHeartbeats 4000000 in
set_option maxRecDepth 100000 in
theorem w_X1_handTo_12 (V : kV p s mm args meth c cX1_handTo RX1 3 none D cI cZ cO) {mo : kS} {B : Nat} (hB : kB B) {k : kS} {H : Heap} {locs : List Loc} {ls : Array Slot} {out : kS} (hH : kHE s H locs D ad cI cZ cO k mo []) (hl : lv_has ls 3 []) (hf : F_X1_handTo_12 B k = some out) : W p l e rm_X1_handTo s mm args below meth c H locs 0 0 (kGv below args s D cI cZ cO ad out mo 0 0) (F0 mm 12 ls []) := by
  have hx := V.1
  have hb := V.2.1
  cases hf
  exact kr_vret V hH dX1_handTo_12
set_option maxHeartbeats 4000000 in
set_option maxRecDepth 100000 in
theorem w_X1_handTo_13 (V : kV p s mm args meth c cX1_handTo RX1 3 none D cI cZ cO) {mo : kS} {B : Nat} (hB : kB B) {v1 : Int32} {v2 : Int32} {k : kS} {H : Heap} {locs : List Loc} {ls : Array Slot} {out : kS} (hH : kHE s H locs D ad cI cZ cO k mo []) (hl : lv_has ls 3 [(0, .ref (ad (B + 1))), (1, .int v1), (2, .int v2)]) (hf : F_X1_handTo_13 B v1 v2 k = some out) : W p l e rm_X1_handTo s mm args below meth c H locs 0 0 (kGv below args s D cI cZ cO ad out mo 0 0) (F0 mm 13 ls []) := by
  have hx := V.1
  have hb := V.2.1
  refine lv_aload_n hx hb dX1_handTo_13 rfl (lv_at hl 0 rfl) ?_
  refine kg_X1_25 hB V hH dX1_handTo_14 ?_
  refine lv_iload_n hx hb dX1_handTo_17 rfl (lv_at hl 1 rfl) ?_
  refine lv_dup2_11 hx hb dX1_handTo_18 rfl rfl ?_
  obtain ⟨h13_1, hf⟩ := kif hf
  refine kr_iald V hH (q := (B + 5)) (kq_w hB (by decide)) (kE_w5 hB) h13_1 dX1_handTo_19 ?_
  refine lv_iconst (v := 1) hx hb dX1_handTo_20 (by decide) ?_
  refine lv_iadd hx hb dX1_handTo_21 ?_
  obtain ⟨h13_2, hf⟩ := kif hf
  refine kr_iastK V hH (q := (B + 5)) (kq_w hB (by decide)) (fun _ => (kE_w5 hB)) h13_2 dX1_handTo_22 (fun H locs hH => ?_)
  refine lv_aload_n hx hb dX1_handTo_23 rfl (lv_at hl 0 rfl) ?_
  refine kg_X1_33 hB V hH dX1_handTo_24 ?_
  refine lv_iload_n hx hb dX1_handTo_27 rfl (lv_at hl 1 rfl) ?_
  obtain ⟨h13_3, hf⟩ := kif hf
  refine kr_aald V hH (q := (B + 7)) (kq_w hB (by decide)) (kE_w7 hB) h13_3 dX1_handTo_28 ?_
  refine lv_iconst (v := 0) hx hb dX1_handTo_29 (by decide) ?_
  refine lv_aload_n hx hb dX1_handTo_30 rfl (lv_at hl 0 rfl) ?_
  refine kg_X1_33 hB V hH dX1_handTo_31 ?_
  refine lv_iload_n hx hb dX1_handTo_34 rfl (lv_at hl 1 rfl) ?_
  obtain ⟨h13_4, hf⟩ := kif hf
  refine kr_aald V hH (q := (B + 7)) (kq_w hB (by decide)) (kE_w7 hB) h13_4 dX1_handTo_35 ?_
  refine lv_iconst (v := 1) hx hb dX1_handTo_36 (by decide) ?_
  refine lv_bipush (v := 14) hx hb dX1_handTo_37 (by decide) ?_
  obtain ⟨h13_5, hf⟩ := kif hf
  refine kr_copyK V hH hl.1 kl_X1_44 (q0 := (kpb B + v1.toNatClampNeg)) (q := (kpb B + v1.toNatClampNeg)) (kq_past hB (kidx h13_3)) (kq_past hB (kidx h13_4)) (fun _ => (kE_pastB hB (kidx h13_3))) (fun _ => (kE_pastB hB (kidx h13_4))) h13_5 (Nat.le_of_ble_eq_true rfl) (Nat.le_of_ble_eq_true rfl) dX1_handTo_39 (fun H locs hH => ?_)
  refine lv_aload_n hx hb dX1_handTo_42 rfl (lv_at hl 0 rfl) ?_
  refine kg_X1_33 hB V hH dX1_handTo_43 ?_
  refine lv_iload_n hx hb dX1_handTo_46 rfl (lv_at hl 1 rfl) ?_
  obtain ⟨h13_6, hf⟩ := kif hf
  refine kr_aald V hH (q := (B + 7)) (kq_w hB (by decide)) (kE_w7 hB) h13_6 dX1_handTo_47 ?_
  refine lv_iconst (v := 0) hx hb dX1_handTo_48 (by decide) ?_
  refine lv_iload_n hx hb dX1_handTo_49 rfl (lv_at hl 2 rfl) ?_
  obtain ⟨h13_7, hf⟩ := kif hf
  refine kr_iastK V hH (q := (kpb B + v1.toNatClampNeg)) (kq_past hB (kidx h13_6)) (fun _ => (kE_pastB hB (kidx h13_6))) h13_7 dX1_handTo_50 (fun H locs hH => ?_)
  refine lv_aload_n hx hb dX1_handTo_51 rfl (lv_at hl 0 rfl) ?_
  refine kg_X1_28 hB V hH dX1_handTo_52 ?_
  refine lv_iload_n hx hb dX1_handTo_55 rfl (lv_at hl 1 rfl) ?_
  refine lv_aload_n hx hb dX1_handTo_56 rfl (lv_at hl 0 rfl) ?_
  refine kg_X1_28 hB V hH dX1_handTo_57 ?_
  refine lv_iload_n hx hb dX1_handTo_60 rfl (lv_at hl 1 rfl) ?_
  obtain ⟨h13_8, hf⟩ := kif hf
  refine kr_iald V hH (q := (B + 6)) (kq_w hB (by decide)) (kE_w6 hB) h13_8 dX1_handTo_61 ?_
  refine lv_iconst (v := 1) hx hb dX1_handTo_62 (by decide) ?_
  refine lv_iadd hx hb dX1_handTo_63 ?_
  refine lv_bipush (v := 15) hx hb dX1_handTo_64 (by decide) ?_
  refine kr_mn V hl.1 kl_X1_50 (Nat.le_of_ble_eq_true rfl) (Nat.le_of_ble_eq_true rfl) (Nat.le_of_ble_eq_true rfl) (Nat.le_of_ble_eq_true rfl) dX1_handTo_66 ?_
  obtain ⟨h13_9, hf⟩ := kif hf
  refine kr_iastK V hH (q := (B + 6)) (kq_w hB (by decide)) (fun _ => (kE_w6 hB)) h13_9 dX1_handTo_69 (fun H locs hH => ?_)
  cases hf
  exact kr_vret V hH dX1_handTo_70
set_option maxHeartbeats 4000000 in
set_option maxRecDepth 100000 in
theorem w_X1_handTo_0 (V : kV p s mm args meth c cX1_handTo RX1 3 none D cI cZ cO) {mo : kS} {B : Nat} (hB : kB B) {v1 : Int32} {v2 : Int32} {k : kS} {H : Heap} {locs : List Loc} {ls : Array Slot} {out : kS} (hH : kHE s H locs D ad cI cZ cO k mo []) (hl : lv_has ls 3 [(0, .ref (ad (B + 1))), (1, .int v1), (2, .int v2)]) (hf : F_X1_handTo_0 B v1 v2 k = some out) : W p l e rm_X1_handTo s mm args below meth c H locs 0 0 (kGv below args s D cI cZ cO ad out mo 0 0) (F0 mm 0 ls []) := by
  have hx := V.1
  have hb := V.2.1
  refine lv_aload_n hx hb dX1_handTo_0 rfl (lv_at hl 0 rfl) ?_
  refine kg_X1_22 hB V hH dX1_handTo_1 ?_
  refine lv_iload_n hx hb dX1_handTo_4 rfl (lv_at hl 1 rfl) ?_
  refine lv_iload_n hx hb dX1_handTo_5 rfl (lv_at hl 2 rfl) ?_
  obtain ⟨h0_1, hf⟩ := kif hf
  refine kr_iastK V hH (q := (B + 4)) (kq_w hB (by decide)) (fun _ => (kE_w4 hB)) h0_1 dX1_handTo_6 (fun H locs hH => ?_)
  refine lv_iload_n hx hb dX1_handTo_7 rfl (lv_at hl 2 rfl) ?_
  refine lv_iconst (v := (-1)) hx hb dX1_handTo_8 (by decide) ?_
  refine lv_icmp_ne (tgt := 13) hx hb dX1_handTo_9 (by decide) (fun hq => ?_) (fun hq => ?_)
  · have hf := kneg hq hf
    exact w_X1_handTo_13 V hB hH (lv_sub hl [0, 1, 2] rfl) hf
  · have hf := kpos hq hf
    exact w_X1_handTo_12 V hB hH (lv_sub hl [] rfl) hf
set_option maxHeartbeats 4000000 in
set_option maxRecDepth 100000 in
theorem c_X1_handTo (l : Launch) {D : va_G} {cI cZ cO : ClassId} {ad : Nat → Nat} {k mo : kS} {B : Nat} (hB : kB B) (v1 : Int32) (v2 : Int32) {out : kS} (hf : F_X1_handTo B v1 v2 k = some out) (sz : Nat) : Met l yX1_handTo (Cond.code yX1_handTo cX1_handTo 3 none :: kWA) rm_X1_handTo (kP [.ref (ad (B + 1)), .int v1, .int v2] D cI cZ cO ad (kE ad cI cZ cO k mo) sz) (kQv D cI cZ cO ad (kE ad cI cZ cO out mo) sz) 0 0 (fA ad sz) := by
  refine kr_met (as := [.ref (ad (B + 1)), .int v1, .int v2]) (bytes := cX1_handTo) (maxL := 3) (rt := none) (Qc := fun sz => kQv D cI cZ cO ad (kE ad cI cZ cO out mo) sz) (lv := [(0, .ref (ad (B + 1))), (1, .int v1), (2, .int v2)]) (by decide +kernel) (Nat.le_of_ble_eq_true rfl) rfl (fun p e s mm below meth c ls V hH hl => ?_) sz
  exact w_X1_handTo_0 V hB hH (lv_sub hl [0, 1, 2] rfl) hf
end
section
variable {p : Program} {l : Launch} {e : Env} {s : State} {mm : MethodId} {args : Array Value} {below : List Frame} {meth : Method} {c : Code} {D : va_G} {cI cZ cO : ClassId} {ad : Nat → Nat}
abbrev rm_X1_add : Room := { frames := 2, cells := 0, slots := 0, locals := 62 }
set_option maxHeartbeats 4000000 in
set_option maxRecDepth 100000 in
theorem w_X1_add_7 (V : kV p s mm args meth c cX1_add RX1 5 (some .int) D cI cZ cO) {mo : kS} {B : Nat} (hB : kB B) {k : kS} {H : Heap} {locs : List Loc} {ls : Array Slot} {out : (Int32 × kS)} (hH : kHE s H locs D ad cI cZ cO k mo []) (hl : lv_has ls 5 []) (hf : F_X1_add_7 B k = some out) : W p l e rm_X1_add s mm args below meth c H locs 0 0 (kGi below args s D cI cZ cO ad out.1 out.2 mo 0 0) (F0 mm 7 ls []) := by
  have hx := V.1
  have hb := V.2.1
  refine lv_iconst (v := (-1)) hx hb dX1_add_7 (by decide) ?_
  cases hf
  exact kr_iret V hH dX1_add_8
set_option maxHeartbeats 4000000 in
set_option maxRecDepth 100000 in
theorem w_X1_add_9 (V : kV p s mm args meth c cX1_add RX1 5 (some .int) D cI cZ cO) {mo : kS} {B : Nat} (hB : kB B) {v1 : Int32} {v2 : Int32} {v3 : Int32} {k : kS} {H : Heap} {locs : List Loc} {ls : Array Slot} {out : (Int32 × kS)} (hH : kHE s H locs D ad cI cZ cO k mo []) (hl : lv_has ls 5 [(0, .ref (ad (B + 1))), (1, .int v1), (2, .int v2), (3, .int v3)]) (hf : F_X1_add_9 B v1 v2 v3 k = some out) : W p l e rm_X1_add s mm args below meth c H locs 0 0 (kGi below args s D cI cZ cO ad out.1 out.2 mo 0 0) (F0 mm 9 ls []) := by
  have hx := V.1
  have hb := V.2.1
  refine lv_aload_n hx hb dX1_add_9 rfl (lv_at hl 0 rfl) ?_
  refine kg_X1_9 hB V hH dX1_add_10 ?_
  refine lv_istore (lv' := [(4, .int (k (B + 1) 0)), (0, .ref (ad (B + 1))), (1, .int v1), (2, .int v2), (3, .int v3)]) hx hb dX1_add_13 hl (by decide) rfl (fun ls hl => ?_)
  refine lv_aload_n hx hb dX1_add_15 rfl (lv_at hl 1 rfl) ?_
  refine kg_X1_15 hB V hH dX1_add_16 ?_
  refine lv_iload hx hb dX1_add_19 (lv_at hl 0 rfl) ?_
  refine lv_iload_n hx hb dX1_add_21 rfl (lv_at hl 2 rfl) ?_
  obtain ⟨h9_1, hf⟩ := kif hf
  refine kr_iastK V hH (q := (B + 2)) (kq_w hB (by decide)) (fun _ => (kE_w2 hB)) h9_1 dX1_add_22 (fun H locs hH => ?_)
  refine lv_aload_n hx hb dX1_add_23 rfl (lv_at hl 1 rfl) ?_
  refine kg_X1_19 hB V hH dX1_add_24 ?_
  refine lv_iload hx hb dX1_add_27 (lv_at hl 0 rfl) ?_
  refine lv_iload_n hx hb dX1_add_29 rfl (lv_at hl 3 rfl) ?_
  obtain ⟨h9_2, hf⟩ := kif hf
  refine kr_iastK V hH (q := (B + 3)) (kq_w hB (by decide)) (fun _ => (kE_w3 hB)) h9_2 dX1_add_30 (fun H locs hH => ?_)
  refine lv_aload_n hx hb dX1_add_31 rfl (lv_at hl 1 rfl) ?_
  refine lv_iload hx hb dX1_add_32 (lv_at hl 0 rfl) ?_
  refine lv_iload_n hx hb dX1_add_34 rfl (lv_at hl 4 rfl) ?_
  obtain ⟨x9_3, hx9_3, hf⟩ := kbind hf
  refine kr_callv0 hH (kr_runV (as := [.int (k (B + 1) 0), .int v3]) (rest := []) (pl := (B + 1)) V hH kYX1_handTo kl_X1_40 (c_X1_handTo l hB _ _ hx9_3 _) rfl rfl ⟨Nat.le_of_ble_eq_true rfl, Nat.le_of_ble_eq_true rfl⟩ (kq_w hB (by decide)) (kE_w1 hB) rfl rfl hl.1 (Nat.le_of_ble_eq_true rfl) dX1_add_35 ⟨Nat.le_refl _, Nat.le_refl _⟩ rfl) (fun H locs hH => ?_)
  refine lv_aload_n hx hb dX1_add_38 rfl (lv_at hl 1 rfl) ?_
  refine lv_iload hx hb dX1_add_39 (lv_at hl 0 rfl) ?_
  refine lv_iconst (v := 1) hx hb dX1_add_41 (by decide) ?_
  refine lv_iadd hx hb dX1_add_42 ?_
  refine kp_X1_9 hB V hH dX1_add_43 (fun H locs hH => ?_)
  refine lv_iload hx hb dX1_add_46 (lv_at hl 0 rfl) ?_
  cases hf
  exact kr_iret V hH dX1_add_48
set_option maxHeartbeats 4000000 in
set_option maxRecDepth 100000 in
theorem w_X1_add_0 (V : kV p s mm args meth c cX1_add RX1 5 (some .int) D cI cZ cO) {mo : kS} {B : Nat} (hB : kB B) {v1 : Int32} {v2 : Int32} {v3 : Int32} {k : kS} {H : Heap} {locs : List Loc} {ls : Array Slot} {out : (Int32 × kS)} (hH : kHE s H locs D ad cI cZ cO k mo []) (hl : lv_has ls 5 [(0, .ref (ad (B + 1))), (1, .int v1), (2, .int v2), (3, .int v3)]) (hf : F_X1_add_0 B v1 v2 v3 k = some out) : W p l e rm_X1_add s mm args below meth c H locs 0 0 (kGi below args s D cI cZ cO ad out.1 out.2 mo 0 0) (F0 mm 0 ls []) := by
  have hx := V.1
  have hb := V.2.1
  refine lv_aload_n hx hb dX1_add_0 rfl (lv_at hl 0 rfl) ?_
  obtain ⟨x0_1, hx0_1, hf⟩ := kbind hf
  refine kr_calli0 hH (kr_runV (as := []) (rest := []) (pl := (B + 1)) V hH kYX1_isFull kl_X1_36 (c_X1_isFull l hB hx0_1 _) rfl rfl ⟨Nat.le_of_ble_eq_true rfl, Nat.le_of_ble_eq_true rfl⟩ (kq_w hB (by decide)) (kE_w1 hB) rfl rfl hl.1 (Nat.le_of_ble_eq_true rfl) dX1_add_1 ⟨Nat.le_refl _, Nat.le_refl _⟩ rfl) (fun H locs hH => ?_)
  refine lv_if_eq (tgt := 9) hx hb dX1_add_4 (by decide) (fun hq => ?_) (fun hq => ?_)
  · have hf := kpos hq hf
    exact w_X1_add_9 V hB hH (lv_sub hl [0, 1, 2, 3] rfl) hf
  · have hf := kneg hq hf
    exact w_X1_add_7 V hB hH (lv_sub hl [] rfl) hf
set_option maxHeartbeats 4000000 in
set_option maxRecDepth 100000 in
theorem c_X1_add (l : Launch) {D : va_G} {cI cZ cO : ClassId} {ad : Nat → Nat} {k mo : kS} {B : Nat} (hB : kB B) (v1 : Int32) (v2 : Int32) (v3 : Int32) {out : (Int32 × kS)} (hf : F_X1_add B v1 v2 v3 k = some out) (sz : Nat) : Met l yX1_add (Cond.code yX1_add cX1_add 5 (some .int) :: kWA) rm_X1_add (kP [.ref (ad (B + 1)), .int v1, .int v2, .int v3] D cI cZ cO ad (kE ad cI cZ cO k mo) sz) (kQi out.1 D cI cZ cO ad (kE ad cI cZ cO out.2 mo) sz) 0 0 (fA ad sz) := by
  refine kr_met (as := [.ref (ad (B + 1)), .int v1, .int v2, .int v3]) (bytes := cX1_add) (maxL := 5) (rt := (some .int)) (Qc := fun sz => kQi out.1 D cI cZ cO ad (kE ad cI cZ cO out.2 mo) sz) (lv := [(0, .ref (ad (B + 1))), (1, .int v1), (2, .int v2), (3, .int v3)]) (by decide +kernel) (Nat.le_of_ble_eq_true rfl) rfl (fun p e s mm below meth c ls V hH hl => ?_) sz
  exact w_X1_add_0 V hB hH (lv_sub hl [0, 1, 2, 3] rfl) hf
end
section
variable {p : Program} {l : Launch} {e : Env} {s : State} {mm : MethodId} {args : Array Value} {below : List Frame} {meth : Method} {c : Code} {D : va_G} {cI cZ cO : ClassId} {ad : Nat → Nat}
abbrev rm_X1_rulerOf : Room := { frames := 1, cells := 0, slots := 0, locals := 21 }
set_option maxHeartbeats 4000000 in
set_option maxRecDepth 100000 in
theorem w_X1_rulerOf_18 (V : kV p s mm args meth c cX1_rulerOf RX1 2 (some .int) D cI cZ cO) {k mo : kS} {B : Nat} (hB : kB B) {s0 : Int32} {H : Heap} {locs : List Loc} {ls : Array Slot} {out : Int32} (hH : kHE s H locs D ad cI cZ cO k mo []) (hl : lv_has ls 2 []) (hf : F_X1_rulerOf_18 B k s0 = some out) : W p l e rm_X1_rulerOf s mm args below meth c H locs 0 0 (kGi below args s D cI cZ cO ad out k mo 0 0) (F0 mm 18 ls [.int s0]) := by
  have hx := V.1
  have hb := V.2.1
  cases hf
  exact kr_iret V hH dX1_rulerOf_18
set_option maxHeartbeats 4000000 in
set_option maxRecDepth 100000 in
theorem w_X1_rulerOf_8 (V : kV p s mm args meth c cX1_rulerOf RX1 2 (some .int) D cI cZ cO) {k mo : kS} {B : Nat} (hB : kB B) {v1 : Int32} {H : Heap} {locs : List Loc} {ls : Array Slot} {out : Int32} (hH : kHE s H locs D ad cI cZ cO k mo []) (hl : lv_has ls 2 [(0, .ref (ad (B + 1))), (1, .int v1)]) (hf : F_X1_rulerOf_8 B k v1 = some out) : W p l e rm_X1_rulerOf s mm args below meth c H locs 0 0 (kGi below args s D cI cZ cO ad out k mo 0 0) (F0 mm 8 ls []) := by
  have hx := V.1
  have hb := V.2.1
  refine lv_aload_n hx hb dX1_rulerOf_8 rfl (lv_at hl 0 rfl) ?_
  refine kg_X1_22 hB V hH dX1_rulerOf_9 ?_
  refine lv_iload_n hx hb dX1_rulerOf_12 rfl (lv_at hl 1 rfl) ?_
  obtain ⟨h8_1, hf⟩ := kif hf
  refine kr_iald V hH (q := (B + 4)) (kq_w hB (by decide)) (kE_w4 hB) h8_1 dX1_rulerOf_13 ?_
  refine lv_goto (tgt := 18) hx hb dX1_rulerOf_14 (by decide) ?_
  exact w_X1_rulerOf_18 V hB hH (lv_sub hl [] rfl) hf
set_option maxHeartbeats 4000000 in
set_option maxRecDepth 100000 in
theorem w_X1_rulerOf_17 (V : kV p s mm args meth c cX1_rulerOf RX1 2 (some .int) D cI cZ cO) {k mo : kS} {B : Nat} (hB : kB B) {H : Heap} {locs : List Loc} {ls : Array Slot} {out : Int32} (hH : kHE s H locs D ad cI cZ cO k mo []) (hl : lv_has ls 2 []) (hf : F_X1_rulerOf_17 B k = some out) : W p l e rm_X1_rulerOf s mm args below meth c H locs 0 0 (kGi below args s D cI cZ cO ad out k mo 0 0) (F0 mm 17 ls []) := by
  have hx := V.1
  have hb := V.2.1
  refine lv_iconst (v := (-1)) hx hb dX1_rulerOf_17 (by decide) ?_
  exact w_X1_rulerOf_18 V hB hH (lv_sub hl [] rfl) hf
set_option maxHeartbeats 4000000 in
set_option maxRecDepth 100000 in
theorem w_X1_rulerOf_0 (V : kV p s mm args meth c cX1_rulerOf RX1 2 (some .int) D cI cZ cO) {k mo : kS} {B : Nat} (hB : kB B) {v1 : Int32} {H : Heap} {locs : List Loc} {ls : Array Slot} {out : Int32} (hH : kHE s H locs D ad cI cZ cO k mo []) (hl : lv_has ls 2 [(0, .ref (ad (B + 1))), (1, .int v1)]) (hf : F_X1_rulerOf_0 B k v1 = some out) : W p l e rm_X1_rulerOf s mm args below meth c H locs 0 0 (kGi below args s D cI cZ cO ad out k mo 0 0) (F0 mm 0 ls []) := by
  have hx := V.1
  have hb := V.2.1
  refine lv_aload_n hx hb dX1_rulerOf_0 rfl (lv_at hl 0 rfl) ?_
  refine lv_iload_n hx hb dX1_rulerOf_1 rfl (lv_at hl 1 rfl) ?_
  obtain ⟨x0_1, hx0_1, hf⟩ := kbind hf
  refine kr_calli0 hH (kr_runV (as := [.int v1]) (rest := []) (pl := (B + 1)) V hH kYX1_knows kl_X1_56 (c_X1_knows l hB _ hx0_1 _) rfl rfl ⟨Nat.le_of_ble_eq_true rfl, Nat.le_of_ble_eq_true rfl⟩ (kq_w hB (by decide)) (kE_w1 hB) rfl rfl hl.1 (Nat.le_of_ble_eq_true rfl) dX1_rulerOf_2 ⟨Nat.le_refl _, Nat.le_refl _⟩ rfl) (fun H locs hH => ?_)
  refine lv_if_eq (tgt := 17) hx hb dX1_rulerOf_5 (by decide) (fun hq => ?_) (fun hq => ?_)
  · have hf := kpos hq hf
    exact w_X1_rulerOf_17 V hB hH (lv_sub hl [] rfl) hf
  · have hf := kneg hq hf
    exact w_X1_rulerOf_8 V hB hH (lv_sub hl [0, 1] rfl) hf
set_option maxHeartbeats 4000000 in
set_option maxRecDepth 100000 in
theorem c_X1_rulerOf (l : Launch) {D : va_G} {cI cZ cO : ClassId} {ad : Nat → Nat} {k mo : kS} {B : Nat} (hB : kB B) (v1 : Int32) {out : Int32} (hf : F_X1_rulerOf B k v1 = some out) (sz : Nat) : Met l yX1_rulerOf (Cond.code yX1_rulerOf cX1_rulerOf 2 (some .int) :: kWA) rm_X1_rulerOf (kP [.ref (ad (B + 1)), .int v1] D cI cZ cO ad (kE ad cI cZ cO k mo) sz) (kQi out D cI cZ cO ad (kE ad cI cZ cO k mo) sz) 0 0 (fA ad sz) := by
  refine kr_met (as := [.ref (ad (B + 1)), .int v1]) (bytes := cX1_rulerOf) (maxL := 2) (rt := (some .int)) (Qc := fun sz => kQi out D cI cZ cO ad (kE ad cI cZ cO k mo) sz) (lv := [(0, .ref (ad (B + 1))), (1, .int v1)]) (by decide +kernel) (Nat.le_of_ble_eq_true rfl) rfl (fun p e s mm below meth c ls V hH hl => ?_) sz
  exact w_X1_rulerOf_0 V hB hH (lv_sub hl [0, 1] rfl) hf
end
section
variable {p : Program} {l : Launch} {e : Env} {s : State} {mm : MethodId} {args : Array Value} {below : List Frame} {meth : Method} {c : Code} {D : va_G} {cI cZ cO : ClassId} {ad : Nat → Nat}
abbrev rm_X1_numberUnder : Room := { frames := 0, cells := 0, slots := 0, locals := 0 }
set_option maxHeartbeats 4000000 in
set_option maxRecDepth 100000 in
theorem w_X1_numberUnder_25 (V : kV p s mm args meth c cX1_numberUnder RX1 4 (some .int) D cI cZ cO) {k mo : kS} {B : Nat} (hB : kB B) {c4 : Int32 → Int32 → Int32 → Option (Int32)} (hk4 : ∀ {v1 : Int32} {v2 : Int32} {v3 : Int32} {H : Heap} {locs : List Loc} {ls : Array Slot} {out : Int32}, kHE s H locs D ad cI cZ cO k mo [] → lv_has ls 4 [(0, .ref (ad (B + 1))), (1, .int v1), (2, .int v2), (3, .int v3)] → c4 v1 v2 v3 = some out → W p l e rm_X1_numberUnder s mm args below meth c H locs 0 0 (kGi below args s D cI cZ cO ad out k mo 0 0) (F0 mm 4 ls [])) {v1 : Int32} {v2 : Int32} {v3 : Int32} {H : Heap} {locs : List Loc} {ls : Array Slot} {out : Int32} (hH : kHE s H locs D ad cI cZ cO k mo []) (hl : lv_has ls 4 [(0, .ref (ad (B + 1))), (1, .int v1), (2, .int v2), (3, .int v3)]) (hf : F_X1_numberUnder_25 B k c4 v1 v2 v3 = some out) : W p l e rm_X1_numberUnder s mm args below meth c H locs 0 0 (kGi below args s D cI cZ cO ad out k mo 0 0) (F0 mm 25 ls []) := by
  have hx := V.1
  have hb := V.2.1
  refine lv_iinc (v := (v3 + 1)) (lv' := [(3, .int (v3 + 1)), (0, .ref (ad (B + 1))), (1, .int v1), (2, .int v2)]) hx hb dX1_numberUnder_25 hl (k := 3) rfl rfl (by decide) rfl (fun ls hl => ?_)
  refine lv_goto (tgt := 4) hx hb dX1_numberUnder_28 (by decide) ?_
  exact hk4 hH (lv_sub hl [1, 2, 3, 0] rfl) hf
set_option maxHeartbeats 4000000 in
set_option maxRecDepth 100000 in
theorem w_X1_numberUnder_22 (V : kV p s mm args meth c cX1_numberUnder RX1 4 (some .int) D cI cZ cO) {k mo : kS} {B : Nat} (hB : kB B) {c4 : Int32 → Int32 → Int32 → Option (Int32)} (hk4 : ∀ {v1 : Int32} {v2 : Int32} {v3 : Int32} {H : Heap} {locs : List Loc} {ls : Array Slot} {out : Int32}, kHE s H locs D ad cI cZ cO k mo [] → lv_has ls 4 [(0, .ref (ad (B + 1))), (1, .int v1), (2, .int v2), (3, .int v3)] → c4 v1 v2 v3 = some out → W p l e rm_X1_numberUnder s mm args below meth c H locs 0 0 (kGi below args s D cI cZ cO ad out k mo 0 0) (F0 mm 4 ls [])) {v1 : Int32} {v2 : Int32} {v3 : Int32} {H : Heap} {locs : List Loc} {ls : Array Slot} {out : Int32} (hH : kHE s H locs D ad cI cZ cO k mo []) (hl : lv_has ls 4 [(0, .ref (ad (B + 1))), (1, .int v1), (2, .int v2), (3, .int v3)]) (hf : F_X1_numberUnder_22 B k c4 v1 v2 v3 = some out) : W p l e rm_X1_numberUnder s mm args below meth c H locs 0 0 (kGi below args s D cI cZ cO ad out k mo 0 0) (F0 mm 22 ls []) := by
  have hx := V.1
  have hb := V.2.1
  refine lv_iinc (v := (v2 + 1)) (lv' := [(2, .int (v2 + 1)), (0, .ref (ad (B + 1))), (1, .int v1), (3, .int v3)]) hx hb dX1_numberUnder_22 hl (k := 2) rfl rfl (by decide) rfl (fun ls hl => ?_)
  exact w_X1_numberUnder_25 V hB hk4 hH (lv_sub hl [1, 2, 0, 3] rfl) hf
set_option maxHeartbeats 4000000 in
set_option maxRecDepth 100000 in
theorem w_X1_numberUnder_12 (V : kV p s mm args meth c cX1_numberUnder RX1 4 (some .int) D cI cZ cO) {k mo : kS} {B : Nat} (hB : kB B) {c4 : Int32 → Int32 → Int32 → Option (Int32)} (hk4 : ∀ {v1 : Int32} {v2 : Int32} {v3 : Int32} {H : Heap} {locs : List Loc} {ls : Array Slot} {out : Int32}, kHE s H locs D ad cI cZ cO k mo [] → lv_has ls 4 [(0, .ref (ad (B + 1))), (1, .int v1), (2, .int v2), (3, .int v3)] → c4 v1 v2 v3 = some out → W p l e rm_X1_numberUnder s mm args below meth c H locs 0 0 (kGi below args s D cI cZ cO ad out k mo 0 0) (F0 mm 4 ls [])) {v1 : Int32} {v2 : Int32} {v3 : Int32} {H : Heap} {locs : List Loc} {ls : Array Slot} {out : Int32} (hH : kHE s H locs D ad cI cZ cO k mo []) (hl : lv_has ls 4 [(0, .ref (ad (B + 1))), (1, .int v1), (2, .int v2), (3, .int v3)]) (hf : F_X1_numberUnder_12 B k c4 v1 v2 v3 = some out) : W p l e rm_X1_numberUnder s mm args below meth c H locs 0 0 (kGi below args s D cI cZ cO ad out k mo 0 0) (F0 mm 12 ls []) := by
  have hx := V.1
  have hb := V.2.1
  refine lv_aload_n hx hb dX1_numberUnder_12 rfl (lv_at hl 0 rfl) ?_
  refine kg_X1_22 hB V hH dX1_numberUnder_13 ?_
  refine lv_iload_n hx hb dX1_numberUnder_16 rfl (lv_at hl 3 rfl) ?_
  obtain ⟨h12_1, hf⟩ := kif hf
  refine kr_iald V hH (q := (B + 4)) (kq_w hB (by decide)) (kE_w4 hB) h12_1 dX1_numberUnder_17 ?_
  refine lv_iload_n hx hb dX1_numberUnder_18 rfl (lv_at hl 1 rfl) ?_
  refine lv_icmp_ne (tgt := 25) hx hb dX1_numberUnder_19 (by decide) (fun hq => ?_) (fun hq => ?_)
  · have hf := kneg hq hf
    exact w_X1_numberUnder_25 V hB hk4 hH (lv_sub hl [0, 1, 2, 3] rfl) hf
  · have hf := kpos hq hf
    exact w_X1_numberUnder_22 V hB hk4 hH (lv_sub hl [0, 1, 2, 3] rfl) hf
set_option maxHeartbeats 4000000 in
set_option maxRecDepth 100000 in
theorem w_X1_numberUnder_31 (V : kV p s mm args meth c cX1_numberUnder RX1 4 (some .int) D cI cZ cO) {k mo : kS} {B : Nat} (hB : kB B) {v2 : Int32} {H : Heap} {locs : List Loc} {ls : Array Slot} {out : Int32} (hH : kHE s H locs D ad cI cZ cO k mo []) (hl : lv_has ls 4 [(2, .int v2)]) (hf : F_X1_numberUnder_31 B k v2 = some out) : W p l e rm_X1_numberUnder s mm args below meth c H locs 0 0 (kGi below args s D cI cZ cO ad out k mo 0 0) (F0 mm 31 ls []) := by
  have hx := V.1
  have hb := V.2.1
  refine lv_iload_n hx hb dX1_numberUnder_31 rfl (lv_at hl 0 rfl) ?_
  cases hf
  exact kr_iret V hH dX1_numberUnder_32
set_option maxHeartbeats 4000000 in
set_option maxRecDepth 100000 in
theorem w_X1_numberUnder_4 (V : kV p s mm args meth c cX1_numberUnder RX1 4 (some .int) D cI cZ cO) {k mo : kS} {B : Nat} (hB : kB B) : ∀ (n : Nat) {v1 : Int32} {v2 : Int32} {v3 : Int32} {H : Heap} {locs : List Loc} {ls : Array Slot} {out : Int32}, kHE s H locs D ad cI cZ cO k mo [] → lv_has ls 4 [(0, .ref (ad (B + 1))), (1, .int v1), (2, .int v2), (3, .int v3)] → F_X1_numberUnder_4 B k n v1 v2 v3 = some out → W p l e rm_X1_numberUnder s mm args below meth c H locs 0 0 (kGi below args s D cI cZ cO ad out k mo 0 0) (F0 mm 4 ls []) := by
  have hx := V.1
  have hb := V.2.1
  intro n
  induction n with
  | zero => intro _ _ _ _ _ _ _ hH hl hf; cases hf
  | succ n hk4 =>
    intro v1 v2 v3 H locs ls out hH hl hf
    refine lv_iload_n hx hb dX1_numberUnder_4 rfl (lv_at hl 3 rfl) ?_
    refine lv_aload_n hx hb dX1_numberUnder_5 rfl (lv_at hl 0 rfl) ?_
    refine kg_X1_9 hB V hH dX1_numberUnder_6 ?_
    refine lv_icmp_ge (tgt := 31) hx hb dX1_numberUnder_9 (by decide) (fun hq => ?_) (fun hq => ?_)
    · have hf := kpos hq hf
      exact w_X1_numberUnder_31 V hB hH (lv_sub hl [2] rfl) hf
    · have hf := kneg hq hf
      exact w_X1_numberUnder_12 V hB hk4 hH (lv_sub hl [0, 1, 2, 3] rfl) hf
set_option maxHeartbeats 4000000 in
set_option maxRecDepth 100000 in
theorem w_X1_numberUnder_0 (V : kV p s mm args meth c cX1_numberUnder RX1 4 (some .int) D cI cZ cO) {k mo : kS} {B : Nat} (hB : kB B) {v1 : Int32} {H : Heap} {locs : List Loc} {ls : Array Slot} {out : Int32} (hH : kHE s H locs D ad cI cZ cO k mo []) (hl : lv_has ls 4 [(0, .ref (ad (B + 1))), (1, .int v1)]) (hf : F_X1_numberUnder_0 B k v1 = some out) : W p l e rm_X1_numberUnder s mm args below meth c H locs 0 0 (kGi below args s D cI cZ cO ad out k mo 0 0) (F0 mm 0 ls []) := by
  have hx := V.1
  have hb := V.2.1
  refine lv_iconst (v := 0) hx hb dX1_numberUnder_0 (by decide) ?_
  refine lv_istore_n (lv' := [(2, .int 0), (0, .ref (ad (B + 1))), (1, .int v1)]) hx hb dX1_numberUnder_1 rfl hl (by decide) rfl (fun ls hl => ?_)
  refine lv_iconst (v := 0) hx hb dX1_numberUnder_2 (by decide) ?_
  refine lv_istore_n (lv' := [(3, .int 0), (2, .int 0), (0, .ref (ad (B + 1))), (1, .int v1)]) hx hb dX1_numberUnder_3 rfl hl (by decide) rfl (fun ls hl => ?_)
  exact w_X1_numberUnder_4 V hB kN hH (lv_sub hl [2, 3, 1, 0] rfl) hf
set_option maxHeartbeats 4000000 in
set_option maxRecDepth 100000 in
theorem c_X1_numberUnder (l : Launch) {D : va_G} {cI cZ cO : ClassId} {ad : Nat → Nat} {k mo : kS} {B : Nat} (hB : kB B) (v1 : Int32) {out : Int32} (hf : F_X1_numberUnder B k v1 = some out) (sz : Nat) : Met l yX1_numberUnder (Cond.code yX1_numberUnder cX1_numberUnder 4 (some .int) :: kWA) rm_X1_numberUnder (kP [.ref (ad (B + 1)), .int v1] D cI cZ cO ad (kE ad cI cZ cO k mo) sz) (kQi out D cI cZ cO ad (kE ad cI cZ cO k mo) sz) 0 0 (fA ad sz) := by
  refine kr_met (as := [.ref (ad (B + 1)), .int v1]) (bytes := cX1_numberUnder) (maxL := 4) (rt := (some .int)) (Qc := fun sz => kQi out D cI cZ cO ad (kE ad cI cZ cO k mo) sz) (lv := [(0, .ref (ad (B + 1))), (1, .int v1)]) (by decide +kernel) (Nat.le_of_ble_eq_true rfl) rfl (fun p e s mm below meth c ls V hH hl => ?_) sz
  exact w_X1_numberUnder_0 V hB hH (lv_sub hl [0, 1] rfl) hf
end
section
variable {p : Program} {l : Launch} {e : Env} {s : State} {mm : MethodId} {args : Array Value} {below : List Frame} {meth : Method} {c : Code} {D : va_G} {cI cZ cO : ClassId} {ad : Nat → Nat}
abbrev rm_X1_worthUnder : Room := { frames := 0, cells := 0, slots := 0, locals := 0 }
set_option maxHeartbeats 4000000 in
set_option maxRecDepth 100000 in
theorem w_X1_worthUnder_31 (V : kV p s mm args meth c cX1_worthUnder RX1 4 (some .int) D cI cZ cO) {k mo : kS} {B : Nat} (hB : kB B) {c4 : Int32 → Int32 → Int32 → Option (Int32)} (hk4 : ∀ {v1 : Int32} {v2 : Int32} {v3 : Int32} {H : Heap} {locs : List Loc} {ls : Array Slot} {out : Int32}, kHE s H locs D ad cI cZ cO k mo [] → lv_has ls 4 [(0, .ref (ad (B + 1))), (1, .int v1), (2, .int v2), (3, .int v3)] → c4 v1 v2 v3 = some out → W p l e rm_X1_worthUnder s mm args below meth c H locs 0 0 (kGi below args s D cI cZ cO ad out k mo 0 0) (F0 mm 4 ls [])) {v1 : Int32} {v2 : Int32} {v3 : Int32} {H : Heap} {locs : List Loc} {ls : Array Slot} {out : Int32} (hH : kHE s H locs D ad cI cZ cO k mo []) (hl : lv_has ls 4 [(0, .ref (ad (B + 1))), (1, .int v1), (2, .int v2), (3, .int v3)]) (hf : F_X1_worthUnder_31 B k c4 v1 v2 v3 = some out) : W p l e rm_X1_worthUnder s mm args below meth c H locs 0 0 (kGi below args s D cI cZ cO ad out k mo 0 0) (F0 mm 31 ls []) := by
  have hx := V.1
  have hb := V.2.1
  refine lv_iinc (v := (v3 + 1)) (lv' := [(3, .int (v3 + 1)), (0, .ref (ad (B + 1))), (1, .int v1), (2, .int v2)]) hx hb dX1_worthUnder_31 hl (k := 3) rfl rfl (by decide) rfl (fun ls hl => ?_)
  refine lv_goto (tgt := 4) hx hb dX1_worthUnder_34 (by decide) ?_
  exact hk4 hH (lv_sub hl [1, 2, 3, 0] rfl) hf
set_option maxHeartbeats 4000000 in
set_option maxRecDepth 100000 in
theorem w_X1_worthUnder_22 (V : kV p s mm args meth c cX1_worthUnder RX1 4 (some .int) D cI cZ cO) {k mo : kS} {B : Nat} (hB : kB B) {c4 : Int32 → Int32 → Int32 → Option (Int32)} (hk4 : ∀ {v1 : Int32} {v2 : Int32} {v3 : Int32} {H : Heap} {locs : List Loc} {ls : Array Slot} {out : Int32}, kHE s H locs D ad cI cZ cO k mo [] → lv_has ls 4 [(0, .ref (ad (B + 1))), (1, .int v1), (2, .int v2), (3, .int v3)] → c4 v1 v2 v3 = some out → W p l e rm_X1_worthUnder s mm args below meth c H locs 0 0 (kGi below args s D cI cZ cO ad out k mo 0 0) (F0 mm 4 ls [])) {v1 : Int32} {v2 : Int32} {v3 : Int32} {H : Heap} {locs : List Loc} {ls : Array Slot} {out : Int32} (hH : kHE s H locs D ad cI cZ cO k mo []) (hl : lv_has ls 4 [(0, .ref (ad (B + 1))), (1, .int v1), (2, .int v2), (3, .int v3)]) (hf : F_X1_worthUnder_22 B k c4 v1 v2 v3 = some out) : W p l e rm_X1_worthUnder s mm args below meth c H locs 0 0 (kGi below args s D cI cZ cO ad out k mo 0 0) (F0 mm 22 ls []) := by
  have hx := V.1
  have hb := V.2.1
  refine lv_iload_n hx hb dX1_worthUnder_22 rfl (lv_at hl 2 rfl) ?_
  refine lv_aload_n hx hb dX1_worthUnder_23 rfl (lv_at hl 0 rfl) ?_
  refine kg_X1_15 hB V hH dX1_worthUnder_24 ?_
  refine lv_iload_n hx hb dX1_worthUnder_27 rfl (lv_at hl 3 rfl) ?_
  obtain ⟨h22_1, hf⟩ := kif hf
  refine kr_iald V hH (q := (B + 2)) (kq_w hB (by decide)) (kE_w2 hB) h22_1 dX1_worthUnder_28 ?_
  refine lv_iadd hx hb dX1_worthUnder_29 ?_
  refine lv_istore_n (lv' := [(2, .int (v2 + (k (B + 2) v3.toNatClampNeg))), (0, .ref (ad (B + 1))), (1, .int v1), (3, .int v3)]) hx hb dX1_worthUnder_30 rfl hl (by decide) rfl (fun ls hl => ?_)
  exact w_X1_worthUnder_31 V hB hk4 hH (lv_sub hl [1, 2, 0, 3] rfl) hf
set_option maxHeartbeats 4000000 in
set_option maxRecDepth 100000 in
theorem w_X1_worthUnder_12 (V : kV p s mm args meth c cX1_worthUnder RX1 4 (some .int) D cI cZ cO) {k mo : kS} {B : Nat} (hB : kB B) {c4 : Int32 → Int32 → Int32 → Option (Int32)} (hk4 : ∀ {v1 : Int32} {v2 : Int32} {v3 : Int32} {H : Heap} {locs : List Loc} {ls : Array Slot} {out : Int32}, kHE s H locs D ad cI cZ cO k mo [] → lv_has ls 4 [(0, .ref (ad (B + 1))), (1, .int v1), (2, .int v2), (3, .int v3)] → c4 v1 v2 v3 = some out → W p l e rm_X1_worthUnder s mm args below meth c H locs 0 0 (kGi below args s D cI cZ cO ad out k mo 0 0) (F0 mm 4 ls [])) {v1 : Int32} {v2 : Int32} {v3 : Int32} {H : Heap} {locs : List Loc} {ls : Array Slot} {out : Int32} (hH : kHE s H locs D ad cI cZ cO k mo []) (hl : lv_has ls 4 [(0, .ref (ad (B + 1))), (1, .int v1), (2, .int v2), (3, .int v3)]) (hf : F_X1_worthUnder_12 B k c4 v1 v2 v3 = some out) : W p l e rm_X1_worthUnder s mm args below meth c H locs 0 0 (kGi below args s D cI cZ cO ad out k mo 0 0) (F0 mm 12 ls []) := by
  have hx := V.1
  have hb := V.2.1
  refine lv_aload_n hx hb dX1_worthUnder_12 rfl (lv_at hl 0 rfl) ?_
  refine kg_X1_22 hB V hH dX1_worthUnder_13 ?_
  refine lv_iload_n hx hb dX1_worthUnder_16 rfl (lv_at hl 3 rfl) ?_
  obtain ⟨h12_1, hf⟩ := kif hf
  refine kr_iald V hH (q := (B + 4)) (kq_w hB (by decide)) (kE_w4 hB) h12_1 dX1_worthUnder_17 ?_
  refine lv_iload_n hx hb dX1_worthUnder_18 rfl (lv_at hl 1 rfl) ?_
  refine lv_icmp_ne (tgt := 31) hx hb dX1_worthUnder_19 (by decide) (fun hq => ?_) (fun hq => ?_)
  · have hf := kneg hq hf
    exact w_X1_worthUnder_31 V hB hk4 hH (lv_sub hl [0, 1, 2, 3] rfl) hf
  · have hf := kpos hq hf
    exact w_X1_worthUnder_22 V hB hk4 hH (lv_sub hl [0, 1, 2, 3] rfl) hf
set_option maxHeartbeats 4000000 in
set_option maxRecDepth 100000 in
theorem w_X1_worthUnder_37 (V : kV p s mm args meth c cX1_worthUnder RX1 4 (some .int) D cI cZ cO) {k mo : kS} {B : Nat} (hB : kB B) {v2 : Int32} {H : Heap} {locs : List Loc} {ls : Array Slot} {out : Int32} (hH : kHE s H locs D ad cI cZ cO k mo []) (hl : lv_has ls 4 [(2, .int v2)]) (hf : F_X1_worthUnder_37 B k v2 = some out) : W p l e rm_X1_worthUnder s mm args below meth c H locs 0 0 (kGi below args s D cI cZ cO ad out k mo 0 0) (F0 mm 37 ls []) := by
  have hx := V.1
  have hb := V.2.1
  refine lv_iload_n hx hb dX1_worthUnder_37 rfl (lv_at hl 0 rfl) ?_
  cases hf
  exact kr_iret V hH dX1_worthUnder_38
set_option maxHeartbeats 4000000 in
set_option maxRecDepth 100000 in
theorem w_X1_worthUnder_4 (V : kV p s mm args meth c cX1_worthUnder RX1 4 (some .int) D cI cZ cO) {k mo : kS} {B : Nat} (hB : kB B) : ∀ (n : Nat) {v1 : Int32} {v2 : Int32} {v3 : Int32} {H : Heap} {locs : List Loc} {ls : Array Slot} {out : Int32}, kHE s H locs D ad cI cZ cO k mo [] → lv_has ls 4 [(0, .ref (ad (B + 1))), (1, .int v1), (2, .int v2), (3, .int v3)] → F_X1_worthUnder_4 B k n v1 v2 v3 = some out → W p l e rm_X1_worthUnder s mm args below meth c H locs 0 0 (kGi below args s D cI cZ cO ad out k mo 0 0) (F0 mm 4 ls []) := by
  have hx := V.1
  have hb := V.2.1
  intro n
  induction n with
  | zero => intro _ _ _ _ _ _ _ hH hl hf; cases hf
  | succ n hk4 =>
    intro v1 v2 v3 H locs ls out hH hl hf
    refine lv_iload_n hx hb dX1_worthUnder_4 rfl (lv_at hl 3 rfl) ?_
    refine lv_aload_n hx hb dX1_worthUnder_5 rfl (lv_at hl 0 rfl) ?_
    refine kg_X1_9 hB V hH dX1_worthUnder_6 ?_
    refine lv_icmp_ge (tgt := 37) hx hb dX1_worthUnder_9 (by decide) (fun hq => ?_) (fun hq => ?_)
    · have hf := kpos hq hf
      exact w_X1_worthUnder_37 V hB hH (lv_sub hl [2] rfl) hf
    · have hf := kneg hq hf
      exact w_X1_worthUnder_12 V hB hk4 hH (lv_sub hl [0, 1, 2, 3] rfl) hf
set_option maxHeartbeats 4000000 in
set_option maxRecDepth 100000 in
theorem w_X1_worthUnder_0 (V : kV p s mm args meth c cX1_worthUnder RX1 4 (some .int) D cI cZ cO) {k mo : kS} {B : Nat} (hB : kB B) {v1 : Int32} {H : Heap} {locs : List Loc} {ls : Array Slot} {out : Int32} (hH : kHE s H locs D ad cI cZ cO k mo []) (hl : lv_has ls 4 [(0, .ref (ad (B + 1))), (1, .int v1)]) (hf : F_X1_worthUnder_0 B k v1 = some out) : W p l e rm_X1_worthUnder s mm args below meth c H locs 0 0 (kGi below args s D cI cZ cO ad out k mo 0 0) (F0 mm 0 ls []) := by
  have hx := V.1
  have hb := V.2.1
  refine lv_iconst (v := 0) hx hb dX1_worthUnder_0 (by decide) ?_
  refine lv_istore_n (lv' := [(2, .int 0), (0, .ref (ad (B + 1))), (1, .int v1)]) hx hb dX1_worthUnder_1 rfl hl (by decide) rfl (fun ls hl => ?_)
  refine lv_iconst (v := 0) hx hb dX1_worthUnder_2 (by decide) ?_
  refine lv_istore_n (lv' := [(3, .int 0), (2, .int 0), (0, .ref (ad (B + 1))), (1, .int v1)]) hx hb dX1_worthUnder_3 rfl hl (by decide) rfl (fun ls hl => ?_)
  exact w_X1_worthUnder_4 V hB kN hH (lv_sub hl [2, 3, 1, 0] rfl) hf
set_option maxHeartbeats 4000000 in
set_option maxRecDepth 100000 in
theorem c_X1_worthUnder (l : Launch) {D : va_G} {cI cZ cO : ClassId} {ad : Nat → Nat} {k mo : kS} {B : Nat} (hB : kB B) (v1 : Int32) {out : Int32} (hf : F_X1_worthUnder B k v1 = some out) (sz : Nat) : Met l yX1_worthUnder (Cond.code yX1_worthUnder cX1_worthUnder 4 (some .int) :: kWA) rm_X1_worthUnder (kP [.ref (ad (B + 1)), .int v1] D cI cZ cO ad (kE ad cI cZ cO k mo) sz) (kQi out D cI cZ cO ad (kE ad cI cZ cO k mo) sz) 0 0 (fA ad sz) := by
  refine kr_met (as := [.ref (ad (B + 1)), .int v1]) (bytes := cX1_worthUnder) (maxL := 4) (rt := (some .int)) (Qc := fun sz => kQi out D cI cZ cO ad (kE ad cI cZ cO k mo) sz) (lv := [(0, .ref (ad (B + 1))), (1, .int v1)]) (by decide +kernel) (Nat.le_of_ble_eq_true rfl) rfl (fun p e s mm below meth c ls V hH hl => ?_) sz
  exact w_X1_worthUnder_0 V hB hH (lv_sub hl [0, 1] rfl) hf
end
section
variable {p : Program} {l : Launch} {e : Env} {s : State} {mm : MethodId} {args : Array Value} {below : List Frame} {meth : Method} {c : Code} {D : va_G} {cI cZ cO : ClassId} {ad : Nat → Nat}
abbrev rm_X1_takeRulers : Room := { frames := 1, cells := 0, slots := 0, locals := 40 }
set_option maxHeartbeats 4000000 in
set_option maxRecDepth 100000 in
theorem w_X1_takeRulers_0 (V : kV p s mm args meth c cX1_takeRulers RX1 2 none D cI cZ cO) {mo : kS} {k : kS} {H : Heap} {locs : List Loc} {ls : Array Slot} {out : kS} (hH : kHE s H locs D ad cI cZ cO k mo []) (hl : lv_has ls 2 [(0, .ref (ad (30 + 1))), (1, .ref (ad (15 + 1)))]) (hf : F_X1_takeRulers_0 k = some out) : W p l e rm_X1_takeRulers s mm args below meth c H locs 0 0 (kGv below args s D cI cZ cO ad out mo 0 0) (F0 mm 0 ls []) := by
  have hx := V.1
  have hb := V.2.1
  refine lv_aload_n hx hb dX1_takeRulers_0 rfl (lv_at hl 0 rfl) ?_
  refine lv_aload_n hx hb dX1_takeRulers_1 rfl (lv_at hl 1 rfl) ?_
  refine kg_X1_9 k15 V hH dX1_takeRulers_2 ?_
  refine kp_X1_9 k30 V hH dX1_takeRulers_5 (fun H locs hH => ?_)
  refine lv_aload_n hx hb dX1_takeRulers_8 rfl (lv_at hl 1 rfl) ?_
  refine kg_X1_19 k15 V hH dX1_takeRulers_9 ?_
  refine lv_iconst (v := 0) hx hb dX1_takeRulers_12 (by decide) ?_
  refine lv_aload_n hx hb dX1_takeRulers_13 rfl (lv_at hl 0 rfl) ?_
  refine kg_X1_19 k30 V hH dX1_takeRulers_14 ?_
  refine lv_iconst (v := 0) hx hb dX1_takeRulers_17 (by decide) ?_
  refine lv_bipush (v := 12) hx hb dX1_takeRulers_18 (by decide) ?_
  obtain ⟨h0_1, hf⟩ := kif hf
  refine kr_copyK V hH hl.1 kl_X1_44 (q0 := (15 + 3)) (q := (30 + 3)) (kq_w k15 (by decide)) (kq_w k30 (by decide)) (fun _ => (kE_w3 k15)) (fun _ => (kE_w3 k30)) h0_1 (Nat.le_of_ble_eq_true rfl) (Nat.le_of_ble_eq_true rfl) dX1_takeRulers_20 (fun H locs hH => ?_)
  refine lv_aload_n hx hb dX1_takeRulers_23 rfl (lv_at hl 1 rfl) ?_
  refine kg_X1_22 k15 V hH dX1_takeRulers_24 ?_
  refine lv_iconst (v := 0) hx hb dX1_takeRulers_27 (by decide) ?_
  refine lv_aload_n hx hb dX1_takeRulers_28 rfl (lv_at hl 0 rfl) ?_
  refine kg_X1_22 k30 V hH dX1_takeRulers_29 ?_
  refine lv_iconst (v := 0) hx hb dX1_takeRulers_32 (by decide) ?_
  refine lv_bipush (v := 12) hx hb dX1_takeRulers_33 (by decide) ?_
  obtain ⟨h0_2, hf⟩ := kif hf
  refine kr_copyK V hH hl.1 kl_X1_44 (q0 := (15 + 4)) (q := (30 + 4)) (kq_w k15 (by decide)) (kq_w k30 (by decide)) (fun _ => (kE_w4 k15)) (fun _ => (kE_w4 k30)) h0_2 (Nat.le_of_ble_eq_true rfl) (Nat.le_of_ble_eq_true rfl) dX1_takeRulers_35 (fun H locs hH => ?_)
  cases hf
  exact kr_vret V hH dX1_takeRulers_38
set_option maxHeartbeats 4000000 in
set_option maxRecDepth 100000 in
theorem c_X1_takeRulers (l : Launch) {D : va_G} {cI cZ cO : ClassId} {ad : Nat → Nat} {k mo : kS} {out : kS} (hf : F_X1_takeRulers k = some out) (sz : Nat) : Met l yX1_takeRulers (Cond.code yX1_takeRulers cX1_takeRulers 2 none :: kWA) rm_X1_takeRulers (kP [.ref (ad (30 + 1)), .ref (ad (15 + 1))] D cI cZ cO ad (kE ad cI cZ cO k mo) sz) (kQv D cI cZ cO ad (kE ad cI cZ cO out mo) sz) 0 0 (fA ad sz) := by
  refine kr_met (as := [.ref (ad (30 + 1)), .ref (ad (15 + 1))]) (bytes := cX1_takeRulers) (maxL := 2) (rt := none) (Qc := fun sz => kQv D cI cZ cO ad (kE ad cI cZ cO out mo) sz) (lv := [(0, .ref (ad (30 + 1))), (1, .ref (ad (15 + 1)))]) (by decide +kernel) (Nat.le_of_ble_eq_true rfl) rfl (fun p e s mm below meth c ls V hH hl => ?_) sz
  exact w_X1_takeRulers_0 V hH (lv_sub hl [0, 1] rfl) hf
end
section
variable {p : Program} {l : Launch} {e : Env} {s : State} {mm : MethodId} {args : Array Value} {below : List Frame} {meth : Method} {c : Code} {D : va_G} {cI cZ cO : ClassId} {ad : Nat → Nat}
abbrev rm_X2_clear : Room := { frames := 1, cells := 0, slots := 0, locals := 23 }
set_option maxHeartbeats 4000000 in
set_option maxRecDepth 100000 in
theorem w_X2_clear_0 (V : kV p s mm args meth c cX2_clear RX2 1 none D cI cZ cO) {mo : kS} {B : Nat} (hB : kB B) {k : kS} {H : Heap} {locs : List Loc} {ls : Array Slot} {out : kS} (hH : kHE s H locs D ad cI cZ cO k mo []) (hl : lv_has ls 1 [(0, .ref (ad (B + 11)))]) (hf : F_X2_clear_0 B k = some out) : W p l e rm_X2_clear s mm args below meth c H locs 0 0 (kGv below args s D cI cZ cO ad out mo 0 0) (F0 mm 0 ls []) := by
  have hx := V.1
  have hb := V.2.1
  refine lv_aload_n hx hb dX2_clear_0 rfl (lv_at hl 0 rfl) ?_
  refine kg_X2_9 hB V hH dX2_clear_1 ?_
  refine lv_iconst (v := (-1)) hx hb dX2_clear_4 (by decide) ?_
  refine kr_fill V hH hl.1 kl_X2_18 (q := (B + 12)) (kq_w hB (by decide)) (n := 40) (by decide) (fun _ => (kE_w12 hB)) (Nat.le_of_ble_eq_true rfl) ⟨Nat.le_of_ble_eq_true rfl, Nat.le_of_ble_eq_true rfl⟩ ⟨Nat.le_refl _, Nat.le_refl _⟩ dX2_clear_5 (fun H locs hH => ?_)
  refine lv_aload_n hx hb dX2_clear_8 rfl (lv_at hl 0 rfl) ?_
  refine kg_X2_15 hB V hH dX2_clear_9 ?_
  refine lv_iconst (v := (-1)) hx hb dX2_clear_12 (by decide) ?_
  refine kr_fill V hH hl.1 kl_X2_18 (q := (B + 13)) (kq_w hB (by decide)) (n := 40) (by decide) (fun _ => (kE_w13 hB)) (Nat.le_of_ble_eq_true rfl) ⟨Nat.le_of_ble_eq_true rfl, Nat.le_of_ble_eq_true rfl⟩ ⟨Nat.le_refl _, Nat.le_refl _⟩ dX2_clear_13 (fun H locs hH => ?_)
  cases hf
  exact kr_vret V hH dX2_clear_16
set_option maxHeartbeats 4000000 in
set_option maxRecDepth 100000 in
theorem c_X2_clear (l : Launch) {D : va_G} {cI cZ cO : ClassId} {ad : Nat → Nat} {k mo : kS} {B : Nat} (hB : kB B) {out : kS} (hf : F_X2_clear B k = some out) (sz : Nat) : Met l yX2_clear (Cond.code yX2_clear cX2_clear 1 none :: kWA) rm_X2_clear (kP [.ref (ad (B + 11))] D cI cZ cO ad (kE ad cI cZ cO k mo) sz) (kQv D cI cZ cO ad (kE ad cI cZ cO out mo) sz) 0 0 (fA ad sz) := by
  refine kr_met (as := [.ref (ad (B + 11))]) (bytes := cX2_clear) (maxL := 1) (rt := none) (Qc := fun sz => kQv D cI cZ cO ad (kE ad cI cZ cO out mo) sz) (lv := [(0, .ref (ad (B + 11)))]) (by decide +kernel) (Nat.le_of_ble_eq_true rfl) rfl (fun p e s mm below meth c ls V hH hl => ?_) sz
  exact w_X2_clear_0 V hB hH (lv_sub hl [0] rfl) hf
end
section
variable {p : Program} {l : Launch} {e : Env} {s : State} {mm : MethodId} {args : Array Value} {below : List Frame} {meth : Method} {c : Code} {D : va_G} {cI cZ cO : ClassId} {ad : Nat → Nat}
abbrev rm_X2_firstOf : Room := { frames := 0, cells := 0, slots := 0, locals := 0 }
set_option maxHeartbeats 4000000 in
set_option maxRecDepth 100000 in
theorem w_X2_firstOf_20 (V : kV p s mm args meth c cX2_firstOf RX2 2 (some .int) D cI cZ cO) {k mo : kS} {B : Nat} (hB : kB B) {s0 : Int32} {H : Heap} {locs : List Loc} {ls : Array Slot} {out : Int32} (hH : kHE s H locs D ad cI cZ cO k mo []) (hl : lv_has ls 2 []) (hf : F_X2_firstOf_20 B k s0 = some out) : W p l e rm_X2_firstOf s mm args below meth c H locs 0 0 (kGi below args s D cI cZ cO ad out k mo 0 0) (F0 mm 20 ls [.int s0]) := by
  have hx := V.1
  have hb := V.2.1
  cases hf
  exact kr_iret V hH dX2_firstOf_20
set_option maxHeartbeats 4000000 in
set_option maxRecDepth 100000 in
theorem w_X2_firstOf_10 (V : kV p s mm args meth c cX2_firstOf RX2 2 (some .int) D cI cZ cO) {k mo : kS} {B : Nat} (hB : kB B) {v1 : Int32} {H : Heap} {locs : List Loc} {ls : Array Slot} {out : Int32} (hH : kHE s H locs D ad cI cZ cO k mo []) (hl : lv_has ls 2 [(0, .ref (ad (B + 11))), (1, .int v1)]) (hf : F_X2_firstOf_10 B k v1 = some out) : W p l e rm_X2_firstOf s mm args below meth c H locs 0 0 (kGi below args s D cI cZ cO ad out k mo 0 0) (F0 mm 10 ls []) := by
  have hx := V.1
  have hb := V.2.1
  refine lv_aload_n hx hb dX2_firstOf_10 rfl (lv_at hl 0 rfl) ?_
  refine kg_X2_9 hB V hH dX2_firstOf_11 ?_
  refine lv_iload_n hx hb dX2_firstOf_14 rfl (lv_at hl 1 rfl) ?_
  obtain ⟨h10_1, hf⟩ := kif hf
  refine kr_iald V hH (q := (B + 12)) (kq_w hB (by decide)) (kE_w12 hB) h10_1 dX2_firstOf_15 ?_
  refine lv_goto (tgt := 20) hx hb dX2_firstOf_16 (by decide) ?_
  exact w_X2_firstOf_20 V hB hH (lv_sub hl [] rfl) hf
set_option maxHeartbeats 4000000 in
set_option maxRecDepth 100000 in
theorem w_X2_firstOf_19 (V : kV p s mm args meth c cX2_firstOf RX2 2 (some .int) D cI cZ cO) {k mo : kS} {B : Nat} (hB : kB B) {H : Heap} {locs : List Loc} {ls : Array Slot} {out : Int32} (hH : kHE s H locs D ad cI cZ cO k mo []) (hl : lv_has ls 2 []) (hf : F_X2_firstOf_19 B k = some out) : W p l e rm_X2_firstOf s mm args below meth c H locs 0 0 (kGi below args s D cI cZ cO ad out k mo 0 0) (F0 mm 19 ls []) := by
  have hx := V.1
  have hb := V.2.1
  refine lv_iconst (v := (-1)) hx hb dX2_firstOf_19 (by decide) ?_
  exact w_X2_firstOf_20 V hB hH (lv_sub hl [] rfl) hf
set_option maxHeartbeats 4000000 in
set_option maxRecDepth 100000 in
theorem w_X2_firstOf_4 (V : kV p s mm args meth c cX2_firstOf RX2 2 (some .int) D cI cZ cO) {k mo : kS} {B : Nat} (hB : kB B) {v1 : Int32} {H : Heap} {locs : List Loc} {ls : Array Slot} {out : Int32} (hH : kHE s H locs D ad cI cZ cO k mo []) (hl : lv_has ls 2 [(0, .ref (ad (B + 11))), (1, .int v1)]) (hf : F_X2_firstOf_4 B k v1 = some out) : W p l e rm_X2_firstOf s mm args below meth c H locs 0 0 (kGi below args s D cI cZ cO ad out k mo 0 0) (F0 mm 4 ls []) := by
  have hx := V.1
  have hb := V.2.1
  refine lv_iload_n hx hb dX2_firstOf_4 rfl (lv_at hl 1 rfl) ?_
  refine lv_bipush (v := 40) hx hb dX2_firstOf_5 (by decide) ?_
  refine lv_icmp_ge (tgt := 19) hx hb dX2_firstOf_7 (by decide) (fun hq => ?_) (fun hq => ?_)
  · have hf := kpos hq hf
    exact w_X2_firstOf_19 V hB hH (lv_sub hl [] rfl) hf
  · have hf := kneg hq hf
    exact w_X2_firstOf_10 V hB hH (lv_sub hl [0, 1] rfl) hf
set_option maxHeartbeats 4000000 in
set_option maxRecDepth 100000 in
theorem w_X2_firstOf_0 (V : kV p s mm args meth c cX2_firstOf RX2 2 (some .int) D cI cZ cO) {k mo : kS} {B : Nat} (hB : kB B) {v1 : Int32} {H : Heap} {locs : List Loc} {ls : Array Slot} {out : Int32} (hH : kHE s H locs D ad cI cZ cO k mo []) (hl : lv_has ls 2 [(0, .ref (ad (B + 11))), (1, .int v1)]) (hf : F_X2_firstOf_0 B k v1 = some out) : W p l e rm_X2_firstOf s mm args below meth c H locs 0 0 (kGi below args s D cI cZ cO ad out k mo 0 0) (F0 mm 0 ls []) := by
  have hx := V.1
  have hb := V.2.1
  refine lv_iload_n hx hb dX2_firstOf_0 rfl (lv_at hl 1 rfl) ?_
  refine lv_if_lt (tgt := 19) hx hb dX2_firstOf_1 (by decide) (fun hq => ?_) (fun hq => ?_)
  · have hf := kpos hq hf
    exact w_X2_firstOf_19 V hB hH (lv_sub hl [] rfl) hf
  · have hf := kneg hq hf
    exact w_X2_firstOf_4 V hB hH (lv_sub hl [0, 1] rfl) hf
set_option maxHeartbeats 4000000 in
set_option maxRecDepth 100000 in
theorem c_X2_firstOf (l : Launch) {D : va_G} {cI cZ cO : ClassId} {ad : Nat → Nat} {k mo : kS} {B : Nat} (hB : kB B) (v1 : Int32) {out : Int32} (hf : F_X2_firstOf B k v1 = some out) (sz : Nat) : Met l yX2_firstOf (Cond.code yX2_firstOf cX2_firstOf 2 (some .int) :: kWA) rm_X2_firstOf (kP [.ref (ad (B + 11)), .int v1] D cI cZ cO ad (kE ad cI cZ cO k mo) sz) (kQi out D cI cZ cO ad (kE ad cI cZ cO k mo) sz) 0 0 (fA ad sz) := by
  refine kr_met (as := [.ref (ad (B + 11)), .int v1]) (bytes := cX2_firstOf) (maxL := 2) (rt := (some .int)) (Qc := fun sz => kQi out D cI cZ cO ad (kE ad cI cZ cO k mo) sz) (lv := [(0, .ref (ad (B + 11))), (1, .int v1)]) (by decide +kernel) (Nat.le_of_ble_eq_true rfl) rfl (fun p e s mm below meth c ls V hH hl => ?_) sz
  exact w_X2_firstOf_0 V hB hH (lv_sub hl [0, 1] rfl) hf
end
section
variable {p : Program} {l : Launch} {e : Env} {s : State} {mm : MethodId} {args : Array Value} {below : List Frame} {meth : Method} {c : Code} {D : va_G} {cI cZ cO : ClassId} {ad : Nat → Nat}
abbrev rm_X2_tell : Room := { frames := 2, cells := 0, slots := 0, locals := 45 }
set_option maxHeartbeats 4000000 in
set_option maxRecDepth 100000 in
theorem w_X2_tell_8 (V : kV p s mm args meth c cX2_tell RX2 7 none D cI cZ cO) {mo : kS} {B : Nat} (hB : kB B) {k : kS} {H : Heap} {locs : List Loc} {ls : Array Slot} {out : kS} (hH : kHE s H locs D ad cI cZ cO k mo []) (hl : lv_has ls 7 []) (hf : F_X2_tell_8 B k = some out) : W p l e rm_X2_tell s mm args below meth c H locs 0 0 (kGv below args s D cI cZ cO ad out mo 0 0) (F0 mm 8 ls []) := by
  have hx := V.1
  have hb := V.2.1
  cases hf
  exact kr_vret V hH dX2_tell_8
set_option maxHeartbeats 4000000 in
set_option maxRecDepth 100000 in
theorem w_X2_tell_54 (V : kV p s mm args meth c cX2_tell RX2 7 none D cI cZ cO) {mo : kS} {B : Nat} (hB : kB B) {k : kS} {H : Heap} {locs : List Loc} {ls : Array Slot} {out : kS} (hH : kHE s H locs D ad cI cZ cO k mo []) (hl : lv_has ls 7 []) (hf : F_X2_tell_54 B k = some out) : W p l e rm_X2_tell s mm args below meth c H locs 0 0 (kGv below args s D cI cZ cO ad out mo 0 0) (F0 mm 54 ls []) := by
  have hx := V.1
  have hb := V.2.1
  cases hf
  exact kr_vret V hH dX2_tell_54
set_option maxHeartbeats 4000000 in
set_option maxRecDepth 100000 in
theorem w_X2_tell_38 (V : kV p s mm args meth c cX2_tell RX2 7 none D cI cZ cO) {mo : kS} {B : Nat} (hB : kB B) {v3 : Int32} {v4 : Int32} {v5 : Int32} {k : kS} {H : Heap} {locs : List Loc} {ls : Array Slot} {out : kS} (hH : kHE s H locs D ad cI cZ cO k mo []) (hl : lv_has ls 7 [(0, .ref (ad (B + 11))), (3, .int v3), (4, .int v4), (5, .int v5)]) (hf : F_X2_tell_38 B v3 v4 v5 k = some out) : W p l e rm_X2_tell s mm args below meth c H locs 0 0 (kGv below args s D cI cZ cO ad out mo 0 0) (F0 mm 38 ls []) := by
  have hx := V.1
  have hb := V.2.1
  refine lv_aload_n hx hb dX2_tell_38 rfl (lv_at hl 0 rfl) ?_
  refine kg_X2_15 hB V hH dX2_tell_39 ?_
  refine lv_iload_n hx hb dX2_tell_42 rfl (lv_at hl 1 rfl) ?_
  refine lv_iload hx hb dX2_tell_43 (lv_at hl 2 rfl) ?_
  obtain ⟨h38_1, hf⟩ := kif hf
  refine kr_iastK V hH (q := (B + 13)) (kq_w hB (by decide)) (fun _ => (kE_w13 hB)) h38_1 dX2_tell_45 (fun H locs hH => ?_)
  refine lv_aload_n hx hb dX2_tell_46 rfl (lv_at hl 0 rfl) ?_
  refine kg_X2_9 hB V hH dX2_tell_47 ?_
  refine lv_iload_n hx hb dX2_tell_50 rfl (lv_at hl 1 rfl) ?_
  refine lv_iload hx hb dX2_tell_51 (lv_at hl 3 rfl) ?_
  obtain ⟨h38_2, hf⟩ := kif hf
  refine kr_iastK V hH (q := (B + 12)) (kq_w hB (by decide)) (fun _ => (kE_w12 hB)) h38_2 dX2_tell_53 (fun H locs hH => ?_)
  exact w_X2_tell_54 V hB hH (lv_sub hl [] rfl) hf
set_option maxHeartbeats 4000000 in
set_option maxRecDepth 100000 in
theorem w_X2_tell_26 (V : kV p s mm args meth c cX2_tell RX2 7 none D cI cZ cO) {mo : kS} {B : Nat} (hB : kB B) {v2 : Int32} {v3 : Int32} {v4 : Int32} {v5 : Int32} {v6 : Int32} {k : kS} {H : Heap} {locs : List Loc} {ls : Array Slot} {out : kS} (hH : kHE s H locs D ad cI cZ cO k mo []) (hl : lv_has ls 7 [(0, .ref (ad (B + 11))), (1, .ref (ad 1)), (2, .int v2), (3, .int v3), (4, .int v4), (5, .int v5), (6, .int v6)]) (hf : F_X2_tell_26 B v2 v3 v4 v5 v6 k = some out) : W p l e rm_X2_tell s mm args below meth c H locs 0 0 (kGv below args s D cI cZ cO ad out mo 0 0) (F0 mm 26 ls []) := by
  have hx := V.1
  have hb := V.2.1
  refine lv_aload_n hx hb dX2_tell_26 rfl (lv_at hl 1 rfl) ?_
  refine lv_iload hx hb dX2_tell_27 (lv_at hl 4 rfl) ?_
  refine lv_iload hx hb dX2_tell_29 (lv_at hl 6 rfl) ?_
  refine lv_iload_n hx hb dX2_tell_31 rfl (lv_at hl 2 rfl) ?_
  obtain ⟨x26_1, hx26_1, hf⟩ := kbind hf
  refine kr_calli0 hH (kr_runV (as := [.int v4, .int v6, .int v2]) (rest := []) (pl := 1) V hH kYX0_isAhead kl_X2_30 (c_X0_isAhead l _ _ _ hx26_1 _) rfl rfl ⟨Nat.le_of_ble_eq_true rfl, Nat.le_of_ble_eq_true rfl⟩ (by decide) kE_1 rfl rfl hl.1 (Nat.le_of_ble_eq_true rfl) dX2_tell_32 ⟨Nat.le_refl _, Nat.le_refl _⟩ rfl) (fun H locs hH => ?_)
  refine lv_if_eq (tgt := 54) hx hb dX2_tell_35 (by decide) (fun hq => ?_) (fun hq => ?_)
  · have hf := kpos hq hf
    exact w_X2_tell_54 V hB hH (lv_sub hl [] rfl) hf
  · have hf := kneg hq hf
    exact w_X2_tell_38 V hB hH (lv_sub hl [0, 3, 4, 5] rfl) hf
set_option maxHeartbeats 4000000 in
set_option maxRecDepth 100000 in
theorem w_X2_tell_9 (V : kV p s mm args meth c cX2_tell RX2 7 none D cI cZ cO) {mo : kS} {B : Nat} (hB : kB B) {v2 : Int32} {v3 : Int32} {v4 : Int32} {v5 : Int32} {k : kS} {H : Heap} {locs : List Loc} {ls : Array Slot} {out : kS} (hH : kHE s H locs D ad cI cZ cO k mo []) (hl : lv_has ls 7 [(0, .ref (ad (B + 11))), (1, .ref (ad 1)), (2, .int v2), (3, .int v3), (4, .int v4), (5, .int v5)]) (hf : F_X2_tell_9 B v2 v3 v4 v5 k = some out) : W p l e rm_X2_tell s mm args below meth c H locs 0 0 (kGv below args s D cI cZ cO ad out mo 0 0) (F0 mm 9 ls []) := by
  have hx := V.1
  have hb := V.2.1
  refine lv_aload_n hx hb dX2_tell_9 rfl (lv_at hl 0 rfl) ?_
  refine kg_X2_15 hB V hH dX2_tell_10 ?_
  refine lv_iload_n hx hb dX2_tell_13 rfl (lv_at hl 3 rfl) ?_
  obtain ⟨h9_1, hf⟩ := kif hf
  refine kr_iald V hH (q := (B + 13)) (kq_w hB (by decide)) (kE_w13 hB) h9_1 dX2_tell_14 ?_
  refine lv_istore (lv' := [(6, .int (k (B + 13) v3.toNatClampNeg)), (0, .ref (ad (B + 11))), (1, .ref (ad 1)), (2, .int v2), (3, .int v3), (4, .int v4), (5, .int v5)]) hx hb dX2_tell_15 hl (by decide) rfl (fun ls hl => ?_)
  refine lv_aload_n hx hb dX2_tell_17 rfl (lv_at hl 2 rfl) ?_
  refine lv_iload hx hb dX2_tell_18 (lv_at hl 0 rfl) ?_
  obtain ⟨x9_2, hx9_2, hf⟩ := kbind hf
  refine kr_calli0 hH (kr_runV (as := [.int (k (B + 13) v3.toNatClampNeg)]) (rest := []) (pl := 1) V hH kYX0_knows kl_X2_24 (c_X0_knows l _ hx9_2 _) rfl rfl ⟨Nat.le_of_ble_eq_true rfl, Nat.le_of_ble_eq_true rfl⟩ (by decide) kE_1 rfl rfl hl.1 (Nat.le_of_ble_eq_true rfl) dX2_tell_20 ⟨Nat.le_refl _, Nat.le_refl _⟩ rfl) (fun H locs hH => ?_)
  refine lv_if_eq (tgt := 38) hx hb dX2_tell_23 (by decide) (fun hq => ?_) (fun hq => ?_)
  · have hf := kpos hq hf
    exact w_X2_tell_38 V hB hH (lv_sub hl [1, 4, 5, 6] rfl) hf
  · have hf := kneg hq hf
    exact w_X2_tell_26 V hB hH (lv_sub hl [1, 2, 3, 4, 5, 6, 0] rfl) hf
set_option maxHeartbeats 4000000 in
set_option maxRecDepth 100000 in
theorem w_X2_tell_0 (V : kV p s mm args meth c cX2_tell RX2 7 none D cI cZ cO) {mo : kS} {B : Nat} (hB : kB B) {v2 : Int32} {v3 : Int32} {v4 : Int32} {v5 : Int32} {k : kS} {H : Heap} {locs : List Loc} {ls : Array Slot} {out : kS} (hH : kHE s H locs D ad cI cZ cO k mo []) (hl : lv_has ls 7 [(0, .ref (ad (B + 11))), (1, .ref (ad 1)), (2, .int v2), (3, .int v3), (4, .int v4), (5, .int v5)]) (hf : F_X2_tell_0 B v2 v3 v4 v5 k = some out) : W p l e rm_X2_tell s mm args below meth c H locs 0 0 (kGv below args s D cI cZ cO ad out mo 0 0) (F0 mm 0 ls []) := by
  have hx := V.1
  have hb := V.2.1
  refine lv_aload_n hx hb dX2_tell_0 rfl (lv_at hl 1 rfl) ?_
  refine lv_iload_n hx hb dX2_tell_1 rfl (lv_at hl 3 rfl) ?_
  obtain ⟨x0_1, hx0_1, hf⟩ := kbind hf
  refine kr_calli0 hH (kr_runV (as := [.int v3]) (rest := []) (pl := 1) V hH kYX0_knows kl_X2_24 (c_X0_knows l _ hx0_1 _) rfl rfl ⟨Nat.le_of_ble_eq_true rfl, Nat.le_of_ble_eq_true rfl⟩ (by decide) kE_1 rfl rfl hl.1 (Nat.le_of_ble_eq_true rfl) dX2_tell_2 ⟨Nat.le_refl _, Nat.le_refl _⟩ rfl) (fun H locs hH => ?_)
  refine lv_if_ne (tgt := 9) hx hb dX2_tell_5 (by decide) (fun hq => ?_) (fun hq => ?_)
  · have hf := kneg hq hf
    exact w_X2_tell_9 V hB hH (lv_sub hl [0, 1, 2, 3, 4, 5] rfl) hf
  · have hf := kpos hq hf
    exact w_X2_tell_8 V hB hH (lv_sub hl [] rfl) hf
set_option maxHeartbeats 4000000 in
set_option maxRecDepth 100000 in
theorem c_X2_tell (l : Launch) {D : va_G} {cI cZ cO : ClassId} {ad : Nat → Nat} {k mo : kS} {B : Nat} (hB : kB B) (v2 : Int32) (v3 : Int32) (v4 : Int32) (v5 : Int32) {out : kS} (hf : F_X2_tell B v2 v3 v4 v5 k = some out) (sz : Nat) : Met l yX2_tell (Cond.code yX2_tell cX2_tell 7 none :: kWA) rm_X2_tell (kP [.ref (ad (B + 11)), .ref (ad 1), .int v2, .int v3, .int v4, .int v5] D cI cZ cO ad (kE ad cI cZ cO k mo) sz) (kQv D cI cZ cO ad (kE ad cI cZ cO out mo) sz) 0 0 (fA ad sz) := by
  refine kr_met (as := [.ref (ad (B + 11)), .ref (ad 1), .int v2, .int v3, .int v4, .int v5]) (bytes := cX2_tell) (maxL := 7) (rt := none) (Qc := fun sz => kQv D cI cZ cO ad (kE ad cI cZ cO out mo) sz) (lv := [(0, .ref (ad (B + 11))), (1, .ref (ad 1)), (2, .int v2), (3, .int v3), (4, .int v4), (5, .int v5)]) (by decide +kernel) (Nat.le_of_ble_eq_true rfl) rfl (fun p e s mm below meth c ls V hH hl => ?_) sz
  exact w_X2_tell_0 V hB hH (lv_sub hl [0, 1, 2, 3, 4, 5] rfl) hf
end
section
variable {p : Program} {l : Launch} {e : Env} {s : State} {mm : MethodId} {args : Array Value} {below : List Frame} {meth : Method} {c : Code} {D : va_G} {cI cZ cO : ClassId} {ad : Nat → Nat}
abbrev rm_X3_fits : Room := { frames := 0, cells := 0, slots := 0, locals := 0 }
set_option maxHeartbeats 4000000 in
set_option maxRecDepth 100000 in
theorem w_X3_fits_15 (V : kV p s mm args meth c cX3_fits RX3 1 (some .boolean) D cI cZ cO) {k mo : kS} {s0 : Int32} {H : Heap} {locs : List Loc} {ls : Array Slot} {out : Int32} (hH : kHE s H locs D ad cI cZ cO k mo []) (hl : lv_has ls 1 []) (hf : F_X3_fits_15 k s0 = some out) : W p l e rm_X3_fits s mm args below meth c H locs 0 0 (kGi below args s D cI cZ cO ad out k mo 0 0) (F0 mm 15 ls [.int s0]) := by
  have hx := V.1
  have hb := V.2.1
  obtain ⟨h15_1, hf⟩ := kif hf
  cases hf
  exact kr_zret V hH (Decidable.not_not.mp h15_1) dX3_fits_15
set_option maxHeartbeats 4000000 in
set_option maxRecDepth 100000 in
theorem w_X3_fits_10 (V : kV p s mm args meth c cX3_fits RX3 1 (some .boolean) D cI cZ cO) {k mo : kS} {H : Heap} {locs : List Loc} {ls : Array Slot} {out : Int32} (hH : kHE s H locs D ad cI cZ cO k mo []) (hl : lv_has ls 1 []) (hf : F_X3_fits_10 k = some out) : W p l e rm_X3_fits s mm args below meth c H locs 0 0 (kGi below args s D cI cZ cO ad out k mo 0 0) (F0 mm 10 ls []) := by
  have hx := V.1
  have hb := V.2.1
  refine lv_iconst (v := 1) hx hb dX3_fits_10 (by decide) ?_
  refine lv_goto (tgt := 15) hx hb dX3_fits_11 (by decide) ?_
  exact w_X3_fits_15 V hH (lv_sub hl [] rfl) hf
set_option maxHeartbeats 4000000 in
set_option maxRecDepth 100000 in
theorem w_X3_fits_14 (V : kV p s mm args meth c cX3_fits RX3 1 (some .boolean) D cI cZ cO) {k mo : kS} {H : Heap} {locs : List Loc} {ls : Array Slot} {out : Int32} (hH : kHE s H locs D ad cI cZ cO k mo []) (hl : lv_has ls 1 []) (hf : F_X3_fits_14 k = some out) : W p l e rm_X3_fits s mm args below meth c H locs 0 0 (kGi below args s D cI cZ cO ad out k mo 0 0) (F0 mm 14 ls []) := by
  have hx := V.1
  have hb := V.2.1
  refine lv_iconst (v := 0) hx hb dX3_fits_14 (by decide) ?_
  exact w_X3_fits_15 V hH (lv_sub hl [] rfl) hf
set_option maxHeartbeats 4000000 in
set_option maxRecDepth 100000 in
theorem w_X3_fits_4 (V : kV p s mm args meth c cX3_fits RX3 1 (some .boolean) D cI cZ cO) {k mo : kS} {v0 : Int32} {H : Heap} {locs : List Loc} {ls : Array Slot} {out : Int32} (hH : kHE s H locs D ad cI cZ cO k mo []) (hl : lv_has ls 1 [(0, .int v0)]) (hf : F_X3_fits_4 k v0 = some out) : W p l e rm_X3_fits s mm args below meth c H locs 0 0 (kGi below args s D cI cZ cO ad out k mo 0 0) (F0 mm 4 ls []) := by
  have hx := V.1
  have hb := V.2.1
  refine lv_iload_n hx hb dX3_fits_4 rfl (lv_at hl 0 rfl) ?_
  refine lv_bipush (v := 40) hx hb dX3_fits_5 (by decide) ?_
  refine lv_icmp_ge (tgt := 14) hx hb dX3_fits_7 (by decide) (fun hq => ?_) (fun hq => ?_)
  · have hf := kpos hq hf
    exact w_X3_fits_14 V hH (lv_sub hl [] rfl) hf
  · have hf := kneg hq hf
    exact w_X3_fits_10 V hH (lv_sub hl [] rfl) hf
set_option maxHeartbeats 4000000 in
set_option maxRecDepth 100000 in
theorem w_X3_fits_0 (V : kV p s mm args meth c cX3_fits RX3 1 (some .boolean) D cI cZ cO) {k mo : kS} {v0 : Int32} {H : Heap} {locs : List Loc} {ls : Array Slot} {out : Int32} (hH : kHE s H locs D ad cI cZ cO k mo []) (hl : lv_has ls 1 [(0, .int v0)]) (hf : F_X3_fits_0 k v0 = some out) : W p l e rm_X3_fits s mm args below meth c H locs 0 0 (kGi below args s D cI cZ cO ad out k mo 0 0) (F0 mm 0 ls []) := by
  have hx := V.1
  have hb := V.2.1
  refine lv_iload_n hx hb dX3_fits_0 rfl (lv_at hl 0 rfl) ?_
  refine lv_if_lt (tgt := 14) hx hb dX3_fits_1 (by decide) (fun hq => ?_) (fun hq => ?_)
  · have hf := kpos hq hf
    exact w_X3_fits_14 V hH (lv_sub hl [] rfl) hf
  · have hf := kneg hq hf
    exact w_X3_fits_4 V hH (lv_sub hl [0] rfl) hf
set_option maxHeartbeats 4000000 in
set_option maxRecDepth 100000 in
theorem c_X3_fits (l : Launch) {D : va_G} {cI cZ cO : ClassId} {ad : Nat → Nat} {k mo : kS} (v0 : Int32) {out : Int32} (hf : F_X3_fits k v0 = some out) (sz : Nat) : Met l yX3_fits (Cond.code yX3_fits cX3_fits 1 (some .boolean) :: kWA) rm_X3_fits (kP [.int v0] D cI cZ cO ad (kE ad cI cZ cO k mo) sz) (kQi out D cI cZ cO ad (kE ad cI cZ cO k mo) sz) 0 0 (fA ad sz) := by
  refine kr_met (as := [.int v0]) (bytes := cX3_fits) (maxL := 1) (rt := (some .boolean)) (Qc := fun sz => kQi out D cI cZ cO ad (kE ad cI cZ cO k mo) sz) (lv := [(0, .int v0)]) (by decide +kernel) (Nat.le_of_ble_eq_true rfl) rfl (fun p e s mm below meth c ls V hH hl => ?_) sz
  exact w_X3_fits_0 V hH (lv_sub hl [0] rfl) hf
end
section
variable {p : Program} {l : Launch} {e : Env} {s : State} {mm : MethodId} {args : Array Value} {below : List Frame} {meth : Method} {c : Code} {D : va_G} {cI cZ cO : ClassId} {ad : Nat → Nat}
abbrev rm_X3_spouseOf : Room := { frames := 1, cells := 0, slots := 0, locals := 20 }
set_option maxHeartbeats 4000000 in
set_option maxRecDepth 100000 in
theorem w_X3_spouseOf_17 (V : kV p s mm args meth c cX3_spouseOf RX3 2 (some .int) D cI cZ cO) {k mo : kS} {B : Nat} (hB : kB B) {s0 : Int32} {H : Heap} {locs : List Loc} {ls : Array Slot} {out : Int32} (hH : kHE s H locs D ad cI cZ cO k mo []) (hl : lv_has ls 2 []) (hf : F_X3_spouseOf_17 B k s0 = some out) : W p l e rm_X3_spouseOf s mm args below meth c H locs 0 0 (kGi below args s D cI cZ cO ad out k mo 0 0) (F0 mm 17 ls [.int s0]) := by
  have hx := V.1
  have hb := V.2.1
  cases hf
  exact kr_iret V hH dX3_spouseOf_17
set_option maxHeartbeats 4000000 in
set_option maxRecDepth 100000 in
theorem w_X3_spouseOf_7 (V : kV p s mm args meth c cX3_spouseOf RX3 2 (some .int) D cI cZ cO) {k mo : kS} {B : Nat} (hB : kB B) {v1 : Int32} {H : Heap} {locs : List Loc} {ls : Array Slot} {out : Int32} (hH : kHE s H locs D ad cI cZ cO k mo []) (hl : lv_has ls 2 [(0, .ref (ad (B + 8))), (1, .int v1)]) (hf : F_X3_spouseOf_7 B k v1 = some out) : W p l e rm_X3_spouseOf s mm args below meth c H locs 0 0 (kGi below args s D cI cZ cO ad out k mo 0 0) (F0 mm 7 ls []) := by
  have hx := V.1
  have hb := V.2.1
  refine lv_aload_n hx hb dX3_spouseOf_7 rfl (lv_at hl 0 rfl) ?_
  refine kg_X3_9 hB V hH dX3_spouseOf_8 ?_
  refine lv_iload_n hx hb dX3_spouseOf_11 rfl (lv_at hl 1 rfl) ?_
  obtain ⟨h7_1, hf⟩ := kif hf
  refine kr_iald V hH (q := (B + 9)) (kq_w hB (by decide)) (kE_w9 hB) h7_1 dX3_spouseOf_12 ?_
  refine lv_goto (tgt := 17) hx hb dX3_spouseOf_13 (by decide) ?_
  exact w_X3_spouseOf_17 V hB hH (lv_sub hl [] rfl) hf
set_option maxHeartbeats 4000000 in
set_option maxRecDepth 100000 in
theorem w_X3_spouseOf_16 (V : kV p s mm args meth c cX3_spouseOf RX3 2 (some .int) D cI cZ cO) {k mo : kS} {B : Nat} (hB : kB B) {H : Heap} {locs : List Loc} {ls : Array Slot} {out : Int32} (hH : kHE s H locs D ad cI cZ cO k mo []) (hl : lv_has ls 2 []) (hf : F_X3_spouseOf_16 B k = some out) : W p l e rm_X3_spouseOf s mm args below meth c H locs 0 0 (kGi below args s D cI cZ cO ad out k mo 0 0) (F0 mm 16 ls []) := by
  have hx := V.1
  have hb := V.2.1
  refine lv_iconst (v := (-1)) hx hb dX3_spouseOf_16 (by decide) ?_
  exact w_X3_spouseOf_17 V hB hH (lv_sub hl [] rfl) hf
set_option maxHeartbeats 4000000 in
set_option maxRecDepth 100000 in
theorem w_X3_spouseOf_0 (V : kV p s mm args meth c cX3_spouseOf RX3 2 (some .int) D cI cZ cO) {k mo : kS} {B : Nat} (hB : kB B) {v1 : Int32} {H : Heap} {locs : List Loc} {ls : Array Slot} {out : Int32} (hH : kHE s H locs D ad cI cZ cO k mo []) (hl : lv_has ls 2 [(0, .ref (ad (B + 8))), (1, .int v1)]) (hf : F_X3_spouseOf_0 B k v1 = some out) : W p l e rm_X3_spouseOf s mm args below meth c H locs 0 0 (kGi below args s D cI cZ cO ad out k mo 0 0) (F0 mm 0 ls []) := by
  have hx := V.1
  have hb := V.2.1
  refine lv_iload_n hx hb dX3_spouseOf_0 rfl (lv_at hl 1 rfl) ?_
  obtain ⟨x0_1, hx0_1, hf⟩ := kbind hf
  refine kr_calli0 hH (kr_runS (as := [.int v1]) (rest := []) V hH kYX3_fits kl_X3_24 (c_X3_fits l _ hx0_1 _) rfl rfl ⟨Nat.le_of_ble_eq_true rfl, Nat.le_of_ble_eq_true rfl⟩ rfl hl.1 (Nat.le_of_ble_eq_true rfl) dX3_spouseOf_1 ⟨Nat.le_refl _, Nat.le_refl _⟩ rfl) (fun H locs hH => ?_)
  refine lv_if_eq (tgt := 16) hx hb dX3_spouseOf_4 (by decide) (fun hq => ?_) (fun hq => ?_)
  · have hf := kpos hq hf
    exact w_X3_spouseOf_16 V hB hH (lv_sub hl [] rfl) hf
  · have hf := kneg hq hf
    exact w_X3_spouseOf_7 V hB hH (lv_sub hl [0, 1] rfl) hf
set_option maxHeartbeats 4000000 in
set_option maxRecDepth 100000 in
theorem c_X3_spouseOf (l : Launch) {D : va_G} {cI cZ cO : ClassId} {ad : Nat → Nat} {k mo : kS} {B : Nat} (hB : kB B) (v1 : Int32) {out : Int32} (hf : F_X3_spouseOf B k v1 = some out) (sz : Nat) : Met l yX3_spouseOf (Cond.code yX3_spouseOf cX3_spouseOf 2 (some .int) :: kWA) rm_X3_spouseOf (kP [.ref (ad (B + 8)), .int v1] D cI cZ cO ad (kE ad cI cZ cO k mo) sz) (kQi out D cI cZ cO ad (kE ad cI cZ cO k mo) sz) 0 0 (fA ad sz) := by
  refine kr_met (as := [.ref (ad (B + 8)), .int v1]) (bytes := cX3_spouseOf) (maxL := 2) (rt := (some .int)) (Qc := fun sz => kQi out D cI cZ cO ad (kE ad cI cZ cO k mo) sz) (lv := [(0, .ref (ad (B + 8))), (1, .int v1)]) (by decide +kernel) (Nat.le_of_ble_eq_true rfl) rfl (fun p e s mm below meth c ls V hH hl => ?_) sz
  exact w_X3_spouseOf_0 V hB hH (lv_sub hl [0, 1] rfl) hf
end
section
variable {p : Program} {l : Launch} {e : Env} {s : State} {mm : MethodId} {args : Array Value} {below : List Frame} {meth : Method} {c : Code} {D : va_G} {cI cZ cO : ClassId} {ad : Nat → Nat}
abbrev rm_X3_givenBy : Room := { frames := 1, cells := 0, slots := 0, locals := 20 }
set_option maxHeartbeats 4000000 in
set_option maxRecDepth 100000 in
theorem w_X3_givenBy_17 (V : kV p s mm args meth c cX3_givenBy RX3 2 (some .int) D cI cZ cO) {k mo : kS} {B : Nat} (hB : kB B) {s0 : Int32} {H : Heap} {locs : List Loc} {ls : Array Slot} {out : Int32} (hH : kHE s H locs D ad cI cZ cO k mo []) (hl : lv_has ls 2 []) (hf : F_X3_givenBy_17 B k s0 = some out) : W p l e rm_X3_givenBy s mm args below meth c H locs 0 0 (kGi below args s D cI cZ cO ad out k mo 0 0) (F0 mm 17 ls [.int s0]) := by
  have hx := V.1
  have hb := V.2.1
  cases hf
  exact kr_iret V hH dX3_givenBy_17
set_option maxHeartbeats 4000000 in
set_option maxRecDepth 100000 in
theorem w_X3_givenBy_7 (V : kV p s mm args meth c cX3_givenBy RX3 2 (some .int) D cI cZ cO) {k mo : kS} {B : Nat} (hB : kB B) {v1 : Int32} {H : Heap} {locs : List Loc} {ls : Array Slot} {out : Int32} (hH : kHE s H locs D ad cI cZ cO k mo []) (hl : lv_has ls 2 [(0, .ref (ad (B + 8))), (1, .int v1)]) (hf : F_X3_givenBy_7 B k v1 = some out) : W p l e rm_X3_givenBy s mm args below meth c H locs 0 0 (kGi below args s D cI cZ cO ad out k mo 0 0) (F0 mm 7 ls []) := by
  have hx := V.1
  have hb := V.2.1
  refine lv_aload_n hx hb dX3_givenBy_7 rfl (lv_at hl 0 rfl) ?_
  refine kg_X3_15 hB V hH dX3_givenBy_8 ?_
  refine lv_iload_n hx hb dX3_givenBy_11 rfl (lv_at hl 1 rfl) ?_
  obtain ⟨h7_1, hf⟩ := kif hf
  refine kr_iald V hH (q := (B + 10)) (kq_w hB (by decide)) (kE_w10 hB) h7_1 dX3_givenBy_12 ?_
  refine lv_goto (tgt := 17) hx hb dX3_givenBy_13 (by decide) ?_
  exact w_X3_givenBy_17 V hB hH (lv_sub hl [] rfl) hf
set_option maxHeartbeats 4000000 in
set_option maxRecDepth 100000 in
theorem w_X3_givenBy_16 (V : kV p s mm args meth c cX3_givenBy RX3 2 (some .int) D cI cZ cO) {k mo : kS} {B : Nat} (hB : kB B) {H : Heap} {locs : List Loc} {ls : Array Slot} {out : Int32} (hH : kHE s H locs D ad cI cZ cO k mo []) (hl : lv_has ls 2 []) (hf : F_X3_givenBy_16 B k = some out) : W p l e rm_X3_givenBy s mm args below meth c H locs 0 0 (kGi below args s D cI cZ cO ad out k mo 0 0) (F0 mm 16 ls []) := by
  have hx := V.1
  have hb := V.2.1
  refine lv_iconst (v := (-1)) hx hb dX3_givenBy_16 (by decide) ?_
  exact w_X3_givenBy_17 V hB hH (lv_sub hl [] rfl) hf
set_option maxHeartbeats 4000000 in
set_option maxRecDepth 100000 in
theorem w_X3_givenBy_0 (V : kV p s mm args meth c cX3_givenBy RX3 2 (some .int) D cI cZ cO) {k mo : kS} {B : Nat} (hB : kB B) {v1 : Int32} {H : Heap} {locs : List Loc} {ls : Array Slot} {out : Int32} (hH : kHE s H locs D ad cI cZ cO k mo []) (hl : lv_has ls 2 [(0, .ref (ad (B + 8))), (1, .int v1)]) (hf : F_X3_givenBy_0 B k v1 = some out) : W p l e rm_X3_givenBy s mm args below meth c H locs 0 0 (kGi below args s D cI cZ cO ad out k mo 0 0) (F0 mm 0 ls []) := by
  have hx := V.1
  have hb := V.2.1
  refine lv_iload_n hx hb dX3_givenBy_0 rfl (lv_at hl 1 rfl) ?_
  obtain ⟨x0_1, hx0_1, hf⟩ := kbind hf
  refine kr_calli0 hH (kr_runS (as := [.int v1]) (rest := []) V hH kYX3_fits kl_X3_24 (c_X3_fits l _ hx0_1 _) rfl rfl ⟨Nat.le_of_ble_eq_true rfl, Nat.le_of_ble_eq_true rfl⟩ rfl hl.1 (Nat.le_of_ble_eq_true rfl) dX3_givenBy_1 ⟨Nat.le_refl _, Nat.le_refl _⟩ rfl) (fun H locs hH => ?_)
  refine lv_if_eq (tgt := 16) hx hb dX3_givenBy_4 (by decide) (fun hq => ?_) (fun hq => ?_)
  · have hf := kpos hq hf
    exact w_X3_givenBy_16 V hB hH (lv_sub hl [] rfl) hf
  · have hf := kneg hq hf
    exact w_X3_givenBy_7 V hB hH (lv_sub hl [0, 1] rfl) hf
set_option maxHeartbeats 4000000 in
set_option maxRecDepth 100000 in
theorem c_X3_givenBy (l : Launch) {D : va_G} {cI cZ cO : ClassId} {ad : Nat → Nat} {k mo : kS} {B : Nat} (hB : kB B) (v1 : Int32) {out : Int32} (hf : F_X3_givenBy B k v1 = some out) (sz : Nat) : Met l yX3_givenBy (Cond.code yX3_givenBy cX3_givenBy 2 (some .int) :: kWA) rm_X3_givenBy (kP [.ref (ad (B + 8)), .int v1] D cI cZ cO ad (kE ad cI cZ cO k mo) sz) (kQi out D cI cZ cO ad (kE ad cI cZ cO k mo) sz) 0 0 (fA ad sz) := by
  refine kr_met (as := [.ref (ad (B + 8)), .int v1]) (bytes := cX3_givenBy) (maxL := 2) (rt := (some .int)) (Qc := fun sz => kQi out D cI cZ cO ad (kE ad cI cZ cO k mo) sz) (lv := [(0, .ref (ad (B + 8))), (1, .int v1)]) (by decide +kernel) (Nat.le_of_ble_eq_true rfl) rfl (fun p e s mm below meth c ls V hH hl => ?_) sz
  exact w_X3_givenBy_0 V hB hH (lv_sub hl [0, 1] rfl) hf
end
section
variable {p : Program} {l : Launch} {e : Env} {s : State} {mm : MethodId} {args : Array Value} {below : List Frame} {meth : Method} {c : Code} {D : va_G} {cI cZ cO : ClassId} {ad : Nat → Nat}
abbrev rm_X3_bind : Room := { frames := 0, cells := 0, slots := 0, locals := 0 }
set_option maxHeartbeats 4000000 in
set_option maxRecDepth 100000 in
theorem w_X3_bind_0 (V : kV p s mm args meth c cX3_bind RX3 3 none D cI cZ cO) {mo : kS} {B : Nat} (hB : kB B) {v1 : Int32} {v2 : Int32} {k : kS} {H : Heap} {locs : List Loc} {ls : Array Slot} {out : kS} (hH : kHE s H locs D ad cI cZ cO k mo []) (hl : lv_has ls 3 [(0, .ref (ad (B + 8))), (1, .int v1), (2, .int v2)]) (hf : F_X3_bind_0 B v1 v2 k = some out) : W p l e rm_X3_bind s mm args below meth c H locs 0 0 (kGv below args s D cI cZ cO ad out mo 0 0) (F0 mm 0 ls []) := by
  have hx := V.1
  have hb := V.2.1
  refine lv_aload_n hx hb dX3_bind_0 rfl (lv_at hl 0 rfl) ?_
  refine kg_X3_9 hB V hH dX3_bind_1 ?_
  refine lv_iload_n hx hb dX3_bind_4 rfl (lv_at hl 1 rfl) ?_
  refine lv_iload_n hx hb dX3_bind_5 rfl (lv_at hl 2 rfl) ?_
  obtain ⟨h0_1, hf⟩ := kif hf
  refine kr_iastK V hH (q := (B + 9)) (kq_w hB (by decide)) (fun _ => (kE_w9 hB)) h0_1 dX3_bind_6 (fun H locs hH => ?_)
  refine lv_aload_n hx hb dX3_bind_7 rfl (lv_at hl 0 rfl) ?_
  refine kg_X3_9 hB V hH dX3_bind_8 ?_
  refine lv_iload_n hx hb dX3_bind_11 rfl (lv_at hl 2 rfl) ?_
  refine lv_iload_n hx hb dX3_bind_12 rfl (lv_at hl 1 rfl) ?_
  obtain ⟨h0_2, hf⟩ := kif hf
  refine kr_iastK V hH (q := (B + 9)) (kq_w hB (by decide)) (fun _ => (kE_w9 hB)) h0_2 dX3_bind_13 (fun H locs hH => ?_)
  cases hf
  exact kr_vret V hH dX3_bind_14
set_option maxHeartbeats 4000000 in
set_option maxRecDepth 100000 in
theorem c_X3_bind (l : Launch) {D : va_G} {cI cZ cO : ClassId} {ad : Nat → Nat} {k mo : kS} {B : Nat} (hB : kB B) (v1 : Int32) (v2 : Int32) {out : kS} (hf : F_X3_bind B v1 v2 k = some out) (sz : Nat) : Met l yX3_bind (Cond.code yX3_bind cX3_bind 3 none :: kWA) rm_X3_bind (kP [.ref (ad (B + 8)), .int v1, .int v2] D cI cZ cO ad (kE ad cI cZ cO k mo) sz) (kQv D cI cZ cO ad (kE ad cI cZ cO out mo) sz) 0 0 (fA ad sz) := by
  refine kr_met (as := [.ref (ad (B + 8)), .int v1, .int v2]) (bytes := cX3_bind) (maxL := 3) (rt := none) (Qc := fun sz => kQv D cI cZ cO ad (kE ad cI cZ cO out mo) sz) (lv := [(0, .ref (ad (B + 8))), (1, .int v1), (2, .int v2)]) (by decide +kernel) (Nat.le_of_ble_eq_true rfl) rfl (fun p e s mm below meth c ls V hH hl => ?_) sz
  exact w_X3_bind_0 V hB hH (lv_sub hl [0, 1, 2] rfl) hf
end
section
variable {p : Program} {l : Launch} {e : Env} {s : State} {mm : MethodId} {args : Array Value} {below : List Frame} {meth : Method} {c : Code} {D : va_G} {cI cZ cO : ClassId} {ad : Nat → Nat}
abbrev rm_X3_part : Room := { frames := 2, cells := 0, slots := 0, locals := 41 }
set_option maxHeartbeats 4000000 in
set_option maxRecDepth 100000 in
theorem w_X3_part_20 (V : kV p s mm args meth c cX3_part RX3 3 none D cI cZ cO) {mo : kS} {B : Nat} (hB : kB B) {k : kS} {H : Heap} {locs : List Loc} {ls : Array Slot} {out : kS} (hH : kHE s H locs D ad cI cZ cO k mo []) (hl : lv_has ls 3 []) (hf : F_X3_part_20 B k = some out) : W p l e rm_X3_part s mm args below meth c H locs 0 0 (kGv below args s D cI cZ cO ad out mo 0 0) (F0 mm 20 ls []) := by
  have hx := V.1
  have hb := V.2.1
  cases hf
  exact kr_vret V hH dX3_part_20
set_option maxHeartbeats 4000000 in
set_option maxRecDepth 100000 in
theorem w_X3_part_21 (V : kV p s mm args meth c cX3_part RX3 3 none D cI cZ cO) {mo : kS} {B : Nat} (hB : kB B) {v1 : Int32} {v2 : Int32} {k : kS} {H : Heap} {locs : List Loc} {ls : Array Slot} {out : kS} (hH : kHE s H locs D ad cI cZ cO k mo []) (hl : lv_has ls 3 [(0, .ref (ad (B + 8))), (1, .int v1), (2, .int v2)]) (hf : F_X3_part_21 B v1 v2 k = some out) : W p l e rm_X3_part s mm args below meth c H locs 0 0 (kGv below args s D cI cZ cO ad out mo 0 0) (F0 mm 21 ls []) := by
  have hx := V.1
  have hb := V.2.1
  refine lv_aload_n hx hb dX3_part_21 rfl (lv_at hl 0 rfl) ?_
  refine kg_X3_9 hB V hH dX3_part_22 ?_
  refine lv_iload_n hx hb dX3_part_25 rfl (lv_at hl 1 rfl) ?_
  refine lv_iconst (v := (-1)) hx hb dX3_part_26 (by decide) ?_
  obtain ⟨h21_1, hf⟩ := kif hf
  refine kr_iastK V hH (q := (B + 9)) (kq_w hB (by decide)) (fun _ => (kE_w9 hB)) h21_1 dX3_part_27 (fun H locs hH => ?_)
  refine lv_aload_n hx hb dX3_part_28 rfl (lv_at hl 0 rfl) ?_
  refine kg_X3_9 hB V hH dX3_part_29 ?_
  refine lv_iload_n hx hb dX3_part_32 rfl (lv_at hl 2 rfl) ?_
  refine lv_iconst (v := (-1)) hx hb dX3_part_33 (by decide) ?_
  obtain ⟨h21_2, hf⟩ := kif hf
  refine kr_iastK V hH (q := (B + 9)) (kq_w hB (by decide)) (fun _ => (kE_w9 hB)) h21_2 dX3_part_34 (fun H locs hH => ?_)
  refine lv_aload_n hx hb dX3_part_35 rfl (lv_at hl 0 rfl) ?_
  refine kg_X3_15 hB V hH dX3_part_36 ?_
  refine lv_iload_n hx hb dX3_part_39 rfl (lv_at hl 1 rfl) ?_
  refine lv_iconst (v := (-1)) hx hb dX3_part_40 (by decide) ?_
  obtain ⟨h21_3, hf⟩ := kif hf
  refine kr_iastK V hH (q := (B + 10)) (kq_w hB (by decide)) (fun _ => (kE_w10 hB)) h21_3 dX3_part_41 (fun H locs hH => ?_)
  refine lv_aload_n hx hb dX3_part_42 rfl (lv_at hl 0 rfl) ?_
  refine kg_X3_15 hB V hH dX3_part_43 ?_
  refine lv_iload_n hx hb dX3_part_46 rfl (lv_at hl 2 rfl) ?_
  refine lv_iconst (v := (-1)) hx hb dX3_part_47 (by decide) ?_
  obtain ⟨h21_4, hf⟩ := kif hf
  refine kr_iastK V hH (q := (B + 10)) (kq_w hB (by decide)) (fun _ => (kE_w10 hB)) h21_4 dX3_part_48 (fun H locs hH => ?_)
  cases hf
  exact kr_vret V hH dX3_part_49
set_option maxHeartbeats 4000000 in
set_option maxRecDepth 100000 in
theorem w_X3_part_13 (V : kV p s mm args meth c cX3_part RX3 3 none D cI cZ cO) {mo : kS} {B : Nat} (hB : kB B) {v1 : Int32} {v2 : Int32} {k : kS} {H : Heap} {locs : List Loc} {ls : Array Slot} {out : kS} (hH : kHE s H locs D ad cI cZ cO k mo []) (hl : lv_has ls 3 [(0, .ref (ad (B + 8))), (1, .int v1), (2, .int v2)]) (hf : F_X3_part_13 B v1 v2 k = some out) : W p l e rm_X3_part s mm args below meth c H locs 0 0 (kGv below args s D cI cZ cO ad out mo 0 0) (F0 mm 13 ls []) := by
  have hx := V.1
  have hb := V.2.1
  refine lv_iload_n hx hb dX3_part_13 rfl (lv_at hl 2 rfl) ?_
  obtain ⟨x13_1, hx13_1, hf⟩ := kbind hf
  refine kr_calli0 hH (kr_runS (as := [.int v2]) (rest := []) V hH kYX3_fits kl_X3_24 (c_X3_fits l _ hx13_1 _) rfl rfl ⟨Nat.le_of_ble_eq_true rfl, Nat.le_of_ble_eq_true rfl⟩ rfl hl.1 (Nat.le_of_ble_eq_true rfl) dX3_part_14 ⟨Nat.le_refl _, Nat.le_refl _⟩ rfl) (fun H locs hH => ?_)
  refine lv_if_ne (tgt := 21) hx hb dX3_part_17 (by decide) (fun hq => ?_) (fun hq => ?_)
  · have hf := kneg hq hf
    exact w_X3_part_21 V hB hH (lv_sub hl [0, 1, 2] rfl) hf
  · have hf := kpos hq hf
    exact w_X3_part_20 V hB hH (lv_sub hl [] rfl) hf
set_option maxHeartbeats 4000000 in
set_option maxRecDepth 100000 in
theorem w_X3_part_0 (V : kV p s mm args meth c cX3_part RX3 3 none D cI cZ cO) {mo : kS} {B : Nat} (hB : kB B) {v1 : Int32} {k : kS} {H : Heap} {locs : List Loc} {ls : Array Slot} {out : kS} (hH : kHE s H locs D ad cI cZ cO k mo []) (hl : lv_has ls 3 [(0, .ref (ad (B + 8))), (1, .int v1)]) (hf : F_X3_part_0 B v1 k = some out) : W p l e rm_X3_part s mm args below meth c H locs 0 0 (kGv below args s D cI cZ cO ad out mo 0 0) (F0 mm 0 ls []) := by
  have hx := V.1
  have hb := V.2.1
  refine lv_aload_n hx hb dX3_part_0 rfl (lv_at hl 0 rfl) ?_
  refine lv_iload_n hx hb dX3_part_1 rfl (lv_at hl 1 rfl) ?_
  obtain ⟨x0_1, hx0_1, hf⟩ := kbind hf
  refine kr_calli0 hH (kr_runV (as := [.int v1]) (rest := []) (pl := (B + 8)) V hH kYX3_spouseOf kl_X3_28 (c_X3_spouseOf l hB _ hx0_1 _) rfl rfl ⟨Nat.le_of_ble_eq_true rfl, Nat.le_of_ble_eq_true rfl⟩ (kq_w hB (by decide)) (kE_w8 hB) rfl rfl hl.1 (Nat.le_of_ble_eq_true rfl) dX3_part_2 ⟨Nat.le_refl _, Nat.le_refl _⟩ rfl) (fun H locs hH => ?_)
  refine lv_istore_n (lv' := [(2, .int x0_1), (0, .ref (ad (B + 8))), (1, .int v1)]) hx hb dX3_part_5 rfl hl (by decide) rfl (fun ls hl => ?_)
  refine lv_iload_n hx hb dX3_part_6 rfl (lv_at hl 2 rfl) ?_
  obtain ⟨x0_2, hx0_2, hf⟩ := kbind hf
  refine kr_calli0 hH (kr_runS (as := [.int v1]) (rest := []) V hH kYX3_fits kl_X3_24 (c_X3_fits l _ hx0_2 _) rfl rfl ⟨Nat.le_of_ble_eq_true rfl, Nat.le_of_ble_eq_true rfl⟩ rfl hl.1 (Nat.le_of_ble_eq_true rfl) dX3_part_7 ⟨Nat.le_refl _, Nat.le_refl _⟩ rfl) (fun H locs hH => ?_)
  refine lv_if_eq (tgt := 20) hx hb dX3_part_10 (by decide) (fun hq => ?_) (fun hq => ?_)
  · have hf := kpos hq hf
    exact w_X3_part_20 V hB hH (lv_sub hl [] rfl) hf
  · have hf := kneg hq hf
    exact w_X3_part_13 V hB hH (lv_sub hl [1, 2, 0] rfl) hf
set_option maxHeartbeats 4000000 in
set_option maxRecDepth 100000 in
theorem c_X3_part (l : Launch) {D : va_G} {cI cZ cO : ClassId} {ad : Nat → Nat} {k mo : kS} {B : Nat} (hB : kB B) (v1 : Int32) {out : kS} (hf : F_X3_part B v1 k = some out) (sz : Nat) : Met l yX3_part (Cond.code yX3_part cX3_part 3 none :: kWA) rm_X3_part (kP [.ref (ad (B + 8)), .int v1] D cI cZ cO ad (kE ad cI cZ cO k mo) sz) (kQv D cI cZ cO ad (kE ad cI cZ cO out mo) sz) 0 0 (fA ad sz) := by
  refine kr_met (as := [.ref (ad (B + 8)), .int v1]) (bytes := cX3_part) (maxL := 3) (rt := none) (Qc := fun sz => kQv D cI cZ cO ad (kE ad cI cZ cO out mo) sz) (lv := [(0, .ref (ad (B + 8))), (1, .int v1)]) (by decide +kernel) (Nat.le_of_ble_eq_true rfl) rfl (fun p e s mm below meth c ls V hH hl => ?_) sz
  exact w_X3_part_0 V hB hH (lv_sub hl [0, 1] rfl) hf
end
section
variable {p : Program} {l : Launch} {e : Env} {s : State} {mm : MethodId} {args : Array Value} {below : List Frame} {meth : Method} {c : Code} {D : va_G} {cI cZ cO : ClassId} {ad : Nat → Nat}
abbrev rm_X3_couples : Room := { frames := 0, cells := 0, slots := 0, locals := 0 }
set_option maxHeartbeats 4000000 in
set_option maxRecDepth 100000 in
theorem w_X3_couples_23 (V : kV p s mm args meth c cX3_couples RX3 3 (some .int) D cI cZ cO) {k mo : kS} {B : Nat} (hB : kB B) {c4 : Int32 → Int32 → Option (Int32)} (hk4 : ∀ {v1 : Int32} {v2 : Int32} {H : Heap} {locs : List Loc} {ls : Array Slot} {out : Int32}, kHE s H locs D ad cI cZ cO k mo [] → lv_has ls 3 [(0, .ref (ad (B + 8))), (1, .int v1), (2, .int v2)] → c4 v1 v2 = some out → W p l e rm_X3_couples s mm args below meth c H locs 0 0 (kGi below args s D cI cZ cO ad out k mo 0 0) (F0 mm 4 ls [])) {v1 : Int32} {v2 : Int32} {H : Heap} {locs : List Loc} {ls : Array Slot} {out : Int32} (hH : kHE s H locs D ad cI cZ cO k mo []) (hl : lv_has ls 3 [(0, .ref (ad (B + 8))), (1, .int v1), (2, .int v2)]) (hf : F_X3_couples_23 B k c4 v1 v2 = some out) : W p l e rm_X3_couples s mm args below meth c H locs 0 0 (kGi below args s D cI cZ cO ad out k mo 0 0) (F0 mm 23 ls []) := by
  have hx := V.1
  have hb := V.2.1
  refine lv_iinc (v := (v2 + 1)) (lv' := [(2, .int (v2 + 1)), (0, .ref (ad (B + 8))), (1, .int v1)]) hx hb dX3_couples_23 hl (k := 2) rfl rfl (by decide) rfl (fun ls hl => ?_)
  refine lv_goto (tgt := 4) hx hb dX3_couples_26 (by decide) ?_
  exact hk4 hH (lv_sub hl [1, 2, 0] rfl) hf
set_option maxHeartbeats 4000000 in
set_option maxRecDepth 100000 in
theorem w_X3_couples_20 (V : kV p s mm args meth c cX3_couples RX3 3 (some .int) D cI cZ cO) {k mo : kS} {B : Nat} (hB : kB B) {c4 : Int32 → Int32 → Option (Int32)} (hk4 : ∀ {v1 : Int32} {v2 : Int32} {H : Heap} {locs : List Loc} {ls : Array Slot} {out : Int32}, kHE s H locs D ad cI cZ cO k mo [] → lv_has ls 3 [(0, .ref (ad (B + 8))), (1, .int v1), (2, .int v2)] → c4 v1 v2 = some out → W p l e rm_X3_couples s mm args below meth c H locs 0 0 (kGi below args s D cI cZ cO ad out k mo 0 0) (F0 mm 4 ls [])) {v1 : Int32} {v2 : Int32} {H : Heap} {locs : List Loc} {ls : Array Slot} {out : Int32} (hH : kHE s H locs D ad cI cZ cO k mo []) (hl : lv_has ls 3 [(0, .ref (ad (B + 8))), (1, .int v1), (2, .int v2)]) (hf : F_X3_couples_20 B k c4 v1 v2 = some out) : W p l e rm_X3_couples s mm args below meth c H locs 0 0 (kGi below args s D cI cZ cO ad out k mo 0 0) (F0 mm 20 ls []) := by
  have hx := V.1
  have hb := V.2.1
  refine lv_iinc (v := (v1 + 1)) (lv' := [(1, .int (v1 + 1)), (0, .ref (ad (B + 8))), (2, .int v2)]) hx hb dX3_couples_20 hl (k := 1) rfl rfl (by decide) rfl (fun ls hl => ?_)
  exact w_X3_couples_23 V hB hk4 hH (lv_sub hl [1, 0, 2] rfl) hf
set_option maxHeartbeats 4000000 in
set_option maxRecDepth 100000 in
theorem w_X3_couples_10 (V : kV p s mm args meth c cX3_couples RX3 3 (some .int) D cI cZ cO) {k mo : kS} {B : Nat} (hB : kB B) {c4 : Int32 → Int32 → Option (Int32)} (hk4 : ∀ {v1 : Int32} {v2 : Int32} {H : Heap} {locs : List Loc} {ls : Array Slot} {out : Int32}, kHE s H locs D ad cI cZ cO k mo [] → lv_has ls 3 [(0, .ref (ad (B + 8))), (1, .int v1), (2, .int v2)] → c4 v1 v2 = some out → W p l e rm_X3_couples s mm args below meth c H locs 0 0 (kGi below args s D cI cZ cO ad out k mo 0 0) (F0 mm 4 ls [])) {v1 : Int32} {v2 : Int32} {H : Heap} {locs : List Loc} {ls : Array Slot} {out : Int32} (hH : kHE s H locs D ad cI cZ cO k mo []) (hl : lv_has ls 3 [(0, .ref (ad (B + 8))), (1, .int v1), (2, .int v2)]) (hf : F_X3_couples_10 B k c4 v1 v2 = some out) : W p l e rm_X3_couples s mm args below meth c H locs 0 0 (kGi below args s D cI cZ cO ad out k mo 0 0) (F0 mm 10 ls []) := by
  have hx := V.1
  have hb := V.2.1
  refine lv_aload_n hx hb dX3_couples_10 rfl (lv_at hl 0 rfl) ?_
  refine kg_X3_9 hB V hH dX3_couples_11 ?_
  refine lv_iload_n hx hb dX3_couples_14 rfl (lv_at hl 2 rfl) ?_
  obtain ⟨h10_1, hf⟩ := kif hf
  refine kr_iald V hH (q := (B + 9)) (kq_w hB (by decide)) (kE_w9 hB) h10_1 dX3_couples_15 ?_
  refine lv_iload_n hx hb dX3_couples_16 rfl (lv_at hl 2 rfl) ?_
  refine lv_icmp_le (tgt := 23) hx hb dX3_couples_17 (by decide) (fun hq => ?_) (fun hq => ?_)
  · have hf := kpos hq hf
    exact w_X3_couples_23 V hB hk4 hH (lv_sub hl [0, 1, 2] rfl) hf
  · have hf := kneg hq hf
    exact w_X3_couples_20 V hB hk4 hH (lv_sub hl [0, 1, 2] rfl) hf
set_option maxHeartbeats 4000000 in
set_option maxRecDepth 100000 in
theorem w_X3_couples_29 (V : kV p s mm args meth c cX3_couples RX3 3 (some .int) D cI cZ cO) {k mo : kS} {B : Nat} (hB : kB B) {v1 : Int32} {H : Heap} {locs : List Loc} {ls : Array Slot} {out : Int32} (hH : kHE s H locs D ad cI cZ cO k mo []) (hl : lv_has ls 3 [(1, .int v1)]) (hf : F_X3_couples_29 B k v1 = some out) : W p l e rm_X3_couples s mm args below meth c H locs 0 0 (kGi below args s D cI cZ cO ad out k mo 0 0) (F0 mm 29 ls []) := by
  have hx := V.1
  have hb := V.2.1
  refine lv_iload_n hx hb dX3_couples_29 rfl (lv_at hl 0 rfl) ?_
  cases hf
  exact kr_iret V hH dX3_couples_30
set_option maxHeartbeats 4000000 in
set_option maxRecDepth 100000 in
theorem w_X3_couples_4 (V : kV p s mm args meth c cX3_couples RX3 3 (some .int) D cI cZ cO) {k mo : kS} {B : Nat} (hB : kB B) : ∀ (n : Nat) {v1 : Int32} {v2 : Int32} {H : Heap} {locs : List Loc} {ls : Array Slot} {out : Int32}, kHE s H locs D ad cI cZ cO k mo [] → lv_has ls 3 [(0, .ref (ad (B + 8))), (1, .int v1), (2, .int v2)] → F_X3_couples_4 B k n v1 v2 = some out → W p l e rm_X3_couples s mm args below meth c H locs 0 0 (kGi below args s D cI cZ cO ad out k mo 0 0) (F0 mm 4 ls []) := by
  have hx := V.1
  have hb := V.2.1
  intro n
  induction n with
  | zero => intro _ _ _ _ _ _ hH hl hf; cases hf
  | succ n hk4 =>
    intro v1 v2 H locs ls out hH hl hf
    refine lv_iload_n hx hb dX3_couples_4 rfl (lv_at hl 2 rfl) ?_
    refine lv_bipush (v := 40) hx hb dX3_couples_5 (by decide) ?_
    refine lv_icmp_ge (tgt := 29) hx hb dX3_couples_7 (by decide) (fun hq => ?_) (fun hq => ?_)
    · have hf := kpos hq hf
      exact w_X3_couples_29 V hB hH (lv_sub hl [1] rfl) hf
    · have hf := kneg hq hf
      exact w_X3_couples_10 V hB hk4 hH (lv_sub hl [0, 1, 2] rfl) hf
set_option maxHeartbeats 4000000 in
set_option maxRecDepth 100000 in
theorem w_X3_couples_0 (V : kV p s mm args meth c cX3_couples RX3 3 (some .int) D cI cZ cO) {k mo : kS} {B : Nat} (hB : kB B) {H : Heap} {locs : List Loc} {ls : Array Slot} {out : Int32} (hH : kHE s H locs D ad cI cZ cO k mo []) (hl : lv_has ls 3 [(0, .ref (ad (B + 8)))]) (hf : F_X3_couples_0 B k = some out) : W p l e rm_X3_couples s mm args below meth c H locs 0 0 (kGi below args s D cI cZ cO ad out k mo 0 0) (F0 mm 0 ls []) := by
  have hx := V.1
  have hb := V.2.1
  refine lv_iconst (v := 0) hx hb dX3_couples_0 (by decide) ?_
  refine lv_istore_n (lv' := [(1, .int 0), (0, .ref (ad (B + 8)))]) hx hb dX3_couples_1 rfl hl (by decide) rfl (fun ls hl => ?_)
  refine lv_iconst (v := 0) hx hb dX3_couples_2 (by decide) ?_
  refine lv_istore_n (lv' := [(2, .int 0), (1, .int 0), (0, .ref (ad (B + 8)))]) hx hb dX3_couples_3 rfl hl (by decide) rfl (fun ls hl => ?_)
  exact w_X3_couples_4 V hB kN hH (lv_sub hl [2, 1, 0] rfl) hf
set_option maxHeartbeats 4000000 in
set_option maxRecDepth 100000 in
theorem c_X3_couples (l : Launch) {D : va_G} {cI cZ cO : ClassId} {ad : Nat → Nat} {k mo : kS} {B : Nat} (hB : kB B) {out : Int32} (hf : F_X3_couples B k = some out) (sz : Nat) : Met l yX3_couples (Cond.code yX3_couples cX3_couples 3 (some .int) :: kWA) rm_X3_couples (kP [.ref (ad (B + 8))] D cI cZ cO ad (kE ad cI cZ cO k mo) sz) (kQi out D cI cZ cO ad (kE ad cI cZ cO k mo) sz) 0 0 (fA ad sz) := by
  refine kr_met (as := [.ref (ad (B + 8))]) (bytes := cX3_couples) (maxL := 3) (rt := (some .int)) (Qc := fun sz => kQi out D cI cZ cO ad (kE ad cI cZ cO k mo) sz) (lv := [(0, .ref (ad (B + 8)))]) (by decide +kernel) (Nat.le_of_ble_eq_true rfl) rfl (fun p e s mm below meth c ls V hH hl => ?_) sz
  exact w_X3_couples_0 V hB hH (lv_sub hl [0] rfl) hf
end
section
variable {p : Program} {l : Launch} {e : Env} {s : State} {mm : MethodId} {args : Array Value} {below : List Frame} {meth : Method} {c : Code} {D : va_G} {cI cZ cO : ClassId} {ad : Nat → Nat}
abbrev rm_X4_startFrom : Room := { frames := 2, cells := 0, slots := 0, locals := 61 }
set_option maxHeartbeats 4000000 in
set_option maxRecDepth 100000 in
theorem w_X4_startFrom_0 (V : kV p s mm args meth c cX4_startFrom RX4 2 none D cI cZ cO) {mo : kS} {k : kS} {H : Heap} {locs : List Loc} {ls : Array Slot} {out : kS} (hH : kHE s H locs D ad cI cZ cO k mo []) (hl : lv_has ls 2 [(0, .ref (ad 30)), (1, .ref (ad 15))]) (hf : F_X4_startFrom_0 k = some out) : W p l e rm_X4_startFrom s mm args below meth c H locs 0 0 (kGv below args s D cI cZ cO ad out mo 0 0) (F0 mm 0 ls []) := by
  have hx := V.1
  have hb := V.2.1
  refine lv_aload_n hx hb dX4_startFrom_0 rfl (lv_at hl 0 rfl) ?_
  refine lv_aload_n hx hb dX4_startFrom_1 rfl (lv_at hl 1 rfl) ?_
  refine kg_X4_36 k15 V hH dX4_startFrom_2 ?_
  refine kp_X4_36 k30 V hH dX4_startFrom_5 (fun H locs hH => ?_)
  refine lv_aload_n hx hb dX4_startFrom_8 rfl (lv_at hl 1 rfl) ?_
  refine kg_X4_32 k15 V hH dX4_startFrom_9 ?_
  refine lv_iconst (v := 0) hx hb dX4_startFrom_12 (by decide) ?_
  refine lv_aload_n hx hb dX4_startFrom_13 rfl (lv_at hl 0 rfl) ?_
  refine kg_X4_32 k30 V hH dX4_startFrom_14 ?_
  refine lv_iconst (v := 0) hx hb dX4_startFrom_17 (by decide) ?_
  refine lv_bipush (v := 40) hx hb dX4_startFrom_18 (by decide) ?_
  obtain ⟨h0_1, hf⟩ := kif hf
  refine kr_copyK V hH hl.1 kl_X4_50 (q0 := (15 + 14)) (q := (30 + 14)) (kq_w k15 (by decide)) (kq_w k30 (by decide)) (fun _ => (kE_w14 k15)) (fun _ => (kE_w14 k30)) h0_1 (Nat.le_of_ble_eq_true rfl) (Nat.le_of_ble_eq_true rfl) dX4_startFrom_20 (fun H locs hH => ?_)
  refine lv_aload_n hx hb dX4_startFrom_23 rfl (lv_at hl 0 rfl) ?_
  refine kg_X4_12 k30 V hH dX4_startFrom_24 ?_
  refine lv_aload_n hx hb dX4_startFrom_27 rfl (lv_at hl 1 rfl) ?_
  refine kg_X4_12 k15 V hH dX4_startFrom_28 ?_
  obtain ⟨x0_2, hx0_2, hf⟩ := kbind hf
  refine kr_callv0 hH (kr_runV (as := [.ref (ad (15 + 1))]) (rest := []) (pl := (30 + 1)) V hH kYX1_takeRulers kl_X4_56 (c_X1_takeRulers l hx0_2 _) rfl rfl ⟨Nat.le_of_ble_eq_true rfl, Nat.le_of_ble_eq_true rfl⟩ (kq_w k30 (by decide)) (kE_w1 k30) rfl rfl hl.1 (Nat.le_of_ble_eq_true rfl) dX4_startFrom_31 ⟨Nat.le_refl _, Nat.le_refl _⟩ rfl) (fun H locs hH => ?_)
  cases hf
  exact kr_vret V hH dX4_startFrom_34
set_option maxHeartbeats 4000000 in
set_option maxRecDepth 100000 in
theorem c_X4_startFrom (l : Launch) {D : va_G} {cI cZ cO : ClassId} {ad : Nat → Nat} {k mo : kS} {out : kS} (hf : F_X4_startFrom k = some out) (sz : Nat) : Met l yX4_startFrom (Cond.code yX4_startFrom cX4_startFrom 2 none :: kWA) rm_X4_startFrom (kP [.ref (ad 30), .ref (ad 15)] D cI cZ cO ad (kE ad cI cZ cO k mo) sz) (kQv D cI cZ cO ad (kE ad cI cZ cO out mo) sz) 0 0 (fA ad sz) := by
  refine kr_met (as := [.ref (ad 30), .ref (ad 15)]) (bytes := cX4_startFrom) (maxL := 2) (rt := none) (Qc := fun sz => kQv D cI cZ cO ad (kE ad cI cZ cO out mo) sz) (lv := [(0, .ref (ad 30)), (1, .ref (ad 15))]) (by decide +kernel) (Nat.le_of_ble_eq_true rfl) rfl (fun p e s mm below meth c ls V hH hl => ?_) sz
  exact w_X4_startFrom_0 V hH (lv_sub hl [0, 1] rfl) hf
end
section
variable {p : Program} {l : Launch} {e : Env} {s : State} {mm : MethodId} {args : Array Value} {below : List Frame} {meth : Method} {c : Code} {D : va_G} {cI cZ cO : ClassId} {ad : Nat → Nat}
abbrev rm_X4_lives : Room := { frames := 1, cells := 0, slots := 0, locals := 21 }
set_option maxHeartbeats 4000000 in
set_option maxRecDepth 100000 in
theorem w_X4_lives_26 (V : kV p s mm args meth c cX4_lives RX4 2 (some .boolean) D cI cZ cO) {k mo : kS} {B : Nat} (hB : kB B) {s0 : Int32} {H : Heap} {locs : List Loc} {ls : Array Slot} {out : Int32} (hH : kHE s H locs D ad cI cZ cO k mo []) (hl : lv_has ls 2 []) (hf : F_X4_lives_26 B k s0 = some out) : W p l e rm_X4_lives s mm args below meth c H locs 0 0 (kGi below args s D cI cZ cO ad out k mo 0 0) (F0 mm 26 ls [.int s0]) := by
  have hx := V.1
  have hb := V.2.1
  obtain ⟨h26_1, hf⟩ := kif hf
  cases hf
  exact kr_zret V hH (Decidable.not_not.mp h26_1) dX4_lives_26
set_option maxHeartbeats 4000000 in
set_option maxRecDepth 100000 in
theorem w_X4_lives_21 (V : kV p s mm args meth c cX4_lives RX4 2 (some .boolean) D cI cZ cO) {k mo : kS} {B : Nat} (hB : kB B) {H : Heap} {locs : List Loc} {ls : Array Slot} {out : Int32} (hH : kHE s H locs D ad cI cZ cO k mo []) (hl : lv_has ls 2 []) (hf : F_X4_lives_21 B k = some out) : W p l e rm_X4_lives s mm args below meth c H locs 0 0 (kGi below args s D cI cZ cO ad out k mo 0 0) (F0 mm 21 ls []) := by
  have hx := V.1
  have hb := V.2.1
  refine lv_iconst (v := 1) hx hb dX4_lives_21 (by decide) ?_
  refine lv_goto (tgt := 26) hx hb dX4_lives_22 (by decide) ?_
  exact w_X4_lives_26 V hB hH (lv_sub hl [] rfl) hf
set_option maxHeartbeats 4000000 in
set_option maxRecDepth 100000 in
theorem w_X4_lives_25 (V : kV p s mm args meth c cX4_lives RX4 2 (some .boolean) D cI cZ cO) {k mo : kS} {B : Nat} (hB : kB B) {H : Heap} {locs : List Loc} {ls : Array Slot} {out : Int32} (hH : kHE s H locs D ad cI cZ cO k mo []) (hl : lv_has ls 2 []) (hf : F_X4_lives_25 B k = some out) : W p l e rm_X4_lives s mm args below meth c H locs 0 0 (kGi below args s D cI cZ cO ad out k mo 0 0) (F0 mm 25 ls []) := by
  have hx := V.1
  have hb := V.2.1
  refine lv_iconst (v := 0) hx hb dX4_lives_25 (by decide) ?_
  exact w_X4_lives_26 V hB hH (lv_sub hl [] rfl) hf
set_option maxHeartbeats 4000000 in
set_option maxRecDepth 100000 in
theorem w_X4_lives_11 (V : kV p s mm args meth c cX4_lives RX4 2 (some .boolean) D cI cZ cO) {k mo : kS} {B : Nat} (hB : kB B) {v1 : Int32} {H : Heap} {locs : List Loc} {ls : Array Slot} {out : Int32} (hH : kHE s H locs D ad cI cZ cO k mo []) (hl : lv_has ls 2 [(0, .ref (ad B)), (1, .int v1)]) (hf : F_X4_lives_11 B k v1 = some out) : W p l e rm_X4_lives s mm args below meth c H locs 0 0 (kGi below args s D cI cZ cO ad out k mo 0 0) (F0 mm 11 ls []) := by
  have hx := V.1
  have hb := V.2.1
  refine lv_aload_n hx hb dX4_lives_11 rfl (lv_at hl 0 rfl) ?_
  refine kg_X4_32 hB V hH dX4_lives_12 ?_
  refine lv_iload_n hx hb dX4_lives_15 rfl (lv_at hl 1 rfl) ?_
  obtain ⟨h11_1, hf⟩ := kif hf
  refine kr_iald V hH (q := (B + 14)) (kq_w hB (by decide)) (kE_w14 hB) h11_1 dX4_lives_16 ?_
  refine lv_iconst (v := (-1)) hx hb dX4_lives_17 (by decide) ?_
  refine lv_icmp_ne (tgt := 25) hx hb dX4_lives_18 (by decide) (fun hq => ?_) (fun hq => ?_)
  · have hf := kneg hq hf
    exact w_X4_lives_25 V hB hH (lv_sub hl [] rfl) hf
  · have hf := kpos hq hf
    exact w_X4_lives_21 V hB hH (lv_sub hl [] rfl) hf
set_option maxHeartbeats 4000000 in
set_option maxRecDepth 100000 in
theorem w_X4_lives_0 (V : kV p s mm args meth c cX4_lives RX4 2 (some .boolean) D cI cZ cO) {k mo : kS} {B : Nat} (hB : kB B) {v1 : Int32} {H : Heap} {locs : List Loc} {ls : Array Slot} {out : Int32} (hH : kHE s H locs D ad cI cZ cO k mo []) (hl : lv_has ls 2 [(0, .ref (ad B)), (1, .int v1)]) (hf : F_X4_lives_0 B k v1 = some out) : W p l e rm_X4_lives s mm args below meth c H locs 0 0 (kGi below args s D cI cZ cO ad out k mo 0 0) (F0 mm 0 ls []) := by
  have hx := V.1
  have hb := V.2.1
  refine lv_aload_n hx hb dX4_lives_0 rfl (lv_at hl 0 rfl) ?_
  refine kg_X4_40 hB V hH dX4_lives_1 ?_
  refine lv_iload_n hx hb dX4_lives_4 rfl (lv_at hl 1 rfl) ?_
  obtain ⟨x0_1, hx0_1, hf⟩ := kbind hf
  refine kr_calli0 hH (kr_runV (as := [.int v1]) (rest := []) (pl := 1) V hH kYX0_knows kl_X4_60 (c_X0_knows l _ hx0_1 _) rfl rfl ⟨Nat.le_of_ble_eq_true rfl, Nat.le_of_ble_eq_true rfl⟩ (by decide) kE_1 rfl rfl hl.1 (Nat.le_of_ble_eq_true rfl) dX4_lives_5 ⟨Nat.le_refl _, Nat.le_refl _⟩ rfl) (fun H locs hH => ?_)
  refine lv_if_eq (tgt := 25) hx hb dX4_lives_8 (by decide) (fun hq => ?_) (fun hq => ?_)
  · have hf := kpos hq hf
    exact w_X4_lives_25 V hB hH (lv_sub hl [] rfl) hf
  · have hf := kneg hq hf
    exact w_X4_lives_11 V hB hH (lv_sub hl [0, 1] rfl) hf
set_option maxHeartbeats 4000000 in
set_option maxRecDepth 100000 in
theorem c_X4_lives (l : Launch) {D : va_G} {cI cZ cO : ClassId} {ad : Nat → Nat} {k mo : kS} {B : Nat} (hB : kB B) (v1 : Int32) {out : Int32} (hf : F_X4_lives B k v1 = some out) (sz : Nat) : Met l yX4_lives (Cond.code yX4_lives cX4_lives 2 (some .boolean) :: kWA) rm_X4_lives (kP [.ref (ad B), .int v1] D cI cZ cO ad (kE ad cI cZ cO k mo) sz) (kQi out D cI cZ cO ad (kE ad cI cZ cO k mo) sz) 0 0 (fA ad sz) := by
  refine kr_met (as := [.ref (ad B), .int v1]) (bytes := cX4_lives) (maxL := 2) (rt := (some .boolean)) (Qc := fun sz => kQi out D cI cZ cO ad (kE ad cI cZ cO k mo) sz) (lv := [(0, .ref (ad B)), (1, .int v1)]) (by decide +kernel) (Nat.le_of_ble_eq_true rfl) rfl (fun p e s mm below meth c ls V hH hl => ?_) sz
  exact w_X4_lives_0 V hB hH (lv_sub hl [0, 1] rfl) hf
end
section
variable {p : Program} {l : Launch} {e : Env} {s : State} {mm : MethodId} {args : Array Value} {below : List Frame} {meth : Method} {c : Code} {D : va_G} {cI cZ cO : ClassId} {ad : Nat → Nat}
abbrev rm_X4_age : Room := { frames := 1, cells := 0, slots := 0, locals := 21 }
set_option maxHeartbeats 4000000 in
set_option maxRecDepth 100000 in
theorem w_X4_age_29 (V : kV p s mm args meth c cX4_age RX4 2 (some .int) D cI cZ cO) {k mo : kS} {B : Nat} (hB : kB B) {s0 : Int32} {H : Heap} {locs : List Loc} {ls : Array Slot} {out : Int32} (hH : kHE s H locs D ad cI cZ cO k mo []) (hl : lv_has ls 2 []) (hf : F_X4_age_29 B k s0 = some out) : W p l e rm_X4_age s mm args below meth c H locs 0 0 (kGi below args s D cI cZ cO ad out k mo 0 0) (F0 mm 29 ls [.int s0]) := by
  have hx := V.1
  have hb := V.2.1
  cases hf
  exact kr_iret V hH dX4_age_29
set_option maxHeartbeats 4000000 in
set_option maxRecDepth 100000 in
theorem w_X4_age_11 (V : kV p s mm args meth c cX4_age RX4 2 (some .int) D cI cZ cO) {k mo : kS} {B : Nat} (hB : kB B) {v1 : Int32} {H : Heap} {locs : List Loc} {ls : Array Slot} {out : Int32} (hH : kHE s H locs D ad cI cZ cO k mo []) (hl : lv_has ls 2 [(0, .ref (ad B)), (1, .int v1)]) (hf : F_X4_age_11 B k v1 = some out) : W p l e rm_X4_age s mm args below meth c H locs 0 0 (kGi below args s D cI cZ cO ad out k mo 0 0) (F0 mm 11 ls []) := by
  have hx := V.1
  have hb := V.2.1
  refine lv_aload_n hx hb dX4_age_11 rfl (lv_at hl 0 rfl) ?_
  refine kg_X4_36 hB V hH dX4_age_12 ?_
  refine lv_aload_n hx hb dX4_age_15 rfl (lv_at hl 0 rfl) ?_
  refine kg_X4_40 hB V hH dX4_age_16 ?_
  refine kg_X4_66 V hH dX4_age_19 ?_
  refine lv_iload_n hx hb dX4_age_22 rfl (lv_at hl 1 rfl) ?_
  obtain ⟨h11_1, hf⟩ := kif hf
  refine kr_iald V hH (q := 3) (by decide) kE_3 h11_1 dX4_age_23 ?_
  refine lv_isub hx hb dX4_age_24 ?_
  refine lv_goto (tgt := 29) hx hb dX4_age_25 (by decide) ?_
  exact w_X4_age_29 V hB hH (lv_sub hl [] rfl) hf
set_option maxHeartbeats 4000000 in
set_option maxRecDepth 100000 in
theorem w_X4_age_28 (V : kV p s mm args meth c cX4_age RX4 2 (some .int) D cI cZ cO) {k mo : kS} {B : Nat} (hB : kB B) {H : Heap} {locs : List Loc} {ls : Array Slot} {out : Int32} (hH : kHE s H locs D ad cI cZ cO k mo []) (hl : lv_has ls 2 []) (hf : F_X4_age_28 B k = some out) : W p l e rm_X4_age s mm args below meth c H locs 0 0 (kGi below args s D cI cZ cO ad out k mo 0 0) (F0 mm 28 ls []) := by
  have hx := V.1
  have hb := V.2.1
  refine lv_iconst (v := 0) hx hb dX4_age_28 (by decide) ?_
  exact w_X4_age_29 V hB hH (lv_sub hl [] rfl) hf
set_option maxHeartbeats 4000000 in
set_option maxRecDepth 100000 in
theorem w_X4_age_0 (V : kV p s mm args meth c cX4_age RX4 2 (some .int) D cI cZ cO) {k mo : kS} {B : Nat} (hB : kB B) {v1 : Int32} {H : Heap} {locs : List Loc} {ls : Array Slot} {out : Int32} (hH : kHE s H locs D ad cI cZ cO k mo []) (hl : lv_has ls 2 [(0, .ref (ad B)), (1, .int v1)]) (hf : F_X4_age_0 B k v1 = some out) : W p l e rm_X4_age s mm args below meth c H locs 0 0 (kGi below args s D cI cZ cO ad out k mo 0 0) (F0 mm 0 ls []) := by
  have hx := V.1
  have hb := V.2.1
  refine lv_aload_n hx hb dX4_age_0 rfl (lv_at hl 0 rfl) ?_
  refine kg_X4_40 hB V hH dX4_age_1 ?_
  refine lv_iload_n hx hb dX4_age_4 rfl (lv_at hl 1 rfl) ?_
  obtain ⟨x0_1, hx0_1, hf⟩ := kbind hf
  refine kr_calli0 hH (kr_runV (as := [.int v1]) (rest := []) (pl := 1) V hH kYX0_knows kl_X4_60 (c_X0_knows l _ hx0_1 _) rfl rfl ⟨Nat.le_of_ble_eq_true rfl, Nat.le_of_ble_eq_true rfl⟩ (by decide) kE_1 rfl rfl hl.1 (Nat.le_of_ble_eq_true rfl) dX4_age_5 ⟨Nat.le_refl _, Nat.le_refl _⟩ rfl) (fun H locs hH => ?_)
  refine lv_if_eq (tgt := 28) hx hb dX4_age_8 (by decide) (fun hq => ?_) (fun hq => ?_)
  · have hf := kpos hq hf
    exact w_X4_age_28 V hB hH (lv_sub hl [] rfl) hf
  · have hf := kneg hq hf
    exact w_X4_age_11 V hB hH (lv_sub hl [0, 1] rfl) hf
set_option maxHeartbeats 4000000 in
set_option maxRecDepth 100000 in
theorem c_X4_age (l : Launch) {D : va_G} {cI cZ cO : ClassId} {ad : Nat → Nat} {k mo : kS} {B : Nat} (hB : kB B) (v1 : Int32) {out : Int32} (hf : F_X4_age B k v1 = some out) (sz : Nat) : Met l yX4_age (Cond.code yX4_age cX4_age 2 (some .int) :: kWA) rm_X4_age (kP [.ref (ad B), .int v1] D cI cZ cO ad (kE ad cI cZ cO k mo) sz) (kQi out D cI cZ cO ad (kE ad cI cZ cO k mo) sz) 0 0 (fA ad sz) := by
  refine kr_met (as := [.ref (ad B), .int v1]) (bytes := cX4_age) (maxL := 2) (rt := (some .int)) (Qc := fun sz => kQi out D cI cZ cO ad (kE ad cI cZ cO k mo) sz) (lv := [(0, .ref (ad B)), (1, .int v1)]) (by decide +kernel) (Nat.le_of_ble_eq_true rfl) rfl (fun p e s mm below meth c ls V hH hl => ?_) sz
  exact w_X4_age_0 V hB hH (lv_sub hl [0, 1] rfl) hf
end
section
variable {p : Program} {l : Launch} {e : Env} {s : State} {mm : MethodId} {args : Array Value} {below : List Frame} {meth : Method} {c : Code} {D : va_G} {cI cZ cO : ClassId} {ad : Nat → Nat}
abbrev rm_X4_isFree : Room := { frames := 2, cells := 0, slots := 0, locals := 42 }
set_option maxHeartbeats 4000000 in
set_option maxRecDepth 100000 in
theorem w_X4_isFree_35 (V : kV p s mm args meth c cX4_isFree RX4 2 (some .boolean) D cI cZ cO) {k mo : kS} {B : Nat} (hB : kB B) {s0 : Int32} {H : Heap} {locs : List Loc} {ls : Array Slot} {out : Int32} (hH : kHE s H locs D ad cI cZ cO k mo []) (hl : lv_has ls 2 []) (hf : F_X4_isFree_35 B k s0 = some out) : W p l e rm_X4_isFree s mm args below meth c H locs 0 0 (kGi below args s D cI cZ cO ad out k mo 0 0) (F0 mm 35 ls [.int s0]) := by
  have hx := V.1
  have hb := V.2.1
  obtain ⟨h35_1, hf⟩ := kif hf
  cases hf
  exact kr_zret V hH (Decidable.not_not.mp h35_1) dX4_isFree_35
set_option maxHeartbeats 4000000 in
set_option maxRecDepth 100000 in
theorem w_X4_isFree_30 (V : kV p s mm args meth c cX4_isFree RX4 2 (some .boolean) D cI cZ cO) {k mo : kS} {B : Nat} (hB : kB B) {H : Heap} {locs : List Loc} {ls : Array Slot} {out : Int32} (hH : kHE s H locs D ad cI cZ cO k mo []) (hl : lv_has ls 2 []) (hf : F_X4_isFree_30 B k = some out) : W p l e rm_X4_isFree s mm args below meth c H locs 0 0 (kGi below args s D cI cZ cO ad out k mo 0 0) (F0 mm 30 ls []) := by
  have hx := V.1
  have hb := V.2.1
  refine lv_iconst (v := 1) hx hb dX4_isFree_30 (by decide) ?_
  refine lv_goto (tgt := 35) hx hb dX4_isFree_31 (by decide) ?_
  exact w_X4_isFree_35 V hB hH (lv_sub hl [] rfl) hf
set_option maxHeartbeats 4000000 in
set_option maxRecDepth 100000 in
theorem w_X4_isFree_34 (V : kV p s mm args meth c cX4_isFree RX4 2 (some .boolean) D cI cZ cO) {k mo : kS} {B : Nat} (hB : kB B) {H : Heap} {locs : List Loc} {ls : Array Slot} {out : Int32} (hH : kHE s H locs D ad cI cZ cO k mo []) (hl : lv_has ls 2 []) (hf : F_X4_isFree_34 B k = some out) : W p l e rm_X4_isFree s mm args below meth c H locs 0 0 (kGi below args s D cI cZ cO ad out k mo 0 0) (F0 mm 34 ls []) := by
  have hx := V.1
  have hb := V.2.1
  refine lv_iconst (v := 0) hx hb dX4_isFree_34 (by decide) ?_
  exact w_X4_isFree_35 V hB hH (lv_sub hl [] rfl) hf
set_option maxHeartbeats 4000000 in
set_option maxRecDepth 100000 in
theorem w_X4_isFree_18 (V : kV p s mm args meth c cX4_isFree RX4 2 (some .boolean) D cI cZ cO) {k mo : kS} {B : Nat} (hB : kB B) {v1 : Int32} {H : Heap} {locs : List Loc} {ls : Array Slot} {out : Int32} (hH : kHE s H locs D ad cI cZ cO k mo []) (hl : lv_has ls 2 [(0, .ref (ad B)), (1, .int v1)]) (hf : F_X4_isFree_18 B k v1 = some out) : W p l e rm_X4_isFree s mm args below meth c H locs 0 0 (kGi below args s D cI cZ cO ad out k mo 0 0) (F0 mm 18 ls []) := by
  have hx := V.1
  have hb := V.2.1
  refine lv_aload_n hx hb dX4_isFree_18 rfl (lv_at hl 0 rfl) ?_
  refine kg_X4_21 hB V hH dX4_isFree_19 ?_
  refine lv_iload_n hx hb dX4_isFree_22 rfl (lv_at hl 1 rfl) ?_
  obtain ⟨x18_1, hx18_1, hf⟩ := kbind hf
  refine kr_calli0 hH (kr_runV (as := [.int v1]) (rest := []) (pl := (B + 8)) V hH kYX3_spouseOf kl_X4_76 (c_X3_spouseOf l hB _ hx18_1 _) rfl rfl ⟨Nat.le_of_ble_eq_true rfl, Nat.le_of_ble_eq_true rfl⟩ (kq_w hB (by decide)) (kE_w8 hB) rfl rfl hl.1 (Nat.le_of_ble_eq_true rfl) dX4_isFree_23 ⟨Nat.le_refl _, Nat.le_refl _⟩ rfl) (fun H locs hH => ?_)
  refine lv_iconst (v := (-1)) hx hb dX4_isFree_26 (by decide) ?_
  refine lv_icmp_ne (tgt := 34) hx hb dX4_isFree_27 (by decide) (fun hq => ?_) (fun hq => ?_)
  · have hf := kneg hq hf
    exact w_X4_isFree_34 V hB hH (lv_sub hl [] rfl) hf
  · have hf := kpos hq hf
    exact w_X4_isFree_30 V hB hH (lv_sub hl [] rfl) hf
set_option maxHeartbeats 4000000 in
set_option maxRecDepth 100000 in
theorem w_X4_isFree_8 (V : kV p s mm args meth c cX4_isFree RX4 2 (some .boolean) D cI cZ cO) {k mo : kS} {B : Nat} (hB : kB B) {v1 : Int32} {H : Heap} {locs : List Loc} {ls : Array Slot} {out : Int32} (hH : kHE s H locs D ad cI cZ cO k mo []) (hl : lv_has ls 2 [(0, .ref (ad B)), (1, .int v1)]) (hf : F_X4_isFree_8 B k v1 = some out) : W p l e rm_X4_isFree s mm args below meth c H locs 0 0 (kGi below args s D cI cZ cO ad out k mo 0 0) (F0 mm 8 ls []) := by
  have hx := V.1
  have hb := V.2.1
  refine lv_aload_n hx hb dX4_isFree_8 rfl (lv_at hl 0 rfl) ?_
  refine lv_iload_n hx hb dX4_isFree_9 rfl (lv_at hl 1 rfl) ?_
  obtain ⟨x8_1, hx8_1, hf⟩ := kbind hf
  refine kr_calli0 hH (kr_runV (as := [.int v1]) (rest := []) (pl := B) V hH kYX4_age kl_X4_72 (c_X4_age l hB _ hx8_1 _) rfl rfl ⟨Nat.le_of_ble_eq_true rfl, Nat.le_of_ble_eq_true rfl⟩ (kq_B hB) (kE_w0 hB) rfl rfl hl.1 (Nat.le_of_ble_eq_true rfl) dX4_isFree_10 ⟨Nat.le_refl _, Nat.le_refl _⟩ rfl) (fun H locs hH => ?_)
  refine lv_bipush (v := 16) hx hb dX4_isFree_13 (by decide) ?_
  refine lv_icmp_lt (tgt := 34) hx hb dX4_isFree_15 (by decide) (fun hq => ?_) (fun hq => ?_)
  · have hf := kpos hq hf
    exact w_X4_isFree_34 V hB hH (lv_sub hl [] rfl) hf
  · have hf := kneg hq hf
    exact w_X4_isFree_18 V hB hH (lv_sub hl [0, 1] rfl) hf
set_option maxHeartbeats 4000000 in
set_option maxRecDepth 100000 in
theorem w_X4_isFree_0 (V : kV p s mm args meth c cX4_isFree RX4 2 (some .boolean) D cI cZ cO) {k mo : kS} {B : Nat} (hB : kB B) {v1 : Int32} {H : Heap} {locs : List Loc} {ls : Array Slot} {out : Int32} (hH : kHE s H locs D ad cI cZ cO k mo []) (hl : lv_has ls 2 [(0, .ref (ad B)), (1, .int v1)]) (hf : F_X4_isFree_0 B k v1 = some out) : W p l e rm_X4_isFree s mm args below meth c H locs 0 0 (kGi below args s D cI cZ cO ad out k mo 0 0) (F0 mm 0 ls []) := by
  have hx := V.1
  have hb := V.2.1
  refine lv_aload_n hx hb dX4_isFree_0 rfl (lv_at hl 0 rfl) ?_
  refine lv_iload_n hx hb dX4_isFree_1 rfl (lv_at hl 1 rfl) ?_
  obtain ⟨x0_1, hx0_1, hf⟩ := kbind hf
  refine kr_calli0 hH (kr_runV (as := [.int v1]) (rest := []) (pl := B) V hH kYX4_lives kl_X4_69 (c_X4_lives l hB _ hx0_1 _) rfl rfl ⟨Nat.le_of_ble_eq_true rfl, Nat.le_of_ble_eq_true rfl⟩ (kq_B hB) (kE_w0 hB) rfl rfl hl.1 (Nat.le_of_ble_eq_true rfl) dX4_isFree_2 ⟨Nat.le_refl _, Nat.le_refl _⟩ rfl) (fun H locs hH => ?_)
  refine lv_if_eq (tgt := 34) hx hb dX4_isFree_5 (by decide) (fun hq => ?_) (fun hq => ?_)
  · have hf := kpos hq hf
    exact w_X4_isFree_34 V hB hH (lv_sub hl [] rfl) hf
  · have hf := kneg hq hf
    exact w_X4_isFree_8 V hB hH (lv_sub hl [0, 1] rfl) hf
set_option maxHeartbeats 4000000 in
set_option maxRecDepth 100000 in
theorem c_X4_isFree (l : Launch) {D : va_G} {cI cZ cO : ClassId} {ad : Nat → Nat} {k mo : kS} {B : Nat} (hB : kB B) (v1 : Int32) {out : Int32} (hf : F_X4_isFree B k v1 = some out) (sz : Nat) : Met l yX4_isFree (Cond.code yX4_isFree cX4_isFree 2 (some .boolean) :: kWA) rm_X4_isFree (kP [.ref (ad B), .int v1] D cI cZ cO ad (kE ad cI cZ cO k mo) sz) (kQi out D cI cZ cO ad (kE ad cI cZ cO k mo) sz) 0 0 (fA ad sz) := by
  refine kr_met (as := [.ref (ad B), .int v1]) (bytes := cX4_isFree) (maxL := 2) (rt := (some .boolean)) (Qc := fun sz => kQi out D cI cZ cO ad (kE ad cI cZ cO k mo) sz) (lv := [(0, .ref (ad B)), (1, .int v1)]) (by decide +kernel) (Nat.le_of_ble_eq_true rfl) rfl (fun p e s mm below meth c ls V hH hl => ?_) sz
  exact w_X4_isFree_0 V hB hH (lv_sub hl [0, 1] rfl) hf
end
section
variable {p : Program} {l : Launch} {e : Env} {s : State} {mm : MethodId} {args : Array Value} {below : List Frame} {meth : Method} {c : Code} {D : va_G} {cI cZ cO : ClassId} {ad : Nat → Nat}
abbrev rm_X4_mayMarry : Room := { frames := 3, cells := 0, slots := 0, locals := 63 }
set_option maxHeartbeats 4000000 in
set_option maxRecDepth 100000 in
theorem w_X4_mayMarry_37 (V : kV p s mm args meth c cX4_mayMarry RX4 4 (some .boolean) D cI cZ cO) {k mo : kS} {B : Nat} (hB : kB B) {H : Heap} {locs : List Loc} {ls : Array Slot} {out : Int32} (hH : kHE s H locs D ad cI cZ cO k mo []) (hl : lv_has ls 4 []) (hf : F_X4_mayMarry_37 B k = some out) : W p l e rm_X4_mayMarry s mm args below meth c H locs 0 0 (kGi below args s D cI cZ cO ad out k mo 0 0) (F0 mm 37 ls []) := by
  have hx := V.1
  have hb := V.2.1
  refine lv_iconst (v := 0) hx hb dX4_mayMarry_37 (by decide) ?_
  obtain ⟨h37_1, hf⟩ := kif hf
  cases hf
  exact kr_zret V hH (Decidable.not_not.mp h37_1) dX4_mayMarry_38
set_option maxHeartbeats 4000000 in
set_option maxRecDepth 100000 in
theorem w_X4_mayMarry_64 (V : kV p s mm args meth c cX4_mayMarry RX4 4 (some .boolean) D cI cZ cO) {k mo : kS} {B : Nat} (hB : kB B) {s0 : Int32} {H : Heap} {locs : List Loc} {ls : Array Slot} {out : Int32} (hH : kHE s H locs D ad cI cZ cO k mo []) (hl : lv_has ls 4 []) (hf : F_X4_mayMarry_64 B k s0 = some out) : W p l e rm_X4_mayMarry s mm args below meth c H locs 0 0 (kGi below args s D cI cZ cO ad out k mo 0 0) (F0 mm 64 ls [.int s0]) := by
  have hx := V.1
  have hb := V.2.1
  obtain ⟨h64_1, hf⟩ := kif hf
  cases hf
  exact kr_zret V hH (Decidable.not_not.mp h64_1) dX4_mayMarry_64
set_option maxHeartbeats 4000000 in
set_option maxRecDepth 100000 in
theorem w_X4_mayMarry_59 (V : kV p s mm args meth c cX4_mayMarry RX4 4 (some .boolean) D cI cZ cO) {k mo : kS} {B : Nat} (hB : kB B) {H : Heap} {locs : List Loc} {ls : Array Slot} {out : Int32} (hH : kHE s H locs D ad cI cZ cO k mo []) (hl : lv_has ls 4 []) (hf : F_X4_mayMarry_59 B k = some out) : W p l e rm_X4_mayMarry s mm args below meth c H locs 0 0 (kGi below args s D cI cZ cO ad out k mo 0 0) (F0 mm 59 ls []) := by
  have hx := V.1
  have hb := V.2.1
  refine lv_iconst (v := 1) hx hb dX4_mayMarry_59 (by decide) ?_
  refine lv_goto (tgt := 64) hx hb dX4_mayMarry_60 (by decide) ?_
  exact w_X4_mayMarry_64 V hB hH (lv_sub hl [] rfl) hf
set_option maxHeartbeats 4000000 in
set_option maxRecDepth 100000 in
theorem w_X4_mayMarry_63 (V : kV p s mm args meth c cX4_mayMarry RX4 4 (some .boolean) D cI cZ cO) {k mo : kS} {B : Nat} (hB : kB B) {H : Heap} {locs : List Loc} {ls : Array Slot} {out : Int32} (hH : kHE s H locs D ad cI cZ cO k mo []) (hl : lv_has ls 4 []) (hf : F_X4_mayMarry_63 B k = some out) : W p l e rm_X4_mayMarry s mm args below meth c H locs 0 0 (kGi below args s D cI cZ cO ad out k mo 0 0) (F0 mm 63 ls []) := by
  have hx := V.1
  have hb := V.2.1
  refine lv_iconst (v := 0) hx hb dX4_mayMarry_63 (by decide) ?_
  exact w_X4_mayMarry_64 V hB hH (lv_sub hl [] rfl) hf
set_option maxHeartbeats 4000000 in
set_option maxRecDepth 100000 in
theorem w_X4_mayMarry_54 (V : kV p s mm args meth c cX4_mayMarry RX4 4 (some .boolean) D cI cZ cO) {k mo : kS} {B : Nat} (hB : kB B) {v3 : Int32} {H : Heap} {locs : List Loc} {ls : Array Slot} {out : Int32} (hH : kHE s H locs D ad cI cZ cO k mo []) (hl : lv_has ls 4 [(3, .int v3)]) (hf : F_X4_mayMarry_54 B k v3 = some out) : W p l e rm_X4_mayMarry s mm args below meth c H locs 0 0 (kGi below args s D cI cZ cO ad out k mo 0 0) (F0 mm 54 ls []) := by
  have hx := V.1
  have hb := V.2.1
  refine lv_iload_n hx hb dX4_mayMarry_54 rfl (lv_at hl 0 rfl) ?_
  refine lv_iconst (v := 3) hx hb dX4_mayMarry_55 (by decide) ?_
  refine lv_icmp_lt (tgt := 63) hx hb dX4_mayMarry_56 (by decide) (fun hq => ?_) (fun hq => ?_)
  · have hf := kpos hq hf
    exact w_X4_mayMarry_63 V hB hH (lv_sub hl [] rfl) hf
  · have hf := kneg hq hf
    exact w_X4_mayMarry_59 V hB hH (lv_sub hl [] rfl) hf
set_option maxHeartbeats 4000000 in
set_option maxRecDepth 100000 in
theorem w_X4_mayMarry_39 (V : kV p s mm args meth c cX4_mayMarry RX4 4 (some .boolean) D cI cZ cO) {k mo : kS} {B : Nat} (hB : kB B) {v1 : Int32} {v2 : Int32} {H : Heap} {locs : List Loc} {ls : Array Slot} {out : Int32} (hH : kHE s H locs D ad cI cZ cO k mo []) (hl : lv_has ls 4 [(0, .ref (ad B)), (1, .int v1), (2, .int v2)]) (hf : F_X4_mayMarry_39 B k v1 v2 = some out) : W p l e rm_X4_mayMarry s mm args below meth c H locs 0 0 (kGi below args s D cI cZ cO ad out k mo 0 0) (F0 mm 39 ls []) := by
  have hx := V.1
  have hb := V.2.1
  refine lv_aload_n hx hb dX4_mayMarry_39 rfl (lv_at hl 0 rfl) ?_
  refine kg_X4_40 hB V hH dX4_mayMarry_40 ?_
  refine lv_iload_n hx hb dX4_mayMarry_43 rfl (lv_at hl 1 rfl) ?_
  refine lv_iload_n hx hb dX4_mayMarry_44 rfl (lv_at hl 2 rfl) ?_
  obtain ⟨x39_1, hx39_1, hf⟩ := kbind hf
  refine kr_calli0 hH (kr_runV (as := [.int v1, .int v2]) (rest := []) (pl := 1) V hH kYX0_stepsBetween kl_X4_86 (c_X0_stepsBetween l _ _ hx39_1 _) rfl rfl ⟨Nat.le_of_ble_eq_true rfl, Nat.le_of_ble_eq_true rfl⟩ (by decide) kE_1 rfl rfl hl.1 (Nat.le_of_ble_eq_true rfl) dX4_mayMarry_45 ⟨Nat.le_refl _, Nat.le_refl _⟩ rfl) (fun H locs hH => ?_)
  refine lv_istore_n (lv' := [(3, .int x39_1), (0, .ref (ad B)), (1, .int v1), (2, .int v2)]) hx hb dX4_mayMarry_48 rfl hl (by decide) rfl (fun ls hl => ?_)
  refine lv_iload_n hx hb dX4_mayMarry_49 rfl (lv_at hl 0 rfl) ?_
  refine lv_iconst (v := (-1)) hx hb dX4_mayMarry_50 (by decide) ?_
  refine lv_icmp_eq (tgt := 59) hx hb dX4_mayMarry_51 (by decide) (fun hq => ?_) (fun hq => ?_)
  · have hf := kpos hq hf
    exact w_X4_mayMarry_59 V hB hH (lv_sub hl [] rfl) hf
  · have hf := kneg hq hf
    exact w_X4_mayMarry_54 V hB hH (lv_sub hl [0] rfl) hf
set_option maxHeartbeats 4000000 in
set_option maxRecDepth 100000 in
theorem w_X4_mayMarry_16 (V : kV p s mm args meth c cX4_mayMarry RX4 4 (some .boolean) D cI cZ cO) {k mo : kS} {B : Nat} (hB : kB B) {v1 : Int32} {v2 : Int32} {H : Heap} {locs : List Loc} {ls : Array Slot} {out : Int32} (hH : kHE s H locs D ad cI cZ cO k mo []) (hl : lv_has ls 4 [(0, .ref (ad B)), (1, .int v1), (2, .int v2)]) (hf : F_X4_mayMarry_16 B k v1 v2 = some out) : W p l e rm_X4_mayMarry s mm args below meth c H locs 0 0 (kGi below args s D cI cZ cO ad out k mo 0 0) (F0 mm 16 ls []) := by
  have hx := V.1
  have hb := V.2.1
  refine lv_aload_n hx hb dX4_mayMarry_16 rfl (lv_at hl 0 rfl) ?_
  refine kg_X4_40 hB V hH dX4_mayMarry_17 ?_
  refine kg_X4_82 V hH dX4_mayMarry_20 ?_
  refine lv_iload_n hx hb dX4_mayMarry_23 rfl (lv_at hl 1 rfl) ?_
  obtain ⟨h16_1, hf⟩ := kif hf
  refine kr_zald V hH (q := 2) (by decide) kE_2 h16_1 dX4_mayMarry_24 ?_
  refine lv_aload_n hx hb dX4_mayMarry_25 rfl (lv_at hl 0 rfl) ?_
  refine kg_X4_40 hB V hH dX4_mayMarry_26 ?_
  refine kg_X4_82 V hH dX4_mayMarry_29 ?_
  refine lv_iload_n hx hb dX4_mayMarry_32 rfl (lv_at hl 2 rfl) ?_
  obtain ⟨h16_2, hf⟩ := kif hf
  refine kr_zald V hH (q := 2) (by decide) kE_2 h16_2 dX4_mayMarry_33 ?_
  refine lv_icmp_ne (tgt := 39) hx hb dX4_mayMarry_34 (by decide) (fun hq => ?_) (fun hq => ?_)
  · have hf := kneg hq hf
    exact w_X4_mayMarry_39 V hB hH (lv_sub hl [0, 1, 2] rfl) hf
  · have hf := kpos hq hf
    exact w_X4_mayMarry_37 V hB hH (lv_sub hl [] rfl) hf
set_option maxHeartbeats 4000000 in
set_option maxRecDepth 100000 in
theorem w_X4_mayMarry_8 (V : kV p s mm args meth c cX4_mayMarry RX4 4 (some .boolean) D cI cZ cO) {k mo : kS} {B : Nat} (hB : kB B) {v1 : Int32} {v2 : Int32} {H : Heap} {locs : List Loc} {ls : Array Slot} {out : Int32} (hH : kHE s H locs D ad cI cZ cO k mo []) (hl : lv_has ls 4 [(0, .ref (ad B)), (1, .int v1), (2, .int v2)]) (hf : F_X4_mayMarry_8 B k v1 v2 = some out) : W p l e rm_X4_mayMarry s mm args below meth c H locs 0 0 (kGi below args s D cI cZ cO ad out k mo 0 0) (F0 mm 8 ls []) := by
  have hx := V.1
  have hb := V.2.1
  refine lv_aload_n hx hb dX4_mayMarry_8 rfl (lv_at hl 0 rfl) ?_
  refine lv_iload_n hx hb dX4_mayMarry_9 rfl (lv_at hl 2 rfl) ?_
  obtain ⟨x8_1, hx8_1, hf⟩ := kbind hf
  refine kr_calli0 hH (kr_runV (as := [.int v2]) (rest := []) (pl := B) V hH kYX4_isFree kl_X4_79 (c_X4_isFree l hB _ hx8_1 _) rfl rfl ⟨Nat.le_of_ble_eq_true rfl, Nat.le_of_ble_eq_true rfl⟩ (kq_B hB) (kE_w0 hB) rfl rfl hl.1 (Nat.le_of_ble_eq_true rfl) dX4_mayMarry_10 ⟨Nat.le_refl _, Nat.le_refl _⟩ rfl) (fun H locs hH => ?_)
  refine lv_if_eq (tgt := 37) hx hb dX4_mayMarry_13 (by decide) (fun hq => ?_) (fun hq => ?_)
  · have hf := kpos hq hf
    exact w_X4_mayMarry_37 V hB hH (lv_sub hl [] rfl) hf
  · have hf := kneg hq hf
    exact w_X4_mayMarry_16 V hB hH (lv_sub hl [0, 1, 2] rfl) hf
set_option maxHeartbeats 4000000 in
set_option maxRecDepth 100000 in
theorem w_X4_mayMarry_0 (V : kV p s mm args meth c cX4_mayMarry RX4 4 (some .boolean) D cI cZ cO) {k mo : kS} {B : Nat} (hB : kB B) {v1 : Int32} {v2 : Int32} {H : Heap} {locs : List Loc} {ls : Array Slot} {out : Int32} (hH : kHE s H locs D ad cI cZ cO k mo []) (hl : lv_has ls 4 [(0, .ref (ad B)), (1, .int v1), (2, .int v2)]) (hf : F_X4_mayMarry_0 B k v1 v2 = some out) : W p l e rm_X4_mayMarry s mm args below meth c H locs 0 0 (kGi below args s D cI cZ cO ad out k mo 0 0) (F0 mm 0 ls []) := by
  have hx := V.1
  have hb := V.2.1
  refine lv_aload_n hx hb dX4_mayMarry_0 rfl (lv_at hl 0 rfl) ?_
  refine lv_iload_n hx hb dX4_mayMarry_1 rfl (lv_at hl 1 rfl) ?_
  obtain ⟨x0_1, hx0_1, hf⟩ := kbind hf
  refine kr_calli0 hH (kr_runV (as := [.int v1]) (rest := []) (pl := B) V hH kYX4_isFree kl_X4_79 (c_X4_isFree l hB _ hx0_1 _) rfl rfl ⟨Nat.le_of_ble_eq_true rfl, Nat.le_of_ble_eq_true rfl⟩ (kq_B hB) (kE_w0 hB) rfl rfl hl.1 (Nat.le_of_ble_eq_true rfl) dX4_mayMarry_2 ⟨Nat.le_refl _, Nat.le_refl _⟩ rfl) (fun H locs hH => ?_)
  refine lv_if_eq (tgt := 37) hx hb dX4_mayMarry_5 (by decide) (fun hq => ?_) (fun hq => ?_)
  · have hf := kpos hq hf
    exact w_X4_mayMarry_37 V hB hH (lv_sub hl [] rfl) hf
  · have hf := kneg hq hf
    exact w_X4_mayMarry_8 V hB hH (lv_sub hl [0, 1, 2] rfl) hf
set_option maxHeartbeats 4000000 in
set_option maxRecDepth 100000 in
theorem c_X4_mayMarry (l : Launch) {D : va_G} {cI cZ cO : ClassId} {ad : Nat → Nat} {k mo : kS} {B : Nat} (hB : kB B) (v1 : Int32) (v2 : Int32) {out : Int32} (hf : F_X4_mayMarry B k v1 v2 = some out) (sz : Nat) : Met l yX4_mayMarry (Cond.code yX4_mayMarry cX4_mayMarry 4 (some .boolean) :: kWA) rm_X4_mayMarry (kP [.ref (ad B), .int v1, .int v2] D cI cZ cO ad (kE ad cI cZ cO k mo) sz) (kQi out D cI cZ cO ad (kE ad cI cZ cO k mo) sz) 0 0 (fA ad sz) := by
  refine kr_met (as := [.ref (ad B), .int v1, .int v2]) (bytes := cX4_mayMarry) (maxL := 4) (rt := (some .boolean)) (Qc := fun sz => kQi out D cI cZ cO ad (kE ad cI cZ cO k mo) sz) (lv := [(0, .ref (ad B)), (1, .int v1), (2, .int v2)]) (by decide +kernel) (Nat.le_of_ble_eq_true rfl) rfl (fun p e s mm below meth c ls V hH hl => ?_) sz
  exact w_X4_mayMarry_0 V hB hH (lv_sub hl [0, 1, 2] rfl) hf
end
section
variable {p : Program} {l : Launch} {e : Env} {s : State} {mm : MethodId} {args : Array Value} {below : List Frame} {meth : Method} {c : Code} {D : va_G} {cI cZ cO : ClassId} {ad : Nat → Nat}
abbrev rm_X4_wed : Room := { frames := 2, cells := 0, slots := 0, locals := 62 }
set_option maxHeartbeats 4000000 in
set_option maxRecDepth 100000 in
theorem w_X4_wed_61 (V : kV p s mm args meth c cX4_wed RX4 5 none D cI cZ cO) {mo : kS} {B : Nat} (hB : kB B) {k : kS} {H : Heap} {locs : List Loc} {ls : Array Slot} {out : kS} (hH : kHE s H locs D ad cI cZ cO k mo []) (hl : lv_has ls 5 []) (hf : F_X4_wed_61 B k = some out) : W p l e rm_X4_wed s mm args below meth c H locs 0 0 (kGv below args s D cI cZ cO ad out mo 0 0) (F0 mm 61 ls []) := by
  have hx := V.1
  have hb := V.2.1
  cases hf
  exact kr_vret V hH dX4_wed_61
set_option maxHeartbeats 4000000 in
set_option maxRecDepth 100000 in
theorem w_X4_wed_58 (V : kV p s mm args meth c cX4_wed RX4 5 none D cI cZ cO) {mo : kS} {B : Nat} (hB : kB B) {s1 : Int32} {s2 : Int32} {k : kS} {H : Heap} {locs : List Loc} {ls : Array Slot} {out : kS} (hH : kHE s H locs D ad cI cZ cO k mo []) (hl : lv_has ls 5 []) (hf : F_X4_wed_58 B s1 s2 k = some out) : W p l e rm_X4_wed s mm args below meth c H locs 0 0 (kGv below args s D cI cZ cO ad out mo 0 0) (F0 mm 58 ls [.int s2, .int s1, .ref (ad (B + 1))]) := by
  have hx := V.1
  have hb := V.2.1
  obtain ⟨x58_1, hx58_1, hf⟩ := kbind hf
  refine kr_callv0 hH (kr_runV (as := [.int s1, .int s2]) (rest := []) (pl := (B + 1)) V hH kYX1_handTo kl_X4_100 (c_X1_handTo l hB _ _ hx58_1 _) rfl rfl ⟨Nat.le_of_ble_eq_true rfl, Nat.le_of_ble_eq_true rfl⟩ (kq_w hB (by decide)) (kE_w1 hB) rfl rfl hl.1 (Nat.le_of_ble_eq_true rfl) dX4_wed_58 ⟨Nat.le_refl _, Nat.le_refl _⟩ rfl) (fun H locs hH => ?_)
  exact w_X4_wed_61 V hB hH (lv_sub hl [] rfl) hf
set_option maxHeartbeats 4000000 in
set_option maxRecDepth 100000 in
theorem w_X4_wed_53 (V : kV p s mm args meth c cX4_wed RX4 5 none D cI cZ cO) {mo : kS} {B : Nat} (hB : kB B) {s1 : Int32} {v2 : Int32} {k : kS} {H : Heap} {locs : List Loc} {ls : Array Slot} {out : kS} (hH : kHE s H locs D ad cI cZ cO k mo []) (hl : lv_has ls 5 [(2, .int v2)]) (hf : F_X4_wed_53 B s1 v2 k = some out) : W p l e rm_X4_wed s mm args below meth c H locs 0 0 (kGv below args s D cI cZ cO ad out mo 0 0) (F0 mm 53 ls [.int s1, .ref (ad (B + 1))]) := by
  have hx := V.1
  have hb := V.2.1
  refine lv_iload_n hx hb dX4_wed_53 rfl (lv_at hl 0 rfl) ?_
  refine lv_goto (tgt := 58) hx hb dX4_wed_54 (by decide) ?_
  exact w_X4_wed_58 V hB hH (lv_sub hl [] rfl) hf
set_option maxHeartbeats 4000000 in
set_option maxRecDepth 100000 in
theorem w_X4_wed_57 (V : kV p s mm args meth c cX4_wed RX4 5 none D cI cZ cO) {mo : kS} {B : Nat} (hB : kB B) {s1 : Int32} {v1 : Int32} {k : kS} {H : Heap} {locs : List Loc} {ls : Array Slot} {out : kS} (hH : kHE s H locs D ad cI cZ cO k mo []) (hl : lv_has ls 5 [(1, .int v1)]) (hf : F_X4_wed_57 B s1 v1 k = some out) : W p l e rm_X4_wed s mm args below meth c H locs 0 0 (kGv below args s D cI cZ cO ad out mo 0 0) (F0 mm 57 ls [.int s1, .ref (ad (B + 1))]) := by
  have hx := V.1
  have hb := V.2.1
  refine lv_iload_n hx hb dX4_wed_57 rfl (lv_at hl 0 rfl) ?_
  exact w_X4_wed_58 V hB hH (lv_sub hl [] rfl) hf
set_option maxHeartbeats 4000000 in
set_option maxRecDepth 100000 in
theorem w_X4_wed_31 (V : kV p s mm args meth c cX4_wed RX4 5 none D cI cZ cO) {mo : kS} {B : Nat} (hB : kB B) {v1 : Int32} {v2 : Int32} {v3 : Int32} {v4 : Int32} {k : kS} {H : Heap} {locs : List Loc} {ls : Array Slot} {out : kS} (hH : kHE s H locs D ad cI cZ cO k mo []) (hl : lv_has ls 5 [(0, .ref (ad B)), (1, .int v1), (2, .int v2), (3, .int v3), (4, .int v4)]) (hf : F_X4_wed_31 B v1 v2 v3 v4 k = some out) : W p l e rm_X4_wed s mm args below meth c H locs 0 0 (kGv below args s D cI cZ cO ad out mo 0 0) (F0 mm 31 ls []) := by
  have hx := V.1
  have hb := V.2.1
  refine lv_aload_n hx hb dX4_wed_31 rfl (lv_at hl 0 rfl) ?_
  refine kg_X4_21 hB V hH dX4_wed_32 ?_
  refine kg_X4_97 hB V hH dX4_wed_35 ?_
  refine lv_iload hx hb dX4_wed_38 (lv_at hl 4 rfl) ?_
  refine lv_iload_n hx hb dX4_wed_40 rfl (lv_at hl 3 rfl) ?_
  obtain ⟨h31_1, hf⟩ := kif hf
  refine kr_iastK V hH (q := (B + 10)) (kq_w hB (by decide)) (fun _ => (kE_w10 hB)) h31_1 dX4_wed_41 (fun H locs hH => ?_)
  refine lv_aload_n hx hb dX4_wed_42 rfl (lv_at hl 0 rfl) ?_
  refine kg_X4_12 hB V hH dX4_wed_43 ?_
  refine lv_iload_n hx hb dX4_wed_46 rfl (lv_at hl 3 rfl) ?_
  refine lv_iload hx hb dX4_wed_47 (lv_at hl 4 rfl) ?_
  refine lv_iload_n hx hb dX4_wed_49 rfl (lv_at hl 1 rfl) ?_
  refine lv_icmp_ne (tgt := 57) hx hb dX4_wed_50 (by decide) (fun hq => ?_) (fun hq => ?_)
  · have hf := kneg hq hf
    exact w_X4_wed_57 V hB hH (lv_sub hl [1] rfl) hf
  · have hf := kpos hq hf
    exact w_X4_wed_53 V hB hH (lv_sub hl [2] rfl) hf
set_option maxHeartbeats 4000000 in
set_option maxRecDepth 100000 in
theorem w_X4_wed_25 (V : kV p s mm args meth c cX4_wed RX4 5 none D cI cZ cO) {mo : kS} {B : Nat} (hB : kB B) {v1 : Int32} {v2 : Int32} {v3 : Int32} {v4 : Int32} {k : kS} {H : Heap} {locs : List Loc} {ls : Array Slot} {out : kS} (hH : kHE s H locs D ad cI cZ cO k mo []) (hl : lv_has ls 5 [(0, .ref (ad B)), (1, .int v1), (2, .int v2), (3, .int v3), (4, .int v4)]) (hf : F_X4_wed_25 B v1 v2 v3 v4 k = some out) : W p l e rm_X4_wed s mm args below meth c H locs 0 0 (kGv below args s D cI cZ cO ad out mo 0 0) (F0 mm 25 ls []) := by
  have hx := V.1
  have hb := V.2.1
  refine lv_iload hx hb dX4_wed_25 (lv_at hl 4 rfl) ?_
  refine lv_iload_n hx hb dX4_wed_27 rfl (lv_at hl 2 rfl) ?_
  refine lv_icmp_ne (tgt := 61) hx hb dX4_wed_28 (by decide) (fun hq => ?_) (fun hq => ?_)
  · have hf := kneg hq hf
    exact w_X4_wed_61 V hB hH (lv_sub hl [] rfl) hf
  · have hf := kpos hq hf
    exact w_X4_wed_31 V hB hH (lv_sub hl [0, 1, 2, 3, 4] rfl) hf
set_option maxHeartbeats 4000000 in
set_option maxRecDepth 100000 in
theorem w_X4_wed_0 (V : kV p s mm args meth c cX4_wed RX4 5 none D cI cZ cO) {mo : kS} {B : Nat} (hB : kB B) {v1 : Int32} {v2 : Int32} {v3 : Int32} {k : kS} {H : Heap} {locs : List Loc} {ls : Array Slot} {out : kS} (hH : kHE s H locs D ad cI cZ cO k mo []) (hl : lv_has ls 5 [(0, .ref (ad B)), (1, .int v1), (2, .int v2), (3, .int v3)]) (hf : F_X4_wed_0 B v1 v2 v3 k = some out) : W p l e rm_X4_wed s mm args below meth c H locs 0 0 (kGv below args s D cI cZ cO ad out mo 0 0) (F0 mm 0 ls []) := by
  have hx := V.1
  have hb := V.2.1
  refine lv_aload_n hx hb dX4_wed_0 rfl (lv_at hl 0 rfl) ?_
  refine kg_X4_21 hB V hH dX4_wed_1 ?_
  refine lv_iload_n hx hb dX4_wed_4 rfl (lv_at hl 1 rfl) ?_
  refine lv_iload_n hx hb dX4_wed_5 rfl (lv_at hl 2 rfl) ?_
  obtain ⟨x0_1, hx0_1, hf⟩ := kbind hf
  refine kr_callv0 hH (kr_runV (as := [.int v1, .int v2]) (rest := []) (pl := (B + 8)) V hH kYX3_bind kl_X4_90 (c_X3_bind l hB _ _ hx0_1 _) rfl rfl ⟨Nat.le_of_ble_eq_true rfl, Nat.le_of_ble_eq_true rfl⟩ (kq_w hB (by decide)) (kE_w8 hB) rfl rfl hl.1 (Nat.le_of_ble_eq_true rfl) dX4_wed_6 ⟨Nat.le_refl _, Nat.le_refl _⟩ rfl) (fun H locs hH => ?_)
  refine lv_aload_n hx hb dX4_wed_9 rfl (lv_at hl 0 rfl) ?_
  refine kg_X4_12 hB V hH dX4_wed_10 ?_
  refine lv_iload_n hx hb dX4_wed_13 rfl (lv_at hl 3 rfl) ?_
  obtain ⟨x0_2, hx0_2, hf⟩ := kbind hf
  refine kr_calli0 hH (kr_runV (as := [.int v3]) (rest := []) (pl := (B + 1)) V hH kYX1_rulerOf kl_X4_94 (c_X1_rulerOf l hB _ hx0_2 _) rfl rfl ⟨Nat.le_of_ble_eq_true rfl, Nat.le_of_ble_eq_true rfl⟩ (kq_w hB (by decide)) (kE_w1 hB) rfl rfl hl.1 (Nat.le_of_ble_eq_true rfl) dX4_wed_14 ⟨Nat.le_refl _, Nat.le_refl _⟩ rfl) (fun H locs hH => ?_)
  refine lv_istore (lv' := [(4, .int x0_2), (0, .ref (ad B)), (1, .int v1), (2, .int v2), (3, .int v3)]) hx hb dX4_wed_17 hl (by decide) rfl (fun ls hl => ?_)
  refine lv_iload hx hb dX4_wed_19 (lv_at hl 0 rfl) ?_
  refine lv_iload_n hx hb dX4_wed_21 rfl (lv_at hl 2 rfl) ?_
  refine lv_icmp_eq (tgt := 31) hx hb dX4_wed_22 (by decide) (fun hq => ?_) (fun hq => ?_)
  · have hf := kpos hq hf
    exact w_X4_wed_31 V hB hH (lv_sub hl [1, 2, 3, 4, 0] rfl) hf
  · have hf := kneg hq hf
    exact w_X4_wed_25 V hB hH (lv_sub hl [1, 2, 3, 4, 0] rfl) hf
set_option maxHeartbeats 4000000 in
set_option maxRecDepth 100000 in
theorem c_X4_wed (l : Launch) {D : va_G} {cI cZ cO : ClassId} {ad : Nat → Nat} {k mo : kS} {B : Nat} (hB : kB B) (v1 : Int32) (v2 : Int32) (v3 : Int32) {out : kS} (hf : F_X4_wed B v1 v2 v3 k = some out) (sz : Nat) : Met l yX4_wed (Cond.code yX4_wed cX4_wed 5 none :: kWA) rm_X4_wed (kP [.ref (ad B), .int v1, .int v2, .int v3] D cI cZ cO ad (kE ad cI cZ cO k mo) sz) (kQv D cI cZ cO ad (kE ad cI cZ cO out mo) sz) 0 0 (fA ad sz) := by
  refine kr_met (as := [.ref (ad B), .int v1, .int v2, .int v3]) (bytes := cX4_wed) (maxL := 5) (rt := none) (Qc := fun sz => kQv D cI cZ cO ad (kE ad cI cZ cO out mo) sz) (lv := [(0, .ref (ad B)), (1, .int v1), (2, .int v2), (3, .int v3)]) (by decide +kernel) (Nat.le_of_ble_eq_true rfl) rfl (fun p e s mm below meth c ls V hH hl => ?_) sz
  exact w_X4_wed_0 V hB hH (lv_sub hl [0, 1, 2, 3] rfl) hf
end
section
variable {p : Program} {l : Launch} {e : Env} {s : State} {mm : MethodId} {args : Array Value} {below : List Frame} {meth : Method} {c : Code} {D : va_G} {cI cZ cO : ClassId} {ad : Nat → Nat}
abbrev rm_X4_separate : Room := { frames := 3, cells := 0, slots := 0, locals := 63 }
set_option maxHeartbeats 4000000 in
set_option maxRecDepth 100000 in
theorem w_X4_separate_14 (V : kV p s mm args meth c cX4_separate RX4 6 (some .int) D cI cZ cO) {mo : kS} {B : Nat} (hB : kB B) {k : kS} {H : Heap} {locs : List Loc} {ls : Array Slot} {out : (Int32 × kS)} (hH : kHE s H locs D ad cI cZ cO k mo []) (hl : lv_has ls 6 []) (hf : F_X4_separate_14 B k = some out) : W p l e rm_X4_separate s mm args below meth c H locs 0 0 (kGi below args s D cI cZ cO ad out.1 out.2 mo 0 0) (F0 mm 14 ls []) := by
  have hx := V.1
  have hb := V.2.1
  refine lv_iconst (v := (-1)) hx hb dX4_separate_14 (by decide) ?_
  cases hf
  exact kr_iret V hH dX4_separate_15
set_option maxHeartbeats 4000000 in
set_option maxRecDepth 100000 in
theorem w_X4_separate_78 (V : kV p s mm args meth c cX4_separate RX4 6 (some .int) D cI cZ cO) {mo : kS} {B : Nat} (hB : kB B) {k : kS} {H : Heap} {locs : List Loc} {ls : Array Slot} {out : (Int32 × kS)} (hH : kHE s H locs D ad cI cZ cO k mo []) (hl : lv_has ls 6 []) (hf : F_X4_separate_78 B k = some out) : W p l e rm_X4_separate s mm args below meth c H locs 0 0 (kGi below args s D cI cZ cO ad out.1 out.2 mo 0 0) (F0 mm 78 ls []) := by
  have hx := V.1
  have hb := V.2.1
  refine lv_iconst (v := (-1)) hx hb dX4_separate_78 (by decide) ?_
  cases hf
  exact kr_iret V hH dX4_separate_79
set_option maxHeartbeats 4000000 in
set_option maxRecDepth 100000 in
theorem w_X4_separate_80 (V : kV p s mm args meth c cX4_separate RX4 6 (some .int) D cI cZ cO) {mo : kS} {B : Nat} (hB : kB B) {v3 : Int32} {v5 : Int32} {k : kS} {H : Heap} {locs : List Loc} {ls : Array Slot} {out : (Int32 × kS)} (hH : kHE s H locs D ad cI cZ cO k mo []) (hl : lv_has ls 6 [(0, .ref (ad B)), (3, .int v3), (5, .int v5)]) (hf : F_X4_separate_80 B v3 v5 k = some out) : W p l e rm_X4_separate s mm args below meth c H locs 0 0 (kGi below args s D cI cZ cO ad out.1 out.2 mo 0 0) (F0 mm 80 ls []) := by
  have hx := V.1
  have hb := V.2.1
  refine lv_aload_n hx hb dX4_separate_80 rfl (lv_at hl 0 rfl) ?_
  refine kg_X4_12 hB V hH dX4_separate_81 ?_
  refine lv_iload hx hb dX4_separate_84 (lv_at hl 2 rfl) ?_
  refine lv_iload_n hx hb dX4_separate_86 rfl (lv_at hl 1 rfl) ?_
  obtain ⟨x80_1, hx80_1, hf⟩ := kbind hf
  refine kr_callv0 hH (kr_runV (as := [.int v5, .int v3]) (rest := []) (pl := (B + 1)) V hH kYX1_handTo kl_X4_100 (c_X1_handTo l hB _ _ hx80_1 _) rfl rfl ⟨Nat.le_of_ble_eq_true rfl, Nat.le_of_ble_eq_true rfl⟩ (kq_w hB (by decide)) (kE_w1 hB) rfl rfl hl.1 (Nat.le_of_ble_eq_true rfl) dX4_separate_87 ⟨Nat.le_refl _, Nat.le_refl _⟩ rfl) (fun H locs hH => ?_)
  refine lv_iload hx hb dX4_separate_90 (lv_at hl 2 rfl) ?_
  cases hf
  exact kr_iret V hH dX4_separate_92
set_option maxHeartbeats 4000000 in
set_option maxRecDepth 100000 in
theorem w_X4_separate_44 (V : kV p s mm args meth c cX4_separate RX4 6 (some .int) D cI cZ cO) {mo : kS} {B : Nat} (hB : kB B) {s0 : Int32} {v1 : Int32} {v3 : Int32} {k : kS} {H : Heap} {locs : List Loc} {ls : Array Slot} {out : (Int32 × kS)} (hH : kHE s H locs D ad cI cZ cO k mo []) (hl : lv_has ls 6 [(0, .ref (ad B)), (1, .int v1), (3, .int v3)]) (hf : F_X4_separate_44 B s0 v1 v3 k = some out) : W p l e rm_X4_separate s mm args below meth c H locs 0 0 (kGi below args s D cI cZ cO ad out.1 out.2 mo 0 0) (F0 mm 44 ls [.int s0]) := by
  have hx := V.1
  have hb := V.2.1
  refine lv_istore (lv' := [(4, .int s0), (0, .ref (ad B)), (1, .int v1), (3, .int v3)]) hx hb dX4_separate_44 hl (by decide) rfl (fun ls hl => ?_)
  refine lv_aload_n hx hb dX4_separate_46 rfl (lv_at hl 1 rfl) ?_
  refine kg_X4_21 hB V hH dX4_separate_47 ?_
  refine lv_iload_n hx hb dX4_separate_50 rfl (lv_at hl 3 rfl) ?_
  obtain ⟨x44_1, hx44_1, hf⟩ := kbind hf
  refine kr_calli0 hH (kr_runV (as := [.int v3]) (rest := []) (pl := (B + 8)) V hH kYX3_givenBy kl_X4_103 (c_X3_givenBy l hB _ hx44_1 _) rfl rfl ⟨Nat.le_of_ble_eq_true rfl, Nat.le_of_ble_eq_true rfl⟩ (kq_w hB (by decide)) (kE_w8 hB) rfl rfl hl.1 (Nat.le_of_ble_eq_true rfl) dX4_separate_51 ⟨Nat.le_refl _, Nat.le_refl _⟩ rfl) (fun H locs hH => ?_)
  refine lv_istore (lv' := [(5, .int x44_1), (4, .int s0), (0, .ref (ad B)), (1, .int v1), (3, .int v3)]) hx hb dX4_separate_54 hl (by decide) rfl (fun ls hl => ?_)
  refine lv_aload_n hx hb dX4_separate_56 rfl (lv_at hl 2 rfl) ?_
  refine kg_X4_21 hB V hH dX4_separate_57 ?_
  refine lv_iload_n hx hb dX4_separate_60 rfl (lv_at hl 3 rfl) ?_
  obtain ⟨x44_2, hx44_2, hf⟩ := kbind hf
  refine kr_callv0 hH (kr_runV (as := [.int v1]) (rest := []) (pl := (B + 8)) V hH kYX3_part kl_X4_106 (c_X3_part l hB _ hx44_2 _) rfl rfl ⟨Nat.le_of_ble_eq_true rfl, Nat.le_of_ble_eq_true rfl⟩ (kq_w hB (by decide)) (kE_w8 hB) rfl rfl hl.1 (Nat.le_of_ble_eq_true rfl) dX4_separate_61 ⟨Nat.le_refl _, Nat.le_refl _⟩ rfl) (fun H locs hH => ?_)
  refine lv_aload_n hx hb dX4_separate_64 rfl (lv_at hl 2 rfl) ?_
  refine kg_X4_12 hB V hH dX4_separate_65 ?_
  refine lv_iload hx hb dX4_separate_68 (lv_at hl 0 rfl) ?_
  obtain ⟨x44_3, hx44_3, hf⟩ := kbind hf
  refine kr_calli0 hH (kr_runV (as := [.int x44_1]) (rest := []) (pl := (B + 1)) V hH kYX1_rulerOf kl_X4_94 (c_X1_rulerOf l hB _ hx44_3 _) rfl rfl ⟨Nat.le_of_ble_eq_true rfl, Nat.le_of_ble_eq_true rfl⟩ (kq_w hB (by decide)) (kE_w1 hB) rfl rfl hl.1 (Nat.le_of_ble_eq_true rfl) dX4_separate_70 ⟨Nat.le_refl _, Nat.le_refl _⟩ rfl) (fun H locs hH => ?_)
  refine lv_iload hx hb dX4_separate_73 (lv_at hl 1 rfl) ?_
  refine lv_icmp_eq (tgt := 80) hx hb dX4_separate_75 (by decide) (fun hq => ?_) (fun hq => ?_)
  · have hf := kpos hq hf
    exact w_X4_separate_80 V hB hH (lv_sub hl [2, 4, 0] rfl) hf
  · have hf := kneg hq hf
    exact w_X4_separate_78 V hB hH (lv_sub hl [] rfl) hf
set_option maxHeartbeats 4000000 in
set_option maxRecDepth 100000 in
theorem w_X4_separate_39 (V : kV p s mm args meth c cX4_separate RX4 6 (some .int) D cI cZ cO) {mo : kS} {B : Nat} (hB : kB B) {v1 : Int32} {v2 : Int32} {v3 : Int32} {k : kS} {H : Heap} {locs : List Loc} {ls : Array Slot} {out : (Int32 × kS)} (hH : kHE s H locs D ad cI cZ cO k mo []) (hl : lv_has ls 6 [(0, .ref (ad B)), (1, .int v1), (2, .int v2), (3, .int v3)]) (hf : F_X4_separate_39 B v1 v2 v3 k = some out) : W p l e rm_X4_separate s mm args below meth c H locs 0 0 (kGi below args s D cI cZ cO ad out.1 out.2 mo 0 0) (F0 mm 39 ls []) := by
  have hx := V.1
  have hb := V.2.1
  refine lv_iload_n hx hb dX4_separate_39 rfl (lv_at hl 2 rfl) ?_
  refine lv_goto (tgt := 44) hx hb dX4_separate_40 (by decide) ?_
  exact w_X4_separate_44 V hB hH (lv_sub hl [0, 1, 3] rfl) hf
set_option maxHeartbeats 4000000 in
set_option maxRecDepth 100000 in
theorem w_X4_separate_43 (V : kV p s mm args meth c cX4_separate RX4 6 (some .int) D cI cZ cO) {mo : kS} {B : Nat} (hB : kB B) {v1 : Int32} {v3 : Int32} {k : kS} {H : Heap} {locs : List Loc} {ls : Array Slot} {out : (Int32 × kS)} (hH : kHE s H locs D ad cI cZ cO k mo []) (hl : lv_has ls 6 [(0, .ref (ad B)), (1, .int v1), (3, .int v3)]) (hf : F_X4_separate_43 B v1 v3 k = some out) : W p l e rm_X4_separate s mm args below meth c H locs 0 0 (kGi below args s D cI cZ cO ad out.1 out.2 mo 0 0) (F0 mm 43 ls []) := by
  have hx := V.1
  have hb := V.2.1
  refine lv_iload_n hx hb dX4_separate_43 rfl (lv_at hl 1 rfl) ?_
  exact w_X4_separate_44 V hB hH (lv_sub hl [0, 1, 2] rfl) hf
set_option maxHeartbeats 4000000 in
set_option maxRecDepth 100000 in
theorem w_X4_separate_33 (V : kV p s mm args meth c cX4_separate RX4 6 (some .int) D cI cZ cO) {mo : kS} {B : Nat} (hB : kB B) {s0 : Int32} {v1 : Int32} {v2 : Int32} {k : kS} {H : Heap} {locs : List Loc} {ls : Array Slot} {out : (Int32 × kS)} (hH : kHE s H locs D ad cI cZ cO k mo []) (hl : lv_has ls 6 [(0, .ref (ad B)), (1, .int v1), (2, .int v2)]) (hf : F_X4_separate_33 B s0 v1 v2 k = some out) : W p l e rm_X4_separate s mm args below meth c H locs 0 0 (kGi below args s D cI cZ cO ad out.1 out.2 mo 0 0) (F0 mm 33 ls [.int s0]) := by
  have hx := V.1
  have hb := V.2.1
  refine lv_istore_n (lv' := [(3, .int s0), (0, .ref (ad B)), (1, .int v1), (2, .int v2)]) hx hb dX4_separate_33 rfl hl (by decide) rfl (fun ls hl => ?_)
  refine lv_iload_n hx hb dX4_separate_34 rfl (lv_at hl 0 rfl) ?_
  refine lv_iload_n hx hb dX4_separate_35 rfl (lv_at hl 2 rfl) ?_
  refine lv_icmp_ne (tgt := 43) hx hb dX4_separate_36 (by decide) (fun hq => ?_) (fun hq => ?_)
  · have hf := kneg hq hf
    exact w_X4_separate_43 V hB hH (lv_sub hl [1, 2, 0] rfl) hf
  · have hf := kpos hq hf
    exact w_X4_separate_39 V hB hH (lv_sub hl [1, 2, 3, 0] rfl) hf
set_option maxHeartbeats 4000000 in
set_option maxRecDepth 100000 in
theorem w_X4_separate_28 (V : kV p s mm args meth c cX4_separate RX4 6 (some .int) D cI cZ cO) {mo : kS} {B : Nat} (hB : kB B) {v1 : Int32} {v2 : Int32} {k : kS} {H : Heap} {locs : List Loc} {ls : Array Slot} {out : (Int32 × kS)} (hH : kHE s H locs D ad cI cZ cO k mo []) (hl : lv_has ls 6 [(0, .ref (ad B)), (1, .int v1), (2, .int v2)]) (hf : F_X4_separate_28 B v1 v2 k = some out) : W p l e rm_X4_separate s mm args below meth c H locs 0 0 (kGi below args s D cI cZ cO ad out.1 out.2 mo 0 0) (F0 mm 28 ls []) := by
  have hx := V.1
  have hb := V.2.1
  refine lv_iload_n hx hb dX4_separate_28 rfl (lv_at hl 2 rfl) ?_
  refine lv_goto (tgt := 33) hx hb dX4_separate_29 (by decide) ?_
  exact w_X4_separate_33 V hB hH (lv_sub hl [0, 1, 2] rfl) hf
set_option maxHeartbeats 4000000 in
set_option maxRecDepth 100000 in
theorem w_X4_separate_32 (V : kV p s mm args meth c cX4_separate RX4 6 (some .int) D cI cZ cO) {mo : kS} {B : Nat} (hB : kB B) {v1 : Int32} {v2 : Int32} {k : kS} {H : Heap} {locs : List Loc} {ls : Array Slot} {out : (Int32 × kS)} (hH : kHE s H locs D ad cI cZ cO k mo []) (hl : lv_has ls 6 [(0, .ref (ad B)), (1, .int v1), (2, .int v2)]) (hf : F_X4_separate_32 B v1 v2 k = some out) : W p l e rm_X4_separate s mm args below meth c H locs 0 0 (kGi below args s D cI cZ cO ad out.1 out.2 mo 0 0) (F0 mm 32 ls []) := by
  have hx := V.1
  have hb := V.2.1
  refine lv_iload_n hx hb dX4_separate_32 rfl (lv_at hl 1 rfl) ?_
  exact w_X4_separate_33 V hB hH (lv_sub hl [0, 1, 2] rfl) hf
set_option maxHeartbeats 4000000 in
set_option maxRecDepth 100000 in
theorem w_X4_separate_16 (V : kV p s mm args meth c cX4_separate RX4 6 (some .int) D cI cZ cO) {mo : kS} {B : Nat} (hB : kB B) {v1 : Int32} {v2 : Int32} {k : kS} {H : Heap} {locs : List Loc} {ls : Array Slot} {out : (Int32 × kS)} (hH : kHE s H locs D ad cI cZ cO k mo []) (hl : lv_has ls 6 [(0, .ref (ad B)), (1, .int v1), (2, .int v2)]) (hf : F_X4_separate_16 B v1 v2 k = some out) : W p l e rm_X4_separate s mm args below meth c H locs 0 0 (kGi below args s D cI cZ cO ad out.1 out.2 mo 0 0) (F0 mm 16 ls []) := by
  have hx := V.1
  have hb := V.2.1
  refine lv_aload_n hx hb dX4_separate_16 rfl (lv_at hl 0 rfl) ?_
  refine kg_X4_21 hB V hH dX4_separate_17 ?_
  refine lv_iload_n hx hb dX4_separate_20 rfl (lv_at hl 1 rfl) ?_
  obtain ⟨x16_1, hx16_1, hf⟩ := kbind hf
  refine kr_calli0 hH (kr_runV (as := [.int v1]) (rest := []) (pl := (B + 8)) V hH kYX3_givenBy kl_X4_103 (c_X3_givenBy l hB _ hx16_1 _) rfl rfl ⟨Nat.le_of_ble_eq_true rfl, Nat.le_of_ble_eq_true rfl⟩ (kq_w hB (by decide)) (kE_w8 hB) rfl rfl hl.1 (Nat.le_of_ble_eq_true rfl) dX4_separate_21 ⟨Nat.le_refl _, Nat.le_refl _⟩ rfl) (fun H locs hH => ?_)
  refine lv_iconst (v := (-1)) hx hb dX4_separate_24 (by decide) ?_
  refine lv_icmp_ne (tgt := 32) hx hb dX4_separate_25 (by decide) (fun hq => ?_) (fun hq => ?_)
  · have hf := kneg hq hf
    exact w_X4_separate_32 V hB hH (lv_sub hl [0, 1, 2] rfl) hf
  · have hf := kpos hq hf
    exact w_X4_separate_28 V hB hH (lv_sub hl [0, 1, 2] rfl) hf
set_option maxHeartbeats 4000000 in
set_option maxRecDepth 100000 in
theorem w_X4_separate_0 (V : kV p s mm args meth c cX4_separate RX4 6 (some .int) D cI cZ cO) {mo : kS} {B : Nat} (hB : kB B) {v1 : Int32} {k : kS} {H : Heap} {locs : List Loc} {ls : Array Slot} {out : (Int32 × kS)} (hH : kHE s H locs D ad cI cZ cO k mo []) (hl : lv_has ls 6 [(0, .ref (ad B)), (1, .int v1)]) (hf : F_X4_separate_0 B v1 k = some out) : W p l e rm_X4_separate s mm args below meth c H locs 0 0 (kGi below args s D cI cZ cO ad out.1 out.2 mo 0 0) (F0 mm 0 ls []) := by
  have hx := V.1
  have hb := V.2.1
  refine lv_aload_n hx hb dX4_separate_0 rfl (lv_at hl 0 rfl) ?_
  refine kg_X4_21 hB V hH dX4_separate_1 ?_
  refine lv_iload_n hx hb dX4_separate_4 rfl (lv_at hl 1 rfl) ?_
  obtain ⟨x0_1, hx0_1, hf⟩ := kbind hf
  refine kr_calli0 hH (kr_runV (as := [.int v1]) (rest := []) (pl := (B + 8)) V hH kYX3_spouseOf kl_X4_76 (c_X3_spouseOf l hB _ hx0_1 _) rfl rfl ⟨Nat.le_of_ble_eq_true rfl, Nat.le_of_ble_eq_true rfl⟩ (kq_w hB (by decide)) (kE_w8 hB) rfl rfl hl.1 (Nat.le_of_ble_eq_true rfl) dX4_separate_5 ⟨Nat.le_refl _, Nat.le_refl _⟩ rfl) (fun H locs hH => ?_)
  refine lv_istore_n (lv' := [(2, .int x0_1), (0, .ref (ad B)), (1, .int v1)]) hx hb dX4_separate_8 rfl hl (by decide) rfl (fun ls hl => ?_)
  refine lv_iload_n hx hb dX4_separate_9 rfl (lv_at hl 0 rfl) ?_
  refine lv_iconst (v := (-1)) hx hb dX4_separate_10 (by decide) ?_
  refine lv_icmp_ne (tgt := 16) hx hb dX4_separate_11 (by decide) (fun hq => ?_) (fun hq => ?_)
  · have hf := kneg hq hf
    exact w_X4_separate_16 V hB hH (lv_sub hl [1, 2, 0] rfl) hf
  · have hf := kpos hq hf
    exact w_X4_separate_14 V hB hH (lv_sub hl [] rfl) hf
set_option maxHeartbeats 4000000 in
set_option maxRecDepth 100000 in
theorem c_X4_separate (l : Launch) {D : va_G} {cI cZ cO : ClassId} {ad : Nat → Nat} {k mo : kS} {B : Nat} (hB : kB B) (v1 : Int32) {out : (Int32 × kS)} (hf : F_X4_separate B v1 k = some out) (sz : Nat) : Met l yX4_separate (Cond.code yX4_separate cX4_separate 6 (some .int) :: kWA) rm_X4_separate (kP [.ref (ad B), .int v1] D cI cZ cO ad (kE ad cI cZ cO k mo) sz) (kQi out.1 D cI cZ cO ad (kE ad cI cZ cO out.2 mo) sz) 0 0 (fA ad sz) := by
  refine kr_met (as := [.ref (ad B), .int v1]) (bytes := cX4_separate) (maxL := 6) (rt := (some .int)) (Qc := fun sz => kQi out.1 D cI cZ cO ad (kE ad cI cZ cO out.2 mo) sz) (lv := [(0, .ref (ad B)), (1, .int v1)]) (by decide +kernel) (Nat.le_of_ble_eq_true rfl) rfl (fun p e s mm below meth c ls V hH hl => ?_) sz
  exact w_X4_separate_0 V hB hH (lv_sub hl [0, 1] rfl) hf
end
section
variable {p : Program} {l : Launch} {e : Env} {s : State} {mm : MethodId} {args : Array Value} {below : List Frame} {meth : Method} {c : Code} {D : va_G} {cI cZ cO : ClassId} {ad : Nat → Nat}
abbrev rm_X4_eldestOfKin : Room := { frames := 2, cells := 0, slots := 0, locals := 43 }
set_option maxHeartbeats 4000000 in
set_option maxRecDepth 100000 in
theorem w_X4_eldestOfKin_60 (V : kV p s mm args meth c cX4_eldestOfKin RX4 4 (some .int) D cI cZ cO) {k mo : kS} {B : Nat} (hB : kB B) {c4 : Int32 → Int32 → Int32 → Option (Int32)} (hk4 : ∀ {v1 : Int32} {v2 : Int32} {v3 : Int32} {H : Heap} {locs : List Loc} {ls : Array Slot} {out : Int32}, kHE s H locs D ad cI cZ cO k mo [] → lv_has ls 4 [(0, .ref (ad B)), (1, .int v1), (2, .int v2), (3, .int v3)] → c4 v1 v2 v3 = some out → W p l e rm_X4_eldestOfKin s mm args below meth c H locs 0 0 (kGi below args s D cI cZ cO ad out k mo 0 0) (F0 mm 4 ls [])) {v1 : Int32} {v2 : Int32} {v3 : Int32} {H : Heap} {locs : List Loc} {ls : Array Slot} {out : Int32} (hH : kHE s H locs D ad cI cZ cO k mo []) (hl : lv_has ls 4 [(0, .ref (ad B)), (1, .int v1), (2, .int v2), (3, .int v3)]) (hf : F_X4_eldestOfKin_60 B k c4 v1 v2 v3 = some out) : W p l e rm_X4_eldestOfKin s mm args below meth c H locs 0 0 (kGi below args s D cI cZ cO ad out k mo 0 0) (F0 mm 60 ls []) := by
  have hx := V.1
  have hb := V.2.1
  refine lv_iinc (v := (v3 + 1)) (lv' := [(3, .int (v3 + 1)), (0, .ref (ad B)), (1, .int v1), (2, .int v2)]) hx hb dX4_eldestOfKin_60 hl (k := 3) rfl rfl (by decide) rfl (fun ls hl => ?_)
  refine lv_goto (tgt := 4) hx hb dX4_eldestOfKin_63 (by decide) ?_
  exact hk4 hH (lv_sub hl [1, 2, 3, 0] rfl) hf
set_option maxHeartbeats 4000000 in
set_option maxRecDepth 100000 in
theorem w_X4_eldestOfKin_58 (V : kV p s mm args meth c cX4_eldestOfKin RX4 4 (some .int) D cI cZ cO) {k mo : kS} {B : Nat} (hB : kB B) {c4 : Int32 → Int32 → Int32 → Option (Int32)} (hk4 : ∀ {v1 : Int32} {v2 : Int32} {v3 : Int32} {H : Heap} {locs : List Loc} {ls : Array Slot} {out : Int32}, kHE s H locs D ad cI cZ cO k mo [] → lv_has ls 4 [(0, .ref (ad B)), (1, .int v1), (2, .int v2), (3, .int v3)] → c4 v1 v2 v3 = some out → W p l e rm_X4_eldestOfKin s mm args below meth c H locs 0 0 (kGi below args s D cI cZ cO ad out k mo 0 0) (F0 mm 4 ls [])) {v1 : Int32} {v3 : Int32} {H : Heap} {locs : List Loc} {ls : Array Slot} {out : Int32} (hH : kHE s H locs D ad cI cZ cO k mo []) (hl : lv_has ls 4 [(0, .ref (ad B)), (1, .int v1), (3, .int v3)]) (hf : F_X4_eldestOfKin_58 B k c4 v1 v3 = some out) : W p l e rm_X4_eldestOfKin s mm args below meth c H locs 0 0 (kGi below args s D cI cZ cO ad out k mo 0 0) (F0 mm 58 ls []) := by
  have hx := V.1
  have hb := V.2.1
  refine lv_iload_n hx hb dX4_eldestOfKin_58 rfl (lv_at hl 2 rfl) ?_
  refine lv_istore_n (lv' := [(2, .int v3), (0, .ref (ad B)), (1, .int v1), (3, .int v3)]) hx hb dX4_eldestOfKin_59 rfl hl (by decide) rfl (fun ls hl => ?_)
  exact w_X4_eldestOfKin_60 V hB hk4 hH (lv_sub hl [1, 2, 0, 3] rfl) hf
set_option maxHeartbeats 4000000 in
set_option maxRecDepth 100000 in
theorem w_X4_eldestOfKin_46 (V : kV p s mm args meth c cX4_eldestOfKin RX4 4 (some .int) D cI cZ cO) {k mo : kS} {B : Nat} (hB : kB B) {c4 : Int32 → Int32 → Int32 → Option (Int32)} (hk4 : ∀ {v1 : Int32} {v2 : Int32} {v3 : Int32} {H : Heap} {locs : List Loc} {ls : Array Slot} {out : Int32}, kHE s H locs D ad cI cZ cO k mo [] → lv_has ls 4 [(0, .ref (ad B)), (1, .int v1), (2, .int v2), (3, .int v3)] → c4 v1 v2 v3 = some out → W p l e rm_X4_eldestOfKin s mm args below meth c H locs 0 0 (kGi below args s D cI cZ cO ad out k mo 0 0) (F0 mm 4 ls [])) {v1 : Int32} {v2 : Int32} {v3 : Int32} {H : Heap} {locs : List Loc} {ls : Array Slot} {out : Int32} (hH : kHE s H locs D ad cI cZ cO k mo []) (hl : lv_has ls 4 [(0, .ref (ad B)), (1, .int v1), (2, .int v2), (3, .int v3)]) (hf : F_X4_eldestOfKin_46 B k c4 v1 v2 v3 = some out) : W p l e rm_X4_eldestOfKin s mm args below meth c H locs 0 0 (kGi below args s D cI cZ cO ad out k mo 0 0) (F0 mm 46 ls []) := by
  have hx := V.1
  have hb := V.2.1
  refine lv_aload_n hx hb dX4_eldestOfKin_46 rfl (lv_at hl 0 rfl) ?_
  refine kg_X4_40 hB V hH dX4_eldestOfKin_47 ?_
  refine lv_iload_n hx hb dX4_eldestOfKin_50 rfl (lv_at hl 3 rfl) ?_
  refine lv_iload_n hx hb dX4_eldestOfKin_51 rfl (lv_at hl 2 rfl) ?_
  obtain ⟨x46_1, hx46_1, hf⟩ := kbind hf
  refine kr_calli0 hH (kr_runV (as := [.int v3, .int v2]) (rest := []) (pl := 1) V hH kYX0_isBefore kl_X4_147 (c_X0_isBefore l _ _ hx46_1 _) rfl rfl ⟨Nat.le_of_ble_eq_true rfl, Nat.le_of_ble_eq_true rfl⟩ (by decide) kE_1 rfl rfl hl.1 (Nat.le_of_ble_eq_true rfl) dX4_eldestOfKin_52 ⟨Nat.le_refl _, Nat.le_refl _⟩ rfl) (fun H locs hH => ?_)
  refine lv_if_eq (tgt := 60) hx hb dX4_eldestOfKin_55 (by decide) (fun hq => ?_) (fun hq => ?_)
  · have hf := kpos hq hf
    exact w_X4_eldestOfKin_60 V hB hk4 hH (lv_sub hl [0, 1, 2, 3] rfl) hf
  · have hf := kneg hq hf
    exact w_X4_eldestOfKin_58 V hB hk4 hH (lv_sub hl [0, 1, 3] rfl) hf
set_option maxHeartbeats 4000000 in
set_option maxRecDepth 100000 in
theorem w_X4_eldestOfKin_41 (V : kV p s mm args meth c cX4_eldestOfKin RX4 4 (some .int) D cI cZ cO) {k mo : kS} {B : Nat} (hB : kB B) {c4 : Int32 → Int32 → Int32 → Option (Int32)} (hk4 : ∀ {v1 : Int32} {v2 : Int32} {v3 : Int32} {H : Heap} {locs : List Loc} {ls : Array Slot} {out : Int32}, kHE s H locs D ad cI cZ cO k mo [] → lv_has ls 4 [(0, .ref (ad B)), (1, .int v1), (2, .int v2), (3, .int v3)] → c4 v1 v2 v3 = some out → W p l e rm_X4_eldestOfKin s mm args below meth c H locs 0 0 (kGi below args s D cI cZ cO ad out k mo 0 0) (F0 mm 4 ls [])) {v1 : Int32} {v2 : Int32} {v3 : Int32} {H : Heap} {locs : List Loc} {ls : Array Slot} {out : Int32} (hH : kHE s H locs D ad cI cZ cO k mo []) (hl : lv_has ls 4 [(0, .ref (ad B)), (1, .int v1), (2, .int v2), (3, .int v3)]) (hf : F_X4_eldestOfKin_41 B k c4 v1 v2 v3 = some out) : W p l e rm_X4_eldestOfKin s mm args below meth c H locs 0 0 (kGi below args s D cI cZ cO ad out k mo 0 0) (F0 mm 41 ls []) := by
  have hx := V.1
  have hb := V.2.1
  refine lv_iload_n hx hb dX4_eldestOfKin_41 rfl (lv_at hl 2 rfl) ?_
  refine lv_iconst (v := (-1)) hx hb dX4_eldestOfKin_42 (by decide) ?_
  refine lv_icmp_eq (tgt := 58) hx hb dX4_eldestOfKin_43 (by decide) (fun hq => ?_) (fun hq => ?_)
  · have hf := kpos hq hf
    exact w_X4_eldestOfKin_58 V hB hk4 hH (lv_sub hl [0, 1, 3] rfl) hf
  · have hf := kneg hq hf
    exact w_X4_eldestOfKin_46 V hB hk4 hH (lv_sub hl [0, 1, 2, 3] rfl) hf
set_option maxHeartbeats 4000000 in
set_option maxRecDepth 100000 in
theorem w_X4_eldestOfKin_28 (V : kV p s mm args meth c cX4_eldestOfKin RX4 4 (some .int) D cI cZ cO) {k mo : kS} {B : Nat} (hB : kB B) {c4 : Int32 → Int32 → Int32 → Option (Int32)} (hk4 : ∀ {v1 : Int32} {v2 : Int32} {v3 : Int32} {H : Heap} {locs : List Loc} {ls : Array Slot} {out : Int32}, kHE s H locs D ad cI cZ cO k mo [] → lv_has ls 4 [(0, .ref (ad B)), (1, .int v1), (2, .int v2), (3, .int v3)] → c4 v1 v2 v3 = some out → W p l e rm_X4_eldestOfKin s mm args below meth c H locs 0 0 (kGi below args s D cI cZ cO ad out k mo 0 0) (F0 mm 4 ls [])) {v1 : Int32} {v2 : Int32} {v3 : Int32} {H : Heap} {locs : List Loc} {ls : Array Slot} {out : Int32} (hH : kHE s H locs D ad cI cZ cO k mo []) (hl : lv_has ls 4 [(0, .ref (ad B)), (1, .int v1), (2, .int v2), (3, .int v3)]) (hf : F_X4_eldestOfKin_28 B k c4 v1 v2 v3 = some out) : W p l e rm_X4_eldestOfKin s mm args below meth c H locs 0 0 (kGi below args s D cI cZ cO ad out k mo 0 0) (F0 mm 28 ls []) := by
  have hx := V.1
  have hb := V.2.1
  refine lv_aload_n hx hb dX4_eldestOfKin_28 rfl (lv_at hl 0 rfl) ?_
  refine kg_X4_40 hB V hH dX4_eldestOfKin_29 ?_
  refine lv_iload_n hx hb dX4_eldestOfKin_32 rfl (lv_at hl 3 rfl) ?_
  refine lv_iload_n hx hb dX4_eldestOfKin_33 rfl (lv_at hl 1 rfl) ?_
  obtain ⟨x28_1, hx28_1, hf⟩ := kbind hf
  refine kr_calli0 hH (kr_runV (as := [.int v3, .int v1]) (rest := []) (pl := 1) V hH kYX0_stepsBetween kl_X4_86 (c_X0_stepsBetween l _ _ hx28_1 _) rfl rfl ⟨Nat.le_of_ble_eq_true rfl, Nat.le_of_ble_eq_true rfl⟩ (by decide) kE_1 rfl rfl hl.1 (Nat.le_of_ble_eq_true rfl) dX4_eldestOfKin_34 ⟨Nat.le_refl _, Nat.le_refl _⟩ rfl) (fun H locs hH => ?_)
  refine lv_iconst (v := (-1)) hx hb dX4_eldestOfKin_37 (by decide) ?_
  refine lv_icmp_eq (tgt := 60) hx hb dX4_eldestOfKin_38 (by decide) (fun hq => ?_) (fun hq => ?_)
  · have hf := kpos hq hf
    exact w_X4_eldestOfKin_60 V hB hk4 hH (lv_sub hl [0, 1, 2, 3] rfl) hf
  · have hf := kneg hq hf
    exact w_X4_eldestOfKin_41 V hB hk4 hH (lv_sub hl [0, 1, 2, 3] rfl) hf
set_option maxHeartbeats 4000000 in
set_option maxRecDepth 100000 in
theorem w_X4_eldestOfKin_20 (V : kV p s mm args meth c cX4_eldestOfKin RX4 4 (some .int) D cI cZ cO) {k mo : kS} {B : Nat} (hB : kB B) {c4 : Int32 → Int32 → Int32 → Option (Int32)} (hk4 : ∀ {v1 : Int32} {v2 : Int32} {v3 : Int32} {H : Heap} {locs : List Loc} {ls : Array Slot} {out : Int32}, kHE s H locs D ad cI cZ cO k mo [] → lv_has ls 4 [(0, .ref (ad B)), (1, .int v1), (2, .int v2), (3, .int v3)] → c4 v1 v2 v3 = some out → W p l e rm_X4_eldestOfKin s mm args below meth c H locs 0 0 (kGi below args s D cI cZ cO ad out k mo 0 0) (F0 mm 4 ls [])) {v1 : Int32} {v2 : Int32} {v3 : Int32} {H : Heap} {locs : List Loc} {ls : Array Slot} {out : Int32} (hH : kHE s H locs D ad cI cZ cO k mo []) (hl : lv_has ls 4 [(0, .ref (ad B)), (1, .int v1), (2, .int v2), (3, .int v3)]) (hf : F_X4_eldestOfKin_20 B k c4 v1 v2 v3 = some out) : W p l e rm_X4_eldestOfKin s mm args below meth c H locs 0 0 (kGi below args s D cI cZ cO ad out k mo 0 0) (F0 mm 20 ls []) := by
  have hx := V.1
  have hb := V.2.1
  refine lv_aload_n hx hb dX4_eldestOfKin_20 rfl (lv_at hl 0 rfl) ?_
  refine lv_iload_n hx hb dX4_eldestOfKin_21 rfl (lv_at hl 3 rfl) ?_
  obtain ⟨x20_1, hx20_1, hf⟩ := kbind hf
  refine kr_calli0 hH (kr_runV (as := [.int v3]) (rest := []) (pl := B) V hH kYX4_lives kl_X4_69 (c_X4_lives l hB _ hx20_1 _) rfl rfl ⟨Nat.le_of_ble_eq_true rfl, Nat.le_of_ble_eq_true rfl⟩ (kq_B hB) (kE_w0 hB) rfl rfl hl.1 (Nat.le_of_ble_eq_true rfl) dX4_eldestOfKin_22 ⟨Nat.le_refl _, Nat.le_refl _⟩ rfl) (fun H locs hH => ?_)
  refine lv_if_eq (tgt := 60) hx hb dX4_eldestOfKin_25 (by decide) (fun hq => ?_) (fun hq => ?_)
  · have hf := kpos hq hf
    exact w_X4_eldestOfKin_60 V hB hk4 hH (lv_sub hl [0, 1, 2, 3] rfl) hf
  · have hf := kneg hq hf
    exact w_X4_eldestOfKin_28 V hB hk4 hH (lv_sub hl [0, 1, 2, 3] rfl) hf
set_option maxHeartbeats 4000000 in
set_option maxRecDepth 100000 in
theorem w_X4_eldestOfKin_15 (V : kV p s mm args meth c cX4_eldestOfKin RX4 4 (some .int) D cI cZ cO) {k mo : kS} {B : Nat} (hB : kB B) {c4 : Int32 → Int32 → Int32 → Option (Int32)} (hk4 : ∀ {v1 : Int32} {v2 : Int32} {v3 : Int32} {H : Heap} {locs : List Loc} {ls : Array Slot} {out : Int32}, kHE s H locs D ad cI cZ cO k mo [] → lv_has ls 4 [(0, .ref (ad B)), (1, .int v1), (2, .int v2), (3, .int v3)] → c4 v1 v2 v3 = some out → W p l e rm_X4_eldestOfKin s mm args below meth c H locs 0 0 (kGi below args s D cI cZ cO ad out k mo 0 0) (F0 mm 4 ls [])) {v1 : Int32} {v2 : Int32} {v3 : Int32} {H : Heap} {locs : List Loc} {ls : Array Slot} {out : Int32} (hH : kHE s H locs D ad cI cZ cO k mo []) (hl : lv_has ls 4 [(0, .ref (ad B)), (1, .int v1), (2, .int v2), (3, .int v3)]) (hf : F_X4_eldestOfKin_15 B k c4 v1 v2 v3 = some out) : W p l e rm_X4_eldestOfKin s mm args below meth c H locs 0 0 (kGi below args s D cI cZ cO ad out k mo 0 0) (F0 mm 15 ls []) := by
  have hx := V.1
  have hb := V.2.1
  refine lv_iload_n hx hb dX4_eldestOfKin_15 rfl (lv_at hl 3 rfl) ?_
  refine lv_iload_n hx hb dX4_eldestOfKin_16 rfl (lv_at hl 1 rfl) ?_
  refine lv_icmp_eq (tgt := 60) hx hb dX4_eldestOfKin_17 (by decide) (fun hq => ?_) (fun hq => ?_)
  · have hf := kpos hq hf
    exact w_X4_eldestOfKin_60 V hB hk4 hH (lv_sub hl [0, 1, 2, 3] rfl) hf
  · have hf := kneg hq hf
    exact w_X4_eldestOfKin_20 V hB hk4 hH (lv_sub hl [0, 1, 2, 3] rfl) hf
set_option maxHeartbeats 4000000 in
set_option maxRecDepth 100000 in
theorem w_X4_eldestOfKin_66 (V : kV p s mm args meth c cX4_eldestOfKin RX4 4 (some .int) D cI cZ cO) {k mo : kS} {B : Nat} (hB : kB B) {v2 : Int32} {H : Heap} {locs : List Loc} {ls : Array Slot} {out : Int32} (hH : kHE s H locs D ad cI cZ cO k mo []) (hl : lv_has ls 4 [(2, .int v2)]) (hf : F_X4_eldestOfKin_66 B k v2 = some out) : W p l e rm_X4_eldestOfKin s mm args below meth c H locs 0 0 (kGi below args s D cI cZ cO ad out k mo 0 0) (F0 mm 66 ls []) := by
  have hx := V.1
  have hb := V.2.1
  refine lv_iload_n hx hb dX4_eldestOfKin_66 rfl (lv_at hl 0 rfl) ?_
  cases hf
  exact kr_iret V hH dX4_eldestOfKin_67
set_option maxHeartbeats 4000000 in
set_option maxRecDepth 100000 in
theorem w_X4_eldestOfKin_4 (V : kV p s mm args meth c cX4_eldestOfKin RX4 4 (some .int) D cI cZ cO) {k mo : kS} {B : Nat} (hB : kB B) : ∀ (n : Nat) {v1 : Int32} {v2 : Int32} {v3 : Int32} {H : Heap} {locs : List Loc} {ls : Array Slot} {out : Int32}, kHE s H locs D ad cI cZ cO k mo [] → lv_has ls 4 [(0, .ref (ad B)), (1, .int v1), (2, .int v2), (3, .int v3)] → F_X4_eldestOfKin_4 B k n v1 v2 v3 = some out → W p l e rm_X4_eldestOfKin s mm args below meth c H locs 0 0 (kGi below args s D cI cZ cO ad out k mo 0 0) (F0 mm 4 ls []) := by
  have hx := V.1
  have hb := V.2.1
  intro n
  induction n with
  | zero => intro _ _ _ _ _ _ _ hH hl hf; cases hf
  | succ n hk4 =>
    intro v1 v2 v3 H locs ls out hH hl hf
    refine lv_iload_n hx hb dX4_eldestOfKin_4 rfl (lv_at hl 3 rfl) ?_
    refine lv_aload_n hx hb dX4_eldestOfKin_5 rfl (lv_at hl 0 rfl) ?_
    refine kg_X4_40 hB V hH dX4_eldestOfKin_6 ?_
    refine kg_X4_122 V hH dX4_eldestOfKin_9 ?_
    refine lv_icmp_ge (tgt := 66) hx hb dX4_eldestOfKin_12 (by decide) (fun hq => ?_) (fun hq => ?_)
    · have hf := kpos hq hf
      exact w_X4_eldestOfKin_66 V hB hH (lv_sub hl [2] rfl) hf
    · have hf := kneg hq hf
      exact w_X4_eldestOfKin_15 V hB hk4 hH (lv_sub hl [0, 1, 2, 3] rfl) hf
set_option maxHeartbeats 4000000 in
set_option maxRecDepth 100000 in
theorem w_X4_eldestOfKin_0 (V : kV p s mm args meth c cX4_eldestOfKin RX4 4 (some .int) D cI cZ cO) {k mo : kS} {B : Nat} (hB : kB B) {v1 : Int32} {H : Heap} {locs : List Loc} {ls : Array Slot} {out : Int32} (hH : kHE s H locs D ad cI cZ cO k mo []) (hl : lv_has ls 4 [(0, .ref (ad B)), (1, .int v1)]) (hf : F_X4_eldestOfKin_0 B k v1 = some out) : W p l e rm_X4_eldestOfKin s mm args below meth c H locs 0 0 (kGi below args s D cI cZ cO ad out k mo 0 0) (F0 mm 0 ls []) := by
  have hx := V.1
  have hb := V.2.1
  refine lv_iconst (v := (-1)) hx hb dX4_eldestOfKin_0 (by decide) ?_
  refine lv_istore_n (lv' := [(2, .int (-1)), (0, .ref (ad B)), (1, .int v1)]) hx hb dX4_eldestOfKin_1 rfl hl (by decide) rfl (fun ls hl => ?_)
  refine lv_iconst (v := 0) hx hb dX4_eldestOfKin_2 (by decide) ?_
  refine lv_istore_n (lv' := [(3, .int 0), (2, .int (-1)), (0, .ref (ad B)), (1, .int v1)]) hx hb dX4_eldestOfKin_3 rfl hl (by decide) rfl (fun ls hl => ?_)
  exact w_X4_eldestOfKin_4 V hB kN hH (lv_sub hl [2, 3, 1, 0] rfl) hf
set_option maxHeartbeats 4000000 in
set_option maxRecDepth 100000 in
theorem c_X4_eldestOfKin (l : Launch) {D : va_G} {cI cZ cO : ClassId} {ad : Nat → Nat} {k mo : kS} {B : Nat} (hB : kB B) (v1 : Int32) {out : Int32} (hf : F_X4_eldestOfKin B k v1 = some out) (sz : Nat) : Met l yX4_eldestOfKin (Cond.code yX4_eldestOfKin cX4_eldestOfKin 4 (some .int) :: kWA) rm_X4_eldestOfKin (kP [.ref (ad B), .int v1] D cI cZ cO ad (kE ad cI cZ cO k mo) sz) (kQi out D cI cZ cO ad (kE ad cI cZ cO k mo) sz) 0 0 (fA ad sz) := by
  refine kr_met (as := [.ref (ad B), .int v1]) (bytes := cX4_eldestOfKin) (maxL := 4) (rt := (some .int)) (Qc := fun sz => kQi out D cI cZ cO ad (kE ad cI cZ cO k mo) sz) (lv := [(0, .ref (ad B)), (1, .int v1)]) (by decide +kernel) (Nat.le_of_ble_eq_true rfl) rfl (fun p e s mm below meth c ls V hH hl => ?_) sz
  exact w_X4_eldestOfKin_0 V hB hH (lv_sub hl [0, 1] rfl) hf
end
section
variable {p : Program} {l : Launch} {e : Env} {s : State} {mm : MethodId} {args : Array Value} {below : List Frame} {meth : Method} {c : Code} {D : va_G} {cI cZ cO : ClassId} {ad : Nat → Nat}
abbrev rm_X4_heirOf : Room := { frames := 3, cells := 0, slots := 0, locals := 71 }
set_option maxHeartbeats 4000000 in
set_option maxRecDepth 100000 in
theorem w_X4_heirOf_11 (V : kV p s mm args meth c cX4_heirOf RX4 5 (some .int) D cI cZ cO) {mo : kS} {B : Nat} (hB : kB B) {k : kS} {H : Heap} {locs : List Loc} {ls : Array Slot} {out : (Int32 × kS)} (hH : kHE s H locs D ad cI cZ cO k mo []) (hl : lv_has ls 5 []) (hf : F_X4_heirOf_11 B k = some out) : W p l e rm_X4_heirOf s mm args below meth c H locs 0 0 (kGi below args s D cI cZ cO ad out.1 out.2 mo 0 0) (F0 mm 11 ls []) := by
  have hx := V.1
  have hb := V.2.1
  refine lv_iconst (v := (-1)) hx hb dX4_heirOf_11 (by decide) ?_
  cases hf
  exact kr_iret V hH dX4_heirOf_12
set_option maxHeartbeats 4000000 in
set_option maxRecDepth 100000 in
theorem w_X4_heirOf_18 (V : kV p s mm args meth c cX4_heirOf RX4 5 (some .int) D cI cZ cO) {mo : kS} {B : Nat} (hB : kB B) {v1 : Int32} {k : kS} {H : Heap} {locs : List Loc} {ls : Array Slot} {out : (Int32 × kS)} (hH : kHE s H locs D ad cI cZ cO k mo []) (hl : lv_has ls 5 [(0, .ref (ad B)), (1, .int v1)]) (hf : F_X4_heirOf_18 B v1 k = some out) : W p l e rm_X4_heirOf s mm args below meth c H locs 0 0 (kGi below args s D cI cZ cO ad out.1 out.2 mo 0 0) (F0 mm 18 ls []) := by
  have hx := V.1
  have hb := V.2.1
  refine lv_aload_n hx hb dX4_heirOf_18 rfl (lv_at hl 0 rfl) ?_
  refine lv_iload_n hx hb dX4_heirOf_19 rfl (lv_at hl 1 rfl) ?_
  obtain ⟨x18_1, hx18_1, hf⟩ := kbind hf
  refine kr_calli0 hH (kr_runV (as := [.int v1]) (rest := []) (pl := B) V hH kYX4_eldestOfKin kl_X4_128 (c_X4_eldestOfKin l hB _ hx18_1 _) rfl rfl ⟨Nat.le_of_ble_eq_true rfl, Nat.le_of_ble_eq_true rfl⟩ (kq_B hB) (kE_w0 hB) rfl rfl hl.1 (Nat.le_of_ble_eq_true rfl) dX4_heirOf_20 ⟨Nat.le_refl _, Nat.le_refl _⟩ rfl) (fun H locs hH => ?_)
  cases hf
  exact kr_iret V hH dX4_heirOf_23
set_option maxHeartbeats 4000000 in
set_option maxRecDepth 100000 in
theorem w_X4_heirOf_126 (V : kV p s mm args meth c cX4_heirOf RX4 5 (some .int) D cI cZ cO) {mo : kS} {B : Nat} (hB : kB B) {c41 : Int32 → Int32 → Int32 → kS → Option ((Int32 × kS))} (hk41 : ∀ {v1 : Int32} {v2 : Int32} {v3 : Int32} {k : kS} {H : Heap} {locs : List Loc} {ls : Array Slot} {out : (Int32 × kS)}, kHE s H locs D ad cI cZ cO k mo [] → lv_has ls 5 [(0, .ref (ad B)), (1, .int v1), (2, .int v2), (3, .int v3)] → c41 v1 v2 v3 k = some out → W p l e rm_X4_heirOf s mm args below meth c H locs 0 0 (kGi below args s D cI cZ cO ad out.1 out.2 mo 0 0) (F0 mm 41 ls [])) {v1 : Int32} {v2 : Int32} {v3 : Int32} {k : kS} {H : Heap} {locs : List Loc} {ls : Array Slot} {out : (Int32 × kS)} (hH : kHE s H locs D ad cI cZ cO k mo []) (hl : lv_has ls 5 [(0, .ref (ad B)), (1, .int v1), (2, .int v2), (3, .int v3)]) (hf : F_X4_heirOf_126 B c41 v1 v2 v3 k = some out) : W p l e rm_X4_heirOf s mm args below meth c H locs 0 0 (kGi below args s D cI cZ cO ad out.1 out.2 mo 0 0) (F0 mm 126 ls []) := by
  have hx := V.1
  have hb := V.2.1
  refine lv_iinc (v := (v3 + (-1))) (lv' := [(3, .int (v3 + (-1))), (0, .ref (ad B)), (1, .int v1), (2, .int v2)]) hx hb dX4_heirOf_126 hl (k := 3) rfl rfl (by decide) rfl (fun ls hl => ?_)
  refine lv_goto (tgt := 41) hx hb dX4_heirOf_129 (by decide) ?_
  exact hk41 hH (lv_sub hl [1, 2, 3, 0] rfl) hf
set_option maxHeartbeats 4000000 in
set_option maxRecDepth 100000 in
theorem w_X4_heirOf_78 (V : kV p s mm args meth c cX4_heirOf RX4 5 (some .int) D cI cZ cO) {mo : kS} {B : Nat} (hB : kB B) {c41 : Int32 → Int32 → Int32 → kS → Option ((Int32 × kS))} (hk41 : ∀ {v1 : Int32} {v2 : Int32} {v3 : Int32} {k : kS} {H : Heap} {locs : List Loc} {ls : Array Slot} {out : (Int32 × kS)}, kHE s H locs D ad cI cZ cO k mo [] → lv_has ls 5 [(0, .ref (ad B)), (1, .int v1), (2, .int v2), (3, .int v3)] → c41 v1 v2 v3 k = some out → W p l e rm_X4_heirOf s mm args below meth c H locs 0 0 (kGi below args s D cI cZ cO ad out.1 out.2 mo 0 0) (F0 mm 41 ls [])) {v1 : Int32} {v2 : Int32} {v3 : Int32} {v4 : Int32} {k : kS} {H : Heap} {locs : List Loc} {ls : Array Slot} {out : (Int32 × kS)} (hH : kHE s H locs D ad cI cZ cO k mo []) (hl : lv_has ls 5 [(0, .ref (ad B)), (1, .int v1), (2, .int v2), (3, .int v3), (4, .int v4)]) (hf : F_X4_heirOf_78 B c41 v1 v2 v3 v4 k = some out) : W p l e rm_X4_heirOf s mm args below meth c H locs 0 0 (kGi below args s D cI cZ cO ad out.1 out.2 mo 0 0) (F0 mm 78 ls []) := by
  have hx := V.1
  have hb := V.2.1
  refine lv_aload_n hx hb dX4_heirOf_78 rfl (lv_at hl 0 rfl) ?_
  refine kg_X4_28 hB V hH dX4_heirOf_79 ?_
  refine lv_aload_n hx hb dX4_heirOf_82 rfl (lv_at hl 0 rfl) ?_
  refine kg_X4_40 hB V hH dX4_heirOf_83 ?_
  refine lv_iload_n hx hb dX4_heirOf_86 rfl (lv_at hl 2 rfl) ?_
  refine lv_aload_n hx hb dX4_heirOf_87 rfl (lv_at hl 0 rfl) ?_
  refine kg_X4_40 hB V hH dX4_heirOf_88 ?_
  refine kg_X4_137 V hH dX4_heirOf_91 ?_
  refine lv_iload_n hx hb dX4_heirOf_94 rfl (lv_at hl 3 rfl) ?_
  obtain ⟨h78_1, hf⟩ := kif hf
  refine kr_iald V hH (q := 4) (by decide) kE_4 h78_1 dX4_heirOf_95 ?_
  refine lv_iload_n hx hb dX4_heirOf_96 rfl (lv_at hl 3 rfl) ?_
  refine lv_iload hx hb dX4_heirOf_97 (lv_at hl 4 rfl) ?_
  obtain ⟨x78_2, hx78_2, hf⟩ := kbind hf
  refine kr_callv0 hH (kr_runV (as := [.ref (ad 1), .int v2, .int (k 4 v3.toNatClampNeg), .int v3, .int v4]) (rest := []) (pl := (B + 11)) V hH kYX2_tell kl_X4_140 (c_X2_tell l hB _ _ _ _ hx78_2 _) rfl rfl ⟨Nat.le_of_ble_eq_true rfl, Nat.le_of_ble_eq_true rfl⟩ (kq_w hB (by decide)) (kE_w11 hB) rfl rfl hl.1 (Nat.le_of_ble_eq_true rfl) dX4_heirOf_99 ⟨Nat.le_refl _, Nat.le_refl _⟩ rfl) (fun H locs hH => ?_)
  refine lv_aload_n hx hb dX4_heirOf_102 rfl (lv_at hl 0 rfl) ?_
  refine kg_X4_28 hB V hH dX4_heirOf_103 ?_
  refine lv_aload_n hx hb dX4_heirOf_106 rfl (lv_at hl 0 rfl) ?_
  refine kg_X4_40 hB V hH dX4_heirOf_107 ?_
  refine lv_iload_n hx hb dX4_heirOf_110 rfl (lv_at hl 2 rfl) ?_
  refine lv_aload_n hx hb dX4_heirOf_111 rfl (lv_at hl 0 rfl) ?_
  refine kg_X4_40 hB V hH dX4_heirOf_112 ?_
  refine kg_X4_144 V hH dX4_heirOf_115 ?_
  refine lv_iload_n hx hb dX4_heirOf_118 rfl (lv_at hl 3 rfl) ?_
  obtain ⟨h78_3, hf⟩ := kif hf
  refine kr_iald V hH (q := 5) (by decide) kE_5 h78_3 dX4_heirOf_119 ?_
  refine lv_iload_n hx hb dX4_heirOf_120 rfl (lv_at hl 3 rfl) ?_
  refine lv_iload hx hb dX4_heirOf_121 (lv_at hl 4 rfl) ?_
  obtain ⟨x78_4, hx78_4, hf⟩ := kbind hf
  refine kr_callv0 hH (kr_runV (as := [.ref (ad 1), .int v2, .int (x78_2 5 v3.toNatClampNeg), .int v3, .int v4]) (rest := []) (pl := (B + 11)) V hH kYX2_tell kl_X4_140 (c_X2_tell l hB _ _ _ _ hx78_4 _) rfl rfl ⟨Nat.le_of_ble_eq_true rfl, Nat.le_of_ble_eq_true rfl⟩ (kq_w hB (by decide)) (kE_w11 hB) rfl rfl hl.1 (Nat.le_of_ble_eq_true rfl) dX4_heirOf_123 ⟨Nat.le_refl _, Nat.le_refl _⟩ rfl) (fun H locs hH => ?_)
  exact w_X4_heirOf_126 V hB hk41 hH (lv_sub hl [0, 1, 2, 3] rfl) hf
set_option maxHeartbeats 4000000 in
set_option maxRecDepth 100000 in
theorem w_X4_heirOf_70 (V : kV p s mm args meth c cX4_heirOf RX4 5 (some .int) D cI cZ cO) {mo : kS} {B : Nat} (hB : kB B) {c41 : Int32 → Int32 → Int32 → kS → Option ((Int32 × kS))} (hk41 : ∀ {v1 : Int32} {v2 : Int32} {v3 : Int32} {k : kS} {H : Heap} {locs : List Loc} {ls : Array Slot} {out : (Int32 × kS)}, kHE s H locs D ad cI cZ cO k mo [] → lv_has ls 5 [(0, .ref (ad B)), (1, .int v1), (2, .int v2), (3, .int v3)] → c41 v1 v2 v3 k = some out → W p l e rm_X4_heirOf s mm args below meth c H locs 0 0 (kGi below args s D cI cZ cO ad out.1 out.2 mo 0 0) (F0 mm 41 ls [])) {s0 : Int32} {v1 : Int32} {v2 : Int32} {v3 : Int32} {k : kS} {H : Heap} {locs : List Loc} {ls : Array Slot} {out : (Int32 × kS)} (hH : kHE s H locs D ad cI cZ cO k mo []) (hl : lv_has ls 5 [(0, .ref (ad B)), (1, .int v1), (2, .int v2), (3, .int v3)]) (hf : F_X4_heirOf_70 B c41 s0 v1 v2 v3 k = some out) : W p l e rm_X4_heirOf s mm args below meth c H locs 0 0 (kGi below args s D cI cZ cO ad out.1 out.2 mo 0 0) (F0 mm 70 ls [.int s0]) := by
  have hx := V.1
  have hb := V.2.1
  refine lv_istore (lv' := [(4, .int s0), (0, .ref (ad B)), (1, .int v1), (2, .int v2), (3, .int v3)]) hx hb dX4_heirOf_70 hl (by decide) rfl (fun ls hl => ?_)
  refine lv_iload hx hb dX4_heirOf_72 (lv_at hl 0 rfl) ?_
  refine lv_iconst (v := (-1)) hx hb dX4_heirOf_74 (by decide) ?_
  refine lv_icmp_eq (tgt := 126) hx hb dX4_heirOf_75 (by decide) (fun hq => ?_) (fun hq => ?_)
  · have hf := kpos hq hf
    exact w_X4_heirOf_126 V hB hk41 hH (lv_sub hl [1, 2, 3, 4] rfl) hf
  · have hf := kneg hq hf
    exact w_X4_heirOf_78 V hB hk41 hH (lv_sub hl [1, 2, 3, 4, 0] rfl) hf
set_option maxHeartbeats 4000000 in
set_option maxRecDepth 100000 in
theorem w_X4_heirOf_58 (V : kV p s mm args meth c cX4_heirOf RX4 5 (some .int) D cI cZ cO) {mo : kS} {B : Nat} (hB : kB B) {c41 : Int32 → Int32 → Int32 → kS → Option ((Int32 × kS))} (hk41 : ∀ {v1 : Int32} {v2 : Int32} {v3 : Int32} {k : kS} {H : Heap} {locs : List Loc} {ls : Array Slot} {out : (Int32 × kS)}, kHE s H locs D ad cI cZ cO k mo [] → lv_has ls 5 [(0, .ref (ad B)), (1, .int v1), (2, .int v2), (3, .int v3)] → c41 v1 v2 v3 k = some out → W p l e rm_X4_heirOf s mm args below meth c H locs 0 0 (kGi below args s D cI cZ cO ad out.1 out.2 mo 0 0) (F0 mm 41 ls [])) {v1 : Int32} {v2 : Int32} {v3 : Int32} {k : kS} {H : Heap} {locs : List Loc} {ls : Array Slot} {out : (Int32 × kS)} (hH : kHE s H locs D ad cI cZ cO k mo []) (hl : lv_has ls 5 [(0, .ref (ad B)), (1, .int v1), (2, .int v2), (3, .int v3)]) (hf : F_X4_heirOf_58 B c41 v1 v2 v3 k = some out) : W p l e rm_X4_heirOf s mm args below meth c H locs 0 0 (kGi below args s D cI cZ cO ad out.1 out.2 mo 0 0) (F0 mm 58 ls []) := by
  have hx := V.1
  have hb := V.2.1
  refine lv_iload_n hx hb dX4_heirOf_58 rfl (lv_at hl 3 rfl) ?_
  refine lv_goto (tgt := 70) hx hb dX4_heirOf_59 (by decide) ?_
  exact w_X4_heirOf_70 V hB hk41 hH (lv_sub hl [0, 1, 2, 3] rfl) hf
set_option maxHeartbeats 4000000 in
set_option maxRecDepth 100000 in
theorem w_X4_heirOf_62 (V : kV p s mm args meth c cX4_heirOf RX4 5 (some .int) D cI cZ cO) {mo : kS} {B : Nat} (hB : kB B) {c41 : Int32 → Int32 → Int32 → kS → Option ((Int32 × kS))} (hk41 : ∀ {v1 : Int32} {v2 : Int32} {v3 : Int32} {k : kS} {H : Heap} {locs : List Loc} {ls : Array Slot} {out : (Int32 × kS)}, kHE s H locs D ad cI cZ cO k mo [] → lv_has ls 5 [(0, .ref (ad B)), (1, .int v1), (2, .int v2), (3, .int v3)] → c41 v1 v2 v3 k = some out → W p l e rm_X4_heirOf s mm args below meth c H locs 0 0 (kGi below args s D cI cZ cO ad out.1 out.2 mo 0 0) (F0 mm 41 ls [])) {v1 : Int32} {v2 : Int32} {v3 : Int32} {k : kS} {H : Heap} {locs : List Loc} {ls : Array Slot} {out : (Int32 × kS)} (hH : kHE s H locs D ad cI cZ cO k mo []) (hl : lv_has ls 5 [(0, .ref (ad B)), (1, .int v1), (2, .int v2), (3, .int v3)]) (hf : F_X4_heirOf_62 B c41 v1 v2 v3 k = some out) : W p l e rm_X4_heirOf s mm args below meth c H locs 0 0 (kGi below args s D cI cZ cO ad out.1 out.2 mo 0 0) (F0 mm 62 ls []) := by
  have hx := V.1
  have hb := V.2.1
  refine lv_aload_n hx hb dX4_heirOf_62 rfl (lv_at hl 0 rfl) ?_
  refine kg_X4_28 hB V hH dX4_heirOf_63 ?_
  refine lv_iload_n hx hb dX4_heirOf_66 rfl (lv_at hl 3 rfl) ?_
  obtain ⟨x62_1, hx62_1, hf⟩ := kbind hf
  refine kr_calli0 hH (kr_runV (as := [.int v3]) (rest := []) (pl := (B + 11)) V hH kYX2_firstOf kl_X4_134 (c_X2_firstOf l hB _ hx62_1 _) rfl rfl ⟨Nat.le_of_ble_eq_true rfl, Nat.le_of_ble_eq_true rfl⟩ (kq_w hB (by decide)) (kE_w11 hB) rfl rfl hl.1 (Nat.le_of_ble_eq_true rfl) dX4_heirOf_67 ⟨Nat.le_refl _, Nat.le_refl _⟩ rfl) (fun H locs hH => ?_)
  exact w_X4_heirOf_70 V hB hk41 hH (lv_sub hl [0, 1, 2, 3] rfl) hf
set_option maxHeartbeats 4000000 in
set_option maxRecDepth 100000 in
theorem w_X4_heirOf_53 (V : kV p s mm args meth c cX4_heirOf RX4 5 (some .int) D cI cZ cO) {mo : kS} {B : Nat} (hB : kB B) {c41 : Int32 → Int32 → Int32 → kS → Option ((Int32 × kS))} (hk41 : ∀ {v1 : Int32} {v2 : Int32} {v3 : Int32} {k : kS} {H : Heap} {locs : List Loc} {ls : Array Slot} {out : (Int32 × kS)}, kHE s H locs D ad cI cZ cO k mo [] → lv_has ls 5 [(0, .ref (ad B)), (1, .int v1), (2, .int v2), (3, .int v3)] → c41 v1 v2 v3 k = some out → W p l e rm_X4_heirOf s mm args below meth c H locs 0 0 (kGi below args s D cI cZ cO ad out.1 out.2 mo 0 0) (F0 mm 41 ls [])) {v1 : Int32} {v2 : Int32} {v3 : Int32} {k : kS} {H : Heap} {locs : List Loc} {ls : Array Slot} {out : (Int32 × kS)} (hH : kHE s H locs D ad cI cZ cO k mo []) (hl : lv_has ls 5 [(0, .ref (ad B)), (1, .int v1), (2, .int v2), (3, .int v3)]) (hf : F_X4_heirOf_53 B c41 v1 v2 v3 k = some out) : W p l e rm_X4_heirOf s mm args below meth c H locs 0 0 (kGi below args s D cI cZ cO ad out.1 out.2 mo 0 0) (F0 mm 53 ls []) := by
  have hx := V.1
  have hb := V.2.1
  refine lv_iload_n hx hb dX4_heirOf_53 rfl (lv_at hl 3 rfl) ?_
  refine lv_iload_n hx hb dX4_heirOf_54 rfl (lv_at hl 1 rfl) ?_
  refine lv_icmp_eq (tgt := 62) hx hb dX4_heirOf_55 (by decide) (fun hq => ?_) (fun hq => ?_)
  · have hf := kpos hq hf
    exact w_X4_heirOf_62 V hB hk41 hH (lv_sub hl [0, 1, 2, 3] rfl) hf
  · have hf := kneg hq hf
    exact w_X4_heirOf_58 V hB hk41 hH (lv_sub hl [0, 1, 2, 3] rfl) hf
set_option maxHeartbeats 4000000 in
set_option maxRecDepth 100000 in
theorem w_X4_heirOf_45 (V : kV p s mm args meth c cX4_heirOf RX4 5 (some .int) D cI cZ cO) {mo : kS} {B : Nat} (hB : kB B) {c41 : Int32 → Int32 → Int32 → kS → Option ((Int32 × kS))} (hk41 : ∀ {v1 : Int32} {v2 : Int32} {v3 : Int32} {k : kS} {H : Heap} {locs : List Loc} {ls : Array Slot} {out : (Int32 × kS)}, kHE s H locs D ad cI cZ cO k mo [] → lv_has ls 5 [(0, .ref (ad B)), (1, .int v1), (2, .int v2), (3, .int v3)] → c41 v1 v2 v3 k = some out → W p l e rm_X4_heirOf s mm args below meth c H locs 0 0 (kGi below args s D cI cZ cO ad out.1 out.2 mo 0 0) (F0 mm 41 ls [])) {v1 : Int32} {v2 : Int32} {v3 : Int32} {k : kS} {H : Heap} {locs : List Loc} {ls : Array Slot} {out : (Int32 × kS)} (hH : kHE s H locs D ad cI cZ cO k mo []) (hl : lv_has ls 5 [(0, .ref (ad B)), (1, .int v1), (2, .int v2), (3, .int v3)]) (hf : F_X4_heirOf_45 B c41 v1 v2 v3 k = some out) : W p l e rm_X4_heirOf s mm args below meth c H locs 0 0 (kGi below args s D cI cZ cO ad out.1 out.2 mo 0 0) (F0 mm 45 ls []) := by
  have hx := V.1
  have hb := V.2.1
  refine lv_aload_n hx hb dX4_heirOf_45 rfl (lv_at hl 0 rfl) ?_
  refine lv_iload_n hx hb dX4_heirOf_46 rfl (lv_at hl 3 rfl) ?_
  obtain ⟨x45_1, hx45_1, hf⟩ := kbind hf
  refine kr_calli0 hH (kr_runV (as := [.int v3]) (rest := []) (pl := B) V hH kYX4_lives kl_X4_69 (c_X4_lives l hB _ hx45_1 _) rfl rfl ⟨Nat.le_of_ble_eq_true rfl, Nat.le_of_ble_eq_true rfl⟩ (kq_B hB) (kE_w0 hB) rfl rfl hl.1 (Nat.le_of_ble_eq_true rfl) dX4_heirOf_47 ⟨Nat.le_refl _, Nat.le_refl _⟩ rfl) (fun H locs hH => ?_)
  refine lv_if_eq (tgt := 62) hx hb dX4_heirOf_50 (by decide) (fun hq => ?_) (fun hq => ?_)
  · have hf := kpos hq hf
    exact w_X4_heirOf_62 V hB hk41 hH (lv_sub hl [0, 1, 2, 3] rfl) hf
  · have hf := kneg hq hf
    exact w_X4_heirOf_53 V hB hk41 hH (lv_sub hl [0, 1, 2, 3] rfl) hf
set_option maxHeartbeats 4000000 in
set_option maxRecDepth 100000 in
theorem w_X4_heirOf_188 (V : kV p s mm args meth c cX4_heirOf RX4 5 (some .int) D cI cZ cO) {mo : kS} {B : Nat} (hB : kB B) {s0 : Int32} {k : kS} {H : Heap} {locs : List Loc} {ls : Array Slot} {out : (Int32 × kS)} (hH : kHE s H locs D ad cI cZ cO k mo []) (hl : lv_has ls 5 []) (hf : F_X4_heirOf_188 B s0 k = some out) : W p l e rm_X4_heirOf s mm args below meth c H locs 0 0 (kGi below args s D cI cZ cO ad out.1 out.2 mo 0 0) (F0 mm 188 ls [.int s0]) := by
  have hx := V.1
  have hb := V.2.1
  cases hf
  exact kr_iret V hH dX4_heirOf_188
set_option maxHeartbeats 4000000 in
set_option maxRecDepth 100000 in
theorem w_X4_heirOf_168 (V : kV p s mm args meth c cX4_heirOf RX4 5 (some .int) D cI cZ cO) {mo : kS} {B : Nat} (hB : kB B) {v1 : Int32} {k : kS} {H : Heap} {locs : List Loc} {ls : Array Slot} {out : (Int32 × kS)} (hH : kHE s H locs D ad cI cZ cO k mo []) (hl : lv_has ls 5 [(0, .ref (ad B)), (1, .int v1)]) (hf : F_X4_heirOf_168 B v1 k = some out) : W p l e rm_X4_heirOf s mm args below meth c H locs 0 0 (kGi below args s D cI cZ cO ad out.1 out.2 mo 0 0) (F0 mm 168 ls []) := by
  have hx := V.1
  have hb := V.2.1
  refine lv_aload_n hx hb dX4_heirOf_168 rfl (lv_at hl 0 rfl) ?_
  refine kg_X4_28 hB V hH dX4_heirOf_169 ?_
  refine lv_aload_n hx hb dX4_heirOf_172 rfl (lv_at hl 0 rfl) ?_
  refine kg_X4_40 hB V hH dX4_heirOf_173 ?_
  refine kg_X4_137 V hH dX4_heirOf_176 ?_
  refine lv_iload_n hx hb dX4_heirOf_179 rfl (lv_at hl 1 rfl) ?_
  obtain ⟨h168_1, hf⟩ := kif hf
  refine kr_iald V hH (q := 4) (by decide) kE_4 h168_1 dX4_heirOf_180 ?_
  obtain ⟨x168_2, hx168_2, hf⟩ := kbind hf
  refine kr_calli0 hH (kr_runV (as := [.int (k 4 v1.toNatClampNeg)]) (rest := []) (pl := (B + 11)) V hH kYX2_firstOf kl_X4_134 (c_X2_firstOf l hB _ hx168_2 _) rfl rfl ⟨Nat.le_of_ble_eq_true rfl, Nat.le_of_ble_eq_true rfl⟩ (kq_w hB (by decide)) (kE_w11 hB) rfl rfl hl.1 (Nat.le_of_ble_eq_true rfl) dX4_heirOf_181 ⟨Nat.le_refl _, Nat.le_refl _⟩ rfl) (fun H locs hH => ?_)
  refine lv_goto (tgt := 188) hx hb dX4_heirOf_184 (by decide) ?_
  exact w_X4_heirOf_188 V hB hH (lv_sub hl [] rfl) hf
set_option maxHeartbeats 4000000 in
set_option maxRecDepth 100000 in
theorem w_X4_heirOf_187 (V : kV p s mm args meth c cX4_heirOf RX4 5 (some .int) D cI cZ cO) {mo : kS} {B : Nat} (hB : kB B) {v3 : Int32} {k : kS} {H : Heap} {locs : List Loc} {ls : Array Slot} {out : (Int32 × kS)} (hH : kHE s H locs D ad cI cZ cO k mo []) (hl : lv_has ls 5 [(3, .int v3)]) (hf : F_X4_heirOf_187 B v3 k = some out) : W p l e rm_X4_heirOf s mm args below meth c H locs 0 0 (kGi below args s D cI cZ cO ad out.1 out.2 mo 0 0) (F0 mm 187 ls []) := by
  have hx := V.1
  have hb := V.2.1
  refine lv_iload_n hx hb dX4_heirOf_187 rfl (lv_at hl 0 rfl) ?_
  exact w_X4_heirOf_188 V hB hH (lv_sub hl [] rfl) hf
set_option maxHeartbeats 4000000 in
set_option maxRecDepth 100000 in
theorem w_X4_heirOf_163 (V : kV p s mm args meth c cX4_heirOf RX4 5 (some .int) D cI cZ cO) {mo : kS} {B : Nat} (hB : kB B) {v1 : Int32} {v3 : Int32} {k : kS} {H : Heap} {locs : List Loc} {ls : Array Slot} {out : (Int32 × kS)} (hH : kHE s H locs D ad cI cZ cO k mo []) (hl : lv_has ls 5 [(0, .ref (ad B)), (1, .int v1), (3, .int v3)]) (hf : F_X4_heirOf_163 B v1 v3 k = some out) : W p l e rm_X4_heirOf s mm args below meth c H locs 0 0 (kGi below args s D cI cZ cO ad out.1 out.2 mo 0 0) (F0 mm 163 ls []) := by
  have hx := V.1
  have hb := V.2.1
  refine lv_iload_n hx hb dX4_heirOf_163 rfl (lv_at hl 2 rfl) ?_
  refine lv_iconst (v := (-1)) hx hb dX4_heirOf_164 (by decide) ?_
  refine lv_icmp_ne (tgt := 187) hx hb dX4_heirOf_165 (by decide) (fun hq => ?_) (fun hq => ?_)
  · have hf := kneg hq hf
    exact w_X4_heirOf_187 V hB hH (lv_sub hl [2] rfl) hf
  · have hf := kpos hq hf
    exact w_X4_heirOf_168 V hB hH (lv_sub hl [0, 1] rfl) hf
set_option maxHeartbeats 4000000 in
set_option maxRecDepth 100000 in
theorem w_X4_heirOf_146 (V : kV p s mm args meth c cX4_heirOf RX4 5 (some .int) D cI cZ cO) {mo : kS} {B : Nat} (hB : kB B) {v1 : Int32} {k : kS} {H : Heap} {locs : List Loc} {ls : Array Slot} {out : (Int32 × kS)} (hH : kHE s H locs D ad cI cZ cO k mo []) (hl : lv_has ls 5 [(0, .ref (ad B)), (1, .int v1)]) (hf : F_X4_heirOf_146 B v1 k = some out) : W p l e rm_X4_heirOf s mm args below meth c H locs 0 0 (kGi below args s D cI cZ cO ad out.1 out.2 mo 0 0) (F0 mm 146 ls []) := by
  have hx := V.1
  have hb := V.2.1
  refine lv_aload_n hx hb dX4_heirOf_146 rfl (lv_at hl 0 rfl) ?_
  refine kg_X4_28 hB V hH dX4_heirOf_147 ?_
  refine lv_aload_n hx hb dX4_heirOf_150 rfl (lv_at hl 0 rfl) ?_
  refine kg_X4_40 hB V hH dX4_heirOf_151 ?_
  refine kg_X4_144 V hH dX4_heirOf_154 ?_
  refine lv_iload_n hx hb dX4_heirOf_157 rfl (lv_at hl 1 rfl) ?_
  obtain ⟨h146_1, hf⟩ := kif hf
  refine kr_iald V hH (q := 5) (by decide) kE_5 h146_1 dX4_heirOf_158 ?_
  obtain ⟨x146_2, hx146_2, hf⟩ := kbind hf
  refine kr_calli0 hH (kr_runV (as := [.int (k 5 v1.toNatClampNeg)]) (rest := []) (pl := (B + 11)) V hH kYX2_firstOf kl_X4_134 (c_X2_firstOf l hB _ hx146_2 _) rfl rfl ⟨Nat.le_of_ble_eq_true rfl, Nat.le_of_ble_eq_true rfl⟩ (kq_w hB (by decide)) (kE_w11 hB) rfl rfl hl.1 (Nat.le_of_ble_eq_true rfl) dX4_heirOf_159 ⟨Nat.le_refl _, Nat.le_refl _⟩ rfl) (fun H locs hH => ?_)
  refine lv_istore_n (lv' := [(3, .int x146_2), (0, .ref (ad B)), (1, .int v1)]) hx hb dX4_heirOf_162 rfl hl (by decide) rfl (fun ls hl => ?_)
  exact w_X4_heirOf_163 V hB hH (lv_sub hl [1, 2, 0] rfl) hf
set_option maxHeartbeats 4000000 in
set_option maxRecDepth 100000 in
theorem w_X4_heirOf_132 (V : kV p s mm args meth c cX4_heirOf RX4 5 (some .int) D cI cZ cO) {mo : kS} {B : Nat} (hB : kB B) {v1 : Int32} {k : kS} {H : Heap} {locs : List Loc} {ls : Array Slot} {out : (Int32 × kS)} (hH : kHE s H locs D ad cI cZ cO k mo []) (hl : lv_has ls 5 [(0, .ref (ad B)), (1, .int v1)]) (hf : F_X4_heirOf_132 B v1 k = some out) : W p l e rm_X4_heirOf s mm args below meth c H locs 0 0 (kGi below args s D cI cZ cO ad out.1 out.2 mo 0 0) (F0 mm 132 ls []) := by
  have hx := V.1
  have hb := V.2.1
  refine lv_aload_n hx hb dX4_heirOf_132 rfl (lv_at hl 0 rfl) ?_
  refine kg_X4_28 hB V hH dX4_heirOf_133 ?_
  refine lv_iload_n hx hb dX4_heirOf_136 rfl (lv_at hl 1 rfl) ?_
  obtain ⟨x132_1, hx132_1, hf⟩ := kbind hf
  refine kr_calli0 hH (kr_runV (as := [.int v1]) (rest := []) (pl := (B + 11)) V hH kYX2_firstOf kl_X4_134 (c_X2_firstOf l hB _ hx132_1 _) rfl rfl ⟨Nat.le_of_ble_eq_true rfl, Nat.le_of_ble_eq_true rfl⟩ (kq_w hB (by decide)) (kE_w11 hB) rfl rfl hl.1 (Nat.le_of_ble_eq_true rfl) dX4_heirOf_137 ⟨Nat.le_refl _, Nat.le_refl _⟩ rfl) (fun H locs hH => ?_)
  refine lv_istore_n (lv' := [(3, .int x132_1), (0, .ref (ad B)), (1, .int v1)]) hx hb dX4_heirOf_140 rfl hl (by decide) rfl (fun ls hl => ?_)
  refine lv_iload_n hx hb dX4_heirOf_141 rfl (lv_at hl 0 rfl) ?_
  refine lv_iconst (v := (-1)) hx hb dX4_heirOf_142 (by decide) ?_
  refine lv_icmp_ne (tgt := 163) hx hb dX4_heirOf_143 (by decide) (fun hq => ?_) (fun hq => ?_)
  · have hf := kneg hq hf
    exact w_X4_heirOf_163 V hB hH (lv_sub hl [1, 2, 0] rfl) hf
  · have hf := kpos hq hf
    exact w_X4_heirOf_146 V hB hH (lv_sub hl [1, 2] rfl) hf
set_option maxHeartbeats 4000000 in
set_option maxRecDepth 100000 in
theorem w_X4_heirOf_41 (V : kV p s mm args meth c cX4_heirOf RX4 5 (some .int) D cI cZ cO) {mo : kS} {B : Nat} (hB : kB B) : ∀ (n : Nat) {v1 : Int32} {v2 : Int32} {v3 : Int32} {k : kS} {H : Heap} {locs : List Loc} {ls : Array Slot} {out : (Int32 × kS)}, kHE s H locs D ad cI cZ cO k mo [] → lv_has ls 5 [(0, .ref (ad B)), (1, .int v1), (2, .int v2), (3, .int v3)] → F_X4_heirOf_41 B n v1 v2 v3 k = some out → W p l e rm_X4_heirOf s mm args below meth c H locs 0 0 (kGi below args s D cI cZ cO ad out.1 out.2 mo 0 0) (F0 mm 41 ls []) := by
  have hx := V.1
  have hb := V.2.1
  intro n
  induction n with
  | zero => intro _ _ _ _ _ _ _ _ hH hl hf; cases hf
  | succ n hk41 =>
    intro v1 v2 v3 k H locs ls out hH hl hf
    refine lv_iload_n hx hb dX4_heirOf_41 rfl (lv_at hl 3 rfl) ?_
    refine lv_if_lt (tgt := 132) hx hb dX4_heirOf_42 (by decide) (fun hq => ?_) (fun hq => ?_)
    · have hf := kpos hq hf
      exact w_X4_heirOf_132 V hB hH (lv_sub hl [0, 1] rfl) hf
    · have hf := kneg hq hf
      exact w_X4_heirOf_45 V hB hk41 hH (lv_sub hl [0, 1, 2, 3] rfl) hf
set_option maxHeartbeats 4000000 in
set_option maxRecDepth 100000 in
theorem w_X4_heirOf_24 (V : kV p s mm args meth c cX4_heirOf RX4 5 (some .int) D cI cZ cO) {mo : kS} {B : Nat} (hB : kB B) {v1 : Int32} {v2 : Int32} {k : kS} {H : Heap} {locs : List Loc} {ls : Array Slot} {out : (Int32 × kS)} (hH : kHE s H locs D ad cI cZ cO k mo []) (hl : lv_has ls 5 [(0, .ref (ad B)), (1, .int v1), (2, .int v2)]) (hf : F_X4_heirOf_24 B v1 v2 k = some out) : W p l e rm_X4_heirOf s mm args below meth c H locs 0 0 (kGi below args s D cI cZ cO ad out.1 out.2 mo 0 0) (F0 mm 24 ls []) := by
  have hx := V.1
  have hb := V.2.1
  refine lv_aload_n hx hb dX4_heirOf_24 rfl (lv_at hl 0 rfl) ?_
  refine kg_X4_28 hB V hH dX4_heirOf_25 ?_
  obtain ⟨x24_1, hx24_1, hf⟩ := kbind hf
  refine kr_callv0 hH (kr_runV (as := []) (rest := []) (pl := (B + 11)) V hH kYX2_clear kl_X4_131 (c_X2_clear l hB hx24_1 _) rfl rfl ⟨Nat.le_of_ble_eq_true rfl, Nat.le_of_ble_eq_true rfl⟩ (kq_w hB (by decide)) (kE_w11 hB) rfl rfl hl.1 (Nat.le_of_ble_eq_true rfl) dX4_heirOf_28 ⟨Nat.le_refl _, Nat.le_refl _⟩ rfl) (fun H locs hH => ?_)
  refine lv_aload_n hx hb dX4_heirOf_31 rfl (lv_at hl 0 rfl) ?_
  refine kg_X4_40 hB V hH dX4_heirOf_32 ?_
  refine kg_X4_122 V hH dX4_heirOf_35 ?_
  refine lv_iconst (v := 1) hx hb dX4_heirOf_38 (by decide) ?_
  refine lv_isub hx hb dX4_heirOf_39 ?_
  refine lv_istore_n (lv' := [(3, .int ((x24_1 1 0) - 1)), (0, .ref (ad B)), (1, .int v1), (2, .int v2)]) hx hb dX4_heirOf_40 rfl hl (by decide) rfl (fun ls hl => ?_)
  exact w_X4_heirOf_41 V hB kN hH (lv_sub hl [1, 2, 3, 0] rfl) hf
set_option maxHeartbeats 4000000 in
set_option maxRecDepth 100000 in
theorem w_X4_heirOf_13 (V : kV p s mm args meth c cX4_heirOf RX4 5 (some .int) D cI cZ cO) {mo : kS} {B : Nat} (hB : kB B) {v1 : Int32} {v2 : Int32} {k : kS} {H : Heap} {locs : List Loc} {ls : Array Slot} {out : (Int32 × kS)} (hH : kHE s H locs D ad cI cZ cO k mo []) (hl : lv_has ls 5 [(0, .ref (ad B)), (1, .int v1), (2, .int v2)]) (hf : F_X4_heirOf_13 B v1 v2 k = some out) : W p l e rm_X4_heirOf s mm args below meth c H locs 0 0 (kGi below args s D cI cZ cO ad out.1 out.2 mo 0 0) (F0 mm 13 ls []) := by
  have hx := V.1
  have hb := V.2.1
  refine lv_iload_n hx hb dX4_heirOf_13 rfl (lv_at hl 2 rfl) ?_
  refine lv_iconst (v := 3) hx hb dX4_heirOf_14 (by decide) ?_
  refine lv_icmp_ne (tgt := 24) hx hb dX4_heirOf_15 (by decide) (fun hq => ?_) (fun hq => ?_)
  · have hf := kneg hq hf
    exact w_X4_heirOf_24 V hB hH (lv_sub hl [0, 1, 2] rfl) hf
  · have hf := kpos hq hf
    exact w_X4_heirOf_18 V hB hH (lv_sub hl [0, 1] rfl) hf
set_option maxHeartbeats 4000000 in
set_option maxRecDepth 100000 in
theorem w_X4_heirOf_0 (V : kV p s mm args meth c cX4_heirOf RX4 5 (some .int) D cI cZ cO) {mo : kS} {B : Nat} (hB : kB B) {v1 : Int32} {v2 : Int32} {k : kS} {H : Heap} {locs : List Loc} {ls : Array Slot} {out : (Int32 × kS)} (hH : kHE s H locs D ad cI cZ cO k mo []) (hl : lv_has ls 5 [(0, .ref (ad B)), (1, .int v1), (2, .int v2)]) (hf : F_X4_heirOf_0 B v1 v2 k = some out) : W p l e rm_X4_heirOf s mm args below meth c H locs 0 0 (kGi below args s D cI cZ cO ad out.1 out.2 mo 0 0) (F0 mm 0 ls []) := by
  have hx := V.1
  have hb := V.2.1
  refine lv_aload_n hx hb dX4_heirOf_0 rfl (lv_at hl 0 rfl) ?_
  refine kg_X4_40 hB V hH dX4_heirOf_1 ?_
  refine lv_iload_n hx hb dX4_heirOf_4 rfl (lv_at hl 1 rfl) ?_
  obtain ⟨x0_1, hx0_1, hf⟩ := kbind hf
  refine kr_calli0 hH (kr_runV (as := [.int v1]) (rest := []) (pl := 1) V hH kYX0_knows kl_X4_60 (c_X0_knows l _ hx0_1 _) rfl rfl ⟨Nat.le_of_ble_eq_true rfl, Nat.le_of_ble_eq_true rfl⟩ (by decide) kE_1 rfl rfl hl.1 (Nat.le_of_ble_eq_true rfl) dX4_heirOf_5 ⟨Nat.le_refl _, Nat.le_refl _⟩ rfl) (fun H locs hH => ?_)
  refine lv_if_ne (tgt := 13) hx hb dX4_heirOf_8 (by decide) (fun hq => ?_) (fun hq => ?_)
  · have hf := kneg hq hf
    exact w_X4_heirOf_13 V hB hH (lv_sub hl [0, 1, 2] rfl) hf
  · have hf := kpos hq hf
    exact w_X4_heirOf_11 V hB hH (lv_sub hl [] rfl) hf
set_option maxHeartbeats 4000000 in
set_option maxRecDepth 100000 in
theorem c_X4_heirOf (l : Launch) {D : va_G} {cI cZ cO : ClassId} {ad : Nat → Nat} {k mo : kS} {B : Nat} (hB : kB B) (v1 : Int32) (v2 : Int32) {out : (Int32 × kS)} (hf : F_X4_heirOf B v1 v2 k = some out) (sz : Nat) : Met l yX4_heirOf (Cond.code yX4_heirOf cX4_heirOf 5 (some .int) :: kWA) rm_X4_heirOf (kP [.ref (ad B), .int v1, .int v2] D cI cZ cO ad (kE ad cI cZ cO k mo) sz) (kQi out.1 D cI cZ cO ad (kE ad cI cZ cO out.2 mo) sz) 0 0 (fA ad sz) := by
  refine kr_met (as := [.ref (ad B), .int v1, .int v2]) (bytes := cX4_heirOf) (maxL := 5) (rt := (some .int)) (Qc := fun sz => kQi out.1 D cI cZ cO ad (kE ad cI cZ cO out.2 mo) sz) (lv := [(0, .ref (ad B)), (1, .int v1), (2, .int v2)]) (by decide +kernel) (Nat.le_of_ble_eq_true rfl) rfl (fun p e s mm below meth c ls V hH hl => ?_) sz
  exact w_X4_heirOf_0 V hB hH (lv_sub hl [0, 1, 2] rfl) hf
end
section
variable {p : Program} {l : Launch} {e : Env} {s : State} {mm : MethodId} {args : Array Value} {below : List Frame} {meth : Method} {c : Code} {D : va_G} {cI cZ cO : ClassId} {ad : Nat → Nat}
abbrev rm_X4_bury : Room := { frames := 4, cells := 0, slots := 0, locals := 95 }
set_option maxHeartbeats 4000000 in
set_option maxRecDepth 100000 in
theorem w_X4_bury_63 (V : kV p s mm args meth c cX4_bury RX4 4 (some .int) D cI cZ cO) {mo : kS} {B : Nat} (hB : kB B) {c14 : Int32 → Int32 → Int32 → kS → Option ((Int32 × kS))} (hk14 : ∀ {v1 : Int32} {v2 : Int32} {v3 : Int32} {k : kS} {H : Heap} {locs : List Loc} {ls : Array Slot} {out : (Int32 × kS)}, kHE s H locs D ad cI cZ cO k mo [] → lv_has ls 4 [(0, .ref (ad B)), (1, .int v1), (2, .int v2), (3, .int v3)] → c14 v1 v2 v3 k = some out → W p l e rm_X4_bury s mm args below meth c H locs 0 0 (kGi below args s D cI cZ cO ad out.1 out.2 mo 0 0) (F0 mm 14 ls [])) {v1 : Int32} {v2 : Int32} {v3 : Int32} {k : kS} {H : Heap} {locs : List Loc} {ls : Array Slot} {out : (Int32 × kS)} (hH : kHE s H locs D ad cI cZ cO k mo []) (hl : lv_has ls 4 [(0, .ref (ad B)), (1, .int v1), (2, .int v2), (3, .int v3)]) (hf : F_X4_bury_63 B c14 v1 v2 v3 k = some out) : W p l e rm_X4_bury s mm args below meth c H locs 0 0 (kGi below args s D cI cZ cO ad out.1 out.2 mo 0 0) (F0 mm 63 ls []) := by
  have hx := V.1
  have hb := V.2.1
  refine lv_iinc (v := (v3 + 1)) (lv' := [(3, .int (v3 + 1)), (0, .ref (ad B)), (1, .int v1), (2, .int v2)]) hx hb dX4_bury_63 hl (k := 3) rfl rfl (by decide) rfl (fun ls hl => ?_)
  refine lv_goto (tgt := 14) hx hb dX4_bury_66 (by decide) ?_
  exact hk14 hH (lv_sub hl [1, 2, 3, 0] rfl) hf
set_option maxHeartbeats 4000000 in
set_option maxRecDepth 100000 in
theorem w_X4_bury_38 (V : kV p s mm args meth c cX4_bury RX4 4 (some .int) D cI cZ cO) {mo : kS} {B : Nat} (hB : kB B) {c14 : Int32 → Int32 → Int32 → kS → Option ((Int32 × kS))} (hk14 : ∀ {v1 : Int32} {v2 : Int32} {v3 : Int32} {k : kS} {H : Heap} {locs : List Loc} {ls : Array Slot} {out : (Int32 × kS)}, kHE s H locs D ad cI cZ cO k mo [] → lv_has ls 4 [(0, .ref (ad B)), (1, .int v1), (2, .int v2), (3, .int v3)] → c14 v1 v2 v3 k = some out → W p l e rm_X4_bury s mm args below meth c H locs 0 0 (kGi below args s D cI cZ cO ad out.1 out.2 mo 0 0) (F0 mm 14 ls [])) {v1 : Int32} {v2 : Int32} {v3 : Int32} {k : kS} {H : Heap} {locs : List Loc} {ls : Array Slot} {out : (Int32 × kS)} (hH : kHE s H locs D ad cI cZ cO k mo []) (hl : lv_has ls 4 [(0, .ref (ad B)), (1, .int v1), (2, .int v2), (3, .int v3)]) (hf : F_X4_bury_38 B c14 v1 v2 v3 k = some out) : W p l e rm_X4_bury s mm args below meth c H locs 0 0 (kGi below args s D cI cZ cO ad out.1 out.2 mo 0 0) (F0 mm 38 ls []) := by
  have hx := V.1
  have hb := V.2.1
  refine lv_aload_n hx hb dX4_bury_38 rfl (lv_at hl 0 rfl) ?_
  refine kg_X4_12 hB V hH dX4_bury_39 ?_
  refine lv_iload_n hx hb dX4_bury_42 rfl (lv_at hl 3 rfl) ?_
  refine lv_aload_n hx hb dX4_bury_43 rfl (lv_at hl 0 rfl) ?_
  refine lv_iload_n hx hb dX4_bury_44 rfl (lv_at hl 1 rfl) ?_
  refine lv_aload_n hx hb dX4_bury_45 rfl (lv_at hl 0 rfl) ?_
  refine kg_X4_12 hB V hH dX4_bury_46 ?_
  refine kg_X4_116 hB V hH dX4_bury_49 ?_
  refine lv_iload_n hx hb dX4_bury_52 rfl (lv_at hl 3 rfl) ?_
  obtain ⟨h38_1, hf⟩ := kif hf
  refine kr_iald V hH (q := (B + 3)) (kq_w hB (by decide)) (kE_w3 hB) h38_1 dX4_bury_53 ?_
  obtain ⟨x38_2, hx38_2, hf⟩ := kbind hf
  refine kr_calli0 hH (kr_runV (as := [.int v1, .int (k (B + 3) v3.toNatClampNeg)]) (rest := [.int v3, .ref (ad (B + 1))]) (pl := B) V hH kYX4_heirOf kl_X4_119 (c_X4_heirOf l hB _ _ hx38_2 _) rfl rfl ⟨Nat.le_of_ble_eq_true rfl, Nat.le_of_ble_eq_true rfl⟩ (kq_B hB) (kE_w0 hB) rfl rfl hl.1 (Nat.le_of_ble_eq_true rfl) dX4_bury_54 ⟨Nat.le_refl _, Nat.le_refl _⟩ rfl) (fun H locs hH => ?_)
  obtain ⟨x38_3, hx38_3, hf⟩ := kbind hf
  refine kr_callv0 hH (kr_runV (as := [.int v3, .int x38_2.1]) (rest := []) (pl := (B + 1)) V hH kYX1_handTo kl_X4_100 (c_X1_handTo l hB _ _ hx38_3 _) rfl rfl ⟨Nat.le_of_ble_eq_true rfl, Nat.le_of_ble_eq_true rfl⟩ (kq_w hB (by decide)) (kE_w1 hB) rfl rfl hl.1 (Nat.le_of_ble_eq_true rfl) dX4_bury_57 ⟨Nat.le_refl _, Nat.le_refl _⟩ rfl) (fun H locs hH => ?_)
  refine lv_iinc (v := (v2 + 1)) (lv' := [(2, .int (v2 + 1)), (0, .ref (ad B)), (1, .int v1), (3, .int v3)]) hx hb dX4_bury_60 hl (k := 2) rfl rfl (by decide) rfl (fun ls hl => ?_)
  exact w_X4_bury_63 V hB hk14 hH (lv_sub hl [1, 2, 0, 3] rfl) hf
set_option maxHeartbeats 4000000 in
set_option maxRecDepth 100000 in
theorem w_X4_bury_25 (V : kV p s mm args meth c cX4_bury RX4 4 (some .int) D cI cZ cO) {mo : kS} {B : Nat} (hB : kB B) {c14 : Int32 → Int32 → Int32 → kS → Option ((Int32 × kS))} (hk14 : ∀ {v1 : Int32} {v2 : Int32} {v3 : Int32} {k : kS} {H : Heap} {locs : List Loc} {ls : Array Slot} {out : (Int32 × kS)}, kHE s H locs D ad cI cZ cO k mo [] → lv_has ls 4 [(0, .ref (ad B)), (1, .int v1), (2, .int v2), (3, .int v3)] → c14 v1 v2 v3 k = some out → W p l e rm_X4_bury s mm args below meth c H locs 0 0 (kGi below args s D cI cZ cO ad out.1 out.2 mo 0 0) (F0 mm 14 ls [])) {v1 : Int32} {v2 : Int32} {v3 : Int32} {k : kS} {H : Heap} {locs : List Loc} {ls : Array Slot} {out : (Int32 × kS)} (hH : kHE s H locs D ad cI cZ cO k mo []) (hl : lv_has ls 4 [(0, .ref (ad B)), (1, .int v1), (2, .int v2), (3, .int v3)]) (hf : F_X4_bury_25 B c14 v1 v2 v3 k = some out) : W p l e rm_X4_bury s mm args below meth c H locs 0 0 (kGi below args s D cI cZ cO ad out.1 out.2 mo 0 0) (F0 mm 25 ls []) := by
  have hx := V.1
  have hb := V.2.1
  refine lv_aload_n hx hb dX4_bury_25 rfl (lv_at hl 0 rfl) ?_
  refine kg_X4_12 hB V hH dX4_bury_26 ?_
  refine kg_X4_113 hB V hH dX4_bury_29 ?_
  refine lv_iload_n hx hb dX4_bury_32 rfl (lv_at hl 3 rfl) ?_
  obtain ⟨h25_1, hf⟩ := kif hf
  refine kr_iald V hH (q := (B + 4)) (kq_w hB (by decide)) (kE_w4 hB) h25_1 dX4_bury_33 ?_
  refine lv_iload_n hx hb dX4_bury_34 rfl (lv_at hl 1 rfl) ?_
  refine lv_icmp_ne (tgt := 63) hx hb dX4_bury_35 (by decide) (fun hq => ?_) (fun hq => ?_)
  · have hf := kneg hq hf
    exact w_X4_bury_63 V hB hk14 hH (lv_sub hl [0, 1, 2, 3] rfl) hf
  · have hf := kpos hq hf
    exact w_X4_bury_38 V hB hk14 hH (lv_sub hl [0, 1, 2, 3] rfl) hf
set_option maxHeartbeats 4000000 in
set_option maxRecDepth 100000 in
theorem w_X4_bury_69 (V : kV p s mm args meth c cX4_bury RX4 4 (some .int) D cI cZ cO) {mo : kS} {B : Nat} (hB : kB B) {v1 : Int32} {v2 : Int32} {k : kS} {H : Heap} {locs : List Loc} {ls : Array Slot} {out : (Int32 × kS)} (hH : kHE s H locs D ad cI cZ cO k mo []) (hl : lv_has ls 4 [(0, .ref (ad B)), (1, .int v1), (2, .int v2)]) (hf : F_X4_bury_69 B v1 v2 k = some out) : W p l e rm_X4_bury s mm args below meth c H locs 0 0 (kGi below args s D cI cZ cO ad out.1 out.2 mo 0 0) (F0 mm 69 ls []) := by
  have hx := V.1
  have hb := V.2.1
  refine lv_aload_n hx hb dX4_bury_69 rfl (lv_at hl 0 rfl) ?_
  refine kg_X4_21 hB V hH dX4_bury_70 ?_
  refine lv_iload_n hx hb dX4_bury_73 rfl (lv_at hl 1 rfl) ?_
  obtain ⟨x69_1, hx69_1, hf⟩ := kbind hf
  refine kr_callv0 hH (kr_runV (as := [.int v1]) (rest := []) (pl := (B + 8)) V hH kYX3_part kl_X4_106 (c_X3_part l hB _ hx69_1 _) rfl rfl ⟨Nat.le_of_ble_eq_true rfl, Nat.le_of_ble_eq_true rfl⟩ (kq_w hB (by decide)) (kE_w8 hB) rfl rfl hl.1 (Nat.le_of_ble_eq_true rfl) dX4_bury_74 ⟨Nat.le_refl _, Nat.le_refl _⟩ rfl) (fun H locs hH => ?_)
  refine lv_iload_n hx hb dX4_bury_77 rfl (lv_at hl 2 rfl) ?_
  cases hf
  exact kr_iret V hH dX4_bury_78
set_option maxHeartbeats 4000000 in
set_option maxRecDepth 100000 in
theorem w_X4_bury_14 (V : kV p s mm args meth c cX4_bury RX4 4 (some .int) D cI cZ cO) {mo : kS} {B : Nat} (hB : kB B) : ∀ (n : Nat) {v1 : Int32} {v2 : Int32} {v3 : Int32} {k : kS} {H : Heap} {locs : List Loc} {ls : Array Slot} {out : (Int32 × kS)}, kHE s H locs D ad cI cZ cO k mo [] → lv_has ls 4 [(0, .ref (ad B)), (1, .int v1), (2, .int v2), (3, .int v3)] → F_X4_bury_14 B n v1 v2 v3 k = some out → W p l e rm_X4_bury s mm args below meth c H locs 0 0 (kGi below args s D cI cZ cO ad out.1 out.2 mo 0 0) (F0 mm 14 ls []) := by
  have hx := V.1
  have hb := V.2.1
  intro n
  induction n with
  | zero => intro _ _ _ _ _ _ _ _ hH hl hf; cases hf
  | succ n hk14 =>
    intro v1 v2 v3 k H locs ls out hH hl hf
    refine lv_iload_n hx hb dX4_bury_14 rfl (lv_at hl 3 rfl) ?_
    refine lv_aload_n hx hb dX4_bury_15 rfl (lv_at hl 0 rfl) ?_
    refine kg_X4_12 hB V hH dX4_bury_16 ?_
    refine kg_X4_110 hB V hH dX4_bury_19 ?_
    refine lv_icmp_ge (tgt := 69) hx hb dX4_bury_22 (by decide) (fun hq => ?_) (fun hq => ?_)
    · have hf := kpos hq hf
      exact w_X4_bury_69 V hB hH (lv_sub hl [0, 1, 2] rfl) hf
    · have hf := kneg hq hf
      exact w_X4_bury_25 V hB hk14 hH (lv_sub hl [0, 1, 2, 3] rfl) hf
set_option maxHeartbeats 4000000 in
set_option maxRecDepth 100000 in
theorem w_X4_bury_0 (V : kV p s mm args meth c cX4_bury RX4 4 (some .int) D cI cZ cO) {mo : kS} {B : Nat} (hB : kB B) {v1 : Int32} {k : kS} {H : Heap} {locs : List Loc} {ls : Array Slot} {out : (Int32 × kS)} (hH : kHE s H locs D ad cI cZ cO k mo []) (hl : lv_has ls 4 [(0, .ref (ad B)), (1, .int v1)]) (hf : F_X4_bury_0 B v1 k = some out) : W p l e rm_X4_bury s mm args below meth c H locs 0 0 (kGi below args s D cI cZ cO ad out.1 out.2 mo 0 0) (F0 mm 0 ls []) := by
  have hx := V.1
  have hb := V.2.1
  refine lv_iconst (v := 0) hx hb dX4_bury_0 (by decide) ?_
  refine lv_istore_n (lv' := [(2, .int 0), (0, .ref (ad B)), (1, .int v1)]) hx hb dX4_bury_1 rfl hl (by decide) rfl (fun ls hl => ?_)
  refine lv_aload_n hx hb dX4_bury_2 rfl (lv_at hl 1 rfl) ?_
  refine kg_X4_32 hB V hH dX4_bury_3 ?_
  refine lv_iload_n hx hb dX4_bury_6 rfl (lv_at hl 2 rfl) ?_
  refine lv_aload_n hx hb dX4_bury_7 rfl (lv_at hl 1 rfl) ?_
  refine kg_X4_36 hB V hH dX4_bury_8 ?_
  obtain ⟨h0_1, hf⟩ := kif hf
  refine kr_iastK V hH (q := (B + 14)) (kq_w hB (by decide)) (fun _ => (kE_w14 hB)) h0_1 dX4_bury_11 (fun H locs hH => ?_)
  refine lv_iconst (v := 0) hx hb dX4_bury_12 (by decide) ?_
  refine lv_istore_n (lv' := [(3, .int 0), (2, .int 0), (0, .ref (ad B)), (1, .int v1)]) hx hb dX4_bury_13 rfl hl (by decide) rfl (fun ls hl => ?_)
  exact w_X4_bury_14 V hB kN hH (lv_sub hl [2, 3, 1, 0] rfl) hf
set_option maxHeartbeats 4000000 in
set_option maxRecDepth 100000 in
theorem c_X4_bury (l : Launch) {D : va_G} {cI cZ cO : ClassId} {ad : Nat → Nat} {k mo : kS} {B : Nat} (hB : kB B) (v1 : Int32) {out : (Int32 × kS)} (hf : F_X4_bury B v1 k = some out) (sz : Nat) : Met l yX4_bury (Cond.code yX4_bury cX4_bury 4 (some .int) :: kWA) rm_X4_bury (kP [.ref (ad B), .int v1] D cI cZ cO ad (kE ad cI cZ cO k mo) sz) (kQi out.1 D cI cZ cO ad (kE ad cI cZ cO out.2 mo) sz) 0 0 (fA ad sz) := by
  refine kr_met (as := [.ref (ad B), .int v1]) (bytes := cX4_bury) (maxL := 4) (rt := (some .int)) (Qc := fun sz => kQi out.1 D cI cZ cO ad (kE ad cI cZ cO out.2 mo) sz) (lv := [(0, .ref (ad B)), (1, .int v1)]) (by decide +kernel) (Nat.le_of_ble_eq_true rfl) rfl (fun p e s mm below meth c ls V hH hl => ?_) sz
  exact w_X4_bury_0 V hB hH (lv_sub hl [0, 1] rfl) hf
end
section
variable {p : Program} {l : Launch} {e : Env} {s : State} {mm : MethodId} {args : Array Value} {below : List Frame} {meth : Method} {c : Code} {D : va_G} {cI cZ cO : ClassId} {ad : Nat → Nat}
abbrev rm_X4_letPass : Room := { frames := 5, cells := 0, slots := 0, locals := 118 }
set_option maxHeartbeats 4000000 in
set_option maxRecDepth 100000 in
theorem w_X4_letPass_64 (V : kV p s mm args meth c cX4_letPass RX4 5 (some .int) D cI cZ cO) {mo : kS} {B : Nat} (hB : kB B) {c4 : Int32 → Int32 → Int32 → kS → Option ((Int32 × kS))} (hk4 : ∀ {v1 : Int32} {v2 : Int32} {v3 : Int32} {k : kS} {H : Heap} {locs : List Loc} {ls : Array Slot} {out : (Int32 × kS)}, kHE s H locs D ad cI cZ cO k mo [] → lv_has ls 5 [(0, .ref (ad B)), (1, .int v1), (2, .int v2), (3, .int v3)] → c4 v1 v2 v3 k = some out → W p l e rm_X4_letPass s mm args below meth c H locs 0 0 (kGi below args s D cI cZ cO ad out.1 out.2 mo 0 0) (F0 mm 4 ls [])) {c22 : Int32 → Int32 → Int32 → Int32 → kS → Option ((Int32 × kS))} (hk22 : ∀ {v1 : Int32} {v2 : Int32} {v3 : Int32} {v4 : Int32} {k : kS} {H : Heap} {locs : List Loc} {ls : Array Slot} {out : (Int32 × kS)}, kHE s H locs D ad cI cZ cO k mo [] → lv_has ls 5 [(0, .ref (ad B)), (1, .int v1), (2, .int v2), (3, .int v3), (4, .int v4)] → c22 v1 v2 v3 v4 k = some out → W p l e rm_X4_letPass s mm args below meth c H locs 0 0 (kGi below args s D cI cZ cO ad out.1 out.2 mo 0 0) (F0 mm 22 ls [])) {v1 : Int32} {v2 : Int32} {v3 : Int32} {v4 : Int32} {k : kS} {H : Heap} {locs : List Loc} {ls : Array Slot} {out : (Int32 × kS)} (hH : kHE s H locs D ad cI cZ cO k mo []) (hl : lv_has ls 5 [(0, .ref (ad B)), (1, .int v1), (2, .int v2), (3, .int v3), (4, .int v4)]) (hf : F_X4_letPass_64 B c4 c22 v1 v2 v3 v4 k = some out) : W p l e rm_X4_letPass s mm args below meth c H locs 0 0 (kGi below args s D cI cZ cO ad out.1 out.2 mo 0 0) (F0 mm 64 ls []) := by
  have hx := V.1
  have hb := V.2.1
  refine lv_iinc (v := (v4 + 1)) (lv' := [(4, .int (v4 + 1)), (0, .ref (ad B)), (1, .int v1), (2, .int v2), (3, .int v3)]) hx hb dX4_letPass_64 hl (k := 4) rfl rfl (by decide) rfl (fun ls hl => ?_)
  refine lv_goto (tgt := 22) hx hb dX4_letPass_67 (by decide) ?_
  exact hk22 hH (lv_sub hl [1, 2, 3, 4, 0] rfl) hf
set_option maxHeartbeats 4000000 in
set_option maxRecDepth 100000 in
theorem w_X4_letPass_54 (V : kV p s mm args meth c cX4_letPass RX4 5 (some .int) D cI cZ cO) {mo : kS} {B : Nat} (hB : kB B) {c4 : Int32 → Int32 → Int32 → kS → Option ((Int32 × kS))} (hk4 : ∀ {v1 : Int32} {v2 : Int32} {v3 : Int32} {k : kS} {H : Heap} {locs : List Loc} {ls : Array Slot} {out : (Int32 × kS)}, kHE s H locs D ad cI cZ cO k mo [] → lv_has ls 5 [(0, .ref (ad B)), (1, .int v1), (2, .int v2), (3, .int v3)] → c4 v1 v2 v3 k = some out → W p l e rm_X4_letPass s mm args below meth c H locs 0 0 (kGi below args s D cI cZ cO ad out.1 out.2 mo 0 0) (F0 mm 4 ls [])) {c22 : Int32 → Int32 → Int32 → Int32 → kS → Option ((Int32 × kS))} (hk22 : ∀ {v1 : Int32} {v2 : Int32} {v3 : Int32} {v4 : Int32} {k : kS} {H : Heap} {locs : List Loc} {ls : Array Slot} {out : (Int32 × kS)}, kHE s H locs D ad cI cZ cO k mo [] → lv_has ls 5 [(0, .ref (ad B)), (1, .int v1), (2, .int v2), (3, .int v3), (4, .int v4)] → c22 v1 v2 v3 v4 k = some out → W p l e rm_X4_letPass s mm args below meth c H locs 0 0 (kGi below args s D cI cZ cO ad out.1 out.2 mo 0 0) (F0 mm 22 ls [])) {v1 : Int32} {v2 : Int32} {v3 : Int32} {v4 : Int32} {k : kS} {H : Heap} {locs : List Loc} {ls : Array Slot} {out : (Int32 × kS)} (hH : kHE s H locs D ad cI cZ cO k mo []) (hl : lv_has ls 5 [(0, .ref (ad B)), (1, .int v1), (2, .int v2), (3, .int v3), (4, .int v4)]) (hf : F_X4_letPass_54 B c4 c22 v1 v2 v3 v4 k = some out) : W p l e rm_X4_letPass s mm args below meth c H locs 0 0 (kGi below args s D cI cZ cO ad out.1 out.2 mo 0 0) (F0 mm 54 ls []) := by
  have hx := V.1
  have hb := V.2.1
  refine lv_aload_n hx hb dX4_letPass_54 rfl (lv_at hl 0 rfl) ?_
  refine lv_iload hx hb dX4_letPass_55 (lv_at hl 4 rfl) ?_
  obtain ⟨x54_1, hx54_1, hf⟩ := kbind hf
  refine kr_calli0 hH (kr_runV (as := [.int v4]) (rest := []) (pl := B) V hH kYX4_bury kl_X4_125 (c_X4_bury l hB _ hx54_1 _) rfl rfl ⟨Nat.le_of_ble_eq_true rfl, Nat.le_of_ble_eq_true rfl⟩ (kq_B hB) (kE_w0 hB) rfl rfl hl.1 (Nat.le_of_ble_eq_true rfl) dX4_letPass_57 ⟨Nat.le_refl _, Nat.le_refl _⟩ rfl) (fun H locs hH => ?_)
  refine lv_pop hx hb dX4_letPass_60 rfl ?_
  refine lv_iinc (v := (v2 + 1)) (lv' := [(2, .int (v2 + 1)), (0, .ref (ad B)), (1, .int v1), (3, .int v3), (4, .int v4)]) hx hb dX4_letPass_61 hl (k := 2) rfl rfl (by decide) rfl (fun ls hl => ?_)
  exact w_X4_letPass_64 V hB hk4 hk22 hH (lv_sub hl [1, 2, 0, 3, 4] rfl) hf
set_option maxHeartbeats 4000000 in
set_option maxRecDepth 100000 in
theorem w_X4_letPass_43 (V : kV p s mm args meth c cX4_letPass RX4 5 (some .int) D cI cZ cO) {mo : kS} {B : Nat} (hB : kB B) {c4 : Int32 → Int32 → Int32 → kS → Option ((Int32 × kS))} (hk4 : ∀ {v1 : Int32} {v2 : Int32} {v3 : Int32} {k : kS} {H : Heap} {locs : List Loc} {ls : Array Slot} {out : (Int32 × kS)}, kHE s H locs D ad cI cZ cO k mo [] → lv_has ls 5 [(0, .ref (ad B)), (1, .int v1), (2, .int v2), (3, .int v3)] → c4 v1 v2 v3 k = some out → W p l e rm_X4_letPass s mm args below meth c H locs 0 0 (kGi below args s D cI cZ cO ad out.1 out.2 mo 0 0) (F0 mm 4 ls [])) {c22 : Int32 → Int32 → Int32 → Int32 → kS → Option ((Int32 × kS))} (hk22 : ∀ {v1 : Int32} {v2 : Int32} {v3 : Int32} {v4 : Int32} {k : kS} {H : Heap} {locs : List Loc} {ls : Array Slot} {out : (Int32 × kS)}, kHE s H locs D ad cI cZ cO k mo [] → lv_has ls 5 [(0, .ref (ad B)), (1, .int v1), (2, .int v2), (3, .int v3), (4, .int v4)] → c22 v1 v2 v3 v4 k = some out → W p l e rm_X4_letPass s mm args below meth c H locs 0 0 (kGi below args s D cI cZ cO ad out.1 out.2 mo 0 0) (F0 mm 22 ls [])) {v1 : Int32} {v2 : Int32} {v3 : Int32} {v4 : Int32} {k : kS} {H : Heap} {locs : List Loc} {ls : Array Slot} {out : (Int32 × kS)} (hH : kHE s H locs D ad cI cZ cO k mo []) (hl : lv_has ls 5 [(0, .ref (ad B)), (1, .int v1), (2, .int v2), (3, .int v3), (4, .int v4)]) (hf : F_X4_letPass_43 B c4 c22 v1 v2 v3 v4 k = some out) : W p l e rm_X4_letPass s mm args below meth c H locs 0 0 (kGi below args s D cI cZ cO ad out.1 out.2 mo 0 0) (F0 mm 43 ls []) := by
  have hx := V.1
  have hb := V.2.1
  refine lv_aload_n hx hb dX4_letPass_43 rfl (lv_at hl 0 rfl) ?_
  refine lv_iload hx hb dX4_letPass_44 (lv_at hl 4 rfl) ?_
  obtain ⟨x43_1, hx43_1, hf⟩ := kbind hf
  refine kr_calli0 hH (kr_runV (as := [.int v4]) (rest := []) (pl := B) V hH kYX4_age kl_X4_72 (c_X4_age l hB _ hx43_1 _) rfl rfl ⟨Nat.le_of_ble_eq_true rfl, Nat.le_of_ble_eq_true rfl⟩ (kq_B hB) (kE_w0 hB) rfl rfl hl.1 (Nat.le_of_ble_eq_true rfl) dX4_letPass_46 ⟨Nat.le_refl _, Nat.le_refl _⟩ rfl) (fun H locs hH => ?_)
  refine lv_bipush (v := 80) hx hb dX4_letPass_49 (by decide) ?_
  refine lv_icmp_lt (tgt := 64) hx hb dX4_letPass_51 (by decide) (fun hq => ?_) (fun hq => ?_)
  · have hf := kpos hq hf
    exact w_X4_letPass_64 V hB hk4 hk22 hH (lv_sub hl [0, 1, 2, 3, 4] rfl) hf
  · have hf := kneg hq hf
    exact w_X4_letPass_54 V hB hk4 hk22 hH (lv_sub hl [0, 1, 2, 3, 4] rfl) hf
set_option maxHeartbeats 4000000 in
set_option maxRecDepth 100000 in
theorem w_X4_letPass_34 (V : kV p s mm args meth c cX4_letPass RX4 5 (some .int) D cI cZ cO) {mo : kS} {B : Nat} (hB : kB B) {c4 : Int32 → Int32 → Int32 → kS → Option ((Int32 × kS))} (hk4 : ∀ {v1 : Int32} {v2 : Int32} {v3 : Int32} {k : kS} {H : Heap} {locs : List Loc} {ls : Array Slot} {out : (Int32 × kS)}, kHE s H locs D ad cI cZ cO k mo [] → lv_has ls 5 [(0, .ref (ad B)), (1, .int v1), (2, .int v2), (3, .int v3)] → c4 v1 v2 v3 k = some out → W p l e rm_X4_letPass s mm args below meth c H locs 0 0 (kGi below args s D cI cZ cO ad out.1 out.2 mo 0 0) (F0 mm 4 ls [])) {c22 : Int32 → Int32 → Int32 → Int32 → kS → Option ((Int32 × kS))} (hk22 : ∀ {v1 : Int32} {v2 : Int32} {v3 : Int32} {v4 : Int32} {k : kS} {H : Heap} {locs : List Loc} {ls : Array Slot} {out : (Int32 × kS)}, kHE s H locs D ad cI cZ cO k mo [] → lv_has ls 5 [(0, .ref (ad B)), (1, .int v1), (2, .int v2), (3, .int v3), (4, .int v4)] → c22 v1 v2 v3 v4 k = some out → W p l e rm_X4_letPass s mm args below meth c H locs 0 0 (kGi below args s D cI cZ cO ad out.1 out.2 mo 0 0) (F0 mm 22 ls [])) {v1 : Int32} {v2 : Int32} {v3 : Int32} {v4 : Int32} {k : kS} {H : Heap} {locs : List Loc} {ls : Array Slot} {out : (Int32 × kS)} (hH : kHE s H locs D ad cI cZ cO k mo []) (hl : lv_has ls 5 [(0, .ref (ad B)), (1, .int v1), (2, .int v2), (3, .int v3), (4, .int v4)]) (hf : F_X4_letPass_34 B c4 c22 v1 v2 v3 v4 k = some out) : W p l e rm_X4_letPass s mm args below meth c H locs 0 0 (kGi below args s D cI cZ cO ad out.1 out.2 mo 0 0) (F0 mm 34 ls []) := by
  have hx := V.1
  have hb := V.2.1
  refine lv_aload_n hx hb dX4_letPass_34 rfl (lv_at hl 0 rfl) ?_
  refine lv_iload hx hb dX4_letPass_35 (lv_at hl 4 rfl) ?_
  obtain ⟨x34_1, hx34_1, hf⟩ := kbind hf
  refine kr_calli0 hH (kr_runV (as := [.int v4]) (rest := []) (pl := B) V hH kYX4_lives kl_X4_69 (c_X4_lives l hB _ hx34_1 _) rfl rfl ⟨Nat.le_of_ble_eq_true rfl, Nat.le_of_ble_eq_true rfl⟩ (kq_B hB) (kE_w0 hB) rfl rfl hl.1 (Nat.le_of_ble_eq_true rfl) dX4_letPass_37 ⟨Nat.le_refl _, Nat.le_refl _⟩ rfl) (fun H locs hH => ?_)
  refine lv_if_eq (tgt := 64) hx hb dX4_letPass_40 (by decide) (fun hq => ?_) (fun hq => ?_)
  · have hf := kpos hq hf
    exact w_X4_letPass_64 V hB hk4 hk22 hH (lv_sub hl [0, 1, 2, 3, 4] rfl) hf
  · have hf := kneg hq hf
    exact w_X4_letPass_43 V hB hk4 hk22 hH (lv_sub hl [0, 1, 2, 3, 4] rfl) hf
set_option maxHeartbeats 4000000 in
set_option maxRecDepth 100000 in
theorem w_X4_letPass_70 (V : kV p s mm args meth c cX4_letPass RX4 5 (some .int) D cI cZ cO) {mo : kS} {B : Nat} (hB : kB B) {c4 : Int32 → Int32 → Int32 → kS → Option ((Int32 × kS))} (hk4 : ∀ {v1 : Int32} {v2 : Int32} {v3 : Int32} {k : kS} {H : Heap} {locs : List Loc} {ls : Array Slot} {out : (Int32 × kS)}, kHE s H locs D ad cI cZ cO k mo [] → lv_has ls 5 [(0, .ref (ad B)), (1, .int v1), (2, .int v2), (3, .int v3)] → c4 v1 v2 v3 k = some out → W p l e rm_X4_letPass s mm args below meth c H locs 0 0 (kGi below args s D cI cZ cO ad out.1 out.2 mo 0 0) (F0 mm 4 ls [])) {v1 : Int32} {v2 : Int32} {v3 : Int32} {k : kS} {H : Heap} {locs : List Loc} {ls : Array Slot} {out : (Int32 × kS)} (hH : kHE s H locs D ad cI cZ cO k mo []) (hl : lv_has ls 5 [(0, .ref (ad B)), (1, .int v1), (2, .int v2), (3, .int v3)]) (hf : F_X4_letPass_70 B c4 v1 v2 v3 k = some out) : W p l e rm_X4_letPass s mm args below meth c H locs 0 0 (kGi below args s D cI cZ cO ad out.1 out.2 mo 0 0) (F0 mm 70 ls []) := by
  have hx := V.1
  have hb := V.2.1
  refine lv_iinc (v := (v3 + 1)) (lv' := [(3, .int (v3 + 1)), (0, .ref (ad B)), (1, .int v1), (2, .int v2)]) hx hb dX4_letPass_70 hl (k := 3) rfl rfl (by decide) rfl (fun ls hl => ?_)
  refine lv_goto (tgt := 4) hx hb dX4_letPass_73 (by decide) ?_
  exact hk4 hH (lv_sub hl [1, 2, 3, 0] rfl) hf
set_option maxHeartbeats 4000000 in
set_option maxRecDepth 100000 in
theorem w_X4_letPass_22 (V : kV p s mm args meth c cX4_letPass RX4 5 (some .int) D cI cZ cO) {mo : kS} {B : Nat} (hB : kB B) {c4 : Int32 → Int32 → Int32 → kS → Option ((Int32 × kS))} (hk4 : ∀ {v1 : Int32} {v2 : Int32} {v3 : Int32} {k : kS} {H : Heap} {locs : List Loc} {ls : Array Slot} {out : (Int32 × kS)}, kHE s H locs D ad cI cZ cO k mo [] → lv_has ls 5 [(0, .ref (ad B)), (1, .int v1), (2, .int v2), (3, .int v3)] → c4 v1 v2 v3 k = some out → W p l e rm_X4_letPass s mm args below meth c H locs 0 0 (kGi below args s D cI cZ cO ad out.1 out.2 mo 0 0) (F0 mm 4 ls [])) : ∀ (n : Nat) {v1 : Int32} {v2 : Int32} {v3 : Int32} {v4 : Int32} {k : kS} {H : Heap} {locs : List Loc} {ls : Array Slot} {out : (Int32 × kS)}, kHE s H locs D ad cI cZ cO k mo [] → lv_has ls 5 [(0, .ref (ad B)), (1, .int v1), (2, .int v2), (3, .int v3), (4, .int v4)] → F_X4_letPass_22 B c4 n v1 v2 v3 v4 k = some out → W p l e rm_X4_letPass s mm args below meth c H locs 0 0 (kGi below args s D cI cZ cO ad out.1 out.2 mo 0 0) (F0 mm 22 ls []) := by
  have hx := V.1
  have hb := V.2.1
  intro n
  induction n with
  | zero => intro _ _ _ _ _ _ _ _ _ hH hl hf; cases hf
  | succ n hk22 =>
    intro v1 v2 v3 v4 k H locs ls out hH hl hf
    refine lv_iload hx hb dX4_letPass_22 (lv_at hl 4 rfl) ?_
    refine lv_aload_n hx hb dX4_letPass_24 rfl (lv_at hl 0 rfl) ?_
    refine kg_X4_40 hB V hH dX4_letPass_25 ?_
    refine kg_X4_122 V hH dX4_letPass_28 ?_
    refine lv_icmp_ge (tgt := 70) hx hb dX4_letPass_31 (by decide) (fun hq => ?_) (fun hq => ?_)
    · have hf := kpos hq hf
      exact w_X4_letPass_70 V hB hk4 hH (lv_sub hl [0, 1, 2, 3] rfl) hf
    · have hf := kneg hq hf
      exact w_X4_letPass_34 V hB hk4 hk22 hH (lv_sub hl [0, 1, 2, 3, 4] rfl) hf
set_option maxHeartbeats 4000000 in
set_option maxRecDepth 100000 in
theorem w_X4_letPass_9 (V : kV p s mm args meth c cX4_letPass RX4 5 (some .int) D cI cZ cO) {mo : kS} {B : Nat} (hB : kB B) {c4 : Int32 → Int32 → Int32 → kS → Option ((Int32 × kS))} (hk4 : ∀ {v1 : Int32} {v2 : Int32} {v3 : Int32} {k : kS} {H : Heap} {locs : List Loc} {ls : Array Slot} {out : (Int32 × kS)}, kHE s H locs D ad cI cZ cO k mo [] → lv_has ls 5 [(0, .ref (ad B)), (1, .int v1), (2, .int v2), (3, .int v3)] → c4 v1 v2 v3 k = some out → W p l e rm_X4_letPass s mm args below meth c H locs 0 0 (kGi below args s D cI cZ cO ad out.1 out.2 mo 0 0) (F0 mm 4 ls [])) {v1 : Int32} {v2 : Int32} {v3 : Int32} {k : kS} {H : Heap} {locs : List Loc} {ls : Array Slot} {out : (Int32 × kS)} (hH : kHE s H locs D ad cI cZ cO k mo []) (hl : lv_has ls 5 [(0, .ref (ad B)), (1, .int v1), (2, .int v2), (3, .int v3)]) (hf : F_X4_letPass_9 B c4 v1 v2 v3 k = some out) : W p l e rm_X4_letPass s mm args below meth c H locs 0 0 (kGi below args s D cI cZ cO ad out.1 out.2 mo 0 0) (F0 mm 9 ls []) := by
  have hx := V.1
  have hb := V.2.1
  refine lv_aload_n hx hb dX4_letPass_9 rfl (lv_at hl 0 rfl) ?_
  refine lv_dup hx hb dX4_letPass_10 rfl ?_
  refine kg_X4_36 hB V hH dX4_letPass_11 ?_
  refine lv_iconst (v := 1) hx hb dX4_letPass_14 (by decide) ?_
  refine lv_iadd hx hb dX4_letPass_15 ?_
  refine kp_X4_36 hB V hH dX4_letPass_16 (fun H locs hH => ?_)
  refine lv_iconst (v := 0) hx hb dX4_letPass_19 (by decide) ?_
  refine lv_istore (lv' := [(4, .int 0), (0, .ref (ad B)), (1, .int v1), (2, .int v2), (3, .int v3)]) hx hb dX4_letPass_20 hl (by decide) rfl (fun ls hl => ?_)
  exact w_X4_letPass_22 V hB hk4 kN hH (lv_sub hl [1, 2, 3, 4, 0] rfl) hf
set_option maxHeartbeats 4000000 in
set_option maxRecDepth 100000 in
theorem w_X4_letPass_76 (V : kV p s mm args meth c cX4_letPass RX4 5 (some .int) D cI cZ cO) {mo : kS} {B : Nat} (hB : kB B) {v2 : Int32} {k : kS} {H : Heap} {locs : List Loc} {ls : Array Slot} {out : (Int32 × kS)} (hH : kHE s H locs D ad cI cZ cO k mo []) (hl : lv_has ls 5 [(2, .int v2)]) (hf : F_X4_letPass_76 B v2 k = some out) : W p l e rm_X4_letPass s mm args below meth c H locs 0 0 (kGi below args s D cI cZ cO ad out.1 out.2 mo 0 0) (F0 mm 76 ls []) := by
  have hx := V.1
  have hb := V.2.1
  refine lv_iload_n hx hb dX4_letPass_76 rfl (lv_at hl 0 rfl) ?_
  cases hf
  exact kr_iret V hH dX4_letPass_77
set_option maxHeartbeats 4000000 in
set_option maxRecDepth 100000 in
theorem w_X4_letPass_4 (V : kV p s mm args meth c cX4_letPass RX4 5 (some .int) D cI cZ cO) {mo : kS} {B : Nat} (hB : kB B) : ∀ (n : Nat) {v1 : Int32} {v2 : Int32} {v3 : Int32} {k : kS} {H : Heap} {locs : List Loc} {ls : Array Slot} {out : (Int32 × kS)}, kHE s H locs D ad cI cZ cO k mo [] → lv_has ls 5 [(0, .ref (ad B)), (1, .int v1), (2, .int v2), (3, .int v3)] → F_X4_letPass_4 B n v1 v2 v3 k = some out → W p l e rm_X4_letPass s mm args below meth c H locs 0 0 (kGi below args s D cI cZ cO ad out.1 out.2 mo 0 0) (F0 mm 4 ls []) := by
  have hx := V.1
  have hb := V.2.1
  intro n
  induction n with
  | zero => intro _ _ _ _ _ _ _ _ hH hl hf; cases hf
  | succ n hk4 =>
    intro v1 v2 v3 k H locs ls out hH hl hf
    refine lv_iload_n hx hb dX4_letPass_4 rfl (lv_at hl 3 rfl) ?_
    refine lv_iload_n hx hb dX4_letPass_5 rfl (lv_at hl 1 rfl) ?_
    refine lv_icmp_ge (tgt := 76) hx hb dX4_letPass_6 (by decide) (fun hq => ?_) (fun hq => ?_)
    · have hf := kpos hq hf
      exact w_X4_letPass_76 V hB hH (lv_sub hl [2] rfl) hf
    · have hf := kneg hq hf
      exact w_X4_letPass_9 V hB hk4 hH (lv_sub hl [0, 1, 2, 3] rfl) hf
set_option maxHeartbeats 4000000 in
set_option maxRecDepth 100000 in
theorem w_X4_letPass_0 (V : kV p s mm args meth c cX4_letPass RX4 5 (some .int) D cI cZ cO) {mo : kS} {B : Nat} (hB : kB B) {v1 : Int32} {k : kS} {H : Heap} {locs : List Loc} {ls : Array Slot} {out : (Int32 × kS)} (hH : kHE s H locs D ad cI cZ cO k mo []) (hl : lv_has ls 5 [(0, .ref (ad B)), (1, .int v1)]) (hf : F_X4_letPass_0 B v1 k = some out) : W p l e rm_X4_letPass s mm args below meth c H locs 0 0 (kGi below args s D cI cZ cO ad out.1 out.2 mo 0 0) (F0 mm 0 ls []) := by
  have hx := V.1
  have hb := V.2.1
  refine lv_iconst (v := 0) hx hb dX4_letPass_0 (by decide) ?_
  refine lv_istore_n (lv' := [(2, .int 0), (0, .ref (ad B)), (1, .int v1)]) hx hb dX4_letPass_1 rfl hl (by decide) rfl (fun ls hl => ?_)
  refine lv_iconst (v := 0) hx hb dX4_letPass_2 (by decide) ?_
  refine lv_istore_n (lv' := [(3, .int 0), (2, .int 0), (0, .ref (ad B)), (1, .int v1)]) hx hb dX4_letPass_3 rfl hl (by decide) rfl (fun ls hl => ?_)
  exact w_X4_letPass_4 V hB kN hH (lv_sub hl [2, 3, 1, 0] rfl) hf
set_option maxHeartbeats 4000000 in
set_option maxRecDepth 100000 in
theorem c_X4_letPass (l : Launch) {D : va_G} {cI cZ cO : ClassId} {ad : Nat → Nat} {k mo : kS} {B : Nat} (hB : kB B) (v1 : Int32) {out : (Int32 × kS)} (hf : F_X4_letPass B v1 k = some out) (sz : Nat) : Met l yX4_letPass (Cond.code yX4_letPass cX4_letPass 5 (some .int) :: kWA) rm_X4_letPass (kP [.ref (ad B), .int v1] D cI cZ cO ad (kE ad cI cZ cO k mo) sz) (kQi out.1 D cI cZ cO ad (kE ad cI cZ cO out.2 mo) sz) 0 0 (fA ad sz) := by
  refine kr_met (as := [.ref (ad B), .int v1]) (bytes := cX4_letPass) (maxL := 5) (rt := (some .int)) (Qc := fun sz => kQi out.1 D cI cZ cO ad (kE ad cI cZ cO out.2 mo) sz) (lv := [(0, .ref (ad B)), (1, .int v1)]) (by decide +kernel) (Nat.le_of_ble_eq_true rfl) rfl (fun p e s mm below meth c ls V hH hl => ?_) sz
  exact w_X4_letPass_0 V hB hH (lv_sub hl [0, 1] rfl) hf
end
section
variable {p : Program} {l : Launch} {e : Env} {s : State} {mm : MethodId} {args : Array Value} {below : List Frame} {meth : Method} {c : Code} {D : va_G} {cI cZ cO : ClassId} {ad : Nat → Nat}
abbrev rm_X4_nearestGrown : Room := { frames := 2, cells := 0, slots := 0, locals := 43 }
set_option maxHeartbeats 4000000 in
set_option maxRecDepth 100000 in
theorem w_X4_nearestGrown_93 (V : kV p s mm args meth c cX4_nearestGrown RX4 6 (some .int) D cI cZ cO) {k mo : kS} {B : Nat} (hB : kB B) {c7 : Int32 → Int32 → Int32 → Int32 → Option (Int32)} (hk7 : ∀ {v1 : Int32} {v2 : Int32} {v3 : Int32} {v4 : Int32} {H : Heap} {locs : List Loc} {ls : Array Slot} {out : Int32}, kHE s H locs D ad cI cZ cO k mo [] → lv_has ls 6 [(0, .ref (ad B)), (1, .int v1), (2, .int v2), (3, .int v3), (4, .int v4)] → c7 v1 v2 v3 v4 = some out → W p l e rm_X4_nearestGrown s mm args below meth c H locs 0 0 (kGi below args s D cI cZ cO ad out k mo 0 0) (F0 mm 7 ls [])) {v1 : Int32} {v2 : Int32} {v3 : Int32} {v4 : Int32} {H : Heap} {locs : List Loc} {ls : Array Slot} {out : Int32} (hH : kHE s H locs D ad cI cZ cO k mo []) (hl : lv_has ls 6 [(0, .ref (ad B)), (1, .int v1), (2, .int v2), (3, .int v3), (4, .int v4)]) (hf : F_X4_nearestGrown_93 B k c7 v1 v2 v3 v4 = some out) : W p l e rm_X4_nearestGrown s mm args below meth c H locs 0 0 (kGi below args s D cI cZ cO ad out k mo 0 0) (F0 mm 93 ls []) := by
  have hx := V.1
  have hb := V.2.1
  refine lv_iinc (v := (v4 + 1)) (lv' := [(4, .int (v4 + 1)), (0, .ref (ad B)), (1, .int v1), (2, .int v2), (3, .int v3)]) hx hb dX4_nearestGrown_93 hl (k := 4) rfl rfl (by decide) rfl (fun ls hl => ?_)
  refine lv_goto (tgt := 7) hx hb dX4_nearestGrown_96 (by decide) ?_
  exact hk7 hH (lv_sub hl [1, 2, 3, 4, 0] rfl) hf
set_option maxHeartbeats 4000000 in
set_option maxRecDepth 100000 in
theorem w_X4_nearestGrown_87 (V : kV p s mm args meth c cX4_nearestGrown RX4 6 (some .int) D cI cZ cO) {k mo : kS} {B : Nat} (hB : kB B) {c7 : Int32 → Int32 → Int32 → Int32 → Option (Int32)} (hk7 : ∀ {v1 : Int32} {v2 : Int32} {v3 : Int32} {v4 : Int32} {H : Heap} {locs : List Loc} {ls : Array Slot} {out : Int32}, kHE s H locs D ad cI cZ cO k mo [] → lv_has ls 6 [(0, .ref (ad B)), (1, .int v1), (2, .int v2), (3, .int v3), (4, .int v4)] → c7 v1 v2 v3 v4 = some out → W p l e rm_X4_nearestGrown s mm args below meth c H locs 0 0 (kGi below args s D cI cZ cO ad out k mo 0 0) (F0 mm 7 ls [])) {v1 : Int32} {v4 : Int32} {v5 : Int32} {H : Heap} {locs : List Loc} {ls : Array Slot} {out : Int32} (hH : kHE s H locs D ad cI cZ cO k mo []) (hl : lv_has ls 6 [(0, .ref (ad B)), (1, .int v1), (4, .int v4), (5, .int v5)]) (hf : F_X4_nearestGrown_87 B k c7 v1 v4 v5 = some out) : W p l e rm_X4_nearestGrown s mm args below meth c H locs 0 0 (kGi below args s D cI cZ cO ad out k mo 0 0) (F0 mm 87 ls []) := by
  have hx := V.1
  have hb := V.2.1
  refine lv_iload hx hb dX4_nearestGrown_87 (lv_at hl 2 rfl) ?_
  refine lv_istore_n (lv' := [(2, .int v4), (0, .ref (ad B)), (1, .int v1), (4, .int v4), (5, .int v5)]) hx hb dX4_nearestGrown_89 rfl hl (by decide) rfl (fun ls hl => ?_)
  refine lv_iload hx hb dX4_nearestGrown_90 (lv_at hl 4 rfl) ?_
  refine lv_istore_n (lv' := [(3, .int v5), (2, .int v4), (0, .ref (ad B)), (1, .int v1), (4, .int v4), (5, .int v5)]) hx hb dX4_nearestGrown_92 rfl hl (by decide) rfl (fun ls hl => ?_)
  exact w_X4_nearestGrown_93 V hB hk7 hH (lv_sub hl [2, 3, 1, 0, 4] rfl) hf
set_option maxHeartbeats 4000000 in
set_option maxRecDepth 100000 in
theorem w_X4_nearestGrown_74 (V : kV p s mm args meth c cX4_nearestGrown RX4 6 (some .int) D cI cZ cO) {k mo : kS} {B : Nat} (hB : kB B) {c7 : Int32 → Int32 → Int32 → Int32 → Option (Int32)} (hk7 : ∀ {v1 : Int32} {v2 : Int32} {v3 : Int32} {v4 : Int32} {H : Heap} {locs : List Loc} {ls : Array Slot} {out : Int32}, kHE s H locs D ad cI cZ cO k mo [] → lv_has ls 6 [(0, .ref (ad B)), (1, .int v1), (2, .int v2), (3, .int v3), (4, .int v4)] → c7 v1 v2 v3 v4 = some out → W p l e rm_X4_nearestGrown s mm args below meth c H locs 0 0 (kGi below args s D cI cZ cO ad out k mo 0 0) (F0 mm 7 ls [])) {v1 : Int32} {v2 : Int32} {v3 : Int32} {v4 : Int32} {v5 : Int32} {H : Heap} {locs : List Loc} {ls : Array Slot} {out : Int32} (hH : kHE s H locs D ad cI cZ cO k mo []) (hl : lv_has ls 6 [(0, .ref (ad B)), (1, .int v1), (2, .int v2), (3, .int v3), (4, .int v4), (5, .int v5)]) (hf : F_X4_nearestGrown_74 B k c7 v1 v2 v3 v4 v5 = some out) : W p l e rm_X4_nearestGrown s mm args below meth c H locs 0 0 (kGi below args s D cI cZ cO ad out k mo 0 0) (F0 mm 74 ls []) := by
  have hx := V.1
  have hb := V.2.1
  refine lv_aload_n hx hb dX4_nearestGrown_74 rfl (lv_at hl 0 rfl) ?_
  refine kg_X4_40 hB V hH dX4_nearestGrown_75 ?_
  refine lv_iload hx hb dX4_nearestGrown_78 (lv_at hl 4 rfl) ?_
  refine lv_iload_n hx hb dX4_nearestGrown_80 rfl (lv_at hl 2 rfl) ?_
  obtain ⟨x74_1, hx74_1, hf⟩ := kbind hf
  refine kr_calli0 hH (kr_runV (as := [.int v4, .int v2]) (rest := []) (pl := 1) V hH kYX0_isBefore kl_X4_147 (c_X0_isBefore l _ _ hx74_1 _) rfl rfl ⟨Nat.le_of_ble_eq_true rfl, Nat.le_of_ble_eq_true rfl⟩ (by decide) kE_1 rfl rfl hl.1 (Nat.le_of_ble_eq_true rfl) dX4_nearestGrown_81 ⟨Nat.le_refl _, Nat.le_refl _⟩ rfl) (fun H locs hH => ?_)
  refine lv_if_eq (tgt := 93) hx hb dX4_nearestGrown_84 (by decide) (fun hq => ?_) (fun hq => ?_)
  · have hf := kpos hq hf
    exact w_X4_nearestGrown_93 V hB hk7 hH (lv_sub hl [0, 1, 2, 3, 4] rfl) hf
  · have hf := kneg hq hf
    exact w_X4_nearestGrown_87 V hB hk7 hH (lv_sub hl [0, 1, 4, 5] rfl) hf
set_option maxHeartbeats 4000000 in
set_option maxRecDepth 100000 in
theorem w_X4_nearestGrown_68 (V : kV p s mm args meth c cX4_nearestGrown RX4 6 (some .int) D cI cZ cO) {k mo : kS} {B : Nat} (hB : kB B) {c7 : Int32 → Int32 → Int32 → Int32 → Option (Int32)} (hk7 : ∀ {v1 : Int32} {v2 : Int32} {v3 : Int32} {v4 : Int32} {H : Heap} {locs : List Loc} {ls : Array Slot} {out : Int32}, kHE s H locs D ad cI cZ cO k mo [] → lv_has ls 6 [(0, .ref (ad B)), (1, .int v1), (2, .int v2), (3, .int v3), (4, .int v4)] → c7 v1 v2 v3 v4 = some out → W p l e rm_X4_nearestGrown s mm args below meth c H locs 0 0 (kGi below args s D cI cZ cO ad out k mo 0 0) (F0 mm 7 ls [])) {v1 : Int32} {v2 : Int32} {v3 : Int32} {v4 : Int32} {v5 : Int32} {H : Heap} {locs : List Loc} {ls : Array Slot} {out : Int32} (hH : kHE s H locs D ad cI cZ cO k mo []) (hl : lv_has ls 6 [(0, .ref (ad B)), (1, .int v1), (2, .int v2), (3, .int v3), (4, .int v4), (5, .int v5)]) (hf : F_X4_nearestGrown_68 B k c7 v1 v2 v3 v4 v5 = some out) : W p l e rm_X4_nearestGrown s mm args below meth c H locs 0 0 (kGi below args s D cI cZ cO ad out k mo 0 0) (F0 mm 68 ls []) := by
  have hx := V.1
  have hb := V.2.1
  refine lv_iload hx hb dX4_nearestGrown_68 (lv_at hl 5 rfl) ?_
  refine lv_iload_n hx hb dX4_nearestGrown_70 rfl (lv_at hl 3 rfl) ?_
  refine lv_icmp_ne (tgt := 93) hx hb dX4_nearestGrown_71 (by decide) (fun hq => ?_) (fun hq => ?_)
  · have hf := kneg hq hf
    exact w_X4_nearestGrown_93 V hB hk7 hH (lv_sub hl [0, 1, 2, 3, 4] rfl) hf
  · have hf := kpos hq hf
    exact w_X4_nearestGrown_74 V hB hk7 hH (lv_sub hl [0, 1, 2, 3, 4, 5] rfl) hf
set_option maxHeartbeats 4000000 in
set_option maxRecDepth 100000 in
theorem w_X4_nearestGrown_62 (V : kV p s mm args meth c cX4_nearestGrown RX4 6 (some .int) D cI cZ cO) {k mo : kS} {B : Nat} (hB : kB B) {c7 : Int32 → Int32 → Int32 → Int32 → Option (Int32)} (hk7 : ∀ {v1 : Int32} {v2 : Int32} {v3 : Int32} {v4 : Int32} {H : Heap} {locs : List Loc} {ls : Array Slot} {out : Int32}, kHE s H locs D ad cI cZ cO k mo [] → lv_has ls 6 [(0, .ref (ad B)), (1, .int v1), (2, .int v2), (3, .int v3), (4, .int v4)] → c7 v1 v2 v3 v4 = some out → W p l e rm_X4_nearestGrown s mm args below meth c H locs 0 0 (kGi below args s D cI cZ cO ad out k mo 0 0) (F0 mm 7 ls [])) {v1 : Int32} {v2 : Int32} {v3 : Int32} {v4 : Int32} {v5 : Int32} {H : Heap} {locs : List Loc} {ls : Array Slot} {out : Int32} (hH : kHE s H locs D ad cI cZ cO k mo []) (hl : lv_has ls 6 [(0, .ref (ad B)), (1, .int v1), (2, .int v2), (3, .int v3), (4, .int v4), (5, .int v5)]) (hf : F_X4_nearestGrown_62 B k c7 v1 v2 v3 v4 v5 = some out) : W p l e rm_X4_nearestGrown s mm args below meth c H locs 0 0 (kGi below args s D cI cZ cO ad out k mo 0 0) (F0 mm 62 ls []) := by
  have hx := V.1
  have hb := V.2.1
  refine lv_iload hx hb dX4_nearestGrown_62 (lv_at hl 5 rfl) ?_
  refine lv_iload_n hx hb dX4_nearestGrown_64 rfl (lv_at hl 3 rfl) ?_
  refine lv_icmp_lt (tgt := 87) hx hb dX4_nearestGrown_65 (by decide) (fun hq => ?_) (fun hq => ?_)
  · have hf := kpos hq hf
    exact w_X4_nearestGrown_87 V hB hk7 hH (lv_sub hl [0, 1, 4, 5] rfl) hf
  · have hf := kneg hq hf
    exact w_X4_nearestGrown_68 V hB hk7 hH (lv_sub hl [0, 1, 2, 3, 4, 5] rfl) hf
set_option maxHeartbeats 4000000 in
set_option maxRecDepth 100000 in
theorem w_X4_nearestGrown_57 (V : kV p s mm args meth c cX4_nearestGrown RX4 6 (some .int) D cI cZ cO) {k mo : kS} {B : Nat} (hB : kB B) {c7 : Int32 → Int32 → Int32 → Int32 → Option (Int32)} (hk7 : ∀ {v1 : Int32} {v2 : Int32} {v3 : Int32} {v4 : Int32} {H : Heap} {locs : List Loc} {ls : Array Slot} {out : Int32}, kHE s H locs D ad cI cZ cO k mo [] → lv_has ls 6 [(0, .ref (ad B)), (1, .int v1), (2, .int v2), (3, .int v3), (4, .int v4)] → c7 v1 v2 v3 v4 = some out → W p l e rm_X4_nearestGrown s mm args below meth c H locs 0 0 (kGi below args s D cI cZ cO ad out k mo 0 0) (F0 mm 7 ls [])) {v1 : Int32} {v2 : Int32} {v3 : Int32} {v4 : Int32} {v5 : Int32} {H : Heap} {locs : List Loc} {ls : Array Slot} {out : Int32} (hH : kHE s H locs D ad cI cZ cO k mo []) (hl : lv_has ls 6 [(0, .ref (ad B)), (1, .int v1), (2, .int v2), (3, .int v3), (4, .int v4), (5, .int v5)]) (hf : F_X4_nearestGrown_57 B k c7 v1 v2 v3 v4 v5 = some out) : W p l e rm_X4_nearestGrown s mm args below meth c H locs 0 0 (kGi below args s D cI cZ cO ad out k mo 0 0) (F0 mm 57 ls []) := by
  have hx := V.1
  have hb := V.2.1
  refine lv_iload_n hx hb dX4_nearestGrown_57 rfl (lv_at hl 2 rfl) ?_
  refine lv_iconst (v := (-1)) hx hb dX4_nearestGrown_58 (by decide) ?_
  refine lv_icmp_eq (tgt := 87) hx hb dX4_nearestGrown_59 (by decide) (fun hq => ?_) (fun hq => ?_)
  · have hf := kpos hq hf
    exact w_X4_nearestGrown_87 V hB hk7 hH (lv_sub hl [0, 1, 4, 5] rfl) hf
  · have hf := kneg hq hf
    exact w_X4_nearestGrown_62 V hB hk7 hH (lv_sub hl [0, 1, 2, 3, 4, 5] rfl) hf
set_option maxHeartbeats 4000000 in
set_option maxRecDepth 100000 in
theorem w_X4_nearestGrown_46 (V : kV p s mm args meth c cX4_nearestGrown RX4 6 (some .int) D cI cZ cO) {k mo : kS} {B : Nat} (hB : kB B) {c7 : Int32 → Int32 → Int32 → Int32 → Option (Int32)} (hk7 : ∀ {v1 : Int32} {v2 : Int32} {v3 : Int32} {v4 : Int32} {H : Heap} {locs : List Loc} {ls : Array Slot} {out : Int32}, kHE s H locs D ad cI cZ cO k mo [] → lv_has ls 6 [(0, .ref (ad B)), (1, .int v1), (2, .int v2), (3, .int v3), (4, .int v4)] → c7 v1 v2 v3 v4 = some out → W p l e rm_X4_nearestGrown s mm args below meth c H locs 0 0 (kGi below args s D cI cZ cO ad out k mo 0 0) (F0 mm 7 ls [])) {v1 : Int32} {v2 : Int32} {v3 : Int32} {v4 : Int32} {v5 : Int32} {H : Heap} {locs : List Loc} {ls : Array Slot} {out : Int32} (hH : kHE s H locs D ad cI cZ cO k mo []) (hl : lv_has ls 6 [(0, .ref (ad B)), (1, .int v1), (2, .int v2), (3, .int v3), (4, .int v4), (5, .int v5)]) (hf : F_X4_nearestGrown_46 B k c7 v1 v2 v3 v4 v5 = some out) : W p l e rm_X4_nearestGrown s mm args below meth c H locs 0 0 (kGi below args s D cI cZ cO ad out k mo 0 0) (F0 mm 46 ls []) := by
  have hx := V.1
  have hb := V.2.1
  refine lv_aload_n hx hb dX4_nearestGrown_46 rfl (lv_at hl 0 rfl) ?_
  refine lv_iload hx hb dX4_nearestGrown_47 (lv_at hl 4 rfl) ?_
  obtain ⟨x46_1, hx46_1, hf⟩ := kbind hf
  refine kr_calli0 hH (kr_runV (as := [.int v4]) (rest := []) (pl := B) V hH kYX4_age kl_X4_72 (c_X4_age l hB _ hx46_1 _) rfl rfl ⟨Nat.le_of_ble_eq_true rfl, Nat.le_of_ble_eq_true rfl⟩ (kq_B hB) (kE_w0 hB) rfl rfl hl.1 (Nat.le_of_ble_eq_true rfl) dX4_nearestGrown_49 ⟨Nat.le_refl _, Nat.le_refl _⟩ rfl) (fun H locs hH => ?_)
  refine lv_bipush (v := 16) hx hb dX4_nearestGrown_52 (by decide) ?_
  refine lv_icmp_lt (tgt := 93) hx hb dX4_nearestGrown_54 (by decide) (fun hq => ?_) (fun hq => ?_)
  · have hf := kpos hq hf
    exact w_X4_nearestGrown_93 V hB hk7 hH (lv_sub hl [0, 1, 2, 3, 4] rfl) hf
  · have hf := kneg hq hf
    exact w_X4_nearestGrown_57 V hB hk7 hH (lv_sub hl [0, 1, 2, 3, 4, 5] rfl) hf
set_option maxHeartbeats 4000000 in
set_option maxRecDepth 100000 in
theorem w_X4_nearestGrown_37 (V : kV p s mm args meth c cX4_nearestGrown RX4 6 (some .int) D cI cZ cO) {k mo : kS} {B : Nat} (hB : kB B) {c7 : Int32 → Int32 → Int32 → Int32 → Option (Int32)} (hk7 : ∀ {v1 : Int32} {v2 : Int32} {v3 : Int32} {v4 : Int32} {H : Heap} {locs : List Loc} {ls : Array Slot} {out : Int32}, kHE s H locs D ad cI cZ cO k mo [] → lv_has ls 6 [(0, .ref (ad B)), (1, .int v1), (2, .int v2), (3, .int v3), (4, .int v4)] → c7 v1 v2 v3 v4 = some out → W p l e rm_X4_nearestGrown s mm args below meth c H locs 0 0 (kGi below args s D cI cZ cO ad out k mo 0 0) (F0 mm 7 ls [])) {v1 : Int32} {v2 : Int32} {v3 : Int32} {v4 : Int32} {v5 : Int32} {H : Heap} {locs : List Loc} {ls : Array Slot} {out : Int32} (hH : kHE s H locs D ad cI cZ cO k mo []) (hl : lv_has ls 6 [(0, .ref (ad B)), (1, .int v1), (2, .int v2), (3, .int v3), (4, .int v4), (5, .int v5)]) (hf : F_X4_nearestGrown_37 B k c7 v1 v2 v3 v4 v5 = some out) : W p l e rm_X4_nearestGrown s mm args below meth c H locs 0 0 (kGi below args s D cI cZ cO ad out k mo 0 0) (F0 mm 37 ls []) := by
  have hx := V.1
  have hb := V.2.1
  refine lv_aload_n hx hb dX4_nearestGrown_37 rfl (lv_at hl 0 rfl) ?_
  refine lv_iload hx hb dX4_nearestGrown_38 (lv_at hl 4 rfl) ?_
  obtain ⟨x37_1, hx37_1, hf⟩ := kbind hf
  refine kr_calli0 hH (kr_runV (as := [.int v4]) (rest := []) (pl := B) V hH kYX4_lives kl_X4_69 (c_X4_lives l hB _ hx37_1 _) rfl rfl ⟨Nat.le_of_ble_eq_true rfl, Nat.le_of_ble_eq_true rfl⟩ (kq_B hB) (kE_w0 hB) rfl rfl hl.1 (Nat.le_of_ble_eq_true rfl) dX4_nearestGrown_40 ⟨Nat.le_refl _, Nat.le_refl _⟩ rfl) (fun H locs hH => ?_)
  refine lv_if_eq (tgt := 93) hx hb dX4_nearestGrown_43 (by decide) (fun hq => ?_) (fun hq => ?_)
  · have hf := kpos hq hf
    exact w_X4_nearestGrown_93 V hB hk7 hH (lv_sub hl [0, 1, 2, 3, 4] rfl) hf
  · have hf := kneg hq hf
    exact w_X4_nearestGrown_46 V hB hk7 hH (lv_sub hl [0, 1, 2, 3, 4, 5] rfl) hf
set_option maxHeartbeats 4000000 in
set_option maxRecDepth 100000 in
theorem w_X4_nearestGrown_19 (V : kV p s mm args meth c cX4_nearestGrown RX4 6 (some .int) D cI cZ cO) {k mo : kS} {B : Nat} (hB : kB B) {c7 : Int32 → Int32 → Int32 → Int32 → Option (Int32)} (hk7 : ∀ {v1 : Int32} {v2 : Int32} {v3 : Int32} {v4 : Int32} {H : Heap} {locs : List Loc} {ls : Array Slot} {out : Int32}, kHE s H locs D ad cI cZ cO k mo [] → lv_has ls 6 [(0, .ref (ad B)), (1, .int v1), (2, .int v2), (3, .int v3), (4, .int v4)] → c7 v1 v2 v3 v4 = some out → W p l e rm_X4_nearestGrown s mm args below meth c H locs 0 0 (kGi below args s D cI cZ cO ad out k mo 0 0) (F0 mm 7 ls [])) {v1 : Int32} {v2 : Int32} {v3 : Int32} {v4 : Int32} {H : Heap} {locs : List Loc} {ls : Array Slot} {out : Int32} (hH : kHE s H locs D ad cI cZ cO k mo []) (hl : lv_has ls 6 [(0, .ref (ad B)), (1, .int v1), (2, .int v2), (3, .int v3), (4, .int v4)]) (hf : F_X4_nearestGrown_19 B k c7 v1 v2 v3 v4 = some out) : W p l e rm_X4_nearestGrown s mm args below meth c H locs 0 0 (kGi below args s D cI cZ cO ad out k mo 0 0) (F0 mm 19 ls []) := by
  have hx := V.1
  have hb := V.2.1
  refine lv_aload_n hx hb dX4_nearestGrown_19 rfl (lv_at hl 0 rfl) ?_
  refine kg_X4_40 hB V hH dX4_nearestGrown_20 ?_
  refine lv_iload hx hb dX4_nearestGrown_23 (lv_at hl 4 rfl) ?_
  refine lv_iload_n hx hb dX4_nearestGrown_25 rfl (lv_at hl 1 rfl) ?_
  obtain ⟨x19_1, hx19_1, hf⟩ := kbind hf
  refine kr_calli0 hH (kr_runV (as := [.int v4, .int v1]) (rest := []) (pl := 1) V hH kYX0_stepsBetween kl_X4_86 (c_X0_stepsBetween l _ _ hx19_1 _) rfl rfl ⟨Nat.le_of_ble_eq_true rfl, Nat.le_of_ble_eq_true rfl⟩ (by decide) kE_1 rfl rfl hl.1 (Nat.le_of_ble_eq_true rfl) dX4_nearestGrown_26 ⟨Nat.le_refl _, Nat.le_refl _⟩ rfl) (fun H locs hH => ?_)
  refine lv_istore (lv' := [(5, .int x19_1), (0, .ref (ad B)), (1, .int v1), (2, .int v2), (3, .int v3), (4, .int v4)]) hx hb dX4_nearestGrown_29 hl (by decide) rfl (fun ls hl => ?_)
  refine lv_iload hx hb dX4_nearestGrown_31 (lv_at hl 0 rfl) ?_
  refine lv_iconst (v := (-1)) hx hb dX4_nearestGrown_33 (by decide) ?_
  refine lv_icmp_eq (tgt := 93) hx hb dX4_nearestGrown_34 (by decide) (fun hq => ?_) (fun hq => ?_)
  · have hf := kpos hq hf
    exact w_X4_nearestGrown_93 V hB hk7 hH (lv_sub hl [1, 2, 3, 4, 5] rfl) hf
  · have hf := kneg hq hf
    exact w_X4_nearestGrown_37 V hB hk7 hH (lv_sub hl [1, 2, 3, 4, 5, 0] rfl) hf
set_option maxHeartbeats 4000000 in
set_option maxRecDepth 100000 in
theorem w_X4_nearestGrown_99 (V : kV p s mm args meth c cX4_nearestGrown RX4 6 (some .int) D cI cZ cO) {k mo : kS} {B : Nat} (hB : kB B) {v2 : Int32} {H : Heap} {locs : List Loc} {ls : Array Slot} {out : Int32} (hH : kHE s H locs D ad cI cZ cO k mo []) (hl : lv_has ls 6 [(2, .int v2)]) (hf : F_X4_nearestGrown_99 B k v2 = some out) : W p l e rm_X4_nearestGrown s mm args below meth c H locs 0 0 (kGi below args s D cI cZ cO ad out k mo 0 0) (F0 mm 99 ls []) := by
  have hx := V.1
  have hb := V.2.1
  refine lv_iload_n hx hb dX4_nearestGrown_99 rfl (lv_at hl 0 rfl) ?_
  cases hf
  exact kr_iret V hH dX4_nearestGrown_100
set_option maxHeartbeats 4000000 in
set_option maxRecDepth 100000 in
theorem w_X4_nearestGrown_7 (V : kV p s mm args meth c cX4_nearestGrown RX4 6 (some .int) D cI cZ cO) {k mo : kS} {B : Nat} (hB : kB B) : ∀ (n : Nat) {v1 : Int32} {v2 : Int32} {v3 : Int32} {v4 : Int32} {H : Heap} {locs : List Loc} {ls : Array Slot} {out : Int32}, kHE s H locs D ad cI cZ cO k mo [] → lv_has ls 6 [(0, .ref (ad B)), (1, .int v1), (2, .int v2), (3, .int v3), (4, .int v4)] → F_X4_nearestGrown_7 B k n v1 v2 v3 v4 = some out → W p l e rm_X4_nearestGrown s mm args below meth c H locs 0 0 (kGi below args s D cI cZ cO ad out k mo 0 0) (F0 mm 7 ls []) := by
  have hx := V.1
  have hb := V.2.1
  intro n
  induction n with
  | zero => intro _ _ _ _ _ _ _ _ hH hl hf; cases hf
  | succ n hk7 =>
    intro v1 v2 v3 v4 H locs ls out hH hl hf
    refine lv_iload hx hb dX4_nearestGrown_7 (lv_at hl 4 rfl) ?_
    refine lv_aload_n hx hb dX4_nearestGrown_9 rfl (lv_at hl 0 rfl) ?_
    refine kg_X4_40 hB V hH dX4_nearestGrown_10 ?_
    refine kg_X4_122 V hH dX4_nearestGrown_13 ?_
    refine lv_icmp_ge (tgt := 99) hx hb dX4_nearestGrown_16 (by decide) (fun hq => ?_) (fun hq => ?_)
    · have hf := kpos hq hf
      exact w_X4_nearestGrown_99 V hB hH (lv_sub hl [2] rfl) hf
    · have hf := kneg hq hf
      exact w_X4_nearestGrown_19 V hB hk7 hH (lv_sub hl [0, 1, 2, 3, 4] rfl) hf
set_option maxHeartbeats 4000000 in
set_option maxRecDepth 100000 in
theorem w_X4_nearestGrown_0 (V : kV p s mm args meth c cX4_nearestGrown RX4 6 (some .int) D cI cZ cO) {k mo : kS} {B : Nat} (hB : kB B) {v1 : Int32} {H : Heap} {locs : List Loc} {ls : Array Slot} {out : Int32} (hH : kHE s H locs D ad cI cZ cO k mo []) (hl : lv_has ls 6 [(0, .ref (ad B)), (1, .int v1)]) (hf : F_X4_nearestGrown_0 B k v1 = some out) : W p l e rm_X4_nearestGrown s mm args below meth c H locs 0 0 (kGi below args s D cI cZ cO ad out k mo 0 0) (F0 mm 0 ls []) := by
  have hx := V.1
  have hb := V.2.1
  refine lv_iconst (v := (-1)) hx hb dX4_nearestGrown_0 (by decide) ?_
  refine lv_istore_n (lv' := [(2, .int (-1)), (0, .ref (ad B)), (1, .int v1)]) hx hb dX4_nearestGrown_1 rfl hl (by decide) rfl (fun ls hl => ?_)
  refine lv_iconst (v := (-1)) hx hb dX4_nearestGrown_2 (by decide) ?_
  refine lv_istore_n (lv' := [(3, .int (-1)), (2, .int (-1)), (0, .ref (ad B)), (1, .int v1)]) hx hb dX4_nearestGrown_3 rfl hl (by decide) rfl (fun ls hl => ?_)
  refine lv_iconst (v := 0) hx hb dX4_nearestGrown_4 (by decide) ?_
  refine lv_istore (lv' := [(4, .int 0), (3, .int (-1)), (2, .int (-1)), (0, .ref (ad B)), (1, .int v1)]) hx hb dX4_nearestGrown_5 hl (by decide) rfl (fun ls hl => ?_)
  exact w_X4_nearestGrown_7 V hB kN hH (lv_sub hl [3, 4, 2, 1, 0] rfl) hf
set_option maxHeartbeats 4000000 in
set_option maxRecDepth 100000 in
theorem c_X4_nearestGrown (l : Launch) {D : va_G} {cI cZ cO : ClassId} {ad : Nat → Nat} {k mo : kS} {B : Nat} (hB : kB B) (v1 : Int32) {out : Int32} (hf : F_X4_nearestGrown B k v1 = some out) (sz : Nat) : Met l yX4_nearestGrown (Cond.code yX4_nearestGrown cX4_nearestGrown 6 (some .int) :: kWA) rm_X4_nearestGrown (kP [.ref (ad B), .int v1] D cI cZ cO ad (kE ad cI cZ cO k mo) sz) (kQi out D cI cZ cO ad (kE ad cI cZ cO k mo) sz) 0 0 (fA ad sz) := by
  refine kr_met (as := [.ref (ad B), .int v1]) (bytes := cX4_nearestGrown) (maxL := 6) (rt := (some .int)) (Qc := fun sz => kQi out D cI cZ cO ad (kE ad cI cZ cO k mo) sz) (lv := [(0, .ref (ad B)), (1, .int v1)]) (by decide +kernel) (Nat.le_of_ble_eq_true rfl) rfl (fun p e s mm below meth c ls V hH hl => ?_) sz
  exact w_X4_nearestGrown_0 V hB hH (lv_sub hl [0, 1] rfl) hf
end
section
variable {p : Program} {l : Launch} {e : Env} {s : State} {mm : MethodId} {args : Array Value} {below : List Frame} {meth : Method} {c : Code} {D : va_G} {cI cZ cO : ClassId} {ad : Nat → Nat}
abbrev rm_X4_regentOf : Room := { frames := 3, cells := 0, slots := 0, locals := 68 }
set_option maxHeartbeats 4000000 in
set_option maxRecDepth 100000 in
theorem w_X4_regentOf_18 (V : kV p s mm args meth c cX4_regentOf RX4 2 (some .int) D cI cZ cO) {k mo : kS} {B : Nat} (hB : kB B) {H : Heap} {locs : List Loc} {ls : Array Slot} {out : Int32} (hH : kHE s H locs D ad cI cZ cO k mo []) (hl : lv_has ls 2 []) (hf : F_X4_regentOf_18 B k = some out) : W p l e rm_X4_regentOf s mm args below meth c H locs 0 0 (kGi below args s D cI cZ cO ad out k mo 0 0) (F0 mm 18 ls []) := by
  have hx := V.1
  have hb := V.2.1
  refine lv_iconst (v := (-1)) hx hb dX4_regentOf_18 (by decide) ?_
  cases hf
  exact kr_iret V hH dX4_regentOf_19
set_option maxHeartbeats 4000000 in
set_option maxRecDepth 100000 in
theorem w_X4_regentOf_36 (V : kV p s mm args meth c cX4_regentOf RX4 2 (some .int) D cI cZ cO) {k mo : kS} {B : Nat} (hB : kB B) {v1 : Int32} {H : Heap} {locs : List Loc} {ls : Array Slot} {out : Int32} (hH : kHE s H locs D ad cI cZ cO k mo []) (hl : lv_has ls 2 [(0, .ref (ad B)), (1, .int v1)]) (hf : F_X4_regentOf_36 B k v1 = some out) : W p l e rm_X4_regentOf s mm args below meth c H locs 0 0 (kGi below args s D cI cZ cO ad out k mo 0 0) (F0 mm 36 ls []) := by
  have hx := V.1
  have hb := V.2.1
  refine lv_aload_n hx hb dX4_regentOf_36 rfl (lv_at hl 0 rfl) ?_
  refine kg_X4_40 hB V hH dX4_regentOf_37 ?_
  refine kg_X4_137 V hH dX4_regentOf_40 ?_
  refine lv_iload_n hx hb dX4_regentOf_43 rfl (lv_at hl 1 rfl) ?_
  obtain ⟨h36_1, hf⟩ := kif hf
  refine kr_iald V hH (q := 4) (by decide) kE_4 h36_1 dX4_regentOf_44 ?_
  cases hf
  exact kr_iret V hH dX4_regentOf_45
set_option maxHeartbeats 4000000 in
set_option maxRecDepth 100000 in
theorem w_X4_regentOf_79 (V : kV p s mm args meth c cX4_regentOf RX4 2 (some .int) D cI cZ cO) {k mo : kS} {B : Nat} (hB : kB B) {s0 : Int32} {H : Heap} {locs : List Loc} {ls : Array Slot} {out : Int32} (hH : kHE s H locs D ad cI cZ cO k mo []) (hl : lv_has ls 2 []) (hf : F_X4_regentOf_79 B k s0 = some out) : W p l e rm_X4_regentOf s mm args below meth c H locs 0 0 (kGi below args s D cI cZ cO ad out k mo 0 0) (F0 mm 79 ls [.int s0]) := by
  have hx := V.1
  have hb := V.2.1
  cases hf
  exact kr_iret V hH dX4_regentOf_79
set_option maxHeartbeats 4000000 in
set_option maxRecDepth 100000 in
theorem w_X4_regentOf_62 (V : kV p s mm args meth c cX4_regentOf RX4 2 (some .int) D cI cZ cO) {k mo : kS} {B : Nat} (hB : kB B) {v1 : Int32} {H : Heap} {locs : List Loc} {ls : Array Slot} {out : Int32} (hH : kHE s H locs D ad cI cZ cO k mo []) (hl : lv_has ls 2 [(0, .ref (ad B)), (1, .int v1)]) (hf : F_X4_regentOf_62 B k v1 = some out) : W p l e rm_X4_regentOf s mm args below meth c H locs 0 0 (kGi below args s D cI cZ cO ad out k mo 0 0) (F0 mm 62 ls []) := by
  have hx := V.1
  have hb := V.2.1
  refine lv_aload_n hx hb dX4_regentOf_62 rfl (lv_at hl 0 rfl) ?_
  refine kg_X4_40 hB V hH dX4_regentOf_63 ?_
  refine kg_X4_144 V hH dX4_regentOf_66 ?_
  refine lv_iload_n hx hb dX4_regentOf_69 rfl (lv_at hl 1 rfl) ?_
  obtain ⟨h62_1, hf⟩ := kif hf
  refine kr_iald V hH (q := 5) (by decide) kE_5 h62_1 dX4_regentOf_70 ?_
  refine lv_goto (tgt := 79) hx hb dX4_regentOf_71 (by decide) ?_
  exact w_X4_regentOf_79 V hB hH (lv_sub hl [] rfl) hf
set_option maxHeartbeats 4000000 in
set_option maxRecDepth 100000 in
theorem w_X4_regentOf_74 (V : kV p s mm args meth c cX4_regentOf RX4 2 (some .int) D cI cZ cO) {k mo : kS} {B : Nat} (hB : kB B) {v1 : Int32} {H : Heap} {locs : List Loc} {ls : Array Slot} {out : Int32} (hH : kHE s H locs D ad cI cZ cO k mo []) (hl : lv_has ls 2 [(0, .ref (ad B)), (1, .int v1)]) (hf : F_X4_regentOf_74 B k v1 = some out) : W p l e rm_X4_regentOf s mm args below meth c H locs 0 0 (kGi below args s D cI cZ cO ad out k mo 0 0) (F0 mm 74 ls []) := by
  have hx := V.1
  have hb := V.2.1
  refine lv_aload_n hx hb dX4_regentOf_74 rfl (lv_at hl 0 rfl) ?_
  refine lv_iload_n hx hb dX4_regentOf_75 rfl (lv_at hl 1 rfl) ?_
  obtain ⟨x74_1, hx74_1, hf⟩ := kbind hf
  refine kr_calli0 hH (kr_runV (as := [.int v1]) (rest := []) (pl := B) V hH kYX4_nearestGrown kl_X4_151 (c_X4_nearestGrown l hB _ hx74_1 _) rfl rfl ⟨Nat.le_of_ble_eq_true rfl, Nat.le_of_ble_eq_true rfl⟩ (kq_B hB) (kE_w0 hB) rfl rfl hl.1 (Nat.le_of_ble_eq_true rfl) dX4_regentOf_76 ⟨Nat.le_refl _, Nat.le_refl _⟩ rfl) (fun H locs hH => ?_)
  exact w_X4_regentOf_79 V hB hH (lv_sub hl [] rfl) hf
set_option maxHeartbeats 4000000 in
set_option maxRecDepth 100000 in
theorem w_X4_regentOf_46 (V : kV p s mm args meth c cX4_regentOf RX4 2 (some .int) D cI cZ cO) {k mo : kS} {B : Nat} (hB : kB B) {v1 : Int32} {H : Heap} {locs : List Loc} {ls : Array Slot} {out : Int32} (hH : kHE s H locs D ad cI cZ cO k mo []) (hl : lv_has ls 2 [(0, .ref (ad B)), (1, .int v1)]) (hf : F_X4_regentOf_46 B k v1 = some out) : W p l e rm_X4_regentOf s mm args below meth c H locs 0 0 (kGi below args s D cI cZ cO ad out k mo 0 0) (F0 mm 46 ls []) := by
  have hx := V.1
  have hb := V.2.1
  refine lv_aload_n hx hb dX4_regentOf_46 rfl (lv_at hl 0 rfl) ?_
  refine lv_aload_n hx hb dX4_regentOf_47 rfl (lv_at hl 0 rfl) ?_
  refine kg_X4_40 hB V hH dX4_regentOf_48 ?_
  refine kg_X4_144 V hH dX4_regentOf_51 ?_
  refine lv_iload_n hx hb dX4_regentOf_54 rfl (lv_at hl 1 rfl) ?_
  obtain ⟨h46_1, hf⟩ := kif hf
  refine kr_iald V hH (q := 5) (by decide) kE_5 h46_1 dX4_regentOf_55 ?_
  obtain ⟨x46_2, hx46_2, hf⟩ := kbind hf
  refine kr_calli0 hH (kr_runV (as := [.int (k 5 v1.toNatClampNeg)]) (rest := []) (pl := B) V hH kYX4_lives kl_X4_69 (c_X4_lives l hB _ hx46_2 _) rfl rfl ⟨Nat.le_of_ble_eq_true rfl, Nat.le_of_ble_eq_true rfl⟩ (kq_B hB) (kE_w0 hB) rfl rfl hl.1 (Nat.le_of_ble_eq_true rfl) dX4_regentOf_56 ⟨Nat.le_refl _, Nat.le_refl _⟩ rfl) (fun H locs hH => ?_)
  refine lv_if_eq (tgt := 74) hx hb dX4_regentOf_59 (by decide) (fun hq => ?_) (fun hq => ?_)
  · have hf := kpos hq hf
    exact w_X4_regentOf_74 V hB hH (lv_sub hl [0, 1] rfl) hf
  · have hf := kneg hq hf
    exact w_X4_regentOf_62 V hB hH (lv_sub hl [0, 1] rfl) hf
set_option maxHeartbeats 4000000 in
set_option maxRecDepth 100000 in
theorem w_X4_regentOf_20 (V : kV p s mm args meth c cX4_regentOf RX4 2 (some .int) D cI cZ cO) {k mo : kS} {B : Nat} (hB : kB B) {v1 : Int32} {H : Heap} {locs : List Loc} {ls : Array Slot} {out : Int32} (hH : kHE s H locs D ad cI cZ cO k mo []) (hl : lv_has ls 2 [(0, .ref (ad B)), (1, .int v1)]) (hf : F_X4_regentOf_20 B k v1 = some out) : W p l e rm_X4_regentOf s mm args below meth c H locs 0 0 (kGi below args s D cI cZ cO ad out k mo 0 0) (F0 mm 20 ls []) := by
  have hx := V.1
  have hb := V.2.1
  refine lv_aload_n hx hb dX4_regentOf_20 rfl (lv_at hl 0 rfl) ?_
  refine lv_aload_n hx hb dX4_regentOf_21 rfl (lv_at hl 0 rfl) ?_
  refine kg_X4_40 hB V hH dX4_regentOf_22 ?_
  refine kg_X4_137 V hH dX4_regentOf_25 ?_
  refine lv_iload_n hx hb dX4_regentOf_28 rfl (lv_at hl 1 rfl) ?_
  obtain ⟨h20_1, hf⟩ := kif hf
  refine kr_iald V hH (q := 4) (by decide) kE_4 h20_1 dX4_regentOf_29 ?_
  obtain ⟨x20_2, hx20_2, hf⟩ := kbind hf
  refine kr_calli0 hH (kr_runV (as := [.int (k 4 v1.toNatClampNeg)]) (rest := []) (pl := B) V hH kYX4_lives kl_X4_69 (c_X4_lives l hB _ hx20_2 _) rfl rfl ⟨Nat.le_of_ble_eq_true rfl, Nat.le_of_ble_eq_true rfl⟩ (kq_B hB) (kE_w0 hB) rfl rfl hl.1 (Nat.le_of_ble_eq_true rfl) dX4_regentOf_30 ⟨Nat.le_refl _, Nat.le_refl _⟩ rfl) (fun H locs hH => ?_)
  refine lv_if_eq (tgt := 46) hx hb dX4_regentOf_33 (by decide) (fun hq => ?_) (fun hq => ?_)
  · have hf := kpos hq hf
    exact w_X4_regentOf_46 V hB hH (lv_sub hl [0, 1] rfl) hf
  · have hf := kneg hq hf
    exact w_X4_regentOf_36 V hB hH (lv_sub hl [0, 1] rfl) hf
set_option maxHeartbeats 4000000 in
set_option maxRecDepth 100000 in
theorem w_X4_regentOf_8 (V : kV p s mm args meth c cX4_regentOf RX4 2 (some .int) D cI cZ cO) {k mo : kS} {B : Nat} (hB : kB B) {v1 : Int32} {H : Heap} {locs : List Loc} {ls : Array Slot} {out : Int32} (hH : kHE s H locs D ad cI cZ cO k mo []) (hl : lv_has ls 2 [(0, .ref (ad B)), (1, .int v1)]) (hf : F_X4_regentOf_8 B k v1 = some out) : W p l e rm_X4_regentOf s mm args below meth c H locs 0 0 (kGi below args s D cI cZ cO ad out k mo 0 0) (F0 mm 8 ls []) := by
  have hx := V.1
  have hb := V.2.1
  refine lv_aload_n hx hb dX4_regentOf_8 rfl (lv_at hl 0 rfl) ?_
  refine lv_iload_n hx hb dX4_regentOf_9 rfl (lv_at hl 1 rfl) ?_
  obtain ⟨x8_1, hx8_1, hf⟩ := kbind hf
  refine kr_calli0 hH (kr_runV (as := [.int v1]) (rest := []) (pl := B) V hH kYX4_age kl_X4_72 (c_X4_age l hB _ hx8_1 _) rfl rfl ⟨Nat.le_of_ble_eq_true rfl, Nat.le_of_ble_eq_true rfl⟩ (kq_B hB) (kE_w0 hB) rfl rfl hl.1 (Nat.le_of_ble_eq_true rfl) dX4_regentOf_10 ⟨Nat.le_refl _, Nat.le_refl _⟩ rfl) (fun H locs hH => ?_)
  refine lv_bipush (v := 16) hx hb dX4_regentOf_13 (by decide) ?_
  refine lv_icmp_lt (tgt := 20) hx hb dX4_regentOf_15 (by decide) (fun hq => ?_) (fun hq => ?_)
  · have hf := kpos hq hf
    exact w_X4_regentOf_20 V hB hH (lv_sub hl [0, 1] rfl) hf
  · have hf := kneg hq hf
    exact w_X4_regentOf_18 V hB hH (lv_sub hl [] rfl) hf
set_option maxHeartbeats 4000000 in
set_option maxRecDepth 100000 in
theorem w_X4_regentOf_0 (V : kV p s mm args meth c cX4_regentOf RX4 2 (some .int) D cI cZ cO) {k mo : kS} {B : Nat} (hB : kB B) {v1 : Int32} {H : Heap} {locs : List Loc} {ls : Array Slot} {out : Int32} (hH : kHE s H locs D ad cI cZ cO k mo []) (hl : lv_has ls 2 [(0, .ref (ad B)), (1, .int v1)]) (hf : F_X4_regentOf_0 B k v1 = some out) : W p l e rm_X4_regentOf s mm args below meth c H locs 0 0 (kGi below args s D cI cZ cO ad out k mo 0 0) (F0 mm 0 ls []) := by
  have hx := V.1
  have hb := V.2.1
  refine lv_aload_n hx hb dX4_regentOf_0 rfl (lv_at hl 0 rfl) ?_
  refine lv_iload_n hx hb dX4_regentOf_1 rfl (lv_at hl 1 rfl) ?_
  obtain ⟨x0_1, hx0_1, hf⟩ := kbind hf
  refine kr_calli0 hH (kr_runV (as := [.int v1]) (rest := []) (pl := B) V hH kYX4_lives kl_X4_69 (c_X4_lives l hB _ hx0_1 _) rfl rfl ⟨Nat.le_of_ble_eq_true rfl, Nat.le_of_ble_eq_true rfl⟩ (kq_B hB) (kE_w0 hB) rfl rfl hl.1 (Nat.le_of_ble_eq_true rfl) dX4_regentOf_2 ⟨Nat.le_refl _, Nat.le_refl _⟩ rfl) (fun H locs hH => ?_)
  refine lv_if_eq (tgt := 18) hx hb dX4_regentOf_5 (by decide) (fun hq => ?_) (fun hq => ?_)
  · have hf := kpos hq hf
    exact w_X4_regentOf_18 V hB hH (lv_sub hl [] rfl) hf
  · have hf := kneg hq hf
    exact w_X4_regentOf_8 V hB hH (lv_sub hl [0, 1] rfl) hf
set_option maxHeartbeats 4000000 in
set_option maxRecDepth 100000 in
theorem c_X4_regentOf (l : Launch) {D : va_G} {cI cZ cO : ClassId} {ad : Nat → Nat} {k mo : kS} {B : Nat} (hB : kB B) (v1 : Int32) {out : Int32} (hf : F_X4_regentOf B k v1 = some out) (sz : Nat) : Met l yX4_regentOf (Cond.code yX4_regentOf cX4_regentOf 2 (some .int) :: kWA) rm_X4_regentOf (kP [.ref (ad B), .int v1] D cI cZ cO ad (kE ad cI cZ cO k mo) sz) (kQi out D cI cZ cO ad (kE ad cI cZ cO k mo) sz) 0 0 (fA ad sz) := by
  refine kr_met (as := [.ref (ad B), .int v1]) (bytes := cX4_regentOf) (maxL := 2) (rt := (some .int)) (Qc := fun sz => kQi out D cI cZ cO ad (kE ad cI cZ cO k mo) sz) (lv := [(0, .ref (ad B)), (1, .int v1)]) (by decide +kernel) (Nat.le_of_ble_eq_true rfl) rfl (fun p e s mm below meth c ls V hH hl => ?_) sz
  exact w_X4_regentOf_0 V hB hH (lv_sub hl [0, 1] rfl) hf
end
section
variable {p : Program} {l : Launch} {e : Env} {s : State} {mm : MethodId} {args : Array Value} {below : List Frame} {meth : Method} {c : Code} {D : va_G} {cI cZ cO : ClassId} {ad : Nat → Nat}
abbrev rm_X4_personFact : Room := { frames := 2, cells := 0, slots := 0, locals := 42 }
set_option maxHeartbeats 4000000 in
set_option maxRecDepth 100000 in
theorem w_X4_personFact_69 (V : kV p s mm args meth c cX4_personFact RX4 3 (some .int) D cI cZ cO) {k mo : kS} {B : Nat} (hB : kB B) {s0 : Int32} {H : Heap} {locs : List Loc} {ls : Array Slot} {out : Int32} (hH : kHE s H locs D ad cI cZ cO k mo []) (hl : lv_has ls 3 []) (hf : F_X4_personFact_69 B k s0 = some out) : W p l e rm_X4_personFact s mm args below meth c H locs 0 0 (kGi below args s D cI cZ cO ad out k mo 0 0) (F0 mm 69 ls [.int s0]) := by
  have hx := V.1
  have hb := V.2.1
  cases hf
  exact kr_iret V hH dX4_personFact_69
set_option maxHeartbeats 4000000 in
set_option maxRecDepth 100000 in
theorem w_X4_personFact_64 (V : kV p s mm args meth c cX4_personFact RX4 3 (some .int) D cI cZ cO) {k mo : kS} {B : Nat} (hB : kB B) {H : Heap} {locs : List Loc} {ls : Array Slot} {out : Int32} (hH : kHE s H locs D ad cI cZ cO k mo []) (hl : lv_has ls 3 []) (hf : F_X4_personFact_64 B k = some out) : W p l e rm_X4_personFact s mm args below meth c H locs 0 0 (kGi below args s D cI cZ cO ad out k mo 0 0) (F0 mm 64 ls []) := by
  have hx := V.1
  have hb := V.2.1
  refine lv_iconst (v := 1) hx hb dX4_personFact_64 (by decide) ?_
  refine lv_goto (tgt := 69) hx hb dX4_personFact_65 (by decide) ?_
  exact w_X4_personFact_69 V hB hH (lv_sub hl [] rfl) hf
set_option maxHeartbeats 4000000 in
set_option maxRecDepth 100000 in
theorem w_X4_personFact_68 (V : kV p s mm args meth c cX4_personFact RX4 3 (some .int) D cI cZ cO) {k mo : kS} {B : Nat} (hB : kB B) {H : Heap} {locs : List Loc} {ls : Array Slot} {out : Int32} (hH : kHE s H locs D ad cI cZ cO k mo []) (hl : lv_has ls 3 []) (hf : F_X4_personFact_68 B k = some out) : W p l e rm_X4_personFact s mm args below meth c H locs 0 0 (kGi below args s D cI cZ cO ad out k mo 0 0) (F0 mm 68 ls []) := by
  have hx := V.1
  have hb := V.2.1
  refine lv_iconst (v := 0) hx hb dX4_personFact_68 (by decide) ?_
  exact w_X4_personFact_69 V hB hH (lv_sub hl [] rfl) hf
set_option maxHeartbeats 4000000 in
set_option maxRecDepth 100000 in
theorem w_X4_personFact_52 (V : kV p s mm args meth c cX4_personFact RX4 3 (some .int) D cI cZ cO) {k mo : kS} {B : Nat} (hB : kB B) {v1 : Int32} {H : Heap} {locs : List Loc} {ls : Array Slot} {out : Int32} (hH : kHE s H locs D ad cI cZ cO k mo []) (hl : lv_has ls 3 [(0, .ref (ad B)), (1, .int v1)]) (hf : F_X4_personFact_52 B k v1 = some out) : W p l e rm_X4_personFact s mm args below meth c H locs 0 0 (kGi below args s D cI cZ cO ad out k mo 0 0) (F0 mm 52 ls []) := by
  have hx := V.1
  have hb := V.2.1
  refine lv_aload_n hx hb dX4_personFact_52 rfl (lv_at hl 0 rfl) ?_
  refine kg_X4_40 hB V hH dX4_personFact_53 ?_
  refine kg_X4_82 V hH dX4_personFact_56 ?_
  refine lv_iload_n hx hb dX4_personFact_59 rfl (lv_at hl 1 rfl) ?_
  obtain ⟨h52_1, hf⟩ := kif hf
  refine kr_zald V hH (q := 2) (by decide) kE_2 h52_1 dX4_personFact_60 ?_
  refine lv_if_eq (tgt := 68) hx hb dX4_personFact_61 (by decide) (fun hq => ?_) (fun hq => ?_)
  · have hf := kpos hq hf
    exact w_X4_personFact_68 V hB hH (lv_sub hl [] rfl) hf
  · have hf := kneg hq hf
    exact w_X4_personFact_64 V hB hH (lv_sub hl [] rfl) hf
set_option maxHeartbeats 4000000 in
set_option maxRecDepth 100000 in
theorem w_X4_personFact_70 (V : kV p s mm args meth c cX4_personFact RX4 3 (some .int) D cI cZ cO) {k mo : kS} {B : Nat} (hB : kB B) {v1 : Int32} {H : Heap} {locs : List Loc} {ls : Array Slot} {out : Int32} (hH : kHE s H locs D ad cI cZ cO k mo []) (hl : lv_has ls 3 [(0, .ref (ad B)), (1, .int v1)]) (hf : F_X4_personFact_70 B k v1 = some out) : W p l e rm_X4_personFact s mm args below meth c H locs 0 0 (kGi below args s D cI cZ cO ad out k mo 0 0) (F0 mm 70 ls []) := by
  have hx := V.1
  have hb := V.2.1
  refine lv_aload_n hx hb dX4_personFact_70 rfl (lv_at hl 0 rfl) ?_
  refine kg_X4_40 hB V hH dX4_personFact_71 ?_
  refine kg_X4_66 V hH dX4_personFact_74 ?_
  refine lv_iload_n hx hb dX4_personFact_77 rfl (lv_at hl 1 rfl) ?_
  obtain ⟨h70_1, hf⟩ := kif hf
  refine kr_iald V hH (q := 3) (by decide) kE_3 h70_1 dX4_personFact_78 ?_
  cases hf
  exact kr_iret V hH dX4_personFact_79
set_option maxHeartbeats 4000000 in
set_option maxRecDepth 100000 in
theorem w_X4_personFact_93 (V : kV p s mm args meth c cX4_personFact RX4 3 (some .int) D cI cZ cO) {k mo : kS} {B : Nat} (hB : kB B) {s0 : Int32} {H : Heap} {locs : List Loc} {ls : Array Slot} {out : Int32} (hH : kHE s H locs D ad cI cZ cO k mo []) (hl : lv_has ls 3 []) (hf : F_X4_personFact_93 B k s0 = some out) : W p l e rm_X4_personFact s mm args below meth c H locs 0 0 (kGi below args s D cI cZ cO ad out k mo 0 0) (F0 mm 93 ls [.int s0]) := by
  have hx := V.1
  have hb := V.2.1
  cases hf
  exact kr_iret V hH dX4_personFact_93
set_option maxHeartbeats 4000000 in
set_option maxRecDepth 100000 in
theorem w_X4_personFact_88 (V : kV p s mm args meth c cX4_personFact RX4 3 (some .int) D cI cZ cO) {k mo : kS} {B : Nat} (hB : kB B) {H : Heap} {locs : List Loc} {ls : Array Slot} {out : Int32} (hH : kHE s H locs D ad cI cZ cO k mo []) (hl : lv_has ls 3 []) (hf : F_X4_personFact_88 B k = some out) : W p l e rm_X4_personFact s mm args below meth c H locs 0 0 (kGi below args s D cI cZ cO ad out k mo 0 0) (F0 mm 88 ls []) := by
  have hx := V.1
  have hb := V.2.1
  refine lv_iconst (v := 1) hx hb dX4_personFact_88 (by decide) ?_
  refine lv_goto (tgt := 93) hx hb dX4_personFact_89 (by decide) ?_
  exact w_X4_personFact_93 V hB hH (lv_sub hl [] rfl) hf
set_option maxHeartbeats 4000000 in
set_option maxRecDepth 100000 in
theorem w_X4_personFact_92 (V : kV p s mm args meth c cX4_personFact RX4 3 (some .int) D cI cZ cO) {k mo : kS} {B : Nat} (hB : kB B) {H : Heap} {locs : List Loc} {ls : Array Slot} {out : Int32} (hH : kHE s H locs D ad cI cZ cO k mo []) (hl : lv_has ls 3 []) (hf : F_X4_personFact_92 B k = some out) : W p l e rm_X4_personFact s mm args below meth c H locs 0 0 (kGi below args s D cI cZ cO ad out k mo 0 0) (F0 mm 92 ls []) := by
  have hx := V.1
  have hb := V.2.1
  refine lv_iconst (v := 0) hx hb dX4_personFact_92 (by decide) ?_
  exact w_X4_personFact_93 V hB hH (lv_sub hl [] rfl) hf
set_option maxHeartbeats 4000000 in
set_option maxRecDepth 100000 in
theorem w_X4_personFact_80 (V : kV p s mm args meth c cX4_personFact RX4 3 (some .int) D cI cZ cO) {k mo : kS} {B : Nat} (hB : kB B) {v1 : Int32} {H : Heap} {locs : List Loc} {ls : Array Slot} {out : Int32} (hH : kHE s H locs D ad cI cZ cO k mo []) (hl : lv_has ls 3 [(0, .ref (ad B)), (1, .int v1)]) (hf : F_X4_personFact_80 B k v1 = some out) : W p l e rm_X4_personFact s mm args below meth c H locs 0 0 (kGi below args s D cI cZ cO ad out k mo 0 0) (F0 mm 80 ls []) := by
  have hx := V.1
  have hb := V.2.1
  refine lv_aload_n hx hb dX4_personFact_80 rfl (lv_at hl 0 rfl) ?_
  refine lv_iload_n hx hb dX4_personFact_81 rfl (lv_at hl 1 rfl) ?_
  obtain ⟨x80_1, hx80_1, hf⟩ := kbind hf
  refine kr_calli0 hH (kr_runV (as := [.int v1]) (rest := []) (pl := B) V hH kYX4_lives kl_X4_69 (c_X4_lives l hB _ hx80_1 _) rfl rfl ⟨Nat.le_of_ble_eq_true rfl, Nat.le_of_ble_eq_true rfl⟩ (kq_B hB) (kE_w0 hB) rfl rfl hl.1 (Nat.le_of_ble_eq_true rfl) dX4_personFact_82 ⟨Nat.le_refl _, Nat.le_refl _⟩ rfl) (fun H locs hH => ?_)
  refine lv_if_eq (tgt := 92) hx hb dX4_personFact_85 (by decide) (fun hq => ?_) (fun hq => ?_)
  · have hf := kpos hq hf
    exact w_X4_personFact_92 V hB hH (lv_sub hl [] rfl) hf
  · have hf := kneg hq hf
    exact w_X4_personFact_88 V hB hH (lv_sub hl [] rfl) hf
set_option maxHeartbeats 4000000 in
set_option maxRecDepth 100000 in
theorem w_X4_personFact_94 (V : kV p s mm args meth c cX4_personFact RX4 3 (some .int) D cI cZ cO) {k mo : kS} {B : Nat} (hB : kB B) {v1 : Int32} {H : Heap} {locs : List Loc} {ls : Array Slot} {out : Int32} (hH : kHE s H locs D ad cI cZ cO k mo []) (hl : lv_has ls 3 [(0, .ref (ad B)), (1, .int v1)]) (hf : F_X4_personFact_94 B k v1 = some out) : W p l e rm_X4_personFact s mm args below meth c H locs 0 0 (kGi below args s D cI cZ cO ad out k mo 0 0) (F0 mm 94 ls []) := by
  have hx := V.1
  have hb := V.2.1
  refine lv_aload_n hx hb dX4_personFact_94 rfl (lv_at hl 0 rfl) ?_
  refine kg_X4_40 hB V hH dX4_personFact_95 ?_
  refine kg_X4_137 V hH dX4_personFact_98 ?_
  refine lv_iload_n hx hb dX4_personFact_101 rfl (lv_at hl 1 rfl) ?_
  obtain ⟨h94_1, hf⟩ := kif hf
  refine kr_iald V hH (q := 4) (by decide) kE_4 h94_1 dX4_personFact_102 ?_
  cases hf
  exact kr_iret V hH dX4_personFact_103
set_option maxHeartbeats 4000000 in
set_option maxRecDepth 100000 in
theorem w_X4_personFact_104 (V : kV p s mm args meth c cX4_personFact RX4 3 (some .int) D cI cZ cO) {k mo : kS} {B : Nat} (hB : kB B) {v1 : Int32} {H : Heap} {locs : List Loc} {ls : Array Slot} {out : Int32} (hH : kHE s H locs D ad cI cZ cO k mo []) (hl : lv_has ls 3 [(0, .ref (ad B)), (1, .int v1)]) (hf : F_X4_personFact_104 B k v1 = some out) : W p l e rm_X4_personFact s mm args below meth c H locs 0 0 (kGi below args s D cI cZ cO ad out k mo 0 0) (F0 mm 104 ls []) := by
  have hx := V.1
  have hb := V.2.1
  refine lv_aload_n hx hb dX4_personFact_104 rfl (lv_at hl 0 rfl) ?_
  refine kg_X4_40 hB V hH dX4_personFact_105 ?_
  refine kg_X4_144 V hH dX4_personFact_108 ?_
  refine lv_iload_n hx hb dX4_personFact_111 rfl (lv_at hl 1 rfl) ?_
  obtain ⟨h104_1, hf⟩ := kif hf
  refine kr_iald V hH (q := 5) (by decide) kE_5 h104_1 dX4_personFact_112 ?_
  cases hf
  exact kr_iret V hH dX4_personFact_113
set_option maxHeartbeats 4000000 in
set_option maxRecDepth 100000 in
theorem w_X4_personFact_114 (V : kV p s mm args meth c cX4_personFact RX4 3 (some .int) D cI cZ cO) {k mo : kS} {B : Nat} (hB : kB B) {v1 : Int32} {H : Heap} {locs : List Loc} {ls : Array Slot} {out : Int32} (hH : kHE s H locs D ad cI cZ cO k mo []) (hl : lv_has ls 3 [(0, .ref (ad B)), (1, .int v1)]) (hf : F_X4_personFact_114 B k v1 = some out) : W p l e rm_X4_personFact s mm args below meth c H locs 0 0 (kGi below args s D cI cZ cO ad out k mo 0 0) (F0 mm 114 ls []) := by
  have hx := V.1
  have hb := V.2.1
  refine lv_aload_n hx hb dX4_personFact_114 rfl (lv_at hl 0 rfl) ?_
  refine kg_X4_21 hB V hH dX4_personFact_115 ?_
  refine lv_iload_n hx hb dX4_personFact_118 rfl (lv_at hl 1 rfl) ?_
  obtain ⟨x114_1, hx114_1, hf⟩ := kbind hf
  refine kr_calli0 hH (kr_runV (as := [.int v1]) (rest := []) (pl := (B + 8)) V hH kYX3_spouseOf kl_X4_76 (c_X3_spouseOf l hB _ hx114_1 _) rfl rfl ⟨Nat.le_of_ble_eq_true rfl, Nat.le_of_ble_eq_true rfl⟩ (kq_w hB (by decide)) (kE_w8 hB) rfl rfl hl.1 (Nat.le_of_ble_eq_true rfl) dX4_personFact_119 ⟨Nat.le_refl _, Nat.le_refl _⟩ rfl) (fun H locs hH => ?_)
  cases hf
  exact kr_iret V hH dX4_personFact_122
set_option maxHeartbeats 4000000 in
set_option maxRecDepth 100000 in
theorem w_X4_personFact_123 (V : kV p s mm args meth c cX4_personFact RX4 3 (some .int) D cI cZ cO) {k mo : kS} {B : Nat} (hB : kB B) {v1 : Int32} {H : Heap} {locs : List Loc} {ls : Array Slot} {out : Int32} (hH : kHE s H locs D ad cI cZ cO k mo []) (hl : lv_has ls 3 [(0, .ref (ad B)), (1, .int v1)]) (hf : F_X4_personFact_123 B k v1 = some out) : W p l e rm_X4_personFact s mm args below meth c H locs 0 0 (kGi below args s D cI cZ cO ad out k mo 0 0) (F0 mm 123 ls []) := by
  have hx := V.1
  have hb := V.2.1
  refine lv_aload_n hx hb dX4_personFact_123 rfl (lv_at hl 0 rfl) ?_
  refine kg_X4_40 hB V hH dX4_personFact_124 ?_
  refine lv_iload_n hx hb dX4_personFact_127 rfl (lv_at hl 1 rfl) ?_
  obtain ⟨x123_1, hx123_1, hf⟩ := kbind hf
  refine kr_calli0 hH (kr_runV (as := [.int v1]) (rest := []) (pl := 1) V hH kYX0_childrenOf kl_X4_154 (c_X0_childrenOf l _ hx123_1 _) rfl rfl ⟨Nat.le_of_ble_eq_true rfl, Nat.le_of_ble_eq_true rfl⟩ (by decide) kE_1 rfl rfl hl.1 (Nat.le_of_ble_eq_true rfl) dX4_personFact_128 ⟨Nat.le_refl _, Nat.le_refl _⟩ rfl) (fun H locs hH => ?_)
  cases hf
  exact kr_iret V hH dX4_personFact_131
set_option maxHeartbeats 4000000 in
set_option maxRecDepth 100000 in
theorem w_X4_personFact_132 (V : kV p s mm args meth c cX4_personFact RX4 3 (some .int) D cI cZ cO) {k mo : kS} {B : Nat} (hB : kB B) {v1 : Int32} {H : Heap} {locs : List Loc} {ls : Array Slot} {out : Int32} (hH : kHE s H locs D ad cI cZ cO k mo []) (hl : lv_has ls 3 [(0, .ref (ad B)), (1, .int v1)]) (hf : F_X4_personFact_132 B k v1 = some out) : W p l e rm_X4_personFact s mm args below meth c H locs 0 0 (kGi below args s D cI cZ cO ad out k mo 0 0) (F0 mm 132 ls []) := by
  have hx := V.1
  have hb := V.2.1
  refine lv_aload_n hx hb dX4_personFact_132 rfl (lv_at hl 0 rfl) ?_
  refine kg_X4_12 hB V hH dX4_personFact_133 ?_
  refine lv_iload_n hx hb dX4_personFact_136 rfl (lv_at hl 1 rfl) ?_
  obtain ⟨x132_1, hx132_1, hf⟩ := kbind hf
  refine kr_calli0 hH (kr_runV (as := [.int v1]) (rest := []) (pl := (B + 1)) V hH kYX1_numberUnder kl_X4_157 (c_X1_numberUnder l hB _ hx132_1 _) rfl rfl ⟨Nat.le_of_ble_eq_true rfl, Nat.le_of_ble_eq_true rfl⟩ (kq_w hB (by decide)) (kE_w1 hB) rfl rfl hl.1 (Nat.le_of_ble_eq_true rfl) dX4_personFact_137 ⟨Nat.le_refl _, Nat.le_refl _⟩ rfl) (fun H locs hH => ?_)
  cases hf
  exact kr_iret V hH dX4_personFact_140
set_option maxHeartbeats 4000000 in
set_option maxRecDepth 100000 in
theorem w_X4_personFact_141 (V : kV p s mm args meth c cX4_personFact RX4 3 (some .int) D cI cZ cO) {k mo : kS} {B : Nat} (hB : kB B) {v1 : Int32} {H : Heap} {locs : List Loc} {ls : Array Slot} {out : Int32} (hH : kHE s H locs D ad cI cZ cO k mo []) (hl : lv_has ls 3 [(0, .ref (ad B)), (1, .int v1)]) (hf : F_X4_personFact_141 B k v1 = some out) : W p l e rm_X4_personFact s mm args below meth c H locs 0 0 (kGi below args s D cI cZ cO ad out k mo 0 0) (F0 mm 141 ls []) := by
  have hx := V.1
  have hb := V.2.1
  refine lv_aload_n hx hb dX4_personFact_141 rfl (lv_at hl 0 rfl) ?_
  refine kg_X4_12 hB V hH dX4_personFact_142 ?_
  refine lv_iload_n hx hb dX4_personFact_145 rfl (lv_at hl 1 rfl) ?_
  obtain ⟨x141_1, hx141_1, hf⟩ := kbind hf
  refine kr_calli0 hH (kr_runV (as := [.int v1]) (rest := []) (pl := (B + 1)) V hH kYX1_worthUnder kl_X4_160 (c_X1_worthUnder l hB _ hx141_1 _) rfl rfl ⟨Nat.le_of_ble_eq_true rfl, Nat.le_of_ble_eq_true rfl⟩ (kq_w hB (by decide)) (kE_w1 hB) rfl rfl hl.1 (Nat.le_of_ble_eq_true rfl) dX4_personFact_146 ⟨Nat.le_refl _, Nat.le_refl _⟩ rfl) (fun H locs hH => ?_)
  cases hf
  exact kr_iret V hH dX4_personFact_149
set_option maxHeartbeats 4000000 in
set_option maxRecDepth 100000 in
theorem w_X4_personFact_150 (V : kV p s mm args meth c cX4_personFact RX4 3 (some .int) D cI cZ cO) {k mo : kS} {B : Nat} (hB : kB B) {v1 : Int32} {H : Heap} {locs : List Loc} {ls : Array Slot} {out : Int32} (hH : kHE s H locs D ad cI cZ cO k mo []) (hl : lv_has ls 3 [(0, .ref (ad B)), (1, .int v1)]) (hf : F_X4_personFact_150 B k v1 = some out) : W p l e rm_X4_personFact s mm args below meth c H locs 0 0 (kGi below args s D cI cZ cO ad out k mo 0 0) (F0 mm 150 ls []) := by
  have hx := V.1
  have hb := V.2.1
  refine lv_aload_n hx hb dX4_personFact_150 rfl (lv_at hl 0 rfl) ?_
  refine kg_X4_32 hB V hH dX4_personFact_151 ?_
  refine lv_iload_n hx hb dX4_personFact_154 rfl (lv_at hl 1 rfl) ?_
  obtain ⟨h150_1, hf⟩ := kif hf
  refine kr_iald V hH (q := (B + 14)) (kq_w hB (by decide)) (kE_w14 hB) h150_1 dX4_personFact_155 ?_
  cases hf
  exact kr_iret V hH dX4_personFact_156
set_option maxHeartbeats 4000000 in
set_option maxRecDepth 100000 in
theorem w_X4_personFact_0 (V : kV p s mm args meth c cX4_personFact RX4 3 (some .int) D cI cZ cO) {k mo : kS} {B : Nat} (hB : kB B) {v1 : Int32} {v2 : Int32} {H : Heap} {locs : List Loc} {ls : Array Slot} {out : Int32} (hH : kHE s H locs D ad cI cZ cO k mo []) (hl : lv_has ls 3 [(0, .ref (ad B)), (1, .int v1), (2, .int v2)]) (hf : F_X4_personFact_0 B k v1 v2 = some out) : W p l e rm_X4_personFact s mm args below meth c H locs 0 0 (kGi below args s D cI cZ cO ad out k mo 0 0) (F0 mm 0 ls []) := by
  have hx := V.1
  have hb := V.2.1
  refine lv_iload_n hx hb dX4_personFact_0 rfl (lv_at hl 2 rfl) ?_
  by_cases hq0 : v2 = 0
  · have hf := kpos hq0 hf
    refine lv_tableIn (tgt := 52) hx hb dX4_personFact_1 (by rw [hq0]; decide) (by rw [hq0]; decide) (by rw [hq0]; rfl) (by decide) ?_
    exact w_X4_personFact_52 V hB hH (lv_sub hl [0, 1] rfl) hf
  have hf := kneg hq0 hf
  by_cases hq1 : v2 = 1
  · have hf := kpos hq1 hf
    refine lv_tableIn (tgt := 70) hx hb dX4_personFact_1 (by rw [hq1]; decide) (by rw [hq1]; decide) (by rw [hq1]; rfl) (by decide) ?_
    exact w_X4_personFact_70 V hB hH (lv_sub hl [0, 1] rfl) hf
  have hf := kneg hq1 hf
  by_cases hq2 : v2 = 2
  · have hf := kpos hq2 hf
    refine lv_tableIn (tgt := 80) hx hb dX4_personFact_1 (by rw [hq2]; decide) (by rw [hq2]; decide) (by rw [hq2]; rfl) (by decide) ?_
    exact w_X4_personFact_80 V hB hH (lv_sub hl [0, 1] rfl) hf
  have hf := kneg hq2 hf
  by_cases hq3 : v2 = 3
  · have hf := kpos hq3 hf
    refine lv_tableIn (tgt := 94) hx hb dX4_personFact_1 (by rw [hq3]; decide) (by rw [hq3]; decide) (by rw [hq3]; rfl) (by decide) ?_
    exact w_X4_personFact_94 V hB hH (lv_sub hl [0, 1] rfl) hf
  have hf := kneg hq3 hf
  by_cases hq4 : v2 = 4
  · have hf := kpos hq4 hf
    refine lv_tableIn (tgt := 104) hx hb dX4_personFact_1 (by rw [hq4]; decide) (by rw [hq4]; decide) (by rw [hq4]; rfl) (by decide) ?_
    exact w_X4_personFact_104 V hB hH (lv_sub hl [0, 1] rfl) hf
  have hf := kneg hq4 hf
  by_cases hq5 : v2 = 5
  · have hf := kpos hq5 hf
    refine lv_tableIn (tgt := 114) hx hb dX4_personFact_1 (by rw [hq5]; decide) (by rw [hq5]; decide) (by rw [hq5]; rfl) (by decide) ?_
    exact w_X4_personFact_114 V hB hH (lv_sub hl [0, 1] rfl) hf
  have hf := kneg hq5 hf
  by_cases hq6 : v2 = 6
  · have hf := kpos hq6 hf
    refine lv_tableIn (tgt := 123) hx hb dX4_personFact_1 (by rw [hq6]; decide) (by rw [hq6]; decide) (by rw [hq6]; rfl) (by decide) ?_
    exact w_X4_personFact_123 V hB hH (lv_sub hl [0, 1] rfl) hf
  have hf := kneg hq6 hf
  by_cases hq7 : v2 = 7
  · have hf := kpos hq7 hf
    refine lv_tableIn (tgt := 132) hx hb dX4_personFact_1 (by rw [hq7]; decide) (by rw [hq7]; decide) (by rw [hq7]; rfl) (by decide) ?_
    exact w_X4_personFact_132 V hB hH (lv_sub hl [0, 1] rfl) hf
  have hf := kneg hq7 hf
  by_cases hq8 : v2 = 8
  · have hf := kpos hq8 hf
    refine lv_tableIn (tgt := 141) hx hb dX4_personFact_1 (by rw [hq8]; decide) (by rw [hq8]; decide) (by rw [hq8]; rfl) (by decide) ?_
    exact w_X4_personFact_141 V hB hH (lv_sub hl [0, 1] rfl) hf
  have hf := kneg hq8 hf
  refine lv_tableOut (tgt := 150) hx hb dX4_personFact_1 (by have z0 := kne (n := 0) hq0 (by decide) (by decide); have z1 := kne (n := 1) hq1 (by decide) (by decide); have z2 := kne (n := 2) hq2 (by decide) (by decide); have z3 := kne (n := 3) hq3 (by decide) (by decide); have z4 := kne (n := 4) hq4 (by decide) (by decide); have z5 := kne (n := 5) hq5 (by decide) (by decide); have z6 := kne (n := 6) hq6 (by decide) (by decide); have z7 := kne (n := 7) hq7 (by decide) (by decide); have z8 := kne (n := 8) hq8 (by decide) (by decide); omega) (by decide) ?_
  exact w_X4_personFact_150 V hB hH (lv_sub hl [0, 1] rfl) hf
set_option maxHeartbeats 4000000 in
set_option maxRecDepth 100000 in
theorem c_X4_personFact (l : Launch) {D : va_G} {cI cZ cO : ClassId} {ad : Nat → Nat} {k mo : kS} {B : Nat} (hB : kB B) (v1 : Int32) (v2 : Int32) {out : Int32} (hf : F_X4_personFact B k v1 v2 = some out) (sz : Nat) : Met l yX4_personFact (Cond.code yX4_personFact cX4_personFact 3 (some .int) :: kWA) rm_X4_personFact (kP [.ref (ad B), .int v1, .int v2] D cI cZ cO ad (kE ad cI cZ cO k mo) sz) (kQi out D cI cZ cO ad (kE ad cI cZ cO k mo) sz) 0 0 (fA ad sz) := by
  refine kr_met (as := [.ref (ad B), .int v1, .int v2]) (bytes := cX4_personFact) (maxL := 3) (rt := (some .int)) (Qc := fun sz => kQi out D cI cZ cO ad (kE ad cI cZ cO k mo) sz) (lv := [(0, .ref (ad B)), (1, .int v1), (2, .int v2)]) (by decide +kernel) (Nat.le_of_ble_eq_true rfl) rfl (fun p e s mm below meth c ls V hH hl => ?_) sz
  exact w_X4_personFact_0 V hB hH (lv_sub hl [0, 1, 2] rfl) hf
end
section
variable {p : Program} {l : Launch} {e : Env} {s : State} {mm : MethodId} {args : Array Value} {below : List Frame} {meth : Method} {c : Code} {D : va_G} {cI cZ cO : ClassId} {ad : Nat → Nat}
abbrev rm_X4_landFact : Room := { frames := 4, cells := 0, slots := 0, locals := 95 }
set_option maxHeartbeats 4000000 in
set_option maxRecDepth 100000 in
theorem w_X4_landFact_44 (V : kV p s mm args meth c cX4_landFact RX4 4 (some .int) D cI cZ cO) {mo : kS} {B : Nat} (hB : kB B) {v1 : Int32} {k : kS} {H : Heap} {locs : List Loc} {ls : Array Slot} {out : (Int32 × kS)} (hH : kHE s H locs D ad cI cZ cO k mo []) (hl : lv_has ls 4 [(0, .ref (ad B)), (1, .int v1)]) (hf : F_X4_landFact_44 B v1 k = some out) : W p l e rm_X4_landFact s mm args below meth c H locs 0 0 (kGi below args s D cI cZ cO ad out.1 out.2 mo 0 0) (F0 mm 44 ls []) := by
  have hx := V.1
  have hb := V.2.1
  refine lv_aload_n hx hb dX4_landFact_44 rfl (lv_at hl 0 rfl) ?_
  refine kg_X4_12 hB V hH dX4_landFact_45 ?_
  refine kg_X4_163 hB V hH dX4_landFact_48 ?_
  refine lv_iload_n hx hb dX4_landFact_51 rfl (lv_at hl 1 rfl) ?_
  obtain ⟨h44_1, hf⟩ := kif hf
  refine kr_iald V hH (q := (B + 2)) (kq_w hB (by decide)) (kE_w2 hB) h44_1 dX4_landFact_52 ?_
  cases hf
  exact kr_iret V hH dX4_landFact_53
set_option maxHeartbeats 4000000 in
set_option maxRecDepth 100000 in
theorem w_X4_landFact_54 (V : kV p s mm args meth c cX4_landFact RX4 4 (some .int) D cI cZ cO) {mo : kS} {B : Nat} (hB : kB B) {v1 : Int32} {k : kS} {H : Heap} {locs : List Loc} {ls : Array Slot} {out : (Int32 × kS)} (hH : kHE s H locs D ad cI cZ cO k mo []) (hl : lv_has ls 4 [(0, .ref (ad B)), (1, .int v1)]) (hf : F_X4_landFact_54 B v1 k = some out) : W p l e rm_X4_landFact s mm args below meth c H locs 0 0 (kGi below args s D cI cZ cO ad out.1 out.2 mo 0 0) (F0 mm 54 ls []) := by
  have hx := V.1
  have hb := V.2.1
  refine lv_aload_n hx hb dX4_landFact_54 rfl (lv_at hl 0 rfl) ?_
  refine kg_X4_12 hB V hH dX4_landFact_55 ?_
  refine kg_X4_116 hB V hH dX4_landFact_58 ?_
  refine lv_iload_n hx hb dX4_landFact_61 rfl (lv_at hl 1 rfl) ?_
  obtain ⟨h54_1, hf⟩ := kif hf
  refine kr_iald V hH (q := (B + 3)) (kq_w hB (by decide)) (kE_w3 hB) h54_1 dX4_landFact_62 ?_
  cases hf
  exact kr_iret V hH dX4_landFact_63
set_option maxHeartbeats 4000000 in
set_option maxRecDepth 100000 in
theorem w_X4_landFact_64 (V : kV p s mm args meth c cX4_landFact RX4 4 (some .int) D cI cZ cO) {mo : kS} {B : Nat} (hB : kB B) {v3 : Int32} {k : kS} {H : Heap} {locs : List Loc} {ls : Array Slot} {out : (Int32 × kS)} (hH : kHE s H locs D ad cI cZ cO k mo []) (hl : lv_has ls 4 [(3, .int v3)]) (hf : F_X4_landFact_64 B v3 k = some out) : W p l e rm_X4_landFact s mm args below meth c H locs 0 0 (kGi below args s D cI cZ cO ad out.1 out.2 mo 0 0) (F0 mm 64 ls []) := by
  have hx := V.1
  have hb := V.2.1
  refine lv_iload_n hx hb dX4_landFact_64 rfl (lv_at hl 0 rfl) ?_
  cases hf
  exact kr_iret V hH dX4_landFact_65
set_option maxHeartbeats 4000000 in
set_option maxRecDepth 100000 in
theorem w_X4_landFact_66 (V : kV p s mm args meth c cX4_landFact RX4 4 (some .int) D cI cZ cO) {mo : kS} {B : Nat} (hB : kB B) {v3 : Int32} {k : kS} {H : Heap} {locs : List Loc} {ls : Array Slot} {out : (Int32 × kS)} (hH : kHE s H locs D ad cI cZ cO k mo []) (hl : lv_has ls 4 [(0, .ref (ad B)), (3, .int v3)]) (hf : F_X4_landFact_66 B v3 k = some out) : W p l e rm_X4_landFact s mm args below meth c H locs 0 0 (kGi below args s D cI cZ cO ad out.1 out.2 mo 0 0) (F0 mm 66 ls []) := by
  have hx := V.1
  have hb := V.2.1
  refine lv_aload_n hx hb dX4_landFact_66 rfl (lv_at hl 0 rfl) ?_
  refine lv_iload_n hx hb dX4_landFact_67 rfl (lv_at hl 1 rfl) ?_
  obtain ⟨x66_1, hx66_1, hf⟩ := kbind hf
  refine kr_calli0 hH (kr_runV (as := [.int v3]) (rest := []) (pl := B) V hH kYX4_regentOf kl_X4_166 (c_X4_regentOf l hB _ hx66_1 _) rfl rfl ⟨Nat.le_of_ble_eq_true rfl, Nat.le_of_ble_eq_true rfl⟩ (kq_B hB) (kE_w0 hB) rfl rfl hl.1 (Nat.le_of_ble_eq_true rfl) dX4_landFact_68 ⟨Nat.le_refl _, Nat.le_refl _⟩ rfl) (fun H locs hH => ?_)
  cases hf
  exact kr_iret V hH dX4_landFact_71
set_option maxHeartbeats 4000000 in
set_option maxRecDepth 100000 in
theorem w_X4_landFact_72 (V : kV p s mm args meth c cX4_landFact RX4 4 (some .int) D cI cZ cO) {mo : kS} {B : Nat} (hB : kB B) {v1 : Int32} {v3 : Int32} {k : kS} {H : Heap} {locs : List Loc} {ls : Array Slot} {out : (Int32 × kS)} (hH : kHE s H locs D ad cI cZ cO k mo []) (hl : lv_has ls 4 [(0, .ref (ad B)), (1, .int v1), (3, .int v3)]) (hf : F_X4_landFact_72 B v1 v3 k = some out) : W p l e rm_X4_landFact s mm args below meth c H locs 0 0 (kGi below args s D cI cZ cO ad out.1 out.2 mo 0 0) (F0 mm 72 ls []) := by
  have hx := V.1
  have hb := V.2.1
  refine lv_aload_n hx hb dX4_landFact_72 rfl (lv_at hl 0 rfl) ?_
  refine lv_iload_n hx hb dX4_landFact_73 rfl (lv_at hl 2 rfl) ?_
  refine lv_aload_n hx hb dX4_landFact_74 rfl (lv_at hl 0 rfl) ?_
  refine kg_X4_12 hB V hH dX4_landFact_75 ?_
  refine kg_X4_116 hB V hH dX4_landFact_78 ?_
  refine lv_iload_n hx hb dX4_landFact_81 rfl (lv_at hl 1 rfl) ?_
  obtain ⟨h72_1, hf⟩ := kif hf
  refine kr_iald V hH (q := (B + 3)) (kq_w hB (by decide)) (kE_w3 hB) h72_1 dX4_landFact_82 ?_
  obtain ⟨x72_2, hx72_2, hf⟩ := kbind hf
  refine kr_calli0 hH (kr_runV (as := [.int v3, .int (k (B + 3) v1.toNatClampNeg)]) (rest := []) (pl := B) V hH kYX4_heirOf kl_X4_119 (c_X4_heirOf l hB _ _ hx72_2 _) rfl rfl ⟨Nat.le_of_ble_eq_true rfl, Nat.le_of_ble_eq_true rfl⟩ (kq_B hB) (kE_w0 hB) rfl rfl hl.1 (Nat.le_of_ble_eq_true rfl) dX4_landFact_83 ⟨Nat.le_refl _, Nat.le_refl _⟩ rfl) (fun H locs hH => ?_)
  cases hf
  exact kr_iret V hH dX4_landFact_86
set_option maxHeartbeats 4000000 in
set_option maxRecDepth 100000 in
theorem w_X4_landFact_87 (V : kV p s mm args meth c cX4_landFact RX4 4 (some .int) D cI cZ cO) {mo : kS} {B : Nat} (hB : kB B) {v1 : Int32} {k : kS} {H : Heap} {locs : List Loc} {ls : Array Slot} {out : (Int32 × kS)} (hH : kHE s H locs D ad cI cZ cO k mo []) (hl : lv_has ls 4 [(0, .ref (ad B)), (1, .int v1)]) (hf : F_X4_landFact_87 B v1 k = some out) : W p l e rm_X4_landFact s mm args below meth c H locs 0 0 (kGi below args s D cI cZ cO ad out.1 out.2 mo 0 0) (F0 mm 87 ls []) := by
  have hx := V.1
  have hb := V.2.1
  refine lv_aload_n hx hb dX4_landFact_87 rfl (lv_at hl 0 rfl) ?_
  refine kg_X4_12 hB V hH dX4_landFact_88 ?_
  refine kg_X4_169 hB V hH dX4_landFact_91 ?_
  refine lv_iload_n hx hb dX4_landFact_94 rfl (lv_at hl 1 rfl) ?_
  obtain ⟨h87_1, hf⟩ := kif hf
  refine kr_iald V hH (q := (B + 5)) (kq_w hB (by decide)) (kE_w5 hB) h87_1 dX4_landFact_95 ?_
  cases hf
  exact kr_iret V hH dX4_landFact_96
set_option maxHeartbeats 4000000 in
set_option maxRecDepth 100000 in
theorem w_X4_landFact_0 (V : kV p s mm args meth c cX4_landFact RX4 4 (some .int) D cI cZ cO) {mo : kS} {B : Nat} (hB : kB B) {v1 : Int32} {v2 : Int32} {k : kS} {H : Heap} {locs : List Loc} {ls : Array Slot} {out : (Int32 × kS)} (hH : kHE s H locs D ad cI cZ cO k mo []) (hl : lv_has ls 4 [(0, .ref (ad B)), (1, .int v1), (2, .int v2)]) (hf : F_X4_landFact_0 B v1 v2 k = some out) : W p l e rm_X4_landFact s mm args below meth c H locs 0 0 (kGi below args s D cI cZ cO ad out.1 out.2 mo 0 0) (F0 mm 0 ls []) := by
  have hx := V.1
  have hb := V.2.1
  refine lv_aload_n hx hb dX4_landFact_0 rfl (lv_at hl 0 rfl) ?_
  refine kg_X4_12 hB V hH dX4_landFact_1 ?_
  refine kg_X4_113 hB V hH dX4_landFact_4 ?_
  refine lv_iload_n hx hb dX4_landFact_7 rfl (lv_at hl 1 rfl) ?_
  obtain ⟨h0_1, hf⟩ := kif hf
  refine kr_iald V hH (q := (B + 4)) (kq_w hB (by decide)) (kE_w4 hB) h0_1 dX4_landFact_8 ?_
  refine lv_istore_n (lv' := [(3, .int (k (B + 4) v1.toNatClampNeg)), (0, .ref (ad B)), (1, .int v1), (2, .int v2)]) hx hb dX4_landFact_9 rfl hl (by decide) rfl (fun ls hl => ?_)
  refine lv_iload_n hx hb dX4_landFact_10 rfl (lv_at hl 3 rfl) ?_
  by_cases hq0 : v2 = 0
  · have hf := kpos hq0 hf
    refine lv_tableIn (tgt := 44) hx hb dX4_landFact_11 (by rw [hq0]; decide) (by rw [hq0]; decide) (by rw [hq0]; rfl) (by decide) ?_
    exact w_X4_landFact_44 V hB hH (lv_sub hl [1, 2] rfl) hf
  have hf := kneg hq0 hf
  by_cases hq1 : v2 = 1
  · have hf := kpos hq1 hf
    refine lv_tableIn (tgt := 54) hx hb dX4_landFact_11 (by rw [hq1]; decide) (by rw [hq1]; decide) (by rw [hq1]; rfl) (by decide) ?_
    exact w_X4_landFact_54 V hB hH (lv_sub hl [1, 2] rfl) hf
  have hf := kneg hq1 hf
  by_cases hq2 : v2 = 2
  · have hf := kpos hq2 hf
    refine lv_tableIn (tgt := 64) hx hb dX4_landFact_11 (by rw [hq2]; decide) (by rw [hq2]; decide) (by rw [hq2]; rfl) (by decide) ?_
    exact w_X4_landFact_64 V hB hH (lv_sub hl [0] rfl) hf
  have hf := kneg hq2 hf
  by_cases hq3 : v2 = 3
  · have hf := kpos hq3 hf
    refine lv_tableIn (tgt := 66) hx hb dX4_landFact_11 (by rw [hq3]; decide) (by rw [hq3]; decide) (by rw [hq3]; rfl) (by decide) ?_
    exact w_X4_landFact_66 V hB hH (lv_sub hl [1, 0] rfl) hf
  have hf := kneg hq3 hf
  by_cases hq4 : v2 = 4
  · have hf := kpos hq4 hf
    refine lv_tableIn (tgt := 72) hx hb dX4_landFact_11 (by rw [hq4]; decide) (by rw [hq4]; decide) (by rw [hq4]; rfl) (by decide) ?_
    exact w_X4_landFact_72 V hB hH (lv_sub hl [1, 2, 0] rfl) hf
  have hf := kneg hq4 hf
  refine lv_tableOut (tgt := 87) hx hb dX4_landFact_11 (by have z0 := kne (n := 0) hq0 (by decide) (by decide); have z1 := kne (n := 1) hq1 (by decide) (by decide); have z2 := kne (n := 2) hq2 (by decide) (by decide); have z3 := kne (n := 3) hq3 (by decide) (by decide); have z4 := kne (n := 4) hq4 (by decide) (by decide); omega) (by decide) ?_
  exact w_X4_landFact_87 V hB hH (lv_sub hl [1, 2] rfl) hf
set_option maxHeartbeats 4000000 in
set_option maxRecDepth 100000 in
theorem c_X4_landFact (l : Launch) {D : va_G} {cI cZ cO : ClassId} {ad : Nat → Nat} {k mo : kS} {B : Nat} (hB : kB B) (v1 : Int32) (v2 : Int32) {out : (Int32 × kS)} (hf : F_X4_landFact B v1 v2 k = some out) (sz : Nat) : Met l yX4_landFact (Cond.code yX4_landFact cX4_landFact 4 (some .int) :: kWA) rm_X4_landFact (kP [.ref (ad B), .int v1, .int v2] D cI cZ cO ad (kE ad cI cZ cO k mo) sz) (kQi out.1 D cI cZ cO ad (kE ad cI cZ cO out.2 mo) sz) 0 0 (fA ad sz) := by
  refine kr_met (as := [.ref (ad B), .int v1, .int v2]) (bytes := cX4_landFact) (maxL := 4) (rt := (some .int)) (Qc := fun sz => kQi out.1 D cI cZ cO ad (kE ad cI cZ cO out.2 mo) sz) (lv := [(0, .ref (ad B)), (1, .int v1), (2, .int v2)]) (by decide +kernel) (Nat.le_of_ble_eq_true rfl) rfl (fun p e s mm below meth c ls V hH hl => ?_) sz
  exact w_X4_landFact_0 V hB hH (lv_sub hl [0, 1, 2] rfl) hf
end
section
variable {p : Program} {l : Launch} {e : Env} {s : State} {mm : MethodId} {args : Array Value} {below : List Frame} {meth : Method} {c : Code} {D : va_G} {cI cZ cO : ClassId} {ad : Nat → Nat}
abbrev rm_X4_living : Room := { frames := 2, cells := 0, slots := 0, locals := 42 }
set_option maxHeartbeats 4000000 in
set_option maxRecDepth 100000 in
theorem w_X4_living_26 (V : kV p s mm args meth c cX4_living RX4 3 (some .int) D cI cZ cO) {k mo : kS} {B : Nat} (hB : kB B) {c4 : Int32 → Int32 → Option (Int32)} (hk4 : ∀ {v1 : Int32} {v2 : Int32} {H : Heap} {locs : List Loc} {ls : Array Slot} {out : Int32}, kHE s H locs D ad cI cZ cO k mo [] → lv_has ls 3 [(0, .ref (ad B)), (1, .int v1), (2, .int v2)] → c4 v1 v2 = some out → W p l e rm_X4_living s mm args below meth c H locs 0 0 (kGi below args s D cI cZ cO ad out k mo 0 0) (F0 mm 4 ls [])) {v1 : Int32} {v2 : Int32} {H : Heap} {locs : List Loc} {ls : Array Slot} {out : Int32} (hH : kHE s H locs D ad cI cZ cO k mo []) (hl : lv_has ls 3 [(0, .ref (ad B)), (1, .int v1), (2, .int v2)]) (hf : F_X4_living_26 B k c4 v1 v2 = some out) : W p l e rm_X4_living s mm args below meth c H locs 0 0 (kGi below args s D cI cZ cO ad out k mo 0 0) (F0 mm 26 ls []) := by
  have hx := V.1
  have hb := V.2.1
  refine lv_iinc (v := (v2 + 1)) (lv' := [(2, .int (v2 + 1)), (0, .ref (ad B)), (1, .int v1)]) hx hb dX4_living_26 hl (k := 2) rfl rfl (by decide) rfl (fun ls hl => ?_)
  refine lv_goto (tgt := 4) hx hb dX4_living_29 (by decide) ?_
  exact hk4 hH (lv_sub hl [1, 2, 0] rfl) hf
set_option maxHeartbeats 4000000 in
set_option maxRecDepth 100000 in
theorem w_X4_living_23 (V : kV p s mm args meth c cX4_living RX4 3 (some .int) D cI cZ cO) {k mo : kS} {B : Nat} (hB : kB B) {c4 : Int32 → Int32 → Option (Int32)} (hk4 : ∀ {v1 : Int32} {v2 : Int32} {H : Heap} {locs : List Loc} {ls : Array Slot} {out : Int32}, kHE s H locs D ad cI cZ cO k mo [] → lv_has ls 3 [(0, .ref (ad B)), (1, .int v1), (2, .int v2)] → c4 v1 v2 = some out → W p l e rm_X4_living s mm args below meth c H locs 0 0 (kGi below args s D cI cZ cO ad out k mo 0 0) (F0 mm 4 ls [])) {v1 : Int32} {v2 : Int32} {H : Heap} {locs : List Loc} {ls : Array Slot} {out : Int32} (hH : kHE s H locs D ad cI cZ cO k mo []) (hl : lv_has ls 3 [(0, .ref (ad B)), (1, .int v1), (2, .int v2)]) (hf : F_X4_living_23 B k c4 v1 v2 = some out) : W p l e rm_X4_living s mm args below meth c H locs 0 0 (kGi below args s D cI cZ cO ad out k mo 0 0) (F0 mm 23 ls []) := by
  have hx := V.1
  have hb := V.2.1
  refine lv_iinc (v := (v1 + 1)) (lv' := [(1, .int (v1 + 1)), (0, .ref (ad B)), (2, .int v2)]) hx hb dX4_living_23 hl (k := 1) rfl rfl (by decide) rfl (fun ls hl => ?_)
  exact w_X4_living_26 V hB hk4 hH (lv_sub hl [1, 0, 2] rfl) hf
set_option maxHeartbeats 4000000 in
set_option maxRecDepth 100000 in
theorem w_X4_living_15 (V : kV p s mm args meth c cX4_living RX4 3 (some .int) D cI cZ cO) {k mo : kS} {B : Nat} (hB : kB B) {c4 : Int32 → Int32 → Option (Int32)} (hk4 : ∀ {v1 : Int32} {v2 : Int32} {H : Heap} {locs : List Loc} {ls : Array Slot} {out : Int32}, kHE s H locs D ad cI cZ cO k mo [] → lv_has ls 3 [(0, .ref (ad B)), (1, .int v1), (2, .int v2)] → c4 v1 v2 = some out → W p l e rm_X4_living s mm args below meth c H locs 0 0 (kGi below args s D cI cZ cO ad out k mo 0 0) (F0 mm 4 ls [])) {v1 : Int32} {v2 : Int32} {H : Heap} {locs : List Loc} {ls : Array Slot} {out : Int32} (hH : kHE s H locs D ad cI cZ cO k mo []) (hl : lv_has ls 3 [(0, .ref (ad B)), (1, .int v1), (2, .int v2)]) (hf : F_X4_living_15 B k c4 v1 v2 = some out) : W p l e rm_X4_living s mm args below meth c H locs 0 0 (kGi below args s D cI cZ cO ad out k mo 0 0) (F0 mm 15 ls []) := by
  have hx := V.1
  have hb := V.2.1
  refine lv_aload_n hx hb dX4_living_15 rfl (lv_at hl 0 rfl) ?_
  refine lv_iload_n hx hb dX4_living_16 rfl (lv_at hl 2 rfl) ?_
  obtain ⟨x15_1, hx15_1, hf⟩ := kbind hf
  refine kr_calli0 hH (kr_runV (as := [.int v2]) (rest := []) (pl := B) V hH kYX4_lives kl_X4_69 (c_X4_lives l hB _ hx15_1 _) rfl rfl ⟨Nat.le_of_ble_eq_true rfl, Nat.le_of_ble_eq_true rfl⟩ (kq_B hB) (kE_w0 hB) rfl rfl hl.1 (Nat.le_of_ble_eq_true rfl) dX4_living_17 ⟨Nat.le_refl _, Nat.le_refl _⟩ rfl) (fun H locs hH => ?_)
  refine lv_if_eq (tgt := 26) hx hb dX4_living_20 (by decide) (fun hq => ?_) (fun hq => ?_)
  · have hf := kpos hq hf
    exact w_X4_living_26 V hB hk4 hH (lv_sub hl [0, 1, 2] rfl) hf
  · have hf := kneg hq hf
    exact w_X4_living_23 V hB hk4 hH (lv_sub hl [0, 1, 2] rfl) hf
set_option maxHeartbeats 4000000 in
set_option maxRecDepth 100000 in
theorem w_X4_living_32 (V : kV p s mm args meth c cX4_living RX4 3 (some .int) D cI cZ cO) {k mo : kS} {B : Nat} (hB : kB B) {v1 : Int32} {H : Heap} {locs : List Loc} {ls : Array Slot} {out : Int32} (hH : kHE s H locs D ad cI cZ cO k mo []) (hl : lv_has ls 3 [(1, .int v1)]) (hf : F_X4_living_32 B k v1 = some out) : W p l e rm_X4_living s mm args below meth c H locs 0 0 (kGi below args s D cI cZ cO ad out k mo 0 0) (F0 mm 32 ls []) := by
  have hx := V.1
  have hb := V.2.1
  refine lv_iload_n hx hb dX4_living_32 rfl (lv_at hl 0 rfl) ?_
  cases hf
  exact kr_iret V hH dX4_living_33
set_option maxHeartbeats 4000000 in
set_option maxRecDepth 100000 in
theorem w_X4_living_4 (V : kV p s mm args meth c cX4_living RX4 3 (some .int) D cI cZ cO) {k mo : kS} {B : Nat} (hB : kB B) : ∀ (n : Nat) {v1 : Int32} {v2 : Int32} {H : Heap} {locs : List Loc} {ls : Array Slot} {out : Int32}, kHE s H locs D ad cI cZ cO k mo [] → lv_has ls 3 [(0, .ref (ad B)), (1, .int v1), (2, .int v2)] → F_X4_living_4 B k n v1 v2 = some out → W p l e rm_X4_living s mm args below meth c H locs 0 0 (kGi below args s D cI cZ cO ad out k mo 0 0) (F0 mm 4 ls []) := by
  have hx := V.1
  have hb := V.2.1
  intro n
  induction n with
  | zero => intro _ _ _ _ _ _ hH hl hf; cases hf
  | succ n hk4 =>
    intro v1 v2 H locs ls out hH hl hf
    refine lv_iload_n hx hb dX4_living_4 rfl (lv_at hl 2 rfl) ?_
    refine lv_aload_n hx hb dX4_living_5 rfl (lv_at hl 0 rfl) ?_
    refine kg_X4_40 hB V hH dX4_living_6 ?_
    refine kg_X4_122 V hH dX4_living_9 ?_
    refine lv_icmp_ge (tgt := 32) hx hb dX4_living_12 (by decide) (fun hq => ?_) (fun hq => ?_)
    · have hf := kpos hq hf
      exact w_X4_living_32 V hB hH (lv_sub hl [1] rfl) hf
    · have hf := kneg hq hf
      exact w_X4_living_15 V hB hk4 hH (lv_sub hl [0, 1, 2] rfl) hf
set_option maxHeartbeats 4000000 in
set_option maxRecDepth 100000 in
theorem w_X4_living_0 (V : kV p s mm args meth c cX4_living RX4 3 (some .int) D cI cZ cO) {k mo : kS} {B : Nat} (hB : kB B) {H : Heap} {locs : List Loc} {ls : Array Slot} {out : Int32} (hH : kHE s H locs D ad cI cZ cO k mo []) (hl : lv_has ls 3 [(0, .ref (ad B))]) (hf : F_X4_living_0 B k = some out) : W p l e rm_X4_living s mm args below meth c H locs 0 0 (kGi below args s D cI cZ cO ad out k mo 0 0) (F0 mm 0 ls []) := by
  have hx := V.1
  have hb := V.2.1
  refine lv_iconst (v := 0) hx hb dX4_living_0 (by decide) ?_
  refine lv_istore_n (lv' := [(1, .int 0), (0, .ref (ad B))]) hx hb dX4_living_1 rfl hl (by decide) rfl (fun ls hl => ?_)
  refine lv_iconst (v := 0) hx hb dX4_living_2 (by decide) ?_
  refine lv_istore_n (lv' := [(2, .int 0), (1, .int 0), (0, .ref (ad B))]) hx hb dX4_living_3 rfl hl (by decide) rfl (fun ls hl => ?_)
  exact w_X4_living_4 V hB kN hH (lv_sub hl [2, 1, 0] rfl) hf
set_option maxHeartbeats 4000000 in
set_option maxRecDepth 100000 in
theorem c_X4_living (l : Launch) {D : va_G} {cI cZ cO : ClassId} {ad : Nat → Nat} {k mo : kS} {B : Nat} (hB : kB B) {out : Int32} (hf : F_X4_living B k = some out) (sz : Nat) : Met l yX4_living (Cond.code yX4_living cX4_living 3 (some .int) :: kWA) rm_X4_living (kP [.ref (ad B)] D cI cZ cO ad (kE ad cI cZ cO k mo) sz) (kQi out D cI cZ cO ad (kE ad cI cZ cO k mo) sz) 0 0 (fA ad sz) := by
  refine kr_met (as := [.ref (ad B)]) (bytes := cX4_living) (maxL := 3) (rt := (some .int)) (Qc := fun sz => kQi out D cI cZ cO ad (kE ad cI cZ cO k mo) sz) (lv := [(0, .ref (ad B))]) (by decide +kernel) (Nat.le_of_ble_eq_true rfl) rfl (fun p e s mm below meth c ls V hH hl => ?_) sz
  exact w_X4_living_0 V hB hH (lv_sub hl [0] rfl) hf
end
section
variable {p : Program} {l : Launch} {e : Env} {s : State} {mm : MethodId} {args : Array Value} {below : List Frame} {meth : Method} {c : Code} {D : va_G} {cI cZ cO : ClassId} {ad : Nat → Nat}
abbrev rm_X4_rulers : Room := { frames := 2, cells := 0, slots := 0, locals := 42 }
set_option maxHeartbeats 4000000 in
set_option maxRecDepth 100000 in
theorem w_X4_rulers_43 (V : kV p s mm args meth c cX4_rulers RX4 4 (some .int) D cI cZ cO) {k mo : kS} {B : Nat} (hB : kB B) {c4 : Int32 → Int32 → Int32 → Option (Int32)} (hk4 : ∀ {v1 : Int32} {v2 : Int32} {v3 : Int32} {H : Heap} {locs : List Loc} {ls : Array Slot} {out : Int32}, kHE s H locs D ad cI cZ cO k mo [] → lv_has ls 4 [(0, .ref (ad B)), (1, .int v1), (2, .int v2), (3, .int v3)] → c4 v1 v2 v3 = some out → W p l e rm_X4_rulers s mm args below meth c H locs 0 0 (kGi below args s D cI cZ cO ad out k mo 0 0) (F0 mm 4 ls [])) {v1 : Int32} {v2 : Int32} {v3 : Int32} {H : Heap} {locs : List Loc} {ls : Array Slot} {out : Int32} (hH : kHE s H locs D ad cI cZ cO k mo []) (hl : lv_has ls 4 [(0, .ref (ad B)), (1, .int v1), (2, .int v2), (3, .int v3)]) (hf : F_X4_rulers_43 B k c4 v1 v2 v3 = some out) : W p l e rm_X4_rulers s mm args below meth c H locs 0 0 (kGi below args s D cI cZ cO ad out k mo 0 0) (F0 mm 43 ls []) := by
  have hx := V.1
  have hb := V.2.1
  refine lv_iinc (v := (v3 + 1)) (lv' := [(3, .int (v3 + 1)), (0, .ref (ad B)), (1, .int v1), (2, .int v2)]) hx hb dX4_rulers_43 hl (k := 3) rfl rfl (by decide) rfl (fun ls hl => ?_)
  refine lv_goto (tgt := 4) hx hb dX4_rulers_46 (by decide) ?_
  exact hk4 hH (lv_sub hl [1, 2, 3, 0] rfl) hf
set_option maxHeartbeats 4000000 in
set_option maxRecDepth 100000 in
theorem w_X4_rulers_40 (V : kV p s mm args meth c cX4_rulers RX4 4 (some .int) D cI cZ cO) {k mo : kS} {B : Nat} (hB : kB B) {c4 : Int32 → Int32 → Int32 → Option (Int32)} (hk4 : ∀ {v1 : Int32} {v2 : Int32} {v3 : Int32} {H : Heap} {locs : List Loc} {ls : Array Slot} {out : Int32}, kHE s H locs D ad cI cZ cO k mo [] → lv_has ls 4 [(0, .ref (ad B)), (1, .int v1), (2, .int v2), (3, .int v3)] → c4 v1 v2 v3 = some out → W p l e rm_X4_rulers s mm args below meth c H locs 0 0 (kGi below args s D cI cZ cO ad out k mo 0 0) (F0 mm 4 ls [])) {v1 : Int32} {v2 : Int32} {v3 : Int32} {H : Heap} {locs : List Loc} {ls : Array Slot} {out : Int32} (hH : kHE s H locs D ad cI cZ cO k mo []) (hl : lv_has ls 4 [(0, .ref (ad B)), (1, .int v1), (2, .int v2), (3, .int v3)]) (hf : F_X4_rulers_40 B k c4 v1 v2 v3 = some out) : W p l e rm_X4_rulers s mm args below meth c H locs 0 0 (kGi below args s D cI cZ cO ad out k mo 0 0) (F0 mm 40 ls []) := by
  have hx := V.1
  have hb := V.2.1
  refine lv_iinc (v := (v2 + 1)) (lv' := [(2, .int (v2 + 1)), (0, .ref (ad B)), (1, .int v1), (3, .int v3)]) hx hb dX4_rulers_40 hl (k := 2) rfl rfl (by decide) rfl (fun ls hl => ?_)
  exact w_X4_rulers_43 V hB hk4 hH (lv_sub hl [1, 2, 0, 3] rfl) hf
set_option maxHeartbeats 4000000 in
set_option maxRecDepth 100000 in
theorem w_X4_rulers_30 (V : kV p s mm args meth c cX4_rulers RX4 4 (some .int) D cI cZ cO) {k mo : kS} {B : Nat} (hB : kB B) {c4 : Int32 → Int32 → Int32 → Option (Int32)} (hk4 : ∀ {v1 : Int32} {v2 : Int32} {v3 : Int32} {H : Heap} {locs : List Loc} {ls : Array Slot} {out : Int32}, kHE s H locs D ad cI cZ cO k mo [] → lv_has ls 4 [(0, .ref (ad B)), (1, .int v1), (2, .int v2), (3, .int v3)] → c4 v1 v2 v3 = some out → W p l e rm_X4_rulers s mm args below meth c H locs 0 0 (kGi below args s D cI cZ cO ad out k mo 0 0) (F0 mm 4 ls [])) {v1 : Int32} {v2 : Int32} {v3 : Int32} {H : Heap} {locs : List Loc} {ls : Array Slot} {out : Int32} (hH : kHE s H locs D ad cI cZ cO k mo []) (hl : lv_has ls 4 [(0, .ref (ad B)), (1, .int v1), (2, .int v2), (3, .int v3)]) (hf : F_X4_rulers_30 B k c4 v1 v2 v3 = some out) : W p l e rm_X4_rulers s mm args below meth c H locs 0 0 (kGi below args s D cI cZ cO ad out k mo 0 0) (F0 mm 30 ls []) := by
  have hx := V.1
  have hb := V.2.1
  refine lv_aload_n hx hb dX4_rulers_30 rfl (lv_at hl 0 rfl) ?_
  refine lv_iload_n hx hb dX4_rulers_31 rfl (lv_at hl 3 rfl) ?_
  obtain ⟨x30_1, hx30_1, hf⟩ := kbind hf
  refine kr_calli0 hH (kr_runV (as := [.int v3]) (rest := []) (pl := B) V hH kYX4_age kl_X4_72 (c_X4_age l hB _ hx30_1 _) rfl rfl ⟨Nat.le_of_ble_eq_true rfl, Nat.le_of_ble_eq_true rfl⟩ (kq_B hB) (kE_w0 hB) rfl rfl hl.1 (Nat.le_of_ble_eq_true rfl) dX4_rulers_32 ⟨Nat.le_refl _, Nat.le_refl _⟩ rfl) (fun H locs hH => ?_)
  refine lv_bipush (v := 16) hx hb dX4_rulers_35 (by decide) ?_
  refine lv_icmp_ge (tgt := 43) hx hb dX4_rulers_37 (by decide) (fun hq => ?_) (fun hq => ?_)
  · have hf := kpos hq hf
    exact w_X4_rulers_43 V hB hk4 hH (lv_sub hl [0, 1, 2, 3] rfl) hf
  · have hf := kneg hq hf
    exact w_X4_rulers_40 V hB hk4 hH (lv_sub hl [0, 1, 2, 3] rfl) hf
set_option maxHeartbeats 4000000 in
set_option maxRecDepth 100000 in
theorem w_X4_rulers_26 (V : kV p s mm args meth c cX4_rulers RX4 4 (some .int) D cI cZ cO) {k mo : kS} {B : Nat} (hB : kB B) {c4 : Int32 → Int32 → Int32 → Option (Int32)} (hk4 : ∀ {v1 : Int32} {v2 : Int32} {v3 : Int32} {H : Heap} {locs : List Loc} {ls : Array Slot} {out : Int32}, kHE s H locs D ad cI cZ cO k mo [] → lv_has ls 4 [(0, .ref (ad B)), (1, .int v1), (2, .int v2), (3, .int v3)] → c4 v1 v2 v3 = some out → W p l e rm_X4_rulers s mm args below meth c H locs 0 0 (kGi below args s D cI cZ cO ad out k mo 0 0) (F0 mm 4 ls [])) {v1 : Int32} {v2 : Int32} {v3 : Int32} {H : Heap} {locs : List Loc} {ls : Array Slot} {out : Int32} (hH : kHE s H locs D ad cI cZ cO k mo []) (hl : lv_has ls 4 [(0, .ref (ad B)), (1, .int v1), (2, .int v2), (3, .int v3)]) (hf : F_X4_rulers_26 B k c4 v1 v2 v3 = some out) : W p l e rm_X4_rulers s mm args below meth c H locs 0 0 (kGi below args s D cI cZ cO ad out k mo 0 0) (F0 mm 26 ls []) := by
  have hx := V.1
  have hb := V.2.1
  refine lv_iload_n hx hb dX4_rulers_26 rfl (lv_at hl 1 rfl) ?_
  refine lv_if_eq (tgt := 40) hx hb dX4_rulers_27 (by decide) (fun hq => ?_) (fun hq => ?_)
  · have hf := kpos hq hf
    exact w_X4_rulers_40 V hB hk4 hH (lv_sub hl [0, 1, 2, 3] rfl) hf
  · have hf := kneg hq hf
    exact w_X4_rulers_30 V hB hk4 hH (lv_sub hl [0, 1, 2, 3] rfl) hf
set_option maxHeartbeats 4000000 in
set_option maxRecDepth 100000 in
theorem w_X4_rulers_15 (V : kV p s mm args meth c cX4_rulers RX4 4 (some .int) D cI cZ cO) {k mo : kS} {B : Nat} (hB : kB B) {c4 : Int32 → Int32 → Int32 → Option (Int32)} (hk4 : ∀ {v1 : Int32} {v2 : Int32} {v3 : Int32} {H : Heap} {locs : List Loc} {ls : Array Slot} {out : Int32}, kHE s H locs D ad cI cZ cO k mo [] → lv_has ls 4 [(0, .ref (ad B)), (1, .int v1), (2, .int v2), (3, .int v3)] → c4 v1 v2 v3 = some out → W p l e rm_X4_rulers s mm args below meth c H locs 0 0 (kGi below args s D cI cZ cO ad out k mo 0 0) (F0 mm 4 ls [])) {v1 : Int32} {v2 : Int32} {v3 : Int32} {H : Heap} {locs : List Loc} {ls : Array Slot} {out : Int32} (hH : kHE s H locs D ad cI cZ cO k mo []) (hl : lv_has ls 4 [(0, .ref (ad B)), (1, .int v1), (2, .int v2), (3, .int v3)]) (hf : F_X4_rulers_15 B k c4 v1 v2 v3 = some out) : W p l e rm_X4_rulers s mm args below meth c H locs 0 0 (kGi below args s D cI cZ cO ad out k mo 0 0) (F0 mm 15 ls []) := by
  have hx := V.1
  have hb := V.2.1
  refine lv_aload_n hx hb dX4_rulers_15 rfl (lv_at hl 0 rfl) ?_
  refine kg_X4_12 hB V hH dX4_rulers_16 ?_
  refine lv_iload_n hx hb dX4_rulers_19 rfl (lv_at hl 3 rfl) ?_
  obtain ⟨x15_1, hx15_1, hf⟩ := kbind hf
  refine kr_calli0 hH (kr_runV (as := [.int v3]) (rest := []) (pl := (B + 1)) V hH kYX1_numberUnder kl_X4_157 (c_X1_numberUnder l hB _ hx15_1 _) rfl rfl ⟨Nat.le_of_ble_eq_true rfl, Nat.le_of_ble_eq_true rfl⟩ (kq_w hB (by decide)) (kE_w1 hB) rfl rfl hl.1 (Nat.le_of_ble_eq_true rfl) dX4_rulers_20 ⟨Nat.le_refl _, Nat.le_refl _⟩ rfl) (fun H locs hH => ?_)
  refine lv_if_le (tgt := 43) hx hb dX4_rulers_23 (by decide) (fun hq => ?_) (fun hq => ?_)
  · have hf := kpos hq hf
    exact w_X4_rulers_43 V hB hk4 hH (lv_sub hl [0, 1, 2, 3] rfl) hf
  · have hf := kneg hq hf
    exact w_X4_rulers_26 V hB hk4 hH (lv_sub hl [0, 1, 2, 3] rfl) hf
set_option maxHeartbeats 4000000 in
set_option maxRecDepth 100000 in
theorem w_X4_rulers_49 (V : kV p s mm args meth c cX4_rulers RX4 4 (some .int) D cI cZ cO) {k mo : kS} {B : Nat} (hB : kB B) {v2 : Int32} {H : Heap} {locs : List Loc} {ls : Array Slot} {out : Int32} (hH : kHE s H locs D ad cI cZ cO k mo []) (hl : lv_has ls 4 [(2, .int v2)]) (hf : F_X4_rulers_49 B k v2 = some out) : W p l e rm_X4_rulers s mm args below meth c H locs 0 0 (kGi below args s D cI cZ cO ad out k mo 0 0) (F0 mm 49 ls []) := by
  have hx := V.1
  have hb := V.2.1
  refine lv_iload_n hx hb dX4_rulers_49 rfl (lv_at hl 0 rfl) ?_
  cases hf
  exact kr_iret V hH dX4_rulers_50
set_option maxHeartbeats 4000000 in
set_option maxRecDepth 100000 in
theorem w_X4_rulers_4 (V : kV p s mm args meth c cX4_rulers RX4 4 (some .int) D cI cZ cO) {k mo : kS} {B : Nat} (hB : kB B) : ∀ (n : Nat) {v1 : Int32} {v2 : Int32} {v3 : Int32} {H : Heap} {locs : List Loc} {ls : Array Slot} {out : Int32}, kHE s H locs D ad cI cZ cO k mo [] → lv_has ls 4 [(0, .ref (ad B)), (1, .int v1), (2, .int v2), (3, .int v3)] → F_X4_rulers_4 B k n v1 v2 v3 = some out → W p l e rm_X4_rulers s mm args below meth c H locs 0 0 (kGi below args s D cI cZ cO ad out k mo 0 0) (F0 mm 4 ls []) := by
  have hx := V.1
  have hb := V.2.1
  intro n
  induction n with
  | zero => intro _ _ _ _ _ _ _ hH hl hf; cases hf
  | succ n hk4 =>
    intro v1 v2 v3 H locs ls out hH hl hf
    refine lv_iload_n hx hb dX4_rulers_4 rfl (lv_at hl 3 rfl) ?_
    refine lv_aload_n hx hb dX4_rulers_5 rfl (lv_at hl 0 rfl) ?_
    refine kg_X4_40 hB V hH dX4_rulers_6 ?_
    refine kg_X4_122 V hH dX4_rulers_9 ?_
    refine lv_icmp_ge (tgt := 49) hx hb dX4_rulers_12 (by decide) (fun hq => ?_) (fun hq => ?_)
    · have hf := kpos hq hf
      exact w_X4_rulers_49 V hB hH (lv_sub hl [2] rfl) hf
    · have hf := kneg hq hf
      exact w_X4_rulers_15 V hB hk4 hH (lv_sub hl [0, 1, 2, 3] rfl) hf
set_option maxHeartbeats 4000000 in
set_option maxRecDepth 100000 in
theorem w_X4_rulers_0 (V : kV p s mm args meth c cX4_rulers RX4 4 (some .int) D cI cZ cO) {k mo : kS} {B : Nat} (hB : kB B) {v1 : Int32} {H : Heap} {locs : List Loc} {ls : Array Slot} {out : Int32} (hH : kHE s H locs D ad cI cZ cO k mo []) (hl : lv_has ls 4 [(0, .ref (ad B)), (1, .int v1)]) (hf : F_X4_rulers_0 B k v1 = some out) : W p l e rm_X4_rulers s mm args below meth c H locs 0 0 (kGi below args s D cI cZ cO ad out k mo 0 0) (F0 mm 0 ls []) := by
  have hx := V.1
  have hb := V.2.1
  refine lv_iconst (v := 0) hx hb dX4_rulers_0 (by decide) ?_
  refine lv_istore_n (lv' := [(2, .int 0), (0, .ref (ad B)), (1, .int v1)]) hx hb dX4_rulers_1 rfl hl (by decide) rfl (fun ls hl => ?_)
  refine lv_iconst (v := 0) hx hb dX4_rulers_2 (by decide) ?_
  refine lv_istore_n (lv' := [(3, .int 0), (2, .int 0), (0, .ref (ad B)), (1, .int v1)]) hx hb dX4_rulers_3 rfl hl (by decide) rfl (fun ls hl => ?_)
  exact w_X4_rulers_4 V hB kN hH (lv_sub hl [2, 3, 1, 0] rfl) hf
set_option maxHeartbeats 4000000 in
set_option maxRecDepth 100000 in
theorem c_X4_rulers (l : Launch) {D : va_G} {cI cZ cO : ClassId} {ad : Nat → Nat} {k mo : kS} {B : Nat} (hB : kB B) (v1 : Int32) {out : Int32} (hf : F_X4_rulers B k v1 = some out) (sz : Nat) : Met l yX4_rulers (Cond.code yX4_rulers cX4_rulers 4 (some .int) :: kWA) rm_X4_rulers (kP [.ref (ad B), .int v1] D cI cZ cO ad (kE ad cI cZ cO k mo) sz) (kQi out D cI cZ cO ad (kE ad cI cZ cO k mo) sz) 0 0 (fA ad sz) := by
  refine kr_met (as := [.ref (ad B), .int v1]) (bytes := cX4_rulers) (maxL := 4) (rt := (some .int)) (Qc := fun sz => kQi out D cI cZ cO ad (kE ad cI cZ cO k mo) sz) (lv := [(0, .ref (ad B)), (1, .int v1)]) (by decide +kernel) (Nat.le_of_ble_eq_true rfl) rfl (fun p e s mm below meth c ls V hH hl => ?_) sz
  exact w_X4_rulers_0 V hB hH (lv_sub hl [0, 1] rfl) hf
end
section
variable {p : Program} {l : Launch} {e : Env} {s : State} {mm : MethodId} {args : Array Value} {below : List Frame} {meth : Method} {c : Code} {D : va_G} {cI cZ cO : ClassId} {ad : Nat → Nat}
abbrev rm_X4_countFact : Room := { frames := 3, cells := 0, slots := 0, locals := 65 }
set_option maxHeartbeats 4000000 in
set_option maxRecDepth 100000 in
theorem w_X4_countFact_44 (V : kV p s mm args meth c cX4_countFact RX4 2 (some .int) D cI cZ cO) {k mo : kS} {B : Nat} (hB : kB B) {H : Heap} {locs : List Loc} {ls : Array Slot} {out : Int32} (hH : kHE s H locs D ad cI cZ cO k mo []) (hl : lv_has ls 2 [(0, .ref (ad B))]) (hf : F_X4_countFact_44 B k = some out) : W p l e rm_X4_countFact s mm args below meth c H locs 0 0 (kGi below args s D cI cZ cO ad out k mo 0 0) (F0 mm 44 ls []) := by
  have hx := V.1
  have hb := V.2.1
  refine lv_aload_n hx hb dX4_countFact_44 rfl (lv_at hl 0 rfl) ?_
  refine kg_X4_36 hB V hH dX4_countFact_45 ?_
  cases hf
  exact kr_iret V hH dX4_countFact_48
set_option maxHeartbeats 4000000 in
set_option maxRecDepth 100000 in
theorem w_X4_countFact_49 (V : kV p s mm args meth c cX4_countFact RX4 2 (some .int) D cI cZ cO) {k mo : kS} {B : Nat} (hB : kB B) {H : Heap} {locs : List Loc} {ls : Array Slot} {out : Int32} (hH : kHE s H locs D ad cI cZ cO k mo []) (hl : lv_has ls 2 [(0, .ref (ad B))]) (hf : F_X4_countFact_49 B k = some out) : W p l e rm_X4_countFact s mm args below meth c H locs 0 0 (kGi below args s D cI cZ cO ad out k mo 0 0) (F0 mm 49 ls []) := by
  have hx := V.1
  have hb := V.2.1
  refine lv_aload_n hx hb dX4_countFact_49 rfl (lv_at hl 0 rfl) ?_
  refine kg_X4_40 hB V hH dX4_countFact_50 ?_
  refine kg_X4_122 V hH dX4_countFact_53 ?_
  cases hf
  exact kr_iret V hH dX4_countFact_56
set_option maxHeartbeats 4000000 in
set_option maxRecDepth 100000 in
theorem w_X4_countFact_57 (V : kV p s mm args meth c cX4_countFact RX4 2 (some .int) D cI cZ cO) {k mo : kS} {B : Nat} (hB : kB B) {H : Heap} {locs : List Loc} {ls : Array Slot} {out : Int32} (hH : kHE s H locs D ad cI cZ cO k mo []) (hl : lv_has ls 2 [(0, .ref (ad B))]) (hf : F_X4_countFact_57 B k = some out) : W p l e rm_X4_countFact s mm args below meth c H locs 0 0 (kGi below args s D cI cZ cO ad out k mo 0 0) (F0 mm 57 ls []) := by
  have hx := V.1
  have hb := V.2.1
  refine lv_aload_n hx hb dX4_countFact_57 rfl (lv_at hl 0 rfl) ?_
  obtain ⟨x57_1, hx57_1, hf⟩ := kbind hf
  refine kr_calli0 hH (kr_runV (as := []) (rest := []) (pl := B) V hH kYX4_living kl_X4_172 (c_X4_living l hB hx57_1 _) rfl rfl ⟨Nat.le_of_ble_eq_true rfl, Nat.le_of_ble_eq_true rfl⟩ (kq_B hB) (kE_w0 hB) rfl rfl hl.1 (Nat.le_of_ble_eq_true rfl) dX4_countFact_58 ⟨Nat.le_refl _, Nat.le_refl _⟩ rfl) (fun H locs hH => ?_)
  cases hf
  exact kr_iret V hH dX4_countFact_61
set_option maxHeartbeats 4000000 in
set_option maxRecDepth 100000 in
theorem w_X4_countFact_62 (V : kV p s mm args meth c cX4_countFact RX4 2 (some .int) D cI cZ cO) {k mo : kS} {B : Nat} (hB : kB B) {H : Heap} {locs : List Loc} {ls : Array Slot} {out : Int32} (hH : kHE s H locs D ad cI cZ cO k mo []) (hl : lv_has ls 2 [(0, .ref (ad B))]) (hf : F_X4_countFact_62 B k = some out) : W p l e rm_X4_countFact s mm args below meth c H locs 0 0 (kGi below args s D cI cZ cO ad out k mo 0 0) (F0 mm 62 ls []) := by
  have hx := V.1
  have hb := V.2.1
  refine lv_aload_n hx hb dX4_countFact_62 rfl (lv_at hl 0 rfl) ?_
  refine kg_X4_21 hB V hH dX4_countFact_63 ?_
  obtain ⟨x62_1, hx62_1, hf⟩ := kbind hf
  refine kr_calli0 hH (kr_runV (as := []) (rest := []) (pl := (B + 8)) V hH kYX3_couples kl_X4_176 (c_X3_couples l hB hx62_1 _) rfl rfl ⟨Nat.le_of_ble_eq_true rfl, Nat.le_of_ble_eq_true rfl⟩ (kq_w hB (by decide)) (kE_w8 hB) rfl rfl hl.1 (Nat.le_of_ble_eq_true rfl) dX4_countFact_66 ⟨Nat.le_refl _, Nat.le_refl _⟩ rfl) (fun H locs hH => ?_)
  cases hf
  exact kr_iret V hH dX4_countFact_69
set_option maxHeartbeats 4000000 in
set_option maxRecDepth 100000 in
theorem w_X4_countFact_70 (V : kV p s mm args meth c cX4_countFact RX4 2 (some .int) D cI cZ cO) {k mo : kS} {B : Nat} (hB : kB B) {H : Heap} {locs : List Loc} {ls : Array Slot} {out : Int32} (hH : kHE s H locs D ad cI cZ cO k mo []) (hl : lv_has ls 2 [(0, .ref (ad B))]) (hf : F_X4_countFact_70 B k = some out) : W p l e rm_X4_countFact s mm args below meth c H locs 0 0 (kGi below args s D cI cZ cO ad out k mo 0 0) (F0 mm 70 ls []) := by
  have hx := V.1
  have hb := V.2.1
  refine lv_aload_n hx hb dX4_countFact_70 rfl (lv_at hl 0 rfl) ?_
  refine kg_X4_12 hB V hH dX4_countFact_71 ?_
  refine kg_X4_110 hB V hH dX4_countFact_74 ?_
  cases hf
  exact kr_iret V hH dX4_countFact_77
set_option maxHeartbeats 4000000 in
set_option maxRecDepth 100000 in
theorem w_X4_countFact_78 (V : kV p s mm args meth c cX4_countFact RX4 2 (some .int) D cI cZ cO) {k mo : kS} {B : Nat} (hB : kB B) {H : Heap} {locs : List Loc} {ls : Array Slot} {out : Int32} (hH : kHE s H locs D ad cI cZ cO k mo []) (hl : lv_has ls 2 [(0, .ref (ad B))]) (hf : F_X4_countFact_78 B k = some out) : W p l e rm_X4_countFact s mm args below meth c H locs 0 0 (kGi below args s D cI cZ cO ad out k mo 0 0) (F0 mm 78 ls []) := by
  have hx := V.1
  have hb := V.2.1
  refine lv_aload_n hx hb dX4_countFact_78 rfl (lv_at hl 0 rfl) ?_
  refine kg_X4_12 hB V hH dX4_countFact_79 ?_
  refine lv_iconst (v := (-1)) hx hb dX4_countFact_82 (by decide) ?_
  obtain ⟨x78_1, hx78_1, hf⟩ := kbind hf
  refine kr_calli0 hH (kr_runV (as := [.int (-1)]) (rest := []) (pl := (B + 1)) V hH kYX1_numberUnder kl_X4_157 (c_X1_numberUnder l hB _ hx78_1 _) rfl rfl ⟨Nat.le_of_ble_eq_true rfl, Nat.le_of_ble_eq_true rfl⟩ (kq_w hB (by decide)) (kE_w1 hB) rfl rfl hl.1 (Nat.le_of_ble_eq_true rfl) dX4_countFact_83 ⟨Nat.le_refl _, Nat.le_refl _⟩ rfl) (fun H locs hH => ?_)
  cases hf
  exact kr_iret V hH dX4_countFact_86
set_option maxHeartbeats 4000000 in
set_option maxRecDepth 100000 in
theorem w_X4_countFact_87 (V : kV p s mm args meth c cX4_countFact RX4 2 (some .int) D cI cZ cO) {k mo : kS} {B : Nat} (hB : kB B) {H : Heap} {locs : List Loc} {ls : Array Slot} {out : Int32} (hH : kHE s H locs D ad cI cZ cO k mo []) (hl : lv_has ls 2 [(0, .ref (ad B))]) (hf : F_X4_countFact_87 B k = some out) : W p l e rm_X4_countFact s mm args below meth c H locs 0 0 (kGi below args s D cI cZ cO ad out k mo 0 0) (F0 mm 87 ls []) := by
  have hx := V.1
  have hb := V.2.1
  refine lv_aload_n hx hb dX4_countFact_87 rfl (lv_at hl 0 rfl) ?_
  refine lv_iconst (v := 0) hx hb dX4_countFact_88 (by decide) ?_
  obtain ⟨x87_1, hx87_1, hf⟩ := kbind hf
  refine kr_calli0 hH (kr_runV (as := [.int 0]) (rest := []) (pl := B) V hH kYX4_rulers kl_X4_179 (c_X4_rulers l hB _ hx87_1 _) rfl rfl ⟨Nat.le_of_ble_eq_true rfl, Nat.le_of_ble_eq_true rfl⟩ (kq_B hB) (kE_w0 hB) rfl rfl hl.1 (Nat.le_of_ble_eq_true rfl) dX4_countFact_89 ⟨Nat.le_refl _, Nat.le_refl _⟩ rfl) (fun H locs hH => ?_)
  cases hf
  exact kr_iret V hH dX4_countFact_92
set_option maxHeartbeats 4000000 in
set_option maxRecDepth 100000 in
theorem w_X4_countFact_93 (V : kV p s mm args meth c cX4_countFact RX4 2 (some .int) D cI cZ cO) {k mo : kS} {B : Nat} (hB : kB B) {H : Heap} {locs : List Loc} {ls : Array Slot} {out : Int32} (hH : kHE s H locs D ad cI cZ cO k mo []) (hl : lv_has ls 2 [(0, .ref (ad B))]) (hf : F_X4_countFact_93 B k = some out) : W p l e rm_X4_countFact s mm args below meth c H locs 0 0 (kGi below args s D cI cZ cO ad out k mo 0 0) (F0 mm 93 ls []) := by
  have hx := V.1
  have hb := V.2.1
  refine lv_aload_n hx hb dX4_countFact_93 rfl (lv_at hl 0 rfl) ?_
  refine lv_iconst (v := 1) hx hb dX4_countFact_94 (by decide) ?_
  obtain ⟨x93_1, hx93_1, hf⟩ := kbind hf
  refine kr_calli0 hH (kr_runV (as := [.int 1]) (rest := []) (pl := B) V hH kYX4_rulers kl_X4_179 (c_X4_rulers l hB _ hx93_1 _) rfl rfl ⟨Nat.le_of_ble_eq_true rfl, Nat.le_of_ble_eq_true rfl⟩ (kq_B hB) (kE_w0 hB) rfl rfl hl.1 (Nat.le_of_ble_eq_true rfl) dX4_countFact_95 ⟨Nat.le_refl _, Nat.le_refl _⟩ rfl) (fun H locs hH => ?_)
  cases hf
  exact kr_iret V hH dX4_countFact_98
set_option maxHeartbeats 4000000 in
set_option maxRecDepth 100000 in
theorem w_X4_countFact_0 (V : kV p s mm args meth c cX4_countFact RX4 2 (some .int) D cI cZ cO) {k mo : kS} {B : Nat} (hB : kB B) {v1 : Int32} {H : Heap} {locs : List Loc} {ls : Array Slot} {out : Int32} (hH : kHE s H locs D ad cI cZ cO k mo []) (hl : lv_has ls 2 [(0, .ref (ad B)), (1, .int v1)]) (hf : F_X4_countFact_0 B k v1 = some out) : W p l e rm_X4_countFact s mm args below meth c H locs 0 0 (kGi below args s D cI cZ cO ad out k mo 0 0) (F0 mm 0 ls []) := by
  have hx := V.1
  have hb := V.2.1
  refine lv_iload_n hx hb dX4_countFact_0 rfl (lv_at hl 1 rfl) ?_
  by_cases hq0 : v1 = 0
  · have hf := kpos hq0 hf
    refine lv_tableIn (tgt := 44) hx hb dX4_countFact_1 (by rw [hq0]; decide) (by rw [hq0]; decide) (by rw [hq0]; rfl) (by decide) ?_
    exact w_X4_countFact_44 V hB hH (lv_sub hl [0] rfl) hf
  have hf := kneg hq0 hf
  by_cases hq1 : v1 = 1
  · have hf := kpos hq1 hf
    refine lv_tableIn (tgt := 49) hx hb dX4_countFact_1 (by rw [hq1]; decide) (by rw [hq1]; decide) (by rw [hq1]; rfl) (by decide) ?_
    exact w_X4_countFact_49 V hB hH (lv_sub hl [0] rfl) hf
  have hf := kneg hq1 hf
  by_cases hq2 : v1 = 2
  · have hf := kpos hq2 hf
    refine lv_tableIn (tgt := 57) hx hb dX4_countFact_1 (by rw [hq2]; decide) (by rw [hq2]; decide) (by rw [hq2]; rfl) (by decide) ?_
    exact w_X4_countFact_57 V hB hH (lv_sub hl [0] rfl) hf
  have hf := kneg hq2 hf
  by_cases hq3 : v1 = 3
  · have hf := kpos hq3 hf
    refine lv_tableIn (tgt := 62) hx hb dX4_countFact_1 (by rw [hq3]; decide) (by rw [hq3]; decide) (by rw [hq3]; rfl) (by decide) ?_
    exact w_X4_countFact_62 V hB hH (lv_sub hl [0] rfl) hf
  have hf := kneg hq3 hf
  by_cases hq4 : v1 = 4
  · have hf := kpos hq4 hf
    refine lv_tableIn (tgt := 70) hx hb dX4_countFact_1 (by rw [hq4]; decide) (by rw [hq4]; decide) (by rw [hq4]; rfl) (by decide) ?_
    exact w_X4_countFact_70 V hB hH (lv_sub hl [0] rfl) hf
  have hf := kneg hq4 hf
  by_cases hq5 : v1 = 5
  · have hf := kpos hq5 hf
    refine lv_tableIn (tgt := 78) hx hb dX4_countFact_1 (by rw [hq5]; decide) (by rw [hq5]; decide) (by rw [hq5]; rfl) (by decide) ?_
    exact w_X4_countFact_78 V hB hH (lv_sub hl [0] rfl) hf
  have hf := kneg hq5 hf
  by_cases hq6 : v1 = 6
  · have hf := kpos hq6 hf
    refine lv_tableIn (tgt := 87) hx hb dX4_countFact_1 (by rw [hq6]; decide) (by rw [hq6]; decide) (by rw [hq6]; rfl) (by decide) ?_
    exact w_X4_countFact_87 V hB hH (lv_sub hl [0] rfl) hf
  have hf := kneg hq6 hf
  refine lv_tableOut (tgt := 93) hx hb dX4_countFact_1 (by have z0 := kne (n := 0) hq0 (by decide) (by decide); have z1 := kne (n := 1) hq1 (by decide) (by decide); have z2 := kne (n := 2) hq2 (by decide) (by decide); have z3 := kne (n := 3) hq3 (by decide) (by decide); have z4 := kne (n := 4) hq4 (by decide) (by decide); have z5 := kne (n := 5) hq5 (by decide) (by decide); have z6 := kne (n := 6) hq6 (by decide) (by decide); omega) (by decide) ?_
  exact w_X4_countFact_93 V hB hH (lv_sub hl [0] rfl) hf
set_option maxHeartbeats 4000000 in
set_option maxRecDepth 100000 in
theorem c_X4_countFact (l : Launch) {D : va_G} {cI cZ cO : ClassId} {ad : Nat → Nat} {k mo : kS} {B : Nat} (hB : kB B) (v1 : Int32) {out : Int32} (hf : F_X4_countFact B k v1 = some out) (sz : Nat) : Met l yX4_countFact (Cond.code yX4_countFact cX4_countFact 2 (some .int) :: kWA) rm_X4_countFact (kP [.ref (ad B), .int v1] D cI cZ cO ad (kE ad cI cZ cO k mo) sz) (kQi out D cI cZ cO ad (kE ad cI cZ cO k mo) sz) 0 0 (fA ad sz) := by
  refine kr_met (as := [.ref (ad B), .int v1]) (bytes := cX4_countFact) (maxL := 2) (rt := (some .int)) (Qc := fun sz => kQi out D cI cZ cO ad (kE ad cI cZ cO k mo) sz) (lv := [(0, .ref (ad B)), (1, .int v1)]) (by decide +kernel) (Nat.le_of_ble_eq_true rfl) rfl (fun p e s mm below meth c ls V hH hl => ?_) sz
  exact w_X4_countFact_0 V hB hH (lv_sub hl [0, 1] rfl) hf
end
