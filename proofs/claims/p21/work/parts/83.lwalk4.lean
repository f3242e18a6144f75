/-! LAW: walk, from 20 on -/
section
variable {p : Program} {l : Launch} {e : Env} {s : State} {mm : MethodId} {args : Array Value} {below : List Frame} {meth : Method} {c : Code} {D : va_G} {g : Nat → ClassId} {A : Nat → Prop} {adk : Nat → Nat} {mo : kS}
variable {b L : Nat} {xs : Nat → Int32}
variable {Q : State → Prop}

set_option maxHeartbeats 4000000 in
set_option maxRecDepth 100000 in
theorem w_L_law_75 (V : jV p s mm args meth c cL_law RL 24 (some .boolean) D g) (hA : ∀ q, s.heap.size ≤ q → A q) (LX : jLX l A s) (SX : jSX A s b L xs) (hQ : ∀ {H : Heap} {locs : List Loc} {ls : Array Slot} {cells slots : Nat}, va_S A s.heap H locs → cells ≤ 600130 → slots ≤ 7301080 → W p l e room_1 s mm args below meth c H locs cells slots Q (F0 mm 1222 ls [.int 1])) {c22 : Int32 → kS → kS → Option (Unit × Nat × Nat)} (hk22 : ∀ {ad : Nat → Nat} {v3 : Int32} {k : kS} {z : kS} {H : Heap} {locs : List Loc} {ls : Array Slot} {cells slots uc us : Nat} {o : Unit}, True → jH A s H locs D g ad z (jY adk g k mo) [] → jl_has ls 24 [(0, .ref b), (1, .ref (adk 0)), (2, .ref (ad 0)), (3, .int v3)] → c22 v3 k z = some (o, uc, us) → cells + uc ≤ 600130 → slots + us ≤ 7301080 → W p l e room_1 s mm args below meth c H locs cells slots Q (F0 mm 22 ls [])) {c68 : Int32 → Int32 → Int32 → Int32 → Int32 → (Nat → Int32) → Int32 → (Nat → Int32) → Int32 → (Nat → Int32) → kS → kS → Option (Unit × Nat × Nat)} (hk68 : ∀ {ad : Nat → Nat} {v3 : Int32} {v4 : Int32} {v5 : Int32} {v9 : Int32} {xq49 : Nat} {xl49 : Int32} {xf49 : Nat → Int32} {xq55 : Nat} {xl55 : Int32} {xf55 : Nat → Int32} {xq61 : Nat} {xl61 : Int32} {xf61 : Nat → Int32} {k : kS} {z : kS} {H : Heap} {locs : List Loc} {ls : Array Slot} {cells slots uc us : Nat} {o : Unit}, True → jH A s H locs D g ad z (jY adk g k mo) [jTi g xq49 xl49 xf49, jTi g xq55 xl55 xf55, jTi g xq61 xl61 xf61] → jl_has ls 24 [(0, .ref b), (1, .ref (adk 0)), (2, .ref (ad 0)), (3, .int v3), (4, .int v4), (5, .int v5), (6, .ref xq49), (7, .ref xq55), (8, .ref xq61), (9, .int v9)] → c68 v3 v4 v5 v9 xl49 xf49 xl55 xf55 xl61 xf61 k z = some (o, uc, us) → cells + uc ≤ 600130 → slots + us ≤ 7301080 → W p l e room_1 s mm args below meth c H locs cells slots Q (F0 mm 68 ls [])) {ad : Nat → Nat} {v3 : Int32} {v4 : Int32} {v5 : Int32} {v9 : Int32} {xq49 : Nat} {xl49 : Int32} {xf49 : Nat → Int32} {xq55 : Nat} {xl55 : Int32} {xf55 : Nat → Int32} {xq61 : Nat} {xl61 : Int32} {xf61 : Nat → Int32} {k : kS} {z : kS} {H : Heap} {locs : List Loc} {ls : Array Slot} {cells slots uc us : Nat} {o : Unit} (hG : True) (hH : jH A s H locs D g ad z (jY adk g k mo) [jTi g xq49 xl49 xf49, jTi g xq55 xl55 xf55, jTi g xq61 xl61 xf61]) (hl : jl_has ls 24 [(0, .ref b), (1, .ref (adk 0)), (2, .ref (ad 0)), (3, .int v3), (4, .int v4), (5, .int v5), (6, .ref xq49), (7, .ref xq55), (8, .ref xq61), (9, .int v9)]) (hf : F_L_law_75 xs L c22 c68 v3 v4 v5 v9 xl49 xf49 xl55 xf55 xl61 xf61 k z = some (o, uc, us)) (hc : cells + uc ≤ 600130) (hs : slots + us ≤ 7301080) : W p l e room_1 s mm args below meth c H locs cells slots Q (F0 mm 75 ls []) := by
  have hx := V.1
  have hb := V.2.1
  refine lv_aload hx hb dL_law_75 (lv_at hl.1 6 rfl) ?_
  refine lv_iload hx hb dL_law_77 (lv_at hl.1 9 rfl) ?_
  refine lv_aload_n hx hb dL_law_79 rfl (lv_at hl.1 1 rfl) ?_
  refine lv_iload hx hb dL_law_80 (lv_at hl.1 9 rfl) ?_
  refine lv_iconst (v := 2) hx hb dL_law_82 (by decide) ?_
  obtain ⟨x75_1, hx75_1, hf⟩ := kbind hf
  obtain ⟨h75_2, hf⟩ := kif hf
  obtain ⟨uc75_3, us75_4, hf, e1, e2⟩ := kadd_some2 hf
  have e1 : uc = 4 + uc75_3 := e1
  have e2 : us = 24 + us75_4 := e2
  have hc : cells + 4 + uc75_3 ≤ 600130 := by rw [Nat.add_assoc, ← e1]; exact hc
  have hs : slots + 24 + us75_4 ≤ 7301080 := by rw [Nat.add_assoc, ← e2]; exact hs
  have lc : cells + 4 ≤ 600130 := Nat.le_trans (Nat.le_add_right _ _) hc
  have ls2 : slots + 24 ≤ 7301080 := Nat.le_trans (Nat.le_add_right _ _) hs
  refine jc_callx V hA LX hH kYX5_land kl_L_126 (c_X5_land l LX.1 _ _ hx75_1 _) (Decidable.not_not.mp h75_2) rfl rfl ⟨Nat.le_of_ble_eq_true rfl, Nat.le_of_ble_eq_true rfl⟩ rfl hl.1.1 (as := [.int v9, .int 2]) (rest := [.int v9, .ref xq49]) (Nat.le_of_ble_eq_true rfl) dL_law_83 ⟨lc, ls2⟩ rfl (fun H locs hH => ?_)
  obtain ⟨h75_5, hf⟩ := kif hf
  refine jt_ast V hH 0 rfl h75_5 rfl dL_law_86 (fun H locs hH => ?_)
  refine lv_aload hx hb dL_law_87 (lv_at hl.1 7 rfl) ?_
  refine lv_iload hx hb dL_law_89 (lv_at hl.1 9 rfl) ?_
  refine lv_aload_n hx hb dL_law_91 rfl (lv_at hl.1 1 rfl) ?_
  refine lv_iload hx hb dL_law_92 (lv_at hl.1 9 rfl) ?_
  refine lv_iconst (v := 4) hx hb dL_law_94 (by decide) ?_
  obtain ⟨x75_6, hx75_6, hf⟩ := kbind hf
  obtain ⟨h75_7, hf⟩ := kif hf
  obtain ⟨uc75_8, us75_9, hf, e1, e2⟩ := kadd_some2 hf
  have e1 : uc75_3 = 4 + uc75_8 := e1
  have e2 : us75_4 = 24 + us75_9 := e2
  have hc : cells + 4 + 4 + uc75_8 ≤ 600130 := by rw [Nat.add_assoc, ← e1]; exact hc
  have hs : slots + 24 + 24 + us75_9 ≤ 7301080 := by rw [Nat.add_assoc, ← e2]; exact hs
  have lc : cells + 4 + 4 ≤ 600130 := Nat.le_trans (Nat.le_add_right _ _) hc
  have ls2 : slots + 24 + 24 ≤ 7301080 := Nat.le_trans (Nat.le_add_right _ _) hs
  refine jc_callx V hA LX hH kYX5_land kl_L_126 (c_X5_land l LX.1 _ _ hx75_6 _) (Decidable.not_not.mp h75_7) rfl rfl ⟨Nat.le_of_ble_eq_true rfl, Nat.le_of_ble_eq_true rfl⟩ rfl hl.1.1 (as := [.int v9, .int 4]) (rest := [.int v9, .ref xq55]) (Nat.le_of_ble_eq_true rfl) dL_law_95 ⟨lc, ls2⟩ rfl (fun H locs hH => ?_)
  obtain ⟨h75_10, hf⟩ := kif hf
  refine jt_ast V hH 1 rfl h75_10 rfl dL_law_98 (fun H locs hH => ?_)
  refine lv_aload hx hb dL_law_99 (lv_at hl.1 8 rfl) ?_
  refine lv_iload hx hb dL_law_101 (lv_at hl.1 9 rfl) ?_
  refine lv_aload_n hx hb dL_law_103 rfl (lv_at hl.1 1 rfl) ?_
  refine lv_iload hx hb dL_law_104 (lv_at hl.1 9 rfl) ?_
  refine lv_iconst (v := 5) hx hb dL_law_106 (by decide) ?_
  obtain ⟨x75_11, hx75_11, hf⟩ := kbind hf
  obtain ⟨h75_12, hf⟩ := kif hf
  obtain ⟨uc75_13, us75_14, hf, e1, e2⟩ := kadd_some2 hf
  have e1 : uc75_8 = 4 + uc75_13 := e1
  have e2 : us75_9 = 24 + us75_14 := e2
  have hc : cells + 4 + 4 + 4 + uc75_13 ≤ 600130 := by rw [Nat.add_assoc, ← e1]; exact hc
  have hs : slots + 24 + 24 + 24 + us75_14 ≤ 7301080 := by rw [Nat.add_assoc, ← e2]; exact hs
  have lc : cells + 4 + 4 + 4 ≤ 600130 := Nat.le_trans (Nat.le_add_right _ _) hc
  have ls2 : slots + 24 + 24 + 24 ≤ 7301080 := Nat.le_trans (Nat.le_add_right _ _) hs
  refine jc_callx V hA LX hH kYX5_land kl_L_126 (c_X5_land l LX.1 _ _ hx75_11 _) (Decidable.not_not.mp h75_12) rfl rfl ⟨Nat.le_of_ble_eq_true rfl, Nat.le_of_ble_eq_true rfl⟩ rfl hl.1.1 (as := [.int v9, .int 5]) (rest := [.int v9, .ref xq61]) (Nat.le_of_ble_eq_true rfl) dL_law_107 ⟨lc, ls2⟩ rfl (fun H locs hH => ?_)
  obtain ⟨h75_15, hf⟩ := kif hf
  refine jt_ast V hH 2 rfl h75_15 rfl dL_law_110 (fun H locs hH => ?_)
  refine jl_iinc (v := (v9 + 1)) (lv' := [(9, .int (v9 + 1)), (0, .ref b), (1, .ref (adk 0)), (2, .ref (ad 0)), (3, .int v3), (4, .int v4), (5, .int v5), (6, .ref xq49), (7, .ref xq55), (8, .ref xq61)]) hx hb dL_law_111 hl (k := 9) rfl rfl (by decide) rfl (fun ls hl => ?_)
  refine lv_goto (tgt := 68) hx hb dL_law_114 (by decide) ?_
  exact hk68 trivial hH (jl_sub hl [1, 2, 3, 4, 5, 6, 7, 8, 9, 0] rfl) hf hc hs
set_option maxHeartbeats 4000000 in
set_option maxRecDepth 100000 in
theorem w_L_law_152 (V : jV p s mm args meth c cL_law RL 24 (some .boolean) D g) (hA : ∀ q, s.heap.size ≤ q → A q) (LX : jLX l A s) (SX : jSX A s b L xs) (hQ : ∀ {H : Heap} {locs : List Loc} {ls : Array Slot} {cells slots : Nat}, va_S A s.heap H locs → cells ≤ 600130 → slots ≤ 7301080 → W p l e room_1 s mm args below meth c H locs cells slots Q (F0 mm 1222 ls [.int 1])) {ad : Nat → Nat} {k : kS} {z : kS} {H : Heap} {locs : List Loc} {ls : Array Slot} {cells slots uc us : Nat} {o : Unit} (hG : True) (hH : jH A s H locs D g ad z (jY adk g k mo) []) (hl : jl_has ls 24 []) (hf : F_L_law_152 xs L k z = some (o, uc, us)) (hc : cells + uc ≤ 600130) (hs : slots + us ≤ 7301080) : W p l e room_1 s mm args below meth c H locs cells slots Q (F0 mm 152 ls []) := by
  have hx := V.1
  have hb := V.2.1
  refine lv_iconst (v := 0) hx hb dL_law_152 (by decide) ?_
  cases hf
set_option maxHeartbeats 4000000 in
set_option maxRecDepth 100000 in
theorem w_L_law_331 (V : jV p s mm args meth c cL_law RL 24 (some .boolean) D g) (hA : ∀ q, s.heap.size ≤ q → A q) (LX : jLX l A s) (SX : jSX A s b L xs) (hQ : ∀ {H : Heap} {locs : List Loc} {ls : Array Slot} {cells slots : Nat}, va_S A s.heap H locs → cells ≤ 600130 → slots ≤ 7301080 → W p l e room_1 s mm args below meth c H locs cells slots Q (F0 mm 1222 ls [.int 1])) {c22 : Int32 → kS → kS → Option (Unit × Nat × Nat)} (hk22 : ∀ {ad : Nat → Nat} {v3 : Int32} {k : kS} {z : kS} {H : Heap} {locs : List Loc} {ls : Array Slot} {cells slots uc us : Nat} {o : Unit}, True → jH A s H locs D g ad z (jY adk g k mo) [] → jl_has ls 24 [(0, .ref b), (1, .ref (adk 0)), (2, .ref (ad 0)), (3, .int v3)] → c22 v3 k z = some (o, uc, us) → cells + uc ≤ 600130 → slots + us ≤ 7301080 → W p l e room_1 s mm args below meth c H locs cells slots Q (F0 mm 22 ls [])) {c160 : Int32 → Int32 → Int32 → Int32 → Int32 → Int32 → Int32 → (Nat → Int32) → Int32 → (Nat → Int32) → Int32 → (Nat → Int32) → kS → kS → Option (Unit × Nat × Nat)} (hk160 : ∀ {ad : Nat → Nat} {v3 : Int32} {v4 : Int32} {v5 : Int32} {v9 : Int32} {v10 : Int32} {v11 : Int32} {xq49 : Nat} {xl49 : Int32} {xf49 : Nat → Int32} {xq55 : Nat} {xl55 : Int32} {xf55 : Nat → Int32} {xq61 : Nat} {xl61 : Int32} {xf61 : Nat → Int32} {k : kS} {z : kS} {H : Heap} {locs : List Loc} {ls : Array Slot} {cells slots uc us : Nat} {o : Unit}, True → jH A s H locs D g ad z (jY adk g k mo) [jTi g xq49 xl49 xf49, jTi g xq55 xl55 xf55, jTi g xq61 xl61 xf61] → jl_has ls 24 [(0, .ref b), (1, .ref (adk 0)), (2, .ref (ad 0)), (3, .int v3), (4, .int v4), (5, .int v5), (6, .ref xq49), (7, .ref xq55), (8, .ref xq61), (9, .int v9), (10, .int v10), (11, .int v11)] → c160 v3 v4 v5 v9 v10 v11 xl49 xf49 xl55 xf55 xl61 xf61 k z = some (o, uc, us) → cells + uc ≤ 600130 → slots + us ≤ 7301080 → W p l e room_1 s mm args below meth c H locs cells slots Q (F0 mm 160 ls [])) {ad : Nat → Nat} {v3 : Int32} {v4 : Int32} {v5 : Int32} {v9 : Int32} {v10 : Int32} {v11 : Int32} {xq49 : Nat} {xl49 : Int32} {xf49 : Nat → Int32} {xq55 : Nat} {xl55 : Int32} {xf55 : Nat → Int32} {xq61 : Nat} {xl61 : Int32} {xf61 : Nat → Int32} {k : kS} {z : kS} {H : Heap} {locs : List Loc} {ls : Array Slot} {cells slots uc us : Nat} {o : Unit} (hG : True) (hH : jH A s H locs D g ad z (jY adk g k mo) [jTi g xq49 xl49 xf49, jTi g xq55 xl55 xf55, jTi g xq61 xl61 xf61]) (hl : jl_has ls 24 [(0, .ref b), (1, .ref (adk 0)), (2, .ref (ad 0)), (3, .int v3), (4, .int v4), (5, .int v5), (6, .ref xq49), (7, .ref xq55), (8, .ref xq61), (9, .int v9), (10, .int v10), (11, .int v11)]) (hf : F_L_law_331 xs L c22 c160 v3 v4 v5 v9 v10 v11 xl49 xf49 xl55 xf55 xl61 xf61 k z = some (o, uc, us)) (hc : cells + uc ≤ 600130) (hs : slots + us ≤ 7301080) : W p l e room_1 s mm args below meth c H locs cells slots Q (F0 mm 331 ls []) := by
  have hx := V.1
  have hb := V.2.1
  refine jl_iinc (v := (v11 + 1)) (lv' := [(11, .int (v11 + 1)), (0, .ref b), (1, .ref (adk 0)), (2, .ref (ad 0)), (3, .int v3), (4, .int v4), (5, .int v5), (6, .ref xq49), (7, .ref xq55), (8, .ref xq61), (9, .int v9), (10, .int v10)]) hx hb dL_law_331 hl (k := 11) rfl rfl (by decide) rfl (fun ls hl => ?_)
  refine lv_goto (tgt := 160) hx hb dL_law_334 (by decide) ?_
  exact hk160 trivial hH (jl_sub hl [1, 2, 3, 4, 5, 6, 7, 8, 9, 10, 11, 0] rfl) hf hc hs
set_option maxHeartbeats 4000000 in
set_option maxRecDepth 100000 in
theorem w_L_law_186 (V : jV p s mm args meth c cL_law RL 24 (some .boolean) D g) (hA : ∀ q, s.heap.size ≤ q → A q) (LX : jLX l A s) (SX : jSX A s b L xs) (hQ : ∀ {H : Heap} {locs : List Loc} {ls : Array Slot} {cells slots : Nat}, va_S A s.heap H locs → cells ≤ 600130 → slots ≤ 7301080 → W p l e room_1 s mm args below meth c H locs cells slots Q (F0 mm 1222 ls [.int 1])) {c22 : Int32 → kS → kS → Option (Unit × Nat × Nat)} (hk22 : ∀ {ad : Nat → Nat} {v3 : Int32} {k : kS} {z : kS} {H : Heap} {locs : List Loc} {ls : Array Slot} {cells slots uc us : Nat} {o : Unit}, True → jH A s H locs D g ad z (jY adk g k mo) [] → jl_has ls 24 [(0, .ref b), (1, .ref (adk 0)), (2, .ref (ad 0)), (3, .int v3)] → c22 v3 k z = some (o, uc, us) → cells + uc ≤ 600130 → slots + us ≤ 7301080 → W p l e room_1 s mm args below meth c H locs cells slots Q (F0 mm 22 ls [])) {c160 : Int32 → Int32 → Int32 → Int32 → Int32 → Int32 → Int32 → (Nat → Int32) → Int32 → (Nat → Int32) → Int32 → (Nat → Int32) → kS → kS → Option (Unit × Nat × Nat)} (hk160 : ∀ {ad : Nat → Nat} {v3 : Int32} {v4 : Int32} {v5 : Int32} {v9 : Int32} {v10 : Int32} {v11 : Int32} {xq49 : Nat} {xl49 : Int32} {xf49 : Nat → Int32} {xq55 : Nat} {xl55 : Int32} {xf55 : Nat → Int32} {xq61 : Nat} {xl61 : Int32} {xf61 : Nat → Int32} {k : kS} {z : kS} {H : Heap} {locs : List Loc} {ls : Array Slot} {cells slots uc us : Nat} {o : Unit}, True → jH A s H locs D g ad z (jY adk g k mo) [jTi g xq49 xl49 xf49, jTi g xq55 xl55 xf55, jTi g xq61 xl61 xf61] → jl_has ls 24 [(0, .ref b), (1, .ref (adk 0)), (2, .ref (ad 0)), (3, .int v3), (4, .int v4), (5, .int v5), (6, .ref xq49), (7, .ref xq55), (8, .ref xq61), (9, .int v9), (10, .int v10), (11, .int v11)] → c160 v3 v4 v5 v9 v10 v11 xl49 xf49 xl55 xf55 xl61 xf61 k z = some (o, uc, us) → cells + uc ≤ 600130 → slots + us ≤ 7301080 → W p l e room_1 s mm args below meth c H locs cells slots Q (F0 mm 160 ls [])) {ad : Nat → Nat} {v3 : Int32} {v4 : Int32} {v5 : Int32} {v9 : Int32} {v10 : Int32} {v11 : Int32} {xq49 : Nat} {xl49 : Int32} {xf49 : Nat → Int32} {xq55 : Nat} {xl55 : Int32} {xf55 : Nat → Int32} {xq61 : Nat} {xl61 : Int32} {xf61 : Nat → Int32} {k : kS} {z : kS} {H : Heap} {locs : List Loc} {ls : Array Slot} {cells slots uc us : Nat} {o : Unit} (hG : True) (hH : jH A s H locs D g ad z (jY adk g k mo) [jTi g xq49 xl49 xf49, jTi g xq55 xl55 xf55, jTi g xq61 xl61 xf61]) (hl : jl_has ls 24 [(0, .ref b), (1, .ref (adk 0)), (2, .ref (ad 0)), (3, .int v3), (4, .int v4), (5, .int v5), (6, .ref xq49), (7, .ref xq55), (8, .ref xq61), (9, .int v9), (10, .int v10), (11, .int v11)]) (hf : F_L_law_186 xs L c22 c160 v3 v4 v5 v9 v10 v11 xl49 xf49 xl55 xf55 xl61 xf61 k z = some (o, uc, us)) (hc : cells + uc ≤ 600130) (hs : slots + us ≤ 7301080) : W p l e room_1 s mm args below meth c H locs cells slots Q (F0 mm 186 ls []) := by
  have hx := V.1
  have hb := V.2.1
  refine lv_goto (tgt := 331) hx hb dL_law_186 (by decide) ?_
  exact w_L_law_331 V hA LX SX hQ hk22 hk160 trivial hH (jl_sub hl [0, 1, 2, 3, 4, 5, 6, 7, 8, 9, 10, 11] rfl) hf hc hs
set_option maxHeartbeats 4000000 in
set_option maxRecDepth 100000 in
theorem w_L_law_239 (V : jV p s mm args meth c cL_law RL 24 (some .boolean) D g) (hA : ∀ q, s.heap.size ≤ q → A q) (LX : jLX l A s) (SX : jSX A s b L xs) (hQ : ∀ {H : Heap} {locs : List Loc} {ls : Array Slot} {cells slots : Nat}, va_S A s.heap H locs → cells ≤ 600130 → slots ≤ 7301080 → W p l e room_1 s mm args below meth c H locs cells slots Q (F0 mm 1222 ls [.int 1])) {ad : Nat → Nat} {k : kS} {z : kS} {H : Heap} {locs : List Loc} {ls : Array Slot} {cells slots uc us : Nat} {o : Unit} (hG : True) (hH : jH A s H locs D g ad z (jY adk g k mo) []) (hl : jl_has ls 24 []) (hf : F_L_law_239 xs L k z = some (o, uc, us)) (hc : cells + uc ≤ 600130) (hs : slots + us ≤ 7301080) : W p l e room_1 s mm args below meth c H locs cells slots Q (F0 mm 239 ls []) := by
  have hx := V.1
  have hb := V.2.1
  refine lv_iconst (v := 0) hx hb dL_law_239 (by decide) ?_
  cases hf
set_option maxHeartbeats 4000000 in
set_option maxRecDepth 100000 in
theorem w_L_law_209 (V : jV p s mm args meth c cL_law RL 24 (some .boolean) D g) (hA : ∀ q, s.heap.size ≤ q → A q) (LX : jLX l A s) (SX : jSX A s b L xs) (hQ : ∀ {H : Heap} {locs : List Loc} {ls : Array Slot} {cells slots : Nat}, va_S A s.heap H locs → cells ≤ 600130 → slots ≤ 7301080 → W p l e room_1 s mm args below meth c H locs cells slots Q (F0 mm 1222 ls [.int 1])) {ad : Nat → Nat} {k : kS} {z : kS} {H : Heap} {locs : List Loc} {ls : Array Slot} {cells slots uc us : Nat} {o : Unit} (hG : True) (hH : jH A s H locs D g ad z (jY adk g k mo) []) (hl : jl_has ls 24 []) (hf : F_L_law_209 xs L k z = some (o, uc, us)) (hc : cells + uc ≤ 600130) (hs : slots + us ≤ 7301080) : W p l e room_1 s mm args below meth c H locs cells slots Q (F0 mm 209 ls []) := by
  have hx := V.1
  have hb := V.2.1
  refine lv_goto (tgt := 239) hx hb dL_law_209 (by decide) ?_
  exact w_L_law_239 V hA LX SX hQ trivial hH (jl_sub hl [] rfl) hf hc hs
set_option maxHeartbeats 4000000 in
set_option maxRecDepth 100000 in
theorem w_L_law_307 (V : jV p s mm args meth c cL_law RL 24 (some .boolean) D g) (hA : ∀ q, s.heap.size ≤ q → A q) (LX : jLX l A s) (SX : jSX A s b L xs) (hQ : ∀ {H : Heap} {locs : List Loc} {ls : Array Slot} {cells slots : Nat}, va_S A s.heap H locs → cells ≤ 600130 → slots ≤ 7301080 → W p l e room_1 s mm args below meth c H locs cells slots Q (F0 mm 1222 ls [.int 1])) {ad : Nat → Nat} {k : kS} {z : kS} {H : Heap} {locs : List Loc} {ls : Array Slot} {cells slots uc us : Nat} {o : Unit} (hG : True) (hH : jH A s H locs D g ad z (jY adk g k mo) []) (hl : jl_has ls 24 []) (hf : F_L_law_307 xs L k z = some (o, uc, us)) (hc : cells + uc ≤ 600130) (hs : slots + us ≤ 7301080) : W p l e room_1 s mm args below meth c H locs cells slots Q (F0 mm 307 ls []) := by
  have hx := V.1
  have hb := V.2.1
  refine lv_iconst (v := 0) hx hb dL_law_307 (by decide) ?_
  cases hf
set_option maxHeartbeats 4000000 in
set_option maxRecDepth 100000 in
theorem w_L_law_329 (V : jV p s mm args meth c cL_law RL 24 (some .boolean) D g) (hA : ∀ q, s.heap.size ≤ q → A q) (LX : jLX l A s) (SX : jSX A s b L xs) (hQ : ∀ {H : Heap} {locs : List Loc} {ls : Array Slot} {cells slots : Nat}, va_S A s.heap H locs → cells ≤ 600130 → slots ≤ 7301080 → W p l e room_1 s mm args below meth c H locs cells slots Q (F0 mm 1222 ls [.int 1])) {ad : Nat → Nat} {k : kS} {z : kS} {H : Heap} {locs : List Loc} {ls : Array Slot} {cells slots uc us : Nat} {o : Unit} (hG : True) (hH : jH A s H locs D g ad z (jY adk g k mo) []) (hl : jl_has ls 24 []) (hf : F_L_law_329 xs L k z = some (o, uc, us)) (hc : cells + uc ≤ 600130) (hs : slots + us ≤ 7301080) : W p l e room_1 s mm args below meth c H locs cells slots Q (F0 mm 329 ls []) := by
  have hx := V.1
  have hb := V.2.1
  refine lv_iconst (v := 0) hx hb dL_law_329 (by decide) ?_
  cases hf
set_option maxHeartbeats 4000000 in
set_option maxRecDepth 100000 in
theorem w_L_law_314 (V : jV p s mm args meth c cL_law RL 24 (some .boolean) D g) (hA : ∀ q, s.heap.size ≤ q → A q) (LX : jLX l A s) (SX : jSX A s b L xs) (hQ : ∀ {H : Heap} {locs : List Loc} {ls : Array Slot} {cells slots : Nat}, va_S A s.heap H locs → cells ≤ 600130 → slots ≤ 7301080 → W p l e room_1 s mm args below meth c H locs cells slots Q (F0 mm 1222 ls [.int 1])) {c22 : Int32 → kS → kS → Option (Unit × Nat × Nat)} (hk22 : ∀ {ad : Nat → Nat} {v3 : Int32} {k : kS} {z : kS} {H : Heap} {locs : List Loc} {ls : Array Slot} {cells slots uc us : Nat} {o : Unit}, True → jH A s H locs D g ad z (jY adk g k mo) [] → jl_has ls 24 [(0, .ref b), (1, .ref (adk 0)), (2, .ref (ad 0)), (3, .int v3)] → c22 v3 k z = some (o, uc, us) → cells + uc ≤ 600130 → slots + us ≤ 7301080 → W p l e room_1 s mm args below meth c H locs cells slots Q (F0 mm 22 ls [])) {c160 : Int32 → Int32 → Int32 → Int32 → Int32 → Int32 → Int32 → (Nat → Int32) → Int32 → (Nat → Int32) → Int32 → (Nat → Int32) → kS → kS → Option (Unit × Nat × Nat)} (hk160 : ∀ {ad : Nat → Nat} {v3 : Int32} {v4 : Int32} {v5 : Int32} {v9 : Int32} {v10 : Int32} {v11 : Int32} {xq49 : Nat} {xl49 : Int32} {xf49 : Nat → Int32} {xq55 : Nat} {xl55 : Int32} {xf55 : Nat → Int32} {xq61 : Nat} {xl61 : Int32} {xf61 : Nat → Int32} {k : kS} {z : kS} {H : Heap} {locs : List Loc} {ls : Array Slot} {cells slots uc us : Nat} {o : Unit}, True → jH A s H locs D g ad z (jY adk g k mo) [jTi g xq49 xl49 xf49, jTi g xq55 xl55 xf55, jTi g xq61 xl61 xf61] → jl_has ls 24 [(0, .ref b), (1, .ref (adk 0)), (2, .ref (ad 0)), (3, .int v3), (4, .int v4), (5, .int v5), (6, .ref xq49), (7, .ref xq55), (8, .ref xq61), (9, .int v9), (10, .int v10), (11, .int v11)] → c160 v3 v4 v5 v9 v10 v11 xl49 xf49 xl55 xf55 xl61 xf61 k z = some (o, uc, us) → cells + uc ≤ 600130 → slots + us ≤ 7301080 → W p l e room_1 s mm args below meth c H locs cells slots Q (F0 mm 160 ls [])) {ad : Nat → Nat} {v3 : Int32} {v4 : Int32} {v5 : Int32} {v9 : Int32} {v10 : Int32} {v11 : Int32} {xq49 : Nat} {xl49 : Int32} {xf49 : Nat → Int32} {xq55 : Nat} {xl55 : Int32} {xf55 : Nat → Int32} {xq61 : Nat} {xl61 : Int32} {xf61 : Nat → Int32} {k : kS} {z : kS} {H : Heap} {locs : List Loc} {ls : Array Slot} {cells slots uc us : Nat} {o : Unit} (hG : True) (hH : jH A s H locs D g ad z (jY adk g k mo) [jTi g xq49 xl49 xf49, jTi g xq55 xl55 xf55, jTi g xq61 xl61 xf61]) (hl : jl_has ls 24 [(0, .ref b), (1, .ref (adk 0)), (2, .ref (ad 0)), (3, .int v3), (4, .int v4), (5, .int v5), (6, .ref xq49), (7, .ref xq55), (8, .ref xq61), (9, .int v9), (10, .int v10), (11, .int v11)]) (hf : F_L_law_314 xs L c22 c160 v3 v4 v5 v9 v10 v11 xl49 xf49 xl55 xf55 xl61 xf61 k z = some (o, uc, us)) (hc : cells + uc ≤ 600130) (hs : slots + us ≤ 7301080) : W p l e room_1 s mm args below meth c H locs cells slots Q (F0 mm 314 ls []) := by
  have hx := V.1
  have hb := V.2.1
  refine lv_aload_n hx hb dL_law_314 rfl (lv_at hl.1 1 rfl) ?_
  refine lv_iload hx hb dL_law_315 (lv_at hl.1 11 rfl) ?_
  refine lv_iconst (v := 0) hx hb dL_law_317 (by decide) ?_
  obtain ⟨x314_1, hx314_1, hf⟩ := kbind hf
  obtain ⟨h314_2, hf⟩ := kif hf
  obtain ⟨uc314_3, us314_4, hf, e1, e2⟩ := kadd_some2 hf
  have e1 : uc = 4 + uc314_3 := e1
  have e2 : us = 24 + us314_4 := e2
  have hc : cells + 4 + uc314_3 ≤ 600130 := by rw [Nat.add_assoc, ← e1]; exact hc
  have hs : slots + 24 + us314_4 ≤ 7301080 := by rw [Nat.add_assoc, ← e2]; exact hs
  have lc : cells + 4 ≤ 600130 := Nat.le_trans (Nat.le_add_right _ _) hc
  have ls2 : slots + 24 ≤ 7301080 := Nat.le_trans (Nat.le_add_right _ _) hs
  refine jc_callx V hA LX hH kYX5_ruled kl_L_129 (c_X5_ruled l LX.1 _ _ hx314_1 _) (Decidable.not_not.mp h314_2) rfl rfl ⟨Nat.le_of_ble_eq_true rfl, Nat.le_of_ble_eq_true rfl⟩ rfl hl.1.1 (as := [.int v11, .int 0]) (rest := []) (Nat.le_of_ble_eq_true rfl) dL_law_318 ⟨lc, ls2⟩ rfl (fun H locs hH => ?_)
  refine lv_aload hx hb dL_law_321 (lv_at hl.1 6 rfl) ?_
  refine lv_iload hx hb dL_law_323 (lv_at hl.1 11 rfl) ?_
  obtain ⟨h314_5, hf⟩ := kif hf
  refine jt_ald V hH 0 rfl h314_5 dL_law_325 ?_
  refine lv_icmp_eq (tgt := 331) hx hb dL_law_326 (by decide) (fun hq => ?_) (fun hq => ?_)
  · have hf := kpos hq hf
    exact w_L_law_331 V hA LX SX hQ hk22 hk160 trivial hH (jl_sub hl [0, 1, 2, 3, 4, 5, 6, 7, 8, 9, 10, 11] rfl) hf hc hs
  · have hf := kneg hq hf
    exact w_L_law_329 V hA LX SX hQ trivial (jH_sub hH [] (by decide) rfl) (jl_sub hl [] rfl) hf hc hs
set_option maxHeartbeats 4000000 in
set_option maxRecDepth 100000 in
theorem w_L_law_309 (V : jV p s mm args meth c cL_law RL 24 (some .boolean) D g) (hA : ∀ q, s.heap.size ≤ q → A q) (LX : jLX l A s) (SX : jSX A s b L xs) (hQ : ∀ {H : Heap} {locs : List Loc} {ls : Array Slot} {cells slots : Nat}, va_S A s.heap H locs → cells ≤ 600130 → slots ≤ 7301080 → W p l e room_1 s mm args below meth c H locs cells slots Q (F0 mm 1222 ls [.int 1])) {c22 : Int32 → kS → kS → Option (Unit × Nat × Nat)} (hk22 : ∀ {ad : Nat → Nat} {v3 : Int32} {k : kS} {z : kS} {H : Heap} {locs : List Loc} {ls : Array Slot} {cells slots uc us : Nat} {o : Unit}, True → jH A s H locs D g ad z (jY adk g k mo) [] → jl_has ls 24 [(0, .ref b), (1, .ref (adk 0)), (2, .ref (ad 0)), (3, .int v3)] → c22 v3 k z = some (o, uc, us) → cells + uc ≤ 600130 → slots + us ≤ 7301080 → W p l e room_1 s mm args below meth c H locs cells slots Q (F0 mm 22 ls [])) {c160 : Int32 → Int32 → Int32 → Int32 → Int32 → Int32 → Int32 → (Nat → Int32) → Int32 → (Nat → Int32) → Int32 → (Nat → Int32) → kS → kS → Option (Unit × Nat × Nat)} (hk160 : ∀ {ad : Nat → Nat} {v3 : Int32} {v4 : Int32} {v5 : Int32} {v9 : Int32} {v10 : Int32} {v11 : Int32} {xq49 : Nat} {xl49 : Int32} {xf49 : Nat → Int32} {xq55 : Nat} {xl55 : Int32} {xf55 : Nat → Int32} {xq61 : Nat} {xl61 : Int32} {xf61 : Nat → Int32} {k : kS} {z : kS} {H : Heap} {locs : List Loc} {ls : Array Slot} {cells slots uc us : Nat} {o : Unit}, True → jH A s H locs D g ad z (jY adk g k mo) [jTi g xq49 xl49 xf49, jTi g xq55 xl55 xf55, jTi g xq61 xl61 xf61] → jl_has ls 24 [(0, .ref b), (1, .ref (adk 0)), (2, .ref (ad 0)), (3, .int v3), (4, .int v4), (5, .int v5), (6, .ref xq49), (7, .ref xq55), (8, .ref xq61), (9, .int v9), (10, .int v10), (11, .int v11)] → c160 v3 v4 v5 v9 v10 v11 xl49 xf49 xl55 xf55 xl61 xf61 k z = some (o, uc, us) → cells + uc ≤ 600130 → slots + us ≤ 7301080 → W p l e room_1 s mm args below meth c H locs cells slots Q (F0 mm 160 ls [])) {ad : Nat → Nat} {v3 : Int32} {v4 : Int32} {v5 : Int32} {v9 : Int32} {v10 : Int32} {v11 : Int32} {v12 : Int32} {xq49 : Nat} {xl49 : Int32} {xf49 : Nat → Int32} {xq55 : Nat} {xl55 : Int32} {xf55 : Nat → Int32} {xq61 : Nat} {xl61 : Int32} {xf61 : Nat → Int32} {k : kS} {z : kS} {H : Heap} {locs : List Loc} {ls : Array Slot} {cells slots uc us : Nat} {o : Unit} (hG : True) (hH : jH A s H locs D g ad z (jY adk g k mo) [jTi g xq49 xl49 xf49, jTi g xq55 xl55 xf55, jTi g xq61 xl61 xf61]) (hl : jl_has ls 24 [(0, .ref b), (1, .ref (adk 0)), (2, .ref (ad 0)), (3, .int v3), (4, .int v4), (5, .int v5), (6, .ref xq49), (7, .ref xq55), (8, .ref xq61), (9, .int v9), (10, .int v10), (11, .int v11), (12, .int v12)]) (hf : F_L_law_309 xs L c22 c160 v3 v4 v5 v9 v10 v11 v12 xl49 xf49 xl55 xf55 xl61 xf61 k z = some (o, uc, us)) (hc : cells + uc ≤ 600130) (hs : slots + us ≤ 7301080) : W p l e room_1 s mm args below meth c H locs cells slots Q (F0 mm 309 ls []) := by
  have hx := V.1
  have hb := V.2.1
  refine lv_iload hx hb dL_law_309 (lv_at hl.1 12 rfl) ?_
  refine lv_if_ge (tgt := 331) hx hb dL_law_311 (by decide) (fun hq => ?_) (fun hq => ?_)
  · have hf := kpos hq hf
    exact w_L_law_331 V hA LX SX hQ hk22 hk160 trivial hH (jl_sub hl [0, 1, 2, 3, 4, 5, 6, 7, 8, 9, 10, 11] rfl) hf hc hs
  · have hf := kneg hq hf
    exact w_L_law_314 V hA LX SX hQ hk22 hk160 trivial hH (jl_sub hl [0, 1, 2, 3, 4, 5, 6, 7, 8, 9, 10, 11] rfl) hf hc hs
set_option maxHeartbeats 4000000 in
set_option maxRecDepth 100000 in
theorem w_L_law_292 (V : jV p s mm args meth c cL_law RL 24 (some .boolean) D g) (hA : ∀ q, s.heap.size ≤ q → A q) (LX : jLX l A s) (SX : jSX A s b L xs) (hQ : ∀ {H : Heap} {locs : List Loc} {ls : Array Slot} {cells slots : Nat}, va_S A s.heap H locs → cells ≤ 600130 → slots ≤ 7301080 → W p l e room_1 s mm args below meth c H locs cells slots Q (F0 mm 1222 ls [.int 1])) {c22 : Int32 → kS → kS → Option (Unit × Nat × Nat)} (hk22 : ∀ {ad : Nat → Nat} {v3 : Int32} {k : kS} {z : kS} {H : Heap} {locs : List Loc} {ls : Array Slot} {cells slots uc us : Nat} {o : Unit}, True → jH A s H locs D g ad z (jY adk g k mo) [] → jl_has ls 24 [(0, .ref b), (1, .ref (adk 0)), (2, .ref (ad 0)), (3, .int v3)] → c22 v3 k z = some (o, uc, us) → cells + uc ≤ 600130 → slots + us ≤ 7301080 → W p l e room_1 s mm args below meth c H locs cells slots Q (F0 mm 22 ls [])) {c160 : Int32 → Int32 → Int32 → Int32 → Int32 → Int32 → Int32 → (Nat → Int32) → Int32 → (Nat → Int32) → Int32 → (Nat → Int32) → kS → kS → Option (Unit × Nat × Nat)} (hk160 : ∀ {ad : Nat → Nat} {v3 : Int32} {v4 : Int32} {v5 : Int32} {v9 : Int32} {v10 : Int32} {v11 : Int32} {xq49 : Nat} {xl49 : Int32} {xf49 : Nat → Int32} {xq55 : Nat} {xl55 : Int32} {xf55 : Nat → Int32} {xq61 : Nat} {xl61 : Int32} {xf61 : Nat → Int32} {k : kS} {z : kS} {H : Heap} {locs : List Loc} {ls : Array Slot} {cells slots uc us : Nat} {o : Unit}, True → jH A s H locs D g ad z (jY adk g k mo) [jTi g xq49 xl49 xf49, jTi g xq55 xl55 xf55, jTi g xq61 xl61 xf61] → jl_has ls 24 [(0, .ref b), (1, .ref (adk 0)), (2, .ref (ad 0)), (3, .int v3), (4, .int v4), (5, .int v5), (6, .ref xq49), (7, .ref xq55), (8, .ref xq61), (9, .int v9), (10, .int v10), (11, .int v11)] → c160 v3 v4 v5 v9 v10 v11 xl49 xf49 xl55 xf55 xl61 xf61 k z = some (o, uc, us) → cells + uc ≤ 600130 → slots + us ≤ 7301080 → W p l e room_1 s mm args below meth c H locs cells slots Q (F0 mm 160 ls [])) {ad : Nat → Nat} {v3 : Int32} {v4 : Int32} {v5 : Int32} {v9 : Int32} {v10 : Int32} {v11 : Int32} {v12 : Int32} {xq49 : Nat} {xl49 : Int32} {xf49 : Nat → Int32} {xq55 : Nat} {xl55 : Int32} {xf55 : Nat → Int32} {xq61 : Nat} {xl61 : Int32} {xf61 : Nat → Int32} {k : kS} {z : kS} {H : Heap} {locs : List Loc} {ls : Array Slot} {cells slots uc us : Nat} {o : Unit} (hG : True) (hH : jH A s H locs D g ad z (jY adk g k mo) [jTi g xq49 xl49 xf49, jTi g xq55 xl55 xf55, jTi g xq61 xl61 xf61]) (hl : jl_has ls 24 [(0, .ref b), (1, .ref (adk 0)), (2, .ref (ad 0)), (3, .int v3), (4, .int v4), (5, .int v5), (6, .ref xq49), (7, .ref xq55), (8, .ref xq61), (9, .int v9), (10, .int v10), (11, .int v11), (12, .int v12)]) (hf : F_L_law_292 xs L c22 c160 v3 v4 v5 v9 v10 v11 v12 xl49 xf49 xl55 xf55 xl61 xf61 k z = some (o, uc, us)) (hc : cells + uc ≤ 600130) (hs : slots + us ≤ 7301080) : W p l e room_1 s mm args below meth c H locs cells slots Q (F0 mm 292 ls []) := by
  have hx := V.1
  have hb := V.2.1
  refine lv_aload_n hx hb dL_law_292 rfl (lv_at hl.1 1 rfl) ?_
  refine lv_iload hx hb dL_law_293 (lv_at hl.1 11 rfl) ?_
  refine lv_iconst (v := 1) hx hb dL_law_295 (by decide) ?_
  obtain ⟨x292_1, hx292_1, hf⟩ := kbind hf
  obtain ⟨h292_2, hf⟩ := kif hf
  obtain ⟨uc292_3, us292_4, hf, e1, e2⟩ := kadd_some2 hf
  have e1 : uc = 4 + uc292_3 := e1
  have e2 : us = 24 + us292_4 := e2
  have hc : cells + 4 + uc292_3 ≤ 600130 := by rw [Nat.add_assoc, ← e1]; exact hc
  have hs : slots + 24 + us292_4 ≤ 7301080 := by rw [Nat.add_assoc, ← e2]; exact hs
  have lc : cells + 4 ≤ 600130 := Nat.le_trans (Nat.le_add_right _ _) hc
  have ls2 : slots + 24 ≤ 7301080 := Nat.le_trans (Nat.le_add_right _ _) hs
  refine jc_callx V hA LX hH kYX5_ruled kl_L_129 (c_X5_ruled l LX.1 _ _ hx292_1 _) (Decidable.not_not.mp h292_2) rfl rfl ⟨Nat.le_of_ble_eq_true rfl, Nat.le_of_ble_eq_true rfl⟩ rfl hl.1.1 (as := [.int v11, .int 1]) (rest := []) (Nat.le_of_ble_eq_true rfl) dL_law_296 ⟨lc, ls2⟩ rfl (fun H locs hH => ?_)
  refine lv_aload hx hb dL_law_299 (lv_at hl.1 6 rfl) ?_
  refine lv_iload hx hb dL_law_301 (lv_at hl.1 11 rfl) ?_
  obtain ⟨h292_5, hf⟩ := kif hf
  refine jt_ald V hH 0 rfl h292_5 dL_law_303 ?_
  refine lv_icmp_eq (tgt := 309) hx hb dL_law_304 (by decide) (fun hq => ?_) (fun hq => ?_)
  · have hf := kpos hq hf
    exact w_L_law_309 V hA LX SX hQ hk22 hk160 trivial hH (jl_sub hl [0, 1, 2, 3, 4, 5, 6, 7, 8, 9, 10, 11, 12] rfl) hf hc hs
  · have hf := kneg hq hf
    exact w_L_law_307 V hA LX SX hQ trivial (jH_sub hH [] (by decide) rfl) (jl_sub hl [] rfl) hf hc hs
set_option maxHeartbeats 4000000 in
set_option maxRecDepth 100000 in
theorem w_L_law_284 (V : jV p s mm args meth c cL_law RL 24 (some .boolean) D g) (hA : ∀ q, s.heap.size ≤ q → A q) (LX : jLX l A s) (SX : jSX A s b L xs) (hQ : ∀ {H : Heap} {locs : List Loc} {ls : Array Slot} {cells slots : Nat}, va_S A s.heap H locs → cells ≤ 600130 → slots ≤ 7301080 → W p l e room_1 s mm args below meth c H locs cells slots Q (F0 mm 1222 ls [.int 1])) {c22 : Int32 → kS → kS → Option (Unit × Nat × Nat)} (hk22 : ∀ {ad : Nat → Nat} {v3 : Int32} {k : kS} {z : kS} {H : Heap} {locs : List Loc} {ls : Array Slot} {cells slots uc us : Nat} {o : Unit}, True → jH A s H locs D g ad z (jY adk g k mo) [] → jl_has ls 24 [(0, .ref b), (1, .ref (adk 0)), (2, .ref (ad 0)), (3, .int v3)] → c22 v3 k z = some (o, uc, us) → cells + uc ≤ 600130 → slots + us ≤ 7301080 → W p l e room_1 s mm args below meth c H locs cells slots Q (F0 mm 22 ls [])) {c160 : Int32 → Int32 → Int32 → Int32 → Int32 → Int32 → Int32 → (Nat → Int32) → Int32 → (Nat → Int32) → Int32 → (Nat → Int32) → kS → kS → Option (Unit × Nat × Nat)} (hk160 : ∀ {ad : Nat → Nat} {v3 : Int32} {v4 : Int32} {v5 : Int32} {v9 : Int32} {v10 : Int32} {v11 : Int32} {xq49 : Nat} {xl49 : Int32} {xf49 : Nat → Int32} {xq55 : Nat} {xl55 : Int32} {xf55 : Nat → Int32} {xq61 : Nat} {xl61 : Int32} {xf61 : Nat → Int32} {k : kS} {z : kS} {H : Heap} {locs : List Loc} {ls : Array Slot} {cells slots uc us : Nat} {o : Unit}, True → jH A s H locs D g ad z (jY adk g k mo) [jTi g xq49 xl49 xf49, jTi g xq55 xl55 xf55, jTi g xq61 xl61 xf61] → jl_has ls 24 [(0, .ref b), (1, .ref (adk 0)), (2, .ref (ad 0)), (3, .int v3), (4, .int v4), (5, .int v5), (6, .ref xq49), (7, .ref xq55), (8, .ref xq61), (9, .int v9), (10, .int v10), (11, .int v11)] → c160 v3 v4 v5 v9 v10 v11 xl49 xf49 xl55 xf55 xl61 xf61 k z = some (o, uc, us) → cells + uc ≤ 600130 → slots + us ≤ 7301080 → W p l e room_1 s mm args below meth c H locs cells slots Q (F0 mm 160 ls [])) {ad : Nat → Nat} {v3 : Int32} {v4 : Int32} {v5 : Int32} {v9 : Int32} {v10 : Int32} {v11 : Int32} {v12 : Int32} {xq49 : Nat} {xl49 : Int32} {xf49 : Nat → Int32} {xq55 : Nat} {xl55 : Int32} {xf55 : Nat → Int32} {xq61 : Nat} {xl61 : Int32} {xf61 : Nat → Int32} {k : kS} {z : kS} {H : Heap} {locs : List Loc} {ls : Array Slot} {cells slots uc us : Nat} {o : Unit} (hG : True) (hH : jH A s H locs D g ad z (jY adk g k mo) [jTi g xq49 xl49 xf49, jTi g xq55 xl55 xf55, jTi g xq61 xl61 xf61]) (hl : jl_has ls 24 [(0, .ref b), (1, .ref (adk 0)), (2, .ref (ad 0)), (3, .int v3), (4, .int v4), (5, .int v5), (6, .ref xq49), (7, .ref xq55), (8, .ref xq61), (9, .int v9), (10, .int v10), (11, .int v11), (12, .int v12)]) (hf : F_L_law_284 xs L c22 c160 v3 v4 v5 v9 v10 v11 v12 xl49 xf49 xl55 xf55 xl61 xf61 k z = some (o, uc, us)) (hc : cells + uc ≤ 600130) (hs : slots + us ≤ 7301080) : W p l e room_1 s mm args below meth c H locs cells slots Q (F0 mm 284 ls []) := by
  have hx := V.1
  have hb := V.2.1
  refine lv_aload hx hb dL_law_284 (lv_at hl.1 6 rfl) ?_
  refine lv_iload hx hb dL_law_286 (lv_at hl.1 11 rfl) ?_
  obtain ⟨h284_1, hf⟩ := kif hf
  refine jt_ald V hH 0 rfl h284_1 dL_law_288 ?_
  refine lv_if_lt (tgt := 309) hx hb dL_law_289 (by decide) (fun hq => ?_) (fun hq => ?_)
  · have hf := kpos hq hf
    exact w_L_law_309 V hA LX SX hQ hk22 hk160 trivial hH (jl_sub hl [0, 1, 2, 3, 4, 5, 6, 7, 8, 9, 10, 11, 12] rfl) hf hc hs
  · have hf := kneg hq hf
    exact w_L_law_292 V hA LX SX hQ hk22 hk160 trivial hH (jl_sub hl [0, 1, 2, 3, 4, 5, 6, 7, 8, 9, 10, 11, 12] rfl) hf hc hs
set_option maxHeartbeats 4000000 in
set_option maxRecDepth 100000 in
theorem w_L_law_272 (V : jV p s mm args meth c cL_law RL 24 (some .boolean) D g) (hA : ∀ q, s.heap.size ≤ q → A q) (LX : jLX l A s) (SX : jSX A s b L xs) (hQ : ∀ {H : Heap} {locs : List Loc} {ls : Array Slot} {cells slots : Nat}, va_S A s.heap H locs → cells ≤ 600130 → slots ≤ 7301080 → W p l e room_1 s mm args below meth c H locs cells slots Q (F0 mm 1222 ls [.int 1])) {c22 : Int32 → kS → kS → Option (Unit × Nat × Nat)} (hk22 : ∀ {ad : Nat → Nat} {v3 : Int32} {k : kS} {z : kS} {H : Heap} {locs : List Loc} {ls : Array Slot} {cells slots uc us : Nat} {o : Unit}, True → jH A s H locs D g ad z (jY adk g k mo) [] → jl_has ls 24 [(0, .ref b), (1, .ref (adk 0)), (2, .ref (ad 0)), (3, .int v3)] → c22 v3 k z = some (o, uc, us) → cells + uc ≤ 600130 → slots + us ≤ 7301080 → W p l e room_1 s mm args below meth c H locs cells slots Q (F0 mm 22 ls [])) {c160 : Int32 → Int32 → Int32 → Int32 → Int32 → Int32 → Int32 → (Nat → Int32) → Int32 → (Nat → Int32) → Int32 → (Nat → Int32) → kS → kS → Option (Unit × Nat × Nat)} (hk160 : ∀ {ad : Nat → Nat} {v3 : Int32} {v4 : Int32} {v5 : Int32} {v9 : Int32} {v10 : Int32} {v11 : Int32} {xq49 : Nat} {xl49 : Int32} {xf49 : Nat → Int32} {xq55 : Nat} {xl55 : Int32} {xf55 : Nat → Int32} {xq61 : Nat} {xl61 : Int32} {xf61 : Nat → Int32} {k : kS} {z : kS} {H : Heap} {locs : List Loc} {ls : Array Slot} {cells slots uc us : Nat} {o : Unit}, True → jH A s H locs D g ad z (jY adk g k mo) [jTi g xq49 xl49 xf49, jTi g xq55 xl55 xf55, jTi g xq61 xl61 xf61] → jl_has ls 24 [(0, .ref b), (1, .ref (adk 0)), (2, .ref (ad 0)), (3, .int v3), (4, .int v4), (5, .int v5), (6, .ref xq49), (7, .ref xq55), (8, .ref xq61), (9, .int v9), (10, .int v10), (11, .int v11)] → c160 v3 v4 v5 v9 v10 v11 xl49 xf49 xl55 xf55 xl61 xf61 k z = some (o, uc, us) → cells + uc ≤ 600130 → slots + us ≤ 7301080 → W p l e room_1 s mm args below meth c H locs cells slots Q (F0 mm 160 ls [])) {ad : Nat → Nat} {v3 : Int32} {v4 : Int32} {v5 : Int32} {v9 : Int32} {v10 : Int32} {v11 : Int32} {v12 : Int32} {xq49 : Nat} {xl49 : Int32} {xf49 : Nat → Int32} {xq55 : Nat} {xl55 : Int32} {xf55 : Nat → Int32} {xq61 : Nat} {xl61 : Int32} {xf61 : Nat → Int32} {k : kS} {z : kS} {H : Heap} {locs : List Loc} {ls : Array Slot} {cells slots uc us : Nat} {o : Unit} (hG : True) (hH : jH A s H locs D g ad z (jY adk g k mo) [jTi g xq49 xl49 xf49, jTi g xq55 xl55 xf55, jTi g xq61 xl61 xf61]) (hl : jl_has ls 24 [(0, .ref b), (1, .ref (adk 0)), (2, .ref (ad 0)), (3, .int v3), (4, .int v4), (5, .int v5), (6, .ref xq49), (7, .ref xq55), (8, .ref xq61), (9, .int v9), (10, .int v10), (11, .int v11), (12, .int v12)]) (hf : F_L_law_272 xs L c22 c160 v3 v4 v5 v9 v10 v11 v12 xl49 xf49 xl55 xf55 xl61 xf61 k z = some (o, uc, us)) (hc : cells + uc ≤ 600130) (hs : slots + us ≤ 7301080) : W p l e room_1 s mm args below meth c H locs cells slots Q (F0 mm 272 ls []) := by
  have hx := V.1
  have hb := V.2.1
  refine lv_aload_n hx hb dL_law_272 rfl (lv_at hl.1 1 rfl) ?_
  refine lv_iload hx hb dL_law_273 (lv_at hl.1 11 rfl) ?_
  refine lv_iconst (v := 0) hx hb dL_law_275 (by decide) ?_
  obtain ⟨x272_1, hx272_1, hf⟩ := kbind hf
  obtain ⟨h272_2, hf⟩ := kif hf
  obtain ⟨uc272_3, us272_4, hf, e1, e2⟩ := kadd_some2 hf
  have e1 : uc = 4 + uc272_3 := e1
  have e2 : us = 24 + us272_4 := e2
  have hc : cells + 4 + uc272_3 ≤ 600130 := by rw [Nat.add_assoc, ← e1]; exact hc
  have hs : slots + 24 + us272_4 ≤ 7301080 := by rw [Nat.add_assoc, ← e2]; exact hs
  have lc : cells + 4 ≤ 600130 := Nat.le_trans (Nat.le_add_right _ _) hc
  have ls2 : slots + 24 ≤ 7301080 := Nat.le_trans (Nat.le_add_right _ _) hs
  refine jc_callx V hA LX hH kYX5_ruled kl_L_129 (c_X5_ruled l LX.1 _ _ hx272_1 _) (Decidable.not_not.mp h272_2) rfl rfl ⟨Nat.le_of_ble_eq_true rfl, Nat.le_of_ble_eq_true rfl⟩ rfl hl.1.1 (as := [.int v11, .int 0]) (rest := []) (Nat.le_of_ble_eq_true rfl) dL_law_276 ⟨lc, ls2⟩ rfl (fun H locs hH => ?_)
  refine lv_iload hx hb dL_law_279 (lv_at hl.1 12 rfl) ?_
  refine lv_icmp_ne (tgt := 307) hx hb dL_law_281 (by decide) (fun hq => ?_) (fun hq => ?_)
  · have hf := kneg hq hf
    exact w_L_law_307 V hA LX SX hQ trivial (jH_sub hH [] (by decide) rfl) (jl_sub hl [] rfl) hf hc hs
  · have hf := kpos hq hf
    exact w_L_law_284 V hA LX SX hQ hk22 hk160 trivial hH (jl_sub hl [0, 1, 2, 3, 4, 5, 6, 7, 8, 9, 10, 11, 12] rfl) hf hc hs
set_option maxHeartbeats 4000000 in
set_option maxRecDepth 100000 in
theorem w_L_law_267 (V : jV p s mm args meth c cL_law RL 24 (some .boolean) D g) (hA : ∀ q, s.heap.size ≤ q → A q) (LX : jLX l A s) (SX : jSX A s b L xs) (hQ : ∀ {H : Heap} {locs : List Loc} {ls : Array Slot} {cells slots : Nat}, va_S A s.heap H locs → cells ≤ 600130 → slots ≤ 7301080 → W p l e room_1 s mm args below meth c H locs cells slots Q (F0 mm 1222 ls [.int 1])) {c22 : Int32 → kS → kS → Option (Unit × Nat × Nat)} (hk22 : ∀ {ad : Nat → Nat} {v3 : Int32} {k : kS} {z : kS} {H : Heap} {locs : List Loc} {ls : Array Slot} {cells slots uc us : Nat} {o : Unit}, True → jH A s H locs D g ad z (jY adk g k mo) [] → jl_has ls 24 [(0, .ref b), (1, .ref (adk 0)), (2, .ref (ad 0)), (3, .int v3)] → c22 v3 k z = some (o, uc, us) → cells + uc ≤ 600130 → slots + us ≤ 7301080 → W p l e room_1 s mm args below meth c H locs cells slots Q (F0 mm 22 ls [])) {c160 : Int32 → Int32 → Int32 → Int32 → Int32 → Int32 → Int32 → (Nat → Int32) → Int32 → (Nat → Int32) → Int32 → (Nat → Int32) → kS → kS → Option (Unit × Nat × Nat)} (hk160 : ∀ {ad : Nat → Nat} {v3 : Int32} {v4 : Int32} {v5 : Int32} {v9 : Int32} {v10 : Int32} {v11 : Int32} {xq49 : Nat} {xl49 : Int32} {xf49 : Nat → Int32} {xq55 : Nat} {xl55 : Int32} {xf55 : Nat → Int32} {xq61 : Nat} {xl61 : Int32} {xf61 : Nat → Int32} {k : kS} {z : kS} {H : Heap} {locs : List Loc} {ls : Array Slot} {cells slots uc us : Nat} {o : Unit}, True → jH A s H locs D g ad z (jY adk g k mo) [jTi g xq49 xl49 xf49, jTi g xq55 xl55 xf55, jTi g xq61 xl61 xf61] → jl_has ls 24 [(0, .ref b), (1, .ref (adk 0)), (2, .ref (ad 0)), (3, .int v3), (4, .int v4), (5, .int v5), (6, .ref xq49), (7, .ref xq55), (8, .ref xq61), (9, .int v9), (10, .int v10), (11, .int v11)] → c160 v3 v4 v5 v9 v10 v11 xl49 xf49 xl55 xf55 xl61 xf61 k z = some (o, uc, us) → cells + uc ≤ 600130 → slots + us ≤ 7301080 → W p l e room_1 s mm args below meth c H locs cells slots Q (F0 mm 160 ls [])) {ad : Nat → Nat} {v3 : Int32} {v4 : Int32} {v5 : Int32} {v9 : Int32} {v10 : Int32} {v11 : Int32} {v12 : Int32} {xq49 : Nat} {xl49 : Int32} {xf49 : Nat → Int32} {xq55 : Nat} {xl55 : Int32} {xf55 : Nat → Int32} {xq61 : Nat} {xl61 : Int32} {xf61 : Nat → Int32} {k : kS} {z : kS} {H : Heap} {locs : List Loc} {ls : Array Slot} {cells slots uc us : Nat} {o : Unit} (hG : True) (hH : jH A s H locs D g ad z (jY adk g k mo) [jTi g xq49 xl49 xf49, jTi g xq55 xl55 xf55, jTi g xq61 xl61 xf61]) (hl : jl_has ls 24 [(0, .ref b), (1, .ref (adk 0)), (2, .ref (ad 0)), (3, .int v3), (4, .int v4), (5, .int v5), (6, .ref xq49), (7, .ref xq55), (8, .ref xq61), (9, .int v9), (10, .int v10), (11, .int v11), (12, .int v12)]) (hf : F_L_law_267 xs L c22 c160 v3 v4 v5 v9 v10 v11 v12 xl49 xf49 xl55 xf55 xl61 xf61 k z = some (o, uc, us)) (hc : cells + uc ≤ 600130) (hs : slots + us ≤ 7301080) : W p l e room_1 s mm args below meth c H locs cells slots Q (F0 mm 267 ls []) := by
  have hx := V.1
  have hb := V.2.1
  refine lv_iload hx hb dL_law_267 (lv_at hl.1 12 rfl) ?_
  refine lv_if_lt (tgt := 309) hx hb dL_law_269 (by decide) (fun hq => ?_) (fun hq => ?_)
  · have hf := kpos hq hf
    exact w_L_law_309 V hA LX SX hQ hk22 hk160 trivial hH (jl_sub hl [0, 1, 2, 3, 4, 5, 6, 7, 8, 9, 10, 11, 12] rfl) hf hc hs
  · have hf := kneg hq hf
    exact w_L_law_272 V hA LX SX hQ hk22 hk160 trivial hH (jl_sub hl [0, 1, 2, 3, 4, 5, 6, 7, 8, 9, 10, 11, 12] rfl) hf hc hs
set_option maxHeartbeats 4000000 in
set_option maxRecDepth 100000 in
theorem w_L_law_263 (V : jV p s mm args meth c cL_law RL 24 (some .boolean) D g) (hA : ∀ q, s.heap.size ≤ q → A q) (LX : jLX l A s) (SX : jSX A s b L xs) (hQ : ∀ {H : Heap} {locs : List Loc} {ls : Array Slot} {cells slots : Nat}, va_S A s.heap H locs → cells ≤ 600130 → slots ≤ 7301080 → W p l e room_1 s mm args below meth c H locs cells slots Q (F0 mm 1222 ls [.int 1])) {c22 : Int32 → kS → kS → Option (Unit × Nat × Nat)} (hk22 : ∀ {ad : Nat → Nat} {v3 : Int32} {k : kS} {z : kS} {H : Heap} {locs : List Loc} {ls : Array Slot} {cells slots uc us : Nat} {o : Unit}, True → jH A s H locs D g ad z (jY adk g k mo) [] → jl_has ls 24 [(0, .ref b), (1, .ref (adk 0)), (2, .ref (ad 0)), (3, .int v3)] → c22 v3 k z = some (o, uc, us) → cells + uc ≤ 600130 → slots + us ≤ 7301080 → W p l e room_1 s mm args below meth c H locs cells slots Q (F0 mm 22 ls [])) {c160 : Int32 → Int32 → Int32 → Int32 → Int32 → Int32 → Int32 → (Nat → Int32) → Int32 → (Nat → Int32) → Int32 → (Nat → Int32) → kS → kS → Option (Unit × Nat × Nat)} (hk160 : ∀ {ad : Nat → Nat} {v3 : Int32} {v4 : Int32} {v5 : Int32} {v9 : Int32} {v10 : Int32} {v11 : Int32} {xq49 : Nat} {xl49 : Int32} {xf49 : Nat → Int32} {xq55 : Nat} {xl55 : Int32} {xf55 : Nat → Int32} {xq61 : Nat} {xl61 : Int32} {xf61 : Nat → Int32} {k : kS} {z : kS} {H : Heap} {locs : List Loc} {ls : Array Slot} {cells slots uc us : Nat} {o : Unit}, True → jH A s H locs D g ad z (jY adk g k mo) [jTi g xq49 xl49 xf49, jTi g xq55 xl55 xf55, jTi g xq61 xl61 xf61] → jl_has ls 24 [(0, .ref b), (1, .ref (adk 0)), (2, .ref (ad 0)), (3, .int v3), (4, .int v4), (5, .int v5), (6, .ref xq49), (7, .ref xq55), (8, .ref xq61), (9, .int v9), (10, .int v10), (11, .int v11)] → c160 v3 v4 v5 v9 v10 v11 xl49 xf49 xl55 xf55 xl61 xf61 k z = some (o, uc, us) → cells + uc ≤ 600130 → slots + us ≤ 7301080 → W p l e room_1 s mm args below meth c H locs cells slots Q (F0 mm 160 ls [])) {ad : Nat → Nat} {s0 : Int32} {s1 : Int32} {s2 : Int32} {v3 : Int32} {v4 : Int32} {v5 : Int32} {v9 : Int32} {v10 : Int32} {v11 : Int32} {v12 : Int32} {xq49 : Nat} {xl49 : Int32} {xf49 : Nat → Int32} {xq55 : Nat} {xl55 : Int32} {xf55 : Nat → Int32} {xq61 : Nat} {xl61 : Int32} {xf61 : Nat → Int32} {k : kS} {z : kS} {H : Heap} {locs : List Loc} {ls : Array Slot} {cells slots uc us : Nat} {o : Unit} (hG : True) (hH : jH A s H locs D g ad z (jY adk g k mo) [jTi g xq49 xl49 xf49, jTi g xq55 xl55 xf55, jTi g xq61 xl61 xf61]) (hl : jl_has ls 24 [(0, .ref b), (1, .ref (adk 0)), (2, .ref (ad 0)), (3, .int v3), (4, .int v4), (5, .int v5), (6, .ref xq49), (7, .ref xq55), (8, .ref xq61), (9, .int v9), (10, .int v10), (11, .int v11), (12, .int v12)]) (hf : F_L_law_263 xs L c22 c160 s0 s1 s2 v3 v4 v5 v9 v10 v11 v12 xl49 xf49 xl55 xf55 xl61 xf61 k z = some (o, uc, us)) (hc : cells + uc ≤ 600130) (hs : slots + us ≤ 7301080) : W p l e room_1 s mm args below meth c H locs cells slots Q (F0 mm 263 ls [.int s2, .int s1, .int s0]) := by
  have hx := V.1
  have hb := V.2.1
  refine lv_iadd hx hb dL_law_263 ?_
  refine lv_icmp_ne (tgt := 307) hx hb dL_law_264 (by decide) (fun hq => ?_) (fun hq => ?_)
  · have hf := kneg hq hf
    exact w_L_law_307 V hA LX SX hQ trivial (jH_sub hH [] (by decide) rfl) (jl_sub hl [] rfl) hf hc hs
  · have hf := kpos hq hf
    exact w_L_law_267 V hA LX SX hQ hk22 hk160 trivial hH (jl_sub hl [0, 1, 2, 3, 4, 5, 6, 7, 8, 9, 10, 11, 12] rfl) hf hc hs
set_option maxHeartbeats 4000000 in
set_option maxRecDepth 100000 in
theorem w_L_law_258 (V : jV p s mm args meth c cL_law RL 24 (some .boolean) D g) (hA : ∀ q, s.heap.size ≤ q → A q) (LX : jLX l A s) (SX : jSX A s b L xs) (hQ : ∀ {H : Heap} {locs : List Loc} {ls : Array Slot} {cells slots : Nat}, va_S A s.heap H locs → cells ≤ 600130 → slots ≤ 7301080 → W p l e room_1 s mm args below meth c H locs cells slots Q (F0 mm 1222 ls [.int 1])) {c22 : Int32 → kS → kS → Option (Unit × Nat × Nat)} (hk22 : ∀ {ad : Nat → Nat} {v3 : Int32} {k : kS} {z : kS} {H : Heap} {locs : List Loc} {ls : Array Slot} {cells slots uc us : Nat} {o : Unit}, True → jH A s H locs D g ad z (jY adk g k mo) [] → jl_has ls 24 [(0, .ref b), (1, .ref (adk 0)), (2, .ref (ad 0)), (3, .int v3)] → c22 v3 k z = some (o, uc, us) → cells + uc ≤ 600130 → slots + us ≤ 7301080 → W p l e room_1 s mm args below meth c H locs cells slots Q (F0 mm 22 ls [])) {c160 : Int32 → Int32 → Int32 → Int32 → Int32 → Int32 → Int32 → (Nat → Int32) → Int32 → (Nat → Int32) → Int32 → (Nat → Int32) → kS → kS → Option (Unit × Nat × Nat)} (hk160 : ∀ {ad : Nat → Nat} {v3 : Int32} {v4 : Int32} {v5 : Int32} {v9 : Int32} {v10 : Int32} {v11 : Int32} {xq49 : Nat} {xl49 : Int32} {xf49 : Nat → Int32} {xq55 : Nat} {xl55 : Int32} {xf55 : Nat → Int32} {xq61 : Nat} {xl61 : Int32} {xf61 : Nat → Int32} {k : kS} {z : kS} {H : Heap} {locs : List Loc} {ls : Array Slot} {cells slots uc us : Nat} {o : Unit}, True → jH A s H locs D g ad z (jY adk g k mo) [jTi g xq49 xl49 xf49, jTi g xq55 xl55 xf55, jTi g xq61 xl61 xf61] → jl_has ls 24 [(0, .ref b), (1, .ref (adk 0)), (2, .ref (ad 0)), (3, .int v3), (4, .int v4), (5, .int v5), (6, .ref xq49), (7, .ref xq55), (8, .ref xq61), (9, .int v9), (10, .int v10), (11, .int v11)] → c160 v3 v4 v5 v9 v10 v11 xl49 xf49 xl55 xf55 xl61 xf61 k z = some (o, uc, us) → cells + uc ≤ 600130 → slots + us ≤ 7301080 → W p l e room_1 s mm args below meth c H locs cells slots Q (F0 mm 160 ls [])) {ad : Nat → Nat} {s0 : Int32} {s1 : Int32} {v3 : Int32} {v4 : Int32} {v5 : Int32} {v9 : Int32} {v10 : Int32} {v11 : Int32} {v12 : Int32} {xq49 : Nat} {xl49 : Int32} {xf49 : Nat → Int32} {xq55 : Nat} {xl55 : Int32} {xf55 : Nat → Int32} {xq61 : Nat} {xl61 : Int32} {xf61 : Nat → Int32} {k : kS} {z : kS} {H : Heap} {locs : List Loc} {ls : Array Slot} {cells slots uc us : Nat} {o : Unit} (hG : True) (hH : jH A s H locs D g ad z (jY adk g k mo) [jTi g xq49 xl49 xf49, jTi g xq55 xl55 xf55, jTi g xq61 xl61 xf61]) (hl : jl_has ls 24 [(0, .ref b), (1, .ref (adk 0)), (2, .ref (ad 0)), (3, .int v3), (4, .int v4), (5, .int v5), (6, .ref xq49), (7, .ref xq55), (8, .ref xq61), (9, .int v9), (10, .int v10), (11, .int v11), (12, .int v12)]) (hf : F_L_law_258 xs L c22 c160 s0 s1 v3 v4 v5 v9 v10 v11 v12 xl49 xf49 xl55 xf55 xl61 xf61 k z = some (o, uc, us)) (hc : cells + uc ≤ 600130) (hs : slots + us ≤ 7301080) : W p l e room_1 s mm args below meth c H locs cells slots Q (F0 mm 258 ls [.int s1, .int s0]) := by
  have hx := V.1
  have hb := V.2.1
  refine lv_iconst (v := 0) hx hb dL_law_258 (by decide) ?_
  refine lv_goto (tgt := 263) hx hb dL_law_259 (by decide) ?_
  exact w_L_law_263 V hA LX SX hQ hk22 hk160 trivial hH (jl_sub hl [0, 1, 2, 3, 4, 5, 6, 7, 8, 9, 10, 11, 12] rfl) hf hc hs
set_option maxHeartbeats 4000000 in
set_option maxRecDepth 100000 in
theorem w_L_law_262 (V : jV p s mm args meth c cL_law RL 24 (some .boolean) D g) (hA : ∀ q, s.heap.size ≤ q → A q) (LX : jLX l A s) (SX : jSX A s b L xs) (hQ : ∀ {H : Heap} {locs : List Loc} {ls : Array Slot} {cells slots : Nat}, va_S A s.heap H locs → cells ≤ 600130 → slots ≤ 7301080 → W p l e room_1 s mm args below meth c H locs cells slots Q (F0 mm 1222 ls [.int 1])) {c22 : Int32 → kS → kS → Option (Unit × Nat × Nat)} (hk22 : ∀ {ad : Nat → Nat} {v3 : Int32} {k : kS} {z : kS} {H : Heap} {locs : List Loc} {ls : Array Slot} {cells slots uc us : Nat} {o : Unit}, True → jH A s H locs D g ad z (jY adk g k mo) [] → jl_has ls 24 [(0, .ref b), (1, .ref (adk 0)), (2, .ref (ad 0)), (3, .int v3)] → c22 v3 k z = some (o, uc, us) → cells + uc ≤ 600130 → slots + us ≤ 7301080 → W p l e room_1 s mm args below meth c H locs cells slots Q (F0 mm 22 ls [])) {c160 : Int32 → Int32 → Int32 → Int32 → Int32 → Int32 → Int32 → (Nat → Int32) → Int32 → (Nat → Int32) → Int32 → (Nat → Int32) → kS → kS → Option (Unit × Nat × Nat)} (hk160 : ∀ {ad : Nat → Nat} {v3 : Int32} {v4 : Int32} {v5 : Int32} {v9 : Int32} {v10 : Int32} {v11 : Int32} {xq49 : Nat} {xl49 : Int32} {xf49 : Nat → Int32} {xq55 : Nat} {xl55 : Int32} {xf55 : Nat → Int32} {xq61 : Nat} {xl61 : Int32} {xf61 : Nat → Int32} {k : kS} {z : kS} {H : Heap} {locs : List Loc} {ls : Array Slot} {cells slots uc us : Nat} {o : Unit}, True → jH A s H locs D g ad z (jY adk g k mo) [jTi g xq49 xl49 xf49, jTi g xq55 xl55 xf55, jTi g xq61 xl61 xf61] → jl_has ls 24 [(0, .ref b), (1, .ref (adk 0)), (2, .ref (ad 0)), (3, .int v3), (4, .int v4), (5, .int v5), (6, .ref xq49), (7, .ref xq55), (8, .ref xq61), (9, .int v9), (10, .int v10), (11, .int v11)] → c160 v3 v4 v5 v9 v10 v11 xl49 xf49 xl55 xf55 xl61 xf61 k z = some (o, uc, us) → cells + uc ≤ 600130 → slots + us ≤ 7301080 → W p l e room_1 s mm args below meth c H locs cells slots Q (F0 mm 160 ls [])) {ad : Nat → Nat} {s0 : Int32} {s1 : Int32} {v3 : Int32} {v4 : Int32} {v5 : Int32} {v9 : Int32} {v10 : Int32} {v11 : Int32} {v12 : Int32} {xq49 : Nat} {xl49 : Int32} {xf49 : Nat → Int32} {xq55 : Nat} {xl55 : Int32} {xf55 : Nat → Int32} {xq61 : Nat} {xl61 : Int32} {xf61 : Nat → Int32} {k : kS} {z : kS} {H : Heap} {locs : List Loc} {ls : Array Slot} {cells slots uc us : Nat} {o : Unit} (hG : True) (hH : jH A s H locs D g ad z (jY adk g k mo) [jTi g xq49 xl49 xf49, jTi g xq55 xl55 xf55, jTi g xq61 xl61 xf61]) (hl : jl_has ls 24 [(0, .ref b), (1, .ref (adk 0)), (2, .ref (ad 0)), (3, .int v3), (4, .int v4), (5, .int v5), (6, .ref xq49), (7, .ref xq55), (8, .ref xq61), (9, .int v9), (10, .int v10), (11, .int v11), (12, .int v12)]) (hf : F_L_law_262 xs L c22 c160 s0 s1 v3 v4 v5 v9 v10 v11 v12 xl49 xf49 xl55 xf55 xl61 xf61 k z = some (o, uc, us)) (hc : cells + uc ≤ 600130) (hs : slots + us ≤ 7301080) : W p l e room_1 s mm args below meth c H locs cells slots Q (F0 mm 262 ls [.int s1, .int s0]) := by
  have hx := V.1
  have hb := V.2.1
  refine lv_iconst (v := 1) hx hb dL_law_262 (by decide) ?_
  exact w_L_law_263 V hA LX SX hQ hk22 hk160 trivial hH (jl_sub hl [0, 1, 2, 3, 4, 5, 6, 7, 8, 9, 10, 11, 12] rfl) hf hc hs
set_option maxHeartbeats 4000000 in
set_option maxRecDepth 100000 in
theorem w_L_law_241 (V : jV p s mm args meth c cL_law RL 24 (some .boolean) D g) (hA : ∀ q, s.heap.size ≤ q → A q) (LX : jLX l A s) (SX : jSX A s b L xs) (hQ : ∀ {H : Heap} {locs : List Loc} {ls : Array Slot} {cells slots : Nat}, va_S A s.heap H locs → cells ≤ 600130 → slots ≤ 7301080 → W p l e room_1 s mm args below meth c H locs cells slots Q (F0 mm 1222 ls [.int 1])) {c22 : Int32 → kS → kS → Option (Unit × Nat × Nat)} (hk22 : ∀ {ad : Nat → Nat} {v3 : Int32} {k : kS} {z : kS} {H : Heap} {locs : List Loc} {ls : Array Slot} {cells slots uc us : Nat} {o : Unit}, True → jH A s H locs D g ad z (jY adk g k mo) [] → jl_has ls 24 [(0, .ref b), (1, .ref (adk 0)), (2, .ref (ad 0)), (3, .int v3)] → c22 v3 k z = some (o, uc, us) → cells + uc ≤ 600130 → slots + us ≤ 7301080 → W p l e room_1 s mm args below meth c H locs cells slots Q (F0 mm 22 ls [])) {c160 : Int32 → Int32 → Int32 → Int32 → Int32 → Int32 → Int32 → (Nat → Int32) → Int32 → (Nat → Int32) → Int32 → (Nat → Int32) → kS → kS → Option (Unit × Nat × Nat)} (hk160 : ∀ {ad : Nat → Nat} {v3 : Int32} {v4 : Int32} {v5 : Int32} {v9 : Int32} {v10 : Int32} {v11 : Int32} {xq49 : Nat} {xl49 : Int32} {xf49 : Nat → Int32} {xq55 : Nat} {xl55 : Int32} {xf55 : Nat → Int32} {xq61 : Nat} {xl61 : Int32} {xf61 : Nat → Int32} {k : kS} {z : kS} {H : Heap} {locs : List Loc} {ls : Array Slot} {cells slots uc us : Nat} {o : Unit}, True → jH A s H locs D g ad z (jY adk g k mo) [jTi g xq49 xl49 xf49, jTi g xq55 xl55 xf55, jTi g xq61 xl61 xf61] → jl_has ls 24 [(0, .ref b), (1, .ref (adk 0)), (2, .ref (ad 0)), (3, .int v3), (4, .int v4), (5, .int v5), (6, .ref xq49), (7, .ref xq55), (8, .ref xq61), (9, .int v9), (10, .int v10), (11, .int v11)] → c160 v3 v4 v5 v9 v10 v11 xl49 xf49 xl55 xf55 xl61 xf61 k z = some (o, uc, us) → cells + uc ≤ 600130 → slots + us ≤ 7301080 → W p l e room_1 s mm args below meth c H locs cells slots Q (F0 mm 160 ls [])) {ad : Nat → Nat} {v3 : Int32} {v4 : Int32} {v5 : Int32} {v9 : Int32} {v10 : Int32} {v11 : Int32} {v12 : Int32} {xq49 : Nat} {xl49 : Int32} {xf49 : Nat → Int32} {xq55 : Nat} {xl55 : Int32} {xf55 : Nat → Int32} {xq61 : Nat} {xl61 : Int32} {xf61 : Nat → Int32} {k : kS} {z : kS} {H : Heap} {locs : List Loc} {ls : Array Slot} {cells slots uc us : Nat} {o : Unit} (hG : True) (hH : jH A s H locs D g ad z (jY adk g k mo) [jTi g xq49 xl49 xf49, jTi g xq55 xl55 xf55, jTi g xq61 xl61 xf61]) (hl : jl_has ls 24 [(0, .ref b), (1, .ref (adk 0)), (2, .ref (ad 0)), (3, .int v3), (4, .int v4), (5, .int v5), (6, .ref xq49), (7, .ref xq55), (8, .ref xq61), (9, .int v9), (10, .int v10), (11, .int v11), (12, .int v12)]) (hf : F_L_law_241 xs L c22 c160 v3 v4 v5 v9 v10 v11 v12 xl49 xf49 xl55 xf55 xl61 xf61 k z = some (o, uc, us)) (hc : cells + uc ≤ 600130) (hs : slots + us ≤ 7301080) : W p l e room_1 s mm args below meth c H locs cells slots Q (F0 mm 241 ls []) := by
  have hx := V.1
  have hb := V.2.1
  refine lv_aload_n hx hb dL_law_241 rfl (lv_at hl.1 1 rfl) ?_
  refine lv_iload hx hb dL_law_242 (lv_at hl.1 11 rfl) ?_
  refine lv_iconst (v := 5) hx hb dL_law_244 (by decide) ?_
  obtain ⟨x241_1, hx241_1, hf⟩ := kbind hf
  obtain ⟨h241_2, hf⟩ := kif hf
  obtain ⟨uc241_3, us241_4, hf, e1, e2⟩ := kadd_some2 hf
  have e1 : uc = 4 + uc241_3 := e1
  have e2 : us = 24 + us241_4 := e2
  have hc : cells + 4 + uc241_3 ≤ 600130 := by rw [Nat.add_assoc, ← e1]; exact hc
  have hs : slots + 24 + us241_4 ≤ 7301080 := by rw [Nat.add_assoc, ← e2]; exact hs
  have lc : cells + 4 ≤ 600130 := Nat.le_trans (Nat.le_add_right _ _) hc
  have ls2 : slots + 24 ≤ 7301080 := Nat.le_trans (Nat.le_add_right _ _) hs
  refine jc_callx V hA LX hH kYX5_land kl_L_126 (c_X5_land l LX.1 _ _ hx241_1 _) (Decidable.not_not.mp h241_2) rfl rfl ⟨Nat.le_of_ble_eq_true rfl, Nat.le_of_ble_eq_true rfl⟩ rfl hl.1.1 (as := [.int v11, .int 5]) (rest := []) (Nat.le_of_ble_eq_true rfl) dL_law_245 ⟨lc, ls2⟩ rfl (fun H locs hH => ?_)
  refine lv_aload hx hb dL_law_248 (lv_at hl.1 8 rfl) ?_
  refine lv_iload hx hb dL_law_250 (lv_at hl.1 11 rfl) ?_
  obtain ⟨h241_5, hf⟩ := kif hf
  refine jt_ald V hH 2 rfl h241_5 dL_law_252 ?_
  refine lv_iload hx hb dL_law_253 (lv_at hl.1 12 rfl) ?_
  refine lv_if_ge (tgt := 262) hx hb dL_law_255 (by decide) (fun hq => ?_) (fun hq => ?_)
  · have hf := kpos hq hf
    exact w_L_law_262 V hA LX SX hQ hk22 hk160 trivial hH (jl_sub hl [0, 1, 2, 3, 4, 5, 6, 7, 8, 9, 10, 11, 12] rfl) hf hc hs
  · have hf := kneg hq hf
    exact w_L_law_258 V hA LX SX hQ hk22 hk160 trivial hH (jl_sub hl [0, 1, 2, 3, 4, 5, 6, 7, 8, 9, 10, 11, 12] rfl) hf hc hs
set_option maxHeartbeats 4000000 in
set_option maxRecDepth 100000 in
theorem w_L_law_199 (V : jV p s mm args meth c cL_law RL 24 (some .boolean) D g) (hA : ∀ q, s.heap.size ≤ q → A q) (LX : jLX l A s) (SX : jSX A s b L xs) (hQ : ∀ {H : Heap} {locs : List Loc} {ls : Array Slot} {cells slots : Nat}, va_S A s.heap H locs → cells ≤ 600130 → slots ≤ 7301080 → W p l e room_1 s mm args below meth c H locs cells slots Q (F0 mm 1222 ls [.int 1])) {c22 : Int32 → kS → kS → Option (Unit × Nat × Nat)} (hk22 : ∀ {ad : Nat → Nat} {v3 : Int32} {k : kS} {z : kS} {H : Heap} {locs : List Loc} {ls : Array Slot} {cells slots uc us : Nat} {o : Unit}, True → jH A s H locs D g ad z (jY adk g k mo) [] → jl_has ls 24 [(0, .ref b), (1, .ref (adk 0)), (2, .ref (ad 0)), (3, .int v3)] → c22 v3 k z = some (o, uc, us) → cells + uc ≤ 600130 → slots + us ≤ 7301080 → W p l e room_1 s mm args below meth c H locs cells slots Q (F0 mm 22 ls [])) {c160 : Int32 → Int32 → Int32 → Int32 → Int32 → Int32 → Int32 → (Nat → Int32) → Int32 → (Nat → Int32) → Int32 → (Nat → Int32) → kS → kS → Option (Unit × Nat × Nat)} (hk160 : ∀ {ad : Nat → Nat} {v3 : Int32} {v4 : Int32} {v5 : Int32} {v9 : Int32} {v10 : Int32} {v11 : Int32} {xq49 : Nat} {xl49 : Int32} {xf49 : Nat → Int32} {xq55 : Nat} {xl55 : Int32} {xf55 : Nat → Int32} {xq61 : Nat} {xl61 : Int32} {xf61 : Nat → Int32} {k : kS} {z : kS} {H : Heap} {locs : List Loc} {ls : Array Slot} {cells slots uc us : Nat} {o : Unit}, True → jH A s H locs D g ad z (jY adk g k mo) [jTi g xq49 xl49 xf49, jTi g xq55 xl55 xf55, jTi g xq61 xl61 xf61] → jl_has ls 24 [(0, .ref b), (1, .ref (adk 0)), (2, .ref (ad 0)), (3, .int v3), (4, .int v4), (5, .int v5), (6, .ref xq49), (7, .ref xq55), (8, .ref xq61), (9, .int v9), (10, .int v10), (11, .int v11)] → c160 v3 v4 v5 v9 v10 v11 xl49 xf49 xl55 xf55 xl61 xf61 k z = some (o, uc, us) → cells + uc ≤ 600130 → slots + us ≤ 7301080 → W p l e room_1 s mm args below meth c H locs cells slots Q (F0 mm 160 ls [])) {ad : Nat → Nat} {v3 : Int32} {v4 : Int32} {v5 : Int32} {v9 : Int32} {v10 : Int32} {v11 : Int32} {v12 : Int32} {xq49 : Nat} {xl49 : Int32} {xf49 : Nat → Int32} {xq55 : Nat} {xl55 : Int32} {xf55 : Nat → Int32} {xq61 : Nat} {xl61 : Int32} {xf61 : Nat → Int32} {k : kS} {z : kS} {H : Heap} {locs : List Loc} {ls : Array Slot} {cells slots uc us : Nat} {o : Unit} (hG : True) (hH : jH A s H locs D g ad z (jY adk g k mo) [jTi g xq49 xl49 xf49, jTi g xq55 xl55 xf55, jTi g xq61 xl61 xf61]) (hl : jl_has ls 24 [(0, .ref b), (1, .ref (adk 0)), (2, .ref (ad 0)), (3, .int v3), (4, .int v4), (5, .int v5), (6, .ref xq49), (7, .ref xq55), (8, .ref xq61), (9, .int v9), (10, .int v10), (11, .int v11), (12, .int v12)]) (hf : F_L_law_199 xs L c22 c160 v3 v4 v5 v9 v10 v11 v12 xl49 xf49 xl55 xf55 xl61 xf61 k z = some (o, uc, us)) (hc : cells + uc ≤ 600130) (hs : slots + us ≤ 7301080) : W p l e room_1 s mm args below meth c H locs cells slots Q (F0 mm 199 ls []) := by
  have hx := V.1
  have hb := V.2.1
  refine lv_iload hx hb dL_law_199 (lv_at hl.1 12 rfl) ?_
  refine lv_aload hx hb dL_law_201 (lv_at hl.1 7 rfl) ?_
  refine lv_iload hx hb dL_law_203 (lv_at hl.1 11 rfl) ?_
  obtain ⟨h199_1, hf⟩ := kif hf
  refine jt_ald V hH 1 rfl h199_1 dL_law_205 ?_
  refine lv_icmp_eq (tgt := 241) hx hb dL_law_206 (by decide) (fun hq => ?_) (fun hq => ?_)
  · have hf := kpos hq hf
    exact w_L_law_241 V hA LX SX hQ hk22 hk160 trivial hH (jl_sub hl [0, 1, 2, 3, 4, 5, 6, 7, 8, 9, 10, 11, 12] rfl) hf hc hs
  · have hf := kneg hq hf
    exact w_L_law_209 V hA LX SX hQ trivial (jH_sub hH [] (by decide) rfl) (jl_sub hl [] rfl) hf hc hs
set_option maxHeartbeats 4000000 in
set_option maxRecDepth 100000 in
theorem w_L_law_232 (V : jV p s mm args meth c cL_law RL 24 (some .boolean) D g) (hA : ∀ q, s.heap.size ≤ q → A q) (LX : jLX l A s) (SX : jSX A s b L xs) (hQ : ∀ {H : Heap} {locs : List Loc} {ls : Array Slot} {cells slots : Nat}, va_S A s.heap H locs → cells ≤ 600130 → slots ≤ 7301080 → W p l e room_1 s mm args below meth c H locs cells slots Q (F0 mm 1222 ls [.int 1])) {c22 : Int32 → kS → kS → Option (Unit × Nat × Nat)} (hk22 : ∀ {ad : Nat → Nat} {v3 : Int32} {k : kS} {z : kS} {H : Heap} {locs : List Loc} {ls : Array Slot} {cells slots uc us : Nat} {o : Unit}, True → jH A s H locs D g ad z (jY adk g k mo) [] → jl_has ls 24 [(0, .ref b), (1, .ref (adk 0)), (2, .ref (ad 0)), (3, .int v3)] → c22 v3 k z = some (o, uc, us) → cells + uc ≤ 600130 → slots + us ≤ 7301080 → W p l e room_1 s mm args below meth c H locs cells slots Q (F0 mm 22 ls [])) {c160 : Int32 → Int32 → Int32 → Int32 → Int32 → Int32 → Int32 → (Nat → Int32) → Int32 → (Nat → Int32) → Int32 → (Nat → Int32) → kS → kS → Option (Unit × Nat × Nat)} (hk160 : ∀ {ad : Nat → Nat} {v3 : Int32} {v4 : Int32} {v5 : Int32} {v9 : Int32} {v10 : Int32} {v11 : Int32} {xq49 : Nat} {xl49 : Int32} {xf49 : Nat → Int32} {xq55 : Nat} {xl55 : Int32} {xf55 : Nat → Int32} {xq61 : Nat} {xl61 : Int32} {xf61 : Nat → Int32} {k : kS} {z : kS} {H : Heap} {locs : List Loc} {ls : Array Slot} {cells slots uc us : Nat} {o : Unit}, True → jH A s H locs D g ad z (jY adk g k mo) [jTi g xq49 xl49 xf49, jTi g xq55 xl55 xf55, jTi g xq61 xl61 xf61] → jl_has ls 24 [(0, .ref b), (1, .ref (adk 0)), (2, .ref (ad 0)), (3, .int v3), (4, .int v4), (5, .int v5), (6, .ref xq49), (7, .ref xq55), (8, .ref xq61), (9, .int v9), (10, .int v10), (11, .int v11)] → c160 v3 v4 v5 v9 v10 v11 xl49 xf49 xl55 xf55 xl61 xf61 k z = some (o, uc, us) → cells + uc ≤ 600130 → slots + us ≤ 7301080 → W p l e room_1 s mm args below meth c H locs cells slots Q (F0 mm 160 ls [])) {ad : Nat → Nat} {v3 : Int32} {v4 : Int32} {v5 : Int32} {v9 : Int32} {v10 : Int32} {v11 : Int32} {v12 : Int32} {xq49 : Nat} {xl49 : Int32} {xf49 : Nat → Int32} {xq55 : Nat} {xl55 : Int32} {xf55 : Nat → Int32} {xq61 : Nat} {xl61 : Int32} {xf61 : Nat → Int32} {k : kS} {z : kS} {H : Heap} {locs : List Loc} {ls : Array Slot} {cells slots uc us : Nat} {o : Unit} (hG : True) (hH : jH A s H locs D g ad z (jY adk g k mo) [jTi g xq49 xl49 xf49, jTi g xq55 xl55 xf55, jTi g xq61 xl61 xf61]) (hl : jl_has ls 24 [(0, .ref b), (1, .ref (adk 0)), (2, .ref (ad 0)), (3, .int v3), (4, .int v4), (5, .int v5), (6, .ref xq49), (7, .ref xq55), (8, .ref xq61), (9, .int v9), (10, .int v10), (11, .int v11), (12, .int v12)]) (hf : F_L_law_232 xs L c22 c160 v3 v4 v5 v9 v10 v11 v12 xl49 xf49 xl55 xf55 xl61 xf61 k z = some (o, uc, us)) (hc : cells + uc ≤ 600130) (hs : slots + us ≤ 7301080) : W p l e room_1 s mm args below meth c H locs cells slots Q (F0 mm 232 ls []) := by
  have hx := V.1
  have hb := V.2.1
  refine lv_iload hx hb dL_law_232 (lv_at hl.1 9 rfl) ?_
  refine lv_bipush (v := 9) hx hb dL_law_234 (by decide) ?_
  refine lv_icmp_eq (tgt := 241) hx hb dL_law_236 (by decide) (fun hq => ?_) (fun hq => ?_)
  · have hf := kpos hq hf
    exact w_L_law_241 V hA LX SX hQ hk22 hk160 trivial hH (jl_sub hl [0, 1, 2, 3, 4, 5, 6, 7, 8, 9, 10, 11, 12] rfl) hf hc hs
  · have hf := kneg hq hf
    exact w_L_law_239 V hA LX SX hQ trivial (jH_sub hH [] (by decide) rfl) (jl_sub hl [] rfl) hf hc hs
set_option maxHeartbeats 4000000 in
set_option maxRecDepth 100000 in
theorem w_L_law_225 (V : jV p s mm args meth c cL_law RL 24 (some .boolean) D g) (hA : ∀ q, s.heap.size ≤ q → A q) (LX : jLX l A s) (SX : jSX A s b L xs) (hQ : ∀ {H : Heap} {locs : List Loc} {ls : Array Slot} {cells slots : Nat}, va_S A s.heap H locs → cells ≤ 600130 → slots ≤ 7301080 → W p l e room_1 s mm args below meth c H locs cells slots Q (F0 mm 1222 ls [.int 1])) {c22 : Int32 → kS → kS → Option (Unit × Nat × Nat)} (hk22 : ∀ {ad : Nat → Nat} {v3 : Int32} {k : kS} {z : kS} {H : Heap} {locs : List Loc} {ls : Array Slot} {cells slots uc us : Nat} {o : Unit}, True → jH A s H locs D g ad z (jY adk g k mo) [] → jl_has ls 24 [(0, .ref b), (1, .ref (adk 0)), (2, .ref (ad 0)), (3, .int v3)] → c22 v3 k z = some (o, uc, us) → cells + uc ≤ 600130 → slots + us ≤ 7301080 → W p l e room_1 s mm args below meth c H locs cells slots Q (F0 mm 22 ls [])) {c160 : Int32 → Int32 → Int32 → Int32 → Int32 → Int32 → Int32 → (Nat → Int32) → Int32 → (Nat → Int32) → Int32 → (Nat → Int32) → kS → kS → Option (Unit × Nat × Nat)} (hk160 : ∀ {ad : Nat → Nat} {v3 : Int32} {v4 : Int32} {v5 : Int32} {v9 : Int32} {v10 : Int32} {v11 : Int32} {xq49 : Nat} {xl49 : Int32} {xf49 : Nat → Int32} {xq55 : Nat} {xl55 : Int32} {xf55 : Nat → Int32} {xq61 : Nat} {xl61 : Int32} {xf61 : Nat → Int32} {k : kS} {z : kS} {H : Heap} {locs : List Loc} {ls : Array Slot} {cells slots uc us : Nat} {o : Unit}, True → jH A s H locs D g ad z (jY adk g k mo) [jTi g xq49 xl49 xf49, jTi g xq55 xl55 xf55, jTi g xq61 xl61 xf61] → jl_has ls 24 [(0, .ref b), (1, .ref (adk 0)), (2, .ref (ad 0)), (3, .int v3), (4, .int v4), (5, .int v5), (6, .ref xq49), (7, .ref xq55), (8, .ref xq61), (9, .int v9), (10, .int v10), (11, .int v11)] → c160 v3 v4 v5 v9 v10 v11 xl49 xf49 xl55 xf55 xl61 xf61 k z = some (o, uc, us) → cells + uc ≤ 600130 → slots + us ≤ 7301080 → W p l e room_1 s mm args below meth c H locs cells slots Q (F0 mm 160 ls [])) {ad : Nat → Nat} {v3 : Int32} {v4 : Int32} {v5 : Int32} {v9 : Int32} {v10 : Int32} {v11 : Int32} {v12 : Int32} {xq49 : Nat} {xl49 : Int32} {xf49 : Nat → Int32} {xq55 : Nat} {xl55 : Int32} {xf55 : Nat → Int32} {xq61 : Nat} {xl61 : Int32} {xf61 : Nat → Int32} {k : kS} {z : kS} {H : Heap} {locs : List Loc} {ls : Array Slot} {cells slots uc us : Nat} {o : Unit} (hG : True) (hH : jH A s H locs D g ad z (jY adk g k mo) [jTi g xq49 xl49 xf49, jTi g xq55 xl55 xf55, jTi g xq61 xl61 xf61]) (hl : jl_has ls 24 [(0, .ref b), (1, .ref (adk 0)), (2, .ref (ad 0)), (3, .int v3), (4, .int v4), (5, .int v5), (6, .ref xq49), (7, .ref xq55), (8, .ref xq61), (9, .int v9), (10, .int v10), (11, .int v11), (12, .int v12)]) (hf : F_L_law_225 xs L c22 c160 v3 v4 v5 v9 v10 v11 v12 xl49 xf49 xl55 xf55 xl61 xf61 k z = some (o, uc, us)) (hc : cells + uc ≤ 600130) (hs : slots + us ≤ 7301080) : W p l e room_1 s mm args below meth c H locs cells slots Q (F0 mm 225 ls []) := by
  have hx := V.1
  have hb := V.2.1
  refine lv_iload hx hb dL_law_225 (lv_at hl.1 9 rfl) ?_
  refine lv_bipush (v := 7) hx hb dL_law_227 (by decide) ?_
  refine lv_icmp_eq (tgt := 241) hx hb dL_law_229 (by decide) (fun hq => ?_) (fun hq => ?_)
  · have hf := kpos hq hf
    exact w_L_law_241 V hA LX SX hQ hk22 hk160 trivial hH (jl_sub hl [0, 1, 2, 3, 4, 5, 6, 7, 8, 9, 10, 11, 12] rfl) hf hc hs
  · have hf := kneg hq hf
    exact w_L_law_232 V hA LX SX hQ hk22 hk160 trivial hH (jl_sub hl [0, 1, 2, 3, 4, 5, 6, 7, 8, 9, 10, 11, 12] rfl) hf hc hs
set_option maxHeartbeats 4000000 in
set_option maxRecDepth 100000 in
theorem w_L_law_218 (V : jV p s mm args meth c cL_law RL 24 (some .boolean) D g) (hA : ∀ q, s.heap.size ≤ q → A q) (LX : jLX l A s) (SX : jSX A s b L xs) (hQ : ∀ {H : Heap} {locs : List Loc} {ls : Array Slot} {cells slots : Nat}, va_S A s.heap H locs → cells ≤ 600130 → slots ≤ 7301080 → W p l e room_1 s mm args below meth c H locs cells slots Q (F0 mm 1222 ls [.int 1])) {c22 : Int32 → kS → kS → Option (Unit × Nat × Nat)} (hk22 : ∀ {ad : Nat → Nat} {v3 : Int32} {k : kS} {z : kS} {H : Heap} {locs : List Loc} {ls : Array Slot} {cells slots uc us : Nat} {o : Unit}, True → jH A s H locs D g ad z (jY adk g k mo) [] → jl_has ls 24 [(0, .ref b), (1, .ref (adk 0)), (2, .ref (ad 0)), (3, .int v3)] → c22 v3 k z = some (o, uc, us) → cells + uc ≤ 600130 → slots + us ≤ 7301080 → W p l e room_1 s mm args below meth c H locs cells slots Q (F0 mm 22 ls [])) {c160 : Int32 → Int32 → Int32 → Int32 → Int32 → Int32 → Int32 → (Nat → Int32) → Int32 → (Nat → Int32) → Int32 → (Nat → Int32) → kS → kS → Option (Unit × Nat × Nat)} (hk160 : ∀ {ad : Nat → Nat} {v3 : Int32} {v4 : Int32} {v5 : Int32} {v9 : Int32} {v10 : Int32} {v11 : Int32} {xq49 : Nat} {xl49 : Int32} {xf49 : Nat → Int32} {xq55 : Nat} {xl55 : Int32} {xf55 : Nat → Int32} {xq61 : Nat} {xl61 : Int32} {xf61 : Nat → Int32} {k : kS} {z : kS} {H : Heap} {locs : List Loc} {ls : Array Slot} {cells slots uc us : Nat} {o : Unit}, True → jH A s H locs D g ad z (jY adk g k mo) [jTi g xq49 xl49 xf49, jTi g xq55 xl55 xf55, jTi g xq61 xl61 xf61] → jl_has ls 24 [(0, .ref b), (1, .ref (adk 0)), (2, .ref (ad 0)), (3, .int v3), (4, .int v4), (5, .int v5), (6, .ref xq49), (7, .ref xq55), (8, .ref xq61), (9, .int v9), (10, .int v10), (11, .int v11)] → c160 v3 v4 v5 v9 v10 v11 xl49 xf49 xl55 xf55 xl61 xf61 k z = some (o, uc, us) → cells + uc ≤ 600130 → slots + us ≤ 7301080 → W p l e room_1 s mm args below meth c H locs cells slots Q (F0 mm 160 ls [])) {ad : Nat → Nat} {v3 : Int32} {v4 : Int32} {v5 : Int32} {v9 : Int32} {v10 : Int32} {v11 : Int32} {v12 : Int32} {xq49 : Nat} {xl49 : Int32} {xf49 : Nat → Int32} {xq55 : Nat} {xl55 : Int32} {xf55 : Nat → Int32} {xq61 : Nat} {xl61 : Int32} {xf61 : Nat → Int32} {k : kS} {z : kS} {H : Heap} {locs : List Loc} {ls : Array Slot} {cells slots uc us : Nat} {o : Unit} (hG : True) (hH : jH A s H locs D g ad z (jY adk g k mo) [jTi g xq49 xl49 xf49, jTi g xq55 xl55 xf55, jTi g xq61 xl61 xf61]) (hl : jl_has ls 24 [(0, .ref b), (1, .ref (adk 0)), (2, .ref (ad 0)), (3, .int v3), (4, .int v4), (5, .int v5), (6, .ref xq49), (7, .ref xq55), (8, .ref xq61), (9, .int v9), (10, .int v10), (11, .int v11), (12, .int v12)]) (hf : F_L_law_218 xs L c22 c160 v3 v4 v5 v9 v10 v11 v12 xl49 xf49 xl55 xf55 xl61 xf61 k z = some (o, uc, us)) (hc : cells + uc ≤ 600130) (hs : slots + us ≤ 7301080) : W p l e room_1 s mm args below meth c H locs cells slots Q (F0 mm 218 ls []) := by
  have hx := V.1
  have hb := V.2.1
  refine lv_iload hx hb dL_law_218 (lv_at hl.1 9 rfl) ?_
  refine lv_bipush (v := 6) hx hb dL_law_220 (by decide) ?_
  refine lv_icmp_eq (tgt := 241) hx hb dL_law_222 (by decide) (fun hq => ?_) (fun hq => ?_)
  · have hf := kpos hq hf
    exact w_L_law_241 V hA LX SX hQ hk22 hk160 trivial hH (jl_sub hl [0, 1, 2, 3, 4, 5, 6, 7, 8, 9, 10, 11, 12] rfl) hf hc hs
  · have hf := kneg hq hf
    exact w_L_law_225 V hA LX SX hQ hk22 hk160 trivial hH (jl_sub hl [0, 1, 2, 3, 4, 5, 6, 7, 8, 9, 10, 11, 12] rfl) hf hc hs
set_option maxHeartbeats 4000000 in
set_option maxRecDepth 100000 in
theorem w_L_law_212 (V : jV p s mm args meth c cL_law RL 24 (some .boolean) D g) (hA : ∀ q, s.heap.size ≤ q → A q) (LX : jLX l A s) (SX : jSX A s b L xs) (hQ : ∀ {H : Heap} {locs : List Loc} {ls : Array Slot} {cells slots : Nat}, va_S A s.heap H locs → cells ≤ 600130 → slots ≤ 7301080 → W p l e room_1 s mm args below meth c H locs cells slots Q (F0 mm 1222 ls [.int 1])) {c22 : Int32 → kS → kS → Option (Unit × Nat × Nat)} (hk22 : ∀ {ad : Nat → Nat} {v3 : Int32} {k : kS} {z : kS} {H : Heap} {locs : List Loc} {ls : Array Slot} {cells slots uc us : Nat} {o : Unit}, True → jH A s H locs D g ad z (jY adk g k mo) [] → jl_has ls 24 [(0, .ref b), (1, .ref (adk 0)), (2, .ref (ad 0)), (3, .int v3)] → c22 v3 k z = some (o, uc, us) → cells + uc ≤ 600130 → slots + us ≤ 7301080 → W p l e room_1 s mm args below meth c H locs cells slots Q (F0 mm 22 ls [])) {c160 : Int32 → Int32 → Int32 → Int32 → Int32 → Int32 → Int32 → (Nat → Int32) → Int32 → (Nat → Int32) → Int32 → (Nat → Int32) → kS → kS → Option (Unit × Nat × Nat)} (hk160 : ∀ {ad : Nat → Nat} {v3 : Int32} {v4 : Int32} {v5 : Int32} {v9 : Int32} {v10 : Int32} {v11 : Int32} {xq49 : Nat} {xl49 : Int32} {xf49 : Nat → Int32} {xq55 : Nat} {xl55 : Int32} {xf55 : Nat → Int32} {xq61 : Nat} {xl61 : Int32} {xf61 : Nat → Int32} {k : kS} {z : kS} {H : Heap} {locs : List Loc} {ls : Array Slot} {cells slots uc us : Nat} {o : Unit}, True → jH A s H locs D g ad z (jY adk g k mo) [jTi g xq49 xl49 xf49, jTi g xq55 xl55 xf55, jTi g xq61 xl61 xf61] → jl_has ls 24 [(0, .ref b), (1, .ref (adk 0)), (2, .ref (ad 0)), (3, .int v3), (4, .int v4), (5, .int v5), (6, .ref xq49), (7, .ref xq55), (8, .ref xq61), (9, .int v9), (10, .int v10), (11, .int v11)] → c160 v3 v4 v5 v9 v10 v11 xl49 xf49 xl55 xf55 xl61 xf61 k z = some (o, uc, us) → cells + uc ≤ 600130 → slots + us ≤ 7301080 → W p l e room_1 s mm args below meth c H locs cells slots Q (F0 mm 160 ls [])) {ad : Nat → Nat} {v3 : Int32} {v4 : Int32} {v5 : Int32} {v9 : Int32} {v10 : Int32} {v11 : Int32} {v12 : Int32} {xq49 : Nat} {xl49 : Int32} {xf49 : Nat → Int32} {xq55 : Nat} {xl55 : Int32} {xf55 : Nat → Int32} {xq61 : Nat} {xl61 : Int32} {xf61 : Nat → Int32} {k : kS} {z : kS} {H : Heap} {locs : List Loc} {ls : Array Slot} {cells slots uc us : Nat} {o : Unit} (hG : True) (hH : jH A s H locs D g ad z (jY adk g k mo) [jTi g xq49 xl49 xf49, jTi g xq55 xl55 xf55, jTi g xq61 xl61 xf61]) (hl : jl_has ls 24 [(0, .ref b), (1, .ref (adk 0)), (2, .ref (ad 0)), (3, .int v3), (4, .int v4), (5, .int v5), (6, .ref xq49), (7, .ref xq55), (8, .ref xq61), (9, .int v9), (10, .int v10), (11, .int v11), (12, .int v12)]) (hf : F_L_law_212 xs L c22 c160 v3 v4 v5 v9 v10 v11 v12 xl49 xf49 xl55 xf55 xl61 xf61 k z = some (o, uc, us)) (hc : cells + uc ≤ 600130) (hs : slots + us ≤ 7301080) : W p l e room_1 s mm args below meth c H locs cells slots Q (F0 mm 212 ls []) := by
  have hx := V.1
  have hb := V.2.1
  refine lv_iload hx hb dL_law_212 (lv_at hl.1 9 rfl) ?_
  refine lv_iconst (v := 5) hx hb dL_law_214 (by decide) ?_
  refine lv_icmp_eq (tgt := 241) hx hb dL_law_215 (by decide) (fun hq => ?_) (fun hq => ?_)
  · have hf := kpos hq hf
    exact w_L_law_241 V hA LX SX hQ hk22 hk160 trivial hH (jl_sub hl [0, 1, 2, 3, 4, 5, 6, 7, 8, 9, 10, 11, 12] rfl) hf hc hs
  · have hf := kneg hq hf
    exact w_L_law_218 V hA LX SX hQ hk22 hk160 trivial hH (jl_sub hl [0, 1, 2, 3, 4, 5, 6, 7, 8, 9, 10, 11, 12] rfl) hf hc hs
set_option maxHeartbeats 4000000 in
set_option maxRecDepth 100000 in
theorem w_L_law_189 (V : jV p s mm args meth c cL_law RL 24 (some .boolean) D g) (hA : ∀ q, s.heap.size ≤ q → A q) (LX : jLX l A s) (SX : jSX A s b L xs) (hQ : ∀ {H : Heap} {locs : List Loc} {ls : Array Slot} {cells slots : Nat}, va_S A s.heap H locs → cells ≤ 600130 → slots ≤ 7301080 → W p l e room_1 s mm args below meth c H locs cells slots Q (F0 mm 1222 ls [.int 1])) {c22 : Int32 → kS → kS → Option (Unit × Nat × Nat)} (hk22 : ∀ {ad : Nat → Nat} {v3 : Int32} {k : kS} {z : kS} {H : Heap} {locs : List Loc} {ls : Array Slot} {cells slots uc us : Nat} {o : Unit}, True → jH A s H locs D g ad z (jY adk g k mo) [] → jl_has ls 24 [(0, .ref b), (1, .ref (adk 0)), (2, .ref (ad 0)), (3, .int v3)] → c22 v3 k z = some (o, uc, us) → cells + uc ≤ 600130 → slots + us ≤ 7301080 → W p l e room_1 s mm args below meth c H locs cells slots Q (F0 mm 22 ls [])) {c160 : Int32 → Int32 → Int32 → Int32 → Int32 → Int32 → Int32 → (Nat → Int32) → Int32 → (Nat → Int32) → Int32 → (Nat → Int32) → kS → kS → Option (Unit × Nat × Nat)} (hk160 : ∀ {ad : Nat → Nat} {v3 : Int32} {v4 : Int32} {v5 : Int32} {v9 : Int32} {v10 : Int32} {v11 : Int32} {xq49 : Nat} {xl49 : Int32} {xf49 : Nat → Int32} {xq55 : Nat} {xl55 : Int32} {xf55 : Nat → Int32} {xq61 : Nat} {xl61 : Int32} {xf61 : Nat → Int32} {k : kS} {z : kS} {H : Heap} {locs : List Loc} {ls : Array Slot} {cells slots uc us : Nat} {o : Unit}, True → jH A s H locs D g ad z (jY adk g k mo) [jTi g xq49 xl49 xf49, jTi g xq55 xl55 xf55, jTi g xq61 xl61 xf61] → jl_has ls 24 [(0, .ref b), (1, .ref (adk 0)), (2, .ref (ad 0)), (3, .int v3), (4, .int v4), (5, .int v5), (6, .ref xq49), (7, .ref xq55), (8, .ref xq61), (9, .int v9), (10, .int v10), (11, .int v11)] → c160 v3 v4 v5 v9 v10 v11 xl49 xf49 xl55 xf55 xl61 xf61 k z = some (o, uc, us) → cells + uc ≤ 600130 → slots + us ≤ 7301080 → W p l e room_1 s mm args below meth c H locs cells slots Q (F0 mm 160 ls [])) {ad : Nat → Nat} {v3 : Int32} {v4 : Int32} {v5 : Int32} {v9 : Int32} {v10 : Int32} {v11 : Int32} {v12 : Int32} {xq49 : Nat} {xl49 : Int32} {xf49 : Nat → Int32} {xq55 : Nat} {xl55 : Int32} {xf55 : Nat → Int32} {xq61 : Nat} {xl61 : Int32} {xf61 : Nat → Int32} {k : kS} {z : kS} {H : Heap} {locs : List Loc} {ls : Array Slot} {cells slots uc us : Nat} {o : Unit} (hG : True) (hH : jH A s H locs D g ad z (jY adk g k mo) [jTi g xq49 xl49 xf49, jTi g xq55 xl55 xf55, jTi g xq61 xl61 xf61]) (hl : jl_has ls 24 [(0, .ref b), (1, .ref (adk 0)), (2, .ref (ad 0)), (3, .int v3), (4, .int v4), (5, .int v5), (6, .ref xq49), (7, .ref xq55), (8, .ref xq61), (9, .int v9), (10, .int v10), (11, .int v11), (12, .int v12)]) (hf : F_L_law_189 xs L c22 c160 v3 v4 v5 v9 v10 v11 v12 xl49 xf49 xl55 xf55 xl61 xf61 k z = some (o, uc, us)) (hc : cells + uc ≤ 600130) (hs : slots + us ≤ 7301080) : W p l e room_1 s mm args below meth c H locs cells slots Q (F0 mm 189 ls []) := by
  have hx := V.1
  have hb := V.2.1
  refine jl_iinc (v := (v10 + 1)) (lv' := [(10, .int (v10 + 1)), (0, .ref b), (1, .ref (adk 0)), (2, .ref (ad 0)), (3, .int v3), (4, .int v4), (5, .int v5), (6, .ref xq49), (7, .ref xq55), (8, .ref xq61), (9, .int v9), (11, .int v11), (12, .int v12)]) hx hb dL_law_189 hl (k := 10) rfl rfl (by decide) rfl (fun ls hl => ?_)
  refine lv_iload hx hb dL_law_192 (lv_at hl.1 10 rfl) ?_
  refine lv_bipush (v := 10) hx hb dL_law_194 (by decide) ?_
  refine lv_icmp_ne (tgt := 212) hx hb dL_law_196 (by decide) (fun hq => ?_) (fun hq => ?_)
  · have hf := kneg hq hf
    exact w_L_law_212 V hA LX SX hQ hk22 hk160 trivial hH (jl_sub hl [1, 2, 3, 4, 5, 6, 7, 8, 9, 10, 0, 11, 12] rfl) hf hc hs
  · have hf := kpos hq hf
    exact w_L_law_199 V hA LX SX hQ hk22 hk160 trivial hH (jl_sub hl [1, 2, 3, 4, 5, 6, 7, 8, 9, 10, 0, 11, 12] rfl) hf hc hs
set_option maxHeartbeats 4000000 in
set_option maxRecDepth 100000 in
theorem w_L_law_167 (V : jV p s mm args meth c cL_law RL 24 (some .boolean) D g) (hA : ∀ q, s.heap.size ≤ q → A q) (LX : jLX l A s) (SX : jSX A s b L xs) (hQ : ∀ {H : Heap} {locs : List Loc} {ls : Array Slot} {cells slots : Nat}, va_S A s.heap H locs → cells ≤ 600130 → slots ≤ 7301080 → W p l e room_1 s mm args below meth c H locs cells slots Q (F0 mm 1222 ls [.int 1])) {c22 : Int32 → kS → kS → Option (Unit × Nat × Nat)} (hk22 : ∀ {ad : Nat → Nat} {v3 : Int32} {k : kS} {z : kS} {H : Heap} {locs : List Loc} {ls : Array Slot} {cells slots uc us : Nat} {o : Unit}, True → jH A s H locs D g ad z (jY adk g k mo) [] → jl_has ls 24 [(0, .ref b), (1, .ref (adk 0)), (2, .ref (ad 0)), (3, .int v3)] → c22 v3 k z = some (o, uc, us) → cells + uc ≤ 600130 → slots + us ≤ 7301080 → W p l e room_1 s mm args below meth c H locs cells slots Q (F0 mm 22 ls [])) {c160 : Int32 → Int32 → Int32 → Int32 → Int32 → Int32 → Int32 → (Nat → Int32) → Int32 → (Nat → Int32) → Int32 → (Nat → Int32) → kS → kS → Option (Unit × Nat × Nat)} (hk160 : ∀ {ad : Nat → Nat} {v3 : Int32} {v4 : Int32} {v5 : Int32} {v9 : Int32} {v10 : Int32} {v11 : Int32} {xq49 : Nat} {xl49 : Int32} {xf49 : Nat → Int32} {xq55 : Nat} {xl55 : Int32} {xf55 : Nat → Int32} {xq61 : Nat} {xl61 : Int32} {xf61 : Nat → Int32} {k : kS} {z : kS} {H : Heap} {locs : List Loc} {ls : Array Slot} {cells slots uc us : Nat} {o : Unit}, True → jH A s H locs D g ad z (jY adk g k mo) [jTi g xq49 xl49 xf49, jTi g xq55 xl55 xf55, jTi g xq61 xl61 xf61] → jl_has ls 24 [(0, .ref b), (1, .ref (adk 0)), (2, .ref (ad 0)), (3, .int v3), (4, .int v4), (5, .int v5), (6, .ref xq49), (7, .ref xq55), (8, .ref xq61), (9, .int v9), (10, .int v10), (11, .int v11)] → c160 v3 v4 v5 v9 v10 v11 xl49 xf49 xl55 xf55 xl61 xf61 k z = some (o, uc, us) → cells + uc ≤ 600130 → slots + us ≤ 7301080 → W p l e room_1 s mm args below meth c H locs cells slots Q (F0 mm 160 ls [])) {ad : Nat → Nat} {v3 : Int32} {v4 : Int32} {v5 : Int32} {v9 : Int32} {v10 : Int32} {v11 : Int32} {xq49 : Nat} {xl49 : Int32} {xf49 : Nat → Int32} {xq55 : Nat} {xl55 : Int32} {xf55 : Nat → Int32} {xq61 : Nat} {xl61 : Int32} {xf61 : Nat → Int32} {k : kS} {z : kS} {H : Heap} {locs : List Loc} {ls : Array Slot} {cells slots uc us : Nat} {o : Unit} (hG : True) (hH : jH A s H locs D g ad z (jY adk g k mo) [jTi g xq49 xl49 xf49, jTi g xq55 xl55 xf55, jTi g xq61 xl61 xf61]) (hl : jl_has ls 24 [(0, .ref b), (1, .ref (adk 0)), (2, .ref (ad 0)), (3, .int v3), (4, .int v4), (5, .int v5), (6, .ref xq49), (7, .ref xq55), (8, .ref xq61), (9, .int v9), (10, .int v10), (11, .int v11)]) (hf : F_L_law_167 xs L c22 c160 v3 v4 v5 v9 v10 v11 xl49 xf49 xl55 xf55 xl61 xf61 k z = some (o, uc, us)) (hc : cells + uc ≤ 600130) (hs : slots + us ≤ 7301080) : W p l e room_1 s mm args below meth c H locs cells slots Q (F0 mm 167 ls []) := by
  have hx := V.1
  have hb := V.2.1
  refine lv_aload_n hx hb dL_law_167 rfl (lv_at hl.1 1 rfl) ?_
  refine lv_iload hx hb dL_law_168 (lv_at hl.1 11 rfl) ?_
  refine lv_iconst (v := 2) hx hb dL_law_170 (by decide) ?_
  obtain ⟨x167_1, hx167_1, hf⟩ := kbind hf
  obtain ⟨h167_2, hf⟩ := kif hf
  obtain ⟨uc167_3, us167_4, hf, e1, e2⟩ := kadd_some2 hf
  have e1 : uc = 4 + uc167_3 := e1
  have e2 : us = 24 + us167_4 := e2
  have hc : cells + 4 + uc167_3 ≤ 600130 := by rw [Nat.add_assoc, ← e1]; exact hc
  have hs : slots + 24 + us167_4 ≤ 7301080 := by rw [Nat.add_assoc, ← e2]; exact hs
  have lc : cells + 4 ≤ 600130 := Nat.le_trans (Nat.le_add_right _ _) hc
  have ls2 : slots + 24 ≤ 7301080 := Nat.le_trans (Nat.le_add_right _ _) hs
  refine jc_callx V hA LX hH kYX5_land kl_L_126 (c_X5_land l LX.1 _ _ hx167_1 _) (Decidable.not_not.mp h167_2) rfl rfl ⟨Nat.le_of_ble_eq_true rfl, Nat.le_of_ble_eq_true rfl⟩ rfl hl.1.1 (as := [.int v11, .int 2]) (rest := []) (Nat.le_of_ble_eq_true rfl) dL_law_171 ⟨lc, ls2⟩ rfl (fun H locs hH => ?_)
  refine jl_istore (lv' := [(12, .int x167_1.1.2), (0, .ref b), (1, .ref (adk 0)), (2, .ref (ad 0)), (3, .int v3), (4, .int v4), (5, .int v5), (6, .ref xq49), (7, .ref xq55), (8, .ref xq61), (9, .int v9), (10, .int v10), (11, .int v11)]) hx hb dL_law_174 hl (by decide) rfl (fun ls hl => ?_)
  refine lv_iload hx hb dL_law_176 (lv_at hl.1 0 rfl) ?_
  refine lv_aload hx hb dL_law_178 (lv_at hl.1 7 rfl) ?_
  refine lv_iload hx hb dL_law_180 (lv_at hl.1 12 rfl) ?_
  obtain ⟨h167_5, hf⟩ := kif hf
  refine jt_ald V hH 0 rfl h167_5 dL_law_182 ?_
  refine lv_icmp_ne (tgt := 189) hx hb dL_law_183 (by decide) (fun hq => ?_) (fun hq => ?_)
  · have hf := kneg hq hf
    exact w_L_law_189 V hA LX SX hQ hk22 hk160 trivial hH (jl_sub hl [1, 2, 3, 4, 5, 6, 7, 8, 9, 10, 11, 12, 0] rfl) hf hc hs
  · have hf := kpos hq hf
    exact w_L_law_186 V hA LX SX hQ hk22 hk160 trivial hH (jl_sub hl [1, 2, 3, 4, 5, 6, 7, 8, 9, 10, 11, 12] rfl) hf hc hs
set_option maxHeartbeats 4000000 in
set_option maxRecDepth 100000 in
theorem w_L_law_350 (V : jV p s mm args meth c cL_law RL 24 (some .boolean) D g) (hA : ∀ q, s.heap.size ≤ q → A q) (LX : jLX l A s) (SX : jSX A s b L xs) (hQ : ∀ {H : Heap} {locs : List Loc} {ls : Array Slot} {cells slots : Nat}, va_S A s.heap H locs → cells ≤ 600130 → slots ≤ 7301080 → W p l e room_1 s mm args below meth c H locs cells slots Q (F0 mm 1222 ls [.int 1])) {ad : Nat → Nat} {k : kS} {z : kS} {H : Heap} {locs : List Loc} {ls : Array Slot} {cells slots uc us : Nat} {o : Unit} (hG : True) (hH : jH A s H locs D g ad z (jY adk g k mo) []) (hl : jl_has ls 24 []) (hf : F_L_law_350 xs L k z = some (o, uc, us)) (hc : cells + uc ≤ 600130) (hs : slots + us ≤ 7301080) : W p l e room_1 s mm args below meth c H locs cells slots Q (F0 mm 350 ls []) := by
  have hx := V.1
  have hb := V.2.1
  refine lv_iconst (v := 0) hx hb dL_law_350 (by decide) ?_
  cases hf
set_option maxHeartbeats 4000000 in
set_option maxRecDepth 100000 in
theorem w_L_law_626 (V : jV p s mm args meth c cL_law RL 24 (some .boolean) D g) (hA : ∀ q, s.heap.size ≤ q → A q) (LX : jLX l A s) (SX : jSX A s b L xs) (hQ : ∀ {H : Heap} {locs : List Loc} {ls : Array Slot} {cells slots : Nat}, va_S A s.heap H locs → cells ≤ 600130 → slots ≤ 7301080 → W p l e room_1 s mm args below meth c H locs cells slots Q (F0 mm 1222 ls [.int 1])) {ad : Nat → Nat} {k : kS} {z : kS} {H : Heap} {locs : List Loc} {ls : Array Slot} {cells slots uc us : Nat} {o : Unit} (hG : True) (hH : jH A s H locs D g ad z (jY adk g k mo) []) (hl : jl_has ls 24 []) (hf : F_L_law_626 xs L k z = some (o, uc, us)) (hc : cells + uc ≤ 600130) (hs : slots + us ≤ 7301080) : W p l e room_1 s mm args below meth c H locs cells slots Q (F0 mm 626 ls []) := by
  have hx := V.1
  have hb := V.2.1
  refine lv_iconst (v := 0) hx hb dL_law_626 (by decide) ?_
  cases hf
set_option maxHeartbeats 4000000 in
set_option maxRecDepth 100000 in
theorem w_L_law_692 (V : jV p s mm args meth c cL_law RL 24 (some .boolean) D g) (hA : ∀ q, s.heap.size ≤ q → A q) (LX : jLX l A s) (SX : jSX A s b L xs) (hQ : ∀ {H : Heap} {locs : List Loc} {ls : Array Slot} {cells slots : Nat}, va_S A s.heap H locs → cells ≤ 600130 → slots ≤ 7301080 → W p l e room_1 s mm args below meth c H locs cells slots Q (F0 mm 1222 ls [.int 1])) {ad : Nat → Nat} {k : kS} {z : kS} {H : Heap} {locs : List Loc} {ls : Array Slot} {cells slots uc us : Nat} {o : Unit} (hG : True) (hH : jH A s H locs D g ad z (jY adk g k mo) []) (hl : jl_has ls 24 []) (hf : F_L_law_692 xs L k z = some (o, uc, us)) (hc : cells + uc ≤ 600130) (hs : slots + us ≤ 7301080) : W p l e room_1 s mm args below meth c H locs cells slots Q (F0 mm 692 ls []) := by
  have hx := V.1
  have hb := V.2.1
  refine lv_iconst (v := 0) hx hb dL_law_692 (by decide) ?_
  cases hf
set_option maxHeartbeats 4000000 in
set_option maxRecDepth 100000 in
theorem w_L_law_758 (V : jV p s mm args meth c cL_law RL 24 (some .boolean) D g) (hA : ∀ q, s.heap.size ≤ q → A q) (LX : jLX l A s) (SX : jSX A s b L xs) (hQ : ∀ {H : Heap} {locs : List Loc} {ls : Array Slot} {cells slots : Nat}, va_S A s.heap H locs → cells ≤ 600130 → slots ≤ 7301080 → W p l e room_1 s mm args below meth c H locs cells slots Q (F0 mm 1222 ls [.int 1])) {ad : Nat → Nat} {k : kS} {z : kS} {H : Heap} {locs : List Loc} {ls : Array Slot} {cells slots uc us : Nat} {o : Unit} (hG : True) (hH : jH A s H locs D g ad z (jY adk g k mo) []) (hl : jl_has ls 24 []) (hf : F_L_law_758 xs L k z = some (o, uc, us)) (hc : cells + uc ≤ 600130) (hs : slots + us ≤ 7301080) : W p l e room_1 s mm args below meth c H locs cells slots Q (F0 mm 758 ls []) := by
  have hx := V.1
  have hb := V.2.1
  refine lv_iconst (v := 0) hx hb dL_law_758 (by decide) ?_
  cases hf
set_option maxHeartbeats 4000000 in
set_option maxRecDepth 100000 in
theorem w_L_law_803 (V : jV p s mm args meth c cL_law RL 24 (some .boolean) D g) (hA : ∀ q, s.heap.size ≤ q → A q) (LX : jLX l A s) (SX : jSX A s b L xs) (hQ : ∀ {H : Heap} {locs : List Loc} {ls : Array Slot} {cells slots : Nat}, va_S A s.heap H locs → cells ≤ 600130 → slots ≤ 7301080 → W p l e room_1 s mm args below meth c H locs cells slots Q (F0 mm 1222 ls [.int 1])) {ad : Nat → Nat} {k : kS} {z : kS} {H : Heap} {locs : List Loc} {ls : Array Slot} {cells slots uc us : Nat} {o : Unit} (hG : True) (hH : jH A s H locs D g ad z (jY adk g k mo) []) (hl : jl_has ls 24 []) (hf : F_L_law_803 xs L k z = some (o, uc, us)) (hc : cells + uc ≤ 600130) (hs : slots + us ≤ 7301080) : W p l e room_1 s mm args below meth c H locs cells slots Q (F0 mm 803 ls []) := by
  have hx := V.1
  have hb := V.2.1
  refine lv_iconst (v := 0) hx hb dL_law_803 (by decide) ?_
  cases hf
set_option maxHeartbeats 4000000 in
set_option maxRecDepth 100000 in
theorem w_L_law_866 (V : jV p s mm args meth c cL_law RL 24 (some .boolean) D g) (hA : ∀ q, s.heap.size ≤ q → A q) (LX : jLX l A s) (SX : jSX A s b L xs) (hQ : ∀ {H : Heap} {locs : List Loc} {ls : Array Slot} {cells slots : Nat}, va_S A s.heap H locs → cells ≤ 600130 → slots ≤ 7301080 → W p l e room_1 s mm args below meth c H locs cells slots Q (F0 mm 1222 ls [.int 1])) {ad : Nat → Nat} {k : kS} {z : kS} {H : Heap} {locs : List Loc} {ls : Array Slot} {cells slots uc us : Nat} {o : Unit} (hG : True) (hH : jH A s H locs D g ad z (jY adk g k mo) []) (hl : jl_has ls 24 []) (hf : F_L_law_866 xs L k z = some (o, uc, us)) (hc : cells + uc ≤ 600130) (hs : slots + us ≤ 7301080) : W p l e room_1 s mm args below meth c H locs cells slots Q (F0 mm 866 ls []) := by
  have hx := V.1
  have hb := V.2.1
  refine lv_iconst (v := 0) hx hb dL_law_866 (by decide) ?_
  cases hf
set_option maxHeartbeats 4000000 in
set_option maxRecDepth 100000 in
theorem w_L_law_915 (V : jV p s mm args meth c cL_law RL 24 (some .boolean) D g) (hA : ∀ q, s.heap.size ≤ q → A q) (LX : jLX l A s) (SX : jSX A s b L xs) (hQ : ∀ {H : Heap} {locs : List Loc} {ls : Array Slot} {cells slots : Nat}, va_S A s.heap H locs → cells ≤ 600130 → slots ≤ 7301080 → W p l e room_1 s mm args below meth c H locs cells slots Q (F0 mm 1222 ls [.int 1])) {ad : Nat → Nat} {k : kS} {z : kS} {H : Heap} {locs : List Loc} {ls : Array Slot} {cells slots uc us : Nat} {o : Unit} (hG : True) (hH : jH A s H locs D g ad z (jY adk g k mo) []) (hl : jl_has ls 24 []) (hf : F_L_law_915 xs L k z = some (o, uc, us)) (hc : cells + uc ≤ 600130) (hs : slots + us ≤ 7301080) : W p l e room_1 s mm args below meth c H locs cells slots Q (F0 mm 915 ls []) := by
  have hx := V.1
  have hb := V.2.1
  refine lv_iconst (v := 0) hx hb dL_law_915 (by decide) ?_
  cases hf
set_option maxHeartbeats 4000000 in
set_option maxRecDepth 100000 in
theorem w_L_law_917 (V : jV p s mm args meth c cL_law RL 24 (some .boolean) D g) (hA : ∀ q, s.heap.size ≤ q → A q) (LX : jLX l A s) (SX : jSX A s b L xs) (hQ : ∀ {H : Heap} {locs : List Loc} {ls : Array Slot} {cells slots : Nat}, va_S A s.heap H locs → cells ≤ 600130 → slots ≤ 7301080 → W p l e room_1 s mm args below meth c H locs cells slots Q (F0 mm 1222 ls [.int 1])) {c22 : Int32 → kS → kS → Option (Unit × Nat × Nat)} (hk22 : ∀ {ad : Nat → Nat} {v3 : Int32} {k : kS} {z : kS} {H : Heap} {locs : List Loc} {ls : Array Slot} {cells slots uc us : Nat} {o : Unit}, True → jH A s H locs D g ad z (jY adk g k mo) [] → jl_has ls 24 [(0, .ref b), (1, .ref (adk 0)), (2, .ref (ad 0)), (3, .int v3)] → c22 v3 k z = some (o, uc, us) → cells + uc ≤ 600130 → slots + us ≤ 7301080 → W p l e room_1 s mm args below meth c H locs cells slots Q (F0 mm 22 ls [])) {c374 : Int32 → Int32 → Int32 → Int32 → Int32 → Int32 → Int32 → Int32 → kS → kS → Option (Unit × Nat × Nat)} (hk374 : ∀ {ad : Nat → Nat} {v3 : Int32} {v4 : Int32} {v11 : Int32} {v12 : Int32} {v13 : Int32} {v14 : Int32} {v15 : Int32} {v16 : Int32} {k : kS} {z : kS} {H : Heap} {locs : List Loc} {ls : Array Slot} {cells slots uc us : Nat} {o : Unit}, True → jH A s H locs D g ad z (jY adk g k mo) [] → jl_has ls 24 [(0, .ref b), (1, .ref (adk 0)), (2, .ref (ad 0)), (3, .int v3), (4, .int v4), (11, .int v11), (12, .int v12), (13, .int v13), (14, .int v14), (15, .int v15), (16, .int v16)] → c374 v3 v4 v11 v12 v13 v14 v15 v16 k z = some (o, uc, us) → cells + uc ≤ 600130 → slots + us ≤ 7301080 → W p l e room_1 s mm args below meth c H locs cells slots Q (F0 mm 374 ls [])) {ad : Nat → Nat} {v3 : Int32} {v4 : Int32} {v11 : Int32} {v12 : Int32} {v13 : Int32} {v14 : Int32} {v15 : Int32} {v16 : Int32} {k : kS} {z : kS} {H : Heap} {locs : List Loc} {ls : Array Slot} {cells slots uc us : Nat} {o : Unit} (hG : True) (hH : jH A s H locs D g ad z (jY adk g k mo) []) (hl : jl_has ls 24 [(0, .ref b), (1, .ref (adk 0)), (2, .ref (ad 0)), (3, .int v3), (4, .int v4), (11, .int v11), (12, .int v12), (13, .int v13), (14, .int v14), (15, .int v15), (16, .int v16)]) (hf : F_L_law_917 xs L c22 c374 v3 v4 v11 v12 v13 v14 v15 v16 k z = some (o, uc, us)) (hc : cells + uc ≤ 600130) (hs : slots + us ≤ 7301080) : W p l e room_1 s mm args below meth c H locs cells slots Q (F0 mm 917 ls []) := by
  have hx := V.1
  have hb := V.2.1
  refine jl_iinc (v := (v16 + 1)) (lv' := [(16, .int (v16 + 1)), (0, .ref b), (1, .ref (adk 0)), (2, .ref (ad 0)), (3, .int v3), (4, .int v4), (11, .int v11), (12, .int v12), (13, .int v13), (14, .int v14), (15, .int v15)]) hx hb dL_law_917 hl (k := 10) rfl rfl (by decide) rfl (fun ls hl => ?_)
  refine lv_goto (tgt := 374) hx hb dL_law_920 (by decide) ?_
  exact hk374 trivial hH (jl_sub hl [1, 2, 3, 4, 5, 6, 7, 8, 9, 10, 0] rfl) hf hc hs
set_option maxHeartbeats 4000000 in
set_option maxRecDepth 100000 in
theorem w_L_law_906 (V : jV p s mm args meth c cL_law RL 24 (some .boolean) D g) (hA : ∀ q, s.heap.size ≤ q → A q) (LX : jLX l A s) (SX : jSX A s b L xs) (hQ : ∀ {H : Heap} {locs : List Loc} {ls : Array Slot} {cells slots : Nat}, va_S A s.heap H locs → cells ≤ 600130 → slots ≤ 7301080 → W p l e room_1 s mm args below meth c H locs cells slots Q (F0 mm 1222 ls [.int 1])) {c22 : Int32 → kS → kS → Option (Unit × Nat × Nat)} (hk22 : ∀ {ad : Nat → Nat} {v3 : Int32} {k : kS} {z : kS} {H : Heap} {locs : List Loc} {ls : Array Slot} {cells slots uc us : Nat} {o : Unit}, True → jH A s H locs D g ad z (jY adk g k mo) [] → jl_has ls 24 [(0, .ref b), (1, .ref (adk 0)), (2, .ref (ad 0)), (3, .int v3)] → c22 v3 k z = some (o, uc, us) → cells + uc ≤ 600130 → slots + us ≤ 7301080 → W p l e room_1 s mm args below meth c H locs cells slots Q (F0 mm 22 ls [])) {c374 : Int32 → Int32 → Int32 → Int32 → Int32 → Int32 → Int32 → Int32 → kS → kS → Option (Unit × Nat × Nat)} (hk374 : ∀ {ad : Nat → Nat} {v3 : Int32} {v4 : Int32} {v11 : Int32} {v12 : Int32} {v13 : Int32} {v14 : Int32} {v15 : Int32} {v16 : Int32} {k : kS} {z : kS} {H : Heap} {locs : List Loc} {ls : Array Slot} {cells slots uc us : Nat} {o : Unit}, True → jH A s H locs D g ad z (jY adk g k mo) [] → jl_has ls 24 [(0, .ref b), (1, .ref (adk 0)), (2, .ref (ad 0)), (3, .int v3), (4, .int v4), (11, .int v11), (12, .int v12), (13, .int v13), (14, .int v14), (15, .int v15), (16, .int v16)] → c374 v3 v4 v11 v12 v13 v14 v15 v16 k z = some (o, uc, us) → cells + uc ≤ 600130 → slots + us ≤ 7301080 → W p l e room_1 s mm args below meth c H locs cells slots Q (F0 mm 374 ls [])) {ad : Nat → Nat} {v3 : Int32} {v4 : Int32} {v11 : Int32} {v12 : Int32} {v13 : Int32} {v14 : Int32} {v15 : Int32} {v16 : Int32} {k : kS} {z : kS} {H : Heap} {locs : List Loc} {ls : Array Slot} {cells slots uc us : Nat} {o : Unit} (hG : True) (hH : jH A s H locs D g ad z (jY adk g k mo) []) (hl : jl_has ls 24 [(0, .ref b), (1, .ref (adk 0)), (2, .ref (ad 0)), (3, .int v3), (4, .int v4), (11, .int v11), (12, .int v12), (13, .int v13), (14, .int v14), (15, .int v15), (16, .int v16)]) (hf : F_L_law_906 xs L c22 c374 v3 v4 v11 v12 v13 v14 v15 v16 k z = some (o, uc, us)) (hc : cells + uc ≤ 600130) (hs : slots + us ≤ 7301080) : W p l e room_1 s mm args below meth c H locs cells slots Q (F0 mm 906 ls []) := by
  have hx := V.1
  have hb := V.2.1
  refine lv_aload_n hx hb dL_law_906 rfl (lv_at hl.1 1 rfl) ?_
  refine lv_iload hx hb dL_law_907 (lv_at hl.1 10 rfl) ?_
  obtain ⟨x906_1, hx906_1, hf⟩ := kbind hf
  obtain ⟨h906_2, hf⟩ := kif hf
  obtain ⟨uc906_3, us906_4, hf, e1, e2⟩ := kadd_some2 hf
  have e1 : uc = 4 + uc906_3 := e1
  have e2 : us = 24 + us906_4 := e2
  have hc : cells + 4 + uc906_3 ≤ 600130 := by rw [Nat.add_assoc, ← e1]; exact hc
  have hs : slots + 24 + us906_4 ≤ 7301080 := by rw [Nat.add_assoc, ← e2]; exact hs
  have lc : cells + 4 ≤ 600130 := Nat.le_trans (Nat.le_add_right _ _) hc
  have ls2 : slots + 24 ≤ 7301080 := Nat.le_trans (Nat.le_add_right _ _) hs
  refine jc_callx V hA LX hH kYX5_rules kl_L_141 (c_X5_rules l LX.1 _ hx906_1 _) (Decidable.not_not.mp h906_2) rfl rfl ⟨Nat.le_of_ble_eq_true rfl, Nat.le_of_ble_eq_true rfl⟩ rfl hl.1.1 (as := [.int v16]) (rest := []) (Nat.le_of_ble_eq_true rfl) dL_law_909 ⟨lc, ls2⟩ rfl (fun H locs hH => ?_)
  refine lv_if_lt (tgt := 917) hx hb dL_law_912 (by decide) (fun hq => ?_) (fun hq => ?_)
  · have hf := kpos hq hf
    exact w_L_law_917 V hA LX SX hQ hk22 hk374 trivial hH (jl_sub hl [0, 1, 2, 3, 4, 5, 6, 7, 8, 9, 10] rfl) hf hc hs
  · have hf := kneg hq hf
    exact w_L_law_915 V hA LX SX hQ trivial hH (jl_sub hl [] rfl) hf hc hs
set_option maxHeartbeats 4000000 in
set_option maxRecDepth 100000 in
theorem w_L_law_901 (V : jV p s mm args meth c cL_law RL 24 (some .boolean) D g) (hA : ∀ q, s.heap.size ≤ q → A q) (LX : jLX l A s) (SX : jSX A s b L xs) (hQ : ∀ {H : Heap} {locs : List Loc} {ls : Array Slot} {cells slots : Nat}, va_S A s.heap H locs → cells ≤ 600130 → slots ≤ 7301080 → W p l e room_1 s mm args below meth c H locs cells slots Q (F0 mm 1222 ls [.int 1])) {c22 : Int32 → kS → kS → Option (Unit × Nat × Nat)} (hk22 : ∀ {ad : Nat → Nat} {v3 : Int32} {k : kS} {z : kS} {H : Heap} {locs : List Loc} {ls : Array Slot} {cells slots uc us : Nat} {o : Unit}, True → jH A s H locs D g ad z (jY adk g k mo) [] → jl_has ls 24 [(0, .ref b), (1, .ref (adk 0)), (2, .ref (ad 0)), (3, .int v3)] → c22 v3 k z = some (o, uc, us) → cells + uc ≤ 600130 → slots + us ≤ 7301080 → W p l e room_1 s mm args below meth c H locs cells slots Q (F0 mm 22 ls [])) {c374 : Int32 → Int32 → Int32 → Int32 → Int32 → Int32 → Int32 → Int32 → kS → kS → Option (Unit × Nat × Nat)} (hk374 : ∀ {ad : Nat → Nat} {v3 : Int32} {v4 : Int32} {v11 : Int32} {v12 : Int32} {v13 : Int32} {v14 : Int32} {v15 : Int32} {v16 : Int32} {k : kS} {z : kS} {H : Heap} {locs : List Loc} {ls : Array Slot} {cells slots uc us : Nat} {o : Unit}, True → jH A s H locs D g ad z (jY adk g k mo) [] → jl_has ls 24 [(0, .ref b), (1, .ref (adk 0)), (2, .ref (ad 0)), (3, .int v3), (4, .int v4), (11, .int v11), (12, .int v12), (13, .int v13), (14, .int v14), (15, .int v15), (16, .int v16)] → c374 v3 v4 v11 v12 v13 v14 v15 v16 k z = some (o, uc, us) → cells + uc ≤ 600130 → slots + us ≤ 7301080 → W p l e room_1 s mm args below meth c H locs cells slots Q (F0 mm 374 ls [])) {ad : Nat → Nat} {v3 : Int32} {v4 : Int32} {v11 : Int32} {v12 : Int32} {v13 : Int32} {v14 : Int32} {v15 : Int32} {v16 : Int32} {v17 : Int32} {k : kS} {z : kS} {H : Heap} {locs : List Loc} {ls : Array Slot} {cells slots uc us : Nat} {o : Unit} (hG : True) (hH : jH A s H locs D g ad z (jY adk g k mo) []) (hl : jl_has ls 24 [(0, .ref b), (1, .ref (adk 0)), (2, .ref (ad 0)), (3, .int v3), (4, .int v4), (11, .int v11), (12, .int v12), (13, .int v13), (14, .int v14), (15, .int v15), (16, .int v16), (17, .int v17)]) (hf : F_L_law_901 xs L c22 c374 v3 v4 v11 v12 v13 v14 v15 v16 v17 k z = some (o, uc, us)) (hc : cells + uc ≤ 600130) (hs : slots + us ≤ 7301080) : W p l e room_1 s mm args below meth c H locs cells slots Q (F0 mm 901 ls []) := by
  have hx := V.1
  have hb := V.2.1
  refine lv_iload hx hb dL_law_901 (lv_at hl.1 11 rfl) ?_
  refine lv_if_ne (tgt := 917) hx hb dL_law_903 (by decide) (fun hq => ?_) (fun hq => ?_)
  · have hf := kneg hq hf
    exact w_L_law_917 V hA LX SX hQ hk22 hk374 trivial hH (jl_sub hl [0, 1, 2, 3, 4, 5, 6, 7, 8, 9, 10] rfl) hf hc hs
  · have hf := kpos hq hf
    exact w_L_law_906 V hA LX SX hQ hk22 hk374 trivial hH (jl_sub hl [0, 1, 2, 3, 4, 5, 6, 7, 8, 9, 10] rfl) hf hc hs
set_option maxHeartbeats 4000000 in
set_option maxRecDepth 100000 in
theorem w_L_law_898 (V : jV p s mm args meth c cL_law RL 24 (some .boolean) D g) (hA : ∀ q, s.heap.size ≤ q → A q) (LX : jLX l A s) (SX : jSX A s b L xs) (hQ : ∀ {H : Heap} {locs : List Loc} {ls : Array Slot} {cells slots : Nat}, va_S A s.heap H locs → cells ≤ 600130 → slots ≤ 7301080 → W p l e room_1 s mm args below meth c H locs cells slots Q (F0 mm 1222 ls [.int 1])) {c22 : Int32 → kS → kS → Option (Unit × Nat × Nat)} (hk22 : ∀ {ad : Nat → Nat} {v3 : Int32} {k : kS} {z : kS} {H : Heap} {locs : List Loc} {ls : Array Slot} {cells slots uc us : Nat} {o : Unit}, True → jH A s H locs D g ad z (jY adk g k mo) [] → jl_has ls 24 [(0, .ref b), (1, .ref (adk 0)), (2, .ref (ad 0)), (3, .int v3)] → c22 v3 k z = some (o, uc, us) → cells + uc ≤ 600130 → slots + us ≤ 7301080 → W p l e room_1 s mm args below meth c H locs cells slots Q (F0 mm 22 ls [])) {c374 : Int32 → Int32 → Int32 → Int32 → Int32 → Int32 → Int32 → Int32 → kS → kS → Option (Unit × Nat × Nat)} (hk374 : ∀ {ad : Nat → Nat} {v3 : Int32} {v4 : Int32} {v11 : Int32} {v12 : Int32} {v13 : Int32} {v14 : Int32} {v15 : Int32} {v16 : Int32} {k : kS} {z : kS} {H : Heap} {locs : List Loc} {ls : Array Slot} {cells slots uc us : Nat} {o : Unit}, True → jH A s H locs D g ad z (jY adk g k mo) [] → jl_has ls 24 [(0, .ref b), (1, .ref (adk 0)), (2, .ref (ad 0)), (3, .int v3), (4, .int v4), (11, .int v11), (12, .int v12), (13, .int v13), (14, .int v14), (15, .int v15), (16, .int v16)] → c374 v3 v4 v11 v12 v13 v14 v15 v16 k z = some (o, uc, us) → cells + uc ≤ 600130 → slots + us ≤ 7301080 → W p l e room_1 s mm args below meth c H locs cells slots Q (F0 mm 374 ls [])) {ad : Nat → Nat} {s0 : Int32} {s1 : Int32} {v3 : Int32} {v4 : Int32} {v11 : Int32} {v12 : Int32} {v13 : Int32} {v14 : Int32} {v15 : Int32} {v16 : Int32} {v17 : Int32} {k : kS} {z : kS} {H : Heap} {locs : List Loc} {ls : Array Slot} {cells slots uc us : Nat} {o : Unit} (hG : True) (hH : jH A s H locs D g ad z (jY adk g k mo) []) (hl : jl_has ls 24 [(0, .ref b), (1, .ref (adk 0)), (2, .ref (ad 0)), (3, .int v3), (4, .int v4), (11, .int v11), (12, .int v12), (13, .int v13), (14, .int v14), (15, .int v15), (16, .int v16), (17, .int v17)]) (hf : F_L_law_898 xs L c22 c374 s0 s1 v3 v4 v11 v12 v13 v14 v15 v16 v17 k z = some (o, uc, us)) (hc : cells + uc ≤ 600130) (hs : slots + us ≤ 7301080) : W p l e room_1 s mm args below meth c H locs cells slots Q (F0 mm 898 ls [.int s1, .int s0]) := by
  have hx := V.1
  have hb := V.2.1
  refine lv_icmp_ne (tgt := 915) hx hb dL_law_898 (by decide) (fun hq => ?_) (fun hq => ?_)
  · have hf := kneg hq hf
    exact w_L_law_915 V hA LX SX hQ trivial hH (jl_sub hl [] rfl) hf hc hs
  · have hf := kpos hq hf
    exact w_L_law_901 V hA LX SX hQ hk22 hk374 trivial hH (jl_sub hl [0, 1, 2, 3, 4, 5, 6, 7, 8, 9, 10, 11] rfl) hf hc hs
set_option maxHeartbeats 4000000 in
set_option maxRecDepth 100000 in
theorem w_L_law_893 (V : jV p s mm args meth c cL_law RL 24 (some .boolean) D g) (hA : ∀ q, s.heap.size ≤ q → A q) (LX : jLX l A s) (SX : jSX A s b L xs) (hQ : ∀ {H : Heap} {locs : List Loc} {ls : Array Slot} {cells slots : Nat}, va_S A s.heap H locs → cells ≤ 600130 → slots ≤ 7301080 → W p l e room_1 s mm args below meth c H locs cells slots Q (F0 mm 1222 ls [.int 1])) {c22 : Int32 → kS → kS → Option (Unit × Nat × Nat)} (hk22 : ∀ {ad : Nat → Nat} {v3 : Int32} {k : kS} {z : kS} {H : Heap} {locs : List Loc} {ls : Array Slot} {cells slots uc us : Nat} {o : Unit}, True → jH A s H locs D g ad z (jY adk g k mo) [] → jl_has ls 24 [(0, .ref b), (1, .ref (adk 0)), (2, .ref (ad 0)), (3, .int v3)] → c22 v3 k z = some (o, uc, us) → cells + uc ≤ 600130 → slots + us ≤ 7301080 → W p l e room_1 s mm args below meth c H locs cells slots Q (F0 mm 22 ls [])) {c374 : Int32 → Int32 → Int32 → Int32 → Int32 → Int32 → Int32 → Int32 → kS → kS → Option (Unit × Nat × Nat)} (hk374 : ∀ {ad : Nat → Nat} {v3 : Int32} {v4 : Int32} {v11 : Int32} {v12 : Int32} {v13 : Int32} {v14 : Int32} {v15 : Int32} {v16 : Int32} {k : kS} {z : kS} {H : Heap} {locs : List Loc} {ls : Array Slot} {cells slots uc us : Nat} {o : Unit}, True → jH A s H locs D g ad z (jY adk g k mo) [] → jl_has ls 24 [(0, .ref b), (1, .ref (adk 0)), (2, .ref (ad 0)), (3, .int v3), (4, .int v4), (11, .int v11), (12, .int v12), (13, .int v13), (14, .int v14), (15, .int v15), (16, .int v16)] → c374 v3 v4 v11 v12 v13 v14 v15 v16 k z = some (o, uc, us) → cells + uc ≤ 600130 → slots + us ≤ 7301080 → W p l e room_1 s mm args below meth c H locs cells slots Q (F0 mm 374 ls [])) {ad : Nat → Nat} {s0 : Int32} {v3 : Int32} {v4 : Int32} {v11 : Int32} {v12 : Int32} {v13 : Int32} {v14 : Int32} {v15 : Int32} {v16 : Int32} {v17 : Int32} {k : kS} {z : kS} {H : Heap} {locs : List Loc} {ls : Array Slot} {cells slots uc us : Nat} {o : Unit} (hG : True) (hH : jH A s H locs D g ad z (jY adk g k mo) []) (hl : jl_has ls 24 [(0, .ref b), (1, .ref (adk 0)), (2, .ref (ad 0)), (3, .int v3), (4, .int v4), (11, .int v11), (12, .int v12), (13, .int v13), (14, .int v14), (15, .int v15), (16, .int v16), (17, .int v17)]) (hf : F_L_law_893 xs L c22 c374 s0 v3 v4 v11 v12 v13 v14 v15 v16 v17 k z = some (o, uc, us)) (hc : cells + uc ≤ 600130) (hs : slots + us ≤ 7301080) : W p l e room_1 s mm args below meth c H locs cells slots Q (F0 mm 893 ls [.int s0]) := by
  have hx := V.1
  have hb := V.2.1
  refine lv_iconst (v := 1) hx hb dL_law_893 (by decide) ?_
  refine lv_goto (tgt := 898) hx hb dL_law_894 (by decide) ?_
  exact w_L_law_898 V hA LX SX hQ hk22 hk374 trivial hH (jl_sub hl [0, 1, 2, 3, 4, 5, 6, 7, 8, 9, 10, 11] rfl) hf hc hs
set_option maxHeartbeats 4000000 in
set_option maxRecDepth 100000 in
theorem w_L_law_897 (V : jV p s mm args meth c cL_law RL 24 (some .boolean) D g) (hA : ∀ q, s.heap.size ≤ q → A q) (LX : jLX l A s) (SX : jSX A s b L xs) (hQ : ∀ {H : Heap} {locs : List Loc} {ls : Array Slot} {cells slots : Nat}, va_S A s.heap H locs → cells ≤ 600130 → slots ≤ 7301080 → W p l e room_1 s mm args below meth c H locs cells slots Q (F0 mm 1222 ls [.int 1])) {c22 : Int32 → kS → kS → Option (Unit × Nat × Nat)} (hk22 : ∀ {ad : Nat → Nat} {v3 : Int32} {k : kS} {z : kS} {H : Heap} {locs : List Loc} {ls : Array Slot} {cells slots uc us : Nat} {o : Unit}, True → jH A s H locs D g ad z (jY adk g k mo) [] → jl_has ls 24 [(0, .ref b), (1, .ref (adk 0)), (2, .ref (ad 0)), (3, .int v3)] → c22 v3 k z = some (o, uc, us) → cells + uc ≤ 600130 → slots + us ≤ 7301080 → W p l e room_1 s mm args below meth c H locs cells slots Q (F0 mm 22 ls [])) {c374 : Int32 → Int32 → Int32 → Int32 → Int32 → Int32 → Int32 → Int32 → kS → kS → Option (Unit × Nat × Nat)} (hk374 : ∀ {ad : Nat → Nat} {v3 : Int32} {v4 : Int32} {v11 : Int32} {v12 : Int32} {v13 : Int32} {v14 : Int32} {v15 : Int32} {v16 : Int32} {k : kS} {z : kS} {H : Heap} {locs : List Loc} {ls : Array Slot} {cells slots uc us : Nat} {o : Unit}, True → jH A s H locs D g ad z (jY adk g k mo) [] → jl_has ls 24 [(0, .ref b), (1, .ref (adk 0)), (2, .ref (ad 0)), (3, .int v3), (4, .int v4), (11, .int v11), (12, .int v12), (13, .int v13), (14, .int v14), (15, .int v15), (16, .int v16)] → c374 v3 v4 v11 v12 v13 v14 v15 v16 k z = some (o, uc, us) → cells + uc ≤ 600130 → slots + us ≤ 7301080 → W p l e room_1 s mm args below meth c H locs cells slots Q (F0 mm 374 ls [])) {ad : Nat → Nat} {s0 : Int32} {v3 : Int32} {v4 : Int32} {v11 : Int32} {v12 : Int32} {v13 : Int32} {v14 : Int32} {v15 : Int32} {v16 : Int32} {v17 : Int32} {k : kS} {z : kS} {H : Heap} {locs : List Loc} {ls : Array Slot} {cells slots uc us : Nat} {o : Unit} (hG : True) (hH : jH A s H locs D g ad z (jY adk g k mo) []) (hl : jl_has ls 24 [(0, .ref b), (1, .ref (adk 0)), (2, .ref (ad 0)), (3, .int v3), (4, .int v4), (11, .int v11), (12, .int v12), (13, .int v13), (14, .int v14), (15, .int v15), (16, .int v16), (17, .int v17)]) (hf : F_L_law_897 xs L c22 c374 s0 v3 v4 v11 v12 v13 v14 v15 v16 v17 k z = some (o, uc, us)) (hc : cells + uc ≤ 600130) (hs : slots + us ≤ 7301080) : W p l e room_1 s mm args below meth c H locs cells slots Q (F0 mm 897 ls [.int s0]) := by
  have hx := V.1
  have hb := V.2.1
  refine lv_iconst (v := 0) hx hb dL_law_897 (by decide) ?_
  exact w_L_law_898 V hA LX SX hQ hk22 hk374 trivial hH (jl_sub hl [0, 1, 2, 3, 4, 5, 6, 7, 8, 9, 10, 11] rfl) hf hc hs
set_option maxHeartbeats 4000000 in
set_option maxRecDepth 100000 in
theorem w_L_law_882 (V : jV p s mm args meth c cL_law RL 24 (some .boolean) D g) (hA : ∀ q, s.heap.size ≤ q → A q) (LX : jLX l A s) (SX : jSX A s b L xs) (hQ : ∀ {H : Heap} {locs : List Loc} {ls : Array Slot} {cells slots : Nat}, va_S A s.heap H locs → cells ≤ 600130 → slots ≤ 7301080 → W p l e room_1 s mm args below meth c H locs cells slots Q (F0 mm 1222 ls [.int 1])) {c22 : Int32 → kS → kS → Option (Unit × Nat × Nat)} (hk22 : ∀ {ad : Nat → Nat} {v3 : Int32} {k : kS} {z : kS} {H : Heap} {locs : List Loc} {ls : Array Slot} {cells slots uc us : Nat} {o : Unit}, True → jH A s H locs D g ad z (jY adk g k mo) [] → jl_has ls 24 [(0, .ref b), (1, .ref (adk 0)), (2, .ref (ad 0)), (3, .int v3)] → c22 v3 k z = some (o, uc, us) → cells + uc ≤ 600130 → slots + us ≤ 7301080 → W p l e room_1 s mm args below meth c H locs cells slots Q (F0 mm 22 ls [])) {c374 : Int32 → Int32 → Int32 → Int32 → Int32 → Int32 → Int32 → Int32 → kS → kS → Option (Unit × Nat × Nat)} (hk374 : ∀ {ad : Nat → Nat} {v3 : Int32} {v4 : Int32} {v11 : Int32} {v12 : Int32} {v13 : Int32} {v14 : Int32} {v15 : Int32} {v16 : Int32} {k : kS} {z : kS} {H : Heap} {locs : List Loc} {ls : Array Slot} {cells slots uc us : Nat} {o : Unit}, True → jH A s H locs D g ad z (jY adk g k mo) [] → jl_has ls 24 [(0, .ref b), (1, .ref (adk 0)), (2, .ref (ad 0)), (3, .int v3), (4, .int v4), (11, .int v11), (12, .int v12), (13, .int v13), (14, .int v14), (15, .int v15), (16, .int v16)] → c374 v3 v4 v11 v12 v13 v14 v15 v16 k z = some (o, uc, us) → cells + uc ≤ 600130 → slots + us ≤ 7301080 → W p l e room_1 s mm args below meth c H locs cells slots Q (F0 mm 374 ls [])) {ad : Nat → Nat} {s0 : Int32} {v3 : Int32} {v4 : Int32} {v11 : Int32} {v12 : Int32} {v13 : Int32} {v14 : Int32} {v15 : Int32} {v16 : Int32} {v17 : Int32} {k : kS} {z : kS} {H : Heap} {locs : List Loc} {ls : Array Slot} {cells slots uc us : Nat} {o : Unit} (hG : True) (hH : jH A s H locs D g ad z (jY adk g k mo) []) (hl : jl_has ls 24 [(0, .ref b), (1, .ref (adk 0)), (2, .ref (ad 0)), (3, .int v3), (4, .int v4), (11, .int v11), (12, .int v12), (13, .int v13), (14, .int v14), (15, .int v15), (16, .int v16), (17, .int v17)]) (hf : F_L_law_882 xs L c22 c374 s0 v3 v4 v11 v12 v13 v14 v15 v16 v17 k z = some (o, uc, us)) (hc : cells + uc ≤ 600130) (hs : slots + us ≤ 7301080) : W p l e room_1 s mm args below meth c H locs cells slots Q (F0 mm 882 ls [.int s0]) := by
  have hx := V.1
  have hb := V.2.1
  refine lv_aload_n hx hb dL_law_882 rfl (lv_at hl.1 1 rfl) ?_
  refine lv_iload hx hb dL_law_883 (lv_at hl.1 10 rfl) ?_
  refine lv_bipush (v := 7) hx hb dL_law_885 (by decide) ?_
  obtain ⟨x882_1, hx882_1, hf⟩ := kbind hf
  obtain ⟨h882_2, hf⟩ := kif hf
  obtain ⟨uc882_3, us882_4, hf, e1, e2⟩ := kadd_some2 hf
  have e1 : uc = 4 + uc882_3 := e1
  have e2 : us = 24 + us882_4 := e2
  have hc : cells + 4 + uc882_3 ≤ 600130 := by rw [Nat.add_assoc, ← e1]; exact hc
  have hs : slots + 24 + us882_4 ≤ 7301080 := by rw [Nat.add_assoc, ← e2]; exact hs
  have lc : cells + 4 ≤ 600130 := Nat.le_trans (Nat.le_add_right _ _) hc
  have ls2 : slots + 24 ≤ 7301080 := Nat.le_trans (Nat.le_add_right _ _) hs
  refine jc_callx V hA LX hH kYX5_person kl_L_132 (c_X5_person l LX.1 _ _ hx882_1 _) (Decidable.not_not.mp h882_2) rfl rfl ⟨Nat.le_of_ble_eq_true rfl, Nat.le_of_ble_eq_true rfl⟩ rfl hl.1.1 (as := [.int v16, .int 7]) (rest := [.int s0]) (Nat.le_of_ble_eq_true rfl) dL_law_887 ⟨lc, ls2⟩ rfl (fun H locs hH => ?_)
  refine lv_if_le (tgt := 897) hx hb dL_law_890 (by decide) (fun hq => ?_) (fun hq => ?_)
  · have hf := kpos hq hf
    exact w_L_law_897 V hA LX SX hQ hk22 hk374 trivial hH (jl_sub hl [0, 1, 2, 3, 4, 5, 6, 7, 8, 9, 10, 11] rfl) hf hc hs
  · have hf := kneg hq hf
    exact w_L_law_893 V hA LX SX hQ hk22 hk374 trivial hH (jl_sub hl [0, 1, 2, 3, 4, 5, 6, 7, 8, 9, 10, 11] rfl) hf hc hs
set_option maxHeartbeats 4000000 in
set_option maxRecDepth 100000 in
theorem w_L_law_877 (V : jV p s mm args meth c cL_law RL 24 (some .boolean) D g) (hA : ∀ q, s.heap.size ≤ q → A q) (LX : jLX l A s) (SX : jSX A s b L xs) (hQ : ∀ {H : Heap} {locs : List Loc} {ls : Array Slot} {cells slots : Nat}, va_S A s.heap H locs → cells ≤ 600130 → slots ≤ 7301080 → W p l e room_1 s mm args below meth c H locs cells slots Q (F0 mm 1222 ls [.int 1])) {c22 : Int32 → kS → kS → Option (Unit × Nat × Nat)} (hk22 : ∀ {ad : Nat → Nat} {v3 : Int32} {k : kS} {z : kS} {H : Heap} {locs : List Loc} {ls : Array Slot} {cells slots uc us : Nat} {o : Unit}, True → jH A s H locs D g ad z (jY adk g k mo) [] → jl_has ls 24 [(0, .ref b), (1, .ref (adk 0)), (2, .ref (ad 0)), (3, .int v3)] → c22 v3 k z = some (o, uc, us) → cells + uc ≤ 600130 → slots + us ≤ 7301080 → W p l e room_1 s mm args below meth c H locs cells slots Q (F0 mm 22 ls [])) {c374 : Int32 → Int32 → Int32 → Int32 → Int32 → Int32 → Int32 → Int32 → kS → kS → Option (Unit × Nat × Nat)} (hk374 : ∀ {ad : Nat → Nat} {v3 : Int32} {v4 : Int32} {v11 : Int32} {v12 : Int32} {v13 : Int32} {v14 : Int32} {v15 : Int32} {v16 : Int32} {k : kS} {z : kS} {H : Heap} {locs : List Loc} {ls : Array Slot} {cells slots uc us : Nat} {o : Unit}, True → jH A s H locs D g ad z (jY adk g k mo) [] → jl_has ls 24 [(0, .ref b), (1, .ref (adk 0)), (2, .ref (ad 0)), (3, .int v3), (4, .int v4), (11, .int v11), (12, .int v12), (13, .int v13), (14, .int v14), (15, .int v15), (16, .int v16)] → c374 v3 v4 v11 v12 v13 v14 v15 v16 k z = some (o, uc, us) → cells + uc ≤ 600130 → slots + us ≤ 7301080 → W p l e room_1 s mm args below meth c H locs cells slots Q (F0 mm 374 ls [])) {ad : Nat → Nat} {v3 : Int32} {v4 : Int32} {v11 : Int32} {v12 : Int32} {v13 : Int32} {v14 : Int32} {v15 : Int32} {v16 : Int32} {v17 : Int32} {k : kS} {z : kS} {H : Heap} {locs : List Loc} {ls : Array Slot} {cells slots uc us : Nat} {o : Unit} (hG : True) (hH : jH A s H locs D g ad z (jY adk g k mo) []) (hl : jl_has ls 24 [(0, .ref b), (1, .ref (adk 0)), (2, .ref (ad 0)), (3, .int v3), (4, .int v4), (11, .int v11), (12, .int v12), (13, .int v13), (14, .int v14), (15, .int v15), (16, .int v16), (17, .int v17)]) (hf : F_L_law_877 xs L c22 c374 v3 v4 v11 v12 v13 v14 v15 v16 v17 k z = some (o, uc, us)) (hc : cells + uc ≤ 600130) (hs : slots + us ≤ 7301080) : W p l e room_1 s mm args below meth c H locs cells slots Q (F0 mm 877 ls []) := by
  have hx := V.1
  have hb := V.2.1
  refine lv_iconst (v := 1) hx hb dL_law_877 (by decide) ?_
  refine lv_goto (tgt := 882) hx hb dL_law_878 (by decide) ?_
  exact w_L_law_882 V hA LX SX hQ hk22 hk374 trivial hH (jl_sub hl [0, 1, 2, 3, 4, 5, 6, 7, 8, 9, 10, 11] rfl) hf hc hs
set_option maxHeartbeats 4000000 in
set_option maxRecDepth 100000 in
theorem w_L_law_881 (V : jV p s mm args meth c cL_law RL 24 (some .boolean) D g) (hA : ∀ q, s.heap.size ≤ q → A q) (LX : jLX l A s) (SX : jSX A s b L xs) (hQ : ∀ {H : Heap} {locs : List Loc} {ls : Array Slot} {cells slots : Nat}, va_S A s.heap H locs → cells ≤ 600130 → slots ≤ 7301080 → W p l e room_1 s mm args below meth c H locs cells slots Q (F0 mm 1222 ls [.int 1])) {c22 : Int32 → kS → kS → Option (Unit × Nat × Nat)} (hk22 : ∀ {ad : Nat → Nat} {v3 : Int32} {k : kS} {z : kS} {H : Heap} {locs : List Loc} {ls : Array Slot} {cells slots uc us : Nat} {o : Unit}, True → jH A s H locs D g ad z (jY adk g k mo) [] → jl_has ls 24 [(0, .ref b), (1, .ref (adk 0)), (2, .ref (ad 0)), (3, .int v3)] → c22 v3 k z = some (o, uc, us) → cells + uc ≤ 600130 → slots + us ≤ 7301080 → W p l e room_1 s mm args below meth c H locs cells slots Q (F0 mm 22 ls [])) {c374 : Int32 → Int32 → Int32 → Int32 → Int32 → Int32 → Int32 → Int32 → kS → kS → Option (Unit × Nat × Nat)} (hk374 : ∀ {ad : Nat → Nat} {v3 : Int32} {v4 : Int32} {v11 : Int32} {v12 : Int32} {v13 : Int32} {v14 : Int32} {v15 : Int32} {v16 : Int32} {k : kS} {z : kS} {H : Heap} {locs : List Loc} {ls : Array Slot} {cells slots uc us : Nat} {o : Unit}, True → jH A s H locs D g ad z (jY adk g k mo) [] → jl_has ls 24 [(0, .ref b), (1, .ref (adk 0)), (2, .ref (ad 0)), (3, .int v3), (4, .int v4), (11, .int v11), (12, .int v12), (13, .int v13), (14, .int v14), (15, .int v15), (16, .int v16)] → c374 v3 v4 v11 v12 v13 v14 v15 v16 k z = some (o, uc, us) → cells + uc ≤ 600130 → slots + us ≤ 7301080 → W p l e room_1 s mm args below meth c H locs cells slots Q (F0 mm 374 ls [])) {ad : Nat → Nat} {v3 : Int32} {v4 : Int32} {v11 : Int32} {v12 : Int32} {v13 : Int32} {v14 : Int32} {v15 : Int32} {v16 : Int32} {v17 : Int32} {k : kS} {z : kS} {H : Heap} {locs : List Loc} {ls : Array Slot} {cells slots uc us : Nat} {o : Unit} (hG : True) (hH : jH A s H locs D g ad z (jY adk g k mo) []) (hl : jl_has ls 24 [(0, .ref b), (1, .ref (adk 0)), (2, .ref (ad 0)), (3, .int v3), (4, .int v4), (11, .int v11), (12, .int v12), (13, .int v13), (14, .int v14), (15, .int v15), (16, .int v16), (17, .int v17)]) (hf : F_L_law_881 xs L c22 c374 v3 v4 v11 v12 v13 v14 v15 v16 v17 k z = some (o, uc, us)) (hc : cells + uc ≤ 600130) (hs : slots + us ≤ 7301080) : W p l e room_1 s mm args below meth c H locs cells slots Q (F0 mm 881 ls []) := by
  have hx := V.1
  have hb := V.2.1
  refine lv_iconst (v := 0) hx hb dL_law_881 (by decide) ?_
  exact w_L_law_882 V hA LX SX hQ hk22 hk374 trivial hH (jl_sub hl [0, 1, 2, 3, 4, 5, 6, 7, 8, 9, 10, 11] rfl) hf hc hs
set_option maxHeartbeats 4000000 in
set_option maxRecDepth 100000 in
theorem w_L_law_868 (V : jV p s mm args meth c cL_law RL 24 (some .boolean) D g) (hA : ∀ q, s.heap.size ≤ q → A q) (LX : jLX l A s) (SX : jSX A s b L xs) (hQ : ∀ {H : Heap} {locs : List Loc} {ls : Array Slot} {cells slots : Nat}, va_S A s.heap H locs → cells ≤ 600130 → slots ≤ 7301080 → W p l e room_1 s mm args below meth c H locs cells slots Q (F0 mm 1222 ls [.int 1])) {c22 : Int32 → kS → kS → Option (Unit × Nat × Nat)} (hk22 : ∀ {ad : Nat → Nat} {v3 : Int32} {k : kS} {z : kS} {H : Heap} {locs : List Loc} {ls : Array Slot} {cells slots uc us : Nat} {o : Unit}, True → jH A s H locs D g ad z (jY adk g k mo) [] → jl_has ls 24 [(0, .ref b), (1, .ref (adk 0)), (2, .ref (ad 0)), (3, .int v3)] → c22 v3 k z = some (o, uc, us) → cells + uc ≤ 600130 → slots + us ≤ 7301080 → W p l e room_1 s mm args below meth c H locs cells slots Q (F0 mm 22 ls [])) {c374 : Int32 → Int32 → Int32 → Int32 → Int32 → Int32 → Int32 → Int32 → kS → kS → Option (Unit × Nat × Nat)} (hk374 : ∀ {ad : Nat → Nat} {v3 : Int32} {v4 : Int32} {v11 : Int32} {v12 : Int32} {v13 : Int32} {v14 : Int32} {v15 : Int32} {v16 : Int32} {k : kS} {z : kS} {H : Heap} {locs : List Loc} {ls : Array Slot} {cells slots uc us : Nat} {o : Unit}, True → jH A s H locs D g ad z (jY adk g k mo) [] → jl_has ls 24 [(0, .ref b), (1, .ref (adk 0)), (2, .ref (ad 0)), (3, .int v3), (4, .int v4), (11, .int v11), (12, .int v12), (13, .int v13), (14, .int v14), (15, .int v15), (16, .int v16)] → c374 v3 v4 v11 v12 v13 v14 v15 v16 k z = some (o, uc, us) → cells + uc ≤ 600130 → slots + us ≤ 7301080 → W p l e room_1 s mm args below meth c H locs cells slots Q (F0 mm 374 ls [])) {ad : Nat → Nat} {v3 : Int32} {v4 : Int32} {v11 : Int32} {v12 : Int32} {v13 : Int32} {v14 : Int32} {v15 : Int32} {v16 : Int32} {v17 : Int32} {k : kS} {z : kS} {H : Heap} {locs : List Loc} {ls : Array Slot} {cells slots uc us : Nat} {o : Unit} (hG : True) (hH : jH A s H locs D g ad z (jY adk g k mo) []) (hl : jl_has ls 24 [(0, .ref b), (1, .ref (adk 0)), (2, .ref (ad 0)), (3, .int v3), (4, .int v4), (11, .int v11), (12, .int v12), (13, .int v13), (14, .int v14), (15, .int v15), (16, .int v16), (17, .int v17)]) (hf : F_L_law_868 xs L c22 c374 v3 v4 v11 v12 v13 v14 v15 v16 v17 k z = some (o, uc, us)) (hc : cells + uc ≤ 600130) (hs : slots + us ≤ 7301080) : W p l e room_1 s mm args below meth c H locs cells slots Q (F0 mm 868 ls []) := by
  have hx := V.1
  have hb := V.2.1
  refine lv_aload_n hx hb dL_law_868 rfl (lv_at hl.1 1 rfl) ?_
  refine lv_iload hx hb dL_law_869 (lv_at hl.1 10 rfl) ?_
  obtain ⟨x868_1, hx868_1, hf⟩ := kbind hf
  obtain ⟨h868_2, hf⟩ := kif hf
  obtain ⟨uc868_3, us868_4, hf, e1, e2⟩ := kadd_some2 hf
  have e1 : uc = 4 + uc868_3 := e1
  have e2 : us = 24 + us868_4 := e2
  have hc : cells + 4 + uc868_3 ≤ 600130 := by rw [Nat.add_assoc, ← e1]; exact hc
  have hs : slots + 24 + us868_4 ≤ 7301080 := by rw [Nat.add_assoc, ← e2]; exact hs
  have lc : cells + 4 ≤ 600130 := Nat.le_trans (Nat.le_add_right _ _) hc
  have ls2 : slots + 24 ≤ 7301080 := Nat.le_trans (Nat.le_add_right _ _) hs
  refine jc_callx V hA LX hH kYX5_rules kl_L_141 (c_X5_rules l LX.1 _ hx868_1 _) (Decidable.not_not.mp h868_2) rfl rfl ⟨Nat.le_of_ble_eq_true rfl, Nat.le_of_ble_eq_true rfl⟩ rfl hl.1.1 (as := [.int v16]) (rest := []) (Nat.le_of_ble_eq_true rfl) dL_law_871 ⟨lc, ls2⟩ rfl (fun H locs hH => ?_)
  refine lv_if_ne (tgt := 881) hx hb dL_law_874 (by decide) (fun hq => ?_) (fun hq => ?_)
  · have hf := kneg hq hf
    exact w_L_law_881 V hA LX SX hQ hk22 hk374 trivial hH (jl_sub hl [0, 1, 2, 3, 4, 5, 6, 7, 8, 9, 10, 11] rfl) hf hc hs
  · have hf := kpos hq hf
    exact w_L_law_877 V hA LX SX hQ hk22 hk374 trivial hH (jl_sub hl [0, 1, 2, 3, 4, 5, 6, 7, 8, 9, 10, 11] rfl) hf hc hs
set_option maxHeartbeats 4000000 in
set_option maxRecDepth 100000 in
theorem w_L_law_849 (V : jV p s mm args meth c cL_law RL 24 (some .boolean) D g) (hA : ∀ q, s.heap.size ≤ q → A q) (LX : jLX l A s) (SX : jSX A s b L xs) (hQ : ∀ {H : Heap} {locs : List Loc} {ls : Array Slot} {cells slots : Nat}, va_S A s.heap H locs → cells ≤ 600130 → slots ≤ 7301080 → W p l e room_1 s mm args below meth c H locs cells slots Q (F0 mm 1222 ls [.int 1])) {c22 : Int32 → kS → kS → Option (Unit × Nat × Nat)} (hk22 : ∀ {ad : Nat → Nat} {v3 : Int32} {k : kS} {z : kS} {H : Heap} {locs : List Loc} {ls : Array Slot} {cells slots uc us : Nat} {o : Unit}, True → jH A s H locs D g ad z (jY adk g k mo) [] → jl_has ls 24 [(0, .ref b), (1, .ref (adk 0)), (2, .ref (ad 0)), (3, .int v3)] → c22 v3 k z = some (o, uc, us) → cells + uc ≤ 600130 → slots + us ≤ 7301080 → W p l e room_1 s mm args below meth c H locs cells slots Q (F0 mm 22 ls [])) {c374 : Int32 → Int32 → Int32 → Int32 → Int32 → Int32 → Int32 → Int32 → kS → kS → Option (Unit × Nat × Nat)} (hk374 : ∀ {ad : Nat → Nat} {v3 : Int32} {v4 : Int32} {v11 : Int32} {v12 : Int32} {v13 : Int32} {v14 : Int32} {v15 : Int32} {v16 : Int32} {k : kS} {z : kS} {H : Heap} {locs : List Loc} {ls : Array Slot} {cells slots uc us : Nat} {o : Unit}, True → jH A s H locs D g ad z (jY adk g k mo) [] → jl_has ls 24 [(0, .ref b), (1, .ref (adk 0)), (2, .ref (ad 0)), (3, .int v3), (4, .int v4), (11, .int v11), (12, .int v12), (13, .int v13), (14, .int v14), (15, .int v15), (16, .int v16)] → c374 v3 v4 v11 v12 v13 v14 v15 v16 k z = some (o, uc, us) → cells + uc ≤ 600130 → slots + us ≤ 7301080 → W p l e room_1 s mm args below meth c H locs cells slots Q (F0 mm 374 ls [])) {ad : Nat → Nat} {v3 : Int32} {v4 : Int32} {v11 : Int32} {v12 : Int32} {v13 : Int32} {v14 : Int32} {v15 : Int32} {v16 : Int32} {v17 : Int32} {v23 : Int32} {k : kS} {z : kS} {H : Heap} {locs : List Loc} {ls : Array Slot} {cells slots uc us : Nat} {o : Unit} (hG : True) (hH : jH A s H locs D g ad z (jY adk g k mo) []) (hl : jl_has ls 24 [(0, .ref b), (1, .ref (adk 0)), (2, .ref (ad 0)), (3, .int v3), (4, .int v4), (11, .int v11), (12, .int v12), (13, .int v13), (14, .int v14), (15, .int v15), (16, .int v16), (17, .int v17), (23, .int v23)]) (hf : F_L_law_849 xs L c22 c374 v3 v4 v11 v12 v13 v14 v15 v16 v17 v23 k z = some (o, uc, us)) (hc : cells + uc ≤ 600130) (hs : slots + us ≤ 7301080) : W p l e room_1 s mm args below meth c H locs cells slots Q (F0 mm 849 ls []) := by
  have hx := V.1
  have hb := V.2.1
  refine lv_aload_n hx hb dL_law_849 rfl (lv_at hl.1 1 rfl) ?_
  refine lv_iload hx hb dL_law_850 (lv_at hl.1 12 rfl) ?_
  refine lv_iconst (v := 0) hx hb dL_law_852 (by decide) ?_
  obtain ⟨x849_1, hx849_1, hf⟩ := kbind hf
  obtain ⟨h849_2, hf⟩ := kif hf
  obtain ⟨uc849_3, us849_4, hf, e1, e2⟩ := kadd_some2 hf
  have e1 : uc = 4 + uc849_3 := e1
  have e2 : us = 24 + us849_4 := e2
  have hc : cells + 4 + uc849_3 ≤ 600130 := by rw [Nat.add_assoc, ← e1]; exact hc
  have hs : slots + 24 + us849_4 ≤ 7301080 := by rw [Nat.add_assoc, ← e2]; exact hs
  have lc : cells + 4 ≤ 600130 := Nat.le_trans (Nat.le_add_right _ _) hc
  have ls2 : slots + 24 ≤ 7301080 := Nat.le_trans (Nat.le_add_right _ _) hs
  refine jc_callx V hA LX hH kYX5_person kl_L_132 (c_X5_person l LX.1 _ _ hx849_1 _) (Decidable.not_not.mp h849_2) rfl rfl ⟨Nat.le_of_ble_eq_true rfl, Nat.le_of_ble_eq_true rfl⟩ rfl hl.1.1 (as := [.int v23, .int 0]) (rest := []) (Nat.le_of_ble_eq_true rfl) dL_law_853 ⟨lc, ls2⟩ rfl (fun H locs hH => ?_)
  refine lv_aload_n hx hb dL_law_856 rfl (lv_at hl.1 1 rfl) ?_
  refine lv_iload hx hb dL_law_857 (lv_at hl.1 10 rfl) ?_
  refine lv_iconst (v := 0) hx hb dL_law_859 (by decide) ?_
  obtain ⟨x849_5, hx849_5, hf⟩ := kbind hf
  obtain ⟨h849_6, hf⟩ := kif hf
  obtain ⟨uc849_7, us849_8, hf, e1, e2⟩ := kadd_some2 hf
  have e1 : uc849_3 = 4 + uc849_7 := e1
  have e2 : us849_4 = 24 + us849_8 := e2
  have hc : cells + 4 + 4 + uc849_7 ≤ 600130 := by rw [Nat.add_assoc, ← e1]; exact hc
  have hs : slots + 24 + 24 + us849_8 ≤ 7301080 := by rw [Nat.add_assoc, ← e2]; exact hs
  have lc : cells + 4 + 4 ≤ 600130 := Nat.le_trans (Nat.le_add_right _ _) hc
  have ls2 : slots + 24 + 24 ≤ 7301080 := Nat.le_trans (Nat.le_add_right _ _) hs
  refine jc_callx V hA LX hH kYX5_person kl_L_132 (c_X5_person l LX.1 _ _ hx849_5 _) (Decidable.not_not.mp h849_6) rfl rfl ⟨Nat.le_of_ble_eq_true rfl, Nat.le_of_ble_eq_true rfl⟩ rfl hl.1.1 (as := [.int v16, .int 0]) (rest := [.int x849_1.2]) (Nat.le_of_ble_eq_true rfl) dL_law_860 ⟨lc, ls2⟩ rfl (fun H locs hH => ?_)
  refine lv_icmp_ne (tgt := 868) hx hb dL_law_863 (by decide) (fun hq => ?_) (fun hq => ?_)
  · have hf := kneg hq hf
    exact w_L_law_868 V hA LX SX hQ hk22 hk374 trivial hH (jl_sub hl [0, 1, 2, 3, 4, 5, 6, 7, 8, 9, 10, 11] rfl) hf hc hs
  · have hf := kpos hq hf
    exact w_L_law_866 V hA LX SX hQ trivial hH (jl_sub hl [] rfl) hf hc hs
set_option maxHeartbeats 4000000 in
set_option maxRecDepth 100000 in
theorem w_L_law_838 (V : jV p s mm args meth c cL_law RL 24 (some .boolean) D g) (hA : ∀ q, s.heap.size ≤ q → A q) (LX : jLX l A s) (SX : jSX A s b L xs) (hQ : ∀ {H : Heap} {locs : List Loc} {ls : Array Slot} {cells slots : Nat}, va_S A s.heap H locs → cells ≤ 600130 → slots ≤ 7301080 → W p l e room_1 s mm args below meth c H locs cells slots Q (F0 mm 1222 ls [.int 1])) {c22 : Int32 → kS → kS → Option (Unit × Nat × Nat)} (hk22 : ∀ {ad : Nat → Nat} {v3 : Int32} {k : kS} {z : kS} {H : Heap} {locs : List Loc} {ls : Array Slot} {cells slots uc us : Nat} {o : Unit}, True → jH A s H locs D g ad z (jY adk g k mo) [] → jl_has ls 24 [(0, .ref b), (1, .ref (adk 0)), (2, .ref (ad 0)), (3, .int v3)] → c22 v3 k z = some (o, uc, us) → cells + uc ≤ 600130 → slots + us ≤ 7301080 → W p l e room_1 s mm args below meth c H locs cells slots Q (F0 mm 22 ls [])) {c374 : Int32 → Int32 → Int32 → Int32 → Int32 → Int32 → Int32 → Int32 → kS → kS → Option (Unit × Nat × Nat)} (hk374 : ∀ {ad : Nat → Nat} {v3 : Int32} {v4 : Int32} {v11 : Int32} {v12 : Int32} {v13 : Int32} {v14 : Int32} {v15 : Int32} {v16 : Int32} {k : kS} {z : kS} {H : Heap} {locs : List Loc} {ls : Array Slot} {cells slots uc us : Nat} {o : Unit}, True → jH A s H locs D g ad z (jY adk g k mo) [] → jl_has ls 24 [(0, .ref b), (1, .ref (adk 0)), (2, .ref (ad 0)), (3, .int v3), (4, .int v4), (11, .int v11), (12, .int v12), (13, .int v13), (14, .int v14), (15, .int v15), (16, .int v16)] → c374 v3 v4 v11 v12 v13 v14 v15 v16 k z = some (o, uc, us) → cells + uc ≤ 600130 → slots + us ≤ 7301080 → W p l e room_1 s mm args below meth c H locs cells slots Q (F0 mm 374 ls [])) {ad : Nat → Nat} {v3 : Int32} {v4 : Int32} {v11 : Int32} {v12 : Int32} {v13 : Int32} {v14 : Int32} {v15 : Int32} {v16 : Int32} {v17 : Int32} {v23 : Int32} {k : kS} {z : kS} {H : Heap} {locs : List Loc} {ls : Array Slot} {cells slots uc us : Nat} {o : Unit} (hG : True) (hH : jH A s H locs D g ad z (jY adk g k mo) []) (hl : jl_has ls 24 [(0, .ref b), (1, .ref (adk 0)), (2, .ref (ad 0)), (3, .int v3), (4, .int v4), (11, .int v11), (12, .int v12), (13, .int v13), (14, .int v14), (15, .int v15), (16, .int v16), (17, .int v17), (23, .int v23)]) (hf : F_L_law_838 xs L c22 c374 v3 v4 v11 v12 v13 v14 v15 v16 v17 v23 k z = some (o, uc, us)) (hc : cells + uc ≤ 600130) (hs : slots + us ≤ 7301080) : W p l e room_1 s mm args below meth c H locs cells slots Q (F0 mm 838 ls []) := by
  have hx := V.1
  have hb := V.2.1
  refine lv_aload_n hx hb dL_law_838 rfl (lv_at hl.1 1 rfl) ?_
  refine lv_iload hx hb dL_law_839 (lv_at hl.1 12 rfl) ?_
  refine lv_iconst (v := 2) hx hb dL_law_841 (by decide) ?_
  obtain ⟨x838_1, hx838_1, hf⟩ := kbind hf
  obtain ⟨h838_2, hf⟩ := kif hf
  obtain ⟨uc838_3, us838_4, hf, e1, e2⟩ := kadd_some2 hf
  have e1 : uc = 4 + uc838_3 := e1
  have e2 : us = 24 + us838_4 := e2
  have hc : cells + 4 + uc838_3 ≤ 600130 := by rw [Nat.add_assoc, ← e1]; exact hc
  have hs : slots + 24 + us838_4 ≤ 7301080 := by rw [Nat.add_assoc, ← e2]; exact hs
  have lc : cells + 4 ≤ 600130 := Nat.le_trans (Nat.le_add_right _ _) hc
  have ls2 : slots + 24 ≤ 7301080 := Nat.le_trans (Nat.le_add_right _ _) hs
  refine jc_callx V hA LX hH kYX5_person kl_L_132 (c_X5_person l LX.1 _ _ hx838_1 _) (Decidable.not_not.mp h838_2) rfl rfl ⟨Nat.le_of_ble_eq_true rfl, Nat.le_of_ble_eq_true rfl⟩ rfl hl.1.1 (as := [.int v23, .int 2]) (rest := []) (Nat.le_of_ble_eq_true rfl) dL_law_842 ⟨lc, ls2⟩ rfl (fun H locs hH => ?_)
  refine lv_iconst (v := 1) hx hb dL_law_845 (by decide) ?_
  refine lv_icmp_ne (tgt := 866) hx hb dL_law_846 (by decide) (fun hq => ?_) (fun hq => ?_)
  · have hf := kneg hq hf
    exact w_L_law_866 V hA LX SX hQ trivial hH (jl_sub hl [] rfl) hf hc hs
  · have hf := kpos hq hf
    exact w_L_law_849 V hA LX SX hQ hk22 hk374 trivial hH (jl_sub hl [0, 1, 2, 3, 4, 5, 6, 7, 8, 9, 10, 11, 12] rfl) hf hc hs
set_option maxHeartbeats 4000000 in
set_option maxRecDepth 100000 in
theorem w_L_law_828 (V : jV p s mm args meth c cL_law RL 24 (some .boolean) D g) (hA : ∀ q, s.heap.size ≤ q → A q) (LX : jLX l A s) (SX : jSX A s b L xs) (hQ : ∀ {H : Heap} {locs : List Loc} {ls : Array Slot} {cells slots : Nat}, va_S A s.heap H locs → cells ≤ 600130 → slots ≤ 7301080 → W p l e room_1 s mm args below meth c H locs cells slots Q (F0 mm 1222 ls [.int 1])) {c22 : Int32 → kS → kS → Option (Unit × Nat × Nat)} (hk22 : ∀ {ad : Nat → Nat} {v3 : Int32} {k : kS} {z : kS} {H : Heap} {locs : List Loc} {ls : Array Slot} {cells slots uc us : Nat} {o : Unit}, True → jH A s H locs D g ad z (jY adk g k mo) [] → jl_has ls 24 [(0, .ref b), (1, .ref (adk 0)), (2, .ref (ad 0)), (3, .int v3)] → c22 v3 k z = some (o, uc, us) → cells + uc ≤ 600130 → slots + us ≤ 7301080 → W p l e room_1 s mm args below meth c H locs cells slots Q (F0 mm 22 ls [])) {c374 : Int32 → Int32 → Int32 → Int32 → Int32 → Int32 → Int32 → Int32 → kS → kS → Option (Unit × Nat × Nat)} (hk374 : ∀ {ad : Nat → Nat} {v3 : Int32} {v4 : Int32} {v11 : Int32} {v12 : Int32} {v13 : Int32} {v14 : Int32} {v15 : Int32} {v16 : Int32} {k : kS} {z : kS} {H : Heap} {locs : List Loc} {ls : Array Slot} {cells slots uc us : Nat} {o : Unit}, True → jH A s H locs D g ad z (jY adk g k mo) [] → jl_has ls 24 [(0, .ref b), (1, .ref (adk 0)), (2, .ref (ad 0)), (3, .int v3), (4, .int v4), (11, .int v11), (12, .int v12), (13, .int v13), (14, .int v14), (15, .int v15), (16, .int v16)] → c374 v3 v4 v11 v12 v13 v14 v15 v16 k z = some (o, uc, us) → cells + uc ≤ 600130 → slots + us ≤ 7301080 → W p l e room_1 s mm args below meth c H locs cells slots Q (F0 mm 374 ls [])) {ad : Nat → Nat} {v3 : Int32} {v4 : Int32} {v11 : Int32} {v12 : Int32} {v13 : Int32} {v14 : Int32} {v15 : Int32} {v16 : Int32} {v17 : Int32} {v23 : Int32} {k : kS} {z : kS} {H : Heap} {locs : List Loc} {ls : Array Slot} {cells slots uc us : Nat} {o : Unit} (hG : True) (hH : jH A s H locs D g ad z (jY adk g k mo) []) (hl : jl_has ls 24 [(0, .ref b), (1, .ref (adk 0)), (2, .ref (ad 0)), (3, .int v3), (4, .int v4), (11, .int v11), (12, .int v12), (13, .int v13), (14, .int v14), (15, .int v15), (16, .int v16), (17, .int v17), (23, .int v23)]) (hf : F_L_law_828 xs L c22 c374 v3 v4 v11 v12 v13 v14 v15 v16 v17 v23 k z = some (o, uc, us)) (hc : cells + uc ≤ 600130) (hs : slots + us ≤ 7301080) : W p l e room_1 s mm args below meth c H locs cells slots Q (F0 mm 828 ls []) := by
  have hx := V.1
  have hb := V.2.1
  refine lv_aload_n hx hb dL_law_828 rfl (lv_at hl.1 1 rfl) ?_
  refine lv_iload hx hb dL_law_829 (lv_at hl.1 12 rfl) ?_
  refine lv_iconst (v := 5) hx hb dL_law_831 (by decide) ?_
  obtain ⟨x828_1, hx828_1, hf⟩ := kbind hf
  obtain ⟨h828_2, hf⟩ := kif hf
  obtain ⟨uc828_3, us828_4, hf, e1, e2⟩ := kadd_some2 hf
  have e1 : uc = 4 + uc828_3 := e1
  have e2 : us = 24 + us828_4 := e2
  have hc : cells + 4 + uc828_3 ≤ 600130 := by rw [Nat.add_assoc, ← e1]; exact hc
  have hs : slots + 24 + us828_4 ≤ 7301080 := by rw [Nat.add_assoc, ← e2]; exact hs
  have lc : cells + 4 ≤ 600130 := Nat.le_trans (Nat.le_add_right _ _) hc
  have ls2 : slots + 24 ≤ 7301080 := Nat.le_trans (Nat.le_add_right _ _) hs
  refine jc_callx V hA LX hH kYX5_person kl_L_132 (c_X5_person l LX.1 _ _ hx828_1 _) (Decidable.not_not.mp h828_2) rfl rfl ⟨Nat.le_of_ble_eq_true rfl, Nat.le_of_ble_eq_true rfl⟩ rfl hl.1.1 (as := [.int v23, .int 5]) (rest := []) (Nat.le_of_ble_eq_true rfl) dL_law_832 ⟨lc, ls2⟩ rfl (fun H locs hH => ?_)
  refine lv_if_ge (tgt := 866) hx hb dL_law_835 (by decide) (fun hq => ?_) (fun hq => ?_)
  · have hf := kpos hq hf
    exact w_L_law_866 V hA LX SX hQ trivial hH (jl_sub hl [] rfl) hf hc hs
  · have hf := kneg hq hf
    exact w_L_law_838 V hA LX SX hQ hk22 hk374 trivial hH (jl_sub hl [0, 1, 2, 3, 4, 5, 6, 7, 8, 9, 10, 11, 12] rfl) hf hc hs
set_option maxHeartbeats 4000000 in
set_option maxRecDepth 100000 in
theorem w_L_law_823 (V : jV p s mm args meth c cL_law RL 24 (some .boolean) D g) (hA : ∀ q, s.heap.size ≤ q → A q) (LX : jLX l A s) (SX : jSX A s b L xs) (hQ : ∀ {H : Heap} {locs : List Loc} {ls : Array Slot} {cells slots : Nat}, va_S A s.heap H locs → cells ≤ 600130 → slots ≤ 7301080 → W p l e room_1 s mm args below meth c H locs cells slots Q (F0 mm 1222 ls [.int 1])) {c22 : Int32 → kS → kS → Option (Unit × Nat × Nat)} (hk22 : ∀ {ad : Nat → Nat} {v3 : Int32} {k : kS} {z : kS} {H : Heap} {locs : List Loc} {ls : Array Slot} {cells slots uc us : Nat} {o : Unit}, True → jH A s H locs D g ad z (jY adk g k mo) [] → jl_has ls 24 [(0, .ref b), (1, .ref (adk 0)), (2, .ref (ad 0)), (3, .int v3)] → c22 v3 k z = some (o, uc, us) → cells + uc ≤ 600130 → slots + us ≤ 7301080 → W p l e room_1 s mm args below meth c H locs cells slots Q (F0 mm 22 ls [])) {c374 : Int32 → Int32 → Int32 → Int32 → Int32 → Int32 → Int32 → Int32 → kS → kS → Option (Unit × Nat × Nat)} (hk374 : ∀ {ad : Nat → Nat} {v3 : Int32} {v4 : Int32} {v11 : Int32} {v12 : Int32} {v13 : Int32} {v14 : Int32} {v15 : Int32} {v16 : Int32} {k : kS} {z : kS} {H : Heap} {locs : List Loc} {ls : Array Slot} {cells slots uc us : Nat} {o : Unit}, True → jH A s H locs D g ad z (jY adk g k mo) [] → jl_has ls 24 [(0, .ref b), (1, .ref (adk 0)), (2, .ref (ad 0)), (3, .int v3), (4, .int v4), (11, .int v11), (12, .int v12), (13, .int v13), (14, .int v14), (15, .int v15), (16, .int v16)] → c374 v3 v4 v11 v12 v13 v14 v15 v16 k z = some (o, uc, us) → cells + uc ≤ 600130 → slots + us ≤ 7301080 → W p l e room_1 s mm args below meth c H locs cells slots Q (F0 mm 374 ls [])) {ad : Nat → Nat} {v3 : Int32} {v4 : Int32} {v11 : Int32} {v12 : Int32} {v13 : Int32} {v14 : Int32} {v15 : Int32} {v16 : Int32} {v17 : Int32} {v23 : Int32} {k : kS} {z : kS} {H : Heap} {locs : List Loc} {ls : Array Slot} {cells slots uc us : Nat} {o : Unit} (hG : True) (hH : jH A s H locs D g ad z (jY adk g k mo) []) (hl : jl_has ls 24 [(0, .ref b), (1, .ref (adk 0)), (2, .ref (ad 0)), (3, .int v3), (4, .int v4), (11, .int v11), (12, .int v12), (13, .int v13), (14, .int v14), (15, .int v15), (16, .int v16), (17, .int v17), (23, .int v23)]) (hf : F_L_law_823 xs L c22 c374 v3 v4 v11 v12 v13 v14 v15 v16 v17 v23 k z = some (o, uc, us)) (hc : cells + uc ≤ 600130) (hs : slots + us ≤ 7301080) : W p l e room_1 s mm args below meth c H locs cells slots Q (F0 mm 823 ls []) := by
  have hx := V.1
  have hb := V.2.1
  refine lv_iload hx hb dL_law_823 (lv_at hl.1 11 rfl) ?_
  refine lv_if_eq (tgt := 866) hx hb dL_law_825 (by decide) (fun hq => ?_) (fun hq => ?_)
  · have hf := kpos hq hf
    exact w_L_law_866 V hA LX SX hQ trivial hH (jl_sub hl [] rfl) hf hc hs
  · have hf := kneg hq hf
    exact w_L_law_828 V hA LX SX hQ hk22 hk374 trivial hH (jl_sub hl [0, 1, 2, 3, 4, 5, 6, 7, 8, 9, 10, 11, 12] rfl) hf hc hs
set_option maxHeartbeats 4000000 in
set_option maxRecDepth 100000 in
theorem w_L_law_818 (V : jV p s mm args meth c cL_law RL 24 (some .boolean) D g) (hA : ∀ q, s.heap.size ≤ q → A q) (LX : jLX l A s) (SX : jSX A s b L xs) (hQ : ∀ {H : Heap} {locs : List Loc} {ls : Array Slot} {cells slots : Nat}, va_S A s.heap H locs → cells ≤ 600130 → slots ≤ 7301080 → W p l e room_1 s mm args below meth c H locs cells slots Q (F0 mm 1222 ls [.int 1])) {c22 : Int32 → kS → kS → Option (Unit × Nat × Nat)} (hk22 : ∀ {ad : Nat → Nat} {v3 : Int32} {k : kS} {z : kS} {H : Heap} {locs : List Loc} {ls : Array Slot} {cells slots uc us : Nat} {o : Unit}, True → jH A s H locs D g ad z (jY adk g k mo) [] → jl_has ls 24 [(0, .ref b), (1, .ref (adk 0)), (2, .ref (ad 0)), (3, .int v3)] → c22 v3 k z = some (o, uc, us) → cells + uc ≤ 600130 → slots + us ≤ 7301080 → W p l e room_1 s mm args below meth c H locs cells slots Q (F0 mm 22 ls [])) {c374 : Int32 → Int32 → Int32 → Int32 → Int32 → Int32 → Int32 → Int32 → kS → kS → Option (Unit × Nat × Nat)} (hk374 : ∀ {ad : Nat → Nat} {v3 : Int32} {v4 : Int32} {v11 : Int32} {v12 : Int32} {v13 : Int32} {v14 : Int32} {v15 : Int32} {v16 : Int32} {k : kS} {z : kS} {H : Heap} {locs : List Loc} {ls : Array Slot} {cells slots uc us : Nat} {o : Unit}, True → jH A s H locs D g ad z (jY adk g k mo) [] → jl_has ls 24 [(0, .ref b), (1, .ref (adk 0)), (2, .ref (ad 0)), (3, .int v3), (4, .int v4), (11, .int v11), (12, .int v12), (13, .int v13), (14, .int v14), (15, .int v15), (16, .int v16)] → c374 v3 v4 v11 v12 v13 v14 v15 v16 k z = some (o, uc, us) → cells + uc ≤ 600130 → slots + us ≤ 7301080 → W p l e room_1 s mm args below meth c H locs cells slots Q (F0 mm 374 ls [])) {ad : Nat → Nat} {v3 : Int32} {v4 : Int32} {v11 : Int32} {v12 : Int32} {v13 : Int32} {v14 : Int32} {v15 : Int32} {v16 : Int32} {v17 : Int32} {v18 : Int32} {v23 : Int32} {k : kS} {z : kS} {H : Heap} {locs : List Loc} {ls : Array Slot} {cells slots uc us : Nat} {o : Unit} (hG : True) (hH : jH A s H locs D g ad z (jY adk g k mo) []) (hl : jl_has ls 24 [(0, .ref b), (1, .ref (adk 0)), (2, .ref (ad 0)), (3, .int v3), (4, .int v4), (11, .int v11), (12, .int v12), (13, .int v13), (14, .int v14), (15, .int v15), (16, .int v16), (17, .int v17), (18, .int v18), (23, .int v23)]) (hf : F_L_law_818 xs L c22 c374 v3 v4 v11 v12 v13 v14 v15 v16 v17 v18 v23 k z = some (o, uc, us)) (hc : cells + uc ≤ 600130) (hs : slots + us ≤ 7301080) : W p l e room_1 s mm args below meth c H locs cells slots Q (F0 mm 818 ls []) := by
  have hx := V.1
  have hb := V.2.1
  refine lv_iload hx hb dL_law_818 (lv_at hl.1 12 rfl) ?_
  refine lv_if_ge (tgt := 866) hx hb dL_law_820 (by decide) (fun hq => ?_) (fun hq => ?_)
  · have hf := kpos hq hf
    exact w_L_law_866 V hA LX SX hQ trivial hH (jl_sub hl [] rfl) hf hc hs
  · have hf := kneg hq hf
    exact w_L_law_823 V hA LX SX hQ hk22 hk374 trivial hH (jl_sub hl [0, 1, 2, 3, 4, 5, 6, 7, 8, 9, 10, 11, 13] rfl) hf hc hs
set_option maxHeartbeats 4000000 in
set_option maxRecDepth 100000 in
theorem w_L_law_805 (V : jV p s mm args meth c cL_law RL 24 (some .boolean) D g) (hA : ∀ q, s.heap.size ≤ q → A q) (LX : jLX l A s) (SX : jSX A s b L xs) (hQ : ∀ {H : Heap} {locs : List Loc} {ls : Array Slot} {cells slots : Nat}, va_S A s.heap H locs → cells ≤ 600130 → slots ≤ 7301080 → W p l e room_1 s mm args below meth c H locs cells slots Q (F0 mm 1222 ls [.int 1])) {c22 : Int32 → kS → kS → Option (Unit × Nat × Nat)} (hk22 : ∀ {ad : Nat → Nat} {v3 : Int32} {k : kS} {z : kS} {H : Heap} {locs : List Loc} {ls : Array Slot} {cells slots uc us : Nat} {o : Unit}, True → jH A s H locs D g ad z (jY adk g k mo) [] → jl_has ls 24 [(0, .ref b), (1, .ref (adk 0)), (2, .ref (ad 0)), (3, .int v3)] → c22 v3 k z = some (o, uc, us) → cells + uc ≤ 600130 → slots + us ≤ 7301080 → W p l e room_1 s mm args below meth c H locs cells slots Q (F0 mm 22 ls [])) {c374 : Int32 → Int32 → Int32 → Int32 → Int32 → Int32 → Int32 → Int32 → kS → kS → Option (Unit × Nat × Nat)} (hk374 : ∀ {ad : Nat → Nat} {v3 : Int32} {v4 : Int32} {v11 : Int32} {v12 : Int32} {v13 : Int32} {v14 : Int32} {v15 : Int32} {v16 : Int32} {k : kS} {z : kS} {H : Heap} {locs : List Loc} {ls : Array Slot} {cells slots uc us : Nat} {o : Unit}, True → jH A s H locs D g ad z (jY adk g k mo) [] → jl_has ls 24 [(0, .ref b), (1, .ref (adk 0)), (2, .ref (ad 0)), (3, .int v3), (4, .int v4), (11, .int v11), (12, .int v12), (13, .int v13), (14, .int v14), (15, .int v15), (16, .int v16)] → c374 v3 v4 v11 v12 v13 v14 v15 v16 k z = some (o, uc, us) → cells + uc ≤ 600130 → slots + us ≤ 7301080 → W p l e room_1 s mm args below meth c H locs cells slots Q (F0 mm 374 ls [])) {ad : Nat → Nat} {v3 : Int32} {v4 : Int32} {v11 : Int32} {v12 : Int32} {v13 : Int32} {v14 : Int32} {v15 : Int32} {v16 : Int32} {v17 : Int32} {v18 : Int32} {k : kS} {z : kS} {H : Heap} {locs : List Loc} {ls : Array Slot} {cells slots uc us : Nat} {o : Unit} (hG : True) (hH : jH A s H locs D g ad z (jY adk g k mo) []) (hl : jl_has ls 24 [(0, .ref b), (1, .ref (adk 0)), (2, .ref (ad 0)), (3, .int v3), (4, .int v4), (11, .int v11), (12, .int v12), (13, .int v13), (14, .int v14), (15, .int v15), (16, .int v16), (17, .int v17), (18, .int v18)]) (hf : F_L_law_805 xs L c22 c374 v3 v4 v11 v12 v13 v14 v15 v16 v17 v18 k z = some (o, uc, us)) (hc : cells + uc ≤ 600130) (hs : slots + us ≤ 7301080) : W p l e room_1 s mm args below meth c H locs cells slots Q (F0 mm 805 ls []) := by
  have hx := V.1
  have hb := V.2.1
  refine lv_aload_n hx hb dL_law_805 rfl (lv_at hl.1 1 rfl) ?_
  refine lv_iload hx hb dL_law_806 (lv_at hl.1 10 rfl) ?_
  obtain ⟨x805_1, hx805_1, hf⟩ := kbind hf
  obtain ⟨h805_2, hf⟩ := kif hf
  obtain ⟨uc805_3, us805_4, hf, e1, e2⟩ := kadd_some2 hf
  have e1 : uc = 4 + uc805_3 := e1
  have e2 : us = 24 + us805_4 := e2
  have hc : cells + 4 + uc805_3 ≤ 600130 := by rw [Nat.add_assoc, ← e1]; exact hc
  have hs : slots + 24 + us805_4 ≤ 7301080 := by rw [Nat.add_assoc, ← e2]; exact hs
  have lc : cells + 4 ≤ 600130 := Nat.le_trans (Nat.le_add_right _ _) hc
  have ls2 : slots + 24 ≤ 7301080 := Nat.le_trans (Nat.le_add_right _ _) hs
  refine jc_callx V hA LX hH kYX5_best kl_L_138 (c_X5_best l LX.1 _ hx805_1 _) (Decidable.not_not.mp h805_2) rfl rfl ⟨Nat.le_of_ble_eq_true rfl, Nat.le_of_ble_eq_true rfl⟩ rfl hl.1.1 (as := [.int v16]) (rest := []) (Nat.le_of_ble_eq_true rfl) dL_law_808 ⟨lc, ls2⟩ rfl (fun H locs hH => ?_)
  refine jl_istore (lv' := [(23, .int x805_1.2), (0, .ref b), (1, .ref (adk 0)), (2, .ref (ad 0)), (3, .int v3), (4, .int v4), (11, .int v11), (12, .int v12), (13, .int v13), (14, .int v14), (15, .int v15), (16, .int v16), (17, .int v17), (18, .int v18)]) hx hb dL_law_811 hl (by decide) rfl (fun ls hl => ?_)
  refine lv_iload hx hb dL_law_813 (lv_at hl.1 0 rfl) ?_
  refine lv_if_lt (tgt := 868) hx hb dL_law_815 (by decide) (fun hq => ?_) (fun hq => ?_)
  · have hf := kpos hq hf
    exact w_L_law_868 V hA LX SX hQ hk22 hk374 trivial hH (jl_sub hl [1, 2, 3, 4, 5, 6, 7, 8, 9, 10, 11, 12] rfl) hf hc hs
  · have hf := kneg hq hf
    exact w_L_law_818 V hA LX SX hQ hk22 hk374 trivial hH (jl_sub hl [1, 2, 3, 4, 5, 6, 7, 8, 9, 10, 11, 12, 13, 0] rfl) hf hc hs
set_option maxHeartbeats 4000000 in
set_option maxRecDepth 100000 in
theorem w_L_law_788 (V : jV p s mm args meth c cL_law RL 24 (some .boolean) D g) (hA : ∀ q, s.heap.size ≤ q → A q) (LX : jLX l A s) (SX : jSX A s b L xs) (hQ : ∀ {H : Heap} {locs : List Loc} {ls : Array Slot} {cells slots : Nat}, va_S A s.heap H locs → cells ≤ 600130 → slots ≤ 7301080 → W p l e room_1 s mm args below meth c H locs cells slots Q (F0 mm 1222 ls [.int 1])) {c22 : Int32 → kS → kS → Option (Unit × Nat × Nat)} (hk22 : ∀ {ad : Nat → Nat} {v3 : Int32} {k : kS} {z : kS} {H : Heap} {locs : List Loc} {ls : Array Slot} {cells slots uc us : Nat} {o : Unit}, True → jH A s H locs D g ad z (jY adk g k mo) [] → jl_has ls 24 [(0, .ref b), (1, .ref (adk 0)), (2, .ref (ad 0)), (3, .int v3)] → c22 v3 k z = some (o, uc, us) → cells + uc ≤ 600130 → slots + us ≤ 7301080 → W p l e room_1 s mm args below meth c H locs cells slots Q (F0 mm 22 ls [])) {c374 : Int32 → Int32 → Int32 → Int32 → Int32 → Int32 → Int32 → Int32 → kS → kS → Option (Unit × Nat × Nat)} (hk374 : ∀ {ad : Nat → Nat} {v3 : Int32} {v4 : Int32} {v11 : Int32} {v12 : Int32} {v13 : Int32} {v14 : Int32} {v15 : Int32} {v16 : Int32} {k : kS} {z : kS} {H : Heap} {locs : List Loc} {ls : Array Slot} {cells slots uc us : Nat} {o : Unit}, True → jH A s H locs D g ad z (jY adk g k mo) [] → jl_has ls 24 [(0, .ref b), (1, .ref (adk 0)), (2, .ref (ad 0)), (3, .int v3), (4, .int v4), (11, .int v11), (12, .int v12), (13, .int v13), (14, .int v14), (15, .int v15), (16, .int v16)] → c374 v3 v4 v11 v12 v13 v14 v15 v16 k z = some (o, uc, us) → cells + uc ≤ 600130 → slots + us ≤ 7301080 → W p l e room_1 s mm args below meth c H locs cells slots Q (F0 mm 374 ls [])) {ad : Nat → Nat} {v3 : Int32} {v4 : Int32} {v11 : Int32} {v12 : Int32} {v13 : Int32} {v14 : Int32} {v15 : Int32} {v16 : Int32} {v17 : Int32} {v18 : Int32} {v19 : Int32} {v21 : Int32} {v22 : Int32} {k : kS} {z : kS} {H : Heap} {locs : List Loc} {ls : Array Slot} {cells slots uc us : Nat} {o : Unit} (hG : True) (hH : jH A s H locs D g ad z (jY adk g k mo) []) (hl : jl_has ls 24 [(0, .ref b), (1, .ref (adk 0)), (2, .ref (ad 0)), (3, .int v3), (4, .int v4), (11, .int v11), (12, .int v12), (13, .int v13), (14, .int v14), (15, .int v15), (16, .int v16), (17, .int v17), (18, .int v18), (19, .int v19), (21, .int v21), (22, .int v22)]) (hf : F_L_law_788 xs L c22 c374 v3 v4 v11 v12 v13 v14 v15 v16 v17 v18 v19 v21 v22 k z = some (o, uc, us)) (hc : cells + uc ≤ 600130) (hs : slots + us ≤ 7301080) : W p l e room_1 s mm args below meth c H locs cells slots Q (F0 mm 788 ls []) := by
  have hx := V.1
  have hb := V.2.1
  refine lv_iload hx hb dL_law_788 (lv_at hl.1 15 rfl) ?_
  refine lv_aload_n hx hb dL_law_790 rfl (lv_at hl.1 1 rfl) ?_
  refine lv_iload hx hb dL_law_791 (lv_at hl.1 13 rfl) ?_
  refine lv_iload hx hb dL_law_793 (lv_at hl.1 14 rfl) ?_
  obtain ⟨x788_1, hx788_1, hf⟩ := kbind hf
  obtain ⟨h788_2, hf⟩ := kif hf
  obtain ⟨uc788_3, us788_4, hf, e1, e2⟩ := kadd_some2 hf
  have e1 : uc = 4 + uc788_3 := e1
  have e2 : us = 24 + us788_4 := e2
  have hc : cells + 4 + uc788_3 ≤ 600130 := by rw [Nat.add_assoc, ← e1]; exact hc
  have hs : slots + 24 + us788_4 ≤ 7301080 := by rw [Nat.add_assoc, ← e2]; exact hs
  have lc : cells + 4 ≤ 600130 := Nat.le_trans (Nat.le_add_right _ _) hc
  have ls2 : slots + 24 ≤ 7301080 := Nat.le_trans (Nat.le_add_right _ _) hs
  refine jc_callx V hA LX hH kYX5_related kl_L_135 (c_X5_related l LX.1 _ _ hx788_1 _) (Decidable.not_not.mp h788_2) rfl rfl ⟨Nat.le_of_ble_eq_true rfl, Nat.le_of_ble_eq_true rfl⟩ rfl hl.1.1 (as := [.int v19, .int v21]) (rest := [.int v22]) (Nat.le_of_ble_eq_true rfl) dL_law_795 ⟨lc, ls2⟩ rfl (fun H locs hH => ?_)
  refine lv_iconst (v := 1) hx hb dL_law_798 (by decide) ?_
  refine lv_iadd hx hb dL_law_799 ?_
  refine lv_icmp_le (tgt := 805) hx hb dL_law_800 (by decide) (fun hq => ?_) (fun hq => ?_)
  · have hf := kpos hq hf
    exact w_L_law_805 V hA LX SX hQ hk22 hk374 trivial hH (jl_sub hl [0, 1, 2, 3, 4, 5, 6, 7, 8, 9, 10, 11, 12] rfl) hf hc hs
  · have hf := kneg hq hf
    exact w_L_law_803 V hA LX SX hQ trivial hH (jl_sub hl [] rfl) hf hc hs
set_option maxHeartbeats 4000000 in
set_option maxRecDepth 100000 in
theorem w_L_law_783 (V : jV p s mm args meth c cL_law RL 24 (some .boolean) D g) (hA : ∀ q, s.heap.size ≤ q → A q) (LX : jLX l A s) (SX : jSX A s b L xs) (hQ : ∀ {H : Heap} {locs : List Loc} {ls : Array Slot} {cells slots : Nat}, va_S A s.heap H locs → cells ≤ 600130 → slots ≤ 7301080 → W p l e room_1 s mm args below meth c H locs cells slots Q (F0 mm 1222 ls [.int 1])) {c22 : Int32 → kS → kS → Option (Unit × Nat × Nat)} (hk22 : ∀ {ad : Nat → Nat} {v3 : Int32} {k : kS} {z : kS} {H : Heap} {locs : List Loc} {ls : Array Slot} {cells slots uc us : Nat} {o : Unit}, True → jH A s H locs D g ad z (jY adk g k mo) [] → jl_has ls 24 [(0, .ref b), (1, .ref (adk 0)), (2, .ref (ad 0)), (3, .int v3)] → c22 v3 k z = some (o, uc, us) → cells + uc ≤ 600130 → slots + us ≤ 7301080 → W p l e room_1 s mm args below meth c H locs cells slots Q (F0 mm 22 ls [])) {c374 : Int32 → Int32 → Int32 → Int32 → Int32 → Int32 → Int32 → Int32 → kS → kS → Option (Unit × Nat × Nat)} (hk374 : ∀ {ad : Nat → Nat} {v3 : Int32} {v4 : Int32} {v11 : Int32} {v12 : Int32} {v13 : Int32} {v14 : Int32} {v15 : Int32} {v16 : Int32} {k : kS} {z : kS} {H : Heap} {locs : List Loc} {ls : Array Slot} {cells slots uc us : Nat} {o : Unit}, True → jH A s H locs D g ad z (jY adk g k mo) [] → jl_has ls 24 [(0, .ref b), (1, .ref (adk 0)), (2, .ref (ad 0)), (3, .int v3), (4, .int v4), (11, .int v11), (12, .int v12), (13, .int v13), (14, .int v14), (15, .int v15), (16, .int v16)] → c374 v3 v4 v11 v12 v13 v14 v15 v16 k z = some (o, uc, us) → cells + uc ≤ 600130 → slots + us ≤ 7301080 → W p l e room_1 s mm args below meth c H locs cells slots Q (F0 mm 374 ls [])) {ad : Nat → Nat} {v3 : Int32} {v4 : Int32} {v11 : Int32} {v12 : Int32} {v13 : Int32} {v14 : Int32} {v15 : Int32} {v16 : Int32} {v17 : Int32} {v18 : Int32} {v19 : Int32} {v21 : Int32} {v22 : Int32} {k : kS} {z : kS} {H : Heap} {locs : List Loc} {ls : Array Slot} {cells slots uc us : Nat} {o : Unit} (hG : True) (hH : jH A s H locs D g ad z (jY adk g k mo) []) (hl : jl_has ls 24 [(0, .ref b), (1, .ref (adk 0)), (2, .ref (ad 0)), (3, .int v3), (4, .int v4), (11, .int v11), (12, .int v12), (13, .int v13), (14, .int v14), (15, .int v15), (16, .int v16), (17, .int v17), (18, .int v18), (19, .int v19), (21, .int v21), (22, .int v22)]) (hf : F_L_law_783 xs L c22 c374 v3 v4 v11 v12 v13 v14 v15 v16 v17 v18 v19 v21 v22 k z = some (o, uc, us)) (hc : cells + uc ≤ 600130) (hs : slots + us ≤ 7301080) : W p l e room_1 s mm args below meth c H locs cells slots Q (F0 mm 783 ls []) := by
  have hx := V.1
  have hb := V.2.1
  refine lv_iload hx hb dL_law_783 (lv_at hl.1 15 rfl) ?_
  refine lv_if_lt (tgt := 803) hx hb dL_law_785 (by decide) (fun hq => ?_) (fun hq => ?_)
  · have hf := kpos hq hf
    exact w_L_law_803 V hA LX SX hQ trivial hH (jl_sub hl [] rfl) hf hc hs
  · have hf := kneg hq hf
    exact w_L_law_788 V hA LX SX hQ hk22 hk374 trivial hH (jl_sub hl [0, 1, 2, 3, 4, 5, 6, 7, 8, 9, 10, 11, 12, 13, 14, 15] rfl) hf hc hs
set_option maxHeartbeats 4000000 in
set_option maxRecDepth 100000 in
theorem w_L_law_776 (V : jV p s mm args meth c cL_law RL 24 (some .boolean) D g) (hA : ∀ q, s.heap.size ≤ q → A q) (LX : jLX l A s) (SX : jSX A s b L xs) (hQ : ∀ {H : Heap} {locs : List Loc} {ls : Array Slot} {cells slots : Nat}, va_S A s.heap H locs → cells ≤ 600130 → slots ≤ 7301080 → W p l e room_1 s mm args below meth c H locs cells slots Q (F0 mm 1222 ls [.int 1])) {c22 : Int32 → kS → kS → Option (Unit × Nat × Nat)} (hk22 : ∀ {ad : Nat → Nat} {v3 : Int32} {k : kS} {z : kS} {H : Heap} {locs : List Loc} {ls : Array Slot} {cells slots uc us : Nat} {o : Unit}, True → jH A s H locs D g ad z (jY adk g k mo) [] → jl_has ls 24 [(0, .ref b), (1, .ref (adk 0)), (2, .ref (ad 0)), (3, .int v3)] → c22 v3 k z = some (o, uc, us) → cells + uc ≤ 600130 → slots + us ≤ 7301080 → W p l e room_1 s mm args below meth c H locs cells slots Q (F0 mm 22 ls [])) {c374 : Int32 → Int32 → Int32 → Int32 → Int32 → Int32 → Int32 → Int32 → kS → kS → Option (Unit × Nat × Nat)} (hk374 : ∀ {ad : Nat → Nat} {v3 : Int32} {v4 : Int32} {v11 : Int32} {v12 : Int32} {v13 : Int32} {v14 : Int32} {v15 : Int32} {v16 : Int32} {k : kS} {z : kS} {H : Heap} {locs : List Loc} {ls : Array Slot} {cells slots uc us : Nat} {o : Unit}, True → jH A s H locs D g ad z (jY adk g k mo) [] → jl_has ls 24 [(0, .ref b), (1, .ref (adk 0)), (2, .ref (ad 0)), (3, .int v3), (4, .int v4), (11, .int v11), (12, .int v12), (13, .int v13), (14, .int v14), (15, .int v15), (16, .int v16)] → c374 v3 v4 v11 v12 v13 v14 v15 v16 k z = some (o, uc, us) → cells + uc ≤ 600130 → slots + us ≤ 7301080 → W p l e room_1 s mm args below meth c H locs cells slots Q (F0 mm 374 ls [])) {ad : Nat → Nat} {v3 : Int32} {v4 : Int32} {v11 : Int32} {v12 : Int32} {v13 : Int32} {v14 : Int32} {v15 : Int32} {v16 : Int32} {v17 : Int32} {v18 : Int32} {v19 : Int32} {v21 : Int32} {v22 : Int32} {k : kS} {z : kS} {H : Heap} {locs : List Loc} {ls : Array Slot} {cells slots uc us : Nat} {o : Unit} (hG : True) (hH : jH A s H locs D g ad z (jY adk g k mo) []) (hl : jl_has ls 24 [(0, .ref b), (1, .ref (adk 0)), (2, .ref (ad 0)), (3, .int v3), (4, .int v4), (11, .int v11), (12, .int v12), (13, .int v13), (14, .int v14), (15, .int v15), (16, .int v16), (17, .int v17), (18, .int v18), (19, .int v19), (21, .int v21), (22, .int v22)]) (hf : F_L_law_776 xs L c22 c374 v3 v4 v11 v12 v13 v14 v15 v16 v17 v18 v19 v21 v22 k z = some (o, uc, us)) (hc : cells + uc ≤ 600130) (hs : slots + us ≤ 7301080) : W p l e room_1 s mm args below meth c H locs cells slots Q (F0 mm 776 ls []) := by
  have hx := V.1
  have hb := V.2.1
  refine lv_iload hx hb dL_law_776 (lv_at hl.1 14 rfl) ?_
  refine lv_iload hx hb dL_law_778 (lv_at hl.1 10 rfl) ?_
  refine lv_icmp_eq (tgt := 805) hx hb dL_law_780 (by decide) (fun hq => ?_) (fun hq => ?_)
  · have hf := kpos hq hf
    exact w_L_law_805 V hA LX SX hQ hk22 hk374 trivial hH (jl_sub hl [0, 1, 2, 3, 4, 5, 6, 7, 8, 9, 10, 11, 12] rfl) hf hc hs
  · have hf := kneg hq hf
    exact w_L_law_783 V hA LX SX hQ hk22 hk374 trivial hH (jl_sub hl [0, 1, 2, 3, 4, 5, 6, 7, 8, 9, 10, 11, 12, 13, 14, 15] rfl) hf hc hs
set_option maxHeartbeats 4000000 in
set_option maxRecDepth 100000 in
theorem w_L_law_765 (V : jV p s mm args meth c cL_law RL 24 (some .boolean) D g) (hA : ∀ q, s.heap.size ≤ q → A q) (LX : jLX l A s) (SX : jSX A s b L xs) (hQ : ∀ {H : Heap} {locs : List Loc} {ls : Array Slot} {cells slots : Nat}, va_S A s.heap H locs → cells ≤ 600130 → slots ≤ 7301080 → W p l e room_1 s mm args below meth c H locs cells slots Q (F0 mm 1222 ls [.int 1])) {c22 : Int32 → kS → kS → Option (Unit × Nat × Nat)} (hk22 : ∀ {ad : Nat → Nat} {v3 : Int32} {k : kS} {z : kS} {H : Heap} {locs : List Loc} {ls : Array Slot} {cells slots uc us : Nat} {o : Unit}, True → jH A s H locs D g ad z (jY adk g k mo) [] → jl_has ls 24 [(0, .ref b), (1, .ref (adk 0)), (2, .ref (ad 0)), (3, .int v3)] → c22 v3 k z = some (o, uc, us) → cells + uc ≤ 600130 → slots + us ≤ 7301080 → W p l e room_1 s mm args below meth c H locs cells slots Q (F0 mm 22 ls [])) {c374 : Int32 → Int32 → Int32 → Int32 → Int32 → Int32 → Int32 → Int32 → kS → kS → Option (Unit × Nat × Nat)} (hk374 : ∀ {ad : Nat → Nat} {v3 : Int32} {v4 : Int32} {v11 : Int32} {v12 : Int32} {v13 : Int32} {v14 : Int32} {v15 : Int32} {v16 : Int32} {k : kS} {z : kS} {H : Heap} {locs : List Loc} {ls : Array Slot} {cells slots uc us : Nat} {o : Unit}, True → jH A s H locs D g ad z (jY adk g k mo) [] → jl_has ls 24 [(0, .ref b), (1, .ref (adk 0)), (2, .ref (ad 0)), (3, .int v3), (4, .int v4), (11, .int v11), (12, .int v12), (13, .int v13), (14, .int v14), (15, .int v15), (16, .int v16)] → c374 v3 v4 v11 v12 v13 v14 v15 v16 k z = some (o, uc, us) → cells + uc ≤ 600130 → slots + us ≤ 7301080 → W p l e room_1 s mm args below meth c H locs cells slots Q (F0 mm 374 ls [])) {ad : Nat → Nat} {v3 : Int32} {v4 : Int32} {v11 : Int32} {v12 : Int32} {v13 : Int32} {v14 : Int32} {v15 : Int32} {v16 : Int32} {v17 : Int32} {v18 : Int32} {v19 : Int32} {v21 : Int32} {v22 : Int32} {k : kS} {z : kS} {H : Heap} {locs : List Loc} {ls : Array Slot} {cells slots uc us : Nat} {o : Unit} (hG : True) (hH : jH A s H locs D g ad z (jY adk g k mo) []) (hl : jl_has ls 24 [(0, .ref b), (1, .ref (adk 0)), (2, .ref (ad 0)), (3, .int v3), (4, .int v4), (11, .int v11), (12, .int v12), (13, .int v13), (14, .int v14), (15, .int v15), (16, .int v16), (17, .int v17), (18, .int v18), (19, .int v19), (21, .int v21), (22, .int v22)]) (hf : F_L_law_765 xs L c22 c374 v3 v4 v11 v12 v13 v14 v15 v16 v17 v18 v19 v21 v22 k z = some (o, uc, us)) (hc : cells + uc ≤ 600130) (hs : slots + us ≤ 7301080) : W p l e room_1 s mm args below meth c H locs cells slots Q (F0 mm 765 ls []) := by
  have hx := V.1
  have hb := V.2.1
  refine lv_aload_n hx hb dL_law_765 rfl (lv_at hl.1 1 rfl) ?_
  refine lv_iload hx hb dL_law_766 (lv_at hl.1 13 rfl) ?_
  refine lv_iload hx hb dL_law_768 (lv_at hl.1 14 rfl) ?_
  obtain ⟨x765_1, hx765_1, hf⟩ := kbind hf
  obtain ⟨h765_2, hf⟩ := kif hf
  obtain ⟨uc765_3, us765_4, hf, e1, e2⟩ := kadd_some2 hf
  have e1 : uc = 4 + uc765_3 := e1
  have e2 : us = 24 + us765_4 := e2
  have hc : cells + 4 + uc765_3 ≤ 600130 := by rw [Nat.add_assoc, ← e1]; exact hc
  have hs : slots + 24 + us765_4 ≤ 7301080 := by rw [Nat.add_assoc, ← e2]; exact hs
  have lc : cells + 4 ≤ 600130 := Nat.le_trans (Nat.le_add_right _ _) hc
  have ls2 : slots + 24 ≤ 7301080 := Nat.le_trans (Nat.le_add_right _ _) hs
  refine jc_callx V hA LX hH kYX5_related kl_L_135 (c_X5_related l LX.1 _ _ hx765_1 _) (Decidable.not_not.mp h765_2) rfl rfl ⟨Nat.le_of_ble_eq_true rfl, Nat.le_of_ble_eq_true rfl⟩ rfl hl.1.1 (as := [.int v19, .int v21]) (rest := []) (Nat.le_of_ble_eq_true rfl) dL_law_770 ⟨lc, ls2⟩ rfl (fun H locs hH => ?_)
  refine lv_if_lt (tgt := 805) hx hb dL_law_773 (by decide) (fun hq => ?_) (fun hq => ?_)
  · have hf := kpos hq hf
    exact w_L_law_805 V hA LX SX hQ hk22 hk374 trivial hH (jl_sub hl [0, 1, 2, 3, 4, 5, 6, 7, 8, 9, 10, 11, 12] rfl) hf hc hs
  · have hf := kneg hq hf
    exact w_L_law_776 V hA LX SX hQ hk22 hk374 trivial hH (jl_sub hl [0, 1, 2, 3, 4, 5, 6, 7, 8, 9, 10, 11, 12, 13, 14, 15] rfl) hf hc hs
set_option maxHeartbeats 4000000 in
set_option maxRecDepth 100000 in
theorem w_L_law_760 (V : jV p s mm args meth c cL_law RL 24 (some .boolean) D g) (hA : ∀ q, s.heap.size ≤ q → A q) (LX : jLX l A s) (SX : jSX A s b L xs) (hQ : ∀ {H : Heap} {locs : List Loc} {ls : Array Slot} {cells slots : Nat}, va_S A s.heap H locs → cells ≤ 600130 → slots ≤ 7301080 → W p l e room_1 s mm args below meth c H locs cells slots Q (F0 mm 1222 ls [.int 1])) {c22 : Int32 → kS → kS → Option (Unit × Nat × Nat)} (hk22 : ∀ {ad : Nat → Nat} {v3 : Int32} {k : kS} {z : kS} {H : Heap} {locs : List Loc} {ls : Array Slot} {cells slots uc us : Nat} {o : Unit}, True → jH A s H locs D g ad z (jY adk g k mo) [] → jl_has ls 24 [(0, .ref b), (1, .ref (adk 0)), (2, .ref (ad 0)), (3, .int v3)] → c22 v3 k z = some (o, uc, us) → cells + uc ≤ 600130 → slots + us ≤ 7301080 → W p l e room_1 s mm args below meth c H locs cells slots Q (F0 mm 22 ls [])) {c374 : Int32 → Int32 → Int32 → Int32 → Int32 → Int32 → Int32 → Int32 → kS → kS → Option (Unit × Nat × Nat)} (hk374 : ∀ {ad : Nat → Nat} {v3 : Int32} {v4 : Int32} {v11 : Int32} {v12 : Int32} {v13 : Int32} {v14 : Int32} {v15 : Int32} {v16 : Int32} {k : kS} {z : kS} {H : Heap} {locs : List Loc} {ls : Array Slot} {cells slots uc us : Nat} {o : Unit}, True → jH A s H locs D g ad z (jY adk g k mo) [] → jl_has ls 24 [(0, .ref b), (1, .ref (adk 0)), (2, .ref (ad 0)), (3, .int v3), (4, .int v4), (11, .int v11), (12, .int v12), (13, .int v13), (14, .int v14), (15, .int v15), (16, .int v16)] → c374 v3 v4 v11 v12 v13 v14 v15 v16 k z = some (o, uc, us) → cells + uc ≤ 600130 → slots + us ≤ 7301080 → W p l e room_1 s mm args below meth c H locs cells slots Q (F0 mm 374 ls [])) {ad : Nat → Nat} {v3 : Int32} {v4 : Int32} {v11 : Int32} {v12 : Int32} {v13 : Int32} {v14 : Int32} {v15 : Int32} {v16 : Int32} {v17 : Int32} {v18 : Int32} {v19 : Int32} {v21 : Int32} {v22 : Int32} {k : kS} {z : kS} {H : Heap} {locs : List Loc} {ls : Array Slot} {cells slots uc us : Nat} {o : Unit} (hG : True) (hH : jH A s H locs D g ad z (jY adk g k mo) []) (hl : jl_has ls 24 [(0, .ref b), (1, .ref (adk 0)), (2, .ref (ad 0)), (3, .int v3), (4, .int v4), (11, .int v11), (12, .int v12), (13, .int v13), (14, .int v14), (15, .int v15), (16, .int v16), (17, .int v17), (18, .int v18), (19, .int v19), (21, .int v21), (22, .int v22)]) (hf : F_L_law_760 xs L c22 c374 v3 v4 v11 v12 v13 v14 v15 v16 v17 v18 v19 v21 v22 k z = some (o, uc, us)) (hc : cells + uc ≤ 600130) (hs : slots + us ≤ 7301080) : W p l e room_1 s mm args below meth c H locs cells slots Q (F0 mm 760 ls []) := by
  have hx := V.1
  have hb := V.2.1
  refine lv_iload hx hb dL_law_760 (lv_at hl.1 13 rfl) ?_
  refine lv_if_lt (tgt := 805) hx hb dL_law_762 (by decide) (fun hq => ?_) (fun hq => ?_)
  · have hf := kpos hq hf
    exact w_L_law_805 V hA LX SX hQ hk22 hk374 trivial hH (jl_sub hl [0, 1, 2, 3, 4, 5, 6, 7, 8, 9, 10, 11, 12] rfl) hf hc hs
  · have hf := kneg hq hf
    exact w_L_law_765 V hA LX SX hQ hk22 hk374 trivial hH (jl_sub hl [0, 1, 2, 3, 4, 5, 6, 7, 8, 9, 10, 11, 12, 13, 14, 15] rfl) hf hc hs
set_option maxHeartbeats 4000000 in
set_option maxRecDepth 100000 in
theorem w_L_law_755 (V : jV p s mm args meth c cL_law RL 24 (some .boolean) D g) (hA : ∀ q, s.heap.size ≤ q → A q) (LX : jLX l A s) (SX : jSX A s b L xs) (hQ : ∀ {H : Heap} {locs : List Loc} {ls : Array Slot} {cells slots : Nat}, va_S A s.heap H locs → cells ≤ 600130 → slots ≤ 7301080 → W p l e room_1 s mm args below meth c H locs cells slots Q (F0 mm 1222 ls [.int 1])) {c22 : Int32 → kS → kS → Option (Unit × Nat × Nat)} (hk22 : ∀ {ad : Nat → Nat} {v3 : Int32} {k : kS} {z : kS} {H : Heap} {locs : List Loc} {ls : Array Slot} {cells slots uc us : Nat} {o : Unit}, True → jH A s H locs D g ad z (jY adk g k mo) [] → jl_has ls 24 [(0, .ref b), (1, .ref (adk 0)), (2, .ref (ad 0)), (3, .int v3)] → c22 v3 k z = some (o, uc, us) → cells + uc ≤ 600130 → slots + us ≤ 7301080 → W p l e room_1 s mm args below meth c H locs cells slots Q (F0 mm 22 ls [])) {c374 : Int32 → Int32 → Int32 → Int32 → Int32 → Int32 → Int32 → Int32 → kS → kS → Option (Unit × Nat × Nat)} (hk374 : ∀ {ad : Nat → Nat} {v3 : Int32} {v4 : Int32} {v11 : Int32} {v12 : Int32} {v13 : Int32} {v14 : Int32} {v15 : Int32} {v16 : Int32} {k : kS} {z : kS} {H : Heap} {locs : List Loc} {ls : Array Slot} {cells slots uc us : Nat} {o : Unit}, True → jH A s H locs D g ad z (jY adk g k mo) [] → jl_has ls 24 [(0, .ref b), (1, .ref (adk 0)), (2, .ref (ad 0)), (3, .int v3), (4, .int v4), (11, .int v11), (12, .int v12), (13, .int v13), (14, .int v14), (15, .int v15), (16, .int v16)] → c374 v3 v4 v11 v12 v13 v14 v15 v16 k z = some (o, uc, us) → cells + uc ≤ 600130 → slots + us ≤ 7301080 → W p l e room_1 s mm args below meth c H locs cells slots Q (F0 mm 374 ls [])) {ad : Nat → Nat} {s0 : Int32} {s1 : Int32} {v3 : Int32} {v4 : Int32} {v11 : Int32} {v12 : Int32} {v13 : Int32} {v14 : Int32} {v15 : Int32} {v16 : Int32} {v17 : Int32} {v18 : Int32} {v19 : Int32} {v21 : Int32} {v22 : Int32} {k : kS} {z : kS} {H : Heap} {locs : List Loc} {ls : Array Slot} {cells slots uc us : Nat} {o : Unit} (hG : True) (hH : jH A s H locs D g ad z (jY adk g k mo) []) (hl : jl_has ls 24 [(0, .ref b), (1, .ref (adk 0)), (2, .ref (ad 0)), (3, .int v3), (4, .int v4), (11, .int v11), (12, .int v12), (13, .int v13), (14, .int v14), (15, .int v15), (16, .int v16), (17, .int v17), (18, .int v18), (19, .int v19), (21, .int v21), (22, .int v22)]) (hf : F_L_law_755 xs L c22 c374 s0 s1 v3 v4 v11 v12 v13 v14 v15 v16 v17 v18 v19 v21 v22 k z = some (o, uc, us)) (hc : cells + uc ≤ 600130) (hs : slots + us ≤ 7301080) : W p l e room_1 s mm args below meth c H locs cells slots Q (F0 mm 755 ls [.int s1, .int s0]) := by
  have hx := V.1
  have hb := V.2.1
  refine lv_icmp_eq (tgt := 760) hx hb dL_law_755 (by decide) (fun hq => ?_) (fun hq => ?_)
  · have hf := kpos hq hf
    exact w_L_law_760 V hA LX SX hQ hk22 hk374 trivial hH (jl_sub hl [0, 1, 2, 3, 4, 5, 6, 7, 8, 9, 10, 11, 12, 13, 14, 15] rfl) hf hc hs
  · have hf := kneg hq hf
    exact w_L_law_758 V hA LX SX hQ trivial hH (jl_sub hl [] rfl) hf hc hs
set_option maxHeartbeats 4000000 in
set_option maxRecDepth 100000 in
theorem w_L_law_750 (V : jV p s mm args meth c cL_law RL 24 (some .boolean) D g) (hA : ∀ q, s.heap.size ≤ q → A q) (LX : jLX l A s) (SX : jSX A s b L xs) (hQ : ∀ {H : Heap} {locs : List Loc} {ls : Array Slot} {cells slots : Nat}, va_S A s.heap H locs → cells ≤ 600130 → slots ≤ 7301080 → W p l e room_1 s mm args below meth c H locs cells slots Q (F0 mm 1222 ls [.int 1])) {c22 : Int32 → kS → kS → Option (Unit × Nat × Nat)} (hk22 : ∀ {ad : Nat → Nat} {v3 : Int32} {k : kS} {z : kS} {H : Heap} {locs : List Loc} {ls : Array Slot} {cells slots uc us : Nat} {o : Unit}, True → jH A s H locs D g ad z (jY adk g k mo) [] → jl_has ls 24 [(0, .ref b), (1, .ref (adk 0)), (2, .ref (ad 0)), (3, .int v3)] → c22 v3 k z = some (o, uc, us) → cells + uc ≤ 600130 → slots + us ≤ 7301080 → W p l e room_1 s mm args below meth c H locs cells slots Q (F0 mm 22 ls [])) {c374 : Int32 → Int32 → Int32 → Int32 → Int32 → Int32 → Int32 → Int32 → kS → kS → Option (Unit × Nat × Nat)} (hk374 : ∀ {ad : Nat → Nat} {v3 : Int32} {v4 : Int32} {v11 : Int32} {v12 : Int32} {v13 : Int32} {v14 : Int32} {v15 : Int32} {v16 : Int32} {k : kS} {z : kS} {H : Heap} {locs : List Loc} {ls : Array Slot} {cells slots uc us : Nat} {o : Unit}, True → jH A s H locs D g ad z (jY adk g k mo) [] → jl_has ls 24 [(0, .ref b), (1, .ref (adk 0)), (2, .ref (ad 0)), (3, .int v3), (4, .int v4), (11, .int v11), (12, .int v12), (13, .int v13), (14, .int v14), (15, .int v15), (16, .int v16)] → c374 v3 v4 v11 v12 v13 v14 v15 v16 k z = some (o, uc, us) → cells + uc ≤ 600130 → slots + us ≤ 7301080 → W p l e room_1 s mm args below meth c H locs cells slots Q (F0 mm 374 ls [])) {ad : Nat → Nat} {s0 : Int32} {v3 : Int32} {v4 : Int32} {v11 : Int32} {v12 : Int32} {v13 : Int32} {v14 : Int32} {v15 : Int32} {v16 : Int32} {v17 : Int32} {v18 : Int32} {v19 : Int32} {v21 : Int32} {v22 : Int32} {k : kS} {z : kS} {H : Heap} {locs : List Loc} {ls : Array Slot} {cells slots uc us : Nat} {o : Unit} (hG : True) (hH : jH A s H locs D g ad z (jY adk g k mo) []) (hl : jl_has ls 24 [(0, .ref b), (1, .ref (adk 0)), (2, .ref (ad 0)), (3, .int v3), (4, .int v4), (11, .int v11), (12, .int v12), (13, .int v13), (14, .int v14), (15, .int v15), (16, .int v16), (17, .int v17), (18, .int v18), (19, .int v19), (21, .int v21), (22, .int v22)]) (hf : F_L_law_750 xs L c22 c374 s0 v3 v4 v11 v12 v13 v14 v15 v16 v17 v18 v19 v21 v22 k z = some (o, uc, us)) (hc : cells + uc ≤ 600130) (hs : slots + us ≤ 7301080) : W p l e room_1 s mm args below meth c H locs cells slots Q (F0 mm 750 ls [.int s0]) := by
  have hx := V.1
  have hb := V.2.1
  refine lv_iconst (v := 1) hx hb dL_law_750 (by decide) ?_
  refine lv_goto (tgt := 755) hx hb dL_law_751 (by decide) ?_
  exact w_L_law_755 V hA LX SX hQ hk22 hk374 trivial hH (jl_sub hl [0, 1, 2, 3, 4, 5, 6, 7, 8, 9, 10, 11, 12, 13, 14, 15] rfl) hf hc hs
set_option maxHeartbeats 4000000 in
set_option maxRecDepth 100000 in
theorem w_L_law_754 (V : jV p s mm args meth c cL_law RL 24 (some .boolean) D g) (hA : ∀ q, s.heap.size ≤ q → A q) (LX : jLX l A s) (SX : jSX A s b L xs) (hQ : ∀ {H : Heap} {locs : List Loc} {ls : Array Slot} {cells slots : Nat}, va_S A s.heap H locs → cells ≤ 600130 → slots ≤ 7301080 → W p l e room_1 s mm args below meth c H locs cells slots Q (F0 mm 1222 ls [.int 1])) {c22 : Int32 → kS → kS → Option (Unit × Nat × Nat)} (hk22 : ∀ {ad : Nat → Nat} {v3 : Int32} {k : kS} {z : kS} {H : Heap} {locs : List Loc} {ls : Array Slot} {cells slots uc us : Nat} {o : Unit}, True → jH A s H locs D g ad z (jY adk g k mo) [] → jl_has ls 24 [(0, .ref b), (1, .ref (adk 0)), (2, .ref (ad 0)), (3, .int v3)] → c22 v3 k z = some (o, uc, us) → cells + uc ≤ 600130 → slots + us ≤ 7301080 → W p l e room_1 s mm args below meth c H locs cells slots Q (F0 mm 22 ls [])) {c374 : Int32 → Int32 → Int32 → Int32 → Int32 → Int32 → Int32 → Int32 → kS → kS → Option (Unit × Nat × Nat)} (hk374 : ∀ {ad : Nat → Nat} {v3 : Int32} {v4 : Int32} {v11 : Int32} {v12 : Int32} {v13 : Int32} {v14 : Int32} {v15 : Int32} {v16 : Int32} {k : kS} {z : kS} {H : Heap} {locs : List Loc} {ls : Array Slot} {cells slots uc us : Nat} {o : Unit}, True → jH A s H locs D g ad z (jY adk g k mo) [] → jl_has ls 24 [(0, .ref b), (1, .ref (adk 0)), (2, .ref (ad 0)), (3, .int v3), (4, .int v4), (11, .int v11), (12, .int v12), (13, .int v13), (14, .int v14), (15, .int v15), (16, .int v16)] → c374 v3 v4 v11 v12 v13 v14 v15 v16 k z = some (o, uc, us) → cells + uc ≤ 600130 → slots + us ≤ 7301080 → W p l e room_1 s mm args below meth c H locs cells slots Q (F0 mm 374 ls [])) {ad : Nat → Nat} {s0 : Int32} {v3 : Int32} {v4 : Int32} {v11 : Int32} {v12 : Int32} {v13 : Int32} {v14 : Int32} {v15 : Int32} {v16 : Int32} {v17 : Int32} {v18 : Int32} {v19 : Int32} {v21 : Int32} {v22 : Int32} {k : kS} {z : kS} {H : Heap} {locs : List Loc} {ls : Array Slot} {cells slots uc us : Nat} {o : Unit} (hG : True) (hH : jH A s H locs D g ad z (jY adk g k mo) []) (hl : jl_has ls 24 [(0, .ref b), (1, .ref (adk 0)), (2, .ref (ad 0)), (3, .int v3), (4, .int v4), (11, .int v11), (12, .int v12), (13, .int v13), (14, .int v14), (15, .int v15), (16, .int v16), (17, .int v17), (18, .int v18), (19, .int v19), (21, .int v21), (22, .int v22)]) (hf : F_L_law_754 xs L c22 c374 s0 v3 v4 v11 v12 v13 v14 v15 v16 v17 v18 v19 v21 v22 k z = some (o, uc, us)) (hc : cells + uc ≤ 600130) (hs : slots + us ≤ 7301080) : W p l e room_1 s mm args below meth c H locs cells slots Q (F0 mm 754 ls [.int s0]) := by
  have hx := V.1
  have hb := V.2.1
  refine lv_iconst (v := 0) hx hb dL_law_754 (by decide) ?_
  exact w_L_law_755 V hA LX SX hQ hk22 hk374 trivial hH (jl_sub hl [0, 1, 2, 3, 4, 5, 6, 7, 8, 9, 10, 11, 12, 13, 14, 15] rfl) hf hc hs
set_option maxHeartbeats 4000000 in
set_option maxRecDepth 100000 in
theorem w_L_law_743 (V : jV p s mm args meth c cL_law RL 24 (some .boolean) D g) (hA : ∀ q, s.heap.size ≤ q → A q) (LX : jLX l A s) (SX : jSX A s b L xs) (hQ : ∀ {H : Heap} {locs : List Loc} {ls : Array Slot} {cells slots : Nat}, va_S A s.heap H locs → cells ≤ 600130 → slots ≤ 7301080 → W p l e room_1 s mm args below meth c H locs cells slots Q (F0 mm 1222 ls [.int 1])) {c22 : Int32 → kS → kS → Option (Unit × Nat × Nat)} (hk22 : ∀ {ad : Nat → Nat} {v3 : Int32} {k : kS} {z : kS} {H : Heap} {locs : List Loc} {ls : Array Slot} {cells slots uc us : Nat} {o : Unit}, True → jH A s H locs D g ad z (jY adk g k mo) [] → jl_has ls 24 [(0, .ref b), (1, .ref (adk 0)), (2, .ref (ad 0)), (3, .int v3)] → c22 v3 k z = some (o, uc, us) → cells + uc ≤ 600130 → slots + us ≤ 7301080 → W p l e room_1 s mm args below meth c H locs cells slots Q (F0 mm 22 ls [])) {c374 : Int32 → Int32 → Int32 → Int32 → Int32 → Int32 → Int32 → Int32 → kS → kS → Option (Unit × Nat × Nat)} (hk374 : ∀ {ad : Nat → Nat} {v3 : Int32} {v4 : Int32} {v11 : Int32} {v12 : Int32} {v13 : Int32} {v14 : Int32} {v15 : Int32} {v16 : Int32} {k : kS} {z : kS} {H : Heap} {locs : List Loc} {ls : Array Slot} {cells slots uc us : Nat} {o : Unit}, True → jH A s H locs D g ad z (jY adk g k mo) [] → jl_has ls 24 [(0, .ref b), (1, .ref (adk 0)), (2, .ref (ad 0)), (3, .int v3), (4, .int v4), (11, .int v11), (12, .int v12), (13, .int v13), (14, .int v14), (15, .int v15), (16, .int v16)] → c374 v3 v4 v11 v12 v13 v14 v15 v16 k z = some (o, uc, us) → cells + uc ≤ 600130 → slots + us ≤ 7301080 → W p l e room_1 s mm args below meth c H locs cells slots Q (F0 mm 374 ls [])) {ad : Nat → Nat} {s0 : Int32} {v3 : Int32} {v4 : Int32} {v11 : Int32} {v12 : Int32} {v13 : Int32} {v14 : Int32} {v15 : Int32} {v16 : Int32} {v17 : Int32} {v18 : Int32} {v19 : Int32} {v21 : Int32} {v22 : Int32} {k : kS} {z : kS} {H : Heap} {locs : List Loc} {ls : Array Slot} {cells slots uc us : Nat} {o : Unit} (hG : True) (hH : jH A s H locs D g ad z (jY adk g k mo) []) (hl : jl_has ls 24 [(0, .ref b), (1, .ref (adk 0)), (2, .ref (ad 0)), (3, .int v3), (4, .int v4), (11, .int v11), (12, .int v12), (13, .int v13), (14, .int v14), (15, .int v15), (16, .int v16), (17, .int v17), (18, .int v18), (19, .int v19), (21, .int v21), (22, .int v22)]) (hf : F_L_law_743 xs L c22 c374 s0 v3 v4 v11 v12 v13 v14 v15 v16 v17 v18 v19 v21 v22 k z = some (o, uc, us)) (hc : cells + uc ≤ 600130) (hs : slots + us ≤ 7301080) : W p l e room_1 s mm args below meth c H locs cells slots Q (F0 mm 743 ls [.int s0]) := by
  have hx := V.1
  have hb := V.2.1
  refine lv_iload hx hb dL_law_743 (lv_at hl.1 10 rfl) ?_
  refine lv_iload hx hb dL_law_745 (lv_at hl.1 14 rfl) ?_
  refine lv_icmp_ne (tgt := 754) hx hb dL_law_747 (by decide) (fun hq => ?_) (fun hq => ?_)
  · have hf := kneg hq hf
    exact w_L_law_754 V hA LX SX hQ hk22 hk374 trivial hH (jl_sub hl [0, 1, 2, 3, 4, 5, 6, 7, 8, 9, 10, 11, 12, 13, 14, 15] rfl) hf hc hs
  · have hf := kpos hq hf
    exact w_L_law_750 V hA LX SX hQ hk22 hk374 trivial hH (jl_sub hl [0, 1, 2, 3, 4, 5, 6, 7, 8, 9, 10, 11, 12, 13, 14, 15] rfl) hf hc hs
set_option maxHeartbeats 4000000 in
set_option maxRecDepth 100000 in
theorem w_L_law_738 (V : jV p s mm args meth c cL_law RL 24 (some .boolean) D g) (hA : ∀ q, s.heap.size ≤ q → A q) (LX : jLX l A s) (SX : jSX A s b L xs) (hQ : ∀ {H : Heap} {locs : List Loc} {ls : Array Slot} {cells slots : Nat}, va_S A s.heap H locs → cells ≤ 600130 → slots ≤ 7301080 → W p l e room_1 s mm args below meth c H locs cells slots Q (F0 mm 1222 ls [.int 1])) {c22 : Int32 → kS → kS → Option (Unit × Nat × Nat)} (hk22 : ∀ {ad : Nat → Nat} {v3 : Int32} {k : kS} {z : kS} {H : Heap} {locs : List Loc} {ls : Array Slot} {cells slots uc us : Nat} {o : Unit}, True → jH A s H locs D g ad z (jY adk g k mo) [] → jl_has ls 24 [(0, .ref b), (1, .ref (adk 0)), (2, .ref (ad 0)), (3, .int v3)] → c22 v3 k z = some (o, uc, us) → cells + uc ≤ 600130 → slots + us ≤ 7301080 → W p l e room_1 s mm args below meth c H locs cells slots Q (F0 mm 22 ls [])) {c374 : Int32 → Int32 → Int32 → Int32 → Int32 → Int32 → Int32 → Int32 → kS → kS → Option (Unit × Nat × Nat)} (hk374 : ∀ {ad : Nat → Nat} {v3 : Int32} {v4 : Int32} {v11 : Int32} {v12 : Int32} {v13 : Int32} {v14 : Int32} {v15 : Int32} {v16 : Int32} {k : kS} {z : kS} {H : Heap} {locs : List Loc} {ls : Array Slot} {cells slots uc us : Nat} {o : Unit}, True → jH A s H locs D g ad z (jY adk g k mo) [] → jl_has ls 24 [(0, .ref b), (1, .ref (adk 0)), (2, .ref (ad 0)), (3, .int v3), (4, .int v4), (11, .int v11), (12, .int v12), (13, .int v13), (14, .int v14), (15, .int v15), (16, .int v16)] → c374 v3 v4 v11 v12 v13 v14 v15 v16 k z = some (o, uc, us) → cells + uc ≤ 600130 → slots + us ≤ 7301080 → W p l e room_1 s mm args below meth c H locs cells slots Q (F0 mm 374 ls [])) {ad : Nat → Nat} {v3 : Int32} {v4 : Int32} {v11 : Int32} {v12 : Int32} {v13 : Int32} {v14 : Int32} {v15 : Int32} {v16 : Int32} {v17 : Int32} {v18 : Int32} {v19 : Int32} {v21 : Int32} {v22 : Int32} {k : kS} {z : kS} {H : Heap} {locs : List Loc} {ls : Array Slot} {cells slots uc us : Nat} {o : Unit} (hG : True) (hH : jH A s H locs D g ad z (jY adk g k mo) []) (hl : jl_has ls 24 [(0, .ref b), (1, .ref (adk 0)), (2, .ref (ad 0)), (3, .int v3), (4, .int v4), (11, .int v11), (12, .int v12), (13, .int v13), (14, .int v14), (15, .int v15), (16, .int v16), (17, .int v17), (18, .int v18), (19, .int v19), (21, .int v21), (22, .int v22)]) (hf : F_L_law_738 xs L c22 c374 v3 v4 v11 v12 v13 v14 v15 v16 v17 v18 v19 v21 v22 k z = some (o, uc, us)) (hc : cells + uc ≤ 600130) (hs : slots + us ≤ 7301080) : W p l e room_1 s mm args below meth c H locs cells slots Q (F0 mm 738 ls []) := by
  have hx := V.1
  have hb := V.2.1
  refine lv_iconst (v := 1) hx hb dL_law_738 (by decide) ?_
  refine lv_goto (tgt := 743) hx hb dL_law_739 (by decide) ?_
  exact w_L_law_743 V hA LX SX hQ hk22 hk374 trivial hH (jl_sub hl [0, 1, 2, 3, 4, 5, 6, 7, 8, 9, 10, 11, 12, 13, 14, 15] rfl) hf hc hs
set_option maxHeartbeats 4000000 in
set_option maxRecDepth 100000 in
theorem w_L_law_742 (V : jV p s mm args meth c cL_law RL 24 (some .boolean) D g) (hA : ∀ q, s.heap.size ≤ q → A q) (LX : jLX l A s) (SX : jSX A s b L xs) (hQ : ∀ {H : Heap} {locs : List Loc} {ls : Array Slot} {cells slots : Nat}, va_S A s.heap H locs → cells ≤ 600130 → slots ≤ 7301080 → W p l e room_1 s mm args below meth c H locs cells slots Q (F0 mm 1222 ls [.int 1])) {c22 : Int32 → kS → kS → Option (Unit × Nat × Nat)} (hk22 : ∀ {ad : Nat → Nat} {v3 : Int32} {k : kS} {z : kS} {H : Heap} {locs : List Loc} {ls : Array Slot} {cells slots uc us : Nat} {o : Unit}, True → jH A s H locs D g ad z (jY adk g k mo) [] → jl_has ls 24 [(0, .ref b), (1, .ref (adk 0)), (2, .ref (ad 0)), (3, .int v3)] → c22 v3 k z = some (o, uc, us) → cells + uc ≤ 600130 → slots + us ≤ 7301080 → W p l e room_1 s mm args below meth c H locs cells slots Q (F0 mm 22 ls [])) {c374 : Int32 → Int32 → Int32 → Int32 → Int32 → Int32 → Int32 → Int32 → kS → kS → Option (Unit × Nat × Nat)} (hk374 : ∀ {ad : Nat → Nat} {v3 : Int32} {v4 : Int32} {v11 : Int32} {v12 : Int32} {v13 : Int32} {v14 : Int32} {v15 : Int32} {v16 : Int32} {k : kS} {z : kS} {H : Heap} {locs : List Loc} {ls : Array Slot} {cells slots uc us : Nat} {o : Unit}, True → jH A s H locs D g ad z (jY adk g k mo) [] → jl_has ls 24 [(0, .ref b), (1, .ref (adk 0)), (2, .ref (ad 0)), (3, .int v3), (4, .int v4), (11, .int v11), (12, .int v12), (13, .int v13), (14, .int v14), (15, .int v15), (16, .int v16)] → c374 v3 v4 v11 v12 v13 v14 v15 v16 k z = some (o, uc, us) → cells + uc ≤ 600130 → slots + us ≤ 7301080 → W p l e room_1 s mm args below meth c H locs cells slots Q (F0 mm 374 ls [])) {ad : Nat → Nat} {v3 : Int32} {v4 : Int32} {v11 : Int32} {v12 : Int32} {v13 : Int32} {v14 : Int32} {v15 : Int32} {v16 : Int32} {v17 : Int32} {v18 : Int32} {v19 : Int32} {v21 : Int32} {v22 : Int32} {k : kS} {z : kS} {H : Heap} {locs : List Loc} {ls : Array Slot} {cells slots uc us : Nat} {o : Unit} (hG : True) (hH : jH A s H locs D g ad z (jY adk g k mo) []) (hl : jl_has ls 24 [(0, .ref b), (1, .ref (adk 0)), (2, .ref (ad 0)), (3, .int v3), (4, .int v4), (11, .int v11), (12, .int v12), (13, .int v13), (14, .int v14), (15, .int v15), (16, .int v16), (17, .int v17), (18, .int v18), (19, .int v19), (21, .int v21), (22, .int v22)]) (hf : F_L_law_742 xs L c22 c374 v3 v4 v11 v12 v13 v14 v15 v16 v17 v18 v19 v21 v22 k z = some (o, uc, us)) (hc : cells + uc ≤ 600130) (hs : slots + us ≤ 7301080) : W p l e room_1 s mm args below meth c H locs cells slots Q (F0 mm 742 ls []) := by
  have hx := V.1
  have hb := V.2.1
  refine lv_iconst (v := 0) hx hb dL_law_742 (by decide) ?_
  exact w_L_law_743 V hA LX SX hQ hk22 hk374 trivial hH (jl_sub hl [0, 1, 2, 3, 4, 5, 6, 7, 8, 9, 10, 11, 12, 13, 14, 15] rfl) hf hc hs
set_option maxHeartbeats 4000000 in
set_option maxRecDepth 100000 in
theorem w_L_law_733 (V : jV p s mm args meth c cL_law RL 24 (some .boolean) D g) (hA : ∀ q, s.heap.size ≤ q → A q) (LX : jLX l A s) (SX : jSX A s b L xs) (hQ : ∀ {H : Heap} {locs : List Loc} {ls : Array Slot} {cells slots : Nat}, va_S A s.heap H locs → cells ≤ 600130 → slots ≤ 7301080 → W p l e room_1 s mm args below meth c H locs cells slots Q (F0 mm 1222 ls [.int 1])) {c22 : Int32 → kS → kS → Option (Unit × Nat × Nat)} (hk22 : ∀ {ad : Nat → Nat} {v3 : Int32} {k : kS} {z : kS} {H : Heap} {locs : List Loc} {ls : Array Slot} {cells slots uc us : Nat} {o : Unit}, True → jH A s H locs D g ad z (jY adk g k mo) [] → jl_has ls 24 [(0, .ref b), (1, .ref (adk 0)), (2, .ref (ad 0)), (3, .int v3)] → c22 v3 k z = some (o, uc, us) → cells + uc ≤ 600130 → slots + us ≤ 7301080 → W p l e room_1 s mm args below meth c H locs cells slots Q (F0 mm 22 ls [])) {c374 : Int32 → Int32 → Int32 → Int32 → Int32 → Int32 → Int32 → Int32 → kS → kS → Option (Unit × Nat × Nat)} (hk374 : ∀ {ad : Nat → Nat} {v3 : Int32} {v4 : Int32} {v11 : Int32} {v12 : Int32} {v13 : Int32} {v14 : Int32} {v15 : Int32} {v16 : Int32} {k : kS} {z : kS} {H : Heap} {locs : List Loc} {ls : Array Slot} {cells slots uc us : Nat} {o : Unit}, True → jH A s H locs D g ad z (jY adk g k mo) [] → jl_has ls 24 [(0, .ref b), (1, .ref (adk 0)), (2, .ref (ad 0)), (3, .int v3), (4, .int v4), (11, .int v11), (12, .int v12), (13, .int v13), (14, .int v14), (15, .int v15), (16, .int v16)] → c374 v3 v4 v11 v12 v13 v14 v15 v16 k z = some (o, uc, us) → cells + uc ≤ 600130 → slots + us ≤ 7301080 → W p l e room_1 s mm args below meth c H locs cells slots Q (F0 mm 374 ls [])) {ad : Nat → Nat} {v3 : Int32} {v4 : Int32} {v11 : Int32} {v12 : Int32} {v13 : Int32} {v14 : Int32} {v15 : Int32} {v16 : Int32} {v17 : Int32} {v18 : Int32} {v19 : Int32} {v21 : Int32} {v22 : Int32} {k : kS} {z : kS} {H : Heap} {locs : List Loc} {ls : Array Slot} {cells slots uc us : Nat} {o : Unit} (hG : True) (hH : jH A s H locs D g ad z (jY adk g k mo) []) (hl : jl_has ls 24 [(0, .ref b), (1, .ref (adk 0)), (2, .ref (ad 0)), (3, .int v3), (4, .int v4), (11, .int v11), (12, .int v12), (13, .int v13), (14, .int v14), (15, .int v15), (16, .int v16), (17, .int v17), (18, .int v18), (19, .int v19), (21, .int v21), (22, .int v22)]) (hf : F_L_law_733 xs L c22 c374 v3 v4 v11 v12 v13 v14 v15 v16 v17 v18 v19 v21 v22 k z = some (o, uc, us)) (hc : cells + uc ≤ 600130) (hs : slots + us ≤ 7301080) : W p l e room_1 s mm args below meth c H locs cells slots Q (F0 mm 733 ls []) := by
  have hx := V.1
  have hb := V.2.1
  refine lv_iload hx hb dL_law_733 (lv_at hl.1 15 rfl) ?_
  refine lv_if_ne (tgt := 742) hx hb dL_law_735 (by decide) (fun hq => ?_) (fun hq => ?_)
  · have hf := kneg hq hf
    exact w_L_law_742 V hA LX SX hQ hk22 hk374 trivial hH (jl_sub hl [0, 1, 2, 3, 4, 5, 6, 7, 8, 9, 10, 11, 12, 13, 14, 15] rfl) hf hc hs
  · have hf := kpos hq hf
    exact w_L_law_738 V hA LX SX hQ hk22 hk374 trivial hH (jl_sub hl [0, 1, 2, 3, 4, 5, 6, 7, 8, 9, 10, 11, 12, 13, 14, 15] rfl) hf hc hs
set_option maxHeartbeats 4000000 in
set_option maxRecDepth 100000 in
theorem w_L_law_694 (V : jV p s mm args meth c cL_law RL 24 (some .boolean) D g) (hA : ∀ q, s.heap.size ≤ q → A q) (LX : jLX l A s) (SX : jSX A s b L xs) (hQ : ∀ {H : Heap} {locs : List Loc} {ls : Array Slot} {cells slots : Nat}, va_S A s.heap H locs → cells ≤ 600130 → slots ≤ 7301080 → W p l e room_1 s mm args below meth c H locs cells slots Q (F0 mm 1222 ls [.int 1])) {c22 : Int32 → kS → kS → Option (Unit × Nat × Nat)} (hk22 : ∀ {ad : Nat → Nat} {v3 : Int32} {k : kS} {z : kS} {H : Heap} {locs : List Loc} {ls : Array Slot} {cells slots uc us : Nat} {o : Unit}, True → jH A s H locs D g ad z (jY adk g k mo) [] → jl_has ls 24 [(0, .ref b), (1, .ref (adk 0)), (2, .ref (ad 0)), (3, .int v3)] → c22 v3 k z = some (o, uc, us) → cells + uc ≤ 600130 → slots + us ≤ 7301080 → W p l e room_1 s mm args below meth c H locs cells slots Q (F0 mm 22 ls [])) {c374 : Int32 → Int32 → Int32 → Int32 → Int32 → Int32 → Int32 → Int32 → kS → kS → Option (Unit × Nat × Nat)} (hk374 : ∀ {ad : Nat → Nat} {v3 : Int32} {v4 : Int32} {v11 : Int32} {v12 : Int32} {v13 : Int32} {v14 : Int32} {v15 : Int32} {v16 : Int32} {k : kS} {z : kS} {H : Heap} {locs : List Loc} {ls : Array Slot} {cells slots uc us : Nat} {o : Unit}, True → jH A s H locs D g ad z (jY adk g k mo) [] → jl_has ls 24 [(0, .ref b), (1, .ref (adk 0)), (2, .ref (ad 0)), (3, .int v3), (4, .int v4), (11, .int v11), (12, .int v12), (13, .int v13), (14, .int v14), (15, .int v15), (16, .int v16)] → c374 v3 v4 v11 v12 v13 v14 v15 v16 k z = some (o, uc, us) → cells + uc ≤ 600130 → slots + us ≤ 7301080 → W p l e room_1 s mm args below meth c H locs cells slots Q (F0 mm 374 ls [])) {ad : Nat → Nat} {v3 : Int32} {v4 : Int32} {v11 : Int32} {v12 : Int32} {v13 : Int32} {v14 : Int32} {v15 : Int32} {v16 : Int32} {v17 : Int32} {v18 : Int32} {v19 : Int32} {k : kS} {z : kS} {H : Heap} {locs : List Loc} {ls : Array Slot} {cells slots uc us : Nat} {o : Unit} (hG : True) (hH : jH A s H locs D g ad z (jY adk g k mo) []) (hl : jl_has ls 24 [(0, .ref b), (1, .ref (adk 0)), (2, .ref (ad 0)), (3, .int v3), (4, .int v4), (11, .int v11), (12, .int v12), (13, .int v13), (14, .int v14), (15, .int v15), (16, .int v16), (17, .int v17), (18, .int v18), (19, .int v19)]) (hf : F_L_law_694 xs L c22 c374 v3 v4 v11 v12 v13 v14 v15 v16 v17 v18 v19 k z = some (o, uc, us)) (hc : cells + uc ≤ 600130) (hs : slots + us ≤ 7301080) : W p l e room_1 s mm args below meth c H locs cells slots Q (F0 mm 694 ls []) := by
  have hx := V.1
  have hb := V.2.1
  refine lv_iload hx hb dL_law_694 (lv_at hl.1 4 rfl) ?_
  refine lv_iconst (v := 2) hx hb dL_law_696 (by decide) ?_
  refine lv_ishr hx hb dL_law_697 ?_
  refine lv_iconst (v := 5) hx hb dL_law_698 (by decide) ?_
  refine lv_iload hx hb dL_law_699 (lv_at hl.1 10 rfl) ?_
  refine lv_imul hx hb dL_law_701 ?_
  refine lv_iadd hx hb dL_law_702 ?_
  refine lv_iload hx hb dL_law_703 (lv_at hl.1 5 rfl) ?_
  obtain ⟨x694_1, hx694_1, hf⟩ := kbind hf
  refine jr_calliR0 hA hH (jr_runS (as := [.int ((v4 >>> (2 &&& 31)) + (5 * v16)), .int v11]) (rest := []) V hH kYL_below kl_L_15 (c_L_below l _ _ hx694_1 _) rfl rfl ⟨Nat.le_of_ble_eq_true rfl, Nat.le_of_ble_eq_true rfl⟩ rfl hl.1.1 (Nat.le_of_ble_eq_true rfl) dL_law_705 ⟨by show cells + 0 ≤ 600130; omega, by show slots + 0 ≤ 7301080; omega⟩ rfl) (fun H locs hH => ?_)
  refine jl_istore (lv' := [(21, .int x694_1), (0, .ref b), (1, .ref (adk 0)), (2, .ref (ad 0)), (3, .int v3), (4, .int v4), (11, .int v11), (12, .int v12), (13, .int v13), (14, .int v14), (15, .int v15), (16, .int v16), (17, .int v17), (18, .int v18), (19, .int v19)]) hx hb dL_law_708 hl (by decide) rfl (fun ls hl => ?_)
  refine lv_aload_n hx hb dL_law_710 rfl (lv_at hl.1 2 rfl) ?_
  refine lv_iload hx hb dL_law_711 (lv_at hl.1 11 rfl) ?_
  refine lv_iload hx hb dL_law_713 (lv_at hl.1 0 rfl) ?_
  obtain ⟨x694_2, hx694_2, hf⟩ := kbind hf
  obtain ⟨h694_3, hf⟩ := kif hf
  obtain ⟨uc694_4, us694_5, hf, e1, e2⟩ := kadd_some2 hf
  have e1 : uc = 4 + uc694_4 := e1
  have e2 : us = 24 + us694_5 := e2
  have hc : cells + 4 + uc694_4 ≤ 600130 := by rw [Nat.add_assoc, ← e1]; exact hc
  have hs : slots + 24 + us694_5 ≤ 7301080 := by rw [Nat.add_assoc, ← e2]; exact hs
  have lc : cells + 4 ≤ 600130 := Nat.le_trans (Nat.le_add_right _ _) hc
  have ls2 : slots + 24 ≤ 7301080 := Nat.le_trans (Nat.le_add_right _ _) hs
  refine jc_callx V hA LX hH kYX5_related kl_L_135 (c_X5_related l LX.1 _ _ hx694_2 _) (Decidable.not_not.mp h694_3) rfl rfl ⟨Nat.le_of_ble_eq_true rfl, Nat.le_of_ble_eq_true rfl⟩ rfl hl.1.1 (as := [.int v16, .int x694_1]) (rest := []) (Nat.le_of_ble_eq_true rfl) dL_law_715 ⟨lc, ls2⟩ rfl (fun H locs hH => ?_)
  refine jl_istore (lv' := [(22, .int x694_2.2), (21, .int x694_1), (0, .ref b), (1, .ref (adk 0)), (2, .ref (ad 0)), (3, .int v3), (4, .int v4), (11, .int v11), (12, .int v12), (13, .int v13), (14, .int v14), (15, .int v15), (16, .int v16), (17, .int v17), (18, .int v18), (19, .int v19)]) hx hb dL_law_718 hl (by decide) rfl (fun ls hl => ?_)
  refine lv_iload hx hb dL_law_720 (lv_at hl.1 0 rfl) ?_
  refine lv_aload_n hx hb dL_law_722 rfl (lv_at hl.1 3 rfl) ?_
  refine lv_iload hx hb dL_law_723 (lv_at hl.1 1 rfl) ?_
  refine lv_iload hx hb dL_law_725 (lv_at hl.1 12 rfl) ?_
  obtain ⟨x694_6, hx694_6, hf⟩ := kbind hf
  obtain ⟨h694_7, hf⟩ := kif hf
  obtain ⟨uc694_8, us694_9, hf, e1, e2⟩ := kadd_some2 hf
  have e1 : uc694_4 = 4 + uc694_8 := e1
  have e2 : us694_5 = 24 + us694_9 := e2
  have hc : cells + 4 + 4 + uc694_8 ≤ 600130 := by rw [Nat.add_assoc, ← e1]; exact hc
  have hs : slots + 24 + 24 + us694_9 ≤ 7301080 := by rw [Nat.add_assoc, ← e2]; exact hs
  have lc : cells + 4 + 4 ≤ 600130 := Nat.le_trans (Nat.le_add_right _ _) hc
  have ls2 : slots + 24 + 24 ≤ 7301080 := Nat.le_trans (Nat.le_add_right _ _) hs
  refine jc_callx V hA LX hH kYX5_related kl_L_135 (c_X5_related l LX.1 _ _ hx694_6 _) (Decidable.not_not.mp h694_7) rfl rfl ⟨Nat.le_of_ble_eq_true rfl, Nat.le_of_ble_eq_true rfl⟩ rfl hl.1.1 (as := [.int x694_1, .int v16]) (rest := [.int x694_2.2]) (Nat.le_of_ble_eq_true rfl) dL_law_727 ⟨lc, ls2⟩ rfl (fun H locs hH => ?_)
  refine lv_icmp_ne (tgt := 758) hx hb dL_law_730 (by decide) (fun hq => ?_) (fun hq => ?_)
  · have hf := kneg hq hf
    exact w_L_law_758 V hA LX SX hQ trivial hH (jl_sub hl [] rfl) hf hc hs
  · have hf := kpos hq hf
    exact w_L_law_733 V hA LX SX hQ hk22 hk374 trivial hH (jl_sub hl [2, 3, 4, 5, 6, 7, 8, 9, 10, 11, 12, 13, 14, 15, 1, 0] rfl) hf hc hs
set_option maxHeartbeats 4000000 in
set_option maxRecDepth 100000 in
theorem w_L_law_680 (V : jV p s mm args meth c cL_law RL 24 (some .boolean) D g) (hA : ∀ q, s.heap.size ≤ q → A q) (LX : jLX l A s) (SX : jSX A s b L xs) (hQ : ∀ {H : Heap} {locs : List Loc} {ls : Array Slot} {cells slots : Nat}, va_S A s.heap H locs → cells ≤ 600130 → slots ≤ 7301080 → W p l e room_1 s mm args below meth c H locs cells slots Q (F0 mm 1222 ls [.int 1])) {c22 : Int32 → kS → kS → Option (Unit × Nat × Nat)} (hk22 : ∀ {ad : Nat → Nat} {v3 : Int32} {k : kS} {z : kS} {H : Heap} {locs : List Loc} {ls : Array Slot} {cells slots uc us : Nat} {o : Unit}, True → jH A s H locs D g ad z (jY adk g k mo) [] → jl_has ls 24 [(0, .ref b), (1, .ref (adk 0)), (2, .ref (ad 0)), (3, .int v3)] → c22 v3 k z = some (o, uc, us) → cells + uc ≤ 600130 → slots + us ≤ 7301080 → W p l e room_1 s mm args below meth c H locs cells slots Q (F0 mm 22 ls [])) {c374 : Int32 → Int32 → Int32 → Int32 → Int32 → Int32 → Int32 → Int32 → kS → kS → Option (Unit × Nat × Nat)} (hk374 : ∀ {ad : Nat → Nat} {v3 : Int32} {v4 : Int32} {v11 : Int32} {v12 : Int32} {v13 : Int32} {v14 : Int32} {v15 : Int32} {v16 : Int32} {k : kS} {z : kS} {H : Heap} {locs : List Loc} {ls : Array Slot} {cells slots uc us : Nat} {o : Unit}, True → jH A s H locs D g ad z (jY adk g k mo) [] → jl_has ls 24 [(0, .ref b), (1, .ref (adk 0)), (2, .ref (ad 0)), (3, .int v3), (4, .int v4), (11, .int v11), (12, .int v12), (13, .int v13), (14, .int v14), (15, .int v15), (16, .int v16)] → c374 v3 v4 v11 v12 v13 v14 v15 v16 k z = some (o, uc, us) → cells + uc ≤ 600130 → slots + us ≤ 7301080 → W p l e room_1 s mm args below meth c H locs cells slots Q (F0 mm 374 ls [])) {ad : Nat → Nat} {v3 : Int32} {v4 : Int32} {v11 : Int32} {v12 : Int32} {v13 : Int32} {v14 : Int32} {v15 : Int32} {v16 : Int32} {v17 : Int32} {v18 : Int32} {v19 : Int32} {v20 : Int32} {k : kS} {z : kS} {H : Heap} {locs : List Loc} {ls : Array Slot} {cells slots uc us : Nat} {o : Unit} (hG : True) (hH : jH A s H locs D g ad z (jY adk g k mo) []) (hl : jl_has ls 24 [(0, .ref b), (1, .ref (adk 0)), (2, .ref (ad 0)), (3, .int v3), (4, .int v4), (11, .int v11), (12, .int v12), (13, .int v13), (14, .int v14), (15, .int v15), (16, .int v16), (17, .int v17), (18, .int v18), (19, .int v19), (20, .int v20)]) (hf : F_L_law_680 xs L c22 c374 v3 v4 v11 v12 v13 v14 v15 v16 v17 v18 v19 v20 k z = some (o, uc, us)) (hc : cells + uc ≤ 600130) (hs : slots + us ≤ 7301080) : W p l e room_1 s mm args below meth c H locs cells slots Q (F0 mm 680 ls []) := by
  have hx := V.1
  have hb := V.2.1
  refine lv_aload_n hx hb dL_law_680 rfl (lv_at hl.1 1 rfl) ?_
  refine lv_iload hx hb dL_law_681 (lv_at hl.1 14 rfl) ?_
  refine lv_iload hx hb dL_law_683 (lv_at hl.1 10 rfl) ?_
  obtain ⟨x680_1, hx680_1, hf⟩ := kbind hf
  obtain ⟨h680_2, hf⟩ := kif hf
  obtain ⟨uc680_3, us680_4, hf, e1, e2⟩ := kadd_some2 hf
  have e1 : uc = 4 + uc680_3 := e1
  have e2 : us = 24 + us680_4 := e2
  have hc : cells + 4 + uc680_3 ≤ 600130 := by rw [Nat.add_assoc, ← e1]; exact hc
  have hs : slots + 24 + us680_4 ≤ 7301080 := by rw [Nat.add_assoc, ← e2]; exact hs
  have lc : cells + 4 ≤ 600130 := Nat.le_trans (Nat.le_add_right _ _) hc
  have ls2 : slots + 24 ≤ 7301080 := Nat.le_trans (Nat.le_add_right _ _) hs
  refine jc_callx V hA LX hH kYX5_related kl_L_135 (c_X5_related l LX.1 _ _ hx680_1 _) (Decidable.not_not.mp h680_2) rfl rfl ⟨Nat.le_of_ble_eq_true rfl, Nat.le_of_ble_eq_true rfl⟩ rfl hl.1.1 (as := [.int v20, .int v16]) (rest := []) (Nat.le_of_ble_eq_true rfl) dL_law_685 ⟨lc, ls2⟩ rfl (fun H locs hH => ?_)
  refine lv_iconst (v := 1) hx hb dL_law_688 (by decide) ?_
  refine lv_icmp_eq (tgt := 694) hx hb dL_law_689 (by decide) (fun hq => ?_) (fun hq => ?_)
  · have hf := kpos hq hf
    exact w_L_law_694 V hA LX SX hQ hk22 hk374 trivial hH (jl_sub hl [0, 1, 2, 3, 4, 5, 6, 7, 8, 9, 10, 11, 12, 13] rfl) hf hc hs
  · have hf := kneg hq hf
    exact w_L_law_692 V hA LX SX hQ trivial hH (jl_sub hl [] rfl) hf hc hs
set_option maxHeartbeats 4000000 in
set_option maxRecDepth 100000 in
theorem w_L_law_668 (V : jV p s mm args meth c cL_law RL 24 (some .boolean) D g) (hA : ∀ q, s.heap.size ≤ q → A q) (LX : jLX l A s) (SX : jSX A s b L xs) (hQ : ∀ {H : Heap} {locs : List Loc} {ls : Array Slot} {cells slots : Nat}, va_S A s.heap H locs → cells ≤ 600130 → slots ≤ 7301080 → W p l e room_1 s mm args below meth c H locs cells slots Q (F0 mm 1222 ls [.int 1])) {c22 : Int32 → kS → kS → Option (Unit × Nat × Nat)} (hk22 : ∀ {ad : Nat → Nat} {v3 : Int32} {k : kS} {z : kS} {H : Heap} {locs : List Loc} {ls : Array Slot} {cells slots uc us : Nat} {o : Unit}, True → jH A s H locs D g ad z (jY adk g k mo) [] → jl_has ls 24 [(0, .ref b), (1, .ref (adk 0)), (2, .ref (ad 0)), (3, .int v3)] → c22 v3 k z = some (o, uc, us) → cells + uc ≤ 600130 → slots + us ≤ 7301080 → W p l e room_1 s mm args below meth c H locs cells slots Q (F0 mm 22 ls [])) {c374 : Int32 → Int32 → Int32 → Int32 → Int32 → Int32 → Int32 → Int32 → kS → kS → Option (Unit × Nat × Nat)} (hk374 : ∀ {ad : Nat → Nat} {v3 : Int32} {v4 : Int32} {v11 : Int32} {v12 : Int32} {v13 : Int32} {v14 : Int32} {v15 : Int32} {v16 : Int32} {k : kS} {z : kS} {H : Heap} {locs : List Loc} {ls : Array Slot} {cells slots uc us : Nat} {o : Unit}, True → jH A s H locs D g ad z (jY adk g k mo) [] → jl_has ls 24 [(0, .ref b), (1, .ref (adk 0)), (2, .ref (ad 0)), (3, .int v3), (4, .int v4), (11, .int v11), (12, .int v12), (13, .int v13), (14, .int v14), (15, .int v15), (16, .int v16)] → c374 v3 v4 v11 v12 v13 v14 v15 v16 k z = some (o, uc, us) → cells + uc ≤ 600130 → slots + us ≤ 7301080 → W p l e room_1 s mm args below meth c H locs cells slots Q (F0 mm 374 ls [])) {ad : Nat → Nat} {v3 : Int32} {v4 : Int32} {v11 : Int32} {v12 : Int32} {v13 : Int32} {v14 : Int32} {v15 : Int32} {v16 : Int32} {v17 : Int32} {v18 : Int32} {v19 : Int32} {v20 : Int32} {k : kS} {z : kS} {H : Heap} {locs : List Loc} {ls : Array Slot} {cells slots uc us : Nat} {o : Unit} (hG : True) (hH : jH A s H locs D g ad z (jY adk g k mo) []) (hl : jl_has ls 24 [(0, .ref b), (1, .ref (adk 0)), (2, .ref (ad 0)), (3, .int v3), (4, .int v4), (11, .int v11), (12, .int v12), (13, .int v13), (14, .int v14), (15, .int v15), (16, .int v16), (17, .int v17), (18, .int v18), (19, .int v19), (20, .int v20)]) (hf : F_L_law_668 xs L c22 c374 v3 v4 v11 v12 v13 v14 v15 v16 v17 v18 v19 v20 k z = some (o, uc, us)) (hc : cells + uc ≤ 600130) (hs : slots + us ≤ 7301080) : W p l e room_1 s mm args below meth c H locs cells slots Q (F0 mm 668 ls []) := by
  have hx := V.1
  have hb := V.2.1
  refine lv_aload_n hx hb dL_law_668 rfl (lv_at hl.1 1 rfl) ?_
  refine lv_iload hx hb dL_law_669 (lv_at hl.1 10 rfl) ?_
  refine lv_iload hx hb dL_law_671 (lv_at hl.1 13 rfl) ?_
  obtain ⟨x668_1, hx668_1, hf⟩ := kbind hf
  obtain ⟨h668_2, hf⟩ := kif hf
  obtain ⟨uc668_3, us668_4, hf, e1, e2⟩ := kadd_some2 hf
  have e1 : uc = 4 + uc668_3 := e1
  have e2 : us = 24 + us668_4 := e2
  have hc : cells + 4 + uc668_3 ≤ 600130 := by rw [Nat.add_assoc, ← e1]; exact hc
  have hs : slots + 24 + us668_4 ≤ 7301080 := by rw [Nat.add_assoc, ← e2]; exact hs
  have lc : cells + 4 ≤ 600130 := Nat.le_trans (Nat.le_add_right _ _) hc
  have ls2 : slots + 24 ≤ 7301080 := Nat.le_trans (Nat.le_add_right _ _) hs
  refine jc_callx V hA LX hH kYX5_related kl_L_135 (c_X5_related l LX.1 _ _ hx668_1 _) (Decidable.not_not.mp h668_2) rfl rfl ⟨Nat.le_of_ble_eq_true rfl, Nat.le_of_ble_eq_true rfl⟩ rfl hl.1.1 (as := [.int v16, .int v19]) (rest := []) (Nat.le_of_ble_eq_true rfl) dL_law_673 ⟨lc, ls2⟩ rfl (fun H locs hH => ?_)
  refine lv_iconst (v := 1) hx hb dL_law_676 (by decide) ?_
  refine lv_icmp_ne (tgt := 692) hx hb dL_law_677 (by decide) (fun hq => ?_) (fun hq => ?_)
  · have hf := kneg hq hf
    exact w_L_law_692 V hA LX SX hQ trivial hH (jl_sub hl [] rfl) hf hc hs
  · have hf := kpos hq hf
    exact w_L_law_680 V hA LX SX hQ hk22 hk374 trivial hH (jl_sub hl [0, 1, 2, 3, 4, 5, 6, 7, 8, 9, 10, 11, 12, 13, 14] rfl) hf hc hs
set_option maxHeartbeats 4000000 in
set_option maxRecDepth 100000 in
theorem w_L_law_657 (V : jV p s mm args meth c cL_law RL 24 (some .boolean) D g) (hA : ∀ q, s.heap.size ≤ q → A q) (LX : jLX l A s) (SX : jSX A s b L xs) (hQ : ∀ {H : Heap} {locs : List Loc} {ls : Array Slot} {cells slots : Nat}, va_S A s.heap H locs → cells ≤ 600130 → slots ≤ 7301080 → W p l e room_1 s mm args below meth c H locs cells slots Q (F0 mm 1222 ls [.int 1])) {c22 : Int32 → kS → kS → Option (Unit × Nat × Nat)} (hk22 : ∀ {ad : Nat → Nat} {v3 : Int32} {k : kS} {z : kS} {H : Heap} {locs : List Loc} {ls : Array Slot} {cells slots uc us : Nat} {o : Unit}, True → jH A s H locs D g ad z (jY adk g k mo) [] → jl_has ls 24 [(0, .ref b), (1, .ref (adk 0)), (2, .ref (ad 0)), (3, .int v3)] → c22 v3 k z = some (o, uc, us) → cells + uc ≤ 600130 → slots + us ≤ 7301080 → W p l e room_1 s mm args below meth c H locs cells slots Q (F0 mm 22 ls [])) {c374 : Int32 → Int32 → Int32 → Int32 → Int32 → Int32 → Int32 → Int32 → kS → kS → Option (Unit × Nat × Nat)} (hk374 : ∀ {ad : Nat → Nat} {v3 : Int32} {v4 : Int32} {v11 : Int32} {v12 : Int32} {v13 : Int32} {v14 : Int32} {v15 : Int32} {v16 : Int32} {k : kS} {z : kS} {H : Heap} {locs : List Loc} {ls : Array Slot} {cells slots uc us : Nat} {o : Unit}, True → jH A s H locs D g ad z (jY adk g k mo) [] → jl_has ls 24 [(0, .ref b), (1, .ref (adk 0)), (2, .ref (ad 0)), (3, .int v3), (4, .int v4), (11, .int v11), (12, .int v12), (13, .int v13), (14, .int v14), (15, .int v15), (16, .int v16)] → c374 v3 v4 v11 v12 v13 v14 v15 v16 k z = some (o, uc, us) → cells + uc ≤ 600130 → slots + us ≤ 7301080 → W p l e room_1 s mm args below meth c H locs cells slots Q (F0 mm 374 ls [])) {ad : Nat → Nat} {v3 : Int32} {v4 : Int32} {v11 : Int32} {v12 : Int32} {v13 : Int32} {v14 : Int32} {v15 : Int32} {v16 : Int32} {v17 : Int32} {v18 : Int32} {v19 : Int32} {v20 : Int32} {k : kS} {z : kS} {H : Heap} {locs : List Loc} {ls : Array Slot} {cells slots uc us : Nat} {o : Unit} (hG : True) (hH : jH A s H locs D g ad z (jY adk g k mo) []) (hl : jl_has ls 24 [(0, .ref b), (1, .ref (adk 0)), (2, .ref (ad 0)), (3, .int v3), (4, .int v4), (11, .int v11), (12, .int v12), (13, .int v13), (14, .int v14), (15, .int v15), (16, .int v16), (17, .int v17), (18, .int v18), (19, .int v19), (20, .int v20)]) (hf : F_L_law_657 xs L c22 c374 v3 v4 v11 v12 v13 v14 v15 v16 v17 v18 v19 v20 k z = some (o, uc, us)) (hc : cells + uc ≤ 600130) (hs : slots + us ≤ 7301080) : W p l e room_1 s mm args below meth c H locs cells slots Q (F0 mm 657 ls []) := by
  have hx := V.1
  have hb := V.2.1
  refine lv_aload_n hx hb dL_law_657 rfl (lv_at hl.1 1 rfl) ?_
  refine lv_iload hx hb dL_law_658 (lv_at hl.1 14 rfl) ?_
  refine lv_iconst (v := 0) hx hb dL_law_660 (by decide) ?_
  obtain ⟨x657_1, hx657_1, hf⟩ := kbind hf
  obtain ⟨h657_2, hf⟩ := kif hf
  obtain ⟨uc657_3, us657_4, hf, e1, e2⟩ := kadd_some2 hf
  have e1 : uc = 4 + uc657_3 := e1
  have e2 : us = 24 + us657_4 := e2
  have hc : cells + 4 + uc657_3 ≤ 600130 := by rw [Nat.add_assoc, ← e1]; exact hc
  have hs : slots + 24 + us657_4 ≤ 7301080 := by rw [Nat.add_assoc, ← e2]; exact hs
  have lc : cells + 4 ≤ 600130 := Nat.le_trans (Nat.le_add_right _ _) hc
  have ls2 : slots + 24 ≤ 7301080 := Nat.le_trans (Nat.le_add_right _ _) hs
  refine jc_callx V hA LX hH kYX5_person kl_L_132 (c_X5_person l LX.1 _ _ hx657_1 _) (Decidable.not_not.mp h657_2) rfl rfl ⟨Nat.le_of_ble_eq_true rfl, Nat.le_of_ble_eq_true rfl⟩ rfl hl.1.1 (as := [.int v20, .int 0]) (rest := []) (Nat.le_of_ble_eq_true rfl) dL_law_661 ⟨lc, ls2⟩ rfl (fun H locs hH => ?_)
  refine lv_iconst (v := 1) hx hb dL_law_664 (by decide) ?_
  refine lv_icmp_ne (tgt := 692) hx hb dL_law_665 (by decide) (fun hq => ?_) (fun hq => ?_)
  · have hf := kneg hq hf
    exact w_L_law_692 V hA LX SX hQ trivial hH (jl_sub hl [] rfl) hf hc hs
  · have hf := kpos hq hf
    exact w_L_law_668 V hA LX SX hQ hk22 hk374 trivial hH (jl_sub hl [0, 1, 2, 3, 4, 5, 6, 7, 8, 9, 10, 11, 12, 13, 14] rfl) hf hc hs
set_option maxHeartbeats 4000000 in
set_option maxRecDepth 100000 in
theorem w_L_law_647 (V : jV p s mm args meth c cL_law RL 24 (some .boolean) D g) (hA : ∀ q, s.heap.size ≤ q → A q) (LX : jLX l A s) (SX : jSX A s b L xs) (hQ : ∀ {H : Heap} {locs : List Loc} {ls : Array Slot} {cells slots : Nat}, va_S A s.heap H locs → cells ≤ 600130 → slots ≤ 7301080 → W p l e room_1 s mm args below meth c H locs cells slots Q (F0 mm 1222 ls [.int 1])) {c22 : Int32 → kS → kS → Option (Unit × Nat × Nat)} (hk22 : ∀ {ad : Nat → Nat} {v3 : Int32} {k : kS} {z : kS} {H : Heap} {locs : List Loc} {ls : Array Slot} {cells slots uc us : Nat} {o : Unit}, True → jH A s H locs D g ad z (jY adk g k mo) [] → jl_has ls 24 [(0, .ref b), (1, .ref (adk 0)), (2, .ref (ad 0)), (3, .int v3)] → c22 v3 k z = some (o, uc, us) → cells + uc ≤ 600130 → slots + us ≤ 7301080 → W p l e room_1 s mm args below meth c H locs cells slots Q (F0 mm 22 ls [])) {c374 : Int32 → Int32 → Int32 → Int32 → Int32 → Int32 → Int32 → Int32 → kS → kS → Option (Unit × Nat × Nat)} (hk374 : ∀ {ad : Nat → Nat} {v3 : Int32} {v4 : Int32} {v11 : Int32} {v12 : Int32} {v13 : Int32} {v14 : Int32} {v15 : Int32} {v16 : Int32} {k : kS} {z : kS} {H : Heap} {locs : List Loc} {ls : Array Slot} {cells slots uc us : Nat} {o : Unit}, True → jH A s H locs D g ad z (jY adk g k mo) [] → jl_has ls 24 [(0, .ref b), (1, .ref (adk 0)), (2, .ref (ad 0)), (3, .int v3), (4, .int v4), (11, .int v11), (12, .int v12), (13, .int v13), (14, .int v14), (15, .int v15), (16, .int v16)] → c374 v3 v4 v11 v12 v13 v14 v15 v16 k z = some (o, uc, us) → cells + uc ≤ 600130 → slots + us ≤ 7301080 → W p l e room_1 s mm args below meth c H locs cells slots Q (F0 mm 374 ls [])) {ad : Nat → Nat} {v3 : Int32} {v4 : Int32} {v11 : Int32} {v12 : Int32} {v13 : Int32} {v14 : Int32} {v15 : Int32} {v16 : Int32} {v17 : Int32} {v18 : Int32} {v19 : Int32} {v20 : Int32} {k : kS} {z : kS} {H : Heap} {locs : List Loc} {ls : Array Slot} {cells slots uc us : Nat} {o : Unit} (hG : True) (hH : jH A s H locs D g ad z (jY adk g k mo) []) (hl : jl_has ls 24 [(0, .ref b), (1, .ref (adk 0)), (2, .ref (ad 0)), (3, .int v3), (4, .int v4), (11, .int v11), (12, .int v12), (13, .int v13), (14, .int v14), (15, .int v15), (16, .int v16), (17, .int v17), (18, .int v18), (19, .int v19), (20, .int v20)]) (hf : F_L_law_647 xs L c22 c374 v3 v4 v11 v12 v13 v14 v15 v16 v17 v18 v19 v20 k z = some (o, uc, us)) (hc : cells + uc ≤ 600130) (hs : slots + us ≤ 7301080) : W p l e room_1 s mm args below meth c H locs cells slots Q (F0 mm 647 ls []) := by
  have hx := V.1
  have hb := V.2.1
  refine lv_aload_n hx hb dL_law_647 rfl (lv_at hl.1 1 rfl) ?_
  refine lv_iload hx hb dL_law_648 (lv_at hl.1 13 rfl) ?_
  refine lv_iconst (v := 0) hx hb dL_law_650 (by decide) ?_
  obtain ⟨x647_1, hx647_1, hf⟩ := kbind hf
  obtain ⟨h647_2, hf⟩ := kif hf
  obtain ⟨uc647_3, us647_4, hf, e1, e2⟩ := kadd_some2 hf
  have e1 : uc = 4 + uc647_3 := e1
  have e2 : us = 24 + us647_4 := e2
  have hc : cells + 4 + uc647_3 ≤ 600130 := by rw [Nat.add_assoc, ← e1]; exact hc
  have hs : slots + 24 + us647_4 ≤ 7301080 := by rw [Nat.add_assoc, ← e2]; exact hs
  have lc : cells + 4 ≤ 600130 := Nat.le_trans (Nat.le_add_right _ _) hc
  have ls2 : slots + 24 ≤ 7301080 := Nat.le_trans (Nat.le_add_right _ _) hs
  refine jc_callx V hA LX hH kYX5_person kl_L_132 (c_X5_person l LX.1 _ _ hx647_1 _) (Decidable.not_not.mp h647_2) rfl rfl ⟨Nat.le_of_ble_eq_true rfl, Nat.le_of_ble_eq_true rfl⟩ rfl hl.1.1 (as := [.int v19, .int 0]) (rest := []) (Nat.le_of_ble_eq_true rfl) dL_law_651 ⟨lc, ls2⟩ rfl (fun H locs hH => ?_)
  refine lv_if_ne (tgt := 692) hx hb dL_law_654 (by decide) (fun hq => ?_) (fun hq => ?_)
  · have hf := kneg hq hf
    exact w_L_law_692 V hA LX SX hQ trivial hH (jl_sub hl [] rfl) hf hc hs
  · have hf := kpos hq hf
    exact w_L_law_657 V hA LX SX hQ hk22 hk374 trivial hH (jl_sub hl [0, 1, 2, 3, 4, 5, 6, 7, 8, 9, 10, 11, 12, 13, 14] rfl) hf hc hs
set_option maxHeartbeats 4000000 in
set_option maxRecDepth 100000 in
theorem w_L_law_640 (V : jV p s mm args meth c cL_law RL 24 (some .boolean) D g) (hA : ∀ q, s.heap.size ≤ q → A q) (LX : jLX l A s) (SX : jSX A s b L xs) (hQ : ∀ {H : Heap} {locs : List Loc} {ls : Array Slot} {cells slots : Nat}, va_S A s.heap H locs → cells ≤ 600130 → slots ≤ 7301080 → W p l e room_1 s mm args below meth c H locs cells slots Q (F0 mm 1222 ls [.int 1])) {c22 : Int32 → kS → kS → Option (Unit × Nat × Nat)} (hk22 : ∀ {ad : Nat → Nat} {v3 : Int32} {k : kS} {z : kS} {H : Heap} {locs : List Loc} {ls : Array Slot} {cells slots uc us : Nat} {o : Unit}, True → jH A s H locs D g ad z (jY adk g k mo) [] → jl_has ls 24 [(0, .ref b), (1, .ref (adk 0)), (2, .ref (ad 0)), (3, .int v3)] → c22 v3 k z = some (o, uc, us) → cells + uc ≤ 600130 → slots + us ≤ 7301080 → W p l e room_1 s mm args below meth c H locs cells slots Q (F0 mm 22 ls [])) {c374 : Int32 → Int32 → Int32 → Int32 → Int32 → Int32 → Int32 → Int32 → kS → kS → Option (Unit × Nat × Nat)} (hk374 : ∀ {ad : Nat → Nat} {v3 : Int32} {v4 : Int32} {v11 : Int32} {v12 : Int32} {v13 : Int32} {v14 : Int32} {v15 : Int32} {v16 : Int32} {k : kS} {z : kS} {H : Heap} {locs : List Loc} {ls : Array Slot} {cells slots uc us : Nat} {o : Unit}, True → jH A s H locs D g ad z (jY adk g k mo) [] → jl_has ls 24 [(0, .ref b), (1, .ref (adk 0)), (2, .ref (ad 0)), (3, .int v3), (4, .int v4), (11, .int v11), (12, .int v12), (13, .int v13), (14, .int v14), (15, .int v15), (16, .int v16)] → c374 v3 v4 v11 v12 v13 v14 v15 v16 k z = some (o, uc, us) → cells + uc ≤ 600130 → slots + us ≤ 7301080 → W p l e room_1 s mm args below meth c H locs cells slots Q (F0 mm 374 ls [])) {ad : Nat → Nat} {v3 : Int32} {v4 : Int32} {v11 : Int32} {v12 : Int32} {v13 : Int32} {v14 : Int32} {v15 : Int32} {v16 : Int32} {v17 : Int32} {v18 : Int32} {v19 : Int32} {v20 : Int32} {k : kS} {z : kS} {H : Heap} {locs : List Loc} {ls : Array Slot} {cells slots uc us : Nat} {o : Unit} (hG : True) (hH : jH A s H locs D g ad z (jY adk g k mo) []) (hl : jl_has ls 24 [(0, .ref b), (1, .ref (adk 0)), (2, .ref (ad 0)), (3, .int v3), (4, .int v4), (11, .int v11), (12, .int v12), (13, .int v13), (14, .int v14), (15, .int v15), (16, .int v16), (17, .int v17), (18, .int v18), (19, .int v19), (20, .int v20)]) (hf : F_L_law_640 xs L c22 c374 v3 v4 v11 v12 v13 v14 v15 v16 v17 v18 v19 v20 k z = some (o, uc, us)) (hc : cells + uc ≤ 600130) (hs : slots + us ≤ 7301080) : W p l e room_1 s mm args below meth c H locs cells slots Q (F0 mm 640 ls []) := by
  have hx := V.1
  have hb := V.2.1
  refine lv_iload hx hb dL_law_640 (lv_at hl.1 14 rfl) ?_
  refine lv_iload hx hb dL_law_642 (lv_at hl.1 10 rfl) ?_
  refine lv_icmp_ge (tgt := 692) hx hb dL_law_644 (by decide) (fun hq => ?_) (fun hq => ?_)
  · have hf := kpos hq hf
    exact w_L_law_692 V hA LX SX hQ trivial hH (jl_sub hl [] rfl) hf hc hs
  · have hf := kneg hq hf
    exact w_L_law_647 V hA LX SX hQ hk22 hk374 trivial hH (jl_sub hl [0, 1, 2, 3, 4, 5, 6, 7, 8, 9, 10, 11, 12, 13, 14] rfl) hf hc hs
set_option maxHeartbeats 4000000 in
set_option maxRecDepth 100000 in
theorem w_L_law_633 (V : jV p s mm args meth c cL_law RL 24 (some .boolean) D g) (hA : ∀ q, s.heap.size ≤ q → A q) (LX : jLX l A s) (SX : jSX A s b L xs) (hQ : ∀ {H : Heap} {locs : List Loc} {ls : Array Slot} {cells slots : Nat}, va_S A s.heap H locs → cells ≤ 600130 → slots ≤ 7301080 → W p l e room_1 s mm args below meth c H locs cells slots Q (F0 mm 1222 ls [.int 1])) {c22 : Int32 → kS → kS → Option (Unit × Nat × Nat)} (hk22 : ∀ {ad : Nat → Nat} {v3 : Int32} {k : kS} {z : kS} {H : Heap} {locs : List Loc} {ls : Array Slot} {cells slots uc us : Nat} {o : Unit}, True → jH A s H locs D g ad z (jY adk g k mo) [] → jl_has ls 24 [(0, .ref b), (1, .ref (adk 0)), (2, .ref (ad 0)), (3, .int v3)] → c22 v3 k z = some (o, uc, us) → cells + uc ≤ 600130 → slots + us ≤ 7301080 → W p l e room_1 s mm args below meth c H locs cells slots Q (F0 mm 22 ls [])) {c374 : Int32 → Int32 → Int32 → Int32 → Int32 → Int32 → Int32 → Int32 → kS → kS → Option (Unit × Nat × Nat)} (hk374 : ∀ {ad : Nat → Nat} {v3 : Int32} {v4 : Int32} {v11 : Int32} {v12 : Int32} {v13 : Int32} {v14 : Int32} {v15 : Int32} {v16 : Int32} {k : kS} {z : kS} {H : Heap} {locs : List Loc} {ls : Array Slot} {cells slots uc us : Nat} {o : Unit}, True → jH A s H locs D g ad z (jY adk g k mo) [] → jl_has ls 24 [(0, .ref b), (1, .ref (adk 0)), (2, .ref (ad 0)), (3, .int v3), (4, .int v4), (11, .int v11), (12, .int v12), (13, .int v13), (14, .int v14), (15, .int v15), (16, .int v16)] → c374 v3 v4 v11 v12 v13 v14 v15 v16 k z = some (o, uc, us) → cells + uc ≤ 600130 → slots + us ≤ 7301080 → W p l e room_1 s mm args below meth c H locs cells slots Q (F0 mm 374 ls [])) {ad : Nat → Nat} {v3 : Int32} {v4 : Int32} {v11 : Int32} {v12 : Int32} {v13 : Int32} {v14 : Int32} {v15 : Int32} {v16 : Int32} {v17 : Int32} {v18 : Int32} {v19 : Int32} {v20 : Int32} {k : kS} {z : kS} {H : Heap} {locs : List Loc} {ls : Array Slot} {cells slots uc us : Nat} {o : Unit} (hG : True) (hH : jH A s H locs D g ad z (jY adk g k mo) []) (hl : jl_has ls 24 [(0, .ref b), (1, .ref (adk 0)), (2, .ref (ad 0)), (3, .int v3), (4, .int v4), (11, .int v11), (12, .int v12), (13, .int v13), (14, .int v14), (15, .int v15), (16, .int v16), (17, .int v17), (18, .int v18), (19, .int v19), (20, .int v20)]) (hf : F_L_law_633 xs L c22 c374 v3 v4 v11 v12 v13 v14 v15 v16 v17 v18 v19 v20 k z = some (o, uc, us)) (hc : cells + uc ≤ 600130) (hs : slots + us ≤ 7301080) : W p l e room_1 s mm args below meth c H locs cells slots Q (F0 mm 633 ls []) := by
  have hx := V.1
  have hb := V.2.1
  refine lv_iload hx hb dL_law_633 (lv_at hl.1 13 rfl) ?_
  refine lv_iload hx hb dL_law_635 (lv_at hl.1 10 rfl) ?_
  refine lv_icmp_ge (tgt := 692) hx hb dL_law_637 (by decide) (fun hq => ?_) (fun hq => ?_)
  · have hf := kpos hq hf
    exact w_L_law_692 V hA LX SX hQ trivial hH (jl_sub hl [] rfl) hf hc hs
  · have hf := kneg hq hf
    exact w_L_law_640 V hA LX SX hQ hk22 hk374 trivial hH (jl_sub hl [0, 1, 2, 3, 4, 5, 6, 7, 8, 9, 10, 11, 12, 13, 14] rfl) hf hc hs
set_option maxHeartbeats 4000000 in
set_option maxRecDepth 100000 in
theorem w_L_law_628 (V : jV p s mm args meth c cL_law RL 24 (some .boolean) D g) (hA : ∀ q, s.heap.size ≤ q → A q) (LX : jLX l A s) (SX : jSX A s b L xs) (hQ : ∀ {H : Heap} {locs : List Loc} {ls : Array Slot} {cells slots : Nat}, va_S A s.heap H locs → cells ≤ 600130 → slots ≤ 7301080 → W p l e room_1 s mm args below meth c H locs cells slots Q (F0 mm 1222 ls [.int 1])) {c22 : Int32 → kS → kS → Option (Unit × Nat × Nat)} (hk22 : ∀ {ad : Nat → Nat} {v3 : Int32} {k : kS} {z : kS} {H : Heap} {locs : List Loc} {ls : Array Slot} {cells slots uc us : Nat} {o : Unit}, True → jH A s H locs D g ad z (jY adk g k mo) [] → jl_has ls 24 [(0, .ref b), (1, .ref (adk 0)), (2, .ref (ad 0)), (3, .int v3)] → c22 v3 k z = some (o, uc, us) → cells + uc ≤ 600130 → slots + us ≤ 7301080 → W p l e room_1 s mm args below meth c H locs cells slots Q (F0 mm 22 ls [])) {c374 : Int32 → Int32 → Int32 → Int32 → Int32 → Int32 → Int32 → Int32 → kS → kS → Option (Unit × Nat × Nat)} (hk374 : ∀ {ad : Nat → Nat} {v3 : Int32} {v4 : Int32} {v11 : Int32} {v12 : Int32} {v13 : Int32} {v14 : Int32} {v15 : Int32} {v16 : Int32} {k : kS} {z : kS} {H : Heap} {locs : List Loc} {ls : Array Slot} {cells slots uc us : Nat} {o : Unit}, True → jH A s H locs D g ad z (jY adk g k mo) [] → jl_has ls 24 [(0, .ref b), (1, .ref (adk 0)), (2, .ref (ad 0)), (3, .int v3), (4, .int v4), (11, .int v11), (12, .int v12), (13, .int v13), (14, .int v14), (15, .int v15), (16, .int v16)] → c374 v3 v4 v11 v12 v13 v14 v15 v16 k z = some (o, uc, us) → cells + uc ≤ 600130 → slots + us ≤ 7301080 → W p l e room_1 s mm args below meth c H locs cells slots Q (F0 mm 374 ls [])) {ad : Nat → Nat} {v3 : Int32} {v4 : Int32} {v11 : Int32} {v12 : Int32} {v13 : Int32} {v14 : Int32} {v15 : Int32} {v16 : Int32} {v17 : Int32} {v18 : Int32} {v19 : Int32} {v20 : Int32} {k : kS} {z : kS} {H : Heap} {locs : List Loc} {ls : Array Slot} {cells slots uc us : Nat} {o : Unit} (hG : True) (hH : jH A s H locs D g ad z (jY adk g k mo) []) (hl : jl_has ls 24 [(0, .ref b), (1, .ref (adk 0)), (2, .ref (ad 0)), (3, .int v3), (4, .int v4), (11, .int v11), (12, .int v12), (13, .int v13), (14, .int v14), (15, .int v15), (16, .int v16), (17, .int v17), (18, .int v18), (19, .int v19), (20, .int v20)]) (hf : F_L_law_628 xs L c22 c374 v3 v4 v11 v12 v13 v14 v15 v16 v17 v18 v19 v20 k z = some (o, uc, us)) (hc : cells + uc ≤ 600130) (hs : slots + us ≤ 7301080) : W p l e room_1 s mm args below meth c H locs cells slots Q (F0 mm 628 ls []) := by
  have hx := V.1
  have hb := V.2.1
  refine lv_iload hx hb dL_law_628 (lv_at hl.1 13 rfl) ?_
  refine lv_if_lt (tgt := 694) hx hb dL_law_630 (by decide) (fun hq => ?_) (fun hq => ?_)
  · have hf := kpos hq hf
    exact w_L_law_694 V hA LX SX hQ hk22 hk374 trivial hH (jl_sub hl [0, 1, 2, 3, 4, 5, 6, 7, 8, 9, 10, 11, 12, 13] rfl) hf hc hs
  · have hf := kneg hq hf
    exact w_L_law_633 V hA LX SX hQ hk22 hk374 trivial hH (jl_sub hl [0, 1, 2, 3, 4, 5, 6, 7, 8, 9, 10, 11, 12, 13, 14] rfl) hf hc hs
set_option maxHeartbeats 4000000 in
set_option maxRecDepth 100000 in
theorem w_L_law_623 (V : jV p s mm args meth c cL_law RL 24 (some .boolean) D g) (hA : ∀ q, s.heap.size ≤ q → A q) (LX : jLX l A s) (SX : jSX A s b L xs) (hQ : ∀ {H : Heap} {locs : List Loc} {ls : Array Slot} {cells slots : Nat}, va_S A s.heap H locs → cells ≤ 600130 → slots ≤ 7301080 → W p l e room_1 s mm args below meth c H locs cells slots Q (F0 mm 1222 ls [.int 1])) {c22 : Int32 → kS → kS → Option (Unit × Nat × Nat)} (hk22 : ∀ {ad : Nat → Nat} {v3 : Int32} {k : kS} {z : kS} {H : Heap} {locs : List Loc} {ls : Array Slot} {cells slots uc us : Nat} {o : Unit}, True → jH A s H locs D g ad z (jY adk g k mo) [] → jl_has ls 24 [(0, .ref b), (1, .ref (adk 0)), (2, .ref (ad 0)), (3, .int v3)] → c22 v3 k z = some (o, uc, us) → cells + uc ≤ 600130 → slots + us ≤ 7301080 → W p l e room_1 s mm args below meth c H locs cells slots Q (F0 mm 22 ls [])) {c374 : Int32 → Int32 → Int32 → Int32 → Int32 → Int32 → Int32 → Int32 → kS → kS → Option (Unit × Nat × Nat)} (hk374 : ∀ {ad : Nat → Nat} {v3 : Int32} {v4 : Int32} {v11 : Int32} {v12 : Int32} {v13 : Int32} {v14 : Int32} {v15 : Int32} {v16 : Int32} {k : kS} {z : kS} {H : Heap} {locs : List Loc} {ls : Array Slot} {cells slots uc us : Nat} {o : Unit}, True → jH A s H locs D g ad z (jY adk g k mo) [] → jl_has ls 24 [(0, .ref b), (1, .ref (adk 0)), (2, .ref (ad 0)), (3, .int v3), (4, .int v4), (11, .int v11), (12, .int v12), (13, .int v13), (14, .int v14), (15, .int v15), (16, .int v16)] → c374 v3 v4 v11 v12 v13 v14 v15 v16 k z = some (o, uc, us) → cells + uc ≤ 600130 → slots + us ≤ 7301080 → W p l e room_1 s mm args below meth c H locs cells slots Q (F0 mm 374 ls [])) {ad : Nat → Nat} {s0 : Int32} {s1 : Int32} {v3 : Int32} {v4 : Int32} {v11 : Int32} {v12 : Int32} {v13 : Int32} {v14 : Int32} {v15 : Int32} {v16 : Int32} {v17 : Int32} {v18 : Int32} {v19 : Int32} {v20 : Int32} {k : kS} {z : kS} {H : Heap} {locs : List Loc} {ls : Array Slot} {cells slots uc us : Nat} {o : Unit} (hG : True) (hH : jH A s H locs D g ad z (jY adk g k mo) []) (hl : jl_has ls 24 [(0, .ref b), (1, .ref (adk 0)), (2, .ref (ad 0)), (3, .int v3), (4, .int v4), (11, .int v11), (12, .int v12), (13, .int v13), (14, .int v14), (15, .int v15), (16, .int v16), (17, .int v17), (18, .int v18), (19, .int v19), (20, .int v20)]) (hf : F_L_law_623 xs L c22 c374 s0 s1 v3 v4 v11 v12 v13 v14 v15 v16 v17 v18 v19 v20 k z = some (o, uc, us)) (hc : cells + uc ≤ 600130) (hs : slots + us ≤ 7301080) : W p l e room_1 s mm args below meth c H locs cells slots Q (F0 mm 623 ls [.int s1, .int s0]) := by
  have hx := V.1
  have hb := V.2.1
  refine lv_icmp_eq (tgt := 628) hx hb dL_law_623 (by decide) (fun hq => ?_) (fun hq => ?_)
  · have hf := kpos hq hf
    exact w_L_law_628 V hA LX SX hQ hk22 hk374 trivial hH (jl_sub hl [0, 1, 2, 3, 4, 5, 6, 7, 8, 9, 10, 11, 12, 13, 14] rfl) hf hc hs
  · have hf := kneg hq hf
    exact w_L_law_626 V hA LX SX hQ trivial hH (jl_sub hl [] rfl) hf hc hs
set_option maxHeartbeats 4000000 in
set_option maxRecDepth 100000 in
theorem w_L_law_618 (V : jV p s mm args meth c cL_law RL 24 (some .boolean) D g) (hA : ∀ q, s.heap.size ≤ q → A q) (LX : jLX l A s) (SX : jSX A s b L xs) (hQ : ∀ {H : Heap} {locs : List Loc} {ls : Array Slot} {cells slots : Nat}, va_S A s.heap H locs → cells ≤ 600130 → slots ≤ 7301080 → W p l e room_1 s mm args below meth c H locs cells slots Q (F0 mm 1222 ls [.int 1])) {c22 : Int32 → kS → kS → Option (Unit × Nat × Nat)} (hk22 : ∀ {ad : Nat → Nat} {v3 : Int32} {k : kS} {z : kS} {H : Heap} {locs : List Loc} {ls : Array Slot} {cells slots uc us : Nat} {o : Unit}, True → jH A s H locs D g ad z (jY adk g k mo) [] → jl_has ls 24 [(0, .ref b), (1, .ref (adk 0)), (2, .ref (ad 0)), (3, .int v3)] → c22 v3 k z = some (o, uc, us) → cells + uc ≤ 600130 → slots + us ≤ 7301080 → W p l e room_1 s mm args below meth c H locs cells slots Q (F0 mm 22 ls [])) {c374 : Int32 → Int32 → Int32 → Int32 → Int32 → Int32 → Int32 → Int32 → kS → kS → Option (Unit × Nat × Nat)} (hk374 : ∀ {ad : Nat → Nat} {v3 : Int32} {v4 : Int32} {v11 : Int32} {v12 : Int32} {v13 : Int32} {v14 : Int32} {v15 : Int32} {v16 : Int32} {k : kS} {z : kS} {H : Heap} {locs : List Loc} {ls : Array Slot} {cells slots uc us : Nat} {o : Unit}, True → jH A s H locs D g ad z (jY adk g k mo) [] → jl_has ls 24 [(0, .ref b), (1, .ref (adk 0)), (2, .ref (ad 0)), (3, .int v3), (4, .int v4), (11, .int v11), (12, .int v12), (13, .int v13), (14, .int v14), (15, .int v15), (16, .int v16)] → c374 v3 v4 v11 v12 v13 v14 v15 v16 k z = some (o, uc, us) → cells + uc ≤ 600130 → slots + us ≤ 7301080 → W p l e room_1 s mm args below meth c H locs cells slots Q (F0 mm 374 ls [])) {ad : Nat → Nat} {s0 : Int32} {v3 : Int32} {v4 : Int32} {v11 : Int32} {v12 : Int32} {v13 : Int32} {v14 : Int32} {v15 : Int32} {v16 : Int32} {v17 : Int32} {v18 : Int32} {v19 : Int32} {v20 : Int32} {k : kS} {z : kS} {H : Heap} {locs : List Loc} {ls : Array Slot} {cells slots uc us : Nat} {o : Unit} (hG : True) (hH : jH A s H locs D g ad z (jY adk g k mo) []) (hl : jl_has ls 24 [(0, .ref b), (1, .ref (adk 0)), (2, .ref (ad 0)), (3, .int v3), (4, .int v4), (11, .int v11), (12, .int v12), (13, .int v13), (14, .int v14), (15, .int v15), (16, .int v16), (17, .int v17), (18, .int v18), (19, .int v19), (20, .int v20)]) (hf : F_L_law_618 xs L c22 c374 s0 v3 v4 v11 v12 v13 v14 v15 v16 v17 v18 v19 v20 k z = some (o, uc, us)) (hc : cells + uc ≤ 600130) (hs : slots + us ≤ 7301080) : W p l e room_1 s mm args below meth c H locs cells slots Q (F0 mm 618 ls [.int s0]) := by
  have hx := V.1
  have hb := V.2.1
  refine lv_iconst (v := 1) hx hb dL_law_618 (by decide) ?_
  refine lv_goto (tgt := 623) hx hb dL_law_619 (by decide) ?_
  exact w_L_law_623 V hA LX SX hQ hk22 hk374 trivial hH (jl_sub hl [0, 1, 2, 3, 4, 5, 6, 7, 8, 9, 10, 11, 12, 13, 14] rfl) hf hc hs
set_option maxHeartbeats 4000000 in
set_option maxRecDepth 100000 in
theorem w_L_law_622 (V : jV p s mm args meth c cL_law RL 24 (some .boolean) D g) (hA : ∀ q, s.heap.size ≤ q → A q) (LX : jLX l A s) (SX : jSX A s b L xs) (hQ : ∀ {H : Heap} {locs : List Loc} {ls : Array Slot} {cells slots : Nat}, va_S A s.heap H locs → cells ≤ 600130 → slots ≤ 7301080 → W p l e room_1 s mm args below meth c H locs cells slots Q (F0 mm 1222 ls [.int 1])) {c22 : Int32 → kS → kS → Option (Unit × Nat × Nat)} (hk22 : ∀ {ad : Nat → Nat} {v3 : Int32} {k : kS} {z : kS} {H : Heap} {locs : List Loc} {ls : Array Slot} {cells slots uc us : Nat} {o : Unit}, True → jH A s H locs D g ad z (jY adk g k mo) [] → jl_has ls 24 [(0, .ref b), (1, .ref (adk 0)), (2, .ref (ad 0)), (3, .int v3)] → c22 v3 k z = some (o, uc, us) → cells + uc ≤ 600130 → slots + us ≤ 7301080 → W p l e room_1 s mm args below meth c H locs cells slots Q (F0 mm 22 ls [])) {c374 : Int32 → Int32 → Int32 → Int32 → Int32 → Int32 → Int32 → Int32 → kS → kS → Option (Unit × Nat × Nat)} (hk374 : ∀ {ad : Nat → Nat} {v3 : Int32} {v4 : Int32} {v11 : Int32} {v12 : Int32} {v13 : Int32} {v14 : Int32} {v15 : Int32} {v16 : Int32} {k : kS} {z : kS} {H : Heap} {locs : List Loc} {ls : Array Slot} {cells slots uc us : Nat} {o : Unit}, True → jH A s H locs D g ad z (jY adk g k mo) [] → jl_has ls 24 [(0, .ref b), (1, .ref (adk 0)), (2, .ref (ad 0)), (3, .int v3), (4, .int v4), (11, .int v11), (12, .int v12), (13, .int v13), (14, .int v14), (15, .int v15), (16, .int v16)] → c374 v3 v4 v11 v12 v13 v14 v15 v16 k z = some (o, uc, us) → cells + uc ≤ 600130 → slots + us ≤ 7301080 → W p l e room_1 s mm args below meth c H locs cells slots Q (F0 mm 374 ls [])) {ad : Nat → Nat} {s0 : Int32} {v3 : Int32} {v4 : Int32} {v11 : Int32} {v12 : Int32} {v13 : Int32} {v14 : Int32} {v15 : Int32} {v16 : Int32} {v17 : Int32} {v18 : Int32} {v19 : Int32} {v20 : Int32} {k : kS} {z : kS} {H : Heap} {locs : List Loc} {ls : Array Slot} {cells slots uc us : Nat} {o : Unit} (hG : True) (hH : jH A s H locs D g ad z (jY adk g k mo) []) (hl : jl_has ls 24 [(0, .ref b), (1, .ref (adk 0)), (2, .ref (ad 0)), (3, .int v3), (4, .int v4), (11, .int v11), (12, .int v12), (13, .int v13), (14, .int v14), (15, .int v15), (16, .int v16), (17, .int v17), (18, .int v18), (19, .int v19), (20, .int v20)]) (hf : F_L_law_622 xs L c22 c374 s0 v3 v4 v11 v12 v13 v14 v15 v16 v17 v18 v19 v20 k z = some (o, uc, us)) (hc : cells + uc ≤ 600130) (hs : slots + us ≤ 7301080) : W p l e room_1 s mm args below meth c H locs cells slots Q (F0 mm 622 ls [.int s0]) := by
  have hx := V.1
  have hb := V.2.1
  refine lv_iconst (v := 0) hx hb dL_law_622 (by decide) ?_
  exact w_L_law_623 V hA LX SX hQ hk22 hk374 trivial hH (jl_sub hl [0, 1, 2, 3, 4, 5, 6, 7, 8, 9, 10, 11, 12, 13, 14] rfl) hf hc hs
set_option maxHeartbeats 4000000 in
set_option maxRecDepth 100000 in
theorem w_L_law_613 (V : jV p s mm args meth c cL_law RL 24 (some .boolean) D g) (hA : ∀ q, s.heap.size ≤ q → A q) (LX : jLX l A s) (SX : jSX A s b L xs) (hQ : ∀ {H : Heap} {locs : List Loc} {ls : Array Slot} {cells slots : Nat}, va_S A s.heap H locs → cells ≤ 600130 → slots ≤ 7301080 → W p l e room_1 s mm args below meth c H locs cells slots Q (F0 mm 1222 ls [.int 1])) {c22 : Int32 → kS → kS → Option (Unit × Nat × Nat)} (hk22 : ∀ {ad : Nat → Nat} {v3 : Int32} {k : kS} {z : kS} {H : Heap} {locs : List Loc} {ls : Array Slot} {cells slots uc us : Nat} {o : Unit}, True → jH A s H locs D g ad z (jY adk g k mo) [] → jl_has ls 24 [(0, .ref b), (1, .ref (adk 0)), (2, .ref (ad 0)), (3, .int v3)] → c22 v3 k z = some (o, uc, us) → cells + uc ≤ 600130 → slots + us ≤ 7301080 → W p l e room_1 s mm args below meth c H locs cells slots Q (F0 mm 22 ls [])) {c374 : Int32 → Int32 → Int32 → Int32 → Int32 → Int32 → Int32 → Int32 → kS → kS → Option (Unit × Nat × Nat)} (hk374 : ∀ {ad : Nat → Nat} {v3 : Int32} {v4 : Int32} {v11 : Int32} {v12 : Int32} {v13 : Int32} {v14 : Int32} {v15 : Int32} {v16 : Int32} {k : kS} {z : kS} {H : Heap} {locs : List Loc} {ls : Array Slot} {cells slots uc us : Nat} {o : Unit}, True → jH A s H locs D g ad z (jY adk g k mo) [] → jl_has ls 24 [(0, .ref b), (1, .ref (adk 0)), (2, .ref (ad 0)), (3, .int v3), (4, .int v4), (11, .int v11), (12, .int v12), (13, .int v13), (14, .int v14), (15, .int v15), (16, .int v16)] → c374 v3 v4 v11 v12 v13 v14 v15 v16 k z = some (o, uc, us) → cells + uc ≤ 600130 → slots + us ≤ 7301080 → W p l e room_1 s mm args below meth c H locs cells slots Q (F0 mm 374 ls [])) {ad : Nat → Nat} {s0 : Int32} {v3 : Int32} {v4 : Int32} {v11 : Int32} {v12 : Int32} {v13 : Int32} {v14 : Int32} {v15 : Int32} {v16 : Int32} {v17 : Int32} {v18 : Int32} {v19 : Int32} {v20 : Int32} {k : kS} {z : kS} {H : Heap} {locs : List Loc} {ls : Array Slot} {cells slots uc us : Nat} {o : Unit} (hG : True) (hH : jH A s H locs D g ad z (jY adk g k mo) []) (hl : jl_has ls 24 [(0, .ref b), (1, .ref (adk 0)), (2, .ref (ad 0)), (3, .int v3), (4, .int v4), (11, .int v11), (12, .int v12), (13, .int v13), (14, .int v14), (15, .int v15), (16, .int v16), (17, .int v17), (18, .int v18), (19, .int v19), (20, .int v20)]) (hf : F_L_law_613 xs L c22 c374 s0 v3 v4 v11 v12 v13 v14 v15 v16 v17 v18 v19 v20 k z = some (o, uc, us)) (hc : cells + uc ≤ 600130) (hs : slots + us ≤ 7301080) : W p l e room_1 s mm args below meth c H locs cells slots Q (F0 mm 613 ls [.int s0]) := by
  have hx := V.1
  have hb := V.2.1
  refine lv_iload hx hb dL_law_613 (lv_at hl.1 14 rfl) ?_
  refine lv_if_lt (tgt := 622) hx hb dL_law_615 (by decide) (fun hq => ?_) (fun hq => ?_)
  · have hf := kpos hq hf
    exact w_L_law_622 V hA LX SX hQ hk22 hk374 trivial hH (jl_sub hl [0, 1, 2, 3, 4, 5, 6, 7, 8, 9, 10, 11, 12, 13, 14] rfl) hf hc hs
  · have hf := kneg hq hf
    exact w_L_law_618 V hA LX SX hQ hk22 hk374 trivial hH (jl_sub hl [0, 1, 2, 3, 4, 5, 6, 7, 8, 9, 10, 11, 12, 13, 14] rfl) hf hc hs
set_option maxHeartbeats 4000000 in
set_option maxRecDepth 100000 in
theorem w_L_law_608 (V : jV p s mm args meth c cL_law RL 24 (some .boolean) D g) (hA : ∀ q, s.heap.size ≤ q → A q) (LX : jLX l A s) (SX : jSX A s b L xs) (hQ : ∀ {H : Heap} {locs : List Loc} {ls : Array Slot} {cells slots : Nat}, va_S A s.heap H locs → cells ≤ 600130 → slots ≤ 7301080 → W p l e room_1 s mm args below meth c H locs cells slots Q (F0 mm 1222 ls [.int 1])) {c22 : Int32 → kS → kS → Option (Unit × Nat × Nat)} (hk22 : ∀ {ad : Nat → Nat} {v3 : Int32} {k : kS} {z : kS} {H : Heap} {locs : List Loc} {ls : Array Slot} {cells slots uc us : Nat} {o : Unit}, True → jH A s H locs D g ad z (jY adk g k mo) [] → jl_has ls 24 [(0, .ref b), (1, .ref (adk 0)), (2, .ref (ad 0)), (3, .int v3)] → c22 v3 k z = some (o, uc, us) → cells + uc ≤ 600130 → slots + us ≤ 7301080 → W p l e room_1 s mm args below meth c H locs cells slots Q (F0 mm 22 ls [])) {c374 : Int32 → Int32 → Int32 → Int32 → Int32 → Int32 → Int32 → Int32 → kS → kS → Option (Unit × Nat × Nat)} (hk374 : ∀ {ad : Nat → Nat} {v3 : Int32} {v4 : Int32} {v11 : Int32} {v12 : Int32} {v13 : Int32} {v14 : Int32} {v15 : Int32} {v16 : Int32} {k : kS} {z : kS} {H : Heap} {locs : List Loc} {ls : Array Slot} {cells slots uc us : Nat} {o : Unit}, True → jH A s H locs D g ad z (jY adk g k mo) [] → jl_has ls 24 [(0, .ref b), (1, .ref (adk 0)), (2, .ref (ad 0)), (3, .int v3), (4, .int v4), (11, .int v11), (12, .int v12), (13, .int v13), (14, .int v14), (15, .int v15), (16, .int v16)] → c374 v3 v4 v11 v12 v13 v14 v15 v16 k z = some (o, uc, us) → cells + uc ≤ 600130 → slots + us ≤ 7301080 → W p l e room_1 s mm args below meth c H locs cells slots Q (F0 mm 374 ls [])) {ad : Nat → Nat} {v3 : Int32} {v4 : Int32} {v11 : Int32} {v12 : Int32} {v13 : Int32} {v14 : Int32} {v15 : Int32} {v16 : Int32} {v17 : Int32} {v18 : Int32} {v19 : Int32} {v20 : Int32} {k : kS} {z : kS} {H : Heap} {locs : List Loc} {ls : Array Slot} {cells slots uc us : Nat} {o : Unit} (hG : True) (hH : jH A s H locs D g ad z (jY adk g k mo) []) (hl : jl_has ls 24 [(0, .ref b), (1, .ref (adk 0)), (2, .ref (ad 0)), (3, .int v3), (4, .int v4), (11, .int v11), (12, .int v12), (13, .int v13), (14, .int v14), (15, .int v15), (16, .int v16), (17, .int v17), (18, .int v18), (19, .int v19), (20, .int v20)]) (hf : F_L_law_608 xs L c22 c374 v3 v4 v11 v12 v13 v14 v15 v16 v17 v18 v19 v20 k z = some (o, uc, us)) (hc : cells + uc ≤ 600130) (hs : slots + us ≤ 7301080) : W p l e room_1 s mm args below meth c H locs cells slots Q (F0 mm 608 ls []) := by
  have hx := V.1
  have hb := V.2.1
  refine lv_iconst (v := 1) hx hb dL_law_608 (by decide) ?_
  refine lv_goto (tgt := 613) hx hb dL_law_609 (by decide) ?_
  exact w_L_law_613 V hA LX SX hQ hk22 hk374 trivial hH (jl_sub hl [0, 1, 2, 3, 4, 5, 6, 7, 8, 9, 10, 11, 12, 13, 14] rfl) hf hc hs
set_option maxHeartbeats 4000000 in
set_option maxRecDepth 100000 in
theorem w_L_law_612 (V : jV p s mm args meth c cL_law RL 24 (some .boolean) D g) (hA : ∀ q, s.heap.size ≤ q → A q) (LX : jLX l A s) (SX : jSX A s b L xs) (hQ : ∀ {H : Heap} {locs : List Loc} {ls : Array Slot} {cells slots : Nat}, va_S A s.heap H locs → cells ≤ 600130 → slots ≤ 7301080 → W p l e room_1 s mm args below meth c H locs cells slots Q (F0 mm 1222 ls [.int 1])) {c22 : Int32 → kS → kS → Option (Unit × Nat × Nat)} (hk22 : ∀ {ad : Nat → Nat} {v3 : Int32} {k : kS} {z : kS} {H : Heap} {locs : List Loc} {ls : Array Slot} {cells slots uc us : Nat} {o : Unit}, True → jH A s H locs D g ad z (jY adk g k mo) [] → jl_has ls 24 [(0, .ref b), (1, .ref (adk 0)), (2, .ref (ad 0)), (3, .int v3)] → c22 v3 k z = some (o, uc, us) → cells + uc ≤ 600130 → slots + us ≤ 7301080 → W p l e room_1 s mm args below meth c H locs cells slots Q (F0 mm 22 ls [])) {c374 : Int32 → Int32 → Int32 → Int32 → Int32 → Int32 → Int32 → Int32 → kS → kS → Option (Unit × Nat × Nat)} (hk374 : ∀ {ad : Nat → Nat} {v3 : Int32} {v4 : Int32} {v11 : Int32} {v12 : Int32} {v13 : Int32} {v14 : Int32} {v15 : Int32} {v16 : Int32} {k : kS} {z : kS} {H : Heap} {locs : List Loc} {ls : Array Slot} {cells slots uc us : Nat} {o : Unit}, True → jH A s H locs D g ad z (jY adk g k mo) [] → jl_has ls 24 [(0, .ref b), (1, .ref (adk 0)), (2, .ref (ad 0)), (3, .int v3), (4, .int v4), (11, .int v11), (12, .int v12), (13, .int v13), (14, .int v14), (15, .int v15), (16, .int v16)] → c374 v3 v4 v11 v12 v13 v14 v15 v16 k z = some (o, uc, us) → cells + uc ≤ 600130 → slots + us ≤ 7301080 → W p l e room_1 s mm args below meth c H locs cells slots Q (F0 mm 374 ls [])) {ad : Nat → Nat} {v3 : Int32} {v4 : Int32} {v11 : Int32} {v12 : Int32} {v13 : Int32} {v14 : Int32} {v15 : Int32} {v16 : Int32} {v17 : Int32} {v18 : Int32} {v19 : Int32} {v20 : Int32} {k : kS} {z : kS} {H : Heap} {locs : List Loc} {ls : Array Slot} {cells slots uc us : Nat} {o : Unit} (hG : True) (hH : jH A s H locs D g ad z (jY adk g k mo) []) (hl : jl_has ls 24 [(0, .ref b), (1, .ref (adk 0)), (2, .ref (ad 0)), (3, .int v3), (4, .int v4), (11, .int v11), (12, .int v12), (13, .int v13), (14, .int v14), (15, .int v15), (16, .int v16), (17, .int v17), (18, .int v18), (19, .int v19), (20, .int v20)]) (hf : F_L_law_612 xs L c22 c374 v3 v4 v11 v12 v13 v14 v15 v16 v17 v18 v19 v20 k z = some (o, uc, us)) (hc : cells + uc ≤ 600130) (hs : slots + us ≤ 7301080) : W p l e room_1 s mm args below meth c H locs cells slots Q (F0 mm 612 ls []) := by
  have hx := V.1
  have hb := V.2.1
  refine lv_iconst (v := 0) hx hb dL_law_612 (by decide) ?_
  exact w_L_law_613 V hA LX SX hQ hk22 hk374 trivial hH (jl_sub hl [0, 1, 2, 3, 4, 5, 6, 7, 8, 9, 10, 11, 12, 13, 14] rfl) hf hc hs
set_option maxHeartbeats 4000000 in
set_option maxRecDepth 100000 in
theorem w_L_law_603 (V : jV p s mm args meth c cL_law RL 24 (some .boolean) D g) (hA : ∀ q, s.heap.size ≤ q → A q) (LX : jLX l A s) (SX : jSX A s b L xs) (hQ : ∀ {H : Heap} {locs : List Loc} {ls : Array Slot} {cells slots : Nat}, va_S A s.heap H locs → cells ≤ 600130 → slots ≤ 7301080 → W p l e room_1 s mm args below meth c H locs cells slots Q (F0 mm 1222 ls [.int 1])) {c22 : Int32 → kS → kS → Option (Unit × Nat × Nat)} (hk22 : ∀ {ad : Nat → Nat} {v3 : Int32} {k : kS} {z : kS} {H : Heap} {locs : List Loc} {ls : Array Slot} {cells slots uc us : Nat} {o : Unit}, True → jH A s H locs D g ad z (jY adk g k mo) [] → jl_has ls 24 [(0, .ref b), (1, .ref (adk 0)), (2, .ref (ad 0)), (3, .int v3)] → c22 v3 k z = some (o, uc, us) → cells + uc ≤ 600130 → slots + us ≤ 7301080 → W p l e room_1 s mm args below meth c H locs cells slots Q (F0 mm 22 ls [])) {c374 : Int32 → Int32 → Int32 → Int32 → Int32 → Int32 → Int32 → Int32 → kS → kS → Option (Unit × Nat × Nat)} (hk374 : ∀ {ad : Nat → Nat} {v3 : Int32} {v4 : Int32} {v11 : Int32} {v12 : Int32} {v13 : Int32} {v14 : Int32} {v15 : Int32} {v16 : Int32} {k : kS} {z : kS} {H : Heap} {locs : List Loc} {ls : Array Slot} {cells slots uc us : Nat} {o : Unit}, True → jH A s H locs D g ad z (jY adk g k mo) [] → jl_has ls 24 [(0, .ref b), (1, .ref (adk 0)), (2, .ref (ad 0)), (3, .int v3), (4, .int v4), (11, .int v11), (12, .int v12), (13, .int v13), (14, .int v14), (15, .int v15), (16, .int v16)] → c374 v3 v4 v11 v12 v13 v14 v15 v16 k z = some (o, uc, us) → cells + uc ≤ 600130 → slots + us ≤ 7301080 → W p l e room_1 s mm args below meth c H locs cells slots Q (F0 mm 374 ls [])) {ad : Nat → Nat} {v3 : Int32} {v4 : Int32} {v11 : Int32} {v12 : Int32} {v13 : Int32} {v14 : Int32} {v15 : Int32} {v16 : Int32} {v17 : Int32} {v18 : Int32} {v19 : Int32} {v20 : Int32} {k : kS} {z : kS} {H : Heap} {locs : List Loc} {ls : Array Slot} {cells slots uc us : Nat} {o : Unit} (hG : True) (hH : jH A s H locs D g ad z (jY adk g k mo) []) (hl : jl_has ls 24 [(0, .ref b), (1, .ref (adk 0)), (2, .ref (ad 0)), (3, .int v3), (4, .int v4), (11, .int v11), (12, .int v12), (13, .int v13), (14, .int v14), (15, .int v15), (16, .int v16), (17, .int v17), (18, .int v18), (19, .int v19), (20, .int v20)]) (hf : F_L_law_603 xs L c22 c374 v3 v4 v11 v12 v13 v14 v15 v16 v17 v18 v19 v20 k z = some (o, uc, us)) (hc : cells + uc ≤ 600130) (hs : slots + us ≤ 7301080) : W p l e room_1 s mm args below meth c H locs cells slots Q (F0 mm 603 ls []) := by
  have hx := V.1
  have hb := V.2.1
  refine lv_iload hx hb dL_law_603 (lv_at hl.1 13 rfl) ?_
  refine lv_if_lt (tgt := 612) hx hb dL_law_605 (by decide) (fun hq => ?_) (fun hq => ?_)
  · have hf := kpos hq hf
    exact w_L_law_612 V hA LX SX hQ hk22 hk374 trivial hH (jl_sub hl [0, 1, 2, 3, 4, 5, 6, 7, 8, 9, 10, 11, 12, 13, 14] rfl) hf hc hs
  · have hf := kneg hq hf
    exact w_L_law_608 V hA LX SX hQ hk22 hk374 trivial hH (jl_sub hl [0, 1, 2, 3, 4, 5, 6, 7, 8, 9, 10, 11, 12, 13, 14] rfl) hf hc hs
set_option maxHeartbeats 4000000 in
set_option maxRecDepth 100000 in
theorem w_L_law_600 (V : jV p s mm args meth c cL_law RL 24 (some .boolean) D g) (hA : ∀ q, s.heap.size ≤ q → A q) (LX : jLX l A s) (SX : jSX A s b L xs) (hQ : ∀ {H : Heap} {locs : List Loc} {ls : Array Slot} {cells slots : Nat}, va_S A s.heap H locs → cells ≤ 600130 → slots ≤ 7301080 → W p l e room_1 s mm args below meth c H locs cells slots Q (F0 mm 1222 ls [.int 1])) {c22 : Int32 → kS → kS → Option (Unit × Nat × Nat)} (hk22 : ∀ {ad : Nat → Nat} {v3 : Int32} {k : kS} {z : kS} {H : Heap} {locs : List Loc} {ls : Array Slot} {cells slots uc us : Nat} {o : Unit}, True → jH A s H locs D g ad z (jY adk g k mo) [] → jl_has ls 24 [(0, .ref b), (1, .ref (adk 0)), (2, .ref (ad 0)), (3, .int v3)] → c22 v3 k z = some (o, uc, us) → cells + uc ≤ 600130 → slots + us ≤ 7301080 → W p l e room_1 s mm args below meth c H locs cells slots Q (F0 mm 22 ls [])) {c374 : Int32 → Int32 → Int32 → Int32 → Int32 → Int32 → Int32 → Int32 → kS → kS → Option (Unit × Nat × Nat)} (hk374 : ∀ {ad : Nat → Nat} {v3 : Int32} {v4 : Int32} {v11 : Int32} {v12 : Int32} {v13 : Int32} {v14 : Int32} {v15 : Int32} {v16 : Int32} {k : kS} {z : kS} {H : Heap} {locs : List Loc} {ls : Array Slot} {cells slots uc us : Nat} {o : Unit}, True → jH A s H locs D g ad z (jY adk g k mo) [] → jl_has ls 24 [(0, .ref b), (1, .ref (adk 0)), (2, .ref (ad 0)), (3, .int v3), (4, .int v4), (11, .int v11), (12, .int v12), (13, .int v13), (14, .int v14), (15, .int v15), (16, .int v16)] → c374 v3 v4 v11 v12 v13 v14 v15 v16 k z = some (o, uc, us) → cells + uc ≤ 600130 → slots + us ≤ 7301080 → W p l e room_1 s mm args below meth c H locs cells slots Q (F0 mm 374 ls [])) {ad : Nat → Nat} {s0 : Int32} {s1 : Int32} {v3 : Int32} {v4 : Int32} {v11 : Int32} {v12 : Int32} {v13 : Int32} {v14 : Int32} {v15 : Int32} {v16 : Int32} {v17 : Int32} {v18 : Int32} {v19 : Int32} {v20 : Int32} {k : kS} {z : kS} {H : Heap} {locs : List Loc} {ls : Array Slot} {cells slots uc us : Nat} {o : Unit} (hG : True) (hH : jH A s H locs D g ad z (jY adk g k mo) []) (hl : jl_has ls 24 [(0, .ref b), (1, .ref (adk 0)), (2, .ref (ad 0)), (3, .int v3), (4, .int v4), (11, .int v11), (12, .int v12), (13, .int v13), (14, .int v14), (15, .int v15), (16, .int v16), (17, .int v17), (18, .int v18), (19, .int v19), (20, .int v20)]) (hf : F_L_law_600 xs L c22 c374 s0 s1 v3 v4 v11 v12 v13 v14 v15 v16 v17 v18 v19 v20 k z = some (o, uc, us)) (hc : cells + uc ≤ 600130) (hs : slots + us ≤ 7301080) : W p l e room_1 s mm args below meth c H locs cells slots Q (F0 mm 600 ls [.int s1, .int s0]) := by
  have hx := V.1
  have hb := V.2.1
  refine lv_icmp_ne (tgt := 626) hx hb dL_law_600 (by decide) (fun hq => ?_) (fun hq => ?_)
  · have hf := kneg hq hf
    exact w_L_law_626 V hA LX SX hQ trivial hH (jl_sub hl [] rfl) hf hc hs
  · have hf := kpos hq hf
    exact w_L_law_603 V hA LX SX hQ hk22 hk374 trivial hH (jl_sub hl [0, 1, 2, 3, 4, 5, 6, 7, 8, 9, 10, 11, 12, 13, 14] rfl) hf hc hs
set_option maxHeartbeats 4000000 in
set_option maxRecDepth 100000 in
theorem w_L_law_595 (V : jV p s mm args meth c cL_law RL 24 (some .boolean) D g) (hA : ∀ q, s.heap.size ≤ q → A q) (LX : jLX l A s) (SX : jSX A s b L xs) (hQ : ∀ {H : Heap} {locs : List Loc} {ls : Array Slot} {cells slots : Nat}, va_S A s.heap H locs → cells ≤ 600130 → slots ≤ 7301080 → W p l e room_1 s mm args below meth c H locs cells slots Q (F0 mm 1222 ls [.int 1])) {c22 : Int32 → kS → kS → Option (Unit × Nat × Nat)} (hk22 : ∀ {ad : Nat → Nat} {v3 : Int32} {k : kS} {z : kS} {H : Heap} {locs : List Loc} {ls : Array Slot} {cells slots uc us : Nat} {o : Unit}, True → jH A s H locs D g ad z (jY adk g k mo) [] → jl_has ls 24 [(0, .ref b), (1, .ref (adk 0)), (2, .ref (ad 0)), (3, .int v3)] → c22 v3 k z = some (o, uc, us) → cells + uc ≤ 600130 → slots + us ≤ 7301080 → W p l e room_1 s mm args below meth c H locs cells slots Q (F0 mm 22 ls [])) {c374 : Int32 → Int32 → Int32 → Int32 → Int32 → Int32 → Int32 → Int32 → kS → kS → Option (Unit × Nat × Nat)} (hk374 : ∀ {ad : Nat → Nat} {v3 : Int32} {v4 : Int32} {v11 : Int32} {v12 : Int32} {v13 : Int32} {v14 : Int32} {v15 : Int32} {v16 : Int32} {k : kS} {z : kS} {H : Heap} {locs : List Loc} {ls : Array Slot} {cells slots uc us : Nat} {o : Unit}, True → jH A s H locs D g ad z (jY adk g k mo) [] → jl_has ls 24 [(0, .ref b), (1, .ref (adk 0)), (2, .ref (ad 0)), (3, .int v3), (4, .int v4), (11, .int v11), (12, .int v12), (13, .int v13), (14, .int v14), (15, .int v15), (16, .int v16)] → c374 v3 v4 v11 v12 v13 v14 v15 v16 k z = some (o, uc, us) → cells + uc ≤ 600130 → slots + us ≤ 7301080 → W p l e room_1 s mm args below meth c H locs cells slots Q (F0 mm 374 ls [])) {ad : Nat → Nat} {s0 : Int32} {v3 : Int32} {v4 : Int32} {v11 : Int32} {v12 : Int32} {v13 : Int32} {v14 : Int32} {v15 : Int32} {v16 : Int32} {v17 : Int32} {v18 : Int32} {v19 : Int32} {v20 : Int32} {k : kS} {z : kS} {H : Heap} {locs : List Loc} {ls : Array Slot} {cells slots uc us : Nat} {o : Unit} (hG : True) (hH : jH A s H locs D g ad z (jY adk g k mo) []) (hl : jl_has ls 24 [(0, .ref b), (1, .ref (adk 0)), (2, .ref (ad 0)), (3, .int v3), (4, .int v4), (11, .int v11), (12, .int v12), (13, .int v13), (14, .int v14), (15, .int v15), (16, .int v16), (17, .int v17), (18, .int v18), (19, .int v19), (20, .int v20)]) (hf : F_L_law_595 xs L c22 c374 s0 v3 v4 v11 v12 v13 v14 v15 v16 v17 v18 v19 v20 k z = some (o, uc, us)) (hc : cells + uc ≤ 600130) (hs : slots + us ≤ 7301080) : W p l e room_1 s mm args below meth c H locs cells slots Q (F0 mm 595 ls [.int s0]) := by
  have hx := V.1
  have hb := V.2.1
  refine lv_iconst (v := 1) hx hb dL_law_595 (by decide) ?_
  refine lv_goto (tgt := 600) hx hb dL_law_596 (by decide) ?_
  exact w_L_law_600 V hA LX SX hQ hk22 hk374 trivial hH (jl_sub hl [0, 1, 2, 3, 4, 5, 6, 7, 8, 9, 10, 11, 12, 13, 14] rfl) hf hc hs
set_option maxHeartbeats 4000000 in
set_option maxRecDepth 100000 in
theorem w_L_law_599 (V : jV p s mm args meth c cL_law RL 24 (some .boolean) D g) (hA : ∀ q, s.heap.size ≤ q → A q) (LX : jLX l A s) (SX : jSX A s b L xs) (hQ : ∀ {H : Heap} {locs : List Loc} {ls : Array Slot} {cells slots : Nat}, va_S A s.heap H locs → cells ≤ 600130 → slots ≤ 7301080 → W p l e room_1 s mm args below meth c H locs cells slots Q (F0 mm 1222 ls [.int 1])) {c22 : Int32 → kS → kS → Option (Unit × Nat × Nat)} (hk22 : ∀ {ad : Nat → Nat} {v3 : Int32} {k : kS} {z : kS} {H : Heap} {locs : List Loc} {ls : Array Slot} {cells slots uc us : Nat} {o : Unit}, True → jH A s H locs D g ad z (jY adk g k mo) [] → jl_has ls 24 [(0, .ref b), (1, .ref (adk 0)), (2, .ref (ad 0)), (3, .int v3)] → c22 v3 k z = some (o, uc, us) → cells + uc ≤ 600130 → slots + us ≤ 7301080 → W p l e room_1 s mm args below meth c H locs cells slots Q (F0 mm 22 ls [])) {c374 : Int32 → Int32 → Int32 → Int32 → Int32 → Int32 → Int32 → Int32 → kS → kS → Option (Unit × Nat × Nat)} (hk374 : ∀ {ad : Nat → Nat} {v3 : Int32} {v4 : Int32} {v11 : Int32} {v12 : Int32} {v13 : Int32} {v14 : Int32} {v15 : Int32} {v16 : Int32} {k : kS} {z : kS} {H : Heap} {locs : List Loc} {ls : Array Slot} {cells slots uc us : Nat} {o : Unit}, True → jH A s H locs D g ad z (jY adk g k mo) [] → jl_has ls 24 [(0, .ref b), (1, .ref (adk 0)), (2, .ref (ad 0)), (3, .int v3), (4, .int v4), (11, .int v11), (12, .int v12), (13, .int v13), (14, .int v14), (15, .int v15), (16, .int v16)] → c374 v3 v4 v11 v12 v13 v14 v15 v16 k z = some (o, uc, us) → cells + uc ≤ 600130 → slots + us ≤ 7301080 → W p l e room_1 s mm args below meth c H locs cells slots Q (F0 mm 374 ls [])) {ad : Nat → Nat} {s0 : Int32} {v3 : Int32} {v4 : Int32} {v11 : Int32} {v12 : Int32} {v13 : Int32} {v14 : Int32} {v15 : Int32} {v16 : Int32} {v17 : Int32} {v18 : Int32} {v19 : Int32} {v20 : Int32} {k : kS} {z : kS} {H : Heap} {locs : List Loc} {ls : Array Slot} {cells slots uc us : Nat} {o : Unit} (hG : True) (hH : jH A s H locs D g ad z (jY adk g k mo) []) (hl : jl_has ls 24 [(0, .ref b), (1, .ref (adk 0)), (2, .ref (ad 0)), (3, .int v3), (4, .int v4), (11, .int v11), (12, .int v12), (13, .int v13), (14, .int v14), (15, .int v15), (16, .int v16), (17, .int v17), (18, .int v18), (19, .int v19), (20, .int v20)]) (hf : F_L_law_599 xs L c22 c374 s0 v3 v4 v11 v12 v13 v14 v15 v16 v17 v18 v19 v20 k z = some (o, uc, us)) (hc : cells + uc ≤ 600130) (hs : slots + us ≤ 7301080) : W p l e room_1 s mm args below meth c H locs cells slots Q (F0 mm 599 ls [.int s0]) := by
  have hx := V.1
  have hb := V.2.1
  refine lv_iconst (v := 0) hx hb dL_law_599 (by decide) ?_
  exact w_L_law_600 V hA LX SX hQ hk22 hk374 trivial hH (jl_sub hl [0, 1, 2, 3, 4, 5, 6, 7, 8, 9, 10, 11, 12, 13, 14] rfl) hf hc hs
set_option maxHeartbeats 4000000 in
set_option maxRecDepth 100000 in
theorem w_L_law_590 (V : jV p s mm args meth c cL_law RL 24 (some .boolean) D g) (hA : ∀ q, s.heap.size ≤ q → A q) (LX : jLX l A s) (SX : jSX A s b L xs) (hQ : ∀ {H : Heap} {locs : List Loc} {ls : Array Slot} {cells slots : Nat}, va_S A s.heap H locs → cells ≤ 600130 → slots ≤ 7301080 → W p l e room_1 s mm args below meth c H locs cells slots Q (F0 mm 1222 ls [.int 1])) {c22 : Int32 → kS → kS → Option (Unit × Nat × Nat)} (hk22 : ∀ {ad : Nat → Nat} {v3 : Int32} {k : kS} {z : kS} {H : Heap} {locs : List Loc} {ls : Array Slot} {cells slots uc us : Nat} {o : Unit}, True → jH A s H locs D g ad z (jY adk g k mo) [] → jl_has ls 24 [(0, .ref b), (1, .ref (adk 0)), (2, .ref (ad 0)), (3, .int v3)] → c22 v3 k z = some (o, uc, us) → cells + uc ≤ 600130 → slots + us ≤ 7301080 → W p l e room_1 s mm args below meth c H locs cells slots Q (F0 mm 22 ls [])) {c374 : Int32 → Int32 → Int32 → Int32 → Int32 → Int32 → Int32 → Int32 → kS → kS → Option (Unit × Nat × Nat)} (hk374 : ∀ {ad : Nat → Nat} {v3 : Int32} {v4 : Int32} {v11 : Int32} {v12 : Int32} {v13 : Int32} {v14 : Int32} {v15 : Int32} {v16 : Int32} {k : kS} {z : kS} {H : Heap} {locs : List Loc} {ls : Array Slot} {cells slots uc us : Nat} {o : Unit}, True → jH A s H locs D g ad z (jY adk g k mo) [] → jl_has ls 24 [(0, .ref b), (1, .ref (adk 0)), (2, .ref (ad 0)), (3, .int v3), (4, .int v4), (11, .int v11), (12, .int v12), (13, .int v13), (14, .int v14), (15, .int v15), (16, .int v16)] → c374 v3 v4 v11 v12 v13 v14 v15 v16 k z = some (o, uc, us) → cells + uc ≤ 600130 → slots + us ≤ 7301080 → W p l e room_1 s mm args below meth c H locs cells slots Q (F0 mm 374 ls [])) {ad : Nat → Nat} {s0 : Int32} {v3 : Int32} {v4 : Int32} {v11 : Int32} {v12 : Int32} {v13 : Int32} {v14 : Int32} {v15 : Int32} {v16 : Int32} {v17 : Int32} {v18 : Int32} {v19 : Int32} {v20 : Int32} {k : kS} {z : kS} {H : Heap} {locs : List Loc} {ls : Array Slot} {cells slots uc us : Nat} {o : Unit} (hG : True) (hH : jH A s H locs D g ad z (jY adk g k mo) []) (hl : jl_has ls 24 [(0, .ref b), (1, .ref (adk 0)), (2, .ref (ad 0)), (3, .int v3), (4, .int v4), (11, .int v11), (12, .int v12), (13, .int v13), (14, .int v14), (15, .int v15), (16, .int v16), (17, .int v17), (18, .int v18), (19, .int v19), (20, .int v20)]) (hf : F_L_law_590 xs L c22 c374 s0 v3 v4 v11 v12 v13 v14 v15 v16 v17 v18 v19 v20 k z = some (o, uc, us)) (hc : cells + uc ≤ 600130) (hs : slots + us ≤ 7301080) : W p l e room_1 s mm args below meth c H locs cells slots Q (F0 mm 590 ls [.int s0]) := by
  have hx := V.1
  have hb := V.2.1
  refine lv_iload hx hb dL_law_590 (lv_at hl.1 11 rfl) ?_
  refine lv_if_eq (tgt := 599) hx hb dL_law_592 (by decide) (fun hq => ?_) (fun hq => ?_)
  · have hf := kpos hq hf
    exact w_L_law_599 V hA LX SX hQ hk22 hk374 trivial hH (jl_sub hl [0, 1, 2, 3, 4, 5, 6, 7, 8, 9, 10, 11, 12, 13, 14] rfl) hf hc hs
  · have hf := kneg hq hf
    exact w_L_law_595 V hA LX SX hQ hk22 hk374 trivial hH (jl_sub hl [0, 1, 2, 3, 4, 5, 6, 7, 8, 9, 10, 11, 12, 13, 14] rfl) hf hc hs
set_option maxHeartbeats 4000000 in
set_option maxRecDepth 100000 in
theorem w_L_law_576 (V : jV p s mm args meth c cL_law RL 24 (some .boolean) D g) (hA : ∀ q, s.heap.size ≤ q → A q) (LX : jLX l A s) (SX : jSX A s b L xs) (hQ : ∀ {H : Heap} {locs : List Loc} {ls : Array Slot} {cells slots : Nat}, va_S A s.heap H locs → cells ≤ 600130 → slots ≤ 7301080 → W p l e room_1 s mm args below meth c H locs cells slots Q (F0 mm 1222 ls [.int 1])) {c22 : Int32 → kS → kS → Option (Unit × Nat × Nat)} (hk22 : ∀ {ad : Nat → Nat} {v3 : Int32} {k : kS} {z : kS} {H : Heap} {locs : List Loc} {ls : Array Slot} {cells slots uc us : Nat} {o : Unit}, True → jH A s H locs D g ad z (jY adk g k mo) [] → jl_has ls 24 [(0, .ref b), (1, .ref (adk 0)), (2, .ref (ad 0)), (3, .int v3)] → c22 v3 k z = some (o, uc, us) → cells + uc ≤ 600130 → slots + us ≤ 7301080 → W p l e room_1 s mm args below meth c H locs cells slots Q (F0 mm 22 ls [])) {c374 : Int32 → Int32 → Int32 → Int32 → Int32 → Int32 → Int32 → Int32 → kS → kS → Option (Unit × Nat × Nat)} (hk374 : ∀ {ad : Nat → Nat} {v3 : Int32} {v4 : Int32} {v11 : Int32} {v12 : Int32} {v13 : Int32} {v14 : Int32} {v15 : Int32} {v16 : Int32} {k : kS} {z : kS} {H : Heap} {locs : List Loc} {ls : Array Slot} {cells slots uc us : Nat} {o : Unit}, True → jH A s H locs D g ad z (jY adk g k mo) [] → jl_has ls 24 [(0, .ref b), (1, .ref (adk 0)), (2, .ref (ad 0)), (3, .int v3), (4, .int v4), (11, .int v11), (12, .int v12), (13, .int v13), (14, .int v14), (15, .int v15), (16, .int v16)] → c374 v3 v4 v11 v12 v13 v14 v15 v16 k z = some (o, uc, us) → cells + uc ≤ 600130 → slots + us ≤ 7301080 → W p l e room_1 s mm args below meth c H locs cells slots Q (F0 mm 374 ls [])) {ad : Nat → Nat} {v3 : Int32} {v4 : Int32} {v11 : Int32} {v12 : Int32} {v13 : Int32} {v14 : Int32} {v15 : Int32} {v16 : Int32} {v17 : Int32} {v18 : Int32} {v19 : Int32} {v20 : Int32} {k : kS} {z : kS} {H : Heap} {locs : List Loc} {ls : Array Slot} {cells slots uc us : Nat} {o : Unit} (hG : True) (hH : jH A s H locs D g ad z (jY adk g k mo) []) (hl : jl_has ls 24 [(0, .ref b), (1, .ref (adk 0)), (2, .ref (ad 0)), (3, .int v3), (4, .int v4), (11, .int v11), (12, .int v12), (13, .int v13), (14, .int v14), (15, .int v15), (16, .int v16), (17, .int v17), (18, .int v18), (19, .int v19), (20, .int v20)]) (hf : F_L_law_576 xs L c22 c374 v3 v4 v11 v12 v13 v14 v15 v16 v17 v18 v19 v20 k z = some (o, uc, us)) (hc : cells + uc ≤ 600130) (hs : slots + us ≤ 7301080) : W p l e room_1 s mm args below meth c H locs cells slots Q (F0 mm 576 ls []) := by
  have hx := V.1
  have hb := V.2.1
  refine lv_iload hx hb dL_law_576 (lv_at hl.1 11 rfl) ?_
  refine lv_aload_n hx hb dL_law_578 rfl (lv_at hl.1 1 rfl) ?_
  refine lv_iload hx hb dL_law_579 (lv_at hl.1 10 rfl) ?_
  refine lv_bipush (v := 9) hx hb dL_law_581 (by decide) ?_
  obtain ⟨x576_1, hx576_1, hf⟩ := kbind hf
  obtain ⟨h576_2, hf⟩ := kif hf
  obtain ⟨uc576_3, us576_4, hf, e1, e2⟩ := kadd_some2 hf
  have e1 : uc = 4 + uc576_3 := e1
  have e2 : us = 24 + us576_4 := e2
  have hc : cells + 4 + uc576_3 ≤ 600130 := by rw [Nat.add_assoc, ← e1]; exact hc
  have hs : slots + 24 + us576_4 ≤ 7301080 := by rw [Nat.add_assoc, ← e2]; exact hs
  have lc : cells + 4 ≤ 600130 := Nat.le_trans (Nat.le_add_right _ _) hc
  have ls2 : slots + 24 ≤ 7301080 := Nat.le_trans (Nat.le_add_right _ _) hs
  refine jc_callx V hA LX hH kYX5_person kl_L_132 (c_X5_person l LX.1 _ _ hx576_1 _) (Decidable.not_not.mp h576_2) rfl rfl ⟨Nat.le_of_ble_eq_true rfl, Nat.le_of_ble_eq_true rfl⟩ rfl hl.1.1 (as := [.int v16, .int 9]) (rest := [.int v17]) (Nat.le_of_ble_eq_true rfl) dL_law_583 ⟨lc, ls2⟩ rfl (fun H locs hH => ?_)
  refine lv_iconst (v := (-1)) hx hb dL_law_586 (by decide) ?_
  refine lv_icmp_ne (tgt := 599) hx hb dL_law_587 (by decide) (fun hq => ?_) (fun hq => ?_)
  · have hf := kneg hq hf
    exact w_L_law_599 V hA LX SX hQ hk22 hk374 trivial hH (jl_sub hl [0, 1, 2, 3, 4, 5, 6, 7, 8, 9, 10, 11, 12, 13, 14] rfl) hf hc hs
  · have hf := kpos hq hf
    exact w_L_law_590 V hA LX SX hQ hk22 hk374 trivial hH (jl_sub hl [0, 1, 2, 3, 4, 5, 6, 7, 8, 9, 10, 11, 12, 13, 14] rfl) hf hc hs
set_option maxHeartbeats 4000000 in
set_option maxRecDepth 100000 in
theorem w_L_law_558 (V : jV p s mm args meth c cL_law RL 24 (some .boolean) D g) (hA : ∀ q, s.heap.size ≤ q → A q) (LX : jLX l A s) (SX : jSX A s b L xs) (hQ : ∀ {H : Heap} {locs : List Loc} {ls : Array Slot} {cells slots : Nat}, va_S A s.heap H locs → cells ≤ 600130 → slots ≤ 7301080 → W p l e room_1 s mm args below meth c H locs cells slots Q (F0 mm 1222 ls [.int 1])) {c22 : Int32 → kS → kS → Option (Unit × Nat × Nat)} (hk22 : ∀ {ad : Nat → Nat} {v3 : Int32} {k : kS} {z : kS} {H : Heap} {locs : List Loc} {ls : Array Slot} {cells slots uc us : Nat} {o : Unit}, True → jH A s H locs D g ad z (jY adk g k mo) [] → jl_has ls 24 [(0, .ref b), (1, .ref (adk 0)), (2, .ref (ad 0)), (3, .int v3)] → c22 v3 k z = some (o, uc, us) → cells + uc ≤ 600130 → slots + us ≤ 7301080 → W p l e room_1 s mm args below meth c H locs cells slots Q (F0 mm 22 ls [])) {c374 : Int32 → Int32 → Int32 → Int32 → Int32 → Int32 → Int32 → Int32 → kS → kS → Option (Unit × Nat × Nat)} (hk374 : ∀ {ad : Nat → Nat} {v3 : Int32} {v4 : Int32} {v11 : Int32} {v12 : Int32} {v13 : Int32} {v14 : Int32} {v15 : Int32} {v16 : Int32} {k : kS} {z : kS} {H : Heap} {locs : List Loc} {ls : Array Slot} {cells slots uc us : Nat} {o : Unit}, True → jH A s H locs D g ad z (jY adk g k mo) [] → jl_has ls 24 [(0, .ref b), (1, .ref (adk 0)), (2, .ref (ad 0)), (3, .int v3), (4, .int v4), (11, .int v11), (12, .int v12), (13, .int v13), (14, .int v14), (15, .int v15), (16, .int v16)] → c374 v3 v4 v11 v12 v13 v14 v15 v16 k z = some (o, uc, us) → cells + uc ≤ 600130 → slots + us ≤ 7301080 → W p l e room_1 s mm args below meth c H locs cells slots Q (F0 mm 374 ls [])) {ad : Nat → Nat} {v3 : Int32} {v4 : Int32} {v11 : Int32} {v12 : Int32} {v13 : Int32} {v14 : Int32} {v15 : Int32} {v16 : Int32} {v17 : Int32} {v18 : Int32} {v19 : Int32} {v20 : Int32} {k : kS} {z : kS} {H : Heap} {locs : List Loc} {ls : Array Slot} {cells slots uc us : Nat} {o : Unit} (hG : True) (hH : jH A s H locs D g ad z (jY adk g k mo) []) (hl : jl_has ls 24 [(0, .ref b), (1, .ref (adk 0)), (2, .ref (ad 0)), (3, .int v3), (4, .int v4), (11, .int v11), (12, .int v12), (13, .int v13), (14, .int v14), (15, .int v15), (16, .int v16), (17, .int v17), (18, .int v18), (19, .int v19), (20, .int v20)]) (hf : F_L_law_558 xs L c22 c374 v3 v4 v11 v12 v13 v14 v15 v16 v17 v18 v19 v20 k z = some (o, uc, us)) (hc : cells + uc ≤ 600130) (hs : slots + us ≤ 7301080) : W p l e room_1 s mm args below meth c H locs cells slots Q (F0 mm 558 ls []) := by
  have hx := V.1
  have hb := V.2.1
  refine lv_aload_n hx hb dL_law_558 rfl (lv_at hl.1 1 rfl) ?_
  refine lv_iload hx hb dL_law_559 (lv_at hl.1 10 rfl) ?_
  refine lv_bipush (v := 9) hx hb dL_law_561 (by decide) ?_
  obtain ⟨x558_1, hx558_1, hf⟩ := kbind hf
  obtain ⟨h558_2, hf⟩ := kif hf
  obtain ⟨uc558_3, us558_4, hf, e1, e2⟩ := kadd_some2 hf
  have e1 : uc = 4 + uc558_3 := e1
  have e2 : us = 24 + us558_4 := e2
  have hc : cells + 4 + uc558_3 ≤ 600130 := by rw [Nat.add_assoc, ← e1]; exact hc
  have hs : slots + 24 + us558_4 ≤ 7301080 := by rw [Nat.add_assoc, ← e2]; exact hs
  have lc : cells + 4 ≤ 600130 := Nat.le_trans (Nat.le_add_right _ _) hc
  have ls2 : slots + 24 ≤ 7301080 := Nat.le_trans (Nat.le_add_right _ _) hs
  refine jc_callx V hA LX hH kYX5_person kl_L_132 (c_X5_person l LX.1 _ _ hx558_1 _) (Decidable.not_not.mp h558_2) rfl rfl ⟨Nat.le_of_ble_eq_true rfl, Nat.le_of_ble_eq_true rfl⟩ rfl hl.1.1 (as := [.int v16, .int 9]) (rest := []) (Nat.le_of_ble_eq_true rfl) dL_law_563 ⟨lc, ls2⟩ rfl (fun H locs hH => ?_)
  refine lv_aload_n hx hb dL_law_566 rfl (lv_at hl.1 1 rfl) ?_
  refine lv_iload hx hb dL_law_567 (lv_at hl.1 10 rfl) ?_
  refine lv_iconst (v := 1) hx hb dL_law_569 (by decide) ?_
  obtain ⟨x558_5, hx558_5, hf⟩ := kbind hf
  obtain ⟨h558_6, hf⟩ := kif hf
  obtain ⟨uc558_7, us558_8, hf, e1, e2⟩ := kadd_some2 hf
  have e1 : uc558_3 = 4 + uc558_7 := e1
  have e2 : us558_4 = 24 + us558_8 := e2
  have hc : cells + 4 + 4 + uc558_7 ≤ 600130 := by rw [Nat.add_assoc, ← e1]; exact hc
  have hs : slots + 24 + 24 + us558_8 ≤ 7301080 := by rw [Nat.add_assoc, ← e2]; exact hs
  have lc : cells + 4 + 4 ≤ 600130 := Nat.le_trans (Nat.le_add_right _ _) hc
  have ls2 : slots + 24 + 24 ≤ 7301080 := Nat.le_trans (Nat.le_add_right _ _) hs
  refine jc_callx V hA LX hH kYX5_person kl_L_132 (c_X5_person l LX.1 _ _ hx558_5 _) (Decidable.not_not.mp h558_6) rfl rfl ⟨Nat.le_of_ble_eq_true rfl, Nat.le_of_ble_eq_true rfl⟩ rfl hl.1.1 (as := [.int v16, .int 1]) (rest := [.int x558_1.2]) (Nat.le_of_ble_eq_true rfl) dL_law_570 ⟨lc, ls2⟩ rfl (fun H locs hH => ?_)
  refine lv_icmp_lt (tgt := 626) hx hb dL_law_573 (by decide) (fun hq => ?_) (fun hq => ?_)
  · have hf := kpos hq hf
    exact w_L_law_626 V hA LX SX hQ trivial hH (jl_sub hl [] rfl) hf hc hs
  · have hf := kneg hq hf
    exact w_L_law_576 V hA LX SX hQ hk22 hk374 trivial hH (jl_sub hl [0, 1, 2, 3, 4, 5, 6, 7, 8, 9, 10, 11, 12, 13, 14] rfl) hf hc hs
set_option maxHeartbeats 4000000 in
set_option maxRecDepth 100000 in
theorem w_L_law_547 (V : jV p s mm args meth c cL_law RL 24 (some .boolean) D g) (hA : ∀ q, s.heap.size ≤ q → A q) (LX : jLX l A s) (SX : jSX A s b L xs) (hQ : ∀ {H : Heap} {locs : List Loc} {ls : Array Slot} {cells slots : Nat}, va_S A s.heap H locs → cells ≤ 600130 → slots ≤ 7301080 → W p l e room_1 s mm args below meth c H locs cells slots Q (F0 mm 1222 ls [.int 1])) {c22 : Int32 → kS → kS → Option (Unit × Nat × Nat)} (hk22 : ∀ {ad : Nat → Nat} {v3 : Int32} {k : kS} {z : kS} {H : Heap} {locs : List Loc} {ls : Array Slot} {cells slots uc us : Nat} {o : Unit}, True → jH A s H locs D g ad z (jY adk g k mo) [] → jl_has ls 24 [(0, .ref b), (1, .ref (adk 0)), (2, .ref (ad 0)), (3, .int v3)] → c22 v3 k z = some (o, uc, us) → cells + uc ≤ 600130 → slots + us ≤ 7301080 → W p l e room_1 s mm args below meth c H locs cells slots Q (F0 mm 22 ls [])) {c374 : Int32 → Int32 → Int32 → Int32 → Int32 → Int32 → Int32 → Int32 → kS → kS → Option (Unit × Nat × Nat)} (hk374 : ∀ {ad : Nat → Nat} {v3 : Int32} {v4 : Int32} {v11 : Int32} {v12 : Int32} {v13 : Int32} {v14 : Int32} {v15 : Int32} {v16 : Int32} {k : kS} {z : kS} {H : Heap} {locs : List Loc} {ls : Array Slot} {cells slots uc us : Nat} {o : Unit}, True → jH A s H locs D g ad z (jY adk g k mo) [] → jl_has ls 24 [(0, .ref b), (1, .ref (adk 0)), (2, .ref (ad 0)), (3, .int v3), (4, .int v4), (11, .int v11), (12, .int v12), (13, .int v13), (14, .int v14), (15, .int v15), (16, .int v16)] → c374 v3 v4 v11 v12 v13 v14 v15 v16 k z = some (o, uc, us) → cells + uc ≤ 600130 → slots + us ≤ 7301080 → W p l e room_1 s mm args below meth c H locs cells slots Q (F0 mm 374 ls [])) {ad : Nat → Nat} {v3 : Int32} {v4 : Int32} {v11 : Int32} {v12 : Int32} {v13 : Int32} {v14 : Int32} {v15 : Int32} {v16 : Int32} {v17 : Int32} {v18 : Int32} {v19 : Int32} {v20 : Int32} {k : kS} {z : kS} {H : Heap} {locs : List Loc} {ls : Array Slot} {cells slots uc us : Nat} {o : Unit} (hG : True) (hH : jH A s H locs D g ad z (jY adk g k mo) []) (hl : jl_has ls 24 [(0, .ref b), (1, .ref (adk 0)), (2, .ref (ad 0)), (3, .int v3), (4, .int v4), (11, .int v11), (12, .int v12), (13, .int v13), (14, .int v14), (15, .int v15), (16, .int v16), (17, .int v17), (18, .int v18), (19, .int v19), (20, .int v20)]) (hf : F_L_law_547 xs L c22 c374 v3 v4 v11 v12 v13 v14 v15 v16 v17 v18 v19 v20 k z = some (o, uc, us)) (hc : cells + uc ≤ 600130) (hs : slots + us ≤ 7301080) : W p l e room_1 s mm args below meth c H locs cells slots Q (F0 mm 547 ls []) := by
  have hx := V.1
  have hb := V.2.1
  refine lv_aload_n hx hb dL_law_547 rfl (lv_at hl.1 1 rfl) ?_
  refine lv_iload hx hb dL_law_548 (lv_at hl.1 10 rfl) ?_
  refine lv_bipush (v := 7) hx hb dL_law_550 (by decide) ?_
  obtain ⟨x547_1, hx547_1, hf⟩ := kbind hf
  obtain ⟨h547_2, hf⟩ := kif hf
  obtain ⟨uc547_3, us547_4, hf, e1, e2⟩ := kadd_some2 hf
  have e1 : uc = 4 + uc547_3 := e1
  have e2 : us = 24 + us547_4 := e2
  have hc : cells + 4 + uc547_3 ≤ 600130 := by rw [Nat.add_assoc, ← e1]; exact hc
  have hs : slots + 24 + us547_4 ≤ 7301080 := by rw [Nat.add_assoc, ← e2]; exact hs
  have lc : cells + 4 ≤ 600130 := Nat.le_trans (Nat.le_add_right _ _) hc
  have ls2 : slots + 24 ≤ 7301080 := Nat.le_trans (Nat.le_add_right _ _) hs
  refine jc_callx V hA LX hH kYX5_person kl_L_132 (c_X5_person l LX.1 _ _ hx547_1 _) (Decidable.not_not.mp h547_2) rfl rfl ⟨Nat.le_of_ble_eq_true rfl, Nat.le_of_ble_eq_true rfl⟩ rfl hl.1.1 (as := [.int v16, .int 7]) (rest := []) (Nat.le_of_ble_eq_true rfl) dL_law_552 ⟨lc, ls2⟩ rfl (fun H locs hH => ?_)
  refine lv_if_ne (tgt := 626) hx hb dL_law_555 (by decide) (fun hq => ?_) (fun hq => ?_)
  · have hf := kneg hq hf
    exact w_L_law_626 V hA LX SX hQ trivial hH (jl_sub hl [] rfl) hf hc hs
  · have hf := kpos hq hf
    exact w_L_law_558 V hA LX SX hQ hk22 hk374 trivial hH (jl_sub hl [0, 1, 2, 3, 4, 5, 6, 7, 8, 9, 10, 11, 12, 13, 14] rfl) hf hc hs
set_option maxHeartbeats 4000000 in
set_option maxRecDepth 100000 in
theorem w_L_law_542 (V : jV p s mm args meth c cL_law RL 24 (some .boolean) D g) (hA : ∀ q, s.heap.size ≤ q → A q) (LX : jLX l A s) (SX : jSX A s b L xs) (hQ : ∀ {H : Heap} {locs : List Loc} {ls : Array Slot} {cells slots : Nat}, va_S A s.heap H locs → cells ≤ 600130 → slots ≤ 7301080 → W p l e room_1 s mm args below meth c H locs cells slots Q (F0 mm 1222 ls [.int 1])) {c22 : Int32 → kS → kS → Option (Unit × Nat × Nat)} (hk22 : ∀ {ad : Nat → Nat} {v3 : Int32} {k : kS} {z : kS} {H : Heap} {locs : List Loc} {ls : Array Slot} {cells slots uc us : Nat} {o : Unit}, True → jH A s H locs D g ad z (jY adk g k mo) [] → jl_has ls 24 [(0, .ref b), (1, .ref (adk 0)), (2, .ref (ad 0)), (3, .int v3)] → c22 v3 k z = some (o, uc, us) → cells + uc ≤ 600130 → slots + us ≤ 7301080 → W p l e room_1 s mm args below meth c H locs cells slots Q (F0 mm 22 ls [])) {c374 : Int32 → Int32 → Int32 → Int32 → Int32 → Int32 → Int32 → Int32 → kS → kS → Option (Unit × Nat × Nat)} (hk374 : ∀ {ad : Nat → Nat} {v3 : Int32} {v4 : Int32} {v11 : Int32} {v12 : Int32} {v13 : Int32} {v14 : Int32} {v15 : Int32} {v16 : Int32} {k : kS} {z : kS} {H : Heap} {locs : List Loc} {ls : Array Slot} {cells slots uc us : Nat} {o : Unit}, True → jH A s H locs D g ad z (jY adk g k mo) [] → jl_has ls 24 [(0, .ref b), (1, .ref (adk 0)), (2, .ref (ad 0)), (3, .int v3), (4, .int v4), (11, .int v11), (12, .int v12), (13, .int v13), (14, .int v14), (15, .int v15), (16, .int v16)] → c374 v3 v4 v11 v12 v13 v14 v15 v16 k z = some (o, uc, us) → cells + uc ≤ 600130 → slots + us ≤ 7301080 → W p l e room_1 s mm args below meth c H locs cells slots Q (F0 mm 374 ls [])) {ad : Nat → Nat} {v3 : Int32} {v4 : Int32} {v11 : Int32} {v12 : Int32} {v13 : Int32} {v14 : Int32} {v15 : Int32} {v16 : Int32} {v17 : Int32} {v18 : Int32} {v19 : Int32} {v20 : Int32} {k : kS} {z : kS} {H : Heap} {locs : List Loc} {ls : Array Slot} {cells slots uc us : Nat} {o : Unit} (hG : True) (hH : jH A s H locs D g ad z (jY adk g k mo) []) (hl : jl_has ls 24 [(0, .ref b), (1, .ref (adk 0)), (2, .ref (ad 0)), (3, .int v3), (4, .int v4), (11, .int v11), (12, .int v12), (13, .int v13), (14, .int v14), (15, .int v15), (16, .int v16), (17, .int v17), (18, .int v18), (19, .int v19), (20, .int v20)]) (hf : F_L_law_542 xs L c22 c374 v3 v4 v11 v12 v13 v14 v15 v16 v17 v18 v19 v20 k z = some (o, uc, us)) (hc : cells + uc ≤ 600130) (hs : slots + us ≤ 7301080) : W p l e room_1 s mm args below meth c H locs cells slots Q (F0 mm 542 ls []) := by
  have hx := V.1
  have hb := V.2.1
  refine lv_iload hx hb dL_law_542 (lv_at hl.1 11 rfl) ?_
  refine lv_if_ne (tgt := 576) hx hb dL_law_544 (by decide) (fun hq => ?_) (fun hq => ?_)
  · have hf := kneg hq hf
    exact w_L_law_576 V hA LX SX hQ hk22 hk374 trivial hH (jl_sub hl [0, 1, 2, 3, 4, 5, 6, 7, 8, 9, 10, 11, 12, 13, 14] rfl) hf hc hs
  · have hf := kpos hq hf
    exact w_L_law_547 V hA LX SX hQ hk22 hk374 trivial hH (jl_sub hl [0, 1, 2, 3, 4, 5, 6, 7, 8, 9, 10, 11, 12, 13, 14] rfl) hf hc hs
set_option maxHeartbeats 4000000 in
set_option maxRecDepth 100000 in
theorem w_L_law_530 (V : jV p s mm args meth c cL_law RL 24 (some .boolean) D g) (hA : ∀ q, s.heap.size ≤ q → A q) (LX : jLX l A s) (SX : jSX A s b L xs) (hQ : ∀ {H : Heap} {locs : List Loc} {ls : Array Slot} {cells slots : Nat}, va_S A s.heap H locs → cells ≤ 600130 → slots ≤ 7301080 → W p l e room_1 s mm args below meth c H locs cells slots Q (F0 mm 1222 ls [.int 1])) {c22 : Int32 → kS → kS → Option (Unit × Nat × Nat)} (hk22 : ∀ {ad : Nat → Nat} {v3 : Int32} {k : kS} {z : kS} {H : Heap} {locs : List Loc} {ls : Array Slot} {cells slots uc us : Nat} {o : Unit}, True → jH A s H locs D g ad z (jY adk g k mo) [] → jl_has ls 24 [(0, .ref b), (1, .ref (adk 0)), (2, .ref (ad 0)), (3, .int v3)] → c22 v3 k z = some (o, uc, us) → cells + uc ≤ 600130 → slots + us ≤ 7301080 → W p l e room_1 s mm args below meth c H locs cells slots Q (F0 mm 22 ls [])) {c374 : Int32 → Int32 → Int32 → Int32 → Int32 → Int32 → Int32 → Int32 → kS → kS → Option (Unit × Nat × Nat)} (hk374 : ∀ {ad : Nat → Nat} {v3 : Int32} {v4 : Int32} {v11 : Int32} {v12 : Int32} {v13 : Int32} {v14 : Int32} {v15 : Int32} {v16 : Int32} {k : kS} {z : kS} {H : Heap} {locs : List Loc} {ls : Array Slot} {cells slots uc us : Nat} {o : Unit}, True → jH A s H locs D g ad z (jY adk g k mo) [] → jl_has ls 24 [(0, .ref b), (1, .ref (adk 0)), (2, .ref (ad 0)), (3, .int v3), (4, .int v4), (11, .int v11), (12, .int v12), (13, .int v13), (14, .int v14), (15, .int v15), (16, .int v16)] → c374 v3 v4 v11 v12 v13 v14 v15 v16 k z = some (o, uc, us) → cells + uc ≤ 600130 → slots + us ≤ 7301080 → W p l e room_1 s mm args below meth c H locs cells slots Q (F0 mm 374 ls [])) {ad : Nat → Nat} {v3 : Int32} {v4 : Int32} {v11 : Int32} {v12 : Int32} {v13 : Int32} {v14 : Int32} {v15 : Int32} {v16 : Int32} {v17 : Int32} {v18 : Int32} {v19 : Int32} {v20 : Int32} {k : kS} {z : kS} {H : Heap} {locs : List Loc} {ls : Array Slot} {cells slots uc us : Nat} {o : Unit} (hG : True) (hH : jH A s H locs D g ad z (jY adk g k mo) []) (hl : jl_has ls 24 [(0, .ref b), (1, .ref (adk 0)), (2, .ref (ad 0)), (3, .int v3), (4, .int v4), (11, .int v11), (12, .int v12), (13, .int v13), (14, .int v14), (15, .int v15), (16, .int v16), (17, .int v17), (18, .int v18), (19, .int v19), (20, .int v20)]) (hf : F_L_law_530 xs L c22 c374 v3 v4 v11 v12 v13 v14 v15 v16 v17 v18 v19 v20 k z = some (o, uc, us)) (hc : cells + uc ≤ 600130) (hs : slots + us ≤ 7301080) : W p l e room_1 s mm args below meth c H locs cells slots Q (F0 mm 530 ls []) := by
  have hx := V.1
  have hb := V.2.1
  refine lv_aload_n hx hb dL_law_530 rfl (lv_at hl.1 1 rfl) ?_
  refine lv_iload hx hb dL_law_531 (lv_at hl.1 10 rfl) ?_
  refine lv_iload hx hb dL_law_533 (lv_at hl.1 12 rfl) ?_
  obtain ⟨x530_1, hx530_1, hf⟩ := kbind hf
  obtain ⟨h530_2, hf⟩ := kif hf
  obtain ⟨uc530_3, us530_4, hf, e1, e2⟩ := kadd_some2 hf
  have e1 : uc = 4 + uc530_3 := e1
  have e2 : us = 24 + us530_4 := e2
  have hc : cells + 4 + uc530_3 ≤ 600130 := by rw [Nat.add_assoc, ← e1]; exact hc
  have hs : slots + 24 + us530_4 ≤ 7301080 := by rw [Nat.add_assoc, ← e2]; exact hs
  have lc : cells + 4 ≤ 600130 := Nat.le_trans (Nat.le_add_right _ _) hc
  have ls2 : slots + 24 ≤ 7301080 := Nat.le_trans (Nat.le_add_right _ _) hs
  refine jc_callx V hA LX hH kYX5_related kl_L_135 (c_X5_related l LX.1 _ _ hx530_1 _) (Decidable.not_not.mp h530_2) rfl rfl ⟨Nat.le_of_ble_eq_true rfl, Nat.le_of_ble_eq_true rfl⟩ rfl hl.1.1 (as := [.int v16, .int v18]) (rest := []) (Nat.le_of_ble_eq_true rfl) dL_law_535 ⟨lc, ls2⟩ rfl (fun H locs hH => ?_)
  refine lv_iconst (v := 3) hx hb dL_law_538 (by decide) ?_
  refine lv_icmp_lt (tgt := 626) hx hb dL_law_539 (by decide) (fun hq => ?_) (fun hq => ?_)
  · have hf := kpos hq hf
    exact w_L_law_626 V hA LX SX hQ trivial hH (jl_sub hl [] rfl) hf hc hs
  · have hf := kneg hq hf
    exact w_L_law_542 V hA LX SX hQ hk22 hk374 trivial hH (jl_sub hl [0, 1, 2, 3, 4, 5, 6, 7, 8, 9, 10, 11, 12, 13, 14] rfl) hf hc hs
set_option maxHeartbeats 4000000 in
set_option maxRecDepth 100000 in
theorem w_L_law_519 (V : jV p s mm args meth c cL_law RL 24 (some .boolean) D g) (hA : ∀ q, s.heap.size ≤ q → A q) (LX : jLX l A s) (SX : jSX A s b L xs) (hQ : ∀ {H : Heap} {locs : List Loc} {ls : Array Slot} {cells slots : Nat}, va_S A s.heap H locs → cells ≤ 600130 → slots ≤ 7301080 → W p l e room_1 s mm args below meth c H locs cells slots Q (F0 mm 1222 ls [.int 1])) {c22 : Int32 → kS → kS → Option (Unit × Nat × Nat)} (hk22 : ∀ {ad : Nat → Nat} {v3 : Int32} {k : kS} {z : kS} {H : Heap} {locs : List Loc} {ls : Array Slot} {cells slots uc us : Nat} {o : Unit}, True → jH A s H locs D g ad z (jY adk g k mo) [] → jl_has ls 24 [(0, .ref b), (1, .ref (adk 0)), (2, .ref (ad 0)), (3, .int v3)] → c22 v3 k z = some (o, uc, us) → cells + uc ≤ 600130 → slots + us ≤ 7301080 → W p l e room_1 s mm args below meth c H locs cells slots Q (F0 mm 22 ls [])) {c374 : Int32 → Int32 → Int32 → Int32 → Int32 → Int32 → Int32 → Int32 → kS → kS → Option (Unit × Nat × Nat)} (hk374 : ∀ {ad : Nat → Nat} {v3 : Int32} {v4 : Int32} {v11 : Int32} {v12 : Int32} {v13 : Int32} {v14 : Int32} {v15 : Int32} {v16 : Int32} {k : kS} {z : kS} {H : Heap} {locs : List Loc} {ls : Array Slot} {cells slots uc us : Nat} {o : Unit}, True → jH A s H locs D g ad z (jY adk g k mo) [] → jl_has ls 24 [(0, .ref b), (1, .ref (adk 0)), (2, .ref (ad 0)), (3, .int v3), (4, .int v4), (11, .int v11), (12, .int v12), (13, .int v13), (14, .int v14), (15, .int v15), (16, .int v16)] → c374 v3 v4 v11 v12 v13 v14 v15 v16 k z = some (o, uc, us) → cells + uc ≤ 600130 → slots + us ≤ 7301080 → W p l e room_1 s mm args below meth c H locs cells slots Q (F0 mm 374 ls [])) {ad : Nat → Nat} {v3 : Int32} {v4 : Int32} {v11 : Int32} {v12 : Int32} {v13 : Int32} {v14 : Int32} {v15 : Int32} {v16 : Int32} {v17 : Int32} {v18 : Int32} {v19 : Int32} {v20 : Int32} {k : kS} {z : kS} {H : Heap} {locs : List Loc} {ls : Array Slot} {cells slots uc us : Nat} {o : Unit} (hG : True) (hH : jH A s H locs D g ad z (jY adk g k mo) []) (hl : jl_has ls 24 [(0, .ref b), (1, .ref (adk 0)), (2, .ref (ad 0)), (3, .int v3), (4, .int v4), (11, .int v11), (12, .int v12), (13, .int v13), (14, .int v14), (15, .int v15), (16, .int v16), (17, .int v17), (18, .int v18), (19, .int v19), (20, .int v20)]) (hf : F_L_law_519 xs L c22 c374 v3 v4 v11 v12 v13 v14 v15 v16 v17 v18 v19 v20 k z = some (o, uc, us)) (hc : cells + uc ≤ 600130) (hs : slots + us ≤ 7301080) : W p l e room_1 s mm args below meth c H locs cells slots Q (F0 mm 519 ls []) := by
  have hx := V.1
  have hb := V.2.1
  refine lv_aload_n hx hb dL_law_519 rfl (lv_at hl.1 1 rfl) ?_
  refine lv_iload hx hb dL_law_520 (lv_at hl.1 10 rfl) ?_
  refine lv_iload hx hb dL_law_522 (lv_at hl.1 12 rfl) ?_
  obtain ⟨x519_1, hx519_1, hf⟩ := kbind hf
  obtain ⟨h519_2, hf⟩ := kif hf
  obtain ⟨uc519_3, us519_4, hf, e1, e2⟩ := kadd_some2 hf
  have e1 : uc = 4 + uc519_3 := e1
  have e2 : us = 24 + us519_4 := e2
  have hc : cells + 4 + uc519_3 ≤ 600130 := by rw [Nat.add_assoc, ← e1]; exact hc
  have hs : slots + 24 + us519_4 ≤ 7301080 := by rw [Nat.add_assoc, ← e2]; exact hs
  have lc : cells + 4 ≤ 600130 := Nat.le_trans (Nat.le_add_right _ _) hc
  have ls2 : slots + 24 ≤ 7301080 := Nat.le_trans (Nat.le_add_right _ _) hs
  refine jc_callx V hA LX hH kYX5_related kl_L_135 (c_X5_related l LX.1 _ _ hx519_1 _) (Decidable.not_not.mp h519_2) rfl rfl ⟨Nat.le_of_ble_eq_true rfl, Nat.le_of_ble_eq_true rfl⟩ rfl hl.1.1 (as := [.int v16, .int v18]) (rest := []) (Nat.le_of_ble_eq_true rfl) dL_law_524 ⟨lc, ls2⟩ rfl (fun H locs hH => ?_)
  refine lv_if_lt (tgt := 542) hx hb dL_law_527 (by decide) (fun hq => ?_) (fun hq => ?_)
  · have hf := kpos hq hf
    exact w_L_law_542 V hA LX SX hQ hk22 hk374 trivial hH (jl_sub hl [0, 1, 2, 3, 4, 5, 6, 7, 8, 9, 10, 11, 12, 13, 14] rfl) hf hc hs
  · have hf := kneg hq hf
    exact w_L_law_530 V hA LX SX hQ hk22 hk374 trivial hH (jl_sub hl [0, 1, 2, 3, 4, 5, 6, 7, 8, 9, 10, 11, 12, 13, 14] rfl) hf hc hs
set_option maxHeartbeats 4000000 in
set_option maxRecDepth 100000 in
theorem w_L_law_502 (V : jV p s mm args meth c cL_law RL 24 (some .boolean) D g) (hA : ∀ q, s.heap.size ≤ q → A q) (LX : jLX l A s) (SX : jSX A s b L xs) (hQ : ∀ {H : Heap} {locs : List Loc} {ls : Array Slot} {cells slots : Nat}, va_S A s.heap H locs → cells ≤ 600130 → slots ≤ 7301080 → W p l e room_1 s mm args below meth c H locs cells slots Q (F0 mm 1222 ls [.int 1])) {c22 : Int32 → kS → kS → Option (Unit × Nat × Nat)} (hk22 : ∀ {ad : Nat → Nat} {v3 : Int32} {k : kS} {z : kS} {H : Heap} {locs : List Loc} {ls : Array Slot} {cells slots uc us : Nat} {o : Unit}, True → jH A s H locs D g ad z (jY adk g k mo) [] → jl_has ls 24 [(0, .ref b), (1, .ref (adk 0)), (2, .ref (ad 0)), (3, .int v3)] → c22 v3 k z = some (o, uc, us) → cells + uc ≤ 600130 → slots + us ≤ 7301080 → W p l e room_1 s mm args below meth c H locs cells slots Q (F0 mm 22 ls [])) {c374 : Int32 → Int32 → Int32 → Int32 → Int32 → Int32 → Int32 → Int32 → kS → kS → Option (Unit × Nat × Nat)} (hk374 : ∀ {ad : Nat → Nat} {v3 : Int32} {v4 : Int32} {v11 : Int32} {v12 : Int32} {v13 : Int32} {v14 : Int32} {v15 : Int32} {v16 : Int32} {k : kS} {z : kS} {H : Heap} {locs : List Loc} {ls : Array Slot} {cells slots uc us : Nat} {o : Unit}, True → jH A s H locs D g ad z (jY adk g k mo) [] → jl_has ls 24 [(0, .ref b), (1, .ref (adk 0)), (2, .ref (ad 0)), (3, .int v3), (4, .int v4), (11, .int v11), (12, .int v12), (13, .int v13), (14, .int v14), (15, .int v15), (16, .int v16)] → c374 v3 v4 v11 v12 v13 v14 v15 v16 k z = some (o, uc, us) → cells + uc ≤ 600130 → slots + us ≤ 7301080 → W p l e room_1 s mm args below meth c H locs cells slots Q (F0 mm 374 ls [])) {ad : Nat → Nat} {v3 : Int32} {v4 : Int32} {v11 : Int32} {v12 : Int32} {v13 : Int32} {v14 : Int32} {v15 : Int32} {v16 : Int32} {v17 : Int32} {v18 : Int32} {v19 : Int32} {v20 : Int32} {k : kS} {z : kS} {H : Heap} {locs : List Loc} {ls : Array Slot} {cells slots uc us : Nat} {o : Unit} (hG : True) (hH : jH A s H locs D g ad z (jY adk g k mo) []) (hl : jl_has ls 24 [(0, .ref b), (1, .ref (adk 0)), (2, .ref (ad 0)), (3, .int v3), (4, .int v4), (11, .int v11), (12, .int v12), (13, .int v13), (14, .int v14), (15, .int v15), (16, .int v16), (17, .int v17), (18, .int v18), (19, .int v19), (20, .int v20)]) (hf : F_L_law_502 xs L c22 c374 v3 v4 v11 v12 v13 v14 v15 v16 v17 v18 v19 v20 k z = some (o, uc, us)) (hc : cells + uc ≤ 600130) (hs : slots + us ≤ 7301080) : W p l e room_1 s mm args below meth c H locs cells slots Q (F0 mm 502 ls []) := by
  have hx := V.1
  have hb := V.2.1
  refine lv_aload_n hx hb dL_law_502 rfl (lv_at hl.1 1 rfl) ?_
  refine lv_iload hx hb dL_law_503 (lv_at hl.1 12 rfl) ?_
  refine lv_iconst (v := 0) hx hb dL_law_505 (by decide) ?_
  obtain ⟨x502_1, hx502_1, hf⟩ := kbind hf
  obtain ⟨h502_2, hf⟩ := kif hf
  obtain ⟨uc502_3, us502_4, hf, e1, e2⟩ := kadd_some2 hf
  have e1 : uc = 4 + uc502_3 := e1
  have e2 : us = 24 + us502_4 := e2
  have hc : cells + 4 + uc502_3 ≤ 600130 := by rw [Nat.add_assoc, ← e1]; exact hc
  have hs : slots + 24 + us502_4 ≤ 7301080 := by rw [Nat.add_assoc, ← e2]; exact hs
  have lc : cells + 4 ≤ 600130 := Nat.le_trans (Nat.le_add_right _ _) hc
  have ls2 : slots + 24 ≤ 7301080 := Nat.le_trans (Nat.le_add_right _ _) hs
  refine jc_callx V hA LX hH kYX5_person kl_L_132 (c_X5_person l LX.1 _ _ hx502_1 _) (Decidable.not_not.mp h502_2) rfl rfl ⟨Nat.le_of_ble_eq_true rfl, Nat.le_of_ble_eq_true rfl⟩ rfl hl.1.1 (as := [.int v18, .int 0]) (rest := []) (Nat.le_of_ble_eq_true rfl) dL_law_506 ⟨lc, ls2⟩ rfl (fun H locs hH => ?_)
  refine lv_aload_n hx hb dL_law_509 rfl (lv_at hl.1 1 rfl) ?_
  refine lv_iload hx hb dL_law_510 (lv_at hl.1 10 rfl) ?_
  refine lv_iconst (v := 0) hx hb dL_law_512 (by decide) ?_
  obtain ⟨x502_5, hx502_5, hf⟩ := kbind hf
  obtain ⟨h502_6, hf⟩ := kif hf
  obtain ⟨uc502_7, us502_8, hf, e1, e2⟩ := kadd_some2 hf
  have e1 : uc502_3 = 4 + uc502_7 := e1
  have e2 : us502_4 = 24 + us502_8 := e2
  have hc : cells + 4 + 4 + uc502_7 ≤ 600130 := by rw [Nat.add_assoc, ← e1]; exact hc
  have hs : slots + 24 + 24 + us502_8 ≤ 7301080 := by rw [Nat.add_assoc, ← e2]; exact hs
  have lc : cells + 4 + 4 ≤ 600130 := Nat.le_trans (Nat.le_add_right _ _) hc
  have ls2 : slots + 24 + 24 ≤ 7301080 := Nat.le_trans (Nat.le_add_right _ _) hs
  refine jc_callx V hA LX hH kYX5_person kl_L_132 (c_X5_person l LX.1 _ _ hx502_5 _) (Decidable.not_not.mp h502_6) rfl rfl ⟨Nat.le_of_ble_eq_true rfl, Nat.le_of_ble_eq_true rfl⟩ rfl hl.1.1 (as := [.int v16, .int 0]) (rest := [.int x502_1.2]) (Nat.le_of_ble_eq_true rfl) dL_law_513 ⟨lc, ls2⟩ rfl (fun H locs hH => ?_)
  refine lv_icmp_eq (tgt := 626) hx hb dL_law_516 (by decide) (fun hq => ?_) (fun hq => ?_)
  · have hf := kpos hq hf
    exact w_L_law_626 V hA LX SX hQ trivial hH (jl_sub hl [] rfl) hf hc hs
  · have hf := kneg hq hf
    exact w_L_law_519 V hA LX SX hQ hk22 hk374 trivial hH (jl_sub hl [0, 1, 2, 3, 4, 5, 6, 7, 8, 9, 10, 11, 12, 13, 14] rfl) hf hc hs
set_option maxHeartbeats 4000000 in
set_option maxRecDepth 100000 in
theorem w_L_law_491 (V : jV p s mm args meth c cL_law RL 24 (some .boolean) D g) (hA : ∀ q, s.heap.size ≤ q → A q) (LX : jLX l A s) (SX : jSX A s b L xs) (hQ : ∀ {H : Heap} {locs : List Loc} {ls : Array Slot} {cells slots : Nat}, va_S A s.heap H locs → cells ≤ 600130 → slots ≤ 7301080 → W p l e room_1 s mm args below meth c H locs cells slots Q (F0 mm 1222 ls [.int 1])) {c22 : Int32 → kS → kS → Option (Unit × Nat × Nat)} (hk22 : ∀ {ad : Nat → Nat} {v3 : Int32} {k : kS} {z : kS} {H : Heap} {locs : List Loc} {ls : Array Slot} {cells slots uc us : Nat} {o : Unit}, True → jH A s H locs D g ad z (jY adk g k mo) [] → jl_has ls 24 [(0, .ref b), (1, .ref (adk 0)), (2, .ref (ad 0)), (3, .int v3)] → c22 v3 k z = some (o, uc, us) → cells + uc ≤ 600130 → slots + us ≤ 7301080 → W p l e room_1 s mm args below meth c H locs cells slots Q (F0 mm 22 ls [])) {c374 : Int32 → Int32 → Int32 → Int32 → Int32 → Int32 → Int32 → Int32 → kS → kS → Option (Unit × Nat × Nat)} (hk374 : ∀ {ad : Nat → Nat} {v3 : Int32} {v4 : Int32} {v11 : Int32} {v12 : Int32} {v13 : Int32} {v14 : Int32} {v15 : Int32} {v16 : Int32} {k : kS} {z : kS} {H : Heap} {locs : List Loc} {ls : Array Slot} {cells slots uc us : Nat} {o : Unit}, True → jH A s H locs D g ad z (jY adk g k mo) [] → jl_has ls 24 [(0, .ref b), (1, .ref (adk 0)), (2, .ref (ad 0)), (3, .int v3), (4, .int v4), (11, .int v11), (12, .int v12), (13, .int v13), (14, .int v14), (15, .int v15), (16, .int v16)] → c374 v3 v4 v11 v12 v13 v14 v15 v16 k z = some (o, uc, us) → cells + uc ≤ 600130 → slots + us ≤ 7301080 → W p l e room_1 s mm args below meth c H locs cells slots Q (F0 mm 374 ls [])) {ad : Nat → Nat} {v3 : Int32} {v4 : Int32} {v11 : Int32} {v12 : Int32} {v13 : Int32} {v14 : Int32} {v15 : Int32} {v16 : Int32} {v17 : Int32} {v18 : Int32} {v19 : Int32} {v20 : Int32} {k : kS} {z : kS} {H : Heap} {locs : List Loc} {ls : Array Slot} {cells slots uc us : Nat} {o : Unit} (hG : True) (hH : jH A s H locs D g ad z (jY adk g k mo) []) (hl : jl_has ls 24 [(0, .ref b), (1, .ref (adk 0)), (2, .ref (ad 0)), (3, .int v3), (4, .int v4), (11, .int v11), (12, .int v12), (13, .int v13), (14, .int v14), (15, .int v15), (16, .int v16), (17, .int v17), (18, .int v18), (19, .int v19), (20, .int v20)]) (hf : F_L_law_491 xs L c22 c374 v3 v4 v11 v12 v13 v14 v15 v16 v17 v18 v19 v20 k z = some (o, uc, us)) (hc : cells + uc ≤ 600130) (hs : slots + us ≤ 7301080) : W p l e room_1 s mm args below meth c H locs cells slots Q (F0 mm 491 ls []) := by
  have hx := V.1
  have hb := V.2.1
  refine lv_aload_n hx hb dL_law_491 rfl (lv_at hl.1 1 rfl) ?_
  refine lv_iload hx hb dL_law_492 (lv_at hl.1 12 rfl) ?_
  refine lv_iconst (v := 2) hx hb dL_law_494 (by decide) ?_
  obtain ⟨x491_1, hx491_1, hf⟩ := kbind hf
  obtain ⟨h491_2, hf⟩ := kif hf
  obtain ⟨uc491_3, us491_4, hf, e1, e2⟩ := kadd_some2 hf
  have e1 : uc = 4 + uc491_3 := e1
  have e2 : us = 24 + us491_4 := e2
  have hc : cells + 4 + uc491_3 ≤ 600130 := by rw [Nat.add_assoc, ← e1]; exact hc
  have hs : slots + 24 + us491_4 ≤ 7301080 := by rw [Nat.add_assoc, ← e2]; exact hs
  have lc : cells + 4 ≤ 600130 := Nat.le_trans (Nat.le_add_right _ _) hc
  have ls2 : slots + 24 ≤ 7301080 := Nat.le_trans (Nat.le_add_right _ _) hs
  refine jc_callx V hA LX hH kYX5_person kl_L_132 (c_X5_person l LX.1 _ _ hx491_1 _) (Decidable.not_not.mp h491_2) rfl rfl ⟨Nat.le_of_ble_eq_true rfl, Nat.le_of_ble_eq_true rfl⟩ rfl hl.1.1 (as := [.int v18, .int 2]) (rest := []) (Nat.le_of_ble_eq_true rfl) dL_law_495 ⟨lc, ls2⟩ rfl (fun H locs hH => ?_)
  refine lv_iconst (v := 1) hx hb dL_law_498 (by decide) ?_
  refine lv_icmp_ne (tgt := 626) hx hb dL_law_499 (by decide) (fun hq => ?_) (fun hq => ?_)
  · have hf := kneg hq hf
    exact w_L_law_626 V hA LX SX hQ trivial hH (jl_sub hl [] rfl) hf hc hs
  · have hf := kpos hq hf
    exact w_L_law_502 V hA LX SX hQ hk22 hk374 trivial hH (jl_sub hl [0, 1, 2, 3, 4, 5, 6, 7, 8, 9, 10, 11, 12, 13, 14] rfl) hf hc hs
set_option maxHeartbeats 4000000 in
set_option maxRecDepth 100000 in
theorem w_L_law_479 (V : jV p s mm args meth c cL_law RL 24 (some .boolean) D g) (hA : ∀ q, s.heap.size ≤ q → A q) (LX : jLX l A s) (SX : jSX A s b L xs) (hQ : ∀ {H : Heap} {locs : List Loc} {ls : Array Slot} {cells slots : Nat}, va_S A s.heap H locs → cells ≤ 600130 → slots ≤ 7301080 → W p l e room_1 s mm args below meth c H locs cells slots Q (F0 mm 1222 ls [.int 1])) {c22 : Int32 → kS → kS → Option (Unit × Nat × Nat)} (hk22 : ∀ {ad : Nat → Nat} {v3 : Int32} {k : kS} {z : kS} {H : Heap} {locs : List Loc} {ls : Array Slot} {cells slots uc us : Nat} {o : Unit}, True → jH A s H locs D g ad z (jY adk g k mo) [] → jl_has ls 24 [(0, .ref b), (1, .ref (adk 0)), (2, .ref (ad 0)), (3, .int v3)] → c22 v3 k z = some (o, uc, us) → cells + uc ≤ 600130 → slots + us ≤ 7301080 → W p l e room_1 s mm args below meth c H locs cells slots Q (F0 mm 22 ls [])) {c374 : Int32 → Int32 → Int32 → Int32 → Int32 → Int32 → Int32 → Int32 → kS → kS → Option (Unit × Nat × Nat)} (hk374 : ∀ {ad : Nat → Nat} {v3 : Int32} {v4 : Int32} {v11 : Int32} {v12 : Int32} {v13 : Int32} {v14 : Int32} {v15 : Int32} {v16 : Int32} {k : kS} {z : kS} {H : Heap} {locs : List Loc} {ls : Array Slot} {cells slots uc us : Nat} {o : Unit}, True → jH A s H locs D g ad z (jY adk g k mo) [] → jl_has ls 24 [(0, .ref b), (1, .ref (adk 0)), (2, .ref (ad 0)), (3, .int v3), (4, .int v4), (11, .int v11), (12, .int v12), (13, .int v13), (14, .int v14), (15, .int v15), (16, .int v16)] → c374 v3 v4 v11 v12 v13 v14 v15 v16 k z = some (o, uc, us) → cells + uc ≤ 600130 → slots + us ≤ 7301080 → W p l e room_1 s mm args below meth c H locs cells slots Q (F0 mm 374 ls [])) {ad : Nat → Nat} {v3 : Int32} {v4 : Int32} {v11 : Int32} {v12 : Int32} {v13 : Int32} {v14 : Int32} {v15 : Int32} {v16 : Int32} {v17 : Int32} {v18 : Int32} {v19 : Int32} {v20 : Int32} {k : kS} {z : kS} {H : Heap} {locs : List Loc} {ls : Array Slot} {cells slots uc us : Nat} {o : Unit} (hG : True) (hH : jH A s H locs D g ad z (jY adk g k mo) []) (hl : jl_has ls 24 [(0, .ref b), (1, .ref (adk 0)), (2, .ref (ad 0)), (3, .int v3), (4, .int v4), (11, .int v11), (12, .int v12), (13, .int v13), (14, .int v14), (15, .int v15), (16, .int v16), (17, .int v17), (18, .int v18), (19, .int v19), (20, .int v20)]) (hf : F_L_law_479 xs L c22 c374 v3 v4 v11 v12 v13 v14 v15 v16 v17 v18 v19 v20 k z = some (o, uc, us)) (hc : cells + uc ≤ 600130) (hs : slots + us ≤ 7301080) : W p l e room_1 s mm args below meth c H locs cells slots Q (F0 mm 479 ls []) := by
  have hx := V.1
  have hb := V.2.1
  refine lv_aload_n hx hb dL_law_479 rfl (lv_at hl.1 1 rfl) ?_
  refine lv_iload hx hb dL_law_480 (lv_at hl.1 12 rfl) ?_
  refine lv_iconst (v := 5) hx hb dL_law_482 (by decide) ?_
  obtain ⟨x479_1, hx479_1, hf⟩ := kbind hf
  obtain ⟨h479_2, hf⟩ := kif hf
  obtain ⟨uc479_3, us479_4, hf, e1, e2⟩ := kadd_some2 hf
  have e1 : uc = 4 + uc479_3 := e1
  have e2 : us = 24 + us479_4 := e2
  have hc : cells + 4 + uc479_3 ≤ 600130 := by rw [Nat.add_assoc, ← e1]; exact hc
  have hs : slots + 24 + us479_4 ≤ 7301080 := by rw [Nat.add_assoc, ← e2]; exact hs
  have lc : cells + 4 ≤ 600130 := Nat.le_trans (Nat.le_add_right _ _) hc
  have ls2 : slots + 24 ≤ 7301080 := Nat.le_trans (Nat.le_add_right _ _) hs
  refine jc_callx V hA LX hH kYX5_person kl_L_132 (c_X5_person l LX.1 _ _ hx479_1 _) (Decidable.not_not.mp h479_2) rfl rfl ⟨Nat.le_of_ble_eq_true rfl, Nat.le_of_ble_eq_true rfl⟩ rfl hl.1.1 (as := [.int v18, .int 5]) (rest := []) (Nat.le_of_ble_eq_true rfl) dL_law_483 ⟨lc, ls2⟩ rfl (fun H locs hH => ?_)
  refine lv_iload hx hb dL_law_486 (lv_at hl.1 10 rfl) ?_
  refine lv_icmp_ne (tgt := 626) hx hb dL_law_488 (by decide) (fun hq => ?_) (fun hq => ?_)
  · have hf := kneg hq hf
    exact w_L_law_626 V hA LX SX hQ trivial hH (jl_sub hl [] rfl) hf hc hs
  · have hf := kpos hq hf
    exact w_L_law_491 V hA LX SX hQ hk22 hk374 trivial hH (jl_sub hl [0, 1, 2, 3, 4, 5, 6, 7, 8, 9, 10, 11, 12, 13, 14] rfl) hf hc hs
set_option maxHeartbeats 4000000 in
set_option maxRecDepth 100000 in
theorem w_L_law_474 (V : jV p s mm args meth c cL_law RL 24 (some .boolean) D g) (hA : ∀ q, s.heap.size ≤ q → A q) (LX : jLX l A s) (SX : jSX A s b L xs) (hQ : ∀ {H : Heap} {locs : List Loc} {ls : Array Slot} {cells slots : Nat}, va_S A s.heap H locs → cells ≤ 600130 → slots ≤ 7301080 → W p l e room_1 s mm args below meth c H locs cells slots Q (F0 mm 1222 ls [.int 1])) {c22 : Int32 → kS → kS → Option (Unit × Nat × Nat)} (hk22 : ∀ {ad : Nat → Nat} {v3 : Int32} {k : kS} {z : kS} {H : Heap} {locs : List Loc} {ls : Array Slot} {cells slots uc us : Nat} {o : Unit}, True → jH A s H locs D g ad z (jY adk g k mo) [] → jl_has ls 24 [(0, .ref b), (1, .ref (adk 0)), (2, .ref (ad 0)), (3, .int v3)] → c22 v3 k z = some (o, uc, us) → cells + uc ≤ 600130 → slots + us ≤ 7301080 → W p l e room_1 s mm args below meth c H locs cells slots Q (F0 mm 22 ls [])) {c374 : Int32 → Int32 → Int32 → Int32 → Int32 → Int32 → Int32 → Int32 → kS → kS → Option (Unit × Nat × Nat)} (hk374 : ∀ {ad : Nat → Nat} {v3 : Int32} {v4 : Int32} {v11 : Int32} {v12 : Int32} {v13 : Int32} {v14 : Int32} {v15 : Int32} {v16 : Int32} {k : kS} {z : kS} {H : Heap} {locs : List Loc} {ls : Array Slot} {cells slots uc us : Nat} {o : Unit}, True → jH A s H locs D g ad z (jY adk g k mo) [] → jl_has ls 24 [(0, .ref b), (1, .ref (adk 0)), (2, .ref (ad 0)), (3, .int v3), (4, .int v4), (11, .int v11), (12, .int v12), (13, .int v13), (14, .int v14), (15, .int v15), (16, .int v16)] → c374 v3 v4 v11 v12 v13 v14 v15 v16 k z = some (o, uc, us) → cells + uc ≤ 600130 → slots + us ≤ 7301080 → W p l e room_1 s mm args below meth c H locs cells slots Q (F0 mm 374 ls [])) {ad : Nat → Nat} {v3 : Int32} {v4 : Int32} {v11 : Int32} {v12 : Int32} {v13 : Int32} {v14 : Int32} {v15 : Int32} {v16 : Int32} {v17 : Int32} {v18 : Int32} {v19 : Int32} {v20 : Int32} {k : kS} {z : kS} {H : Heap} {locs : List Loc} {ls : Array Slot} {cells slots uc us : Nat} {o : Unit} (hG : True) (hH : jH A s H locs D g ad z (jY adk g k mo) []) (hl : jl_has ls 24 [(0, .ref b), (1, .ref (adk 0)), (2, .ref (ad 0)), (3, .int v3), (4, .int v4), (11, .int v11), (12, .int v12), (13, .int v13), (14, .int v14), (15, .int v15), (16, .int v16), (17, .int v17), (18, .int v18), (19, .int v19), (20, .int v20)]) (hf : F_L_law_474 xs L c22 c374 v3 v4 v11 v12 v13 v14 v15 v16 v17 v18 v19 v20 k z = some (o, uc, us)) (hc : cells + uc ≤ 600130) (hs : slots + us ≤ 7301080) : W p l e room_1 s mm args below meth c H locs cells slots Q (F0 mm 474 ls []) := by
  have hx := V.1
  have hb := V.2.1
  refine lv_iload hx hb dL_law_474 (lv_at hl.1 11 rfl) ?_
  refine lv_if_eq (tgt := 626) hx hb dL_law_476 (by decide) (fun hq => ?_) (fun hq => ?_)
  · have hf := kpos hq hf
    exact w_L_law_626 V hA LX SX hQ trivial hH (jl_sub hl [] rfl) hf hc hs
  · have hf := kneg hq hf
    exact w_L_law_479 V hA LX SX hQ hk22 hk374 trivial hH (jl_sub hl [0, 1, 2, 3, 4, 5, 6, 7, 8, 9, 10, 11, 12, 13, 14] rfl) hf hc hs
set_option maxHeartbeats 4000000 in
set_option maxRecDepth 100000 in
theorem w_L_law_453 (V : jV p s mm args meth c cL_law RL 24 (some .boolean) D g) (hA : ∀ q, s.heap.size ≤ q → A q) (LX : jLX l A s) (SX : jSX A s b L xs) (hQ : ∀ {H : Heap} {locs : List Loc} {ls : Array Slot} {cells slots : Nat}, va_S A s.heap H locs → cells ≤ 600130 → slots ≤ 7301080 → W p l e room_1 s mm args below meth c H locs cells slots Q (F0 mm 1222 ls [.int 1])) {c22 : Int32 → kS → kS → Option (Unit × Nat × Nat)} (hk22 : ∀ {ad : Nat → Nat} {v3 : Int32} {k : kS} {z : kS} {H : Heap} {locs : List Loc} {ls : Array Slot} {cells slots uc us : Nat} {o : Unit}, True → jH A s H locs D g ad z (jY adk g k mo) [] → jl_has ls 24 [(0, .ref b), (1, .ref (adk 0)), (2, .ref (ad 0)), (3, .int v3)] → c22 v3 k z = some (o, uc, us) → cells + uc ≤ 600130 → slots + us ≤ 7301080 → W p l e room_1 s mm args below meth c H locs cells slots Q (F0 mm 22 ls [])) {c374 : Int32 → Int32 → Int32 → Int32 → Int32 → Int32 → Int32 → Int32 → kS → kS → Option (Unit × Nat × Nat)} (hk374 : ∀ {ad : Nat → Nat} {v3 : Int32} {v4 : Int32} {v11 : Int32} {v12 : Int32} {v13 : Int32} {v14 : Int32} {v15 : Int32} {v16 : Int32} {k : kS} {z : kS} {H : Heap} {locs : List Loc} {ls : Array Slot} {cells slots uc us : Nat} {o : Unit}, True → jH A s H locs D g ad z (jY adk g k mo) [] → jl_has ls 24 [(0, .ref b), (1, .ref (adk 0)), (2, .ref (ad 0)), (3, .int v3), (4, .int v4), (11, .int v11), (12, .int v12), (13, .int v13), (14, .int v14), (15, .int v15), (16, .int v16)] → c374 v3 v4 v11 v12 v13 v14 v15 v16 k z = some (o, uc, us) → cells + uc ≤ 600130 → slots + us ≤ 7301080 → W p l e room_1 s mm args below meth c H locs cells slots Q (F0 mm 374 ls [])) {ad : Nat → Nat} {s0 : Int32} {s1 : Int32} {v3 : Int32} {v4 : Int32} {v11 : Int32} {v12 : Int32} {v14 : Int32} {v15 : Int32} {v16 : Int32} {v17 : Int32} {v18 : Int32} {v19 : Int32} {v20 : Int32} {k : kS} {z : kS} {H : Heap} {locs : List Loc} {ls : Array Slot} {cells slots uc us : Nat} {o : Unit} (hG : True) (hH : jH A s H locs D g ad z (jY adk g k mo) []) (hl : jl_has ls 24 [(0, .ref b), (1, .ref (adk 0)), (2, .ref (ad 0)), (3, .int v3), (4, .int v4), (11, .int v11), (12, .int v12), (14, .int v14), (15, .int v15), (16, .int v16), (17, .int v17), (18, .int v18), (19, .int v19), (20, .int v20)]) (hf : F_L_law_453 xs L c22 c374 s0 s1 v3 v4 v11 v12 v14 v15 v16 v17 v18 v19 v20 k z = some (o, uc, us)) (hc : cells + uc ≤ 600130) (hs : slots + us ≤ 7301080) : W p l e room_1 s mm args below meth c H locs cells slots Q (F0 mm 453 ls [.int s1, .int s0]) := by
  have hx := V.1
  have hb := V.2.1
  refine lv_iadd hx hb dL_law_453 ?_
  refine jl_istore (lv' := [(13, .int (s0 + s1)), (0, .ref b), (1, .ref (adk 0)), (2, .ref (ad 0)), (3, .int v3), (4, .int v4), (11, .int v11), (12, .int v12), (14, .int v14), (15, .int v15), (16, .int v16), (17, .int v17), (18, .int v18), (19, .int v19), (20, .int v20)]) hx hb dL_law_454 hl (by decide) rfl (fun ls hl => ?_)
  refine lv_iload hx hb dL_law_456 (lv_at hl.1 8 rfl) ?_
  refine lv_aload_n hx hb dL_law_458 rfl (lv_at hl.1 2 rfl) ?_
  refine lv_iload hx hb dL_law_459 (lv_at hl.1 10 rfl) ?_
  refine lv_bipush (v := 8) hx hb dL_law_461 (by decide) ?_
  obtain ⟨x453_1, hx453_1, hf⟩ := kbind hf
  obtain ⟨h453_2, hf⟩ := kif hf
  obtain ⟨uc453_3, us453_4, hf, e1, e2⟩ := kadd_some2 hf
  have e1 : uc = 4 + uc453_3 := e1
  have e2 : us = 24 + us453_4 := e2
  have hc : cells + 4 + uc453_3 ≤ 600130 := by rw [Nat.add_assoc, ← e1]; exact hc
  have hs : slots + 24 + us453_4 ≤ 7301080 := by rw [Nat.add_assoc, ← e2]; exact hs
  have lc : cells + 4 ≤ 600130 := Nat.le_trans (Nat.le_add_right _ _) hc
  have ls2 : slots + 24 ≤ 7301080 := Nat.le_trans (Nat.le_add_right _ _) hs
  refine jc_callx V hA LX hH kYX5_person kl_L_132 (c_X5_person l LX.1 _ _ hx453_1 _) (Decidable.not_not.mp h453_2) rfl rfl ⟨Nat.le_of_ble_eq_true rfl, Nat.le_of_ble_eq_true rfl⟩ rfl hl.1.1 (as := [.int v16, .int 8]) (rest := [.int v14]) (Nat.le_of_ble_eq_true rfl) dL_law_463 ⟨lc, ls2⟩ rfl (fun H locs hH => ?_)
  refine lv_iadd hx hb dL_law_466 ?_
  refine jl_istore (lv' := [(14, .int (v14 + x453_1.2)), (13, .int (s0 + s1)), (0, .ref b), (1, .ref (adk 0)), (2, .ref (ad 0)), (3, .int v3), (4, .int v4), (11, .int v11), (12, .int v12), (15, .int v15), (16, .int v16), (17, .int v17), (18, .int v18), (19, .int v19), (20, .int v20)]) hx hb dL_law_467 hl (by decide) rfl (fun ls hl => ?_)
  refine lv_iload hx hb dL_law_469 (lv_at hl.1 12 rfl) ?_
  refine lv_if_lt (tgt := 542) hx hb dL_law_471 (by decide) (fun hq => ?_) (fun hq => ?_)
  · have hf := kpos hq hf
    exact w_L_law_542 V hA LX SX hQ hk22 hk374 trivial hH (jl_sub hl [2, 3, 4, 5, 6, 7, 8, 1, 0, 9, 10, 11, 12, 13, 14] rfl) hf hc hs
  · have hf := kneg hq hf
    exact w_L_law_474 V hA LX SX hQ hk22 hk374 trivial hH (jl_sub hl [2, 3, 4, 5, 6, 7, 8, 1, 0, 9, 10, 11, 12, 13, 14] rfl) hf hc hs
set_option maxHeartbeats 4000000 in
set_option maxRecDepth 100000 in
theorem w_L_law_448 (V : jV p s mm args meth c cL_law RL 24 (some .boolean) D g) (hA : ∀ q, s.heap.size ≤ q → A q) (LX : jLX l A s) (SX : jSX A s b L xs) (hQ : ∀ {H : Heap} {locs : List Loc} {ls : Array Slot} {cells slots : Nat}, va_S A s.heap H locs → cells ≤ 600130 → slots ≤ 7301080 → W p l e room_1 s mm args below meth c H locs cells slots Q (F0 mm 1222 ls [.int 1])) {c22 : Int32 → kS → kS → Option (Unit × Nat × Nat)} (hk22 : ∀ {ad : Nat → Nat} {v3 : Int32} {k : kS} {z : kS} {H : Heap} {locs : List Loc} {ls : Array Slot} {cells slots uc us : Nat} {o : Unit}, True → jH A s H locs D g ad z (jY adk g k mo) [] → jl_has ls 24 [(0, .ref b), (1, .ref (adk 0)), (2, .ref (ad 0)), (3, .int v3)] → c22 v3 k z = some (o, uc, us) → cells + uc ≤ 600130 → slots + us ≤ 7301080 → W p l e room_1 s mm args below meth c H locs cells slots Q (F0 mm 22 ls [])) {c374 : Int32 → Int32 → Int32 → Int32 → Int32 → Int32 → Int32 → Int32 → kS → kS → Option (Unit × Nat × Nat)} (hk374 : ∀ {ad : Nat → Nat} {v3 : Int32} {v4 : Int32} {v11 : Int32} {v12 : Int32} {v13 : Int32} {v14 : Int32} {v15 : Int32} {v16 : Int32} {k : kS} {z : kS} {H : Heap} {locs : List Loc} {ls : Array Slot} {cells slots uc us : Nat} {o : Unit}, True → jH A s H locs D g ad z (jY adk g k mo) [] → jl_has ls 24 [(0, .ref b), (1, .ref (adk 0)), (2, .ref (ad 0)), (3, .int v3), (4, .int v4), (11, .int v11), (12, .int v12), (13, .int v13), (14, .int v14), (15, .int v15), (16, .int v16)] → c374 v3 v4 v11 v12 v13 v14 v15 v16 k z = some (o, uc, us) → cells + uc ≤ 600130 → slots + us ≤ 7301080 → W p l e room_1 s mm args below meth c H locs cells slots Q (F0 mm 374 ls [])) {ad : Nat → Nat} {s0 : Int32} {v3 : Int32} {v4 : Int32} {v11 : Int32} {v12 : Int32} {v14 : Int32} {v15 : Int32} {v16 : Int32} {v17 : Int32} {v18 : Int32} {v19 : Int32} {v20 : Int32} {k : kS} {z : kS} {H : Heap} {locs : List Loc} {ls : Array Slot} {cells slots uc us : Nat} {o : Unit} (hG : True) (hH : jH A s H locs D g ad z (jY adk g k mo) []) (hl : jl_has ls 24 [(0, .ref b), (1, .ref (adk 0)), (2, .ref (ad 0)), (3, .int v3), (4, .int v4), (11, .int v11), (12, .int v12), (14, .int v14), (15, .int v15), (16, .int v16), (17, .int v17), (18, .int v18), (19, .int v19), (20, .int v20)]) (hf : F_L_law_448 xs L c22 c374 s0 v3 v4 v11 v12 v14 v15 v16 v17 v18 v19 v20 k z = some (o, uc, us)) (hc : cells + uc ≤ 600130) (hs : slots + us ≤ 7301080) : W p l e room_1 s mm args below meth c H locs cells slots Q (F0 mm 448 ls [.int s0]) := by
  have hx := V.1
  have hb := V.2.1
  refine lv_iconst (v := 1) hx hb dL_law_448 (by decide) ?_
  refine lv_goto (tgt := 453) hx hb dL_law_449 (by decide) ?_
  exact w_L_law_453 V hA LX SX hQ hk22 hk374 trivial hH (jl_sub hl [0, 1, 2, 3, 4, 5, 6, 7, 8, 9, 10, 11, 12, 13] rfl) hf hc hs
set_option maxHeartbeats 4000000 in
set_option maxRecDepth 100000 in
theorem w_L_law_452 (V : jV p s mm args meth c cL_law RL 24 (some .boolean) D g) (hA : ∀ q, s.heap.size ≤ q → A q) (LX : jLX l A s) (SX : jSX A s b L xs) (hQ : ∀ {H : Heap} {locs : List Loc} {ls : Array Slot} {cells slots : Nat}, va_S A s.heap H locs → cells ≤ 600130 → slots ≤ 7301080 → W p l e room_1 s mm args below meth c H locs cells slots Q (F0 mm 1222 ls [.int 1])) {c22 : Int32 → kS → kS → Option (Unit × Nat × Nat)} (hk22 : ∀ {ad : Nat → Nat} {v3 : Int32} {k : kS} {z : kS} {H : Heap} {locs : List Loc} {ls : Array Slot} {cells slots uc us : Nat} {o : Unit}, True → jH A s H locs D g ad z (jY adk g k mo) [] → jl_has ls 24 [(0, .ref b), (1, .ref (adk 0)), (2, .ref (ad 0)), (3, .int v3)] → c22 v3 k z = some (o, uc, us) → cells + uc ≤ 600130 → slots + us ≤ 7301080 → W p l e room_1 s mm args below meth c H locs cells slots Q (F0 mm 22 ls [])) {c374 : Int32 → Int32 → Int32 → Int32 → Int32 → Int32 → Int32 → Int32 → kS → kS → Option (Unit × Nat × Nat)} (hk374 : ∀ {ad : Nat → Nat} {v3 : Int32} {v4 : Int32} {v11 : Int32} {v12 : Int32} {v13 : Int32} {v14 : Int32} {v15 : Int32} {v16 : Int32} {k : kS} {z : kS} {H : Heap} {locs : List Loc} {ls : Array Slot} {cells slots uc us : Nat} {o : Unit}, True → jH A s H locs D g ad z (jY adk g k mo) [] → jl_has ls 24 [(0, .ref b), (1, .ref (adk 0)), (2, .ref (ad 0)), (3, .int v3), (4, .int v4), (11, .int v11), (12, .int v12), (13, .int v13), (14, .int v14), (15, .int v15), (16, .int v16)] → c374 v3 v4 v11 v12 v13 v14 v15 v16 k z = some (o, uc, us) → cells + uc ≤ 600130 → slots + us ≤ 7301080 → W p l e room_1 s mm args below meth c H locs cells slots Q (F0 mm 374 ls [])) {ad : Nat → Nat} {s0 : Int32} {v3 : Int32} {v4 : Int32} {v11 : Int32} {v12 : Int32} {v14 : Int32} {v15 : Int32} {v16 : Int32} {v17 : Int32} {v18 : Int32} {v19 : Int32} {v20 : Int32} {k : kS} {z : kS} {H : Heap} {locs : List Loc} {ls : Array Slot} {cells slots uc us : Nat} {o : Unit} (hG : True) (hH : jH A s H locs D g ad z (jY adk g k mo) []) (hl : jl_has ls 24 [(0, .ref b), (1, .ref (adk 0)), (2, .ref (ad 0)), (3, .int v3), (4, .int v4), (11, .int v11), (12, .int v12), (14, .int v14), (15, .int v15), (16, .int v16), (17, .int v17), (18, .int v18), (19, .int v19), (20, .int v20)]) (hf : F_L_law_452 xs L c22 c374 s0 v3 v4 v11 v12 v14 v15 v16 v17 v18 v19 v20 k z = some (o, uc, us)) (hc : cells + uc ≤ 600130) (hs : slots + us ≤ 7301080) : W p l e room_1 s mm args below meth c H locs cells slots Q (F0 mm 452 ls [.int s0]) := by
  have hx := V.1
  have hb := V.2.1
  refine lv_iconst (v := 0) hx hb dL_law_452 (by decide) ?_
  exact w_L_law_453 V hA LX SX hQ hk22 hk374 trivial hH (jl_sub hl [0, 1, 2, 3, 4, 5, 6, 7, 8, 9, 10, 11, 12, 13] rfl) hf hc hs
set_option maxHeartbeats 4000000 in
set_option maxRecDepth 100000 in
theorem w_L_law_438 (V : jV p s mm args meth c cL_law RL 24 (some .boolean) D g) (hA : ∀ q, s.heap.size ≤ q → A q) (LX : jLX l A s) (SX : jSX A s b L xs) (hQ : ∀ {H : Heap} {locs : List Loc} {ls : Array Slot} {cells slots : Nat}, va_S A s.heap H locs → cells ≤ 600130 → slots ≤ 7301080 → W p l e room_1 s mm args below meth c H locs cells slots Q (F0 mm 1222 ls [.int 1])) {c22 : Int32 → kS → kS → Option (Unit × Nat × Nat)} (hk22 : ∀ {ad : Nat → Nat} {v3 : Int32} {k : kS} {z : kS} {H : Heap} {locs : List Loc} {ls : Array Slot} {cells slots uc us : Nat} {o : Unit}, True → jH A s H locs D g ad z (jY adk g k mo) [] → jl_has ls 24 [(0, .ref b), (1, .ref (adk 0)), (2, .ref (ad 0)), (3, .int v3)] → c22 v3 k z = some (o, uc, us) → cells + uc ≤ 600130 → slots + us ≤ 7301080 → W p l e room_1 s mm args below meth c H locs cells slots Q (F0 mm 22 ls [])) {c374 : Int32 → Int32 → Int32 → Int32 → Int32 → Int32 → Int32 → Int32 → kS → kS → Option (Unit × Nat × Nat)} (hk374 : ∀ {ad : Nat → Nat} {v3 : Int32} {v4 : Int32} {v11 : Int32} {v12 : Int32} {v13 : Int32} {v14 : Int32} {v15 : Int32} {v16 : Int32} {k : kS} {z : kS} {H : Heap} {locs : List Loc} {ls : Array Slot} {cells slots uc us : Nat} {o : Unit}, True → jH A s H locs D g ad z (jY adk g k mo) [] → jl_has ls 24 [(0, .ref b), (1, .ref (adk 0)), (2, .ref (ad 0)), (3, .int v3), (4, .int v4), (11, .int v11), (12, .int v12), (13, .int v13), (14, .int v14), (15, .int v15), (16, .int v16)] → c374 v3 v4 v11 v12 v13 v14 v15 v16 k z = some (o, uc, us) → cells + uc ≤ 600130 → slots + us ≤ 7301080 → W p l e room_1 s mm args below meth c H locs cells slots Q (F0 mm 374 ls [])) {ad : Nat → Nat} {s0 : Int32} {s1 : Int32} {v3 : Int32} {v4 : Int32} {v11 : Int32} {v13 : Int32} {v14 : Int32} {v15 : Int32} {v16 : Int32} {v17 : Int32} {v18 : Int32} {v19 : Int32} {v20 : Int32} {k : kS} {z : kS} {H : Heap} {locs : List Loc} {ls : Array Slot} {cells slots uc us : Nat} {o : Unit} (hG : True) (hH : jH A s H locs D g ad z (jY adk g k mo) []) (hl : jl_has ls 24 [(0, .ref b), (1, .ref (adk 0)), (2, .ref (ad 0)), (3, .int v3), (4, .int v4), (11, .int v11), (13, .int v13), (14, .int v14), (15, .int v15), (16, .int v16), (17, .int v17), (18, .int v18), (19, .int v19), (20, .int v20)]) (hf : F_L_law_438 xs L c22 c374 s0 s1 v3 v4 v11 v13 v14 v15 v16 v17 v18 v19 v20 k z = some (o, uc, us)) (hc : cells + uc ≤ 600130) (hs : slots + us ≤ 7301080) : W p l e room_1 s mm args below meth c H locs cells slots Q (F0 mm 438 ls [.int s1, .int s0]) := by
  have hx := V.1
  have hb := V.2.1
  refine lv_iadd hx hb dL_law_438 ?_
  refine jl_istore (lv' := [(12, .int (s0 + s1)), (0, .ref b), (1, .ref (adk 0)), (2, .ref (ad 0)), (3, .int v3), (4, .int v4), (11, .int v11), (13, .int v13), (14, .int v14), (15, .int v15), (16, .int v16), (17, .int v17), (18, .int v18), (19, .int v19), (20, .int v20)]) hx hb dL_law_439 hl (by decide) rfl (fun ls hl => ?_)
  refine lv_iload hx hb dL_law_441 (lv_at hl.1 7 rfl) ?_
  refine lv_iload hx hb dL_law_443 (lv_at hl.1 12 rfl) ?_
  refine lv_if_lt (tgt := 452) hx hb dL_law_445 (by decide) (fun hq => ?_) (fun hq => ?_)
  · have hf := kpos hq hf
    exact w_L_law_452 V hA LX SX hQ hk22 hk374 trivial hH (jl_sub hl [1, 2, 3, 4, 5, 6, 0, 8, 9, 10, 11, 12, 13, 14] rfl) hf hc hs
  · have hf := kneg hq hf
    exact w_L_law_448 V hA LX SX hQ hk22 hk374 trivial hH (jl_sub hl [1, 2, 3, 4, 5, 6, 0, 8, 9, 10, 11, 12, 13, 14] rfl) hf hc hs
set_option maxHeartbeats 4000000 in
set_option maxRecDepth 100000 in
theorem w_L_law_433 (V : jV p s mm args meth c cL_law RL 24 (some .boolean) D g) (hA : ∀ q, s.heap.size ≤ q → A q) (LX : jLX l A s) (SX : jSX A s b L xs) (hQ : ∀ {H : Heap} {locs : List Loc} {ls : Array Slot} {cells slots : Nat}, va_S A s.heap H locs → cells ≤ 600130 → slots ≤ 7301080 → W p l e room_1 s mm args below meth c H locs cells slots Q (F0 mm 1222 ls [.int 1])) {c22 : Int32 → kS → kS → Option (Unit × Nat × Nat)} (hk22 : ∀ {ad : Nat → Nat} {v3 : Int32} {k : kS} {z : kS} {H : Heap} {locs : List Loc} {ls : Array Slot} {cells slots uc us : Nat} {o : Unit}, True → jH A s H locs D g ad z (jY adk g k mo) [] → jl_has ls 24 [(0, .ref b), (1, .ref (adk 0)), (2, .ref (ad 0)), (3, .int v3)] → c22 v3 k z = some (o, uc, us) → cells + uc ≤ 600130 → slots + us ≤ 7301080 → W p l e room_1 s mm args below meth c H locs cells slots Q (F0 mm 22 ls [])) {c374 : Int32 → Int32 → Int32 → Int32 → Int32 → Int32 → Int32 → Int32 → kS → kS → Option (Unit × Nat × Nat)} (hk374 : ∀ {ad : Nat → Nat} {v3 : Int32} {v4 : Int32} {v11 : Int32} {v12 : Int32} {v13 : Int32} {v14 : Int32} {v15 : Int32} {v16 : Int32} {k : kS} {z : kS} {H : Heap} {locs : List Loc} {ls : Array Slot} {cells slots uc us : Nat} {o : Unit}, True → jH A s H locs D g ad z (jY adk g k mo) [] → jl_has ls 24 [(0, .ref b), (1, .ref (adk 0)), (2, .ref (ad 0)), (3, .int v3), (4, .int v4), (11, .int v11), (12, .int v12), (13, .int v13), (14, .int v14), (15, .int v15), (16, .int v16)] → c374 v3 v4 v11 v12 v13 v14 v15 v16 k z = some (o, uc, us) → cells + uc ≤ 600130 → slots + us ≤ 7301080 → W p l e room_1 s mm args below meth c H locs cells slots Q (F0 mm 374 ls [])) {ad : Nat → Nat} {s0 : Int32} {v3 : Int32} {v4 : Int32} {v11 : Int32} {v13 : Int32} {v14 : Int32} {v15 : Int32} {v16 : Int32} {v17 : Int32} {v18 : Int32} {v19 : Int32} {v20 : Int32} {k : kS} {z : kS} {H : Heap} {locs : List Loc} {ls : Array Slot} {cells slots uc us : Nat} {o : Unit} (hG : True) (hH : jH A s H locs D g ad z (jY adk g k mo) []) (hl : jl_has ls 24 [(0, .ref b), (1, .ref (adk 0)), (2, .ref (ad 0)), (3, .int v3), (4, .int v4), (11, .int v11), (13, .int v13), (14, .int v14), (15, .int v15), (16, .int v16), (17, .int v17), (18, .int v18), (19, .int v19), (20, .int v20)]) (hf : F_L_law_433 xs L c22 c374 s0 v3 v4 v11 v13 v14 v15 v16 v17 v18 v19 v20 k z = some (o, uc, us)) (hc : cells + uc ≤ 600130) (hs : slots + us ≤ 7301080) : W p l e room_1 s mm args below meth c H locs cells slots Q (F0 mm 433 ls [.int s0]) := by
  have hx := V.1
  have hb := V.2.1
  refine lv_iconst (v := 1) hx hb dL_law_433 (by decide) ?_
  refine lv_goto (tgt := 438) hx hb dL_law_434 (by decide) ?_
  exact w_L_law_438 V hA LX SX hQ hk22 hk374 trivial hH (jl_sub hl [0, 1, 2, 3, 4, 5, 6, 7, 8, 9, 10, 11, 12, 13] rfl) hf hc hs
set_option maxHeartbeats 4000000 in
set_option maxRecDepth 100000 in
theorem w_L_law_437 (V : jV p s mm args meth c cL_law RL 24 (some .boolean) D g) (hA : ∀ q, s.heap.size ≤ q → A q) (LX : jLX l A s) (SX : jSX A s b L xs) (hQ : ∀ {H : Heap} {locs : List Loc} {ls : Array Slot} {cells slots : Nat}, va_S A s.heap H locs → cells ≤ 600130 → slots ≤ 7301080 → W p l e room_1 s mm args below meth c H locs cells slots Q (F0 mm 1222 ls [.int 1])) {c22 : Int32 → kS → kS → Option (Unit × Nat × Nat)} (hk22 : ∀ {ad : Nat → Nat} {v3 : Int32} {k : kS} {z : kS} {H : Heap} {locs : List Loc} {ls : Array Slot} {cells slots uc us : Nat} {o : Unit}, True → jH A s H locs D g ad z (jY adk g k mo) [] → jl_has ls 24 [(0, .ref b), (1, .ref (adk 0)), (2, .ref (ad 0)), (3, .int v3)] → c22 v3 k z = some (o, uc, us) → cells + uc ≤ 600130 → slots + us ≤ 7301080 → W p l e room_1 s mm args below meth c H locs cells slots Q (F0 mm 22 ls [])) {c374 : Int32 → Int32 → Int32 → Int32 → Int32 → Int32 → Int32 → Int32 → kS → kS → Option (Unit × Nat × Nat)} (hk374 : ∀ {ad : Nat → Nat} {v3 : Int32} {v4 : Int32} {v11 : Int32} {v12 : Int32} {v13 : Int32} {v14 : Int32} {v15 : Int32} {v16 : Int32} {k : kS} {z : kS} {H : Heap} {locs : List Loc} {ls : Array Slot} {cells slots uc us : Nat} {o : Unit}, True → jH A s H locs D g ad z (jY adk g k mo) [] → jl_has ls 24 [(0, .ref b), (1, .ref (adk 0)), (2, .ref (ad 0)), (3, .int v3), (4, .int v4), (11, .int v11), (12, .int v12), (13, .int v13), (14, .int v14), (15, .int v15), (16, .int v16)] → c374 v3 v4 v11 v12 v13 v14 v15 v16 k z = some (o, uc, us) → cells + uc ≤ 600130 → slots + us ≤ 7301080 → W p l e room_1 s mm args below meth c H locs cells slots Q (F0 mm 374 ls [])) {ad : Nat → Nat} {s0 : Int32} {v3 : Int32} {v4 : Int32} {v11 : Int32} {v13 : Int32} {v14 : Int32} {v15 : Int32} {v16 : Int32} {v17 : Int32} {v18 : Int32} {v19 : Int32} {v20 : Int32} {k : kS} {z : kS} {H : Heap} {locs : List Loc} {ls : Array Slot} {cells slots uc us : Nat} {o : Unit} (hG : True) (hH : jH A s H locs D g ad z (jY adk g k mo) []) (hl : jl_has ls 24 [(0, .ref b), (1, .ref (adk 0)), (2, .ref (ad 0)), (3, .int v3), (4, .int v4), (11, .int v11), (13, .int v13), (14, .int v14), (15, .int v15), (16, .int v16), (17, .int v17), (18, .int v18), (19, .int v19), (20, .int v20)]) (hf : F_L_law_437 xs L c22 c374 s0 v3 v4 v11 v13 v14 v15 v16 v17 v18 v19 v20 k z = some (o, uc, us)) (hc : cells + uc ≤ 600130) (hs : slots + us ≤ 7301080) : W p l e room_1 s mm args below meth c H locs cells slots Q (F0 mm 437 ls [.int s0]) := by
  have hx := V.1
  have hb := V.2.1
  refine lv_iconst (v := 0) hx hb dL_law_437 (by decide) ?_
  exact w_L_law_438 V hA LX SX hQ hk22 hk374 trivial hH (jl_sub hl [0, 1, 2, 3, 4, 5, 6, 7, 8, 9, 10, 11, 12, 13] rfl) hf hc hs
set_option maxHeartbeats 4000000 in
set_option maxRecDepth 100000 in
theorem w_L_law_397 (V : jV p s mm args meth c cL_law RL 24 (some .boolean) D g) (hA : ∀ q, s.heap.size ≤ q → A q) (LX : jLX l A s) (SX : jSX A s b L xs) (hQ : ∀ {H : Heap} {locs : List Loc} {ls : Array Slot} {cells slots : Nat}, va_S A s.heap H locs → cells ≤ 600130 → slots ≤ 7301080 → W p l e room_1 s mm args below meth c H locs cells slots Q (F0 mm 1222 ls [.int 1])) {c22 : Int32 → kS → kS → Option (Unit × Nat × Nat)} (hk22 : ∀ {ad : Nat → Nat} {v3 : Int32} {k : kS} {z : kS} {H : Heap} {locs : List Loc} {ls : Array Slot} {cells slots uc us : Nat} {o : Unit}, True → jH A s H locs D g ad z (jY adk g k mo) [] → jl_has ls 24 [(0, .ref b), (1, .ref (adk 0)), (2, .ref (ad 0)), (3, .int v3)] → c22 v3 k z = some (o, uc, us) → cells + uc ≤ 600130 → slots + us ≤ 7301080 → W p l e room_1 s mm args below meth c H locs cells slots Q (F0 mm 22 ls [])) {c374 : Int32 → Int32 → Int32 → Int32 → Int32 → Int32 → Int32 → Int32 → kS → kS → Option (Unit × Nat × Nat)} (hk374 : ∀ {ad : Nat → Nat} {v3 : Int32} {v4 : Int32} {v11 : Int32} {v12 : Int32} {v13 : Int32} {v14 : Int32} {v15 : Int32} {v16 : Int32} {k : kS} {z : kS} {H : Heap} {locs : List Loc} {ls : Array Slot} {cells slots uc us : Nat} {o : Unit}, True → jH A s H locs D g ad z (jY adk g k mo) [] → jl_has ls 24 [(0, .ref b), (1, .ref (adk 0)), (2, .ref (ad 0)), (3, .int v3), (4, .int v4), (11, .int v11), (12, .int v12), (13, .int v13), (14, .int v14), (15, .int v15), (16, .int v16)] → c374 v3 v4 v11 v12 v13 v14 v15 v16 k z = some (o, uc, us) → cells + uc ≤ 600130 → slots + us ≤ 7301080 → W p l e room_1 s mm args below meth c H locs cells slots Q (F0 mm 374 ls [])) {ad : Nat → Nat} {s0 : Int32} {v3 : Int32} {v4 : Int32} {v11 : Int32} {v12 : Int32} {v13 : Int32} {v14 : Int32} {v15 : Int32} {v16 : Int32} {k : kS} {z : kS} {H : Heap} {locs : List Loc} {ls : Array Slot} {cells slots uc us : Nat} {o : Unit} (hG : True) (hH : jH A s H locs D g ad z (jY adk g k mo) []) (hl : jl_has ls 24 [(0, .ref b), (1, .ref (adk 0)), (2, .ref (ad 0)), (3, .int v3), (4, .int v4), (11, .int v11), (12, .int v12), (13, .int v13), (14, .int v14), (15, .int v15), (16, .int v16)]) (hf : F_L_law_397 xs L c22 c374 s0 v3 v4 v11 v12 v13 v14 v15 v16 k z = some (o, uc, us)) (hc : cells + uc ≤ 600130) (hs : slots + us ≤ 7301080) : W p l e room_1 s mm args below meth c H locs cells slots Q (F0 mm 397 ls [.int s0]) := by
  have hx := V.1
  have hb := V.2.1
  refine jl_istore (lv' := [(17, .int s0), (0, .ref b), (1, .ref (adk 0)), (2, .ref (ad 0)), (3, .int v3), (4, .int v4), (11, .int v11), (12, .int v12), (13, .int v13), (14, .int v14), (15, .int v15), (16, .int v16)]) hx hb dL_law_397 hl (by decide) rfl (fun ls hl => ?_)
  refine lv_aload_n hx hb dL_law_399 rfl (lv_at hl.1 2 rfl) ?_
  refine lv_iload hx hb dL_law_400 (lv_at hl.1 11 rfl) ?_
  refine lv_iconst (v := 5) hx hb dL_law_402 (by decide) ?_
  obtain ⟨x397_1, hx397_1, hf⟩ := kbind hf
  obtain ⟨h397_2, hf⟩ := kif hf
  obtain ⟨uc397_3, us397_4, hf, e1, e2⟩ := kadd_some2 hf
  have e1 : uc = 4 + uc397_3 := e1
  have e2 : us = 24 + us397_4 := e2
  have hc : cells + 4 + uc397_3 ≤ 600130 := by rw [Nat.add_assoc, ← e1]; exact hc
  have hs : slots + 24 + us397_4 ≤ 7301080 := by rw [Nat.add_assoc, ← e2]; exact hs
  have lc : cells + 4 ≤ 600130 := Nat.le_trans (Nat.le_add_right _ _) hc
  have ls2 : slots + 24 ≤ 7301080 := Nat.le_trans (Nat.le_add_right _ _) hs
  refine jc_callx V hA LX hH kYX5_person kl_L_132 (c_X5_person l LX.1 _ _ hx397_1 _) (Decidable.not_not.mp h397_2) rfl rfl ⟨Nat.le_of_ble_eq_true rfl, Nat.le_of_ble_eq_true rfl⟩ rfl hl.1.1 (as := [.int v16, .int 5]) (rest := []) (Nat.le_of_ble_eq_true rfl) dL_law_403 ⟨lc, ls2⟩ rfl (fun H locs hH => ?_)
  refine jl_istore (lv' := [(18, .int x397_1.2), (17, .int s0), (0, .ref b), (1, .ref (adk 0)), (2, .ref (ad 0)), (3, .int v3), (4, .int v4), (11, .int v11), (12, .int v12), (13, .int v13), (14, .int v14), (15, .int v15), (16, .int v16)]) hx hb dL_law_406 hl (by decide) rfl (fun ls hl => ?_)
  refine lv_aload_n hx hb dL_law_408 rfl (lv_at hl.1 3 rfl) ?_
  refine lv_iload hx hb dL_law_409 (lv_at hl.1 12 rfl) ?_
  refine lv_iconst (v := 3) hx hb dL_law_411 (by decide) ?_
  obtain ⟨x397_5, hx397_5, hf⟩ := kbind hf
  obtain ⟨h397_6, hf⟩ := kif hf
  obtain ⟨uc397_7, us397_8, hf, e1, e2⟩ := kadd_some2 hf
  have e1 : uc397_3 = 4 + uc397_7 := e1
  have e2 : us397_4 = 24 + us397_8 := e2
  have hc : cells + 4 + 4 + uc397_7 ≤ 600130 := by rw [Nat.add_assoc, ← e1]; exact hc
  have hs : slots + 24 + 24 + us397_8 ≤ 7301080 := by rw [Nat.add_assoc, ← e2]; exact hs
  have lc : cells + 4 + 4 ≤ 600130 := Nat.le_trans (Nat.le_add_right _ _) hc
  have ls2 : slots + 24 + 24 ≤ 7301080 := Nat.le_trans (Nat.le_add_right _ _) hs
  refine jc_callx V hA LX hH kYX5_person kl_L_132 (c_X5_person l LX.1 _ _ hx397_5 _) (Decidable.not_not.mp h397_6) rfl rfl ⟨Nat.le_of_ble_eq_true rfl, Nat.le_of_ble_eq_true rfl⟩ rfl hl.1.1 (as := [.int v16, .int 3]) (rest := []) (Nat.le_of_ble_eq_true rfl) dL_law_412 ⟨lc, ls2⟩ rfl (fun H locs hH => ?_)
  refine jl_istore (lv' := [(19, .int x397_5.2), (18, .int x397_1.2), (17, .int s0), (0, .ref b), (1, .ref (adk 0)), (2, .ref (ad 0)), (3, .int v3), (4, .int v4), (11, .int v11), (12, .int v12), (13, .int v13), (14, .int v14), (15, .int v15), (16, .int v16)]) hx hb dL_law_415 hl (by decide) rfl (fun ls hl => ?_)
  refine lv_aload_n hx hb dL_law_417 rfl (lv_at hl.1 4 rfl) ?_
  refine lv_iload hx hb dL_law_418 (lv_at hl.1 13 rfl) ?_
  refine lv_iconst (v := 4) hx hb dL_law_420 (by decide) ?_
  obtain ⟨x397_9, hx397_9, hf⟩ := kbind hf
  obtain ⟨h397_10, hf⟩ := kif hf
  obtain ⟨uc397_11, us397_12, hf, e1, e2⟩ := kadd_some2 hf
  have e1 : uc397_7 = 4 + uc397_11 := e1
  have e2 : us397_8 = 24 + us397_12 := e2
  have hc : cells + 4 + 4 + 4 + uc397_11 ≤ 600130 := by rw [Nat.add_assoc, ← e1]; exact hc
  have hs : slots + 24 + 24 + 24 + us397_12 ≤ 7301080 := by rw [Nat.add_assoc, ← e2]; exact hs
  have lc : cells + 4 + 4 + 4 ≤ 600130 := Nat.le_trans (Nat.le_add_right _ _) hc
  have ls2 : slots + 24 + 24 + 24 ≤ 7301080 := Nat.le_trans (Nat.le_add_right _ _) hs
  refine jc_callx V hA LX hH kYX5_person kl_L_132 (c_X5_person l LX.1 _ _ hx397_9 _) (Decidable.not_not.mp h397_10) rfl rfl ⟨Nat.le_of_ble_eq_true rfl, Nat.le_of_ble_eq_true rfl⟩ rfl hl.1.1 (as := [.int v16, .int 4]) (rest := []) (Nat.le_of_ble_eq_true rfl) dL_law_421 ⟨lc, ls2⟩ rfl (fun H locs hH => ?_)
  refine jl_istore (lv' := [(20, .int x397_9.2), (19, .int x397_5.2), (18, .int x397_1.2), (17, .int s0), (0, .ref b), (1, .ref (adk 0)), (2, .ref (ad 0)), (3, .int v3), (4, .int v4), (11, .int v11), (12, .int v12), (13, .int v13), (14, .int v14), (15, .int v15), (16, .int v16)]) hx hb dL_law_424 hl (by decide) rfl (fun ls hl => ?_)
  refine lv_iload hx hb dL_law_426 (lv_at hl.1 10 rfl) ?_
  refine lv_iload hx hb dL_law_428 (lv_at hl.1 3 rfl) ?_
  refine lv_if_eq (tgt := 437) hx hb dL_law_430 (by decide) (fun hq => ?_) (fun hq => ?_)
  · have hf := kpos hq hf
    exact w_L_law_437 V hA LX SX hQ hk22 hk374 trivial hH (jl_sub hl [4, 5, 6, 7, 8, 9, 11, 12, 13, 14, 3, 2, 1, 0] rfl) hf hc hs
  · have hf := kneg hq hf
    exact w_L_law_433 V hA LX SX hQ hk22 hk374 trivial hH (jl_sub hl [4, 5, 6, 7, 8, 9, 11, 12, 13, 14, 3, 2, 1, 0] rfl) hf hc hs
set_option maxHeartbeats 4000000 in
set_option maxRecDepth 100000 in
theorem w_L_law_392 (V : jV p s mm args meth c cL_law RL 24 (some .boolean) D g) (hA : ∀ q, s.heap.size ≤ q → A q) (LX : jLX l A s) (SX : jSX A s b L xs) (hQ : ∀ {H : Heap} {locs : List Loc} {ls : Array Slot} {cells slots : Nat}, va_S A s.heap H locs → cells ≤ 600130 → slots ≤ 7301080 → W p l e room_1 s mm args below meth c H locs cells slots Q (F0 mm 1222 ls [.int 1])) {c22 : Int32 → kS → kS → Option (Unit × Nat × Nat)} (hk22 : ∀ {ad : Nat → Nat} {v3 : Int32} {k : kS} {z : kS} {H : Heap} {locs : List Loc} {ls : Array Slot} {cells slots uc us : Nat} {o : Unit}, True → jH A s H locs D g ad z (jY adk g k mo) [] → jl_has ls 24 [(0, .ref b), (1, .ref (adk 0)), (2, .ref (ad 0)), (3, .int v3)] → c22 v3 k z = some (o, uc, us) → cells + uc ≤ 600130 → slots + us ≤ 7301080 → W p l e room_1 s mm args below meth c H locs cells slots Q (F0 mm 22 ls [])) {c374 : Int32 → Int32 → Int32 → Int32 → Int32 → Int32 → Int32 → Int32 → kS → kS → Option (Unit × Nat × Nat)} (hk374 : ∀ {ad : Nat → Nat} {v3 : Int32} {v4 : Int32} {v11 : Int32} {v12 : Int32} {v13 : Int32} {v14 : Int32} {v15 : Int32} {v16 : Int32} {k : kS} {z : kS} {H : Heap} {locs : List Loc} {ls : Array Slot} {cells slots uc us : Nat} {o : Unit}, True → jH A s H locs D g ad z (jY adk g k mo) [] → jl_has ls 24 [(0, .ref b), (1, .ref (adk 0)), (2, .ref (ad 0)), (3, .int v3), (4, .int v4), (11, .int v11), (12, .int v12), (13, .int v13), (14, .int v14), (15, .int v15), (16, .int v16)] → c374 v3 v4 v11 v12 v13 v14 v15 v16 k z = some (o, uc, us) → cells + uc ≤ 600130 → slots + us ≤ 7301080 → W p l e room_1 s mm args below meth c H locs cells slots Q (F0 mm 374 ls [])) {ad : Nat → Nat} {v3 : Int32} {v4 : Int32} {v11 : Int32} {v12 : Int32} {v13 : Int32} {v14 : Int32} {v15 : Int32} {v16 : Int32} {k : kS} {z : kS} {H : Heap} {locs : List Loc} {ls : Array Slot} {cells slots uc us : Nat} {o : Unit} (hG : True) (hH : jH A s H locs D g ad z (jY adk g k mo) []) (hl : jl_has ls 24 [(0, .ref b), (1, .ref (adk 0)), (2, .ref (ad 0)), (3, .int v3), (4, .int v4), (11, .int v11), (12, .int v12), (13, .int v13), (14, .int v14), (15, .int v15), (16, .int v16)]) (hf : F_L_law_392 xs L c22 c374 v3 v4 v11 v12 v13 v14 v15 v16 k z = some (o, uc, us)) (hc : cells + uc ≤ 600130) (hs : slots + us ≤ 7301080) : W p l e room_1 s mm args below meth c H locs cells slots Q (F0 mm 392 ls []) := by
  have hx := V.1
  have hb := V.2.1
  refine lv_iconst (v := 1) hx hb dL_law_392 (by decide) ?_
  refine lv_goto (tgt := 397) hx hb dL_law_393 (by decide) ?_
  exact w_L_law_397 V hA LX SX hQ hk22 hk374 trivial hH (jl_sub hl [0, 1, 2, 3, 4, 5, 6, 7, 8, 9, 10] rfl) hf hc hs
set_option maxHeartbeats 4000000 in
set_option maxRecDepth 100000 in
theorem w_L_law_396 (V : jV p s mm args meth c cL_law RL 24 (some .boolean) D g) (hA : ∀ q, s.heap.size ≤ q → A q) (LX : jLX l A s) (SX : jSX A s b L xs) (hQ : ∀ {H : Heap} {locs : List Loc} {ls : Array Slot} {cells slots : Nat}, va_S A s.heap H locs → cells ≤ 600130 → slots ≤ 7301080 → W p l e room_1 s mm args below meth c H locs cells slots Q (F0 mm 1222 ls [.int 1])) {c22 : Int32 → kS → kS → Option (Unit × Nat × Nat)} (hk22 : ∀ {ad : Nat → Nat} {v3 : Int32} {k : kS} {z : kS} {H : Heap} {locs : List Loc} {ls : Array Slot} {cells slots uc us : Nat} {o : Unit}, True → jH A s H locs D g ad z (jY adk g k mo) [] → jl_has ls 24 [(0, .ref b), (1, .ref (adk 0)), (2, .ref (ad 0)), (3, .int v3)] → c22 v3 k z = some (o, uc, us) → cells + uc ≤ 600130 → slots + us ≤ 7301080 → W p l e room_1 s mm args below meth c H locs cells slots Q (F0 mm 22 ls [])) {c374 : Int32 → Int32 → Int32 → Int32 → Int32 → Int32 → Int32 → Int32 → kS → kS → Option (Unit × Nat × Nat)} (hk374 : ∀ {ad : Nat → Nat} {v3 : Int32} {v4 : Int32} {v11 : Int32} {v12 : Int32} {v13 : Int32} {v14 : Int32} {v15 : Int32} {v16 : Int32} {k : kS} {z : kS} {H : Heap} {locs : List Loc} {ls : Array Slot} {cells slots uc us : Nat} {o : Unit}, True → jH A s H locs D g ad z (jY adk g k mo) [] → jl_has ls 24 [(0, .ref b), (1, .ref (adk 0)), (2, .ref (ad 0)), (3, .int v3), (4, .int v4), (11, .int v11), (12, .int v12), (13, .int v13), (14, .int v14), (15, .int v15), (16, .int v16)] → c374 v3 v4 v11 v12 v13 v14 v15 v16 k z = some (o, uc, us) → cells + uc ≤ 600130 → slots + us ≤ 7301080 → W p l e room_1 s mm args below meth c H locs cells slots Q (F0 mm 374 ls [])) {ad : Nat → Nat} {v3 : Int32} {v4 : Int32} {v11 : Int32} {v12 : Int32} {v13 : Int32} {v14 : Int32} {v15 : Int32} {v16 : Int32} {k : kS} {z : kS} {H : Heap} {locs : List Loc} {ls : Array Slot} {cells slots uc us : Nat} {o : Unit} (hG : True) (hH : jH A s H locs D g ad z (jY adk g k mo) []) (hl : jl_has ls 24 [(0, .ref b), (1, .ref (adk 0)), (2, .ref (ad 0)), (3, .int v3), (4, .int v4), (11, .int v11), (12, .int v12), (13, .int v13), (14, .int v14), (15, .int v15), (16, .int v16)]) (hf : F_L_law_396 xs L c22 c374 v3 v4 v11 v12 v13 v14 v15 v16 k z = some (o, uc, us)) (hc : cells + uc ≤ 600130) (hs : slots + us ≤ 7301080) : W p l e room_1 s mm args below meth c H locs cells slots Q (F0 mm 396 ls []) := by
  have hx := V.1
  have hb := V.2.1
  refine lv_iconst (v := 0) hx hb dL_law_396 (by decide) ?_
  exact w_L_law_397 V hA LX SX hQ hk22 hk374 trivial hH (jl_sub hl [0, 1, 2, 3, 4, 5, 6, 7, 8, 9, 10] rfl) hf hc hs
set_option maxHeartbeats 4000000 in
set_option maxRecDepth 100000 in
theorem w_L_law_381 (V : jV p s mm args meth c cL_law RL 24 (some .boolean) D g) (hA : ∀ q, s.heap.size ≤ q → A q) (LX : jLX l A s) (SX : jSX A s b L xs) (hQ : ∀ {H : Heap} {locs : List Loc} {ls : Array Slot} {cells slots : Nat}, va_S A s.heap H locs → cells ≤ 600130 → slots ≤ 7301080 → W p l e room_1 s mm args below meth c H locs cells slots Q (F0 mm 1222 ls [.int 1])) {c22 : Int32 → kS → kS → Option (Unit × Nat × Nat)} (hk22 : ∀ {ad : Nat → Nat} {v3 : Int32} {k : kS} {z : kS} {H : Heap} {locs : List Loc} {ls : Array Slot} {cells slots uc us : Nat} {o : Unit}, True → jH A s H locs D g ad z (jY adk g k mo) [] → jl_has ls 24 [(0, .ref b), (1, .ref (adk 0)), (2, .ref (ad 0)), (3, .int v3)] → c22 v3 k z = some (o, uc, us) → cells + uc ≤ 600130 → slots + us ≤ 7301080 → W p l e room_1 s mm args below meth c H locs cells slots Q (F0 mm 22 ls [])) {c374 : Int32 → Int32 → Int32 → Int32 → Int32 → Int32 → Int32 → Int32 → kS → kS → Option (Unit × Nat × Nat)} (hk374 : ∀ {ad : Nat → Nat} {v3 : Int32} {v4 : Int32} {v11 : Int32} {v12 : Int32} {v13 : Int32} {v14 : Int32} {v15 : Int32} {v16 : Int32} {k : kS} {z : kS} {H : Heap} {locs : List Loc} {ls : Array Slot} {cells slots uc us : Nat} {o : Unit}, True → jH A s H locs D g ad z (jY adk g k mo) [] → jl_has ls 24 [(0, .ref b), (1, .ref (adk 0)), (2, .ref (ad 0)), (3, .int v3), (4, .int v4), (11, .int v11), (12, .int v12), (13, .int v13), (14, .int v14), (15, .int v15), (16, .int v16)] → c374 v3 v4 v11 v12 v13 v14 v15 v16 k z = some (o, uc, us) → cells + uc ≤ 600130 → slots + us ≤ 7301080 → W p l e room_1 s mm args below meth c H locs cells slots Q (F0 mm 374 ls [])) {ad : Nat → Nat} {v3 : Int32} {v4 : Int32} {v11 : Int32} {v12 : Int32} {v13 : Int32} {v14 : Int32} {v15 : Int32} {v16 : Int32} {k : kS} {z : kS} {H : Heap} {locs : List Loc} {ls : Array Slot} {cells slots uc us : Nat} {o : Unit} (hG : True) (hH : jH A s H locs D g ad z (jY adk g k mo) []) (hl : jl_has ls 24 [(0, .ref b), (1, .ref (adk 0)), (2, .ref (ad 0)), (3, .int v3), (4, .int v4), (11, .int v11), (12, .int v12), (13, .int v13), (14, .int v14), (15, .int v15), (16, .int v16)]) (hf : F_L_law_381 xs L c22 c374 v3 v4 v11 v12 v13 v14 v15 v16 k z = some (o, uc, us)) (hc : cells + uc ≤ 600130) (hs : slots + us ≤ 7301080) : W p l e room_1 s mm args below meth c H locs cells slots Q (F0 mm 381 ls []) := by
  have hx := V.1
  have hb := V.2.1
  refine lv_aload_n hx hb dL_law_381 rfl (lv_at hl.1 1 rfl) ?_
  refine lv_iload hx hb dL_law_382 (lv_at hl.1 10 rfl) ?_
  refine lv_iconst (v := 2) hx hb dL_law_384 (by decide) ?_
  obtain ⟨x381_1, hx381_1, hf⟩ := kbind hf
  obtain ⟨h381_2, hf⟩ := kif hf
  obtain ⟨uc381_3, us381_4, hf, e1, e2⟩ := kadd_some2 hf
  have e1 : uc = 4 + uc381_3 := e1
  have e2 : us = 24 + us381_4 := e2
  have hc : cells + 4 + uc381_3 ≤ 600130 := by rw [Nat.add_assoc, ← e1]; exact hc
  have hs : slots + 24 + us381_4 ≤ 7301080 := by rw [Nat.add_assoc, ← e2]; exact hs
  have lc : cells + 4 ≤ 600130 := Nat.le_trans (Nat.le_add_right _ _) hc
  have ls2 : slots + 24 ≤ 7301080 := Nat.le_trans (Nat.le_add_right _ _) hs
  refine jc_callx V hA LX hH kYX5_person kl_L_132 (c_X5_person l LX.1 _ _ hx381_1 _) (Decidable.not_not.mp h381_2) rfl rfl ⟨Nat.le_of_ble_eq_true rfl, Nat.le_of_ble_eq_true rfl⟩ rfl hl.1.1 (as := [.int v16, .int 2]) (rest := []) (Nat.le_of_ble_eq_true rfl) dL_law_385 ⟨lc, ls2⟩ rfl (fun H locs hH => ?_)
  refine lv_iconst (v := 1) hx hb dL_law_388 (by decide) ?_
  refine lv_icmp_ne (tgt := 396) hx hb dL_law_389 (by decide) (fun hq => ?_) (fun hq => ?_)
  · have hf := kneg hq hf
    exact w_L_law_396 V hA LX SX hQ hk22 hk374 trivial hH (jl_sub hl [0, 1, 2, 3, 4, 5, 6, 7, 8, 9, 10] rfl) hf hc hs
  · have hf := kpos hq hf
    exact w_L_law_392 V hA LX SX hQ hk22 hk374 trivial hH (jl_sub hl [0, 1, 2, 3, 4, 5, 6, 7, 8, 9, 10] rfl) hf hc hs
set_option maxHeartbeats 4000000 in
set_option maxRecDepth 100000 in
theorem w_L_law_1101 (V : jV p s mm args meth c cL_law RL 24 (some .boolean) D g) (hA : ∀ q, s.heap.size ≤ q → A q) (LX : jLX l A s) (SX : jSX A s b L xs) (hQ : ∀ {H : Heap} {locs : List Loc} {ls : Array Slot} {cells slots : Nat}, va_S A s.heap H locs → cells ≤ 600130 → slots ≤ 7301080 → W p l e room_1 s mm args below meth c H locs cells slots Q (F0 mm 1222 ls [.int 1])) {ad : Nat → Nat} {k : kS} {z : kS} {H : Heap} {locs : List Loc} {ls : Array Slot} {cells slots uc us : Nat} {o : Unit} (hG : True) (hH : jH A s H locs D g ad z (jY adk g k mo) []) (hl : jl_has ls 24 []) (hf : F_L_law_1101 xs L k z = some (o, uc, us)) (hc : cells + uc ≤ 600130) (hs : slots + us ≤ 7301080) : W p l e room_1 s mm args below meth c H locs cells slots Q (F0 mm 1101 ls []) := by
  have hx := V.1
  have hb := V.2.1
  refine lv_iconst (v := 0) hx hb dL_law_1101 (by decide) ?_
  cases hf
set_option maxHeartbeats 4000000 in
set_option maxRecDepth 100000 in
theorem w_L_law_1103 (V : jV p s mm args meth c cL_law RL 24 (some .boolean) D g) (hA : ∀ q, s.heap.size ≤ q → A q) (LX : jLX l A s) (SX : jSX A s b L xs) (hQ : ∀ {H : Heap} {locs : List Loc} {ls : Array Slot} {cells slots : Nat}, va_S A s.heap H locs → cells ≤ 600130 → slots ≤ 7301080 → W p l e room_1 s mm args below meth c H locs cells slots Q (F0 mm 1222 ls [.int 1])) {c22 : Int32 → kS → kS → Option (Unit × Nat × Nat)} (hk22 : ∀ {ad : Nat → Nat} {v3 : Int32} {k : kS} {z : kS} {H : Heap} {locs : List Loc} {ls : Array Slot} {cells slots uc us : Nat} {o : Unit}, True → jH A s H locs D g ad z (jY adk g k mo) [] → jl_has ls 24 [(0, .ref b), (1, .ref (adk 0)), (2, .ref (ad 0)), (3, .int v3)] → c22 v3 k z = some (o, uc, us) → cells + uc ≤ 600130 → slots + us ≤ 7301080 → W p l e room_1 s mm args below meth c H locs cells slots Q (F0 mm 22 ls [])) {c942 : Int32 → Int32 → Int32 → Int32 → Int32 → Int32 → Int32 → Int32 → Int32 → (Nat → Int32) → kS → kS → Option (Unit × Nat × Nat)} (hk942 : ∀ {ad : Nat → Nat} {v3 : Int32} {v5 : Int32} {v12 : Int32} {v13 : Int32} {v14 : Int32} {v15 : Int32} {v16 : Int32} {v18 : Int32} {xq935 : Nat} {xl935 : Int32} {xf935 : Nat → Int32} {k : kS} {z : kS} {H : Heap} {locs : List Loc} {ls : Array Slot} {cells slots uc us : Nat} {o : Unit}, True → jH A s H locs D g ad z (jY adk g k mo) [jTi g xq935 xl935 xf935] → jl_has ls 24 [(0, .ref b), (1, .ref (adk 0)), (2, .ref (ad 0)), (3, .int v3), (5, .int v5), (12, .int v12), (13, .int v13), (14, .int v14), (15, .int v15), (16, .int v16), (17, .ref xq935), (18, .int v18)] → c942 v3 v5 v12 v13 v14 v15 v16 v18 xl935 xf935 k z = some (o, uc, us) → cells + uc ≤ 600130 → slots + us ≤ 7301080 → W p l e room_1 s mm args below meth c H locs cells slots Q (F0 mm 942 ls [])) {ad : Nat → Nat} {v3 : Int32} {v5 : Int32} {v12 : Int32} {v13 : Int32} {v14 : Int32} {v15 : Int32} {v16 : Int32} {v18 : Int32} {xq935 : Nat} {xl935 : Int32} {xf935 : Nat → Int32} {k : kS} {z : kS} {H : Heap} {locs : List Loc} {ls : Array Slot} {cells slots uc us : Nat} {o : Unit} (hG : True) (hH : jH A s H locs D g ad z (jY adk g k mo) [jTi g xq935 xl935 xf935]) (hl : jl_has ls 24 [(0, .ref b), (1, .ref (adk 0)), (2, .ref (ad 0)), (3, .int v3), (5, .int v5), (12, .int v12), (13, .int v13), (14, .int v14), (15, .int v15), (16, .int v16), (17, .ref xq935), (18, .int v18)]) (hf : F_L_law_1103 xs L c22 c942 v3 v5 v12 v13 v14 v15 v16 v18 xl935 xf935 k z = some (o, uc, us)) (hc : cells + uc ≤ 600130) (hs : slots + us ≤ 7301080) : W p l e room_1 s mm args below meth c H locs cells slots Q (F0 mm 1103 ls []) := by
  have hx := V.1
  have hb := V.2.1
  refine lv_aload hx hb dL_law_1103 (lv_at hl.1 10 rfl) ?_
  refine lv_iload hx hb dL_law_1105 (lv_at hl.1 11 rfl) ?_
  refine lv_aload_n hx hb dL_law_1107 rfl (lv_at hl.1 1 rfl) ?_
  refine lv_iconst (v := 2) hx hb dL_law_1108 (by decide) ?_
  refine lv_iload hx hb dL_law_1109 (lv_at hl.1 11 rfl) ?_
  obtain ⟨x1103_1, hx1103_1, hf⟩ := kbind hf
  obtain ⟨h1103_2, hf⟩ := kif hf
  obtain ⟨uc1103_3, us1103_4, hf, e1, e2⟩ := kadd_some2 hf
  have e1 : uc = 4 + uc1103_3 := e1
  have e2 : us = 24 + us1103_4 := e2
  have hc : cells + 4 + uc1103_3 ≤ 600130 := by rw [Nat.add_assoc, ← e1]; exact hc
  have hs : slots + 24 + us1103_4 ≤ 7301080 := by rw [Nat.add_assoc, ← e2]; exact hs
  have lc : cells + 4 ≤ 600130 := Nat.le_trans (Nat.le_add_right _ _) hc
  have ls2 : slots + 24 ≤ 7301080 := Nat.le_trans (Nat.le_add_right _ _) hs
  refine jc_callx V hA LX hH kYX5_foresee kl_L_144 (c_X5_foresee l LX.1 _ _ hx1103_1 _) (Decidable.not_not.mp h1103_2) rfl rfl ⟨Nat.le_of_ble_eq_true rfl, Nat.le_of_ble_eq_true rfl⟩ rfl hl.1.1 (as := [.int 2, .int v18]) (rest := [.int v18, .ref xq935]) (Nat.le_of_ble_eq_true rfl) dL_law_1111 ⟨lc, ls2⟩ rfl (fun H locs hH => ?_)
  obtain ⟨h1103_5, hf⟩ := kif hf
  refine jt_ast V hH 0 rfl h1103_5 rfl dL_law_1114 (fun H locs hH => ?_)
  refine jl_iinc (v := (v18 + 1)) (lv' := [(18, .int (v18 + 1)), (0, .ref b), (1, .ref (adk 0)), (2, .ref (ad 0)), (3, .int v3), (5, .int v5), (12, .int v12), (13, .int v13), (14, .int v14), (15, .int v15), (16, .int v16), (17, .ref xq935)]) hx hb dL_law_1115 hl (k := 11) rfl rfl (by decide) rfl (fun ls hl => ?_)
  refine lv_goto (tgt := 942) hx hb dL_law_1118 (by decide) ?_
  exact hk942 trivial hH (jl_sub hl [1, 2, 3, 4, 5, 6, 7, 8, 9, 10, 11, 0] rfl) hf hc hs
set_option maxHeartbeats 4000000 in
set_option maxRecDepth 100000 in
theorem w_L_law_1090 (V : jV p s mm args meth c cL_law RL 24 (some .boolean) D g) (hA : ∀ q, s.heap.size ≤ q → A q) (LX : jLX l A s) (SX : jSX A s b L xs) (hQ : ∀ {H : Heap} {locs : List Loc} {ls : Array Slot} {cells slots : Nat}, va_S A s.heap H locs → cells ≤ 600130 → slots ≤ 7301080 → W p l e room_1 s mm args below meth c H locs cells slots Q (F0 mm 1222 ls [.int 1])) {c22 : Int32 → kS → kS → Option (Unit × Nat × Nat)} (hk22 : ∀ {ad : Nat → Nat} {v3 : Int32} {k : kS} {z : kS} {H : Heap} {locs : List Loc} {ls : Array Slot} {cells slots uc us : Nat} {o : Unit}, True → jH A s H locs D g ad z (jY adk g k mo) [] → jl_has ls 24 [(0, .ref b), (1, .ref (adk 0)), (2, .ref (ad 0)), (3, .int v3)] → c22 v3 k z = some (o, uc, us) → cells + uc ≤ 600130 → slots + us ≤ 7301080 → W p l e room_1 s mm args below meth c H locs cells slots Q (F0 mm 22 ls [])) {c942 : Int32 → Int32 → Int32 → Int32 → Int32 → Int32 → Int32 → Int32 → Int32 → (Nat → Int32) → kS → kS → Option (Unit × Nat × Nat)} (hk942 : ∀ {ad : Nat → Nat} {v3 : Int32} {v5 : Int32} {v12 : Int32} {v13 : Int32} {v14 : Int32} {v15 : Int32} {v16 : Int32} {v18 : Int32} {xq935 : Nat} {xl935 : Int32} {xf935 : Nat → Int32} {k : kS} {z : kS} {H : Heap} {locs : List Loc} {ls : Array Slot} {cells slots uc us : Nat} {o : Unit}, True → jH A s H locs D g ad z (jY adk g k mo) [jTi g xq935 xl935 xf935] → jl_has ls 24 [(0, .ref b), (1, .ref (adk 0)), (2, .ref (ad 0)), (3, .int v3), (5, .int v5), (12, .int v12), (13, .int v13), (14, .int v14), (15, .int v15), (16, .int v16), (17, .ref xq935), (18, .int v18)] → c942 v3 v5 v12 v13 v14 v15 v16 v18 xl935 xf935 k z = some (o, uc, us) → cells + uc ≤ 600130 → slots + us ≤ 7301080 → W p l e room_1 s mm args below meth c H locs cells slots Q (F0 mm 942 ls [])) {ad : Nat → Nat} {v3 : Int32} {v5 : Int32} {v12 : Int32} {v13 : Int32} {v14 : Int32} {v15 : Int32} {v16 : Int32} {v18 : Int32} {v21 : Int32} {xq935 : Nat} {xl935 : Int32} {xf935 : Nat → Int32} {k : kS} {z : kS} {H : Heap} {locs : List Loc} {ls : Array Slot} {cells slots uc us : Nat} {o : Unit} (hG : True) (hH : jH A s H locs D g ad z (jY adk g k mo) [jTi g xq935 xl935 xf935]) (hl : jl_has ls 24 [(0, .ref b), (1, .ref (adk 0)), (2, .ref (ad 0)), (3, .int v3), (5, .int v5), (12, .int v12), (13, .int v13), (14, .int v14), (15, .int v15), (16, .int v16), (17, .ref xq935), (18, .int v18), (21, .int v21)]) (hf : F_L_law_1090 xs L c22 c942 v3 v5 v12 v13 v14 v15 v16 v18 v21 xl935 xf935 k z = some (o, uc, us)) (hc : cells + uc ≤ 600130) (hs : slots + us ≤ 7301080) : W p l e room_1 s mm args below meth c H locs cells slots Q (F0 mm 1090 ls []) := by
  have hx := V.1
  have hb := V.2.1
  refine lv_aload_n hx hb dL_law_1090 rfl (lv_at hl.1 1 rfl) ?_
  refine lv_iload hx hb dL_law_1091 (lv_at hl.1 12 rfl) ?_
  refine lv_iconst (v := 2) hx hb dL_law_1093 (by decide) ?_
  obtain ⟨x1090_1, hx1090_1, hf⟩ := kbind hf
  obtain ⟨h1090_2, hf⟩ := kif hf
  obtain ⟨uc1090_3, us1090_4, hf, e1, e2⟩ := kadd_some2 hf
  have e1 : uc = 4 + uc1090_3 := e1
  have e2 : us = 24 + us1090_4 := e2
  have hc : cells + 4 + uc1090_3 ≤ 600130 := by rw [Nat.add_assoc, ← e1]; exact hc
  have hs : slots + 24 + us1090_4 ≤ 7301080 := by rw [Nat.add_assoc, ← e2]; exact hs
  have lc : cells + 4 ≤ 600130 := Nat.le_trans (Nat.le_add_right _ _) hc
  have ls2 : slots + 24 ≤ 7301080 := Nat.le_trans (Nat.le_add_right _ _) hs
  refine jc_callx V hA LX hH kYX5_person kl_L_132 (c_X5_person l LX.1 _ _ hx1090_1 _) (Decidable.not_not.mp h1090_2) rfl rfl ⟨Nat.le_of_ble_eq_true rfl, Nat.le_of_ble_eq_true rfl⟩ rfl hl.1.1 (as := [.int v21, .int 2]) (rest := []) (Nat.le_of_ble_eq_true rfl) dL_law_1094 ⟨lc, ls2⟩ rfl (fun H locs hH => ?_)
  refine lv_iconst (v := 1) hx hb dL_law_1097 (by decide) ?_
  refine lv_icmp_eq (tgt := 1103) hx hb dL_law_1098 (by decide) (fun hq => ?_) (fun hq => ?_)
  · have hf := kpos hq hf
    exact w_L_law_1103 V hA LX SX hQ hk22 hk942 trivial hH (jl_sub hl [0, 1, 2, 3, 4, 5, 6, 7, 8, 9, 10, 11] rfl) hf hc hs
  · have hf := kneg hq hf
    exact w_L_law_1101 V hA LX SX hQ trivial (jH_sub hH [] (by decide) rfl) (jl_sub hl [] rfl) hf hc hs
set_option maxHeartbeats 4000000 in
set_option maxRecDepth 100000 in
theorem w_L_law_1072 (V : jV p s mm args meth c cL_law RL 24 (some .boolean) D g) (hA : ∀ q, s.heap.size ≤ q → A q) (LX : jLX l A s) (SX : jSX A s b L xs) (hQ : ∀ {H : Heap} {locs : List Loc} {ls : Array Slot} {cells slots : Nat}, va_S A s.heap H locs → cells ≤ 600130 → slots ≤ 7301080 → W p l e room_1 s mm args below meth c H locs cells slots Q (F0 mm 1222 ls [.int 1])) {c22 : Int32 → kS → kS → Option (Unit × Nat × Nat)} (hk22 : ∀ {ad : Nat → Nat} {v3 : Int32} {k : kS} {z : kS} {H : Heap} {locs : List Loc} {ls : Array Slot} {cells slots uc us : Nat} {o : Unit}, True → jH A s H locs D g ad z (jY adk g k mo) [] → jl_has ls 24 [(0, .ref b), (1, .ref (adk 0)), (2, .ref (ad 0)), (3, .int v3)] → c22 v3 k z = some (o, uc, us) → cells + uc ≤ 600130 → slots + us ≤ 7301080 → W p l e room_1 s mm args below meth c H locs cells slots Q (F0 mm 22 ls [])) {c942 : Int32 → Int32 → Int32 → Int32 → Int32 → Int32 → Int32 → Int32 → Int32 → (Nat → Int32) → kS → kS → Option (Unit × Nat × Nat)} (hk942 : ∀ {ad : Nat → Nat} {v3 : Int32} {v5 : Int32} {v12 : Int32} {v13 : Int32} {v14 : Int32} {v15 : Int32} {v16 : Int32} {v18 : Int32} {xq935 : Nat} {xl935 : Int32} {xf935 : Nat → Int32} {k : kS} {z : kS} {H : Heap} {locs : List Loc} {ls : Array Slot} {cells slots uc us : Nat} {o : Unit}, True → jH A s H locs D g ad z (jY adk g k mo) [jTi g xq935 xl935 xf935] → jl_has ls 24 [(0, .ref b), (1, .ref (adk 0)), (2, .ref (ad 0)), (3, .int v3), (5, .int v5), (12, .int v12), (13, .int v13), (14, .int v14), (15, .int v15), (16, .int v16), (17, .ref xq935), (18, .int v18)] → c942 v3 v5 v12 v13 v14 v15 v16 v18 xl935 xf935 k z = some (o, uc, us) → cells + uc ≤ 600130 → slots + us ≤ 7301080 → W p l e room_1 s mm args below meth c H locs cells slots Q (F0 mm 942 ls [])) {ad : Nat → Nat} {v3 : Int32} {v5 : Int32} {v12 : Int32} {v13 : Int32} {v14 : Int32} {v15 : Int32} {v16 : Int32} {v18 : Int32} {v19 : Int32} {v21 : Int32} {xq935 : Nat} {xl935 : Int32} {xf935 : Nat → Int32} {k : kS} {z : kS} {H : Heap} {locs : List Loc} {ls : Array Slot} {cells slots uc us : Nat} {o : Unit} (hG : True) (hH : jH A s H locs D g ad z (jY adk g k mo) [jTi g xq935 xl935 xf935]) (hl : jl_has ls 24 [(0, .ref b), (1, .ref (adk 0)), (2, .ref (ad 0)), (3, .int v3), (5, .int v5), (12, .int v12), (13, .int v13), (14, .int v14), (15, .int v15), (16, .int v16), (17, .ref xq935), (18, .int v18), (19, .int v19), (21, .int v21)]) (hf : F_L_law_1072 xs L c22 c942 v3 v5 v12 v13 v14 v15 v16 v18 v19 v21 xl935 xf935 k z = some (o, uc, us)) (hc : cells + uc ≤ 600130) (hs : slots + us ≤ 7301080) : W p l e room_1 s mm args below meth c H locs cells slots Q (F0 mm 1072 ls []) := by
  have hx := V.1
  have hb := V.2.1
  refine lv_aload_n hx hb dL_law_1072 rfl (lv_at hl.1 1 rfl) ?_
  refine lv_iconst (v := 0) hx hb dL_law_1073 (by decide) ?_
  obtain ⟨x1072_1, hx1072_1, hf⟩ := kbind hf
  obtain ⟨h1072_2, hf⟩ := kif hf
  obtain ⟨uc1072_3, us1072_4, hf, e1, e2⟩ := kadd_some2 hf
  have e1 : uc = 4 + uc1072_3 := e1
  have e2 : us = 24 + us1072_4 := e2
  have hc : cells + 4 + uc1072_3 ≤ 600130 := by rw [Nat.add_assoc, ← e1]; exact hc
  have hs : slots + 24 + us1072_4 ≤ 7301080 := by rw [Nat.add_assoc, ← e2]; exact hs
  have lc : cells + 4 ≤ 600130 := Nat.le_trans (Nat.le_add_right _ _) hc
  have ls2 : slots + 24 ≤ 7301080 := Nat.le_trans (Nat.le_add_right _ _) hs
  refine jc_callx V hA LX hH kYX5_count kl_L_123 (c_X5_count l LX.1 _ hx1072_1 _) (Decidable.not_not.mp h1072_2) rfl rfl ⟨Nat.le_of_ble_eq_true rfl, Nat.le_of_ble_eq_true rfl⟩ rfl hl.1.1 (as := [.int 0]) (rest := []) (Nat.le_of_ble_eq_true rfl) dL_law_1074 ⟨lc, ls2⟩ rfl (fun H locs hH => ?_)
  refine lv_aload_n hx hb dL_law_1077 rfl (lv_at hl.1 1 rfl) ?_
  refine lv_iload hx hb dL_law_1078 (lv_at hl.1 12 rfl) ?_
  refine lv_iconst (v := 1) hx hb dL_law_1080 (by decide) ?_
  obtain ⟨x1072_5, hx1072_5, hf⟩ := kbind hf
  obtain ⟨h1072_6, hf⟩ := kif hf
  obtain ⟨uc1072_7, us1072_8, hf, e1, e2⟩ := kadd_some2 hf
  have e1 : uc1072_3 = 4 + uc1072_7 := e1
  have e2 : us1072_4 = 24 + us1072_8 := e2
  have hc : cells + 4 + 4 + uc1072_7 ≤ 600130 := by rw [Nat.add_assoc, ← e1]; exact hc
  have hs : slots + 24 + 24 + us1072_8 ≤ 7301080 := by rw [Nat.add_assoc, ← e2]; exact hs
  have lc : cells + 4 + 4 ≤ 600130 := Nat.le_trans (Nat.le_add_right _ _) hc
  have ls2 : slots + 24 + 24 ≤ 7301080 := Nat.le_trans (Nat.le_add_right _ _) hs
  refine jc_callx V hA LX hH kYX5_person kl_L_132 (c_X5_person l LX.1 _ _ hx1072_5 _) (Decidable.not_not.mp h1072_6) rfl rfl ⟨Nat.le_of_ble_eq_true rfl, Nat.le_of_ble_eq_true rfl⟩ rfl hl.1.1 (as := [.int v19, .int 1]) (rest := [.int x1072_1.2]) (Nat.le_of_ble_eq_true rfl) dL_law_1081 ⟨lc, ls2⟩ rfl (fun H locs hH => ?_)
  refine lv_isub hx hb dL_law_1084 ?_
  refine lv_bipush (v := 15) hx hb dL_law_1085 (by decide) ?_
  refine lv_icmp_gt (tgt := 1101) hx hb dL_law_1087 (by decide) (fun hq => ?_) (fun hq => ?_)
  · have hf := kpos hq hf
    exact w_L_law_1101 V hA LX SX hQ trivial (jH_sub hH [] (by decide) rfl) (jl_sub hl [] rfl) hf hc hs
  · have hf := kneg hq hf
    exact w_L_law_1090 V hA LX SX hQ hk22 hk942 trivial hH (jl_sub hl [0, 1, 2, 3, 4, 5, 6, 7, 8, 9, 10, 11, 13] rfl) hf hc hs
set_option maxHeartbeats 4000000 in
set_option maxRecDepth 100000 in
theorem w_L_law_1067 (V : jV p s mm args meth c cL_law RL 24 (some .boolean) D g) (hA : ∀ q, s.heap.size ≤ q → A q) (LX : jLX l A s) (SX : jSX A s b L xs) (hQ : ∀ {H : Heap} {locs : List Loc} {ls : Array Slot} {cells slots : Nat}, va_S A s.heap H locs → cells ≤ 600130 → slots ≤ 7301080 → W p l e room_1 s mm args below meth c H locs cells slots Q (F0 mm 1222 ls [.int 1])) {c22 : Int32 → kS → kS → Option (Unit × Nat × Nat)} (hk22 : ∀ {ad : Nat → Nat} {v3 : Int32} {k : kS} {z : kS} {H : Heap} {locs : List Loc} {ls : Array Slot} {cells slots uc us : Nat} {o : Unit}, True → jH A s H locs D g ad z (jY adk g k mo) [] → jl_has ls 24 [(0, .ref b), (1, .ref (adk 0)), (2, .ref (ad 0)), (3, .int v3)] → c22 v3 k z = some (o, uc, us) → cells + uc ≤ 600130 → slots + us ≤ 7301080 → W p l e room_1 s mm args below meth c H locs cells slots Q (F0 mm 22 ls [])) {c942 : Int32 → Int32 → Int32 → Int32 → Int32 → Int32 → Int32 → Int32 → Int32 → (Nat → Int32) → kS → kS → Option (Unit × Nat × Nat)} (hk942 : ∀ {ad : Nat → Nat} {v3 : Int32} {v5 : Int32} {v12 : Int32} {v13 : Int32} {v14 : Int32} {v15 : Int32} {v16 : Int32} {v18 : Int32} {xq935 : Nat} {xl935 : Int32} {xf935 : Nat → Int32} {k : kS} {z : kS} {H : Heap} {locs : List Loc} {ls : Array Slot} {cells slots uc us : Nat} {o : Unit}, True → jH A s H locs D g ad z (jY adk g k mo) [jTi g xq935 xl935 xf935] → jl_has ls 24 [(0, .ref b), (1, .ref (adk 0)), (2, .ref (ad 0)), (3, .int v3), (5, .int v5), (12, .int v12), (13, .int v13), (14, .int v14), (15, .int v15), (16, .int v16), (17, .ref xq935), (18, .int v18)] → c942 v3 v5 v12 v13 v14 v15 v16 v18 xl935 xf935 k z = some (o, uc, us) → cells + uc ≤ 600130 → slots + us ≤ 7301080 → W p l e room_1 s mm args below meth c H locs cells slots Q (F0 mm 942 ls [])) {ad : Nat → Nat} {v3 : Int32} {v5 : Int32} {v12 : Int32} {v13 : Int32} {v14 : Int32} {v15 : Int32} {v16 : Int32} {v18 : Int32} {v19 : Int32} {v21 : Int32} {xq935 : Nat} {xl935 : Int32} {xf935 : Nat → Int32} {k : kS} {z : kS} {H : Heap} {locs : List Loc} {ls : Array Slot} {cells slots uc us : Nat} {o : Unit} (hG : True) (hH : jH A s H locs D g ad z (jY adk g k mo) [jTi g xq935 xl935 xf935]) (hl : jl_has ls 24 [(0, .ref b), (1, .ref (adk 0)), (2, .ref (ad 0)), (3, .int v3), (5, .int v5), (12, .int v12), (13, .int v13), (14, .int v14), (15, .int v15), (16, .int v16), (17, .ref xq935), (18, .int v18), (19, .int v19), (21, .int v21)]) (hf : F_L_law_1067 xs L c22 c942 v3 v5 v12 v13 v14 v15 v16 v18 v19 v21 xl935 xf935 k z = some (o, uc, us)) (hc : cells + uc ≤ 600130) (hs : slots + us ≤ 7301080) : W p l e room_1 s mm args below meth c H locs cells slots Q (F0 mm 1067 ls []) := by
  have hx := V.1
  have hb := V.2.1
  refine lv_iload hx hb dL_law_1067 (lv_at hl.1 13 rfl) ?_
  refine lv_if_lt (tgt := 1103) hx hb dL_law_1069 (by decide) (fun hq => ?_) (fun hq => ?_)
  · have hf := kpos hq hf
    exact w_L_law_1103 V hA LX SX hQ hk22 hk942 trivial hH (jl_sub hl [0, 1, 2, 3, 4, 5, 6, 7, 8, 9, 10, 11] rfl) hf hc hs
  · have hf := kneg hq hf
    exact w_L_law_1072 V hA LX SX hQ hk22 hk942 trivial hH (jl_sub hl [0, 1, 2, 3, 4, 5, 6, 7, 8, 9, 10, 11, 12, 13] rfl) hf hc hs
set_option maxHeartbeats 4000000 in
set_option maxRecDepth 100000 in
theorem w_L_law_1056 (V : jV p s mm args meth c cL_law RL 24 (some .boolean) D g) (hA : ∀ q, s.heap.size ≤ q → A q) (LX : jLX l A s) (SX : jSX A s b L xs) (hQ : ∀ {H : Heap} {locs : List Loc} {ls : Array Slot} {cells slots : Nat}, va_S A s.heap H locs → cells ≤ 600130 → slots ≤ 7301080 → W p l e room_1 s mm args below meth c H locs cells slots Q (F0 mm 1222 ls [.int 1])) {c22 : Int32 → kS → kS → Option (Unit × Nat × Nat)} (hk22 : ∀ {ad : Nat → Nat} {v3 : Int32} {k : kS} {z : kS} {H : Heap} {locs : List Loc} {ls : Array Slot} {cells slots uc us : Nat} {o : Unit}, True → jH A s H locs D g ad z (jY adk g k mo) [] → jl_has ls 24 [(0, .ref b), (1, .ref (adk 0)), (2, .ref (ad 0)), (3, .int v3)] → c22 v3 k z = some (o, uc, us) → cells + uc ≤ 600130 → slots + us ≤ 7301080 → W p l e room_1 s mm args below meth c H locs cells slots Q (F0 mm 22 ls [])) {c942 : Int32 → Int32 → Int32 → Int32 → Int32 → Int32 → Int32 → Int32 → Int32 → (Nat → Int32) → kS → kS → Option (Unit × Nat × Nat)} (hk942 : ∀ {ad : Nat → Nat} {v3 : Int32} {v5 : Int32} {v12 : Int32} {v13 : Int32} {v14 : Int32} {v15 : Int32} {v16 : Int32} {v18 : Int32} {xq935 : Nat} {xl935 : Int32} {xf935 : Nat → Int32} {k : kS} {z : kS} {H : Heap} {locs : List Loc} {ls : Array Slot} {cells slots uc us : Nat} {o : Unit}, True → jH A s H locs D g ad z (jY adk g k mo) [jTi g xq935 xl935 xf935] → jl_has ls 24 [(0, .ref b), (1, .ref (adk 0)), (2, .ref (ad 0)), (3, .int v3), (5, .int v5), (12, .int v12), (13, .int v13), (14, .int v14), (15, .int v15), (16, .int v16), (17, .ref xq935), (18, .int v18)] → c942 v3 v5 v12 v13 v14 v15 v16 v18 xl935 xf935 k z = some (o, uc, us) → cells + uc ≤ 600130 → slots + us ≤ 7301080 → W p l e room_1 s mm args below meth c H locs cells slots Q (F0 mm 942 ls [])) {ad : Nat → Nat} {v3 : Int32} {v5 : Int32} {v12 : Int32} {v13 : Int32} {v14 : Int32} {v15 : Int32} {v16 : Int32} {v18 : Int32} {v19 : Int32} {v20 : Int32} {v21 : Int32} {xq935 : Nat} {xl935 : Int32} {xf935 : Nat → Int32} {k : kS} {z : kS} {H : Heap} {locs : List Loc} {ls : Array Slot} {cells slots uc us : Nat} {o : Unit} (hG : True) (hH : jH A s H locs D g ad z (jY adk g k mo) [jTi g xq935 xl935 xf935]) (hl : jl_has ls 24 [(0, .ref b), (1, .ref (adk 0)), (2, .ref (ad 0)), (3, .int v3), (5, .int v5), (12, .int v12), (13, .int v13), (14, .int v14), (15, .int v15), (16, .int v16), (17, .ref xq935), (18, .int v18), (19, .int v19), (20, .int v20), (21, .int v21)]) (hf : F_L_law_1056 xs L c22 c942 v3 v5 v12 v13 v14 v15 v16 v18 v19 v20 v21 xl935 xf935 k z = some (o, uc, us)) (hc : cells + uc ≤ 600130) (hs : slots + us ≤ 7301080) : W p l e room_1 s mm args below meth c H locs cells slots Q (F0 mm 1056 ls []) := by
  have hx := V.1
  have hb := V.2.1
  refine lv_aload_n hx hb dL_law_1056 rfl (lv_at hl.1 1 rfl) ?_
  refine lv_iload hx hb dL_law_1057 (lv_at hl.1 13 rfl) ?_
  refine lv_iload hx hb dL_law_1059 (lv_at hl.1 12 rfl) ?_
  obtain ⟨x1056_1, hx1056_1, hf⟩ := kbind hf
  obtain ⟨h1056_2, hf⟩ := kif hf
  obtain ⟨uc1056_3, us1056_4, hf, e1, e2⟩ := kadd_some2 hf
  have e1 : uc = 4 + uc1056_3 := e1
  have e2 : us = 24 + us1056_4 := e2
  have hc : cells + 4 + uc1056_3 ≤ 600130 := by rw [Nat.add_assoc, ← e1]; exact hc
  have hs : slots + 24 + us1056_4 ≤ 7301080 := by rw [Nat.add_assoc, ← e2]; exact hs
  have lc : cells + 4 ≤ 600130 := Nat.le_trans (Nat.le_add_right _ _) hc
  have ls2 : slots + 24 ≤ 7301080 := Nat.le_trans (Nat.le_add_right _ _) hs
  refine jc_callx V hA LX hH kYX5_related kl_L_135 (c_X5_related l LX.1 _ _ hx1056_1 _) (Decidable.not_not.mp h1056_2) rfl rfl ⟨Nat.le_of_ble_eq_true rfl, Nat.le_of_ble_eq_true rfl⟩ rfl hl.1.1 (as := [.int v20, .int v19]) (rest := []) (Nat.le_of_ble_eq_true rfl) dL_law_1061 ⟨lc, ls2⟩ rfl (fun H locs hH => ?_)
  refine lv_if_lt (tgt := 1101) hx hb dL_law_1064 (by decide) (fun hq => ?_) (fun hq => ?_)
  · have hf := kpos hq hf
    exact w_L_law_1101 V hA LX SX hQ trivial (jH_sub hH [] (by decide) rfl) (jl_sub hl [] rfl) hf hc hs
  · have hf := kneg hq hf
    exact w_L_law_1067 V hA LX SX hQ hk22 hk942 trivial hH (jl_sub hl [0, 1, 2, 3, 4, 5, 6, 7, 8, 9, 10, 11, 12, 14] rfl) hf hc hs
set_option maxHeartbeats 4000000 in
set_option maxRecDepth 100000 in
theorem w_L_law_1045 (V : jV p s mm args meth c cL_law RL 24 (some .boolean) D g) (hA : ∀ q, s.heap.size ≤ q → A q) (LX : jLX l A s) (SX : jSX A s b L xs) (hQ : ∀ {H : Heap} {locs : List Loc} {ls : Array Slot} {cells slots : Nat}, va_S A s.heap H locs → cells ≤ 600130 → slots ≤ 7301080 → W p l e room_1 s mm args below meth c H locs cells slots Q (F0 mm 1222 ls [.int 1])) {c22 : Int32 → kS → kS → Option (Unit × Nat × Nat)} (hk22 : ∀ {ad : Nat → Nat} {v3 : Int32} {k : kS} {z : kS} {H : Heap} {locs : List Loc} {ls : Array Slot} {cells slots uc us : Nat} {o : Unit}, True → jH A s H locs D g ad z (jY adk g k mo) [] → jl_has ls 24 [(0, .ref b), (1, .ref (adk 0)), (2, .ref (ad 0)), (3, .int v3)] → c22 v3 k z = some (o, uc, us) → cells + uc ≤ 600130 → slots + us ≤ 7301080 → W p l e room_1 s mm args below meth c H locs cells slots Q (F0 mm 22 ls [])) {c942 : Int32 → Int32 → Int32 → Int32 → Int32 → Int32 → Int32 → Int32 → Int32 → (Nat → Int32) → kS → kS → Option (Unit × Nat × Nat)} (hk942 : ∀ {ad : Nat → Nat} {v3 : Int32} {v5 : Int32} {v12 : Int32} {v13 : Int32} {v14 : Int32} {v15 : Int32} {v16 : Int32} {v18 : Int32} {xq935 : Nat} {xl935 : Int32} {xf935 : Nat → Int32} {k : kS} {z : kS} {H : Heap} {locs : List Loc} {ls : Array Slot} {cells slots uc us : Nat} {o : Unit}, True → jH A s H locs D g ad z (jY adk g k mo) [jTi g xq935 xl935 xf935] → jl_has ls 24 [(0, .ref b), (1, .ref (adk 0)), (2, .ref (ad 0)), (3, .int v3), (5, .int v5), (12, .int v12), (13, .int v13), (14, .int v14), (15, .int v15), (16, .int v16), (17, .ref xq935), (18, .int v18)] → c942 v3 v5 v12 v13 v14 v15 v16 v18 xl935 xf935 k z = some (o, uc, us) → cells + uc ≤ 600130 → slots + us ≤ 7301080 → W p l e room_1 s mm args below meth c H locs cells slots Q (F0 mm 942 ls [])) {ad : Nat → Nat} {v3 : Int32} {v5 : Int32} {v12 : Int32} {v13 : Int32} {v14 : Int32} {v15 : Int32} {v16 : Int32} {v18 : Int32} {v19 : Int32} {v20 : Int32} {v21 : Int32} {xq935 : Nat} {xl935 : Int32} {xf935 : Nat → Int32} {k : kS} {z : kS} {H : Heap} {locs : List Loc} {ls : Array Slot} {cells slots uc us : Nat} {o : Unit} (hG : True) (hH : jH A s H locs D g ad z (jY adk g k mo) [jTi g xq935 xl935 xf935]) (hl : jl_has ls 24 [(0, .ref b), (1, .ref (adk 0)), (2, .ref (ad 0)), (3, .int v3), (5, .int v5), (12, .int v12), (13, .int v13), (14, .int v14), (15, .int v15), (16, .int v16), (17, .ref xq935), (18, .int v18), (19, .int v19), (20, .int v20), (21, .int v21)]) (hf : F_L_law_1045 xs L c22 c942 v3 v5 v12 v13 v14 v15 v16 v18 v19 v20 v21 xl935 xf935 k z = some (o, uc, us)) (hc : cells + uc ≤ 600130) (hs : slots + us ≤ 7301080) : W p l e room_1 s mm args below meth c H locs cells slots Q (F0 mm 1045 ls []) := by
  have hx := V.1
  have hb := V.2.1
  refine lv_aload_n hx hb dL_law_1045 rfl (lv_at hl.1 1 rfl) ?_
  refine lv_iload hx hb dL_law_1046 (lv_at hl.1 13 rfl) ?_
  refine lv_iconst (v := 2) hx hb dL_law_1048 (by decide) ?_
  obtain ⟨x1045_1, hx1045_1, hf⟩ := kbind hf
  obtain ⟨h1045_2, hf⟩ := kif hf
  obtain ⟨uc1045_3, us1045_4, hf, e1, e2⟩ := kadd_some2 hf
  have e1 : uc = 4 + uc1045_3 := e1
  have e2 : us = 24 + us1045_4 := e2
  have hc : cells + 4 + uc1045_3 ≤ 600130 := by rw [Nat.add_assoc, ← e1]; exact hc
  have hs : slots + 24 + us1045_4 ≤ 7301080 := by rw [Nat.add_assoc, ← e2]; exact hs
  have lc : cells + 4 ≤ 600130 := Nat.le_trans (Nat.le_add_right _ _) hc
  have ls2 : slots + 24 ≤ 7301080 := Nat.le_trans (Nat.le_add_right _ _) hs
  refine jc_callx V hA LX hH kYX5_person kl_L_132 (c_X5_person l LX.1 _ _ hx1045_1 _) (Decidable.not_not.mp h1045_2) rfl rfl ⟨Nat.le_of_ble_eq_true rfl, Nat.le_of_ble_eq_true rfl⟩ rfl hl.1.1 (as := [.int v20, .int 2]) (rest := []) (Nat.le_of_ble_eq_true rfl) dL_law_1049 ⟨lc, ls2⟩ rfl (fun H locs hH => ?_)
  refine lv_iconst (v := 1) hx hb dL_law_1052 (by decide) ?_
  refine lv_icmp_ne (tgt := 1101) hx hb dL_law_1053 (by decide) (fun hq => ?_) (fun hq => ?_)
  · have hf := kneg hq hf
    exact w_L_law_1101 V hA LX SX hQ trivial (jH_sub hH [] (by decide) rfl) (jl_sub hl [] rfl) hf hc hs
  · have hf := kpos hq hf
    exact w_L_law_1056 V hA LX SX hQ hk22 hk942 trivial hH (jl_sub hl [0, 1, 2, 3, 4, 5, 6, 7, 8, 9, 10, 11, 12, 13, 14] rfl) hf hc hs
set_option maxHeartbeats 4000000 in
set_option maxRecDepth 100000 in
theorem w_L_law_1038 (V : jV p s mm args meth c cL_law RL 24 (some .boolean) D g) (hA : ∀ q, s.heap.size ≤ q → A q) (LX : jLX l A s) (SX : jSX A s b L xs) (hQ : ∀ {H : Heap} {locs : List Loc} {ls : Array Slot} {cells slots : Nat}, va_S A s.heap H locs → cells ≤ 600130 → slots ≤ 7301080 → W p l e room_1 s mm args below meth c H locs cells slots Q (F0 mm 1222 ls [.int 1])) {c22 : Int32 → kS → kS → Option (Unit × Nat × Nat)} (hk22 : ∀ {ad : Nat → Nat} {v3 : Int32} {k : kS} {z : kS} {H : Heap} {locs : List Loc} {ls : Array Slot} {cells slots uc us : Nat} {o : Unit}, True → jH A s H locs D g ad z (jY adk g k mo) [] → jl_has ls 24 [(0, .ref b), (1, .ref (adk 0)), (2, .ref (ad 0)), (3, .int v3)] → c22 v3 k z = some (o, uc, us) → cells + uc ≤ 600130 → slots + us ≤ 7301080 → W p l e room_1 s mm args below meth c H locs cells slots Q (F0 mm 22 ls [])) {c942 : Int32 → Int32 → Int32 → Int32 → Int32 → Int32 → Int32 → Int32 → Int32 → (Nat → Int32) → kS → kS → Option (Unit × Nat × Nat)} (hk942 : ∀ {ad : Nat → Nat} {v3 : Int32} {v5 : Int32} {v12 : Int32} {v13 : Int32} {v14 : Int32} {v15 : Int32} {v16 : Int32} {v18 : Int32} {xq935 : Nat} {xl935 : Int32} {xf935 : Nat → Int32} {k : kS} {z : kS} {H : Heap} {locs : List Loc} {ls : Array Slot} {cells slots uc us : Nat} {o : Unit}, True → jH A s H locs D g ad z (jY adk g k mo) [jTi g xq935 xl935 xf935] → jl_has ls 24 [(0, .ref b), (1, .ref (adk 0)), (2, .ref (ad 0)), (3, .int v3), (5, .int v5), (12, .int v12), (13, .int v13), (14, .int v14), (15, .int v15), (16, .int v16), (17, .ref xq935), (18, .int v18)] → c942 v3 v5 v12 v13 v14 v15 v16 v18 xl935 xf935 k z = some (o, uc, us) → cells + uc ≤ 600130 → slots + us ≤ 7301080 → W p l e room_1 s mm args below meth c H locs cells slots Q (F0 mm 942 ls [])) {ad : Nat → Nat} {v3 : Int32} {v5 : Int32} {v12 : Int32} {v13 : Int32} {v14 : Int32} {v15 : Int32} {v16 : Int32} {v18 : Int32} {v19 : Int32} {v20 : Int32} {v21 : Int32} {xq935 : Nat} {xl935 : Int32} {xf935 : Nat → Int32} {k : kS} {z : kS} {H : Heap} {locs : List Loc} {ls : Array Slot} {cells slots uc us : Nat} {o : Unit} (hG : True) (hH : jH A s H locs D g ad z (jY adk g k mo) [jTi g xq935 xl935 xf935]) (hl : jl_has ls 24 [(0, .ref b), (1, .ref (adk 0)), (2, .ref (ad 0)), (3, .int v3), (5, .int v5), (12, .int v12), (13, .int v13), (14, .int v14), (15, .int v15), (16, .int v16), (17, .ref xq935), (18, .int v18), (19, .int v19), (20, .int v20), (21, .int v21)]) (hf : F_L_law_1038 xs L c22 c942 v3 v5 v12 v13 v14 v15 v16 v18 v19 v20 v21 xl935 xf935 k z = some (o, uc, us)) (hc : cells + uc ≤ 600130) (hs : slots + us ≤ 7301080) : W p l e room_1 s mm args below meth c H locs cells slots Q (F0 mm 1038 ls []) := by
  have hx := V.1
  have hb := V.2.1
  refine lv_iload hx hb dL_law_1038 (lv_at hl.1 13 rfl) ?_
  refine lv_iload hx hb dL_law_1040 (lv_at hl.1 12 rfl) ?_
  refine lv_icmp_eq (tgt := 1101) hx hb dL_law_1042 (by decide) (fun hq => ?_) (fun hq => ?_)
  · have hf := kpos hq hf
    exact w_L_law_1101 V hA LX SX hQ trivial (jH_sub hH [] (by decide) rfl) (jl_sub hl [] rfl) hf hc hs
  · have hf := kneg hq hf
    exact w_L_law_1045 V hA LX SX hQ hk22 hk942 trivial hH (jl_sub hl [0, 1, 2, 3, 4, 5, 6, 7, 8, 9, 10, 11, 12, 13, 14] rfl) hf hc hs
set_option maxHeartbeats 4000000 in
set_option maxRecDepth 100000 in
theorem w_L_law_1033 (V : jV p s mm args meth c cL_law RL 24 (some .boolean) D g) (hA : ∀ q, s.heap.size ≤ q → A q) (LX : jLX l A s) (SX : jSX A s b L xs) (hQ : ∀ {H : Heap} {locs : List Loc} {ls : Array Slot} {cells slots : Nat}, va_S A s.heap H locs → cells ≤ 600130 → slots ≤ 7301080 → W p l e room_1 s mm args below meth c H locs cells slots Q (F0 mm 1222 ls [.int 1])) {c22 : Int32 → kS → kS → Option (Unit × Nat × Nat)} (hk22 : ∀ {ad : Nat → Nat} {v3 : Int32} {k : kS} {z : kS} {H : Heap} {locs : List Loc} {ls : Array Slot} {cells slots uc us : Nat} {o : Unit}, True → jH A s H locs D g ad z (jY adk g k mo) [] → jl_has ls 24 [(0, .ref b), (1, .ref (adk 0)), (2, .ref (ad 0)), (3, .int v3)] → c22 v3 k z = some (o, uc, us) → cells + uc ≤ 600130 → slots + us ≤ 7301080 → W p l e room_1 s mm args below meth c H locs cells slots Q (F0 mm 22 ls [])) {c942 : Int32 → Int32 → Int32 → Int32 → Int32 → Int32 → Int32 → Int32 → Int32 → (Nat → Int32) → kS → kS → Option (Unit × Nat × Nat)} (hk942 : ∀ {ad : Nat → Nat} {v3 : Int32} {v5 : Int32} {v12 : Int32} {v13 : Int32} {v14 : Int32} {v15 : Int32} {v16 : Int32} {v18 : Int32} {xq935 : Nat} {xl935 : Int32} {xf935 : Nat → Int32} {k : kS} {z : kS} {H : Heap} {locs : List Loc} {ls : Array Slot} {cells slots uc us : Nat} {o : Unit}, True → jH A s H locs D g ad z (jY adk g k mo) [jTi g xq935 xl935 xf935] → jl_has ls 24 [(0, .ref b), (1, .ref (adk 0)), (2, .ref (ad 0)), (3, .int v3), (5, .int v5), (12, .int v12), (13, .int v13), (14, .int v14), (15, .int v15), (16, .int v16), (17, .ref xq935), (18, .int v18)] → c942 v3 v5 v12 v13 v14 v15 v16 v18 xl935 xf935 k z = some (o, uc, us) → cells + uc ≤ 600130 → slots + us ≤ 7301080 → W p l e room_1 s mm args below meth c H locs cells slots Q (F0 mm 942 ls [])) {ad : Nat → Nat} {v3 : Int32} {v5 : Int32} {v12 : Int32} {v13 : Int32} {v14 : Int32} {v15 : Int32} {v16 : Int32} {v18 : Int32} {v19 : Int32} {v20 : Int32} {v21 : Int32} {xq935 : Nat} {xl935 : Int32} {xf935 : Nat → Int32} {k : kS} {z : kS} {H : Heap} {locs : List Loc} {ls : Array Slot} {cells slots uc us : Nat} {o : Unit} (hG : True) (hH : jH A s H locs D g ad z (jY adk g k mo) [jTi g xq935 xl935 xf935]) (hl : jl_has ls 24 [(0, .ref b), (1, .ref (adk 0)), (2, .ref (ad 0)), (3, .int v3), (5, .int v5), (12, .int v12), (13, .int v13), (14, .int v14), (15, .int v15), (16, .int v16), (17, .ref xq935), (18, .int v18), (19, .int v19), (20, .int v20), (21, .int v21)]) (hf : F_L_law_1033 xs L c22 c942 v3 v5 v12 v13 v14 v15 v16 v18 v19 v20 v21 xl935 xf935 k z = some (o, uc, us)) (hc : cells + uc ≤ 600130) (hs : slots + us ≤ 7301080) : W p l e room_1 s mm args below meth c H locs cells slots Q (F0 mm 1033 ls []) := by
  have hx := V.1
  have hb := V.2.1
  refine lv_iload hx hb dL_law_1033 (lv_at hl.1 12 rfl) ?_
  refine lv_if_lt (tgt := 1101) hx hb dL_law_1035 (by decide) (fun hq => ?_) (fun hq => ?_)
  · have hf := kpos hq hf
    exact w_L_law_1101 V hA LX SX hQ trivial (jH_sub hH [] (by decide) rfl) (jl_sub hl [] rfl) hf hc hs
  · have hf := kneg hq hf
    exact w_L_law_1038 V hA LX SX hQ hk22 hk942 trivial hH (jl_sub hl [0, 1, 2, 3, 4, 5, 6, 7, 8, 9, 10, 11, 12, 13, 14] rfl) hf hc hs
set_option maxHeartbeats 4000000 in
set_option maxRecDepth 100000 in
theorem w_L_law_1028 (V : jV p s mm args meth c cL_law RL 24 (some .boolean) D g) (hA : ∀ q, s.heap.size ≤ q → A q) (LX : jLX l A s) (SX : jSX A s b L xs) (hQ : ∀ {H : Heap} {locs : List Loc} {ls : Array Slot} {cells slots : Nat}, va_S A s.heap H locs → cells ≤ 600130 → slots ≤ 7301080 → W p l e room_1 s mm args below meth c H locs cells slots Q (F0 mm 1222 ls [.int 1])) {c22 : Int32 → kS → kS → Option (Unit × Nat × Nat)} (hk22 : ∀ {ad : Nat → Nat} {v3 : Int32} {k : kS} {z : kS} {H : Heap} {locs : List Loc} {ls : Array Slot} {cells slots uc us : Nat} {o : Unit}, True → jH A s H locs D g ad z (jY adk g k mo) [] → jl_has ls 24 [(0, .ref b), (1, .ref (adk 0)), (2, .ref (ad 0)), (3, .int v3)] → c22 v3 k z = some (o, uc, us) → cells + uc ≤ 600130 → slots + us ≤ 7301080 → W p l e room_1 s mm args below meth c H locs cells slots Q (F0 mm 22 ls [])) {c942 : Int32 → Int32 → Int32 → Int32 → Int32 → Int32 → Int32 → Int32 → Int32 → (Nat → Int32) → kS → kS → Option (Unit × Nat × Nat)} (hk942 : ∀ {ad : Nat → Nat} {v3 : Int32} {v5 : Int32} {v12 : Int32} {v13 : Int32} {v14 : Int32} {v15 : Int32} {v16 : Int32} {v18 : Int32} {xq935 : Nat} {xl935 : Int32} {xf935 : Nat → Int32} {k : kS} {z : kS} {H : Heap} {locs : List Loc} {ls : Array Slot} {cells slots uc us : Nat} {o : Unit}, True → jH A s H locs D g ad z (jY adk g k mo) [jTi g xq935 xl935 xf935] → jl_has ls 24 [(0, .ref b), (1, .ref (adk 0)), (2, .ref (ad 0)), (3, .int v3), (5, .int v5), (12, .int v12), (13, .int v13), (14, .int v14), (15, .int v15), (16, .int v16), (17, .ref xq935), (18, .int v18)] → c942 v3 v5 v12 v13 v14 v15 v16 v18 xl935 xf935 k z = some (o, uc, us) → cells + uc ≤ 600130 → slots + us ≤ 7301080 → W p l e room_1 s mm args below meth c H locs cells slots Q (F0 mm 942 ls [])) {ad : Nat → Nat} {v3 : Int32} {v5 : Int32} {v12 : Int32} {v13 : Int32} {v14 : Int32} {v15 : Int32} {v16 : Int32} {v18 : Int32} {v19 : Int32} {v20 : Int32} {v21 : Int32} {xq935 : Nat} {xl935 : Int32} {xf935 : Nat → Int32} {k : kS} {z : kS} {H : Heap} {locs : List Loc} {ls : Array Slot} {cells slots uc us : Nat} {o : Unit} (hG : True) (hH : jH A s H locs D g ad z (jY adk g k mo) [jTi g xq935 xl935 xf935]) (hl : jl_has ls 24 [(0, .ref b), (1, .ref (adk 0)), (2, .ref (ad 0)), (3, .int v3), (5, .int v5), (12, .int v12), (13, .int v13), (14, .int v14), (15, .int v15), (16, .int v16), (17, .ref xq935), (18, .int v18), (19, .int v19), (20, .int v20), (21, .int v21)]) (hf : F_L_law_1028 xs L c22 c942 v3 v5 v12 v13 v14 v15 v16 v18 v19 v20 v21 xl935 xf935 k z = some (o, uc, us)) (hc : cells + uc ≤ 600130) (hs : slots + us ≤ 7301080) : W p l e room_1 s mm args below meth c H locs cells slots Q (F0 mm 1028 ls []) := by
  have hx := V.1
  have hb := V.2.1
  refine lv_iload hx hb dL_law_1028 (lv_at hl.1 13 rfl) ?_
  refine lv_if_lt (tgt := 1067) hx hb dL_law_1030 (by decide) (fun hq => ?_) (fun hq => ?_)
  · have hf := kpos hq hf
    exact w_L_law_1067 V hA LX SX hQ hk22 hk942 trivial hH (jl_sub hl [0, 1, 2, 3, 4, 5, 6, 7, 8, 9, 10, 11, 12, 14] rfl) hf hc hs
  · have hf := kneg hq hf
    exact w_L_law_1033 V hA LX SX hQ hk22 hk942 trivial hH (jl_sub hl [0, 1, 2, 3, 4, 5, 6, 7, 8, 9, 10, 11, 12, 13, 14] rfl) hf hc hs
set_option maxHeartbeats 4000000 in
set_option maxRecDepth 100000 in
theorem w_L_law_1017 (V : jV p s mm args meth c cL_law RL 24 (some .boolean) D g) (hA : ∀ q, s.heap.size ≤ q → A q) (LX : jLX l A s) (SX : jSX A s b L xs) (hQ : ∀ {H : Heap} {locs : List Loc} {ls : Array Slot} {cells slots : Nat}, va_S A s.heap H locs → cells ≤ 600130 → slots ≤ 7301080 → W p l e room_1 s mm args below meth c H locs cells slots Q (F0 mm 1222 ls [.int 1])) {c22 : Int32 → kS → kS → Option (Unit × Nat × Nat)} (hk22 : ∀ {ad : Nat → Nat} {v3 : Int32} {k : kS} {z : kS} {H : Heap} {locs : List Loc} {ls : Array Slot} {cells slots uc us : Nat} {o : Unit}, True → jH A s H locs D g ad z (jY adk g k mo) [] → jl_has ls 24 [(0, .ref b), (1, .ref (adk 0)), (2, .ref (ad 0)), (3, .int v3)] → c22 v3 k z = some (o, uc, us) → cells + uc ≤ 600130 → slots + us ≤ 7301080 → W p l e room_1 s mm args below meth c H locs cells slots Q (F0 mm 22 ls [])) {c942 : Int32 → Int32 → Int32 → Int32 → Int32 → Int32 → Int32 → Int32 → Int32 → (Nat → Int32) → kS → kS → Option (Unit × Nat × Nat)} (hk942 : ∀ {ad : Nat → Nat} {v3 : Int32} {v5 : Int32} {v12 : Int32} {v13 : Int32} {v14 : Int32} {v15 : Int32} {v16 : Int32} {v18 : Int32} {xq935 : Nat} {xl935 : Int32} {xf935 : Nat → Int32} {k : kS} {z : kS} {H : Heap} {locs : List Loc} {ls : Array Slot} {cells slots uc us : Nat} {o : Unit}, True → jH A s H locs D g ad z (jY adk g k mo) [jTi g xq935 xl935 xf935] → jl_has ls 24 [(0, .ref b), (1, .ref (adk 0)), (2, .ref (ad 0)), (3, .int v3), (5, .int v5), (12, .int v12), (13, .int v13), (14, .int v14), (15, .int v15), (16, .int v16), (17, .ref xq935), (18, .int v18)] → c942 v3 v5 v12 v13 v14 v15 v16 v18 xl935 xf935 k z = some (o, uc, us) → cells + uc ≤ 600130 → slots + us ≤ 7301080 → W p l e room_1 s mm args below meth c H locs cells slots Q (F0 mm 942 ls [])) {ad : Nat → Nat} {v3 : Int32} {v5 : Int32} {v12 : Int32} {v13 : Int32} {v14 : Int32} {v15 : Int32} {v16 : Int32} {v18 : Int32} {v19 : Int32} {v20 : Int32} {v21 : Int32} {xq935 : Nat} {xl935 : Int32} {xf935 : Nat → Int32} {k : kS} {z : kS} {H : Heap} {locs : List Loc} {ls : Array Slot} {cells slots uc us : Nat} {o : Unit} (hG : True) (hH : jH A s H locs D g ad z (jY adk g k mo) [jTi g xq935 xl935 xf935]) (hl : jl_has ls 24 [(0, .ref b), (1, .ref (adk 0)), (2, .ref (ad 0)), (3, .int v3), (5, .int v5), (12, .int v12), (13, .int v13), (14, .int v14), (15, .int v15), (16, .int v16), (17, .ref xq935), (18, .int v18), (19, .int v19), (20, .int v20), (21, .int v21)]) (hf : F_L_law_1017 xs L c22 c942 v3 v5 v12 v13 v14 v15 v16 v18 v19 v20 v21 xl935 xf935 k z = some (o, uc, us)) (hc : cells + uc ≤ 600130) (hs : slots + us ≤ 7301080) : W p l e room_1 s mm args below meth c H locs cells slots Q (F0 mm 1017 ls []) := by
  have hx := V.1
  have hb := V.2.1
  refine lv_aload_n hx hb dL_law_1017 rfl (lv_at hl.1 1 rfl) ?_
  refine lv_iload hx hb dL_law_1018 (lv_at hl.1 12 rfl) ?_
  refine lv_iconst (v := 2) hx hb dL_law_1020 (by decide) ?_
  obtain ⟨x1017_1, hx1017_1, hf⟩ := kbind hf
  obtain ⟨h1017_2, hf⟩ := kif hf
  obtain ⟨uc1017_3, us1017_4, hf, e1, e2⟩ := kadd_some2 hf
  have e1 : uc = 4 + uc1017_3 := e1
  have e2 : us = 24 + us1017_4 := e2
  have hc : cells + 4 + uc1017_3 ≤ 600130 := by rw [Nat.add_assoc, ← e1]; exact hc
  have hs : slots + 24 + us1017_4 ≤ 7301080 := by rw [Nat.add_assoc, ← e2]; exact hs
  have lc : cells + 4 ≤ 600130 := Nat.le_trans (Nat.le_add_right _ _) hc
  have ls2 : slots + 24 ≤ 7301080 := Nat.le_trans (Nat.le_add_right _ _) hs
  refine jc_callx V hA LX hH kYX5_person kl_L_132 (c_X5_person l LX.1 _ _ hx1017_1 _) (Decidable.not_not.mp h1017_2) rfl rfl ⟨Nat.le_of_ble_eq_true rfl, Nat.le_of_ble_eq_true rfl⟩ rfl hl.1.1 (as := [.int v19, .int 2]) (rest := []) (Nat.le_of_ble_eq_true rfl) dL_law_1021 ⟨lc, ls2⟩ rfl (fun H locs hH => ?_)
  refine lv_iconst (v := 1) hx hb dL_law_1024 (by decide) ?_
  refine lv_icmp_ne (tgt := 1101) hx hb dL_law_1025 (by decide) (fun hq => ?_) (fun hq => ?_)
  · have hf := kneg hq hf
    exact w_L_law_1101 V hA LX SX hQ trivial (jH_sub hH [] (by decide) rfl) (jl_sub hl [] rfl) hf hc hs
  · have hf := kpos hq hf
    exact w_L_law_1028 V hA LX SX hQ hk22 hk942 trivial hH (jl_sub hl [0, 1, 2, 3, 4, 5, 6, 7, 8, 9, 10, 11, 12, 13, 14] rfl) hf hc hs
set_option maxHeartbeats 4000000 in
set_option maxRecDepth 100000 in
theorem w_L_law_1009 (V : jV p s mm args meth c cL_law RL 24 (some .boolean) D g) (hA : ∀ q, s.heap.size ≤ q → A q) (LX : jLX l A s) (SX : jSX A s b L xs) (hQ : ∀ {H : Heap} {locs : List Loc} {ls : Array Slot} {cells slots : Nat}, va_S A s.heap H locs → cells ≤ 600130 → slots ≤ 7301080 → W p l e room_1 s mm args below meth c H locs cells slots Q (F0 mm 1222 ls [.int 1])) {c22 : Int32 → kS → kS → Option (Unit × Nat × Nat)} (hk22 : ∀ {ad : Nat → Nat} {v3 : Int32} {k : kS} {z : kS} {H : Heap} {locs : List Loc} {ls : Array Slot} {cells slots uc us : Nat} {o : Unit}, True → jH A s H locs D g ad z (jY adk g k mo) [] → jl_has ls 24 [(0, .ref b), (1, .ref (adk 0)), (2, .ref (ad 0)), (3, .int v3)] → c22 v3 k z = some (o, uc, us) → cells + uc ≤ 600130 → slots + us ≤ 7301080 → W p l e room_1 s mm args below meth c H locs cells slots Q (F0 mm 22 ls [])) {c942 : Int32 → Int32 → Int32 → Int32 → Int32 → Int32 → Int32 → Int32 → Int32 → (Nat → Int32) → kS → kS → Option (Unit × Nat × Nat)} (hk942 : ∀ {ad : Nat → Nat} {v3 : Int32} {v5 : Int32} {v12 : Int32} {v13 : Int32} {v14 : Int32} {v15 : Int32} {v16 : Int32} {v18 : Int32} {xq935 : Nat} {xl935 : Int32} {xf935 : Nat → Int32} {k : kS} {z : kS} {H : Heap} {locs : List Loc} {ls : Array Slot} {cells slots uc us : Nat} {o : Unit}, True → jH A s H locs D g ad z (jY adk g k mo) [jTi g xq935 xl935 xf935] → jl_has ls 24 [(0, .ref b), (1, .ref (adk 0)), (2, .ref (ad 0)), (3, .int v3), (5, .int v5), (12, .int v12), (13, .int v13), (14, .int v14), (15, .int v15), (16, .int v16), (17, .ref xq935), (18, .int v18)] → c942 v3 v5 v12 v13 v14 v15 v16 v18 xl935 xf935 k z = some (o, uc, us) → cells + uc ≤ 600130 → slots + us ≤ 7301080 → W p l e room_1 s mm args below meth c H locs cells slots Q (F0 mm 942 ls [])) {ad : Nat → Nat} {s0 : Int32} {s1 : Int32} {v3 : Int32} {v5 : Int32} {v12 : Int32} {v13 : Int32} {v14 : Int32} {v15 : Int32} {v18 : Int32} {v19 : Int32} {v20 : Int32} {v21 : Int32} {xq935 : Nat} {xl935 : Int32} {xf935 : Nat → Int32} {k : kS} {z : kS} {H : Heap} {locs : List Loc} {ls : Array Slot} {cells slots uc us : Nat} {o : Unit} (hG : True) (hH : jH A s H locs D g ad z (jY adk g k mo) [jTi g xq935 xl935 xf935]) (hl : jl_has ls 24 [(0, .ref b), (1, .ref (adk 0)), (2, .ref (ad 0)), (3, .int v3), (5, .int v5), (12, .int v12), (13, .int v13), (14, .int v14), (15, .int v15), (17, .ref xq935), (18, .int v18), (19, .int v19), (20, .int v20), (21, .int v21)]) (hf : F_L_law_1009 xs L c22 c942 s0 s1 v3 v5 v12 v13 v14 v15 v18 v19 v20 v21 xl935 xf935 k z = some (o, uc, us)) (hc : cells + uc ≤ 600130) (hs : slots + us ≤ 7301080) : W p l e room_1 s mm args below meth c H locs cells slots Q (F0 mm 1009 ls [.int s1, .int s0]) := by
  have hx := V.1
  have hb := V.2.1
  refine lv_iadd hx hb dL_law_1009 ?_
  refine jl_istore (lv' := [(16, .int (s0 + s1)), (0, .ref b), (1, .ref (adk 0)), (2, .ref (ad 0)), (3, .int v3), (5, .int v5), (12, .int v12), (13, .int v13), (14, .int v14), (15, .int v15), (17, .ref xq935), (18, .int v18), (19, .int v19), (20, .int v20), (21, .int v21)]) hx hb dL_law_1010 hl (by decide) rfl (fun ls hl => ?_)
  refine lv_iload hx hb dL_law_1012 (lv_at hl.1 12 rfl) ?_
  refine lv_if_lt (tgt := 1028) hx hb dL_law_1014 (by decide) (fun hq => ?_) (fun hq => ?_)
  · have hf := kpos hq hf
    exact w_L_law_1028 V hA LX SX hQ hk22 hk942 trivial hH (jl_sub hl [1, 2, 3, 4, 5, 6, 7, 8, 9, 0, 10, 11, 12, 13, 14] rfl) hf hc hs
  · have hf := kneg hq hf
    exact w_L_law_1017 V hA LX SX hQ hk22 hk942 trivial hH (jl_sub hl [1, 2, 3, 4, 5, 6, 7, 8, 9, 0, 10, 11, 12, 13, 14] rfl) hf hc hs
set_option maxHeartbeats 4000000 in
set_option maxRecDepth 100000 in
theorem w_L_law_1004 (V : jV p s mm args meth c cL_law RL 24 (some .boolean) D g) (hA : ∀ q, s.heap.size ≤ q → A q) (LX : jLX l A s) (SX : jSX A s b L xs) (hQ : ∀ {H : Heap} {locs : List Loc} {ls : Array Slot} {cells slots : Nat}, va_S A s.heap H locs → cells ≤ 600130 → slots ≤ 7301080 → W p l e room_1 s mm args below meth c H locs cells slots Q (F0 mm 1222 ls [.int 1])) {c22 : Int32 → kS → kS → Option (Unit × Nat × Nat)} (hk22 : ∀ {ad : Nat → Nat} {v3 : Int32} {k : kS} {z : kS} {H : Heap} {locs : List Loc} {ls : Array Slot} {cells slots uc us : Nat} {o : Unit}, True → jH A s H locs D g ad z (jY adk g k mo) [] → jl_has ls 24 [(0, .ref b), (1, .ref (adk 0)), (2, .ref (ad 0)), (3, .int v3)] → c22 v3 k z = some (o, uc, us) → cells + uc ≤ 600130 → slots + us ≤ 7301080 → W p l e room_1 s mm args below meth c H locs cells slots Q (F0 mm 22 ls [])) {c942 : Int32 → Int32 → Int32 → Int32 → Int32 → Int32 → Int32 → Int32 → Int32 → (Nat → Int32) → kS → kS → Option (Unit × Nat × Nat)} (hk942 : ∀ {ad : Nat → Nat} {v3 : Int32} {v5 : Int32} {v12 : Int32} {v13 : Int32} {v14 : Int32} {v15 : Int32} {v16 : Int32} {v18 : Int32} {xq935 : Nat} {xl935 : Int32} {xf935 : Nat → Int32} {k : kS} {z : kS} {H : Heap} {locs : List Loc} {ls : Array Slot} {cells slots uc us : Nat} {o : Unit}, True → jH A s H locs D g ad z (jY adk g k mo) [jTi g xq935 xl935 xf935] → jl_has ls 24 [(0, .ref b), (1, .ref (adk 0)), (2, .ref (ad 0)), (3, .int v3), (5, .int v5), (12, .int v12), (13, .int v13), (14, .int v14), (15, .int v15), (16, .int v16), (17, .ref xq935), (18, .int v18)] → c942 v3 v5 v12 v13 v14 v15 v16 v18 xl935 xf935 k z = some (o, uc, us) → cells + uc ≤ 600130 → slots + us ≤ 7301080 → W p l e room_1 s mm args below meth c H locs cells slots Q (F0 mm 942 ls [])) {ad : Nat → Nat} {s0 : Int32} {v3 : Int32} {v5 : Int32} {v12 : Int32} {v13 : Int32} {v14 : Int32} {v15 : Int32} {v18 : Int32} {v19 : Int32} {v20 : Int32} {v21 : Int32} {xq935 : Nat} {xl935 : Int32} {xf935 : Nat → Int32} {k : kS} {z : kS} {H : Heap} {locs : List Loc} {ls : Array Slot} {cells slots uc us : Nat} {o : Unit} (hG : True) (hH : jH A s H locs D g ad z (jY adk g k mo) [jTi g xq935 xl935 xf935]) (hl : jl_has ls 24 [(0, .ref b), (1, .ref (adk 0)), (2, .ref (ad 0)), (3, .int v3), (5, .int v5), (12, .int v12), (13, .int v13), (14, .int v14), (15, .int v15), (17, .ref xq935), (18, .int v18), (19, .int v19), (20, .int v20), (21, .int v21)]) (hf : F_L_law_1004 xs L c22 c942 s0 v3 v5 v12 v13 v14 v15 v18 v19 v20 v21 xl935 xf935 k z = some (o, uc, us)) (hc : cells + uc ≤ 600130) (hs : slots + us ≤ 7301080) : W p l e room_1 s mm args below meth c H locs cells slots Q (F0 mm 1004 ls [.int s0]) := by
  have hx := V.1
  have hb := V.2.1
  refine lv_iconst (v := 1) hx hb dL_law_1004 (by decide) ?_
  refine lv_goto (tgt := 1009) hx hb dL_law_1005 (by decide) ?_
  exact w_L_law_1009 V hA LX SX hQ hk22 hk942 trivial hH (jl_sub hl [0, 1, 2, 3, 4, 5, 6, 7, 8, 9, 10, 11, 12, 13] rfl) hf hc hs
set_option maxHeartbeats 4000000 in
set_option maxRecDepth 100000 in
theorem w_L_law_1008 (V : jV p s mm args meth c cL_law RL 24 (some .boolean) D g) (hA : ∀ q, s.heap.size ≤ q → A q) (LX : jLX l A s) (SX : jSX A s b L xs) (hQ : ∀ {H : Heap} {locs : List Loc} {ls : Array Slot} {cells slots : Nat}, va_S A s.heap H locs → cells ≤ 600130 → slots ≤ 7301080 → W p l e room_1 s mm args below meth c H locs cells slots Q (F0 mm 1222 ls [.int 1])) {c22 : Int32 → kS → kS → Option (Unit × Nat × Nat)} (hk22 : ∀ {ad : Nat → Nat} {v3 : Int32} {k : kS} {z : kS} {H : Heap} {locs : List Loc} {ls : Array Slot} {cells slots uc us : Nat} {o : Unit}, True → jH A s H locs D g ad z (jY adk g k mo) [] → jl_has ls 24 [(0, .ref b), (1, .ref (adk 0)), (2, .ref (ad 0)), (3, .int v3)] → c22 v3 k z = some (o, uc, us) → cells + uc ≤ 600130 → slots + us ≤ 7301080 → W p l e room_1 s mm args below meth c H locs cells slots Q (F0 mm 22 ls [])) {c942 : Int32 → Int32 → Int32 → Int32 → Int32 → Int32 → Int32 → Int32 → Int32 → (Nat → Int32) → kS → kS → Option (Unit × Nat × Nat)} (hk942 : ∀ {ad : Nat → Nat} {v3 : Int32} {v5 : Int32} {v12 : Int32} {v13 : Int32} {v14 : Int32} {v15 : Int32} {v16 : Int32} {v18 : Int32} {xq935 : Nat} {xl935 : Int32} {xf935 : Nat → Int32} {k : kS} {z : kS} {H : Heap} {locs : List Loc} {ls : Array Slot} {cells slots uc us : Nat} {o : Unit}, True → jH A s H locs D g ad z (jY adk g k mo) [jTi g xq935 xl935 xf935] → jl_has ls 24 [(0, .ref b), (1, .ref (adk 0)), (2, .ref (ad 0)), (3, .int v3), (5, .int v5), (12, .int v12), (13, .int v13), (14, .int v14), (15, .int v15), (16, .int v16), (17, .ref xq935), (18, .int v18)] → c942 v3 v5 v12 v13 v14 v15 v16 v18 xl935 xf935 k z = some (o, uc, us) → cells + uc ≤ 600130 → slots + us ≤ 7301080 → W p l e room_1 s mm args below meth c H locs cells slots Q (F0 mm 942 ls [])) {ad : Nat → Nat} {s0 : Int32} {v3 : Int32} {v5 : Int32} {v12 : Int32} {v13 : Int32} {v14 : Int32} {v15 : Int32} {v18 : Int32} {v19 : Int32} {v20 : Int32} {v21 : Int32} {xq935 : Nat} {xl935 : Int32} {xf935 : Nat → Int32} {k : kS} {z : kS} {H : Heap} {locs : List Loc} {ls : Array Slot} {cells slots uc us : Nat} {o : Unit} (hG : True) (hH : jH A s H locs D g ad z (jY adk g k mo) [jTi g xq935 xl935 xf935]) (hl : jl_has ls 24 [(0, .ref b), (1, .ref (adk 0)), (2, .ref (ad 0)), (3, .int v3), (5, .int v5), (12, .int v12), (13, .int v13), (14, .int v14), (15, .int v15), (17, .ref xq935), (18, .int v18), (19, .int v19), (20, .int v20), (21, .int v21)]) (hf : F_L_law_1008 xs L c22 c942 s0 v3 v5 v12 v13 v14 v15 v18 v19 v20 v21 xl935 xf935 k z = some (o, uc, us)) (hc : cells + uc ≤ 600130) (hs : slots + us ≤ 7301080) : W p l e room_1 s mm args below meth c H locs cells slots Q (F0 mm 1008 ls [.int s0]) := by
  have hx := V.1
  have hb := V.2.1
  refine lv_iconst (v := 0) hx hb dL_law_1008 (by decide) ?_
  exact w_L_law_1009 V hA LX SX hQ hk22 hk942 trivial hH (jl_sub hl [0, 1, 2, 3, 4, 5, 6, 7, 8, 9, 10, 11, 12, 13] rfl) hf hc hs
set_option maxHeartbeats 4000000 in
set_option maxRecDepth 100000 in
theorem w_L_law_994 (V : jV p s mm args meth c cL_law RL 24 (some .boolean) D g) (hA : ∀ q, s.heap.size ≤ q → A q) (LX : jLX l A s) (SX : jSX A s b L xs) (hQ : ∀ {H : Heap} {locs : List Loc} {ls : Array Slot} {cells slots : Nat}, va_S A s.heap H locs → cells ≤ 600130 → slots ≤ 7301080 → W p l e room_1 s mm args below meth c H locs cells slots Q (F0 mm 1222 ls [.int 1])) {c22 : Int32 → kS → kS → Option (Unit × Nat × Nat)} (hk22 : ∀ {ad : Nat → Nat} {v3 : Int32} {k : kS} {z : kS} {H : Heap} {locs : List Loc} {ls : Array Slot} {cells slots uc us : Nat} {o : Unit}, True → jH A s H locs D g ad z (jY adk g k mo) [] → jl_has ls 24 [(0, .ref b), (1, .ref (adk 0)), (2, .ref (ad 0)), (3, .int v3)] → c22 v3 k z = some (o, uc, us) → cells + uc ≤ 600130 → slots + us ≤ 7301080 → W p l e room_1 s mm args below meth c H locs cells slots Q (F0 mm 22 ls [])) {c942 : Int32 → Int32 → Int32 → Int32 → Int32 → Int32 → Int32 → Int32 → Int32 → (Nat → Int32) → kS → kS → Option (Unit × Nat × Nat)} (hk942 : ∀ {ad : Nat → Nat} {v3 : Int32} {v5 : Int32} {v12 : Int32} {v13 : Int32} {v14 : Int32} {v15 : Int32} {v16 : Int32} {v18 : Int32} {xq935 : Nat} {xl935 : Int32} {xf935 : Nat → Int32} {k : kS} {z : kS} {H : Heap} {locs : List Loc} {ls : Array Slot} {cells slots uc us : Nat} {o : Unit}, True → jH A s H locs D g ad z (jY adk g k mo) [jTi g xq935 xl935 xf935] → jl_has ls 24 [(0, .ref b), (1, .ref (adk 0)), (2, .ref (ad 0)), (3, .int v3), (5, .int v5), (12, .int v12), (13, .int v13), (14, .int v14), (15, .int v15), (16, .int v16), (17, .ref xq935), (18, .int v18)] → c942 v3 v5 v12 v13 v14 v15 v16 v18 xl935 xf935 k z = some (o, uc, us) → cells + uc ≤ 600130 → slots + us ≤ 7301080 → W p l e room_1 s mm args below meth c H locs cells slots Q (F0 mm 942 ls [])) {ad : Nat → Nat} {s0 : Int32} {s1 : Int32} {v3 : Int32} {v5 : Int32} {v12 : Int32} {v13 : Int32} {v14 : Int32} {v16 : Int32} {v18 : Int32} {v19 : Int32} {v20 : Int32} {v21 : Int32} {xq935 : Nat} {xl935 : Int32} {xf935 : Nat → Int32} {k : kS} {z : kS} {H : Heap} {locs : List Loc} {ls : Array Slot} {cells slots uc us : Nat} {o : Unit} (hG : True) (hH : jH A s H locs D g ad z (jY adk g k mo) [jTi g xq935 xl935 xf935]) (hl : jl_has ls 24 [(0, .ref b), (1, .ref (adk 0)), (2, .ref (ad 0)), (3, .int v3), (5, .int v5), (12, .int v12), (13, .int v13), (14, .int v14), (16, .int v16), (17, .ref xq935), (18, .int v18), (19, .int v19), (20, .int v20), (21, .int v21)]) (hf : F_L_law_994 xs L c22 c942 s0 s1 v3 v5 v12 v13 v14 v16 v18 v19 v20 v21 xl935 xf935 k z = some (o, uc, us)) (hc : cells + uc ≤ 600130) (hs : slots + us ≤ 7301080) : W p l e room_1 s mm args below meth c H locs cells slots Q (F0 mm 994 ls [.int s1, .int s0]) := by
  have hx := V.1
  have hb := V.2.1
  refine lv_iadd hx hb dL_law_994 ?_
  refine jl_istore (lv' := [(15, .int (s0 + s1)), (0, .ref b), (1, .ref (adk 0)), (2, .ref (ad 0)), (3, .int v3), (5, .int v5), (12, .int v12), (13, .int v13), (14, .int v14), (16, .int v16), (17, .ref xq935), (18, .int v18), (19, .int v19), (20, .int v20), (21, .int v21)]) hx hb dL_law_995 hl (by decide) rfl (fun ls hl => ?_)
  refine lv_iload hx hb dL_law_997 (lv_at hl.1 9 rfl) ?_
  refine lv_iload hx hb dL_law_999 (lv_at hl.1 12 rfl) ?_
  refine lv_if_ge (tgt := 1008) hx hb dL_law_1001 (by decide) (fun hq => ?_) (fun hq => ?_)
  · have hf := kpos hq hf
    exact w_L_law_1008 V hA LX SX hQ hk22 hk942 trivial hH (jl_sub hl [1, 2, 3, 4, 5, 6, 7, 8, 0, 10, 11, 12, 13, 14] rfl) hf hc hs
  · have hf := kneg hq hf
    exact w_L_law_1004 V hA LX SX hQ hk22 hk942 trivial hH (jl_sub hl [1, 2, 3, 4, 5, 6, 7, 8, 0, 10, 11, 12, 13, 14] rfl) hf hc hs
set_option maxHeartbeats 4000000 in
set_option maxRecDepth 100000 in
theorem w_L_law_983 (V : jV p s mm args meth c cL_law RL 24 (some .boolean) D g) (hA : ∀ q, s.heap.size ≤ q → A q) (LX : jLX l A s) (SX : jSX A s b L xs) (hQ : ∀ {H : Heap} {locs : List Loc} {ls : Array Slot} {cells slots : Nat}, va_S A s.heap H locs → cells ≤ 600130 → slots ≤ 7301080 → W p l e room_1 s mm args below meth c H locs cells slots Q (F0 mm 1222 ls [.int 1])) {c22 : Int32 → kS → kS → Option (Unit × Nat × Nat)} (hk22 : ∀ {ad : Nat → Nat} {v3 : Int32} {k : kS} {z : kS} {H : Heap} {locs : List Loc} {ls : Array Slot} {cells slots uc us : Nat} {o : Unit}, True → jH A s H locs D g ad z (jY adk g k mo) [] → jl_has ls 24 [(0, .ref b), (1, .ref (adk 0)), (2, .ref (ad 0)), (3, .int v3)] → c22 v3 k z = some (o, uc, us) → cells + uc ≤ 600130 → slots + us ≤ 7301080 → W p l e room_1 s mm args below meth c H locs cells slots Q (F0 mm 22 ls [])) {c942 : Int32 → Int32 → Int32 → Int32 → Int32 → Int32 → Int32 → Int32 → Int32 → (Nat → Int32) → kS → kS → Option (Unit × Nat × Nat)} (hk942 : ∀ {ad : Nat → Nat} {v3 : Int32} {v5 : Int32} {v12 : Int32} {v13 : Int32} {v14 : Int32} {v15 : Int32} {v16 : Int32} {v18 : Int32} {xq935 : Nat} {xl935 : Int32} {xf935 : Nat → Int32} {k : kS} {z : kS} {H : Heap} {locs : List Loc} {ls : Array Slot} {cells slots uc us : Nat} {o : Unit}, True → jH A s H locs D g ad z (jY adk g k mo) [jTi g xq935 xl935 xf935] → jl_has ls 24 [(0, .ref b), (1, .ref (adk 0)), (2, .ref (ad 0)), (3, .int v3), (5, .int v5), (12, .int v12), (13, .int v13), (14, .int v14), (15, .int v15), (16, .int v16), (17, .ref xq935), (18, .int v18)] → c942 v3 v5 v12 v13 v14 v15 v16 v18 xl935 xf935 k z = some (o, uc, us) → cells + uc ≤ 600130 → slots + us ≤ 7301080 → W p l e room_1 s mm args below meth c H locs cells slots Q (F0 mm 942 ls [])) {ad : Nat → Nat} {s0 : Int32} {v3 : Int32} {v5 : Int32} {v12 : Int32} {v13 : Int32} {v14 : Int32} {v16 : Int32} {v18 : Int32} {v19 : Int32} {v20 : Int32} {v21 : Int32} {xq935 : Nat} {xl935 : Int32} {xf935 : Nat → Int32} {k : kS} {z : kS} {H : Heap} {locs : List Loc} {ls : Array Slot} {cells slots uc us : Nat} {o : Unit} (hG : True) (hH : jH A s H locs D g ad z (jY adk g k mo) [jTi g xq935 xl935 xf935]) (hl : jl_has ls 24 [(0, .ref b), (1, .ref (adk 0)), (2, .ref (ad 0)), (3, .int v3), (5, .int v5), (12, .int v12), (13, .int v13), (14, .int v14), (16, .int v16), (17, .ref xq935), (18, .int v18), (19, .int v19), (20, .int v20), (21, .int v21)]) (hf : F_L_law_983 xs L c22 c942 s0 v3 v5 v12 v13 v14 v16 v18 v19 v20 v21 xl935 xf935 k z = some (o, uc, us)) (hc : cells + uc ≤ 600130) (hs : slots + us ≤ 7301080) : W p l e room_1 s mm args below meth c H locs cells slots Q (F0 mm 983 ls [.int s0]) := by
  have hx := V.1
  have hb := V.2.1
  refine lv_iconst (v := 0) hx hb dL_law_983 (by decide) ?_
  refine lv_goto (tgt := 994) hx hb dL_law_984 (by decide) ?_
  exact w_L_law_994 V hA LX SX hQ hk22 hk942 trivial hH (jl_sub hl [0, 1, 2, 3, 4, 5, 6, 7, 8, 9, 10, 11, 12, 13] rfl) hf hc hs
set_option maxHeartbeats 4000000 in
set_option maxRecDepth 100000 in
theorem w_L_law_987 (V : jV p s mm args meth c cL_law RL 24 (some .boolean) D g) (hA : ∀ q, s.heap.size ≤ q → A q) (LX : jLX l A s) (SX : jSX A s b L xs) (hQ : ∀ {H : Heap} {locs : List Loc} {ls : Array Slot} {cells slots : Nat}, va_S A s.heap H locs → cells ≤ 600130 → slots ≤ 7301080 → W p l e room_1 s mm args below meth c H locs cells slots Q (F0 mm 1222 ls [.int 1])) {c22 : Int32 → kS → kS → Option (Unit × Nat × Nat)} (hk22 : ∀ {ad : Nat → Nat} {v3 : Int32} {k : kS} {z : kS} {H : Heap} {locs : List Loc} {ls : Array Slot} {cells slots uc us : Nat} {o : Unit}, True → jH A s H locs D g ad z (jY adk g k mo) [] → jl_has ls 24 [(0, .ref b), (1, .ref (adk 0)), (2, .ref (ad 0)), (3, .int v3)] → c22 v3 k z = some (o, uc, us) → cells + uc ≤ 600130 → slots + us ≤ 7301080 → W p l e room_1 s mm args below meth c H locs cells slots Q (F0 mm 22 ls [])) {c942 : Int32 → Int32 → Int32 → Int32 → Int32 → Int32 → Int32 → Int32 → Int32 → (Nat → Int32) → kS → kS → Option (Unit × Nat × Nat)} (hk942 : ∀ {ad : Nat → Nat} {v3 : Int32} {v5 : Int32} {v12 : Int32} {v13 : Int32} {v14 : Int32} {v15 : Int32} {v16 : Int32} {v18 : Int32} {xq935 : Nat} {xl935 : Int32} {xf935 : Nat → Int32} {k : kS} {z : kS} {H : Heap} {locs : List Loc} {ls : Array Slot} {cells slots uc us : Nat} {o : Unit}, True → jH A s H locs D g ad z (jY adk g k mo) [jTi g xq935 xl935 xf935] → jl_has ls 24 [(0, .ref b), (1, .ref (adk 0)), (2, .ref (ad 0)), (3, .int v3), (5, .int v5), (12, .int v12), (13, .int v13), (14, .int v14), (15, .int v15), (16, .int v16), (17, .ref xq935), (18, .int v18)] → c942 v3 v5 v12 v13 v14 v15 v16 v18 xl935 xf935 k z = some (o, uc, us) → cells + uc ≤ 600130 → slots + us ≤ 7301080 → W p l e room_1 s mm args below meth c H locs cells slots Q (F0 mm 942 ls [])) {ad : Nat → Nat} {s0 : Int32} {v3 : Int32} {v5 : Int32} {v12 : Int32} {v13 : Int32} {v14 : Int32} {v16 : Int32} {v18 : Int32} {v19 : Int32} {v20 : Int32} {v21 : Int32} {xq935 : Nat} {xl935 : Int32} {xf935 : Nat → Int32} {k : kS} {z : kS} {H : Heap} {locs : List Loc} {ls : Array Slot} {cells slots uc us : Nat} {o : Unit} (hG : True) (hH : jH A s H locs D g ad z (jY adk g k mo) [jTi g xq935 xl935 xf935]) (hl : jl_has ls 24 [(0, .ref b), (1, .ref (adk 0)), (2, .ref (ad 0)), (3, .int v3), (5, .int v5), (12, .int v12), (13, .int v13), (14, .int v14), (16, .int v16), (17, .ref xq935), (18, .int v18), (19, .int v19), (20, .int v20), (21, .int v21)]) (hf : F_L_law_987 xs L c22 c942 s0 v3 v5 v12 v13 v14 v16 v18 v19 v20 v21 xl935 xf935 k z = some (o, uc, us)) (hc : cells + uc ≤ 600130) (hs : slots + us ≤ 7301080) : W p l e room_1 s mm args below meth c H locs cells slots Q (F0 mm 987 ls [.int s0]) := by
  have hx := V.1
  have hb := V.2.1
  refine lv_aload_n hx hb dL_law_987 rfl (lv_at hl.1 1 rfl) ?_
  refine lv_iload hx hb dL_law_988 (lv_at hl.1 10 rfl) ?_
  refine lv_iconst (v := 0) hx hb dL_law_990 (by decide) ?_
  obtain ⟨x987_1, hx987_1, hf⟩ := kbind hf
  obtain ⟨h987_2, hf⟩ := kif hf
  obtain ⟨uc987_3, us987_4, hf, e1, e2⟩ := kadd_some2 hf
  have e1 : uc = 4 + uc987_3 := e1
  have e2 : us = 24 + us987_4 := e2
  have hc : cells + 4 + uc987_3 ≤ 600130 := by rw [Nat.add_assoc, ← e1]; exact hc
  have hs : slots + 24 + us987_4 ≤ 7301080 := by rw [Nat.add_assoc, ← e2]; exact hs
  have lc : cells + 4 ≤ 600130 := Nat.le_trans (Nat.le_add_right _ _) hc
  have ls2 : slots + 24 ≤ 7301080 := Nat.le_trans (Nat.le_add_right _ _) hs
  refine jc_callx V hA LX hH kYX5_land kl_L_126 (c_X5_land l LX.1 _ _ hx987_1 _) (Decidable.not_not.mp h987_2) rfl rfl ⟨Nat.le_of_ble_eq_true rfl, Nat.le_of_ble_eq_true rfl⟩ rfl hl.1.1 (as := [.int v18, .int 0]) (rest := [.int s0]) (Nat.le_of_ble_eq_true rfl) dL_law_991 ⟨lc, ls2⟩ rfl (fun H locs hH => ?_)
  exact w_L_law_994 V hA LX SX hQ hk22 hk942 trivial hH (jl_sub hl [0, 1, 2, 3, 4, 5, 6, 7, 8, 9, 10, 11, 12, 13] rfl) hf hc hs
set_option maxHeartbeats 4000000 in
set_option maxRecDepth 100000 in
theorem w_L_law_949 (V : jV p s mm args meth c cL_law RL 24 (some .boolean) D g) (hA : ∀ q, s.heap.size ≤ q → A q) (LX : jLX l A s) (SX : jSX A s b L xs) (hQ : ∀ {H : Heap} {locs : List Loc} {ls : Array Slot} {cells slots : Nat}, va_S A s.heap H locs → cells ≤ 600130 → slots ≤ 7301080 → W p l e room_1 s mm args below meth c H locs cells slots Q (F0 mm 1222 ls [.int 1])) {c22 : Int32 → kS → kS → Option (Unit × Nat × Nat)} (hk22 : ∀ {ad : Nat → Nat} {v3 : Int32} {k : kS} {z : kS} {H : Heap} {locs : List Loc} {ls : Array Slot} {cells slots uc us : Nat} {o : Unit}, True → jH A s H locs D g ad z (jY adk g k mo) [] → jl_has ls 24 [(0, .ref b), (1, .ref (adk 0)), (2, .ref (ad 0)), (3, .int v3)] → c22 v3 k z = some (o, uc, us) → cells + uc ≤ 600130 → slots + us ≤ 7301080 → W p l e room_1 s mm args below meth c H locs cells slots Q (F0 mm 22 ls [])) {c942 : Int32 → Int32 → Int32 → Int32 → Int32 → Int32 → Int32 → Int32 → Int32 → (Nat → Int32) → kS → kS → Option (Unit × Nat × Nat)} (hk942 : ∀ {ad : Nat → Nat} {v3 : Int32} {v5 : Int32} {v12 : Int32} {v13 : Int32} {v14 : Int32} {v15 : Int32} {v16 : Int32} {v18 : Int32} {xq935 : Nat} {xl935 : Int32} {xf935 : Nat → Int32} {k : kS} {z : kS} {H : Heap} {locs : List Loc} {ls : Array Slot} {cells slots uc us : Nat} {o : Unit}, True → jH A s H locs D g ad z (jY adk g k mo) [jTi g xq935 xl935 xf935] → jl_has ls 24 [(0, .ref b), (1, .ref (adk 0)), (2, .ref (ad 0)), (3, .int v3), (5, .int v5), (12, .int v12), (13, .int v13), (14, .int v14), (15, .int v15), (16, .int v16), (17, .ref xq935), (18, .int v18)] → c942 v3 v5 v12 v13 v14 v15 v16 v18 xl935 xf935 k z = some (o, uc, us) → cells + uc ≤ 600130 → slots + us ≤ 7301080 → W p l e room_1 s mm args below meth c H locs cells slots Q (F0 mm 942 ls [])) {ad : Nat → Nat} {v3 : Int32} {v5 : Int32} {v12 : Int32} {v13 : Int32} {v14 : Int32} {v15 : Int32} {v16 : Int32} {v18 : Int32} {xq935 : Nat} {xl935 : Int32} {xf935 : Nat → Int32} {k : kS} {z : kS} {H : Heap} {locs : List Loc} {ls : Array Slot} {cells slots uc us : Nat} {o : Unit} (hG : True) (hH : jH A s H locs D g ad z (jY adk g k mo) [jTi g xq935 xl935 xf935]) (hl : jl_has ls 24 [(0, .ref b), (1, .ref (adk 0)), (2, .ref (ad 0)), (3, .int v3), (5, .int v5), (12, .int v12), (13, .int v13), (14, .int v14), (15, .int v15), (16, .int v16), (17, .ref xq935), (18, .int v18)]) (hf : F_L_law_949 xs L c22 c942 v3 v5 v12 v13 v14 v15 v16 v18 xl935 xf935 k z = some (o, uc, us)) (hc : cells + uc ≤ 600130) (hs : slots + us ≤ 7301080) : W p l e room_1 s mm args below meth c H locs cells slots Q (F0 mm 949 ls []) := by
  have hx := V.1
  have hb := V.2.1
  refine lv_aload_n hx hb dL_law_949 rfl (lv_at hl.1 1 rfl) ?_
  refine lv_iload hx hb dL_law_950 (lv_at hl.1 11 rfl) ?_
  refine lv_iconst (v := 2) hx hb dL_law_952 (by decide) ?_
  obtain ⟨x949_1, hx949_1, hf⟩ := kbind hf
  obtain ⟨h949_2, hf⟩ := kif hf
  obtain ⟨uc949_3, us949_4, hf, e1, e2⟩ := kadd_some2 hf
  have e1 : uc = 4 + uc949_3 := e1
  have e2 : us = 24 + us949_4 := e2
  have hc : cells + 4 + uc949_3 ≤ 600130 := by rw [Nat.add_assoc, ← e1]; exact hc
  have hs : slots + 24 + us949_4 ≤ 7301080 := by rw [Nat.add_assoc, ← e2]; exact hs
  have lc : cells + 4 ≤ 600130 := Nat.le_trans (Nat.le_add_right _ _) hc
  have ls2 : slots + 24 ≤ 7301080 := Nat.le_trans (Nat.le_add_right _ _) hs
  refine jc_callx V hA LX hH kYX5_land kl_L_126 (c_X5_land l LX.1 _ _ hx949_1 _) (Decidable.not_not.mp h949_2) rfl rfl ⟨Nat.le_of_ble_eq_true rfl, Nat.le_of_ble_eq_true rfl⟩ rfl hl.1.1 (as := [.int v18, .int 2]) (rest := []) (Nat.le_of_ble_eq_true rfl) dL_law_953 ⟨lc, ls2⟩ rfl (fun H locs hH => ?_)
  refine jl_istore (lv' := [(19, .int x949_1.1.2), (0, .ref b), (1, .ref (adk 0)), (2, .ref (ad 0)), (3, .int v3), (5, .int v5), (12, .int v12), (13, .int v13), (14, .int v14), (15, .int v15), (16, .int v16), (17, .ref xq935), (18, .int v18)]) hx hb dL_law_956 hl (by decide) rfl (fun ls hl => ?_)
  refine lv_aload_n hx hb dL_law_958 rfl (lv_at hl.1 2 rfl) ?_
  refine lv_iload hx hb dL_law_959 (lv_at hl.1 12 rfl) ?_
  refine lv_iconst (v := 4) hx hb dL_law_961 (by decide) ?_
  obtain ⟨x949_5, hx949_5, hf⟩ := kbind hf
  obtain ⟨h949_6, hf⟩ := kif hf
  obtain ⟨uc949_7, us949_8, hf, e1, e2⟩ := kadd_some2 hf
  have e1 : uc949_3 = 4 + uc949_7 := e1
  have e2 : us949_4 = 24 + us949_8 := e2
  have hc : cells + 4 + 4 + uc949_7 ≤ 600130 := by rw [Nat.add_assoc, ← e1]; exact hc
  have hs : slots + 24 + 24 + us949_8 ≤ 7301080 := by rw [Nat.add_assoc, ← e2]; exact hs
  have lc : cells + 4 + 4 ≤ 600130 := Nat.le_trans (Nat.le_add_right _ _) hc
  have ls2 : slots + 24 + 24 ≤ 7301080 := Nat.le_trans (Nat.le_add_right _ _) hs
  refine jc_callx V hA LX hH kYX5_land kl_L_126 (c_X5_land l LX.1 _ _ hx949_5 _) (Decidable.not_not.mp h949_6) rfl rfl ⟨Nat.le_of_ble_eq_true rfl, Nat.le_of_ble_eq_true rfl⟩ rfl hl.1.1 (as := [.int v18, .int 4]) (rest := []) (Nat.le_of_ble_eq_true rfl) dL_law_962 ⟨lc, ls2⟩ rfl (fun H locs hH => ?_)
  refine jl_istore (lv' := [(20, .int x949_5.1.2), (19, .int x949_1.1.2), (0, .ref b), (1, .ref (adk 0)), (2, .ref (ad 0)), (3, .int v3), (5, .int v5), (12, .int v12), (13, .int v13), (14, .int v14), (15, .int v15), (16, .int v16), (17, .ref xq935), (18, .int v18)]) hx hb dL_law_965 hl (by decide) rfl (fun ls hl => ?_)
  refine lv_aload_n hx hb dL_law_967 rfl (lv_at hl.1 3 rfl) ?_
  refine lv_iload hx hb dL_law_968 (lv_at hl.1 13 rfl) ?_
  refine lv_iconst (v := 3) hx hb dL_law_970 (by decide) ?_
  obtain ⟨x949_9, hx949_9, hf⟩ := kbind hf
  obtain ⟨h949_10, hf⟩ := kif hf
  obtain ⟨uc949_11, us949_12, hf, e1, e2⟩ := kadd_some2 hf
  have e1 : uc949_7 = 4 + uc949_11 := e1
  have e2 : us949_8 = 24 + us949_12 := e2
  have hc : cells + 4 + 4 + 4 + uc949_11 ≤ 600130 := by rw [Nat.add_assoc, ← e1]; exact hc
  have hs : slots + 24 + 24 + 24 + us949_12 ≤ 7301080 := by rw [Nat.add_assoc, ← e2]; exact hs
  have lc : cells + 4 + 4 + 4 ≤ 600130 := Nat.le_trans (Nat.le_add_right _ _) hc
  have ls2 : slots + 24 + 24 + 24 ≤ 7301080 := Nat.le_trans (Nat.le_add_right _ _) hs
  refine jc_callx V hA LX hH kYX5_land kl_L_126 (c_X5_land l LX.1 _ _ hx949_9 _) (Decidable.not_not.mp h949_10) rfl rfl ⟨Nat.le_of_ble_eq_true rfl, Nat.le_of_ble_eq_true rfl⟩ rfl hl.1.1 (as := [.int v18, .int 3]) (rest := []) (Nat.le_of_ble_eq_true rfl) dL_law_971 ⟨lc, ls2⟩ rfl (fun H locs hH => ?_)
  refine jl_istore (lv' := [(21, .int x949_9.1.2), (20, .int x949_5.1.2), (19, .int x949_1.1.2), (0, .ref b), (1, .ref (adk 0)), (2, .ref (ad 0)), (3, .int v3), (5, .int v5), (12, .int v12), (13, .int v13), (14, .int v14), (15, .int v15), (16, .int v16), (17, .ref xq935), (18, .int v18)]) hx hb dL_law_974 hl (by decide) rfl (fun ls hl => ?_)
  refine lv_iload hx hb dL_law_976 (lv_at hl.1 11 rfl) ?_
  refine lv_iload hx hb dL_law_978 (lv_at hl.1 2 rfl) ?_
  refine lv_if_ge (tgt := 987) hx hb dL_law_980 (by decide) (fun hq => ?_) (fun hq => ?_)
  · have hf := kpos hq hf
    exact w_L_law_987 V hA LX SX hQ hk22 hk942 trivial hH (jl_sub hl [3, 4, 5, 6, 7, 8, 9, 10, 12, 13, 14, 2, 1, 0] rfl) hf hc hs
  · have hf := kneg hq hf
    exact w_L_law_983 V hA LX SX hQ hk22 hk942 trivial hH (jl_sub hl [3, 4, 5, 6, 7, 8, 9, 10, 12, 13, 14, 2, 1, 0] rfl) hf hc hs
set_option maxHeartbeats 4000000 in
set_option maxRecDepth 100000 in
theorem w_L_law_1160 (V : jV p s mm args meth c cL_law RL 24 (some .boolean) D g) (hA : ∀ q, s.heap.size ≤ q → A q) (LX : jLX l A s) (SX : jSX A s b L xs) (hQ : ∀ {H : Heap} {locs : List Loc} {ls : Array Slot} {cells slots : Nat}, va_S A s.heap H locs → cells ≤ 600130 → slots ≤ 7301080 → W p l e room_1 s mm args below meth c H locs cells slots Q (F0 mm 1222 ls [.int 1])) {ad : Nat → Nat} {k : kS} {z : kS} {H : Heap} {locs : List Loc} {ls : Array Slot} {cells slots uc us : Nat} {o : Unit} (hG : True) (hH : jH A s H locs D g ad z (jY adk g k mo) []) (hl : jl_has ls 24 []) (hf : F_L_law_1160 xs L k z = some (o, uc, us)) (hc : cells + uc ≤ 600130) (hs : slots + us ≤ 7301080) : W p l e room_1 s mm args below meth c H locs cells slots Q (F0 mm 1160 ls []) := by
  have hx := V.1
  have hb := V.2.1
  refine lv_iconst (v := 0) hx hb dL_law_1160 (by decide) ?_
  cases hf
set_option maxHeartbeats 4000000 in
set_option maxRecDepth 100000 in
theorem w_L_law_1203 (V : jV p s mm args meth c cL_law RL 24 (some .boolean) D g) (hA : ∀ q, s.heap.size ≤ q → A q) (LX : jLX l A s) (SX : jSX A s b L xs) (hQ : ∀ {H : Heap} {locs : List Loc} {ls : Array Slot} {cells slots : Nat}, va_S A s.heap H locs → cells ≤ 600130 → slots ≤ 7301080 → W p l e room_1 s mm args below meth c H locs cells slots Q (F0 mm 1222 ls [.int 1])) {ad : Nat → Nat} {k : kS} {z : kS} {H : Heap} {locs : List Loc} {ls : Array Slot} {cells slots uc us : Nat} {o : Unit} (hG : True) (hH : jH A s H locs D g ad z (jY adk g k mo) []) (hl : jl_has ls 24 []) (hf : F_L_law_1203 xs L k z = some (o, uc, us)) (hc : cells + uc ≤ 600130) (hs : slots + us ≤ 7301080) : W p l e room_1 s mm args below meth c H locs cells slots Q (F0 mm 1203 ls []) := by
  have hx := V.1
  have hb := V.2.1
  refine lv_iconst (v := 0) hx hb dL_law_1203 (by decide) ?_
  cases hf
set_option maxHeartbeats 4000000 in
set_option maxRecDepth 100000 in
theorem w_L_law_1205 (V : jV p s mm args meth c cL_law RL 24 (some .boolean) D g) (hA : ∀ q, s.heap.size ≤ q → A q) (LX : jLX l A s) (SX : jSX A s b L xs) (hQ : ∀ {H : Heap} {locs : List Loc} {ls : Array Slot} {cells slots : Nat}, va_S A s.heap H locs → cells ≤ 600130 → slots ≤ 7301080 → W p l e room_1 s mm args below meth c H locs cells slots Q (F0 mm 1222 ls [.int 1])) {c22 : Int32 → kS → kS → Option (Unit × Nat × Nat)} (hk22 : ∀ {ad : Nat → Nat} {v3 : Int32} {k : kS} {z : kS} {H : Heap} {locs : List Loc} {ls : Array Slot} {cells slots uc us : Nat} {o : Unit}, True → jH A s H locs D g ad z (jY adk g k mo) [] → jl_has ls 24 [(0, .ref b), (1, .ref (adk 0)), (2, .ref (ad 0)), (3, .int v3)] → c22 v3 k z = some (o, uc, us) → cells + uc ≤ 600130 → slots + us ≤ 7301080 → W p l e room_1 s mm args below meth c H locs cells slots Q (F0 mm 22 ls [])) {c1181 : Int32 → Int32 → Int32 → Int32 → (Nat → Int32) → kS → kS → Option (Unit × Nat × Nat)} (hk1181 : ∀ {ad : Nat → Nat} {v3 : Int32} {v5 : Int32} {v18 : Int32} {xq935 : Nat} {xl935 : Int32} {xf935 : Nat → Int32} {k : kS} {z : kS} {H : Heap} {locs : List Loc} {ls : Array Slot} {cells slots uc us : Nat} {o : Unit}, True → jH A s H locs D g ad z (jY adk g k mo) [jTi g xq935 xl935 xf935] → jl_has ls 24 [(0, .ref b), (1, .ref (adk 0)), (2, .ref (ad 0)), (3, .int v3), (5, .int v5), (17, .ref xq935), (18, .int v18)] → c1181 v3 v5 v18 xl935 xf935 k z = some (o, uc, us) → cells + uc ≤ 600130 → slots + us ≤ 7301080 → W p l e room_1 s mm args below meth c H locs cells slots Q (F0 mm 1181 ls [])) {ad : Nat → Nat} {v3 : Int32} {v5 : Int32} {v18 : Int32} {xq935 : Nat} {xl935 : Int32} {xf935 : Nat → Int32} {k : kS} {z : kS} {H : Heap} {locs : List Loc} {ls : Array Slot} {cells slots uc us : Nat} {o : Unit} (hG : True) (hH : jH A s H locs D g ad z (jY adk g k mo) [jTi g xq935 xl935 xf935]) (hl : jl_has ls 24 [(0, .ref b), (1, .ref (adk 0)), (2, .ref (ad 0)), (3, .int v3), (5, .int v5), (17, .ref xq935), (18, .int v18)]) (hf : F_L_law_1205 xs L c22 c1181 v3 v5 v18 xl935 xf935 k z = some (o, uc, us)) (hc : cells + uc ≤ 600130) (hs : slots + us ≤ 7301080) : W p l e room_1 s mm args below meth c H locs cells slots Q (F0 mm 1205 ls []) := by
  have hx := V.1
  have hb := V.2.1
  refine jl_iinc (v := (v18 + 1)) (lv' := [(18, .int (v18 + 1)), (0, .ref b), (1, .ref (adk 0)), (2, .ref (ad 0)), (3, .int v3), (5, .int v5), (17, .ref xq935)]) hx hb dL_law_1205 hl (k := 6) rfl rfl (by decide) rfl (fun ls hl => ?_)
  refine lv_goto (tgt := 1181) hx hb dL_law_1208 (by decide) ?_
  exact hk1181 trivial hH (jl_sub hl [1, 2, 3, 4, 5, 6, 0] rfl) hf hc hs
set_option maxHeartbeats 4000000 in
set_option maxRecDepth 100000 in
theorem w_L_law_1188 (V : jV p s mm args meth c cL_law RL 24 (some .boolean) D g) (hA : ∀ q, s.heap.size ≤ q → A q) (LX : jLX l A s) (SX : jSX A s b L xs) (hQ : ∀ {H : Heap} {locs : List Loc} {ls : Array Slot} {cells slots : Nat}, va_S A s.heap H locs → cells ≤ 600130 → slots ≤ 7301080 → W p l e room_1 s mm args below meth c H locs cells slots Q (F0 mm 1222 ls [.int 1])) {c22 : Int32 → kS → kS → Option (Unit × Nat × Nat)} (hk22 : ∀ {ad : Nat → Nat} {v3 : Int32} {k : kS} {z : kS} {H : Heap} {locs : List Loc} {ls : Array Slot} {cells slots uc us : Nat} {o : Unit}, True → jH A s H locs D g ad z (jY adk g k mo) [] → jl_has ls 24 [(0, .ref b), (1, .ref (adk 0)), (2, .ref (ad 0)), (3, .int v3)] → c22 v3 k z = some (o, uc, us) → cells + uc ≤ 600130 → slots + us ≤ 7301080 → W p l e room_1 s mm args below meth c H locs cells slots Q (F0 mm 22 ls [])) {c1181 : Int32 → Int32 → Int32 → Int32 → (Nat → Int32) → kS → kS → Option (Unit × Nat × Nat)} (hk1181 : ∀ {ad : Nat → Nat} {v3 : Int32} {v5 : Int32} {v18 : Int32} {xq935 : Nat} {xl935 : Int32} {xf935 : Nat → Int32} {k : kS} {z : kS} {H : Heap} {locs : List Loc} {ls : Array Slot} {cells slots uc us : Nat} {o : Unit}, True → jH A s H locs D g ad z (jY adk g k mo) [jTi g xq935 xl935 xf935] → jl_has ls 24 [(0, .ref b), (1, .ref (adk 0)), (2, .ref (ad 0)), (3, .int v3), (5, .int v5), (17, .ref xq935), (18, .int v18)] → c1181 v3 v5 v18 xl935 xf935 k z = some (o, uc, us) → cells + uc ≤ 600130 → slots + us ≤ 7301080 → W p l e room_1 s mm args below meth c H locs cells slots Q (F0 mm 1181 ls [])) {ad : Nat → Nat} {v3 : Int32} {v5 : Int32} {v18 : Int32} {xq935 : Nat} {xl935 : Int32} {xf935 : Nat → Int32} {k : kS} {z : kS} {H : Heap} {locs : List Loc} {ls : Array Slot} {cells slots uc us : Nat} {o : Unit} (hG : True) (hH : jH A s H locs D g ad z (jY adk g k mo) [jTi g xq935 xl935 xf935]) (hl : jl_has ls 24 [(0, .ref b), (1, .ref (adk 0)), (2, .ref (ad 0)), (3, .int v3), (5, .int v5), (17, .ref xq935), (18, .int v18)]) (hf : F_L_law_1188 xs L c22 c1181 v3 v5 v18 xl935 xf935 k z = some (o, uc, us)) (hc : cells + uc ≤ 600130) (hs : slots + us ≤ 7301080) : W p l e room_1 s mm args below meth c H locs cells slots Q (F0 mm 1188 ls []) := by
  have hx := V.1
  have hb := V.2.1
  refine lv_aload_n hx hb dL_law_1188 rfl (lv_at hl.1 1 rfl) ?_
  refine lv_iload hx hb dL_law_1189 (lv_at hl.1 6 rfl) ?_
  refine lv_iconst (v := 2) hx hb dL_law_1191 (by decide) ?_
  obtain ⟨x1188_1, hx1188_1, hf⟩ := kbind hf
  obtain ⟨h1188_2, hf⟩ := kif hf
  obtain ⟨uc1188_3, us1188_4, hf, e1, e2⟩ := kadd_some2 hf
  have e1 : uc = 4 + uc1188_3 := e1
  have e2 : us = 24 + us1188_4 := e2
  have hc : cells + 4 + uc1188_3 ≤ 600130 := by rw [Nat.add_assoc, ← e1]; exact hc
  have hs : slots + 24 + us1188_4 ≤ 7301080 := by rw [Nat.add_assoc, ← e2]; exact hs
  have lc : cells + 4 ≤ 600130 := Nat.le_trans (Nat.le_add_right _ _) hc
  have ls2 : slots + 24 ≤ 7301080 := Nat.le_trans (Nat.le_add_right _ _) hs
  refine jc_callx V hA LX hH kYX5_land kl_L_126 (c_X5_land l LX.1 _ _ hx1188_1 _) (Decidable.not_not.mp h1188_2) rfl rfl ⟨Nat.le_of_ble_eq_true rfl, Nat.le_of_ble_eq_true rfl⟩ rfl hl.1.1 (as := [.int v18, .int 2]) (rest := []) (Nat.le_of_ble_eq_true rfl) dL_law_1192 ⟨lc, ls2⟩ rfl (fun H locs hH => ?_)
  refine lv_aload hx hb dL_law_1195 (lv_at hl.1 5 rfl) ?_
  refine lv_iload hx hb dL_law_1197 (lv_at hl.1 6 rfl) ?_
  obtain ⟨h1188_5, hf⟩ := kif hf
  refine jt_ald V hH 0 rfl h1188_5 dL_law_1199 ?_
  refine lv_icmp_eq (tgt := 1205) hx hb dL_law_1200 (by decide) (fun hq => ?_) (fun hq => ?_)
  · have hf := kpos hq hf
    exact w_L_law_1205 V hA LX SX hQ hk22 hk1181 trivial hH (jl_sub hl [0, 1, 2, 3, 4, 5, 6] rfl) hf hc hs
  · have hf := kneg hq hf
    exact w_L_law_1203 V hA LX SX hQ trivial (jH_sub hH [] (by decide) rfl) (jl_sub hl [] rfl) hf hc hs
set_option maxHeartbeats 4000000 in
set_option maxRecDepth 100000 in
theorem w_L_law_1211 (V : jV p s mm args meth c cL_law RL 24 (some .boolean) D g) (hA : ∀ q, s.heap.size ≤ q → A q) (LX : jLX l A s) (SX : jSX A s b L xs) (hQ : ∀ {H : Heap} {locs : List Loc} {ls : Array Slot} {cells slots : Nat}, va_S A s.heap H locs → cells ≤ 600130 → slots ≤ 7301080 → W p l e room_1 s mm args below meth c H locs cells slots Q (F0 mm 1222 ls [.int 1])) {c22 : Int32 → kS → kS → Option (Unit × Nat × Nat)} (hk22 : ∀ {ad : Nat → Nat} {v3 : Int32} {k : kS} {z : kS} {H : Heap} {locs : List Loc} {ls : Array Slot} {cells slots uc us : Nat} {o : Unit}, True → jH A s H locs D g ad z (jY adk g k mo) [] → jl_has ls 24 [(0, .ref b), (1, .ref (adk 0)), (2, .ref (ad 0)), (3, .int v3)] → c22 v3 k z = some (o, uc, us) → cells + uc ≤ 600130 → slots + us ≤ 7301080 → W p l e room_1 s mm args below meth c H locs cells slots Q (F0 mm 22 ls [])) {ad : Nat → Nat} {v3 : Int32} {k : kS} {z : kS} {H : Heap} {locs : List Loc} {ls : Array Slot} {cells slots uc us : Nat} {o : Unit} (hG : True) (hH : jH A s H locs D g ad z (jY adk g k mo) []) (hl : jl_has ls 24 [(0, .ref b), (1, .ref (adk 0)), (2, .ref (ad 0)), (3, .int v3)]) (hf : F_L_law_1211 xs L c22 v3 k z = some (o, uc, us)) (hc : cells + uc ≤ 600130) (hs : slots + us ≤ 7301080) : W p l e room_1 s mm args below meth c H locs cells slots Q (F0 mm 1211 ls []) := by
  have hx := V.1
  have hb := V.2.1
  refine jl_iinc (v := (v3 + 1)) (lv' := [(3, .int (v3 + 1)), (0, .ref b), (1, .ref (adk 0)), (2, .ref (ad 0))]) hx hb dL_law_1211 hl (k := 3) rfl rfl (by decide) rfl (fun ls hl => ?_)
  refine lv_goto (tgt := 22) hx hb dL_law_1214 (by decide) ?_
  exact hk22 trivial hH (jl_sub hl [1, 2, 3, 0] rfl) hf hc hs
set_option maxHeartbeats 4000000 in
set_option maxRecDepth 100000 in
theorem w_L_law_1181 (V : jV p s mm args meth c cL_law RL 24 (some .boolean) D g) (hA : ∀ q, s.heap.size ≤ q → A q) (LX : jLX l A s) (SX : jSX A s b L xs) (hQ : ∀ {H : Heap} {locs : List Loc} {ls : Array Slot} {cells slots : Nat}, va_S A s.heap H locs → cells ≤ 600130 → slots ≤ 7301080 → W p l e room_1 s mm args below meth c H locs cells slots Q (F0 mm 1222 ls [.int 1])) {c22 : Int32 → kS → kS → Option (Unit × Nat × Nat)} (hk22 : ∀ {ad : Nat → Nat} {v3 : Int32} {k : kS} {z : kS} {H : Heap} {locs : List Loc} {ls : Array Slot} {cells slots uc us : Nat} {o : Unit}, True → jH A s H locs D g ad z (jY adk g k mo) [] → jl_has ls 24 [(0, .ref b), (1, .ref (adk 0)), (2, .ref (ad 0)), (3, .int v3)] → c22 v3 k z = some (o, uc, us) → cells + uc ≤ 600130 → slots + us ≤ 7301080 → W p l e room_1 s mm args below meth c H locs cells slots Q (F0 mm 22 ls [])) : ∀ (n : Nat) {ad : Nat → Nat} {v3 : Int32} {v5 : Int32} {v18 : Int32} {xq935 : Nat} {xl935 : Int32} {xf935 : Nat → Int32} {k : kS} {z : kS} {H : Heap} {locs : List Loc} {ls : Array Slot} {cells slots uc us : Nat} {o : Unit}, True → jH A s H locs D g ad z (jY adk g k mo) [jTi g xq935 xl935 xf935] → jl_has ls 24 [(0, .ref b), (1, .ref (adk 0)), (2, .ref (ad 0)), (3, .int v3), (5, .int v5), (17, .ref xq935), (18, .int v18)] → F_L_law_1181 xs L c22 n v3 v5 v18 xl935 xf935 k z = some (o, uc, us) → cells + uc ≤ 600130 → slots + us ≤ 7301080 → W p l e room_1 s mm args below meth c H locs cells slots Q (F0 mm 1181 ls []) := by
  have hx := V.1
  have hb := V.2.1
  intro n
  induction n with
  | zero => intro _ _ _ _ _ _ _ _ _ _ _ _ _ _ _ _ _ hG hH hl hf hc hs; cases hf
  | succ n hk1181 =>
    intro ad v3 v5 v18 xq935 xl935 xf935 k z H locs ls cells slots uc us o hG hH hl hf hc hs
    refine lv_iload hx hb dL_law_1181 (lv_at hl.1 6 rfl) ?_
    refine lv_iload hx hb dL_law_1183 (lv_at hl.1 4 rfl) ?_
    refine lv_icmp_ge (tgt := 1211) hx hb dL_law_1185 (by decide) (fun hq => ?_) (fun hq => ?_)
    · have hf := kpos hq hf
      exact w_L_law_1211 V hA LX SX hQ hk22 trivial (jH_sub hH [] (by decide) rfl) (jl_sub hl [0, 1, 2, 3] rfl) hf hc hs
    · have hf := kneg hq hf
      exact w_L_law_1188 V hA LX SX hQ hk22 hk1181 trivial hH (jl_sub hl [0, 1, 2, 3, 4, 5, 6] rfl) hf hc hs
set_option maxHeartbeats 4000000 in
set_option maxRecDepth 100000 in
theorem w_L_law_1162 (V : jV p s mm args meth c cL_law RL 24 (some .boolean) D g) (hA : ∀ q, s.heap.size ≤ q → A q) (LX : jLX l A s) (SX : jSX A s b L xs) (hQ : ∀ {H : Heap} {locs : List Loc} {ls : Array Slot} {cells slots : Nat}, va_S A s.heap H locs → cells ≤ 600130 → slots ≤ 7301080 → W p l e room_1 s mm args below meth c H locs cells slots Q (F0 mm 1222 ls [.int 1])) {c22 : Int32 → kS → kS → Option (Unit × Nat × Nat)} (hk22 : ∀ {ad : Nat → Nat} {v3 : Int32} {k : kS} {z : kS} {H : Heap} {locs : List Loc} {ls : Array Slot} {cells slots uc us : Nat} {o : Unit}, True → jH A s H locs D g ad z (jY adk g k mo) [] → jl_has ls 24 [(0, .ref b), (1, .ref (adk 0)), (2, .ref (ad 0)), (3, .int v3)] → c22 v3 k z = some (o, uc, us) → cells + uc ≤ 600130 → slots + us ≤ 7301080 → W p l e room_1 s mm args below meth c H locs cells slots Q (F0 mm 22 ls [])) {ad : Nat → Nat} {v3 : Int32} {v5 : Int32} {xq935 : Nat} {xl935 : Int32} {xf935 : Nat → Int32} {k : kS} {z : kS} {H : Heap} {locs : List Loc} {ls : Array Slot} {cells slots uc us : Nat} {o : Unit} (hG : True) (hH : jH A s H locs D g ad z (jY adk g k mo) [jTi g xq935 xl935 xf935]) (hl : jl_has ls 24 [(0, .ref b), (1, .ref (adk 0)), (2, .ref (ad 0)), (3, .int v3), (5, .int v5), (17, .ref xq935)]) (hf : F_L_law_1162 xs L c22 v3 v5 xl935 xf935 k z = some (o, uc, us)) (hc : cells + uc ≤ 600130) (hs : slots + us ≤ 7301080) : W p l e room_1 s mm args below meth c H locs cells slots Q (F0 mm 1162 ls []) := by
  have hx := V.1
  have hb := V.2.1
  refine lv_aload_n hx hb dL_law_1162 rfl (lv_at hl.1 1 rfl) ?_
  refine lv_iconst (v := 2) hx hb dL_law_1163 (by decide) ?_
  obtain ⟨x1162_1, hx1162_1, hf⟩ := kbind hf
  obtain ⟨h1162_2, hf⟩ := kif hf
  obtain ⟨uc1162_3, us1162_4, hf, e1, e2⟩ := kadd_some2 hf
  have e1 : uc = 4 + uc1162_3 := e1
  have e2 : us = 24 + us1162_4 := e2
  have hc : cells + 4 + uc1162_3 ≤ 600130 := by rw [Nat.add_assoc, ← e1]; exact hc
  have hs : slots + 24 + us1162_4 ≤ 7301080 := by rw [Nat.add_assoc, ← e2]; exact hs
  have lc : cells + 4 ≤ 600130 := Nat.le_trans (Nat.le_add_right _ _) hc
  have ls2 : slots + 24 ≤ 7301080 := Nat.le_trans (Nat.le_add_right _ _) hs
  refine jc_callx V hA LX hH kYX5_pass kl_L_116 (c_X5_pass l LX.1 _ hx1162_1 _) (Decidable.not_not.mp h1162_2) rfl rfl ⟨Nat.le_of_ble_eq_true rfl, Nat.le_of_ble_eq_true rfl⟩ rfl hl.1.1 (as := [.int 2]) (rest := []) (Nat.le_of_ble_eq_true rfl) dL_law_1164 ⟨lc, ls2⟩ rfl (fun H locs hH => ?_)
  refine lv_pop hx hb dL_law_1167 rfl ?_
  refine lv_aload_n hx hb dL_law_1168 rfl (lv_at hl.1 2 rfl) ?_
  obtain ⟨x1162_5, hx1162_5, hf⟩ := kbind hf
  obtain ⟨uc1162_6, us1162_7, hf, e1, e2⟩ := kadd_some2 hf
  have e1 : uc1162_3 = x1162_5.2.1 + uc1162_6 := e1
  have e2 : us1162_4 = x1162_5.2.2 + us1162_7 := e2
  have hc : cells + 4 + x1162_5.2.1 + uc1162_6 ≤ 600130 := by rw [Nat.add_assoc, ← e1]; exact hc
  have hs : slots + 24 + x1162_5.2.2 + us1162_7 ≤ 7301080 := by rw [Nat.add_assoc, ← e2]; exact hs
  have lc : cells + 4 + x1162_5.2.1 ≤ 600130 := Nat.le_trans (Nat.le_add_right _ _) hc
  have ls2 : slots + 24 + x1162_5.2.2 ≤ 7301080 := Nat.le_trans (Nat.le_add_right _ _) hs
  refine jr_calli hA hH (jr_runV (as := []) (rest := []) V hH kYX8_pass kl_L_112 (c_X8_pass l hx1162_5 _) rfl rfl ⟨Nat.le_of_ble_eq_true rfl, Nat.le_of_ble_eq_true rfl⟩ rfl hl.1.1 (Nat.le_of_ble_eq_true rfl) dL_law_1169 ⟨lc, ls2⟩ rfl) (fun ad1162_1 H locs hm hH => ?_)
  have hl : jl_has ls 24 [(0, .ref b), (1, .ref (adk 0)), (2, .ref (ad1162_1 0)), (3, .int v3), (5, .int v5), (17, .ref xq935)] := by simp only [jv, hm.r1, hm.r2, hm 0 (by decide), hm 4 (by decide), hm 8 (by decide)]; exact hl
  refine lv_pop hx hb dL_law_1172 rfl ?_
  refine lv_aload_n hx hb dL_law_1173 rfl (lv_at hl.1 2 rfl) ?_
  obtain ⟨x1162_8, hx1162_8, hf⟩ := kbind hf
  obtain ⟨uc1162_9, us1162_10, hf, e1, e2⟩ := kadd_some2 hf
  have e1 : uc1162_6 = x1162_8.2.1 + uc1162_9 := e1
  have e2 : us1162_7 = x1162_8.2.2 + us1162_10 := e2
  have hc : cells + 4 + x1162_5.2.1 + x1162_8.2.1 + uc1162_9 ≤ 600130 := by rw [Nat.add_assoc, ← e1]; exact hc
  have hs : slots + 24 + x1162_5.2.2 + x1162_8.2.2 + us1162_10 ≤ 7301080 := by rw [Nat.add_assoc, ← e2]; exact hs
  have lc : cells + 4 + x1162_5.2.1 + x1162_8.2.1 ≤ 600130 := Nat.le_trans (Nat.le_add_right _ _) hc
  have ls2 : slots + 24 + x1162_5.2.2 + x1162_8.2.2 ≤ 7301080 := Nat.le_trans (Nat.le_add_right _ _) hs
  refine jr_calli hA hH (jr_runV (as := []) (rest := []) V hH kYX8_pass kl_L_112 (c_X8_pass l hx1162_8 _) rfl rfl ⟨Nat.le_of_ble_eq_true rfl, Nat.le_of_ble_eq_true rfl⟩ rfl hl.1.1 (Nat.le_of_ble_eq_true rfl) dL_law_1174 ⟨lc, ls2⟩ rfl) (fun ad1162_2 H locs hm hH => ?_)
  have hl : jl_has ls 24 [(0, .ref b), (1, .ref (adk 0)), (2, .ref (ad1162_2 0)), (3, .int v3), (5, .int v5), (17, .ref xq935)] := by simp only [jv, hm.r1, hm.r2, hm 0 (by decide), hm 4 (by decide), hm 8 (by decide)]; exact hl
  refine lv_pop hx hb dL_law_1177 rfl ?_
  refine lv_iconst (v := 0) hx hb dL_law_1178 (by decide) ?_
  refine jl_istore (lv' := [(18, .int 0), (0, .ref b), (1, .ref (adk 0)), (2, .ref (ad1162_2 0)), (3, .int v3), (5, .int v5), (17, .ref xq935)]) hx hb dL_law_1179 hl (by decide) rfl (fun ls hl => ?_)
  exact w_L_law_1181 V hA LX SX hQ hk22 kN trivial hH (jl_sub hl [1, 2, 3, 4, 5, 6, 0] rfl) hf hc hs
set_option maxHeartbeats 4000000 in
set_option maxRecDepth 100000 in
theorem w_L_law_1150 (V : jV p s mm args meth c cL_law RL 24 (some .boolean) D g) (hA : ∀ q, s.heap.size ≤ q → A q) (LX : jLX l A s) (SX : jSX A s b L xs) (hQ : ∀ {H : Heap} {locs : List Loc} {ls : Array Slot} {cells slots : Nat}, va_S A s.heap H locs → cells ≤ 600130 → slots ≤ 7301080 → W p l e room_1 s mm args below meth c H locs cells slots Q (F0 mm 1222 ls [.int 1])) {c22 : Int32 → kS → kS → Option (Unit × Nat × Nat)} (hk22 : ∀ {ad : Nat → Nat} {v3 : Int32} {k : kS} {z : kS} {H : Heap} {locs : List Loc} {ls : Array Slot} {cells slots uc us : Nat} {o : Unit}, True → jH A s H locs D g ad z (jY adk g k mo) [] → jl_has ls 24 [(0, .ref b), (1, .ref (adk 0)), (2, .ref (ad 0)), (3, .int v3)] → c22 v3 k z = some (o, uc, us) → cells + uc ≤ 600130 → slots + us ≤ 7301080 → W p l e room_1 s mm args below meth c H locs cells slots Q (F0 mm 22 ls [])) {ad : Nat → Nat} {v3 : Int32} {v5 : Int32} {v16 : Int32} {xq935 : Nat} {xl935 : Int32} {xf935 : Nat → Int32} {k : kS} {z : kS} {H : Heap} {locs : List Loc} {ls : Array Slot} {cells slots uc us : Nat} {o : Unit} (hG : True) (hH : jH A s H locs D g ad z (jY adk g k mo) [jTi g xq935 xl935 xf935]) (hl : jl_has ls 24 [(0, .ref b), (1, .ref (adk 0)), (2, .ref (ad 0)), (3, .int v3), (5, .int v5), (16, .int v16), (17, .ref xq935)]) (hf : F_L_law_1150 xs L c22 v3 v5 v16 xl935 xf935 k z = some (o, uc, us)) (hc : cells + uc ≤ 600130) (hs : slots + us ≤ 7301080) : W p l e room_1 s mm args below meth c H locs cells slots Q (F0 mm 1150 ls []) := by
  have hx := V.1
  have hb := V.2.1
  refine lv_aload_n hx hb dL_law_1150 rfl (lv_at hl.1 1 rfl) ?_
  refine lv_iconst (v := 5) hx hb dL_law_1151 (by decide) ?_
  obtain ⟨x1150_1, hx1150_1, hf⟩ := kbind hf
  obtain ⟨h1150_2, hf⟩ := kif hf
  obtain ⟨uc1150_3, us1150_4, hf, e1, e2⟩ := kadd_some2 hf
  have e1 : uc = 4 + uc1150_3 := e1
  have e2 : us = 24 + us1150_4 := e2
  have hc : cells + 4 + uc1150_3 ≤ 600130 := by rw [Nat.add_assoc, ← e1]; exact hc
  have hs : slots + 24 + us1150_4 ≤ 7301080 := by rw [Nat.add_assoc, ← e2]; exact hs
  have lc : cells + 4 ≤ 600130 := Nat.le_trans (Nat.le_add_right _ _) hc
  have ls2 : slots + 24 ≤ 7301080 := Nat.le_trans (Nat.le_add_right _ _) hs
  refine jc_callx V hA LX hH kYX5_count kl_L_123 (c_X5_count l LX.1 _ hx1150_1 _) (Decidable.not_not.mp h1150_2) rfl rfl ⟨Nat.le_of_ble_eq_true rfl, Nat.le_of_ble_eq_true rfl⟩ rfl hl.1.1 (as := [.int 5]) (rest := []) (Nat.le_of_ble_eq_true rfl) dL_law_1152 ⟨lc, ls2⟩ rfl (fun H locs hH => ?_)
  refine lv_iload hx hb dL_law_1155 (lv_at hl.1 5 rfl) ?_
  refine lv_icmp_eq (tgt := 1162) hx hb dL_law_1157 (by decide) (fun hq => ?_) (fun hq => ?_)
  · have hf := kpos hq hf
    exact w_L_law_1162 V hA LX SX hQ hk22 trivial hH (jl_sub hl [0, 1, 2, 3, 4, 6] rfl) hf hc hs
  · have hf := kneg hq hf
    exact w_L_law_1160 V hA LX SX hQ trivial (jH_sub hH [] (by decide) rfl) (jl_sub hl [] rfl) hf hc hs
set_option maxHeartbeats 4000000 in
set_option maxRecDepth 100000 in
theorem w_L_law_1143 (V : jV p s mm args meth c cL_law RL 24 (some .boolean) D g) (hA : ∀ q, s.heap.size ≤ q → A q) (LX : jLX l A s) (SX : jSX A s b L xs) (hQ : ∀ {H : Heap} {locs : List Loc} {ls : Array Slot} {cells slots : Nat}, va_S A s.heap H locs → cells ≤ 600130 → slots ≤ 7301080 → W p l e room_1 s mm args below meth c H locs cells slots Q (F0 mm 1222 ls [.int 1])) {c22 : Int32 → kS → kS → Option (Unit × Nat × Nat)} (hk22 : ∀ {ad : Nat → Nat} {v3 : Int32} {k : kS} {z : kS} {H : Heap} {locs : List Loc} {ls : Array Slot} {cells slots uc us : Nat} {o : Unit}, True → jH A s H locs D g ad z (jY adk g k mo) [] → jl_has ls 24 [(0, .ref b), (1, .ref (adk 0)), (2, .ref (ad 0)), (3, .int v3)] → c22 v3 k z = some (o, uc, us) → cells + uc ≤ 600130 → slots + us ≤ 7301080 → W p l e room_1 s mm args below meth c H locs cells slots Q (F0 mm 22 ls [])) {ad : Nat → Nat} {v3 : Int32} {v5 : Int32} {v14 : Int32} {v15 : Int32} {v16 : Int32} {xq935 : Nat} {xl935 : Int32} {xf935 : Nat → Int32} {k : kS} {z : kS} {H : Heap} {locs : List Loc} {ls : Array Slot} {cells slots uc us : Nat} {o : Unit} (hG : True) (hH : jH A s H locs D g ad z (jY adk g k mo) [jTi g xq935 xl935 xf935]) (hl : jl_has ls 24 [(0, .ref b), (1, .ref (adk 0)), (2, .ref (ad 0)), (3, .int v3), (5, .int v5), (14, .int v14), (15, .int v15), (16, .int v16), (17, .ref xq935)]) (hf : F_L_law_1143 xs L c22 v3 v5 v14 v15 v16 xl935 xf935 k z = some (o, uc, us)) (hc : cells + uc ≤ 600130) (hs : slots + us ≤ 7301080) : W p l e room_1 s mm args below meth c H locs cells slots Q (F0 mm 1143 ls []) := by
  have hx := V.1
  have hb := V.2.1
  refine lv_iload hx hb dL_law_1143 (lv_at hl.1 5 rfl) ?_
  refine lv_iload hx hb dL_law_1145 (lv_at hl.1 6 rfl) ?_
  refine lv_icmp_ne (tgt := 1160) hx hb dL_law_1147 (by decide) (fun hq => ?_) (fun hq => ?_)
  · have hf := kneg hq hf
    exact w_L_law_1160 V hA LX SX hQ trivial (jH_sub hH [] (by decide) rfl) (jl_sub hl [] rfl) hf hc hs
  · have hf := kpos hq hf
    exact w_L_law_1150 V hA LX SX hQ hk22 trivial hH (jl_sub hl [0, 1, 2, 3, 4, 7, 8] rfl) hf hc hs
set_option maxHeartbeats 4000000 in
set_option maxRecDepth 100000 in
theorem w_L_law_1131 (V : jV p s mm args meth c cL_law RL 24 (some .boolean) D g) (hA : ∀ q, s.heap.size ≤ q → A q) (LX : jLX l A s) (SX : jSX A s b L xs) (hQ : ∀ {H : Heap} {locs : List Loc} {ls : Array Slot} {cells slots : Nat}, va_S A s.heap H locs → cells ≤ 600130 → slots ≤ 7301080 → W p l e room_1 s mm args below meth c H locs cells slots Q (F0 mm 1222 ls [.int 1])) {c22 : Int32 → kS → kS → Option (Unit × Nat × Nat)} (hk22 : ∀ {ad : Nat → Nat} {v3 : Int32} {k : kS} {z : kS} {H : Heap} {locs : List Loc} {ls : Array Slot} {cells slots uc us : Nat} {o : Unit}, True → jH A s H locs D g ad z (jY adk g k mo) [] → jl_has ls 24 [(0, .ref b), (1, .ref (adk 0)), (2, .ref (ad 0)), (3, .int v3)] → c22 v3 k z = some (o, uc, us) → cells + uc ≤ 600130 → slots + us ≤ 7301080 → W p l e room_1 s mm args below meth c H locs cells slots Q (F0 mm 22 ls [])) {ad : Nat → Nat} {v3 : Int32} {v5 : Int32} {v13 : Int32} {v14 : Int32} {v15 : Int32} {v16 : Int32} {xq935 : Nat} {xl935 : Int32} {xf935 : Nat → Int32} {k : kS} {z : kS} {H : Heap} {locs : List Loc} {ls : Array Slot} {cells slots uc us : Nat} {o : Unit} (hG : True) (hH : jH A s H locs D g ad z (jY adk g k mo) [jTi g xq935 xl935 xf935]) (hl : jl_has ls 24 [(0, .ref b), (1, .ref (adk 0)), (2, .ref (ad 0)), (3, .int v3), (5, .int v5), (13, .int v13), (14, .int v14), (15, .int v15), (16, .int v16), (17, .ref xq935)]) (hf : F_L_law_1131 xs L c22 v3 v5 v13 v14 v15 v16 xl935 xf935 k z = some (o, uc, us)) (hc : cells + uc ≤ 600130) (hs : slots + us ≤ 7301080) : W p l e room_1 s mm args below meth c H locs cells slots Q (F0 mm 1131 ls []) := by
  have hx := V.1
  have hb := V.2.1
  refine lv_aload_n hx hb dL_law_1131 rfl (lv_at hl.1 1 rfl) ?_
  refine lv_iconst (v := 3) hx hb dL_law_1132 (by decide) ?_
  obtain ⟨x1131_1, hx1131_1, hf⟩ := kbind hf
  obtain ⟨h1131_2, hf⟩ := kif hf
  obtain ⟨uc1131_3, us1131_4, hf, e1, e2⟩ := kadd_some2 hf
  have e1 : uc = 4 + uc1131_3 := e1
  have e2 : us = 24 + us1131_4 := e2
  have hc : cells + 4 + uc1131_3 ≤ 600130 := by rw [Nat.add_assoc, ← e1]; exact hc
  have hs : slots + 24 + us1131_4 ≤ 7301080 := by rw [Nat.add_assoc, ← e2]; exact hs
  have lc : cells + 4 ≤ 600130 := Nat.le_trans (Nat.le_add_right _ _) hc
  have ls2 : slots + 24 ≤ 7301080 := Nat.le_trans (Nat.le_add_right _ _) hs
  refine jc_callx V hA LX hH kYX5_count kl_L_123 (c_X5_count l LX.1 _ hx1131_1 _) (Decidable.not_not.mp h1131_2) rfl rfl ⟨Nat.le_of_ble_eq_true rfl, Nat.le_of_ble_eq_true rfl⟩ rfl hl.1.1 (as := [.int 3]) (rest := []) (Nat.le_of_ble_eq_true rfl) dL_law_1133 ⟨lc, ls2⟩ rfl (fun H locs hH => ?_)
  refine lv_iload hx hb dL_law_1136 (lv_at hl.1 5 rfl) ?_
  refine lv_iconst (v := 2) hx hb dL_law_1138 (by decide) ?_
  obtain ⟨h1131_5, hf⟩ := kif hf
  refine lv_idiv hx hb dL_law_1139 h1131_5 ?_
  refine lv_icmp_ne (tgt := 1160) hx hb dL_law_1140 (by decide) (fun hq => ?_) (fun hq => ?_)
  · have hf := kneg hq hf
    exact w_L_law_1160 V hA LX SX hQ trivial (jH_sub hH [] (by decide) rfl) (jl_sub hl [] rfl) hf hc hs
  · have hf := kpos hq hf
    exact w_L_law_1143 V hA LX SX hQ hk22 trivial hH (jl_sub hl [0, 1, 2, 3, 4, 6, 7, 8, 9] rfl) hf hc hs
set_option maxHeartbeats 4000000 in
set_option maxRecDepth 100000 in
theorem w_L_law_1121 (V : jV p s mm args meth c cL_law RL 24 (some .boolean) D g) (hA : ∀ q, s.heap.size ≤ q → A q) (LX : jLX l A s) (SX : jSX A s b L xs) (hQ : ∀ {H : Heap} {locs : List Loc} {ls : Array Slot} {cells slots : Nat}, va_S A s.heap H locs → cells ≤ 600130 → slots ≤ 7301080 → W p l e room_1 s mm args below meth c H locs cells slots Q (F0 mm 1222 ls [.int 1])) {c22 : Int32 → kS → kS → Option (Unit × Nat × Nat)} (hk22 : ∀ {ad : Nat → Nat} {v3 : Int32} {k : kS} {z : kS} {H : Heap} {locs : List Loc} {ls : Array Slot} {cells slots uc us : Nat} {o : Unit}, True → jH A s H locs D g ad z (jY adk g k mo) [] → jl_has ls 24 [(0, .ref b), (1, .ref (adk 0)), (2, .ref (ad 0)), (3, .int v3)] → c22 v3 k z = some (o, uc, us) → cells + uc ≤ 600130 → slots + us ≤ 7301080 → W p l e room_1 s mm args below meth c H locs cells slots Q (F0 mm 22 ls [])) {ad : Nat → Nat} {v3 : Int32} {v5 : Int32} {v12 : Int32} {v13 : Int32} {v14 : Int32} {v15 : Int32} {v16 : Int32} {xq935 : Nat} {xl935 : Int32} {xf935 : Nat → Int32} {k : kS} {z : kS} {H : Heap} {locs : List Loc} {ls : Array Slot} {cells slots uc us : Nat} {o : Unit} (hG : True) (hH : jH A s H locs D g ad z (jY adk g k mo) [jTi g xq935 xl935 xf935]) (hl : jl_has ls 24 [(0, .ref b), (1, .ref (adk 0)), (2, .ref (ad 0)), (3, .int v3), (5, .int v5), (12, .int v12), (13, .int v13), (14, .int v14), (15, .int v15), (16, .int v16), (17, .ref xq935)]) (hf : F_L_law_1121 xs L c22 v3 v5 v12 v13 v14 v15 v16 xl935 xf935 k z = some (o, uc, us)) (hc : cells + uc ≤ 600130) (hs : slots + us ≤ 7301080) : W p l e room_1 s mm args below meth c H locs cells slots Q (F0 mm 1121 ls []) := by
  have hx := V.1
  have hb := V.2.1
  refine lv_aload_n hx hb dL_law_1121 rfl (lv_at hl.1 1 rfl) ?_
  refine lv_iconst (v := 2) hx hb dL_law_1122 (by decide) ?_
  obtain ⟨x1121_1, hx1121_1, hf⟩ := kbind hf
  obtain ⟨h1121_2, hf⟩ := kif hf
  obtain ⟨uc1121_3, us1121_4, hf, e1, e2⟩ := kadd_some2 hf
  have e1 : uc = 4 + uc1121_3 := e1
  have e2 : us = 24 + us1121_4 := e2
  have hc : cells + 4 + uc1121_3 ≤ 600130 := by rw [Nat.add_assoc, ← e1]; exact hc
  have hs : slots + 24 + us1121_4 ≤ 7301080 := by rw [Nat.add_assoc, ← e2]; exact hs
  have lc : cells + 4 ≤ 600130 := Nat.le_trans (Nat.le_add_right _ _) hc
  have ls2 : slots + 24 ≤ 7301080 := Nat.le_trans (Nat.le_add_right _ _) hs
  refine jc_callx V hA LX hH kYX5_count kl_L_123 (c_X5_count l LX.1 _ hx1121_1 _) (Decidable.not_not.mp h1121_2) rfl rfl ⟨Nat.le_of_ble_eq_true rfl, Nat.le_of_ble_eq_true rfl⟩ rfl hl.1.1 (as := [.int 2]) (rest := []) (Nat.le_of_ble_eq_true rfl) dL_law_1123 ⟨lc, ls2⟩ rfl (fun H locs hH => ?_)
  refine lv_iload hx hb dL_law_1126 (lv_at hl.1 5 rfl) ?_
  refine lv_icmp_ne (tgt := 1160) hx hb dL_law_1128 (by decide) (fun hq => ?_) (fun hq => ?_)
  · have hf := kneg hq hf
    exact w_L_law_1160 V hA LX SX hQ trivial (jH_sub hH [] (by decide) rfl) (jl_sub hl [] rfl) hf hc hs
  · have hf := kpos hq hf
    exact w_L_law_1131 V hA LX SX hQ hk22 trivial hH (jl_sub hl [0, 1, 2, 3, 4, 6, 7, 8, 9, 10] rfl) hf hc hs
set_option maxHeartbeats 4000000 in
set_option maxRecDepth 100000 in
theorem w_L_law_942 (V : jV p s mm args meth c cL_law RL 24 (some .boolean) D g) (hA : ∀ q, s.heap.size ≤ q → A q) (LX : jLX l A s) (SX : jSX A s b L xs) (hQ : ∀ {H : Heap} {locs : List Loc} {ls : Array Slot} {cells slots : Nat}, va_S A s.heap H locs → cells ≤ 600130 → slots ≤ 7301080 → W p l e room_1 s mm args below meth c H locs cells slots Q (F0 mm 1222 ls [.int 1])) {c22 : Int32 → kS → kS → Option (Unit × Nat × Nat)} (hk22 : ∀ {ad : Nat → Nat} {v3 : Int32} {k : kS} {z : kS} {H : Heap} {locs : List Loc} {ls : Array Slot} {cells slots uc us : Nat} {o : Unit}, True → jH A s H locs D g ad z (jY adk g k mo) [] → jl_has ls 24 [(0, .ref b), (1, .ref (adk 0)), (2, .ref (ad 0)), (3, .int v3)] → c22 v3 k z = some (o, uc, us) → cells + uc ≤ 600130 → slots + us ≤ 7301080 → W p l e room_1 s mm args below meth c H locs cells slots Q (F0 mm 22 ls [])) : ∀ (n : Nat) {ad : Nat → Nat} {v3 : Int32} {v5 : Int32} {v12 : Int32} {v13 : Int32} {v14 : Int32} {v15 : Int32} {v16 : Int32} {v18 : Int32} {xq935 : Nat} {xl935 : Int32} {xf935 : Nat → Int32} {k : kS} {z : kS} {H : Heap} {locs : List Loc} {ls : Array Slot} {cells slots uc us : Nat} {o : Unit}, True → jH A s H locs D g ad z (jY adk g k mo) [jTi g xq935 xl935 xf935] → jl_has ls 24 [(0, .ref b), (1, .ref (adk 0)), (2, .ref (ad 0)), (3, .int v3), (5, .int v5), (12, .int v12), (13, .int v13), (14, .int v14), (15, .int v15), (16, .int v16), (17, .ref xq935), (18, .int v18)] → F_L_law_942 xs L c22 n v3 v5 v12 v13 v14 v15 v16 v18 xl935 xf935 k z = some (o, uc, us) → cells + uc ≤ 600130 → slots + us ≤ 7301080 → W p l e room_1 s mm args below meth c H locs cells slots Q (F0 mm 942 ls []) := by
  have hx := V.1
  have hb := V.2.1
  intro n
  induction n with
  | zero => intro _ _ _ _ _ _ _ _ _ _ _ _ _ _ _ _ _ _ _ _ _ _ hG hH hl hf hc hs; cases hf
  | succ n hk942 =>
    intro ad v3 v5 v12 v13 v14 v15 v16 v18 xq935 xl935 xf935 k z H locs ls cells slots uc us o hG hH hl hf hc hs
    refine lv_iload hx hb dL_law_942 (lv_at hl.1 11 rfl) ?_
    refine lv_iload hx hb dL_law_944 (lv_at hl.1 4 rfl) ?_
    refine lv_icmp_ge (tgt := 1121) hx hb dL_law_946 (by decide) (fun hq => ?_) (fun hq => ?_)
    · have hf := kpos hq hf
      exact w_L_law_1121 V hA LX SX hQ hk22 trivial hH (jl_sub hl [0, 1, 2, 3, 4, 5, 6, 7, 8, 9, 10] rfl) hf hc hs
    · have hf := kneg hq hf
      exact w_L_law_949 V hA LX SX hQ hk22 hk942 trivial hH (jl_sub hl [0, 1, 2, 3, 4, 5, 6, 7, 8, 9, 10, 11] rfl) hf hc hs
set_option maxHeartbeats 4000000 in
set_option maxRecDepth 100000 in
theorem w_L_law_923 (V : jV p s mm args meth c cL_law RL 24 (some .boolean) D g) (hA : ∀ q, s.heap.size ≤ q → A q) (LX : jLX l A s) (SX : jSX A s b L xs) (hQ : ∀ {H : Heap} {locs : List Loc} {ls : Array Slot} {cells slots : Nat}, va_S A s.heap H locs → cells ≤ 600130 → slots ≤ 7301080 → W p l e room_1 s mm args below meth c H locs cells slots Q (F0 mm 1222 ls [.int 1])) {c22 : Int32 → kS → kS → Option (Unit × Nat × Nat)} (hk22 : ∀ {ad : Nat → Nat} {v3 : Int32} {k : kS} {z : kS} {H : Heap} {locs : List Loc} {ls : Array Slot} {cells slots uc us : Nat} {o : Unit}, True → jH A s H locs D g ad z (jY adk g k mo) [] → jl_has ls 24 [(0, .ref b), (1, .ref (adk 0)), (2, .ref (ad 0)), (3, .int v3)] → c22 v3 k z = some (o, uc, us) → cells + uc ≤ 600130 → slots + us ≤ 7301080 → W p l e room_1 s mm args below meth c H locs cells slots Q (F0 mm 22 ls [])) {ad : Nat → Nat} {v3 : Int32} {v12 : Int32} {v13 : Int32} {v14 : Int32} {v15 : Int32} {k : kS} {z : kS} {H : Heap} {locs : List Loc} {ls : Array Slot} {cells slots uc us : Nat} {o : Unit} (hG : True) (hH : jH A s H locs D g ad z (jY adk g k mo) []) (hl : jl_has ls 24 [(0, .ref b), (1, .ref (adk 0)), (2, .ref (ad 0)), (3, .int v3), (12, .int v12), (13, .int v13), (14, .int v14), (15, .int v15)]) (hf : F_L_law_923 xs L c22 v3 v12 v13 v14 v15 k z = some (o, uc, us)) (hc : cells + uc ≤ 600130) (hs : slots + us ≤ 7301080) : W p l e room_1 s mm args below meth c H locs cells slots Q (F0 mm 923 ls []) := by
  have hx := V.1
  have hb := V.2.1
  refine lv_aload_n hx hb dL_law_923 rfl (lv_at hl.1 1 rfl) ?_
  refine lv_iconst (v := 4) hx hb dL_law_924 (by decide) ?_
  obtain ⟨x923_1, hx923_1, hf⟩ := kbind hf
  obtain ⟨h923_2, hf⟩ := kif hf
  obtain ⟨uc923_3, us923_4, hf, e1, e2⟩ := kadd_some2 hf
  have e1 : uc = 4 + uc923_3 := e1
  have e2 : us = 24 + us923_4 := e2
  have hc : cells + 4 + uc923_3 ≤ 600130 := by rw [Nat.add_assoc, ← e1]; exact hc
  have hs : slots + 24 + us923_4 ≤ 7301080 := by rw [Nat.add_assoc, ← e2]; exact hs
  have lc : cells + 4 ≤ 600130 := Nat.le_trans (Nat.le_add_right _ _) hc
  have ls2 : slots + 24 ≤ 7301080 := Nat.le_trans (Nat.le_add_right _ _) hs
  refine jc_callx V hA LX hH kYX5_count kl_L_123 (c_X5_count l LX.1 _ hx923_1 _) (Decidable.not_not.mp h923_2) rfl rfl ⟨Nat.le_of_ble_eq_true rfl, Nat.le_of_ble_eq_true rfl⟩ rfl hl.1.1 (as := [.int 4]) (rest := []) (Nat.le_of_ble_eq_true rfl) dL_law_925 ⟨lc, ls2⟩ rfl (fun H locs hH => ?_)
  refine jl_istore (lv' := [(5, .int x923_1.2), (0, .ref b), (1, .ref (adk 0)), (2, .ref (ad 0)), (3, .int v3), (12, .int v12), (13, .int v13), (14, .int v14), (15, .int v15)]) hx hb dL_law_928 hl (by decide) rfl (fun ls hl => ?_)
  refine lv_iconst (v := 0) hx hb dL_law_930 (by decide) ?_
  refine jl_istore (lv' := [(16, .int 0), (5, .int x923_1.2), (0, .ref b), (1, .ref (adk 0)), (2, .ref (ad 0)), (3, .int v3), (12, .int v12), (13, .int v13), (14, .int v14), (15, .int v15)]) hx hb dL_law_931 hl (by decide) rfl (fun ls hl => ?_)
  refine lv_iload hx hb dL_law_933 (lv_at hl.1 1 rfl) ?_
  obtain ⟨h923_5, hf⟩ := kif hf
  obtain ⟨uc923_6, us923_7, hf, e1, e2⟩ := kadd_some2 hf
  have e1 : uc923_3 = 1 + uc923_6 := e1
  have e2 : us923_4 = x923_1.2.toNatClampNeg + us923_7 := e2
  have hc : cells + 4 + 1 + uc923_6 ≤ 600130 := by rw [Nat.add_assoc, ← e1]; exact hc
  have hs : slots + 24 + x923_1.2.toNatClampNeg + us923_7 ≤ 7301080 := by rw [Nat.add_assoc, ← e2]; exact hs
  have lc : cells + 4 + 1 ≤ 600130 := Nat.le_trans (Nat.le_add_right _ _) hc
  have ls2 : slots + 24 + x923_1.2.toNatClampNeg ≤ 7301080 := Nat.le_trans (Nat.le_add_right _ _) hs
  refine jt_new V hA hH (fun q => h923_5 (Or.inl q)) (Nat.not_lt.mp fun q => h923_5 (Or.inr q)) lc ls2 dL_law_935 (fun xq935 H hH => ?_)
  refine jl_astore (o := some xq935) (lv' := [(17, .ref xq935), (16, .int 0), (5, .int x923_1.2), (0, .ref b), (1, .ref (adk 0)), (2, .ref (ad 0)), (3, .int v3), (12, .int v12), (13, .int v13), (14, .int v14), (15, .int v15)]) hx hb dL_law_937 hl (by decide) rfl (fun ls hl => ?_)
  refine lv_iconst (v := 0) hx hb dL_law_939 (by decide) ?_
  refine jl_istore (lv' := [(18, .int 0), (17, .ref xq935), (16, .int 0), (5, .int x923_1.2), (0, .ref b), (1, .ref (adk 0)), (2, .ref (ad 0)), (3, .int v3), (12, .int v12), (13, .int v13), (14, .int v14), (15, .int v15)]) hx hb dL_law_940 hl (by decide) rfl (fun ls hl => ?_)
  exact w_L_law_942 V hA LX SX hQ hk22 kN trivial hH (jl_sub hl [4, 5, 6, 7, 3, 8, 9, 10, 11, 2, 1, 0] rfl) hf hc hs
set_option maxHeartbeats 4000000 in
set_option maxRecDepth 100000 in
theorem w_L_law_374 (V : jV p s mm args meth c cL_law RL 24 (some .boolean) D g) (hA : ∀ q, s.heap.size ≤ q → A q) (LX : jLX l A s) (SX : jSX A s b L xs) (hQ : ∀ {H : Heap} {locs : List Loc} {ls : Array Slot} {cells slots : Nat}, va_S A s.heap H locs → cells ≤ 600130 → slots ≤ 7301080 → W p l e room_1 s mm args below meth c H locs cells slots Q (F0 mm 1222 ls [.int 1])) {c22 : Int32 → kS → kS → Option (Unit × Nat × Nat)} (hk22 : ∀ {ad : Nat → Nat} {v3 : Int32} {k : kS} {z : kS} {H : Heap} {locs : List Loc} {ls : Array Slot} {cells slots uc us : Nat} {o : Unit}, True → jH A s H locs D g ad z (jY adk g k mo) [] → jl_has ls 24 [(0, .ref b), (1, .ref (adk 0)), (2, .ref (ad 0)), (3, .int v3)] → c22 v3 k z = some (o, uc, us) → cells + uc ≤ 600130 → slots + us ≤ 7301080 → W p l e room_1 s mm args below meth c H locs cells slots Q (F0 mm 22 ls [])) : ∀ (n : Nat) {ad : Nat → Nat} {v3 : Int32} {v4 : Int32} {v11 : Int32} {v12 : Int32} {v13 : Int32} {v14 : Int32} {v15 : Int32} {v16 : Int32} {k : kS} {z : kS} {H : Heap} {locs : List Loc} {ls : Array Slot} {cells slots uc us : Nat} {o : Unit}, True → jH A s H locs D g ad z (jY adk g k mo) [] → jl_has ls 24 [(0, .ref b), (1, .ref (adk 0)), (2, .ref (ad 0)), (3, .int v3), (4, .int v4), (11, .int v11), (12, .int v12), (13, .int v13), (14, .int v14), (15, .int v15), (16, .int v16)] → F_L_law_374 xs L c22 n v3 v4 v11 v12 v13 v14 v15 v16 k z = some (o, uc, us) → cells + uc ≤ 600130 → slots + us ≤ 7301080 → W p l e room_1 s mm args below meth c H locs cells slots Q (F0 mm 374 ls []) := by
  have hx := V.1
  have hb := V.2.1
  intro n
  induction n with
  | zero => intro _ _ _ _ _ _ _ _ _ _ _ _ _ _ _ _ _ _ _ hG hH hl hf hc hs; cases hf
  | succ n hk374 =>
    intro ad v3 v4 v11 v12 v13 v14 v15 v16 k z H locs ls cells slots uc us o hG hH hl hf hc hs
    refine lv_iload hx hb dL_law_374 (lv_at hl.1 10 rfl) ?_
    refine lv_iload hx hb dL_law_376 (lv_at hl.1 5 rfl) ?_
    refine lv_icmp_ge (tgt := 923) hx hb dL_law_378 (by decide) (fun hq => ?_) (fun hq => ?_)
    · have hf := kpos hq hf
      exact w_L_law_923 V hA LX SX hQ hk22 trivial hH (jl_sub hl [0, 1, 2, 3, 6, 7, 8, 9] rfl) hf hc hs
    · have hf := kneg hq hf
      exact w_L_law_381 V hA LX SX hQ hk22 hk374 trivial hH (jl_sub hl [0, 1, 2, 3, 4, 5, 6, 7, 8, 9, 10] rfl) hf hc hs
set_option maxHeartbeats 4000000 in
set_option maxRecDepth 100000 in
theorem w_L_law_352 (V : jV p s mm args meth c cL_law RL 24 (some .boolean) D g) (hA : ∀ q, s.heap.size ≤ q → A q) (LX : jLX l A s) (SX : jSX A s b L xs) (hQ : ∀ {H : Heap} {locs : List Loc} {ls : Array Slot} {cells slots : Nat}, va_S A s.heap H locs → cells ≤ 600130 → slots ≤ 7301080 → W p l e room_1 s mm args below meth c H locs cells slots Q (F0 mm 1222 ls [.int 1])) {c22 : Int32 → kS → kS → Option (Unit × Nat × Nat)} (hk22 : ∀ {ad : Nat → Nat} {v3 : Int32} {k : kS} {z : kS} {H : Heap} {locs : List Loc} {ls : Array Slot} {cells slots uc us : Nat} {o : Unit}, True → jH A s H locs D g ad z (jY adk g k mo) [] → jl_has ls 24 [(0, .ref b), (1, .ref (adk 0)), (2, .ref (ad 0)), (3, .int v3)] → c22 v3 k z = some (o, uc, us) → cells + uc ≤ 600130 → slots + us ≤ 7301080 → W p l e room_1 s mm args below meth c H locs cells slots Q (F0 mm 22 ls [])) {ad : Nat → Nat} {v3 : Int32} {v4 : Int32} {k : kS} {z : kS} {H : Heap} {locs : List Loc} {ls : Array Slot} {cells slots uc us : Nat} {o : Unit} (hG : True) (hH : jH A s H locs D g ad z (jY adk g k mo) []) (hl : jl_has ls 24 [(0, .ref b), (1, .ref (adk 0)), (2, .ref (ad 0)), (3, .int v3), (4, .int v4)]) (hf : F_L_law_352 xs L c22 v3 v4 k z = some (o, uc, us)) (hc : cells + uc ≤ 600130) (hs : slots + us ≤ 7301080) : W p l e room_1 s mm args below meth c H locs cells slots Q (F0 mm 352 ls []) := by
  have hx := V.1
  have hb := V.2.1
  refine lv_aload_n hx hb dL_law_352 rfl (lv_at hl.1 1 rfl) ?_
  refine lv_iconst (v := 1) hx hb dL_law_353 (by decide) ?_
  obtain ⟨x352_1, hx352_1, hf⟩ := kbind hf
  obtain ⟨h352_2, hf⟩ := kif hf
  obtain ⟨uc352_3, us352_4, hf, e1, e2⟩ := kadd_some2 hf
  have e1 : uc = 4 + uc352_3 := e1
  have e2 : us = 24 + us352_4 := e2
  have hc : cells + 4 + uc352_3 ≤ 600130 := by rw [Nat.add_assoc, ← e1]; exact hc
  have hs : slots + 24 + us352_4 ≤ 7301080 := by rw [Nat.add_assoc, ← e2]; exact hs
  have lc : cells + 4 ≤ 600130 := Nat.le_trans (Nat.le_add_right _ _) hc
  have ls2 : slots + 24 ≤ 7301080 := Nat.le_trans (Nat.le_add_right _ _) hs
  refine jc_callx V hA LX hH kYX5_count kl_L_123 (c_X5_count l LX.1 _ hx352_1 _) (Decidable.not_not.mp h352_2) rfl rfl ⟨Nat.le_of_ble_eq_true rfl, Nat.le_of_ble_eq_true rfl⟩ rfl hl.1.1 (as := [.int 1]) (rest := []) (Nat.le_of_ble_eq_true rfl) dL_law_354 ⟨lc, ls2⟩ rfl (fun H locs hH => ?_)
  refine jl_istore (lv' := [(11, .int x352_1.2), (0, .ref b), (1, .ref (adk 0)), (2, .ref (ad 0)), (3, .int v3), (4, .int v4)]) hx hb dL_law_357 hl (by decide) rfl (fun ls hl => ?_)
  refine lv_iconst (v := 0) hx hb dL_law_359 (by decide) ?_
  refine jl_istore (lv' := [(12, .int 0), (11, .int x352_1.2), (0, .ref b), (1, .ref (adk 0)), (2, .ref (ad 0)), (3, .int v3), (4, .int v4)]) hx hb dL_law_360 hl (by decide) rfl (fun ls hl => ?_)
  refine lv_iconst (v := 0) hx hb dL_law_362 (by decide) ?_
  refine jl_istore (lv' := [(13, .int 0), (12, .int 0), (11, .int x352_1.2), (0, .ref b), (1, .ref (adk 0)), (2, .ref (ad 0)), (3, .int v3), (4, .int v4)]) hx hb dL_law_363 hl (by decide) rfl (fun ls hl => ?_)
  refine lv_iconst (v := 0) hx hb dL_law_365 (by decide) ?_
  refine jl_istore (lv' := [(14, .int 0), (13, .int 0), (12, .int 0), (11, .int x352_1.2), (0, .ref b), (1, .ref (adk 0)), (2, .ref (ad 0)), (3, .int v3), (4, .int v4)]) hx hb dL_law_366 hl (by decide) rfl (fun ls hl => ?_)
  refine lv_iconst (v := 0) hx hb dL_law_368 (by decide) ?_
  refine jl_istore (lv' := [(15, .int 0), (14, .int 0), (13, .int 0), (12, .int 0), (11, .int x352_1.2), (0, .ref b), (1, .ref (adk 0)), (2, .ref (ad 0)), (3, .int v3), (4, .int v4)]) hx hb dL_law_369 hl (by decide) rfl (fun ls hl => ?_)
  refine lv_iconst (v := 0) hx hb dL_law_371 (by decide) ?_
  refine jl_istore (lv' := [(16, .int 0), (15, .int 0), (14, .int 0), (13, .int 0), (12, .int 0), (11, .int x352_1.2), (0, .ref b), (1, .ref (adk 0)), (2, .ref (ad 0)), (3, .int v3), (4, .int v4)]) hx hb dL_law_372 hl (by decide) rfl (fun ls hl => ?_)
  exact w_L_law_374 V hA LX SX hQ hk22 kN trivial hH (jl_sub hl [6, 7, 8, 9, 10, 5, 4, 3, 2, 1, 0] rfl) hf hc hs
set_option maxHeartbeats 4000000 in
set_option maxRecDepth 100000 in
theorem w_L_law_344 (V : jV p s mm args meth c cL_law RL 24 (some .boolean) D g) (hA : ∀ q, s.heap.size ≤ q → A q) (LX : jLX l A s) (SX : jSX A s b L xs) (hQ : ∀ {H : Heap} {locs : List Loc} {ls : Array Slot} {cells slots : Nat}, va_S A s.heap H locs → cells ≤ 600130 → slots ≤ 7301080 → W p l e room_1 s mm args below meth c H locs cells slots Q (F0 mm 1222 ls [.int 1])) {c22 : Int32 → kS → kS → Option (Unit × Nat × Nat)} (hk22 : ∀ {ad : Nat → Nat} {v3 : Int32} {k : kS} {z : kS} {H : Heap} {locs : List Loc} {ls : Array Slot} {cells slots uc us : Nat} {o : Unit}, True → jH A s H locs D g ad z (jY adk g k mo) [] → jl_has ls 24 [(0, .ref b), (1, .ref (adk 0)), (2, .ref (ad 0)), (3, .int v3)] → c22 v3 k z = some (o, uc, us) → cells + uc ≤ 600130 → slots + us ≤ 7301080 → W p l e room_1 s mm args below meth c H locs cells slots Q (F0 mm 22 ls [])) {ad : Nat → Nat} {v3 : Int32} {v4 : Int32} {v10 : Int32} {k : kS} {z : kS} {H : Heap} {locs : List Loc} {ls : Array Slot} {cells slots uc us : Nat} {o : Unit} (hG : True) (hH : jH A s H locs D g ad z (jY adk g k mo) []) (hl : jl_has ls 24 [(0, .ref b), (1, .ref (adk 0)), (2, .ref (ad 0)), (3, .int v3), (4, .int v4), (10, .int v10)]) (hf : F_L_law_344 xs L c22 v3 v4 v10 k z = some (o, uc, us)) (hc : cells + uc ≤ 600130) (hs : slots + us ≤ 7301080) : W p l e room_1 s mm args below meth c H locs cells slots Q (F0 mm 344 ls []) := by
  have hx := V.1
  have hb := V.2.1
  refine lv_iload hx hb dL_law_344 (lv_at hl.1 5 rfl) ?_
  refine lv_iconst (v := 1) hx hb dL_law_346 (by decide) ?_
  refine lv_icmp_le (tgt := 352) hx hb dL_law_347 (by decide) (fun hq => ?_) (fun hq => ?_)
  · have hf := kpos hq hf
    exact w_L_law_352 V hA LX SX hQ hk22 trivial hH (jl_sub hl [0, 1, 2, 3, 4] rfl) hf hc hs
  · have hf := kneg hq hf
    exact w_L_law_350 V hA LX SX hQ trivial hH (jl_sub hl [] rfl) hf hc hs
set_option maxHeartbeats 4000000 in
set_option maxRecDepth 100000 in
theorem w_L_law_337 (V : jV p s mm args meth c cL_law RL 24 (some .boolean) D g) (hA : ∀ q, s.heap.size ≤ q → A q) (LX : jLX l A s) (SX : jSX A s b L xs) (hQ : ∀ {H : Heap} {locs : List Loc} {ls : Array Slot} {cells slots : Nat}, va_S A s.heap H locs → cells ≤ 600130 → slots ≤ 7301080 → W p l e room_1 s mm args below meth c H locs cells slots Q (F0 mm 1222 ls [.int 1])) {c22 : Int32 → kS → kS → Option (Unit × Nat × Nat)} (hk22 : ∀ {ad : Nat → Nat} {v3 : Int32} {k : kS} {z : kS} {H : Heap} {locs : List Loc} {ls : Array Slot} {cells slots uc us : Nat} {o : Unit}, True → jH A s H locs D g ad z (jY adk g k mo) [] → jl_has ls 24 [(0, .ref b), (1, .ref (adk 0)), (2, .ref (ad 0)), (3, .int v3)] → c22 v3 k z = some (o, uc, us) → cells + uc ≤ 600130 → slots + us ≤ 7301080 → W p l e room_1 s mm args below meth c H locs cells slots Q (F0 mm 22 ls [])) {ad : Nat → Nat} {v3 : Int32} {v4 : Int32} {v9 : Int32} {v10 : Int32} {k : kS} {z : kS} {H : Heap} {locs : List Loc} {ls : Array Slot} {cells slots uc us : Nat} {o : Unit} (hG : True) (hH : jH A s H locs D g ad z (jY adk g k mo) []) (hl : jl_has ls 24 [(0, .ref b), (1, .ref (adk 0)), (2, .ref (ad 0)), (3, .int v3), (4, .int v4), (9, .int v9), (10, .int v10)]) (hf : F_L_law_337 xs L c22 v3 v4 v9 v10 k z = some (o, uc, us)) (hc : cells + uc ≤ 600130) (hs : slots + us ≤ 7301080) : W p l e room_1 s mm args below meth c H locs cells slots Q (F0 mm 337 ls []) := by
  have hx := V.1
  have hb := V.2.1
  refine lv_iload hx hb dL_law_337 (lv_at hl.1 5 rfl) ?_
  refine lv_bipush (v := 10) hx hb dL_law_339 (by decide) ?_
  refine lv_icmp_eq (tgt := 352) hx hb dL_law_341 (by decide) (fun hq => ?_) (fun hq => ?_)
  · have hf := kpos hq hf
    exact w_L_law_352 V hA LX SX hQ hk22 trivial hH (jl_sub hl [0, 1, 2, 3, 4] rfl) hf hc hs
  · have hf := kneg hq hf
    exact w_L_law_344 V hA LX SX hQ hk22 trivial hH (jl_sub hl [0, 1, 2, 3, 4, 6] rfl) hf hc hs
set_option maxHeartbeats 4000000 in
set_option maxRecDepth 100000 in
theorem w_L_law_160 (V : jV p s mm args meth c cL_law RL 24 (some .boolean) D g) (hA : ∀ q, s.heap.size ≤ q → A q) (LX : jLX l A s) (SX : jSX A s b L xs) (hQ : ∀ {H : Heap} {locs : List Loc} {ls : Array Slot} {cells slots : Nat}, va_S A s.heap H locs → cells ≤ 600130 → slots ≤ 7301080 → W p l e room_1 s mm args below meth c H locs cells slots Q (F0 mm 1222 ls [.int 1])) {c22 : Int32 → kS → kS → Option (Unit × Nat × Nat)} (hk22 : ∀ {ad : Nat → Nat} {v3 : Int32} {k : kS} {z : kS} {H : Heap} {locs : List Loc} {ls : Array Slot} {cells slots uc us : Nat} {o : Unit}, True → jH A s H locs D g ad z (jY adk g k mo) [] → jl_has ls 24 [(0, .ref b), (1, .ref (adk 0)), (2, .ref (ad 0)), (3, .int v3)] → c22 v3 k z = some (o, uc, us) → cells + uc ≤ 600130 → slots + us ≤ 7301080 → W p l e room_1 s mm args below meth c H locs cells slots Q (F0 mm 22 ls [])) : ∀ (n : Nat) {ad : Nat → Nat} {v3 : Int32} {v4 : Int32} {v5 : Int32} {v9 : Int32} {v10 : Int32} {v11 : Int32} {xq49 : Nat} {xl49 : Int32} {xf49 : Nat → Int32} {xq55 : Nat} {xl55 : Int32} {xf55 : Nat → Int32} {xq61 : Nat} {xl61 : Int32} {xf61 : Nat → Int32} {k : kS} {z : kS} {H : Heap} {locs : List Loc} {ls : Array Slot} {cells slots uc us : Nat} {o : Unit}, True → jH A s H locs D g ad z (jY adk g k mo) [jTi g xq49 xl49 xf49, jTi g xq55 xl55 xf55, jTi g xq61 xl61 xf61] → jl_has ls 24 [(0, .ref b), (1, .ref (adk 0)), (2, .ref (ad 0)), (3, .int v3), (4, .int v4), (5, .int v5), (6, .ref xq49), (7, .ref xq55), (8, .ref xq61), (9, .int v9), (10, .int v10), (11, .int v11)] → F_L_law_160 xs L c22 n v3 v4 v5 v9 v10 v11 xl49 xf49 xl55 xf55 xl61 xf61 k z = some (o, uc, us) → cells + uc ≤ 600130 → slots + us ≤ 7301080 → W p l e room_1 s mm args below meth c H locs cells slots Q (F0 mm 160 ls []) := by
  have hx := V.1
  have hb := V.2.1
  intro n
  induction n with
  | zero => intro _ _ _ _ _ _ _ _ _ _ _ _ _ _ _ _ _ _ _ _ _ _ _ _ _ _ hG hH hl hf hc hs; cases hf
  | succ n hk160 =>
    intro ad v3 v4 v5 v9 v10 v11 xq49 xl49 xf49 xq55 xl55 xf55 xq61 xl61 xf61 k z H locs ls cells slots uc us o hG hH hl hf hc hs
    refine lv_iload hx hb dL_law_160 (lv_at hl.1 11 rfl) ?_
    refine lv_iload hx hb dL_law_162 (lv_at hl.1 5 rfl) ?_
    refine lv_icmp_ge (tgt := 337) hx hb dL_law_164 (by decide) (fun hq => ?_) (fun hq => ?_)
    · have hf := kpos hq hf
      exact w_L_law_337 V hA LX SX hQ hk22 trivial (jH_sub hH [] (by decide) rfl) (jl_sub hl [0, 1, 2, 3, 4, 9, 10] rfl) hf hc hs
    · have hf := kneg hq hf
      exact w_L_law_167 V hA LX SX hQ hk22 hk160 trivial hH (jl_sub hl [0, 1, 2, 3, 4, 5, 6, 7, 8, 9, 10, 11] rfl) hf hc hs
set_option maxHeartbeats 4000000 in
set_option maxRecDepth 100000 in
theorem w_L_law_154 (V : jV p s mm args meth c cL_law RL 24 (some .boolean) D g) (hA : ∀ q, s.heap.size ≤ q → A q) (LX : jLX l A s) (SX : jSX A s b L xs) (hQ : ∀ {H : Heap} {locs : List Loc} {ls : Array Slot} {cells slots : Nat}, va_S A s.heap H locs → cells ≤ 600130 → slots ≤ 7301080 → W p l e room_1 s mm args below meth c H locs cells slots Q (F0 mm 1222 ls [.int 1])) {c22 : Int32 → kS → kS → Option (Unit × Nat × Nat)} (hk22 : ∀ {ad : Nat → Nat} {v3 : Int32} {k : kS} {z : kS} {H : Heap} {locs : List Loc} {ls : Array Slot} {cells slots uc us : Nat} {o : Unit}, True → jH A s H locs D g ad z (jY adk g k mo) [] → jl_has ls 24 [(0, .ref b), (1, .ref (adk 0)), (2, .ref (ad 0)), (3, .int v3)] → c22 v3 k z = some (o, uc, us) → cells + uc ≤ 600130 → slots + us ≤ 7301080 → W p l e room_1 s mm args below meth c H locs cells slots Q (F0 mm 22 ls [])) {ad : Nat → Nat} {v3 : Int32} {v4 : Int32} {v5 : Int32} {v9 : Int32} {xq49 : Nat} {xl49 : Int32} {xf49 : Nat → Int32} {xq55 : Nat} {xl55 : Int32} {xf55 : Nat → Int32} {xq61 : Nat} {xl61 : Int32} {xf61 : Nat → Int32} {k : kS} {z : kS} {H : Heap} {locs : List Loc} {ls : Array Slot} {cells slots uc us : Nat} {o : Unit} (hG : True) (hH : jH A s H locs D g ad z (jY adk g k mo) [jTi g xq49 xl49 xf49, jTi g xq55 xl55 xf55, jTi g xq61 xl61 xf61]) (hl : jl_has ls 24 [(0, .ref b), (1, .ref (adk 0)), (2, .ref (ad 0)), (3, .int v3), (4, .int v4), (5, .int v5), (6, .ref xq49), (7, .ref xq55), (8, .ref xq61), (9, .int v9)]) (hf : F_L_law_154 xs L c22 v3 v4 v5 v9 xl49 xf49 xl55 xf55 xl61 xf61 k z = some (o, uc, us)) (hc : cells + uc ≤ 600130) (hs : slots + us ≤ 7301080) : W p l e room_1 s mm args below meth c H locs cells slots Q (F0 mm 154 ls []) := by
  have hx := V.1
  have hb := V.2.1
  refine lv_iconst (v := 0) hx hb dL_law_154 (by decide) ?_
  refine jl_istore (lv' := [(10, .int 0), (0, .ref b), (1, .ref (adk 0)), (2, .ref (ad 0)), (3, .int v3), (4, .int v4), (5, .int v5), (6, .ref xq49), (7, .ref xq55), (8, .ref xq61), (9, .int v9)]) hx hb dL_law_155 hl (by decide) rfl (fun ls hl => ?_)
  refine lv_iconst (v := 0) hx hb dL_law_157 (by decide) ?_
  refine jl_istore (lv' := [(11, .int 0), (10, .int 0), (0, .ref b), (1, .ref (adk 0)), (2, .ref (ad 0)), (3, .int v3), (4, .int v4), (5, .int v5), (6, .ref xq49), (7, .ref xq55), (8, .ref xq61), (9, .int v9)]) hx hb dL_law_158 hl (by decide) rfl (fun ls hl => ?_)
  exact w_L_law_160 V hA LX SX hQ hk22 kN trivial hH (jl_sub hl [2, 3, 4, 5, 6, 7, 8, 9, 10, 11, 1, 0] rfl) hf hc hs
set_option maxHeartbeats 4000000 in
set_option maxRecDepth 100000 in
theorem w_L_law_140 (V : jV p s mm args meth c cL_law RL 24 (some .boolean) D g) (hA : ∀ q, s.heap.size ≤ q → A q) (LX : jLX l A s) (SX : jSX A s b L xs) (hQ : ∀ {H : Heap} {locs : List Loc} {ls : Array Slot} {cells slots : Nat}, va_S A s.heap H locs → cells ≤ 600130 → slots ≤ 7301080 → W p l e room_1 s mm args below meth c H locs cells slots Q (F0 mm 1222 ls [.int 1])) {c22 : Int32 → kS → kS → Option (Unit × Nat × Nat)} (hk22 : ∀ {ad : Nat → Nat} {v3 : Int32} {k : kS} {z : kS} {H : Heap} {locs : List Loc} {ls : Array Slot} {cells slots uc us : Nat} {o : Unit}, True → jH A s H locs D g ad z (jY adk g k mo) [] → jl_has ls 24 [(0, .ref b), (1, .ref (adk 0)), (2, .ref (ad 0)), (3, .int v3)] → c22 v3 k z = some (o, uc, us) → cells + uc ≤ 600130 → slots + us ≤ 7301080 → W p l e room_1 s mm args below meth c H locs cells slots Q (F0 mm 22 ls [])) {ad : Nat → Nat} {s0 : Int32} {v3 : Int32} {v4 : Int32} {v5 : Int32} {xq49 : Nat} {xl49 : Int32} {xf49 : Nat → Int32} {xq55 : Nat} {xl55 : Int32} {xf55 : Nat → Int32} {xq61 : Nat} {xl61 : Int32} {xf61 : Nat → Int32} {k : kS} {z : kS} {H : Heap} {locs : List Loc} {ls : Array Slot} {cells slots uc us : Nat} {o : Unit} (hG : True) (hH : jH A s H locs D g ad z (jY adk g k mo) [jTi g xq49 xl49 xf49, jTi g xq55 xl55 xf55, jTi g xq61 xl61 xf61]) (hl : jl_has ls 24 [(0, .ref b), (1, .ref (adk 0)), (2, .ref (ad 0)), (3, .int v3), (4, .int v4), (5, .int v5), (6, .ref xq49), (7, .ref xq55), (8, .ref xq61)]) (hf : F_L_law_140 xs L c22 s0 v3 v4 v5 xl49 xf49 xl55 xf55 xl61 xf61 k z = some (o, uc, us)) (hc : cells + uc ≤ 600130) (hs : slots + us ≤ 7301080) : W p l e room_1 s mm args below meth c H locs cells slots Q (F0 mm 140 ls [.int s0]) := by
  have hx := V.1
  have hb := V.2.1
  refine jl_istore (lv' := [(9, .int s0), (0, .ref b), (1, .ref (adk 0)), (2, .ref (ad 0)), (3, .int v3), (4, .int v4), (5, .int v5), (6, .ref xq49), (7, .ref xq55), (8, .ref xq61)]) hx hb dL_law_140 hl (by decide) rfl (fun ls hl => ?_)
  refine lv_aload_n hx hb dL_law_142 rfl (lv_at hl.1 2 rfl) ?_
  refine lv_aload_n hx hb dL_law_143 rfl (lv_at hl.1 3 rfl) ?_
  refine lv_iload hx hb dL_law_144 (lv_at hl.1 5 rfl) ?_
  obtain ⟨x140_1, hx140_1, hf⟩ := kbind hf
  obtain ⟨uc140_2, us140_3, hf, e1, e2⟩ := kadd_some2 hf
  have e1 : uc = x140_1.2.1 + uc140_2 := e1
  have e2 : us = x140_1.2.2 + us140_3 := e2
  have hc : cells + x140_1.2.1 + uc140_2 ≤ 600130 := by rw [Nat.add_assoc, ← e1]; exact hc
  have hs : slots + x140_1.2.2 + us140_3 ≤ 7301080 := by rw [Nat.add_assoc, ← e2]; exact hs
  have lc : cells + x140_1.2.1 ≤ 600130 := Nat.le_trans (Nat.le_add_right _ _) hc
  have ls2 : slots + x140_1.2.2 ≤ 7301080 := Nat.le_trans (Nat.le_add_right _ _) hs
  refine jl_calli hA hH (jl_runS (as := [.ref (adk 0), .ref (ad 0), .int v4]) (rest := []) V hA LX hH kYL_act kl_L_108 (c_L_act l LX.1 _ hx140_1 _) rfl rfl ⟨Nat.le_of_ble_eq_true rfl, Nat.le_of_ble_eq_true rfl⟩ rfl hl.1.1 (Nat.le_of_ble_eq_true rfl) dL_law_146 ⟨lc, ls2⟩ rfl) (fun ad140_1 H locs hm hH => ?_)
  have hl : jl_has ls 24 [(9, .int s0), (0, .ref b), (1, .ref (adk 0)), (2, .ref (ad140_1 0)), (3, .int v3), (4, .int v4), (5, .int v5), (6, .ref xq49), (7, .ref xq55), (8, .ref xq61)] := by simp only [show ad140_1 0 = _ from hm]; exact hl
  refine lv_if_ne (tgt := 154) hx hb dL_law_149 (by decide) (fun hq => ?_) (fun hq => ?_)
  · have hf := kneg hq hf
    exact w_L_law_154 V hA LX SX hQ hk22 trivial hH (jl_sub hl [1, 2, 3, 4, 5, 6, 7, 8, 9, 0] rfl) hf hc hs
  · have hf := kpos hq hf
    exact w_L_law_152 V hA LX SX hQ trivial (jH_sub hH [] (by decide) rfl) (jl_sub hl [] rfl) hf hc hs
set_option maxHeartbeats 4000000 in
set_option maxRecDepth 100000 in
theorem w_L_law_126 (V : jV p s mm args meth c cL_law RL 24 (some .boolean) D g) (hA : ∀ q, s.heap.size ≤ q → A q) (LX : jLX l A s) (SX : jSX A s b L xs) (hQ : ∀ {H : Heap} {locs : List Loc} {ls : Array Slot} {cells slots : Nat}, va_S A s.heap H locs → cells ≤ 600130 → slots ≤ 7301080 → W p l e room_1 s mm args below meth c H locs cells slots Q (F0 mm 1222 ls [.int 1])) {c22 : Int32 → kS → kS → Option (Unit × Nat × Nat)} (hk22 : ∀ {ad : Nat → Nat} {v3 : Int32} {k : kS} {z : kS} {H : Heap} {locs : List Loc} {ls : Array Slot} {cells slots uc us : Nat} {o : Unit}, True → jH A s H locs D g ad z (jY adk g k mo) [] → jl_has ls 24 [(0, .ref b), (1, .ref (adk 0)), (2, .ref (ad 0)), (3, .int v3)] → c22 v3 k z = some (o, uc, us) → cells + uc ≤ 600130 → slots + us ≤ 7301080 → W p l e room_1 s mm args below meth c H locs cells slots Q (F0 mm 22 ls [])) {ad : Nat → Nat} {v3 : Int32} {v4 : Int32} {v5 : Int32} {xq49 : Nat} {xl49 : Int32} {xf49 : Nat → Int32} {xq55 : Nat} {xl55 : Int32} {xf55 : Nat → Int32} {xq61 : Nat} {xl61 : Int32} {xf61 : Nat → Int32} {k : kS} {z : kS} {H : Heap} {locs : List Loc} {ls : Array Slot} {cells slots uc us : Nat} {o : Unit} (hG : True) (hH : jH A s H locs D g ad z (jY adk g k mo) [jTi g xq49 xl49 xf49, jTi g xq55 xl55 xf55, jTi g xq61 xl61 xf61]) (hl : jl_has ls 24 [(0, .ref b), (1, .ref (adk 0)), (2, .ref (ad 0)), (3, .int v3), (4, .int v4), (5, .int v5), (6, .ref xq49), (7, .ref xq55), (8, .ref xq61)]) (hf : F_L_law_126 xs L c22 v3 v4 v5 xl49 xf49 xl55 xf55 xl61 xf61 k z = some (o, uc, us)) (hc : cells + uc ≤ 600130) (hs : slots + us ≤ 7301080) : W p l e room_1 s mm args below meth c H locs cells slots Q (F0 mm 126 ls []) := by
  have hx := V.1
  have hb := V.2.1
  refine lv_iconst (v := 0) hx hb dL_law_126 (by decide) ?_
  refine lv_goto (tgt := 140) hx hb dL_law_127 (by decide) ?_
  exact w_L_law_140 V hA LX SX hQ hk22 trivial hH (jl_sub hl [0, 1, 2, 3, 4, 5, 6, 7, 8] rfl) hf hc hs
set_option maxHeartbeats 4000000 in
set_option maxRecDepth 100000 in
theorem w_L_law_130 (V : jV p s mm args meth c cL_law RL 24 (some .boolean) D g) (hA : ∀ q, s.heap.size ≤ q → A q) (LX : jLX l A s) (SX : jSX A s b L xs) (hQ : ∀ {H : Heap} {locs : List Loc} {ls : Array Slot} {cells slots : Nat}, va_S A s.heap H locs → cells ≤ 600130 → slots ≤ 7301080 → W p l e room_1 s mm args below meth c H locs cells slots Q (F0 mm 1222 ls [.int 1])) {c22 : Int32 → kS → kS → Option (Unit × Nat × Nat)} (hk22 : ∀ {ad : Nat → Nat} {v3 : Int32} {k : kS} {z : kS} {H : Heap} {locs : List Loc} {ls : Array Slot} {cells slots uc us : Nat} {o : Unit}, True → jH A s H locs D g ad z (jY adk g k mo) [] → jl_has ls 24 [(0, .ref b), (1, .ref (adk 0)), (2, .ref (ad 0)), (3, .int v3)] → c22 v3 k z = some (o, uc, us) → cells + uc ≤ 600130 → slots + us ≤ 7301080 → W p l e room_1 s mm args below meth c H locs cells slots Q (F0 mm 22 ls [])) {ad : Nat → Nat} {v3 : Int32} {v4 : Int32} {v5 : Int32} {xq49 : Nat} {xl49 : Int32} {xf49 : Nat → Int32} {xq55 : Nat} {xl55 : Int32} {xf55 : Nat → Int32} {xq61 : Nat} {xl61 : Int32} {xf61 : Nat → Int32} {k : kS} {z : kS} {H : Heap} {locs : List Loc} {ls : Array Slot} {cells slots uc us : Nat} {o : Unit} (hG : True) (hH : jH A s H locs D g ad z (jY adk g k mo) [jTi g xq49 xl49 xf49, jTi g xq55 xl55 xf55, jTi g xq61 xl61 xf61]) (hl : jl_has ls 24 [(0, .ref b), (1, .ref (adk 0)), (2, .ref (ad 0)), (3, .int v3), (4, .int v4), (5, .int v5), (6, .ref xq49), (7, .ref xq55), (8, .ref xq61)]) (hf : F_L_law_130 xs L c22 v3 v4 v5 xl49 xf49 xl55 xf55 xl61 xf61 k z = some (o, uc, us)) (hc : cells + uc ≤ 600130) (hs : slots + us ≤ 7301080) : W p l e room_1 s mm args below meth c H locs cells slots Q (F0 mm 130 ls []) := by
  have hx := V.1
  have hb := V.2.1
  refine lv_iload hx hb dL_law_130 (lv_at hl.1 4 rfl) ?_
  refine lv_bipush (v := 9) hx hb dL_law_132 (by decide) ?_
  refine lv_ishr hx hb dL_law_134 ?_
  refine lv_bipush (v := 12) hx hb dL_law_135 (by decide) ?_
  obtain ⟨x130_1, hx130_1, hf⟩ := kbind hf
  refine jr_calliR0 hA hH (jr_runS (as := [.int (v4 >>> (9 &&& 31)), .int 12]) (rest := []) V hH kYL_below kl_L_15 (c_L_below l _ _ hx130_1 _) rfl rfl ⟨Nat.le_of_ble_eq_true rfl, Nat.le_of_ble_eq_true rfl⟩ rfl hl.1.1 (Nat.le_of_ble_eq_true rfl) dL_law_137 ⟨by show cells + 0 ≤ 600130; omega, by show slots + 0 ≤ 7301080; omega⟩ rfl) (fun H locs hH => ?_)
  exact w_L_law_140 V hA LX SX hQ hk22 trivial hH (jl_sub hl [0, 1, 2, 3, 4, 5, 6, 7, 8] rfl) hf hc hs
set_option maxHeartbeats 4000000 in
set_option maxRecDepth 100000 in
theorem w_L_law_117 (V : jV p s mm args meth c cL_law RL 24 (some .boolean) D g) (hA : ∀ q, s.heap.size ≤ q → A q) (LX : jLX l A s) (SX : jSX A s b L xs) (hQ : ∀ {H : Heap} {locs : List Loc} {ls : Array Slot} {cells slots : Nat}, va_S A s.heap H locs → cells ≤ 600130 → slots ≤ 7301080 → W p l e room_1 s mm args below meth c H locs cells slots Q (F0 mm 1222 ls [.int 1])) {c22 : Int32 → kS → kS → Option (Unit × Nat × Nat)} (hk22 : ∀ {ad : Nat → Nat} {v3 : Int32} {k : kS} {z : kS} {H : Heap} {locs : List Loc} {ls : Array Slot} {cells slots uc us : Nat} {o : Unit}, True → jH A s H locs D g ad z (jY adk g k mo) [] → jl_has ls 24 [(0, .ref b), (1, .ref (adk 0)), (2, .ref (ad 0)), (3, .int v3)] → c22 v3 k z = some (o, uc, us) → cells + uc ≤ 600130 → slots + us ≤ 7301080 → W p l e room_1 s mm args below meth c H locs cells slots Q (F0 mm 22 ls [])) {ad : Nat → Nat} {v3 : Int32} {v4 : Int32} {v5 : Int32} {xq49 : Nat} {xl49 : Int32} {xf49 : Nat → Int32} {xq55 : Nat} {xl55 : Int32} {xf55 : Nat → Int32} {xq61 : Nat} {xl61 : Int32} {xf61 : Nat → Int32} {k : kS} {z : kS} {H : Heap} {locs : List Loc} {ls : Array Slot} {cells slots uc us : Nat} {o : Unit} (hG : True) (hH : jH A s H locs D g ad z (jY adk g k mo) [jTi g xq49 xl49 xf49, jTi g xq55 xl55 xf55, jTi g xq61 xl61 xf61]) (hl : jl_has ls 24 [(0, .ref b), (1, .ref (adk 0)), (2, .ref (ad 0)), (3, .int v3), (4, .int v4), (5, .int v5), (6, .ref xq49), (7, .ref xq55), (8, .ref xq61)]) (hf : F_L_law_117 xs L c22 v3 v4 v5 xl49 xf49 xl55 xf55 xl61 xf61 k z = some (o, uc, us)) (hc : cells + uc ≤ 600130) (hs : slots + us ≤ 7301080) : W p l e room_1 s mm args below meth c H locs cells slots Q (F0 mm 117 ls []) := by
  have hx := V.1
  have hb := V.2.1
  refine lv_aload_n hx hb dL_law_117 rfl (lv_at hl.1 1 rfl) ?_
  refine lv_iconst (v := 1) hx hb dL_law_118 (by decide) ?_
  obtain ⟨x117_1, hx117_1, hf⟩ := kbind hf
  obtain ⟨h117_2, hf⟩ := kif hf
  obtain ⟨uc117_3, us117_4, hf, e1, e2⟩ := kadd_some2 hf
  have e1 : uc = 4 + uc117_3 := e1
  have e2 : us = 24 + us117_4 := e2
  have hc : cells + 4 + uc117_3 ≤ 600130 := by rw [Nat.add_assoc, ← e1]; exact hc
  have hs : slots + 24 + us117_4 ≤ 7301080 := by rw [Nat.add_assoc, ← e2]; exact hs
  have lc : cells + 4 ≤ 600130 := Nat.le_trans (Nat.le_add_right _ _) hc
  have ls2 : slots + 24 ≤ 7301080 := Nat.le_trans (Nat.le_add_right _ _) hs
  refine jc_callx V hA LX hH kYX5_count kl_L_123 (c_X5_count l LX.1 _ hx117_1 _) (Decidable.not_not.mp h117_2) rfl rfl ⟨Nat.le_of_ble_eq_true rfl, Nat.le_of_ble_eq_true rfl⟩ rfl hl.1.1 (as := [.int 1]) (rest := []) (Nat.le_of_ble_eq_true rfl) dL_law_119 ⟨lc, ls2⟩ rfl (fun H locs hH => ?_)
  refine lv_iconst (v := 4) hx hb dL_law_122 (by decide) ?_
  refine lv_icmp_ge (tgt := 130) hx hb dL_law_123 (by decide) (fun hq => ?_) (fun hq => ?_)
  · have hf := kpos hq hf
    exact w_L_law_130 V hA LX SX hQ hk22 trivial hH (jl_sub hl [0, 1, 2, 3, 4, 5, 6, 7, 8] rfl) hf hc hs
  · have hf := kneg hq hf
    exact w_L_law_126 V hA LX SX hQ hk22 trivial hH (jl_sub hl [0, 1, 2, 3, 4, 5, 6, 7, 8] rfl) hf hc hs
set_option maxHeartbeats 4000000 in
set_option maxRecDepth 100000 in
theorem w_L_law_68 (V : jV p s mm args meth c cL_law RL 24 (some .boolean) D g) (hA : ∀ q, s.heap.size ≤ q → A q) (LX : jLX l A s) (SX : jSX A s b L xs) (hQ : ∀ {H : Heap} {locs : List Loc} {ls : Array Slot} {cells slots : Nat}, va_S A s.heap H locs → cells ≤ 600130 → slots ≤ 7301080 → W p l e room_1 s mm args below meth c H locs cells slots Q (F0 mm 1222 ls [.int 1])) {c22 : Int32 → kS → kS → Option (Unit × Nat × Nat)} (hk22 : ∀ {ad : Nat → Nat} {v3 : Int32} {k : kS} {z : kS} {H : Heap} {locs : List Loc} {ls : Array Slot} {cells slots uc us : Nat} {o : Unit}, True → jH A s H locs D g ad z (jY adk g k mo) [] → jl_has ls 24 [(0, .ref b), (1, .ref (adk 0)), (2, .ref (ad 0)), (3, .int v3)] → c22 v3 k z = some (o, uc, us) → cells + uc ≤ 600130 → slots + us ≤ 7301080 → W p l e room_1 s mm args below meth c H locs cells slots Q (F0 mm 22 ls [])) : ∀ (n : Nat) {ad : Nat → Nat} {v3 : Int32} {v4 : Int32} {v5 : Int32} {v9 : Int32} {xq49 : Nat} {xl49 : Int32} {xf49 : Nat → Int32} {xq55 : Nat} {xl55 : Int32} {xf55 : Nat → Int32} {xq61 : Nat} {xl61 : Int32} {xf61 : Nat → Int32} {k : kS} {z : kS} {H : Heap} {locs : List Loc} {ls : Array Slot} {cells slots uc us : Nat} {o : Unit}, True → jH A s H locs D g ad z (jY adk g k mo) [jTi g xq49 xl49 xf49, jTi g xq55 xl55 xf55, jTi g xq61 xl61 xf61] → jl_has ls 24 [(0, .ref b), (1, .ref (adk 0)), (2, .ref (ad 0)), (3, .int v3), (4, .int v4), (5, .int v5), (6, .ref xq49), (7, .ref xq55), (8, .ref xq61), (9, .int v9)] → F_L_law_68 xs L c22 n v3 v4 v5 v9 xl49 xf49 xl55 xf55 xl61 xf61 k z = some (o, uc, us) → cells + uc ≤ 600130 → slots + us ≤ 7301080 → W p l e room_1 s mm args below meth c H locs cells slots Q (F0 mm 68 ls []) := by
  have hx := V.1
  have hb := V.2.1
  intro n
  induction n with
  | zero => intro _ _ _ _ _ _ _ _ _ _ _ _ _ _ _ _ _ _ _ _ _ _ _ _ hG hH hl hf hc hs; cases hf
  | succ n hk68 =>
    intro ad v3 v4 v5 v9 xq49 xl49 xf49 xq55 xl55 xf55 xq61 xl61 xf61 k z H locs ls cells slots uc us o hG hH hl hf hc hs
    refine lv_iload hx hb dL_law_68 (lv_at hl.1 9 rfl) ?_
    refine lv_iload hx hb dL_law_70 (lv_at hl.1 5 rfl) ?_
    refine lv_icmp_ge (tgt := 117) hx hb dL_law_72 (by decide) (fun hq => ?_) (fun hq => ?_)
    · have hf := kpos hq hf
      exact w_L_law_117 V hA LX SX hQ hk22 trivial hH (jl_sub hl [0, 1, 2, 3, 4, 5, 6, 7, 8] rfl) hf hc hs
    · have hf := kneg hq hf
      exact w_L_law_75 V hA LX SX hQ hk22 hk68 trivial hH (jl_sub hl [0, 1, 2, 3, 4, 5, 6, 7, 8, 9] rfl) hf hc hs
set_option maxHeartbeats 4000000 in
set_option maxRecDepth 100000 in
theorem w_L_law_28 (V : jV p s mm args meth c cL_law RL 24 (some .boolean) D g) (hA : ∀ q, s.heap.size ≤ q → A q) (LX : jLX l A s) (SX : jSX A s b L xs) (hQ : ∀ {H : Heap} {locs : List Loc} {ls : Array Slot} {cells slots : Nat}, va_S A s.heap H locs → cells ≤ 600130 → slots ≤ 7301080 → W p l e room_1 s mm args below meth c H locs cells slots Q (F0 mm 1222 ls [.int 1])) {c22 : Int32 → kS → kS → Option (Unit × Nat × Nat)} (hk22 : ∀ {ad : Nat → Nat} {v3 : Int32} {k : kS} {z : kS} {H : Heap} {locs : List Loc} {ls : Array Slot} {cells slots uc us : Nat} {o : Unit}, True → jH A s H locs D g ad z (jY adk g k mo) [] → jl_has ls 24 [(0, .ref b), (1, .ref (adk 0)), (2, .ref (ad 0)), (3, .int v3)] → c22 v3 k z = some (o, uc, us) → cells + uc ≤ 600130 → slots + us ≤ 7301080 → W p l e room_1 s mm args below meth c H locs cells slots Q (F0 mm 22 ls [])) {ad : Nat → Nat} {v3 : Int32} {k : kS} {z : kS} {H : Heap} {locs : List Loc} {ls : Array Slot} {cells slots uc us : Nat} {o : Unit} (hG : True) (hH : jH A s H locs D g ad z (jY adk g k mo) []) (hl : jl_has ls 24 [(0, .ref b), (1, .ref (adk 0)), (2, .ref (ad 0)), (3, .int v3)]) (hf : F_L_law_28 xs L c22 v3 k z = some (o, uc, us)) (hc : cells + uc ≤ 600130) (hs : slots + us ≤ 7301080) : W p l e room_1 s mm args below meth c H locs cells slots Q (F0 mm 28 ls []) := by
  have hx := V.1
  have hb := V.2.1
  refine lv_aload_n hx hb dL_law_28 rfl (lv_at hl.1 0 rfl) ?_
  refine lv_iload_n hx hb dL_law_29 rfl (lv_at hl.1 3 rfl) ?_
  obtain ⟨x28_1, hx28_1, hf⟩ := kbind hf
  refine jl_cell V SX hH hx28_1 (Nat.le_of_ble_eq_true rfl) (Nat.le_of_ble_eq_true rfl) hl.1.1 (Nat.le_of_ble_eq_true rfl) dL_law_30 ⟨by show cells + 0 ≤ 600130; omega, by show slots + 0 ≤ 7301080; omega⟩ (fun H locs hH => ?_) hA
  refine lv_bipush (v := 83) hx hb dL_law_33 (by decide) ?_
  refine lv_iload_n hx hb dL_law_35 rfl (lv_at hl.1 3 rfl) ?_
  refine lv_imul hx hb dL_law_36 ?_
  refine lv_iadd hx hb dL_law_37 ?_
  refine jl_istore (lv' := [(4, .int (x28_1 + (83 * v3))), (0, .ref b), (1, .ref (adk 0)), (2, .ref (ad 0)), (3, .int v3)]) hx hb dL_law_38 hl (by decide) rfl (fun ls hl => ?_)
  refine lv_aload_n hx hb dL_law_40 rfl (lv_at hl.1 2 rfl) ?_
  refine lv_iconst (v := 4) hx hb dL_law_41 (by decide) ?_
  obtain ⟨x28_2, hx28_2, hf⟩ := kbind hf
  obtain ⟨h28_3, hf⟩ := kif hf
  obtain ⟨uc28_4, us28_5, hf, e1, e2⟩ := kadd_some2 hf
  have e1 : uc = 4 + uc28_4 := e1
  have e2 : us = 24 + us28_5 := e2
  have hc : cells + 4 + uc28_4 ≤ 600130 := by rw [Nat.add_assoc, ← e1]; exact hc
  have hs : slots + 24 + us28_5 ≤ 7301080 := by rw [Nat.add_assoc, ← e2]; exact hs
  have lc : cells + 4 ≤ 600130 := Nat.le_trans (Nat.le_add_right _ _) hc
  have ls2 : slots + 24 ≤ 7301080 := Nat.le_trans (Nat.le_add_right _ _) hs
  refine jc_callx V hA LX hH kYX5_count kl_L_123 (c_X5_count l LX.1 _ hx28_2 _) (Decidable.not_not.mp h28_3) rfl rfl ⟨Nat.le_of_ble_eq_true rfl, Nat.le_of_ble_eq_true rfl⟩ rfl hl.1.1 (as := [.int 4]) (rest := []) (Nat.le_of_ble_eq_true rfl) dL_law_42 ⟨lc, ls2⟩ rfl (fun H locs hH => ?_)
  refine jl_istore (lv' := [(5, .int x28_2.2), (4, .int (x28_1 + (83 * v3))), (0, .ref b), (1, .ref (adk 0)), (2, .ref (ad 0)), (3, .int v3)]) hx hb dL_law_45 hl (by decide) rfl (fun ls hl => ?_)
  refine lv_iload hx hb dL_law_47 (lv_at hl.1 0 rfl) ?_
  obtain ⟨h28_6, hf⟩ := kif hf
  obtain ⟨uc28_7, us28_8, hf, e1, e2⟩ := kadd_some2 hf
  have e1 : uc28_4 = 1 + uc28_7 := e1
  have e2 : us28_5 = x28_2.2.toNatClampNeg + us28_8 := e2
  have hc : cells + 4 + 1 + uc28_7 ≤ 600130 := by rw [Nat.add_assoc, ← e1]; exact hc
  have hs : slots + 24 + x28_2.2.toNatClampNeg + us28_8 ≤ 7301080 := by rw [Nat.add_assoc, ← e2]; exact hs
  have lc : cells + 4 + 1 ≤ 600130 := Nat.le_trans (Nat.le_add_right _ _) hc
  have ls2 : slots + 24 + x28_2.2.toNatClampNeg ≤ 7301080 := Nat.le_trans (Nat.le_add_right _ _) hs
  refine jt_new V hA hH (fun q => h28_6 (Or.inl q)) (Nat.not_lt.mp fun q => h28_6 (Or.inr q)) lc ls2 dL_law_49 (fun xq49 H hH => ?_)
  refine jl_astore (o := some xq49) (lv' := [(6, .ref xq49), (5, .int x28_2.2), (4, .int (x28_1 + (83 * v3))), (0, .ref b), (1, .ref (adk 0)), (2, .ref (ad 0)), (3, .int v3)]) hx hb dL_law_51 hl (by decide) rfl (fun ls hl => ?_)
  refine lv_iload hx hb dL_law_53 (lv_at hl.1 1 rfl) ?_
  obtain ⟨h28_9, hf⟩ := kif hf
  obtain ⟨uc28_10, us28_11, hf, e1, e2⟩ := kadd_some2 hf
  have e1 : uc28_7 = 1 + uc28_10 := e1
  have e2 : us28_8 = x28_2.2.toNatClampNeg + us28_11 := e2
  have hc : cells + 4 + 1 + 1 + uc28_10 ≤ 600130 := by rw [Nat.add_assoc, ← e1]; exact hc
  have hs : slots + 24 + x28_2.2.toNatClampNeg + x28_2.2.toNatClampNeg + us28_11 ≤ 7301080 := by rw [Nat.add_assoc, ← e2]; exact hs
  have lc : cells + 4 + 1 + 1 ≤ 600130 := Nat.le_trans (Nat.le_add_right _ _) hc
  have ls2 : slots + 24 + x28_2.2.toNatClampNeg + x28_2.2.toNatClampNeg ≤ 7301080 := Nat.le_trans (Nat.le_add_right _ _) hs
  refine jt_new V hA hH (fun q => h28_9 (Or.inl q)) (Nat.not_lt.mp fun q => h28_9 (Or.inr q)) lc ls2 dL_law_55 (fun xq55 H hH => ?_)
  refine jl_astore (o := some xq55) (lv' := [(7, .ref xq55), (6, .ref xq49), (5, .int x28_2.2), (4, .int (x28_1 + (83 * v3))), (0, .ref b), (1, .ref (adk 0)), (2, .ref (ad 0)), (3, .int v3)]) hx hb dL_law_57 hl (by decide) rfl (fun ls hl => ?_)
  refine lv_iload hx hb dL_law_59 (lv_at hl.1 2 rfl) ?_
  obtain ⟨h28_12, hf⟩ := kif hf
  obtain ⟨uc28_13, us28_14, hf, e1, e2⟩ := kadd_some2 hf
  have e1 : uc28_10 = 1 + uc28_13 := e1
  have e2 : us28_11 = x28_2.2.toNatClampNeg + us28_14 := e2
  have hc : cells + 4 + 1 + 1 + 1 + uc28_13 ≤ 600130 := by rw [Nat.add_assoc, ← e1]; exact hc
  have hs : slots + 24 + x28_2.2.toNatClampNeg + x28_2.2.toNatClampNeg + x28_2.2.toNatClampNeg + us28_14 ≤ 7301080 := by rw [Nat.add_assoc, ← e2]; exact hs
  have lc : cells + 4 + 1 + 1 + 1 ≤ 600130 := Nat.le_trans (Nat.le_add_right _ _) hc
  have ls2 : slots + 24 + x28_2.2.toNatClampNeg + x28_2.2.toNatClampNeg + x28_2.2.toNatClampNeg ≤ 7301080 := Nat.le_trans (Nat.le_add_right _ _) hs
  refine jt_new V hA hH (fun q => h28_12 (Or.inl q)) (Nat.not_lt.mp fun q => h28_12 (Or.inr q)) lc ls2 dL_law_61 (fun xq61 H hH => ?_)
  refine jl_astore (o := some xq61) (lv' := [(8, .ref xq61), (7, .ref xq55), (6, .ref xq49), (5, .int x28_2.2), (4, .int (x28_1 + (83 * v3))), (0, .ref b), (1, .ref (adk 0)), (2, .ref (ad 0)), (3, .int v3)]) hx hb dL_law_63 hl (by decide) rfl (fun ls hl => ?_)
  refine lv_iconst (v := 0) hx hb dL_law_65 (by decide) ?_
  refine jl_istore (lv' := [(9, .int 0), (8, .ref xq61), (7, .ref xq55), (6, .ref xq49), (5, .int x28_2.2), (4, .int (x28_1 + (83 * v3))), (0, .ref b), (1, .ref (adk 0)), (2, .ref (ad 0)), (3, .int v3)]) hx hb dL_law_66 hl (by decide) rfl (fun ls hl => ?_)
  exact w_L_law_68 V hA LX SX hQ hk22 kN trivial hH (jl_sub hl [6, 7, 8, 9, 5, 4, 3, 2, 1, 0] rfl) hf hc hs
set_option maxHeartbeats 4000000 in
set_option maxRecDepth 100000 in
theorem w_L_law_1217 (V : jV p s mm args meth c cL_law RL 24 (some .boolean) D g) (hA : ∀ q, s.heap.size ≤ q → A q) (LX : jLX l A s) (SX : jSX A s b L xs) (hQ : ∀ {H : Heap} {locs : List Loc} {ls : Array Slot} {cells slots : Nat}, va_S A s.heap H locs → cells ≤ 600130 → slots ≤ 7301080 → W p l e room_1 s mm args below meth c H locs cells slots Q (F0 mm 1222 ls [.int 1])) {ad : Nat → Nat} {k : kS} {z : kS} {H : Heap} {locs : List Loc} {ls : Array Slot} {cells slots uc us : Nat} {o : Unit} (hG : True) (hH : jH A s H locs D g ad z (jY adk g k mo) []) (hl : jl_has ls 24 [(1, .ref (adk 0)), (2, .ref (ad 0))]) (hf : F_L_law_1217 xs L k z = some (o, uc, us)) (hc : cells + uc ≤ 600130) (hs : slots + us ≤ 7301080) : W p l e room_1 s mm args below meth c H locs cells slots Q (F0 mm 1217 ls []) := by
  have hx := V.1
  have hb := V.2.1
  refine lv_aload_n hx hb dL_law_1217 rfl (lv_at hl.1 1 rfl) ?_
  refine lv_aload_n hx hb dL_law_1218 rfl (lv_at hl.1 0 rfl) ?_
  obtain ⟨x1217_1, hx1217_1, hf⟩ := kbind hf
  obtain ⟨uc1217_2, us1217_3, hf, e1, e2⟩ := kadd_some2 hf
  have e1 : uc = x1217_1.2.1 + uc1217_2 := e1
  have e2 : us = x1217_1.2.2 + us1217_3 := e2
  have hc : cells + x1217_1.2.1 + uc1217_2 ≤ 600130 := by rw [Nat.add_assoc, ← e1]; exact hc
  have hs : slots + x1217_1.2.2 + us1217_3 ≤ 7301080 := by rw [Nat.add_assoc, ← e2]; exact hs
  have lc : cells + x1217_1.2.1 ≤ 600130 := Nat.le_trans (Nat.le_add_right _ _) hc
  have ls2 : slots + x1217_1.2.2 ≤ 7301080 := Nat.le_trans (Nat.le_add_right _ _) hs
  refine jl_calliR hA hH (jl_runV (as := [.ref (adk 0)]) (rest := []) V hA LX hH kYX8_isSame kl_L_147 (c_X8_isSame l LX.1 hx1217_1 _) rfl rfl ⟨Nat.le_of_ble_eq_true rfl, Nat.le_of_ble_eq_true rfl⟩ rfl hl.1.1 (Nat.le_of_ble_eq_true rfl) dL_law_1219 ⟨lc, ls2⟩ rfl) (fun H locs hH => ?_)
  obtain ⟨h1217_4, hf⟩ := kif hf
  rw [show x1217_1.1.1 = 1 from Decidable.not_not.mp h1217_4]
  exact hQ hH.2.2 (Nat.le_trans (Nat.le_add_right _ _) hc) (Nat.le_trans (Nat.le_add_right _ _) hs)
set_option maxHeartbeats 4000000 in
set_option maxRecDepth 100000 in
theorem w_L_law_22 (V : jV p s mm args meth c cL_law RL 24 (some .boolean) D g) (hA : ∀ q, s.heap.size ≤ q → A q) (LX : jLX l A s) (SX : jSX A s b L xs) (hQ : ∀ {H : Heap} {locs : List Loc} {ls : Array Slot} {cells slots : Nat}, va_S A s.heap H locs → cells ≤ 600130 → slots ≤ 7301080 → W p l e room_1 s mm args below meth c H locs cells slots Q (F0 mm 1222 ls [.int 1])) : ∀ (n : Nat) {ad : Nat → Nat} {v3 : Int32} {k : kS} {z : kS} {H : Heap} {locs : List Loc} {ls : Array Slot} {cells slots uc us : Nat} {o : Unit}, True → jH A s H locs D g ad z (jY adk g k mo) [] → jl_has ls 24 [(0, .ref b), (1, .ref (adk 0)), (2, .ref (ad 0)), (3, .int v3)] → F_L_law_22 xs L n v3 k z = some (o, uc, us) → cells + uc ≤ 600130 → slots + us ≤ 7301080 → W p l e room_1 s mm args below meth c H locs cells slots Q (F0 mm 22 ls []) := by
  have hx := V.1
  have hb := V.2.1
  intro n
  induction n with
  | zero => intro _ _ _ _ _ _ _ _ _ _ _ _ hG hH hl hf hc hs; cases hf
  | succ n hk22 =>
    intro ad v3 k z H locs ls cells slots uc us o hG hH hl hf hc hs
    refine lv_iload_n hx hb dL_law_22 rfl (lv_at hl.1 3 rfl) ?_
    refine lv_bipush (v := 14) hx hb dL_law_23 (by decide) ?_
    refine lv_icmp_ge (tgt := 1217) hx hb dL_law_25 (by decide) (fun hq => ?_) (fun hq => ?_)
    · have hf := kpos hq hf
      exact w_L_law_1217 V hA LX SX hQ trivial hH (jl_sub hl [1, 2] rfl) hf hc hs
    · have hf := kneg hq hf
      exact w_L_law_28 V hA LX SX hQ hk22 trivial hH (jl_sub hl [0, 1, 2, 3] rfl) hf hc hs
set_option maxHeartbeats 4000000 in
set_option maxRecDepth 100000 in
theorem w_L_law_20 (V : jV p s mm args meth c cL_law RL 24 (some .boolean) D g) (hA : ∀ q, s.heap.size ≤ q → A q) (LX : jLX l A s) (SX : jSX A s b L xs) (hQ : ∀ {H : Heap} {locs : List Loc} {ls : Array Slot} {cells slots : Nat}, va_S A s.heap H locs → cells ≤ 600130 → slots ≤ 7301080 → W p l e room_1 s mm args below meth c H locs cells slots Q (F0 mm 1222 ls [.int 1])) {ad : Nat → Nat} {k : kS} {z : kS} {H : Heap} {locs : List Loc} {ls : Array Slot} {cells slots uc us : Nat} {o : Unit} (hG : True) (hH : jH A s H locs D g ad z (jY adk g k mo) []) (hl : jl_has ls 24 [(0, .ref b), (1, .ref (adk 0)), (2, .ref (ad 0))]) (hf : F_L_law_20 xs L k z = some (o, uc, us)) (hc : cells + uc ≤ 600130) (hs : slots + us ≤ 7301080) : W p l e room_1 s mm args below meth c H locs cells slots Q (F0 mm 20 ls []) := by
  have hx := V.1
  have hb := V.2.1
  refine lv_iconst (v := 0) hx hb dL_law_20 (by decide) ?_
  refine jl_istore_n (lv' := [(3, .int 0), (0, .ref b), (1, .ref (adk 0)), (2, .ref (ad 0))]) hx hb dL_law_21 rfl hl (by decide) rfl (fun ls hl => ?_)
  exact w_L_law_22 V hA LX SX hQ kN trivial hH (jl_sub hl [1, 2, 3, 0] rfl) hf hc hs
end
