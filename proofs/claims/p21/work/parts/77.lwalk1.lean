/-! ISSAME: walk and contract -/
section
variable {p : Program} {l : Launch} {e : Env} {s : State} {mm : MethodId} {args : Array Value} {below : List Frame} {meth : Method} {c : Code} {D : va_G} {g : Nat → ClassId} {A : Nat → Prop} {adk : Nat → Nat} {mo : kS}
variable {ad : Nat → Nat} {z : kS}

abbrev rm_X8_isSame (mc ms : Nat) : Room := { frames := 50, cells := mc, slots := ms, locals := 1387 }
set_option maxHeartbeats 4000000 in
set_option maxRecDepth 100000 in
theorem w_X8_isSame_203 (V : jV p s mm args meth c cX8_isSame RX8 15 (some .boolean) D g) (hA : ∀ q, s.heap.size ≤ q → A q) (LX : jLX l A s) {k : kS} {H : Heap} {locs : List Loc} {ls : Array Slot} {cells slots mc ms uc us : Nat} {o : (Int32 × kS)} (hH : jH A s H locs D g ad z (jY adk g k mo) []) (hl : jl_has ls 15 []) (hf : F_X8_isSame_203 z k = some (o, uc, us)) (hc : cells + uc = mc) (hs : slots + us = ms) : W p l e (rm_X8_isSame mc ms) s mm args below meth c H locs cells slots (jLGi below args s D g A (fun a => a = ad) o.1 adk o.2 mo z mc ms) (F0 mm 203 ls []) := by
  have hx := V.1
  have hb := V.2.1
  refine lv_iconst (v := 0) hx hb dX8_isSame_203 (by decide) ?_
  obtain ⟨h203_1, hf⟩ := kif hf
  cases hf
  subst hc
  subst hs
  exact jl_zret (G := fun a => a = ad) V rfl hH (Decidable.not_not.mp h203_1) dX8_isSame_204
set_option maxHeartbeats 4000000 in
set_option maxRecDepth 100000 in
theorem w_X8_isSame_205 (V : jV p s mm args meth c cX8_isSame RX8 15 (some .boolean) D g) (hA : ∀ q, s.heap.size ≤ q → A q) (LX : jLX l A s) {c30 : Int32 → Int32 → Int32 → Int32 → Int32 → Int32 → Int32 → Int32 → kS → Option ((Int32 × kS) × Nat × Nat)} (hk30 : ∀ {v2 : Int32} {v3 : Int32} {v4 : Int32} {v5 : Int32} {v6 : Int32} {v7 : Int32} {v9 : Int32} {v10 : Int32} {k : kS} {H : Heap} {locs : List Loc} {ls : Array Slot} {cells slots mc ms uc us : Nat} {o : (Int32 × kS)}, jH A s H locs D g ad z (jY adk g k mo) [] → jl_has ls 15 [(0, .ref (ad 0)), (1, .ref (adk 0)), (2, .int v2), (3, .int v3), (4, .int v4), (5, .int v5), (6, .int v6), (7, .int v7), (8, .ref (ad 4)), (9, .int v9), (10, .int v10)] → c30 v2 v3 v4 v5 v6 v7 v9 v10 k = some (o, uc, us) → cells + uc = mc → slots + us = ms → W p l e (rm_X8_isSame mc ms) s mm args below meth c H locs cells slots (jLGi below args s D g A (fun a => a = ad) o.1 adk o.2 mo z mc ms) (F0 mm 30 ls [])) {c177 : Int32 → Int32 → Int32 → Int32 → Int32 → Int32 → Int32 → Int32 → Int32 → Int32 → Int32 → Int32 → (Nat → Int32) → kS → Option ((Int32 × kS) × Nat × Nat)} (hk177 : ∀ {v2 : Int32} {v3 : Int32} {v4 : Int32} {v5 : Int32} {v6 : Int32} {v7 : Int32} {v9 : Int32} {v10 : Int32} {v11 : Int32} {v12 : Int32} {v14 : Int32} {xq61 : Nat} {xl61 : Int32} {xf61 : Nat → Int32} {k : kS} {H : Heap} {locs : List Loc} {ls : Array Slot} {cells slots mc ms uc us : Nat} {o : (Int32 × kS)}, jH A s H locs D g ad z (jY adk g k mo) [jTi g xq61 xl61 xf61] → jl_has ls 15 [(0, .ref (ad 0)), (1, .ref (adk 0)), (2, .int v2), (3, .int v3), (4, .int v4), (5, .int v5), (6, .int v6), (7, .int v7), (8, .ref (ad 4)), (9, .int v9), (10, .int v10), (11, jv ad 1 v11), (12, .int v12), (13, .ref xq61), (14, .int v14)] → c177 v2 v3 v4 v5 v6 v7 v9 v10 v11 v12 v14 xl61 xf61 k = some (o, uc, us) → cells + uc = mc → slots + us = ms → W p l e (rm_X8_isSame mc ms) s mm args below meth c H locs cells slots (jLGi below args s D g A (fun a => a = ad) o.1 adk o.2 mo z mc ms) (F0 mm 177 ls [])) {v2 : Int32} {v3 : Int32} {v4 : Int32} {v5 : Int32} {v6 : Int32} {v7 : Int32} {v9 : Int32} {v10 : Int32} {v11 : Int32} {v12 : Int32} {v14 : Int32} {xq61 : Nat} {xl61 : Int32} {xf61 : Nat → Int32} {k : kS} {H : Heap} {locs : List Loc} {ls : Array Slot} {cells slots mc ms uc us : Nat} {o : (Int32 × kS)} (hH : jH A s H locs D g ad z (jY adk g k mo) [jTi g xq61 xl61 xf61]) (hl : jl_has ls 15 [(0, .ref (ad 0)), (1, .ref (adk 0)), (2, .int v2), (3, .int v3), (4, .int v4), (5, .int v5), (6, .int v6), (7, .int v7), (8, .ref (ad 4)), (9, .int v9), (10, .int v10), (11, jv ad 1 v11), (12, .int v12), (13, .ref xq61), (14, .int v14)]) (hf : F_X8_isSame_205 z c30 c177 v2 v3 v4 v5 v6 v7 v9 v10 v11 v12 v14 xl61 xf61 k = some (o, uc, us)) (hc : cells + uc = mc) (hs : slots + us = ms) : W p l e (rm_X8_isSame mc ms) s mm args below meth c H locs cells slots (jLGi below args s D g A (fun a => a = ad) o.1 adk o.2 mo z mc ms) (F0 mm 205 ls []) := by
  have hx := V.1
  have hb := V.2.1
  refine jl_iinc (v := (v14 + 1)) (lv' := [(14, .int (v14 + 1)), (0, .ref (ad 0)), (1, .ref (adk 0)), (2, .int v2), (3, .int v3), (4, .int v4), (5, .int v5), (6, .int v6), (7, .int v7), (8, .ref (ad 4)), (9, .int v9), (10, .int v10), (11, jv ad 1 v11), (12, .int v12), (13, .ref xq61)]) hx hb dX8_isSame_205 hl (k := 14) rfl rfl (by decide) rfl (fun ls hl => ?_)
  refine lv_goto (tgt := 177) hx hb dX8_isSame_208 (by decide) ?_
  exact hk177 hH (jl_sub hl [1, 2, 3, 4, 5, 6, 7, 8, 9, 10, 11, 12, 13, 14, 0] rfl) hf hc hs
set_option maxHeartbeats 4000000 in
set_option maxRecDepth 100000 in
theorem w_X8_isSame_184 (V : jV p s mm args meth c cX8_isSame RX8 15 (some .boolean) D g) (hA : ∀ q, s.heap.size ≤ q → A q) (LX : jLX l A s) {c30 : Int32 → Int32 → Int32 → Int32 → Int32 → Int32 → Int32 → Int32 → kS → Option ((Int32 × kS) × Nat × Nat)} (hk30 : ∀ {v2 : Int32} {v3 : Int32} {v4 : Int32} {v5 : Int32} {v6 : Int32} {v7 : Int32} {v9 : Int32} {v10 : Int32} {k : kS} {H : Heap} {locs : List Loc} {ls : Array Slot} {cells slots mc ms uc us : Nat} {o : (Int32 × kS)}, jH A s H locs D g ad z (jY adk g k mo) [] → jl_has ls 15 [(0, .ref (ad 0)), (1, .ref (adk 0)), (2, .int v2), (3, .int v3), (4, .int v4), (5, .int v5), (6, .int v6), (7, .int v7), (8, .ref (ad 4)), (9, .int v9), (10, .int v10)] → c30 v2 v3 v4 v5 v6 v7 v9 v10 k = some (o, uc, us) → cells + uc = mc → slots + us = ms → W p l e (rm_X8_isSame mc ms) s mm args below meth c H locs cells slots (jLGi below args s D g A (fun a => a = ad) o.1 adk o.2 mo z mc ms) (F0 mm 30 ls [])) {c177 : Int32 → Int32 → Int32 → Int32 → Int32 → Int32 → Int32 → Int32 → Int32 → Int32 → Int32 → Int32 → (Nat → Int32) → kS → Option ((Int32 × kS) × Nat × Nat)} (hk177 : ∀ {v2 : Int32} {v3 : Int32} {v4 : Int32} {v5 : Int32} {v6 : Int32} {v7 : Int32} {v9 : Int32} {v10 : Int32} {v11 : Int32} {v12 : Int32} {v14 : Int32} {xq61 : Nat} {xl61 : Int32} {xf61 : Nat → Int32} {k : kS} {H : Heap} {locs : List Loc} {ls : Array Slot} {cells slots mc ms uc us : Nat} {o : (Int32 × kS)}, jH A s H locs D g ad z (jY adk g k mo) [jTi g xq61 xl61 xf61] → jl_has ls 15 [(0, .ref (ad 0)), (1, .ref (adk 0)), (2, .int v2), (3, .int v3), (4, .int v4), (5, .int v5), (6, .int v6), (7, .int v7), (8, .ref (ad 4)), (9, .int v9), (10, .int v10), (11, jv ad 1 v11), (12, .int v12), (13, .ref xq61), (14, .int v14)] → c177 v2 v3 v4 v5 v6 v7 v9 v10 v11 v12 v14 xl61 xf61 k = some (o, uc, us) → cells + uc = mc → slots + us = ms → W p l e (rm_X8_isSame mc ms) s mm args below meth c H locs cells slots (jLGi below args s D g A (fun a => a = ad) o.1 adk o.2 mo z mc ms) (F0 mm 177 ls [])) {v2 : Int32} {v3 : Int32} {v4 : Int32} {v5 : Int32} {v6 : Int32} {v7 : Int32} {v9 : Int32} {v10 : Int32} {v11 : Int32} {v12 : Int32} {v14 : Int32} {xq61 : Nat} {xl61 : Int32} {xf61 : Nat → Int32} {k : kS} {H : Heap} {locs : List Loc} {ls : Array Slot} {cells slots mc ms uc us : Nat} {o : (Int32 × kS)} (hH : jH A s H locs D g ad z (jY adk g k mo) [jTi g xq61 xl61 xf61]) (hl : jl_has ls 15 [(0, .ref (ad 0)), (1, .ref (adk 0)), (2, .int v2), (3, .int v3), (4, .int v4), (5, .int v5), (6, .int v6), (7, .int v7), (8, .ref (ad 4)), (9, .int v9), (10, .int v10), (11, jv ad 1 v11), (12, .int v12), (13, .ref xq61), (14, .int v14)]) (hf : F_X8_isSame_184 z c30 c177 v2 v3 v4 v5 v6 v7 v9 v10 v11 v12 v14 xl61 xf61 k = some (o, uc, us)) (hc : cells + uc = mc) (hs : slots + us = ms) : W p l e (rm_X8_isSame mc ms) s mm args below meth c H locs cells slots (jLGi below args s D g A (fun a => a = ad) o.1 adk o.2 mo z mc ms) (F0 mm 184 ls []) := by
  have hx := V.1
  have hb := V.2.1
  refine lv_aload_n hx hb dX8_isSame_184 rfl (lv_at hl.1 1 rfl) ?_
  refine jl_aload hx hb dX8_isSame_185 (lv_at hl.1 11 rfl) ?_
  obtain ⟨h184_1, hf⟩ := kif hf
  refine jg_P V hH h184_1 0 (by decide) kf_X8_22 rfl dX8_isSame_187 ?_
  refine lv_iload hx hb dX8_isSame_190 (lv_at hl.1 14 rfl) ?_
  obtain ⟨x184_2, hx184_2, hf⟩ := kbind hf
  obtain ⟨h184_3, hf⟩ := kif hf
  obtain ⟨uc184_4, us184_5, hf, e1, e2⟩ := kadd_some2 hf
  have e1 : uc = 4 + uc184_4 := e1
  have e2 : us = 24 + us184_5 := e2
  have hc : cells + 4 + uc184_4 = mc := by rw [Nat.add_assoc, ← e1]; exact hc
  have hs : slots + 24 + us184_5 = ms := by rw [Nat.add_assoc, ← e2]; exact hs
  have lc : cells + 4 ≤ mc := Nat.le.intro hc
  have ls2 : slots + 24 ≤ ms := Nat.le.intro hs
  refine jc_callx V hA LX hH kYX5_person kl_X8_132 (c_X5_person l LX.1 _ _ hx184_2 _) (Decidable.not_not.mp h184_3) rfl rfl ⟨Nat.le_of_ble_eq_true rfl, Nat.le_of_ble_eq_true rfl⟩ rfl hl.1.1 (as := [.int (z (4 * v11.toNatClampNeg + 1) 0), .int v14]) (rest := []) (Nat.le_of_ble_eq_true rfl) dX8_isSame_192 ⟨lc, ls2⟩ rfl (fun H locs hH => ?_)
  refine lv_aload hx hb dX8_isSame_195 (lv_at hl.1 13 rfl) ?_
  refine lv_iload hx hb dX8_isSame_197 (lv_at hl.1 14 rfl) ?_
  obtain ⟨h184_6, hf⟩ := kif hf
  refine jt_ald V hH 0 rfl h184_6 dX8_isSame_199 ?_
  refine lv_icmp_eq (tgt := 205) hx hb dX8_isSame_200 (by decide) (fun hq => ?_) (fun hq => ?_)
  · have hf := kpos hq hf
    exact w_X8_isSame_205 V hA LX hk30 hk177 hH (jl_sub hl [0, 1, 2, 3, 4, 5, 6, 7, 8, 9, 10, 11, 12, 13, 14] rfl) hf hc hs
  · have hf := kneg hq hf
    exact w_X8_isSame_203 V hA LX (jH_sub hH [] (by decide) rfl) (jl_sub hl [] rfl) hf hc hs
set_option maxHeartbeats 4000000 in
set_option maxRecDepth 100000 in
theorem w_X8_isSame_308 (V : jV p s mm args meth c cX8_isSame RX8 15 (some .boolean) D g) (hA : ∀ q, s.heap.size ≤ q → A q) (LX : jLX l A s) {c30 : Int32 → Int32 → Int32 → Int32 → Int32 → Int32 → Int32 → Int32 → kS → Option ((Int32 × kS) × Nat × Nat)} (hk30 : ∀ {v2 : Int32} {v3 : Int32} {v4 : Int32} {v5 : Int32} {v6 : Int32} {v7 : Int32} {v9 : Int32} {v10 : Int32} {k : kS} {H : Heap} {locs : List Loc} {ls : Array Slot} {cells slots mc ms uc us : Nat} {o : (Int32 × kS)}, jH A s H locs D g ad z (jY adk g k mo) [] → jl_has ls 15 [(0, .ref (ad 0)), (1, .ref (adk 0)), (2, .int v2), (3, .int v3), (4, .int v4), (5, .int v5), (6, .int v6), (7, .int v7), (8, .ref (ad 4)), (9, .int v9), (10, .int v10)] → c30 v2 v3 v4 v5 v6 v7 v9 v10 k = some (o, uc, us) → cells + uc = mc → slots + us = ms → W p l e (rm_X8_isSame mc ms) s mm args below meth c H locs cells slots (jLGi below args s D g A (fun a => a = ad) o.1 adk o.2 mo z mc ms) (F0 mm 30 ls [])) {s0 : Int32} {s1 : Int32} {v2 : Int32} {v3 : Int32} {v4 : Int32} {v5 : Int32} {v6 : Int32} {v9 : Int32} {v10 : Int32} {k : kS} {H : Heap} {locs : List Loc} {ls : Array Slot} {cells slots mc ms uc us : Nat} {o : (Int32 × kS)} (hH : jH A s H locs D g ad z (jY adk g k mo) []) (hl : jl_has ls 15 [(0, .ref (ad 0)), (1, .ref (adk 0)), (2, .int v2), (3, .int v3), (4, .int v4), (5, .int v5), (6, .int v6), (8, .ref (ad 4)), (9, .int v9), (10, .int v10)]) (hf : F_X8_isSame_308 z c30 s0 s1 v2 v3 v4 v5 v6 v9 v10 k = some (o, uc, us)) (hc : cells + uc = mc) (hs : slots + us = ms) : W p l e (rm_X8_isSame mc ms) s mm args below meth c H locs cells slots (jLGi below args s D g A (fun a => a = ad) o.1 adk o.2 mo z mc ms) (F0 mm 308 ls [.int s1, .int s0]) := by
  have hx := V.1
  have hb := V.2.1
  refine lv_iadd hx hb dX8_isSame_308 ?_
  refine jl_istore (lv' := [(7, .int (s0 + s1)), (0, .ref (ad 0)), (1, .ref (adk 0)), (2, .int v2), (3, .int v3), (4, .int v4), (5, .int v5), (6, .int v6), (8, .ref (ad 4)), (9, .int v9), (10, .int v10)]) hx hb dX8_isSame_309 hl (by decide) rfl (fun ls hl => ?_)
  refine jl_iinc (v := (v10 + 1)) (lv' := [(10, .int (v10 + 1)), (7, .int (s0 + s1)), (0, .ref (ad 0)), (1, .ref (adk 0)), (2, .int v2), (3, .int v3), (4, .int v4), (5, .int v5), (6, .int v6), (8, .ref (ad 4)), (9, .int v9)]) hx hb dX8_isSame_311 hl (k := 10) rfl rfl (by decide) rfl (fun ls hl => ?_)
  refine lv_goto (tgt := 30) hx hb dX8_isSame_314 (by decide) ?_
  exact hk30 hH (jl_sub hl [2, 3, 4, 5, 6, 7, 8, 1, 9, 10, 0] rfl) hf hc hs
set_option maxHeartbeats 4000000 in
set_option maxRecDepth 100000 in
theorem w_X8_isSame_294 (V : jV p s mm args meth c cX8_isSame RX8 15 (some .boolean) D g) (hA : ∀ q, s.heap.size ≤ q → A q) (LX : jLX l A s) {c30 : Int32 → Int32 → Int32 → Int32 → Int32 → Int32 → Int32 → Int32 → kS → Option ((Int32 × kS) × Nat × Nat)} (hk30 : ∀ {v2 : Int32} {v3 : Int32} {v4 : Int32} {v5 : Int32} {v6 : Int32} {v7 : Int32} {v9 : Int32} {v10 : Int32} {k : kS} {H : Heap} {locs : List Loc} {ls : Array Slot} {cells slots mc ms uc us : Nat} {o : (Int32 × kS)}, jH A s H locs D g ad z (jY adk g k mo) [] → jl_has ls 15 [(0, .ref (ad 0)), (1, .ref (adk 0)), (2, .int v2), (3, .int v3), (4, .int v4), (5, .int v5), (6, .int v6), (7, .int v7), (8, .ref (ad 4)), (9, .int v9), (10, .int v10)] → c30 v2 v3 v4 v5 v6 v7 v9 v10 k = some (o, uc, us) → cells + uc = mc → slots + us = ms → W p l e (rm_X8_isSame mc ms) s mm args below meth c H locs cells slots (jLGi below args s D g A (fun a => a = ad) o.1 adk o.2 mo z mc ms) (F0 mm 30 ls [])) {s0 : Int32} {v2 : Int32} {v3 : Int32} {v4 : Int32} {v5 : Int32} {v6 : Int32} {v9 : Int32} {v10 : Int32} {v11 : Int32} {k : kS} {H : Heap} {locs : List Loc} {ls : Array Slot} {cells slots mc ms uc us : Nat} {o : (Int32 × kS)} (hH : jH A s H locs D g ad z (jY adk g k mo) []) (hl : jl_has ls 15 [(0, .ref (ad 0)), (1, .ref (adk 0)), (2, .int v2), (3, .int v3), (4, .int v4), (5, .int v5), (6, .int v6), (8, .ref (ad 4)), (9, .int v9), (10, .int v10), (11, jv ad 1 v11)]) (hf : F_X8_isSame_294 z c30 s0 v2 v3 v4 v5 v6 v9 v10 v11 k = some (o, uc, us)) (hc : cells + uc = mc) (hs : slots + us = ms) : W p l e (rm_X8_isSame mc ms) s mm args below meth c H locs cells slots (jLGi below args s D g A (fun a => a = ad) o.1 adk o.2 mo z mc ms) (F0 mm 294 ls [.int s0]) := by
  have hx := V.1
  have hb := V.2.1
  refine lv_aload_n hx hb dX8_isSame_294 rfl (lv_at hl.1 0 rfl) ?_
  refine jg_S V hH 2 (by decide) kf_X8_30 rfl dX8_isSame_295 ?_
  refine jl_aload hx hb dX8_isSame_298 (lv_at hl.1 10 rfl) ?_
  obtain ⟨h294_1, hf⟩ := kif hf
  refine jg_P V hH h294_1 2 (by decide) kf_X8_33 rfl dX8_isSame_300 ?_
  refine lv_isub hx hb dX8_isSame_303 ?_
  refine lv_goto (tgt := 308) hx hb dX8_isSame_304 (by decide) ?_
  exact w_X8_isSame_308 V hA LX hk30 hH (jl_sub hl [0, 1, 2, 3, 4, 5, 6, 7, 8, 9] rfl) hf hc hs
set_option maxHeartbeats 4000000 in
set_option maxRecDepth 100000 in
theorem w_X8_isSame_307 (V : jV p s mm args meth c cX8_isSame RX8 15 (some .boolean) D g) (hA : ∀ q, s.heap.size ≤ q → A q) (LX : jLX l A s) {c30 : Int32 → Int32 → Int32 → Int32 → Int32 → Int32 → Int32 → Int32 → kS → Option ((Int32 × kS) × Nat × Nat)} (hk30 : ∀ {v2 : Int32} {v3 : Int32} {v4 : Int32} {v5 : Int32} {v6 : Int32} {v7 : Int32} {v9 : Int32} {v10 : Int32} {k : kS} {H : Heap} {locs : List Loc} {ls : Array Slot} {cells slots mc ms uc us : Nat} {o : (Int32 × kS)}, jH A s H locs D g ad z (jY adk g k mo) [] → jl_has ls 15 [(0, .ref (ad 0)), (1, .ref (adk 0)), (2, .int v2), (3, .int v3), (4, .int v4), (5, .int v5), (6, .int v6), (7, .int v7), (8, .ref (ad 4)), (9, .int v9), (10, .int v10)] → c30 v2 v3 v4 v5 v6 v7 v9 v10 k = some (o, uc, us) → cells + uc = mc → slots + us = ms → W p l e (rm_X8_isSame mc ms) s mm args below meth c H locs cells slots (jLGi below args s D g A (fun a => a = ad) o.1 adk o.2 mo z mc ms) (F0 mm 30 ls [])) {s0 : Int32} {v2 : Int32} {v3 : Int32} {v4 : Int32} {v5 : Int32} {v6 : Int32} {v9 : Int32} {v10 : Int32} {k : kS} {H : Heap} {locs : List Loc} {ls : Array Slot} {cells slots mc ms uc us : Nat} {o : (Int32 × kS)} (hH : jH A s H locs D g ad z (jY adk g k mo) []) (hl : jl_has ls 15 [(0, .ref (ad 0)), (1, .ref (adk 0)), (2, .int v2), (3, .int v3), (4, .int v4), (5, .int v5), (6, .int v6), (8, .ref (ad 4)), (9, .int v9), (10, .int v10)]) (hf : F_X8_isSame_307 z c30 s0 v2 v3 v4 v5 v6 v9 v10 k = some (o, uc, us)) (hc : cells + uc = mc) (hs : slots + us = ms) : W p l e (rm_X8_isSame mc ms) s mm args below meth c H locs cells slots (jLGi below args s D g A (fun a => a = ad) o.1 adk o.2 mo z mc ms) (F0 mm 307 ls [.int s0]) := by
  have hx := V.1
  have hb := V.2.1
  refine lv_iconst (v := 0) hx hb dX8_isSame_307 (by decide) ?_
  exact w_X8_isSame_308 V hA LX hk30 hH (jl_sub hl [0, 1, 2, 3, 4, 5, 6, 7, 8, 9] rfl) hf hc hs
set_option maxHeartbeats 4000000 in
set_option maxRecDepth 100000 in
theorem w_X8_isSame_284 (V : jV p s mm args meth c cX8_isSame RX8 15 (some .boolean) D g) (hA : ∀ q, s.heap.size ≤ q → A q) (LX : jLX l A s) {c30 : Int32 → Int32 → Int32 → Int32 → Int32 → Int32 → Int32 → Int32 → kS → Option ((Int32 × kS) × Nat × Nat)} (hk30 : ∀ {v2 : Int32} {v3 : Int32} {v4 : Int32} {v5 : Int32} {v6 : Int32} {v7 : Int32} {v9 : Int32} {v10 : Int32} {k : kS} {H : Heap} {locs : List Loc} {ls : Array Slot} {cells slots mc ms uc us : Nat} {o : (Int32 × kS)}, jH A s H locs D g ad z (jY adk g k mo) [] → jl_has ls 15 [(0, .ref (ad 0)), (1, .ref (adk 0)), (2, .int v2), (3, .int v3), (4, .int v4), (5, .int v5), (6, .int v6), (7, .int v7), (8, .ref (ad 4)), (9, .int v9), (10, .int v10)] → c30 v2 v3 v4 v5 v6 v7 v9 v10 k = some (o, uc, us) → cells + uc = mc → slots + us = ms → W p l e (rm_X8_isSame mc ms) s mm args below meth c H locs cells slots (jLGi below args s D g A (fun a => a = ad) o.1 adk o.2 mo z mc ms) (F0 mm 30 ls [])) {s0 : Int32} {s1 : Int32} {v2 : Int32} {v3 : Int32} {v4 : Int32} {v5 : Int32} {v7 : Int32} {v9 : Int32} {v10 : Int32} {v11 : Int32} {v12 : Int32} {k : kS} {H : Heap} {locs : List Loc} {ls : Array Slot} {cells slots mc ms uc us : Nat} {o : (Int32 × kS)} (hH : jH A s H locs D g ad z (jY adk g k mo) []) (hl : jl_has ls 15 [(0, .ref (ad 0)), (1, .ref (adk 0)), (2, .int v2), (3, .int v3), (4, .int v4), (5, .int v5), (7, .int v7), (8, .ref (ad 4)), (9, .int v9), (10, .int v10), (11, jv ad 1 v11), (12, .int v12)]) (hf : F_X8_isSame_284 z c30 s0 s1 v2 v3 v4 v5 v7 v9 v10 v11 v12 k = some (o, uc, us)) (hc : cells + uc = mc) (hs : slots + us = ms) : W p l e (rm_X8_isSame mc ms) s mm args below meth c H locs cells slots (jLGi below args s D g A (fun a => a = ad) o.1 adk o.2 mo z mc ms) (F0 mm 284 ls [.int s1, .int s0]) := by
  have hx := V.1
  have hb := V.2.1
  refine lv_iadd hx hb dX8_isSame_284 ?_
  refine jl_istore (lv' := [(6, .int (s0 + s1)), (0, .ref (ad 0)), (1, .ref (adk 0)), (2, .int v2), (3, .int v3), (4, .int v4), (5, .int v5), (7, .int v7), (8, .ref (ad 4)), (9, .int v9), (10, .int v10), (11, jv ad 1 v11), (12, .int v12)]) hx hb dX8_isSame_285 hl (by decide) rfl (fun ls hl => ?_)
  refine lv_iload hx hb dX8_isSame_287 (lv_at hl.1 7 rfl) ?_
  refine lv_iload hx hb dX8_isSame_289 (lv_at hl.1 12 rfl) ?_
  refine lv_if_eq (tgt := 307) hx hb dX8_isSame_291 (by decide) (fun hq => ?_) (fun hq => ?_)
  · have hf := kpos hq hf
    exact w_X8_isSame_307 V hA LX hk30 hH (jl_sub hl [1, 2, 3, 4, 5, 6, 0, 8, 9, 10] rfl) hf hc hs
  · have hf := kneg hq hf
    exact w_X8_isSame_294 V hA LX hk30 hH (jl_sub hl [1, 2, 3, 4, 5, 6, 0, 8, 9, 10, 11] rfl) hf hc hs
set_option maxHeartbeats 4000000 in
set_option maxRecDepth 100000 in
theorem w_X8_isSame_279 (V : jV p s mm args meth c cX8_isSame RX8 15 (some .boolean) D g) (hA : ∀ q, s.heap.size ≤ q → A q) (LX : jLX l A s) {c30 : Int32 → Int32 → Int32 → Int32 → Int32 → Int32 → Int32 → Int32 → kS → Option ((Int32 × kS) × Nat × Nat)} (hk30 : ∀ {v2 : Int32} {v3 : Int32} {v4 : Int32} {v5 : Int32} {v6 : Int32} {v7 : Int32} {v9 : Int32} {v10 : Int32} {k : kS} {H : Heap} {locs : List Loc} {ls : Array Slot} {cells slots mc ms uc us : Nat} {o : (Int32 × kS)}, jH A s H locs D g ad z (jY adk g k mo) [] → jl_has ls 15 [(0, .ref (ad 0)), (1, .ref (adk 0)), (2, .int v2), (3, .int v3), (4, .int v4), (5, .int v5), (6, .int v6), (7, .int v7), (8, .ref (ad 4)), (9, .int v9), (10, .int v10)] → c30 v2 v3 v4 v5 v6 v7 v9 v10 k = some (o, uc, us) → cells + uc = mc → slots + us = ms → W p l e (rm_X8_isSame mc ms) s mm args below meth c H locs cells slots (jLGi below args s D g A (fun a => a = ad) o.1 adk o.2 mo z mc ms) (F0 mm 30 ls [])) {s0 : Int32} {v2 : Int32} {v3 : Int32} {v4 : Int32} {v5 : Int32} {v7 : Int32} {v9 : Int32} {v10 : Int32} {v11 : Int32} {v12 : Int32} {k : kS} {H : Heap} {locs : List Loc} {ls : Array Slot} {cells slots mc ms uc us : Nat} {o : (Int32 × kS)} (hH : jH A s H locs D g ad z (jY adk g k mo) []) (hl : jl_has ls 15 [(0, .ref (ad 0)), (1, .ref (adk 0)), (2, .int v2), (3, .int v3), (4, .int v4), (5, .int v5), (7, .int v7), (8, .ref (ad 4)), (9, .int v9), (10, .int v10), (11, jv ad 1 v11), (12, .int v12)]) (hf : F_X8_isSame_279 z c30 s0 v2 v3 v4 v5 v7 v9 v10 v11 v12 k = some (o, uc, us)) (hc : cells + uc = mc) (hs : slots + us = ms) : W p l e (rm_X8_isSame mc ms) s mm args below meth c H locs cells slots (jLGi below args s D g A (fun a => a = ad) o.1 adk o.2 mo z mc ms) (F0 mm 279 ls [.int s0]) := by
  have hx := V.1
  have hb := V.2.1
  refine lv_iconst (v := 1) hx hb dX8_isSame_279 (by decide) ?_
  refine lv_goto (tgt := 284) hx hb dX8_isSame_280 (by decide) ?_
  exact w_X8_isSame_284 V hA LX hk30 hH (jl_sub hl [0, 1, 2, 3, 4, 5, 6, 7, 8, 9, 10, 11] rfl) hf hc hs
set_option maxHeartbeats 4000000 in
set_option maxRecDepth 100000 in
theorem w_X8_isSame_283 (V : jV p s mm args meth c cX8_isSame RX8 15 (some .boolean) D g) (hA : ∀ q, s.heap.size ≤ q → A q) (LX : jLX l A s) {c30 : Int32 → Int32 → Int32 → Int32 → Int32 → Int32 → Int32 → Int32 → kS → Option ((Int32 × kS) × Nat × Nat)} (hk30 : ∀ {v2 : Int32} {v3 : Int32} {v4 : Int32} {v5 : Int32} {v6 : Int32} {v7 : Int32} {v9 : Int32} {v10 : Int32} {k : kS} {H : Heap} {locs : List Loc} {ls : Array Slot} {cells slots mc ms uc us : Nat} {o : (Int32 × kS)}, jH A s H locs D g ad z (jY adk g k mo) [] → jl_has ls 15 [(0, .ref (ad 0)), (1, .ref (adk 0)), (2, .int v2), (3, .int v3), (4, .int v4), (5, .int v5), (6, .int v6), (7, .int v7), (8, .ref (ad 4)), (9, .int v9), (10, .int v10)] → c30 v2 v3 v4 v5 v6 v7 v9 v10 k = some (o, uc, us) → cells + uc = mc → slots + us = ms → W p l e (rm_X8_isSame mc ms) s mm args below meth c H locs cells slots (jLGi below args s D g A (fun a => a = ad) o.1 adk o.2 mo z mc ms) (F0 mm 30 ls [])) {s0 : Int32} {v2 : Int32} {v3 : Int32} {v4 : Int32} {v5 : Int32} {v7 : Int32} {v9 : Int32} {v10 : Int32} {v11 : Int32} {v12 : Int32} {k : kS} {H : Heap} {locs : List Loc} {ls : Array Slot} {cells slots mc ms uc us : Nat} {o : (Int32 × kS)} (hH : jH A s H locs D g ad z (jY adk g k mo) []) (hl : jl_has ls 15 [(0, .ref (ad 0)), (1, .ref (adk 0)), (2, .int v2), (3, .int v3), (4, .int v4), (5, .int v5), (7, .int v7), (8, .ref (ad 4)), (9, .int v9), (10, .int v10), (11, jv ad 1 v11), (12, .int v12)]) (hf : F_X8_isSame_283 z c30 s0 v2 v3 v4 v5 v7 v9 v10 v11 v12 k = some (o, uc, us)) (hc : cells + uc = mc) (hs : slots + us = ms) : W p l e (rm_X8_isSame mc ms) s mm args below meth c H locs cells slots (jLGi below args s D g A (fun a => a = ad) o.1 adk o.2 mo z mc ms) (F0 mm 283 ls [.int s0]) := by
  have hx := V.1
  have hb := V.2.1
  refine lv_iconst (v := 0) hx hb dX8_isSame_283 (by decide) ?_
  exact w_X8_isSame_284 V hA LX hk30 hH (jl_sub hl [0, 1, 2, 3, 4, 5, 6, 7, 8, 9, 10, 11] rfl) hf hc hs
set_option maxHeartbeats 4000000 in
set_option maxRecDepth 100000 in
theorem w_X8_isSame_264 (V : jV p s mm args meth c cX8_isSame RX8 15 (some .boolean) D g) (hA : ∀ q, s.heap.size ≤ q → A q) (LX : jLX l A s) {c30 : Int32 → Int32 → Int32 → Int32 → Int32 → Int32 → Int32 → Int32 → kS → Option ((Int32 × kS) × Nat × Nat)} (hk30 : ∀ {v2 : Int32} {v3 : Int32} {v4 : Int32} {v5 : Int32} {v6 : Int32} {v7 : Int32} {v9 : Int32} {v10 : Int32} {k : kS} {H : Heap} {locs : List Loc} {ls : Array Slot} {cells slots mc ms uc us : Nat} {o : (Int32 × kS)}, jH A s H locs D g ad z (jY adk g k mo) [] → jl_has ls 15 [(0, .ref (ad 0)), (1, .ref (adk 0)), (2, .int v2), (3, .int v3), (4, .int v4), (5, .int v5), (6, .int v6), (7, .int v7), (8, .ref (ad 4)), (9, .int v9), (10, .int v10)] → c30 v2 v3 v4 v5 v6 v7 v9 v10 k = some (o, uc, us) → cells + uc = mc → slots + us = ms → W p l e (rm_X8_isSame mc ms) s mm args below meth c H locs cells slots (jLGi below args s D g A (fun a => a = ad) o.1 adk o.2 mo z mc ms) (F0 mm 30 ls [])) {s0 : Int32} {v2 : Int32} {v3 : Int32} {v4 : Int32} {v5 : Int32} {v7 : Int32} {v9 : Int32} {v10 : Int32} {v11 : Int32} {v12 : Int32} {k : kS} {H : Heap} {locs : List Loc} {ls : Array Slot} {cells slots mc ms uc us : Nat} {o : (Int32 × kS)} (hH : jH A s H locs D g ad z (jY adk g k mo) []) (hl : jl_has ls 15 [(0, .ref (ad 0)), (1, .ref (adk 0)), (2, .int v2), (3, .int v3), (4, .int v4), (5, .int v5), (7, .int v7), (8, .ref (ad 4)), (9, .int v9), (10, .int v10), (11, jv ad 1 v11), (12, .int v12)]) (hf : F_X8_isSame_264 z c30 s0 v2 v3 v4 v5 v7 v9 v10 v11 v12 k = some (o, uc, us)) (hc : cells + uc = mc) (hs : slots + us = ms) : W p l e (rm_X8_isSame mc ms) s mm args below meth c H locs cells slots (jLGi below args s D g A (fun a => a = ad) o.1 adk o.2 mo z mc ms) (F0 mm 264 ls [.int s0]) := by
  have hx := V.1
  have hb := V.2.1
  refine lv_aload_n hx hb dX8_isSame_264 rfl (lv_at hl.1 0 rfl) ?_
  refine jg_S V hH 2 (by decide) kf_X8_30 rfl dX8_isSame_265 ?_
  refine jl_aload hx hb dX8_isSame_268 (lv_at hl.1 10 rfl) ?_
  obtain ⟨h264_1, hf⟩ := kif hf
  refine jg_P V hH h264_1 2 (by decide) kf_X8_33 rfl dX8_isSame_270 ?_
  refine lv_isub hx hb dX8_isSame_273 ?_
  refine lv_bipush (v := 16) hx hb dX8_isSame_274 (by decide) ?_
  refine lv_icmp_ge (tgt := 283) hx hb dX8_isSame_276 (by decide) (fun hq => ?_) (fun hq => ?_)
  · have hf := kpos hq hf
    exact w_X8_isSame_283 V hA LX hk30 hH (jl_sub hl [0, 1, 2, 3, 4, 5, 6, 7, 8, 9, 10, 11] rfl) hf hc hs
  · have hf := kneg hq hf
    exact w_X8_isSame_279 V hA LX hk30 hH (jl_sub hl [0, 1, 2, 3, 4, 5, 6, 7, 8, 9, 10, 11] rfl) hf hc hs
set_option maxHeartbeats 4000000 in
set_option maxRecDepth 100000 in
theorem w_X8_isSame_250 (V : jV p s mm args meth c cX8_isSame RX8 15 (some .boolean) D g) (hA : ∀ q, s.heap.size ≤ q → A q) (LX : jLX l A s) {c30 : Int32 → Int32 → Int32 → Int32 → Int32 → Int32 → Int32 → Int32 → kS → Option ((Int32 × kS) × Nat × Nat)} (hk30 : ∀ {v2 : Int32} {v3 : Int32} {v4 : Int32} {v5 : Int32} {v6 : Int32} {v7 : Int32} {v9 : Int32} {v10 : Int32} {k : kS} {H : Heap} {locs : List Loc} {ls : Array Slot} {cells slots mc ms uc us : Nat} {o : (Int32 × kS)}, jH A s H locs D g ad z (jY adk g k mo) [] → jl_has ls 15 [(0, .ref (ad 0)), (1, .ref (adk 0)), (2, .int v2), (3, .int v3), (4, .int v4), (5, .int v5), (6, .int v6), (7, .int v7), (8, .ref (ad 4)), (9, .int v9), (10, .int v10)] → c30 v2 v3 v4 v5 v6 v7 v9 v10 k = some (o, uc, us) → cells + uc = mc → slots + us = ms → W p l e (rm_X8_isSame mc ms) s mm args below meth c H locs cells slots (jLGi below args s D g A (fun a => a = ad) o.1 adk o.2 mo z mc ms) (F0 mm 30 ls [])) {s0 : Int32} {s1 : Int32} {v2 : Int32} {v3 : Int32} {v4 : Int32} {v6 : Int32} {v7 : Int32} {v9 : Int32} {v10 : Int32} {v11 : Int32} {v12 : Int32} {k : kS} {H : Heap} {locs : List Loc} {ls : Array Slot} {cells slots mc ms uc us : Nat} {o : (Int32 × kS)} (hH : jH A s H locs D g ad z (jY adk g k mo) []) (hl : jl_has ls 15 [(0, .ref (ad 0)), (1, .ref (adk 0)), (2, .int v2), (3, .int v3), (4, .int v4), (6, .int v6), (7, .int v7), (8, .ref (ad 4)), (9, .int v9), (10, .int v10), (11, jv ad 1 v11), (12, .int v12)]) (hf : F_X8_isSame_250 z c30 s0 s1 v2 v3 v4 v6 v7 v9 v10 v11 v12 k = some (o, uc, us)) (hc : cells + uc = mc) (hs : slots + us = ms) : W p l e (rm_X8_isSame mc ms) s mm args below meth c H locs cells slots (jLGi below args s D g A (fun a => a = ad) o.1 adk o.2 mo z mc ms) (F0 mm 250 ls [.int s1, .int s0]) := by
  have hx := V.1
  have hb := V.2.1
  refine lv_iadd hx hb dX8_isSame_250 ?_
  refine jl_istore (lv' := [(5, .int (s0 + s1)), (0, .ref (ad 0)), (1, .ref (adk 0)), (2, .int v2), (3, .int v3), (4, .int v4), (6, .int v6), (7, .int v7), (8, .ref (ad 4)), (9, .int v9), (10, .int v10), (11, jv ad 1 v11), (12, .int v12)]) hx hb dX8_isSame_251 hl (by decide) rfl (fun ls hl => ?_)
  refine lv_iload hx hb dX8_isSame_253 (lv_at hl.1 6 rfl) ?_
  refine lv_aload_n hx hb dX8_isSame_255 rfl (lv_at hl.1 1 rfl) ?_
  refine jl_aload hx hb dX8_isSame_256 (lv_at hl.1 11 rfl) ?_
  obtain ⟨x250_1, hx250_1, hf⟩ := kbind hf
  refine jr_calliR0 hA hH (jr_runV (as := [jv ad 1 v11]) (rest := [.int v6]) V hH kYX8_rules kl_X8_127 (c_X8_rules l _ hx250_1 _) rfl rfl ⟨Nat.le_of_ble_eq_true rfl, Nat.le_of_ble_eq_true rfl⟩ rfl hl.1.1 (Nat.le_of_ble_eq_true rfl) dX8_isSame_258 ⟨by show cells + 0 ≤ mc; omega, by show slots + 0 ≤ ms; omega⟩ rfl) (fun H locs hH => ?_)
  refine lv_if_le (tgt := 283) hx hb dX8_isSame_261 (by decide) (fun hq => ?_) (fun hq => ?_)
  · have hf := kpos hq hf
    exact w_X8_isSame_283 V hA LX hk30 hH (jl_sub hl [1, 2, 3, 4, 5, 0, 7, 8, 9, 10, 11, 12] rfl) hf hc hs
  · have hf := kneg hq hf
    exact w_X8_isSame_264 V hA LX hk30 hH (jl_sub hl [1, 2, 3, 4, 5, 0, 7, 8, 9, 10, 11, 12] rfl) hf hc hs
set_option maxHeartbeats 4000000 in
set_option maxRecDepth 100000 in
theorem w_X8_isSame_245 (V : jV p s mm args meth c cX8_isSame RX8 15 (some .boolean) D g) (hA : ∀ q, s.heap.size ≤ q → A q) (LX : jLX l A s) {c30 : Int32 → Int32 → Int32 → Int32 → Int32 → Int32 → Int32 → Int32 → kS → Option ((Int32 × kS) × Nat × Nat)} (hk30 : ∀ {v2 : Int32} {v3 : Int32} {v4 : Int32} {v5 : Int32} {v6 : Int32} {v7 : Int32} {v9 : Int32} {v10 : Int32} {k : kS} {H : Heap} {locs : List Loc} {ls : Array Slot} {cells slots mc ms uc us : Nat} {o : (Int32 × kS)}, jH A s H locs D g ad z (jY adk g k mo) [] → jl_has ls 15 [(0, .ref (ad 0)), (1, .ref (adk 0)), (2, .int v2), (3, .int v3), (4, .int v4), (5, .int v5), (6, .int v6), (7, .int v7), (8, .ref (ad 4)), (9, .int v9), (10, .int v10)] → c30 v2 v3 v4 v5 v6 v7 v9 v10 k = some (o, uc, us) → cells + uc = mc → slots + us = ms → W p l e (rm_X8_isSame mc ms) s mm args below meth c H locs cells slots (jLGi below args s D g A (fun a => a = ad) o.1 adk o.2 mo z mc ms) (F0 mm 30 ls [])) {s0 : Int32} {v2 : Int32} {v3 : Int32} {v4 : Int32} {v6 : Int32} {v7 : Int32} {v9 : Int32} {v10 : Int32} {v11 : Int32} {v12 : Int32} {k : kS} {H : Heap} {locs : List Loc} {ls : Array Slot} {cells slots mc ms uc us : Nat} {o : (Int32 × kS)} (hH : jH A s H locs D g ad z (jY adk g k mo) []) (hl : jl_has ls 15 [(0, .ref (ad 0)), (1, .ref (adk 0)), (2, .int v2), (3, .int v3), (4, .int v4), (6, .int v6), (7, .int v7), (8, .ref (ad 4)), (9, .int v9), (10, .int v10), (11, jv ad 1 v11), (12, .int v12)]) (hf : F_X8_isSame_245 z c30 s0 v2 v3 v4 v6 v7 v9 v10 v11 v12 k = some (o, uc, us)) (hc : cells + uc = mc) (hs : slots + us = ms) : W p l e (rm_X8_isSame mc ms) s mm args below meth c H locs cells slots (jLGi below args s D g A (fun a => a = ad) o.1 adk o.2 mo z mc ms) (F0 mm 245 ls [.int s0]) := by
  have hx := V.1
  have hb := V.2.1
  refine lv_iconst (v := 1) hx hb dX8_isSame_245 (by decide) ?_
  refine lv_goto (tgt := 250) hx hb dX8_isSame_246 (by decide) ?_
  exact w_X8_isSame_250 V hA LX hk30 hH (jl_sub hl [0, 1, 2, 3, 4, 5, 6, 7, 8, 9, 10, 11] rfl) hf hc hs
set_option maxHeartbeats 4000000 in
set_option maxRecDepth 100000 in
theorem w_X8_isSame_249 (V : jV p s mm args meth c cX8_isSame RX8 15 (some .boolean) D g) (hA : ∀ q, s.heap.size ≤ q → A q) (LX : jLX l A s) {c30 : Int32 → Int32 → Int32 → Int32 → Int32 → Int32 → Int32 → Int32 → kS → Option ((Int32 × kS) × Nat × Nat)} (hk30 : ∀ {v2 : Int32} {v3 : Int32} {v4 : Int32} {v5 : Int32} {v6 : Int32} {v7 : Int32} {v9 : Int32} {v10 : Int32} {k : kS} {H : Heap} {locs : List Loc} {ls : Array Slot} {cells slots mc ms uc us : Nat} {o : (Int32 × kS)}, jH A s H locs D g ad z (jY adk g k mo) [] → jl_has ls 15 [(0, .ref (ad 0)), (1, .ref (adk 0)), (2, .int v2), (3, .int v3), (4, .int v4), (5, .int v5), (6, .int v6), (7, .int v7), (8, .ref (ad 4)), (9, .int v9), (10, .int v10)] → c30 v2 v3 v4 v5 v6 v7 v9 v10 k = some (o, uc, us) → cells + uc = mc → slots + us = ms → W p l e (rm_X8_isSame mc ms) s mm args below meth c H locs cells slots (jLGi below args s D g A (fun a => a = ad) o.1 adk o.2 mo z mc ms) (F0 mm 30 ls [])) {s0 : Int32} {v2 : Int32} {v3 : Int32} {v4 : Int32} {v6 : Int32} {v7 : Int32} {v9 : Int32} {v10 : Int32} {v11 : Int32} {v12 : Int32} {k : kS} {H : Heap} {locs : List Loc} {ls : Array Slot} {cells slots mc ms uc us : Nat} {o : (Int32 × kS)} (hH : jH A s H locs D g ad z (jY adk g k mo) []) (hl : jl_has ls 15 [(0, .ref (ad 0)), (1, .ref (adk 0)), (2, .int v2), (3, .int v3), (4, .int v4), (6, .int v6), (7, .int v7), (8, .ref (ad 4)), (9, .int v9), (10, .int v10), (11, jv ad 1 v11), (12, .int v12)]) (hf : F_X8_isSame_249 z c30 s0 v2 v3 v4 v6 v7 v9 v10 v11 v12 k = some (o, uc, us)) (hc : cells + uc = mc) (hs : slots + us = ms) : W p l e (rm_X8_isSame mc ms) s mm args below meth c H locs cells slots (jLGi below args s D g A (fun a => a = ad) o.1 adk o.2 mo z mc ms) (F0 mm 249 ls [.int s0]) := by
  have hx := V.1
  have hb := V.2.1
  refine lv_iconst (v := 0) hx hb dX8_isSame_249 (by decide) ?_
  exact w_X8_isSame_250 V hA LX hk30 hH (jl_sub hl [0, 1, 2, 3, 4, 5, 6, 7, 8, 9, 10, 11] rfl) hf hc hs
set_option maxHeartbeats 4000000 in
set_option maxRecDepth 100000 in
theorem w_X8_isSame_232 (V : jV p s mm args meth c cX8_isSame RX8 15 (some .boolean) D g) (hA : ∀ q, s.heap.size ≤ q → A q) (LX : jLX l A s) {c30 : Int32 → Int32 → Int32 → Int32 → Int32 → Int32 → Int32 → Int32 → kS → Option ((Int32 × kS) × Nat × Nat)} (hk30 : ∀ {v2 : Int32} {v3 : Int32} {v4 : Int32} {v5 : Int32} {v6 : Int32} {v7 : Int32} {v9 : Int32} {v10 : Int32} {k : kS} {H : Heap} {locs : List Loc} {ls : Array Slot} {cells slots mc ms uc us : Nat} {o : (Int32 × kS)}, jH A s H locs D g ad z (jY adk g k mo) [] → jl_has ls 15 [(0, .ref (ad 0)), (1, .ref (adk 0)), (2, .int v2), (3, .int v3), (4, .int v4), (5, .int v5), (6, .int v6), (7, .int v7), (8, .ref (ad 4)), (9, .int v9), (10, .int v10)] → c30 v2 v3 v4 v5 v6 v7 v9 v10 k = some (o, uc, us) → cells + uc = mc → slots + us = ms → W p l e (rm_X8_isSame mc ms) s mm args below meth c H locs cells slots (jLGi below args s D g A (fun a => a = ad) o.1 adk o.2 mo z mc ms) (F0 mm 30 ls [])) {s0 : Int32} {s1 : Int32} {v2 : Int32} {v4 : Int32} {v5 : Int32} {v6 : Int32} {v7 : Int32} {v9 : Int32} {v10 : Int32} {v11 : Int32} {v12 : Int32} {k : kS} {H : Heap} {locs : List Loc} {ls : Array Slot} {cells slots mc ms uc us : Nat} {o : (Int32 × kS)} (hH : jH A s H locs D g ad z (jY adk g k mo) []) (hl : jl_has ls 15 [(0, .ref (ad 0)), (1, .ref (adk 0)), (2, .int v2), (4, .int v4), (5, .int v5), (6, .int v6), (7, .int v7), (8, .ref (ad 4)), (9, .int v9), (10, .int v10), (11, jv ad 1 v11), (12, .int v12)]) (hf : F_X8_isSame_232 z c30 s0 s1 v2 v4 v5 v6 v7 v9 v10 v11 v12 k = some (o, uc, us)) (hc : cells + uc = mc) (hs : slots + us = ms) : W p l e (rm_X8_isSame mc ms) s mm args below meth c H locs cells slots (jLGi below args s D g A (fun a => a = ad) o.1 adk o.2 mo z mc ms) (F0 mm 232 ls [.int s1, .int s0]) := by
  have hx := V.1
  have hb := V.2.1
  refine lv_iadd hx hb dX8_isSame_232 ?_
  refine jl_istore_n (lv' := [(3, .int (s0 + s1)), (0, .ref (ad 0)), (1, .ref (adk 0)), (2, .int v2), (4, .int v4), (5, .int v5), (6, .int v6), (7, .int v7), (8, .ref (ad 4)), (9, .int v9), (10, .int v10), (11, jv ad 1 v11), (12, .int v12)]) hx hb dX8_isSame_233 rfl hl (by decide) rfl (fun ls hl => ?_)
  refine lv_iload hx hb dX8_isSame_234 (lv_at hl.1 5 rfl) ?_
  refine lv_aload_n hx hb dX8_isSame_236 rfl (lv_at hl.1 1 rfl) ?_
  refine jl_aload hx hb dX8_isSame_237 (lv_at hl.1 11 rfl) ?_
  obtain ⟨x232_1, hx232_1, hf⟩ := kbind hf
  refine jr_calliR0 hA hH (jr_runV (as := [jv ad 1 v11]) (rest := [.int v5]) V hH kYX8_rules kl_X8_127 (c_X8_rules l _ hx232_1 _) rfl rfl ⟨Nat.le_of_ble_eq_true rfl, Nat.le_of_ble_eq_true rfl⟩ rfl hl.1.1 (Nat.le_of_ble_eq_true rfl) dX8_isSame_239 ⟨by show cells + 0 ≤ mc; omega, by show slots + 0 ≤ ms; omega⟩ rfl) (fun H locs hH => ?_)
  refine lv_if_le (tgt := 249) hx hb dX8_isSame_242 (by decide) (fun hq => ?_) (fun hq => ?_)
  · have hf := kpos hq hf
    exact w_X8_isSame_249 V hA LX hk30 hH (jl_sub hl [1, 2, 3, 0, 4, 6, 7, 8, 9, 10, 11, 12] rfl) hf hc hs
  · have hf := kneg hq hf
    exact w_X8_isSame_245 V hA LX hk30 hH (jl_sub hl [1, 2, 3, 0, 4, 6, 7, 8, 9, 10, 11, 12] rfl) hf hc hs
set_option maxHeartbeats 4000000 in
set_option maxRecDepth 100000 in
theorem w_X8_isSame_227 (V : jV p s mm args meth c cX8_isSame RX8 15 (some .boolean) D g) (hA : ∀ q, s.heap.size ≤ q → A q) (LX : jLX l A s) {c30 : Int32 → Int32 → Int32 → Int32 → Int32 → Int32 → Int32 → Int32 → kS → Option ((Int32 × kS) × Nat × Nat)} (hk30 : ∀ {v2 : Int32} {v3 : Int32} {v4 : Int32} {v5 : Int32} {v6 : Int32} {v7 : Int32} {v9 : Int32} {v10 : Int32} {k : kS} {H : Heap} {locs : List Loc} {ls : Array Slot} {cells slots mc ms uc us : Nat} {o : (Int32 × kS)}, jH A s H locs D g ad z (jY adk g k mo) [] → jl_has ls 15 [(0, .ref (ad 0)), (1, .ref (adk 0)), (2, .int v2), (3, .int v3), (4, .int v4), (5, .int v5), (6, .int v6), (7, .int v7), (8, .ref (ad 4)), (9, .int v9), (10, .int v10)] → c30 v2 v3 v4 v5 v6 v7 v9 v10 k = some (o, uc, us) → cells + uc = mc → slots + us = ms → W p l e (rm_X8_isSame mc ms) s mm args below meth c H locs cells slots (jLGi below args s D g A (fun a => a = ad) o.1 adk o.2 mo z mc ms) (F0 mm 30 ls [])) {s0 : Int32} {v2 : Int32} {v4 : Int32} {v5 : Int32} {v6 : Int32} {v7 : Int32} {v9 : Int32} {v10 : Int32} {v11 : Int32} {v12 : Int32} {k : kS} {H : Heap} {locs : List Loc} {ls : Array Slot} {cells slots mc ms uc us : Nat} {o : (Int32 × kS)} (hH : jH A s H locs D g ad z (jY adk g k mo) []) (hl : jl_has ls 15 [(0, .ref (ad 0)), (1, .ref (adk 0)), (2, .int v2), (4, .int v4), (5, .int v5), (6, .int v6), (7, .int v7), (8, .ref (ad 4)), (9, .int v9), (10, .int v10), (11, jv ad 1 v11), (12, .int v12)]) (hf : F_X8_isSame_227 z c30 s0 v2 v4 v5 v6 v7 v9 v10 v11 v12 k = some (o, uc, us)) (hc : cells + uc = mc) (hs : slots + us = ms) : W p l e (rm_X8_isSame mc ms) s mm args below meth c H locs cells slots (jLGi below args s D g A (fun a => a = ad) o.1 adk o.2 mo z mc ms) (F0 mm 227 ls [.int s0]) := by
  have hx := V.1
  have hb := V.2.1
  refine lv_iconst (v := 0) hx hb dX8_isSame_227 (by decide) ?_
  refine lv_goto (tgt := 232) hx hb dX8_isSame_228 (by decide) ?_
  exact w_X8_isSame_232 V hA LX hk30 hH (jl_sub hl [0, 1, 2, 3, 4, 5, 6, 7, 8, 9, 10, 11] rfl) hf hc hs
set_option maxHeartbeats 4000000 in
set_option maxRecDepth 100000 in
theorem w_X8_isSame_231 (V : jV p s mm args meth c cX8_isSame RX8 15 (some .boolean) D g) (hA : ∀ q, s.heap.size ≤ q → A q) (LX : jLX l A s) {c30 : Int32 → Int32 → Int32 → Int32 → Int32 → Int32 → Int32 → Int32 → kS → Option ((Int32 × kS) × Nat × Nat)} (hk30 : ∀ {v2 : Int32} {v3 : Int32} {v4 : Int32} {v5 : Int32} {v6 : Int32} {v7 : Int32} {v9 : Int32} {v10 : Int32} {k : kS} {H : Heap} {locs : List Loc} {ls : Array Slot} {cells slots mc ms uc us : Nat} {o : (Int32 × kS)}, jH A s H locs D g ad z (jY adk g k mo) [] → jl_has ls 15 [(0, .ref (ad 0)), (1, .ref (adk 0)), (2, .int v2), (3, .int v3), (4, .int v4), (5, .int v5), (6, .int v6), (7, .int v7), (8, .ref (ad 4)), (9, .int v9), (10, .int v10)] → c30 v2 v3 v4 v5 v6 v7 v9 v10 k = some (o, uc, us) → cells + uc = mc → slots + us = ms → W p l e (rm_X8_isSame mc ms) s mm args below meth c H locs cells slots (jLGi below args s D g A (fun a => a = ad) o.1 adk o.2 mo z mc ms) (F0 mm 30 ls [])) {s0 : Int32} {v2 : Int32} {v4 : Int32} {v5 : Int32} {v6 : Int32} {v7 : Int32} {v9 : Int32} {v10 : Int32} {v11 : Int32} {v12 : Int32} {k : kS} {H : Heap} {locs : List Loc} {ls : Array Slot} {cells slots mc ms uc us : Nat} {o : (Int32 × kS)} (hH : jH A s H locs D g ad z (jY adk g k mo) []) (hl : jl_has ls 15 [(0, .ref (ad 0)), (1, .ref (adk 0)), (2, .int v2), (4, .int v4), (5, .int v5), (6, .int v6), (7, .int v7), (8, .ref (ad 4)), (9, .int v9), (10, .int v10), (11, jv ad 1 v11), (12, .int v12)]) (hf : F_X8_isSame_231 z c30 s0 v2 v4 v5 v6 v7 v9 v10 v11 v12 k = some (o, uc, us)) (hc : cells + uc = mc) (hs : slots + us = ms) : W p l e (rm_X8_isSame mc ms) s mm args below meth c H locs cells slots (jLGi below args s D g A (fun a => a = ad) o.1 adk o.2 mo z mc ms) (F0 mm 231 ls [.int s0]) := by
  have hx := V.1
  have hb := V.2.1
  refine lv_iconst (v := 1) hx hb dX8_isSame_231 (by decide) ?_
  exact w_X8_isSame_232 V hA LX hk30 hH (jl_sub hl [0, 1, 2, 3, 4, 5, 6, 7, 8, 9, 10, 11] rfl) hf hc hs
set_option maxHeartbeats 4000000 in
set_option maxRecDepth 100000 in
theorem w_X8_isSame_211 (V : jV p s mm args meth c cX8_isSame RX8 15 (some .boolean) D g) (hA : ∀ q, s.heap.size ≤ q → A q) (LX : jLX l A s) {c30 : Int32 → Int32 → Int32 → Int32 → Int32 → Int32 → Int32 → Int32 → kS → Option ((Int32 × kS) × Nat × Nat)} (hk30 : ∀ {v2 : Int32} {v3 : Int32} {v4 : Int32} {v5 : Int32} {v6 : Int32} {v7 : Int32} {v9 : Int32} {v10 : Int32} {k : kS} {H : Heap} {locs : List Loc} {ls : Array Slot} {cells slots mc ms uc us : Nat} {o : (Int32 × kS)}, jH A s H locs D g ad z (jY adk g k mo) [] → jl_has ls 15 [(0, .ref (ad 0)), (1, .ref (adk 0)), (2, .int v2), (3, .int v3), (4, .int v4), (5, .int v5), (6, .int v6), (7, .int v7), (8, .ref (ad 4)), (9, .int v9), (10, .int v10)] → c30 v2 v3 v4 v5 v6 v7 v9 v10 k = some (o, uc, us) → cells + uc = mc → slots + us = ms → W p l e (rm_X8_isSame mc ms) s mm args below meth c H locs cells slots (jLGi below args s D g A (fun a => a = ad) o.1 adk o.2 mo z mc ms) (F0 mm 30 ls [])) {v2 : Int32} {v3 : Int32} {v4 : Int32} {v5 : Int32} {v6 : Int32} {v7 : Int32} {v9 : Int32} {v10 : Int32} {v11 : Int32} {v12 : Int32} {xq61 : Nat} {xl61 : Int32} {xf61 : Nat → Int32} {k : kS} {H : Heap} {locs : List Loc} {ls : Array Slot} {cells slots mc ms uc us : Nat} {o : (Int32 × kS)} (hH : jH A s H locs D g ad z (jY adk g k mo) [jTi g xq61 xl61 xf61]) (hl : jl_has ls 15 [(0, .ref (ad 0)), (1, .ref (adk 0)), (2, .int v2), (3, .int v3), (4, .int v4), (5, .int v5), (6, .int v6), (7, .int v7), (8, .ref (ad 4)), (9, .int v9), (10, .int v10), (11, jv ad 1 v11), (12, .int v12), (13, .ref xq61)]) (hf : F_X8_isSame_211 z c30 v2 v3 v4 v5 v6 v7 v9 v10 v11 v12 xl61 xf61 k = some (o, uc, us)) (hc : cells + uc = mc) (hs : slots + us = ms) : W p l e (rm_X8_isSame mc ms) s mm args below meth c H locs cells slots (jLGi below args s D g A (fun a => a = ad) o.1 adk o.2 mo z mc ms) (F0 mm 211 ls []) := by
  have hx := V.1
  have hb := V.2.1
  refine lv_iload_n hx hb dX8_isSame_211 rfl (lv_at hl.1 2 rfl) ?_
  refine lv_aload hx hb dX8_isSame_212 (lv_at hl.1 13 rfl) ?_
  refine lv_iconst (v := 2) hx hb dX8_isSame_214 (by decide) ?_
  obtain ⟨h211_1, hf⟩ := kif hf
  refine jt_ald V hH 0 rfl h211_1 dX8_isSame_215 ?_
  refine lv_iadd hx hb dX8_isSame_216 ?_
  refine jl_istore_n (lv' := [(2, .int (v2 + (xf61 (2 : Int32).toNatClampNeg))), (0, .ref (ad 0)), (1, .ref (adk 0)), (3, .int v3), (4, .int v4), (5, .int v5), (6, .int v6), (7, .int v7), (8, .ref (ad 4)), (9, .int v9), (10, .int v10), (11, jv ad 1 v11), (12, .int v12), (13, .ref xq61)]) hx hb dX8_isSame_217 rfl hl (by decide) rfl (fun ls hl => ?_)
  refine lv_iload_n hx hb dX8_isSame_218 rfl (lv_at hl.1 3 rfl) ?_
  refine jl_aload hx hb dX8_isSame_219 (lv_at hl.1 11 rfl) ?_
  obtain ⟨h211_2, hf⟩ := kif hf
  refine jg_P V hH h211_2 6 (by decide) kf_X8_44 rfl dX8_isSame_221 ?_
  refine jl_ifnonnull (tgt := 231) hx hb dX8_isSame_224 (by decide) (fun hq => ?_) (fun hq => ?_)
  · have hf := kneg hq hf
    exact w_X8_isSame_231 V hA LX hk30 (jH_sub hH [] (by decide) rfl) (jl_sub hl [1, 2, 0, 4, 5, 6, 7, 8, 9, 10, 11, 12] rfl) hf hc hs
  · have hf := kpos hq hf
    exact w_X8_isSame_227 V hA LX hk30 (jH_sub hH [] (by decide) rfl) (jl_sub hl [1, 2, 0, 4, 5, 6, 7, 8, 9, 10, 11, 12] rfl) hf hc hs
set_option maxHeartbeats 4000000 in
set_option maxRecDepth 100000 in
theorem w_X8_isSame_177 (V : jV p s mm args meth c cX8_isSame RX8 15 (some .boolean) D g) (hA : ∀ q, s.heap.size ≤ q → A q) (LX : jLX l A s) {c30 : Int32 → Int32 → Int32 → Int32 → Int32 → Int32 → Int32 → Int32 → kS → Option ((Int32 × kS) × Nat × Nat)} (hk30 : ∀ {v2 : Int32} {v3 : Int32} {v4 : Int32} {v5 : Int32} {v6 : Int32} {v7 : Int32} {v9 : Int32} {v10 : Int32} {k : kS} {H : Heap} {locs : List Loc} {ls : Array Slot} {cells slots mc ms uc us : Nat} {o : (Int32 × kS)}, jH A s H locs D g ad z (jY adk g k mo) [] → jl_has ls 15 [(0, .ref (ad 0)), (1, .ref (adk 0)), (2, .int v2), (3, .int v3), (4, .int v4), (5, .int v5), (6, .int v6), (7, .int v7), (8, .ref (ad 4)), (9, .int v9), (10, .int v10)] → c30 v2 v3 v4 v5 v6 v7 v9 v10 k = some (o, uc, us) → cells + uc = mc → slots + us = ms → W p l e (rm_X8_isSame mc ms) s mm args below meth c H locs cells slots (jLGi below args s D g A (fun a => a = ad) o.1 adk o.2 mo z mc ms) (F0 mm 30 ls [])) : ∀ (n : Nat) {v2 : Int32} {v3 : Int32} {v4 : Int32} {v5 : Int32} {v6 : Int32} {v7 : Int32} {v9 : Int32} {v10 : Int32} {v11 : Int32} {v12 : Int32} {v14 : Int32} {xq61 : Nat} {xl61 : Int32} {xf61 : Nat → Int32} {k : kS} {H : Heap} {locs : List Loc} {ls : Array Slot} {cells slots mc ms uc us : Nat} {o : (Int32 × kS)}, jH A s H locs D g ad z (jY adk g k mo) [jTi g xq61 xl61 xf61] → jl_has ls 15 [(0, .ref (ad 0)), (1, .ref (adk 0)), (2, .int v2), (3, .int v3), (4, .int v4), (5, .int v5), (6, .int v6), (7, .int v7), (8, .ref (ad 4)), (9, .int v9), (10, .int v10), (11, jv ad 1 v11), (12, .int v12), (13, .ref xq61), (14, .int v14)] → F_X8_isSame_177 z c30 n v2 v3 v4 v5 v6 v7 v9 v10 v11 v12 v14 xl61 xf61 k = some (o, uc, us) → cells + uc = mc → slots + us = ms → W p l e (rm_X8_isSame mc ms) s mm args below meth c H locs cells slots (jLGi below args s D g A (fun a => a = ad) o.1 adk o.2 mo z mc ms) (F0 mm 177 ls []) := by
  have hx := V.1
  have hb := V.2.1
  intro n
  induction n with
  | zero => intro _ _ _ _ _ _ _ _ _ _ _ _ _ _ _ _ _ _ _ _ _ _ _ _ _ hH hl hf hc hs; cases hf
  | succ n hk177 =>
    intro v2 v3 v4 v5 v6 v7 v9 v10 v11 v12 v14 xq61 xl61 xf61 k H locs ls cells slots mc ms uc us o hH hl hf hc hs
    refine lv_iload hx hb dX8_isSame_177 (lv_at hl.1 14 rfl) ?_
    refine lv_bipush (v := 10) hx hb dX8_isSame_179 (by decide) ?_
    refine lv_icmp_ge (tgt := 211) hx hb dX8_isSame_181 (by decide) (fun hq => ?_) (fun hq => ?_)
    · have hf := kpos hq hf
      exact w_X8_isSame_211 V hA LX hk30 hH (jl_sub hl [0, 1, 2, 3, 4, 5, 6, 7, 8, 9, 10, 11, 12, 13] rfl) hf hc hs
    · have hf := kneg hq hf
      exact w_X8_isSame_184 V hA LX hk30 hk177 hH (jl_sub hl [0, 1, 2, 3, 4, 5, 6, 7, 8, 9, 10, 11, 12, 13, 14] rfl) hf hc hs
set_option maxHeartbeats 4000000 in
set_option maxRecDepth 100000 in
theorem w_X8_isSame_99 (V : jV p s mm args meth c cX8_isSame RX8 15 (some .boolean) D g) (hA : ∀ q, s.heap.size ≤ q → A q) (LX : jLX l A s) {c30 : Int32 → Int32 → Int32 → Int32 → Int32 → Int32 → Int32 → Int32 → kS → Option ((Int32 × kS) × Nat × Nat)} (hk30 : ∀ {v2 : Int32} {v3 : Int32} {v4 : Int32} {v5 : Int32} {v6 : Int32} {v7 : Int32} {v9 : Int32} {v10 : Int32} {k : kS} {H : Heap} {locs : List Loc} {ls : Array Slot} {cells slots mc ms uc us : Nat} {o : (Int32 × kS)}, jH A s H locs D g ad z (jY adk g k mo) [] → jl_has ls 15 [(0, .ref (ad 0)), (1, .ref (adk 0)), (2, .int v2), (3, .int v3), (4, .int v4), (5, .int v5), (6, .int v6), (7, .int v7), (8, .ref (ad 4)), (9, .int v9), (10, .int v10)] → c30 v2 v3 v4 v5 v6 v7 v9 v10 k = some (o, uc, us) → cells + uc = mc → slots + us = ms → W p l e (rm_X8_isSame mc ms) s mm args below meth c H locs cells slots (jLGi below args s D g A (fun a => a = ad) o.1 adk o.2 mo z mc ms) (F0 mm 30 ls [])) {s2 : Int32} {s3 : Int32} {v2 : Int32} {v3 : Int32} {v4 : Int32} {v5 : Int32} {v6 : Int32} {v7 : Int32} {v9 : Int32} {v10 : Int32} {v11 : Int32} {v12 : Int32} {xq61 : Nat} {xl61 : Int32} {xf61 : Nat → Int32} {k : kS} {H : Heap} {locs : List Loc} {ls : Array Slot} {cells slots mc ms uc us : Nat} {o : (Int32 × kS)} (hH : jH A s H locs D g ad z (jY adk g k mo) [jTi g xq61 xl61 xf61]) (hl : jl_has ls 15 [(0, .ref (ad 0)), (1, .ref (adk 0)), (2, .int v2), (3, .int v3), (4, .int v4), (5, .int v5), (6, .int v6), (7, .int v7), (8, .ref (ad 4)), (9, .int v9), (10, .int v10), (11, jv ad 1 v11), (12, .int v12)]) (hf : F_X8_isSame_99 z c30 s2 s3 v2 v3 v4 v5 v6 v7 v9 v10 v11 v12 xl61 xf61 k = some (o, uc, us)) (hc : cells + uc = mc) (hs : slots + us = ms) : W p l e (rm_X8_isSame mc ms) s mm args below meth c H locs cells slots (jLGi below args s D g A (fun a => a = ad) o.1 adk o.2 mo z mc ms) (F0 mm 99 ls [.int s3, .int s2, .ref xq61, .ref xq61]) := by
  have hx := V.1
  have hb := V.2.1
  obtain ⟨h99_1, hf⟩ := kif hf
  refine jt_ast V hH 0 rfl h99_1 rfl dX8_isSame_99 (fun H locs hH => ?_)
  refine lv_dup hx hb dX8_isSame_100 rfl ?_
  refine lv_iconst (v := 3) hx hb dX8_isSame_101 (by decide) ?_
  refine jl_aload hx hb dX8_isSame_102 (lv_at hl.1 11 rfl) ?_
  obtain ⟨h99_2, hf⟩ := kif hf
  refine jg_P V hH h99_2 4 (by decide) kf_X8_40 rfl dX8_isSame_104 ?_
  obtain ⟨x99_3, hx99_3, hf⟩ := kbind hf
  refine jr_calliR0 hA hH (jr_runS (as := [jv ad 1 (z (4 * v11.toNatClampNeg + 1) 4)]) (rest := [.int 3, .ref xq61, .ref xq61]) V hH kYX8_number kl_X8_125 (c_X8_number l _ hx99_3 _) rfl rfl ⟨Nat.le_of_ble_eq_true rfl, Nat.le_of_ble_eq_true rfl⟩ rfl hl.1.1 (Nat.le_of_ble_eq_true rfl) dX8_isSame_107 ⟨by show cells + 0 ≤ mc; omega, by show slots + 0 ≤ ms; omega⟩ rfl) (fun H locs hH => ?_)
  obtain ⟨h99_4, hf⟩ := kif hf
  refine jt_ast V hH 0 rfl h99_4 rfl dX8_isSame_110 (fun H locs hH => ?_)
  refine lv_dup hx hb dX8_isSame_111 rfl ?_
  refine lv_iconst (v := 4) hx hb dX8_isSame_112 (by decide) ?_
  refine jl_aload hx hb dX8_isSame_113 (lv_at hl.1 11 rfl) ?_
  obtain ⟨h99_5, hf⟩ := kif hf
  refine jg_P V hH h99_5 5 (by decide) kf_X8_47 rfl dX8_isSame_115 ?_
  obtain ⟨x99_6, hx99_6, hf⟩ := kbind hf
  refine jr_calliR0 hA hH (jr_runS (as := [jv ad 1 (z (4 * v11.toNatClampNeg + 1) 5)]) (rest := [.int 4, .ref xq61, .ref xq61]) V hH kYX8_number kl_X8_125 (c_X8_number l _ hx99_6 _) rfl rfl ⟨Nat.le_of_ble_eq_true rfl, Nat.le_of_ble_eq_true rfl⟩ rfl hl.1.1 (Nat.le_of_ble_eq_true rfl) dX8_isSame_118 ⟨by show cells + 0 ≤ mc; omega, by show slots + 0 ≤ ms; omega⟩ rfl) (fun H locs hH => ?_)
  obtain ⟨h99_7, hf⟩ := kif hf
  refine jt_ast V hH 0 rfl h99_7 rfl dX8_isSame_121 (fun H locs hH => ?_)
  refine lv_dup hx hb dX8_isSame_122 rfl ?_
  refine lv_iconst (v := 5) hx hb dX8_isSame_123 (by decide) ?_
  refine jl_aload hx hb dX8_isSame_124 (lv_at hl.1 11 rfl) ?_
  obtain ⟨h99_8, hf⟩ := kif hf
  refine jg_P V hH h99_8 6 (by decide) kf_X8_44 rfl dX8_isSame_126 ?_
  obtain ⟨x99_9, hx99_9, hf⟩ := kbind hf
  refine jr_calliR0 hA hH (jr_runS (as := [jv ad 1 (z (4 * v11.toNatClampNeg + 1) 6)]) (rest := [.int 5, .ref xq61, .ref xq61]) V hH kYX8_number kl_X8_125 (c_X8_number l _ hx99_9 _) rfl rfl ⟨Nat.le_of_ble_eq_true rfl, Nat.le_of_ble_eq_true rfl⟩ rfl hl.1.1 (Nat.le_of_ble_eq_true rfl) dX8_isSame_129 ⟨by show cells + 0 ≤ mc; omega, by show slots + 0 ≤ ms; omega⟩ rfl) (fun H locs hH => ?_)
  obtain ⟨h99_10, hf⟩ := kif hf
  refine jt_ast V hH 0 rfl h99_10 rfl dX8_isSame_132 (fun H locs hH => ?_)
  refine lv_dup hx hb dX8_isSame_133 rfl ?_
  refine lv_bipush (v := 6) hx hb dX8_isSame_134 (by decide) ?_
  refine lv_aload_n hx hb dX8_isSame_136 rfl (lv_at hl.1 0 rfl) ?_
  refine jl_aload hx hb dX8_isSame_137 (lv_at hl.1 11 rfl) ?_
  obtain ⟨x99_11, hx99_11, hf⟩ := kbind hf
  refine jr_calliR0 hA hH (jr_runV (as := [jv ad 1 v11]) (rest := [.int 6, .ref xq61, .ref xq61]) V hH kYX8_children kl_X8_77 (c_X8_children l _ hx99_11 _) rfl rfl ⟨Nat.le_of_ble_eq_true rfl, Nat.le_of_ble_eq_true rfl⟩ rfl hl.1.1 (Nat.le_of_ble_eq_true rfl) dX8_isSame_139 ⟨by show cells + 0 ≤ mc; omega, by show slots + 0 ≤ ms; omega⟩ rfl) (fun H locs hH => ?_)
  obtain ⟨h99_12, hf⟩ := kif hf
  refine jt_ast V hH 0 rfl h99_12 rfl dX8_isSame_142 (fun H locs hH => ?_)
  refine lv_dup hx hb dX8_isSame_143 rfl ?_
  refine lv_bipush (v := 7) hx hb dX8_isSame_144 (by decide) ?_
  refine lv_aload_n hx hb dX8_isSame_146 rfl (lv_at hl.1 0 rfl) ?_
  refine jl_aload hx hb dX8_isSame_147 (lv_at hl.1 11 rfl) ?_
  obtain ⟨x99_13, hx99_13, hf⟩ := kbind hf
  refine jr_calliR0 hA hH (jr_runV (as := [jv ad 1 v11]) (rest := [.int 7, .ref xq61, .ref xq61]) V hH kYX8_rules kl_X8_127 (c_X8_rules l _ hx99_13 _) rfl rfl ⟨Nat.le_of_ble_eq_true rfl, Nat.le_of_ble_eq_true rfl⟩ rfl hl.1.1 (Nat.le_of_ble_eq_true rfl) dX8_isSame_149 ⟨by show cells + 0 ≤ mc; omega, by show slots + 0 ≤ ms; omega⟩ rfl) (fun H locs hH => ?_)
  obtain ⟨h99_14, hf⟩ := kif hf
  refine jt_ast V hH 0 rfl h99_14 rfl dX8_isSame_152 (fun H locs hH => ?_)
  refine lv_dup hx hb dX8_isSame_153 rfl ?_
  refine lv_bipush (v := 8) hx hb dX8_isSame_154 (by decide) ?_
  refine lv_aload_n hx hb dX8_isSame_156 rfl (lv_at hl.1 0 rfl) ?_
  refine jl_aload hx hb dX8_isSame_157 (lv_at hl.1 11 rfl) ?_
  obtain ⟨x99_15, hx99_15, hf⟩ := kbind hf
  refine jr_calliR0 hA hH (jr_runV (as := [jv ad 1 v11]) (rest := [.int 8, .ref xq61, .ref xq61]) V hH kYX8_worth kl_X8_130 (c_X8_worth l _ hx99_15 _) rfl rfl ⟨Nat.le_of_ble_eq_true rfl, Nat.le_of_ble_eq_true rfl⟩ rfl hl.1.1 (Nat.le_of_ble_eq_true rfl) dX8_isSame_159 ⟨by show cells + 0 ≤ mc; omega, by show slots + 0 ≤ ms; omega⟩ rfl) (fun H locs hH => ?_)
  obtain ⟨h99_16, hf⟩ := kif hf
  refine jt_ast V hH 0 rfl h99_16 rfl dX8_isSame_162 (fun H locs hH => ?_)
  refine lv_dup hx hb dX8_isSame_163 rfl ?_
  refine lv_bipush (v := 9) hx hb dX8_isSame_164 (by decide) ?_
  refine jl_aload hx hb dX8_isSame_166 (lv_at hl.1 11 rfl) ?_
  obtain ⟨h99_17, hf⟩ := kif hf
  refine jg_P V hH h99_17 3 (by decide) kf_X8_93 rfl dX8_isSame_168 ?_
  obtain ⟨h99_18, hf⟩ := kif hf
  refine jt_ast V hH 0 rfl h99_18 rfl dX8_isSame_171 (fun H locs hH => ?_)
  refine jl_astore (o := some xq61) (lv' := [(13, .ref xq61), (0, .ref (ad 0)), (1, .ref (adk 0)), (2, .int v2), (3, .int v3), (4, .int v4), (5, .int v5), (6, .int v6), (7, .int v7), (8, .ref (ad 4)), (9, .int v9), (10, .int v10), (11, jv ad 1 v11), (12, .int v12)]) hx hb dX8_isSame_172 hl (by decide) rfl (fun ls hl => ?_)
  refine lv_iconst (v := 0) hx hb dX8_isSame_174 (by decide) ?_
  refine jl_istore (lv' := [(14, .int 0), (13, .ref xq61), (0, .ref (ad 0)), (1, .ref (adk 0)), (2, .int v2), (3, .int v3), (4, .int v4), (5, .int v5), (6, .int v6), (7, .int v7), (8, .ref (ad 4)), (9, .int v9), (10, .int v10), (11, jv ad 1 v11), (12, .int v12)]) hx hb dX8_isSame_175 hl (by decide) rfl (fun ls hl => ?_)
  exact w_X8_isSame_177 V hA LX hk30 kN hH (jl_sub hl [2, 3, 4, 5, 6, 7, 8, 9, 10, 11, 12, 13, 14, 1, 0] rfl) hf hc hs
set_option maxHeartbeats 4000000 in
set_option maxRecDepth 100000 in
theorem w_X8_isSame_94 (V : jV p s mm args meth c cX8_isSame RX8 15 (some .boolean) D g) (hA : ∀ q, s.heap.size ≤ q → A q) (LX : jLX l A s) {c30 : Int32 → Int32 → Int32 → Int32 → Int32 → Int32 → Int32 → Int32 → kS → Option ((Int32 × kS) × Nat × Nat)} (hk30 : ∀ {v2 : Int32} {v3 : Int32} {v4 : Int32} {v5 : Int32} {v6 : Int32} {v7 : Int32} {v9 : Int32} {v10 : Int32} {k : kS} {H : Heap} {locs : List Loc} {ls : Array Slot} {cells slots mc ms uc us : Nat} {o : (Int32 × kS)}, jH A s H locs D g ad z (jY adk g k mo) [] → jl_has ls 15 [(0, .ref (ad 0)), (1, .ref (adk 0)), (2, .int v2), (3, .int v3), (4, .int v4), (5, .int v5), (6, .int v6), (7, .int v7), (8, .ref (ad 4)), (9, .int v9), (10, .int v10)] → c30 v2 v3 v4 v5 v6 v7 v9 v10 k = some (o, uc, us) → cells + uc = mc → slots + us = ms → W p l e (rm_X8_isSame mc ms) s mm args below meth c H locs cells slots (jLGi below args s D g A (fun a => a = ad) o.1 adk o.2 mo z mc ms) (F0 mm 30 ls [])) {s2 : Int32} {v2 : Int32} {v3 : Int32} {v4 : Int32} {v5 : Int32} {v6 : Int32} {v7 : Int32} {v9 : Int32} {v10 : Int32} {v11 : Int32} {v12 : Int32} {xq61 : Nat} {xl61 : Int32} {xf61 : Nat → Int32} {k : kS} {H : Heap} {locs : List Loc} {ls : Array Slot} {cells slots mc ms uc us : Nat} {o : (Int32 × kS)} (hH : jH A s H locs D g ad z (jY adk g k mo) [jTi g xq61 xl61 xf61]) (hl : jl_has ls 15 [(0, .ref (ad 0)), (1, .ref (adk 0)), (2, .int v2), (3, .int v3), (4, .int v4), (5, .int v5), (6, .int v6), (7, .int v7), (8, .ref (ad 4)), (9, .int v9), (10, .int v10), (11, jv ad 1 v11), (12, .int v12)]) (hf : F_X8_isSame_94 z c30 s2 v2 v3 v4 v5 v6 v7 v9 v10 v11 v12 xl61 xf61 k = some (o, uc, us)) (hc : cells + uc = mc) (hs : slots + us = ms) : W p l e (rm_X8_isSame mc ms) s mm args below meth c H locs cells slots (jLGi below args s D g A (fun a => a = ad) o.1 adk o.2 mo z mc ms) (F0 mm 94 ls [.int s2, .ref xq61, .ref xq61]) := by
  have hx := V.1
  have hb := V.2.1
  refine lv_iconst (v := 1) hx hb dX8_isSame_94 (by decide) ?_
  refine lv_goto (tgt := 99) hx hb dX8_isSame_95 (by decide) ?_
  exact w_X8_isSame_99 V hA LX hk30 hH (jl_sub hl [0, 1, 2, 3, 4, 5, 6, 7, 8, 9, 10, 11, 12] rfl) hf hc hs
set_option maxHeartbeats 4000000 in
set_option maxRecDepth 100000 in
theorem w_X8_isSame_98 (V : jV p s mm args meth c cX8_isSame RX8 15 (some .boolean) D g) (hA : ∀ q, s.heap.size ≤ q → A q) (LX : jLX l A s) {c30 : Int32 → Int32 → Int32 → Int32 → Int32 → Int32 → Int32 → Int32 → kS → Option ((Int32 × kS) × Nat × Nat)} (hk30 : ∀ {v2 : Int32} {v3 : Int32} {v4 : Int32} {v5 : Int32} {v6 : Int32} {v7 : Int32} {v9 : Int32} {v10 : Int32} {k : kS} {H : Heap} {locs : List Loc} {ls : Array Slot} {cells slots mc ms uc us : Nat} {o : (Int32 × kS)}, jH A s H locs D g ad z (jY adk g k mo) [] → jl_has ls 15 [(0, .ref (ad 0)), (1, .ref (adk 0)), (2, .int v2), (3, .int v3), (4, .int v4), (5, .int v5), (6, .int v6), (7, .int v7), (8, .ref (ad 4)), (9, .int v9), (10, .int v10)] → c30 v2 v3 v4 v5 v6 v7 v9 v10 k = some (o, uc, us) → cells + uc = mc → slots + us = ms → W p l e (rm_X8_isSame mc ms) s mm args below meth c H locs cells slots (jLGi below args s D g A (fun a => a = ad) o.1 adk o.2 mo z mc ms) (F0 mm 30 ls [])) {s2 : Int32} {v2 : Int32} {v3 : Int32} {v4 : Int32} {v5 : Int32} {v6 : Int32} {v7 : Int32} {v9 : Int32} {v10 : Int32} {v11 : Int32} {v12 : Int32} {xq61 : Nat} {xl61 : Int32} {xf61 : Nat → Int32} {k : kS} {H : Heap} {locs : List Loc} {ls : Array Slot} {cells slots mc ms uc us : Nat} {o : (Int32 × kS)} (hH : jH A s H locs D g ad z (jY adk g k mo) [jTi g xq61 xl61 xf61]) (hl : jl_has ls 15 [(0, .ref (ad 0)), (1, .ref (adk 0)), (2, .int v2), (3, .int v3), (4, .int v4), (5, .int v5), (6, .int v6), (7, .int v7), (8, .ref (ad 4)), (9, .int v9), (10, .int v10), (11, jv ad 1 v11), (12, .int v12)]) (hf : F_X8_isSame_98 z c30 s2 v2 v3 v4 v5 v6 v7 v9 v10 v11 v12 xl61 xf61 k = some (o, uc, us)) (hc : cells + uc = mc) (hs : slots + us = ms) : W p l e (rm_X8_isSame mc ms) s mm args below meth c H locs cells slots (jLGi below args s D g A (fun a => a = ad) o.1 adk o.2 mo z mc ms) (F0 mm 98 ls [.int s2, .ref xq61, .ref xq61]) := by
  have hx := V.1
  have hb := V.2.1
  refine lv_iconst (v := 0) hx hb dX8_isSame_98 (by decide) ?_
  exact w_X8_isSame_99 V hA LX hk30 hH (jl_sub hl [0, 1, 2, 3, 4, 5, 6, 7, 8, 9, 10, 11, 12] rfl) hf hc hs
set_option maxHeartbeats 4000000 in
set_option maxRecDepth 100000 in
theorem w_X8_isSame_78 (V : jV p s mm args meth c cX8_isSame RX8 15 (some .boolean) D g) (hA : ∀ q, s.heap.size ≤ q → A q) (LX : jLX l A s) {c30 : Int32 → Int32 → Int32 → Int32 → Int32 → Int32 → Int32 → Int32 → kS → Option ((Int32 × kS) × Nat × Nat)} (hk30 : ∀ {v2 : Int32} {v3 : Int32} {v4 : Int32} {v5 : Int32} {v6 : Int32} {v7 : Int32} {v9 : Int32} {v10 : Int32} {k : kS} {H : Heap} {locs : List Loc} {ls : Array Slot} {cells slots mc ms uc us : Nat} {o : (Int32 × kS)}, jH A s H locs D g ad z (jY adk g k mo) [] → jl_has ls 15 [(0, .ref (ad 0)), (1, .ref (adk 0)), (2, .int v2), (3, .int v3), (4, .int v4), (5, .int v5), (6, .int v6), (7, .int v7), (8, .ref (ad 4)), (9, .int v9), (10, .int v10)] → c30 v2 v3 v4 v5 v6 v7 v9 v10 k = some (o, uc, us) → cells + uc = mc → slots + us = ms → W p l e (rm_X8_isSame mc ms) s mm args below meth c H locs cells slots (jLGi below args s D g A (fun a => a = ad) o.1 adk o.2 mo z mc ms) (F0 mm 30 ls [])) {s2 : Int32} {s3 : Int32} {v2 : Int32} {v3 : Int32} {v4 : Int32} {v5 : Int32} {v6 : Int32} {v7 : Int32} {v9 : Int32} {v10 : Int32} {v11 : Int32} {v12 : Int32} {xq61 : Nat} {xl61 : Int32} {xf61 : Nat → Int32} {k : kS} {H : Heap} {locs : List Loc} {ls : Array Slot} {cells slots mc ms uc us : Nat} {o : (Int32 × kS)} (hH : jH A s H locs D g ad z (jY adk g k mo) [jTi g xq61 xl61 xf61]) (hl : jl_has ls 15 [(0, .ref (ad 0)), (1, .ref (adk 0)), (2, .int v2), (3, .int v3), (4, .int v4), (5, .int v5), (6, .int v6), (7, .int v7), (8, .ref (ad 4)), (9, .int v9), (10, .int v10), (11, jv ad 1 v11), (12, .int v12)]) (hf : F_X8_isSame_78 z c30 s2 s3 v2 v3 v4 v5 v6 v7 v9 v10 v11 v12 xl61 xf61 k = some (o, uc, us)) (hc : cells + uc = mc) (hs : slots + us = ms) : W p l e (rm_X8_isSame mc ms) s mm args below meth c H locs cells slots (jLGi below args s D g A (fun a => a = ad) o.1 adk o.2 mo z mc ms) (F0 mm 78 ls [.int s3, .int s2, .ref xq61, .ref xq61]) := by
  have hx := V.1
  have hb := V.2.1
  obtain ⟨h78_1, hf⟩ := kif hf
  refine jt_ast V hH 0 rfl h78_1 rfl dX8_isSame_78 (fun H locs hH => ?_)
  refine lv_dup hx hb dX8_isSame_79 rfl ?_
  refine lv_iconst (v := 1) hx hb dX8_isSame_80 (by decide) ?_
  refine jl_aload hx hb dX8_isSame_81 (lv_at hl.1 11 rfl) ?_
  obtain ⟨h78_2, hf⟩ := kif hf
  refine jg_P V hH h78_2 2 (by decide) kf_X8_33 rfl dX8_isSame_83 ?_
  obtain ⟨h78_3, hf⟩ := kif hf
  refine jt_ast V hH 0 rfl h78_3 rfl dX8_isSame_86 (fun H locs hH => ?_)
  refine lv_dup hx hb dX8_isSame_87 rfl ?_
  refine lv_iconst (v := 2) hx hb dX8_isSame_88 (by decide) ?_
  refine lv_iload hx hb dX8_isSame_89 (lv_at hl.1 12 rfl) ?_
  refine lv_if_eq (tgt := 98) hx hb dX8_isSame_91 (by decide) (fun hq => ?_) (fun hq => ?_)
  · have hf := kpos hq hf
    exact w_X8_isSame_98 V hA LX hk30 hH (jl_sub hl [0, 1, 2, 3, 4, 5, 6, 7, 8, 9, 10, 11, 12] rfl) hf hc hs
  · have hf := kneg hq hf
    exact w_X8_isSame_94 V hA LX hk30 hH (jl_sub hl [0, 1, 2, 3, 4, 5, 6, 7, 8, 9, 10, 11, 12] rfl) hf hc hs
set_option maxHeartbeats 4000000 in
set_option maxRecDepth 100000 in
theorem w_X8_isSame_73 (V : jV p s mm args meth c cX8_isSame RX8 15 (some .boolean) D g) (hA : ∀ q, s.heap.size ≤ q → A q) (LX : jLX l A s) {c30 : Int32 → Int32 → Int32 → Int32 → Int32 → Int32 → Int32 → Int32 → kS → Option ((Int32 × kS) × Nat × Nat)} (hk30 : ∀ {v2 : Int32} {v3 : Int32} {v4 : Int32} {v5 : Int32} {v6 : Int32} {v7 : Int32} {v9 : Int32} {v10 : Int32} {k : kS} {H : Heap} {locs : List Loc} {ls : Array Slot} {cells slots mc ms uc us : Nat} {o : (Int32 × kS)}, jH A s H locs D g ad z (jY adk g k mo) [] → jl_has ls 15 [(0, .ref (ad 0)), (1, .ref (adk 0)), (2, .int v2), (3, .int v3), (4, .int v4), (5, .int v5), (6, .int v6), (7, .int v7), (8, .ref (ad 4)), (9, .int v9), (10, .int v10)] → c30 v2 v3 v4 v5 v6 v7 v9 v10 k = some (o, uc, us) → cells + uc = mc → slots + us = ms → W p l e (rm_X8_isSame mc ms) s mm args below meth c H locs cells slots (jLGi below args s D g A (fun a => a = ad) o.1 adk o.2 mo z mc ms) (F0 mm 30 ls [])) {s2 : Int32} {v2 : Int32} {v3 : Int32} {v4 : Int32} {v5 : Int32} {v6 : Int32} {v7 : Int32} {v9 : Int32} {v10 : Int32} {v11 : Int32} {v12 : Int32} {xq61 : Nat} {xl61 : Int32} {xf61 : Nat → Int32} {k : kS} {H : Heap} {locs : List Loc} {ls : Array Slot} {cells slots mc ms uc us : Nat} {o : (Int32 × kS)} (hH : jH A s H locs D g ad z (jY adk g k mo) [jTi g xq61 xl61 xf61]) (hl : jl_has ls 15 [(0, .ref (ad 0)), (1, .ref (adk 0)), (2, .int v2), (3, .int v3), (4, .int v4), (5, .int v5), (6, .int v6), (7, .int v7), (8, .ref (ad 4)), (9, .int v9), (10, .int v10), (11, jv ad 1 v11), (12, .int v12)]) (hf : F_X8_isSame_73 z c30 s2 v2 v3 v4 v5 v6 v7 v9 v10 v11 v12 xl61 xf61 k = some (o, uc, us)) (hc : cells + uc = mc) (hs : slots + us = ms) : W p l e (rm_X8_isSame mc ms) s mm args below meth c H locs cells slots (jLGi below args s D g A (fun a => a = ad) o.1 adk o.2 mo z mc ms) (F0 mm 73 ls [.int s2, .ref xq61, .ref xq61]) := by
  have hx := V.1
  have hb := V.2.1
  refine lv_iconst (v := 1) hx hb dX8_isSame_73 (by decide) ?_
  refine lv_goto (tgt := 78) hx hb dX8_isSame_74 (by decide) ?_
  exact w_X8_isSame_78 V hA LX hk30 hH (jl_sub hl [0, 1, 2, 3, 4, 5, 6, 7, 8, 9, 10, 11, 12] rfl) hf hc hs
set_option maxHeartbeats 4000000 in
set_option maxRecDepth 100000 in
theorem w_X8_isSame_77 (V : jV p s mm args meth c cX8_isSame RX8 15 (some .boolean) D g) (hA : ∀ q, s.heap.size ≤ q → A q) (LX : jLX l A s) {c30 : Int32 → Int32 → Int32 → Int32 → Int32 → Int32 → Int32 → Int32 → kS → Option ((Int32 × kS) × Nat × Nat)} (hk30 : ∀ {v2 : Int32} {v3 : Int32} {v4 : Int32} {v5 : Int32} {v6 : Int32} {v7 : Int32} {v9 : Int32} {v10 : Int32} {k : kS} {H : Heap} {locs : List Loc} {ls : Array Slot} {cells slots mc ms uc us : Nat} {o : (Int32 × kS)}, jH A s H locs D g ad z (jY adk g k mo) [] → jl_has ls 15 [(0, .ref (ad 0)), (1, .ref (adk 0)), (2, .int v2), (3, .int v3), (4, .int v4), (5, .int v5), (6, .int v6), (7, .int v7), (8, .ref (ad 4)), (9, .int v9), (10, .int v10)] → c30 v2 v3 v4 v5 v6 v7 v9 v10 k = some (o, uc, us) → cells + uc = mc → slots + us = ms → W p l e (rm_X8_isSame mc ms) s mm args below meth c H locs cells slots (jLGi below args s D g A (fun a => a = ad) o.1 adk o.2 mo z mc ms) (F0 mm 30 ls [])) {s2 : Int32} {v2 : Int32} {v3 : Int32} {v4 : Int32} {v5 : Int32} {v6 : Int32} {v7 : Int32} {v9 : Int32} {v10 : Int32} {v11 : Int32} {v12 : Int32} {xq61 : Nat} {xl61 : Int32} {xf61 : Nat → Int32} {k : kS} {H : Heap} {locs : List Loc} {ls : Array Slot} {cells slots mc ms uc us : Nat} {o : (Int32 × kS)} (hH : jH A s H locs D g ad z (jY adk g k mo) [jTi g xq61 xl61 xf61]) (hl : jl_has ls 15 [(0, .ref (ad 0)), (1, .ref (adk 0)), (2, .int v2), (3, .int v3), (4, .int v4), (5, .int v5), (6, .int v6), (7, .int v7), (8, .ref (ad 4)), (9, .int v9), (10, .int v10), (11, jv ad 1 v11), (12, .int v12)]) (hf : F_X8_isSame_77 z c30 s2 v2 v3 v4 v5 v6 v7 v9 v10 v11 v12 xl61 xf61 k = some (o, uc, us)) (hc : cells + uc = mc) (hs : slots + us = ms) : W p l e (rm_X8_isSame mc ms) s mm args below meth c H locs cells slots (jLGi below args s D g A (fun a => a = ad) o.1 adk o.2 mo z mc ms) (F0 mm 77 ls [.int s2, .ref xq61, .ref xq61]) := by
  have hx := V.1
  have hb := V.2.1
  refine lv_iconst (v := 0) hx hb dX8_isSame_77 (by decide) ?_
  exact w_X8_isSame_78 V hA LX hk30 hH (jl_sub hl [0, 1, 2, 3, 4, 5, 6, 7, 8, 9, 10, 11, 12] rfl) hf hc hs
set_option maxHeartbeats 4000000 in
set_option maxRecDepth 100000 in
theorem w_X8_isSame_57 (V : jV p s mm args meth c cX8_isSame RX8 15 (some .boolean) D g) (hA : ∀ q, s.heap.size ≤ q → A q) (LX : jLX l A s) {c30 : Int32 → Int32 → Int32 → Int32 → Int32 → Int32 → Int32 → Int32 → kS → Option ((Int32 × kS) × Nat × Nat)} (hk30 : ∀ {v2 : Int32} {v3 : Int32} {v4 : Int32} {v5 : Int32} {v6 : Int32} {v7 : Int32} {v9 : Int32} {v10 : Int32} {k : kS} {H : Heap} {locs : List Loc} {ls : Array Slot} {cells slots mc ms uc us : Nat} {o : (Int32 × kS)}, jH A s H locs D g ad z (jY adk g k mo) [] → jl_has ls 15 [(0, .ref (ad 0)), (1, .ref (adk 0)), (2, .int v2), (3, .int v3), (4, .int v4), (5, .int v5), (6, .int v6), (7, .int v7), (8, .ref (ad 4)), (9, .int v9), (10, .int v10)] → c30 v2 v3 v4 v5 v6 v7 v9 v10 k = some (o, uc, us) → cells + uc = mc → slots + us = ms → W p l e (rm_X8_isSame mc ms) s mm args below meth c H locs cells slots (jLGi below args s D g A (fun a => a = ad) o.1 adk o.2 mo z mc ms) (F0 mm 30 ls [])) {s0 : Int32} {v2 : Int32} {v3 : Int32} {v4 : Int32} {v5 : Int32} {v6 : Int32} {v7 : Int32} {v9 : Int32} {v10 : Int32} {v11 : Int32} {k : kS} {H : Heap} {locs : List Loc} {ls : Array Slot} {cells slots mc ms uc us : Nat} {o : (Int32 × kS)} (hH : jH A s H locs D g ad z (jY adk g k mo) []) (hl : jl_has ls 15 [(0, .ref (ad 0)), (1, .ref (adk 0)), (2, .int v2), (3, .int v3), (4, .int v4), (5, .int v5), (6, .int v6), (7, .int v7), (8, .ref (ad 4)), (9, .int v9), (10, .int v10), (11, jv ad 1 v11)]) (hf : F_X8_isSame_57 z c30 s0 v2 v3 v4 v5 v6 v7 v9 v10 v11 k = some (o, uc, us)) (hc : cells + uc = mc) (hs : slots + us = ms) : W p l e (rm_X8_isSame mc ms) s mm args below meth c H locs cells slots (jLGi below args s D g A (fun a => a = ad) o.1 adk o.2 mo z mc ms) (F0 mm 57 ls [.int s0]) := by
  have hx := V.1
  have hb := V.2.1
  refine jl_istore (lv' := [(12, .int s0), (0, .ref (ad 0)), (1, .ref (adk 0)), (2, .int v2), (3, .int v3), (4, .int v4), (5, .int v5), (6, .int v6), (7, .int v7), (8, .ref (ad 4)), (9, .int v9), (10, .int v10), (11, jv ad 1 v11)]) hx hb dX8_isSame_57 hl (by decide) rfl (fun ls hl => ?_)
  refine lv_bipush (v := 10) hx hb dX8_isSame_59 (by decide) ?_
  obtain ⟨h57_1, hf⟩ := kif hf
  obtain ⟨uc57_2, us57_3, hf, e1, e2⟩ := kadd_some2 hf
  have e1 : uc = 1 + uc57_2 := e1
  have e2 : us = (10 : Int32).toNatClampNeg + us57_3 := e2
  have hc : cells + 1 + uc57_2 = mc := by rw [Nat.add_assoc, ← e1]; exact hc
  have hs : slots + (10 : Int32).toNatClampNeg + us57_3 = ms := by rw [Nat.add_assoc, ← e2]; exact hs
  have lc : cells + 1 ≤ mc := Nat.le.intro hc
  have ls2 : slots + (10 : Int32).toNatClampNeg ≤ ms := Nat.le.intro hs
  refine jt_new V hA hH (fun q => h57_1 (Or.inl q)) (Nat.not_lt.mp fun q => h57_1 (Or.inr q)) lc ls2 dX8_isSame_61 (fun xq61 H hH => ?_)
  refine lv_dup hx hb dX8_isSame_63 rfl ?_
  refine lv_iconst (v := 0) hx hb dX8_isSame_64 (by decide) ?_
  refine jl_aload hx hb dX8_isSame_65 (lv_at hl.1 12 rfl) ?_
  obtain ⟨h57_4, hf⟩ := kif hf
  refine jg_P V hH h57_4 1 (by decide) kf_X8_26 rfl dX8_isSame_67 ?_
  refine lv_if_eq (tgt := 77) hx hb dX8_isSame_70 (by decide) (fun hq => ?_) (fun hq => ?_)
  · have hf := kpos hq hf
    exact w_X8_isSame_77 V hA LX hk30 hH (jl_sub hl [1, 2, 3, 4, 5, 6, 7, 8, 9, 10, 11, 12, 0] rfl) hf hc hs
  · have hf := kneg hq hf
    exact w_X8_isSame_73 V hA LX hk30 hH (jl_sub hl [1, 2, 3, 4, 5, 6, 7, 8, 9, 10, 11, 12, 0] rfl) hf hc hs
set_option maxHeartbeats 4000000 in
set_option maxRecDepth 100000 in
theorem w_X8_isSame_52 (V : jV p s mm args meth c cX8_isSame RX8 15 (some .boolean) D g) (hA : ∀ q, s.heap.size ≤ q → A q) (LX : jLX l A s) {c30 : Int32 → Int32 → Int32 → Int32 → Int32 → Int32 → Int32 → Int32 → kS → Option ((Int32 × kS) × Nat × Nat)} (hk30 : ∀ {v2 : Int32} {v3 : Int32} {v4 : Int32} {v5 : Int32} {v6 : Int32} {v7 : Int32} {v9 : Int32} {v10 : Int32} {k : kS} {H : Heap} {locs : List Loc} {ls : Array Slot} {cells slots mc ms uc us : Nat} {o : (Int32 × kS)}, jH A s H locs D g ad z (jY adk g k mo) [] → jl_has ls 15 [(0, .ref (ad 0)), (1, .ref (adk 0)), (2, .int v2), (3, .int v3), (4, .int v4), (5, .int v5), (6, .int v6), (7, .int v7), (8, .ref (ad 4)), (9, .int v9), (10, .int v10)] → c30 v2 v3 v4 v5 v6 v7 v9 v10 k = some (o, uc, us) → cells + uc = mc → slots + us = ms → W p l e (rm_X8_isSame mc ms) s mm args below meth c H locs cells slots (jLGi below args s D g A (fun a => a = ad) o.1 adk o.2 mo z mc ms) (F0 mm 30 ls [])) {v2 : Int32} {v3 : Int32} {v4 : Int32} {v5 : Int32} {v6 : Int32} {v7 : Int32} {v9 : Int32} {v10 : Int32} {v11 : Int32} {k : kS} {H : Heap} {locs : List Loc} {ls : Array Slot} {cells slots mc ms uc us : Nat} {o : (Int32 × kS)} (hH : jH A s H locs D g ad z (jY adk g k mo) []) (hl : jl_has ls 15 [(0, .ref (ad 0)), (1, .ref (adk 0)), (2, .int v2), (3, .int v3), (4, .int v4), (5, .int v5), (6, .int v6), (7, .int v7), (8, .ref (ad 4)), (9, .int v9), (10, .int v10), (11, jv ad 1 v11)]) (hf : F_X8_isSame_52 z c30 v2 v3 v4 v5 v6 v7 v9 v10 v11 k = some (o, uc, us)) (hc : cells + uc = mc) (hs : slots + us = ms) : W p l e (rm_X8_isSame mc ms) s mm args below meth c H locs cells slots (jLGi below args s D g A (fun a => a = ad) o.1 adk o.2 mo z mc ms) (F0 mm 52 ls []) := by
  have hx := V.1
  have hb := V.2.1
  refine lv_iconst (v := 1) hx hb dX8_isSame_52 (by decide) ?_
  refine lv_goto (tgt := 57) hx hb dX8_isSame_53 (by decide) ?_
  exact w_X8_isSame_57 V hA LX hk30 hH (jl_sub hl [0, 1, 2, 3, 4, 5, 6, 7, 8, 9, 10, 11] rfl) hf hc hs
set_option maxHeartbeats 4000000 in
set_option maxRecDepth 100000 in
theorem w_X8_isSame_56 (V : jV p s mm args meth c cX8_isSame RX8 15 (some .boolean) D g) (hA : ∀ q, s.heap.size ≤ q → A q) (LX : jLX l A s) {c30 : Int32 → Int32 → Int32 → Int32 → Int32 → Int32 → Int32 → Int32 → kS → Option ((Int32 × kS) × Nat × Nat)} (hk30 : ∀ {v2 : Int32} {v3 : Int32} {v4 : Int32} {v5 : Int32} {v6 : Int32} {v7 : Int32} {v9 : Int32} {v10 : Int32} {k : kS} {H : Heap} {locs : List Loc} {ls : Array Slot} {cells slots mc ms uc us : Nat} {o : (Int32 × kS)}, jH A s H locs D g ad z (jY adk g k mo) [] → jl_has ls 15 [(0, .ref (ad 0)), (1, .ref (adk 0)), (2, .int v2), (3, .int v3), (4, .int v4), (5, .int v5), (6, .int v6), (7, .int v7), (8, .ref (ad 4)), (9, .int v9), (10, .int v10)] → c30 v2 v3 v4 v5 v6 v7 v9 v10 k = some (o, uc, us) → cells + uc = mc → slots + us = ms → W p l e (rm_X8_isSame mc ms) s mm args below meth c H locs cells slots (jLGi below args s D g A (fun a => a = ad) o.1 adk o.2 mo z mc ms) (F0 mm 30 ls [])) {v2 : Int32} {v3 : Int32} {v4 : Int32} {v5 : Int32} {v6 : Int32} {v7 : Int32} {v9 : Int32} {v10 : Int32} {v11 : Int32} {k : kS} {H : Heap} {locs : List Loc} {ls : Array Slot} {cells slots mc ms uc us : Nat} {o : (Int32 × kS)} (hH : jH A s H locs D g ad z (jY adk g k mo) []) (hl : jl_has ls 15 [(0, .ref (ad 0)), (1, .ref (adk 0)), (2, .int v2), (3, .int v3), (4, .int v4), (5, .int v5), (6, .int v6), (7, .int v7), (8, .ref (ad 4)), (9, .int v9), (10, .int v10), (11, jv ad 1 v11)]) (hf : F_X8_isSame_56 z c30 v2 v3 v4 v5 v6 v7 v9 v10 v11 k = some (o, uc, us)) (hc : cells + uc = mc) (hs : slots + us = ms) : W p l e (rm_X8_isSame mc ms) s mm args below meth c H locs cells slots (jLGi below args s D g A (fun a => a = ad) o.1 adk o.2 mo z mc ms) (F0 mm 56 ls []) := by
  have hx := V.1
  have hb := V.2.1
  refine lv_iconst (v := 0) hx hb dX8_isSame_56 (by decide) ?_
  exact w_X8_isSame_57 V hA LX hk30 hH (jl_sub hl [0, 1, 2, 3, 4, 5, 6, 7, 8, 9, 10, 11] rfl) hf hc hs
set_option maxHeartbeats 4000000 in
set_option maxRecDepth 100000 in
theorem w_X8_isSame_37 (V : jV p s mm args meth c cX8_isSame RX8 15 (some .boolean) D g) (hA : ∀ q, s.heap.size ≤ q → A q) (LX : jLX l A s) {c30 : Int32 → Int32 → Int32 → Int32 → Int32 → Int32 → Int32 → Int32 → kS → Option ((Int32 × kS) × Nat × Nat)} (hk30 : ∀ {v2 : Int32} {v3 : Int32} {v4 : Int32} {v5 : Int32} {v6 : Int32} {v7 : Int32} {v9 : Int32} {v10 : Int32} {k : kS} {H : Heap} {locs : List Loc} {ls : Array Slot} {cells slots mc ms uc us : Nat} {o : (Int32 × kS)}, jH A s H locs D g ad z (jY adk g k mo) [] → jl_has ls 15 [(0, .ref (ad 0)), (1, .ref (adk 0)), (2, .int v2), (3, .int v3), (4, .int v4), (5, .int v5), (6, .int v6), (7, .int v7), (8, .ref (ad 4)), (9, .int v9), (10, .int v10)] → c30 v2 v3 v4 v5 v6 v7 v9 v10 k = some (o, uc, us) → cells + uc = mc → slots + us = ms → W p l e (rm_X8_isSame mc ms) s mm args below meth c H locs cells slots (jLGi below args s D g A (fun a => a = ad) o.1 adk o.2 mo z mc ms) (F0 mm 30 ls [])) {v2 : Int32} {v3 : Int32} {v4 : Int32} {v5 : Int32} {v6 : Int32} {v7 : Int32} {v9 : Int32} {v10 : Int32} {k : kS} {H : Heap} {locs : List Loc} {ls : Array Slot} {cells slots mc ms uc us : Nat} {o : (Int32 × kS)} (hH : jH A s H locs D g ad z (jY adk g k mo) []) (hl : jl_has ls 15 [(0, .ref (ad 0)), (1, .ref (adk 0)), (2, .int v2), (3, .int v3), (4, .int v4), (5, .int v5), (6, .int v6), (7, .int v7), (8, .ref (ad 4)), (9, .int v9), (10, .int v10)]) (hf : F_X8_isSame_37 z c30 v2 v3 v4 v5 v6 v7 v9 v10 k = some (o, uc, us)) (hc : cells + uc = mc) (hs : slots + us = ms) : W p l e (rm_X8_isSame mc ms) s mm args below meth c H locs cells slots (jLGi below args s D g A (fun a => a = ad) o.1 adk o.2 mo z mc ms) (F0 mm 37 ls []) := by
  have hx := V.1
  have hb := V.2.1
  refine lv_aload hx hb dX8_isSame_37 (lv_at hl.1 8 rfl) ?_
  refine lv_iload hx hb dX8_isSame_39 (lv_at hl.1 10 rfl) ?_
  obtain ⟨h37_1, hf⟩ := kif hf
  refine jald_4 V hH h37_1 dX8_isSame_41 ?_
  refine jl_astore (lv' := [(11, jv ad 1 (z 4 v10.toNatClampNeg)), (0, .ref (ad 0)), (1, .ref (adk 0)), (2, .int v2), (3, .int v3), (4, .int v4), (5, .int v5), (6, .int v6), (7, .int v7), (8, .ref (ad 4)), (9, .int v9), (10, .int v10)]) hx hb dX8_isSame_42 hl (by decide) rfl (fun ls hl => ?_)
  refine jl_aload hx hb dX8_isSame_44 (lv_at hl.1 0 rfl) ?_
  obtain ⟨h37_2, hf⟩ := kif hf
  refine jg_P V hH h37_2 3 (by decide) kf_X8_93 rfl dX8_isSame_46 ?_
  refine lv_if_ge (tgt := 56) hx hb dX8_isSame_49 (by decide) (fun hq => ?_) (fun hq => ?_)
  · have hf := kpos hq hf
    exact w_X8_isSame_56 V hA LX hk30 hH (jl_sub hl [1, 2, 3, 4, 5, 6, 7, 8, 9, 10, 11, 0] rfl) hf hc hs
  · have hf := kneg hq hf
    exact w_X8_isSame_52 V hA LX hk30 hH (jl_sub hl [1, 2, 3, 4, 5, 6, 7, 8, 9, 10, 11, 0] rfl) hf hc hs
set_option maxHeartbeats 4000000 in
set_option maxRecDepth 100000 in
theorem w_X8_isSame_472 (V : jV p s mm args meth c cX8_isSame RX8 15 (some .boolean) D g) (hA : ∀ q, s.heap.size ≤ q → A q) (LX : jLX l A s) {k : kS} {H : Heap} {locs : List Loc} {ls : Array Slot} {cells slots mc ms uc us : Nat} {o : (Int32 × kS)} (hH : jH A s H locs D g ad z (jY adk g k mo) []) (hl : jl_has ls 15 []) (hf : F_X8_isSame_472 z k = some (o, uc, us)) (hc : cells + uc = mc) (hs : slots + us = ms) : W p l e (rm_X8_isSame mc ms) s mm args below meth c H locs cells slots (jLGi below args s D g A (fun a => a = ad) o.1 adk o.2 mo z mc ms) (F0 mm 472 ls []) := by
  have hx := V.1
  have hb := V.2.1
  refine lv_iconst (v := 0) hx hb dX8_isSame_472 (by decide) ?_
  obtain ⟨h472_1, hf⟩ := kif hf
  cases hf
  subst hc
  subst hs
  exact jl_zret (G := fun a => a = ad) V rfl hH (Decidable.not_not.mp h472_1) dX8_isSame_473
set_option maxHeartbeats 4000000 in
set_option maxRecDepth 100000 in
theorem w_X8_isSame_474 (V : jV p s mm args meth c cX8_isSame RX8 15 (some .boolean) D g) (hA : ∀ q, s.heap.size ≤ q → A q) (LX : jLX l A s) {c320 : Int32 → Int32 → Int32 → Int32 → Int32 → Int32 → Int32 → kS → Option ((Int32 × kS) × Nat × Nat)} (hk320 : ∀ {v2 : Int32} {v3 : Int32} {v4 : Int32} {v5 : Int32} {v6 : Int32} {v7 : Int32} {v8 : Int32} {k : kS} {H : Heap} {locs : List Loc} {ls : Array Slot} {cells slots mc ms uc us : Nat} {o : (Int32 × kS)}, jH A s H locs D g ad z (jY adk g k mo) [] → jl_has ls 15 [(0, .ref (ad 0)), (1, .ref (adk 0)), (2, .int v2), (3, .int v3), (4, .int v4), (5, .int v5), (6, .int v6), (7, .int v7), (8, .int v8)] → c320 v2 v3 v4 v5 v6 v7 v8 k = some (o, uc, us) → cells + uc = mc → slots + us = ms → W p l e (rm_X8_isSame mc ms) s mm args below meth c H locs cells slots (jLGi below args s D g A (fun a => a = ad) o.1 adk o.2 mo z mc ms) (F0 mm 320 ls [])) {c449 : Int32 → Int32 → Int32 → Int32 → Int32 → Int32 → Int32 → Int32 → Int32 → Int32 → (Nat → Int32) → kS → Option ((Int32 × kS) × Nat × Nat)} (hk449 : ∀ {v2 : Int32} {v3 : Int32} {v4 : Int32} {v5 : Int32} {v6 : Int32} {v7 : Int32} {v8 : Int32} {v9 : Int32} {v11 : Int32} {xq359 : Nat} {xl359 : Int32} {xf359 : Nat → Int32} {k : kS} {H : Heap} {locs : List Loc} {ls : Array Slot} {cells slots mc ms uc us : Nat} {o : (Int32 × kS)}, jH A s H locs D g ad z (jY adk g k mo) [jTi g xq359 xl359 xf359] → jl_has ls 15 [(0, .ref (ad 0)), (1, .ref (adk 0)), (2, .int v2), (3, .int v3), (4, .int v4), (5, .int v5), (6, .int v6), (7, .int v7), (8, .int v8), (9, jv ad 2 v9), (10, .ref xq359), (11, .int v11)] → c449 v2 v3 v4 v5 v6 v7 v8 v9 v11 xl359 xf359 k = some (o, uc, us) → cells + uc = mc → slots + us = ms → W p l e (rm_X8_isSame mc ms) s mm args below meth c H locs cells slots (jLGi below args s D g A (fun a => a = ad) o.1 adk o.2 mo z mc ms) (F0 mm 449 ls [])) {v2 : Int32} {v3 : Int32} {v4 : Int32} {v5 : Int32} {v6 : Int32} {v7 : Int32} {v8 : Int32} {v9 : Int32} {v11 : Int32} {xq359 : Nat} {xl359 : Int32} {xf359 : Nat → Int32} {k : kS} {H : Heap} {locs : List Loc} {ls : Array Slot} {cells slots mc ms uc us : Nat} {o : (Int32 × kS)} (hH : jH A s H locs D g ad z (jY adk g k mo) [jTi g xq359 xl359 xf359]) (hl : jl_has ls 15 [(0, .ref (ad 0)), (1, .ref (adk 0)), (2, .int v2), (3, .int v3), (4, .int v4), (5, .int v5), (6, .int v6), (7, .int v7), (8, .int v8), (9, jv ad 2 v9), (10, .ref xq359), (11, .int v11)]) (hf : F_X8_isSame_474 z c320 c449 v2 v3 v4 v5 v6 v7 v8 v9 v11 xl359 xf359 k = some (o, uc, us)) (hc : cells + uc = mc) (hs : slots + us = ms) : W p l e (rm_X8_isSame mc ms) s mm args below meth c H locs cells slots (jLGi below args s D g A (fun a => a = ad) o.1 adk o.2 mo z mc ms) (F0 mm 474 ls []) := by
  have hx := V.1
  have hb := V.2.1
  refine jl_iinc (v := (v11 + 1)) (lv' := [(11, .int (v11 + 1)), (0, .ref (ad 0)), (1, .ref (adk 0)), (2, .int v2), (3, .int v3), (4, .int v4), (5, .int v5), (6, .int v6), (7, .int v7), (8, .int v8), (9, jv ad 2 v9), (10, .ref xq359)]) hx hb dX8_isSame_474 hl (k := 11) rfl rfl (by decide) rfl (fun ls hl => ?_)
  refine lv_goto (tgt := 449) hx hb dX8_isSame_477 (by decide) ?_
  exact hk449 hH (jl_sub hl [1, 2, 3, 4, 5, 6, 7, 8, 9, 10, 11, 0] rfl) hf hc hs
set_option maxHeartbeats 4000000 in
set_option maxRecDepth 100000 in
theorem w_X8_isSame_456 (V : jV p s mm args meth c cX8_isSame RX8 15 (some .boolean) D g) (hA : ∀ q, s.heap.size ≤ q → A q) (LX : jLX l A s) {c320 : Int32 → Int32 → Int32 → Int32 → Int32 → Int32 → Int32 → kS → Option ((Int32 × kS) × Nat × Nat)} (hk320 : ∀ {v2 : Int32} {v3 : Int32} {v4 : Int32} {v5 : Int32} {v6 : Int32} {v7 : Int32} {v8 : Int32} {k : kS} {H : Heap} {locs : List Loc} {ls : Array Slot} {cells slots mc ms uc us : Nat} {o : (Int32 × kS)}, jH A s H locs D g ad z (jY adk g k mo) [] → jl_has ls 15 [(0, .ref (ad 0)), (1, .ref (adk 0)), (2, .int v2), (3, .int v3), (4, .int v4), (5, .int v5), (6, .int v6), (7, .int v7), (8, .int v8)] → c320 v2 v3 v4 v5 v6 v7 v8 k = some (o, uc, us) → cells + uc = mc → slots + us = ms → W p l e (rm_X8_isSame mc ms) s mm args below meth c H locs cells slots (jLGi below args s D g A (fun a => a = ad) o.1 adk o.2 mo z mc ms) (F0 mm 320 ls [])) {c449 : Int32 → Int32 → Int32 → Int32 → Int32 → Int32 → Int32 → Int32 → Int32 → Int32 → (Nat → Int32) → kS → Option ((Int32 × kS) × Nat × Nat)} (hk449 : ∀ {v2 : Int32} {v3 : Int32} {v4 : Int32} {v5 : Int32} {v6 : Int32} {v7 : Int32} {v8 : Int32} {v9 : Int32} {v11 : Int32} {xq359 : Nat} {xl359 : Int32} {xf359 : Nat → Int32} {k : kS} {H : Heap} {locs : List Loc} {ls : Array Slot} {cells slots mc ms uc us : Nat} {o : (Int32 × kS)}, jH A s H locs D g ad z (jY adk g k mo) [jTi g xq359 xl359 xf359] → jl_has ls 15 [(0, .ref (ad 0)), (1, .ref (adk 0)), (2, .int v2), (3, .int v3), (4, .int v4), (5, .int v5), (6, .int v6), (7, .int v7), (8, .int v8), (9, jv ad 2 v9), (10, .ref xq359), (11, .int v11)] → c449 v2 v3 v4 v5 v6 v7 v8 v9 v11 xl359 xf359 k = some (o, uc, us) → cells + uc = mc → slots + us = ms → W p l e (rm_X8_isSame mc ms) s mm args below meth c H locs cells slots (jLGi below args s D g A (fun a => a = ad) o.1 adk o.2 mo z mc ms) (F0 mm 449 ls [])) {v2 : Int32} {v3 : Int32} {v4 : Int32} {v5 : Int32} {v6 : Int32} {v7 : Int32} {v8 : Int32} {v9 : Int32} {v11 : Int32} {xq359 : Nat} {xl359 : Int32} {xf359 : Nat → Int32} {k : kS} {H : Heap} {locs : List Loc} {ls : Array Slot} {cells slots mc ms uc us : Nat} {o : (Int32 × kS)} (hH : jH A s H locs D g ad z (jY adk g k mo) [jTi g xq359 xl359 xf359]) (hl : jl_has ls 15 [(0, .ref (ad 0)), (1, .ref (adk 0)), (2, .int v2), (3, .int v3), (4, .int v4), (5, .int v5), (6, .int v6), (7, .int v7), (8, .int v8), (9, jv ad 2 v9), (10, .ref xq359), (11, .int v11)]) (hf : F_X8_isSame_456 z c320 c449 v2 v3 v4 v5 v6 v7 v8 v9 v11 xl359 xf359 k = some (o, uc, us)) (hc : cells + uc = mc) (hs : slots + us = ms) : W p l e (rm_X8_isSame mc ms) s mm args below meth c H locs cells slots (jLGi below args s D g A (fun a => a = ad) o.1 adk o.2 mo z mc ms) (F0 mm 456 ls []) := by
  have hx := V.1
  have hb := V.2.1
  refine lv_aload_n hx hb dX8_isSame_456 rfl (lv_at hl.1 1 rfl) ?_
  refine lv_iload hx hb dX8_isSame_457 (lv_at hl.1 8 rfl) ?_
  refine lv_iload hx hb dX8_isSame_459 (lv_at hl.1 11 rfl) ?_
  obtain ⟨x456_1, hx456_1, hf⟩ := kbind hf
  obtain ⟨h456_2, hf⟩ := kif hf
  obtain ⟨uc456_3, us456_4, hf, e1, e2⟩ := kadd_some2 hf
  have e1 : uc = 4 + uc456_3 := e1
  have e2 : us = 24 + us456_4 := e2
  have hc : cells + 4 + uc456_3 = mc := by rw [Nat.add_assoc, ← e1]; exact hc
  have hs : slots + 24 + us456_4 = ms := by rw [Nat.add_assoc, ← e2]; exact hs
  have lc : cells + 4 ≤ mc := Nat.le.intro hc
  have ls2 : slots + 24 ≤ ms := Nat.le.intro hs
  refine jc_callx V hA LX hH kYX5_land kl_X8_141 (c_X5_land l LX.1 _ _ hx456_1 _) (Decidable.not_not.mp h456_2) rfl rfl ⟨Nat.le_of_ble_eq_true rfl, Nat.le_of_ble_eq_true rfl⟩ rfl hl.1.1 (as := [.int v8, .int v11]) (rest := []) (Nat.le_of_ble_eq_true rfl) dX8_isSame_461 ⟨lc, ls2⟩ rfl (fun H locs hH => ?_)
  refine lv_aload hx hb dX8_isSame_464 (lv_at hl.1 10 rfl) ?_
  refine lv_iload hx hb dX8_isSame_466 (lv_at hl.1 11 rfl) ?_
  obtain ⟨h456_5, hf⟩ := kif hf
  refine jt_ald V hH 0 rfl h456_5 dX8_isSame_468 ?_
  refine lv_icmp_eq (tgt := 474) hx hb dX8_isSame_469 (by decide) (fun hq => ?_) (fun hq => ?_)
  · have hf := kpos hq hf
    exact w_X8_isSame_474 V hA LX hk320 hk449 hH (jl_sub hl [0, 1, 2, 3, 4, 5, 6, 7, 8, 9, 10, 11] rfl) hf hc hs
  · have hf := kneg hq hf
    exact w_X8_isSame_472 V hA LX (jH_sub hH [] (by decide) rfl) (jl_sub hl [] rfl) hf hc hs
set_option maxHeartbeats 4000000 in
set_option maxRecDepth 100000 in
theorem w_X8_isSame_523 (V : jV p s mm args meth c cX8_isSame RX8 15 (some .boolean) D g) (hA : ∀ q, s.heap.size ≤ q → A q) (LX : jLX l A s) {k : kS} {H : Heap} {locs : List Loc} {ls : Array Slot} {cells slots mc ms uc us : Nat} {o : (Int32 × kS)} (hH : jH A s H locs D g ad z (jY adk g k mo) []) (hl : jl_has ls 15 []) (hf : F_X8_isSame_523 z k = some (o, uc, us)) (hc : cells + uc = mc) (hs : slots + us = ms) : W p l e (rm_X8_isSame mc ms) s mm args below meth c H locs cells slots (jLGi below args s D g A (fun a => a = ad) o.1 adk o.2 mo z mc ms) (F0 mm 523 ls []) := by
  have hx := V.1
  have hb := V.2.1
  refine lv_iconst (v := 0) hx hb dX8_isSame_523 (by decide) ?_
  obtain ⟨h523_1, hf⟩ := kif hf
  cases hf
  subst hc
  subst hs
  exact jl_zret (G := fun a => a = ad) V rfl hH (Decidable.not_not.mp h523_1) dX8_isSame_524
set_option maxHeartbeats 4000000 in
set_option maxRecDepth 100000 in
theorem w_X8_isSame_525 (V : jV p s mm args meth c cX8_isSame RX8 15 (some .boolean) D g) (hA : ∀ q, s.heap.size ≤ q → A q) (LX : jLX l A s) {c320 : Int32 → Int32 → Int32 → Int32 → Int32 → Int32 → Int32 → kS → Option ((Int32 × kS) × Nat × Nat)} (hk320 : ∀ {v2 : Int32} {v3 : Int32} {v4 : Int32} {v5 : Int32} {v6 : Int32} {v7 : Int32} {v8 : Int32} {k : kS} {H : Heap} {locs : List Loc} {ls : Array Slot} {cells slots mc ms uc us : Nat} {o : (Int32 × kS)}, jH A s H locs D g ad z (jY adk g k mo) [] → jl_has ls 15 [(0, .ref (ad 0)), (1, .ref (adk 0)), (2, .int v2), (3, .int v3), (4, .int v4), (5, .int v5), (6, .int v6), (7, .int v7), (8, .int v8)] → c320 v2 v3 v4 v5 v6 v7 v8 k = some (o, uc, us) → cells + uc = mc → slots + us = ms → W p l e (rm_X8_isSame mc ms) s mm args below meth c H locs cells slots (jLGi below args s D g A (fun a => a = ad) o.1 adk o.2 mo z mc ms) (F0 mm 320 ls [])) {c483 : Int32 → Int32 → Int32 → Int32 → Int32 → Int32 → Int32 → Int32 → Int32 → kS → Option ((Int32 × kS) × Nat × Nat)} (hk483 : ∀ {v2 : Int32} {v3 : Int32} {v4 : Int32} {v5 : Int32} {v6 : Int32} {v7 : Int32} {v8 : Int32} {v9 : Int32} {v11 : Int32} {k : kS} {H : Heap} {locs : List Loc} {ls : Array Slot} {cells slots mc ms uc us : Nat} {o : (Int32 × kS)}, jH A s H locs D g ad z (jY adk g k mo) [] → jl_has ls 15 [(0, .ref (ad 0)), (1, .ref (adk 0)), (2, .int v2), (3, .int v3), (4, .int v4), (5, .int v5), (6, .int v6), (7, .int v7), (8, .int v8), (9, jv ad 2 v9), (11, .int v11)] → c483 v2 v3 v4 v5 v6 v7 v8 v9 v11 k = some (o, uc, us) → cells + uc = mc → slots + us = ms → W p l e (rm_X8_isSame mc ms) s mm args below meth c H locs cells slots (jLGi below args s D g A (fun a => a = ad) o.1 adk o.2 mo z mc ms) (F0 mm 483 ls [])) {v2 : Int32} {v3 : Int32} {v4 : Int32} {v5 : Int32} {v6 : Int32} {v7 : Int32} {v8 : Int32} {v9 : Int32} {v11 : Int32} {k : kS} {H : Heap} {locs : List Loc} {ls : Array Slot} {cells slots mc ms uc us : Nat} {o : (Int32 × kS)} (hH : jH A s H locs D g ad z (jY adk g k mo) []) (hl : jl_has ls 15 [(0, .ref (ad 0)), (1, .ref (adk 0)), (2, .int v2), (3, .int v3), (4, .int v4), (5, .int v5), (6, .int v6), (7, .int v7), (8, .int v8), (9, jv ad 2 v9), (11, .int v11)]) (hf : F_X8_isSame_525 z c320 c483 v2 v3 v4 v5 v6 v7 v8 v9 v11 k = some (o, uc, us)) (hc : cells + uc = mc) (hs : slots + us = ms) : W p l e (rm_X8_isSame mc ms) s mm args below meth c H locs cells slots (jLGi below args s D g A (fun a => a = ad) o.1 adk o.2 mo z mc ms) (F0 mm 525 ls []) := by
  have hx := V.1
  have hb := V.2.1
  refine jl_iinc (v := (v11 + 1)) (lv' := [(11, .int (v11 + 1)), (0, .ref (ad 0)), (1, .ref (adk 0)), (2, .int v2), (3, .int v3), (4, .int v4), (5, .int v5), (6, .int v6), (7, .int v7), (8, .int v8), (9, jv ad 2 v9)]) hx hb dX8_isSame_525 hl (k := 10) rfl rfl (by decide) rfl (fun ls hl => ?_)
  refine lv_goto (tgt := 483) hx hb dX8_isSame_528 (by decide) ?_
  exact hk483 hH (jl_sub hl [1, 2, 3, 4, 5, 6, 7, 8, 9, 10, 0] rfl) hf hc hs
set_option maxHeartbeats 4000000 in
set_option maxRecDepth 100000 in
theorem w_X8_isSame_501 (V : jV p s mm args meth c cX8_isSame RX8 15 (some .boolean) D g) (hA : ∀ q, s.heap.size ≤ q → A q) (LX : jLX l A s) {c320 : Int32 → Int32 → Int32 → Int32 → Int32 → Int32 → Int32 → kS → Option ((Int32 × kS) × Nat × Nat)} (hk320 : ∀ {v2 : Int32} {v3 : Int32} {v4 : Int32} {v5 : Int32} {v6 : Int32} {v7 : Int32} {v8 : Int32} {k : kS} {H : Heap} {locs : List Loc} {ls : Array Slot} {cells slots mc ms uc us : Nat} {o : (Int32 × kS)}, jH A s H locs D g ad z (jY adk g k mo) [] → jl_has ls 15 [(0, .ref (ad 0)), (1, .ref (adk 0)), (2, .int v2), (3, .int v3), (4, .int v4), (5, .int v5), (6, .int v6), (7, .int v7), (8, .int v8)] → c320 v2 v3 v4 v5 v6 v7 v8 k = some (o, uc, us) → cells + uc = mc → slots + us = ms → W p l e (rm_X8_isSame mc ms) s mm args below meth c H locs cells slots (jLGi below args s D g A (fun a => a = ad) o.1 adk o.2 mo z mc ms) (F0 mm 320 ls [])) {c483 : Int32 → Int32 → Int32 → Int32 → Int32 → Int32 → Int32 → Int32 → Int32 → kS → Option ((Int32 × kS) × Nat × Nat)} (hk483 : ∀ {v2 : Int32} {v3 : Int32} {v4 : Int32} {v5 : Int32} {v6 : Int32} {v7 : Int32} {v8 : Int32} {v9 : Int32} {v11 : Int32} {k : kS} {H : Heap} {locs : List Loc} {ls : Array Slot} {cells slots mc ms uc us : Nat} {o : (Int32 × kS)}, jH A s H locs D g ad z (jY adk g k mo) [] → jl_has ls 15 [(0, .ref (ad 0)), (1, .ref (adk 0)), (2, .int v2), (3, .int v3), (4, .int v4), (5, .int v5), (6, .int v6), (7, .int v7), (8, .int v8), (9, jv ad 2 v9), (11, .int v11)] → c483 v2 v3 v4 v5 v6 v7 v8 v9 v11 k = some (o, uc, us) → cells + uc = mc → slots + us = ms → W p l e (rm_X8_isSame mc ms) s mm args below meth c H locs cells slots (jLGi below args s D g A (fun a => a = ad) o.1 adk o.2 mo z mc ms) (F0 mm 483 ls [])) {v2 : Int32} {v3 : Int32} {v4 : Int32} {v5 : Int32} {v6 : Int32} {v7 : Int32} {v8 : Int32} {v9 : Int32} {v11 : Int32} {k : kS} {H : Heap} {locs : List Loc} {ls : Array Slot} {cells slots mc ms uc us : Nat} {o : (Int32 × kS)} (hH : jH A s H locs D g ad z (jY adk g k mo) []) (hl : jl_has ls 15 [(0, .ref (ad 0)), (1, .ref (adk 0)), (2, .int v2), (3, .int v3), (4, .int v4), (5, .int v5), (6, .int v6), (7, .int v7), (8, .int v8), (9, jv ad 2 v9), (11, .int v11)]) (hf : F_X8_isSame_501 z c320 c483 v2 v3 v4 v5 v6 v7 v8 v9 v11 k = some (o, uc, us)) (hc : cells + uc = mc) (hs : slots + us = ms) : W p l e (rm_X8_isSame mc ms) s mm args below meth c H locs cells slots (jLGi below args s D g A (fun a => a = ad) o.1 adk o.2 mo z mc ms) (F0 mm 501 ls []) := by
  have hx := V.1
  have hb := V.2.1
  refine lv_aload_n hx hb dX8_isSame_501 rfl (lv_at hl.1 1 rfl) ?_
  refine lv_iload hx hb dX8_isSame_502 (lv_at hl.1 8 rfl) ?_
  refine lv_iload hx hb dX8_isSame_504 (lv_at hl.1 10 rfl) ?_
  obtain ⟨x501_1, hx501_1, hf⟩ := kbind hf
  obtain ⟨h501_2, hf⟩ := kif hf
  obtain ⟨uc501_3, us501_4, hf, e1, e2⟩ := kadd_some2 hf
  have e1 : uc = 4 + uc501_3 := e1
  have e2 : us = 24 + us501_4 := e2
  have hc : cells + 4 + uc501_3 = mc := by rw [Nat.add_assoc, ← e1]; exact hc
  have hs : slots + 24 + us501_4 = ms := by rw [Nat.add_assoc, ← e2]; exact hs
  have lc : cells + 4 ≤ mc := Nat.le.intro hc
  have ls2 : slots + 24 ≤ ms := Nat.le.intro hs
  refine jc_callx V hA LX hH kYX5_ruled kl_X8_144 (c_X5_ruled l LX.1 _ _ hx501_1 _) (Decidable.not_not.mp h501_2) rfl rfl ⟨Nat.le_of_ble_eq_true rfl, Nat.le_of_ble_eq_true rfl⟩ rfl hl.1.1 (as := [.int v8, .int v11]) (rest := []) (Nat.le_of_ble_eq_true rfl) dX8_isSame_506 ⟨lc, ls2⟩ rfl (fun H locs hH => ?_)
  refine jl_aload hx hb dX8_isSame_509 (lv_at hl.1 9 rfl) ?_
  obtain ⟨h501_5, hf⟩ := kif hf
  refine jg_L V hH h501_5 3 (by decide) kf_X8_53 rfl dX8_isSame_511 ?_
  refine lv_iload hx hb dX8_isSame_514 (lv_at hl.1 10 rfl) ?_
  obtain ⟨h501_6, hf⟩ := kif hf
  refine jald_H V hH h501_5 h501_6 dX8_isSame_516 ?_
  obtain ⟨h501_7, hf⟩ := kif hf
  refine jg_P V hH h501_7 0 (by decide) kf_X8_22 rfl dX8_isSame_517 ?_
  refine lv_icmp_eq (tgt := 525) hx hb dX8_isSame_520 (by decide) (fun hq => ?_) (fun hq => ?_)
  · have hf := kpos hq hf
    exact w_X8_isSame_525 V hA LX hk320 hk483 hH (jl_sub hl [0, 1, 2, 3, 4, 5, 6, 7, 8, 9, 10] rfl) hf hc hs
  · have hf := kneg hq hf
    exact w_X8_isSame_523 V hA LX hH (jl_sub hl [] rfl) hf hc hs
set_option maxHeartbeats 4000000 in
set_option maxRecDepth 100000 in
theorem w_X8_isSame_531 (V : jV p s mm args meth c cX8_isSame RX8 15 (some .boolean) D g) (hA : ∀ q, s.heap.size ≤ q → A q) (LX : jLX l A s) {c320 : Int32 → Int32 → Int32 → Int32 → Int32 → Int32 → Int32 → kS → Option ((Int32 × kS) × Nat × Nat)} (hk320 : ∀ {v2 : Int32} {v3 : Int32} {v4 : Int32} {v5 : Int32} {v6 : Int32} {v7 : Int32} {v8 : Int32} {k : kS} {H : Heap} {locs : List Loc} {ls : Array Slot} {cells slots mc ms uc us : Nat} {o : (Int32 × kS)}, jH A s H locs D g ad z (jY adk g k mo) [] → jl_has ls 15 [(0, .ref (ad 0)), (1, .ref (adk 0)), (2, .int v2), (3, .int v3), (4, .int v4), (5, .int v5), (6, .int v6), (7, .int v7), (8, .int v8)] → c320 v2 v3 v4 v5 v6 v7 v8 k = some (o, uc, us) → cells + uc = mc → slots + us = ms → W p l e (rm_X8_isSame mc ms) s mm args below meth c H locs cells slots (jLGi below args s D g A (fun a => a = ad) o.1 adk o.2 mo z mc ms) (F0 mm 320 ls [])) {v2 : Int32} {v3 : Int32} {v4 : Int32} {v5 : Int32} {v6 : Int32} {v7 : Int32} {v8 : Int32} {k : kS} {H : Heap} {locs : List Loc} {ls : Array Slot} {cells slots mc ms uc us : Nat} {o : (Int32 × kS)} (hH : jH A s H locs D g ad z (jY adk g k mo) []) (hl : jl_has ls 15 [(0, .ref (ad 0)), (1, .ref (adk 0)), (2, .int v2), (3, .int v3), (4, .int v4), (5, .int v5), (6, .int v6), (7, .int v7), (8, .int v8)]) (hf : F_X8_isSame_531 z c320 v2 v3 v4 v5 v6 v7 v8 k = some (o, uc, us)) (hc : cells + uc = mc) (hs : slots + us = ms) : W p l e (rm_X8_isSame mc ms) s mm args below meth c H locs cells slots (jLGi below args s D g A (fun a => a = ad) o.1 adk o.2 mo z mc ms) (F0 mm 531 ls []) := by
  have hx := V.1
  have hb := V.2.1
  refine jl_iinc (v := (v8 + 1)) (lv' := [(8, .int (v8 + 1)), (0, .ref (ad 0)), (1, .ref (adk 0)), (2, .int v2), (3, .int v3), (4, .int v4), (5, .int v5), (6, .int v6), (7, .int v7)]) hx hb dX8_isSame_531 hl (k := 8) rfl rfl (by decide) rfl (fun ls hl => ?_)
  refine lv_goto (tgt := 320) hx hb dX8_isSame_534 (by decide) ?_
  exact hk320 hH (jl_sub hl [1, 2, 3, 4, 5, 6, 7, 8, 0] rfl) hf hc hs
set_option maxHeartbeats 4000000 in
set_option maxRecDepth 100000 in
theorem w_X8_isSame_494 (V : jV p s mm args meth c cX8_isSame RX8 15 (some .boolean) D g) (hA : ∀ q, s.heap.size ≤ q → A q) (LX : jLX l A s) {c320 : Int32 → Int32 → Int32 → Int32 → Int32 → Int32 → Int32 → kS → Option ((Int32 × kS) × Nat × Nat)} (hk320 : ∀ {v2 : Int32} {v3 : Int32} {v4 : Int32} {v5 : Int32} {v6 : Int32} {v7 : Int32} {v8 : Int32} {k : kS} {H : Heap} {locs : List Loc} {ls : Array Slot} {cells slots mc ms uc us : Nat} {o : (Int32 × kS)}, jH A s H locs D g ad z (jY adk g k mo) [] → jl_has ls 15 [(0, .ref (ad 0)), (1, .ref (adk 0)), (2, .int v2), (3, .int v3), (4, .int v4), (5, .int v5), (6, .int v6), (7, .int v7), (8, .int v8)] → c320 v2 v3 v4 v5 v6 v7 v8 k = some (o, uc, us) → cells + uc = mc → slots + us = ms → W p l e (rm_X8_isSame mc ms) s mm args below meth c H locs cells slots (jLGi below args s D g A (fun a => a = ad) o.1 adk o.2 mo z mc ms) (F0 mm 320 ls [])) {c483 : Int32 → Int32 → Int32 → Int32 → Int32 → Int32 → Int32 → Int32 → Int32 → kS → Option ((Int32 × kS) × Nat × Nat)} (hk483 : ∀ {v2 : Int32} {v3 : Int32} {v4 : Int32} {v5 : Int32} {v6 : Int32} {v7 : Int32} {v8 : Int32} {v9 : Int32} {v11 : Int32} {k : kS} {H : Heap} {locs : List Loc} {ls : Array Slot} {cells slots mc ms uc us : Nat} {o : (Int32 × kS)}, jH A s H locs D g ad z (jY adk g k mo) [] → jl_has ls 15 [(0, .ref (ad 0)), (1, .ref (adk 0)), (2, .int v2), (3, .int v3), (4, .int v4), (5, .int v5), (6, .int v6), (7, .int v7), (8, .int v8), (9, jv ad 2 v9), (11, .int v11)] → c483 v2 v3 v4 v5 v6 v7 v8 v9 v11 k = some (o, uc, us) → cells + uc = mc → slots + us = ms → W p l e (rm_X8_isSame mc ms) s mm args below meth c H locs cells slots (jLGi below args s D g A (fun a => a = ad) o.1 adk o.2 mo z mc ms) (F0 mm 483 ls [])) {v2 : Int32} {v3 : Int32} {v4 : Int32} {v5 : Int32} {v6 : Int32} {v7 : Int32} {v8 : Int32} {v9 : Int32} {v11 : Int32} {k : kS} {H : Heap} {locs : List Loc} {ls : Array Slot} {cells slots mc ms uc us : Nat} {o : (Int32 × kS)} (hH : jH A s H locs D g ad z (jY adk g k mo) []) (hl : jl_has ls 15 [(0, .ref (ad 0)), (1, .ref (adk 0)), (2, .int v2), (3, .int v3), (4, .int v4), (5, .int v5), (6, .int v6), (7, .int v7), (8, .int v8), (9, jv ad 2 v9), (11, .int v11)]) (hf : F_X8_isSame_494 z c320 c483 v2 v3 v4 v5 v6 v7 v8 v9 v11 k = some (o, uc, us)) (hc : cells + uc = mc) (hs : slots + us = ms) : W p l e (rm_X8_isSame mc ms) s mm args below meth c H locs cells slots (jLGi below args s D g A (fun a => a = ad) o.1 adk o.2 mo z mc ms) (F0 mm 494 ls []) := by
  have hx := V.1
  have hb := V.2.1
  refine lv_iload hx hb dX8_isSame_494 (lv_at hl.1 10 rfl) ?_
  refine lv_bipush (v := 15) hx hb dX8_isSame_496 (by decide) ?_
  refine lv_icmp_ge (tgt := 531) hx hb dX8_isSame_498 (by decide) (fun hq => ?_) (fun hq => ?_)
  · have hf := kpos hq hf
    exact w_X8_isSame_531 V hA LX hk320 hH (jl_sub hl [0, 1, 2, 3, 4, 5, 6, 7, 8] rfl) hf hc hs
  · have hf := kneg hq hf
    exact w_X8_isSame_501 V hA LX hk320 hk483 hH (jl_sub hl [0, 1, 2, 3, 4, 5, 6, 7, 8, 9, 10] rfl) hf hc hs
set_option maxHeartbeats 4000000 in
set_option maxRecDepth 100000 in
theorem w_X8_isSame_483 (V : jV p s mm args meth c cX8_isSame RX8 15 (some .boolean) D g) (hA : ∀ q, s.heap.size ≤ q → A q) (LX : jLX l A s) {c320 : Int32 → Int32 → Int32 → Int32 → Int32 → Int32 → Int32 → kS → Option ((Int32 × kS) × Nat × Nat)} (hk320 : ∀ {v2 : Int32} {v3 : Int32} {v4 : Int32} {v5 : Int32} {v6 : Int32} {v7 : Int32} {v8 : Int32} {k : kS} {H : Heap} {locs : List Loc} {ls : Array Slot} {cells slots mc ms uc us : Nat} {o : (Int32 × kS)}, jH A s H locs D g ad z (jY adk g k mo) [] → jl_has ls 15 [(0, .ref (ad 0)), (1, .ref (adk 0)), (2, .int v2), (3, .int v3), (4, .int v4), (5, .int v5), (6, .int v6), (7, .int v7), (8, .int v8)] → c320 v2 v3 v4 v5 v6 v7 v8 k = some (o, uc, us) → cells + uc = mc → slots + us = ms → W p l e (rm_X8_isSame mc ms) s mm args below meth c H locs cells slots (jLGi below args s D g A (fun a => a = ad) o.1 adk o.2 mo z mc ms) (F0 mm 320 ls [])) : ∀ (n : Nat) {v2 : Int32} {v3 : Int32} {v4 : Int32} {v5 : Int32} {v6 : Int32} {v7 : Int32} {v8 : Int32} {v9 : Int32} {v11 : Int32} {k : kS} {H : Heap} {locs : List Loc} {ls : Array Slot} {cells slots mc ms uc us : Nat} {o : (Int32 × kS)}, jH A s H locs D g ad z (jY adk g k mo) [] → jl_has ls 15 [(0, .ref (ad 0)), (1, .ref (adk 0)), (2, .int v2), (3, .int v3), (4, .int v4), (5, .int v5), (6, .int v6), (7, .int v7), (8, .int v8), (9, jv ad 2 v9), (11, .int v11)] → F_X8_isSame_483 z c320 n v2 v3 v4 v5 v6 v7 v8 v9 v11 k = some (o, uc, us) → cells + uc = mc → slots + us = ms → W p l e (rm_X8_isSame mc ms) s mm args below meth c H locs cells slots (jLGi below args s D g A (fun a => a = ad) o.1 adk o.2 mo z mc ms) (F0 mm 483 ls []) := by
  have hx := V.1
  have hb := V.2.1
  intro n
  induction n with
  | zero => intro _ _ _ _ _ _ _ _ _ _ _ _ _ _ _ _ _ _ _ _ hH hl hf hc hs; cases hf
  | succ n hk483 =>
    intro v2 v3 v4 v5 v6 v7 v8 v9 v11 k H locs ls cells slots mc ms uc us o hH hl hf hc hs
    refine lv_iload hx hb dX8_isSame_483 (lv_at hl.1 10 rfl) ?_
    refine jl_aload hx hb dX8_isSame_485 (lv_at hl.1 9 rfl) ?_
    obtain ⟨h483_1, hf⟩ := kif hf
    refine jg_L V hH h483_1 3 (by decide) kf_X8_53 rfl dX8_isSame_487 ?_
    refine jalen_H V hH h483_1 dX8_isSame_490 ?_
    refine lv_icmp_ge (tgt := 531) hx hb dX8_isSame_491 (by decide) (fun hq => ?_) (fun hq => ?_)
    · have hf := kpos hq hf
      exact w_X8_isSame_531 V hA LX hk320 hH (jl_sub hl [0, 1, 2, 3, 4, 5, 6, 7, 8] rfl) hf hc hs
    · have hf := kneg hq hf
      exact w_X8_isSame_494 V hA LX hk320 hk483 hH (jl_sub hl [0, 1, 2, 3, 4, 5, 6, 7, 8, 9, 10] rfl) hf hc hs
set_option maxHeartbeats 4000000 in
set_option maxRecDepth 100000 in
theorem w_X8_isSame_480 (V : jV p s mm args meth c cX8_isSame RX8 15 (some .boolean) D g) (hA : ∀ q, s.heap.size ≤ q → A q) (LX : jLX l A s) {c320 : Int32 → Int32 → Int32 → Int32 → Int32 → Int32 → Int32 → kS → Option ((Int32 × kS) × Nat × Nat)} (hk320 : ∀ {v2 : Int32} {v3 : Int32} {v4 : Int32} {v5 : Int32} {v6 : Int32} {v7 : Int32} {v8 : Int32} {k : kS} {H : Heap} {locs : List Loc} {ls : Array Slot} {cells slots mc ms uc us : Nat} {o : (Int32 × kS)}, jH A s H locs D g ad z (jY adk g k mo) [] → jl_has ls 15 [(0, .ref (ad 0)), (1, .ref (adk 0)), (2, .int v2), (3, .int v3), (4, .int v4), (5, .int v5), (6, .int v6), (7, .int v7), (8, .int v8)] → c320 v2 v3 v4 v5 v6 v7 v8 k = some (o, uc, us) → cells + uc = mc → slots + us = ms → W p l e (rm_X8_isSame mc ms) s mm args below meth c H locs cells slots (jLGi below args s D g A (fun a => a = ad) o.1 adk o.2 mo z mc ms) (F0 mm 320 ls [])) {v2 : Int32} {v3 : Int32} {v4 : Int32} {v5 : Int32} {v6 : Int32} {v7 : Int32} {v8 : Int32} {v9 : Int32} {k : kS} {H : Heap} {locs : List Loc} {ls : Array Slot} {cells slots mc ms uc us : Nat} {o : (Int32 × kS)} (hH : jH A s H locs D g ad z (jY adk g k mo) []) (hl : jl_has ls 15 [(0, .ref (ad 0)), (1, .ref (adk 0)), (2, .int v2), (3, .int v3), (4, .int v4), (5, .int v5), (6, .int v6), (7, .int v7), (8, .int v8), (9, jv ad 2 v9)]) (hf : F_X8_isSame_480 z c320 v2 v3 v4 v5 v6 v7 v8 v9 k = some (o, uc, us)) (hc : cells + uc = mc) (hs : slots + us = ms) : W p l e (rm_X8_isSame mc ms) s mm args below meth c H locs cells slots (jLGi below args s D g A (fun a => a = ad) o.1 adk o.2 mo z mc ms) (F0 mm 480 ls []) := by
  have hx := V.1
  have hb := V.2.1
  refine lv_iconst (v := 0) hx hb dX8_isSame_480 (by decide) ?_
  refine jl_istore (lv' := [(11, .int 0), (0, .ref (ad 0)), (1, .ref (adk 0)), (2, .int v2), (3, .int v3), (4, .int v4), (5, .int v5), (6, .int v6), (7, .int v7), (8, .int v8), (9, jv ad 2 v9)]) hx hb dX8_isSame_481 hl (by decide) rfl (fun ls hl => ?_)
  exact w_X8_isSame_483 V hA LX hk320 kN hH (jl_sub hl [1, 2, 3, 4, 5, 6, 7, 8, 9, 10, 0] rfl) hf hc hs
set_option maxHeartbeats 4000000 in
set_option maxRecDepth 100000 in
theorem w_X8_isSame_449 (V : jV p s mm args meth c cX8_isSame RX8 15 (some .boolean) D g) (hA : ∀ q, s.heap.size ≤ q → A q) (LX : jLX l A s) {c320 : Int32 → Int32 → Int32 → Int32 → Int32 → Int32 → Int32 → kS → Option ((Int32 × kS) × Nat × Nat)} (hk320 : ∀ {v2 : Int32} {v3 : Int32} {v4 : Int32} {v5 : Int32} {v6 : Int32} {v7 : Int32} {v8 : Int32} {k : kS} {H : Heap} {locs : List Loc} {ls : Array Slot} {cells slots mc ms uc us : Nat} {o : (Int32 × kS)}, jH A s H locs D g ad z (jY adk g k mo) [] → jl_has ls 15 [(0, .ref (ad 0)), (1, .ref (adk 0)), (2, .int v2), (3, .int v3), (4, .int v4), (5, .int v5), (6, .int v6), (7, .int v7), (8, .int v8)] → c320 v2 v3 v4 v5 v6 v7 v8 k = some (o, uc, us) → cells + uc = mc → slots + us = ms → W p l e (rm_X8_isSame mc ms) s mm args below meth c H locs cells slots (jLGi below args s D g A (fun a => a = ad) o.1 adk o.2 mo z mc ms) (F0 mm 320 ls [])) : ∀ (n : Nat) {v2 : Int32} {v3 : Int32} {v4 : Int32} {v5 : Int32} {v6 : Int32} {v7 : Int32} {v8 : Int32} {v9 : Int32} {v11 : Int32} {xq359 : Nat} {xl359 : Int32} {xf359 : Nat → Int32} {k : kS} {H : Heap} {locs : List Loc} {ls : Array Slot} {cells slots mc ms uc us : Nat} {o : (Int32 × kS)}, jH A s H locs D g ad z (jY adk g k mo) [jTi g xq359 xl359 xf359] → jl_has ls 15 [(0, .ref (ad 0)), (1, .ref (adk 0)), (2, .int v2), (3, .int v3), (4, .int v4), (5, .int v5), (6, .int v6), (7, .int v7), (8, .int v8), (9, jv ad 2 v9), (10, .ref xq359), (11, .int v11)] → F_X8_isSame_449 z c320 n v2 v3 v4 v5 v6 v7 v8 v9 v11 xl359 xf359 k = some (o, uc, us) → cells + uc = mc → slots + us = ms → W p l e (rm_X8_isSame mc ms) s mm args below meth c H locs cells slots (jLGi below args s D g A (fun a => a = ad) o.1 adk o.2 mo z mc ms) (F0 mm 449 ls []) := by
  have hx := V.1
  have hb := V.2.1
  intro n
  induction n with
  | zero => intro _ _ _ _ _ _ _ _ _ _ _ _ _ _ _ _ _ _ _ _ _ _ _ hH hl hf hc hs; cases hf
  | succ n hk449 =>
    intro v2 v3 v4 v5 v6 v7 v8 v9 v11 xq359 xl359 xf359 k H locs ls cells slots mc ms uc us o hH hl hf hc hs
    refine lv_iload hx hb dX8_isSame_449 (lv_at hl.1 11 rfl) ?_
    refine lv_bipush (v := 6) hx hb dX8_isSame_451 (by decide) ?_
    refine lv_icmp_ge (tgt := 480) hx hb dX8_isSame_453 (by decide) (fun hq => ?_) (fun hq => ?_)
    · have hf := kpos hq hf
      exact w_X8_isSame_480 V hA LX hk320 (jH_sub hH [] (by decide) rfl) (jl_sub hl [0, 1, 2, 3, 4, 5, 6, 7, 8, 9] rfl) hf hc hs
    · have hf := kneg hq hf
      exact w_X8_isSame_456 V hA LX hk320 hk449 hH (jl_sub hl [0, 1, 2, 3, 4, 5, 6, 7, 8, 9, 10, 11] rfl) hf hc hs
set_option maxHeartbeats 4000000 in
set_option maxRecDepth 100000 in
theorem w_X8_isSame_434 (V : jV p s mm args meth c cX8_isSame RX8 15 (some .boolean) D g) (hA : ∀ q, s.heap.size ≤ q → A q) (LX : jLX l A s) {c320 : Int32 → Int32 → Int32 → Int32 → Int32 → Int32 → Int32 → kS → Option ((Int32 × kS) × Nat × Nat)} (hk320 : ∀ {v2 : Int32} {v3 : Int32} {v4 : Int32} {v5 : Int32} {v6 : Int32} {v7 : Int32} {v8 : Int32} {k : kS} {H : Heap} {locs : List Loc} {ls : Array Slot} {cells slots mc ms uc us : Nat} {o : (Int32 × kS)}, jH A s H locs D g ad z (jY adk g k mo) [] → jl_has ls 15 [(0, .ref (ad 0)), (1, .ref (adk 0)), (2, .int v2), (3, .int v3), (4, .int v4), (5, .int v5), (6, .int v6), (7, .int v7), (8, .int v8)] → c320 v2 v3 v4 v5 v6 v7 v8 k = some (o, uc, us) → cells + uc = mc → slots + us = ms → W p l e (rm_X8_isSame mc ms) s mm args below meth c H locs cells slots (jLGi below args s D g A (fun a => a = ad) o.1 adk o.2 mo z mc ms) (F0 mm 320 ls [])) {s2 : Int32} {s3 : Int32} {v2 : Int32} {v3 : Int32} {v4 : Int32} {v5 : Int32} {v6 : Int32} {v7 : Int32} {v8 : Int32} {v9 : Int32} {xq359 : Nat} {xl359 : Int32} {xf359 : Nat → Int32} {k : kS} {H : Heap} {locs : List Loc} {ls : Array Slot} {cells slots mc ms uc us : Nat} {o : (Int32 × kS)} (hH : jH A s H locs D g ad z (jY adk g k mo) [jTi g xq359 xl359 xf359]) (hl : jl_has ls 15 [(0, .ref (ad 0)), (1, .ref (adk 0)), (2, .int v2), (3, .int v3), (4, .int v4), (5, .int v5), (6, .int v6), (7, .int v7), (8, .int v8), (9, jv ad 2 v9)]) (hf : F_X8_isSame_434 z c320 s2 s3 v2 v3 v4 v5 v6 v7 v8 v9 xl359 xf359 k = some (o, uc, us)) (hc : cells + uc = mc) (hs : slots + us = ms) : W p l e (rm_X8_isSame mc ms) s mm args below meth c H locs cells slots (jLGi below args s D g A (fun a => a = ad) o.1 adk o.2 mo z mc ms) (F0 mm 434 ls [.int s3, .int s2, .ref xq359, .ref xq359]) := by
  have hx := V.1
  have hb := V.2.1
  obtain ⟨h434_1, hf⟩ := kif hf
  refine jt_ast V hH 0 rfl h434_1 rfl dX8_isSame_434 (fun H locs hH => ?_)
  refine lv_dup hx hb dX8_isSame_435 rfl ?_
  refine lv_iconst (v := 5) hx hb dX8_isSame_436 (by decide) ?_
  refine jl_aload hx hb dX8_isSame_437 (lv_at hl.1 9 rfl) ?_
  obtain ⟨h434_2, hf⟩ := kif hf
  refine jg_L V hH h434_2 3 (by decide) kf_X8_53 rfl dX8_isSame_439 ?_
  refine jalen_H V hH h434_2 dX8_isSame_442 ?_
  obtain ⟨h434_3, hf⟩ := kif hf
  refine jt_ast V hH 0 rfl h434_3 rfl dX8_isSame_443 (fun H locs hH => ?_)
  refine jl_astore (o := some xq359) (lv' := [(10, .ref xq359), (0, .ref (ad 0)), (1, .ref (adk 0)), (2, .int v2), (3, .int v3), (4, .int v4), (5, .int v5), (6, .int v6), (7, .int v7), (8, .int v8), (9, jv ad 2 v9)]) hx hb dX8_isSame_444 hl (by decide) rfl (fun ls hl => ?_)
  refine lv_iconst (v := 0) hx hb dX8_isSame_446 (by decide) ?_
  refine jl_istore (lv' := [(11, .int 0), (10, .ref xq359), (0, .ref (ad 0)), (1, .ref (adk 0)), (2, .int v2), (3, .int v3), (4, .int v4), (5, .int v5), (6, .int v6), (7, .int v7), (8, .int v8), (9, jv ad 2 v9)]) hx hb dX8_isSame_447 hl (by decide) rfl (fun ls hl => ?_)
  exact w_X8_isSame_449 V hA LX hk320 kN hH (jl_sub hl [2, 3, 4, 5, 6, 7, 8, 9, 10, 11, 1, 0] rfl) hf hc hs
set_option maxHeartbeats 4000000 in
set_option maxRecDepth 100000 in
theorem w_X8_isSame_413 (V : jV p s mm args meth c cX8_isSame RX8 15 (some .boolean) D g) (hA : ∀ q, s.heap.size ≤ q → A q) (LX : jLX l A s) {c320 : Int32 → Int32 → Int32 → Int32 → Int32 → Int32 → Int32 → kS → Option ((Int32 × kS) × Nat × Nat)} (hk320 : ∀ {v2 : Int32} {v3 : Int32} {v4 : Int32} {v5 : Int32} {v6 : Int32} {v7 : Int32} {v8 : Int32} {k : kS} {H : Heap} {locs : List Loc} {ls : Array Slot} {cells slots mc ms uc us : Nat} {o : (Int32 × kS)}, jH A s H locs D g ad z (jY adk g k mo) [] → jl_has ls 15 [(0, .ref (ad 0)), (1, .ref (adk 0)), (2, .int v2), (3, .int v3), (4, .int v4), (5, .int v5), (6, .int v6), (7, .int v7), (8, .int v8)] → c320 v2 v3 v4 v5 v6 v7 v8 k = some (o, uc, us) → cells + uc = mc → slots + us = ms → W p l e (rm_X8_isSame mc ms) s mm args below meth c H locs cells slots (jLGi below args s D g A (fun a => a = ad) o.1 adk o.2 mo z mc ms) (F0 mm 320 ls [])) {s2 : Int32} {v2 : Int32} {v3 : Int32} {v4 : Int32} {v5 : Int32} {v6 : Int32} {v7 : Int32} {v8 : Int32} {v9 : Int32} {xq359 : Nat} {xl359 : Int32} {xf359 : Nat → Int32} {k : kS} {H : Heap} {locs : List Loc} {ls : Array Slot} {cells slots mc ms uc us : Nat} {o : (Int32 × kS)} (hH : jH A s H locs D g ad z (jY adk g k mo) [jTi g xq359 xl359 xf359]) (hl : jl_has ls 15 [(0, .ref (ad 0)), (1, .ref (adk 0)), (2, .int v2), (3, .int v3), (4, .int v4), (5, .int v5), (6, .int v6), (7, .int v7), (8, .int v8), (9, jv ad 2 v9)]) (hf : F_X8_isSame_413 z c320 s2 v2 v3 v4 v5 v6 v7 v8 v9 xl359 xf359 k = some (o, uc, us)) (hc : cells + uc = mc) (hs : slots + us = ms) : W p l e (rm_X8_isSame mc ms) s mm args below meth c H locs cells slots (jLGi below args s D g A (fun a => a = ad) o.1 adk o.2 mo z mc ms) (F0 mm 413 ls [.int s2, .ref xq359, .ref xq359]) := by
  have hx := V.1
  have hb := V.2.1
  refine lv_iconst (v := (-1)) hx hb dX8_isSame_413 (by decide) ?_
  refine lv_goto (tgt := 434) hx hb dX8_isSame_414 (by decide) ?_
  exact w_X8_isSame_434 V hA LX hk320 hH (jl_sub hl [0, 1, 2, 3, 4, 5, 6, 7, 8, 9] rfl) hf hc hs
set_option maxHeartbeats 4000000 in
set_option maxRecDepth 100000 in
theorem w_X8_isSame_417 (V : jV p s mm args meth c cX8_isSame RX8 15 (some .boolean) D g) (hA : ∀ q, s.heap.size ≤ q → A q) (LX : jLX l A s) {c320 : Int32 → Int32 → Int32 → Int32 → Int32 → Int32 → Int32 → kS → Option ((Int32 × kS) × Nat × Nat)} (hk320 : ∀ {v2 : Int32} {v3 : Int32} {v4 : Int32} {v5 : Int32} {v6 : Int32} {v7 : Int32} {v8 : Int32} {k : kS} {H : Heap} {locs : List Loc} {ls : Array Slot} {cells slots mc ms uc us : Nat} {o : (Int32 × kS)}, jH A s H locs D g ad z (jY adk g k mo) [] → jl_has ls 15 [(0, .ref (ad 0)), (1, .ref (adk 0)), (2, .int v2), (3, .int v3), (4, .int v4), (5, .int v5), (6, .int v6), (7, .int v7), (8, .int v8)] → c320 v2 v3 v4 v5 v6 v7 v8 k = some (o, uc, us) → cells + uc = mc → slots + us = ms → W p l e (rm_X8_isSame mc ms) s mm args below meth c H locs cells slots (jLGi below args s D g A (fun a => a = ad) o.1 adk o.2 mo z mc ms) (F0 mm 320 ls [])) {s2 : Int32} {v2 : Int32} {v3 : Int32} {v4 : Int32} {v5 : Int32} {v6 : Int32} {v7 : Int32} {v8 : Int32} {v9 : Int32} {xq359 : Nat} {xl359 : Int32} {xf359 : Nat → Int32} {k : kS} {H : Heap} {locs : List Loc} {ls : Array Slot} {cells slots mc ms uc us : Nat} {o : (Int32 × kS)} (hH : jH A s H locs D g ad z (jY adk g k mo) [jTi g xq359 xl359 xf359]) (hl : jl_has ls 15 [(0, .ref (ad 0)), (1, .ref (adk 0)), (2, .int v2), (3, .int v3), (4, .int v4), (5, .int v5), (6, .int v6), (7, .int v7), (8, .int v8), (9, jv ad 2 v9)]) (hf : F_X8_isSame_417 z c320 s2 v2 v3 v4 v5 v6 v7 v8 v9 xl359 xf359 k = some (o, uc, us)) (hc : cells + uc = mc) (hs : slots + us = ms) : W p l e (rm_X8_isSame mc ms) s mm args below meth c H locs cells slots (jLGi below args s D g A (fun a => a = ad) o.1 adk o.2 mo z mc ms) (F0 mm 417 ls [.int s2, .ref xq359, .ref xq359]) := by
  have hx := V.1
  have hb := V.2.1
  refine lv_aload_n hx hb dX8_isSame_417 rfl (lv_at hl.1 0 rfl) ?_
  refine jl_aload hx hb dX8_isSame_418 (lv_at hl.1 9 rfl) ?_
  obtain ⟨h417_1, hf⟩ := kif hf
  refine jg_L V hH h417_1 2 (by decide) kf_X8_50 rfl dX8_isSame_420 ?_
  refine jl_aload hx hb dX8_isSame_423 (lv_at hl.1 9 rfl) ?_
  obtain ⟨h417_2, hf⟩ := kif hf
  refine jg_L V hH h417_2 1 (by decide) kf_X8_60 rfl dX8_isSame_425 ?_
  obtain ⟨x417_3, hx417_3, hf⟩ := kbind hf
  obtain ⟨uc417_4, us417_5, hf, e1, e2⟩ := kadd_some2 hf
  have e1 : uc = x417_3.2.1 + uc417_4 := e1
  have e2 : us = x417_3.2.2 + us417_5 := e2
  have hc : cells + x417_3.2.1 + uc417_4 = mc := by rw [Nat.add_assoc, ← e1]; exact hc
  have hs : slots + x417_3.2.2 + us417_5 = ms := by rw [Nat.add_assoc, ← e2]; exact hs
  have lc : cells + x417_3.2.1 ≤ mc := Nat.le.intro hc
  have ls2 : slots + x417_3.2.2 ≤ ms := Nat.le.intro hs
  refine jr_callqR hA hH (jr_runV (as := [jv ad 1 (z (4 * v9.toNatClampNeg + 2) 2), .int (z (4 * v9.toNatClampNeg + 2) 1)]) (rest := [.int s2, .ref xq359, .ref xq359]) V hH kYX8_heir kl_X8_118 (c_X8_heir l _ _ hx417_3 _) rfl rfl ⟨Nat.le_of_ble_eq_true rfl, Nat.le_of_ble_eq_true rfl⟩ rfl hl.1.1 (Nat.le_of_ble_eq_true rfl) dX8_isSame_428 ⟨lc, ls2⟩ rfl) (fun H locs hH => ?_)
  obtain ⟨x417_6, hx417_6, hf⟩ := kbind hf
  refine jr_calliR0 hA hH (jr_runS (as := [jv ad 1 x417_3.1]) (rest := [.int s2, .ref xq359, .ref xq359]) V hH kYX8_number kl_X8_125 (c_X8_number l _ hx417_6 _) rfl rfl ⟨Nat.le_of_ble_eq_true rfl, Nat.le_of_ble_eq_true rfl⟩ rfl hl.1.1 (Nat.le_of_ble_eq_true rfl) dX8_isSame_431 ⟨by show cells + x417_3.2.1 + 0 ≤ mc; omega, by show slots + x417_3.2.2 + 0 ≤ ms; omega⟩ rfl) (fun H locs hH => ?_)
  exact w_X8_isSame_434 V hA LX hk320 hH (jl_sub hl [0, 1, 2, 3, 4, 5, 6, 7, 8, 9] rfl) hf hc hs
set_option maxHeartbeats 4000000 in
set_option maxRecDepth 100000 in
theorem w_X8_isSame_354 (V : jV p s mm args meth c cX8_isSame RX8 15 (some .boolean) D g) (hA : ∀ q, s.heap.size ≤ q → A q) (LX : jLX l A s) {c320 : Int32 → Int32 → Int32 → Int32 → Int32 → Int32 → Int32 → kS → Option ((Int32 × kS) × Nat × Nat)} (hk320 : ∀ {v2 : Int32} {v3 : Int32} {v4 : Int32} {v5 : Int32} {v6 : Int32} {v7 : Int32} {v8 : Int32} {k : kS} {H : Heap} {locs : List Loc} {ls : Array Slot} {cells slots mc ms uc us : Nat} {o : (Int32 × kS)}, jH A s H locs D g ad z (jY adk g k mo) [] → jl_has ls 15 [(0, .ref (ad 0)), (1, .ref (adk 0)), (2, .int v2), (3, .int v3), (4, .int v4), (5, .int v5), (6, .int v6), (7, .int v7), (8, .int v8)] → c320 v2 v3 v4 v5 v6 v7 v8 k = some (o, uc, us) → cells + uc = mc → slots + us = ms → W p l e (rm_X8_isSame mc ms) s mm args below meth c H locs cells slots (jLGi below args s D g A (fun a => a = ad) o.1 adk o.2 mo z mc ms) (F0 mm 320 ls [])) {s0 : Int32} {s1 : Int32} {v2 : Int32} {v3 : Int32} {v5 : Int32} {v6 : Int32} {v7 : Int32} {v8 : Int32} {v9 : Int32} {k : kS} {H : Heap} {locs : List Loc} {ls : Array Slot} {cells slots mc ms uc us : Nat} {o : (Int32 × kS)} (hH : jH A s H locs D g ad z (jY adk g k mo) []) (hl : jl_has ls 15 [(0, .ref (ad 0)), (1, .ref (adk 0)), (2, .int v2), (3, .int v3), (5, .int v5), (6, .int v6), (7, .int v7), (8, .int v8), (9, jv ad 2 v9)]) (hf : F_X8_isSame_354 z c320 s0 s1 v2 v3 v5 v6 v7 v8 v9 k = some (o, uc, us)) (hc : cells + uc = mc) (hs : slots + us = ms) : W p l e (rm_X8_isSame mc ms) s mm args below meth c H locs cells slots (jLGi below args s D g A (fun a => a = ad) o.1 adk o.2 mo z mc ms) (F0 mm 354 ls [.int s1, .int s0]) := by
  have hx := V.1
  have hb := V.2.1
  refine lv_iadd hx hb dX8_isSame_354 ?_
  refine jl_istore (lv' := [(4, .int (s0 + s1)), (0, .ref (ad 0)), (1, .ref (adk 0)), (2, .int v2), (3, .int v3), (5, .int v5), (6, .int v6), (7, .int v7), (8, .int v8), (9, jv ad 2 v9)]) hx hb dX8_isSame_355 hl (by decide) rfl (fun ls hl => ?_)
  refine lv_bipush (v := 6) hx hb dX8_isSame_357 (by decide) ?_
  obtain ⟨h354_1, hf⟩ := kif hf
  obtain ⟨uc354_2, us354_3, hf, e1, e2⟩ := kadd_some2 hf
  have e1 : uc = 1 + uc354_2 := e1
  have e2 : us = (6 : Int32).toNatClampNeg + us354_3 := e2
  have hc : cells + 1 + uc354_2 = mc := by rw [Nat.add_assoc, ← e1]; exact hc
  have hs : slots + (6 : Int32).toNatClampNeg + us354_3 = ms := by rw [Nat.add_assoc, ← e2]; exact hs
  have lc : cells + 1 ≤ mc := Nat.le.intro hc
  have ls2 : slots + (6 : Int32).toNatClampNeg ≤ ms := Nat.le.intro hs
  refine jt_new V hA hH (fun q => h354_1 (Or.inl q)) (Nat.not_lt.mp fun q => h354_1 (Or.inr q)) lc ls2 dX8_isSame_359 (fun xq359 H hH => ?_)
  refine lv_dup hx hb dX8_isSame_361 rfl ?_
  refine lv_iconst (v := 0) hx hb dX8_isSame_362 (by decide) ?_
  refine jl_aload hx hb dX8_isSame_363 (lv_at hl.1 9 rfl) ?_
  obtain ⟨h354_4, hf⟩ := kif hf
  refine jg_L V hH h354_4 0 (by decide) kf_X8_57 rfl dX8_isSame_365 ?_
  obtain ⟨h354_5, hf⟩ := kif hf
  refine jt_ast V hH 0 rfl h354_5 rfl dX8_isSame_368 (fun H locs hH => ?_)
  refine lv_dup hx hb dX8_isSame_369 rfl ?_
  refine lv_iconst (v := 1) hx hb dX8_isSame_370 (by decide) ?_
  refine jl_aload hx hb dX8_isSame_371 (lv_at hl.1 9 rfl) ?_
  obtain ⟨h354_6, hf⟩ := kif hf
  refine jg_L V hH h354_6 1 (by decide) kf_X8_60 rfl dX8_isSame_373 ?_
  obtain ⟨h354_7, hf⟩ := kif hf
  refine jt_ast V hH 0 rfl h354_7 rfl dX8_isSame_376 (fun H locs hH => ?_)
  refine lv_dup hx hb dX8_isSame_377 rfl ?_
  refine lv_iconst (v := 2) hx hb dX8_isSame_378 (by decide) ?_
  refine jl_aload hx hb dX8_isSame_379 (lv_at hl.1 9 rfl) ?_
  obtain ⟨h354_8, hf⟩ := kif hf
  refine jg_L V hH h354_8 2 (by decide) kf_X8_50 rfl dX8_isSame_381 ?_
  obtain ⟨x354_9, hx354_9, hf⟩ := kbind hf
  refine jr_calliR0 hA hH (jr_runS (as := [jv ad 1 (z (4 * v9.toNatClampNeg + 2) 2)]) (rest := [.int 2, .ref xq359, .ref xq359]) V hH kYX8_number kl_X8_125 (c_X8_number l _ hx354_9 _) rfl rfl ⟨Nat.le_of_ble_eq_true rfl, Nat.le_of_ble_eq_true rfl⟩ rfl hl.1.1 (Nat.le_of_ble_eq_true rfl) dX8_isSame_384 ⟨by show cells + 1 + 0 ≤ mc; omega, by show slots + (6 : Int32).toNatClampNeg + 0 ≤ ms; omega⟩ rfl) (fun H locs hH => ?_)
  obtain ⟨h354_10, hf⟩ := kif hf
  refine jt_ast V hH 0 rfl h354_10 rfl dX8_isSame_387 (fun H locs hH => ?_)
  refine lv_dup hx hb dX8_isSame_388 rfl ?_
  refine lv_iconst (v := 3) hx hb dX8_isSame_389 (by decide) ?_
  refine lv_aload_n hx hb dX8_isSame_390 rfl (lv_at hl.1 1 rfl) ?_
  refine jl_aload hx hb dX8_isSame_391 (lv_at hl.1 9 rfl) ?_
  obtain ⟨h354_11, hf⟩ := kif hf
  refine jg_L V hH h354_11 2 (by decide) kf_X8_50 rfl dX8_isSame_393 ?_
  obtain ⟨x354_12, hx354_12, hf⟩ := kbind hf
  refine jr_callqR0 hA hH (jr_runV (as := [jv ad 1 (z (4 * v9.toNatClampNeg + 2) 2)]) (rest := [.int 3, .ref xq359, .ref xq359]) V hH kYX8_regent kl_X8_137 (c_X8_regent l _ hx354_12 _) rfl rfl ⟨Nat.le_of_ble_eq_true rfl, Nat.le_of_ble_eq_true rfl⟩ rfl hl.1.1 (Nat.le_of_ble_eq_true rfl) dX8_isSame_396 ⟨by show cells + 1 + 0 ≤ mc; omega, by show slots + (6 : Int32).toNatClampNeg + 0 ≤ ms; omega⟩ rfl) (fun H locs hH => ?_)
  obtain ⟨x354_13, hx354_13, hf⟩ := kbind hf
  refine jr_calliR0 hA hH (jr_runS (as := [jv ad 1 x354_12]) (rest := [.int 3, .ref xq359, .ref xq359]) V hH kYX8_number kl_X8_125 (c_X8_number l _ hx354_13 _) rfl rfl ⟨Nat.le_of_ble_eq_true rfl, Nat.le_of_ble_eq_true rfl⟩ rfl hl.1.1 (Nat.le_of_ble_eq_true rfl) dX8_isSame_399 ⟨by show cells + 1 + 0 ≤ mc; omega, by show slots + (6 : Int32).toNatClampNeg + 0 ≤ ms; omega⟩ rfl) (fun H locs hH => ?_)
  obtain ⟨h354_14, hf⟩ := kif hf
  refine jt_ast V hH 0 rfl h354_14 rfl dX8_isSame_402 (fun H locs hH => ?_)
  refine lv_dup hx hb dX8_isSame_403 rfl ?_
  refine lv_iconst (v := 4) hx hb dX8_isSame_404 (by decide) ?_
  refine jl_aload hx hb dX8_isSame_405 (lv_at hl.1 9 rfl) ?_
  obtain ⟨h354_15, hf⟩ := kif hf
  refine jg_L V hH h354_15 2 (by decide) kf_X8_50 rfl dX8_isSame_407 ?_
  refine jl_ifnonnull (tgt := 417) hx hb dX8_isSame_410 (by decide) (fun hq => ?_) (fun hq => ?_)
  · have hf := kneg hq hf
    exact w_X8_isSame_417 V hA LX hk320 hH (jl_sub hl [1, 2, 3, 4, 0, 5, 6, 7, 8, 9] rfl) hf hc hs
  · have hf := kpos hq hf
    exact w_X8_isSame_413 V hA LX hk320 hH (jl_sub hl [1, 2, 3, 4, 0, 5, 6, 7, 8, 9] rfl) hf hc hs
set_option maxHeartbeats 4000000 in
set_option maxRecDepth 100000 in
theorem w_X8_isSame_349 (V : jV p s mm args meth c cX8_isSame RX8 15 (some .boolean) D g) (hA : ∀ q, s.heap.size ≤ q → A q) (LX : jLX l A s) {c320 : Int32 → Int32 → Int32 → Int32 → Int32 → Int32 → Int32 → kS → Option ((Int32 × kS) × Nat × Nat)} (hk320 : ∀ {v2 : Int32} {v3 : Int32} {v4 : Int32} {v5 : Int32} {v6 : Int32} {v7 : Int32} {v8 : Int32} {k : kS} {H : Heap} {locs : List Loc} {ls : Array Slot} {cells slots mc ms uc us : Nat} {o : (Int32 × kS)}, jH A s H locs D g ad z (jY adk g k mo) [] → jl_has ls 15 [(0, .ref (ad 0)), (1, .ref (adk 0)), (2, .int v2), (3, .int v3), (4, .int v4), (5, .int v5), (6, .int v6), (7, .int v7), (8, .int v8)] → c320 v2 v3 v4 v5 v6 v7 v8 k = some (o, uc, us) → cells + uc = mc → slots + us = ms → W p l e (rm_X8_isSame mc ms) s mm args below meth c H locs cells slots (jLGi below args s D g A (fun a => a = ad) o.1 adk o.2 mo z mc ms) (F0 mm 320 ls [])) {s0 : Int32} {v2 : Int32} {v3 : Int32} {v5 : Int32} {v6 : Int32} {v7 : Int32} {v8 : Int32} {v9 : Int32} {k : kS} {H : Heap} {locs : List Loc} {ls : Array Slot} {cells slots mc ms uc us : Nat} {o : (Int32 × kS)} (hH : jH A s H locs D g ad z (jY adk g k mo) []) (hl : jl_has ls 15 [(0, .ref (ad 0)), (1, .ref (adk 0)), (2, .int v2), (3, .int v3), (5, .int v5), (6, .int v6), (7, .int v7), (8, .int v8), (9, jv ad 2 v9)]) (hf : F_X8_isSame_349 z c320 s0 v2 v3 v5 v6 v7 v8 v9 k = some (o, uc, us)) (hc : cells + uc = mc) (hs : slots + us = ms) : W p l e (rm_X8_isSame mc ms) s mm args below meth c H locs cells slots (jLGi below args s D g A (fun a => a = ad) o.1 adk o.2 mo z mc ms) (F0 mm 349 ls [.int s0]) := by
  have hx := V.1
  have hb := V.2.1
  refine lv_iconst (v := 1) hx hb dX8_isSame_349 (by decide) ?_
  refine lv_goto (tgt := 354) hx hb dX8_isSame_350 (by decide) ?_
  exact w_X8_isSame_354 V hA LX hk320 hH (jl_sub hl [0, 1, 2, 3, 4, 5, 6, 7, 8] rfl) hf hc hs
set_option maxHeartbeats 4000000 in
set_option maxRecDepth 100000 in
theorem w_X8_isSame_353 (V : jV p s mm args meth c cX8_isSame RX8 15 (some .boolean) D g) (hA : ∀ q, s.heap.size ≤ q → A q) (LX : jLX l A s) {c320 : Int32 → Int32 → Int32 → Int32 → Int32 → Int32 → Int32 → kS → Option ((Int32 × kS) × Nat × Nat)} (hk320 : ∀ {v2 : Int32} {v3 : Int32} {v4 : Int32} {v5 : Int32} {v6 : Int32} {v7 : Int32} {v8 : Int32} {k : kS} {H : Heap} {locs : List Loc} {ls : Array Slot} {cells slots mc ms uc us : Nat} {o : (Int32 × kS)}, jH A s H locs D g ad z (jY adk g k mo) [] → jl_has ls 15 [(0, .ref (ad 0)), (1, .ref (adk 0)), (2, .int v2), (3, .int v3), (4, .int v4), (5, .int v5), (6, .int v6), (7, .int v7), (8, .int v8)] → c320 v2 v3 v4 v5 v6 v7 v8 k = some (o, uc, us) → cells + uc = mc → slots + us = ms → W p l e (rm_X8_isSame mc ms) s mm args below meth c H locs cells slots (jLGi below args s D g A (fun a => a = ad) o.1 adk o.2 mo z mc ms) (F0 mm 320 ls [])) {s0 : Int32} {v2 : Int32} {v3 : Int32} {v5 : Int32} {v6 : Int32} {v7 : Int32} {v8 : Int32} {v9 : Int32} {k : kS} {H : Heap} {locs : List Loc} {ls : Array Slot} {cells slots mc ms uc us : Nat} {o : (Int32 × kS)} (hH : jH A s H locs D g ad z (jY adk g k mo) []) (hl : jl_has ls 15 [(0, .ref (ad 0)), (1, .ref (adk 0)), (2, .int v2), (3, .int v3), (5, .int v5), (6, .int v6), (7, .int v7), (8, .int v8), (9, jv ad 2 v9)]) (hf : F_X8_isSame_353 z c320 s0 v2 v3 v5 v6 v7 v8 v9 k = some (o, uc, us)) (hc : cells + uc = mc) (hs : slots + us = ms) : W p l e (rm_X8_isSame mc ms) s mm args below meth c H locs cells slots (jLGi below args s D g A (fun a => a = ad) o.1 adk o.2 mo z mc ms) (F0 mm 353 ls [.int s0]) := by
  have hx := V.1
  have hb := V.2.1
  refine lv_iconst (v := 0) hx hb dX8_isSame_353 (by decide) ?_
  exact w_X8_isSame_354 V hA LX hk320 hH (jl_sub hl [0, 1, 2, 3, 4, 5, 6, 7, 8] rfl) hf hc hs
set_option maxHeartbeats 4000000 in
set_option maxRecDepth 100000 in
theorem w_X8_isSame_330 (V : jV p s mm args meth c cX8_isSame RX8 15 (some .boolean) D g) (hA : ∀ q, s.heap.size ≤ q → A q) (LX : jLX l A s) {c320 : Int32 → Int32 → Int32 → Int32 → Int32 → Int32 → Int32 → kS → Option ((Int32 × kS) × Nat × Nat)} (hk320 : ∀ {v2 : Int32} {v3 : Int32} {v4 : Int32} {v5 : Int32} {v6 : Int32} {v7 : Int32} {v8 : Int32} {k : kS} {H : Heap} {locs : List Loc} {ls : Array Slot} {cells slots mc ms uc us : Nat} {o : (Int32 × kS)}, jH A s H locs D g ad z (jY adk g k mo) [] → jl_has ls 15 [(0, .ref (ad 0)), (1, .ref (adk 0)), (2, .int v2), (3, .int v3), (4, .int v4), (5, .int v5), (6, .int v6), (7, .int v7), (8, .int v8)] → c320 v2 v3 v4 v5 v6 v7 v8 k = some (o, uc, us) → cells + uc = mc → slots + us = ms → W p l e (rm_X8_isSame mc ms) s mm args below meth c H locs cells slots (jLGi below args s D g A (fun a => a = ad) o.1 adk o.2 mo z mc ms) (F0 mm 320 ls [])) {v2 : Int32} {v3 : Int32} {v4 : Int32} {v5 : Int32} {v6 : Int32} {v7 : Int32} {v8 : Int32} {k : kS} {H : Heap} {locs : List Loc} {ls : Array Slot} {cells slots mc ms uc us : Nat} {o : (Int32 × kS)} (hH : jH A s H locs D g ad z (jY adk g k mo) []) (hl : jl_has ls 15 [(0, .ref (ad 0)), (1, .ref (adk 0)), (2, .int v2), (3, .int v3), (4, .int v4), (5, .int v5), (6, .int v6), (7, .int v7), (8, .int v8)]) (hf : F_X8_isSame_330 z c320 v2 v3 v4 v5 v6 v7 v8 k = some (o, uc, us)) (hc : cells + uc = mc) (hs : slots + us = ms) : W p l e (rm_X8_isSame mc ms) s mm args below meth c H locs cells slots (jLGi below args s D g A (fun a => a = ad) o.1 adk o.2 mo z mc ms) (F0 mm 330 ls []) := by
  have hx := V.1
  have hb := V.2.1
  refine lv_aload_n hx hb dX8_isSame_330 rfl (lv_at hl.1 0 rfl) ?_
  refine jg_S V hH 1 (by decide) kf_X8_17 rfl dX8_isSame_331 ?_
  refine lv_iload hx hb dX8_isSame_334 (lv_at hl.1 8 rfl) ?_
  obtain ⟨h330_1, hf⟩ := kif hf
  refine jald_8 V hH h330_1 dX8_isSame_336 ?_
  refine jl_astore (lv' := [(9, jv ad 2 (z 8 v8.toNatClampNeg)), (0, .ref (ad 0)), (1, .ref (adk 0)), (2, .int v2), (3, .int v3), (4, .int v4), (5, .int v5), (6, .int v6), (7, .int v7), (8, .int v8)]) hx hb dX8_isSame_337 hl (by decide) rfl (fun ls hl => ?_)
  refine lv_iload hx hb dX8_isSame_339 (lv_at hl.1 5 rfl) ?_
  refine jl_aload hx hb dX8_isSame_341 (lv_at hl.1 0 rfl) ?_
  obtain ⟨h330_2, hf⟩ := kif hf
  refine jg_L V hH h330_2 2 (by decide) kf_X8_50 rfl dX8_isSame_343 ?_
  refine jl_ifnonnull (tgt := 353) hx hb dX8_isSame_346 (by decide) (fun hq => ?_) (fun hq => ?_)
  · have hf := kneg hq hf
    exact w_X8_isSame_353 V hA LX hk320 hH (jl_sub hl [1, 2, 3, 4, 6, 7, 8, 9, 0] rfl) hf hc hs
  · have hf := kpos hq hf
    exact w_X8_isSame_349 V hA LX hk320 hH (jl_sub hl [1, 2, 3, 4, 6, 7, 8, 9, 0] rfl) hf hc hs
set_option maxHeartbeats 4000000 in
set_option maxRecDepth 100000 in
theorem w_X8_isSame_617 (V : jV p s mm args meth c cX8_isSame RX8 15 (some .boolean) D g) (hA : ∀ q, s.heap.size ≤ q → A q) (LX : jLX l A s) {k : kS} {H : Heap} {locs : List Loc} {ls : Array Slot} {cells slots mc ms uc us : Nat} {o : (Int32 × kS)} (hH : jH A s H locs D g ad z (jY adk g k mo) []) (hl : jl_has ls 15 []) (hf : F_X8_isSame_617 z k = some (o, uc, us)) (hc : cells + uc = mc) (hs : slots + us = ms) : W p l e (rm_X8_isSame mc ms) s mm args below meth c H locs cells slots (jLGi below args s D g A (fun a => a = ad) o.1 adk o.2 mo z mc ms) (F0 mm 617 ls []) := by
  have hx := V.1
  have hb := V.2.1
  refine lv_iconst (v := 0) hx hb dX8_isSame_617 (by decide) ?_
  obtain ⟨h617_1, hf⟩ := kif hf
  cases hf
  subst hc
  subst hs
  exact jl_zret (G := fun a => a = ad) V rfl hH (Decidable.not_not.mp h617_1) dX8_isSame_618
set_option maxHeartbeats 4000000 in
set_option maxRecDepth 100000 in
theorem w_X8_isSame_619 (V : jV p s mm args meth c cX8_isSame RX8 15 (some .boolean) D g) (hA : ∀ q, s.heap.size ≤ q → A q) (LX : jLX l A s) {c596 : Int32 → Int32 → Int32 → Int32 → (Nat → Int32) → kS → Option ((Int32 × kS) × Nat × Nat)} (hk596 : ∀ {v2 : Int32} {v7 : Int32} {v9 : Int32} {xq539 : Nat} {xl539 : Int32} {xf539 : Nat → Int32} {k : kS} {H : Heap} {locs : List Loc} {ls : Array Slot} {cells slots mc ms uc us : Nat} {o : (Int32 × kS)}, jH A s H locs D g ad z (jY adk g k mo) [jTi g xq539 xl539 xf539] → jl_has ls 15 [(1, .ref (adk 0)), (2, .int v2), (7, .int v7), (8, .ref xq539), (9, .int v9)] → c596 v2 v7 v9 xl539 xf539 k = some (o, uc, us) → cells + uc = mc → slots + us = ms → W p l e (rm_X8_isSame mc ms) s mm args below meth c H locs cells slots (jLGi below args s D g A (fun a => a = ad) o.1 adk o.2 mo z mc ms) (F0 mm 596 ls [])) {v2 : Int32} {v7 : Int32} {v9 : Int32} {xq539 : Nat} {xl539 : Int32} {xf539 : Nat → Int32} {k : kS} {H : Heap} {locs : List Loc} {ls : Array Slot} {cells slots mc ms uc us : Nat} {o : (Int32 × kS)} (hH : jH A s H locs D g ad z (jY adk g k mo) [jTi g xq539 xl539 xf539]) (hl : jl_has ls 15 [(1, .ref (adk 0)), (2, .int v2), (7, .int v7), (8, .ref xq539), (9, .int v9)]) (hf : F_X8_isSame_619 z c596 v2 v7 v9 xl539 xf539 k = some (o, uc, us)) (hc : cells + uc = mc) (hs : slots + us = ms) : W p l e (rm_X8_isSame mc ms) s mm args below meth c H locs cells slots (jLGi below args s D g A (fun a => a = ad) o.1 adk o.2 mo z mc ms) (F0 mm 619 ls []) := by
  have hx := V.1
  have hb := V.2.1
  refine jl_iinc (v := (v9 + 1)) (lv' := [(9, .int (v9 + 1)), (1, .ref (adk 0)), (2, .int v2), (7, .int v7), (8, .ref xq539)]) hx hb dX8_isSame_619 hl (k := 4) rfl rfl (by decide) rfl (fun ls hl => ?_)
  refine lv_goto (tgt := 596) hx hb dX8_isSame_622 (by decide) ?_
  exact hk596 hH (jl_sub hl [1, 2, 3, 4, 0] rfl) hf hc hs
set_option maxHeartbeats 4000000 in
set_option maxRecDepth 100000 in
theorem w_X8_isSame_603 (V : jV p s mm args meth c cX8_isSame RX8 15 (some .boolean) D g) (hA : ∀ q, s.heap.size ≤ q → A q) (LX : jLX l A s) {c596 : Int32 → Int32 → Int32 → Int32 → (Nat → Int32) → kS → Option ((Int32 × kS) × Nat × Nat)} (hk596 : ∀ {v2 : Int32} {v7 : Int32} {v9 : Int32} {xq539 : Nat} {xl539 : Int32} {xf539 : Nat → Int32} {k : kS} {H : Heap} {locs : List Loc} {ls : Array Slot} {cells slots mc ms uc us : Nat} {o : (Int32 × kS)}, jH A s H locs D g ad z (jY adk g k mo) [jTi g xq539 xl539 xf539] → jl_has ls 15 [(1, .ref (adk 0)), (2, .int v2), (7, .int v7), (8, .ref xq539), (9, .int v9)] → c596 v2 v7 v9 xl539 xf539 k = some (o, uc, us) → cells + uc = mc → slots + us = ms → W p l e (rm_X8_isSame mc ms) s mm args below meth c H locs cells slots (jLGi below args s D g A (fun a => a = ad) o.1 adk o.2 mo z mc ms) (F0 mm 596 ls [])) {v2 : Int32} {v7 : Int32} {v9 : Int32} {xq539 : Nat} {xl539 : Int32} {xf539 : Nat → Int32} {k : kS} {H : Heap} {locs : List Loc} {ls : Array Slot} {cells slots mc ms uc us : Nat} {o : (Int32 × kS)} (hH : jH A s H locs D g ad z (jY adk g k mo) [jTi g xq539 xl539 xf539]) (hl : jl_has ls 15 [(1, .ref (adk 0)), (2, .int v2), (7, .int v7), (8, .ref xq539), (9, .int v9)]) (hf : F_X8_isSame_603 z c596 v2 v7 v9 xl539 xf539 k = some (o, uc, us)) (hc : cells + uc = mc) (hs : slots + us = ms) : W p l e (rm_X8_isSame mc ms) s mm args below meth c H locs cells slots (jLGi below args s D g A (fun a => a = ad) o.1 adk o.2 mo z mc ms) (F0 mm 603 ls []) := by
  have hx := V.1
  have hb := V.2.1
  refine lv_aload_n hx hb dX8_isSame_603 rfl (lv_at hl.1 0 rfl) ?_
  refine lv_iload hx hb dX8_isSame_604 (lv_at hl.1 4 rfl) ?_
  obtain ⟨x603_1, hx603_1, hf⟩ := kbind hf
  obtain ⟨h603_2, hf⟩ := kif hf
  obtain ⟨uc603_3, us603_4, hf, e1, e2⟩ := kadd_some2 hf
  have e1 : uc = 4 + uc603_3 := e1
  have e2 : us = 24 + us603_4 := e2
  have hc : cells + 4 + uc603_3 = mc := by rw [Nat.add_assoc, ← e1]; exact hc
  have hs : slots + 24 + us603_4 = ms := by rw [Nat.add_assoc, ← e2]; exact hs
  have lc : cells + 4 ≤ mc := Nat.le.intro hc
  have ls2 : slots + 24 ≤ ms := Nat.le.intro hs
  refine jc_callx V hA LX hH kYX5_count kl_X8_147 (c_X5_count l LX.1 _ hx603_1 _) (Decidable.not_not.mp h603_2) rfl rfl ⟨Nat.le_of_ble_eq_true rfl, Nat.le_of_ble_eq_true rfl⟩ rfl hl.1.1 (as := [.int v9]) (rest := []) (Nat.le_of_ble_eq_true rfl) dX8_isSame_606 ⟨lc, ls2⟩ rfl (fun H locs hH => ?_)
  refine lv_aload hx hb dX8_isSame_609 (lv_at hl.1 3 rfl) ?_
  refine lv_iload hx hb dX8_isSame_611 (lv_at hl.1 4 rfl) ?_
  obtain ⟨h603_5, hf⟩ := kif hf
  refine jt_ald V hH 0 rfl h603_5 dX8_isSame_613 ?_
  refine lv_icmp_eq (tgt := 619) hx hb dX8_isSame_614 (by decide) (fun hq => ?_) (fun hq => ?_)
  · have hf := kpos hq hf
    exact w_X8_isSame_619 V hA LX hk596 hH (jl_sub hl [0, 1, 2, 3, 4] rfl) hf hc hs
  · have hf := kneg hq hf
    exact w_X8_isSame_617 V hA LX (jH_sub hH [] (by decide) rfl) (jl_sub hl [] rfl) hf hc hs
set_option maxHeartbeats 4000000 in
set_option maxRecDepth 100000 in
theorem w_X8_isSame_652 (V : jV p s mm args meth c cX8_isSame RX8 15 (some .boolean) D g) (hA : ∀ q, s.heap.size ≤ q → A q) (LX : jLX l A s) {s0 : Int32} {k : kS} {H : Heap} {locs : List Loc} {ls : Array Slot} {cells slots mc ms uc us : Nat} {o : (Int32 × kS)} (hH : jH A s H locs D g ad z (jY adk g k mo) []) (hl : jl_has ls 15 []) (hf : F_X8_isSame_652 z s0 k = some (o, uc, us)) (hc : cells + uc = mc) (hs : slots + us = ms) : W p l e (rm_X8_isSame mc ms) s mm args below meth c H locs cells slots (jLGi below args s D g A (fun a => a = ad) o.1 adk o.2 mo z mc ms) (F0 mm 652 ls [.int s0]) := by
  have hx := V.1
  have hb := V.2.1
  obtain ⟨h652_1, hf⟩ := kif hf
  cases hf
  subst hc
  subst hs
  exact jl_zret (G := fun a => a = ad) V rfl hH (Decidable.not_not.mp h652_1) dX8_isSame_652
set_option maxHeartbeats 4000000 in
set_option maxRecDepth 100000 in
theorem w_X8_isSame_647 (V : jV p s mm args meth c cX8_isSame RX8 15 (some .boolean) D g) (hA : ∀ q, s.heap.size ≤ q → A q) (LX : jLX l A s) {k : kS} {H : Heap} {locs : List Loc} {ls : Array Slot} {cells slots mc ms uc us : Nat} {o : (Int32 × kS)} (hH : jH A s H locs D g ad z (jY adk g k mo) []) (hl : jl_has ls 15 []) (hf : F_X8_isSame_647 z k = some (o, uc, us)) (hc : cells + uc = mc) (hs : slots + us = ms) : W p l e (rm_X8_isSame mc ms) s mm args below meth c H locs cells slots (jLGi below args s D g A (fun a => a = ad) o.1 adk o.2 mo z mc ms) (F0 mm 647 ls []) := by
  have hx := V.1
  have hb := V.2.1
  refine lv_iconst (v := 1) hx hb dX8_isSame_647 (by decide) ?_
  refine lv_goto (tgt := 652) hx hb dX8_isSame_648 (by decide) ?_
  exact w_X8_isSame_652 V hA LX hH (jl_sub hl [] rfl) hf hc hs
set_option maxHeartbeats 4000000 in
set_option maxRecDepth 100000 in
theorem w_X8_isSame_651 (V : jV p s mm args meth c cX8_isSame RX8 15 (some .boolean) D g) (hA : ∀ q, s.heap.size ≤ q → A q) (LX : jLX l A s) {k : kS} {H : Heap} {locs : List Loc} {ls : Array Slot} {cells slots mc ms uc us : Nat} {o : (Int32 × kS)} (hH : jH A s H locs D g ad z (jY adk g k mo) []) (hl : jl_has ls 15 []) (hf : F_X8_isSame_651 z k = some (o, uc, us)) (hc : cells + uc = mc) (hs : slots + us = ms) : W p l e (rm_X8_isSame mc ms) s mm args below meth c H locs cells slots (jLGi below args s D g A (fun a => a = ad) o.1 adk o.2 mo z mc ms) (F0 mm 651 ls []) := by
  have hx := V.1
  have hb := V.2.1
  refine lv_iconst (v := 0) hx hb dX8_isSame_651 (by decide) ?_
  exact w_X8_isSame_652 V hA LX hH (jl_sub hl [] rfl) hf hc hs
set_option maxHeartbeats 4000000 in
set_option maxRecDepth 100000 in
theorem w_X8_isSame_643 (V : jV p s mm args meth c cX8_isSame RX8 15 (some .boolean) D g) (hA : ∀ q, s.heap.size ≤ q → A q) (LX : jLX l A s) {s0 : UInt64} {s1 : UInt64} {k : kS} {H : Heap} {locs : List Loc} {ls : Array Slot} {cells slots mc ms uc us : Nat} {o : (Int32 × kS)} (hH : jH A s H locs D g ad z (jY adk g k mo) []) (hl : jl_has ls 15 []) (hf : F_X8_isSame_643 z s0 s1 k = some (o, uc, us)) (hc : cells + uc = mc) (hs : slots + us = ms) : W p l e (rm_X8_isSame mc ms) s mm args below meth c H locs cells slots (jLGi below args s D g A (fun a => a = ad) o.1 adk o.2 mo z mc ms) (F0 mm 643 ls [.double s1, .double s0]) := by
  have hx := V.1
  have hb := V.2.1
  refine lv_dcmp hx hb dX8_isSame_643 ?_
  refine lv_if_ne (tgt := 651) hx hb dX8_isSame_644 (by decide) (fun hq => ?_) (fun hq => ?_)
  · have hf := kneg hq hf
    exact w_X8_isSame_651 V hA LX hH (jl_sub hl [] rfl) hf hc hs
  · have hf := kpos hq hf
    exact w_X8_isSame_647 V hA LX hH (jl_sub hl [] rfl) hf hc hs
set_option maxHeartbeats 4000000 in
set_option maxRecDepth 100000 in
theorem w_X8_isSame_633 (V : jV p s mm args meth c cX8_isSame RX8 15 (some .boolean) D g) (hA : ∀ q, s.heap.size ≤ q → A q) (LX : jLX l A s) {s0 : UInt64} {k : kS} {H : Heap} {locs : List Loc} {ls : Array Slot} {cells slots mc ms uc us : Nat} {o : (Int32 × kS)} (hH : jH A s H locs D g ad z (jY adk g k mo) []) (hl : jl_has ls 15 []) (hf : F_X8_isSame_633 z s0 k = some (o, uc, us)) (hc : cells + uc = mc) (hs : slots + us = ms) : W p l e (rm_X8_isSame mc ms) s mm args below meth c H locs cells slots (jLGi below args s D g A (fun a => a = ad) o.1 adk o.2 mo z mc ms) (F0 mm 633 ls [.double s0]) := by
  have hx := V.1
  have hb := V.2.1
  refine lv_dconst0 hx hb dX8_isSame_633 ?_
  refine lv_goto (tgt := 643) hx hb dX8_isSame_634 (by decide) ?_
  exact w_X8_isSame_643 V hA LX hH (jl_sub hl [] rfl) hf hc hs
set_option maxHeartbeats 4000000 in
set_option maxRecDepth 100000 in
theorem w_X8_isSame_637 (V : jV p s mm args meth c cX8_isSame RX8 15 (some .boolean) D g) (hA : ∀ q, s.heap.size ≤ q → A q) (LX : jLX l A s) {s0 : UInt64} {v2 : Int32} {v7 : Int32} {k : kS} {H : Heap} {locs : List Loc} {ls : Array Slot} {cells slots mc ms uc us : Nat} {o : (Int32 × kS)} (hH : jH A s H locs D g ad z (jY adk g k mo) []) (hl : jl_has ls 15 [(2, .int v2), (7, .int v7)]) (hf : F_X8_isSame_637 z s0 v2 v7 k = some (o, uc, us)) (hc : cells + uc = mc) (hs : slots + us = ms) : W p l e (rm_X8_isSame mc ms) s mm args below meth c H locs cells slots (jLGi below args s D g A (fun a => a = ad) o.1 adk o.2 mo z mc ms) (F0 mm 637 ls [.double s0]) := by
  have hx := V.1
  have hb := V.2.1
  refine lv_iload hx hb dX8_isSame_637 (lv_at hl.1 1 rfl) ?_
  refine lv_i2d hx hb dX8_isSame_639 ?_
  refine lv_iload_n hx hb dX8_isSame_640 rfl (lv_at hl.1 0 rfl) ?_
  refine lv_i2d hx hb dX8_isSame_641 ?_
  obtain ⟨h637_1, hf⟩ := kif hf
  refine lv_ddiv hx hb dX8_isSame_642 (by unfold vf_n64; exact Classical.not_not.mp h637_1) ?_
  exact w_X8_isSame_643 V hA LX hH (jl_sub hl [] rfl) hf hc hs
set_option maxHeartbeats 4000000 in
set_option maxRecDepth 100000 in
theorem w_X8_isSame_625 (V : jV p s mm args meth c cX8_isSame RX8 15 (some .boolean) D g) (hA : ∀ q, s.heap.size ≤ q → A q) (LX : jLX l A s) {v2 : Int32} {v7 : Int32} {k : kS} {H : Heap} {locs : List Loc} {ls : Array Slot} {cells slots mc ms uc us : Nat} {o : (Int32 × kS)} (hH : jH A s H locs D g ad z (jY adk g k mo) []) (hl : jl_has ls 15 [(1, .ref (adk 0)), (2, .int v2), (7, .int v7)]) (hf : F_X8_isSame_625 z v2 v7 k = some (o, uc, us)) (hc : cells + uc = mc) (hs : slots + us = ms) : W p l e (rm_X8_isSame mc ms) s mm args below meth c H locs cells slots (jLGi below args s D g A (fun a => a = ad) o.1 adk o.2 mo z mc ms) (F0 mm 625 ls []) := by
  have hx := V.1
  have hb := V.2.1
  refine lv_aload_n hx hb dX8_isSame_625 rfl (lv_at hl.1 0 rfl) ?_
  obtain ⟨x625_1, hx625_1, hf⟩ := kbind hf
  refine jc_calld V hA hH kYX5_mean kl_X8_151 (c_X5_mean l hx625_1 _) rfl rfl ⟨Nat.le_of_ble_eq_true rfl, Nat.le_of_ble_eq_true rfl⟩ rfl hl.1.1 (as := []) (rest := []) (Nat.le_of_ble_eq_true rfl) dX8_isSame_626 ⟨by show cells + 0 ≤ mc; omega, by show slots + 0 ≤ ms; omega⟩ rfl (fun H locs hH => ?_)
  refine lv_iload_n hx hb dX8_isSame_629 rfl (lv_at hl.1 1 rfl) ?_
  refine lv_if_ne (tgt := 637) hx hb dX8_isSame_630 (by decide) (fun hq => ?_) (fun hq => ?_)
  · have hf := kneg hq hf
    exact w_X8_isSame_637 V hA LX hH (jl_sub hl [1, 2] rfl) hf hc hs
  · have hf := kpos hq hf
    exact w_X8_isSame_633 V hA LX hH (jl_sub hl [] rfl) hf hc hs
set_option maxHeartbeats 4000000 in
set_option maxRecDepth 100000 in
theorem w_X8_isSame_596 (V : jV p s mm args meth c cX8_isSame RX8 15 (some .boolean) D g) (hA : ∀ q, s.heap.size ≤ q → A q) (LX : jLX l A s) : ∀ (n : Nat) {v2 : Int32} {v7 : Int32} {v9 : Int32} {xq539 : Nat} {xl539 : Int32} {xf539 : Nat → Int32} {k : kS} {H : Heap} {locs : List Loc} {ls : Array Slot} {cells slots mc ms uc us : Nat} {o : (Int32 × kS)}, jH A s H locs D g ad z (jY adk g k mo) [jTi g xq539 xl539 xf539] → jl_has ls 15 [(1, .ref (adk 0)), (2, .int v2), (7, .int v7), (8, .ref xq539), (9, .int v9)] → F_X8_isSame_596 z n v2 v7 v9 xl539 xf539 k = some (o, uc, us) → cells + uc = mc → slots + us = ms → W p l e (rm_X8_isSame mc ms) s mm args below meth c H locs cells slots (jLGi below args s D g A (fun a => a = ad) o.1 adk o.2 mo z mc ms) (F0 mm 596 ls []) := by
  have hx := V.1
  have hb := V.2.1
  intro n
  induction n with
  | zero => intro _ _ _ _ _ _ _ _ _ _ _ _ _ _ _ _ _ hH hl hf hc hs; cases hf
  | succ n hk596 =>
    intro v2 v7 v9 xq539 xl539 xf539 k H locs ls cells slots mc ms uc us o hH hl hf hc hs
    refine lv_iload hx hb dX8_isSame_596 (lv_at hl.1 4 rfl) ?_
    refine lv_bipush (v := 8) hx hb dX8_isSame_598 (by decide) ?_
    refine lv_icmp_ge (tgt := 625) hx hb dX8_isSame_600 (by decide) (fun hq => ?_) (fun hq => ?_)
    · have hf := kpos hq hf
      exact w_X8_isSame_625 V hA LX (jH_sub hH [] (by decide) rfl) (jl_sub hl [0, 1, 2] rfl) hf hc hs
    · have hf := kneg hq hf
      exact w_X8_isSame_603 V hA LX hk596 hH (jl_sub hl [0, 1, 2, 3, 4] rfl) hf hc hs
set_option maxHeartbeats 4000000 in
set_option maxRecDepth 100000 in
theorem w_X8_isSame_537 (V : jV p s mm args meth c cX8_isSame RX8 15 (some .boolean) D g) (hA : ∀ q, s.heap.size ≤ q → A q) (LX : jLX l A s) {v2 : Int32} {v3 : Int32} {v4 : Int32} {v5 : Int32} {v6 : Int32} {v7 : Int32} {k : kS} {H : Heap} {locs : List Loc} {ls : Array Slot} {cells slots mc ms uc us : Nat} {o : (Int32 × kS)} (hH : jH A s H locs D g ad z (jY adk g k mo) []) (hl : jl_has ls 15 [(0, .ref (ad 0)), (1, .ref (adk 0)), (2, .int v2), (3, .int v3), (4, .int v4), (5, .int v5), (6, .int v6), (7, .int v7)]) (hf : F_X8_isSame_537 z v2 v3 v4 v5 v6 v7 k = some (o, uc, us)) (hc : cells + uc = mc) (hs : slots + us = ms) : W p l e (rm_X8_isSame mc ms) s mm args below meth c H locs cells slots (jLGi below args s D g A (fun a => a = ad) o.1 adk o.2 mo z mc ms) (F0 mm 537 ls []) := by
  have hx := V.1
  have hb := V.2.1
  refine lv_bipush (v := 8) hx hb dX8_isSame_537 (by decide) ?_
  obtain ⟨h537_1, hf⟩ := kif hf
  obtain ⟨uc537_2, us537_3, hf, e1, e2⟩ := kadd_some2 hf
  have e1 : uc = 1 + uc537_2 := e1
  have e2 : us = (8 : Int32).toNatClampNeg + us537_3 := e2
  have hc : cells + 1 + uc537_2 = mc := by rw [Nat.add_assoc, ← e1]; exact hc
  have hs : slots + (8 : Int32).toNatClampNeg + us537_3 = ms := by rw [Nat.add_assoc, ← e2]; exact hs
  have lc : cells + 1 ≤ mc := Nat.le.intro hc
  have ls2 : slots + (8 : Int32).toNatClampNeg ≤ ms := Nat.le.intro hs
  refine jt_new V hA hH (fun q => h537_1 (Or.inl q)) (Nat.not_lt.mp fun q => h537_1 (Or.inr q)) lc ls2 dX8_isSame_539 (fun xq539 H hH => ?_)
  refine lv_dup hx hb dX8_isSame_541 rfl ?_
  refine lv_iconst (v := 0) hx hb dX8_isSame_542 (by decide) ?_
  refine lv_aload_n hx hb dX8_isSame_543 rfl (lv_at hl.1 0 rfl) ?_
  refine jg_S V hH 2 (by decide) kf_X8_30 rfl dX8_isSame_544 ?_
  obtain ⟨h537_4, hf⟩ := kif hf
  refine jt_ast V hH 0 rfl h537_4 rfl dX8_isSame_547 (fun H locs hH => ?_)
  refine lv_dup hx hb dX8_isSame_548 rfl ?_
  refine lv_iconst (v := 1) hx hb dX8_isSame_549 (by decide) ?_
  refine lv_aload_n hx hb dX8_isSame_550 rfl (lv_at hl.1 0 rfl) ?_
  refine jg_S V hH 0 (by decide) kf_X8_9 rfl dX8_isSame_551 ?_
  refine jalen_4 V hH dX8_isSame_554 ?_
  obtain ⟨h537_5, hf⟩ := kif hf
  refine jt_ast V hH 0 rfl h537_5 rfl dX8_isSame_555 (fun H locs hH => ?_)
  refine lv_dup hx hb dX8_isSame_556 rfl ?_
  refine lv_iconst (v := 2) hx hb dX8_isSame_557 (by decide) ?_
  refine lv_iload_n hx hb dX8_isSame_558 rfl (lv_at hl.1 2 rfl) ?_
  obtain ⟨h537_6, hf⟩ := kif hf
  refine jt_ast V hH 0 rfl h537_6 rfl dX8_isSame_559 (fun H locs hH => ?_)
  refine lv_dup hx hb dX8_isSame_560 rfl ?_
  refine lv_iconst (v := 3) hx hb dX8_isSame_561 (by decide) ?_
  refine lv_iload_n hx hb dX8_isSame_562 rfl (lv_at hl.1 3 rfl) ?_
  refine lv_iconst (v := 2) hx hb dX8_isSame_563 (by decide) ?_
  obtain ⟨h537_7, hf⟩ := kif hf
  refine lv_idiv hx hb dX8_isSame_564 h537_7 ?_
  obtain ⟨h537_8, hf⟩ := kif hf
  refine jt_ast V hH 0 rfl h537_8 rfl dX8_isSame_565 (fun H locs hH => ?_)
  refine lv_dup hx hb dX8_isSame_566 rfl ?_
  refine lv_iconst (v := 4) hx hb dX8_isSame_567 (by decide) ?_
  refine lv_aload_n hx hb dX8_isSame_568 rfl (lv_at hl.1 0 rfl) ?_
  refine jg_S V hH 1 (by decide) kf_X8_17 rfl dX8_isSame_569 ?_
  refine jalen_8 V hH dX8_isSame_572 ?_
  obtain ⟨h537_9, hf⟩ := kif hf
  refine jt_ast V hH 0 rfl h537_9 rfl dX8_isSame_573 (fun H locs hH => ?_)
  refine lv_dup hx hb dX8_isSame_574 rfl ?_
  refine lv_iconst (v := 5) hx hb dX8_isSame_575 (by decide) ?_
  refine lv_iload hx hb dX8_isSame_576 (lv_at hl.1 4 rfl) ?_
  obtain ⟨h537_10, hf⟩ := kif hf
  refine jt_ast V hH 0 rfl h537_10 rfl dX8_isSame_578 (fun H locs hH => ?_)
  refine lv_dup hx hb dX8_isSame_579 rfl ?_
  refine lv_bipush (v := 6) hx hb dX8_isSame_580 (by decide) ?_
  refine lv_iload hx hb dX8_isSame_582 (lv_at hl.1 5 rfl) ?_
  obtain ⟨h537_11, hf⟩ := kif hf
  refine jt_ast V hH 0 rfl h537_11 rfl dX8_isSame_584 (fun H locs hH => ?_)
  refine lv_dup hx hb dX8_isSame_585 rfl ?_
  refine lv_bipush (v := 7) hx hb dX8_isSame_586 (by decide) ?_
  refine lv_iload hx hb dX8_isSame_588 (lv_at hl.1 6 rfl) ?_
  obtain ⟨h537_12, hf⟩ := kif hf
  refine jt_ast V hH 0 rfl h537_12 rfl dX8_isSame_590 (fun H locs hH => ?_)
  refine jl_astore (o := some xq539) (lv' := [(8, .ref xq539), (0, .ref (ad 0)), (1, .ref (adk 0)), (2, .int v2), (3, .int v3), (4, .int v4), (5, .int v5), (6, .int v6), (7, .int v7)]) hx hb dX8_isSame_591 hl (by decide) rfl (fun ls hl => ?_)
  refine lv_iconst (v := 0) hx hb dX8_isSame_593 (by decide) ?_
  refine jl_istore (lv' := [(9, .int 0), (8, .ref xq539), (0, .ref (ad 0)), (1, .ref (adk 0)), (2, .int v2), (3, .int v3), (4, .int v4), (5, .int v5), (6, .int v6), (7, .int v7)]) hx hb dX8_isSame_594 hl (by decide) rfl (fun ls hl => ?_)
  exact w_X8_isSame_596 V hA LX kN hH (jl_sub hl [3, 4, 9, 1, 0] rfl) hf hc hs
set_option maxHeartbeats 4000000 in
set_option maxRecDepth 100000 in
theorem w_X8_isSame_320 (V : jV p s mm args meth c cX8_isSame RX8 15 (some .boolean) D g) (hA : ∀ q, s.heap.size ≤ q → A q) (LX : jLX l A s) : ∀ (n : Nat) {v2 : Int32} {v3 : Int32} {v4 : Int32} {v5 : Int32} {v6 : Int32} {v7 : Int32} {v8 : Int32} {k : kS} {H : Heap} {locs : List Loc} {ls : Array Slot} {cells slots mc ms uc us : Nat} {o : (Int32 × kS)}, jH A s H locs D g ad z (jY adk g k mo) [] → jl_has ls 15 [(0, .ref (ad 0)), (1, .ref (adk 0)), (2, .int v2), (3, .int v3), (4, .int v4), (5, .int v5), (6, .int v6), (7, .int v7), (8, .int v8)] → F_X8_isSame_320 z n v2 v3 v4 v5 v6 v7 v8 k = some (o, uc, us) → cells + uc = mc → slots + us = ms → W p l e (rm_X8_isSame mc ms) s mm args below meth c H locs cells slots (jLGi below args s D g A (fun a => a = ad) o.1 adk o.2 mo z mc ms) (F0 mm 320 ls []) := by
  have hx := V.1
  have hb := V.2.1
  intro n
  induction n with
  | zero => intro _ _ _ _ _ _ _ _ _ _ _ _ _ _ _ _ _ _ hH hl hf hc hs; cases hf
  | succ n hk320 =>
    intro v2 v3 v4 v5 v6 v7 v8 k H locs ls cells slots mc ms uc us o hH hl hf hc hs
    refine lv_iload hx hb dX8_isSame_320 (lv_at hl.1 8 rfl) ?_
    refine lv_aload_n hx hb dX8_isSame_322 rfl (lv_at hl.1 0 rfl) ?_
    refine jg_S V hH 1 (by decide) kf_X8_17 rfl dX8_isSame_323 ?_
    refine jalen_8 V hH dX8_isSame_326 ?_
    refine lv_icmp_ge (tgt := 537) hx hb dX8_isSame_327 (by decide) (fun hq => ?_) (fun hq => ?_)
    · have hf := kpos hq hf
      exact w_X8_isSame_537 V hA LX hH (jl_sub hl [0, 1, 2, 3, 4, 5, 6, 7] rfl) hf hc hs
    · have hf := kneg hq hf
      exact w_X8_isSame_330 V hA LX hk320 hH (jl_sub hl [0, 1, 2, 3, 4, 5, 6, 7, 8] rfl) hf hc hs
set_option maxHeartbeats 4000000 in
set_option maxRecDepth 100000 in
theorem w_X8_isSame_317 (V : jV p s mm args meth c cX8_isSame RX8 15 (some .boolean) D g) (hA : ∀ q, s.heap.size ≤ q → A q) (LX : jLX l A s) {v2 : Int32} {v3 : Int32} {v4 : Int32} {v5 : Int32} {v6 : Int32} {v7 : Int32} {k : kS} {H : Heap} {locs : List Loc} {ls : Array Slot} {cells slots mc ms uc us : Nat} {o : (Int32 × kS)} (hH : jH A s H locs D g ad z (jY adk g k mo) []) (hl : jl_has ls 15 [(0, .ref (ad 0)), (1, .ref (adk 0)), (2, .int v2), (3, .int v3), (4, .int v4), (5, .int v5), (6, .int v6), (7, .int v7)]) (hf : F_X8_isSame_317 z v2 v3 v4 v5 v6 v7 k = some (o, uc, us)) (hc : cells + uc = mc) (hs : slots + us = ms) : W p l e (rm_X8_isSame mc ms) s mm args below meth c H locs cells slots (jLGi below args s D g A (fun a => a = ad) o.1 adk o.2 mo z mc ms) (F0 mm 317 ls []) := by
  have hx := V.1
  have hb := V.2.1
  refine lv_iconst (v := 0) hx hb dX8_isSame_317 (by decide) ?_
  refine jl_istore (lv' := [(8, .int 0), (0, .ref (ad 0)), (1, .ref (adk 0)), (2, .int v2), (3, .int v3), (4, .int v4), (5, .int v5), (6, .int v6), (7, .int v7)]) hx hb dX8_isSame_318 hl (by decide) rfl (fun ls hl => ?_)
  exact w_X8_isSame_320 V hA LX kN hH (jl_sub hl [1, 2, 3, 4, 5, 6, 7, 8, 0] rfl) hf hc hs
set_option maxHeartbeats 4000000 in
set_option maxRecDepth 100000 in
theorem w_X8_isSame_30 (V : jV p s mm args meth c cX8_isSame RX8 15 (some .boolean) D g) (hA : ∀ q, s.heap.size ≤ q → A q) (LX : jLX l A s) : ∀ (n : Nat) {v2 : Int32} {v3 : Int32} {v4 : Int32} {v5 : Int32} {v6 : Int32} {v7 : Int32} {v9 : Int32} {v10 : Int32} {k : kS} {H : Heap} {locs : List Loc} {ls : Array Slot} {cells slots mc ms uc us : Nat} {o : (Int32 × kS)}, jH A s H locs D g ad z (jY adk g k mo) [] → jl_has ls 15 [(0, .ref (ad 0)), (1, .ref (adk 0)), (2, .int v2), (3, .int v3), (4, .int v4), (5, .int v5), (6, .int v6), (7, .int v7), (8, .ref (ad 4)), (9, .int v9), (10, .int v10)] → F_X8_isSame_30 z n v2 v3 v4 v5 v6 v7 v9 v10 k = some (o, uc, us) → cells + uc = mc → slots + us = ms → W p l e (rm_X8_isSame mc ms) s mm args below meth c H locs cells slots (jLGi below args s D g A (fun a => a = ad) o.1 adk o.2 mo z mc ms) (F0 mm 30 ls []) := by
  have hx := V.1
  have hb := V.2.1
  intro n
  induction n with
  | zero => intro _ _ _ _ _ _ _ _ _ _ _ _ _ _ _ _ _ _ _ hH hl hf hc hs; cases hf
  | succ n hk30 =>
    intro v2 v3 v4 v5 v6 v7 v9 v10 k H locs ls cells slots mc ms uc us o hH hl hf hc hs
    refine lv_iload hx hb dX8_isSame_30 (lv_at hl.1 10 rfl) ?_
    refine lv_iload hx hb dX8_isSame_32 (lv_at hl.1 9 rfl) ?_
    refine lv_icmp_ge (tgt := 317) hx hb dX8_isSame_34 (by decide) (fun hq => ?_) (fun hq => ?_)
    · have hf := kpos hq hf
      exact w_X8_isSame_317 V hA LX hH (jl_sub hl [0, 1, 2, 3, 4, 5, 6, 7] rfl) hf hc hs
    · have hf := kneg hq hf
      exact w_X8_isSame_37 V hA LX hk30 hH (jl_sub hl [0, 1, 2, 3, 4, 5, 6, 7, 8, 9, 10] rfl) hf hc hs
set_option maxHeartbeats 4000000 in
set_option maxRecDepth 100000 in
theorem w_X8_isSame_0 (V : jV p s mm args meth c cX8_isSame RX8 15 (some .boolean) D g) (hA : ∀ q, s.heap.size ≤ q → A q) (LX : jLX l A s) {k : kS} {H : Heap} {locs : List Loc} {ls : Array Slot} {cells slots mc ms uc us : Nat} {o : (Int32 × kS)} (hH : jH A s H locs D g ad z (jY adk g k mo) []) (hl : jl_has ls 15 [(0, .ref (ad 0)), (1, .ref (adk 0))]) (hf : F_X8_isSame_0 z k = some (o, uc, us)) (hc : cells + uc = mc) (hs : slots + us = ms) : W p l e (rm_X8_isSame mc ms) s mm args below meth c H locs cells slots (jLGi below args s D g A (fun a => a = ad) o.1 adk o.2 mo z mc ms) (F0 mm 0 ls []) := by
  have hx := V.1
  have hb := V.2.1
  refine lv_iconst (v := 0) hx hb dX8_isSame_0 (by decide) ?_
  refine jl_istore_n (lv' := [(2, .int 0), (0, .ref (ad 0)), (1, .ref (adk 0))]) hx hb dX8_isSame_1 rfl hl (by decide) rfl (fun ls hl => ?_)
  refine lv_iconst (v := 0) hx hb dX8_isSame_2 (by decide) ?_
  refine jl_istore_n (lv' := [(3, .int 0), (2, .int 0), (0, .ref (ad 0)), (1, .ref (adk 0))]) hx hb dX8_isSame_3 rfl hl (by decide) rfl (fun ls hl => ?_)
  refine lv_iconst (v := 0) hx hb dX8_isSame_4 (by decide) ?_
  refine jl_istore (lv' := [(4, .int 0), (3, .int 0), (2, .int 0), (0, .ref (ad 0)), (1, .ref (adk 0))]) hx hb dX8_isSame_5 hl (by decide) rfl (fun ls hl => ?_)
  refine lv_iconst (v := 0) hx hb dX8_isSame_7 (by decide) ?_
  refine jl_istore (lv' := [(5, .int 0), (4, .int 0), (3, .int 0), (2, .int 0), (0, .ref (ad 0)), (1, .ref (adk 0))]) hx hb dX8_isSame_8 hl (by decide) rfl (fun ls hl => ?_)
  refine lv_iconst (v := 0) hx hb dX8_isSame_10 (by decide) ?_
  refine jl_istore (lv' := [(6, .int 0), (5, .int 0), (4, .int 0), (3, .int 0), (2, .int 0), (0, .ref (ad 0)), (1, .ref (adk 0))]) hx hb dX8_isSame_11 hl (by decide) rfl (fun ls hl => ?_)
  refine lv_iconst (v := 0) hx hb dX8_isSame_13 (by decide) ?_
  refine jl_istore (lv' := [(7, .int 0), (6, .int 0), (5, .int 0), (4, .int 0), (3, .int 0), (2, .int 0), (0, .ref (ad 0)), (1, .ref (adk 0))]) hx hb dX8_isSame_14 hl (by decide) rfl (fun ls hl => ?_)
  refine lv_aload_n hx hb dX8_isSame_16 rfl (lv_at hl.1 6 rfl) ?_
  refine jg_S V hH 0 (by decide) kf_X8_9 rfl dX8_isSame_17 ?_
  refine jl_astore (o := some (ad 4)) (lv' := [(8, .ref (ad 4)), (7, .int 0), (6, .int 0), (5, .int 0), (4, .int 0), (3, .int 0), (2, .int 0), (0, .ref (ad 0)), (1, .ref (adk 0))]) hx hb dX8_isSame_20 hl (by decide) rfl (fun ls hl => ?_)
  refine lv_aload hx hb dX8_isSame_22 (lv_at hl.1 0 rfl) ?_
  refine jalen_4 V hH dX8_isSame_24 ?_
  refine jl_istore (lv' := [(9, .int (nI (z 12 0).toNatClampNeg)), (8, .ref (ad 4)), (7, .int 0), (6, .int 0), (5, .int 0), (4, .int 0), (3, .int 0), (2, .int 0), (0, .ref (ad 0)), (1, .ref (adk 0))]) hx hb dX8_isSame_25 hl (by decide) rfl (fun ls hl => ?_)
  refine lv_iconst (v := 0) hx hb dX8_isSame_27 (by decide) ?_
  refine jl_istore (lv' := [(10, .int 0), (9, .int (nI (z 12 0).toNatClampNeg)), (8, .ref (ad 4)), (7, .int 0), (6, .int 0), (5, .int 0), (4, .int 0), (3, .int 0), (2, .int 0), (0, .ref (ad 0)), (1, .ref (adk 0))]) hx hb dX8_isSame_28 hl (by decide) rfl (fun ls hl => ?_)
  exact w_X8_isSame_30 V hA LX kN hH (jl_sub hl [9, 10, 8, 7, 6, 5, 4, 3, 2, 1, 0] rfl) hf hc hs
set_option maxHeartbeats 4000000 in
set_option maxRecDepth 100000 in
theorem c_X8_isSame (l : Launch) (hst : l.stackTraces = false) {D : va_G} {g : Nat → ClassId} {adk ad : Nat → Nat} {k mo z : kS} {o : Int32 × kS} {mc ms : Nat} (hf : F_X8_isSame z k = some (o, mc, ms)) (sz : Nat) : Met l yX8_isSame (Cond.code yX8_isSame cX8_isSame 15 (some .boolean) :: kWA) (rm_X8_isSame mc ms) (jLP [.ref (ad 0), .ref (adk 0)] D g adk k mo ad z sz) (jLQi o.1 (fun a => a = ad) D g (va_A (jY adk g k mo ++ jC g ad z) sz) adk o.2 mo z) mc ms (va_A (jY adk g k mo ++ jC g ad z) sz) := by
  refine jl_met (as := [.ref (ad 0), .ref (adk 0)]) (bytes := cX8_isSame) (maxL := 15) (rt := (some .boolean)) (lv := [(0, .ref (ad 0)), (1, .ref (adk 0))]) hst (by decide +kernel) (by simp [lg_sl, jcatv, jcati, jcatr]) (by simp [lv_args, jcatv, jcati, jcatr]) (by simp [jcatv, jcati, jcatr]) (fun p e s mm below meth c ls hsz V LX hA hH hl => ?_)
  exact w_X8_isSame_0 V hA LX hH (jl_sub hl [0, 1] rfl) hf (Nat.zero_add _) (Nat.zero_add _)
end
