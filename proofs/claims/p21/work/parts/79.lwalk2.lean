/-! ACT: walk and contract -/
section
variable {p : Program} {l : Launch} {e : Env} {s : State} {mm : MethodId} {args : Array Value} {below : List Frame} {meth : Method} {c : Code} {D : va_G} {g : Nat → ClassId} {A : Nat → Prop} {adk : Nat → Nat} {mo : kS}
variable {ad0 : Nat → Nat}

abbrev rm_L_act (mc ms : Nat) : Room := { frames := 51, cells := mc, slots := ms, locals := 1411 }
set_option maxHeartbeats 4000000 in
set_option maxRecDepth 100000 in
theorem w_L_act_166 (V : jV p s mm args meth c cL_act RL 14 (some .boolean) D g) (hA : ∀ q, s.heap.size ≤ q → A q) (LX : jLX l A s) {ad : Nat → Nat} {k : kS} {z : kS} {H : Heap} {locs : List Loc} {ls : Array Slot} {cells slots mc ms uc us : Nat} {o : (Int32 × kS × kS)} (hG : ad 0 = ad0 0) (hH : jH A s H locs D g ad z (jY adk g k mo) []) (hl : jl_has ls 14 []) (hf : F_L_act_166 k z = some (o, uc, us)) (hc : cells + uc = mc) (hs : slots + us = ms) : W p l e (rm_L_act mc ms) s mm args below meth c H locs cells slots (jLGi below args s D g A (fun a => a 0 = ad0 0) o.1 adk o.2.1 mo o.2.2 mc ms) (F0 mm 166 ls []) := by
  have hx := V.1
  have hb := V.2.1
  refine lv_iconst (v := 1) hx hb dL_act_166 (by decide) ?_
  obtain ⟨h166_1, hf⟩ := kif hf
  cases hf
  subst hc
  subst hs
  exact jl_zret (G := fun a => a 0 = ad0 0) V hG hH (Decidable.not_not.mp h166_1) dL_act_167
set_option maxHeartbeats 4000000 in
set_option maxRecDepth 100000 in
theorem w_L_act_227 (V : jV p s mm args meth c cL_act RL 14 (some .boolean) D g) (hA : ∀ q, s.heap.size ≤ q → A q) (LX : jLX l A s) {ad : Nat → Nat} {s0 : Int32} {k : kS} {z : kS} {H : Heap} {locs : List Loc} {ls : Array Slot} {cells slots mc ms uc us : Nat} {o : (Int32 × kS × kS)} (hG : ad 0 = ad0 0) (hH : jH A s H locs D g ad z (jY adk g k mo) []) (hl : jl_has ls 14 []) (hf : F_L_act_227 s0 k z = some (o, uc, us)) (hc : cells + uc = mc) (hs : slots + us = ms) : W p l e (rm_L_act mc ms) s mm args below meth c H locs cells slots (jLGi below args s D g A (fun a => a 0 = ad0 0) o.1 adk o.2.1 mo o.2.2 mc ms) (F0 mm 227 ls [.int s0]) := by
  have hx := V.1
  have hb := V.2.1
  obtain ⟨h227_1, hf⟩ := kif hf
  cases hf
  subst hc
  subst hs
  exact jl_zret (G := fun a => a 0 = ad0 0) V hG hH (Decidable.not_not.mp h227_1) dL_act_227
set_option maxHeartbeats 4000000 in
set_option maxRecDepth 100000 in
theorem w_L_act_222 (V : jV p s mm args meth c cL_act RL 14 (some .boolean) D g) (hA : ∀ q, s.heap.size ≤ q → A q) (LX : jLX l A s) {ad : Nat → Nat} {k : kS} {z : kS} {H : Heap} {locs : List Loc} {ls : Array Slot} {cells slots mc ms uc us : Nat} {o : (Int32 × kS × kS)} (hG : ad 0 = ad0 0) (hH : jH A s H locs D g ad z (jY adk g k mo) []) (hl : jl_has ls 14 []) (hf : F_L_act_222 k z = some (o, uc, us)) (hc : cells + uc = mc) (hs : slots + us = ms) : W p l e (rm_L_act mc ms) s mm args below meth c H locs cells slots (jLGi below args s D g A (fun a => a 0 = ad0 0) o.1 adk o.2.1 mo o.2.2 mc ms) (F0 mm 222 ls []) := by
  have hx := V.1
  have hb := V.2.1
  refine lv_iconst (v := 1) hx hb dL_act_222 (by decide) ?_
  refine lv_goto (tgt := 227) hx hb dL_act_223 (by decide) ?_
  exact w_L_act_227 V hA LX hG hH (jl_sub hl [] rfl) hf hc hs
set_option maxHeartbeats 4000000 in
set_option maxRecDepth 100000 in
theorem w_L_act_226 (V : jV p s mm args meth c cL_act RL 14 (some .boolean) D g) (hA : ∀ q, s.heap.size ≤ q → A q) (LX : jLX l A s) {ad : Nat → Nat} {k : kS} {z : kS} {H : Heap} {locs : List Loc} {ls : Array Slot} {cells slots mc ms uc us : Nat} {o : (Int32 × kS × kS)} (hG : ad 0 = ad0 0) (hH : jH A s H locs D g ad z (jY adk g k mo) []) (hl : jl_has ls 14 []) (hf : F_L_act_226 k z = some (o, uc, us)) (hc : cells + uc = mc) (hs : slots + us = ms) : W p l e (rm_L_act mc ms) s mm args below meth c H locs cells slots (jLGi below args s D g A (fun a => a 0 = ad0 0) o.1 adk o.2.1 mo o.2.2 mc ms) (F0 mm 226 ls []) := by
  have hx := V.1
  have hb := V.2.1
  refine lv_iconst (v := 0) hx hb dL_act_226 (by decide) ?_
  exact w_L_act_227 V hA LX hG hH (jl_sub hl [] rfl) hf hc hs
set_option maxHeartbeats 4000000 in
set_option maxRecDepth 100000 in
theorem w_L_act_211 (V : jV p s mm args meth c cL_act RL 14 (some .boolean) D g) (hA : ∀ q, s.heap.size ≤ q → A q) (LX : jLX l A s) {ad : Nat → Nat} {s0 : Int32} {s2 : Int32} {v8 : Int32} {k : kS} {z : kS} {H : Heap} {locs : List Loc} {ls : Array Slot} {cells slots mc ms uc us : Nat} {o : (Int32 × kS × kS)} (hG : ad 0 = ad0 0) (hH : jH A s H locs D g ad z (jY adk g k mo) []) (hl : jl_has ls 14 [(8, .int v8)]) (hf : F_L_act_211 s0 s2 v8 k z = some (o, uc, us)) (hc : cells + uc = mc) (hs : slots + us = ms) : W p l e (rm_L_act mc ms) s mm args below meth c H locs cells slots (jLGi below args s D g A (fun a => a 0 = ad0 0) o.1 adk o.2.1 mo o.2.2 mc ms) (F0 mm 211 ls [.int s2, .ref (ad 0), .int s0]) := by
  have hx := V.1
  have hb := V.2.1
  refine lv_iload hx hb dL_act_211 (lv_at hl.1 0 rfl) ?_
  have hl := jl_sub hl [] (lv' := []) rfl
  obtain ⟨x211_1, hx211_1, hf⟩ := kbind hf
  obtain ⟨uc211_2, us211_3, hf, e1, e2⟩ := kadd_some2 hf
  have e1 : uc = x211_1.2.1 + uc211_2 := e1
  have e2 : us = x211_1.2.2 + us211_3 := e2
  have hc : cells + x211_1.2.1 + uc211_2 = mc := by rw [Nat.add_assoc, ← e1]; exact hc
  have hs : slots + x211_1.2.2 + us211_3 = ms := by rw [Nat.add_assoc, ← e2]; exact hs
  have lc : cells + x211_1.2.1 ≤ mc := Nat.le.intro hc
  have ls2 : slots + x211_1.2.2 ≤ ms := Nat.le.intro hs
  refine jr_callq hA hH (jr_runV (as := [.int s2, .int v8]) (rest := [.int s0]) V hH kYX8_come kl_L_31 (c_X8_come l _ _ hx211_1 _) rfl rfl ⟨Nat.le_of_ble_eq_true rfl, Nat.le_of_ble_eq_true rfl⟩ rfl hl.1.1 (Nat.le_of_ble_eq_true rfl) dL_act_213 ⟨lc, ls2⟩ rfl) (fun ad211_1 H locs hm hH => ?_)
  have hG := hm.p0.trans hG
  obtain ⟨h211_4, hf⟩ := kif hf
  refine jg_P V hH h211_4 0 (by decide) kf_L_34 rfl dL_act_216 ?_
  refine lv_icmp_ne (tgt := 226) hx hb dL_act_219 (by decide) (fun hq => ?_) (fun hq => ?_)
  · have hf := kneg hq hf
    exact w_L_act_226 V hA LX hG hH (jl_sub hl [] rfl) hf hc hs
  · have hf := kpos hq hf
    exact w_L_act_222 V hA LX hG hH (jl_sub hl [] rfl) hf hc hs
set_option maxHeartbeats 4000000 in
set_option maxRecDepth 100000 in
theorem w_L_act_206 (V : jV p s mm args meth c cL_act RL 14 (some .boolean) D g) (hA : ∀ q, s.heap.size ≤ q → A q) (LX : jLX l A s) {ad : Nat → Nat} {s0 : Int32} {v8 : Int32} {k : kS} {z : kS} {H : Heap} {locs : List Loc} {ls : Array Slot} {cells slots mc ms uc us : Nat} {o : (Int32 × kS × kS)} (hG : ad 0 = ad0 0) (hH : jH A s H locs D g ad z (jY adk g k mo) []) (hl : jl_has ls 14 [(8, .int v8)]) (hf : F_L_act_206 s0 v8 k z = some (o, uc, us)) (hc : cells + uc = mc) (hs : slots + us = ms) : W p l e (rm_L_act mc ms) s mm args below meth c H locs cells slots (jLGi below args s D g A (fun a => a 0 = ad0 0) o.1 adk o.2.1 mo o.2.2 mc ms) (F0 mm 206 ls [.ref (ad 0), .int s0]) := by
  have hx := V.1
  have hb := V.2.1
  refine lv_iconst (v := 1) hx hb dL_act_206 (by decide) ?_
  refine lv_goto (tgt := 211) hx hb dL_act_207 (by decide) ?_
  exact w_L_act_211 V hA LX hG hH (jl_sub hl [0] rfl) hf hc hs
set_option maxHeartbeats 4000000 in
set_option maxRecDepth 100000 in
theorem w_L_act_210 (V : jV p s mm args meth c cL_act RL 14 (some .boolean) D g) (hA : ∀ q, s.heap.size ≤ q → A q) (LX : jLX l A s) {ad : Nat → Nat} {s0 : Int32} {v8 : Int32} {k : kS} {z : kS} {H : Heap} {locs : List Loc} {ls : Array Slot} {cells slots mc ms uc us : Nat} {o : (Int32 × kS × kS)} (hG : ad 0 = ad0 0) (hH : jH A s H locs D g ad z (jY adk g k mo) []) (hl : jl_has ls 14 [(8, .int v8)]) (hf : F_L_act_210 s0 v8 k z = some (o, uc, us)) (hc : cells + uc = mc) (hs : slots + us = ms) : W p l e (rm_L_act mc ms) s mm args below meth c H locs cells slots (jLGi below args s D g A (fun a => a 0 = ad0 0) o.1 adk o.2.1 mo o.2.2 mc ms) (F0 mm 210 ls [.ref (ad 0), .int s0]) := by
  have hx := V.1
  have hb := V.2.1
  refine lv_iconst (v := 0) hx hb dL_act_210 (by decide) ?_
  exact w_L_act_211 V hA LX hG hH (jl_sub hl [0] rfl) hf hc hs
set_option maxHeartbeats 4000000 in
set_option maxRecDepth 100000 in
theorem w_L_act_192 (V : jV p s mm args meth c cL_act RL 14 (some .boolean) D g) (hA : ∀ q, s.heap.size ≤ q → A q) (LX : jLX l A s) {ad : Nat → Nat} {s1 : Int32} {v2 : Int32} {v8 : Int32} {k : kS} {z : kS} {H : Heap} {locs : List Loc} {ls : Array Slot} {cells slots mc ms uc us : Nat} {o : (Int32 × kS × kS)} (hG : ad 0 = ad0 0) (hH : jH A s H locs D g ad z (jY adk g k mo) []) (hl : jl_has ls 14 [(1, .ref (ad 0)), (2, .int v2), (8, .int v8)]) (hf : F_L_act_192 s1 v2 v8 k z = some (o, uc, us)) (hc : cells + uc = mc) (hs : slots + us = ms) : W p l e (rm_L_act mc ms) s mm args below meth c H locs cells slots (jLGi below args s D g A (fun a => a 0 = ad0 0) o.1 adk o.2.1 mo o.2.2 mc ms) (F0 mm 192 ls [.int s1, .ref (adk 0)]) := by
  have hx := V.1
  have hb := V.2.1
  refine lv_iload hx hb dL_act_192 (lv_at hl.1 2 rfl) ?_
  obtain ⟨x192_1, hx192_1, hf⟩ := kbind hf
  obtain ⟨h192_2, hf⟩ := kif hf
  obtain ⟨uc192_3, us192_4, hf, e1, e2⟩ := kadd_some2 hf
  have e1 : uc = 4 + uc192_3 := e1
  have e2 : us = 24 + us192_4 := e2
  have hc : cells + 4 + uc192_3 = mc := by rw [Nat.add_assoc, ← e1]; exact hc
  have hs : slots + 24 + us192_4 = ms := by rw [Nat.add_assoc, ← e2]; exact hs
  have lc : cells + 4 ≤ mc := Nat.le.intro hc
  have ls2 : slots + 24 ≤ ms := Nat.le.intro hs
  refine jc_callx V hA LX hH kYX5_come kl_L_25 (c_X5_come l LX.1 _ _ hx192_1 _) (Decidable.not_not.mp h192_2) rfl rfl ⟨Nat.le_of_ble_eq_true rfl, Nat.le_of_ble_eq_true rfl⟩ rfl hl.1.1 (as := [.int s1, .int v8]) (rest := []) (Nat.le_of_ble_eq_true rfl) dL_act_194 ⟨lc, ls2⟩ rfl (fun H locs hH => ?_)
  refine lv_aload_n hx hb dL_act_197 rfl (lv_at hl.1 0 rfl) ?_
  refine lv_iload_n hx hb dL_act_198 rfl (lv_at hl.1 1 rfl) ?_
  refine lv_iconst (v := 2) hx hb dL_act_199 (by decide) ?_
  obtain ⟨x192_5, hx192_5, hf⟩ := kbind hf
  refine jr_calliR0 hA hH (jr_runS (as := [.int v2, .int 2]) (rest := [.ref (ad 0), .int x192_1.1.2]) V hH kYL_below kl_L_15 (c_L_below l _ _ hx192_5 _) rfl rfl ⟨Nat.le_of_ble_eq_true rfl, Nat.le_of_ble_eq_true rfl⟩ rfl hl.1.1 (Nat.le_of_ble_eq_true rfl) dL_act_200 ⟨by show cells + 4 + 0 ≤ mc; omega, by show slots + 24 + 0 ≤ ms; omega⟩ rfl) (fun H locs hH => ?_)
  refine lv_if_ne (tgt := 210) hx hb dL_act_203 (by decide) (fun hq => ?_) (fun hq => ?_)
  · have hf := kneg hq hf
    exact w_L_act_210 V hA LX hG hH (jl_sub hl [2] rfl) hf hc hs
  · have hf := kpos hq hf
    exact w_L_act_206 V hA LX hG hH (jl_sub hl [2] rfl) hf hc hs
set_option maxHeartbeats 4000000 in
set_option maxRecDepth 100000 in
theorem w_L_act_187 (V : jV p s mm args meth c cL_act RL 14 (some .boolean) D g) (hA : ∀ q, s.heap.size ≤ q → A q) (LX : jLX l A s) {ad : Nat → Nat} {v2 : Int32} {v8 : Int32} {k : kS} {z : kS} {H : Heap} {locs : List Loc} {ls : Array Slot} {cells slots mc ms uc us : Nat} {o : (Int32 × kS × kS)} (hG : ad 0 = ad0 0) (hH : jH A s H locs D g ad z (jY adk g k mo) []) (hl : jl_has ls 14 [(1, .ref (ad 0)), (2, .int v2), (8, .int v8)]) (hf : F_L_act_187 v2 v8 k z = some (o, uc, us)) (hc : cells + uc = mc) (hs : slots + us = ms) : W p l e (rm_L_act mc ms) s mm args below meth c H locs cells slots (jLGi below args s D g A (fun a => a 0 = ad0 0) o.1 adk o.2.1 mo o.2.2 mc ms) (F0 mm 187 ls [.ref (adk 0)]) := by
  have hx := V.1
  have hb := V.2.1
  refine lv_iconst (v := 1) hx hb dL_act_187 (by decide) ?_
  refine lv_goto (tgt := 192) hx hb dL_act_188 (by decide) ?_
  exact w_L_act_192 V hA LX hG hH (jl_sub hl [0, 1, 2] rfl) hf hc hs
set_option maxHeartbeats 4000000 in
set_option maxRecDepth 100000 in
theorem w_L_act_191 (V : jV p s mm args meth c cL_act RL 14 (some .boolean) D g) (hA : ∀ q, s.heap.size ≤ q → A q) (LX : jLX l A s) {ad : Nat → Nat} {v2 : Int32} {v8 : Int32} {k : kS} {z : kS} {H : Heap} {locs : List Loc} {ls : Array Slot} {cells slots mc ms uc us : Nat} {o : (Int32 × kS × kS)} (hG : ad 0 = ad0 0) (hH : jH A s H locs D g ad z (jY adk g k mo) []) (hl : jl_has ls 14 [(1, .ref (ad 0)), (2, .int v2), (8, .int v8)]) (hf : F_L_act_191 v2 v8 k z = some (o, uc, us)) (hc : cells + uc = mc) (hs : slots + us = ms) : W p l e (rm_L_act mc ms) s mm args below meth c H locs cells slots (jLGi below args s D g A (fun a => a 0 = ad0 0) o.1 adk o.2.1 mo o.2.2 mc ms) (F0 mm 191 ls [.ref (adk 0)]) := by
  have hx := V.1
  have hb := V.2.1
  refine lv_iconst (v := 0) hx hb dL_act_191 (by decide) ?_
  exact w_L_act_192 V hA LX hG hH (jl_sub hl [0, 1, 2] rfl) hf hc hs
set_option maxHeartbeats 4000000 in
set_option maxRecDepth 100000 in
theorem w_L_act_168 (V : jV p s mm args meth c cL_act RL 14 (some .boolean) D g) (hA : ∀ q, s.heap.size ≤ q → A q) (LX : jLX l A s) {ad : Nat → Nat} {v2 : Int32} {k : kS} {z : kS} {H : Heap} {locs : List Loc} {ls : Array Slot} {cells slots mc ms uc us : Nat} {o : (Int32 × kS × kS)} (hG : ad 0 = ad0 0) (hH : jH A s H locs D g ad z (jY adk g k mo) []) (hl : jl_has ls 14 [(0, .ref (adk 0)), (1, .ref (ad 0)), (2, .int v2)]) (hf : F_L_act_168 v2 k z = some (o, uc, us)) (hc : cells + uc = mc) (hs : slots + us = ms) : W p l e (rm_L_act mc ms) s mm args below meth c H locs cells slots (jLGi below args s D g A (fun a => a 0 = ad0 0) o.1 adk o.2.1 mo o.2.2 mc ms) (F0 mm 168 ls []) := by
  have hx := V.1
  have hb := V.2.1
  refine lv_iload_n hx hb dL_act_168 rfl (lv_at hl.1 2 rfl) ?_
  refine lv_iconst (v := 2) hx hb dL_act_169 (by decide) ?_
  refine lv_ishr hx hb dL_act_170 ?_
  refine lv_bipush (v := 40) hx hb dL_act_171 (by decide) ?_
  obtain ⟨x168_1, hx168_1, hf⟩ := kbind hf
  refine jr_calliR0 hA hH (jr_runS (as := [.int (v2 >>> (2 &&& 31)), .int 40]) (rest := []) V hH kYL_below kl_L_15 (c_L_below l _ _ hx168_1 _) rfl rfl ⟨Nat.le_of_ble_eq_true rfl, Nat.le_of_ble_eq_true rfl⟩ rfl hl.1.1 (Nat.le_of_ble_eq_true rfl) dL_act_173 ⟨by show cells + 0 ≤ mc; omega, by show slots + 0 ≤ ms; omega⟩ rfl) (fun H locs hH => ?_)
  refine jl_istore (lv' := [(8, .int x168_1), (0, .ref (adk 0)), (1, .ref (ad 0)), (2, .int v2)]) hx hb dL_act_176 hl (by decide) rfl (fun ls hl => ?_)
  refine lv_aload_n hx hb dL_act_178 rfl (lv_at hl.1 1 rfl) ?_
  refine lv_iload_n hx hb dL_act_179 rfl (lv_at hl.1 3 rfl) ?_
  refine lv_iconst (v := 2) hx hb dL_act_180 (by decide) ?_
  obtain ⟨x168_2, hx168_2, hf⟩ := kbind hf
  refine jr_calliR0 hA hH (jr_runS (as := [.int v2, .int 2]) (rest := [.ref (adk 0)]) V hH kYL_below kl_L_15 (c_L_below l _ _ hx168_2 _) rfl rfl ⟨Nat.le_of_ble_eq_true rfl, Nat.le_of_ble_eq_true rfl⟩ rfl hl.1.1 (Nat.le_of_ble_eq_true rfl) dL_act_181 ⟨by show cells + 0 ≤ mc; omega, by show slots + 0 ≤ ms; omega⟩ rfl) (fun H locs hH => ?_)
  refine lv_if_ne (tgt := 191) hx hb dL_act_184 (by decide) (fun hq => ?_) (fun hq => ?_)
  · have hf := kneg hq hf
    exact w_L_act_191 V hA LX hG hH (jl_sub hl [2, 3, 0] rfl) hf hc hs
  · have hf := kpos hq hf
    exact w_L_act_187 V hA LX hG hH (jl_sub hl [2, 3, 0] rfl) hf hc hs
set_option maxHeartbeats 4000000 in
set_option maxRecDepth 100000 in
theorem w_L_act_160 (V : jV p s mm args meth c cL_act RL 14 (some .boolean) D g) (hA : ∀ q, s.heap.size ≤ q → A q) (LX : jLX l A s) {ad : Nat → Nat} {v2 : Int32} {v3 : Int32} {k : kS} {z : kS} {H : Heap} {locs : List Loc} {ls : Array Slot} {cells slots mc ms uc us : Nat} {o : (Int32 × kS × kS)} (hG : ad 0 = ad0 0) (hH : jH A s H locs D g ad z (jY adk g k mo) []) (hl : jl_has ls 14 [(0, .ref (adk 0)), (1, .ref (ad 0)), (2, .int v2), (3, .int v3)]) (hf : F_L_act_160 v2 v3 k z = some (o, uc, us)) (hc : cells + uc = mc) (hs : slots + us = ms) : W p l e (rm_L_act mc ms) s mm args below meth c H locs cells slots (jLGi below args s D g A (fun a => a 0 = ad0 0) o.1 adk o.2.1 mo o.2.2 mc ms) (F0 mm 160 ls []) := by
  have hx := V.1
  have hb := V.2.1
  refine lv_iload_n hx hb dL_act_160 rfl (lv_at hl.1 3 rfl) ?_
  refine lv_bipush (v := 40) hx hb dL_act_161 (by decide) ?_
  refine lv_icmp_ne (tgt := 168) hx hb dL_act_163 (by decide) (fun hq => ?_) (fun hq => ?_)
  · have hf := kneg hq hf
    exact w_L_act_168 V hA LX hG hH (jl_sub hl [0, 1, 2] rfl) hf hc hs
  · have hf := kpos hq hf
    exact w_L_act_166 V hA LX hG hH (jl_sub hl [] rfl) hf hc hs
set_option maxHeartbeats 4000000 in
set_option maxRecDepth 100000 in
theorem w_L_act_334 (V : jV p s mm args meth c cL_act RL 14 (some .boolean) D g) (hA : ∀ q, s.heap.size ≤ q → A q) (LX : jLX l A s) {c231 : Int32 → Int32 → Int32 → Int32 → kS → kS → Option ((Int32 × kS × kS) × Nat × Nat)} (hk231 : ∀ {ad : Nat → Nat} {v2 : Int32} {v3 : Int32} {v5 : Int32} {v9 : Int32} {k : kS} {z : kS} {H : Heap} {locs : List Loc} {ls : Array Slot} {cells slots mc ms uc us : Nat} {o : (Int32 × kS × kS)}, ad 0 = ad0 0 → jH A s H locs D g ad z (jY adk g k mo) [] → jl_has ls 14 [(0, .ref (adk 0)), (1, .ref (ad 0)), (2, .int v2), (3, .int v3), (5, jv ad 1 v5), (9, .int v9)] → c231 v2 v3 v5 v9 k z = some (o, uc, us) → cells + uc = mc → slots + us = ms → W p l e (rm_L_act mc ms) s mm args below meth c H locs cells slots (jLGi below args s D g A (fun a => a 0 = ad0 0) o.1 adk o.2.1 mo o.2.2 mc ms) (F0 mm 231 ls [])) {ad : Nat → Nat} {v2 : Int32} {v3 : Int32} {v5 : Int32} {v9 : Int32} {k : kS} {z : kS} {H : Heap} {locs : List Loc} {ls : Array Slot} {cells slots mc ms uc us : Nat} {o : (Int32 × kS × kS)} (hG : ad 0 = ad0 0) (hH : jH A s H locs D g ad z (jY adk g k mo) []) (hl : jl_has ls 14 [(0, .ref (adk 0)), (1, .ref (ad 0)), (2, .int v2), (3, .int v3), (5, jv ad 1 v5), (9, .int v9)]) (hf : F_L_act_334 c231 v2 v3 v5 v9 k z = some (o, uc, us)) (hc : cells + uc = mc) (hs : slots + us = ms) : W p l e (rm_L_act mc ms) s mm args below meth c H locs cells slots (jLGi below args s D g A (fun a => a 0 = ad0 0) o.1 adk o.2.1 mo o.2.2 mc ms) (F0 mm 334 ls []) := by
  have hx := V.1
  have hb := V.2.1
  refine jl_iinc (v := (v9 + 1)) (lv' := [(9, .int (v9 + 1)), (0, .ref (adk 0)), (1, .ref (ad 0)), (2, .int v2), (3, .int v3), (5, jv ad 1 v5)]) hx hb dL_act_334 hl (k := 5) rfl rfl (by decide) rfl (fun ls hl => ?_)
  refine lv_goto (tgt := 231) hx hb dL_act_337 (by decide) ?_
  exact hk231 hG hH (jl_sub hl [1, 2, 3, 4, 5, 0] rfl) hf hc hs
set_option maxHeartbeats 4000000 in
set_option maxRecDepth 100000 in
theorem w_L_act_276 (V : jV p s mm args meth c cL_act RL 14 (some .boolean) D g) (hA : ∀ q, s.heap.size ≤ q → A q) (LX : jLX l A s) {c231 : Int32 → Int32 → Int32 → Int32 → kS → kS → Option ((Int32 × kS × kS) × Nat × Nat)} (hk231 : ∀ {ad : Nat → Nat} {v2 : Int32} {v3 : Int32} {v5 : Int32} {v9 : Int32} {k : kS} {z : kS} {H : Heap} {locs : List Loc} {ls : Array Slot} {cells slots mc ms uc us : Nat} {o : (Int32 × kS × kS)}, ad 0 = ad0 0 → jH A s H locs D g ad z (jY adk g k mo) [] → jl_has ls 14 [(0, .ref (adk 0)), (1, .ref (ad 0)), (2, .int v2), (3, .int v3), (5, jv ad 1 v5), (9, .int v9)] → c231 v2 v3 v5 v9 k z = some (o, uc, us) → cells + uc = mc → slots + us = ms → W p l e (rm_L_act mc ms) s mm args below meth c H locs cells slots (jLGi below args s D g A (fun a => a 0 = ad0 0) o.1 adk o.2.1 mo o.2.2 mc ms) (F0 mm 231 ls [])) {ad : Nat → Nat} {v2 : Int32} {v3 : Int32} {v5 : Int32} {v9 : Int32} {k : kS} {z : kS} {H : Heap} {locs : List Loc} {ls : Array Slot} {cells slots mc ms uc us : Nat} {o : (Int32 × kS × kS)} (hG : ad 0 = ad0 0) (hH : jH A s H locs D g ad z (jY adk g k mo) []) (hl : jl_has ls 14 [(0, .ref (adk 0)), (1, .ref (ad 0)), (2, .int v2), (3, .int v3), (5, jv ad 1 v5), (9, .int v9)]) (hf : F_L_act_276 c231 v2 v3 v5 v9 k z = some (o, uc, us)) (hc : cells + uc = mc) (hs : slots + us = ms) : W p l e (rm_L_act mc ms) s mm args below meth c H locs cells slots (jLGi below args s D g A (fun a => a 0 = ad0 0) o.1 adk o.2.1 mo o.2.2 mc ms) (F0 mm 276 ls []) := by
  have hx := V.1
  have hb := V.2.1
  refine lv_goto (tgt := 334) hx hb dL_act_276 (by decide) ?_
  exact w_L_act_334 V hA LX hk231 hG hH (jl_sub hl [0, 1, 2, 3, 4, 5] rfl) hf hc hs
set_option maxHeartbeats 4000000 in
set_option maxRecDepth 100000 in
theorem w_L_act_333 (V : jV p s mm args meth c cL_act RL 14 (some .boolean) D g) (hA : ∀ q, s.heap.size ≤ q → A q) (LX : jLX l A s) {ad : Nat → Nat} {s0 : Int32} {k : kS} {z : kS} {H : Heap} {locs : List Loc} {ls : Array Slot} {cells slots mc ms uc us : Nat} {o : (Int32 × kS × kS)} (hG : ad 0 = ad0 0) (hH : jH A s H locs D g ad z (jY adk g k mo) []) (hl : jl_has ls 14 []) (hf : F_L_act_333 s0 k z = some (o, uc, us)) (hc : cells + uc = mc) (hs : slots + us = ms) : W p l e (rm_L_act mc ms) s mm args below meth c H locs cells slots (jLGi below args s D g A (fun a => a 0 = ad0 0) o.1 adk o.2.1 mo o.2.2 mc ms) (F0 mm 333 ls [.int s0]) := by
  have hx := V.1
  have hb := V.2.1
  obtain ⟨h333_1, hf⟩ := kif hf
  cases hf
  subst hc
  subst hs
  exact jl_zret (G := fun a => a 0 = ad0 0) V hG hH (Decidable.not_not.mp h333_1) dL_act_333
set_option maxHeartbeats 4000000 in
set_option maxRecDepth 100000 in
theorem w_L_act_328 (V : jV p s mm args meth c cL_act RL 14 (some .boolean) D g) (hA : ∀ q, s.heap.size ≤ q → A q) (LX : jLX l A s) {ad : Nat → Nat} {k : kS} {z : kS} {H : Heap} {locs : List Loc} {ls : Array Slot} {cells slots mc ms uc us : Nat} {o : (Int32 × kS × kS)} (hG : ad 0 = ad0 0) (hH : jH A s H locs D g ad z (jY adk g k mo) []) (hl : jl_has ls 14 []) (hf : F_L_act_328 k z = some (o, uc, us)) (hc : cells + uc = mc) (hs : slots + us = ms) : W p l e (rm_L_act mc ms) s mm args below meth c H locs cells slots (jLGi below args s D g A (fun a => a 0 = ad0 0) o.1 adk o.2.1 mo o.2.2 mc ms) (F0 mm 328 ls []) := by
  have hx := V.1
  have hb := V.2.1
  refine lv_iconst (v := 1) hx hb dL_act_328 (by decide) ?_
  refine lv_goto (tgt := 333) hx hb dL_act_329 (by decide) ?_
  exact w_L_act_333 V hA LX hG hH (jl_sub hl [] rfl) hf hc hs
set_option maxHeartbeats 4000000 in
set_option maxRecDepth 100000 in
theorem w_L_act_332 (V : jV p s mm args meth c cL_act RL 14 (some .boolean) D g) (hA : ∀ q, s.heap.size ≤ q → A q) (LX : jLX l A s) {ad : Nat → Nat} {k : kS} {z : kS} {H : Heap} {locs : List Loc} {ls : Array Slot} {cells slots mc ms uc us : Nat} {o : (Int32 × kS × kS)} (hG : ad 0 = ad0 0) (hH : jH A s H locs D g ad z (jY adk g k mo) []) (hl : jl_has ls 14 []) (hf : F_L_act_332 k z = some (o, uc, us)) (hc : cells + uc = mc) (hs : slots + us = ms) : W p l e (rm_L_act mc ms) s mm args below meth c H locs cells slots (jLGi below args s D g A (fun a => a 0 = ad0 0) o.1 adk o.2.1 mo o.2.2 mc ms) (F0 mm 332 ls []) := by
  have hx := V.1
  have hb := V.2.1
  refine lv_iconst (v := 0) hx hb dL_act_332 (by decide) ?_
  exact w_L_act_333 V hA LX hG hH (jl_sub hl [] rfl) hf hc hs
set_option maxHeartbeats 4000000 in
set_option maxRecDepth 100000 in
theorem w_L_act_321 (V : jV p s mm args meth c cL_act RL 14 (some .boolean) D g) (hA : ∀ q, s.heap.size ≤ q → A q) (LX : jLX l A s) {ad : Nat → Nat} {s1 : Int32} {s2 : Int32} {v3 : Int32} {k : kS} {z : kS} {H : Heap} {locs : List Loc} {ls : Array Slot} {cells slots mc ms uc us : Nat} {o : (Int32 × kS × kS)} (hG : ad 0 = ad0 0) (hH : jH A s H locs D g ad z (jY adk g k mo) []) (hl : jl_has ls 14 [(3, .int v3)]) (hf : F_L_act_321 s1 s2 v3 k z = some (o, uc, us)) (hc : cells + uc = mc) (hs : slots + us = ms) : W p l e (rm_L_act mc ms) s mm args below meth c H locs cells slots (jLGi below args s D g A (fun a => a 0 = ad0 0) o.1 adk o.2.1 mo o.2.2 mc ms) (F0 mm 321 ls [.int s2, .int s1, .ref (adk 0)]) := by
  have hx := V.1
  have hb := V.2.1
  obtain ⟨x321_1, hx321_1, hf⟩ := kbind hf
  obtain ⟨h321_2, hf⟩ := kif hf
  obtain ⟨uc321_3, us321_4, hf, e1, e2⟩ := kadd_some2 hf
  have e1 : uc = 4 + uc321_3 := e1
  have e2 : us = 24 + us321_4 := e2
  have hc : cells + 4 + uc321_3 = mc := by rw [Nat.add_assoc, ← e1]; exact hc
  have hs : slots + 24 + us321_4 = ms := by rw [Nat.add_assoc, ← e2]; exact hs
  have lc : cells + 4 ≤ mc := Nat.le.intro hc
  have ls2 : slots + 24 ≤ ms := Nat.le.intro hs
  refine jc_callx V hA LX hH kYX5_bear kl_L_52 (c_X5_bear l LX.1 _ _ hx321_1 _) (Decidable.not_not.mp h321_2) rfl rfl ⟨Nat.le_of_ble_eq_true rfl, Nat.le_of_ble_eq_true rfl⟩ rfl hl.1.1 (as := [.int s1, .int s2]) (rest := []) (Nat.le_of_ble_eq_true rfl) dL_act_321 ⟨lc, ls2⟩ rfl (fun H locs hH => ?_)
  refine lv_iload_n hx hb dL_act_324 rfl (lv_at hl.1 0 rfl) ?_
  refine lv_icmp_ne (tgt := 332) hx hb dL_act_325 (by decide) (fun hq => ?_) (fun hq => ?_)
  · have hf := kneg hq hf
    exact w_L_act_332 V hA LX hG hH (jl_sub hl [] rfl) hf hc hs
  · have hf := kpos hq hf
    exact w_L_act_328 V hA LX hG hH (jl_sub hl [] rfl) hf hc hs
set_option maxHeartbeats 4000000 in
set_option maxRecDepth 100000 in
theorem w_L_act_316 (V : jV p s mm args meth c cL_act RL 14 (some .boolean) D g) (hA : ∀ q, s.heap.size ≤ q → A q) (LX : jLX l A s) {ad : Nat → Nat} {s1 : Int32} {v3 : Int32} {k : kS} {z : kS} {H : Heap} {locs : List Loc} {ls : Array Slot} {cells slots mc ms uc us : Nat} {o : (Int32 × kS × kS)} (hG : ad 0 = ad0 0) (hH : jH A s H locs D g ad z (jY adk g k mo) []) (hl : jl_has ls 14 [(3, .int v3)]) (hf : F_L_act_316 s1 v3 k z = some (o, uc, us)) (hc : cells + uc = mc) (hs : slots + us = ms) : W p l e (rm_L_act mc ms) s mm args below meth c H locs cells slots (jLGi below args s D g A (fun a => a 0 = ad0 0) o.1 adk o.2.1 mo o.2.2 mc ms) (F0 mm 316 ls [.int s1, .ref (adk 0)]) := by
  have hx := V.1
  have hb := V.2.1
  refine lv_iconst (v := 1) hx hb dL_act_316 (by decide) ?_
  refine lv_goto (tgt := 321) hx hb dL_act_317 (by decide) ?_
  exact w_L_act_321 V hA LX hG hH (jl_sub hl [0] rfl) hf hc hs
set_option maxHeartbeats 4000000 in
set_option maxRecDepth 100000 in
theorem w_L_act_320 (V : jV p s mm args meth c cL_act RL 14 (some .boolean) D g) (hA : ∀ q, s.heap.size ≤ q → A q) (LX : jLX l A s) {ad : Nat → Nat} {s1 : Int32} {v3 : Int32} {k : kS} {z : kS} {H : Heap} {locs : List Loc} {ls : Array Slot} {cells slots mc ms uc us : Nat} {o : (Int32 × kS × kS)} (hG : ad 0 = ad0 0) (hH : jH A s H locs D g ad z (jY adk g k mo) []) (hl : jl_has ls 14 [(3, .int v3)]) (hf : F_L_act_320 s1 v3 k z = some (o, uc, us)) (hc : cells + uc = mc) (hs : slots + us = ms) : W p l e (rm_L_act mc ms) s mm args below meth c H locs cells slots (jLGi below args s D g A (fun a => a 0 = ad0 0) o.1 adk o.2.1 mo o.2.2 mc ms) (F0 mm 320 ls [.int s1, .ref (adk 0)]) := by
  have hx := V.1
  have hb := V.2.1
  refine lv_iconst (v := 0) hx hb dL_act_320 (by decide) ?_
  exact w_L_act_321 V hA LX hG hH (jl_sub hl [0] rfl) hf hc hs
set_option maxHeartbeats 4000000 in
set_option maxRecDepth 100000 in
theorem w_L_act_297 (V : jV p s mm args meth c cL_act RL 14 (some .boolean) D g) (hA : ∀ q, s.heap.size ≤ q → A q) (LX : jLX l A s) {ad : Nat → Nat} {s1 : Int32} {s2 : Int32} {v2 : Int32} {v3 : Int32} {v10 : Int32} {k : kS} {z : kS} {H : Heap} {locs : List Loc} {ls : Array Slot} {cells slots mc ms uc us : Nat} {o : (Int32 × kS × kS)} (hG : ad 0 = ad0 0) (hH : jH A s H locs D g ad z (jY adk g k mo) []) (hl : jl_has ls 14 [(0, .ref (adk 0)), (2, .int v2), (3, .int v3), (10, jv ad 1 v10)]) (hf : F_L_act_297 s1 s2 v2 v3 v10 k z = some (o, uc, us)) (hc : cells + uc = mc) (hs : slots + us = ms) : W p l e (rm_L_act mc ms) s mm args below meth c H locs cells slots (jLGi below args s D g A (fun a => a 0 = ad0 0) o.1 adk o.2.1 mo o.2.2 mc ms) (F0 mm 297 ls [.int s2, jv ad 1 s1, .ref (ad 0)]) := by
  have hx := V.1
  have hb := V.2.1
  obtain ⟨h297_1, hf⟩ := kif hf
  obtain ⟨x297_2, hx297_2, hf⟩ := kbind hf
  obtain ⟨uc297_3, us297_4, hf, e1, e2⟩ := kadd_some2 hf
  have e1 : uc = x297_2.2.1 + uc297_3 := e1
  have e2 : us = x297_2.2.2 + us297_4 := e2
  have hc : cells + x297_2.2.1 + uc297_3 = mc := by rw [Nat.add_assoc, ← e1]; exact hc
  have hs : slots + x297_2.2.2 + us297_4 = ms := by rw [Nat.add_assoc, ← e2]; exact hs
  have lc : cells + x297_2.2.1 ≤ mc := Nat.le.intro hc
  have ls2 : slots + x297_2.2.2 ≤ ms := Nat.le.intro hs
  refine jr_callv hA hH (jr_runV (as := [jv ad 1 s1, .int s2]) (rest := []) V hH kYX8_bear kl_L_48 (c_X8_bear l _ _ hx297_2 _) rfl rfl ⟨Nat.le_of_ble_eq_true rfl, Nat.le_of_ble_eq_true rfl⟩ rfl hl.1.1 (Nat.le_of_ble_eq_true rfl) dL_act_297 ⟨lc, ls2⟩ rfl) (fun ad297_1 H locs hm hH => ?_)
  have hG := hm.p0.trans hG
  have hl : jl_has ls 14 [(0, .ref (adk 0)), (2, .int v2), (3, .int v3), (10, jv ad297_1 1 v10)] := by simp only [jv, hm.p0, hm.r1 h297_1]; exact hl
  refine lv_aload_n hx hb dL_act_300 rfl (lv_at hl.1 0 rfl) ?_
  refine jl_aload hx hb dL_act_301 (lv_at hl.1 3 rfl) ?_
  obtain ⟨h297_5, hf⟩ := kif hf
  refine jg_P V hH h297_5 0 (by decide) kf_L_34 rfl dL_act_303 ?_
  refine lv_iload_n hx hb dL_act_306 rfl (lv_at hl.1 1 rfl) ?_
  refine lv_iconst (v := 2) hx hb dL_act_307 (by decide) ?_
  refine lv_ishr hx hb dL_act_308 ?_
  refine lv_iconst (v := 2) hx hb dL_act_309 (by decide) ?_
  obtain ⟨x297_6, hx297_6, hf⟩ := kbind hf
  refine jr_calliR0 hA hH (jr_runS (as := [.int (v2 >>> (2 &&& 31)), .int 2]) (rest := [.int (x297_2.1 (4 * v10.toNatClampNeg + 1) 0), .ref (adk 0)]) V hH kYL_below kl_L_15 (c_L_below l _ _ hx297_6 _) rfl rfl ⟨Nat.le_of_ble_eq_true rfl, Nat.le_of_ble_eq_true rfl⟩ rfl hl.1.1 (Nat.le_of_ble_eq_true rfl) dL_act_310 ⟨by show cells + x297_2.2.1 + 0 ≤ mc; omega, by show slots + x297_2.2.2 + 0 ≤ ms; omega⟩ rfl) (fun H locs hH => ?_)
  refine lv_if_ne (tgt := 320) hx hb dL_act_313 (by decide) (fun hq => ?_) (fun hq => ?_)
  · have hf := kneg hq hf
    exact w_L_act_320 V hA LX hG hH (jl_sub hl [2] rfl) hf hc hs
  · have hf := kpos hq hf
    exact w_L_act_316 V hA LX hG hH (jl_sub hl [2] rfl) hf hc hs
set_option maxHeartbeats 4000000 in
set_option maxRecDepth 100000 in
theorem w_L_act_292 (V : jV p s mm args meth c cL_act RL 14 (some .boolean) D g) (hA : ∀ q, s.heap.size ≤ q → A q) (LX : jLX l A s) {ad : Nat → Nat} {s1 : Int32} {v2 : Int32} {v3 : Int32} {v10 : Int32} {k : kS} {z : kS} {H : Heap} {locs : List Loc} {ls : Array Slot} {cells slots mc ms uc us : Nat} {o : (Int32 × kS × kS)} (hG : ad 0 = ad0 0) (hH : jH A s H locs D g ad z (jY adk g k mo) []) (hl : jl_has ls 14 [(0, .ref (adk 0)), (2, .int v2), (3, .int v3), (10, jv ad 1 v10)]) (hf : F_L_act_292 s1 v2 v3 v10 k z = some (o, uc, us)) (hc : cells + uc = mc) (hs : slots + us = ms) : W p l e (rm_L_act mc ms) s mm args below meth c H locs cells slots (jLGi below args s D g A (fun a => a 0 = ad0 0) o.1 adk o.2.1 mo o.2.2 mc ms) (F0 mm 292 ls [jv ad 1 s1, .ref (ad 0)]) := by
  have hx := V.1
  have hb := V.2.1
  refine lv_iconst (v := 1) hx hb dL_act_292 (by decide) ?_
  refine lv_goto (tgt := 297) hx hb dL_act_293 (by decide) ?_
  exact w_L_act_297 V hA LX hG hH (jl_sub hl [0, 1, 2, 3] rfl) hf hc hs
set_option maxHeartbeats 4000000 in
set_option maxRecDepth 100000 in
theorem w_L_act_296 (V : jV p s mm args meth c cL_act RL 14 (some .boolean) D g) (hA : ∀ q, s.heap.size ≤ q → A q) (LX : jLX l A s) {ad : Nat → Nat} {s1 : Int32} {v2 : Int32} {v3 : Int32} {v10 : Int32} {k : kS} {z : kS} {H : Heap} {locs : List Loc} {ls : Array Slot} {cells slots mc ms uc us : Nat} {o : (Int32 × kS × kS)} (hG : ad 0 = ad0 0) (hH : jH A s H locs D g ad z (jY adk g k mo) []) (hl : jl_has ls 14 [(0, .ref (adk 0)), (2, .int v2), (3, .int v3), (10, jv ad 1 v10)]) (hf : F_L_act_296 s1 v2 v3 v10 k z = some (o, uc, us)) (hc : cells + uc = mc) (hs : slots + us = ms) : W p l e (rm_L_act mc ms) s mm args below meth c H locs cells slots (jLGi below args s D g A (fun a => a 0 = ad0 0) o.1 adk o.2.1 mo o.2.2 mc ms) (F0 mm 296 ls [jv ad 1 s1, .ref (ad 0)]) := by
  have hx := V.1
  have hb := V.2.1
  refine lv_iconst (v := 0) hx hb dL_act_296 (by decide) ?_
  exact w_L_act_297 V hA LX hG hH (jl_sub hl [0, 1, 2, 3] rfl) hf hc hs
set_option maxHeartbeats 4000000 in
set_option maxRecDepth 100000 in
theorem w_L_act_279 (V : jV p s mm args meth c cL_act RL 14 (some .boolean) D g) (hA : ∀ q, s.heap.size ≤ q → A q) (LX : jLX l A s) {ad : Nat → Nat} {v2 : Int32} {v3 : Int32} {v10 : Int32} {k : kS} {z : kS} {H : Heap} {locs : List Loc} {ls : Array Slot} {cells slots mc ms uc us : Nat} {o : (Int32 × kS × kS)} (hG : ad 0 = ad0 0) (hH : jH A s H locs D g ad z (jY adk g k mo) []) (hl : jl_has ls 14 [(0, .ref (adk 0)), (1, .ref (ad 0)), (2, .int v2), (3, .int v3), (10, jv ad 1 v10)]) (hf : F_L_act_279 v2 v3 v10 k z = some (o, uc, us)) (hc : cells + uc = mc) (hs : slots + us = ms) : W p l e (rm_L_act mc ms) s mm args below meth c H locs cells slots (jLGi below args s D g A (fun a => a 0 = ad0 0) o.1 adk o.2.1 mo o.2.2 mc ms) (F0 mm 279 ls []) := by
  have hx := V.1
  have hb := V.2.1
  refine lv_aload_n hx hb dL_act_279 rfl (lv_at hl.1 1 rfl) ?_
  refine jl_aload hx hb dL_act_280 (lv_at hl.1 4 rfl) ?_
  refine lv_iload_n hx hb dL_act_282 rfl (lv_at hl.1 2 rfl) ?_
  refine lv_iconst (v := 2) hx hb dL_act_283 (by decide) ?_
  refine lv_ishr hx hb dL_act_284 ?_
  refine lv_iconst (v := 2) hx hb dL_act_285 (by decide) ?_
  obtain ⟨x279_1, hx279_1, hf⟩ := kbind hf
  refine jr_calliR0 hA hH (jr_runS (as := [.int (v2 >>> (2 &&& 31)), .int 2]) (rest := [jv ad 1 v10, .ref (ad 0)]) V hH kYL_below kl_L_15 (c_L_below l _ _ hx279_1 _) rfl rfl ⟨Nat.le_of_ble_eq_true rfl, Nat.le_of_ble_eq_true rfl⟩ rfl hl.1.1 (Nat.le_of_ble_eq_true rfl) dL_act_286 ⟨by show cells + 0 ≤ mc; omega, by show slots + 0 ≤ ms; omega⟩ rfl) (fun H locs hH => ?_)
  refine lv_if_ne (tgt := 296) hx hb dL_act_289 (by decide) (fun hq => ?_) (fun hq => ?_)
  · have hf := kneg hq hf
    exact w_L_act_296 V hA LX hG hH (jl_sub hl [0, 2, 3, 4] rfl) hf hc hs
  · have hf := kpos hq hf
    exact w_L_act_292 V hA LX hG hH (jl_sub hl [0, 2, 3, 4] rfl) hf hc hs
set_option maxHeartbeats 4000000 in
set_option maxRecDepth 100000 in
theorem w_L_act_268 (V : jV p s mm args meth c cL_act RL 14 (some .boolean) D g) (hA : ∀ q, s.heap.size ≤ q → A q) (LX : jLX l A s) {c231 : Int32 → Int32 → Int32 → Int32 → kS → kS → Option ((Int32 × kS × kS) × Nat × Nat)} (hk231 : ∀ {ad : Nat → Nat} {v2 : Int32} {v3 : Int32} {v5 : Int32} {v9 : Int32} {k : kS} {z : kS} {H : Heap} {locs : List Loc} {ls : Array Slot} {cells slots mc ms uc us : Nat} {o : (Int32 × kS × kS)}, ad 0 = ad0 0 → jH A s H locs D g ad z (jY adk g k mo) [] → jl_has ls 14 [(0, .ref (adk 0)), (1, .ref (ad 0)), (2, .int v2), (3, .int v3), (5, jv ad 1 v5), (9, .int v9)] → c231 v2 v3 v5 v9 k z = some (o, uc, us) → cells + uc = mc → slots + us = ms → W p l e (rm_L_act mc ms) s mm args below meth c H locs cells slots (jLGi below args s D g A (fun a => a 0 = ad0 0) o.1 adk o.2.1 mo o.2.2 mc ms) (F0 mm 231 ls [])) {ad : Nat → Nat} {v2 : Int32} {v3 : Int32} {v5 : Int32} {v9 : Int32} {v10 : Int32} {k : kS} {z : kS} {H : Heap} {locs : List Loc} {ls : Array Slot} {cells slots mc ms uc us : Nat} {o : (Int32 × kS × kS)} (hG : ad 0 = ad0 0) (hH : jH A s H locs D g ad z (jY adk g k mo) []) (hl : jl_has ls 14 [(0, .ref (adk 0)), (1, .ref (ad 0)), (2, .int v2), (3, .int v3), (5, jv ad 1 v5), (9, .int v9), (10, jv ad 1 v10)]) (hf : F_L_act_268 c231 v2 v3 v5 v9 v10 k z = some (o, uc, us)) (hc : cells + uc = mc) (hs : slots + us = ms) : W p l e (rm_L_act mc ms) s mm args below meth c H locs cells slots (jLGi below args s D g A (fun a => a 0 = ad0 0) o.1 adk o.2.1 mo o.2.2 mc ms) (F0 mm 268 ls []) := by
  have hx := V.1
  have hb := V.2.1
  refine jl_aload hx hb dL_act_268 (lv_at hl.1 6 rfl) ?_
  obtain ⟨h268_1, hf⟩ := kif hf
  refine jg_P V hH h268_1 6 (by decide) kf_L_44 rfl dL_act_270 ?_
  refine jl_ifnonnull (tgt := 279) hx hb dL_act_273 (by decide) (fun hq => ?_) (fun hq => ?_)
  · have hf := kneg hq hf
    exact w_L_act_279 V hA LX hG hH (jl_sub hl [0, 1, 2, 3, 6] rfl) hf hc hs
  · have hf := kpos hq hf
    exact w_L_act_276 V hA LX hk231 hG hH (jl_sub hl [0, 1, 2, 3, 4, 5] rfl) hf hc hs
set_option maxHeartbeats 4000000 in
set_option maxRecDepth 100000 in
theorem w_L_act_243 (V : jV p s mm args meth c cL_act RL 14 (some .boolean) D g) (hA : ∀ q, s.heap.size ≤ q → A q) (LX : jLX l A s) {c231 : Int32 → Int32 → Int32 → Int32 → kS → kS → Option ((Int32 × kS × kS) × Nat × Nat)} (hk231 : ∀ {ad : Nat → Nat} {v2 : Int32} {v3 : Int32} {v5 : Int32} {v9 : Int32} {k : kS} {z : kS} {H : Heap} {locs : List Loc} {ls : Array Slot} {cells slots mc ms uc us : Nat} {o : (Int32 × kS × kS)}, ad 0 = ad0 0 → jH A s H locs D g ad z (jY adk g k mo) [] → jl_has ls 14 [(0, .ref (adk 0)), (1, .ref (ad 0)), (2, .int v2), (3, .int v3), (5, jv ad 1 v5), (9, .int v9)] → c231 v2 v3 v5 v9 k z = some (o, uc, us) → cells + uc = mc → slots + us = ms → W p l e (rm_L_act mc ms) s mm args below meth c H locs cells slots (jLGi below args s D g A (fun a => a 0 = ad0 0) o.1 adk o.2.1 mo o.2.2 mc ms) (F0 mm 231 ls [])) {ad : Nat → Nat} {v2 : Int32} {v3 : Int32} {v5 : Int32} {v9 : Int32} {k : kS} {z : kS} {H : Heap} {locs : List Loc} {ls : Array Slot} {cells slots mc ms uc us : Nat} {o : (Int32 × kS × kS)} (hG : ad 0 = ad0 0) (hH : jH A s H locs D g ad z (jY adk g k mo) []) (hl : jl_has ls 14 [(0, .ref (adk 0)), (1, .ref (ad 0)), (2, .int v2), (3, .int v3), (5, jv ad 1 v5), (9, .int v9)]) (hf : F_L_act_243 c231 v2 v3 v5 v9 k z = some (o, uc, us)) (hc : cells + uc = mc) (hs : slots + us = ms) : W p l e (rm_L_act mc ms) s mm args below meth c H locs cells slots (jLGi below args s D g A (fun a => a 0 = ad0 0) o.1 adk o.2.1 mo o.2.2 mc ms) (F0 mm 243 ls []) := by
  have hx := V.1
  have hb := V.2.1
  refine lv_aload_n hx hb dL_act_243 rfl (lv_at hl.1 1 rfl) ?_
  refine jg_S V hH 0 (by decide) kf_L_9 rfl dL_act_244 ?_
  refine jl_aload hx hb dL_act_247 (lv_at hl.1 4 rfl) ?_
  obtain ⟨h243_1, hf⟩ := kif hf
  refine jg_P V hH h243_1 0 (by decide) kf_L_34 rfl dL_act_249 ?_
  refine lv_iload hx hb dL_act_252 (lv_at hl.1 5 rfl) ?_
  refine lv_iadd hx hb dL_act_254 ?_
  refine lv_iload_n hx hb dL_act_255 rfl (lv_at hl.1 3 rfl) ?_
  obtain ⟨h243_2, hf⟩ := kif hf
  refine lv_irem hx hb dL_act_256 h243_2 ?_
  obtain ⟨h243_3, hf⟩ := kif hf
  refine jald_4 V hH h243_3 dL_act_257 ?_
  refine jl_astore (lv' := [(10, jv ad 1 (z 4 (((z (4 * v5.toNatClampNeg + 1) 0) + v9) - ((z (4 * v5.toNatClampNeg + 1) 0) + v9) / v3 * v3).toNatClampNeg)), (0, .ref (adk 0)), (1, .ref (ad 0)), (2, .int v2), (3, .int v3), (5, jv ad 1 v5), (9, .int v9)]) hx hb dL_act_258 hl (by decide) rfl (fun ls hl => ?_)
  refine jl_aload hx hb dL_act_260 (lv_at hl.1 0 rfl) ?_
  obtain ⟨h243_4, hf⟩ := kif hf
  refine jg_P V hH h243_4 1 (by decide) kf_L_40 rfl dL_act_262 ?_
  refine lv_if_ne (tgt := 334) hx hb dL_act_265 (by decide) (fun hq => ?_) (fun hq => ?_)
  · have hf := kneg hq hf
    exact w_L_act_334 V hA LX hk231 hG hH (jl_sub hl [1, 2, 3, 4, 5, 6] rfl) hf hc hs
  · have hf := kpos hq hf
    exact w_L_act_268 V hA LX hk231 hG hH (jl_sub hl [1, 2, 3, 4, 5, 6, 0] rfl) hf hc hs
set_option maxHeartbeats 4000000 in
set_option maxRecDepth 100000 in
theorem w_L_act_340 (V : jV p s mm args meth c cL_act RL 14 (some .boolean) D g) (hA : ∀ q, s.heap.size ≤ q → A q) (LX : jLX l A s) {ad : Nat → Nat} {k : kS} {z : kS} {H : Heap} {locs : List Loc} {ls : Array Slot} {cells slots mc ms uc us : Nat} {o : (Int32 × kS × kS)} (hG : ad 0 = ad0 0) (hH : jH A s H locs D g ad z (jY adk g k mo) []) (hl : jl_has ls 14 []) (hf : F_L_act_340 k z = some (o, uc, us)) (hc : cells + uc = mc) (hs : slots + us = ms) : W p l e (rm_L_act mc ms) s mm args below meth c H locs cells slots (jLGi below args s D g A (fun a => a 0 = ad0 0) o.1 adk o.2.1 mo o.2.2 mc ms) (F0 mm 340 ls []) := by
  have hx := V.1
  have hb := V.2.1
  refine lv_iconst (v := 1) hx hb dL_act_340 (by decide) ?_
  obtain ⟨h340_1, hf⟩ := kif hf
  cases hf
  subst hc
  subst hs
  exact jl_zret (G := fun a => a 0 = ad0 0) V hG hH (Decidable.not_not.mp h340_1) dL_act_341
set_option maxHeartbeats 4000000 in
set_option maxRecDepth 100000 in
theorem w_L_act_237 (V : jV p s mm args meth c cL_act RL 14 (some .boolean) D g) (hA : ∀ q, s.heap.size ≤ q → A q) (LX : jLX l A s) {c231 : Int32 → Int32 → Int32 → Int32 → kS → kS → Option ((Int32 × kS × kS) × Nat × Nat)} (hk231 : ∀ {ad : Nat → Nat} {v2 : Int32} {v3 : Int32} {v5 : Int32} {v9 : Int32} {k : kS} {z : kS} {H : Heap} {locs : List Loc} {ls : Array Slot} {cells slots mc ms uc us : Nat} {o : (Int32 × kS × kS)}, ad 0 = ad0 0 → jH A s H locs D g ad z (jY adk g k mo) [] → jl_has ls 14 [(0, .ref (adk 0)), (1, .ref (ad 0)), (2, .int v2), (3, .int v3), (5, jv ad 1 v5), (9, .int v9)] → c231 v2 v3 v5 v9 k z = some (o, uc, us) → cells + uc = mc → slots + us = ms → W p l e (rm_L_act mc ms) s mm args below meth c H locs cells slots (jLGi below args s D g A (fun a => a 0 = ad0 0) o.1 adk o.2.1 mo o.2.2 mc ms) (F0 mm 231 ls [])) {ad : Nat → Nat} {v2 : Int32} {v3 : Int32} {v5 : Int32} {v9 : Int32} {k : kS} {z : kS} {H : Heap} {locs : List Loc} {ls : Array Slot} {cells slots mc ms uc us : Nat} {o : (Int32 × kS × kS)} (hG : ad 0 = ad0 0) (hH : jH A s H locs D g ad z (jY adk g k mo) []) (hl : jl_has ls 14 [(0, .ref (adk 0)), (1, .ref (ad 0)), (2, .int v2), (3, .int v3), (5, jv ad 1 v5), (9, .int v9)]) (hf : F_L_act_237 c231 v2 v3 v5 v9 k z = some (o, uc, us)) (hc : cells + uc = mc) (hs : slots + us = ms) : W p l e (rm_L_act mc ms) s mm args below meth c H locs cells slots (jLGi below args s D g A (fun a => a 0 = ad0 0) o.1 adk o.2.1 mo o.2.2 mc ms) (F0 mm 237 ls []) := by
  have hx := V.1
  have hb := V.2.1
  refine lv_iload_n hx hb dL_act_237 rfl (lv_at hl.1 3 rfl) ?_
  refine lv_bipush (v := 40) hx hb dL_act_238 (by decide) ?_
  refine lv_icmp_ge (tgt := 340) hx hb dL_act_240 (by decide) (fun hq => ?_) (fun hq => ?_)
  · have hf := kpos hq hf
    exact w_L_act_340 V hA LX hG hH (jl_sub hl [] rfl) hf hc hs
  · have hf := kneg hq hf
    exact w_L_act_243 V hA LX hk231 hG hH (jl_sub hl [0, 1, 2, 3, 4, 5] rfl) hf hc hs
set_option maxHeartbeats 4000000 in
set_option maxRecDepth 100000 in
theorem w_L_act_231 (V : jV p s mm args meth c cL_act RL 14 (some .boolean) D g) (hA : ∀ q, s.heap.size ≤ q → A q) (LX : jLX l A s) : ∀ (n : Nat) {ad : Nat → Nat} {v2 : Int32} {v3 : Int32} {v5 : Int32} {v9 : Int32} {k : kS} {z : kS} {H : Heap} {locs : List Loc} {ls : Array Slot} {cells slots mc ms uc us : Nat} {o : (Int32 × kS × kS)}, ad 0 = ad0 0 → jH A s H locs D g ad z (jY adk g k mo) [] → jl_has ls 14 [(0, .ref (adk 0)), (1, .ref (ad 0)), (2, .int v2), (3, .int v3), (5, jv ad 1 v5), (9, .int v9)] → F_L_act_231 n v2 v3 v5 v9 k z = some (o, uc, us) → cells + uc = mc → slots + us = ms → W p l e (rm_L_act mc ms) s mm args below meth c H locs cells slots (jLGi below args s D g A (fun a => a 0 = ad0 0) o.1 adk o.2.1 mo o.2.2 mc ms) (F0 mm 231 ls []) := by
  have hx := V.1
  have hb := V.2.1
  intro n
  induction n with
  | zero => intro _ _ _ _ _ _ _ _ _ _ _ _ _ _ _ _ _ hG hH hl hf hc hs; cases hf
  | succ n hk231 =>
    intro ad v2 v3 v5 v9 k z H locs ls cells slots mc ms uc us o hG hH hl hf hc hs
    refine lv_iload hx hb dL_act_231 (lv_at hl.1 5 rfl) ?_
    refine lv_iload_n hx hb dL_act_233 rfl (lv_at hl.1 3 rfl) ?_
    refine lv_icmp_ge (tgt := 340) hx hb dL_act_234 (by decide) (fun hq => ?_) (fun hq => ?_)
    · have hf := kpos hq hf
      exact w_L_act_340 V hA LX hG hH (jl_sub hl [] rfl) hf hc hs
    · have hf := kneg hq hf
      exact w_L_act_237 V hA LX hk231 hG hH (jl_sub hl [0, 1, 2, 3, 4, 5] rfl) hf hc hs
set_option maxHeartbeats 4000000 in
set_option maxRecDepth 100000 in
theorem w_L_act_228 (V : jV p s mm args meth c cL_act RL 14 (some .boolean) D g) (hA : ∀ q, s.heap.size ≤ q → A q) (LX : jLX l A s) {ad : Nat → Nat} {v2 : Int32} {v3 : Int32} {v5 : Int32} {k : kS} {z : kS} {H : Heap} {locs : List Loc} {ls : Array Slot} {cells slots mc ms uc us : Nat} {o : (Int32 × kS × kS)} (hG : ad 0 = ad0 0) (hH : jH A s H locs D g ad z (jY adk g k mo) []) (hl : jl_has ls 14 [(0, .ref (adk 0)), (1, .ref (ad 0)), (2, .int v2), (3, .int v3), (5, jv ad 1 v5)]) (hf : F_L_act_228 v2 v3 v5 k z = some (o, uc, us)) (hc : cells + uc = mc) (hs : slots + us = ms) : W p l e (rm_L_act mc ms) s mm args below meth c H locs cells slots (jLGi below args s D g A (fun a => a 0 = ad0 0) o.1 adk o.2.1 mo o.2.2 mc ms) (F0 mm 228 ls []) := by
  have hx := V.1
  have hb := V.2.1
  refine lv_iconst (v := 0) hx hb dL_act_228 (by decide) ?_
  refine jl_istore (lv' := [(9, .int 0), (0, .ref (adk 0)), (1, .ref (ad 0)), (2, .int v2), (3, .int v3), (5, jv ad 1 v5)]) hx hb dL_act_229 hl (by decide) rfl (fun ls hl => ?_)
  exact w_L_act_231 V hA LX kN hG hH (jl_sub hl [1, 2, 3, 4, 5, 0] rfl) hf hc hs
set_option maxHeartbeats 4000000 in
set_option maxRecDepth 100000 in
theorem w_L_act_501 (V : jV p s mm args meth c cL_act RL 14 (some .boolean) D g) (hA : ∀ q, s.heap.size ≤ q → A q) (LX : jLX l A s) {c345 : Int32 → Int32 → Int32 → Int32 → Int32 → kS → kS → Option ((Int32 × kS × kS) × Nat × Nat)} (hk345 : ∀ {ad : Nat → Nat} {v3 : Int32} {v5 : Int32} {v6 : Int32} {v7 : Int32} {v9 : Int32} {k : kS} {z : kS} {H : Heap} {locs : List Loc} {ls : Array Slot} {cells slots mc ms uc us : Nat} {o : (Int32 × kS × kS)}, ad 0 = ad0 0 → jH A s H locs D g ad z (jY adk g k mo) [] → jl_has ls 14 [(0, .ref (adk 0)), (1, .ref (ad 0)), (3, .int v3), (5, jv ad 1 v5), (6, jv ad 1 v6), (7, jv ad 2 v7), (9, .int v9)] → c345 v3 v5 v6 v7 v9 k z = some (o, uc, us) → cells + uc = mc → slots + us = ms → W p l e (rm_L_act mc ms) s mm args below meth c H locs cells slots (jLGi below args s D g A (fun a => a 0 = ad0 0) o.1 adk o.2.1 mo o.2.2 mc ms) (F0 mm 345 ls [])) {ad : Nat → Nat} {v3 : Int32} {v5 : Int32} {v6 : Int32} {v7 : Int32} {v9 : Int32} {k : kS} {z : kS} {H : Heap} {locs : List Loc} {ls : Array Slot} {cells slots mc ms uc us : Nat} {o : (Int32 × kS × kS)} (hG : ad 0 = ad0 0) (hH : jH A s H locs D g ad z (jY adk g k mo) []) (hl : jl_has ls 14 [(0, .ref (adk 0)), (1, .ref (ad 0)), (3, .int v3), (5, jv ad 1 v5), (6, jv ad 1 v6), (7, jv ad 2 v7), (9, .int v9)]) (hf : F_L_act_501 c345 v3 v5 v6 v7 v9 k z = some (o, uc, us)) (hc : cells + uc = mc) (hs : slots + us = ms) : W p l e (rm_L_act mc ms) s mm args below meth c H locs cells slots (jLGi below args s D g A (fun a => a 0 = ad0 0) o.1 adk o.2.1 mo o.2.2 mc ms) (F0 mm 501 ls []) := by
  have hx := V.1
  have hb := V.2.1
  refine jl_iinc (v := (v9 + 1)) (lv' := [(9, .int (v9 + 1)), (0, .ref (adk 0)), (1, .ref (ad 0)), (3, .int v3), (5, jv ad 1 v5), (6, jv ad 1 v6), (7, jv ad 2 v7)]) hx hb dL_act_501 hl (k := 6) rfl rfl (by decide) rfl (fun ls hl => ?_)
  refine lv_goto (tgt := 345) hx hb dL_act_504 (by decide) ?_
  exact hk345 hG hH (jl_sub hl [1, 2, 3, 4, 5, 6, 0] rfl) hf hc hs
set_option maxHeartbeats 4000000 in
set_option maxRecDepth 100000 in
theorem w_L_act_379 (V : jV p s mm args meth c cL_act RL 14 (some .boolean) D g) (hA : ∀ q, s.heap.size ≤ q → A q) (LX : jLX l A s) {c345 : Int32 → Int32 → Int32 → Int32 → Int32 → kS → kS → Option ((Int32 × kS × kS) × Nat × Nat)} (hk345 : ∀ {ad : Nat → Nat} {v3 : Int32} {v5 : Int32} {v6 : Int32} {v7 : Int32} {v9 : Int32} {k : kS} {z : kS} {H : Heap} {locs : List Loc} {ls : Array Slot} {cells slots mc ms uc us : Nat} {o : (Int32 × kS × kS)}, ad 0 = ad0 0 → jH A s H locs D g ad z (jY adk g k mo) [] → jl_has ls 14 [(0, .ref (adk 0)), (1, .ref (ad 0)), (3, .int v3), (5, jv ad 1 v5), (6, jv ad 1 v6), (7, jv ad 2 v7), (9, .int v9)] → c345 v3 v5 v6 v7 v9 k z = some (o, uc, us) → cells + uc = mc → slots + us = ms → W p l e (rm_L_act mc ms) s mm args below meth c H locs cells slots (jLGi below args s D g A (fun a => a 0 = ad0 0) o.1 adk o.2.1 mo o.2.2 mc ms) (F0 mm 345 ls [])) {ad : Nat → Nat} {v3 : Int32} {v5 : Int32} {v6 : Int32} {v7 : Int32} {v9 : Int32} {k : kS} {z : kS} {H : Heap} {locs : List Loc} {ls : Array Slot} {cells slots mc ms uc us : Nat} {o : (Int32 × kS × kS)} (hG : ad 0 = ad0 0) (hH : jH A s H locs D g ad z (jY adk g k mo) []) (hl : jl_has ls 14 [(0, .ref (adk 0)), (1, .ref (ad 0)), (3, .int v3), (5, jv ad 1 v5), (6, jv ad 1 v6), (7, jv ad 2 v7), (9, .int v9)]) (hf : F_L_act_379 c345 v3 v5 v6 v7 v9 k z = some (o, uc, us)) (hc : cells + uc = mc) (hs : slots + us = ms) : W p l e (rm_L_act mc ms) s mm args below meth c H locs cells slots (jLGi below args s D g A (fun a => a 0 = ad0 0) o.1 adk o.2.1 mo o.2.2 mc ms) (F0 mm 379 ls []) := by
  have hx := V.1
  have hb := V.2.1
  refine lv_goto (tgt := 501) hx hb dL_act_379 (by decide) ?_
  exact w_L_act_501 V hA LX hk345 hG hH (jl_sub hl [0, 1, 2, 3, 4, 5, 6] rfl) hf hc hs
set_option maxHeartbeats 4000000 in
set_option maxRecDepth 100000 in
theorem w_L_act_447 (V : jV p s mm args meth c cL_act RL 14 (some .boolean) D g) (hA : ∀ q, s.heap.size ≤ q → A q) (LX : jLX l A s) {c421 : Int32 → Int32 → Int32 → Int32 → Int32 → kS → kS → Option ((Int32 × kS × kS) × Nat × Nat)} (hk421 : ∀ {ad : Nat → Nat} {v5 : Int32} {v10 : Int32} {v11 : Int32} {v12 : Int32} {v13 : Int32} {k : kS} {z : kS} {H : Heap} {locs : List Loc} {ls : Array Slot} {cells slots mc ms uc us : Nat} {o : (Int32 × kS × kS)}, ad 0 = ad0 0 → jH A s H locs D g ad z (jY adk g k mo) [] → jl_has ls 14 [(0, .ref (adk 0)), (1, .ref (ad 0)), (5, jv ad 1 v5), (10, jv ad 1 v10), (11, jv ad 2 v11), (12, .int v12), (13, .int v13)] → c421 v5 v10 v11 v12 v13 k z = some (o, uc, us) → cells + uc = mc → slots + us = ms → W p l e (rm_L_act mc ms) s mm args below meth c H locs cells slots (jLGi below args s D g A (fun a => a 0 = ad0 0) o.1 adk o.2.1 mo o.2.2 mc ms) (F0 mm 421 ls [])) {ad : Nat → Nat} {v5 : Int32} {v10 : Int32} {v11 : Int32} {v12 : Int32} {v13 : Int32} {k : kS} {z : kS} {H : Heap} {locs : List Loc} {ls : Array Slot} {cells slots mc ms uc us : Nat} {o : (Int32 × kS × kS)} (hG : ad 0 = ad0 0) (hH : jH A s H locs D g ad z (jY adk g k mo) []) (hl : jl_has ls 14 [(0, .ref (adk 0)), (1, .ref (ad 0)), (5, jv ad 1 v5), (10, jv ad 1 v10), (11, jv ad 2 v11), (12, .int v12), (13, .int v13)]) (hf : F_L_act_447 c421 v5 v10 v11 v12 v13 k z = some (o, uc, us)) (hc : cells + uc = mc) (hs : slots + us = ms) : W p l e (rm_L_act mc ms) s mm args below meth c H locs cells slots (jLGi below args s D g A (fun a => a 0 = ad0 0) o.1 adk o.2.1 mo o.2.2 mc ms) (F0 mm 447 ls []) := by
  have hx := V.1
  have hb := V.2.1
  refine jl_iinc (v := (v13 + 1)) (lv' := [(13, .int (v13 + 1)), (0, .ref (adk 0)), (1, .ref (ad 0)), (5, jv ad 1 v5), (10, jv ad 1 v10), (11, jv ad 2 v11), (12, .int v12)]) hx hb dL_act_447 hl (k := 6) rfl rfl (by decide) rfl (fun ls hl => ?_)
  refine lv_goto (tgt := 421) hx hb dL_act_450 (by decide) ?_
  exact hk421 hG hH (jl_sub hl [1, 2, 3, 4, 5, 6, 0] rfl) hf hc hs
set_option maxHeartbeats 4000000 in
set_option maxRecDepth 100000 in
theorem w_L_act_443 (V : jV p s mm args meth c cL_act RL 14 (some .boolean) D g) (hA : ∀ q, s.heap.size ≤ q → A q) (LX : jLX l A s) {c421 : Int32 → Int32 → Int32 → Int32 → Int32 → kS → kS → Option ((Int32 × kS × kS) × Nat × Nat)} (hk421 : ∀ {ad : Nat → Nat} {v5 : Int32} {v10 : Int32} {v11 : Int32} {v12 : Int32} {v13 : Int32} {k : kS} {z : kS} {H : Heap} {locs : List Loc} {ls : Array Slot} {cells slots mc ms uc us : Nat} {o : (Int32 × kS × kS)}, ad 0 = ad0 0 → jH A s H locs D g ad z (jY adk g k mo) [] → jl_has ls 14 [(0, .ref (adk 0)), (1, .ref (ad 0)), (5, jv ad 1 v5), (10, jv ad 1 v10), (11, jv ad 2 v11), (12, .int v12), (13, .int v13)] → c421 v5 v10 v11 v12 v13 k z = some (o, uc, us) → cells + uc = mc → slots + us = ms → W p l e (rm_L_act mc ms) s mm args below meth c H locs cells slots (jLGi below args s D g A (fun a => a 0 = ad0 0) o.1 adk o.2.1 mo o.2.2 mc ms) (F0 mm 421 ls [])) {ad : Nat → Nat} {v5 : Int32} {v10 : Int32} {v11 : Int32} {v13 : Int32} {k : kS} {z : kS} {H : Heap} {locs : List Loc} {ls : Array Slot} {cells slots mc ms uc us : Nat} {o : (Int32 × kS × kS)} (hG : ad 0 = ad0 0) (hH : jH A s H locs D g ad z (jY adk g k mo) []) (hl : jl_has ls 14 [(0, .ref (adk 0)), (1, .ref (ad 0)), (5, jv ad 1 v5), (10, jv ad 1 v10), (11, jv ad 2 v11), (13, .int v13)]) (hf : F_L_act_443 c421 v5 v10 v11 v13 k z = some (o, uc, us)) (hc : cells + uc = mc) (hs : slots + us = ms) : W p l e (rm_L_act mc ms) s mm args below meth c H locs cells slots (jLGi below args s D g A (fun a => a 0 = ad0 0) o.1 adk o.2.1 mo o.2.2 mc ms) (F0 mm 443 ls []) := by
  have hx := V.1
  have hb := V.2.1
  refine lv_iload hx hb dL_act_443 (lv_at hl.1 5 rfl) ?_
  refine jl_istore (lv' := [(12, .int v13), (0, .ref (adk 0)), (1, .ref (ad 0)), (5, jv ad 1 v5), (10, jv ad 1 v10), (11, jv ad 2 v11), (13, .int v13)]) hx hb dL_act_445 hl (by decide) rfl (fun ls hl => ?_)
  exact w_L_act_447 V hA LX hk421 hG hH (jl_sub hl [1, 2, 3, 4, 5, 0, 6] rfl) hf hc hs
set_option maxHeartbeats 4000000 in
set_option maxRecDepth 100000 in
theorem w_L_act_431 (V : jV p s mm args meth c cL_act RL 14 (some .boolean) D g) (hA : ∀ q, s.heap.size ≤ q → A q) (LX : jLX l A s) {c421 : Int32 → Int32 → Int32 → Int32 → Int32 → kS → kS → Option ((Int32 × kS × kS) × Nat × Nat)} (hk421 : ∀ {ad : Nat → Nat} {v5 : Int32} {v10 : Int32} {v11 : Int32} {v12 : Int32} {v13 : Int32} {k : kS} {z : kS} {H : Heap} {locs : List Loc} {ls : Array Slot} {cells slots mc ms uc us : Nat} {o : (Int32 × kS × kS)}, ad 0 = ad0 0 → jH A s H locs D g ad z (jY adk g k mo) [] → jl_has ls 14 [(0, .ref (adk 0)), (1, .ref (ad 0)), (5, jv ad 1 v5), (10, jv ad 1 v10), (11, jv ad 2 v11), (12, .int v12), (13, .int v13)] → c421 v5 v10 v11 v12 v13 k z = some (o, uc, us) → cells + uc = mc → slots + us = ms → W p l e (rm_L_act mc ms) s mm args below meth c H locs cells slots (jLGi below args s D g A (fun a => a 0 = ad0 0) o.1 adk o.2.1 mo o.2.2 mc ms) (F0 mm 421 ls [])) {ad : Nat → Nat} {v5 : Int32} {v10 : Int32} {v11 : Int32} {v12 : Int32} {v13 : Int32} {k : kS} {z : kS} {H : Heap} {locs : List Loc} {ls : Array Slot} {cells slots mc ms uc us : Nat} {o : (Int32 × kS × kS)} (hG : ad 0 = ad0 0) (hH : jH A s H locs D g ad z (jY adk g k mo) []) (hl : jl_has ls 14 [(0, .ref (adk 0)), (1, .ref (ad 0)), (5, jv ad 1 v5), (10, jv ad 1 v10), (11, jv ad 2 v11), (12, .int v12), (13, .int v13)]) (hf : F_L_act_431 c421 v5 v10 v11 v12 v13 k z = some (o, uc, us)) (hc : cells + uc = mc) (hs : slots + us = ms) : W p l e (rm_L_act mc ms) s mm args below meth c H locs cells slots (jLGi below args s D g A (fun a => a 0 = ad0 0) o.1 adk o.2.1 mo o.2.2 mc ms) (F0 mm 431 ls []) := by
  have hx := V.1
  have hb := V.2.1
  refine lv_aload_n hx hb dL_act_431 rfl (lv_at hl.1 1 rfl) ?_
  refine jg_S V hH 1 (by decide) kf_L_21 rfl dL_act_432 ?_
  refine lv_iload hx hb dL_act_435 (lv_at hl.1 6 rfl) ?_
  obtain ⟨h431_1, hf⟩ := kif hf
  refine jald_8 V hH h431_1 dL_act_437 ?_
  refine jl_aload hx hb dL_act_438 (lv_at hl.1 4 rfl) ?_
  obtain ⟨h431_2, hf⟩ := kif hf
  obtain ⟨h431_3, hf⟩ := kif hf
  refine jl_acmp_ne2 V hH (tgt := 447) h431_2 h431_3 dL_act_440 (by decide) (fun hq => ?_) (fun hq => ?_)
  · have hf := kneg hq hf
    exact w_L_act_447 V hA LX hk421 hG hH (jl_sub hl [0, 1, 2, 3, 4, 5, 6] rfl) hf hc hs
  · have hf := kpos hq hf
    exact w_L_act_443 V hA LX hk421 hG hH (jl_sub hl [0, 1, 2, 3, 4, 6] rfl) hf hc hs
set_option maxHeartbeats 4000000 in
set_option maxRecDepth 100000 in
theorem w_L_act_500 (V : jV p s mm args meth c cL_act RL 14 (some .boolean) D g) (hA : ∀ q, s.heap.size ≤ q → A q) (LX : jLX l A s) {ad : Nat → Nat} {s0 : Int32} {k : kS} {z : kS} {H : Heap} {locs : List Loc} {ls : Array Slot} {cells slots mc ms uc us : Nat} {o : (Int32 × kS × kS)} (hG : ad 0 = ad0 0) (hH : jH A s H locs D g ad z (jY adk g k mo) []) (hl : jl_has ls 14 []) (hf : F_L_act_500 s0 k z = some (o, uc, us)) (hc : cells + uc = mc) (hs : slots + us = ms) : W p l e (rm_L_act mc ms) s mm args below meth c H locs cells slots (jLGi below args s D g A (fun a => a 0 = ad0 0) o.1 adk o.2.1 mo o.2.2 mc ms) (F0 mm 500 ls [.int s0]) := by
  have hx := V.1
  have hb := V.2.1
  obtain ⟨h500_1, hf⟩ := kif hf
  cases hf
  subst hc
  subst hs
  exact jl_zret (G := fun a => a 0 = ad0 0) V hG hH (Decidable.not_not.mp h500_1) dL_act_500
set_option maxHeartbeats 4000000 in
set_option maxRecDepth 100000 in
theorem w_L_act_495 (V : jV p s mm args meth c cL_act RL 14 (some .boolean) D g) (hA : ∀ q, s.heap.size ≤ q → A q) (LX : jLX l A s) {ad : Nat → Nat} {k : kS} {z : kS} {H : Heap} {locs : List Loc} {ls : Array Slot} {cells slots mc ms uc us : Nat} {o : (Int32 × kS × kS)} (hG : ad 0 = ad0 0) (hH : jH A s H locs D g ad z (jY adk g k mo) []) (hl : jl_has ls 14 []) (hf : F_L_act_495 k z = some (o, uc, us)) (hc : cells + uc = mc) (hs : slots + us = ms) : W p l e (rm_L_act mc ms) s mm args below meth c H locs cells slots (jLGi below args s D g A (fun a => a 0 = ad0 0) o.1 adk o.2.1 mo o.2.2 mc ms) (F0 mm 495 ls []) := by
  have hx := V.1
  have hb := V.2.1
  refine lv_iconst (v := 1) hx hb dL_act_495 (by decide) ?_
  refine lv_goto (tgt := 500) hx hb dL_act_496 (by decide) ?_
  exact w_L_act_500 V hA LX hG hH (jl_sub hl [] rfl) hf hc hs
set_option maxHeartbeats 4000000 in
set_option maxRecDepth 100000 in
theorem w_L_act_499 (V : jV p s mm args meth c cL_act RL 14 (some .boolean) D g) (hA : ∀ q, s.heap.size ≤ q → A q) (LX : jLX l A s) {ad : Nat → Nat} {k : kS} {z : kS} {H : Heap} {locs : List Loc} {ls : Array Slot} {cells slots mc ms uc us : Nat} {o : (Int32 × kS × kS)} (hG : ad 0 = ad0 0) (hH : jH A s H locs D g ad z (jY adk g k mo) []) (hl : jl_has ls 14 []) (hf : F_L_act_499 k z = some (o, uc, us)) (hc : cells + uc = mc) (hs : slots + us = ms) : W p l e (rm_L_act mc ms) s mm args below meth c H locs cells slots (jLGi below args s D g A (fun a => a 0 = ad0 0) o.1 adk o.2.1 mo o.2.2 mc ms) (F0 mm 499 ls []) := by
  have hx := V.1
  have hb := V.2.1
  refine lv_iconst (v := 0) hx hb dL_act_499 (by decide) ?_
  exact w_L_act_500 V hA LX hG hH (jl_sub hl [] rfl) hf hc hs
set_option maxHeartbeats 4000000 in
set_option maxRecDepth 100000 in
theorem w_L_act_453 (V : jV p s mm args meth c cL_act RL 14 (some .boolean) D g) (hA : ∀ q, s.heap.size ≤ q → A q) (LX : jLX l A s) {ad : Nat → Nat} {v5 : Int32} {v10 : Int32} {v11 : Int32} {v12 : Int32} {k : kS} {z : kS} {H : Heap} {locs : List Loc} {ls : Array Slot} {cells slots mc ms uc us : Nat} {o : (Int32 × kS × kS)} (hG : ad 0 = ad0 0) (hH : jH A s H locs D g ad z (jY adk g k mo) []) (hl : jl_has ls 14 [(0, .ref (adk 0)), (1, .ref (ad 0)), (5, jv ad 1 v5), (10, jv ad 1 v10), (11, jv ad 2 v11), (12, .int v12)]) (hf : F_L_act_453 v5 v10 v11 v12 k z = some (o, uc, us)) (hc : cells + uc = mc) (hs : slots + us = ms) : W p l e (rm_L_act mc ms) s mm args below meth c H locs cells slots (jLGi below args s D g A (fun a => a 0 = ad0 0) o.1 adk o.2.1 mo o.2.2 mc ms) (F0 mm 453 ls []) := by
  have hx := V.1
  have hb := V.2.1
  refine lv_aload_n hx hb dL_act_453 rfl (lv_at hl.1 1 rfl) ?_
  refine jl_aload hx hb dL_act_454 (lv_at hl.1 2 rfl) ?_
  refine jl_aload hx hb dL_act_456 (lv_at hl.1 3 rfl) ?_
  refine jl_aload hx hb dL_act_458 (lv_at hl.1 4 rfl) ?_
  obtain ⟨x453_1, hx453_1, hf⟩ := kbind hf
  obtain ⟨uc453_2, us453_3, hf, e1, e2⟩ := kadd_some2 hf
  have e1 : uc = x453_1.2.1 + uc453_2 := e1
  have e2 : us = x453_1.2.2 + us453_3 := e2
  have hc : cells + x453_1.2.1 + uc453_2 = mc := by rw [Nat.add_assoc, ← e1]; exact hc
  have hs : slots + x453_1.2.2 + us453_3 = ms := by rw [Nat.add_assoc, ← e2]; exact hs
  have lc : cells + x453_1.2.1 ≤ mc := Nat.le.intro hc
  have ls2 : slots + x453_1.2.2 ≤ ms := Nat.le.intro hs
  refine jr_callv hA hH (jr_runV (as := [jv ad 1 v5, jv ad 1 v10, jv ad 2 v11]) (rest := []) V hH kYX8_marry kl_L_64 (c_X8_marry l _ _ _ hx453_1 _) rfl rfl ⟨Nat.le_of_ble_eq_true rfl, Nat.le_of_ble_eq_true rfl⟩ rfl hl.1.1 (Nat.le_of_ble_eq_true rfl) dL_act_460 ⟨lc, ls2⟩ rfl) (fun ad453_1 H locs hm hH => ?_)
  have hG := (hm 0 (by decide)).trans hG
  have hl : jl_has ls 14 [(0, .ref (adk 0)), (1, .ref (ad453_1 0)), (5, jv ad453_1 1 v5), (10, jv ad453_1 1 v10), (11, jv ad453_1 2 v11), (12, .int v12)] := by simp only [jv, hm.r1, hm.r2, hm 0 (by decide), hm 4 (by decide), hm 8 (by decide)]; exact hl
  refine lv_aload_n hx hb dL_act_463 rfl (lv_at hl.1 0 rfl) ?_
  refine jl_aload hx hb dL_act_464 (lv_at hl.1 2 rfl) ?_
  obtain ⟨h453_4, hf⟩ := kif hf
  refine jg_P V hH h453_4 0 (by decide) kf_L_34 rfl dL_act_466 ?_
  refine jl_aload hx hb dL_act_469 (lv_at hl.1 3 rfl) ?_
  obtain ⟨h453_5, hf⟩ := kif hf
  refine jg_P V hH h453_5 0 (by decide) kf_L_34 rfl dL_act_471 ?_
  refine lv_iload hx hb dL_act_474 (lv_at hl.1 5 rfl) ?_
  obtain ⟨x453_6, hx453_6, hf⟩ := kbind hf
  obtain ⟨h453_7, hf⟩ := kif hf
  obtain ⟨uc453_8, us453_9, hf, e1, e2⟩ := kadd_some2 hf
  have e1 : uc453_2 = 4 + uc453_8 := e1
  have e2 : us453_3 = 24 + us453_9 := e2
  have hc : cells + x453_1.2.1 + 4 + uc453_8 = mc := by rw [Nat.add_assoc, ← e1]; exact hc
  have hs : slots + x453_1.2.2 + 24 + us453_9 = ms := by rw [Nat.add_assoc, ← e2]; exact hs
  have lc : cells + x453_1.2.1 + 4 ≤ mc := Nat.le.intro hc
  have ls2 : slots + x453_1.2.2 + 24 ≤ ms := Nat.le.intro hs
  refine jc_callx V hA LX hH kYX5_marry kl_L_68 (c_X5_marry l LX.1 _ _ _ hx453_6 _) (Decidable.not_not.mp h453_7) rfl rfl ⟨Nat.le_of_ble_eq_true rfl, Nat.le_of_ble_eq_true rfl⟩ rfl hl.1.1 (as := [.int (x453_1.1 (4 * v5.toNatClampNeg + 1) 0), .int (x453_1.1 (4 * v10.toNatClampNeg + 1) 0), .int v12]) (rest := []) (Nat.le_of_ble_eq_true rfl) dL_act_476 ⟨lc, ls2⟩ rfl (fun H locs hH => ?_)
  refine lv_aload_n hx hb dL_act_479 rfl (lv_at hl.1 1 rfl) ?_
  refine jl_aload hx hb dL_act_480 (lv_at hl.1 2 rfl) ?_
  obtain ⟨x453_10, hx453_10, hf⟩ := kbind hf
  refine jr_calliR0 hA hH (jr_runV (as := [jv ad453_1 1 v5]) (rest := [.int x453_6.1.2]) V hH kYX8_worth kl_L_71 (c_X8_worth l _ hx453_10 _) rfl rfl ⟨Nat.le_of_ble_eq_true rfl, Nat.le_of_ble_eq_true rfl⟩ rfl hl.1.1 (Nat.le_of_ble_eq_true rfl) dL_act_482 ⟨by show cells + x453_1.2.1 + 4 + 0 ≤ mc; omega, by show slots + x453_1.2.2 + 24 + 0 ≤ ms; omega⟩ rfl) (fun H locs hH => ?_)
  refine lv_aload_n hx hb dL_act_485 rfl (lv_at hl.1 1 rfl) ?_
  refine jl_aload hx hb dL_act_486 (lv_at hl.1 3 rfl) ?_
  obtain ⟨x453_11, hx453_11, hf⟩ := kbind hf
  refine jr_calliR0 hA hH (jr_runV (as := [jv ad453_1 1 v10]) (rest := [.int x453_10, .int x453_6.1.2]) V hH kYX8_worth kl_L_71 (c_X8_worth l _ hx453_11 _) rfl rfl ⟨Nat.le_of_ble_eq_true rfl, Nat.le_of_ble_eq_true rfl⟩ rfl hl.1.1 (Nat.le_of_ble_eq_true rfl) dL_act_488 ⟨by show cells + x453_1.2.1 + 4 + 0 ≤ mc; omega, by show slots + x453_1.2.2 + 24 + 0 ≤ ms; omega⟩ rfl) (fun H locs hH => ?_)
  refine lv_iadd hx hb dL_act_491 ?_
  refine lv_icmp_ne (tgt := 499) hx hb dL_act_492 (by decide) (fun hq => ?_) (fun hq => ?_)
  · have hf := kneg hq hf
    exact w_L_act_499 V hA LX hG hH (jl_sub hl [] rfl) hf hc hs
  · have hf := kpos hq hf
    exact w_L_act_495 V hA LX hG hH (jl_sub hl [] rfl) hf hc hs
set_option maxHeartbeats 4000000 in
set_option maxRecDepth 100000 in
theorem w_L_act_421 (V : jV p s mm args meth c cL_act RL 14 (some .boolean) D g) (hA : ∀ q, s.heap.size ≤ q → A q) (LX : jLX l A s) : ∀ (n : Nat) {ad : Nat → Nat} {v5 : Int32} {v10 : Int32} {v11 : Int32} {v12 : Int32} {v13 : Int32} {k : kS} {z : kS} {H : Heap} {locs : List Loc} {ls : Array Slot} {cells slots mc ms uc us : Nat} {o : (Int32 × kS × kS)}, ad 0 = ad0 0 → jH A s H locs D g ad z (jY adk g k mo) [] → jl_has ls 14 [(0, .ref (adk 0)), (1, .ref (ad 0)), (5, jv ad 1 v5), (10, jv ad 1 v10), (11, jv ad 2 v11), (12, .int v12), (13, .int v13)] → F_L_act_421 n v5 v10 v11 v12 v13 k z = some (o, uc, us) → cells + uc = mc → slots + us = ms → W p l e (rm_L_act mc ms) s mm args below meth c H locs cells slots (jLGi below args s D g A (fun a => a 0 = ad0 0) o.1 adk o.2.1 mo o.2.2 mc ms) (F0 mm 421 ls []) := by
  have hx := V.1
  have hb := V.2.1
  intro n
  induction n with
  | zero => intro _ _ _ _ _ _ _ _ _ _ _ _ _ _ _ _ _ _ hG hH hl hf hc hs; cases hf
  | succ n hk421 =>
    intro ad v5 v10 v11 v12 v13 k z H locs ls cells slots mc ms uc us o hG hH hl hf hc hs
    refine lv_iload hx hb dL_act_421 (lv_at hl.1 6 rfl) ?_
    refine lv_aload_n hx hb dL_act_423 rfl (lv_at hl.1 1 rfl) ?_
    refine jg_S V hH 1 (by decide) kf_L_21 rfl dL_act_424 ?_
    refine jalen_8 V hH dL_act_427 ?_
    refine lv_icmp_ge (tgt := 453) hx hb dL_act_428 (by decide) (fun hq => ?_) (fun hq => ?_)
    · have hf := kpos hq hf
      exact w_L_act_453 V hA LX hG hH (jl_sub hl [0, 1, 2, 3, 4, 5] rfl) hf hc hs
    · have hf := kneg hq hf
      exact w_L_act_431 V hA LX hk421 hG hH (jl_sub hl [0, 1, 2, 3, 4, 5, 6] rfl) hf hc hs
set_option maxHeartbeats 4000000 in
set_option maxRecDepth 100000 in
theorem w_L_act_413 (V : jV p s mm args meth c cL_act RL 14 (some .boolean) D g) (hA : ∀ q, s.heap.size ≤ q → A q) (LX : jLX l A s) {ad : Nat → Nat} {s0 : Int32} {v5 : Int32} {v10 : Int32} {k : kS} {z : kS} {H : Heap} {locs : List Loc} {ls : Array Slot} {cells slots mc ms uc us : Nat} {o : (Int32 × kS × kS)} (hG : ad 0 = ad0 0) (hH : jH A s H locs D g ad z (jY adk g k mo) []) (hl : jl_has ls 14 [(0, .ref (adk 0)), (1, .ref (ad 0)), (5, jv ad 1 v5), (10, jv ad 1 v10)]) (hf : F_L_act_413 s0 v5 v10 k z = some (o, uc, us)) (hc : cells + uc = mc) (hs : slots + us = ms) : W p l e (rm_L_act mc ms) s mm args below meth c H locs cells slots (jLGi below args s D g A (fun a => a 0 = ad0 0) o.1 adk o.2.1 mo o.2.2 mc ms) (F0 mm 413 ls [jv ad 2 s0]) := by
  have hx := V.1
  have hb := V.2.1
  refine jl_astore (lv' := [(11, jv ad 2 s0), (0, .ref (adk 0)), (1, .ref (ad 0)), (5, jv ad 1 v5), (10, jv ad 1 v10)]) hx hb dL_act_413 hl (by decide) rfl (fun ls hl => ?_)
  refine lv_iconst (v := (-1)) hx hb dL_act_415 (by decide) ?_
  refine jl_istore (lv' := [(12, .int (-1)), (11, jv ad 2 s0), (0, .ref (adk 0)), (1, .ref (ad 0)), (5, jv ad 1 v5), (10, jv ad 1 v10)]) hx hb dL_act_416 hl (by decide) rfl (fun ls hl => ?_)
  refine lv_iconst (v := 0) hx hb dL_act_418 (by decide) ?_
  refine jl_istore (lv' := [(13, .int 0), (12, .int (-1)), (11, jv ad 2 s0), (0, .ref (adk 0)), (1, .ref (ad 0)), (5, jv ad 1 v5), (10, jv ad 1 v10)]) hx hb dL_act_419 hl (by decide) rfl (fun ls hl => ?_)
  exact w_L_act_421 V hA LX kN hG hH (jl_sub hl [3, 4, 5, 6, 2, 1, 0] rfl) hf hc hs
set_option maxHeartbeats 4000000 in
set_option maxRecDepth 100000 in
theorem w_L_act_407 (V : jV p s mm args meth c cL_act RL 14 (some .boolean) D g) (hA : ∀ q, s.heap.size ≤ q → A q) (LX : jLX l A s) {ad : Nat → Nat} {v5 : Int32} {v7 : Int32} {v10 : Int32} {k : kS} {z : kS} {H : Heap} {locs : List Loc} {ls : Array Slot} {cells slots mc ms uc us : Nat} {o : (Int32 × kS × kS)} (hG : ad 0 = ad0 0) (hH : jH A s H locs D g ad z (jY adk g k mo) []) (hl : jl_has ls 14 [(0, .ref (adk 0)), (1, .ref (ad 0)), (5, jv ad 1 v5), (7, jv ad 2 v7), (10, jv ad 1 v10)]) (hf : F_L_act_407 v5 v7 v10 k z = some (o, uc, us)) (hc : cells + uc = mc) (hs : slots + us = ms) : W p l e (rm_L_act mc ms) s mm args below meth c H locs cells slots (jLGi below args s D g A (fun a => a 0 = ad0 0) o.1 adk o.2.1 mo o.2.2 mc ms) (F0 mm 407 ls []) := by
  have hx := V.1
  have hb := V.2.1
  refine jl_aload hx hb dL_act_407 (lv_at hl.1 3 rfl) ?_
  refine lv_goto (tgt := 413) hx hb dL_act_409 (by decide) ?_
  exact w_L_act_413 V hA LX hG hH (jl_sub hl [0, 1, 2, 4] rfl) hf hc hs
set_option maxHeartbeats 4000000 in
set_option maxRecDepth 100000 in
theorem w_L_act_412 (V : jV p s mm args meth c cL_act RL 14 (some .boolean) D g) (hA : ∀ q, s.heap.size ≤ q → A q) (LX : jLX l A s) {ad : Nat → Nat} {v5 : Int32} {v10 : Int32} {k : kS} {z : kS} {H : Heap} {locs : List Loc} {ls : Array Slot} {cells slots mc ms uc us : Nat} {o : (Int32 × kS × kS)} (hG : ad 0 = ad0 0) (hH : jH A s H locs D g ad z (jY adk g k mo) []) (hl : jl_has ls 14 [(0, .ref (adk 0)), (1, .ref (ad 0)), (5, jv ad 1 v5), (10, jv ad 1 v10)]) (hf : F_L_act_412 v5 v10 k z = some (o, uc, us)) (hc : cells + uc = mc) (hs : slots + us = ms) : W p l e (rm_L_act mc ms) s mm args below meth c H locs cells slots (jLGi below args s D g A (fun a => a 0 = ad0 0) o.1 adk o.2.1 mo o.2.2 mc ms) (F0 mm 412 ls []) := by
  have hx := V.1
  have hb := V.2.1
  refine jl_null (ad := ad) hx hb 2 dL_act_412 ?_
  exact w_L_act_413 V hA LX hG hH (jl_sub hl [0, 1, 2, 3] rfl) hf hc hs
set_option maxHeartbeats 4000000 in
set_option maxRecDepth 100000 in
theorem w_L_act_397 (V : jV p s mm args meth c cL_act RL 14 (some .boolean) D g) (hA : ∀ q, s.heap.size ≤ q → A q) (LX : jLX l A s) {ad : Nat → Nat} {v5 : Int32} {v7 : Int32} {v10 : Int32} {k : kS} {z : kS} {H : Heap} {locs : List Loc} {ls : Array Slot} {cells slots mc ms uc us : Nat} {o : (Int32 × kS × kS)} (hG : ad 0 = ad0 0) (hH : jH A s H locs D g ad z (jY adk g k mo) []) (hl : jl_has ls 14 [(0, .ref (adk 0)), (1, .ref (ad 0)), (5, jv ad 1 v5), (7, jv ad 2 v7), (10, jv ad 1 v10)]) (hf : F_L_act_397 v5 v7 v10 k z = some (o, uc, us)) (hc : cells + uc = mc) (hs : slots + us = ms) : W p l e (rm_L_act mc ms) s mm args below meth c H locs cells slots (jLGi below args s D g A (fun a => a 0 = ad0 0) o.1 adk o.2.1 mo o.2.2 mc ms) (F0 mm 397 ls []) := by
  have hx := V.1
  have hb := V.2.1
  refine jl_aload hx hb dL_act_397 (lv_at hl.1 3 rfl) ?_
  obtain ⟨h397_1, hf⟩ := kif hf
  refine jg_L V hH h397_1 2 (by decide) kf_L_59 rfl dL_act_399 ?_
  refine jl_aload hx hb dL_act_402 (lv_at hl.1 4 rfl) ?_
  obtain ⟨h397_2, hf⟩ := kif hf
  obtain ⟨h397_3, hf⟩ := kif hf
  refine jl_acmp_ne1 V hH (tgt := 412) h397_2 h397_3 dL_act_404 (by decide) (fun hq => ?_) (fun hq => ?_)
  · have hf := kneg hq hf
    exact w_L_act_412 V hA LX hG hH (jl_sub hl [0, 1, 2, 4] rfl) hf hc hs
  · have hf := kpos hq hf
    exact w_L_act_407 V hA LX hG hH (jl_sub hl [0, 1, 2, 3, 4] rfl) hf hc hs
set_option maxHeartbeats 4000000 in
set_option maxRecDepth 100000 in
theorem w_L_act_387 (V : jV p s mm args meth c cL_act RL 14 (some .boolean) D g) (hA : ∀ q, s.heap.size ≤ q → A q) (LX : jLX l A s) {ad : Nat → Nat} {v5 : Int32} {v7 : Int32} {v10 : Int32} {k : kS} {z : kS} {H : Heap} {locs : List Loc} {ls : Array Slot} {cells slots mc ms uc us : Nat} {o : (Int32 × kS × kS)} (hG : ad 0 = ad0 0) (hH : jH A s H locs D g ad z (jY adk g k mo) []) (hl : jl_has ls 14 [(0, .ref (adk 0)), (1, .ref (ad 0)), (5, jv ad 1 v5), (7, jv ad 2 v7), (10, jv ad 1 v10)]) (hf : F_L_act_387 v5 v7 v10 k z = some (o, uc, us)) (hc : cells + uc = mc) (hs : slots + us = ms) : W p l e (rm_L_act mc ms) s mm args below meth c H locs cells slots (jLGi below args s D g A (fun a => a 0 = ad0 0) o.1 adk o.2.1 mo o.2.2 mc ms) (F0 mm 387 ls []) := by
  have hx := V.1
  have hb := V.2.1
  refine jl_aload hx hb dL_act_387 (lv_at hl.1 3 rfl) ?_
  obtain ⟨h387_1, hf⟩ := kif hf
  refine jg_L V hH h387_1 2 (by decide) kf_L_59 rfl dL_act_389 ?_
  refine jl_aload hx hb dL_act_392 (lv_at hl.1 2 rfl) ?_
  obtain ⟨h387_2, hf⟩ := kif hf
  obtain ⟨h387_3, hf⟩ := kif hf
  refine jl_acmp_eq1 V hH (tgt := 407) h387_2 h387_3 dL_act_394 (by decide) (fun hq => ?_) (fun hq => ?_)
  · have hf := kpos hq hf
    exact w_L_act_407 V hA LX hG hH (jl_sub hl [0, 1, 2, 3, 4] rfl) hf hc hs
  · have hf := kneg hq hf
    exact w_L_act_397 V hA LX hG hH (jl_sub hl [0, 1, 2, 3, 4] rfl) hf hc hs
set_option maxHeartbeats 4000000 in
set_option maxRecDepth 100000 in
theorem w_L_act_382 (V : jV p s mm args meth c cL_act RL 14 (some .boolean) D g) (hA : ∀ q, s.heap.size ≤ q → A q) (LX : jLX l A s) {ad : Nat → Nat} {v5 : Int32} {v7 : Int32} {v10 : Int32} {k : kS} {z : kS} {H : Heap} {locs : List Loc} {ls : Array Slot} {cells slots mc ms uc us : Nat} {o : (Int32 × kS × kS)} (hG : ad 0 = ad0 0) (hH : jH A s H locs D g ad z (jY adk g k mo) []) (hl : jl_has ls 14 [(0, .ref (adk 0)), (1, .ref (ad 0)), (5, jv ad 1 v5), (7, jv ad 2 v7), (10, jv ad 1 v10)]) (hf : F_L_act_382 v5 v7 v10 k z = some (o, uc, us)) (hc : cells + uc = mc) (hs : slots + us = ms) : W p l e (rm_L_act mc ms) s mm args below meth c H locs cells slots (jLGi below args s D g A (fun a => a 0 = ad0 0) o.1 adk o.2.1 mo o.2.2 mc ms) (F0 mm 382 ls []) := by
  have hx := V.1
  have hb := V.2.1
  refine jl_aload hx hb dL_act_382 (lv_at hl.1 3 rfl) ?_
  refine jl_ifnull (tgt := 412) hx hb dL_act_384 (by decide) (fun hq => ?_) (fun hq => ?_)
  · have hf := kpos hq hf
    exact w_L_act_412 V hA LX hG hH (jl_sub hl [0, 1, 2, 4] rfl) hf hc hs
  · have hf := kneg hq hf
    exact w_L_act_387 V hA LX hG hH (jl_sub hl [0, 1, 2, 3, 4] rfl) hf hc hs
set_option maxHeartbeats 4000000 in
set_option maxRecDepth 100000 in
theorem w_L_act_351 (V : jV p s mm args meth c cL_act RL 14 (some .boolean) D g) (hA : ∀ q, s.heap.size ≤ q → A q) (LX : jLX l A s) {c345 : Int32 → Int32 → Int32 → Int32 → Int32 → kS → kS → Option ((Int32 × kS × kS) × Nat × Nat)} (hk345 : ∀ {ad : Nat → Nat} {v3 : Int32} {v5 : Int32} {v6 : Int32} {v7 : Int32} {v9 : Int32} {k : kS} {z : kS} {H : Heap} {locs : List Loc} {ls : Array Slot} {cells slots mc ms uc us : Nat} {o : (Int32 × kS × kS)}, ad 0 = ad0 0 → jH A s H locs D g ad z (jY adk g k mo) [] → jl_has ls 14 [(0, .ref (adk 0)), (1, .ref (ad 0)), (3, .int v3), (5, jv ad 1 v5), (6, jv ad 1 v6), (7, jv ad 2 v7), (9, .int v9)] → c345 v3 v5 v6 v7 v9 k z = some (o, uc, us) → cells + uc = mc → slots + us = ms → W p l e (rm_L_act mc ms) s mm args below meth c H locs cells slots (jLGi below args s D g A (fun a => a 0 = ad0 0) o.1 adk o.2.1 mo o.2.2 mc ms) (F0 mm 345 ls [])) {ad : Nat → Nat} {v3 : Int32} {v5 : Int32} {v6 : Int32} {v7 : Int32} {v9 : Int32} {k : kS} {z : kS} {H : Heap} {locs : List Loc} {ls : Array Slot} {cells slots mc ms uc us : Nat} {o : (Int32 × kS × kS)} (hG : ad 0 = ad0 0) (hH : jH A s H locs D g ad z (jY adk g k mo) []) (hl : jl_has ls 14 [(0, .ref (adk 0)), (1, .ref (ad 0)), (3, .int v3), (5, jv ad 1 v5), (6, jv ad 1 v6), (7, jv ad 2 v7), (9, .int v9)]) (hf : F_L_act_351 c345 v3 v5 v6 v7 v9 k z = some (o, uc, us)) (hc : cells + uc = mc) (hs : slots + us = ms) : W p l e (rm_L_act mc ms) s mm args below meth c H locs cells slots (jLGi below args s D g A (fun a => a 0 = ad0 0) o.1 adk o.2.1 mo o.2.2 mc ms) (F0 mm 351 ls []) := by
  have hx := V.1
  have hb := V.2.1
  refine lv_aload_n hx hb dL_act_351 rfl (lv_at hl.1 1 rfl) ?_
  refine jg_S V hH 0 (by decide) kf_L_9 rfl dL_act_352 ?_
  refine jl_aload hx hb dL_act_355 (lv_at hl.1 4 rfl) ?_
  obtain ⟨h351_1, hf⟩ := kif hf
  refine jg_P V hH h351_1 0 (by decide) kf_L_34 rfl dL_act_357 ?_
  refine lv_iload hx hb dL_act_360 (lv_at hl.1 6 rfl) ?_
  refine lv_iadd hx hb dL_act_362 ?_
  refine lv_iload_n hx hb dL_act_363 rfl (lv_at hl.1 2 rfl) ?_
  obtain ⟨h351_2, hf⟩ := kif hf
  refine lv_irem hx hb dL_act_364 h351_2 ?_
  obtain ⟨h351_3, hf⟩ := kif hf
  refine jald_4 V hH h351_3 dL_act_365 ?_
  refine jl_astore (lv' := [(10, jv ad 1 (z 4 (((z (4 * v6.toNatClampNeg + 1) 0) + v9) - ((z (4 * v6.toNatClampNeg + 1) 0) + v9) / v3 * v3).toNatClampNeg)), (0, .ref (adk 0)), (1, .ref (ad 0)), (3, .int v3), (5, jv ad 1 v5), (6, jv ad 1 v6), (7, jv ad 2 v7), (9, .int v9)]) hx hb dL_act_366 hl (by decide) rfl (fun ls hl => ?_)
  refine lv_aload_n hx hb dL_act_368 rfl (lv_at hl.1 2 rfl) ?_
  refine jl_aload hx hb dL_act_369 (lv_at hl.1 4 rfl) ?_
  refine jl_aload hx hb dL_act_371 (lv_at hl.1 0 rfl) ?_
  obtain ⟨x351_4, hx351_4, hf⟩ := kbind hf
  refine jr_calliR0 hA hH (jr_runV (as := [jv ad 1 v5, jv ad 1 (z 4 (((z (4 * v6.toNatClampNeg + 1) 0) + v9) - ((z (4 * v6.toNatClampNeg + 1) 0) + v9) / v3 * v3).toNatClampNeg)]) (rest := []) V hH kYX8_can kl_L_55 (c_X8_can l _ _ hx351_4 _) rfl rfl ⟨Nat.le_of_ble_eq_true rfl, Nat.le_of_ble_eq_true rfl⟩ rfl hl.1.1 (Nat.le_of_ble_eq_true rfl) dL_act_373 ⟨by show cells + 0 ≤ mc; omega, by show slots + 0 ≤ ms; omega⟩ rfl) (fun H locs hH => ?_)
  refine lv_if_ne (tgt := 382) hx hb dL_act_376 (by decide) (fun hq => ?_) (fun hq => ?_)
  · have hf := kneg hq hf
    exact w_L_act_382 V hA LX hG hH (jl_sub hl [1, 2, 4, 6, 0] rfl) hf hc hs
  · have hf := kpos hq hf
    exact w_L_act_379 V hA LX hk345 hG hH (jl_sub hl [1, 2, 3, 4, 5, 6, 7] rfl) hf hc hs
set_option maxHeartbeats 4000000 in
set_option maxRecDepth 100000 in
theorem w_L_act_507 (V : jV p s mm args meth c cL_act RL 14 (some .boolean) D g) (hA : ∀ q, s.heap.size ≤ q → A q) (LX : jLX l A s) {ad : Nat → Nat} {k : kS} {z : kS} {H : Heap} {locs : List Loc} {ls : Array Slot} {cells slots mc ms uc us : Nat} {o : (Int32 × kS × kS)} (hG : ad 0 = ad0 0) (hH : jH A s H locs D g ad z (jY adk g k mo) []) (hl : jl_has ls 14 []) (hf : F_L_act_507 k z = some (o, uc, us)) (hc : cells + uc = mc) (hs : slots + us = ms) : W p l e (rm_L_act mc ms) s mm args below meth c H locs cells slots (jLGi below args s D g A (fun a => a 0 = ad0 0) o.1 adk o.2.1 mo o.2.2 mc ms) (F0 mm 507 ls []) := by
  have hx := V.1
  have hb := V.2.1
  refine lv_iconst (v := 1) hx hb dL_act_507 (by decide) ?_
  obtain ⟨h507_1, hf⟩ := kif hf
  cases hf
  subst hc
  subst hs
  exact jl_zret (G := fun a => a 0 = ad0 0) V hG hH (Decidable.not_not.mp h507_1) dL_act_508
set_option maxHeartbeats 4000000 in
set_option maxRecDepth 100000 in
theorem w_L_act_345 (V : jV p s mm args meth c cL_act RL 14 (some .boolean) D g) (hA : ∀ q, s.heap.size ≤ q → A q) (LX : jLX l A s) : ∀ (n : Nat) {ad : Nat → Nat} {v3 : Int32} {v5 : Int32} {v6 : Int32} {v7 : Int32} {v9 : Int32} {k : kS} {z : kS} {H : Heap} {locs : List Loc} {ls : Array Slot} {cells slots mc ms uc us : Nat} {o : (Int32 × kS × kS)}, ad 0 = ad0 0 → jH A s H locs D g ad z (jY adk g k mo) [] → jl_has ls 14 [(0, .ref (adk 0)), (1, .ref (ad 0)), (3, .int v3), (5, jv ad 1 v5), (6, jv ad 1 v6), (7, jv ad 2 v7), (9, .int v9)] → F_L_act_345 n v3 v5 v6 v7 v9 k z = some (o, uc, us) → cells + uc = mc → slots + us = ms → W p l e (rm_L_act mc ms) s mm args below meth c H locs cells slots (jLGi below args s D g A (fun a => a 0 = ad0 0) o.1 adk o.2.1 mo o.2.2 mc ms) (F0 mm 345 ls []) := by
  have hx := V.1
  have hb := V.2.1
  intro n
  induction n with
  | zero => intro _ _ _ _ _ _ _ _ _ _ _ _ _ _ _ _ _ _ hG hH hl hf hc hs; cases hf
  | succ n hk345 =>
    intro ad v3 v5 v6 v7 v9 k z H locs ls cells slots mc ms uc us o hG hH hl hf hc hs
    refine lv_iload hx hb dL_act_345 (lv_at hl.1 6 rfl) ?_
    refine lv_iload_n hx hb dL_act_347 rfl (lv_at hl.1 2 rfl) ?_
    refine lv_icmp_ge (tgt := 507) hx hb dL_act_348 (by decide) (fun hq => ?_) (fun hq => ?_)
    · have hf := kpos hq hf
      exact w_L_act_507 V hA LX hG hH (jl_sub hl [] rfl) hf hc hs
    · have hf := kneg hq hf
      exact w_L_act_351 V hA LX hk345 hG hH (jl_sub hl [0, 1, 2, 3, 4, 5, 6] rfl) hf hc hs
set_option maxHeartbeats 4000000 in
set_option maxRecDepth 100000 in
theorem w_L_act_342 (V : jV p s mm args meth c cL_act RL 14 (some .boolean) D g) (hA : ∀ q, s.heap.size ≤ q → A q) (LX : jLX l A s) {ad : Nat → Nat} {v3 : Int32} {v5 : Int32} {v6 : Int32} {v7 : Int32} {k : kS} {z : kS} {H : Heap} {locs : List Loc} {ls : Array Slot} {cells slots mc ms uc us : Nat} {o : (Int32 × kS × kS)} (hG : ad 0 = ad0 0) (hH : jH A s H locs D g ad z (jY adk g k mo) []) (hl : jl_has ls 14 [(0, .ref (adk 0)), (1, .ref (ad 0)), (3, .int v3), (5, jv ad 1 v5), (6, jv ad 1 v6), (7, jv ad 2 v7)]) (hf : F_L_act_342 v3 v5 v6 v7 k z = some (o, uc, us)) (hc : cells + uc = mc) (hs : slots + us = ms) : W p l e (rm_L_act mc ms) s mm args below meth c H locs cells slots (jLGi below args s D g A (fun a => a 0 = ad0 0) o.1 adk o.2.1 mo o.2.2 mc ms) (F0 mm 342 ls []) := by
  have hx := V.1
  have hb := V.2.1
  refine lv_iconst (v := 0) hx hb dL_act_342 (by decide) ?_
  refine jl_istore (lv' := [(9, .int 0), (0, .ref (adk 0)), (1, .ref (ad 0)), (3, .int v3), (5, jv ad 1 v5), (6, jv ad 1 v6), (7, jv ad 2 v7)]) hx hb dL_act_343 hl (by decide) rfl (fun ls hl => ?_)
  exact w_L_act_345 V hA LX kN hG hH (jl_sub hl [1, 2, 3, 4, 5, 6, 0] rfl) hf hc hs
set_option maxHeartbeats 4000000 in
set_option maxRecDepth 100000 in
theorem w_L_act_519 (V : jV p s mm args meth c cL_act RL 14 (some .boolean) D g) (hA : ∀ q, s.heap.size ≤ q → A q) (LX : jLX l A s) {ad : Nat → Nat} {k : kS} {z : kS} {H : Heap} {locs : List Loc} {ls : Array Slot} {cells slots mc ms uc us : Nat} {o : (Int32 × kS × kS)} (hG : ad 0 = ad0 0) (hH : jH A s H locs D g ad z (jY adk g k mo) []) (hl : jl_has ls 14 []) (hf : F_L_act_519 k z = some (o, uc, us)) (hc : cells + uc = mc) (hs : slots + us = ms) : W p l e (rm_L_act mc ms) s mm args below meth c H locs cells slots (jLGi below args s D g A (fun a => a 0 = ad0 0) o.1 adk o.2.1 mo o.2.2 mc ms) (F0 mm 519 ls []) := by
  have hx := V.1
  have hb := V.2.1
  refine lv_iconst (v := 1) hx hb dL_act_519 (by decide) ?_
  obtain ⟨h519_1, hf⟩ := kif hf
  cases hf
  subst hc
  subst hs
  exact jl_zret (G := fun a => a 0 = ad0 0) V hG hH (Decidable.not_not.mp h519_1) dL_act_520
set_option maxHeartbeats 4000000 in
set_option maxRecDepth 100000 in
theorem w_L_act_613 (V : jV p s mm args meth c cL_act RL 14 (some .boolean) D g) (hA : ∀ q, s.heap.size ≤ q → A q) (LX : jLX l A s) {ad : Nat → Nat} {s0 : Int32} {k : kS} {z : kS} {H : Heap} {locs : List Loc} {ls : Array Slot} {cells slots mc ms uc us : Nat} {o : (Int32 × kS × kS)} (hG : ad 0 = ad0 0) (hH : jH A s H locs D g ad z (jY adk g k mo) []) (hl : jl_has ls 14 []) (hf : F_L_act_613 s0 k z = some (o, uc, us)) (hc : cells + uc = mc) (hs : slots + us = ms) : W p l e (rm_L_act mc ms) s mm args below meth c H locs cells slots (jLGi below args s D g A (fun a => a 0 = ad0 0) o.1 adk o.2.1 mo o.2.2 mc ms) (F0 mm 613 ls [.int s0]) := by
  have hx := V.1
  have hb := V.2.1
  obtain ⟨h613_1, hf⟩ := kif hf
  cases hf
  subst hc
  subst hs
  exact jl_zret (G := fun a => a 0 = ad0 0) V hG hH (Decidable.not_not.mp h613_1) dL_act_613
set_option maxHeartbeats 4000000 in
set_option maxRecDepth 100000 in
theorem w_L_act_608 (V : jV p s mm args meth c cL_act RL 14 (some .boolean) D g) (hA : ∀ q, s.heap.size ≤ q → A q) (LX : jLX l A s) {ad : Nat → Nat} {k : kS} {z : kS} {H : Heap} {locs : List Loc} {ls : Array Slot} {cells slots mc ms uc us : Nat} {o : (Int32 × kS × kS)} (hG : ad 0 = ad0 0) (hH : jH A s H locs D g ad z (jY adk g k mo) []) (hl : jl_has ls 14 []) (hf : F_L_act_608 k z = some (o, uc, us)) (hc : cells + uc = mc) (hs : slots + us = ms) : W p l e (rm_L_act mc ms) s mm args below meth c H locs cells slots (jLGi below args s D g A (fun a => a 0 = ad0 0) o.1 adk o.2.1 mo o.2.2 mc ms) (F0 mm 608 ls []) := by
  have hx := V.1
  have hb := V.2.1
  refine lv_iconst (v := 1) hx hb dL_act_608 (by decide) ?_
  refine lv_goto (tgt := 613) hx hb dL_act_609 (by decide) ?_
  exact w_L_act_613 V hA LX hG hH (jl_sub hl [] rfl) hf hc hs
set_option maxHeartbeats 4000000 in
set_option maxRecDepth 100000 in
theorem w_L_act_612 (V : jV p s mm args meth c cL_act RL 14 (some .boolean) D g) (hA : ∀ q, s.heap.size ≤ q → A q) (LX : jLX l A s) {ad : Nat → Nat} {k : kS} {z : kS} {H : Heap} {locs : List Loc} {ls : Array Slot} {cells slots mc ms uc us : Nat} {o : (Int32 × kS × kS)} (hG : ad 0 = ad0 0) (hH : jH A s H locs D g ad z (jY adk g k mo) []) (hl : jl_has ls 14 []) (hf : F_L_act_612 k z = some (o, uc, us)) (hc : cells + uc = mc) (hs : slots + us = ms) : W p l e (rm_L_act mc ms) s mm args below meth c H locs cells slots (jLGi below args s D g A (fun a => a 0 = ad0 0) o.1 adk o.2.1 mo o.2.2 mc ms) (F0 mm 612 ls []) := by
  have hx := V.1
  have hb := V.2.1
  refine lv_iconst (v := 0) hx hb dL_act_612 (by decide) ?_
  exact w_L_act_613 V hA LX hG hH (jl_sub hl [] rfl) hf hc hs
set_option maxHeartbeats 4000000 in
set_option maxRecDepth 100000 in
theorem w_L_act_545 (V : jV p s mm args meth c cL_act RL 14 (some .boolean) D g) (hA : ∀ q, s.heap.size ≤ q → A q) (LX : jLX l A s) {ad : Nat → Nat} {s0 : Int32} {v2 : Int32} {k : kS} {z : kS} {H : Heap} {locs : List Loc} {ls : Array Slot} {cells slots mc ms uc us : Nat} {o : (Int32 × kS × kS)} (hG : ad 0 = ad0 0) (hH : jH A s H locs D g ad z (jY adk g k mo) []) (hl : jl_has ls 14 [(0, .ref (adk 0)), (1, .ref (ad 0)), (2, .int v2)]) (hf : F_L_act_545 s0 v2 k z = some (o, uc, us)) (hc : cells + uc = mc) (hs : slots + us = ms) : W p l e (rm_L_act mc ms) s mm args below meth c H locs cells slots (jLGi below args s D g A (fun a => a 0 = ad0 0) o.1 adk o.2.1 mo o.2.2 mc ms) (F0 mm 545 ls [jv ad 1 s0]) := by
  have hx := V.1
  have hb := V.2.1
  refine jl_astore (lv' := [(9, jv ad 1 s0), (0, .ref (adk 0)), (1, .ref (ad 0)), (2, .int v2)]) hx hb dL_act_545 hl (by decide) rfl (fun ls hl => ?_)
  refine lv_aload_n hx hb dL_act_547 rfl (lv_at hl.1 2 rfl) ?_
  refine lv_iconst (v := 1) hx hb dL_act_548 (by decide) ?_
  refine lv_iload_n hx hb dL_act_549 rfl (lv_at hl.1 3 rfl) ?_
  refine lv_iconst (v := 2) hx hb dL_act_550 (by decide) ?_
  refine lv_ishr hx hb dL_act_551 ?_
  refine lv_bipush (v := 50) hx hb dL_act_552 (by decide) ?_
  obtain ⟨x545_1, hx545_1, hf⟩ := kbind hf
  refine jr_calliR0 hA hH (jr_runS (as := [.int (v2 >>> (2 &&& 31)), .int 50]) (rest := [.int 1, .ref (ad 0)]) V hH kYL_below kl_L_15 (c_L_below l _ _ hx545_1 _) rfl rfl ⟨Nat.le_of_ble_eq_true rfl, Nat.le_of_ble_eq_true rfl⟩ rfl hl.1.1 (Nat.le_of_ble_eq_true rfl) dL_act_554 ⟨by show cells + 0 ≤ mc; omega, by show slots + 0 ≤ ms; omega⟩ rfl) (fun H locs hH => ?_)
  refine lv_iadd hx hb dL_act_557 ?_
  refine lv_iload_n hx hb dL_act_558 rfl (lv_at hl.1 3 rfl) ?_
  refine lv_bipush (v := 6) hx hb dL_act_559 (by decide) ?_
  refine lv_ishr hx hb dL_act_561 ?_
  refine lv_iconst (v := 4) hx hb dL_act_562 (by decide) ?_
  obtain ⟨x545_2, hx545_2, hf⟩ := kbind hf
  refine jr_calliR0 hA hH (jr_runS (as := [.int (v2 >>> (6 &&& 31)), .int 4]) (rest := [.int (1 + x545_1), .ref (ad 0)]) V hH kYL_below kl_L_15 (c_L_below l _ _ hx545_2 _) rfl rfl ⟨Nat.le_of_ble_eq_true rfl, Nat.le_of_ble_eq_true rfl⟩ rfl hl.1.1 (Nat.le_of_ble_eq_true rfl) dL_act_563 ⟨by show cells + 0 ≤ mc; omega, by show slots + 0 ≤ ms; omega⟩ rfl) (fun H locs hH => ?_)
  refine jl_aload hx hb dL_act_566 (lv_at hl.1 0 rfl) ?_
  obtain ⟨h545_3, hf⟩ := kif hf
  obtain ⟨x545_4, hx545_4, hf⟩ := kbind hf
  obtain ⟨uc545_5, us545_6, hf, e1, e2⟩ := kadd_some2 hf
  have e1 : uc = x545_4.2.1 + uc545_5 := e1
  have e2 : us = x545_4.2.2 + us545_6 := e2
  have hc : cells + x545_4.2.1 + uc545_5 = mc := by rw [Nat.add_assoc, ← e1]; exact hc
  have hs : slots + x545_4.2.2 + us545_6 = ms := by rw [Nat.add_assoc, ← e2]; exact hs
  have lc : cells + x545_4.2.1 ≤ mc := Nat.le.intro hc
  have ls2 : slots + x545_4.2.2 ≤ ms := Nat.le.intro hs
  refine jr_callv hA hH (jr_runV (as := [.int (1 + x545_1), .int x545_2, jv ad 1 s0]) (rest := []) V hH kYX8_found kl_L_78 (c_X8_found l _ _ _ hx545_4 _) rfl rfl ⟨Nat.le_of_ble_eq_true rfl, Nat.le_of_ble_eq_true rfl⟩ rfl hl.1.1 (Nat.le_of_ble_eq_true rfl) dL_act_568 ⟨lc, ls2⟩ rfl) (fun ad545_1 H locs hm hH => ?_)
  have hG := hm.p0.trans hG
  have hl : jl_has ls 14 [(9, jv ad545_1 1 s0), (0, .ref (adk 0)), (1, .ref (ad545_1 0)), (2, .int v2)] := by simp only [jv, hm.p0, hm.r1 h545_3]; exact hl
  refine lv_aload_n hx hb dL_act_571 rfl (lv_at hl.1 1 rfl) ?_
  refine lv_iconst (v := 1) hx hb dL_act_572 (by decide) ?_
  refine lv_iload_n hx hb dL_act_573 rfl (lv_at hl.1 3 rfl) ?_
  refine lv_iconst (v := 2) hx hb dL_act_574 (by decide) ?_
  refine lv_ishr hx hb dL_act_575 ?_
  refine lv_bipush (v := 50) hx hb dL_act_576 (by decide) ?_
  obtain ⟨x545_7, hx545_7, hf⟩ := kbind hf
  refine jr_calliR0 hA hH (jr_runS (as := [.int (v2 >>> (2 &&& 31)), .int 50]) (rest := [.int 1, .ref (adk 0)]) V hH kYL_below kl_L_15 (c_L_below l _ _ hx545_7 _) rfl rfl ⟨Nat.le_of_ble_eq_true rfl, Nat.le_of_ble_eq_true rfl⟩ rfl hl.1.1 (Nat.le_of_ble_eq_true rfl) dL_act_578 ⟨by show cells + x545_4.2.1 + 0 ≤ mc; omega, by show slots + x545_4.2.2 + 0 ≤ ms; omega⟩ rfl) (fun H locs hH => ?_)
  refine lv_iadd hx hb dL_act_581 ?_
  refine lv_iload_n hx hb dL_act_582 rfl (lv_at hl.1 3 rfl) ?_
  refine lv_bipush (v := 6) hx hb dL_act_583 (by decide) ?_
  refine lv_ishr hx hb dL_act_585 ?_
  refine lv_iconst (v := 4) hx hb dL_act_586 (by decide) ?_
  obtain ⟨x545_8, hx545_8, hf⟩ := kbind hf
  refine jr_calliR0 hA hH (jr_runS (as := [.int (v2 >>> (6 &&& 31)), .int 4]) (rest := [.int (1 + x545_7), .ref (adk 0)]) V hH kYL_below kl_L_15 (c_L_below l _ _ hx545_8 _) rfl rfl ⟨Nat.le_of_ble_eq_true rfl, Nat.le_of_ble_eq_true rfl⟩ rfl hl.1.1 (Nat.le_of_ble_eq_true rfl) dL_act_587 ⟨by show cells + x545_4.2.1 + 0 ≤ mc; omega, by show slots + x545_4.2.2 + 0 ≤ ms; omega⟩ rfl) (fun H locs hH => ?_)
  refine jl_aload hx hb dL_act_590 (lv_at hl.1 0 rfl) ?_
  obtain ⟨x545_9, hx545_9, hf⟩ := kbind hf
  refine jr_calliR0 hA hH (jr_runS (as := [jv ad545_1 1 s0]) (rest := [.int x545_8, .int (1 + x545_7), .ref (adk 0)]) V hH kYX8_number kl_L_82 (c_X8_number l _ hx545_9 _) rfl rfl ⟨Nat.le_of_ble_eq_true rfl, Nat.le_of_ble_eq_true rfl⟩ rfl hl.1.1 (Nat.le_of_ble_eq_true rfl) dL_act_592 ⟨by show cells + x545_4.2.1 + 0 ≤ mc; omega, by show slots + x545_4.2.2 + 0 ≤ ms; omega⟩ rfl) (fun H locs hH => ?_)
  obtain ⟨x545_10, hx545_10, hf⟩ := kbind hf
  obtain ⟨h545_11, hf⟩ := kif hf
  obtain ⟨uc545_12, us545_13, hf, e1, e2⟩ := kadd_some2 hf
  have e1 : uc545_5 = 4 + uc545_12 := e1
  have e2 : us545_6 = 24 + us545_13 := e2
  have hc : cells + x545_4.2.1 + 4 + uc545_12 = mc := by rw [Nat.add_assoc, ← e1]; exact hc
  have hs : slots + x545_4.2.2 + 24 + us545_13 = ms := by rw [Nat.add_assoc, ← e2]; exact hs
  have lc : cells + x545_4.2.1 + 4 ≤ mc := Nat.le.intro hc
  have ls2 : slots + x545_4.2.2 + 24 ≤ ms := Nat.le.intro hs
  refine jc_callx V hA LX hH kYX5_found kl_L_84 (c_X5_found l LX.1 _ _ _ hx545_10 _) (Decidable.not_not.mp h545_11) rfl rfl ⟨Nat.le_of_ble_eq_true rfl, Nat.le_of_ble_eq_true rfl⟩ rfl hl.1.1 (as := [.int (1 + x545_7), .int x545_8, .int x545_9]) (rest := []) (Nat.le_of_ble_eq_true rfl) dL_act_595 ⟨lc, ls2⟩ rfl (fun H locs hH => ?_)
  refine lv_aload_n hx hb dL_act_598 rfl (lv_at hl.1 2 rfl) ?_
  refine jg_S V hH 1 (by decide) kf_L_21 rfl dL_act_599 ?_
  refine jalen_8 V hH dL_act_602 ?_
  refine lv_iconst (v := 1) hx hb dL_act_603 (by decide) ?_
  refine lv_isub hx hb dL_act_604 ?_
  refine lv_icmp_ne (tgt := 612) hx hb dL_act_605 (by decide) (fun hq => ?_) (fun hq => ?_)
  · have hf := kneg hq hf
    exact w_L_act_612 V hA LX hG hH (jl_sub hl [] rfl) hf hc hs
  · have hf := kpos hq hf
    exact w_L_act_608 V hA LX hG hH (jl_sub hl [] rfl) hf hc hs
set_option maxHeartbeats 4000000 in
set_option maxRecDepth 100000 in
theorem w_L_act_539 (V : jV p s mm args meth c cL_act RL 14 (some .boolean) D g) (hA : ∀ q, s.heap.size ≤ q → A q) (LX : jLX l A s) {ad : Nat → Nat} {v2 : Int32} {k : kS} {z : kS} {H : Heap} {locs : List Loc} {ls : Array Slot} {cells slots mc ms uc us : Nat} {o : (Int32 × kS × kS)} (hG : ad 0 = ad0 0) (hH : jH A s H locs D g ad z (jY adk g k mo) []) (hl : jl_has ls 14 [(0, .ref (adk 0)), (1, .ref (ad 0)), (2, .int v2)]) (hf : F_L_act_539 v2 k z = some (o, uc, us)) (hc : cells + uc = mc) (hs : slots + us = ms) : W p l e (rm_L_act mc ms) s mm args below meth c H locs cells slots (jLGi below args s D g A (fun a => a 0 = ad0 0) o.1 adk o.2.1 mo o.2.2 mc ms) (F0 mm 539 ls []) := by
  have hx := V.1
  have hb := V.2.1
  refine jl_null (ad := ad) hx hb 1 dL_act_539 ?_
  refine lv_goto (tgt := 545) hx hb dL_act_540 (by decide) ?_
  exact w_L_act_545 V hA LX hG hH (jl_sub hl [0, 1, 2] rfl) hf hc hs
set_option maxHeartbeats 4000000 in
set_option maxRecDepth 100000 in
theorem w_L_act_543 (V : jV p s mm args meth c cL_act RL 14 (some .boolean) D g) (hA : ∀ q, s.heap.size ≤ q → A q) (LX : jLX l A s) {ad : Nat → Nat} {v2 : Int32} {v5 : Int32} {k : kS} {z : kS} {H : Heap} {locs : List Loc} {ls : Array Slot} {cells slots mc ms uc us : Nat} {o : (Int32 × kS × kS)} (hG : ad 0 = ad0 0) (hH : jH A s H locs D g ad z (jY adk g k mo) []) (hl : jl_has ls 14 [(0, .ref (adk 0)), (1, .ref (ad 0)), (2, .int v2), (5, jv ad 1 v5)]) (hf : F_L_act_543 v2 v5 k z = some (o, uc, us)) (hc : cells + uc = mc) (hs : slots + us = ms) : W p l e (rm_L_act mc ms) s mm args below meth c H locs cells slots (jLGi below args s D g A (fun a => a 0 = ad0 0) o.1 adk o.2.1 mo o.2.2 mc ms) (F0 mm 543 ls []) := by
  have hx := V.1
  have hb := V.2.1
  refine jl_aload hx hb dL_act_543 (lv_at hl.1 3 rfl) ?_
  exact w_L_act_545 V hA LX hG hH (jl_sub hl [0, 1, 2] rfl) hf hc hs
set_option maxHeartbeats 4000000 in
set_option maxRecDepth 100000 in
theorem w_L_act_529 (V : jV p s mm args meth c cL_act RL 14 (some .boolean) D g) (hA : ∀ q, s.heap.size ≤ q → A q) (LX : jLX l A s) {ad : Nat → Nat} {v2 : Int32} {v5 : Int32} {k : kS} {z : kS} {H : Heap} {locs : List Loc} {ls : Array Slot} {cells slots mc ms uc us : Nat} {o : (Int32 × kS × kS)} (hG : ad 0 = ad0 0) (hH : jH A s H locs D g ad z (jY adk g k mo) []) (hl : jl_has ls 14 [(0, .ref (adk 0)), (1, .ref (ad 0)), (2, .int v2), (5, jv ad 1 v5)]) (hf : F_L_act_529 v2 v5 k z = some (o, uc, us)) (hc : cells + uc = mc) (hs : slots + us = ms) : W p l e (rm_L_act mc ms) s mm args below meth c H locs cells slots (jLGi below args s D g A (fun a => a 0 = ad0 0) o.1 adk o.2.1 mo o.2.2 mc ms) (F0 mm 529 ls []) := by
  have hx := V.1
  have hb := V.2.1
  refine lv_iload_n hx hb dL_act_529 rfl (lv_at hl.1 2 rfl) ?_
  refine lv_iconst (v := 5) hx hb dL_act_530 (by decide) ?_
  refine lv_ishr hx hb dL_act_531 ?_
  refine lv_iconst (v := 5) hx hb dL_act_532 (by decide) ?_
  obtain ⟨x529_1, hx529_1, hf⟩ := kbind hf
  refine jr_calliR0 hA hH (jr_runS (as := [.int (v2 >>> (5 &&& 31)), .int 5]) (rest := []) V hH kYL_below kl_L_15 (c_L_below l _ _ hx529_1 _) rfl rfl ⟨Nat.le_of_ble_eq_true rfl, Nat.le_of_ble_eq_true rfl⟩ rfl hl.1.1 (Nat.le_of_ble_eq_true rfl) dL_act_533 ⟨by show cells + 0 ≤ mc; omega, by show slots + 0 ≤ ms; omega⟩ rfl) (fun H locs hH => ?_)
  refine lv_if_ne (tgt := 543) hx hb dL_act_536 (by decide) (fun hq => ?_) (fun hq => ?_)
  · have hf := kneg hq hf
    exact w_L_act_543 V hA LX hG hH (jl_sub hl [0, 1, 2, 3] rfl) hf hc hs
  · have hf := kpos hq hf
    exact w_L_act_539 V hA LX hG hH (jl_sub hl [0, 1, 2] rfl) hf hc hs
set_option maxHeartbeats 4000000 in
set_option maxRecDepth 100000 in
theorem w_L_act_521 (V : jV p s mm args meth c cL_act RL 14 (some .boolean) D g) (hA : ∀ q, s.heap.size ≤ q → A q) (LX : jLX l A s) {ad : Nat → Nat} {v2 : Int32} {v5 : Int32} {k : kS} {z : kS} {H : Heap} {locs : List Loc} {ls : Array Slot} {cells slots mc ms uc us : Nat} {o : (Int32 × kS × kS)} (hG : ad 0 = ad0 0) (hH : jH A s H locs D g ad z (jY adk g k mo) []) (hl : jl_has ls 14 [(0, .ref (adk 0)), (1, .ref (ad 0)), (2, .int v2), (5, jv ad 1 v5)]) (hf : F_L_act_521 v2 v5 k z = some (o, uc, us)) (hc : cells + uc = mc) (hs : slots + us = ms) : W p l e (rm_L_act mc ms) s mm args below meth c H locs cells slots (jLGi below args s D g A (fun a => a 0 = ad0 0) o.1 adk o.2.1 mo o.2.2 mc ms) (F0 mm 521 ls []) := by
  have hx := V.1
  have hb := V.2.1
  refine jl_aload hx hb dL_act_521 (lv_at hl.1 3 rfl) ?_
  obtain ⟨h521_1, hf⟩ := kif hf
  refine jg_P V hH h521_1 3 (by decide) kf_L_75 rfl dL_act_523 ?_
  refine lv_if_ge (tgt := 539) hx hb dL_act_526 (by decide) (fun hq => ?_) (fun hq => ?_)
  · have hf := kpos hq hf
    exact w_L_act_539 V hA LX hG hH (jl_sub hl [0, 1, 2] rfl) hf hc hs
  · have hf := kneg hq hf
    exact w_L_act_529 V hA LX hG hH (jl_sub hl [0, 1, 2, 3] rfl) hf hc hs
set_option maxHeartbeats 4000000 in
set_option maxRecDepth 100000 in
theorem w_L_act_509 (V : jV p s mm args meth c cL_act RL 14 (some .boolean) D g) (hA : ∀ q, s.heap.size ≤ q → A q) (LX : jLX l A s) {ad : Nat → Nat} {v2 : Int32} {v5 : Int32} {k : kS} {z : kS} {H : Heap} {locs : List Loc} {ls : Array Slot} {cells slots mc ms uc us : Nat} {o : (Int32 × kS × kS)} (hG : ad 0 = ad0 0) (hH : jH A s H locs D g ad z (jY adk g k mo) []) (hl : jl_has ls 14 [(0, .ref (adk 0)), (1, .ref (ad 0)), (2, .int v2), (5, jv ad 1 v5)]) (hf : F_L_act_509 v2 v5 k z = some (o, uc, us)) (hc : cells + uc = mc) (hs : slots + us = ms) : W p l e (rm_L_act mc ms) s mm args below meth c H locs cells slots (jLGi below args s D g A (fun a => a 0 = ad0 0) o.1 adk o.2.1 mo o.2.2 mc ms) (F0 mm 509 ls []) := by
  have hx := V.1
  have hb := V.2.1
  refine lv_aload_n hx hb dL_act_509 rfl (lv_at hl.1 1 rfl) ?_
  refine jg_S V hH 1 (by decide) kf_L_21 rfl dL_act_510 ?_
  refine jalen_8 V hH dL_act_513 ?_
  refine lv_bipush (v := 12) hx hb dL_act_514 (by decide) ?_
  refine lv_icmp_ne (tgt := 521) hx hb dL_act_516 (by decide) (fun hq => ?_) (fun hq => ?_)
  · have hf := kneg hq hf
    exact w_L_act_521 V hA LX hG hH (jl_sub hl [0, 1, 2, 3] rfl) hf hc hs
  · have hf := kpos hq hf
    exact w_L_act_519 V hA LX hG hH (jl_sub hl [] rfl) hf hc hs
set_option maxHeartbeats 4000000 in
set_option maxRecDepth 100000 in
theorem w_L_act_632 (V : jV p s mm args meth c cL_act RL 14 (some .boolean) D g) (hA : ∀ q, s.heap.size ≤ q → A q) (LX : jLX l A s) {ad : Nat → Nat} {k : kS} {z : kS} {H : Heap} {locs : List Loc} {ls : Array Slot} {cells slots mc ms uc us : Nat} {o : (Int32 × kS × kS)} (hG : ad 0 = ad0 0) (hH : jH A s H locs D g ad z (jY adk g k mo) []) (hl : jl_has ls 14 []) (hf : F_L_act_632 k z = some (o, uc, us)) (hc : cells + uc = mc) (hs : slots + us = ms) : W p l e (rm_L_act mc ms) s mm args below meth c H locs cells slots (jLGi below args s D g A (fun a => a 0 = ad0 0) o.1 adk o.2.1 mo o.2.2 mc ms) (F0 mm 632 ls []) := by
  have hx := V.1
  have hb := V.2.1
  refine lv_iconst (v := 1) hx hb dL_act_632 (by decide) ?_
  obtain ⟨h632_1, hf⟩ := kif hf
  cases hf
  subst hc
  subst hs
  exact jl_zret (G := fun a => a 0 = ad0 0) V hG hH (Decidable.not_not.mp h632_1) dL_act_633
set_option maxHeartbeats 4000000 in
set_option maxRecDepth 100000 in
theorem w_L_act_657 (V : jV p s mm args meth c cL_act RL 14 (some .boolean) D g) (hA : ∀ q, s.heap.size ≤ q → A q) (LX : jLX l A s) {ad : Nat → Nat} {s0 : Int32} {k : kS} {z : kS} {H : Heap} {locs : List Loc} {ls : Array Slot} {cells slots mc ms uc us : Nat} {o : (Int32 × kS × kS)} (hG : ad 0 = ad0 0) (hH : jH A s H locs D g ad z (jY adk g k mo) []) (hl : jl_has ls 14 []) (hf : F_L_act_657 s0 k z = some (o, uc, us)) (hc : cells + uc = mc) (hs : slots + us = ms) : W p l e (rm_L_act mc ms) s mm args below meth c H locs cells slots (jLGi below args s D g A (fun a => a 0 = ad0 0) o.1 adk o.2.1 mo o.2.2 mc ms) (F0 mm 657 ls [.int s0]) := by
  have hx := V.1
  have hb := V.2.1
  obtain ⟨h657_1, hf⟩ := kif hf
  cases hf
  subst hc
  subst hs
  exact jl_zret (G := fun a => a 0 = ad0 0) V hG hH (Decidable.not_not.mp h657_1) dL_act_657
set_option maxHeartbeats 4000000 in
set_option maxRecDepth 100000 in
theorem w_L_act_652 (V : jV p s mm args meth c cL_act RL 14 (some .boolean) D g) (hA : ∀ q, s.heap.size ≤ q → A q) (LX : jLX l A s) {ad : Nat → Nat} {k : kS} {z : kS} {H : Heap} {locs : List Loc} {ls : Array Slot} {cells slots mc ms uc us : Nat} {o : (Int32 × kS × kS)} (hG : ad 0 = ad0 0) (hH : jH A s H locs D g ad z (jY adk g k mo) []) (hl : jl_has ls 14 []) (hf : F_L_act_652 k z = some (o, uc, us)) (hc : cells + uc = mc) (hs : slots + us = ms) : W p l e (rm_L_act mc ms) s mm args below meth c H locs cells slots (jLGi below args s D g A (fun a => a 0 = ad0 0) o.1 adk o.2.1 mo o.2.2 mc ms) (F0 mm 652 ls []) := by
  have hx := V.1
  have hb := V.2.1
  refine lv_iconst (v := 1) hx hb dL_act_652 (by decide) ?_
  refine lv_goto (tgt := 657) hx hb dL_act_653 (by decide) ?_
  exact w_L_act_657 V hA LX hG hH (jl_sub hl [] rfl) hf hc hs
set_option maxHeartbeats 4000000 in
set_option maxRecDepth 100000 in
theorem w_L_act_656 (V : jV p s mm args meth c cL_act RL 14 (some .boolean) D g) (hA : ∀ q, s.heap.size ≤ q → A q) (LX : jLX l A s) {ad : Nat → Nat} {k : kS} {z : kS} {H : Heap} {locs : List Loc} {ls : Array Slot} {cells slots mc ms uc us : Nat} {o : (Int32 × kS × kS)} (hG : ad 0 = ad0 0) (hH : jH A s H locs D g ad z (jY adk g k mo) []) (hl : jl_has ls 14 []) (hf : F_L_act_656 k z = some (o, uc, us)) (hc : cells + uc = mc) (hs : slots + us = ms) : W p l e (rm_L_act mc ms) s mm args below meth c H locs cells slots (jLGi below args s D g A (fun a => a 0 = ad0 0) o.1 adk o.2.1 mo o.2.2 mc ms) (F0 mm 656 ls []) := by
  have hx := V.1
  have hb := V.2.1
  refine lv_iconst (v := 0) hx hb dL_act_656 (by decide) ?_
  exact w_L_act_657 V hA LX hG hH (jl_sub hl [] rfl) hf hc hs
set_option maxHeartbeats 4000000 in
set_option maxRecDepth 100000 in
theorem w_L_act_634 (V : jV p s mm args meth c cL_act RL 14 (some .boolean) D g) (hA : ∀ q, s.heap.size ≤ q → A q) (LX : jLX l A s) {ad : Nat → Nat} {v5 : Int32} {k : kS} {z : kS} {H : Heap} {locs : List Loc} {ls : Array Slot} {cells slots mc ms uc us : Nat} {o : (Int32 × kS × kS)} (hG : ad 0 = ad0 0) (hH : jH A s H locs D g ad z (jY adk g k mo) []) (hl : jl_has ls 14 [(0, .ref (adk 0)), (1, .ref (ad 0)), (5, jv ad 1 v5)]) (hf : F_L_act_634 v5 k z = some (o, uc, us)) (hc : cells + uc = mc) (hs : slots + us = ms) : W p l e (rm_L_act mc ms) s mm args below meth c H locs cells slots (jLGi below args s D g A (fun a => a 0 = ad0 0) o.1 adk o.2.1 mo o.2.2 mc ms) (F0 mm 634 ls []) := by
  have hx := V.1
  have hb := V.2.1
  refine lv_aload_n hx hb dL_act_634 rfl (lv_at hl.1 0 rfl) ?_
  refine jl_aload hx hb dL_act_635 (lv_at hl.1 2 rfl) ?_
  obtain ⟨h634_1, hf⟩ := kif hf
  refine jg_P V hH h634_1 0 (by decide) kf_L_34 rfl dL_act_637 ?_
  obtain ⟨x634_2, hx634_2, hf⟩ := kbind hf
  obtain ⟨h634_3, hf⟩ := kif hf
  obtain ⟨uc634_4, us634_5, hf, e1, e2⟩ := kadd_some2 hf
  have e1 : uc = 4 + uc634_4 := e1
  have e2 : us = 24 + us634_5 := e2
  have hc : cells + 4 + uc634_4 = mc := by rw [Nat.add_assoc, ← e1]; exact hc
  have hs : slots + 24 + us634_5 = ms := by rw [Nat.add_assoc, ← e2]; exact hs
  have lc : cells + 4 ≤ mc := Nat.le.intro hc
  have ls2 : slots + 24 ≤ ms := Nat.le.intro hs
  refine jc_callx V hA LX hH kYX5_annul kl_L_86 (c_X5_annul l LX.1 _ hx634_2 _) (Decidable.not_not.mp h634_3) rfl rfl ⟨Nat.le_of_ble_eq_true rfl, Nat.le_of_ble_eq_true rfl⟩ rfl hl.1.1 (as := [.int (z (4 * v5.toNatClampNeg + 1) 0)]) (rest := []) (Nat.le_of_ble_eq_true rfl) dL_act_640 ⟨lc, ls2⟩ rfl (fun H locs hH => ?_)
  refine lv_aload_n hx hb dL_act_643 rfl (lv_at hl.1 1 rfl) ?_
  refine jl_aload hx hb dL_act_644 (lv_at hl.1 2 rfl) ?_
  obtain ⟨x634_6, hx634_6, hf⟩ := kbind hf
  obtain ⟨uc634_7, us634_8, hf, e1, e2⟩ := kadd_some2 hf
  have e1 : uc634_4 = x634_6.2.1 + uc634_7 := e1
  have e2 : us634_5 = x634_6.2.2 + us634_8 := e2
  have hc : cells + 4 + x634_6.2.1 + uc634_7 = mc := by rw [Nat.add_assoc, ← e1]; exact hc
  have hs : slots + 24 + x634_6.2.2 + us634_8 = ms := by rw [Nat.add_assoc, ← e2]; exact hs
  have lc : cells + 4 + x634_6.2.1 ≤ mc := Nat.le.intro hc
  have ls2 : slots + 24 + x634_6.2.2 ≤ ms := Nat.le.intro hs
  refine jr_calli hA hH (jr_runV (as := [jv ad 1 v5]) (rest := [.int x634_2.1.2]) V hH kYX8_annul kl_L_90 (c_X8_annul l _ hx634_6 _) rfl rfl ⟨Nat.le_of_ble_eq_true rfl, Nat.le_of_ble_eq_true rfl⟩ rfl hl.1.1 (Nat.le_of_ble_eq_true rfl) dL_act_646 ⟨lc, ls2⟩ rfl) (fun ad634_1 H locs hm hH => ?_)
  have hG := (hm 0 (by decide)).trans hG
  have hl : jl_has ls 14 [(0, .ref (adk 0)), (1, .ref (ad634_1 0)), (5, jv ad634_1 1 v5)] := by simp only [jv, hm.r1, hm.r2, hm 0 (by decide), hm 4 (by decide), hm 8 (by decide)]; exact hl
  refine lv_icmp_ne (tgt := 656) hx hb dL_act_649 (by decide) (fun hq => ?_) (fun hq => ?_)
  · have hf := kneg hq hf
    exact w_L_act_656 V hA LX hG hH (jl_sub hl [] rfl) hf hc hs
  · have hf := kpos hq hf
    exact w_L_act_652 V hA LX hG hH (jl_sub hl [] rfl) hf hc hs
set_option maxHeartbeats 4000000 in
set_option maxRecDepth 100000 in
theorem w_L_act_622 (V : jV p s mm args meth c cL_act RL 14 (some .boolean) D g) (hA : ∀ q, s.heap.size ≤ q → A q) (LX : jLX l A s) {ad : Nat → Nat} {v2 : Int32} {v5 : Int32} {k : kS} {z : kS} {H : Heap} {locs : List Loc} {ls : Array Slot} {cells slots mc ms uc us : Nat} {o : (Int32 × kS × kS)} (hG : ad 0 = ad0 0) (hH : jH A s H locs D g ad z (jY adk g k mo) []) (hl : jl_has ls 14 [(0, .ref (adk 0)), (1, .ref (ad 0)), (2, .int v2), (5, jv ad 1 v5)]) (hf : F_L_act_622 v2 v5 k z = some (o, uc, us)) (hc : cells + uc = mc) (hs : slots + us = ms) : W p l e (rm_L_act mc ms) s mm args below meth c H locs cells slots (jLGi below args s D g A (fun a => a 0 = ad0 0) o.1 adk o.2.1 mo o.2.2 mc ms) (F0 mm 622 ls []) := by
  have hx := V.1
  have hb := V.2.1
  refine lv_iload_n hx hb dL_act_622 rfl (lv_at hl.1 2 rfl) ?_
  refine lv_iconst (v := 4) hx hb dL_act_623 (by decide) ?_
  refine lv_ishr hx hb dL_act_624 ?_
  refine lv_iconst (v := 2) hx hb dL_act_625 (by decide) ?_
  obtain ⟨x622_1, hx622_1, hf⟩ := kbind hf
  refine jr_calliR0 hA hH (jr_runS (as := [.int (v2 >>> (4 &&& 31)), .int 2]) (rest := []) V hH kYL_below kl_L_15 (c_L_below l _ _ hx622_1 _) rfl rfl ⟨Nat.le_of_ble_eq_true rfl, Nat.le_of_ble_eq_true rfl⟩ rfl hl.1.1 (Nat.le_of_ble_eq_true rfl) dL_act_626 ⟨by show cells + 0 ≤ mc; omega, by show slots + 0 ≤ ms; omega⟩ rfl) (fun H locs hH => ?_)
  refine lv_if_ne (tgt := 634) hx hb dL_act_629 (by decide) (fun hq => ?_) (fun hq => ?_)
  · have hf := kneg hq hf
    exact w_L_act_634 V hA LX hG hH (jl_sub hl [0, 1, 3] rfl) hf hc hs
  · have hf := kpos hq hf
    exact w_L_act_632 V hA LX hG hH (jl_sub hl [] rfl) hf hc hs
set_option maxHeartbeats 4000000 in
set_option maxRecDepth 100000 in
theorem w_L_act_614 (V : jV p s mm args meth c cL_act RL 14 (some .boolean) D g) (hA : ∀ q, s.heap.size ≤ q → A q) (LX : jLX l A s) {ad : Nat → Nat} {v2 : Int32} {v5 : Int32} {k : kS} {z : kS} {H : Heap} {locs : List Loc} {ls : Array Slot} {cells slots mc ms uc us : Nat} {o : (Int32 × kS × kS)} (hG : ad 0 = ad0 0) (hH : jH A s H locs D g ad z (jY adk g k mo) []) (hl : jl_has ls 14 [(0, .ref (adk 0)), (1, .ref (ad 0)), (2, .int v2), (5, jv ad 1 v5)]) (hf : F_L_act_614 v2 v5 k z = some (o, uc, us)) (hc : cells + uc = mc) (hs : slots + us = ms) : W p l e (rm_L_act mc ms) s mm args below meth c H locs cells slots (jLGi below args s D g A (fun a => a 0 = ad0 0) o.1 adk o.2.1 mo o.2.2 mc ms) (F0 mm 614 ls []) := by
  have hx := V.1
  have hb := V.2.1
  refine jl_aload hx hb dL_act_614 (lv_at hl.1 3 rfl) ?_
  obtain ⟨h614_1, hf⟩ := kif hf
  refine jg_P V hH h614_1 6 (by decide) kf_L_44 rfl dL_act_616 ?_
  refine jl_ifnull (tgt := 632) hx hb dL_act_619 (by decide) (fun hq => ?_) (fun hq => ?_)
  · have hf := kpos hq hf
    exact w_L_act_632 V hA LX hG hH (jl_sub hl [] rfl) hf hc hs
  · have hf := kneg hq hf
    exact w_L_act_622 V hA LX hG hH (jl_sub hl [0, 1, 2, 3] rfl) hf hc hs
set_option maxHeartbeats 4000000 in
set_option maxRecDepth 100000 in
theorem w_L_act_676 (V : jV p s mm args meth c cL_act RL 14 (some .boolean) D g) (hA : ∀ q, s.heap.size ≤ q → A q) (LX : jLX l A s) {ad : Nat → Nat} {k : kS} {z : kS} {H : Heap} {locs : List Loc} {ls : Array Slot} {cells slots mc ms uc us : Nat} {o : (Int32 × kS × kS)} (hG : ad 0 = ad0 0) (hH : jH A s H locs D g ad z (jY adk g k mo) []) (hl : jl_has ls 14 []) (hf : F_L_act_676 k z = some (o, uc, us)) (hc : cells + uc = mc) (hs : slots + us = ms) : W p l e (rm_L_act mc ms) s mm args below meth c H locs cells slots (jLGi below args s D g A (fun a => a 0 = ad0 0) o.1 adk o.2.1 mo o.2.2 mc ms) (F0 mm 676 ls []) := by
  have hx := V.1
  have hb := V.2.1
  refine lv_iconst (v := 1) hx hb dL_act_676 (by decide) ?_
  obtain ⟨h676_1, hf⟩ := kif hf
  cases hf
  subst hc
  subst hs
  exact jl_zret (G := fun a => a 0 = ad0 0) V hG hH (Decidable.not_not.mp h676_1) dL_act_677
set_option maxHeartbeats 4000000 in
set_option maxRecDepth 100000 in
theorem w_L_act_701 (V : jV p s mm args meth c cL_act RL 14 (some .boolean) D g) (hA : ∀ q, s.heap.size ≤ q → A q) (LX : jLX l A s) {ad : Nat → Nat} {s0 : Int32} {k : kS} {z : kS} {H : Heap} {locs : List Loc} {ls : Array Slot} {cells slots mc ms uc us : Nat} {o : (Int32 × kS × kS)} (hG : ad 0 = ad0 0) (hH : jH A s H locs D g ad z (jY adk g k mo) []) (hl : jl_has ls 14 []) (hf : F_L_act_701 s0 k z = some (o, uc, us)) (hc : cells + uc = mc) (hs : slots + us = ms) : W p l e (rm_L_act mc ms) s mm args below meth c H locs cells slots (jLGi below args s D g A (fun a => a 0 = ad0 0) o.1 adk o.2.1 mo o.2.2 mc ms) (F0 mm 701 ls [.int s0]) := by
  have hx := V.1
  have hb := V.2.1
  obtain ⟨h701_1, hf⟩ := kif hf
  cases hf
  subst hc
  subst hs
  exact jl_zret (G := fun a => a 0 = ad0 0) V hG hH (Decidable.not_not.mp h701_1) dL_act_701
set_option maxHeartbeats 4000000 in
set_option maxRecDepth 100000 in
theorem w_L_act_696 (V : jV p s mm args meth c cL_act RL 14 (some .boolean) D g) (hA : ∀ q, s.heap.size ≤ q → A q) (LX : jLX l A s) {ad : Nat → Nat} {k : kS} {z : kS} {H : Heap} {locs : List Loc} {ls : Array Slot} {cells slots mc ms uc us : Nat} {o : (Int32 × kS × kS)} (hG : ad 0 = ad0 0) (hH : jH A s H locs D g ad z (jY adk g k mo) []) (hl : jl_has ls 14 []) (hf : F_L_act_696 k z = some (o, uc, us)) (hc : cells + uc = mc) (hs : slots + us = ms) : W p l e (rm_L_act mc ms) s mm args below meth c H locs cells slots (jLGi below args s D g A (fun a => a 0 = ad0 0) o.1 adk o.2.1 mo o.2.2 mc ms) (F0 mm 696 ls []) := by
  have hx := V.1
  have hb := V.2.1
  refine lv_iconst (v := 1) hx hb dL_act_696 (by decide) ?_
  refine lv_goto (tgt := 701) hx hb dL_act_697 (by decide) ?_
  exact w_L_act_701 V hA LX hG hH (jl_sub hl [] rfl) hf hc hs
set_option maxHeartbeats 4000000 in
set_option maxRecDepth 100000 in
theorem w_L_act_700 (V : jV p s mm args meth c cL_act RL 14 (some .boolean) D g) (hA : ∀ q, s.heap.size ≤ q → A q) (LX : jLX l A s) {ad : Nat → Nat} {k : kS} {z : kS} {H : Heap} {locs : List Loc} {ls : Array Slot} {cells slots mc ms uc us : Nat} {o : (Int32 × kS × kS)} (hG : ad 0 = ad0 0) (hH : jH A s H locs D g ad z (jY adk g k mo) []) (hl : jl_has ls 14 []) (hf : F_L_act_700 k z = some (o, uc, us)) (hc : cells + uc = mc) (hs : slots + us = ms) : W p l e (rm_L_act mc ms) s mm args below meth c H locs cells slots (jLGi below args s D g A (fun a => a 0 = ad0 0) o.1 adk o.2.1 mo o.2.2 mc ms) (F0 mm 700 ls []) := by
  have hx := V.1
  have hb := V.2.1
  refine lv_iconst (v := 0) hx hb dL_act_700 (by decide) ?_
  exact w_L_act_701 V hA LX hG hH (jl_sub hl [] rfl) hf hc hs
set_option maxHeartbeats 4000000 in
set_option maxRecDepth 100000 in
theorem w_L_act_678 (V : jV p s mm args meth c cL_act RL 14 (some .boolean) D g) (hA : ∀ q, s.heap.size ≤ q → A q) (LX : jLX l A s) {ad : Nat → Nat} {v5 : Int32} {k : kS} {z : kS} {H : Heap} {locs : List Loc} {ls : Array Slot} {cells slots mc ms uc us : Nat} {o : (Int32 × kS × kS)} (hG : ad 0 = ad0 0) (hH : jH A s H locs D g ad z (jY adk g k mo) []) (hl : jl_has ls 14 [(0, .ref (adk 0)), (1, .ref (ad 0)), (5, jv ad 1 v5)]) (hf : F_L_act_678 v5 k z = some (o, uc, us)) (hc : cells + uc = mc) (hs : slots + us = ms) : W p l e (rm_L_act mc ms) s mm args below meth c H locs cells slots (jLGi below args s D g A (fun a => a 0 = ad0 0) o.1 adk o.2.1 mo o.2.2 mc ms) (F0 mm 678 ls []) := by
  have hx := V.1
  have hb := V.2.1
  refine lv_aload_n hx hb dL_act_678 rfl (lv_at hl.1 0 rfl) ?_
  refine jl_aload hx hb dL_act_679 (lv_at hl.1 2 rfl) ?_
  obtain ⟨h678_1, hf⟩ := kif hf
  refine jg_P V hH h678_1 0 (by decide) kf_L_34 rfl dL_act_681 ?_
  obtain ⟨x678_2, hx678_2, hf⟩ := kbind hf
  obtain ⟨h678_3, hf⟩ := kif hf
  obtain ⟨uc678_4, us678_5, hf, e1, e2⟩ := kadd_some2 hf
  have e1 : uc = 4 + uc678_4 := e1
  have e2 : us = 24 + us678_5 := e2
  have hc : cells + 4 + uc678_4 = mc := by rw [Nat.add_assoc, ← e1]; exact hc
  have hs : slots + 24 + us678_5 = ms := by rw [Nat.add_assoc, ← e2]; exact hs
  have lc : cells + 4 ≤ mc := Nat.le.intro hc
  have ls2 : slots + 24 ≤ ms := Nat.le.intro hs
  refine jc_callx V hA LX hH kYX5_die kl_L_92 (c_X5_die l LX.1 _ hx678_2 _) (Decidable.not_not.mp h678_3) rfl rfl ⟨Nat.le_of_ble_eq_true rfl, Nat.le_of_ble_eq_true rfl⟩ rfl hl.1.1 (as := [.int (z (4 * v5.toNatClampNeg + 1) 0)]) (rest := []) (Nat.le_of_ble_eq_true rfl) dL_act_684 ⟨lc, ls2⟩ rfl (fun H locs hH => ?_)
  refine lv_aload_n hx hb dL_act_687 rfl (lv_at hl.1 1 rfl) ?_
  refine jl_aload hx hb dL_act_688 (lv_at hl.1 2 rfl) ?_
  obtain ⟨x678_6, hx678_6, hf⟩ := kbind hf
  obtain ⟨uc678_7, us678_8, hf, e1, e2⟩ := kadd_some2 hf
  have e1 : uc678_4 = x678_6.2.1 + uc678_7 := e1
  have e2 : us678_5 = x678_6.2.2 + us678_8 := e2
  have hc : cells + 4 + x678_6.2.1 + uc678_7 = mc := by rw [Nat.add_assoc, ← e1]; exact hc
  have hs : slots + 24 + x678_6.2.2 + us678_8 = ms := by rw [Nat.add_assoc, ← e2]; exact hs
  have lc : cells + 4 + x678_6.2.1 ≤ mc := Nat.le.intro hc
  have ls2 : slots + 24 + x678_6.2.2 ≤ ms := Nat.le.intro hs
  refine jr_calli hA hH (jr_runV (as := [jv ad 1 v5]) (rest := [.int x678_2.1.2]) V hH kYX8_die kl_L_95 (c_X8_die l _ hx678_6 _) rfl rfl ⟨Nat.le_of_ble_eq_true rfl, Nat.le_of_ble_eq_true rfl⟩ rfl hl.1.1 (Nat.le_of_ble_eq_true rfl) dL_act_690 ⟨lc, ls2⟩ rfl) (fun ad678_1 H locs hm hH => ?_)
  have hG := (hm 0 (by decide)).trans hG
  have hl : jl_has ls 14 [(0, .ref (adk 0)), (1, .ref (ad678_1 0)), (5, jv ad678_1 1 v5)] := by simp only [jv, hm.r1, hm.r2, hm 0 (by decide), hm 4 (by decide), hm 8 (by decide)]; exact hl
  refine lv_icmp_ne (tgt := 700) hx hb dL_act_693 (by decide) (fun hq => ?_) (fun hq => ?_)
  · have hf := kneg hq hf
    exact w_L_act_700 V hA LX hG hH (jl_sub hl [] rfl) hf hc hs
  · have hf := kpos hq hf
    exact w_L_act_696 V hA LX hG hH (jl_sub hl [] rfl) hf hc hs
set_option maxHeartbeats 4000000 in
set_option maxRecDepth 100000 in
theorem w_L_act_666 (V : jV p s mm args meth c cL_act RL 14 (some .boolean) D g) (hA : ∀ q, s.heap.size ≤ q → A q) (LX : jLX l A s) {ad : Nat → Nat} {v2 : Int32} {v5 : Int32} {k : kS} {z : kS} {H : Heap} {locs : List Loc} {ls : Array Slot} {cells slots mc ms uc us : Nat} {o : (Int32 × kS × kS)} (hG : ad 0 = ad0 0) (hH : jH A s H locs D g ad z (jY adk g k mo) []) (hl : jl_has ls 14 [(0, .ref (adk 0)), (1, .ref (ad 0)), (2, .int v2), (5, jv ad 1 v5)]) (hf : F_L_act_666 v2 v5 k z = some (o, uc, us)) (hc : cells + uc = mc) (hs : slots + us = ms) : W p l e (rm_L_act mc ms) s mm args below meth c H locs cells slots (jLGi below args s D g A (fun a => a 0 = ad0 0) o.1 adk o.2.1 mo o.2.2 mc ms) (F0 mm 666 ls []) := by
  have hx := V.1
  have hb := V.2.1
  refine lv_iload_n hx hb dL_act_666 rfl (lv_at hl.1 2 rfl) ?_
  refine lv_iconst (v := 4) hx hb dL_act_667 (by decide) ?_
  refine lv_ishr hx hb dL_act_668 ?_
  refine lv_iconst (v := 2) hx hb dL_act_669 (by decide) ?_
  obtain ⟨x666_1, hx666_1, hf⟩ := kbind hf
  refine jr_calliR0 hA hH (jr_runS (as := [.int (v2 >>> (4 &&& 31)), .int 2]) (rest := []) V hH kYL_below kl_L_15 (c_L_below l _ _ hx666_1 _) rfl rfl ⟨Nat.le_of_ble_eq_true rfl, Nat.le_of_ble_eq_true rfl⟩ rfl hl.1.1 (Nat.le_of_ble_eq_true rfl) dL_act_670 ⟨by show cells + 0 ≤ mc; omega, by show slots + 0 ≤ ms; omega⟩ rfl) (fun H locs hH => ?_)
  refine lv_if_ne (tgt := 678) hx hb dL_act_673 (by decide) (fun hq => ?_) (fun hq => ?_)
  · have hf := kneg hq hf
    exact w_L_act_678 V hA LX hG hH (jl_sub hl [0, 1, 3] rfl) hf hc hs
  · have hf := kpos hq hf
    exact w_L_act_676 V hA LX hG hH (jl_sub hl [] rfl) hf hc hs
set_option maxHeartbeats 4000000 in
set_option maxRecDepth 100000 in
theorem w_L_act_658 (V : jV p s mm args meth c cL_act RL 14 (some .boolean) D g) (hA : ∀ q, s.heap.size ≤ q → A q) (LX : jLX l A s) {ad : Nat → Nat} {v2 : Int32} {v5 : Int32} {k : kS} {z : kS} {H : Heap} {locs : List Loc} {ls : Array Slot} {cells slots mc ms uc us : Nat} {o : (Int32 × kS × kS)} (hG : ad 0 = ad0 0) (hH : jH A s H locs D g ad z (jY adk g k mo) []) (hl : jl_has ls 14 [(0, .ref (adk 0)), (1, .ref (ad 0)), (2, .int v2), (5, jv ad 1 v5)]) (hf : F_L_act_658 v2 v5 k z = some (o, uc, us)) (hc : cells + uc = mc) (hs : slots + us = ms) : W p l e (rm_L_act mc ms) s mm args below meth c H locs cells slots (jLGi below args s D g A (fun a => a 0 = ad0 0) o.1 adk o.2.1 mo o.2.2 mc ms) (F0 mm 658 ls []) := by
  have hx := V.1
  have hb := V.2.1
  refine jl_aload hx hb dL_act_658 (lv_at hl.1 3 rfl) ?_
  obtain ⟨h658_1, hf⟩ := kif hf
  refine jg_P V hH h658_1 3 (by decide) kf_L_75 rfl dL_act_660 ?_
  refine lv_if_ge (tgt := 676) hx hb dL_act_663 (by decide) (fun hq => ?_) (fun hq => ?_)
  · have hf := kpos hq hf
    exact w_L_act_676 V hA LX hG hH (jl_sub hl [] rfl) hf hc hs
  · have hf := kneg hq hf
    exact w_L_act_666 V hA LX hG hH (jl_sub hl [0, 1, 2, 3] rfl) hf hc hs
set_option maxHeartbeats 4000000 in
set_option maxRecDepth 100000 in
theorem w_L_act_707 (V : jV p s mm args meth c cL_act RL 14 (some .boolean) D g) (hA : ∀ q, s.heap.size ≤ q → A q) (LX : jLX l A s) {ad : Nat → Nat} {k : kS} {z : kS} {H : Heap} {locs : List Loc} {ls : Array Slot} {cells slots mc ms uc us : Nat} {o : (Int32 × kS × kS)} (hG : ad 0 = ad0 0) (hH : jH A s H locs D g ad z (jY adk g k mo) []) (hl : jl_has ls 14 []) (hf : F_L_act_707 k z = some (o, uc, us)) (hc : cells + uc = mc) (hs : slots + us = ms) : W p l e (rm_L_act mc ms) s mm args below meth c H locs cells slots (jLGi below args s D g A (fun a => a 0 = ad0 0) o.1 adk o.2.1 mo o.2.2 mc ms) (F0 mm 707 ls []) := by
  have hx := V.1
  have hb := V.2.1
  refine lv_iconst (v := 1) hx hb dL_act_707 (by decide) ?_
  obtain ⟨h707_1, hf⟩ := kif hf
  cases hf
  subst hc
  subst hs
  exact jl_zret (G := fun a => a 0 = ad0 0) V hG hH (Decidable.not_not.mp h707_1) dL_act_708
set_option maxHeartbeats 4000000 in
set_option maxRecDepth 100000 in
theorem w_L_act_743 (V : jV p s mm args meth c cL_act RL 14 (some .boolean) D g) (hA : ∀ q, s.heap.size ≤ q → A q) (LX : jLX l A s) {c731 : Int32 → Int32 → Int32 → kS → kS → Option ((Int32 × kS × kS) × Nat × Nat)} (hk731 : ∀ {ad : Nat → Nat} {v7 : Int32} {v10 : Int32} {v11 : Int32} {k : kS} {z : kS} {H : Heap} {locs : List Loc} {ls : Array Slot} {cells slots mc ms uc us : Nat} {o : (Int32 × kS × kS)}, ad 0 = ad0 0 → jH A s H locs D g ad z (jY adk g k mo) [] → jl_has ls 14 [(0, .ref (adk 0)), (1, .ref (ad 0)), (7, jv ad 2 v7), (10, .int v10), (11, .int v11)] → c731 v7 v10 v11 k z = some (o, uc, us) → cells + uc = mc → slots + us = ms → W p l e (rm_L_act mc ms) s mm args below meth c H locs cells slots (jLGi below args s D g A (fun a => a 0 = ad0 0) o.1 adk o.2.1 mo o.2.2 mc ms) (F0 mm 731 ls [])) {ad : Nat → Nat} {v7 : Int32} {v10 : Int32} {v11 : Int32} {k : kS} {z : kS} {H : Heap} {locs : List Loc} {ls : Array Slot} {cells slots mc ms uc us : Nat} {o : (Int32 × kS × kS)} (hG : ad 0 = ad0 0) (hH : jH A s H locs D g ad z (jY adk g k mo) []) (hl : jl_has ls 14 [(0, .ref (adk 0)), (1, .ref (ad 0)), (7, jv ad 2 v7), (10, .int v10), (11, .int v11)]) (hf : F_L_act_743 c731 v7 v10 v11 k z = some (o, uc, us)) (hc : cells + uc = mc) (hs : slots + us = ms) : W p l e (rm_L_act mc ms) s mm args below meth c H locs cells slots (jLGi below args s D g A (fun a => a 0 = ad0 0) o.1 adk o.2.1 mo o.2.2 mc ms) (F0 mm 743 ls []) := by
  have hx := V.1
  have hb := V.2.1
  refine jl_iinc (v := (v11 + 1)) (lv' := [(11, .int (v11 + 1)), (0, .ref (adk 0)), (1, .ref (ad 0)), (7, jv ad 2 v7), (10, .int v10)]) hx hb dL_act_743 hl (k := 4) rfl rfl (by decide) rfl (fun ls hl => ?_)
  refine lv_goto (tgt := 731) hx hb dL_act_746 (by decide) ?_
  exact hk731 hG hH (jl_sub hl [1, 2, 3, 4, 0] rfl) hf hc hs
set_option maxHeartbeats 4000000 in
set_option maxRecDepth 100000 in
theorem w_L_act_770 (V : jV p s mm args meth c cL_act RL 14 (some .boolean) D g) (hA : ∀ q, s.heap.size ≤ q → A q) (LX : jLX l A s) {ad : Nat → Nat} {s0 : Int32} {k : kS} {z : kS} {H : Heap} {locs : List Loc} {ls : Array Slot} {cells slots mc ms uc us : Nat} {o : (Int32 × kS × kS)} (hG : ad 0 = ad0 0) (hH : jH A s H locs D g ad z (jY adk g k mo) []) (hl : jl_has ls 14 []) (hf : F_L_act_770 s0 k z = some (o, uc, us)) (hc : cells + uc = mc) (hs : slots + us = ms) : W p l e (rm_L_act mc ms) s mm args below meth c H locs cells slots (jLGi below args s D g A (fun a => a 0 = ad0 0) o.1 adk o.2.1 mo o.2.2 mc ms) (F0 mm 770 ls [.int s0]) := by
  have hx := V.1
  have hb := V.2.1
  obtain ⟨h770_1, hf⟩ := kif hf
  cases hf
  subst hc
  subst hs
  exact jl_zret (G := fun a => a 0 = ad0 0) V hG hH (Decidable.not_not.mp h770_1) dL_act_770
set_option maxHeartbeats 4000000 in
set_option maxRecDepth 100000 in
theorem w_L_act_765 (V : jV p s mm args meth c cL_act RL 14 (some .boolean) D g) (hA : ∀ q, s.heap.size ≤ q → A q) (LX : jLX l A s) {ad : Nat → Nat} {k : kS} {z : kS} {H : Heap} {locs : List Loc} {ls : Array Slot} {cells slots mc ms uc us : Nat} {o : (Int32 × kS × kS)} (hG : ad 0 = ad0 0) (hH : jH A s H locs D g ad z (jY adk g k mo) []) (hl : jl_has ls 14 []) (hf : F_L_act_765 k z = some (o, uc, us)) (hc : cells + uc = mc) (hs : slots + us = ms) : W p l e (rm_L_act mc ms) s mm args below meth c H locs cells slots (jLGi below args s D g A (fun a => a 0 = ad0 0) o.1 adk o.2.1 mo o.2.2 mc ms) (F0 mm 765 ls []) := by
  have hx := V.1
  have hb := V.2.1
  refine lv_iconst (v := 1) hx hb dL_act_765 (by decide) ?_
  refine lv_goto (tgt := 770) hx hb dL_act_766 (by decide) ?_
  exact w_L_act_770 V hA LX hG hH (jl_sub hl [] rfl) hf hc hs
set_option maxHeartbeats 4000000 in
set_option maxRecDepth 100000 in
theorem w_L_act_769 (V : jV p s mm args meth c cL_act RL 14 (some .boolean) D g) (hA : ∀ q, s.heap.size ≤ q → A q) (LX : jLX l A s) {ad : Nat → Nat} {k : kS} {z : kS} {H : Heap} {locs : List Loc} {ls : Array Slot} {cells slots mc ms uc us : Nat} {o : (Int32 × kS × kS)} (hG : ad 0 = ad0 0) (hH : jH A s H locs D g ad z (jY adk g k mo) []) (hl : jl_has ls 14 []) (hf : F_L_act_769 k z = some (o, uc, us)) (hc : cells + uc = mc) (hs : slots + us = ms) : W p l e (rm_L_act mc ms) s mm args below meth c H locs cells slots (jLGi below args s D g A (fun a => a 0 = ad0 0) o.1 adk o.2.1 mo o.2.2 mc ms) (F0 mm 769 ls []) := by
  have hx := V.1
  have hb := V.2.1
  refine lv_iconst (v := 0) hx hb dL_act_769 (by decide) ?_
  exact w_L_act_770 V hA LX hG hH (jl_sub hl [] rfl) hf hc hs
set_option maxHeartbeats 4000000 in
set_option maxRecDepth 100000 in
theorem w_L_act_749 (V : jV p s mm args meth c cL_act RL 14 (some .boolean) D g) (hA : ∀ q, s.heap.size ≤ q → A q) (LX : jLX l A s) {ad : Nat → Nat} {v7 : Int32} {v10 : Int32} {v11 : Int32} {k : kS} {z : kS} {H : Heap} {locs : List Loc} {ls : Array Slot} {cells slots mc ms uc us : Nat} {o : (Int32 × kS × kS)} (hG : ad 0 = ad0 0) (hH : jH A s H locs D g ad z (jY adk g k mo) []) (hl : jl_has ls 14 [(0, .ref (adk 0)), (7, jv ad 2 v7), (10, .int v10), (11, .int v11)]) (hf : F_L_act_749 v7 v10 v11 k z = some (o, uc, us)) (hc : cells + uc = mc) (hs : slots + us = ms) : W p l e (rm_L_act mc ms) s mm args below meth c H locs cells slots (jLGi below args s D g A (fun a => a 0 = ad0 0) o.1 adk o.2.1 mo o.2.2 mc ms) (F0 mm 749 ls []) := by
  have hx := V.1
  have hb := V.2.1
  refine lv_aload_n hx hb dL_act_749 rfl (lv_at hl.1 0 rfl) ?_
  refine lv_iload hx hb dL_act_750 (lv_at hl.1 3 rfl) ?_
  refine jl_aload hx hb dL_act_752 (lv_at hl.1 1 rfl) ?_
  obtain ⟨h749_1, hf⟩ := kif hf
  refine jg_L V hH h749_1 1 (by decide) kf_L_97 rfl dL_act_754 ?_
  obtain ⟨x749_2, hx749_2, hf⟩ := kbind hf
  obtain ⟨h749_3, hf⟩ := kif hf
  obtain ⟨uc749_4, us749_5, hf, e1, e2⟩ := kadd_some2 hf
  have e1 : uc = 4 + uc749_4 := e1
  have e2 : us = 24 + us749_5 := e2
  have hc : cells + 4 + uc749_4 = mc := by rw [Nat.add_assoc, ← e1]; exact hc
  have hs : slots + 24 + us749_5 = ms := by rw [Nat.add_assoc, ← e2]; exact hs
  have lc : cells + 4 ≤ mc := Nat.le.intro hc
  have ls2 : slots + 24 ≤ ms := Nat.le.intro hs
  refine jc_callx V hA LX hH kYX5_setLaw kl_L_100 (c_X5_setLaw l LX.1 _ _ hx749_2 _) (Decidable.not_not.mp h749_3) rfl rfl ⟨Nat.le_of_ble_eq_true rfl, Nat.le_of_ble_eq_true rfl⟩ rfl hl.1.1 (as := [.int v11, .int (z (4 * v7.toNatClampNeg + 2) 1)]) (rest := []) (Nat.le_of_ble_eq_true rfl) dL_act_757 ⟨lc, ls2⟩ rfl (fun H locs hH => ?_)
  refine lv_iload hx hb dL_act_760 (lv_at hl.1 2 rfl) ?_
  refine lv_icmp_ne (tgt := 769) hx hb dL_act_762 (by decide) (fun hq => ?_) (fun hq => ?_)
  · have hf := kneg hq hf
    exact w_L_act_769 V hA LX hG hH (jl_sub hl [] rfl) hf hc hs
  · have hf := kpos hq hf
    exact w_L_act_765 V hA LX hG hH (jl_sub hl [] rfl) hf hc hs
set_option maxHeartbeats 4000000 in
set_option maxRecDepth 100000 in
theorem w_L_act_731 (V : jV p s mm args meth c cL_act RL 14 (some .boolean) D g) (hA : ∀ q, s.heap.size ≤ q → A q) (LX : jLX l A s) : ∀ (n : Nat) {ad : Nat → Nat} {v7 : Int32} {v10 : Int32} {v11 : Int32} {k : kS} {z : kS} {H : Heap} {locs : List Loc} {ls : Array Slot} {cells slots mc ms uc us : Nat} {o : (Int32 × kS × kS)}, ad 0 = ad0 0 → jH A s H locs D g ad z (jY adk g k mo) [] → jl_has ls 14 [(0, .ref (adk 0)), (1, .ref (ad 0)), (7, jv ad 2 v7), (10, .int v10), (11, .int v11)] → F_L_act_731 n v7 v10 v11 k z = some (o, uc, us) → cells + uc = mc → slots + us = ms → W p l e (rm_L_act mc ms) s mm args below meth c H locs cells slots (jLGi below args s D g A (fun a => a 0 = ad0 0) o.1 adk o.2.1 mo o.2.2 mc ms) (F0 mm 731 ls []) := by
  have hx := V.1
  have hb := V.2.1
  intro n
  induction n with
  | zero => intro _ _ _ _ _ _ _ _ _ _ _ _ _ _ _ _ hG hH hl hf hc hs; cases hf
  | succ n hk731 =>
    intro ad v7 v10 v11 k z H locs ls cells slots mc ms uc us o hG hH hl hf hc hs
    refine lv_aload_n hx hb dL_act_731 rfl (lv_at hl.1 1 rfl) ?_
    refine jg_S V hH 1 (by decide) kf_L_21 rfl dL_act_732 ?_
    refine lv_iload hx hb dL_act_735 (lv_at hl.1 4 rfl) ?_
    obtain ⟨h731_1, hf⟩ := kif hf
    refine jald_8 V hH h731_1 dL_act_737 ?_
    refine jl_aload hx hb dL_act_738 (lv_at hl.1 2 rfl) ?_
    obtain ⟨h731_2, hf⟩ := kif hf
    obtain ⟨h731_3, hf⟩ := kif hf
    refine jl_acmp_eq2 V hH (tgt := 749) h731_2 h731_3 dL_act_740 (by decide) (fun hq => ?_) (fun hq => ?_)
    · have hf := kpos hq hf
      exact w_L_act_749 V hA LX hG hH (jl_sub hl [0, 2, 3, 4] rfl) hf hc hs
    · have hf := kneg hq hf
      exact w_L_act_743 V hA LX hk731 hG hH (jl_sub hl [0, 1, 2, 3, 4] rfl) hf hc hs
set_option maxHeartbeats 4000000 in
set_option maxRecDepth 100000 in
theorem w_L_act_709 (V : jV p s mm args meth c cL_act RL 14 (some .boolean) D g) (hA : ∀ q, s.heap.size ≤ q → A q) (LX : jLX l A s) {ad : Nat → Nat} {v2 : Int32} {v7 : Int32} {k : kS} {z : kS} {H : Heap} {locs : List Loc} {ls : Array Slot} {cells slots mc ms uc us : Nat} {o : (Int32 × kS × kS)} (hG : ad 0 = ad0 0) (hH : jH A s H locs D g ad z (jY adk g k mo) []) (hl : jl_has ls 14 [(0, .ref (adk 0)), (1, .ref (ad 0)), (2, .int v2), (7, jv ad 2 v7)]) (hf : F_L_act_709 v2 v7 k z = some (o, uc, us)) (hc : cells + uc = mc) (hs : slots + us = ms) : W p l e (rm_L_act mc ms) s mm args below meth c H locs cells slots (jLGi below args s D g A (fun a => a 0 = ad0 0) o.1 adk o.2.1 mo o.2.2 mc ms) (F0 mm 709 ls []) := by
  have hx := V.1
  have hb := V.2.1
  refine jl_aload hx hb dL_act_709 (lv_at hl.1 3 rfl) ?_
  obtain ⟨h709_1, hf⟩ := kif hf
  refine jg_L V hH h709_1 1 (by decide) kf_L_97 rfl dL_act_711 ?_
  refine jl_istore (lv' := [(10, .int (z (4 * v7.toNatClampNeg + 2) 1)), (0, .ref (adk 0)), (1, .ref (ad 0)), (2, .int v2), (7, jv ad 2 v7)]) hx hb dL_act_714 hl (by decide) rfl (fun ls hl => ?_)
  refine jl_aload hx hb dL_act_716 (lv_at hl.1 4 rfl) ?_
  refine lv_iload_n hx hb dL_act_718 rfl (lv_at hl.1 3 rfl) ?_
  refine lv_iconst (v := 2) hx hb dL_act_719 (by decide) ?_
  refine lv_ishr hx hb dL_act_720 ?_
  refine lv_iconst (v := 4) hx hb dL_act_721 (by decide) ?_
  obtain ⟨x709_2, hx709_2, hf⟩ := kbind hf
  refine jr_calliR0 hA hH (jr_runS (as := [.int (v2 >>> (2 &&& 31)), .int 4]) (rest := [jv ad 2 v7]) V hH kYL_below kl_L_15 (c_L_below l _ _ hx709_2 _) rfl rfl ⟨Nat.le_of_ble_eq_true rfl, Nat.le_of_ble_eq_true rfl⟩ rfl hl.1.1 (Nat.le_of_ble_eq_true rfl) dL_act_722 ⟨by show cells + 0 ≤ mc; omega, by show slots + 0 ≤ ms; omega⟩ rfl) (fun H locs hH => ?_)
  obtain ⟨h709_3, hf⟩ := kif hf
  refine jp_L1 V hH h709_3 kf_L_97 dL_act_725 (fun H locs hH => ?_)
  refine lv_iconst (v := 0) hx hb dL_act_728 (by decide) ?_
  refine jl_istore (lv' := [(11, .int 0), (10, .int (z (4 * v7.toNatClampNeg + 2) 1)), (0, .ref (adk 0)), (1, .ref (ad 0)), (2, .int v2), (7, jv ad 2 v7)]) hx hb dL_act_729 hl (by decide) rfl (fun ls hl => ?_)
  exact w_L_act_731 V hA LX kN hG hH (jl_sub hl [2, 3, 5, 1, 0] rfl) hf hc hs
set_option maxHeartbeats 4000000 in
set_option maxRecDepth 100000 in
theorem w_L_act_702 (V : jV p s mm args meth c cL_act RL 14 (some .boolean) D g) (hA : ∀ q, s.heap.size ≤ q → A q) (LX : jLX l A s) {ad : Nat → Nat} {v2 : Int32} {v7 : Int32} {k : kS} {z : kS} {H : Heap} {locs : List Loc} {ls : Array Slot} {cells slots mc ms uc us : Nat} {o : (Int32 × kS × kS)} (hG : ad 0 = ad0 0) (hH : jH A s H locs D g ad z (jY adk g k mo) []) (hl : jl_has ls 14 [(0, .ref (adk 0)), (1, .ref (ad 0)), (2, .int v2), (7, jv ad 2 v7)]) (hf : F_L_act_702 v2 v7 k z = some (o, uc, us)) (hc : cells + uc = mc) (hs : slots + us = ms) : W p l e (rm_L_act mc ms) s mm args below meth c H locs cells slots (jLGi below args s D g A (fun a => a 0 = ad0 0) o.1 adk o.2.1 mo o.2.2 mc ms) (F0 mm 702 ls []) := by
  have hx := V.1
  have hb := V.2.1
  refine jl_aload hx hb dL_act_702 (lv_at hl.1 3 rfl) ?_
  refine jl_ifnonnull (tgt := 709) hx hb dL_act_704 (by decide) (fun hq => ?_) (fun hq => ?_)
  · have hf := kneg hq hf
    exact w_L_act_709 V hA LX hG hH (jl_sub hl [0, 1, 2, 3] rfl) hf hc hs
  · have hf := kpos hq hf
    exact w_L_act_707 V hA LX hG hH (jl_sub hl [] rfl) hf hc hs
set_option maxHeartbeats 4000000 in
set_option maxRecDepth 100000 in
theorem w_L_act_96 (V : jV p s mm args meth c cL_act RL 14 (some .boolean) D g) (hA : ∀ q, s.heap.size ≤ q → A q) (LX : jLX l A s) {ad : Nat → Nat} {s0 : Int32} {v2 : Int32} {v3 : Int32} {v4 : Int32} {v5 : Int32} {v6 : Int32} {k : kS} {z : kS} {H : Heap} {locs : List Loc} {ls : Array Slot} {cells slots mc ms uc us : Nat} {o : (Int32 × kS × kS)} (hG : ad 0 = ad0 0) (hH : jH A s H locs D g ad z (jY adk g k mo) []) (hl : jl_has ls 14 [(0, .ref (adk 0)), (1, .ref (ad 0)), (2, .int v2), (3, .int v3), (4, .int v4), (5, jv ad 1 v5), (6, jv ad 1 v6)]) (hf : F_L_act_96 s0 v2 v3 v4 v5 v6 k z = some (o, uc, us)) (hc : cells + uc = mc) (hs : slots + us = ms) : W p l e (rm_L_act mc ms) s mm args below meth c H locs cells slots (jLGi below args s D g A (fun a => a 0 = ad0 0) o.1 adk o.2.1 mo o.2.2 mc ms) (F0 mm 96 ls [jv ad 2 s0]) := by
  have hx := V.1
  have hb := V.2.1
  refine jl_astore (lv' := [(7, jv ad 2 s0), (0, .ref (adk 0)), (1, .ref (ad 0)), (2, .int v2), (3, .int v3), (4, .int v4), (5, jv ad 1 v5), (6, jv ad 1 v6)]) hx hb dL_act_96 hl (by decide) rfl (fun ls hl => ?_)
  refine lv_iload hx hb dL_act_98 (lv_at hl.1 5 rfl) ?_
  by_cases hq0 : v4 = 0
  · have hf := kpos hq0 hf
    refine lv_tableIn (tgt := 160) hx hb dL_act_100 (by rw [hq0]; decide) (by rw [hq0]; decide) (by rw [hq0]; rfl) (by decide) ?_
    exact w_L_act_160 V hA LX hG hH (jl_sub hl [1, 2, 3, 4] rfl) hf hc hs
  have hf := kneg hq0 hf
  by_cases hq1 : v4 = 1
  · have hf := kpos hq1 hf
    refine lv_tableIn (tgt := 228) hx hb dL_act_100 (by rw [hq1]; decide) (by rw [hq1]; decide) (by rw [hq1]; rfl) (by decide) ?_
    exact w_L_act_228 V hA LX hG hH (jl_sub hl [1, 2, 3, 4, 6] rfl) hf hc hs
  have hf := kneg hq1 hf
  by_cases hq2 : v4 = 2
  · have hf := kpos hq2 hf
    refine lv_tableIn (tgt := 228) hx hb dL_act_100 (by rw [hq2]; decide) (by rw [hq2]; decide) (by rw [hq2]; rfl) (by decide) ?_
    exact w_L_act_228 V hA LX hG hH (jl_sub hl [1, 2, 3, 4, 6] rfl) hf hc hs
  have hf := kneg hq2 hf
  by_cases hq3 : v4 = 3
  · have hf := kpos hq3 hf
    refine lv_tableIn (tgt := 228) hx hb dL_act_100 (by rw [hq3]; decide) (by rw [hq3]; decide) (by rw [hq3]; rfl) (by decide) ?_
    exact w_L_act_228 V hA LX hG hH (jl_sub hl [1, 2, 3, 4, 6] rfl) hf hc hs
  have hf := kneg hq3 hf
  by_cases hq4 : v4 = 4
  · have hf := kpos hq4 hf
    refine lv_tableIn (tgt := 228) hx hb dL_act_100 (by rw [hq4]; decide) (by rw [hq4]; decide) (by rw [hq4]; rfl) (by decide) ?_
    exact w_L_act_228 V hA LX hG hH (jl_sub hl [1, 2, 3, 4, 6] rfl) hf hc hs
  have hf := kneg hq4 hf
  by_cases hq5 : v4 = 5
  · have hf := kpos hq5 hf
    refine lv_tableIn (tgt := 342) hx hb dL_act_100 (by rw [hq5]; decide) (by rw [hq5]; decide) (by rw [hq5]; rfl) (by decide) ?_
    exact w_L_act_342 V hA LX hG hH (jl_sub hl [1, 2, 4, 6, 7, 0] rfl) hf hc hs
  have hf := kneg hq5 hf
  by_cases hq6 : v4 = 6
  · have hf := kpos hq6 hf
    refine lv_tableIn (tgt := 342) hx hb dL_act_100 (by rw [hq6]; decide) (by rw [hq6]; decide) (by rw [hq6]; rfl) (by decide) ?_
    exact w_L_act_342 V hA LX hG hH (jl_sub hl [1, 2, 4, 6, 7, 0] rfl) hf hc hs
  have hf := kneg hq6 hf
  by_cases hq7 : v4 = 7
  · have hf := kpos hq7 hf
    refine lv_tableIn (tgt := 342) hx hb dL_act_100 (by rw [hq7]; decide) (by rw [hq7]; decide) (by rw [hq7]; rfl) (by decide) ?_
    exact w_L_act_342 V hA LX hG hH (jl_sub hl [1, 2, 4, 6, 7, 0] rfl) hf hc hs
  have hf := kneg hq7 hf
  by_cases hq8 : v4 = 8
  · have hf := kpos hq8 hf
    refine lv_tableIn (tgt := 509) hx hb dL_act_100 (by rw [hq8]; decide) (by rw [hq8]; decide) (by rw [hq8]; rfl) (by decide) ?_
    exact w_L_act_509 V hA LX hG hH (jl_sub hl [1, 2, 3, 6] rfl) hf hc hs
  have hf := kneg hq8 hf
  by_cases hq9 : v4 = 9
  · have hf := kpos hq9 hf
    refine lv_tableIn (tgt := 614) hx hb dL_act_100 (by rw [hq9]; decide) (by rw [hq9]; decide) (by rw [hq9]; rfl) (by decide) ?_
    exact w_L_act_614 V hA LX hG hH (jl_sub hl [1, 2, 3, 6] rfl) hf hc hs
  have hf := kneg hq9 hf
  by_cases hq10 : v4 = 10
  · have hf := kpos hq10 hf
    refine lv_tableIn (tgt := 658) hx hb dL_act_100 (by rw [hq10]; decide) (by rw [hq10]; decide) (by rw [hq10]; rfl) (by decide) ?_
    exact w_L_act_658 V hA LX hG hH (jl_sub hl [1, 2, 3, 6] rfl) hf hc hs
  have hf := kneg hq10 hf
  refine lv_tableOut (tgt := 702) hx hb dL_act_100 (by have z0 := kne (n := 0) hq0 (by decide) (by decide); have z1 := kne (n := 1) hq1 (by decide) (by decide); have z2 := kne (n := 2) hq2 (by decide) (by decide); have z3 := kne (n := 3) hq3 (by decide) (by decide); have z4 := kne (n := 4) hq4 (by decide) (by decide); have z5 := kne (n := 5) hq5 (by decide) (by decide); have z6 := kne (n := 6) hq6 (by decide) (by decide); have z7 := kne (n := 7) hq7 (by decide) (by decide); have z8 := kne (n := 8) hq8 (by decide) (by decide); have z9 := kne (n := 9) hq9 (by decide) (by decide); have z10 := kne (n := 10) hq10 (by decide) (by decide); omega) (by decide) ?_
  exact w_L_act_702 V hA LX hG hH (jl_sub hl [1, 2, 3, 0] rfl) hf hc hs
set_option maxHeartbeats 4000000 in
set_option maxRecDepth 100000 in
theorem w_L_act_76 (V : jV p s mm args meth c cL_act RL 14 (some .boolean) D g) (hA : ∀ q, s.heap.size ≤ q → A q) (LX : jLX l A s) {ad : Nat → Nat} {v2 : Int32} {v3 : Int32} {v4 : Int32} {v5 : Int32} {v6 : Int32} {k : kS} {z : kS} {H : Heap} {locs : List Loc} {ls : Array Slot} {cells slots mc ms uc us : Nat} {o : (Int32 × kS × kS)} (hG : ad 0 = ad0 0) (hH : jH A s H locs D g ad z (jY adk g k mo) []) (hl : jl_has ls 14 [(0, .ref (adk 0)), (1, .ref (ad 0)), (2, .int v2), (3, .int v3), (4, .int v4), (5, jv ad 1 v5), (6, jv ad 1 v6)]) (hf : F_L_act_76 v2 v3 v4 v5 v6 k z = some (o, uc, us)) (hc : cells + uc = mc) (hs : slots + us = ms) : W p l e (rm_L_act mc ms) s mm args below meth c H locs cells slots (jLGi below args s D g A (fun a => a 0 = ad0 0) o.1 adk o.2.1 mo o.2.2 mc ms) (F0 mm 76 ls []) := by
  have hx := V.1
  have hb := V.2.1
  refine jl_null (ad := ad) hx hb 2 dL_act_76 ?_
  refine lv_goto (tgt := 96) hx hb dL_act_77 (by decide) ?_
  exact w_L_act_96 V hA LX hG hH (jl_sub hl [0, 1, 2, 3, 4, 5, 6] rfl) hf hc hs
set_option maxHeartbeats 4000000 in
set_option maxRecDepth 100000 in
theorem w_L_act_80 (V : jV p s mm args meth c cL_act RL 14 (some .boolean) D g) (hA : ∀ q, s.heap.size ≤ q → A q) (LX : jLX l A s) {ad : Nat → Nat} {v2 : Int32} {v3 : Int32} {v4 : Int32} {v5 : Int32} {v6 : Int32} {k : kS} {z : kS} {H : Heap} {locs : List Loc} {ls : Array Slot} {cells slots mc ms uc us : Nat} {o : (Int32 × kS × kS)} (hG : ad 0 = ad0 0) (hH : jH A s H locs D g ad z (jY adk g k mo) []) (hl : jl_has ls 14 [(0, .ref (adk 0)), (1, .ref (ad 0)), (2, .int v2), (3, .int v3), (4, .int v4), (5, jv ad 1 v5), (6, jv ad 1 v6)]) (hf : F_L_act_80 v2 v3 v4 v5 v6 k z = some (o, uc, us)) (hc : cells + uc = mc) (hs : slots + us = ms) : W p l e (rm_L_act mc ms) s mm args below meth c H locs cells slots (jLGi below args s D g A (fun a => a 0 = ad0 0) o.1 adk o.2.1 mo o.2.2 mc ms) (F0 mm 80 ls []) := by
  have hx := V.1
  have hb := V.2.1
  refine lv_aload_n hx hb dL_act_80 rfl (lv_at hl.1 1 rfl) ?_
  refine jg_S V hH 1 (by decide) kf_L_21 rfl dL_act_81 ?_
  refine lv_iload_n hx hb dL_act_84 rfl (lv_at hl.1 2 rfl) ?_
  refine lv_iconst (v := 4) hx hb dL_act_85 (by decide) ?_
  refine lv_ishr hx hb dL_act_86 ?_
  refine lv_aload_n hx hb dL_act_87 rfl (lv_at hl.1 1 rfl) ?_
  refine jg_S V hH 1 (by decide) kf_L_21 rfl dL_act_88 ?_
  refine jalen_8 V hH dL_act_91 ?_
  obtain ⟨x80_1, hx80_1, hf⟩ := kbind hf
  refine jr_calliR0 hA hH (jr_runS (as := [.int (v2 >>> (4 &&& 31)), .int (nI (z 12 1).toNatClampNeg)]) (rest := [.ref (ad 8)]) V hH kYL_below kl_L_15 (c_L_below l _ _ hx80_1 _) rfl rfl ⟨Nat.le_of_ble_eq_true rfl, Nat.le_of_ble_eq_true rfl⟩ rfl hl.1.1 (Nat.le_of_ble_eq_true rfl) dL_act_92 ⟨by show cells + 0 ≤ mc; omega, by show slots + 0 ≤ ms; omega⟩ rfl) (fun H locs hH => ?_)
  obtain ⟨h80_2, hf⟩ := kif hf
  refine jald_8 V hH h80_2 dL_act_95 ?_
  exact w_L_act_96 V hA LX hG hH (jl_sub hl [0, 1, 2, 3, 4, 5, 6] rfl) hf hc hs
set_option maxHeartbeats 4000000 in
set_option maxRecDepth 100000 in
theorem w_L_act_66 (V : jV p s mm args meth c cL_act RL 14 (some .boolean) D g) (hA : ∀ q, s.heap.size ≤ q → A q) (LX : jLX l A s) {ad : Nat → Nat} {s0 : Int32} {v2 : Int32} {v3 : Int32} {v4 : Int32} {v5 : Int32} {k : kS} {z : kS} {H : Heap} {locs : List Loc} {ls : Array Slot} {cells slots mc ms uc us : Nat} {o : (Int32 × kS × kS)} (hG : ad 0 = ad0 0) (hH : jH A s H locs D g ad z (jY adk g k mo) []) (hl : jl_has ls 14 [(0, .ref (adk 0)), (1, .ref (ad 0)), (2, .int v2), (3, .int v3), (4, .int v4), (5, jv ad 1 v5)]) (hf : F_L_act_66 s0 v2 v3 v4 v5 k z = some (o, uc, us)) (hc : cells + uc = mc) (hs : slots + us = ms) : W p l e (rm_L_act mc ms) s mm args below meth c H locs cells slots (jLGi below args s D g A (fun a => a 0 = ad0 0) o.1 adk o.2.1 mo o.2.2 mc ms) (F0 mm 66 ls [jv ad 1 s0]) := by
  have hx := V.1
  have hb := V.2.1
  refine jl_astore (lv' := [(6, jv ad 1 s0), (0, .ref (adk 0)), (1, .ref (ad 0)), (2, .int v2), (3, .int v3), (4, .int v4), (5, jv ad 1 v5)]) hx hb dL_act_66 hl (by decide) rfl (fun ls hl => ?_)
  refine lv_aload_n hx hb dL_act_68 rfl (lv_at hl.1 2 rfl) ?_
  refine jg_S V hH 1 (by decide) kf_L_21 rfl dL_act_69 ?_
  refine jalen_8 V hH dL_act_72 ?_
  refine lv_if_ne (tgt := 80) hx hb dL_act_73 (by decide) (fun hq => ?_) (fun hq => ?_)
  · have hf := kneg hq hf
    exact w_L_act_80 V hA LX hG hH (jl_sub hl [1, 2, 3, 4, 5, 6, 0] rfl) hf hc hs
  · have hf := kpos hq hf
    exact w_L_act_76 V hA LX hG hH (jl_sub hl [1, 2, 3, 4, 5, 6, 0] rfl) hf hc hs
set_option maxHeartbeats 4000000 in
set_option maxRecDepth 100000 in
theorem w_L_act_50 (V : jV p s mm args meth c cL_act RL 14 (some .boolean) D g) (hA : ∀ q, s.heap.size ≤ q → A q) (LX : jLX l A s) {ad : Nat → Nat} {v2 : Int32} {v3 : Int32} {v4 : Int32} {v5 : Int32} {k : kS} {z : kS} {H : Heap} {locs : List Loc} {ls : Array Slot} {cells slots mc ms uc us : Nat} {o : (Int32 × kS × kS)} (hG : ad 0 = ad0 0) (hH : jH A s H locs D g ad z (jY adk g k mo) []) (hl : jl_has ls 14 [(0, .ref (adk 0)), (1, .ref (ad 0)), (2, .int v2), (3, .int v3), (4, .int v4), (5, jv ad 1 v5)]) (hf : F_L_act_50 v2 v3 v4 v5 k z = some (o, uc, us)) (hc : cells + uc = mc) (hs : slots + us = ms) : W p l e (rm_L_act mc ms) s mm args below meth c H locs cells slots (jLGi below args s D g A (fun a => a 0 = ad0 0) o.1 adk o.2.1 mo o.2.2 mc ms) (F0 mm 50 ls []) := by
  have hx := V.1
  have hb := V.2.1
  refine jl_null (ad := ad) hx hb 1 dL_act_50 ?_
  refine lv_goto (tgt := 66) hx hb dL_act_51 (by decide) ?_
  exact w_L_act_66 V hA LX hG hH (jl_sub hl [0, 1, 2, 3, 4, 5] rfl) hf hc hs
set_option maxHeartbeats 4000000 in
set_option maxRecDepth 100000 in
theorem w_L_act_54 (V : jV p s mm args meth c cL_act RL 14 (some .boolean) D g) (hA : ∀ q, s.heap.size ≤ q → A q) (LX : jLX l A s) {ad : Nat → Nat} {v2 : Int32} {v3 : Int32} {v4 : Int32} {v5 : Int32} {k : kS} {z : kS} {H : Heap} {locs : List Loc} {ls : Array Slot} {cells slots mc ms uc us : Nat} {o : (Int32 × kS × kS)} (hG : ad 0 = ad0 0) (hH : jH A s H locs D g ad z (jY adk g k mo) []) (hl : jl_has ls 14 [(0, .ref (adk 0)), (1, .ref (ad 0)), (2, .int v2), (3, .int v3), (4, .int v4), (5, jv ad 1 v5)]) (hf : F_L_act_54 v2 v3 v4 v5 k z = some (o, uc, us)) (hc : cells + uc = mc) (hs : slots + us = ms) : W p l e (rm_L_act mc ms) s mm args below meth c H locs cells slots (jLGi below args s D g A (fun a => a 0 = ad0 0) o.1 adk o.2.1 mo o.2.2 mc ms) (F0 mm 54 ls []) := by
  have hx := V.1
  have hb := V.2.1
  refine lv_aload_n hx hb dL_act_54 rfl (lv_at hl.1 1 rfl) ?_
  refine jg_S V hH 0 (by decide) kf_L_9 rfl dL_act_55 ?_
  refine lv_iload_n hx hb dL_act_58 rfl (lv_at hl.1 2 rfl) ?_
  refine lv_iconst (v := 3) hx hb dL_act_59 (by decide) ?_
  refine lv_ishr hx hb dL_act_60 ?_
  refine lv_iload_n hx hb dL_act_61 rfl (lv_at hl.1 3 rfl) ?_
  obtain ⟨x54_1, hx54_1, hf⟩ := kbind hf
  refine jr_calliR0 hA hH (jr_runS (as := [.int (v2 >>> (3 &&& 31)), .int v3]) (rest := [.ref (ad 4)]) V hH kYL_below kl_L_15 (c_L_below l _ _ hx54_1 _) rfl rfl ⟨Nat.le_of_ble_eq_true rfl, Nat.le_of_ble_eq_true rfl⟩ rfl hl.1.1 (Nat.le_of_ble_eq_true rfl) dL_act_62 ⟨by show cells + 0 ≤ mc; omega, by show slots + 0 ≤ ms; omega⟩ rfl) (fun H locs hH => ?_)
  obtain ⟨h54_2, hf⟩ := kif hf
  refine jald_4 V hH h54_2 dL_act_65 ?_
  exact w_L_act_66 V hA LX hG hH (jl_sub hl [0, 1, 2, 3, 4, 5] rfl) hf hc hs
set_option maxHeartbeats 4000000 in
set_option maxRecDepth 100000 in
theorem w_L_act_44 (V : jV p s mm args meth c cL_act RL 14 (some .boolean) D g) (hA : ∀ q, s.heap.size ≤ q → A q) (LX : jLX l A s) {ad : Nat → Nat} {s0 : Int32} {v2 : Int32} {v3 : Int32} {v4 : Int32} {k : kS} {z : kS} {H : Heap} {locs : List Loc} {ls : Array Slot} {cells slots mc ms uc us : Nat} {o : (Int32 × kS × kS)} (hG : ad 0 = ad0 0) (hH : jH A s H locs D g ad z (jY adk g k mo) []) (hl : jl_has ls 14 [(0, .ref (adk 0)), (1, .ref (ad 0)), (2, .int v2), (3, .int v3), (4, .int v4)]) (hf : F_L_act_44 s0 v2 v3 v4 k z = some (o, uc, us)) (hc : cells + uc = mc) (hs : slots + us = ms) : W p l e (rm_L_act mc ms) s mm args below meth c H locs cells slots (jLGi below args s D g A (fun a => a 0 = ad0 0) o.1 adk o.2.1 mo o.2.2 mc ms) (F0 mm 44 ls [jv ad 1 s0]) := by
  have hx := V.1
  have hb := V.2.1
  refine jl_astore (lv' := [(5, jv ad 1 s0), (0, .ref (adk 0)), (1, .ref (ad 0)), (2, .int v2), (3, .int v3), (4, .int v4)]) hx hb dL_act_44 hl (by decide) rfl (fun ls hl => ?_)
  refine lv_iload_n hx hb dL_act_46 rfl (lv_at hl.1 4 rfl) ?_
  refine lv_if_ne (tgt := 54) hx hb dL_act_47 (by decide) (fun hq => ?_) (fun hq => ?_)
  · have hf := kneg hq hf
    exact w_L_act_54 V hA LX hG hH (jl_sub hl [1, 2, 3, 4, 5, 0] rfl) hf hc hs
  · have hf := kpos hq hf
    exact w_L_act_50 V hA LX hG hH (jl_sub hl [1, 2, 3, 4, 5, 0] rfl) hf hc hs
set_option maxHeartbeats 4000000 in
set_option maxRecDepth 100000 in
theorem w_L_act_30 (V : jV p s mm args meth c cL_act RL 14 (some .boolean) D g) (hA : ∀ q, s.heap.size ≤ q → A q) (LX : jLX l A s) {ad : Nat → Nat} {v2 : Int32} {v3 : Int32} {v4 : Int32} {k : kS} {z : kS} {H : Heap} {locs : List Loc} {ls : Array Slot} {cells slots mc ms uc us : Nat} {o : (Int32 × kS × kS)} (hG : ad 0 = ad0 0) (hH : jH A s H locs D g ad z (jY adk g k mo) []) (hl : jl_has ls 14 [(0, .ref (adk 0)), (1, .ref (ad 0)), (2, .int v2), (3, .int v3), (4, .int v4)]) (hf : F_L_act_30 v2 v3 v4 k z = some (o, uc, us)) (hc : cells + uc = mc) (hs : slots + us = ms) : W p l e (rm_L_act mc ms) s mm args below meth c H locs cells slots (jLGi below args s D g A (fun a => a 0 = ad0 0) o.1 adk o.2.1 mo o.2.2 mc ms) (F0 mm 30 ls []) := by
  have hx := V.1
  have hb := V.2.1
  refine jl_null (ad := ad) hx hb 1 dL_act_30 ?_
  refine lv_goto (tgt := 44) hx hb dL_act_31 (by decide) ?_
  exact w_L_act_44 V hA LX hG hH (jl_sub hl [0, 1, 2, 3, 4] rfl) hf hc hs
set_option maxHeartbeats 4000000 in
set_option maxRecDepth 100000 in
theorem w_L_act_34 (V : jV p s mm args meth c cL_act RL 14 (some .boolean) D g) (hA : ∀ q, s.heap.size ≤ q → A q) (LX : jLX l A s) {ad : Nat → Nat} {v2 : Int32} {v3 : Int32} {v4 : Int32} {k : kS} {z : kS} {H : Heap} {locs : List Loc} {ls : Array Slot} {cells slots mc ms uc us : Nat} {o : (Int32 × kS × kS)} (hG : ad 0 = ad0 0) (hH : jH A s H locs D g ad z (jY adk g k mo) []) (hl : jl_has ls 14 [(0, .ref (adk 0)), (1, .ref (ad 0)), (2, .int v2), (3, .int v3), (4, .int v4)]) (hf : F_L_act_34 v2 v3 v4 k z = some (o, uc, us)) (hc : cells + uc = mc) (hs : slots + us = ms) : W p l e (rm_L_act mc ms) s mm args below meth c H locs cells slots (jLGi below args s D g A (fun a => a 0 = ad0 0) o.1 adk o.2.1 mo o.2.2 mc ms) (F0 mm 34 ls []) := by
  have hx := V.1
  have hb := V.2.1
  refine lv_aload_n hx hb dL_act_34 rfl (lv_at hl.1 1 rfl) ?_
  refine jg_S V hH 0 (by decide) kf_L_9 rfl dL_act_35 ?_
  refine lv_iload_n hx hb dL_act_38 rfl (lv_at hl.1 2 rfl) ?_
  refine lv_iload_n hx hb dL_act_39 rfl (lv_at hl.1 3 rfl) ?_
  obtain ⟨x34_1, hx34_1, hf⟩ := kbind hf
  refine jr_calliR0 hA hH (jr_runS (as := [.int v2, .int v3]) (rest := [.ref (ad 4)]) V hH kYL_below kl_L_15 (c_L_below l _ _ hx34_1 _) rfl rfl ⟨Nat.le_of_ble_eq_true rfl, Nat.le_of_ble_eq_true rfl⟩ rfl hl.1.1 (Nat.le_of_ble_eq_true rfl) dL_act_40 ⟨by show cells + 0 ≤ mc; omega, by show slots + 0 ≤ ms; omega⟩ rfl) (fun H locs hH => ?_)
  obtain ⟨h34_2, hf⟩ := kif hf
  refine jald_4 V hH h34_2 dL_act_43 ?_
  exact w_L_act_44 V hA LX hG hH (jl_sub hl [0, 1, 2, 3, 4] rfl) hf hc hs
set_option maxHeartbeats 4000000 in
set_option maxRecDepth 100000 in
theorem w_L_act_24 (V : jV p s mm args meth c cL_act RL 14 (some .boolean) D g) (hA : ∀ q, s.heap.size ≤ q → A q) (LX : jLX l A s) {ad : Nat → Nat} {s0 : Int32} {v2 : Int32} {v3 : Int32} {k : kS} {z : kS} {H : Heap} {locs : List Loc} {ls : Array Slot} {cells slots mc ms uc us : Nat} {o : (Int32 × kS × kS)} (hG : ad 0 = ad0 0) (hH : jH A s H locs D g ad z (jY adk g k mo) []) (hl : jl_has ls 14 [(0, .ref (adk 0)), (1, .ref (ad 0)), (2, .int v2), (3, .int v3)]) (hf : F_L_act_24 s0 v2 v3 k z = some (o, uc, us)) (hc : cells + uc = mc) (hs : slots + us = ms) : W p l e (rm_L_act mc ms) s mm args below meth c H locs cells slots (jLGi below args s D g A (fun a => a 0 = ad0 0) o.1 adk o.2.1 mo o.2.2 mc ms) (F0 mm 24 ls [.int s0]) := by
  have hx := V.1
  have hb := V.2.1
  refine jl_istore (lv' := [(4, .int s0), (0, .ref (adk 0)), (1, .ref (ad 0)), (2, .int v2), (3, .int v3)]) hx hb dL_act_24 hl (by decide) rfl (fun ls hl => ?_)
  refine lv_iload_n hx hb dL_act_26 rfl (lv_at hl.1 4 rfl) ?_
  refine lv_if_ne (tgt := 34) hx hb dL_act_27 (by decide) (fun hq => ?_) (fun hq => ?_)
  · have hf := kneg hq hf
    exact w_L_act_34 V hA LX hG hH (jl_sub hl [1, 2, 3, 4, 0] rfl) hf hc hs
  · have hf := kpos hq hf
    exact w_L_act_30 V hA LX hG hH (jl_sub hl [1, 2, 3, 4, 0] rfl) hf hc hs
set_option maxHeartbeats 4000000 in
set_option maxRecDepth 100000 in
theorem w_L_act_11 (V : jV p s mm args meth c cL_act RL 14 (some .boolean) D g) (hA : ∀ q, s.heap.size ≤ q → A q) (LX : jLX l A s) {ad : Nat → Nat} {v2 : Int32} {v3 : Int32} {k : kS} {z : kS} {H : Heap} {locs : List Loc} {ls : Array Slot} {cells slots mc ms uc us : Nat} {o : (Int32 × kS × kS)} (hG : ad 0 = ad0 0) (hH : jH A s H locs D g ad z (jY adk g k mo) []) (hl : jl_has ls 14 [(0, .ref (adk 0)), (1, .ref (ad 0)), (2, .int v2), (3, .int v3)]) (hf : F_L_act_11 v2 v3 k z = some (o, uc, us)) (hc : cells + uc = mc) (hs : slots + us = ms) : W p l e (rm_L_act mc ms) s mm args below meth c H locs cells slots (jLGi below args s D g A (fun a => a 0 = ad0 0) o.1 adk o.2.1 mo o.2.2 mc ms) (F0 mm 11 ls []) := by
  have hx := V.1
  have hb := V.2.1
  refine lv_iconst (v := 0) hx hb dL_act_11 (by decide) ?_
  refine lv_goto (tgt := 24) hx hb dL_act_12 (by decide) ?_
  exact w_L_act_24 V hA LX hG hH (jl_sub hl [0, 1, 2, 3] rfl) hf hc hs
set_option maxHeartbeats 4000000 in
set_option maxRecDepth 100000 in
theorem w_L_act_15 (V : jV p s mm args meth c cL_act RL 14 (some .boolean) D g) (hA : ∀ q, s.heap.size ≤ q → A q) (LX : jLX l A s) {ad : Nat → Nat} {v2 : Int32} {v3 : Int32} {k : kS} {z : kS} {H : Heap} {locs : List Loc} {ls : Array Slot} {cells slots mc ms uc us : Nat} {o : (Int32 × kS × kS)} (hG : ad 0 = ad0 0) (hH : jH A s H locs D g ad z (jY adk g k mo) []) (hl : jl_has ls 14 [(0, .ref (adk 0)), (1, .ref (ad 0)), (2, .int v2), (3, .int v3)]) (hf : F_L_act_15 v2 v3 k z = some (o, uc, us)) (hc : cells + uc = mc) (hs : slots + us = ms) : W p l e (rm_L_act mc ms) s mm args below meth c H locs cells slots (jLGi below args s D g A (fun a => a 0 = ad0 0) o.1 adk o.2.1 mo o.2.2 mc ms) (F0 mm 15 ls []) := by
  have hx := V.1
  have hb := V.2.1
  refine lv_iload_n hx hb dL_act_15 rfl (lv_at hl.1 2 rfl) ?_
  refine lv_bipush (v := 9) hx hb dL_act_16 (by decide) ?_
  refine lv_ishr hx hb dL_act_18 ?_
  refine lv_bipush (v := 12) hx hb dL_act_19 (by decide) ?_
  obtain ⟨x15_1, hx15_1, hf⟩ := kbind hf
  refine jr_calliR0 hA hH (jr_runS (as := [.int (v2 >>> (9 &&& 31)), .int 12]) (rest := []) V hH kYL_below kl_L_15 (c_L_below l _ _ hx15_1 _) rfl rfl ⟨Nat.le_of_ble_eq_true rfl, Nat.le_of_ble_eq_true rfl⟩ rfl hl.1.1 (Nat.le_of_ble_eq_true rfl) dL_act_21 ⟨by show cells + 0 ≤ mc; omega, by show slots + 0 ≤ ms; omega⟩ rfl) (fun H locs hH => ?_)
  exact w_L_act_24 V hA LX hG hH (jl_sub hl [0, 1, 2, 3] rfl) hf hc hs
set_option maxHeartbeats 4000000 in
set_option maxRecDepth 100000 in
theorem w_L_act_0 (V : jV p s mm args meth c cL_act RL 14 (some .boolean) D g) (hA : ∀ q, s.heap.size ≤ q → A q) (LX : jLX l A s) {ad : Nat → Nat} {v2 : Int32} {k : kS} {z : kS} {H : Heap} {locs : List Loc} {ls : Array Slot} {cells slots mc ms uc us : Nat} {o : (Int32 × kS × kS)} (hG : ad 0 = ad0 0) (hH : jH A s H locs D g ad z (jY adk g k mo) []) (hl : jl_has ls 14 [(0, .ref (adk 0)), (1, .ref (ad 0)), (2, .int v2)]) (hf : F_L_act_0 v2 k z = some (o, uc, us)) (hc : cells + uc = mc) (hs : slots + us = ms) : W p l e (rm_L_act mc ms) s mm args below meth c H locs cells slots (jLGi below args s D g A (fun a => a 0 = ad0 0) o.1 adk o.2.1 mo o.2.2 mc ms) (F0 mm 0 ls []) := by
  have hx := V.1
  have hb := V.2.1
  refine lv_aload_n hx hb dL_act_0 rfl (lv_at hl.1 1 rfl) ?_
  refine jg_S V hH 0 (by decide) kf_L_9 rfl dL_act_1 ?_
  refine jalen_4 V hH dL_act_4 ?_
  refine jl_istore_n (lv' := [(3, .int (nI (z 12 0).toNatClampNeg)), (0, .ref (adk 0)), (1, .ref (ad 0)), (2, .int v2)]) hx hb dL_act_5 rfl hl (by decide) rfl (fun ls hl => ?_)
  refine lv_iload_n hx hb dL_act_6 rfl (lv_at hl.1 0 rfl) ?_
  refine lv_iconst (v := 4) hx hb dL_act_7 (by decide) ?_
  refine lv_icmp_ge (tgt := 15) hx hb dL_act_8 (by decide) (fun hq => ?_) (fun hq => ?_)
  · have hf := kpos hq hf
    exact w_L_act_15 V hA LX hG hH (jl_sub hl [1, 2, 3, 0] rfl) hf hc hs
  · have hf := kneg hq hf
    exact w_L_act_11 V hA LX hG hH (jl_sub hl [1, 2, 3, 0] rfl) hf hc hs
set_option maxHeartbeats 4000000 in
set_option maxRecDepth 100000 in
theorem c_L_act (l : Launch) (hst : l.stackTraces = false) {D : va_G} {g : Nat → ClassId} {adk ad : Nat → Nat} {k mo z : kS} (v2 : Int32) {o : Int32 × kS × kS} {mc ms : Nat} (hf : F_L_act v2 k z = some (o, mc, ms)) (sz : Nat) : Met l yL_act (Cond.code yL_act cL_act 14 (some .boolean) :: kWA) (rm_L_act mc ms) (jLP [.ref (adk 0), .ref (ad 0), .int v2] D g adk k mo ad z sz) (jLQi o.1 (fun a => a 0 = ad 0) D g (va_A (jY adk g k mo ++ jC g ad z) sz) adk o.2.1 mo o.2.2) mc ms (va_A (jY adk g k mo ++ jC g ad z) sz) := by
  refine jl_met (as := [.ref (adk 0), .ref (ad 0), .int v2]) (bytes := cL_act) (maxL := 14) (rt := (some .boolean)) (lv := [(0, .ref (adk 0)), (1, .ref (ad 0)), (2, .int v2)]) hst (by decide +kernel) (by simp [lg_sl, jcatv, jcati, jcatr]) (by simp [lv_args, jcatv, jcati, jcatr]) (by simp [jcatv, jcati, jcatr]) (fun p e s mm below meth c ls hsz V LX hA hH hl => ?_)
  exact w_L_act_0 V hA LX rfl hH (jl_sub hl [0, 1, 2] rfl) hf (Nat.zero_add _) (Nat.zero_add _)
end
