/-! BUILD: walk -/
section
variable {p : Program} {l : Launch} {e : Env} {s : State} {mm : MethodId} {args : Array Value} {below : List Frame} {meth : Method} {c : Code} {D : va_G} {g : Nat → ClassId} {A : Nat → Prop} {adk : Nat → Nat} {mo : kS}
variable {b L : Nat} {xs : Nat → Int32}

abbrev rm_L_build (mc ms : Nat) : Room := { frames := 52, cells := mc, slots := ms, locals := 1444 }
set_option maxHeartbeats 4000000 in
set_option maxRecDepth 100000 in
theorem w_L_build_48 (V : jV p s mm args meth c cL_build RL 8 (some (.object "KingTiesLaw$Sim")) D g) (hA : ∀ q, s.heap.size ≤ q → A q) (LX : jLX l A s) (SX : jSX A s b L xs) {ad : Nat → Nat} {k : kS} {z : kS} {H : Heap} {locs : List Loc} {ls : Array Slot} {cells slots mc ms uc us : Nat} {o : (kS × kS)} (hG : True) (hH : jH A s H locs D g ad z (jY adk g k mo) []) (hl : jl_has ls 8 []) (hf : F_L_build_48 xs L k z = some (o, uc, us)) (hc : cells + uc = mc) (hs : slots + us = ms) : W p l e (rm_L_build mc ms) s mm args below meth c H locs cells slots (jLGs below args s D g A adk o.1 mo o.2 mc ms) (F0 mm 48 ls []) := by
  have hx := V.1
  have hb := V.2.1
  cases hf
set_option maxHeartbeats 4000000 in
set_option maxRecDepth 100000 in
theorem w_L_build_109 (V : jV p s mm args meth c cL_build RL 8 (some (.object "KingTiesLaw$Sim")) D g) (hA : ∀ q, s.heap.size ≤ q → A q) (LX : jLX l A s) (SX : jSX A s b L xs) {c10 : Int32 → kS → kS → Option ((kS × kS) × Nat × Nat)} (hk10 : ∀ {ad : Nat → Nat} {v3 : Int32} {k : kS} {z : kS} {H : Heap} {locs : List Loc} {ls : Array Slot} {cells slots mc ms uc us : Nat} {o : (kS × kS)}, True → jH A s H locs D g ad z (jY adk g k mo) [] → jl_has ls 8 [(0, .ref (adk 0)), (1, .ref b), (2, .ref (ad 0)), (3, .int v3)] → c10 v3 k z = some (o, uc, us) → cells + uc = mc → slots + us = ms → W p l e (rm_L_build mc ms) s mm args below meth c H locs cells slots (jLGs below args s D g A adk o.1 mo o.2 mc ms) (F0 mm 10 ls [])) {ad : Nat → Nat} {v3 : Int32} {k : kS} {z : kS} {H : Heap} {locs : List Loc} {ls : Array Slot} {cells slots mc ms uc us : Nat} {o : (kS × kS)} (hG : True) (hH : jH A s H locs D g ad z (jY adk g k mo) []) (hl : jl_has ls 8 [(0, .ref (adk 0)), (1, .ref b), (2, .ref (ad 0)), (3, .int v3)]) (hf : F_L_build_109 xs L c10 v3 k z = some (o, uc, us)) (hc : cells + uc = mc) (hs : slots + us = ms) : W p l e (rm_L_build mc ms) s mm args below meth c H locs cells slots (jLGs below args s D g A adk o.1 mo o.2 mc ms) (F0 mm 109 ls []) := by
  have hx := V.1
  have hb := V.2.1
  refine jl_iinc (v := (v3 + 1)) (lv' := [(3, .int (v3 + 1)), (0, .ref (adk 0)), (1, .ref b), (2, .ref (ad 0))]) hx hb dL_build_109 hl (k := 3) rfl rfl (by decide) rfl (fun ls hl => ?_)
  refine lv_goto (tgt := 10) hx hb dL_build_112 (by decide) ?_
  exact hk10 trivial hH (jl_sub hl [1, 2, 3, 0] rfl) hf hc hs
set_option maxHeartbeats 4000000 in
set_option maxRecDepth 100000 in
theorem w_L_build_65 (V : jV p s mm args meth c cL_build RL 8 (some (.object "KingTiesLaw$Sim")) D g) (hA : ∀ q, s.heap.size ≤ q → A q) (LX : jLX l A s) (SX : jSX A s b L xs) {c10 : Int32 → kS → kS → Option ((kS × kS) × Nat × Nat)} (hk10 : ∀ {ad : Nat → Nat} {v3 : Int32} {k : kS} {z : kS} {H : Heap} {locs : List Loc} {ls : Array Slot} {cells slots mc ms uc us : Nat} {o : (kS × kS)}, True → jH A s H locs D g ad z (jY adk g k mo) [] → jl_has ls 8 [(0, .ref (adk 0)), (1, .ref b), (2, .ref (ad 0)), (3, .int v3)] → c10 v3 k z = some (o, uc, us) → cells + uc = mc → slots + us = ms → W p l e (rm_L_build mc ms) s mm args below meth c H locs cells slots (jLGs below args s D g A adk o.1 mo o.2 mc ms) (F0 mm 10 ls [])) {ad : Nat → Nat} {v3 : Int32} {k : kS} {z : kS} {H : Heap} {locs : List Loc} {ls : Array Slot} {cells slots mc ms uc us : Nat} {o : (kS × kS)} (hG : True) (hH : jH A s H locs D g ad z (jY adk g k mo) []) (hl : jl_has ls 8 [(0, .ref (adk 0)), (1, .ref b), (2, .ref (ad 0)), (3, .int v3)]) (hf : F_L_build_65 xs L c10 v3 k z = some (o, uc, us)) (hc : cells + uc = mc) (hs : slots + us = ms) : W p l e (rm_L_build mc ms) s mm args below meth c H locs cells slots (jLGs below args s D g A adk o.1 mo o.2 mc ms) (F0 mm 65 ls []) := by
  have hx := V.1
  have hb := V.2.1
  refine lv_goto (tgt := 109) hx hb dL_build_65 (by decide) ?_
  exact w_L_build_109 V hA LX SX hk10 trivial hH (jl_sub hl [0, 1, 2, 3] rfl) hf hc hs
set_option maxHeartbeats 4000000 in
set_option maxRecDepth 100000 in
theorem w_L_build_81 (V : jV p s mm args meth c cL_build RL 8 (some (.object "KingTiesLaw$Sim")) D g) (hA : ∀ q, s.heap.size ≤ q → A q) (LX : jLX l A s) (SX : jSX A s b L xs) {c10 : Int32 → kS → kS → Option ((kS × kS) × Nat × Nat)} (hk10 : ∀ {ad : Nat → Nat} {v3 : Int32} {k : kS} {z : kS} {H : Heap} {locs : List Loc} {ls : Array Slot} {cells slots mc ms uc us : Nat} {o : (kS × kS)}, True → jH A s H locs D g ad z (jY adk g k mo) [] → jl_has ls 8 [(0, .ref (adk 0)), (1, .ref b), (2, .ref (ad 0)), (3, .int v3)] → c10 v3 k z = some (o, uc, us) → cells + uc = mc → slots + us = ms → W p l e (rm_L_build mc ms) s mm args below meth c H locs cells slots (jLGs below args s D g A adk o.1 mo o.2 mc ms) (F0 mm 10 ls [])) {c74 : Int32 → Int32 → Int32 → Int32 → kS → kS → Option ((kS × kS) × Nat × Nat)} (hk74 : ∀ {ad : Nat → Nat} {v3 : Int32} {v5 : Int32} {v6 : Int32} {v7 : Int32} {k : kS} {z : kS} {H : Heap} {locs : List Loc} {ls : Array Slot} {cells slots mc ms uc us : Nat} {o : (kS × kS)}, True → jH A s H locs D g ad z (jY adk g k mo) [] → jl_has ls 8 [(0, .ref (adk 0)), (1, .ref b), (2, .ref (ad 0)), (3, .int v3), (5, .int v5), (6, .int v6), (7, .int v7)] → c74 v3 v5 v6 v7 k z = some (o, uc, us) → cells + uc = mc → slots + us = ms → W p l e (rm_L_build mc ms) s mm args below meth c H locs cells slots (jLGs below args s D g A adk o.1 mo o.2 mc ms) (F0 mm 74 ls [])) {ad : Nat → Nat} {v3 : Int32} {v5 : Int32} {v6 : Int32} {v7 : Int32} {k : kS} {z : kS} {H : Heap} {locs : List Loc} {ls : Array Slot} {cells slots mc ms uc us : Nat} {o : (kS × kS)} (hG : True) (hH : jH A s H locs D g ad z (jY adk g k mo) []) (hl : jl_has ls 8 [(0, .ref (adk 0)), (1, .ref b), (2, .ref (ad 0)), (3, .int v3), (5, .int v5), (6, .int v6), (7, .int v7)]) (hf : F_L_build_81 xs L c10 c74 v3 v5 v6 v7 k z = some (o, uc, us)) (hc : cells + uc = mc) (hs : slots + us = ms) : W p l e (rm_L_build mc ms) s mm args below meth c H locs cells slots (jLGs below args s D g A adk o.1 mo o.2 mc ms) (F0 mm 81 ls []) := by
  have hx := V.1
  have hb := V.2.1
  refine lv_iload hx hb dL_build_81 (lv_at hl.1 5 rfl) ?_
  refine lv_aload_n hx hb dL_build_83 rfl (lv_at hl.1 2 rfl) ?_
  obtain ⟨x81_1, hx81_1, hf⟩ := kbind hf
  obtain ⟨uc81_2, us81_3, hf, e1, e2⟩ := kadd_some2 hf
  have e1 : uc = x81_1.2.1 + uc81_2 := e1
  have e2 : us = x81_1.2.2 + us81_3 := e2
  have hc : cells + x81_1.2.1 + uc81_2 = mc := by rw [Nat.add_assoc, ← e1]; exact hc
  have hs : slots + x81_1.2.2 + us81_3 = ms := by rw [Nat.add_assoc, ← e2]; exact hs
  have lc : cells + x81_1.2.1 ≤ mc := Nat.le.intro hc
  have ls2 : slots + x81_1.2.2 ≤ ms := Nat.le.intro hs
  refine jr_calli hA hH (jr_runV (as := []) (rest := [.int v6]) V hH kYX8_pass kl_L_112 (c_X8_pass l hx81_1 _) rfl rfl ⟨Nat.le_of_ble_eq_true rfl, Nat.le_of_ble_eq_true rfl⟩ rfl hl.1.1 (Nat.le_of_ble_eq_true rfl) dL_build_84 ⟨lc, ls2⟩ rfl) (fun ad81_1 H locs hm hH => ?_)
  have hl : jl_has ls 8 [(0, .ref (adk 0)), (1, .ref b), (2, .ref (ad81_1 0)), (3, .int v3), (5, .int v5), (6, .int v6), (7, .int v7)] := by simp only [jv, hm.r1, hm.r2, hm 0 (by decide), hm 4 (by decide), hm 8 (by decide)]; exact hl
  refine lv_iadd hx hb dL_build_87 ?_
  refine jl_istore (lv' := [(6, .int (v6 + x81_1.1.1)), (0, .ref (adk 0)), (1, .ref b), (2, .ref (ad81_1 0)), (3, .int v3), (5, .int v5), (7, .int v7)]) hx hb dL_build_88 hl (by decide) rfl (fun ls hl => ?_)
  refine jl_iinc (v := (v7 + 1)) (lv' := [(7, .int (v7 + 1)), (6, .int (v6 + x81_1.1.1)), (0, .ref (adk 0)), (1, .ref b), (2, .ref (ad81_1 0)), (3, .int v3), (5, .int v5)]) hx hb dL_build_90 hl (k := 6) rfl rfl (by decide) rfl (fun ls hl => ?_)
  refine lv_goto (tgt := 74) hx hb dL_build_93 (by decide) ?_
  exact hk74 trivial hH (jl_sub hl [2, 3, 4, 5, 6, 1, 0] rfl) hf hc hs
set_option maxHeartbeats 4000000 in
set_option maxRecDepth 100000 in
theorem w_L_build_107 (V : jV p s mm args meth c cL_build RL 8 (some (.object "KingTiesLaw$Sim")) D g) (hA : ∀ q, s.heap.size ≤ q → A q) (LX : jLX l A s) (SX : jSX A s b L xs) {ad : Nat → Nat} {k : kS} {z : kS} {H : Heap} {locs : List Loc} {ls : Array Slot} {cells slots mc ms uc us : Nat} {o : (kS × kS)} (hG : True) (hH : jH A s H locs D g ad z (jY adk g k mo) []) (hl : jl_has ls 8 []) (hf : F_L_build_107 xs L k z = some (o, uc, us)) (hc : cells + uc = mc) (hs : slots + us = ms) : W p l e (rm_L_build mc ms) s mm args below meth c H locs cells slots (jLGs below args s D g A adk o.1 mo o.2 mc ms) (F0 mm 107 ls []) := by
  have hx := V.1
  have hb := V.2.1
  cases hf
set_option maxHeartbeats 4000000 in
set_option maxRecDepth 100000 in
theorem w_L_build_96 (V : jV p s mm args meth c cL_build RL 8 (some (.object "KingTiesLaw$Sim")) D g) (hA : ∀ q, s.heap.size ≤ q → A q) (LX : jLX l A s) (SX : jSX A s b L xs) {c10 : Int32 → kS → kS → Option ((kS × kS) × Nat × Nat)} (hk10 : ∀ {ad : Nat → Nat} {v3 : Int32} {k : kS} {z : kS} {H : Heap} {locs : List Loc} {ls : Array Slot} {cells slots mc ms uc us : Nat} {o : (kS × kS)}, True → jH A s H locs D g ad z (jY adk g k mo) [] → jl_has ls 8 [(0, .ref (adk 0)), (1, .ref b), (2, .ref (ad 0)), (3, .int v3)] → c10 v3 k z = some (o, uc, us) → cells + uc = mc → slots + us = ms → W p l e (rm_L_build mc ms) s mm args below meth c H locs cells slots (jLGs below args s D g A adk o.1 mo o.2 mc ms) (F0 mm 10 ls [])) {ad : Nat → Nat} {v3 : Int32} {v5 : Int32} {v6 : Int32} {k : kS} {z : kS} {H : Heap} {locs : List Loc} {ls : Array Slot} {cells slots mc ms uc us : Nat} {o : (kS × kS)} (hG : True) (hH : jH A s H locs D g ad z (jY adk g k mo) []) (hl : jl_has ls 8 [(0, .ref (adk 0)), (1, .ref b), (2, .ref (ad 0)), (3, .int v3), (5, .int v5), (6, .int v6)]) (hf : F_L_build_96 xs L c10 v3 v5 v6 k z = some (o, uc, us)) (hc : cells + uc = mc) (hs : slots + us = ms) : W p l e (rm_L_build mc ms) s mm args below meth c H locs cells slots (jLGs below args s D g A adk o.1 mo o.2 mc ms) (F0 mm 96 ls []) := by
  have hx := V.1
  have hb := V.2.1
  refine lv_aload_n hx hb dL_build_96 rfl (lv_at hl.1 0 rfl) ?_
  refine lv_iload hx hb dL_build_97 (lv_at hl.1 4 rfl) ?_
  obtain ⟨x96_1, hx96_1, hf⟩ := kbind hf
  obtain ⟨h96_2, hf⟩ := kif hf
  obtain ⟨uc96_3, us96_4, hf, e1, e2⟩ := kadd_some2 hf
  have e1 : uc = 4 + uc96_3 := e1
  have e2 : us = 24 + us96_4 := e2
  have hc : cells + 4 + uc96_3 = mc := by rw [Nat.add_assoc, ← e1]; exact hc
  have hs : slots + 24 + us96_4 = ms := by rw [Nat.add_assoc, ← e2]; exact hs
  have lc : cells + 4 ≤ mc := Nat.le.intro hc
  have ls2 : slots + 24 ≤ ms := Nat.le.intro hs
  refine jc_callx V hA LX hH kYX5_pass kl_L_116 (c_X5_pass l LX.1 _ hx96_1 _) (Decidable.not_not.mp h96_2) rfl rfl ⟨Nat.le_of_ble_eq_true rfl, Nat.le_of_ble_eq_true rfl⟩ rfl hl.1.1 (as := [.int v5]) (rest := []) (Nat.le_of_ble_eq_true rfl) dL_build_99 ⟨lc, ls2⟩ rfl (fun H locs hH => ?_)
  refine lv_iload hx hb dL_build_102 (lv_at hl.1 5 rfl) ?_
  refine lv_icmp_eq (tgt := 109) hx hb dL_build_104 (by decide) (fun hq => ?_) (fun hq => ?_)
  · have hf := kpos hq hf
    exact w_L_build_109 V hA LX SX hk10 trivial hH (jl_sub hl [0, 1, 2, 3] rfl) hf hc hs
  · have hf := kneg hq hf
    exact w_L_build_107 V hA LX SX trivial hH (jl_sub hl [] rfl) hf hc hs
set_option maxHeartbeats 4000000 in
set_option maxRecDepth 100000 in
theorem w_L_build_74 (V : jV p s mm args meth c cL_build RL 8 (some (.object "KingTiesLaw$Sim")) D g) (hA : ∀ q, s.heap.size ≤ q → A q) (LX : jLX l A s) (SX : jSX A s b L xs) {c10 : Int32 → kS → kS → Option ((kS × kS) × Nat × Nat)} (hk10 : ∀ {ad : Nat → Nat} {v3 : Int32} {k : kS} {z : kS} {H : Heap} {locs : List Loc} {ls : Array Slot} {cells slots mc ms uc us : Nat} {o : (kS × kS)}, True → jH A s H locs D g ad z (jY adk g k mo) [] → jl_has ls 8 [(0, .ref (adk 0)), (1, .ref b), (2, .ref (ad 0)), (3, .int v3)] → c10 v3 k z = some (o, uc, us) → cells + uc = mc → slots + us = ms → W p l e (rm_L_build mc ms) s mm args below meth c H locs cells slots (jLGs below args s D g A adk o.1 mo o.2 mc ms) (F0 mm 10 ls [])) : ∀ (n : Nat) {ad : Nat → Nat} {v3 : Int32} {v5 : Int32} {v6 : Int32} {v7 : Int32} {k : kS} {z : kS} {H : Heap} {locs : List Loc} {ls : Array Slot} {cells slots mc ms uc us : Nat} {o : (kS × kS)}, True → jH A s H locs D g ad z (jY adk g k mo) [] → jl_has ls 8 [(0, .ref (adk 0)), (1, .ref b), (2, .ref (ad 0)), (3, .int v3), (5, .int v5), (6, .int v6), (7, .int v7)] → F_L_build_74 xs L c10 n v3 v5 v6 v7 k z = some (o, uc, us) → cells + uc = mc → slots + us = ms → W p l e (rm_L_build mc ms) s mm args below meth c H locs cells slots (jLGs below args s D g A adk o.1 mo o.2 mc ms) (F0 mm 74 ls []) := by
  have hx := V.1
  have hb := V.2.1
  intro n
  induction n with
  | zero => intro _ _ _ _ _ _ _ _ _ _ _ _ _ _ _ _ _ hG hH hl hf hc hs; cases hf
  | succ n hk74 =>
    intro ad v3 v5 v6 v7 k z H locs ls cells slots mc ms uc us o hG hH hl hf hc hs
    refine lv_iload hx hb dL_build_74 (lv_at hl.1 6 rfl) ?_
    refine lv_iload hx hb dL_build_76 (lv_at hl.1 4 rfl) ?_
    refine lv_icmp_ge (tgt := 96) hx hb dL_build_78 (by decide) (fun hq => ?_) (fun hq => ?_)
    · have hf := kpos hq hf
      exact w_L_build_96 V hA LX SX hk10 trivial hH (jl_sub hl [0, 1, 2, 3, 4, 5] rfl) hf hc hs
    · have hf := kneg hq hf
      exact w_L_build_81 V hA LX SX hk10 hk74 trivial hH (jl_sub hl [0, 1, 2, 3, 4, 5, 6] rfl) hf hc hs
set_option maxHeartbeats 4000000 in
set_option maxRecDepth 100000 in
theorem w_L_build_68 (V : jV p s mm args meth c cL_build RL 8 (some (.object "KingTiesLaw$Sim")) D g) (hA : ∀ q, s.heap.size ≤ q → A q) (LX : jLX l A s) (SX : jSX A s b L xs) {c10 : Int32 → kS → kS → Option ((kS × kS) × Nat × Nat)} (hk10 : ∀ {ad : Nat → Nat} {v3 : Int32} {k : kS} {z : kS} {H : Heap} {locs : List Loc} {ls : Array Slot} {cells slots mc ms uc us : Nat} {o : (kS × kS)}, True → jH A s H locs D g ad z (jY adk g k mo) [] → jl_has ls 8 [(0, .ref (adk 0)), (1, .ref b), (2, .ref (ad 0)), (3, .int v3)] → c10 v3 k z = some (o, uc, us) → cells + uc = mc → slots + us = ms → W p l e (rm_L_build mc ms) s mm args below meth c H locs cells slots (jLGs below args s D g A adk o.1 mo o.2 mc ms) (F0 mm 10 ls [])) {ad : Nat → Nat} {v3 : Int32} {v5 : Int32} {k : kS} {z : kS} {H : Heap} {locs : List Loc} {ls : Array Slot} {cells slots mc ms uc us : Nat} {o : (kS × kS)} (hG : True) (hH : jH A s H locs D g ad z (jY adk g k mo) []) (hl : jl_has ls 8 [(0, .ref (adk 0)), (1, .ref b), (2, .ref (ad 0)), (3, .int v3), (5, .int v5)]) (hf : F_L_build_68 xs L c10 v3 v5 k z = some (o, uc, us)) (hc : cells + uc = mc) (hs : slots + us = ms) : W p l e (rm_L_build mc ms) s mm args below meth c H locs cells slots (jLGs below args s D g A adk o.1 mo o.2 mc ms) (F0 mm 68 ls []) := by
  have hx := V.1
  have hb := V.2.1
  refine lv_iconst (v := 0) hx hb dL_build_68 (by decide) ?_
  refine jl_istore (lv' := [(6, .int 0), (0, .ref (adk 0)), (1, .ref b), (2, .ref (ad 0)), (3, .int v3), (5, .int v5)]) hx hb dL_build_69 hl (by decide) rfl (fun ls hl => ?_)
  refine lv_iconst (v := 0) hx hb dL_build_71 (by decide) ?_
  refine jl_istore (lv' := [(7, .int 0), (6, .int 0), (0, .ref (adk 0)), (1, .ref b), (2, .ref (ad 0)), (3, .int v3), (5, .int v5)]) hx hb dL_build_72 hl (by decide) rfl (fun ls hl => ?_)
  exact w_L_build_74 V hA LX SX hk10 kN trivial hH (jl_sub hl [2, 3, 4, 5, 6, 1, 0] rfl) hf hc hs
set_option maxHeartbeats 4000000 in
set_option maxRecDepth 100000 in
theorem w_L_build_50 (V : jV p s mm args meth c cL_build RL 8 (some (.object "KingTiesLaw$Sim")) D g) (hA : ∀ q, s.heap.size ≤ q → A q) (LX : jLX l A s) (SX : jSX A s b L xs) {c10 : Int32 → kS → kS → Option ((kS × kS) × Nat × Nat)} (hk10 : ∀ {ad : Nat → Nat} {v3 : Int32} {k : kS} {z : kS} {H : Heap} {locs : List Loc} {ls : Array Slot} {cells slots mc ms uc us : Nat} {o : (kS × kS)}, True → jH A s H locs D g ad z (jY adk g k mo) [] → jl_has ls 8 [(0, .ref (adk 0)), (1, .ref b), (2, .ref (ad 0)), (3, .int v3)] → c10 v3 k z = some (o, uc, us) → cells + uc = mc → slots + us = ms → W p l e (rm_L_build mc ms) s mm args below meth c H locs cells slots (jLGs below args s D g A adk o.1 mo o.2 mc ms) (F0 mm 10 ls [])) {ad : Nat → Nat} {v3 : Int32} {v4 : Int32} {k : kS} {z : kS} {H : Heap} {locs : List Loc} {ls : Array Slot} {cells slots mc ms uc us : Nat} {o : (kS × kS)} (hG : True) (hH : jH A s H locs D g ad z (jY adk g k mo) []) (hl : jl_has ls 8 [(0, .ref (adk 0)), (1, .ref b), (2, .ref (ad 0)), (3, .int v3), (4, .int v4)]) (hf : F_L_build_50 xs L c10 v3 v4 k z = some (o, uc, us)) (hc : cells + uc = mc) (hs : slots + us = ms) : W p l e (rm_L_build mc ms) s mm args below meth c H locs cells slots (jLGs below args s D g A adk o.1 mo o.2 mc ms) (F0 mm 50 ls []) := by
  have hx := V.1
  have hb := V.2.1
  refine lv_iload hx hb dL_build_50 (lv_at hl.1 4 rfl) ?_
  refine lv_iconst (v := 5) hx hb dL_build_52 (by decide) ?_
  refine lv_ishr hx hb dL_build_53 ?_
  refine lv_iconst (v := 4) hx hb dL_build_54 (by decide) ?_
  obtain ⟨x50_1, hx50_1, hf⟩ := kbind hf
  refine jr_calliR0 hA hH (jr_runS (as := [.int (v4 >>> (5 &&& 31)), .int 4]) (rest := []) V hH kYL_below kl_L_15 (c_L_below l _ _ hx50_1 _) rfl rfl ⟨Nat.le_of_ble_eq_true rfl, Nat.le_of_ble_eq_true rfl⟩ rfl hl.1.1 (Nat.le_of_ble_eq_true rfl) dL_build_55 ⟨by show cells + 0 ≤ mc; omega, by show slots + 0 ≤ ms; omega⟩ rfl) (fun H locs hH => ?_)
  refine jl_istore (lv' := [(5, .int x50_1), (0, .ref (adk 0)), (1, .ref b), (2, .ref (ad 0)), (3, .int v3), (4, .int v4)]) hx hb dL_build_58 hl (by decide) rfl (fun ls hl => ?_)
  refine lv_iload hx hb dL_build_60 (lv_at hl.1 0 rfl) ?_
  refine lv_if_ne (tgt := 68) hx hb dL_build_62 (by decide) (fun hq => ?_) (fun hq => ?_)
  · have hf := kneg hq hf
    exact w_L_build_68 V hA LX SX hk10 trivial hH (jl_sub hl [1, 2, 3, 4, 0] rfl) hf hc hs
  · have hf := kpos hq hf
    exact w_L_build_65 V hA LX SX hk10 trivial hH (jl_sub hl [1, 2, 3, 4] rfl) hf hc hs
set_option maxHeartbeats 4000000 in
set_option maxRecDepth 100000 in
theorem w_L_build_16 (V : jV p s mm args meth c cL_build RL 8 (some (.object "KingTiesLaw$Sim")) D g) (hA : ∀ q, s.heap.size ≤ q → A q) (LX : jLX l A s) (SX : jSX A s b L xs) {c10 : Int32 → kS → kS → Option ((kS × kS) × Nat × Nat)} (hk10 : ∀ {ad : Nat → Nat} {v3 : Int32} {k : kS} {z : kS} {H : Heap} {locs : List Loc} {ls : Array Slot} {cells slots mc ms uc us : Nat} {o : (kS × kS)}, True → jH A s H locs D g ad z (jY adk g k mo) [] → jl_has ls 8 [(0, .ref (adk 0)), (1, .ref b), (2, .ref (ad 0)), (3, .int v3)] → c10 v3 k z = some (o, uc, us) → cells + uc = mc → slots + us = ms → W p l e (rm_L_build mc ms) s mm args below meth c H locs cells slots (jLGs below args s D g A adk o.1 mo o.2 mc ms) (F0 mm 10 ls [])) {ad : Nat → Nat} {v3 : Int32} {k : kS} {z : kS} {H : Heap} {locs : List Loc} {ls : Array Slot} {cells slots mc ms uc us : Nat} {o : (kS × kS)} (hG : True) (hH : jH A s H locs D g ad z (jY adk g k mo) []) (hl : jl_has ls 8 [(0, .ref (adk 0)), (1, .ref b), (2, .ref (ad 0)), (3, .int v3)]) (hf : F_L_build_16 xs L c10 v3 k z = some (o, uc, us)) (hc : cells + uc = mc) (hs : slots + us = ms) : W p l e (rm_L_build mc ms) s mm args below meth c H locs cells slots (jLGs below args s D g A adk o.1 mo o.2 mc ms) (F0 mm 16 ls []) := by
  have hx := V.1
  have hb := V.2.1
  refine lv_aload_n hx hb dL_build_16 rfl (lv_at hl.1 1 rfl) ?_
  refine lv_iload_n hx hb dL_build_17 rfl (lv_at hl.1 3 rfl) ?_
  refine lv_bipush (v := 13) hx hb dL_build_18 (by decide) ?_
  obtain ⟨h16_1, hf⟩ := kif hf
  refine lv_irem hx hb dL_build_20 h16_1 ?_
  obtain ⟨x16_2, hx16_2, hf⟩ := kbind hf
  refine jl_cell V SX hH hx16_2 (Nat.le_of_ble_eq_true rfl) (Nat.le_of_ble_eq_true rfl) hl.1.1 (Nat.le_of_ble_eq_true rfl) dL_build_21 ⟨by show cells + 0 ≤ mc; omega, by show slots + 0 ≤ ms; omega⟩ (fun H locs hH => ?_) hA
  refine lv_iload_n hx hb dL_build_24 rfl (lv_at hl.1 3 rfl) ?_
  refine lv_bipush (v := 13) hx hb dL_build_25 (by decide) ?_
  obtain ⟨h16_3, hf⟩ := kif hf
  refine lv_idiv hx hb dL_build_27 h16_3 ?_
  refine lv_iconst (v := 5) hx hb dL_build_28 (by decide) ?_
  refine lv_imul hx hb dL_build_29 ?_
  refine lv_ishr hx hb dL_build_30 ?_
  refine lv_bipush (v := 109) hx hb dL_build_31 (by decide) ?_
  refine lv_iload_n hx hb dL_build_33 rfl (lv_at hl.1 3 rfl) ?_
  refine lv_imul hx hb dL_build_34 ?_
  refine lv_iadd hx hb dL_build_35 ?_
  refine jl_istore (lv' := [(4, .int ((x16_2 >>> (((v3 / 13) * 5) &&& 31)) + (109 * v3))), (0, .ref (adk 0)), (1, .ref b), (2, .ref (ad 0)), (3, .int v3)]) hx hb dL_build_36 hl (by decide) rfl (fun ls hl => ?_)
  refine lv_aload_n hx hb dL_build_38 rfl (lv_at hl.1 1 rfl) ?_
  refine lv_aload_n hx hb dL_build_39 rfl (lv_at hl.1 3 rfl) ?_
  refine lv_iload hx hb dL_build_40 (lv_at hl.1 0 rfl) ?_
  obtain ⟨x16_4, hx16_4, hf⟩ := kbind hf
  obtain ⟨uc16_5, us16_6, hf, e1, e2⟩ := kadd_some2 hf
  have e1 : uc = x16_4.2.1 + uc16_5 := e1
  have e2 : us = x16_4.2.2 + us16_6 := e2
  have hc : cells + x16_4.2.1 + uc16_5 = mc := by rw [Nat.add_assoc, ← e1]; exact hc
  have hs : slots + x16_4.2.2 + us16_6 = ms := by rw [Nat.add_assoc, ← e2]; exact hs
  have lc : cells + x16_4.2.1 ≤ mc := Nat.le.intro hc
  have ls2 : slots + x16_4.2.2 ≤ ms := Nat.le.intro hs
  refine jl_calli hA hH (jl_runS (as := [.ref (adk 0), .ref (ad 0), .int ((x16_2 >>> (((v3 / 13) * 5) &&& 31)) + (109 * v3))]) (rest := []) V hA LX hH kYL_act kl_L_108 (c_L_act l LX.1 _ hx16_4 _) rfl rfl ⟨Nat.le_of_ble_eq_true rfl, Nat.le_of_ble_eq_true rfl⟩ rfl hl.1.1 (Nat.le_of_ble_eq_true rfl) dL_build_42 ⟨lc, ls2⟩ rfl) (fun ad16_1 H locs hm hH => ?_)
  have hl : jl_has ls 8 [(4, .int ((x16_2 >>> (((v3 / 13) * 5) &&& 31)) + (109 * v3))), (0, .ref (adk 0)), (1, .ref b), (2, .ref (ad16_1 0)), (3, .int v3)] := by simp only [show ad16_1 0 = _ from hm]; exact hl
  refine lv_if_ne (tgt := 50) hx hb dL_build_45 (by decide) (fun hq => ?_) (fun hq => ?_)
  · have hf := kneg hq hf
    exact w_L_build_50 V hA LX SX hk10 trivial hH (jl_sub hl [1, 2, 3, 4, 0] rfl) hf hc hs
  · have hf := kpos hq hf
    exact w_L_build_48 V hA LX SX trivial hH (jl_sub hl [] rfl) hf hc hs
set_option maxHeartbeats 4000000 in
set_option maxRecDepth 100000 in
theorem w_L_build_115 (V : jV p s mm args meth c cL_build RL 8 (some (.object "KingTiesLaw$Sim")) D g) (hA : ∀ q, s.heap.size ≤ q → A q) (LX : jLX l A s) (SX : jSX A s b L xs) {ad : Nat → Nat} {k : kS} {z : kS} {H : Heap} {locs : List Loc} {ls : Array Slot} {cells slots mc ms uc us : Nat} {o : (kS × kS)} (hG : True) (hH : jH A s H locs D g ad z (jY adk g k mo) []) (hl : jl_has ls 8 [(2, .ref (ad 0))]) (hf : F_L_build_115 xs L k z = some (o, uc, us)) (hc : cells + uc = mc) (hs : slots + us = ms) : W p l e (rm_L_build mc ms) s mm args below meth c H locs cells slots (jLGs below args s D g A adk o.1 mo o.2 mc ms) (F0 mm 115 ls []) := by
  have hx := V.1
  have hb := V.2.1
  refine lv_aload_n hx hb dL_build_115 rfl (lv_at hl.1 0 rfl) ?_
  cases hf
  subst hc
  subst hs
  exact jl_sret V hH dL_build_116
set_option maxHeartbeats 4000000 in
set_option maxRecDepth 100000 in
theorem w_L_build_10 (V : jV p s mm args meth c cL_build RL 8 (some (.object "KingTiesLaw$Sim")) D g) (hA : ∀ q, s.heap.size ≤ q → A q) (LX : jLX l A s) (SX : jSX A s b L xs) : ∀ (n : Nat) {ad : Nat → Nat} {v3 : Int32} {k : kS} {z : kS} {H : Heap} {locs : List Loc} {ls : Array Slot} {cells slots mc ms uc us : Nat} {o : (kS × kS)}, True → jH A s H locs D g ad z (jY adk g k mo) [] → jl_has ls 8 [(0, .ref (adk 0)), (1, .ref b), (2, .ref (ad 0)), (3, .int v3)] → F_L_build_10 xs L n v3 k z = some (o, uc, us) → cells + uc = mc → slots + us = ms → W p l e (rm_L_build mc ms) s mm args below meth c H locs cells slots (jLGs below args s D g A adk o.1 mo o.2 mc ms) (F0 mm 10 ls []) := by
  have hx := V.1
  have hb := V.2.1
  intro n
  induction n with
  | zero => intro _ _ _ _ _ _ _ _ _ _ _ _ _ _ hG hH hl hf hc hs; cases hf
  | succ n hk10 =>
    intro ad v3 k z H locs ls cells slots mc ms uc us o hG hH hl hf hc hs
    refine lv_iload_n hx hb dL_build_10 rfl (lv_at hl.1 3 rfl) ?_
    refine lv_bipush (v := 26) hx hb dL_build_11 (by decide) ?_
    refine lv_icmp_ge (tgt := 115) hx hb dL_build_13 (by decide) (fun hq => ?_) (fun hq => ?_)
    · have hf := kpos hq hf
      exact w_L_build_115 V hA LX SX trivial hH (jl_sub hl [2] rfl) hf hc hs
    · have hf := kneg hq hf
      exact w_L_build_16 V hA LX SX hk10 trivial hH (jl_sub hl [0, 1, 2, 3] rfl) hf hc hs
set_option maxHeartbeats 4000000 in
set_option maxRecDepth 100000 in
theorem w_L_build_0 (V : jV p s mm args meth c cL_build RL 8 (some (.object "KingTiesLaw$Sim")) D g) (hA : ∀ q, s.heap.size ≤ q → A q) (LX : jLX l A s) (SX : jSX A s b L xs) {ad : Nat → Nat} {k : kS} {z : kS} {H : Heap} {locs : List Loc} {ls : Array Slot} {cells slots mc ms uc us : Nat} {o : (kS × kS)} (hG : True) (hH : jW A s H locs D (jY adk g k mo)) (hl : jl_has ls 8 [(0, .ref (adk 0)), (1, .ref b)]) (hf : F_L_build_0 xs L k z = some (o, uc, us)) (hc : cells + uc = mc) (hs : slots + us = ms) : W p l e (rm_L_build mc ms) s mm args below meth c H locs cells slots (jLGs below args s D g A adk o.1 mo o.2 mc ms) (F0 mm 0 ls []) := by
  have hx := V.1
  have hb := V.2.1
  obtain ⟨uc0_1, us0_2, hf, e1, e2⟩ := kadd_some2 hf
  have e1 : uc = 3 + uc0_1 := e1
  have e2 : us = 3 + us0_2 := e2
  have hc : cells + 3 + uc0_1 = mc := by rw [Nat.add_assoc, ← e1]; exact hc
  have hs : slots + 3 + us0_2 = ms := by rw [Nat.add_assoc, ← e2]; exact hs
  have lc : cells + 3 ≤ mc := Nat.le.intro hc
  have ls2 : slots + 3 ≤ ms := Nat.le.intro hs
  refine jnew_S V hA hH hl.1.1 (Nat.le_of_ble_eq_true rfl) (Nat.le_of_ble_eq_true rfl) (Nat.le_of_ble_eq_true rfl) lc ls2 dL_build_0 dL_build_3 dL_build_4 (fun ad H locs hH => ?_)
  refine jl_astore_n (o := some (ad 0)) (lv' := [(2, .ref (ad 0)), (0, .ref (adk 0)), (1, .ref b)]) hx hb dL_build_7 rfl hl (by decide) rfl (fun ls hl => ?_)
  refine lv_iconst (v := 0) hx hb dL_build_8 (by decide) ?_
  refine jl_istore_n (lv' := [(3, .int 0), (2, .ref (ad 0)), (0, .ref (adk 0)), (1, .ref b)]) hx hb dL_build_9 rfl hl (by decide) rfl (fun ls hl => ?_)
  exact w_L_build_10 V hA LX SX kN trivial hH (jl_sub hl [2, 3, 1, 0] rfl) hf hc hs
set_option maxHeartbeats 4000000 in
set_option maxRecDepth 100000 in
-- 
end
