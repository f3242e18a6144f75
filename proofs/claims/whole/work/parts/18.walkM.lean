section
variable {p : Program} {l : Launch} {e : Env} {s : State} {mm : MethodId} {args : Array Value} {below : List Frame} {meth : Method} {c : Code} {D : va_G} {cI cZ cO : ClassId} {ad : Nat → Nat}
abbrev rm_X6_rules (mc ms : Nat) : Room := { frames := 53, cells := mc, slots := ms, locals := 1310 }
set_option maxHeartbeats 4000000 in
set_option maxRecDepth 100000 in
theorem w_X6_rules_13 (V : kV p s mm args meth c cX6_rules RX6 4 (some .int) D cI cZ cO) {k : kS} (XM : kXM s) {mo : kS} {H : Heap} {locs : List Loc} {ls : Array Slot} {cells slots mc ms uc us : Nat} {o : (Int32 × kS)} (hH : kHE s H locs D ad cI cZ cO k mo []) (hl : lv_has ls 4 [(0, .ref (ad 7))]) (hf : F_X6_rules_13 mo = some (o, uc, us)) (hc : cells + uc = mc) (hs : slots + us = ms) : W p l e (rm_X6_rules mc ms) s mm args below meth c H locs cells slots (kGi below args s D cI cZ cO ad o.1 k o.2 mc ms) (F0 mm 13 ls []) := by
  have hx := V.1
  have hb := V.2.1
  refine lv_aload_n hx hb dX6_rules_13 rfl (lv_at hl 0 rfl) ?_
  refine lv_iconst (v := 1) hx hb dX6_rules_14 (by decide) ?_
  obtain ⟨x13_1, hx13_1, hf⟩ := kbind hf
  refine kr_calli0 hH (kr_runV (as := [.int 1]) (rest := []) (pl := 7) V hH kYX6_fail kl_X6_55 (c_X6_fail l _ hx13_1 _) rfl rfl ⟨Nat.le_of_ble_eq_true rfl, Nat.le_of_ble_eq_true rfl⟩ (by decide) kE_7 rfl rfl hl.1 (Nat.le_of_ble_eq_true rfl) dX6_rules_15 ⟨by show cells + 0 ≤ mc; omega, by show slots + 0 ≤ ms; omega⟩ rfl) (fun H locs hH => ?_)
  cases hf
  subst hc
  subst hs
  exact kr_iret V hH dX6_rules_18
set_option maxHeartbeats 4000000 in
set_option maxRecDepth 100000 in
theorem w_X6_rules_40 (V : kV p s mm args meth c cX6_rules RX6 4 (some .int) D cI cZ cO) {k : kS} (XM : kXM s) {c26 : Int32 → Int32 → kS → kS → Option ((Int32 × kS) × Nat × Nat)} (hk26 : ∀ {v1 : Int32} {v3 : Int32} {xq x1 x2 x3 x4 : Nat} {xf : kS} {mo : kS} {H : Heap} {locs : List Loc} {ls : Array Slot} {cells slots mc ms uc us : Nat} {o : (Int32 × kS)}, kHE s H locs D ad cI cZ cO k mo (kXk cI cO xq x1 x2 x3 x4 xf) → lv_has ls 4 [(0, .ref (ad 7)), (1, .int v1), (2, .ref xq), (3, .int v3)] → c26 v1 v3 xf mo = some (o, uc, us) → cells + uc = mc → slots + us = ms → W p l e (rm_X6_rules mc ms) s mm args below meth c H locs cells slots (kGi below args s D cI cZ cO ad o.1 k o.2 mc ms) (F0 mm 26 ls [])) {v1 : Int32} {v3 : Int32} {xq x1 x2 x3 x4 : Nat} {xf : kS} {mo : kS} {H : Heap} {locs : List Loc} {ls : Array Slot} {cells slots mc ms uc us : Nat} {o : (Int32 × kS)} (hH : kHE s H locs D ad cI cZ cO k mo (kXk cI cO xq x1 x2 x3 x4 xf)) (hl : lv_has ls 4 [(0, .ref (ad 7)), (1, .int v1), (2, .ref xq), (3, .int v3)]) (hf : F_X6_rules_40 c26 v1 v3 xf mo = some (o, uc, us)) (hc : cells + uc = mc) (hs : slots + us = ms) : W p l e (rm_X6_rules mc ms) s mm args below meth c H locs cells slots (kGi below args s D cI cZ cO ad o.1 k o.2 mc ms) (F0 mm 40 ls []) := by
  have hx := V.1
  have hb := V.2.1
  refine lv_aload_n hx hb dX6_rules_40 rfl (lv_at hl 0 rfl) ?_
  obtain ⟨x40_1, hx40_1, hf⟩ := kbind hf
  obtain ⟨uc40_2, us40_3, hf, e1, e2⟩ := kadd_some2 hf
  have e1 : uc = x40_1.2.1 + uc40_2 := e1
  have e2 : us = x40_1.2.2 + us40_3 := e2
  have hc : cells + x40_1.2.1 + uc40_2 = mc := by rw [Nat.add_assoc, ← e1]; exact hc
  have hs : slots + x40_1.2.2 + us40_3 = ms := by rw [Nat.add_assoc, ← e2]; exact hs
  have lc : cells + x40_1.2.1 ≤ mc := Nat.le.intro hc
  have ls2 : slots + x40_1.2.2 ≤ ms := Nat.le.intro hs
  refine kr_calli hH (kr_runV (as := []) (rest := []) (pl := 7) V hH kYX6_yearOn kl_X6_156 (c_X6_yearOn l hx40_1 _) rfl rfl ⟨Nat.le_of_ble_eq_true rfl, Nat.le_of_ble_eq_true rfl⟩ (by decide) kE_7 rfl rfl hl.1 (Nat.le_of_ble_eq_true rfl) dX6_rules_41 ⟨lc, ls2⟩ rfl) (fun H locs hH => ?_)
  refine lv_pop hx hb dX6_rules_44 rfl ?_
  refine lv_iinc (v := (v3 + 1)) (lv' := [(3, .int (v3 + 1)), (0, .ref (ad 7)), (1, .int v1), (2, .ref xq)]) hx hb dX6_rules_45 hl (k := 3) rfl rfl (by decide) rfl (fun ls hl => ?_)
  refine lv_goto (tgt := 26) hx hb dX6_rules_48 (by decide) ?_
  exact hk26 hH (lv_sub hl [1, 2, 3, 0] rfl) hf hc hs
set_option maxHeartbeats 4000000 in
set_option maxRecDepth 100000 in
theorem w_X6_rules_61 (V : kV p s mm args meth c cX6_rules RX6 4 (some .int) D cI cZ cO) {k : kS} (XM : kXM s) {v3 : Int32} {xq x1 x2 x3 x4 : Nat} {xf : kS} {mo : kS} {H : Heap} {locs : List Loc} {ls : Array Slot} {cells slots mc ms uc us : Nat} {o : (Int32 × kS)} (hH : kHE s H locs D ad cI cZ cO k mo (kXk cI cO xq x1 x2 x3 x4 xf)) (hl : lv_has ls 4 [(0, .ref (ad 7)), (2, .ref xq), (3, .int v3)]) (hf : F_X6_rules_61 v3 xf mo = some (o, uc, us)) (hc : cells + uc = mc) (hs : slots + us = ms) : W p l e (rm_X6_rules mc ms) s mm args below meth c H locs cells slots (kGi below args s D cI cZ cO ad o.1 k o.2 mc ms) (F0 mm 61 ls []) := by
  have hx := V.1
  have hb := V.2.1
  refine lv_aload_n hx hb dX6_rules_61 rfl (lv_at hl 0 rfl) ?_
  refine lv_aload_n hx hb dX6_rules_62 rfl (lv_at hl 1 rfl) ?_
  obtain ⟨uc61_1, us61_2, hf, e1, e2⟩ := kadd_some2 hf
  have e1 : uc = 1 + uc61_1 := e1
  have e2 : us = 4 + us61_2 := e2
  have hc : cells + 1 + uc61_1 = mc := by rw [Nat.add_assoc, ← e1]; exact hc
  have hs : slots + 4 + us61_2 = ms := by rw [Nat.add_assoc, ← e2]; exact hs
  have lc : cells + 1 ≤ mc := Nat.le.intro hc
  have ls2 : slots + 4 ≤ ms := Nat.le.intro hs
  refine kr_back V XM hH hl.1 kYX6_bringBack kl_X6_171 ⟨Nat.le_of_ble_eq_true rfl, Nat.le_of_ble_eq_true rfl⟩ (Nat.le_of_ble_eq_true rfl) ⟨lc, ls2⟩ dX6_rules_63 (fun H locs hH => ?_)
  refine lv_iload_n hx hb dX6_rules_66 rfl (lv_at hl 2 rfl) ?_
  cases hf
  subst hc
  subst hs
  exact kr_iret V hH dX6_rules_67
set_option maxHeartbeats 4000000 in
set_option maxRecDepth 100000 in
theorem w_X6_rules_59 (V : kV p s mm args meth c cX6_rules RX6 4 (some .int) D cI cZ cO) {k : kS} (XM : kXM s) {xq x1 x2 x3 x4 : Nat} {xf : kS} {mo : kS} {H : Heap} {locs : List Loc} {ls : Array Slot} {cells slots mc ms uc us : Nat} {o : (Int32 × kS)} (hH : kHE s H locs D ad cI cZ cO k mo (kXk cI cO xq x1 x2 x3 x4 xf)) (hl : lv_has ls 4 [(0, .ref (ad 7)), (2, .ref xq)]) (hf : F_X6_rules_59 xf mo = some (o, uc, us)) (hc : cells + uc = mc) (hs : slots + us = ms) : W p l e (rm_X6_rules mc ms) s mm args below meth c H locs cells slots (kGi below args s D cI cZ cO ad o.1 k o.2 mc ms) (F0 mm 59 ls []) := by
  have hx := V.1
  have hb := V.2.1
  refine lv_iconst (v := (-1)) hx hb dX6_rules_59 (by decide) ?_
  refine lv_istore_n (lv' := [(3, .int (-1)), (0, .ref (ad 7)), (2, .ref xq)]) hx hb dX6_rules_60 rfl hl (by decide) rfl (fun ls hl => ?_)
  exact w_X6_rules_61 V XM hH (lv_sub hl [1, 2, 0] rfl) hf hc hs
set_option maxHeartbeats 4000000 in
set_option maxRecDepth 100000 in
theorem w_X6_rules_51 (V : kV p s mm args meth c cX6_rules RX6 4 (some .int) D cI cZ cO) {k : kS} (XM : kXM s) {v1 : Int32} {v3 : Int32} {xq x1 x2 x3 x4 : Nat} {xf : kS} {mo : kS} {H : Heap} {locs : List Loc} {ls : Array Slot} {cells slots mc ms uc us : Nat} {o : (Int32 × kS)} (hH : kHE s H locs D ad cI cZ cO k mo (kXk cI cO xq x1 x2 x3 x4 xf)) (hl : lv_has ls 4 [(0, .ref (ad 7)), (1, .int v1), (2, .ref xq), (3, .int v3)]) (hf : F_X6_rules_51 v1 v3 xf mo = some (o, uc, us)) (hc : cells + uc = mc) (hs : slots + us = ms) : W p l e (rm_X6_rules mc ms) s mm args below meth c H locs cells slots (kGi below args s D cI cZ cO ad o.1 k o.2 mc ms) (F0 mm 51 ls []) := by
  have hx := V.1
  have hb := V.2.1
  refine lv_aload_n hx hb dX6_rules_51 rfl (lv_at hl 0 rfl) ?_
  refine lv_iload_n hx hb dX6_rules_52 rfl (lv_at hl 1 rfl) ?_
  obtain ⟨x51_1, hx51_1, hf⟩ := kbind hf
  refine kr_calli0 hH (kr_runV (as := [.int v1]) (rest := []) (pl := 7) V hH kYX6_rulesNow kl_X6_150 (c_X6_rulesNow l _ hx51_1 _) rfl rfl ⟨Nat.le_of_ble_eq_true rfl, Nat.le_of_ble_eq_true rfl⟩ (by decide) kE_7 rfl rfl hl.1 (Nat.le_of_ble_eq_true rfl) dX6_rules_53 ⟨by show cells + 0 ≤ mc; omega, by show slots + 0 ≤ ms; omega⟩ rfl) (fun H locs hH => ?_)
  refine lv_if_ne (tgt := 61) hx hb dX6_rules_56 (by decide) (fun hq => ?_) (fun hq => ?_)
  · have hf := kneg hq hf
    exact w_X6_rules_61 V XM hH (lv_sub hl [0, 2, 3] rfl) hf hc hs
  · have hf := kpos hq hf
    exact w_X6_rules_59 V XM hH (lv_sub hl [0, 2] rfl) hf hc hs
set_option maxHeartbeats 4000000 in
set_option maxRecDepth 100000 in
theorem w_X6_rules_32 (V : kV p s mm args meth c cX6_rules RX6 4 (some .int) D cI cZ cO) {k : kS} (XM : kXM s) {c26 : Int32 → Int32 → kS → kS → Option ((Int32 × kS) × Nat × Nat)} (hk26 : ∀ {v1 : Int32} {v3 : Int32} {xq x1 x2 x3 x4 : Nat} {xf : kS} {mo : kS} {H : Heap} {locs : List Loc} {ls : Array Slot} {cells slots mc ms uc us : Nat} {o : (Int32 × kS)}, kHE s H locs D ad cI cZ cO k mo (kXk cI cO xq x1 x2 x3 x4 xf) → lv_has ls 4 [(0, .ref (ad 7)), (1, .int v1), (2, .ref xq), (3, .int v3)] → c26 v1 v3 xf mo = some (o, uc, us) → cells + uc = mc → slots + us = ms → W p l e (rm_X6_rules mc ms) s mm args below meth c H locs cells slots (kGi below args s D cI cZ cO ad o.1 k o.2 mc ms) (F0 mm 26 ls [])) {v1 : Int32} {v3 : Int32} {xq x1 x2 x3 x4 : Nat} {xf : kS} {mo : kS} {H : Heap} {locs : List Loc} {ls : Array Slot} {cells slots mc ms uc us : Nat} {o : (Int32 × kS)} (hH : kHE s H locs D ad cI cZ cO k mo (kXk cI cO xq x1 x2 x3 x4 xf)) (hl : lv_has ls 4 [(0, .ref (ad 7)), (1, .int v1), (2, .ref xq), (3, .int v3)]) (hf : F_X6_rules_32 c26 v1 v3 xf mo = some (o, uc, us)) (hc : cells + uc = mc) (hs : slots + us = ms) : W p l e (rm_X6_rules mc ms) s mm args below meth c H locs cells slots (kGi below args s D cI cZ cO ad o.1 k o.2 mc ms) (F0 mm 32 ls []) := by
  have hx := V.1
  have hb := V.2.1
  refine lv_aload_n hx hb dX6_rules_32 rfl (lv_at hl 0 rfl) ?_
  refine lv_iload_n hx hb dX6_rules_33 rfl (lv_at hl 1 rfl) ?_
  obtain ⟨x32_1, hx32_1, hf⟩ := kbind hf
  refine kr_calli0 hH (kr_runV (as := [.int v1]) (rest := []) (pl := 7) V hH kYX6_rulesNow kl_X6_150 (c_X6_rulesNow l _ hx32_1 _) rfl rfl ⟨Nat.le_of_ble_eq_true rfl, Nat.le_of_ble_eq_true rfl⟩ (by decide) kE_7 rfl rfl hl.1 (Nat.le_of_ble_eq_true rfl) dX6_rules_34 ⟨by show cells + 0 ≤ mc; omega, by show slots + 0 ≤ ms; omega⟩ rfl) (fun H locs hH => ?_)
  refine lv_if_ne (tgt := 51) hx hb dX6_rules_37 (by decide) (fun hq => ?_) (fun hq => ?_)
  · have hf := kneg hq hf
    exact w_X6_rules_51 V XM hH (lv_sub hl [0, 1, 2, 3] rfl) hf hc hs
  · have hf := kpos hq hf
    exact w_X6_rules_40 V XM hk26 hH (lv_sub hl [0, 1, 2, 3] rfl) hf hc hs
set_option maxHeartbeats 4000000 in
set_option maxRecDepth 100000 in
theorem w_X6_rules_26 (V : kV p s mm args meth c cX6_rules RX6 4 (some .int) D cI cZ cO) {k : kS} (XM : kXM s) : ∀ (n : Nat) {v1 : Int32} {v3 : Int32} {xq x1 x2 x3 x4 : Nat} {xf : kS} {mo : kS} {H : Heap} {locs : List Loc} {ls : Array Slot} {cells slots mc ms uc us : Nat} {o : (Int32 × kS)}, kHE s H locs D ad cI cZ cO k mo (kXk cI cO xq x1 x2 x3 x4 xf) → lv_has ls 4 [(0, .ref (ad 7)), (1, .int v1), (2, .ref xq), (3, .int v3)] → F_X6_rules_26 n v1 v3 xf mo = some (o, uc, us) → cells + uc = mc → slots + us = ms → W p l e (rm_X6_rules mc ms) s mm args below meth c H locs cells slots (kGi below args s D cI cZ cO ad o.1 k o.2 mc ms) (F0 mm 26 ls []) := by
  have hx := V.1
  have hb := V.2.1
  intro n
  induction n with
  | zero => intro _ _ _ _ _ _ _ _ _ _ _ _ _ _ _ _ _ _ _ hH hl hf hc hs; cases hf
  | succ n hk26 =>
    intro v1 v3 xq x1 x2 x3 x4 xf mo H locs ls cells slots mc ms uc us o hH hl hf hc hs
    refine lv_iload_n hx hb dX6_rules_26 rfl (lv_at hl 3 rfl) ?_
    refine lv_bipush (v := 100) hx hb dX6_rules_27 (by decide) ?_
    refine lv_icmp_ge (tgt := 51) hx hb dX6_rules_29 (by decide) (fun hq => ?_) (fun hq => ?_)
    · have hf := kpos hq hf
      exact w_X6_rules_51 V XM hH (lv_sub hl [0, 1, 2, 3] rfl) hf hc hs
    · have hf := kneg hq hf
      exact w_X6_rules_32 V XM hk26 hH (lv_sub hl [0, 1, 2, 3] rfl) hf hc hs
set_option maxHeartbeats 4000000 in
set_option maxRecDepth 100000 in
theorem w_X6_rules_19 (V : kV p s mm args meth c cX6_rules RX6 4 (some .int) D cI cZ cO) {k : kS} (XM : kXM s) {v1 : Int32} {mo : kS} {H : Heap} {locs : List Loc} {ls : Array Slot} {cells slots mc ms uc us : Nat} {o : (Int32 × kS)} (hH : kHE s H locs D ad cI cZ cO k mo []) (hl : lv_has ls 4 [(0, .ref (ad 7)), (1, .int v1)]) (hf : F_X6_rules_19 v1 mo = some (o, uc, us)) (hc : cells + uc = mc) (hs : slots + us = ms) : W p l e (rm_X6_rules mc ms) s mm args below meth c H locs cells slots (kGi below args s D cI cZ cO ad o.1 k o.2 mc ms) (F0 mm 19 ls []) := by
  have hx := V.1
  have hb := V.2.1
  refine lv_aload_n hx hb dX6_rules_19 rfl (lv_at hl 0 rfl) ?_
  obtain ⟨uc19_1, us19_2, hf, e1, e2⟩ := kadd_some2 hf
  have e1 : uc = 5 + uc19_1 := e1
  have e2 : us = 593 + us19_2 := e2
  have hc : cells + 5 + uc19_1 = mc := by rw [Nat.add_assoc, ← e1]; exact hc
  have hs : slots + 593 + us19_2 = ms := by rw [Nat.add_assoc, ← e2]; exact hs
  have lc : cells + 5 ≤ mc := Nat.le.intro hc
  have ls2 : slots + 593 ≤ ms := Nat.le.intro hs
  refine kr_kept V XM hH hl.1 kl_X6_168 ⟨Nat.le_of_ble_eq_true rfl, Nat.le_of_ble_eq_true rfl⟩ (Nat.le_of_ble_eq_true rfl) ⟨lc, ls2⟩ dX6_rules_20 (fun xq x1 x2 x3 x4 H locs hH => ?_)
  refine lv_astore_n (lv' := [(2, .ref xq), (0, .ref (ad 7)), (1, .int v1)]) hx hb dX6_rules_23 rfl hl (by decide) rfl (fun ls hl => ?_)
  refine lv_iconst (v := 0) hx hb dX6_rules_24 (by decide) ?_
  refine lv_istore_n (lv' := [(3, .int 0), (2, .ref xq), (0, .ref (ad 7)), (1, .int v1)]) hx hb dX6_rules_25 rfl hl (by decide) rfl (fun ls hl => ?_)
  exact w_X6_rules_26 V XM kN hH (lv_sub hl [2, 3, 1, 0] rfl) hf hc hs
set_option maxHeartbeats 4000000 in
set_option maxRecDepth 100000 in
theorem w_X6_rules_0 (V : kV p s mm args meth c cX6_rules RX6 4 (some .int) D cI cZ cO) {k : kS} (XM : kXM s) {v1 : Int32} {mo : kS} {H : Heap} {locs : List Loc} {ls : Array Slot} {cells slots mc ms uc us : Nat} {o : (Int32 × kS)} (hH : kHE s H locs D ad cI cZ cO k mo []) (hl : lv_has ls 4 [(0, .ref (ad 7)), (1, .int v1)]) (hf : F_X6_rules_0 v1 mo = some (o, uc, us)) (hc : cells + uc = mc) (hs : slots + us = ms) : W p l e (rm_X6_rules mc ms) s mm args below meth c H locs cells slots (kGi below args s D cI cZ cO ad o.1 k o.2 mc ms) (F0 mm 0 ls []) := by
  have hx := V.1
  have hb := V.2.1
  refine lv_aload_n hx hb dX6_rules_0 rfl (lv_at hl 0 rfl) ?_
  refine lv_iconst (v := 0) hx hb dX6_rules_1 (by decide) ?_
  refine kp_X6_31 V hH dX6_rules_2 (fun H locs hH => ?_)
  refine lv_aload_n hx hb dX6_rules_5 rfl (lv_at hl 0 rfl) ?_
  refine lv_iload_n hx hb dX6_rules_6 rfl (lv_at hl 1 rfl) ?_
  obtain ⟨x0_1, hx0_1, hf⟩ := kbind hf
  refine kr_calli0 hH (kr_runV (as := [.int v1]) (rest := []) (pl := 7) V hH kYX6_isPerson kl_X6_63 (c_X6_isPerson l _ hx0_1 _) rfl rfl ⟨Nat.le_of_ble_eq_true rfl, Nat.le_of_ble_eq_true rfl⟩ (by decide) kE_7 rfl rfl hl.1 (Nat.le_of_ble_eq_true rfl) dX6_rules_7 ⟨by show cells + 0 ≤ mc; omega, by show slots + 0 ≤ ms; omega⟩ rfl) (fun H locs hH => ?_)
  refine lv_if_ne (tgt := 19) hx hb dX6_rules_10 (by decide) (fun hq => ?_) (fun hq => ?_)
  · have hf := kneg hq hf
    exact w_X6_rules_19 V XM hH (lv_sub hl [0, 1] rfl) hf hc hs
  · have hf := kpos hq hf
    exact w_X6_rules_13 V XM hH (lv_sub hl [0] rfl) hf hc hs
set_option maxHeartbeats 4000000 in
set_option maxRecDepth 100000 in
theorem c_X6_rules (l : Launch) {D : va_G} {cI cZ cO : ClassId} {ad : Nat → Nat} {k mo : kS} (v1 : Int32) {o : (Int32 × kS)} {mc ms : Nat} (hf : F_X6_rules v1 mo = some (o, mc, ms)) (sz : Nat) : Met l yX6_rules (Cond.code yX6_rules cX6_rules 4 (some .int) :: kWA) (rm_X6_rules mc ms) (kPM [.ref (ad 7), .int v1] D cI cZ cO ad (kE ad cI cZ cO k mo) [] sz) (kQi o.1 D cI cZ cO ad (kE ad cI cZ cO k o.2) sz) mc ms (fA ad sz) := by
  refine km_met (as := [.ref (ad 7), .int v1]) (bytes := cX6_rules) (maxL := 4) (rt := (some .int)) (Qc := fun sz => kQi o.1 D cI cZ cO ad (kE ad cI cZ cO k o.2) sz) (lv := [(0, .ref (ad 7)), (1, .int v1)]) (by decide +kernel) (Nat.le_of_ble_eq_true rfl) rfl (fun p e s mm below meth c ls V XM hH hl => ?_) sz
  exact w_X6_rules_0 V XM hH (lv_sub hl [0, 1] rfl) hf (Nat.zero_add _) (Nat.zero_add _)
end
section
variable {p : Program} {l : Launch} {e : Env} {s : State} {mm : MethodId} {args : Array Value} {below : List Frame} {meth : Method} {c : Code} {D : va_G} {cI cZ cO : ClassId} {ad : Nat → Nat}
abbrev rm_X6_foresee (mc ms : Nat) : Room := { frames := 54, cells := mc, slots := ms, locals := 1333 }
set_option maxHeartbeats 4000000 in
set_option maxRecDepth 100000 in
theorem w_X6_foresee_15 (V : kV p s mm args meth c cX6_foresee RX6 5 (some .int) D cI cZ cO) {k : kS} (XM : kXM s) {mo : kS} {H : Heap} {locs : List Loc} {ls : Array Slot} {cells slots mc ms uc us : Nat} {o : (Int32 × kS)} (hH : kHE s H locs D ad cI cZ cO k mo []) (hl : lv_has ls 5 [(0, .ref (ad 7))]) (hf : F_X6_foresee_15 mo = some (o, uc, us)) (hc : cells + uc = mc) (hs : slots + us = ms) : W p l e (rm_X6_foresee mc ms) s mm args below meth c H locs cells slots (kGi below args s D cI cZ cO ad o.1 k o.2 mc ms) (F0 mm 15 ls []) := by
  have hx := V.1
  have hb := V.2.1
  refine lv_aload_n hx hb dX6_foresee_15 rfl (lv_at hl 0 rfl) ?_
  refine lv_iconst (v := 1) hx hb dX6_foresee_16 (by decide) ?_
  obtain ⟨x15_1, hx15_1, hf⟩ := kbind hf
  refine kr_calli0 hH (kr_runV (as := [.int 1]) (rest := []) (pl := 7) V hH kYX6_fail kl_X6_55 (c_X6_fail l _ hx15_1 _) rfl rfl ⟨Nat.le_of_ble_eq_true rfl, Nat.le_of_ble_eq_true rfl⟩ (by decide) kE_7 rfl rfl hl.1 (Nat.le_of_ble_eq_true rfl) dX6_foresee_17 ⟨by show cells + 0 ≤ mc; omega, by show slots + 0 ≤ ms; omega⟩ rfl) (fun H locs hH => ?_)
  cases hf
  subst hc
  subst hs
  exact kr_iret V hH dX6_foresee_20
set_option maxHeartbeats 4000000 in
set_option maxRecDepth 100000 in
theorem w_X6_foresee_29 (V : kV p s mm args meth c cX6_foresee RX6 5 (some .int) D cI cZ cO) {k : kS} (XM : kXM s) {mo : kS} {H : Heap} {locs : List Loc} {ls : Array Slot} {cells slots mc ms uc us : Nat} {o : (Int32 × kS)} (hH : kHE s H locs D ad cI cZ cO k mo []) (hl : lv_has ls 5 [(0, .ref (ad 7))]) (hf : F_X6_foresee_29 mo = some (o, uc, us)) (hc : cells + uc = mc) (hs : slots + us = ms) : W p l e (rm_X6_foresee mc ms) s mm args below meth c H locs cells slots (kGi below args s D cI cZ cO ad o.1 k o.2 mc ms) (F0 mm 29 ls []) := by
  have hx := V.1
  have hb := V.2.1
  refine lv_aload_n hx hb dX6_foresee_29 rfl (lv_at hl 0 rfl) ?_
  refine lv_iconst (v := 2) hx hb dX6_foresee_30 (by decide) ?_
  obtain ⟨x29_1, hx29_1, hf⟩ := kbind hf
  refine kr_calli0 hH (kr_runV (as := [.int 2]) (rest := []) (pl := 7) V hH kYX6_fail kl_X6_55 (c_X6_fail l _ hx29_1 _) rfl rfl ⟨Nat.le_of_ble_eq_true rfl, Nat.le_of_ble_eq_true rfl⟩ (by decide) kE_7 rfl rfl hl.1 (Nat.le_of_ble_eq_true rfl) dX6_foresee_31 ⟨by show cells + 0 ≤ mc; omega, by show slots + 0 ≤ ms; omega⟩ rfl) (fun H locs hH => ?_)
  cases hf
  subst hc
  subst hs
  exact kr_iret V hH dX6_foresee_34
set_option maxHeartbeats 4000000 in
set_option maxRecDepth 100000 in
theorem w_X6_foresee_35 (V : kV p s mm args meth c cX6_foresee RX6 5 (some .int) D cI cZ cO) {k : kS} (XM : kXM s) {v1 : Int32} {v2 : Int32} {mo : kS} {H : Heap} {locs : List Loc} {ls : Array Slot} {cells slots mc ms uc us : Nat} {o : (Int32 × kS)} (hH : kHE s H locs D ad cI cZ cO k mo []) (hl : lv_has ls 5 [(0, .ref (ad 7)), (1, .int v1), (2, .int v2)]) (hf : F_X6_foresee_35 v1 v2 mo = some (o, uc, us)) (hc : cells + uc = mc) (hs : slots + us = ms) : W p l e (rm_X6_foresee mc ms) s mm args below meth c H locs cells slots (kGi below args s D cI cZ cO ad o.1 k o.2 mc ms) (F0 mm 35 ls []) := by
  have hx := V.1
  have hb := V.2.1
  refine lv_aload_n hx hb dX6_foresee_35 rfl (lv_at hl 0 rfl) ?_
  obtain ⟨uc35_1, us35_2, hf, e1, e2⟩ := kadd_some2 hf
  have e1 : uc = 5 + uc35_1 := e1
  have e2 : us = 593 + us35_2 := e2
  have hc : cells + 5 + uc35_1 = mc := by rw [Nat.add_assoc, ← e1]; exact hc
  have hs : slots + 593 + us35_2 = ms := by rw [Nat.add_assoc, ← e2]; exact hs
  have lc : cells + 5 ≤ mc := Nat.le.intro hc
  have ls2 : slots + 593 ≤ ms := Nat.le.intro hs
  refine kr_kept V XM hH hl.1 kl_X6_168 ⟨Nat.le_of_ble_eq_true rfl, Nat.le_of_ble_eq_true rfl⟩ (Nat.le_of_ble_eq_true rfl) ⟨lc, ls2⟩ dX6_foresee_36 (fun xq x1 x2 x3 x4 H locs hH => ?_)
  refine lv_astore_n (lv' := [(3, .ref xq), (0, .ref (ad 7)), (1, .int v1), (2, .int v2)]) hx hb dX6_foresee_39 rfl hl (by decide) rfl (fun ls hl => ?_)
  refine lv_aload_n hx hb dX6_foresee_40 rfl (lv_at hl 1 rfl) ?_
  refine lv_iload_n hx hb dX6_foresee_41 rfl (lv_at hl 2 rfl) ?_
  obtain ⟨x35_3, hx35_3, hf⟩ := kbind hf
  obtain ⟨uc35_4, us35_5, hf, e1, e2⟩ := kadd_some2 hf
  have e1 : uc35_1 = x35_3.2.1 + uc35_4 := e1
  have e2 : us35_2 = x35_3.2.2 + us35_5 := e2
  have hc : cells + 5 + x35_3.2.1 + uc35_4 = mc := by rw [Nat.add_assoc, ← e1]; exact hc
  have hs : slots + 593 + x35_3.2.2 + us35_5 = ms := by rw [Nat.add_assoc, ← e2]; exact hs
  have lc : cells + 5 + x35_3.2.1 ≤ mc := Nat.le.intro hc
  have ls2 : slots + 593 + x35_3.2.2 ≤ ms := Nat.le.intro hs
  refine kr_calli hH (kr_runV (as := [.int v1]) (rest := []) (pl := 7) V hH kYX6_yearsOn kl_X6_160 (c_X6_yearsOn l _ hx35_3 _) rfl rfl ⟨Nat.le_of_ble_eq_true rfl, Nat.le_of_ble_eq_true rfl⟩ (by decide) kE_7 rfl rfl hl.1 (Nat.le_of_ble_eq_true rfl) dX6_foresee_42 ⟨lc, ls2⟩ rfl) (fun H locs hH => ?_)
  refine lv_pop hx hb dX6_foresee_45 rfl ?_
  refine lv_aload_n hx hb dX6_foresee_46 rfl (lv_at hl 1 rfl) ?_
  refine lv_iload_n hx hb dX6_foresee_47 rfl (lv_at hl 3 rfl) ?_
  refine lv_iconst (v := 2) hx hb dX6_foresee_48 (by decide) ?_
  obtain ⟨x35_6, hx35_6, hf⟩ := kbind hf
  refine kr_calli0 hH (kr_runV (as := [.int v2, .int 2]) (rest := []) (pl := 7) V hH kYX6_la kl_X6_77 (c_X6_la l _ _ hx35_6 _) rfl rfl ⟨Nat.le_of_ble_eq_true rfl, Nat.le_of_ble_eq_true rfl⟩ (by decide) kE_7 rfl rfl hl.1 (Nat.le_of_ble_eq_true rfl) dX6_foresee_49 ⟨by show cells + 5 + x35_3.2.1 + 0 ≤ mc; omega, by show slots + 593 + x35_3.2.2 + 0 ≤ ms; omega⟩ rfl) (fun H locs hH => ?_)
  refine lv_istore (lv' := [(4, .int x35_6), (3, .ref xq), (0, .ref (ad 7)), (1, .int v1), (2, .int v2)]) hx hb dX6_foresee_52 hl (by decide) rfl (fun ls hl => ?_)
  refine lv_aload_n hx hb dX6_foresee_54 rfl (lv_at hl 2 rfl) ?_
  refine lv_aload_n hx hb dX6_foresee_55 rfl (lv_at hl 1 rfl) ?_
  obtain ⟨uc35_7, us35_8, hf, e1, e2⟩ := kadd_some2 hf
  have e1 : uc35_4 = 1 + uc35_7 := e1
  have e2 : us35_5 = 4 + us35_8 := e2
  have hc : cells + 5 + x35_3.2.1 + 1 + uc35_7 = mc := by rw [Nat.add_assoc, ← e1]; exact hc
  have hs : slots + 593 + x35_3.2.2 + 4 + us35_8 = ms := by rw [Nat.add_assoc, ← e2]; exact hs
  have lc : cells + 5 + x35_3.2.1 + 1 ≤ mc := Nat.le.intro hc
  have ls2 : slots + 593 + x35_3.2.2 + 4 ≤ ms := Nat.le.intro hs
  refine kr_back V XM hH hl.1 kYX6_bringBack kl_X6_171 ⟨Nat.le_of_ble_eq_true rfl, Nat.le_of_ble_eq_true rfl⟩ (Nat.le_of_ble_eq_true rfl) ⟨lc, ls2⟩ dX6_foresee_56 (fun H locs hH => ?_)
  refine lv_iload hx hb dX6_foresee_59 (lv_at hl 0 rfl) ?_
  cases hf
  subst hc
  subst hs
  exact kr_iret V hH dX6_foresee_61
set_option maxHeartbeats 4000000 in
set_option maxRecDepth 100000 in
theorem w_X6_foresee_21 (V : kV p s mm args meth c cX6_foresee RX6 5 (some .int) D cI cZ cO) {k : kS} (XM : kXM s) {v1 : Int32} {v2 : Int32} {mo : kS} {H : Heap} {locs : List Loc} {ls : Array Slot} {cells slots mc ms uc us : Nat} {o : (Int32 × kS)} (hH : kHE s H locs D ad cI cZ cO k mo []) (hl : lv_has ls 5 [(0, .ref (ad 7)), (1, .int v1), (2, .int v2)]) (hf : F_X6_foresee_21 v1 v2 mo = some (o, uc, us)) (hc : cells + uc = mc) (hs : slots + us = ms) : W p l e (rm_X6_foresee mc ms) s mm args below meth c H locs cells slots (kGi below args s D cI cZ cO ad o.1 k o.2 mc ms) (F0 mm 21 ls []) := by
  have hx := V.1
  have hb := V.2.1
  refine lv_aload_n hx hb dX6_foresee_21 rfl (lv_at hl 0 rfl) ?_
  refine lv_iload_n hx hb dX6_foresee_22 rfl (lv_at hl 2 rfl) ?_
  obtain ⟨x21_1, hx21_1, hf⟩ := kbind hf
  refine kr_calli0 hH (kr_runV (as := [.int v2]) (rest := []) (pl := 7) V hH kYX6_isLand kl_X6_74 (c_X6_isLand l _ hx21_1 _) rfl rfl ⟨Nat.le_of_ble_eq_true rfl, Nat.le_of_ble_eq_true rfl⟩ (by decide) kE_7 rfl rfl hl.1 (Nat.le_of_ble_eq_true rfl) dX6_foresee_23 ⟨by show cells + 0 ≤ mc; omega, by show slots + 0 ≤ ms; omega⟩ rfl) (fun H locs hH => ?_)
  refine lv_if_ne (tgt := 35) hx hb dX6_foresee_26 (by decide) (fun hq => ?_) (fun hq => ?_)
  · have hf := kneg hq hf
    exact w_X6_foresee_35 V XM hH (lv_sub hl [0, 1, 2] rfl) hf hc hs
  · have hf := kpos hq hf
    exact w_X6_foresee_29 V XM hH (lv_sub hl [0] rfl) hf hc hs
set_option maxHeartbeats 4000000 in
set_option maxRecDepth 100000 in
theorem w_X6_foresee_0 (V : kV p s mm args meth c cX6_foresee RX6 5 (some .int) D cI cZ cO) {k : kS} (XM : kXM s) {v1 : Int32} {v2 : Int32} {mo : kS} {H : Heap} {locs : List Loc} {ls : Array Slot} {cells slots mc ms uc us : Nat} {o : (Int32 × kS)} (hH : kHE s H locs D ad cI cZ cO k mo []) (hl : lv_has ls 5 [(0, .ref (ad 7)), (1, .int v1), (2, .int v2)]) (hf : F_X6_foresee_0 v1 v2 mo = some (o, uc, us)) (hc : cells + uc = mc) (hs : slots + us = ms) : W p l e (rm_X6_foresee mc ms) s mm args below meth c H locs cells slots (kGi below args s D cI cZ cO ad o.1 k o.2 mc ms) (F0 mm 0 ls []) := by
  have hx := V.1
  have hb := V.2.1
  refine lv_aload_n hx hb dX6_foresee_0 rfl (lv_at hl 0 rfl) ?_
  refine lv_iconst (v := 0) hx hb dX6_foresee_1 (by decide) ?_
  refine kp_X6_31 V hH dX6_foresee_2 (fun H locs hH => ?_)
  refine lv_iload_n hx hb dX6_foresee_5 rfl (lv_at hl 1 rfl) ?_
  refine lv_iconst (v := 1) hx hb dX6_foresee_6 (by decide) ?_
  refine lv_bipush (v := 100) hx hb dX6_foresee_7 (by decide) ?_
  obtain ⟨x0_1, hx0_1, hf⟩ := kbind hf
  refine kr_calli0 hH (kr_runS (as := [.int v1, .int 1, .int 100]) (rest := []) V hH kYX6_isIn kl_X6_38 (c_X6_isIn l _ _ _ hx0_1 _) rfl rfl ⟨Nat.le_of_ble_eq_true rfl, Nat.le_of_ble_eq_true rfl⟩ rfl hl.1 (Nat.le_of_ble_eq_true rfl) dX6_foresee_9 ⟨by show cells + 0 ≤ mc; omega, by show slots + 0 ≤ ms; omega⟩ rfl) (fun H locs hH => ?_)
  refine lv_if_ne (tgt := 21) hx hb dX6_foresee_12 (by decide) (fun hq => ?_) (fun hq => ?_)
  · have hf := kneg hq hf
    exact w_X6_foresee_21 V XM hH (lv_sub hl [0, 1, 2] rfl) hf hc hs
  · have hf := kpos hq hf
    exact w_X6_foresee_15 V XM hH (lv_sub hl [0] rfl) hf hc hs
set_option maxHeartbeats 4000000 in
set_option maxRecDepth 100000 in
theorem c_X6_foresee (l : Launch) {D : va_G} {cI cZ cO : ClassId} {ad : Nat → Nat} {k mo : kS} (v1 : Int32) (v2 : Int32) {o : (Int32 × kS)} {mc ms : Nat} (hf : F_X6_foresee v1 v2 mo = some (o, mc, ms)) (sz : Nat) : Met l yX6_foresee (Cond.code yX6_foresee cX6_foresee 5 (some .int) :: kWA) (rm_X6_foresee mc ms) (kPM [.ref (ad 7), .int v1, .int v2] D cI cZ cO ad (kE ad cI cZ cO k mo) [] sz) (kQi o.1 D cI cZ cO ad (kE ad cI cZ cO k o.2) sz) mc ms (fA ad sz) := by
  refine km_met (as := [.ref (ad 7), .int v1, .int v2]) (bytes := cX6_foresee) (maxL := 5) (rt := (some .int)) (Qc := fun sz => kQi o.1 D cI cZ cO ad (kE ad cI cZ cO k o.2) sz) (lv := [(0, .ref (ad 7)), (1, .int v1), (2, .int v2)]) (by decide +kernel) (Nat.le_of_ble_eq_true rfl) rfl (fun p e s mm below meth c ls V XM hH hl => ?_) sz
  exact w_X6_foresee_0 V XM hH (lv_sub hl [0, 1, 2] rfl) hf (Nat.zero_add _) (Nat.zero_add _)
end
