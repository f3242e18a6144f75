/-! SIM'S WRITING METHODS: walks and contracts -/
section
variable {p : Program} {l : Launch} {e : Env} {s : State} {mm : MethodId} {args : Array Value} {below : List Frame} {meth : Method} {c : Code} {D : va_G} {g : Nat → ClassId} {A : Nat → Prop}
variable {G : (Nat → Nat) → Prop}
abbrev rm_X8_rule (mc ms : Nat) : Room := { frames := 0, cells := mc, slots := ms, locals := 0 }
set_option maxHeartbeats 4000000 in
set_option maxRecDepth 100000 in
theorem w_X8_rule_9 (V : jV p s mm args meth c cX8_rule RX8 5 none D g) (hA : ∀ q, s.heap.size ≤ q → A q) (hGs : ∀ a b : Nat → Nat, G a → jH3 a b → G b) {ad : Nat → Nat} {z : kS} {H : Heap} {locs : List Loc} {ls : Array Slot} {cells slots mc ms uc us : Nat} {o : kS} (hG : G ad) (hH : jH A s H locs D g ad z [] []) (hl : jl_has ls 5 []) (hf : F_X8_rule_9 z = some (o, uc, us)) (hc : cells + uc = mc) (hs : slots + us = ms) : W p l e (rm_X8_rule mc ms) s mm args below meth c H locs cells slots (jGv below args s D g A G o mc ms) (F0 mm 9 ls []) := by
  have hx := V.1
  have hb := V.2.1
  cases hf
  subst hc
  subst hs
  exact je_vret V hG hH dX8_rule_9
set_option maxHeartbeats 4000000 in
set_option maxRecDepth 100000 in
theorem w_X8_rule_34 (V : jV p s mm args meth c cX8_rule RX8 5 none D g) (hA : ∀ q, s.heap.size ≤ q → A q) (hGs : ∀ a b : Nat → Nat, G a → jH3 a b → G b) {c24 : Int32 → Int32 → Int32 → Int32 → (Nat → Int32) → kS → Option (kS × Nat × Nat)} (hk24 : ∀ {ad : Nat → Nat} {v1 : Int32} {v2 : Int32} {v4 : Int32} {xq17 : Nat} {xl17 : Int32} {xf17 : Nat → Int32} {z : kS} {H : Heap} {locs : List Loc} {ls : Array Slot} {cells slots mc ms uc us : Nat} {o : kS}, G ad → jH A s H locs D g ad z [] [jTp g ad xq17 xl17 xf17] → jl_has ls 5 [(1, jv ad 2 v1), (2, jv ad 1 v2), (3, .ref xq17), (4, .int v4)] → c24 v1 v2 v4 xl17 xf17 z = some (o, uc, us) → cells + uc = mc → slots + us = ms → W p l e (rm_X8_rule mc ms) s mm args below meth c H locs cells slots (jGv below args s D g A G o mc ms) (F0 mm 24 ls [])) {ad : Nat → Nat} {v1 : Int32} {v2 : Int32} {v4 : Int32} {xq17 : Nat} {xl17 : Int32} {xf17 : Nat → Int32} {z : kS} {H : Heap} {locs : List Loc} {ls : Array Slot} {cells slots mc ms uc us : Nat} {o : kS} (hG : G ad) (hH : jH A s H locs D g ad z [] [jTp g ad xq17 xl17 xf17]) (hl : jl_has ls 5 [(1, jv ad 2 v1), (2, jv ad 1 v2), (3, .ref xq17), (4, .int v4)]) (hf : F_X8_rule_34 c24 v1 v2 v4 xl17 xf17 z = some (o, uc, us)) (hc : cells + uc = mc) (hs : slots + us = ms) : W p l e (rm_X8_rule mc ms) s mm args below meth c H locs cells slots (jGv below args s D g A G o mc ms) (F0 mm 34 ls []) := by
  have hx := V.1
  have hb := V.2.1
  refine lv_aload_n hx hb dX8_rule_34 rfl (lv_at hl.1 2 rfl) ?_
  refine lv_iload hx hb dX8_rule_35 (lv_at hl.1 3 rfl) ?_
  refine lv_iconst (v := 1) hx hb dX8_rule_37 (by decide) ?_
  refine lv_iadd hx hb dX8_rule_38 ?_
  refine jl_aload_n hx hb dX8_rule_39 rfl (lv_at hl.1 0 rfl) ?_
  obtain ⟨h34_1, hf⟩ := kif hf
  refine jg_L V hH h34_1 3 (by decide) kf_X8_53 rfl dX8_rule_40 ?_
  refine lv_iload hx hb dX8_rule_43 (lv_at hl.1 3 rfl) ?_
  obtain ⟨h34_2, hf⟩ := kif hf
  refine jald_H V hH h34_1 h34_2 dX8_rule_45 ?_
  obtain ⟨h34_3, hf⟩ := kif hf
  obtain ⟨h34_4, hf⟩ := kif hf
  refine jt_astp V hH 0 rfl h34_3 h34_4 rfl dX8_rule_46 (fun H locs hH => ?_)
  refine jl_iinc (v := (v4 + 1)) (lv' := [(4, .int (v4 + 1)), (1, jv ad 2 v1), (2, jv ad 1 v2), (3, .ref xq17)]) hx hb dX8_rule_47 hl (k := 3) rfl rfl (by decide) rfl (fun ls hl => ?_)
  refine lv_goto (tgt := 24) hx hb dX8_rule_50 (by decide) ?_
  exact hk24 hG hH (jl_sub hl [1, 2, 3, 0] rfl) hf hc hs
set_option maxHeartbeats 4000000 in
set_option maxRecDepth 100000 in
theorem w_X8_rule_53 (V : jV p s mm args meth c cX8_rule RX8 5 none D g) (hA : ∀ q, s.heap.size ≤ q → A q) (hGs : ∀ a b : Nat → Nat, G a → jH3 a b → G b) {ad : Nat → Nat} {v1 : Int32} {v2 : Int32} {xq17 : Nat} {xl17 : Int32} {xf17 : Nat → Int32} {z : kS} {H : Heap} {locs : List Loc} {ls : Array Slot} {cells slots mc ms uc us : Nat} {o : kS} (hG : G ad) (hH : jH A s H locs D g ad z [] [jTp g ad xq17 xl17 xf17]) (hl : jl_has ls 5 [(1, jv ad 2 v1), (2, jv ad 1 v2), (3, .ref xq17)]) (hf : F_X8_rule_53 v1 v2 xl17 xf17 z = some (o, uc, us)) (hc : cells + uc = mc) (hs : slots + us = ms) : W p l e (rm_X8_rule mc ms) s mm args below meth c H locs cells slots (jGv below args s D g A G o mc ms) (F0 mm 53 ls []) := by
  have hx := V.1
  have hb := V.2.1
  refine lv_aload_n hx hb dX8_rule_53 rfl (lv_at hl.1 2 rfl) ?_
  refine lv_iconst (v := 0) hx hb dX8_rule_54 (by decide) ?_
  refine jl_aload_n hx hb dX8_rule_55 rfl (lv_at hl.1 1 rfl) ?_
  obtain ⟨h53_1, hf⟩ := kif hf
  obtain ⟨h53_2, hf⟩ := kif hf
  refine jt_astp V hH 0 rfl h53_1 h53_2 rfl dX8_rule_56 (fun H locs hH => ?_)
  refine jl_aload_n hx hb dX8_rule_57 rfl (lv_at hl.1 0 rfl) ?_
  refine lv_aload_n hx hb dX8_rule_58 rfl (lv_at hl.1 2 rfl) ?_
  obtain ⟨h53_3, hf⟩ := kif hf
  refine jmv_H V hH h53_3 kf_X8_53 dX8_rule_59 (fun H locs hH => ?_)
  have hG := hGs _ _ hG (jH3_up (l := v1.toNatClampNeg) (q := xq17))
  have hl : jl_has ls 5 [(1, jv (jup ad (4 * v1.toNatClampNeg + 3) xq17) 2 v1), (2, jv (jup ad (4 * v1.toNatClampNeg + 3) xq17) 1 v2), (3, .ref xq17)] := by simp only [jv, jr_upH1, jr_upH2, jup_0_H]; exact hl
  cases hf
  subst hc
  subst hs
  exact je_vret V hG hH dX8_rule_62
set_option maxHeartbeats 4000000 in
set_option maxRecDepth 100000 in
theorem w_X8_rule_24 (V : jV p s mm args meth c cX8_rule RX8 5 none D g) (hA : ∀ q, s.heap.size ≤ q → A q) (hGs : ∀ a b : Nat → Nat, G a → jH3 a b → G b) : ∀ (n : Nat) {ad : Nat → Nat} {v1 : Int32} {v2 : Int32} {v4 : Int32} {xq17 : Nat} {xl17 : Int32} {xf17 : Nat → Int32} {z : kS} {H : Heap} {locs : List Loc} {ls : Array Slot} {cells slots mc ms uc us : Nat} {o : kS}, G ad → jH A s H locs D g ad z [] [jTp g ad xq17 xl17 xf17] → jl_has ls 5 [(1, jv ad 2 v1), (2, jv ad 1 v2), (3, .ref xq17), (4, .int v4)] → F_X8_rule_24 n v1 v2 v4 xl17 xf17 z = some (o, uc, us) → cells + uc = mc → slots + us = ms → W p l e (rm_X8_rule mc ms) s mm args below meth c H locs cells slots (jGv below args s D g A G o mc ms) (F0 mm 24 ls []) := by
  have hx := V.1
  have hb := V.2.1
  intro n
  induction n with
  | zero => intro _ _ _ _ _ _ _ _ _ _ _ _ _ _ _ _ _ _ hG hH hl hf hc hs; cases hf
  | succ n hk24 =>
    intro ad v1 v2 v4 xq17 xl17 xf17 z H locs ls cells slots mc ms uc us o hG hH hl hf hc hs
    refine lv_iload hx hb dX8_rule_24 (lv_at hl.1 3 rfl) ?_
    refine jl_aload_n hx hb dX8_rule_26 rfl (lv_at hl.1 0 rfl) ?_
    obtain ⟨h24_1, hf⟩ := kif hf
    refine jg_L V hH h24_1 3 (by decide) kf_X8_53 rfl dX8_rule_27 ?_
    refine jalen_H V hH h24_1 dX8_rule_30 ?_
    refine lv_icmp_ge (tgt := 53) hx hb dX8_rule_31 (by decide) (fun hq => ?_) (fun hq => ?_)
    · have hf := kpos hq hf
      exact w_X8_rule_53 V hA hGs hG hH (jl_sub hl [0, 1, 2] rfl) hf hc hs
    · have hf := kneg hq hf
      exact w_X8_rule_34 V hA hGs hk24 hG hH (jl_sub hl [0, 1, 2, 3] rfl) hf hc hs
set_option maxHeartbeats 4000000 in
set_option maxRecDepth 100000 in
theorem w_X8_rule_10 (V : jV p s mm args meth c cX8_rule RX8 5 none D g) (hA : ∀ q, s.heap.size ≤ q → A q) (hGs : ∀ a b : Nat → Nat, G a → jH3 a b → G b) {ad : Nat → Nat} {v1 : Int32} {v2 : Int32} {z : kS} {H : Heap} {locs : List Loc} {ls : Array Slot} {cells slots mc ms uc us : Nat} {o : kS} (hG : G ad) (hH : jH A s H locs D g ad z [] []) (hl : jl_has ls 5 [(1, jv ad 2 v1), (2, jv ad 1 v2)]) (hf : F_X8_rule_10 v1 v2 z = some (o, uc, us)) (hc : cells + uc = mc) (hs : slots + us = ms) : W p l e (rm_X8_rule mc ms) s mm args below meth c H locs cells slots (jGv below args s D g A G o mc ms) (F0 mm 10 ls []) := by
  have hx := V.1
  have hb := V.2.1
  refine jl_aload_n hx hb dX8_rule_10 rfl (lv_at hl.1 0 rfl) ?_
  obtain ⟨h10_1, hf⟩ := kif hf
  refine jg_L V hH h10_1 3 (by decide) kf_X8_53 rfl dX8_rule_11 ?_
  refine jalen_H V hH h10_1 dX8_rule_14 ?_
  refine lv_iconst (v := 1) hx hb dX8_rule_15 (by decide) ?_
  refine lv_iadd hx hb dX8_rule_16 ?_
  obtain ⟨h10_2, hf⟩ := kif hf
  obtain ⟨uc10_3, us10_4, hf, e1, e2⟩ := kadd_some2 hf
  have e1 : uc = 1 + uc10_3 := e1
  have e2 : us = ((nI (z 16 v1.toNatClampNeg).toNatClampNeg) + 1).toNatClampNeg + us10_4 := e2
  have hc : cells + 1 + uc10_3 = mc := by rw [Nat.add_assoc, ← e1]; exact hc
  have hs : slots + ((nI (z 16 v1.toNatClampNeg).toNatClampNeg) + 1).toNatClampNeg + us10_4 = ms := by rw [Nat.add_assoc, ← e2]; exact hs
  have lc : cells + 1 ≤ mc := Nat.le.intro hc
  have ls2 : slots + ((nI (z 16 v1.toNatClampNeg).toNatClampNeg) + 1).toNatClampNeg ≤ ms := Nat.le.intro hs
  refine jt_newp V hA hH (fun q => h10_2 (Or.inl q)) (Nat.not_lt.mp fun q => h10_2 (Or.inr q)) kc_X8_7 lc ls2 dX8_rule_17 (fun xq17 H hH => ?_)
  refine jl_astore_n (o := some xq17) (lv' := [(3, .ref xq17), (1, jv ad 2 v1), (2, jv ad 1 v2)]) hx hb dX8_rule_20 rfl hl (by decide) rfl (fun ls hl => ?_)
  refine lv_iconst (v := 0) hx hb dX8_rule_21 (by decide) ?_
  refine jl_istore (lv' := [(4, .int 0), (3, .ref xq17), (1, jv ad 2 v1), (2, jv ad 1 v2)]) hx hb dX8_rule_22 hl (by decide) rfl (fun ls hl => ?_)
  exact w_X8_rule_24 V hA hGs kN hG hH (jl_sub hl [2, 3, 1, 0] rfl) hf hc hs
set_option maxHeartbeats 4000000 in
set_option maxRecDepth 100000 in
theorem w_X8_rule_0 (V : jV p s mm args meth c cX8_rule RX8 5 none D g) (hA : ∀ q, s.heap.size ≤ q → A q) (hGs : ∀ a b : Nat → Nat, G a → jH3 a b → G b) {ad : Nat → Nat} {v1 : Int32} {v2 : Int32} {z : kS} {H : Heap} {locs : List Loc} {ls : Array Slot} {cells slots mc ms uc us : Nat} {o : kS} (hG : G ad) (hH : jH A s H locs D g ad z [] []) (hl : jl_has ls 5 [(1, jv ad 2 v1), (2, jv ad 1 v2)]) (hf : F_X8_rule_0 v1 v2 z = some (o, uc, us)) (hc : cells + uc = mc) (hs : slots + us = ms) : W p l e (rm_X8_rule mc ms) s mm args below meth c H locs cells slots (jGv below args s D g A G o mc ms) (F0 mm 0 ls []) := by
  have hx := V.1
  have hb := V.2.1
  refine jl_aload_n hx hb dX8_rule_0 rfl (lv_at hl.1 0 rfl) ?_
  refine jl_aload_n hx hb dX8_rule_1 rfl (lv_at hl.1 1 rfl) ?_
  obtain ⟨h0_1, hf⟩ := kif hf
  refine jp_L2 V hH h0_1 kf_X8_50 dX8_rule_2 (fun H locs hH => ?_)
  refine jl_aload_n hx hb dX8_rule_5 rfl (lv_at hl.1 1 rfl) ?_
  refine jl_ifnonnull (tgt := 10) hx hb dX8_rule_6 (by decide) (fun hq => ?_) (fun hq => ?_)
  · have hf := kneg hq hf
    exact w_X8_rule_10 V hA hGs hG hH (jl_sub hl [0, 1] rfl) hf hc hs
  · have hf := kpos hq hf
    exact w_X8_rule_9 V hA hGs hG hH (jl_sub hl [] rfl) hf hc hs
set_option maxHeartbeats 4000000 in
set_option maxRecDepth 100000 in
theorem c_X8_rule (l : Launch) {D : va_G} {g : Nat → ClassId} {ad : Nat → Nat} {z : kS} (v1 : Int32) (v2 : Int32) {o : kS} {mc ms : Nat} (hf : F_X8_rule v1 v2 z = some (o, mc, ms)) (sz : Nat) : Met l yX8_rule (Cond.code yX8_rule cX8_rule 5 none :: kWA) (rm_X8_rule mc ms) (jP [.ref (ad 0), jv ad 2 v1, jv ad 1 v2] D g ad z sz) (jQv (jH3 ad) D g (va_A (jC g ad z) sz) o) mc ms (va_A (jC g ad z) sz) := by
  refine j_met (as := [.ref (ad 0), jv ad 2 v1, jv ad 1 v2]) (bytes := cX8_rule) (maxL := 5) (rt := none) (lv := [(0, .ref (ad 0)), (1, jv ad 2 v1), (2, jv ad 1 v2)]) (by decide +kernel) (by simp [lg_sl, jcatv, jcati, jcatr]) (by simp [lv_args, jcatv, jcati, jcatr]) (by simp [jcatv, jcati, jcatr]) (fun p e s mm below meth c ls hsz V hA hH hl => ?_)
  exact w_X8_rule_0 V hA (fun _ _ h h2 => h.tr h2) jH3.rf hH (jl_sub hl [1, 2] rfl) hf (Nat.zero_add _) (Nat.zero_add _)
end
section
variable {p : Program} {l : Launch} {e : Env} {s : State} {mm : MethodId} {args : Array Value} {below : List Frame} {meth : Method} {c : Code} {D : va_G} {g : Nat → ClassId} {A : Nat → Prop}
variable {G : (Nat → Nat) → Prop}
abbrev rm_X8_marry (mc ms : Nat) : Room := { frames := 1, cells := mc, slots := ms, locals := 24 }
set_option maxHeartbeats 4000000 in
set_option maxRecDepth 100000 in
theorem w_X8_marry_14 (V : jV p s mm args meth c cX8_marry RX8 5 none D g) (hA : ∀ q, s.heap.size ≤ q → A q) (hGs : ∀ a b : Nat → Nat, G a → jH3 a b → G b) {ad : Nat → Nat} {z : kS} {H : Heap} {locs : List Loc} {ls : Array Slot} {cells slots mc ms uc us : Nat} {o : kS} (hG : G ad) (hH : jH A s H locs D g ad z [] []) (hl : jl_has ls 5 []) (hf : F_X8_marry_14 z = some (o, uc, us)) (hc : cells + uc = mc) (hs : slots + us = ms) : W p l e (rm_X8_marry mc ms) s mm args below meth c H locs cells slots (jGv below args s D g A G o mc ms) (F0 mm 14 ls []) := by
  have hx := V.1
  have hb := V.2.1
  cases hf
  subst hc
  subst hs
  exact je_vret V hG hH dX8_marry_14
set_option maxHeartbeats 4000000 in
set_option maxRecDepth 100000 in
theorem w_X8_marry_56 (V : jV p s mm args meth c cX8_marry RX8 5 none D g) (hA : ∀ q, s.heap.size ≤ q → A q) (hGs : ∀ a b : Nat → Nat, G a → jH3 a b → G b) {ad : Nat → Nat} {s1 : Int32} {s2 : Int32} {z : kS} {H : Heap} {locs : List Loc} {ls : Array Slot} {cells slots mc ms uc us : Nat} {o : kS} (hG : G ad) (hH : jH A s H locs D g ad z [] []) (hl : jl_has ls 5 []) (hf : F_X8_marry_56 s1 s2 z = some (o, uc, us)) (hc : cells + uc = mc) (hs : slots + us = ms) : W p l e (rm_X8_marry mc ms) s mm args below meth c H locs cells slots (jGv below args s D g A G o mc ms) (F0 mm 56 ls [jv ad 1 s2, jv ad 2 s1, .ref (ad 0)]) := by
  have hx := V.1
  have hb := V.2.1
  obtain ⟨x56_1, hx56_1, hf⟩ := kbind hf
  obtain ⟨uc56_2, us56_3, hf, e1, e2⟩ := kadd_some2 hf
  have e1 : uc = x56_1.2.1 + uc56_2 := e1
  have e2 : us = x56_1.2.2 + us56_3 := e2
  have hc : cells + x56_1.2.1 + uc56_2 = mc := by rw [Nat.add_assoc, ← e1]; exact hc
  have hs : slots + x56_1.2.2 + us56_3 = ms := by rw [Nat.add_assoc, ← e2]; exact hs
  have lc : cells + x56_1.2.1 ≤ mc := Nat.le.intro hc
  have ls2 : slots + x56_1.2.2 ≤ ms := Nat.le.intro hs
  refine jr_callv hA hH (jr_runV (as := [jv ad 2 s1, jv ad 1 s2]) (rest := []) V hH kYX8_rule kl_X8_63 (c_X8_rule l _ _ hx56_1 _) rfl rfl ⟨Nat.le_of_ble_eq_true rfl, Nat.le_of_ble_eq_true rfl⟩ rfl hl.1.1 (Nat.le_of_ble_eq_true rfl) dX8_marry_56 ⟨lc, ls2⟩ rfl) (fun ad56_1 H locs hm hH => ?_)
  have hG := hGs _ _ hG hm
  cases hf
  subst hc
  subst hs
  exact je_vret V hG hH dX8_marry_59
set_option maxHeartbeats 4000000 in
set_option maxRecDepth 100000 in
theorem w_X8_marry_51 (V : jV p s mm args meth c cX8_marry RX8 5 none D g) (hA : ∀ q, s.heap.size ≤ q → A q) (hGs : ∀ a b : Nat → Nat, G a → jH3 a b → G b) {ad : Nat → Nat} {s1 : Int32} {v2 : Int32} {z : kS} {H : Heap} {locs : List Loc} {ls : Array Slot} {cells slots mc ms uc us : Nat} {o : kS} (hG : G ad) (hH : jH A s H locs D g ad z [] []) (hl : jl_has ls 5 [(2, jv ad 1 v2)]) (hf : F_X8_marry_51 s1 v2 z = some (o, uc, us)) (hc : cells + uc = mc) (hs : slots + us = ms) : W p l e (rm_X8_marry mc ms) s mm args below meth c H locs cells slots (jGv below args s D g A G o mc ms) (F0 mm 51 ls [jv ad 2 s1, .ref (ad 0)]) := by
  have hx := V.1
  have hb := V.2.1
  refine jl_aload_n hx hb dX8_marry_51 rfl (lv_at hl.1 0 rfl) ?_
  refine lv_goto (tgt := 56) hx hb dX8_marry_52 (by decide) ?_
  exact w_X8_marry_56 V hA hGs hG hH (jl_sub hl [] rfl) hf hc hs
set_option maxHeartbeats 4000000 in
set_option maxRecDepth 100000 in
theorem w_X8_marry_55 (V : jV p s mm args meth c cX8_marry RX8 5 none D g) (hA : ∀ q, s.heap.size ≤ q → A q) (hGs : ∀ a b : Nat → Nat, G a → jH3 a b → G b) {ad : Nat → Nat} {s1 : Int32} {v1 : Int32} {z : kS} {H : Heap} {locs : List Loc} {ls : Array Slot} {cells slots mc ms uc us : Nat} {o : kS} (hG : G ad) (hH : jH A s H locs D g ad z [] []) (hl : jl_has ls 5 [(1, jv ad 1 v1)]) (hf : F_X8_marry_55 s1 v1 z = some (o, uc, us)) (hc : cells + uc = mc) (hs : slots + us = ms) : W p l e (rm_X8_marry mc ms) s mm args below meth c H locs cells slots (jGv below args s D g A G o mc ms) (F0 mm 55 ls [jv ad 2 s1, .ref (ad 0)]) := by
  have hx := V.1
  have hb := V.2.1
  refine jl_aload_n hx hb dX8_marry_55 rfl (lv_at hl.1 0 rfl) ?_
  exact w_X8_marry_56 V hA hGs hG hH (jl_sub hl [] rfl) hf hc hs
set_option maxHeartbeats 4000000 in
set_option maxRecDepth 100000 in
theorem w_X8_marry_15 (V : jV p s mm args meth c cX8_marry RX8 5 none D g) (hA : ∀ q, s.heap.size ≤ q → A q) (hGs : ∀ a b : Nat → Nat, G a → jH3 a b → G b) {ad : Nat → Nat} {v1 : Int32} {v2 : Int32} {v3 : Int32} {z : kS} {H : Heap} {locs : List Loc} {ls : Array Slot} {cells slots mc ms uc us : Nat} {o : kS} (hG : G ad) (hH : jH A s H locs D g ad z [] []) (hl : jl_has ls 5 [(0, .ref (ad 0)), (1, jv ad 1 v1), (2, jv ad 1 v2), (3, jv ad 2 v3)]) (hf : F_X8_marry_15 v1 v2 v3 z = some (o, uc, us)) (hc : cells + uc = mc) (hs : slots + us = ms) : W p l e (rm_X8_marry mc ms) s mm args below meth c H locs cells slots (jGv below args s D g A G o mc ms) (F0 mm 15 ls []) := by
  have hx := V.1
  have hb := V.2.1
  refine jl_aload_n hx hb dX8_marry_15 rfl (lv_at hl.1 3 rfl) ?_
  obtain ⟨h15_1, hf⟩ := kif hf
  refine jg_L V hH h15_1 2 (by decide) kf_X8_50 rfl dX8_marry_16 ?_
  refine jl_astore (lv' := [(4, jv ad 1 (z (4 * v3.toNatClampNeg + 2) 2)), (0, .ref (ad 0)), (1, jv ad 1 v1), (2, jv ad 1 v2), (3, jv ad 2 v3)]) hx hb dX8_marry_19 hl (by decide) rfl (fun ls hl => ?_)
  refine jl_aload_n hx hb dX8_marry_21 rfl (lv_at hl.1 2 rfl) ?_
  refine jl_aload_n hx hb dX8_marry_22 rfl (lv_at hl.1 4 rfl) ?_
  obtain ⟨h15_2, hf⟩ := kif hf
  refine jp_P7 V hH h15_2 kf_X8_107 dX8_marry_23 (fun H locs hH => ?_)
  refine jl_aload_n hx hb dX8_marry_26 rfl (lv_at hl.1 3 rfl) ?_
  refine jl_aload_n hx hb dX8_marry_27 rfl (lv_at hl.1 4 rfl) ?_
  obtain ⟨h15_3, hf⟩ := kif hf
  refine jp_P7 V hH h15_3 kf_X8_107 dX8_marry_28 (fun H locs hH => ?_)
  refine jl_aload_n hx hb dX8_marry_31 rfl (lv_at hl.1 2 rfl) ?_
  refine jl_aload hx hb dX8_marry_32 (lv_at hl.1 0 rfl) ?_
  obtain ⟨h15_4, hf⟩ := kif hf
  refine jp_P8 V hH h15_4 kf_X8_111 dX8_marry_34 (fun H locs hH => ?_)
  refine jl_aload_n hx hb dX8_marry_37 rfl (lv_at hl.1 3 rfl) ?_
  refine jl_aload hx hb dX8_marry_38 (lv_at hl.1 0 rfl) ?_
  obtain ⟨h15_5, hf⟩ := kif hf
  refine jp_P8 V hH h15_5 kf_X8_111 dX8_marry_40 (fun H locs hH => ?_)
  refine lv_aload_n hx hb dX8_marry_43 rfl (lv_at hl.1 1 rfl) ?_
  refine jl_aload_n hx hb dX8_marry_44 rfl (lv_at hl.1 4 rfl) ?_
  refine jl_aload hx hb dX8_marry_45 (lv_at hl.1 0 rfl) ?_
  refine jl_aload_n hx hb dX8_marry_47 rfl (lv_at hl.1 2 rfl) ?_
  obtain ⟨h15_6, hf⟩ := kif hf
  obtain ⟨h15_7, hf⟩ := kif hf
  refine jl_acmp_ne1 V hH (tgt := 55) h15_6 h15_7 dX8_marry_48 (by decide) (fun hq => ?_) (fun hq => ?_)
  · have hf := kneg hq hf
    exact w_X8_marry_55 V hA hGs hG hH (jl_sub hl [2] rfl) hf hc hs
  · have hf := kpos hq hf
    exact w_X8_marry_51 V hA hGs hG hH (jl_sub hl [3] rfl) hf hc hs
set_option maxHeartbeats 4000000 in
set_option maxRecDepth 100000 in
theorem w_X8_marry_0 (V : jV p s mm args meth c cX8_marry RX8 5 none D g) (hA : ∀ q, s.heap.size ≤ q → A q) (hGs : ∀ a b : Nat → Nat, G a → jH3 a b → G b) {ad : Nat → Nat} {v1 : Int32} {v2 : Int32} {v3 : Int32} {z : kS} {H : Heap} {locs : List Loc} {ls : Array Slot} {cells slots mc ms uc us : Nat} {o : kS} (hG : G ad) (hH : jH A s H locs D g ad z [] []) (hl : jl_has ls 5 [(0, .ref (ad 0)), (1, jv ad 1 v1), (2, jv ad 1 v2), (3, jv ad 2 v3)]) (hf : F_X8_marry_0 v1 v2 v3 z = some (o, uc, us)) (hc : cells + uc = mc) (hs : slots + us = ms) : W p l e (rm_X8_marry mc ms) s mm args below meth c H locs cells slots (jGv below args s D g A G o mc ms) (F0 mm 0 ls []) := by
  have hx := V.1
  have hb := V.2.1
  refine jl_aload_n hx hb dX8_marry_0 rfl (lv_at hl.1 1 rfl) ?_
  refine jl_aload_n hx hb dX8_marry_1 rfl (lv_at hl.1 2 rfl) ?_
  obtain ⟨h0_1, hf⟩ := kif hf
  refine jp_P6 V hH h0_1 kf_X8_44 dX8_marry_2 (fun H locs hH => ?_)
  refine jl_aload_n hx hb dX8_marry_5 rfl (lv_at hl.1 2 rfl) ?_
  refine jl_aload_n hx hb dX8_marry_6 rfl (lv_at hl.1 1 rfl) ?_
  obtain ⟨h0_2, hf⟩ := kif hf
  refine jp_P6 V hH h0_2 kf_X8_44 dX8_marry_7 (fun H locs hH => ?_)
  refine jl_aload_n hx hb dX8_marry_10 rfl (lv_at hl.1 3 rfl) ?_
  refine jl_ifnonnull (tgt := 15) hx hb dX8_marry_11 (by decide) (fun hq => ?_) (fun hq => ?_)
  · have hf := kneg hq hf
    exact w_X8_marry_15 V hA hGs hG hH (jl_sub hl [0, 1, 2, 3] rfl) hf hc hs
  · have hf := kpos hq hf
    exact w_X8_marry_14 V hA hGs hG hH (jl_sub hl [] rfl) hf hc hs
set_option maxHeartbeats 4000000 in
set_option maxRecDepth 100000 in
theorem c_X8_marry (l : Launch) {D : va_G} {g : Nat → ClassId} {ad : Nat → Nat} {z : kS} (v1 : Int32) (v2 : Int32) (v3 : Int32) {o : kS} {mc ms : Nat} (hf : F_X8_marry v1 v2 v3 z = some (o, mc, ms)) (sz : Nat) : Met l yX8_marry (Cond.code yX8_marry cX8_marry 5 none :: kWA) (rm_X8_marry mc ms) (jP [.ref (ad 0), jv ad 1 v1, jv ad 1 v2, jv ad 2 v3] D g ad z sz) (jQv (jH3 ad) D g (va_A (jC g ad z) sz) o) mc ms (va_A (jC g ad z) sz) := by
  refine j_met (as := [.ref (ad 0), jv ad 1 v1, jv ad 1 v2, jv ad 2 v3]) (bytes := cX8_marry) (maxL := 5) (rt := none) (lv := [(0, .ref (ad 0)), (1, jv ad 1 v1), (2, jv ad 1 v2), (3, jv ad 2 v3)]) (by decide +kernel) (by simp [lg_sl, jcatv, jcati, jcatr]) (by simp [lv_args, jcatv, jcati, jcatr]) (by simp [jcatv, jcati, jcatr]) (fun p e s mm below meth c ls hsz V hA hH hl => ?_)
  exact w_X8_marry_0 V hA (fun _ _ h h2 => h.tr h2) jH3.rf hH (jl_sub hl [0, 1, 2, 3] rfl) hf (Nat.zero_add _) (Nat.zero_add _)
end
section
variable {p : Program} {l : Launch} {e : Env} {s : State} {mm : MethodId} {args : Array Value} {below : List Frame} {meth : Method} {c : Code} {D : va_G} {g : Nat → ClassId} {A : Nat → Prop}
variable {G : (Nat → Nat) → Prop}
abbrev rm_X8_annul (mc ms : Nat) : Room := { frames := 1, cells := mc, slots := ms, locals := 24 }
set_option maxHeartbeats 4000000 in
set_option maxRecDepth 100000 in
theorem w_X8_annul_43 (V : jV p s mm args meth c cX8_annul RX8 6 (some .int) D g) (hA : ∀ q, s.heap.size ≤ q → A q) (hGs : ∀ a b : Nat → Nat, G a → jH3 a b → G b) {ad : Nat → Nat} {z : kS} {H : Heap} {locs : List Loc} {ls : Array Slot} {cells slots mc ms uc us : Nat} {o : (Int32 × kS)} (hG : G ad) (hH : jH A s H locs D g ad z [] []) (hl : jl_has ls 6 []) (hf : F_X8_annul_43 z = some (o, uc, us)) (hc : cells + uc = mc) (hs : slots + us = ms) : W p l e (rm_X8_annul mc ms) s mm args below meth c H locs cells slots (jGi below args s D g A G o.1 o.2 mc ms) (F0 mm 43 ls []) := by
  have hx := V.1
  have hb := V.2.1
  refine lv_iconst (v := (-1)) hx hb dX8_annul_43 (by decide) ?_
  cases hf
  subst hc
  subst hs
  exact je_iret V hG hH dX8_annul_44
set_option maxHeartbeats 4000000 in
set_option maxRecDepth 100000 in
theorem w_X8_annul_65 (V : jV p s mm args meth c cX8_annul RX8 6 (some .int) D g) (hA : ∀ q, s.heap.size ≤ q → A q) (hGs : ∀ a b : Nat → Nat, G a → jH3 a b → G b) {c54 : Int32 → Int32 → kS → Option ((Int32 × kS) × Nat × Nat)} (hk54 : ∀ {ad : Nat → Nat} {v2 : Int32} {v5 : Int32} {z : kS} {H : Heap} {locs : List Loc} {ls : Array Slot} {cells slots mc ms uc us : Nat} {o : (Int32 × kS)}, G ad → jH A s H locs D g ad z [] [] → jl_has ls 6 [(0, .ref (ad 0)), (2, jv ad 2 v2), (5, .int v5)] → c54 v2 v5 z = some (o, uc, us) → cells + uc = mc → slots + us = ms → W p l e (rm_X8_annul mc ms) s mm args below meth c H locs cells slots (jGi below args s D g A G o.1 o.2 mc ms) (F0 mm 54 ls [])) {ad : Nat → Nat} {v2 : Int32} {v5 : Int32} {z : kS} {H : Heap} {locs : List Loc} {ls : Array Slot} {cells slots mc ms uc us : Nat} {o : (Int32 × kS)} (hG : G ad) (hH : jH A s H locs D g ad z [] []) (hl : jl_has ls 6 [(0, .ref (ad 0)), (2, jv ad 2 v2), (5, .int v5)]) (hf : F_X8_annul_65 c54 v2 v5 z = some (o, uc, us)) (hc : cells + uc = mc) (hs : slots + us = ms) : W p l e (rm_X8_annul mc ms) s mm args below meth c H locs cells slots (jGi below args s D g A G o.1 o.2 mc ms) (F0 mm 65 ls []) := by
  have hx := V.1
  have hb := V.2.1
  refine jl_iinc (v := (v5 + 1)) (lv' := [(5, .int (v5 + 1)), (0, .ref (ad 0)), (2, jv ad 2 v2)]) hx hb dX8_annul_65 hl (k := 2) rfl rfl (by decide) rfl (fun ls hl => ?_)
  refine lv_goto (tgt := 54) hx hb dX8_annul_68 (by decide) ?_
  exact hk54 hG hH (jl_sub hl [1, 2, 0] rfl) hf hc hs
set_option maxHeartbeats 4000000 in
set_option maxRecDepth 100000 in
theorem w_X8_annul_71 (V : jV p s mm args meth c cX8_annul RX8 6 (some .int) D g) (hA : ∀ q, s.heap.size ≤ q → A q) (hGs : ∀ a b : Nat → Nat, G a → jH3 a b → G b) {ad : Nat → Nat} {v5 : Int32} {z : kS} {H : Heap} {locs : List Loc} {ls : Array Slot} {cells slots mc ms uc us : Nat} {o : (Int32 × kS)} (hG : G ad) (hH : jH A s H locs D g ad z [] []) (hl : jl_has ls 6 [(5, .int v5)]) (hf : F_X8_annul_71 v5 z = some (o, uc, us)) (hc : cells + uc = mc) (hs : slots + us = ms) : W p l e (rm_X8_annul mc ms) s mm args below meth c H locs cells slots (jGi below args s D g A G o.1 o.2 mc ms) (F0 mm 71 ls []) := by
  have hx := V.1
  have hb := V.2.1
  refine lv_iload hx hb dX8_annul_71 (lv_at hl.1 0 rfl) ?_
  cases hf
  subst hc
  subst hs
  exact je_iret V hG hH dX8_annul_73
set_option maxHeartbeats 4000000 in
set_option maxRecDepth 100000 in
theorem w_X8_annul_54 (V : jV p s mm args meth c cX8_annul RX8 6 (some .int) D g) (hA : ∀ q, s.heap.size ≤ q → A q) (hGs : ∀ a b : Nat → Nat, G a → jH3 a b → G b) : ∀ (n : Nat) {ad : Nat → Nat} {v2 : Int32} {v5 : Int32} {z : kS} {H : Heap} {locs : List Loc} {ls : Array Slot} {cells slots mc ms uc us : Nat} {o : (Int32 × kS)}, G ad → jH A s H locs D g ad z [] [] → jl_has ls 6 [(0, .ref (ad 0)), (2, jv ad 2 v2), (5, .int v5)] → F_X8_annul_54 n v2 v5 z = some (o, uc, us) → cells + uc = mc → slots + us = ms → W p l e (rm_X8_annul mc ms) s mm args below meth c H locs cells slots (jGi below args s D g A G o.1 o.2 mc ms) (F0 mm 54 ls []) := by
  have hx := V.1
  have hb := V.2.1
  intro n
  induction n with
  | zero => intro _ _ _ _ _ _ _ _ _ _ _ _ _ _ hG hH hl hf hc hs; cases hf
  | succ n hk54 =>
    intro ad v2 v5 z H locs ls cells slots mc ms uc us o hG hH hl hf hc hs
    refine lv_aload_n hx hb dX8_annul_54 rfl (lv_at hl.1 0 rfl) ?_
    refine jg_S V hH 1 (by decide) kf_X8_17 rfl dX8_annul_55 ?_
    refine lv_iload hx hb dX8_annul_58 (lv_at hl.1 2 rfl) ?_
    obtain ⟨h54_1, hf⟩ := kif hf
    refine jald_8 V hH h54_1 dX8_annul_60 ?_
    refine jl_aload_n hx hb dX8_annul_61 rfl (lv_at hl.1 1 rfl) ?_
    obtain ⟨h54_2, hf⟩ := kif hf
    obtain ⟨h54_3, hf⟩ := kif hf
    refine jl_acmp_eq2 V hH (tgt := 71) h54_2 h54_3 dX8_annul_62 (by decide) (fun hq => ?_) (fun hq => ?_)
    · have hf := kpos hq hf
      exact w_X8_annul_71 V hA hGs hG hH (jl_sub hl [2] rfl) hf hc hs
    · have hf := kneg hq hf
      exact w_X8_annul_65 V hA hGs hk54 hG hH (jl_sub hl [0, 1, 2] rfl) hf hc hs
set_option maxHeartbeats 4000000 in
set_option maxRecDepth 100000 in
theorem w_X8_annul_45 (V : jV p s mm args meth c cX8_annul RX8 6 (some .int) D g) (hA : ∀ q, s.heap.size ≤ q → A q) (hGs : ∀ a b : Nat → Nat, G a → jH3 a b → G b) {ad : Nat → Nat} {v2 : Int32} {v3 : Int32} {z : kS} {H : Heap} {locs : List Loc} {ls : Array Slot} {cells slots mc ms uc us : Nat} {o : (Int32 × kS)} (hG : G ad) (hH : jH A s H locs D g ad z [] []) (hl : jl_has ls 6 [(0, .ref (ad 0)), (2, jv ad 2 v2), (3, jv ad 1 v3)]) (hf : F_X8_annul_45 v2 v3 z = some (o, uc, us)) (hc : cells + uc = mc) (hs : slots + us = ms) : W p l e (rm_X8_annul mc ms) s mm args below meth c H locs cells slots (jGi below args s D g A G o.1 o.2 mc ms) (F0 mm 45 ls []) := by
  have hx := V.1
  have hb := V.2.1
  refine lv_aload_n hx hb dX8_annul_45 rfl (lv_at hl.1 0 rfl) ?_
  refine jl_aload_n hx hb dX8_annul_46 rfl (lv_at hl.1 1 rfl) ?_
  refine jl_aload_n hx hb dX8_annul_47 rfl (lv_at hl.1 2 rfl) ?_
  obtain ⟨x45_1, hx45_1, hf⟩ := kbind hf
  obtain ⟨uc45_2, us45_3, hf, e1, e2⟩ := kadd_some2 hf
  have e1 : uc = x45_1.2.1 + uc45_2 := e1
  have e2 : us = x45_1.2.2 + us45_3 := e2
  have hc : cells + x45_1.2.1 + uc45_2 = mc := by rw [Nat.add_assoc, ← e1]; exact hc
  have hs : slots + x45_1.2.2 + us45_3 = ms := by rw [Nat.add_assoc, ← e2]; exact hs
  have lc : cells + x45_1.2.1 ≤ mc := Nat.le.intro hc
  have ls2 : slots + x45_1.2.2 ≤ ms := Nat.le.intro hs
  refine jr_callv hA hH (jr_runV (as := [jv ad 2 v2, jv ad 1 v3]) (rest := []) V hH kYX8_rule kl_X8_63 (c_X8_rule l _ _ hx45_1 _) rfl rfl ⟨Nat.le_of_ble_eq_true rfl, Nat.le_of_ble_eq_true rfl⟩ rfl hl.1.1 (Nat.le_of_ble_eq_true rfl) dX8_annul_48 ⟨lc, ls2⟩ rfl) (fun ad45_1 H locs hm hH => ?_)
  have hG := hGs _ _ hG hm
  have hl : jl_has ls 6 [(0, .ref (ad45_1 0)), (2, jv ad45_1 2 v2), (3, jv ad45_1 1 v3)] := by simp only [jv, hm.r1, hm.r2, hm 0 (by decide), hm 4 (by decide), hm 8 (by decide)]; exact hl
  refine lv_iconst (v := 0) hx hb dX8_annul_51 (by decide) ?_
  refine jl_istore (lv' := [(5, .int 0), (0, .ref (ad45_1 0)), (2, jv ad45_1 2 v2), (3, jv ad45_1 1 v3)]) hx hb dX8_annul_52 hl (by decide) rfl (fun ls hl => ?_)
  exact w_X8_annul_54 V hA hGs kN hG hH (jl_sub hl [1, 2, 0] rfl) hf hc hs
set_option maxHeartbeats 4000000 in
set_option maxRecDepth 100000 in
theorem w_X8_annul_34 (V : jV p s mm args meth c cX8_annul RX8 6 (some .int) D g) (hA : ∀ q, s.heap.size ≤ q → A q) (hGs : ∀ a b : Nat → Nat, G a → jH3 a b → G b) {ad : Nat → Nat} {v2 : Int32} {v3 : Int32} {v4 : Int32} {z : kS} {H : Heap} {locs : List Loc} {ls : Array Slot} {cells slots mc ms uc us : Nat} {o : (Int32 × kS)} (hG : G ad) (hH : jH A s H locs D g ad z [] []) (hl : jl_has ls 6 [(0, .ref (ad 0)), (2, jv ad 2 v2), (3, jv ad 1 v3), (4, jv ad 1 v4)]) (hf : F_X8_annul_34 v2 v3 v4 z = some (o, uc, us)) (hc : cells + uc = mc) (hs : slots + us = ms) : W p l e (rm_X8_annul mc ms) s mm args below meth c H locs cells slots (jGi below args s D g A G o.1 o.2 mc ms) (F0 mm 34 ls []) := by
  have hx := V.1
  have hb := V.2.1
  refine jl_aload_n hx hb dX8_annul_34 rfl (lv_at hl.1 1 rfl) ?_
  obtain ⟨h34_1, hf⟩ := kif hf
  refine jg_L V hH h34_1 2 (by decide) kf_X8_50 rfl dX8_annul_35 ?_
  refine jl_aload hx hb dX8_annul_38 (lv_at hl.1 3 rfl) ?_
  obtain ⟨h34_2, hf⟩ := kif hf
  obtain ⟨h34_3, hf⟩ := kif hf
  refine jl_acmp_eq1 V hH (tgt := 45) h34_2 h34_3 dX8_annul_40 (by decide) (fun hq => ?_) (fun hq => ?_)
  · have hf := kpos hq hf
    exact w_X8_annul_45 V hA hGs hG hH (jl_sub hl [0, 1, 2] rfl) hf hc hs
  · have hf := kneg hq hf
    exact w_X8_annul_43 V hA hGs hG hH (jl_sub hl [] rfl) hf hc hs
set_option maxHeartbeats 4000000 in
set_option maxRecDepth 100000 in
theorem w_X8_annul_23 (V : jV p s mm args meth c cX8_annul RX8 6 (some .int) D g) (hA : ∀ q, s.heap.size ≤ q → A q) (hGs : ∀ a b : Nat → Nat, G a → jH3 a b → G b) {ad : Nat → Nat} {s0 : Int32} {v1 : Int32} {v2 : Int32} {v3 : Int32} {z : kS} {H : Heap} {locs : List Loc} {ls : Array Slot} {cells slots mc ms uc us : Nat} {o : (Int32 × kS)} (hG : G ad) (hH : jH A s H locs D g ad z [] []) (hl : jl_has ls 6 [(0, .ref (ad 0)), (1, jv ad 1 v1), (2, jv ad 2 v2), (3, jv ad 1 v3)]) (hf : F_X8_annul_23 s0 v1 v2 v3 z = some (o, uc, us)) (hc : cells + uc = mc) (hs : slots + us = ms) : W p l e (rm_X8_annul mc ms) s mm args below meth c H locs cells slots (jGi below args s D g A G o.1 o.2 mc ms) (F0 mm 23 ls [jv ad 1 s0]) := by
  have hx := V.1
  have hb := V.2.1
  refine jl_astore (lv' := [(4, jv ad 1 s0), (0, .ref (ad 0)), (1, jv ad 1 v1), (2, jv ad 2 v2), (3, jv ad 1 v3)]) hx hb dX8_annul_23 hl (by decide) rfl (fun ls hl => ?_)
  refine lv_aload_n hx hb dX8_annul_25 rfl (lv_at hl.1 1 rfl) ?_
  refine jl_aload_n hx hb dX8_annul_26 rfl (lv_at hl.1 2 rfl) ?_
  obtain ⟨x23_1, hx23_1, hf⟩ := kbind hf
  refine jr_callvR0 hA hH (jr_runV (as := [jv ad 1 v1]) (rest := []) V hH kYX8_part kl_X8_114 (c_X8_part l _ hx23_1 _) rfl rfl ⟨Nat.le_of_ble_eq_true rfl, Nat.le_of_ble_eq_true rfl⟩ rfl hl.1.1 (Nat.le_of_ble_eq_true rfl) dX8_annul_27 ⟨by show cells + 0 ≤ mc; omega, by show slots + 0 ≤ ms; omega⟩ rfl) (fun H locs hH => ?_)
  refine jl_aload_n hx hb dX8_annul_30 rfl (lv_at hl.1 3 rfl) ?_
  refine jl_ifnull (tgt := 43) hx hb dX8_annul_31 (by decide) (fun hq => ?_) (fun hq => ?_)
  · have hf := kpos hq hf
    exact w_X8_annul_43 V hA hGs hG hH (jl_sub hl [] rfl) hf hc hs
  · have hf := kneg hq hf
    exact w_X8_annul_34 V hA hGs hG hH (jl_sub hl [1, 3, 4, 0] rfl) hf hc hs
set_option maxHeartbeats 4000000 in
set_option maxRecDepth 100000 in
theorem w_X8_annul_15 (V : jV p s mm args meth c cX8_annul RX8 6 (some .int) D g) (hA : ∀ q, s.heap.size ≤ q → A q) (hGs : ∀ a b : Nat → Nat, G a → jH3 a b → G b) {ad : Nat → Nat} {v1 : Int32} {v2 : Int32} {v3 : Int32} {z : kS} {H : Heap} {locs : List Loc} {ls : Array Slot} {cells slots mc ms uc us : Nat} {o : (Int32 × kS)} (hG : G ad) (hH : jH A s H locs D g ad z [] []) (hl : jl_has ls 6 [(0, .ref (ad 0)), (1, jv ad 1 v1), (2, jv ad 2 v2), (3, jv ad 1 v3)]) (hf : F_X8_annul_15 v1 v2 v3 z = some (o, uc, us)) (hc : cells + uc = mc) (hs : slots + us = ms) : W p l e (rm_X8_annul mc ms) s mm args below meth c H locs cells slots (jGi below args s D g A G o.1 o.2 mc ms) (F0 mm 15 ls []) := by
  have hx := V.1
  have hb := V.2.1
  refine jl_aload_n hx hb dX8_annul_15 rfl (lv_at hl.1 1 rfl) ?_
  obtain ⟨h15_1, hf⟩ := kif hf
  refine jg_P V hH h15_1 6 (by decide) kf_X8_44 rfl dX8_annul_16 ?_
  refine lv_goto (tgt := 23) hx hb dX8_annul_19 (by decide) ?_
  exact w_X8_annul_23 V hA hGs hG hH (jl_sub hl [0, 1, 2, 3] rfl) hf hc hs
set_option maxHeartbeats 4000000 in
set_option maxRecDepth 100000 in
theorem w_X8_annul_22 (V : jV p s mm args meth c cX8_annul RX8 6 (some .int) D g) (hA : ∀ q, s.heap.size ≤ q → A q) (hGs : ∀ a b : Nat → Nat, G a → jH3 a b → G b) {ad : Nat → Nat} {v1 : Int32} {v2 : Int32} {v3 : Int32} {z : kS} {H : Heap} {locs : List Loc} {ls : Array Slot} {cells slots mc ms uc us : Nat} {o : (Int32 × kS)} (hG : G ad) (hH : jH A s H locs D g ad z [] []) (hl : jl_has ls 6 [(0, .ref (ad 0)), (1, jv ad 1 v1), (2, jv ad 2 v2), (3, jv ad 1 v3)]) (hf : F_X8_annul_22 v1 v2 v3 z = some (o, uc, us)) (hc : cells + uc = mc) (hs : slots + us = ms) : W p l e (rm_X8_annul mc ms) s mm args below meth c H locs cells slots (jGi below args s D g A G o.1 o.2 mc ms) (F0 mm 22 ls []) := by
  have hx := V.1
  have hb := V.2.1
  refine jl_aload_n hx hb dX8_annul_22 rfl (lv_at hl.1 1 rfl) ?_
  exact w_X8_annul_23 V hA hGs hG hH (jl_sub hl [0, 1, 2, 3] rfl) hf hc hs
set_option maxHeartbeats 4000000 in
set_option maxRecDepth 100000 in
theorem w_X8_annul_0 (V : jV p s mm args meth c cX8_annul RX8 6 (some .int) D g) (hA : ∀ q, s.heap.size ≤ q → A q) (hGs : ∀ a b : Nat → Nat, G a → jH3 a b → G b) {ad : Nat → Nat} {v1 : Int32} {z : kS} {H : Heap} {locs : List Loc} {ls : Array Slot} {cells slots mc ms uc us : Nat} {o : (Int32 × kS)} (hG : G ad) (hH : jH A s H locs D g ad z [] []) (hl : jl_has ls 6 [(0, .ref (ad 0)), (1, jv ad 1 v1)]) (hf : F_X8_annul_0 v1 z = some (o, uc, us)) (hc : cells + uc = mc) (hs : slots + us = ms) : W p l e (rm_X8_annul mc ms) s mm args below meth c H locs cells slots (jGi below args s D g A G o.1 o.2 mc ms) (F0 mm 0 ls []) := by
  have hx := V.1
  have hb := V.2.1
  refine jl_aload_n hx hb dX8_annul_0 rfl (lv_at hl.1 1 rfl) ?_
  obtain ⟨h0_1, hf⟩ := kif hf
  refine jg_P V hH h0_1 7 (by decide) kf_X8_107 rfl dX8_annul_1 ?_
  refine jl_astore_n (lv' := [(2, jv ad 2 (z (4 * v1.toNatClampNeg + 1) 7)), (0, .ref (ad 0)), (1, jv ad 1 v1)]) hx hb dX8_annul_4 rfl hl (by decide) rfl (fun ls hl => ?_)
  refine jl_aload_n hx hb dX8_annul_5 rfl (lv_at hl.1 2 rfl) ?_
  obtain ⟨h0_2, hf⟩ := kif hf
  refine jg_P V hH h0_2 8 (by decide) kf_X8_111 rfl dX8_annul_6 ?_
  refine jl_astore_n (lv' := [(3, jv ad 1 (z (4 * v1.toNatClampNeg + 1) 8)), (2, jv ad 2 (z (4 * v1.toNatClampNeg + 1) 7)), (0, .ref (ad 0)), (1, jv ad 1 v1)]) hx hb dX8_annul_9 rfl hl (by decide) rfl (fun ls hl => ?_)
  refine jl_aload_n hx hb dX8_annul_10 rfl (lv_at hl.1 0 rfl) ?_
  refine jl_aload_n hx hb dX8_annul_11 rfl (lv_at hl.1 3 rfl) ?_
  obtain ⟨h0_3, hf⟩ := kif hf
  obtain ⟨h0_4, hf⟩ := kif hf
  refine jl_acmp_ne1 V hH (tgt := 22) h0_3 h0_4 dX8_annul_12 (by decide) (fun hq => ?_) (fun hq => ?_)
  · have hf := kneg hq hf
    exact w_X8_annul_22 V hA hGs hG hH (jl_sub hl [2, 3, 1, 0] rfl) hf hc hs
  · have hf := kpos hq hf
    exact w_X8_annul_15 V hA hGs hG hH (jl_sub hl [2, 3, 1, 0] rfl) hf hc hs
set_option maxHeartbeats 4000000 in
set_option maxRecDepth 100000 in
theorem c_X8_annul (l : Launch) {D : va_G} {g : Nat → ClassId} {ad : Nat → Nat} {z : kS} (v1 : Int32) {o : (Int32 × kS)} {mc ms : Nat} (hf : F_X8_annul v1 z = some (o, mc, ms)) (sz : Nat) : Met l yX8_annul (Cond.code yX8_annul cX8_annul 6 (some .int) :: kWA) (rm_X8_annul mc ms) (jP [.ref (ad 0), jv ad 1 v1] D g ad z sz) (jQi o.1 (jH3 ad) D g (va_A (jC g ad z) sz) o.2) mc ms (va_A (jC g ad z) sz) := by
  refine j_met (as := [.ref (ad 0), jv ad 1 v1]) (bytes := cX8_annul) (maxL := 6) (rt := (some .int)) (lv := [(0, .ref (ad 0)), (1, jv ad 1 v1)]) (by decide +kernel) (by simp [lg_sl, jcatv, jcati, jcatr]) (by simp [lv_args, jcatv, jcati, jcatr]) (by simp [jcatv, jcati, jcatr]) (fun p e s mm below meth c ls hsz V hA hH hl => ?_)
  exact w_X8_annul_0 V hA (fun _ _ h h2 => h.tr h2) jH3.rf hH (jl_sub hl [0, 1] rfl) hf (Nat.zero_add _) (Nat.zero_add _)
end
section
variable {p : Program} {l : Launch} {e : Env} {s : State} {mm : MethodId} {args : Array Value} {below : List Frame} {meth : Method} {c : Code} {D : va_G} {g : Nat → ClassId} {A : Nat → Prop}
variable {G : (Nat → Nat) → Prop}
abbrev rm_X8_die (mc ms : Nat) : Room := { frames := 50, cells := mc, slots := ms, locals := 1387 }
set_option maxHeartbeats 4000000 in
set_option maxRecDepth 100000 in
theorem w_X8_die_57 (V : jV p s mm args meth c cX8_die RX8 5 (some .int) D g) (hA : ∀ q, s.heap.size ≤ q → A q) (hGs : ∀ a b : Nat → Nat, G a → jH3 a b → G b) {c14 : Int32 → Int32 → Int32 → Int32 → (Nat → Int32) → kS → Option ((Int32 × kS) × Nat × Nat)} (hk14 : ∀ {ad : Nat → Nat} {v1 : Int32} {v3 : Int32} {v4 : Int32} {xq5 : Nat} {xl5 : Int32} {xf5 : Nat → Int32} {z : kS} {H : Heap} {locs : List Loc} {ls : Array Slot} {cells slots mc ms uc us : Nat} {o : (Int32 × kS)}, G ad → jH A s H locs D g ad z [] [jTp g ad xq5 xl5 xf5] → jl_has ls 5 [(0, .ref (ad 0)), (1, jv ad 1 v1), (2, .ref xq5), (3, .int v3), (4, .int v4)] → c14 v1 v3 v4 xl5 xf5 z = some (o, uc, us) → cells + uc = mc → slots + us = ms → W p l e (rm_X8_die mc ms) s mm args below meth c H locs cells slots (jGi below args s D g A G o.1 o.2 mc ms) (F0 mm 14 ls [])) {ad : Nat → Nat} {v1 : Int32} {v3 : Int32} {v4 : Int32} {xq5 : Nat} {xl5 : Int32} {xf5 : Nat → Int32} {z : kS} {H : Heap} {locs : List Loc} {ls : Array Slot} {cells slots mc ms uc us : Nat} {o : (Int32 × kS)} (hG : G ad) (hH : jH A s H locs D g ad z [] [jTp g ad xq5 xl5 xf5]) (hl : jl_has ls 5 [(0, .ref (ad 0)), (1, jv ad 1 v1), (2, .ref xq5), (3, .int v3), (4, .int v4)]) (hf : F_X8_die_57 c14 v1 v3 v4 xl5 xf5 z = some (o, uc, us)) (hc : cells + uc = mc) (hs : slots + us = ms) : W p l e (rm_X8_die mc ms) s mm args below meth c H locs cells slots (jGi below args s D g A G o.1 o.2 mc ms) (F0 mm 57 ls []) := by
  have hx := V.1
  have hb := V.2.1
  refine jl_iinc (v := (v4 + 1)) (lv' := [(4, .int (v4 + 1)), (0, .ref (ad 0)), (1, jv ad 1 v1), (2, .ref xq5), (3, .int v3)]) hx hb dX8_die_57 hl (k := 4) rfl rfl (by decide) rfl (fun ls hl => ?_)
  refine lv_goto (tgt := 14) hx hb dX8_die_60 (by decide) ?_
  exact hk14 hG hH (jl_sub hl [1, 2, 3, 4, 0] rfl) hf hc hs
set_option maxHeartbeats 4000000 in
set_option maxRecDepth 100000 in
theorem w_X8_die_38 (V : jV p s mm args meth c cX8_die RX8 5 (some .int) D g) (hA : ∀ q, s.heap.size ≤ q → A q) (hGs : ∀ a b : Nat → Nat, G a → jH3 a b → G b) {c14 : Int32 → Int32 → Int32 → Int32 → (Nat → Int32) → kS → Option ((Int32 × kS) × Nat × Nat)} (hk14 : ∀ {ad : Nat → Nat} {v1 : Int32} {v3 : Int32} {v4 : Int32} {xq5 : Nat} {xl5 : Int32} {xf5 : Nat → Int32} {z : kS} {H : Heap} {locs : List Loc} {ls : Array Slot} {cells slots mc ms uc us : Nat} {o : (Int32 × kS)}, G ad → jH A s H locs D g ad z [] [jTp g ad xq5 xl5 xf5] → jl_has ls 5 [(0, .ref (ad 0)), (1, jv ad 1 v1), (2, .ref xq5), (3, .int v3), (4, .int v4)] → c14 v1 v3 v4 xl5 xf5 z = some (o, uc, us) → cells + uc = mc → slots + us = ms → W p l e (rm_X8_die mc ms) s mm args below meth c H locs cells slots (jGi below args s D g A G o.1 o.2 mc ms) (F0 mm 14 ls [])) {ad : Nat → Nat} {v1 : Int32} {v3 : Int32} {v4 : Int32} {xq5 : Nat} {xl5 : Int32} {xf5 : Nat → Int32} {z : kS} {H : Heap} {locs : List Loc} {ls : Array Slot} {cells slots mc ms uc us : Nat} {o : (Int32 × kS)} (hG : G ad) (hH : jH A s H locs D g ad z [] [jTp g ad xq5 xl5 xf5]) (hl : jl_has ls 5 [(0, .ref (ad 0)), (1, jv ad 1 v1), (2, .ref xq5), (3, .int v3), (4, .int v4)]) (hf : F_X8_die_38 c14 v1 v3 v4 xl5 xf5 z = some (o, uc, us)) (hc : cells + uc = mc) (hs : slots + us = ms) : W p l e (rm_X8_die mc ms) s mm args below meth c H locs cells slots (jGi below args s D g A G o.1 o.2 mc ms) (F0 mm 38 ls []) := by
  have hx := V.1
  have hb := V.2.1
  refine lv_aload_n hx hb dX8_die_38 rfl (lv_at hl.1 2 rfl) ?_
  refine lv_iload hx hb dX8_die_39 (lv_at hl.1 4 rfl) ?_
  refine lv_aload_n hx hb dX8_die_41 rfl (lv_at hl.1 0 rfl) ?_
  refine jl_aload_n hx hb dX8_die_42 rfl (lv_at hl.1 1 rfl) ?_
  refine lv_aload_n hx hb dX8_die_43 rfl (lv_at hl.1 0 rfl) ?_
  refine jg_S V hH 1 (by decide) kf_X8_17 rfl dX8_die_44 ?_
  refine lv_iload hx hb dX8_die_47 (lv_at hl.1 4 rfl) ?_
  obtain ⟨h38_1, hf⟩ := kif hf
  refine jald_8 V hH h38_1 dX8_die_49 ?_
  obtain ⟨h38_2, hf⟩ := kif hf
  refine jg_L V hH h38_2 1 (by decide) kf_X8_60 rfl dX8_die_50 ?_
  obtain ⟨x38_3, hx38_3, hf⟩ := kbind hf
  obtain ⟨uc38_4, us38_5, hf, e1, e2⟩ := kadd_some2 hf
  have e1 : uc = x38_3.2.1 + uc38_4 := e1
  have e2 : us = x38_3.2.2 + us38_5 := e2
  have hc : cells + x38_3.2.1 + uc38_4 = mc := by rw [Nat.add_assoc, ← e1]; exact hc
  have hs : slots + x38_3.2.2 + us38_5 = ms := by rw [Nat.add_assoc, ← e2]; exact hs
  have lc : cells + x38_3.2.1 ≤ mc := Nat.le.intro hc
  have ls2 : slots + x38_3.2.2 ≤ ms := Nat.le.intro hs
  refine jr_callqR hA hH (jr_runV (as := [jv ad 1 v1, .int (z (4 * (z 8 v4.toNatClampNeg).toNatClampNeg + 2) 1)]) (rest := [.int v4, .ref xq5]) V hH kYX8_heir kl_X8_118 (c_X8_heir l _ _ hx38_3 _) rfl rfl ⟨Nat.le_of_ble_eq_true rfl, Nat.le_of_ble_eq_true rfl⟩ rfl hl.1.1 (Nat.le_of_ble_eq_true rfl) dX8_die_53 ⟨lc, ls2⟩ rfl) (fun H locs hH => ?_)
  obtain ⟨h38_6, hf⟩ := kif hf
  obtain ⟨h38_7, hf⟩ := kif hf
  refine jt_astp V hH 0 rfl h38_6 h38_7 rfl dX8_die_56 (fun H locs hH => ?_)
  exact w_X8_die_57 V hA hGs hk14 hG hH (jl_sub hl [0, 1, 2, 3, 4] rfl) hf hc hs
set_option maxHeartbeats 4000000 in
set_option maxRecDepth 100000 in
theorem w_X8_die_24 (V : jV p s mm args meth c cX8_die RX8 5 (some .int) D g) (hA : ∀ q, s.heap.size ≤ q → A q) (hGs : ∀ a b : Nat → Nat, G a → jH3 a b → G b) {c14 : Int32 → Int32 → Int32 → Int32 → (Nat → Int32) → kS → Option ((Int32 × kS) × Nat × Nat)} (hk14 : ∀ {ad : Nat → Nat} {v1 : Int32} {v3 : Int32} {v4 : Int32} {xq5 : Nat} {xl5 : Int32} {xf5 : Nat → Int32} {z : kS} {H : Heap} {locs : List Loc} {ls : Array Slot} {cells slots mc ms uc us : Nat} {o : (Int32 × kS)}, G ad → jH A s H locs D g ad z [] [jTp g ad xq5 xl5 xf5] → jl_has ls 5 [(0, .ref (ad 0)), (1, jv ad 1 v1), (2, .ref xq5), (3, .int v3), (4, .int v4)] → c14 v1 v3 v4 xl5 xf5 z = some (o, uc, us) → cells + uc = mc → slots + us = ms → W p l e (rm_X8_die mc ms) s mm args below meth c H locs cells slots (jGi below args s D g A G o.1 o.2 mc ms) (F0 mm 14 ls [])) {ad : Nat → Nat} {v1 : Int32} {v3 : Int32} {v4 : Int32} {xq5 : Nat} {xl5 : Int32} {xf5 : Nat → Int32} {z : kS} {H : Heap} {locs : List Loc} {ls : Array Slot} {cells slots mc ms uc us : Nat} {o : (Int32 × kS)} (hG : G ad) (hH : jH A s H locs D g ad z [] [jTp g ad xq5 xl5 xf5]) (hl : jl_has ls 5 [(0, .ref (ad 0)), (1, jv ad 1 v1), (2, .ref xq5), (3, .int v3), (4, .int v4)]) (hf : F_X8_die_24 c14 v1 v3 v4 xl5 xf5 z = some (o, uc, us)) (hc : cells + uc = mc) (hs : slots + us = ms) : W p l e (rm_X8_die mc ms) s mm args below meth c H locs cells slots (jGi below args s D g A G o.1 o.2 mc ms) (F0 mm 24 ls []) := by
  have hx := V.1
  have hb := V.2.1
  refine lv_aload_n hx hb dX8_die_24 rfl (lv_at hl.1 0 rfl) ?_
  refine jg_S V hH 1 (by decide) kf_X8_17 rfl dX8_die_25 ?_
  refine lv_iload hx hb dX8_die_28 (lv_at hl.1 4 rfl) ?_
  obtain ⟨h24_1, hf⟩ := kif hf
  refine jald_8 V hH h24_1 dX8_die_30 ?_
  obtain ⟨h24_2, hf⟩ := kif hf
  refine jg_L V hH h24_2 2 (by decide) kf_X8_50 rfl dX8_die_31 ?_
  refine jl_aload_n hx hb dX8_die_34 rfl (lv_at hl.1 1 rfl) ?_
  obtain ⟨h24_3, hf⟩ := kif hf
  obtain ⟨h24_4, hf⟩ := kif hf
  refine jl_acmp_ne1 V hH (tgt := 57) h24_3 h24_4 dX8_die_35 (by decide) (fun hq => ?_) (fun hq => ?_)
  · have hf := kneg hq hf
    exact w_X8_die_57 V hA hGs hk14 hG hH (jl_sub hl [0, 1, 2, 3, 4] rfl) hf hc hs
  · have hf := kpos hq hf
    exact w_X8_die_38 V hA hGs hk14 hG hH (jl_sub hl [0, 1, 2, 3, 4] rfl) hf hc hs
set_option maxHeartbeats 4000000 in
set_option maxRecDepth 100000 in
theorem w_X8_die_111 (V : jV p s mm args meth c cX8_die RX8 5 (some .int) D g) (hA : ∀ q, s.heap.size ≤ q → A q) (hGs : ∀ a b : Nat → Nat, G a → jH3 a b → G b) {c66 : Int32 → Int32 → Int32 → Int32 → (Nat → Int32) → kS → Option ((Int32 × kS) × Nat × Nat)} (hk66 : ∀ {ad : Nat → Nat} {v1 : Int32} {v3 : Int32} {v4 : Int32} {xq5 : Nat} {xl5 : Int32} {xf5 : Nat → Int32} {z : kS} {H : Heap} {locs : List Loc} {ls : Array Slot} {cells slots mc ms uc us : Nat} {o : (Int32 × kS)}, G ad → jH A s H locs D g ad z [] [jTp g ad xq5 xl5 xf5] → jl_has ls 5 [(0, .ref (ad 0)), (1, jv ad 1 v1), (2, .ref xq5), (3, .int v3), (4, .int v4)] → c66 v1 v3 v4 xl5 xf5 z = some (o, uc, us) → cells + uc = mc → slots + us = ms → W p l e (rm_X8_die mc ms) s mm args below meth c H locs cells slots (jGi below args s D g A G o.1 o.2 mc ms) (F0 mm 66 ls [])) {ad : Nat → Nat} {v1 : Int32} {v3 : Int32} {v4 : Int32} {xq5 : Nat} {xl5 : Int32} {xf5 : Nat → Int32} {z : kS} {H : Heap} {locs : List Loc} {ls : Array Slot} {cells slots mc ms uc us : Nat} {o : (Int32 × kS)} (hG : G ad) (hH : jH A s H locs D g ad z [] [jTp g ad xq5 xl5 xf5]) (hl : jl_has ls 5 [(0, .ref (ad 0)), (1, jv ad 1 v1), (2, .ref xq5), (3, .int v3), (4, .int v4)]) (hf : F_X8_die_111 c66 v1 v3 v4 xl5 xf5 z = some (o, uc, us)) (hc : cells + uc = mc) (hs : slots + us = ms) : W p l e (rm_X8_die mc ms) s mm args below meth c H locs cells slots (jGi below args s D g A G o.1 o.2 mc ms) (F0 mm 111 ls []) := by
  have hx := V.1
  have hb := V.2.1
  refine jl_iinc (v := (v4 + 1)) (lv' := [(4, .int (v4 + 1)), (0, .ref (ad 0)), (1, jv ad 1 v1), (2, .ref xq5), (3, .int v3)]) hx hb dX8_die_111 hl (k := 4) rfl rfl (by decide) rfl (fun ls hl => ?_)
  refine lv_goto (tgt := 66) hx hb dX8_die_114 (by decide) ?_
  exact hk66 hG hH (jl_sub hl [1, 2, 3, 4, 0] rfl) hf hc hs
set_option maxHeartbeats 4000000 in
set_option maxRecDepth 100000 in
theorem w_X8_die_90 (V : jV p s mm args meth c cX8_die RX8 5 (some .int) D g) (hA : ∀ q, s.heap.size ≤ q → A q) (hGs : ∀ a b : Nat → Nat, G a → jH3 a b → G b) {c66 : Int32 → Int32 → Int32 → Int32 → (Nat → Int32) → kS → Option ((Int32 × kS) × Nat × Nat)} (hk66 : ∀ {ad : Nat → Nat} {v1 : Int32} {v3 : Int32} {v4 : Int32} {xq5 : Nat} {xl5 : Int32} {xf5 : Nat → Int32} {z : kS} {H : Heap} {locs : List Loc} {ls : Array Slot} {cells slots mc ms uc us : Nat} {o : (Int32 × kS)}, G ad → jH A s H locs D g ad z [] [jTp g ad xq5 xl5 xf5] → jl_has ls 5 [(0, .ref (ad 0)), (1, jv ad 1 v1), (2, .ref xq5), (3, .int v3), (4, .int v4)] → c66 v1 v3 v4 xl5 xf5 z = some (o, uc, us) → cells + uc = mc → slots + us = ms → W p l e (rm_X8_die mc ms) s mm args below meth c H locs cells slots (jGi below args s D g A G o.1 o.2 mc ms) (F0 mm 66 ls [])) {ad : Nat → Nat} {v1 : Int32} {v3 : Int32} {v4 : Int32} {xq5 : Nat} {xl5 : Int32} {xf5 : Nat → Int32} {z : kS} {H : Heap} {locs : List Loc} {ls : Array Slot} {cells slots mc ms uc us : Nat} {o : (Int32 × kS)} (hG : G ad) (hH : jH A s H locs D g ad z [] [jTp g ad xq5 xl5 xf5]) (hl : jl_has ls 5 [(0, .ref (ad 0)), (1, jv ad 1 v1), (2, .ref xq5), (3, .int v3), (4, .int v4)]) (hf : F_X8_die_90 c66 v1 v3 v4 xl5 xf5 z = some (o, uc, us)) (hc : cells + uc = mc) (hs : slots + us = ms) : W p l e (rm_X8_die mc ms) s mm args below meth c H locs cells slots (jGi below args s D g A G o.1 o.2 mc ms) (F0 mm 90 ls []) := by
  have hx := V.1
  have hb := V.2.1
  refine lv_goto (tgt := 111) hx hb dX8_die_90 (by decide) ?_
  exact w_X8_die_111 V hA hGs hk66 hG hH (jl_sub hl [0, 1, 2, 3, 4] rfl) hf hc hs
set_option maxHeartbeats 4000000 in
set_option maxRecDepth 100000 in
theorem w_X8_die_93 (V : jV p s mm args meth c cX8_die RX8 5 (some .int) D g) (hA : ∀ q, s.heap.size ≤ q → A q) (hGs : ∀ a b : Nat → Nat, G a → jH3 a b → G b) {c66 : Int32 → Int32 → Int32 → Int32 → (Nat → Int32) → kS → Option ((Int32 × kS) × Nat × Nat)} (hk66 : ∀ {ad : Nat → Nat} {v1 : Int32} {v3 : Int32} {v4 : Int32} {xq5 : Nat} {xl5 : Int32} {xf5 : Nat → Int32} {z : kS} {H : Heap} {locs : List Loc} {ls : Array Slot} {cells slots mc ms uc us : Nat} {o : (Int32 × kS)}, G ad → jH A s H locs D g ad z [] [jTp g ad xq5 xl5 xf5] → jl_has ls 5 [(0, .ref (ad 0)), (1, jv ad 1 v1), (2, .ref xq5), (3, .int v3), (4, .int v4)] → c66 v1 v3 v4 xl5 xf5 z = some (o, uc, us) → cells + uc = mc → slots + us = ms → W p l e (rm_X8_die mc ms) s mm args below meth c H locs cells slots (jGi below args s D g A G o.1 o.2 mc ms) (F0 mm 66 ls [])) {ad : Nat → Nat} {v1 : Int32} {v3 : Int32} {v4 : Int32} {xq5 : Nat} {xl5 : Int32} {xf5 : Nat → Int32} {z : kS} {H : Heap} {locs : List Loc} {ls : Array Slot} {cells slots mc ms uc us : Nat} {o : (Int32 × kS)} (hG : G ad) (hH : jH A s H locs D g ad z [] [jTp g ad xq5 xl5 xf5]) (hl : jl_has ls 5 [(0, .ref (ad 0)), (1, jv ad 1 v1), (2, .ref xq5), (3, .int v3), (4, .int v4)]) (hf : F_X8_die_93 c66 v1 v3 v4 xl5 xf5 z = some (o, uc, us)) (hc : cells + uc = mc) (hs : slots + us = ms) : W p l e (rm_X8_die mc ms) s mm args below meth c H locs cells slots (jGi below args s D g A G o.1 o.2 mc ms) (F0 mm 93 ls []) := by
  have hx := V.1
  have hb := V.2.1
  refine lv_aload_n hx hb dX8_die_93 rfl (lv_at hl.1 0 rfl) ?_
  refine lv_aload_n hx hb dX8_die_94 rfl (lv_at hl.1 0 rfl) ?_
  refine jg_S V hH 1 (by decide) kf_X8_17 rfl dX8_die_95 ?_
  refine lv_iload hx hb dX8_die_98 (lv_at hl.1 4 rfl) ?_
  obtain ⟨h93_1, hf⟩ := kif hf
  refine jald_8 V hH h93_1 dX8_die_100 ?_
  refine lv_aload_n hx hb dX8_die_101 rfl (lv_at hl.1 2 rfl) ?_
  refine lv_iload hx hb dX8_die_102 (lv_at hl.1 4 rfl) ?_
  obtain ⟨h93_2, hf⟩ := kif hf
  refine jt_aldp V hH 0 rfl h93_2 dX8_die_104 ?_
  obtain ⟨x93_3, hx93_3, hf⟩ := kbind hf
  obtain ⟨uc93_4, us93_5, hf, e1, e2⟩ := kadd_some2 hf
  have e1 : uc = x93_3.2.1 + uc93_4 := e1
  have e2 : us = x93_3.2.2 + us93_5 := e2
  have hc : cells + x93_3.2.1 + uc93_4 = mc := by rw [Nat.add_assoc, ← e1]; exact hc
  have hs : slots + x93_3.2.2 + us93_5 = ms := by rw [Nat.add_assoc, ← e2]; exact hs
  have lc : cells + x93_3.2.1 ≤ mc := Nat.le.intro hc
  have ls2 : slots + x93_3.2.2 ≤ ms := Nat.le.intro hs
  refine jr_callv hA hH (jr_runV (as := [jv ad 2 (z 8 v4.toNatClampNeg), jv ad 1 (xf5 v4.toNatClampNeg)]) (rest := []) V hH kYX8_rule kl_X8_63 (c_X8_rule l _ _ hx93_3 _) rfl rfl ⟨Nat.le_of_ble_eq_true rfl, Nat.le_of_ble_eq_true rfl⟩ rfl hl.1.1 (Nat.le_of_ble_eq_true rfl) dX8_die_105 ⟨lc, ls2⟩ rfl) (fun ad93_1 H locs hm hH => ?_)
  have hG := hGs _ _ hG hm
  have hH : jH A s H locs D g ad93_1 x93_3.1 [] [jTp g ad93_1 xq5 xl5 xf5] := by simp only [jTp, jTq, hm.r1, hm.r2]; exact hH
  have hl : jl_has ls 5 [(0, .ref (ad93_1 0)), (1, jv ad93_1 1 v1), (2, .ref xq5), (3, .int v3), (4, .int v4)] := by simp only [jv, hm.r1, hm.r2, hm 0 (by decide), hm 4 (by decide), hm 8 (by decide)]; exact hl
  refine jl_iinc (v := (v3 + 1)) (lv' := [(3, .int (v3 + 1)), (0, .ref (ad93_1 0)), (1, jv ad93_1 1 v1), (2, .ref xq5), (4, .int v4)]) hx hb dX8_die_108 hl (k := 3) rfl rfl (by decide) rfl (fun ls hl => ?_)
  exact w_X8_die_111 V hA hGs hk66 hG hH (jl_sub hl [1, 2, 3, 0, 4] rfl) hf hc hs
set_option maxHeartbeats 4000000 in
set_option maxRecDepth 100000 in
theorem w_X8_die_76 (V : jV p s mm args meth c cX8_die RX8 5 (some .int) D g) (hA : ∀ q, s.heap.size ≤ q → A q) (hGs : ∀ a b : Nat → Nat, G a → jH3 a b → G b) {c66 : Int32 → Int32 → Int32 → Int32 → (Nat → Int32) → kS → Option ((Int32 × kS) × Nat × Nat)} (hk66 : ∀ {ad : Nat → Nat} {v1 : Int32} {v3 : Int32} {v4 : Int32} {xq5 : Nat} {xl5 : Int32} {xf5 : Nat → Int32} {z : kS} {H : Heap} {locs : List Loc} {ls : Array Slot} {cells slots mc ms uc us : Nat} {o : (Int32 × kS)}, G ad → jH A s H locs D g ad z [] [jTp g ad xq5 xl5 xf5] → jl_has ls 5 [(0, .ref (ad 0)), (1, jv ad 1 v1), (2, .ref xq5), (3, .int v3), (4, .int v4)] → c66 v1 v3 v4 xl5 xf5 z = some (o, uc, us) → cells + uc = mc → slots + us = ms → W p l e (rm_X8_die mc ms) s mm args below meth c H locs cells slots (jGi below args s D g A G o.1 o.2 mc ms) (F0 mm 66 ls [])) {ad : Nat → Nat} {v1 : Int32} {v3 : Int32} {v4 : Int32} {xq5 : Nat} {xl5 : Int32} {xf5 : Nat → Int32} {z : kS} {H : Heap} {locs : List Loc} {ls : Array Slot} {cells slots mc ms uc us : Nat} {o : (Int32 × kS)} (hG : G ad) (hH : jH A s H locs D g ad z [] [jTp g ad xq5 xl5 xf5]) (hl : jl_has ls 5 [(0, .ref (ad 0)), (1, jv ad 1 v1), (2, .ref xq5), (3, .int v3), (4, .int v4)]) (hf : F_X8_die_76 c66 v1 v3 v4 xl5 xf5 z = some (o, uc, us)) (hc : cells + uc = mc) (hs : slots + us = ms) : W p l e (rm_X8_die mc ms) s mm args below meth c H locs cells slots (jGi below args s D g A G o.1 o.2 mc ms) (F0 mm 76 ls []) := by
  have hx := V.1
  have hb := V.2.1
  refine lv_aload_n hx hb dX8_die_76 rfl (lv_at hl.1 0 rfl) ?_
  refine jg_S V hH 1 (by decide) kf_X8_17 rfl dX8_die_77 ?_
  refine lv_iload hx hb dX8_die_80 (lv_at hl.1 4 rfl) ?_
  obtain ⟨h76_1, hf⟩ := kif hf
  refine jald_8 V hH h76_1 dX8_die_82 ?_
  obtain ⟨h76_2, hf⟩ := kif hf
  refine jg_L V hH h76_2 2 (by decide) kf_X8_50 rfl dX8_die_83 ?_
  refine jl_aload_n hx hb dX8_die_86 rfl (lv_at hl.1 1 rfl) ?_
  obtain ⟨h76_3, hf⟩ := kif hf
  obtain ⟨h76_4, hf⟩ := kif hf
  refine jl_acmp_eq1 V hH (tgt := 93) h76_3 h76_4 dX8_die_87 (by decide) (fun hq => ?_) (fun hq => ?_)
  · have hf := kpos hq hf
    exact w_X8_die_93 V hA hGs hk66 hG hH (jl_sub hl [0, 1, 2, 3, 4] rfl) hf hc hs
  · have hf := kneg hq hf
    exact w_X8_die_90 V hA hGs hk66 hG hH (jl_sub hl [0, 1, 2, 3, 4] rfl) hf hc hs
set_option maxHeartbeats 4000000 in
set_option maxRecDepth 100000 in
theorem w_X8_die_117 (V : jV p s mm args meth c cX8_die RX8 5 (some .int) D g) (hA : ∀ q, s.heap.size ≤ q → A q) (hGs : ∀ a b : Nat → Nat, G a → jH3 a b → G b) {ad : Nat → Nat} {v1 : Int32} {v3 : Int32} {z : kS} {H : Heap} {locs : List Loc} {ls : Array Slot} {cells slots mc ms uc us : Nat} {o : (Int32 × kS)} (hG : G ad) (hH : jH A s H locs D g ad z [] []) (hl : jl_has ls 5 [(0, .ref (ad 0)), (1, jv ad 1 v1), (3, .int v3)]) (hf : F_X8_die_117 v1 v3 z = some (o, uc, us)) (hc : cells + uc = mc) (hs : slots + us = ms) : W p l e (rm_X8_die mc ms) s mm args below meth c H locs cells slots (jGi below args s D g A G o.1 o.2 mc ms) (F0 mm 117 ls []) := by
  have hx := V.1
  have hb := V.2.1
  refine jl_aload_n hx hb dX8_die_117 rfl (lv_at hl.1 1 rfl) ?_
  refine lv_aload_n hx hb dX8_die_118 rfl (lv_at hl.1 0 rfl) ?_
  refine jg_S V hH 2 (by decide) kf_X8_30 rfl dX8_die_119 ?_
  obtain ⟨h117_1, hf⟩ := kif hf
  refine jp_P3 V hH h117_1 kf_X8_93 dX8_die_122 (fun H locs hH => ?_)
  refine lv_aload_n hx hb dX8_die_125 rfl (lv_at hl.1 0 rfl) ?_
  refine jl_aload_n hx hb dX8_die_126 rfl (lv_at hl.1 1 rfl) ?_
  obtain ⟨x117_2, hx117_2, hf⟩ := kbind hf
  refine jr_callvR0 hA hH (jr_runV (as := [jv ad 1 v1]) (rest := []) V hH kYX8_part kl_X8_114 (c_X8_part l _ hx117_2 _) rfl rfl ⟨Nat.le_of_ble_eq_true rfl, Nat.le_of_ble_eq_true rfl⟩ rfl hl.1.1 (Nat.le_of_ble_eq_true rfl) dX8_die_127 ⟨by show cells + 0 ≤ mc; omega, by show slots + 0 ≤ ms; omega⟩ rfl) (fun H locs hH => ?_)
  refine lv_iload_n hx hb dX8_die_130 rfl (lv_at hl.1 2 rfl) ?_
  cases hf
  subst hc
  subst hs
  exact je_iret V hG hH dX8_die_131
set_option maxHeartbeats 4000000 in
set_option maxRecDepth 100000 in
theorem w_X8_die_66 (V : jV p s mm args meth c cX8_die RX8 5 (some .int) D g) (hA : ∀ q, s.heap.size ≤ q → A q) (hGs : ∀ a b : Nat → Nat, G a → jH3 a b → G b) : ∀ (n : Nat) {ad : Nat → Nat} {v1 : Int32} {v3 : Int32} {v4 : Int32} {xq5 : Nat} {xl5 : Int32} {xf5 : Nat → Int32} {z : kS} {H : Heap} {locs : List Loc} {ls : Array Slot} {cells slots mc ms uc us : Nat} {o : (Int32 × kS)}, G ad → jH A s H locs D g ad z [] [jTp g ad xq5 xl5 xf5] → jl_has ls 5 [(0, .ref (ad 0)), (1, jv ad 1 v1), (2, .ref xq5), (3, .int v3), (4, .int v4)] → F_X8_die_66 n v1 v3 v4 xl5 xf5 z = some (o, uc, us) → cells + uc = mc → slots + us = ms → W p l e (rm_X8_die mc ms) s mm args below meth c H locs cells slots (jGi below args s D g A G o.1 o.2 mc ms) (F0 mm 66 ls []) := by
  have hx := V.1
  have hb := V.2.1
  intro n
  induction n with
  | zero => intro _ _ _ _ _ _ _ _ _ _ _ _ _ _ _ _ _ _ hG hH hl hf hc hs; cases hf
  | succ n hk66 =>
    intro ad v1 v3 v4 xq5 xl5 xf5 z H locs ls cells slots mc ms uc us o hG hH hl hf hc hs
    refine lv_iload hx hb dX8_die_66 (lv_at hl.1 4 rfl) ?_
    refine lv_aload_n hx hb dX8_die_68 rfl (lv_at hl.1 0 rfl) ?_
    refine jg_S V hH 1 (by decide) kf_X8_17 rfl dX8_die_69 ?_
    refine jalen_8 V hH dX8_die_72 ?_
    refine lv_icmp_ge (tgt := 117) hx hb dX8_die_73 (by decide) (fun hq => ?_) (fun hq => ?_)
    · have hf := kpos hq hf
      exact w_X8_die_117 V hA hGs hG (jH_sub hH [] (by decide) rfl) (jl_sub hl [0, 1, 3] rfl) hf hc hs
    · have hf := kneg hq hf
      exact w_X8_die_76 V hA hGs hk66 hG hH (jl_sub hl [0, 1, 2, 3, 4] rfl) hf hc hs
set_option maxHeartbeats 4000000 in
set_option maxRecDepth 100000 in
theorem w_X8_die_63 (V : jV p s mm args meth c cX8_die RX8 5 (some .int) D g) (hA : ∀ q, s.heap.size ≤ q → A q) (hGs : ∀ a b : Nat → Nat, G a → jH3 a b → G b) {ad : Nat → Nat} {v1 : Int32} {v3 : Int32} {xq5 : Nat} {xl5 : Int32} {xf5 : Nat → Int32} {z : kS} {H : Heap} {locs : List Loc} {ls : Array Slot} {cells slots mc ms uc us : Nat} {o : (Int32 × kS)} (hG : G ad) (hH : jH A s H locs D g ad z [] [jTp g ad xq5 xl5 xf5]) (hl : jl_has ls 5 [(0, .ref (ad 0)), (1, jv ad 1 v1), (2, .ref xq5), (3, .int v3)]) (hf : F_X8_die_63 v1 v3 xl5 xf5 z = some (o, uc, us)) (hc : cells + uc = mc) (hs : slots + us = ms) : W p l e (rm_X8_die mc ms) s mm args below meth c H locs cells slots (jGi below args s D g A G o.1 o.2 mc ms) (F0 mm 63 ls []) := by
  have hx := V.1
  have hb := V.2.1
  refine lv_iconst (v := 0) hx hb dX8_die_63 (by decide) ?_
  refine jl_istore (lv' := [(4, .int 0), (0, .ref (ad 0)), (1, jv ad 1 v1), (2, .ref xq5), (3, .int v3)]) hx hb dX8_die_64 hl (by decide) rfl (fun ls hl => ?_)
  exact w_X8_die_66 V hA hGs kN hG hH (jl_sub hl [1, 2, 3, 4, 0] rfl) hf hc hs
set_option maxHeartbeats 4000000 in
set_option maxRecDepth 100000 in
theorem w_X8_die_14 (V : jV p s mm args meth c cX8_die RX8 5 (some .int) D g) (hA : ∀ q, s.heap.size ≤ q → A q) (hGs : ∀ a b : Nat → Nat, G a → jH3 a b → G b) : ∀ (n : Nat) {ad : Nat → Nat} {v1 : Int32} {v3 : Int32} {v4 : Int32} {xq5 : Nat} {xl5 : Int32} {xf5 : Nat → Int32} {z : kS} {H : Heap} {locs : List Loc} {ls : Array Slot} {cells slots mc ms uc us : Nat} {o : (Int32 × kS)}, G ad → jH A s H locs D g ad z [] [jTp g ad xq5 xl5 xf5] → jl_has ls 5 [(0, .ref (ad 0)), (1, jv ad 1 v1), (2, .ref xq5), (3, .int v3), (4, .int v4)] → F_X8_die_14 n v1 v3 v4 xl5 xf5 z = some (o, uc, us) → cells + uc = mc → slots + us = ms → W p l e (rm_X8_die mc ms) s mm args below meth c H locs cells slots (jGi below args s D g A G o.1 o.2 mc ms) (F0 mm 14 ls []) := by
  have hx := V.1
  have hb := V.2.1
  intro n
  induction n with
  | zero => intro _ _ _ _ _ _ _ _ _ _ _ _ _ _ _ _ _ _ hG hH hl hf hc hs; cases hf
  | succ n hk14 =>
    intro ad v1 v3 v4 xq5 xl5 xf5 z H locs ls cells slots mc ms uc us o hG hH hl hf hc hs
    refine lv_iload hx hb dX8_die_14 (lv_at hl.1 4 rfl) ?_
    refine lv_aload_n hx hb dX8_die_16 rfl (lv_at hl.1 0 rfl) ?_
    refine jg_S V hH 1 (by decide) kf_X8_17 rfl dX8_die_17 ?_
    refine jalen_8 V hH dX8_die_20 ?_
    refine lv_icmp_ge (tgt := 63) hx hb dX8_die_21 (by decide) (fun hq => ?_) (fun hq => ?_)
    · have hf := kpos hq hf
      exact w_X8_die_63 V hA hGs hG hH (jl_sub hl [0, 1, 2, 3] rfl) hf hc hs
    · have hf := kneg hq hf
      exact w_X8_die_24 V hA hGs hk14 hG hH (jl_sub hl [0, 1, 2, 3, 4] rfl) hf hc hs
set_option maxHeartbeats 4000000 in
set_option maxRecDepth 100000 in
theorem w_X8_die_0 (V : jV p s mm args meth c cX8_die RX8 5 (some .int) D g) (hA : ∀ q, s.heap.size ≤ q → A q) (hGs : ∀ a b : Nat → Nat, G a → jH3 a b → G b) {ad : Nat → Nat} {v1 : Int32} {z : kS} {H : Heap} {locs : List Loc} {ls : Array Slot} {cells slots mc ms uc us : Nat} {o : (Int32 × kS)} (hG : G ad) (hH : jH A s H locs D g ad z [] []) (hl : jl_has ls 5 [(0, .ref (ad 0)), (1, jv ad 1 v1)]) (hf : F_X8_die_0 v1 z = some (o, uc, us)) (hc : cells + uc = mc) (hs : slots + us = ms) : W p l e (rm_X8_die mc ms) s mm args below meth c H locs cells slots (jGi below args s D g A G o.1 o.2 mc ms) (F0 mm 0 ls []) := by
  have hx := V.1
  have hb := V.2.1
  refine lv_aload_n hx hb dX8_die_0 rfl (lv_at hl.1 0 rfl) ?_
  refine jg_S V hH 1 (by decide) kf_X8_17 rfl dX8_die_1 ?_
  refine jalen_8 V hH dX8_die_4 ?_
  obtain ⟨h0_1, hf⟩ := kif hf
  obtain ⟨uc0_2, us0_3, hf, e1, e2⟩ := kadd_some2 hf
  have e1 : uc = 1 + uc0_2 := e1
  have e2 : us = (nI (z 12 1).toNatClampNeg).toNatClampNeg + us0_3 := e2
  have hc : cells + 1 + uc0_2 = mc := by rw [Nat.add_assoc, ← e1]; exact hc
  have hs : slots + (nI (z 12 1).toNatClampNeg).toNatClampNeg + us0_3 = ms := by rw [Nat.add_assoc, ← e2]; exact hs
  have lc : cells + 1 ≤ mc := Nat.le.intro hc
  have ls2 : slots + (nI (z 12 1).toNatClampNeg).toNatClampNeg ≤ ms := Nat.le.intro hs
  refine jt_newp V hA hH (fun q => h0_1 (Or.inl q)) (Nat.not_lt.mp fun q => h0_1 (Or.inr q)) kc_X8_7 lc ls2 dX8_die_5 (fun xq5 H hH => ?_)
  refine jl_astore_n (o := some xq5) (lv' := [(2, .ref xq5), (0, .ref (ad 0)), (1, jv ad 1 v1)]) hx hb dX8_die_8 rfl hl (by decide) rfl (fun ls hl => ?_)
  refine lv_iconst (v := 0) hx hb dX8_die_9 (by decide) ?_
  refine jl_istore_n (lv' := [(3, .int 0), (2, .ref xq5), (0, .ref (ad 0)), (1, jv ad 1 v1)]) hx hb dX8_die_10 rfl hl (by decide) rfl (fun ls hl => ?_)
  refine lv_iconst (v := 0) hx hb dX8_die_11 (by decide) ?_
  refine jl_istore (lv' := [(4, .int 0), (3, .int 0), (2, .ref xq5), (0, .ref (ad 0)), (1, jv ad 1 v1)]) hx hb dX8_die_12 hl (by decide) rfl (fun ls hl => ?_)
  exact w_X8_die_14 V hA hGs kN hG hH (jl_sub hl [3, 4, 2, 1, 0] rfl) hf hc hs
set_option maxHeartbeats 4000000 in
set_option maxRecDepth 100000 in
theorem c_X8_die (l : Launch) {D : va_G} {g : Nat → ClassId} {ad : Nat → Nat} {z : kS} (v1 : Int32) {o : (Int32 × kS)} {mc ms : Nat} (hf : F_X8_die v1 z = some (o, mc, ms)) (sz : Nat) : Met l yX8_die (Cond.code yX8_die cX8_die 5 (some .int) :: kWA) (rm_X8_die mc ms) (jP [.ref (ad 0), jv ad 1 v1] D g ad z sz) (jQi o.1 (jH3 ad) D g (va_A (jC g ad z) sz) o.2) mc ms (va_A (jC g ad z) sz) := by
  refine j_met (as := [.ref (ad 0), jv ad 1 v1]) (bytes := cX8_die) (maxL := 5) (rt := (some .int)) (lv := [(0, .ref (ad 0)), (1, jv ad 1 v1)]) (by decide +kernel) (by simp [lg_sl, jcatv, jcati, jcatr]) (by simp [lv_args, jcatv, jcati, jcatr]) (by simp [jcatv, jcati, jcatr]) (fun p e s mm below meth c ls hsz V hA hH hl => ?_)
  exact w_X8_die_0 V hA (fun _ _ h h2 => h.tr h2) jH3.rf hH (jl_sub hl [0, 1] rfl) hf (Nat.zero_add _) (Nat.zero_add _)
end
section
variable {p : Program} {l : Launch} {e : Env} {s : State} {mm : MethodId} {args : Array Value} {below : List Frame} {meth : Method} {c : Code} {D : va_G} {g : Nat → ClassId} {A : Nat → Prop}
variable {G : (Nat → Nat) → Prop}
abbrev rm_X8_pass (mc ms : Nat) : Room := { frames := 51, cells := mc, slots := ms, locals := 1411 }
set_option maxHeartbeats 4000000 in
set_option maxRecDepth 100000 in
theorem w_X8_pass_71 (V : jV p s mm args meth c cX8_pass RX8 6 (some .int) D g) (hA : ∀ q, s.heap.size ≤ q → A q) (hGs : ∀ a b : Nat → Nat, G a → jH3 a b → G b) {c23 : Int32 → Int32 → Int32 → kS → Option ((Int32 × kS) × Nat × Nat)} (hk23 : ∀ {ad : Nat → Nat} {v1 : Int32} {v3 : Int32} {v4 : Int32} {z : kS} {H : Heap} {locs : List Loc} {ls : Array Slot} {cells slots mc ms uc us : Nat} {o : (Int32 × kS)}, G ad → jH A s H locs D g ad z [] [] → jl_has ls 6 [(0, .ref (ad 0)), (1, .int v1), (2, .ref (ad 4)), (3, .int v3), (4, .int v4)] → c23 v1 v3 v4 z = some (o, uc, us) → cells + uc = mc → slots + us = ms → W p l e (rm_X8_pass mc ms) s mm args below meth c H locs cells slots (jGi below args s D g A G o.1 o.2 mc ms) (F0 mm 23 ls [])) {ad : Nat → Nat} {v1 : Int32} {v3 : Int32} {v4 : Int32} {z : kS} {H : Heap} {locs : List Loc} {ls : Array Slot} {cells slots mc ms uc us : Nat} {o : (Int32 × kS)} (hG : G ad) (hH : jH A s H locs D g ad z [] []) (hl : jl_has ls 6 [(0, .ref (ad 0)), (1, .int v1), (2, .ref (ad 4)), (3, .int v3), (4, .int v4)]) (hf : F_X8_pass_71 c23 v1 v3 v4 z = some (o, uc, us)) (hc : cells + uc = mc) (hs : slots + us = ms) : W p l e (rm_X8_pass mc ms) s mm args below meth c H locs cells slots (jGi below args s D g A G o.1 o.2 mc ms) (F0 mm 71 ls []) := by
  have hx := V.1
  have hb := V.2.1
  refine jl_iinc (v := (v4 + 1)) (lv' := [(4, .int (v4 + 1)), (0, .ref (ad 0)), (1, .int v1), (2, .ref (ad 4)), (3, .int v3)]) hx hb dX8_pass_71 hl (k := 4) rfl rfl (by decide) rfl (fun ls hl => ?_)
  refine lv_goto (tgt := 23) hx hb dX8_pass_74 (by decide) ?_
  exact hk23 hG hH (jl_sub hl [1, 2, 3, 4, 0] rfl) hf hc hs
set_option maxHeartbeats 4000000 in
set_option maxRecDepth 100000 in
theorem w_X8_pass_58 (V : jV p s mm args meth c cX8_pass RX8 6 (some .int) D g) (hA : ∀ q, s.heap.size ≤ q → A q) (hGs : ∀ a b : Nat → Nat, G a → jH3 a b → G b) {c23 : Int32 → Int32 → Int32 → kS → Option ((Int32 × kS) × Nat × Nat)} (hk23 : ∀ {ad : Nat → Nat} {v1 : Int32} {v3 : Int32} {v4 : Int32} {z : kS} {H : Heap} {locs : List Loc} {ls : Array Slot} {cells slots mc ms uc us : Nat} {o : (Int32 × kS)}, G ad → jH A s H locs D g ad z [] [] → jl_has ls 6 [(0, .ref (ad 0)), (1, .int v1), (2, .ref (ad 4)), (3, .int v3), (4, .int v4)] → c23 v1 v3 v4 z = some (o, uc, us) → cells + uc = mc → slots + us = ms → W p l e (rm_X8_pass mc ms) s mm args below meth c H locs cells slots (jGi below args s D g A G o.1 o.2 mc ms) (F0 mm 23 ls [])) {ad : Nat → Nat} {v1 : Int32} {v3 : Int32} {v4 : Int32} {z : kS} {H : Heap} {locs : List Loc} {ls : Array Slot} {cells slots mc ms uc us : Nat} {o : (Int32 × kS)} (hG : G ad) (hH : jH A s H locs D g ad z [] []) (hl : jl_has ls 6 [(0, .ref (ad 0)), (1, .int v1), (2, .ref (ad 4)), (3, .int v3), (4, .int v4)]) (hf : F_X8_pass_58 c23 v1 v3 v4 z = some (o, uc, us)) (hc : cells + uc = mc) (hs : slots + us = ms) : W p l e (rm_X8_pass mc ms) s mm args below meth c H locs cells slots (jGi below args s D g A G o.1 o.2 mc ms) (F0 mm 58 ls []) := by
  have hx := V.1
  have hb := V.2.1
  refine lv_goto (tgt := 71) hx hb dX8_pass_58 (by decide) ?_
  exact w_X8_pass_71 V hA hGs hk23 hG hH (jl_sub hl [0, 1, 2, 3, 4] rfl) hf hc hs
set_option maxHeartbeats 4000000 in
set_option maxRecDepth 100000 in
theorem w_X8_pass_61 (V : jV p s mm args meth c cX8_pass RX8 6 (some .int) D g) (hA : ∀ q, s.heap.size ≤ q → A q) (hGs : ∀ a b : Nat → Nat, G a → jH3 a b → G b) {c23 : Int32 → Int32 → Int32 → kS → Option ((Int32 × kS) × Nat × Nat)} (hk23 : ∀ {ad : Nat → Nat} {v1 : Int32} {v3 : Int32} {v4 : Int32} {z : kS} {H : Heap} {locs : List Loc} {ls : Array Slot} {cells slots mc ms uc us : Nat} {o : (Int32 × kS)}, G ad → jH A s H locs D g ad z [] [] → jl_has ls 6 [(0, .ref (ad 0)), (1, .int v1), (2, .ref (ad 4)), (3, .int v3), (4, .int v4)] → c23 v1 v3 v4 z = some (o, uc, us) → cells + uc = mc → slots + us = ms → W p l e (rm_X8_pass mc ms) s mm args below meth c H locs cells slots (jGi below args s D g A G o.1 o.2 mc ms) (F0 mm 23 ls [])) {ad : Nat → Nat} {v1 : Int32} {v3 : Int32} {v4 : Int32} {v5 : Int32} {z : kS} {H : Heap} {locs : List Loc} {ls : Array Slot} {cells slots mc ms uc us : Nat} {o : (Int32 × kS)} (hG : G ad) (hH : jH A s H locs D g ad z [] []) (hl : jl_has ls 6 [(0, .ref (ad 0)), (1, .int v1), (2, .ref (ad 4)), (3, .int v3), (4, .int v4), (5, jv ad 1 v5)]) (hf : F_X8_pass_61 c23 v1 v3 v4 v5 z = some (o, uc, us)) (hc : cells + uc = mc) (hs : slots + us = ms) : W p l e (rm_X8_pass mc ms) s mm args below meth c H locs cells slots (jGi below args s D g A G o.1 o.2 mc ms) (F0 mm 61 ls []) := by
  have hx := V.1
  have hb := V.2.1
  refine lv_aload_n hx hb dX8_pass_61 rfl (lv_at hl.1 0 rfl) ?_
  refine jl_aload hx hb dX8_pass_62 (lv_at hl.1 5 rfl) ?_
  obtain ⟨x61_1, hx61_1, hf⟩ := kbind hf
  obtain ⟨uc61_2, us61_3, hf, e1, e2⟩ := kadd_some2 hf
  have e1 : uc = x61_1.2.1 + uc61_2 := e1
  have e2 : us = x61_1.2.2 + us61_3 := e2
  have hc : cells + x61_1.2.1 + uc61_2 = mc := by rw [Nat.add_assoc, ← e1]; exact hc
  have hs : slots + x61_1.2.2 + us61_3 = ms := by rw [Nat.add_assoc, ← e2]; exact hs
  have lc : cells + x61_1.2.1 ≤ mc := Nat.le.intro hc
  have ls2 : slots + x61_1.2.2 ≤ ms := Nat.le.intro hs
  refine jr_calli hA hH (jr_runV (as := [jv ad 1 v5]) (rest := []) V hH kYX8_die kl_X8_122 (c_X8_die l _ hx61_1 _) rfl rfl ⟨Nat.le_of_ble_eq_true rfl, Nat.le_of_ble_eq_true rfl⟩ rfl hl.1.1 (Nat.le_of_ble_eq_true rfl) dX8_pass_64 ⟨lc, ls2⟩ rfl) (fun ad61_1 H locs hm hH => ?_)
  have hG := hGs _ _ hG hm
  have hl : jl_has ls 6 [(0, .ref (ad61_1 0)), (1, .int v1), (2, .ref (ad61_1 4)), (3, .int v3), (4, .int v4), (5, jv ad61_1 1 v5)] := by simp only [jv, hm.r1, hm.r2, hm 0 (by decide), hm 4 (by decide), hm 8 (by decide)]; exact hl
  refine lv_pop hx hb dX8_pass_67 rfl ?_
  refine jl_iinc (v := (v1 + 1)) (lv' := [(1, .int (v1 + 1)), (0, .ref (ad61_1 0)), (2, .ref (ad61_1 4)), (3, .int v3), (4, .int v4), (5, jv ad61_1 1 v5)]) hx hb dX8_pass_68 hl (k := 1) rfl rfl (by decide) rfl (fun ls hl => ?_)
  exact w_X8_pass_71 V hA hGs hk23 hG hH (jl_sub hl [1, 0, 2, 3, 4] rfl) hf hc hs
set_option maxHeartbeats 4000000 in
set_option maxRecDepth 100000 in
theorem w_X8_pass_43 (V : jV p s mm args meth c cX8_pass RX8 6 (some .int) D g) (hA : ∀ q, s.heap.size ≤ q → A q) (hGs : ∀ a b : Nat → Nat, G a → jH3 a b → G b) {c23 : Int32 → Int32 → Int32 → kS → Option ((Int32 × kS) × Nat × Nat)} (hk23 : ∀ {ad : Nat → Nat} {v1 : Int32} {v3 : Int32} {v4 : Int32} {z : kS} {H : Heap} {locs : List Loc} {ls : Array Slot} {cells slots mc ms uc us : Nat} {o : (Int32 × kS)}, G ad → jH A s H locs D g ad z [] [] → jl_has ls 6 [(0, .ref (ad 0)), (1, .int v1), (2, .ref (ad 4)), (3, .int v3), (4, .int v4)] → c23 v1 v3 v4 z = some (o, uc, us) → cells + uc = mc → slots + us = ms → W p l e (rm_X8_pass mc ms) s mm args below meth c H locs cells slots (jGi below args s D g A G o.1 o.2 mc ms) (F0 mm 23 ls [])) {ad : Nat → Nat} {v1 : Int32} {v3 : Int32} {v4 : Int32} {v5 : Int32} {z : kS} {H : Heap} {locs : List Loc} {ls : Array Slot} {cells slots mc ms uc us : Nat} {o : (Int32 × kS)} (hG : G ad) (hH : jH A s H locs D g ad z [] []) (hl : jl_has ls 6 [(0, .ref (ad 0)), (1, .int v1), (2, .ref (ad 4)), (3, .int v3), (4, .int v4), (5, jv ad 1 v5)]) (hf : F_X8_pass_43 c23 v1 v3 v4 v5 z = some (o, uc, us)) (hc : cells + uc = mc) (hs : slots + us = ms) : W p l e (rm_X8_pass mc ms) s mm args below meth c H locs cells slots (jGi below args s D g A G o.1 o.2 mc ms) (F0 mm 43 ls []) := by
  have hx := V.1
  have hb := V.2.1
  refine lv_aload_n hx hb dX8_pass_43 rfl (lv_at hl.1 0 rfl) ?_
  refine jg_S V hH 2 (by decide) kf_X8_30 rfl dX8_pass_44 ?_
  refine jl_aload hx hb dX8_pass_47 (lv_at hl.1 5 rfl) ?_
  obtain ⟨h43_1, hf⟩ := kif hf
  refine jg_P V hH h43_1 2 (by decide) kf_X8_33 rfl dX8_pass_49 ?_
  refine lv_isub hx hb dX8_pass_52 ?_
  refine lv_bipush (v := 80) hx hb dX8_pass_53 (by decide) ?_
  refine lv_icmp_ge (tgt := 61) hx hb dX8_pass_55 (by decide) (fun hq => ?_) (fun hq => ?_)
  · have hf := kpos hq hf
    exact w_X8_pass_61 V hA hGs hk23 hG hH (jl_sub hl [0, 1, 2, 3, 4, 5] rfl) hf hc hs
  · have hf := kneg hq hf
    exact w_X8_pass_58 V hA hGs hk23 hG hH (jl_sub hl [0, 1, 2, 3, 4] rfl) hf hc hs
set_option maxHeartbeats 4000000 in
set_option maxRecDepth 100000 in
theorem w_X8_pass_29 (V : jV p s mm args meth c cX8_pass RX8 6 (some .int) D g) (hA : ∀ q, s.heap.size ≤ q → A q) (hGs : ∀ a b : Nat → Nat, G a → jH3 a b → G b) {c23 : Int32 → Int32 → Int32 → kS → Option ((Int32 × kS) × Nat × Nat)} (hk23 : ∀ {ad : Nat → Nat} {v1 : Int32} {v3 : Int32} {v4 : Int32} {z : kS} {H : Heap} {locs : List Loc} {ls : Array Slot} {cells slots mc ms uc us : Nat} {o : (Int32 × kS)}, G ad → jH A s H locs D g ad z [] [] → jl_has ls 6 [(0, .ref (ad 0)), (1, .int v1), (2, .ref (ad 4)), (3, .int v3), (4, .int v4)] → c23 v1 v3 v4 z = some (o, uc, us) → cells + uc = mc → slots + us = ms → W p l e (rm_X8_pass mc ms) s mm args below meth c H locs cells slots (jGi below args s D g A G o.1 o.2 mc ms) (F0 mm 23 ls [])) {ad : Nat → Nat} {v1 : Int32} {v3 : Int32} {v4 : Int32} {z : kS} {H : Heap} {locs : List Loc} {ls : Array Slot} {cells slots mc ms uc us : Nat} {o : (Int32 × kS)} (hG : G ad) (hH : jH A s H locs D g ad z [] []) (hl : jl_has ls 6 [(0, .ref (ad 0)), (1, .int v1), (2, .ref (ad 4)), (3, .int v3), (4, .int v4)]) (hf : F_X8_pass_29 c23 v1 v3 v4 z = some (o, uc, us)) (hc : cells + uc = mc) (hs : slots + us = ms) : W p l e (rm_X8_pass mc ms) s mm args below meth c H locs cells slots (jGi below args s D g A G o.1 o.2 mc ms) (F0 mm 29 ls []) := by
  have hx := V.1
  have hb := V.2.1
  refine lv_aload_n hx hb dX8_pass_29 rfl (lv_at hl.1 2 rfl) ?_
  refine lv_iload hx hb dX8_pass_30 (lv_at hl.1 4 rfl) ?_
  obtain ⟨h29_1, hf⟩ := kif hf
  refine jald_4 V hH h29_1 dX8_pass_32 ?_
  refine jl_astore (lv' := [(5, jv ad 1 (z 4 v4.toNatClampNeg)), (0, .ref (ad 0)), (1, .int v1), (2, .ref (ad 4)), (3, .int v3), (4, .int v4)]) hx hb dX8_pass_33 hl (by decide) rfl (fun ls hl => ?_)
  refine jl_aload hx hb dX8_pass_35 (lv_at hl.1 0 rfl) ?_
  obtain ⟨h29_2, hf⟩ := kif hf
  refine jg_P V hH h29_2 3 (by decide) kf_X8_93 rfl dX8_pass_37 ?_
  refine lv_if_ge (tgt := 71) hx hb dX8_pass_40 (by decide) (fun hq => ?_) (fun hq => ?_)
  · have hf := kpos hq hf
    exact w_X8_pass_71 V hA hGs hk23 hG hH (jl_sub hl [1, 2, 3, 4, 5] rfl) hf hc hs
  · have hf := kneg hq hf
    exact w_X8_pass_43 V hA hGs hk23 hG hH (jl_sub hl [1, 2, 3, 4, 5, 0] rfl) hf hc hs
set_option maxHeartbeats 4000000 in
set_option maxRecDepth 100000 in
theorem w_X8_pass_77 (V : jV p s mm args meth c cX8_pass RX8 6 (some .int) D g) (hA : ∀ q, s.heap.size ≤ q → A q) (hGs : ∀ a b : Nat → Nat, G a → jH3 a b → G b) {ad : Nat → Nat} {v1 : Int32} {z : kS} {H : Heap} {locs : List Loc} {ls : Array Slot} {cells slots mc ms uc us : Nat} {o : (Int32 × kS)} (hG : G ad) (hH : jH A s H locs D g ad z [] []) (hl : jl_has ls 6 [(1, .int v1)]) (hf : F_X8_pass_77 v1 z = some (o, uc, us)) (hc : cells + uc = mc) (hs : slots + us = ms) : W p l e (rm_X8_pass mc ms) s mm args below meth c H locs cells slots (jGi below args s D g A G o.1 o.2 mc ms) (F0 mm 77 ls []) := by
  have hx := V.1
  have hb := V.2.1
  refine lv_iload_n hx hb dX8_pass_77 rfl (lv_at hl.1 0 rfl) ?_
  cases hf
  subst hc
  subst hs
  exact je_iret V hG hH dX8_pass_78
set_option maxHeartbeats 4000000 in
set_option maxRecDepth 100000 in
theorem w_X8_pass_23 (V : jV p s mm args meth c cX8_pass RX8 6 (some .int) D g) (hA : ∀ q, s.heap.size ≤ q → A q) (hGs : ∀ a b : Nat → Nat, G a → jH3 a b → G b) : ∀ (n : Nat) {ad : Nat → Nat} {v1 : Int32} {v3 : Int32} {v4 : Int32} {z : kS} {H : Heap} {locs : List Loc} {ls : Array Slot} {cells slots mc ms uc us : Nat} {o : (Int32 × kS)}, G ad → jH A s H locs D g ad z [] [] → jl_has ls 6 [(0, .ref (ad 0)), (1, .int v1), (2, .ref (ad 4)), (3, .int v3), (4, .int v4)] → F_X8_pass_23 n v1 v3 v4 z = some (o, uc, us) → cells + uc = mc → slots + us = ms → W p l e (rm_X8_pass mc ms) s mm args below meth c H locs cells slots (jGi below args s D g A G o.1 o.2 mc ms) (F0 mm 23 ls []) := by
  have hx := V.1
  have hb := V.2.1
  intro n
  induction n with
  | zero => intro _ _ _ _ _ _ _ _ _ _ _ _ _ _ _ hG hH hl hf hc hs; cases hf
  | succ n hk23 =>
    intro ad v1 v3 v4 z H locs ls cells slots mc ms uc us o hG hH hl hf hc hs
    refine lv_iload hx hb dX8_pass_23 (lv_at hl.1 4 rfl) ?_
    refine lv_iload_n hx hb dX8_pass_25 rfl (lv_at hl.1 3 rfl) ?_
    refine lv_icmp_ge (tgt := 77) hx hb dX8_pass_26 (by decide) (fun hq => ?_) (fun hq => ?_)
    · have hf := kpos hq hf
      exact w_X8_pass_77 V hA hGs hG hH (jl_sub hl [1] rfl) hf hc hs
    · have hf := kneg hq hf
      exact w_X8_pass_29 V hA hGs hk23 hG hH (jl_sub hl [0, 1, 2, 3, 4] rfl) hf hc hs
set_option maxHeartbeats 4000000 in
set_option maxRecDepth 100000 in
theorem w_X8_pass_0 (V : jV p s mm args meth c cX8_pass RX8 6 (some .int) D g) (hA : ∀ q, s.heap.size ≤ q → A q) (hGs : ∀ a b : Nat → Nat, G a → jH3 a b → G b) {ad : Nat → Nat} {z : kS} {H : Heap} {locs : List Loc} {ls : Array Slot} {cells slots mc ms uc us : Nat} {o : (Int32 × kS)} (hG : G ad) (hH : jH A s H locs D g ad z [] []) (hl : jl_has ls 6 [(0, .ref (ad 0))]) (hf : F_X8_pass_0 z = some (o, uc, us)) (hc : cells + uc = mc) (hs : slots + us = ms) : W p l e (rm_X8_pass mc ms) s mm args below meth c H locs cells slots (jGi below args s D g A G o.1 o.2 mc ms) (F0 mm 0 ls []) := by
  have hx := V.1
  have hb := V.2.1
  refine lv_iconst (v := 0) hx hb dX8_pass_0 (by decide) ?_
  refine jl_istore_n (lv' := [(1, .int 0), (0, .ref (ad 0))]) hx hb dX8_pass_1 rfl hl (by decide) rfl (fun ls hl => ?_)
  refine lv_aload_n hx hb dX8_pass_2 rfl (lv_at hl.1 1 rfl) ?_
  refine lv_dup hx hb dX8_pass_3 rfl ?_
  refine jg_S V hH 2 (by decide) kf_X8_30 rfl dX8_pass_4 ?_
  refine lv_iconst (v := 1) hx hb dX8_pass_7 (by decide) ?_
  refine lv_iadd hx hb dX8_pass_8 ?_
  refine jp_Sy V hH kf_X8_30 dX8_pass_9 (fun H locs hH => ?_)
  refine lv_aload_n hx hb dX8_pass_12 rfl (lv_at hl.1 1 rfl) ?_
  refine jg_S V hH 0 (by decide) kf_X8_9 rfl dX8_pass_13 ?_
  refine jl_astore_n (o := some (ad 4)) (lv' := [(2, .ref (ad 4)), (1, .int 0), (0, .ref (ad 0))]) hx hb dX8_pass_16 rfl hl (by decide) rfl (fun ls hl => ?_)
  refine lv_aload_n hx hb dX8_pass_17 rfl (lv_at hl.1 0 rfl) ?_
  refine jalen_4 V hH dX8_pass_18 ?_
  refine jl_istore_n (lv' := [(3, .int (nI ((kput z 0 0 ((z 0 0) + 1)) 12 0).toNatClampNeg)), (2, .ref (ad 4)), (1, .int 0), (0, .ref (ad 0))]) hx hb dX8_pass_19 rfl hl (by decide) rfl (fun ls hl => ?_)
  refine lv_iconst (v := 0) hx hb dX8_pass_20 (by decide) ?_
  refine jl_istore (lv' := [(4, .int 0), (3, .int (nI ((kput z 0 0 ((z 0 0) + 1)) 12 0).toNatClampNeg)), (2, .ref (ad 4)), (1, .int 0), (0, .ref (ad 0))]) hx hb dX8_pass_21 hl (by decide) rfl (fun ls hl => ?_)
  exact w_X8_pass_23 V hA hGs kN hG hH (jl_sub hl [4, 3, 2, 1, 0] rfl) hf hc hs
set_option maxHeartbeats 4000000 in
set_option maxRecDepth 100000 in
theorem c_X8_pass (l : Launch) {D : va_G} {g : Nat → ClassId} {ad : Nat → Nat} {z : kS} {o : (Int32 × kS)} {mc ms : Nat} (hf : F_X8_pass z = some (o, mc, ms)) (sz : Nat) : Met l yX8_pass (Cond.code yX8_pass cX8_pass 6 (some .int) :: kWA) (rm_X8_pass mc ms) (jP [.ref (ad 0)] D g ad z sz) (jQi o.1 (jH3 ad) D g (va_A (jC g ad z) sz) o.2) mc ms (va_A (jC g ad z) sz) := by
  refine j_met (as := [.ref (ad 0)]) (bytes := cX8_pass) (maxL := 6) (rt := (some .int)) (lv := [(0, .ref (ad 0))]) (by decide +kernel) (by simp [lg_sl, jcatv, jcati, jcatr]) (by simp [lv_args, jcatv, jcati, jcatr]) (by simp [jcatv, jcati, jcatr]) (fun p e s mm below meth c ls hsz V hA hH hl => ?_)
  exact w_X8_pass_0 V hA (fun _ _ h h2 => h.tr h2) jH3.rf hH (jl_sub hl [0] rfl) hf (Nat.zero_add _) (Nat.zero_add _)
end
