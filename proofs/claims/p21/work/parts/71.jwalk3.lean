/-! SIM: COME, BEAR, FOUND: walks and contracts -/
section
variable {p : Program} {l : Launch} {e : Env} {s : State} {mm : MethodId} {args : Array Value} {below : List Frame} {meth : Method} {c : Code} {D : va_G} {g : Nat → ClassId} {A : Nat → Prop}
variable {ad0 : Nat → Nat} {z0 : kS}
abbrev rm_X8_come (mc ms : Nat) : Room := { frames := 2, cells := mc, slots := ms, locals := 60 }
set_option maxHeartbeats 4000000 in
set_option maxRecDepth 100000 in
theorem w_X8_come_24 (V : jV p s mm args meth c cX8_come RX8 5 (some (.object "KingTiesLaw$Person")) D g) (hA : ∀ q, s.heap.size ≤ q → A q) {c14 : Int32 → Int32 → Int32 → Int32 → (Nat → Int32) → kS → Option ((Int32 × kS) × Nat × Nat)} (hk14 : ∀ {ad : Nat → Nat} {v1 : Int32} {v2 : Int32} {v4 : Int32} {xq7 : Nat} {xl7 : Int32} {xf7 : Nat → Int32} {z : kS} {H : Heap} {locs : List Loc} {ls : Array Slot} {cells slots mc ms uc us : Nat} {o : (Int32 × kS)}, jGc ad0 z0 ad → jLe z0 z → jH A s H locs D g ad z [] [jTp g ad xq7 xl7 xf7] → jl_has ls 5 [(0, .ref (ad 0)), (1, .int v1), (2, .int v2), (3, .ref xq7), (4, .int v4)] → c14 v1 v2 v4 xl7 xf7 z = some (o, uc, us) → cells + uc = mc → slots + us = ms → W p l e (rm_X8_come mc ms) s mm args below meth c H locs cells slots (jGq below args s D g A (jGc ad0 z0) 1 o.1 o.2 mc ms) (F0 mm 14 ls [])) {ad : Nat → Nat} {v1 : Int32} {v2 : Int32} {v4 : Int32} {xq7 : Nat} {xl7 : Int32} {xf7 : Nat → Int32} {z : kS} {H : Heap} {locs : List Loc} {ls : Array Slot} {cells slots mc ms uc us : Nat} {o : (Int32 × kS)} (hG : jGc ad0 z0 ad) (hz : jLe z0 z) (hH : jH A s H locs D g ad z [] [jTp g ad xq7 xl7 xf7]) (hl : jl_has ls 5 [(0, .ref (ad 0)), (1, .int v1), (2, .int v2), (3, .ref xq7), (4, .int v4)]) (hf : F_X8_come_24 c14 v1 v2 v4 xl7 xf7 z = some (o, uc, us)) (hc : cells + uc = mc) (hs : slots + us = ms) : W p l e (rm_X8_come mc ms) s mm args below meth c H locs cells slots (jGq below args s D g A (jGc ad0 z0) 1 o.1 o.2 mc ms) (F0 mm 24 ls []) := by
  have hx := V.1
  have hb := V.2.1
  refine lv_aload_n hx hb dX8_come_24 rfl (lv_at hl.1 3 rfl) ?_
  refine lv_iload hx hb dX8_come_25 (lv_at hl.1 4 rfl) ?_
  refine lv_aload_n hx hb dX8_come_27 rfl (lv_at hl.1 0 rfl) ?_
  refine jg_S V hH 0 (by decide) kf_X8_9 rfl dX8_come_28 ?_
  refine lv_iload hx hb dX8_come_31 (lv_at hl.1 4 rfl) ?_
  obtain ⟨h24_1, hf⟩ := kif hf
  refine jald_4 V hH h24_1 dX8_come_33 ?_
  obtain ⟨h24_2, hf⟩ := kif hf
  obtain ⟨h24_3, hf⟩ := kif hf
  refine jt_astp V hH 0 rfl h24_2 h24_3 rfl dX8_come_34 (fun H locs hH => ?_)
  refine jl_iinc (v := (v4 + 1)) (lv' := [(4, .int (v4 + 1)), (0, .ref (ad 0)), (1, .int v1), (2, .int v2), (3, .ref xq7)]) hx hb dX8_come_35 hl (k := 4) rfl rfl (by decide) rfl (fun ls hl => ?_)
  refine lv_goto (tgt := 14) hx hb dX8_come_38 (by decide) ?_
  exact hk14 hG hz hH (jl_sub hl [1, 2, 3, 4, 0] rfl) hf hc hs
set_option maxHeartbeats 4000000 in
set_option maxRecDepth 100000 in
theorem w_X8_come_41 (V : jV p s mm args meth c cX8_come RX8 5 (some (.object "KingTiesLaw$Person")) D g) (hA : ∀ q, s.heap.size ≤ q → A q) {ad : Nat → Nat} {v1 : Int32} {v2 : Int32} {xq7 : Nat} {xl7 : Int32} {xf7 : Nat → Int32} {z : kS} {H : Heap} {locs : List Loc} {ls : Array Slot} {cells slots mc ms uc us : Nat} {o : (Int32 × kS)} (hG : jGc ad0 z0 ad) (hz : jLe z0 z) (hH : jH A s H locs D g ad z [] [jTp g ad xq7 xl7 xf7]) (hl : jl_has ls 5 [(0, .ref (ad 0)), (1, .int v1), (2, .int v2), (3, .ref xq7)]) (hf : F_X8_come_41 v1 v2 xl7 xf7 z = some (o, uc, us)) (hc : cells + uc = mc) (hs : slots + us = ms) : W p l e (rm_X8_come mc ms) s mm args below meth c H locs cells slots (jGq below args s D g A (jGc ad0 z0) 1 o.1 o.2 mc ms) (F0 mm 41 ls []) := by
  have hx := V.1
  have hb := V.2.1
  obtain ⟨h41_1, hf⟩ := kchk_some hf
  obtain ⟨uc41_2, us41_3, hf, e1, e2⟩ := kadd_some2 hf
  have e1 : uc = 1 + uc41_2 := e1
  have e2 : us = 9 + us41_3 := e2
  have hc : cells + 1 + uc41_2 = mc := by rw [Nat.add_assoc, ← e1]; exact hc
  have hs : slots + 9 + us41_3 = ms := by rw [Nat.add_assoc, ← e2]; exact hs
  have lc : cells + 1 ≤ mc := Nat.le.intro hc
  have ls2 : slots + 9 ≤ ms := Nat.le.intro hs
  refine jnew_P V hA hH hl.1.1 h41_1.1 (Nat.le_of_ble_eq_true rfl) (Nat.le_of_ble_eq_true rfl) (Nat.le_of_ble_eq_true rfl) lc ls2 dX8_come_41 dX8_come_44 dX8_come_45 (fun q41_4 H locs hH => ?_)
  have hG := hG.newP hz (q := q41_4)
  have hz := hz.newP h41_1.1.1
  have hr : ∀ i, jr (jup ad (4 * jN z + 1) q41_4) 1 (xf7 i) = jr ad 1 (xf7 i) := fun i => jr_no (h41_1.2 i)
  have hH : jH A s H locs D g (jup ad (4 * jN z + 1) q41_4) (jNewP z) [] [jTp g (jup ad (4 * jN z + 1) q41_4) xq7 xl7 xf7] := by simp only [jTp, jTq, hr]; exact hH
  have hl : jl_has ls 5 [(0, .ref ((jup ad (4 * jN z + 1) q41_4) 0)), (1, .int v1), (2, .int v2), (3, .ref xq7)] := by simp only [jv, jup_0_P, jr_upP2]; exact hl
  refine jl_astore (lv' := [(4, jv (jup ad (4 * jN z + 1) q41_4) 1 (nI (jN z))), (0, .ref ((jup ad (4 * jN z + 1) q41_4) 0)), (1, .int v1), (2, .int v2), (3, .ref xq7)]) hx hb dX8_come_48 hl (by decide) rfl (fun ls hl => ?_)
  refine jl_aload hx hb dX8_come_50 (lv_at hl.1 0 rfl) ?_
  refine lv_aload_n hx hb dX8_come_52 rfl (lv_at hl.1 1 rfl) ?_
  refine jg_S V hH 0 (by decide) kf_X8_9 rfl dX8_come_53 ?_
  refine jalen_4 V hH dX8_come_56 ?_
  obtain ⟨h41_5, hf⟩ := kif hf
  refine jp_P0 V hH h41_5 kf_X8_22 dX8_come_57 (fun H locs hH => ?_)
  have hz : jLe z0 (kput (jNewP z) (4 * (nI (jN z)).toNatClampNeg + 1) 0 (nI ((jNewP z) 12 0).toNatClampNeg)) := (jLe.put (p := (4 * (nI (jN z)).toNatClampNeg + 1)) hz (by omega))
  refine jl_aload hx hb dX8_come_60 (lv_at hl.1 0 rfl) ?_
  refine lv_iload_n hx hb dX8_come_62 rfl (lv_at hl.1 2 rfl) ?_
  obtain ⟨h41_6, hf⟩ := kif hf
  obtain ⟨h41_7, hf⟩ := kif hf
  refine jp_P1 V hH h41_6 (Decidable.not_not.mp h41_7) kf_X8_26 dX8_come_63 (fun H locs hH => ?_)
  have hz : jLe z0 (kput (kput (jNewP z) (4 * (nI (jN z)).toNatClampNeg + 1) 0 (nI ((jNewP z) 12 0).toNatClampNeg)) (4 * (nI (jN z)).toNatClampNeg + 1) 1 v1) := (jLe.put (p := (4 * (nI (jN z)).toNatClampNeg + 1)) hz (by omega))
  refine jl_aload hx hb dX8_come_66 (lv_at hl.1 0 rfl) ?_
  refine lv_aload_n hx hb dX8_come_68 rfl (lv_at hl.1 1 rfl) ?_
  refine jg_S V hH 2 (by decide) kf_X8_30 rfl dX8_come_69 ?_
  refine lv_iload_n hx hb dX8_come_72 rfl (lv_at hl.1 3 rfl) ?_
  refine lv_isub hx hb dX8_come_73 ?_
  obtain ⟨h41_8, hf⟩ := kif hf
  refine jp_P2 V hH h41_8 kf_X8_33 dX8_come_74 (fun H locs hH => ?_)
  have hz : jLe z0 (kput (kput (kput (jNewP z) (4 * (nI (jN z)).toNatClampNeg + 1) 0 (nI ((jNewP z) 12 0).toNatClampNeg)) (4 * (nI (jN z)).toNatClampNeg + 1) 1 v1) (4 * (nI (jN z)).toNatClampNeg + 1) 2 (((kput (kput (jNewP z) (4 * (nI (jN z)).toNatClampNeg + 1) 0 (nI ((jNewP z) 12 0).toNatClampNeg)) (4 * (nI (jN z)).toNatClampNeg + 1) 1 v1) 0 0) - v2)) := (jLe.put (p := (4 * (nI (jN z)).toNatClampNeg + 1)) hz (by omega))
  refine lv_aload_n hx hb dX8_come_77 rfl (lv_at hl.1 4 rfl) ?_
  refine lv_aload_n hx hb dX8_come_78 rfl (lv_at hl.1 1 rfl) ?_
  refine jg_S V hH 0 (by decide) kf_X8_9 rfl dX8_come_79 ?_
  refine jalen_4 V hH dX8_come_82 ?_
  refine jl_aload hx hb dX8_come_83 (lv_at hl.1 0 rfl) ?_
  obtain ⟨h41_9, hf⟩ := kif hf
  obtain ⟨h41_10, hf⟩ := kif hf
  refine jt_astp V hH 0 rfl h41_9 h41_10 rfl dX8_come_85 (fun H locs hH => ?_)
  refine lv_aload_n hx hb dX8_come_86 rfl (lv_at hl.1 1 rfl) ?_
  refine lv_aload_n hx hb dX8_come_87 rfl (lv_at hl.1 4 rfl) ?_
  refine jmv_4 V hH kf_X8_9 dX8_come_88 (fun H locs hH => ?_)
  have hz : jLe z0 (kst (kst (kput (kput (kput (jNewP z) (4 * (nI (jN z)).toNatClampNeg + 1) 0 (nI ((jNewP z) 12 0).toNatClampNeg)) (4 * (nI (jN z)).toNatClampNeg + 1) 1 v1) (4 * (nI (jN z)).toNatClampNeg + 1) 2 (((kput (kput (jNewP z) (4 * (nI (jN z)).toNatClampNeg + 1) 0 (nI ((jNewP z) 12 0).toNatClampNeg)) (4 * (nI (jN z)).toNatClampNeg + 1) 1 v1) 0 0) - v2)) 4 (upd xf7 (nI ((kput (kput (kput (jNewP z) (4 * (nI (jN z)).toNatClampNeg + 1) 0 (nI ((jNewP z) 12 0).toNatClampNeg)) (4 * (nI (jN z)).toNatClampNeg + 1) 1 v1) (4 * (nI (jN z)).toNatClampNeg + 1) 2 (((kput (kput (jNewP z) (4 * (nI (jN z)).toNatClampNeg + 1) 0 (nI ((jNewP z) 12 0).toNatClampNeg)) (4 * (nI (jN z)).toNatClampNeg + 1) 1 v1) 0 0) - v2)) 12 0).toNatClampNeg).toNatClampNeg (nI (jN z)))) 12 (upd ((kput (kput (kput (jNewP z) (4 * (nI (jN z)).toNatClampNeg + 1) 0 (nI ((jNewP z) 12 0).toNatClampNeg)) (4 * (nI (jN z)).toNatClampNeg + 1) 1 v1) (4 * (nI (jN z)).toNatClampNeg + 1) 2 (((kput (kput (jNewP z) (4 * (nI (jN z)).toNatClampNeg + 1) 0 (nI ((jNewP z) 12 0).toNatClampNeg)) (4 * (nI (jN z)).toNatClampNeg + 1) 1 v1) 0 0) - v2)) 12) 0 xl7)) := (jLe.put (p := 12) (jLe.put (p := 4) hz (by decide)) (by decide))
  have hG := hG.up4 (q := xq7)
  have hl : jl_has ls 5 [(4, jv (jup (jup ad (4 * jN z + 1) q41_4) 4 xq7) 1 (nI (jN z))), (0, .ref ((jup (jup ad (4 * jN z + 1) q41_4) 4 xq7) 0)), (1, .int v1), (2, .int v2), (3, .ref xq7)] := by simp only [jv, jr_up4a, jr_up4b, jup_0_4]; exact hl
  refine jl_aload hx hb dX8_come_91 (lv_at hl.1 0 rfl) ?_
  cases hf
  subst hc
  subst hs
  exact je_qret V hG hH dX8_come_93
set_option maxHeartbeats 4000000 in
set_option maxRecDepth 100000 in
theorem w_X8_come_14 (V : jV p s mm args meth c cX8_come RX8 5 (some (.object "KingTiesLaw$Person")) D g) (hA : ∀ q, s.heap.size ≤ q → A q) : ∀ (n : Nat) {ad : Nat → Nat} {v1 : Int32} {v2 : Int32} {v4 : Int32} {xq7 : Nat} {xl7 : Int32} {xf7 : Nat → Int32} {z : kS} {H : Heap} {locs : List Loc} {ls : Array Slot} {cells slots mc ms uc us : Nat} {o : (Int32 × kS)}, jGc ad0 z0 ad → jLe z0 z → jH A s H locs D g ad z [] [jTp g ad xq7 xl7 xf7] → jl_has ls 5 [(0, .ref (ad 0)), (1, .int v1), (2, .int v2), (3, .ref xq7), (4, .int v4)] → F_X8_come_14 n v1 v2 v4 xl7 xf7 z = some (o, uc, us) → cells + uc = mc → slots + us = ms → W p l e (rm_X8_come mc ms) s mm args below meth c H locs cells slots (jGq below args s D g A (jGc ad0 z0) 1 o.1 o.2 mc ms) (F0 mm 14 ls []) := by
  have hx := V.1
  have hb := V.2.1
  intro n
  induction n with
  | zero => intro _ _ _ _ _ _ _ _ _ _ _ _ _ _ _ _ _ _ hG hz hH hl hf hc hs; cases hf
  | succ n hk14 =>
    intro ad v1 v2 v4 xq7 xl7 xf7 z H locs ls cells slots mc ms uc us o hG hz hH hl hf hc hs
    refine lv_iload hx hb dX8_come_14 (lv_at hl.1 4 rfl) ?_
    refine lv_aload_n hx hb dX8_come_16 rfl (lv_at hl.1 0 rfl) ?_
    refine jg_S V hH 0 (by decide) kf_X8_9 rfl dX8_come_17 ?_
    refine jalen_4 V hH dX8_come_20 ?_
    refine lv_icmp_ge (tgt := 41) hx hb dX8_come_21 (by decide) (fun hq => ?_) (fun hq => ?_)
    · have hf := kpos hq hf
      exact w_X8_come_41 V hA hG hz hH (jl_sub hl [0, 1, 2, 3] rfl) hf hc hs
    · have hf := kneg hq hf
      exact w_X8_come_24 V hA hk14 hG hz hH (jl_sub hl [0, 1, 2, 3, 4] rfl) hf hc hs
set_option maxHeartbeats 4000000 in
set_option maxRecDepth 100000 in
theorem w_X8_come_0 (V : jV p s mm args meth c cX8_come RX8 5 (some (.object "KingTiesLaw$Person")) D g) (hA : ∀ q, s.heap.size ≤ q → A q) {ad : Nat → Nat} {v1 : Int32} {v2 : Int32} {z : kS} {H : Heap} {locs : List Loc} {ls : Array Slot} {cells slots mc ms uc us : Nat} {o : (Int32 × kS)} (hG : jGc ad0 z0 ad) (hz : jLe z0 z) (hH : jH A s H locs D g ad z [] []) (hl : jl_has ls 5 [(0, .ref (ad 0)), (1, .int v1), (2, .int v2)]) (hf : F_X8_come_0 v1 v2 z = some (o, uc, us)) (hc : cells + uc = mc) (hs : slots + us = ms) : W p l e (rm_X8_come mc ms) s mm args below meth c H locs cells slots (jGq below args s D g A (jGc ad0 z0) 1 o.1 o.2 mc ms) (F0 mm 0 ls []) := by
  have hx := V.1
  have hb := V.2.1
  refine lv_aload_n hx hb dX8_come_0 rfl (lv_at hl.1 0 rfl) ?_
  refine jg_S V hH 0 (by decide) kf_X8_9 rfl dX8_come_1 ?_
  refine jalen_4 V hH dX8_come_4 ?_
  refine lv_iconst (v := 1) hx hb dX8_come_5 (by decide) ?_
  refine lv_iadd hx hb dX8_come_6 ?_
  obtain ⟨h0_1, hf⟩ := kif hf
  obtain ⟨uc0_2, us0_3, hf, e1, e2⟩ := kadd_some2 hf
  have e1 : uc = 1 + uc0_2 := e1
  have e2 : us = ((nI (z 12 0).toNatClampNeg) + 1).toNatClampNeg + us0_3 := e2
  have hc : cells + 1 + uc0_2 = mc := by rw [Nat.add_assoc, ← e1]; exact hc
  have hs : slots + ((nI (z 12 0).toNatClampNeg) + 1).toNatClampNeg + us0_3 = ms := by rw [Nat.add_assoc, ← e2]; exact hs
  have lc : cells + 1 ≤ mc := Nat.le.intro hc
  have ls2 : slots + ((nI (z 12 0).toNatClampNeg) + 1).toNatClampNeg ≤ ms := Nat.le.intro hs
  refine jt_newp V hA hH (fun q => h0_1 (Or.inl q)) (Nat.not_lt.mp fun q => h0_1 (Or.inr q)) kc_X8_7 lc ls2 dX8_come_7 (fun xq7 H hH => ?_)
  refine jl_astore_n (o := some xq7) (lv' := [(3, .ref xq7), (0, .ref (ad 0)), (1, .int v1), (2, .int v2)]) hx hb dX8_come_10 rfl hl (by decide) rfl (fun ls hl => ?_)
  refine lv_iconst (v := 0) hx hb dX8_come_11 (by decide) ?_
  refine jl_istore (lv' := [(4, .int 0), (3, .ref xq7), (0, .ref (ad 0)), (1, .int v1), (2, .int v2)]) hx hb dX8_come_12 hl (by decide) rfl (fun ls hl => ?_)
  exact w_X8_come_14 V hA kN hG hz hH (jl_sub hl [2, 3, 4, 1, 0] rfl) hf hc hs
set_option maxHeartbeats 4000000 in
set_option maxRecDepth 100000 in
theorem c_X8_come (l : Launch) {D : va_G} {g : Nat → ClassId} {ad : Nat → Nat} {z : kS} (v1 : Int32) (v2 : Int32) {o : (Int32 × kS)} {mc ms : Nat} (hf : F_X8_come v1 v2 z = some (o, mc, ms)) (sz : Nat) : Met l yX8_come (Cond.code yX8_come cX8_come 5 (some (.object "KingTiesLaw$Person")) :: kWA) (rm_X8_come mc ms) (jP [.ref (ad 0), .int v1, .int v2] D g ad z sz) (jQq 1 o.1 (jGc ad z) D g (va_A (jC g ad z) sz) o.2) mc ms (va_A (jC g ad z) sz) := by
  refine j_met (as := [.ref (ad 0), .int v1, .int v2]) (bytes := cX8_come) (maxL := 5) (rt := (some (.object "KingTiesLaw$Person"))) (lv := [(0, .ref (ad 0)), (1, .int v1), (2, .int v2)]) (by decide +kernel) (by simp [lg_sl, jcatv, jcati, jcatr]) (by simp [lv_args, jcatv, jcati, jcatr]) (by simp [jcatv, jcati, jcatr]) (fun p e s mm below meth c ls hsz V hA hH hl => ?_)
  exact w_X8_come_0 V hA jGc.rf jLe.rf hH (jl_sub hl [0, 1, 2] rfl) hf (Nat.zero_add _) (Nat.zero_add _)
end
section
variable {p : Program} {l : Launch} {e : Env} {s : State} {mm : MethodId} {args : Array Value} {below : List Frame} {meth : Method} {c : Code} {D : va_G} {g : Nat → ClassId} {A : Nat → Prop}
variable {ad0 : Nat → Nat} {z0 : kS}
abbrev rm_X8_bear (mc ms : Nat) : Room := { frames := 3, cells := mc, slots := ms, locals := 84 }
set_option maxHeartbeats 4000000 in
set_option maxRecDepth 100000 in
theorem w_X8_bear_0 (V : jV p s mm args meth c cX8_bear RX8 4 none D g) (hA : ∀ q, s.heap.size ≤ q → A q) {ad : Nat → Nat} {v1 : Int32} {v2 : Int32} {z : kS} {H : Heap} {locs : List Loc} {ls : Array Slot} {cells slots mc ms uc us : Nat} {o : kS} (hG : jGc ad0 z0 ad) (hz : jLe z0 z) (hH : jH A s H locs D g ad z [] []) (hl : jl_has ls 4 [(0, .ref (ad 0)), (1, jv ad 1 v1), (2, .int v2)]) (hf : F_X8_bear_0 v1 v2 z = some (o, uc, us)) (hc : cells + uc = mc) (hs : slots + us = ms) : W p l e (rm_X8_bear mc ms) s mm args below meth c H locs cells slots (jGv below args s D g A (jGc ad0 z0) o mc ms) (F0 mm 0 ls []) := by
  have hx := V.1
  have hb := V.2.1
  refine lv_aload_n hx hb dX8_bear_0 rfl (lv_at hl.1 0 rfl) ?_
  refine lv_iload_n hx hb dX8_bear_1 rfl (lv_at hl.1 2 rfl) ?_
  refine lv_iconst (v := 0) hx hb dX8_bear_2 (by decide) ?_
  have hl := jl_sub hl [1] (lv' := [(1, jv ad 1 v1)]) rfl
  obtain ⟨h0_1, hf⟩ := kif hf
  obtain ⟨x0_2, hx0_2, hf⟩ := kbind hf
  obtain ⟨uc0_3, us0_4, hf, e1, e2⟩ := kadd_some2 hf
  have e1 : uc = x0_2.2.1 + uc0_3 := e1
  have e2 : us = x0_2.2.2 + us0_4 := e2
  have hc : cells + x0_2.2.1 + uc0_3 = mc := by rw [Nat.add_assoc, ← e1]; exact hc
  have hs : slots + x0_2.2.2 + us0_4 = ms := by rw [Nat.add_assoc, ← e2]; exact hs
  have lc : cells + x0_2.2.1 ≤ mc := Nat.le.intro hc
  have ls2 : slots + x0_2.2.2 ≤ ms := Nat.le.intro hs
  refine jr_callq hA hH (jr_runV (as := [.int v2, .int 0]) (rest := []) V hH kYX8_come kl_X8_36 (c_X8_come l _ _ hx0_2 _) rfl rfl ⟨Nat.le_of_ble_eq_true rfl, Nat.le_of_ble_eq_true rfl⟩ rfl hl.1.1 (Nat.le_of_ble_eq_true rfl) dX8_bear_3 ⟨lc, ls2⟩ rfl) (fun ad0_1 H locs hm hH => ?_)
  have hG := hG.tr hz hm
  have hl : jl_has ls 4 [(1, jv ad0_1 1 v1)] := by simp only [jv, hm.p0, hm.r1 h0_1]; exact hl
  refine jl_astore_n (lv' := [(3, jv ad0_1 1 x0_2.1.1), (1, jv ad0_1 1 v1)]) hx hb dX8_bear_6 rfl hl (by decide) rfl (fun ls hl => ?_)
  refine jl_aload_n hx hb dX8_bear_7 rfl (lv_at hl.1 0 rfl) ?_
  refine jl_aload_n hx hb dX8_bear_8 rfl (lv_at hl.1 1 rfl) ?_
  obtain ⟨h0_5, hf⟩ := kif hf
  refine jp_P4 V hH h0_5 kf_X8_40 dX8_bear_9 (fun H locs hH => ?_)
  refine jl_aload_n hx hb dX8_bear_12 rfl (lv_at hl.1 0 rfl) ?_
  refine jl_aload_n hx hb dX8_bear_13 rfl (lv_at hl.1 1 rfl) ?_
  obtain ⟨h0_6, hf⟩ := kif hf
  refine jg_P V hH h0_6 6 (by decide) kf_X8_44 rfl dX8_bear_14 ?_
  obtain ⟨h0_7, hf⟩ := kif hf
  refine jp_P5 V hH h0_7 kf_X8_47 dX8_bear_17 (fun H locs hH => ?_)
  cases hf
  subst hc
  subst hs
  exact je_vret V hG hH dX8_bear_20
set_option maxHeartbeats 4000000 in
set_option maxRecDepth 100000 in
theorem c_X8_bear (l : Launch) {D : va_G} {g : Nat → ClassId} {ad : Nat → Nat} {z : kS} (v1 : Int32) (v2 : Int32) {o : kS} {mc ms : Nat} (hf : F_X8_bear v1 v2 z = some (o, mc, ms)) (sz : Nat) : Met l yX8_bear (Cond.code yX8_bear cX8_bear 4 none :: kWA) (rm_X8_bear mc ms) (jP [.ref (ad 0), jv ad 1 v1, .int v2] D g ad z sz) (jQv (jGc ad z) D g (va_A (jC g ad z) sz) o) mc ms (va_A (jC g ad z) sz) := by
  refine j_met (as := [.ref (ad 0), jv ad 1 v1, .int v2]) (bytes := cX8_bear) (maxL := 4) (rt := none) (lv := [(0, .ref (ad 0)), (1, jv ad 1 v1), (2, .int v2)]) (by decide +kernel) (by simp [lg_sl, jcatv, jcati, jcatr]) (by simp [lv_args, jcatv, jcati, jcatr]) (by simp [jcatv, jcati, jcatr]) (fun p e s mm below meth c ls hsz V hA hH hl => ?_)
  exact w_X8_bear_0 V hA jGc.rf jLe.rf hH (jl_sub hl [0, 1, 2] rfl) hf (Nat.zero_add _) (Nat.zero_add _)
end
section
variable {p : Program} {l : Launch} {e : Env} {s : State} {mm : MethodId} {args : Array Value} {below : List Frame} {meth : Method} {c : Code} {D : va_G} {g : Nat → ClassId} {A : Nat → Prop}
variable {ad0 : Nat → Nat} {z0 : kS}
abbrev rm_X8_found (mc ms : Nat) : Room := { frames := 2, cells := mc, slots := ms, locals := 60 }
set_option maxHeartbeats 4000000 in
set_option maxRecDepth 100000 in
theorem w_X8_found_25 (V : jV p s mm args meth c cX8_found RX8 6 none D g) (hA : ∀ q, s.heap.size ≤ q → A q) {c15 : Int32 → Int32 → Int32 → Int32 → Int32 → (Nat → Int32) → kS → Option (kS × Nat × Nat)} (hk15 : ∀ {ad : Nat → Nat} {v1 : Int32} {v2 : Int32} {v3 : Int32} {v5 : Int32} {xq7 : Nat} {xl7 : Int32} {xf7 : Nat → Int32} {z : kS} {H : Heap} {locs : List Loc} {ls : Array Slot} {cells slots mc ms uc us : Nat} {o : kS}, jGc ad0 z0 ad → jLe z0 z → jH A s H locs D g ad z [] [jTq g ad xq7 xl7 xf7] → jl_has ls 6 [(0, .ref (ad 0)), (1, .int v1), (2, .int v2), (3, jv ad 1 v3), (4, .ref xq7), (5, .int v5)] → c15 v1 v2 v3 v5 xl7 xf7 z = some (o, uc, us) → cells + uc = mc → slots + us = ms → W p l e (rm_X8_found mc ms) s mm args below meth c H locs cells slots (jGv below args s D g A (jGc ad0 z0) o mc ms) (F0 mm 15 ls [])) {ad : Nat → Nat} {v1 : Int32} {v2 : Int32} {v3 : Int32} {v5 : Int32} {xq7 : Nat} {xl7 : Int32} {xf7 : Nat → Int32} {z : kS} {H : Heap} {locs : List Loc} {ls : Array Slot} {cells slots mc ms uc us : Nat} {o : kS} (hG : jGc ad0 z0 ad) (hz : jLe z0 z) (hH : jH A s H locs D g ad z [] [jTq g ad xq7 xl7 xf7]) (hl : jl_has ls 6 [(0, .ref (ad 0)), (1, .int v1), (2, .int v2), (3, jv ad 1 v3), (4, .ref xq7), (5, .int v5)]) (hf : F_X8_found_25 c15 v1 v2 v3 v5 xl7 xf7 z = some (o, uc, us)) (hc : cells + uc = mc) (hs : slots + us = ms) : W p l e (rm_X8_found mc ms) s mm args below meth c H locs cells slots (jGv below args s D g A (jGc ad0 z0) o mc ms) (F0 mm 25 ls []) := by
  have hx := V.1
  have hb := V.2.1
  refine lv_aload hx hb dX8_found_25 (lv_at hl.1 4 rfl) ?_
  refine lv_iload hx hb dX8_found_27 (lv_at hl.1 5 rfl) ?_
  refine lv_aload_n hx hb dX8_found_29 rfl (lv_at hl.1 0 rfl) ?_
  refine jg_S V hH 1 (by decide) kf_X8_17 rfl dX8_found_30 ?_
  refine lv_iload hx hb dX8_found_33 (lv_at hl.1 5 rfl) ?_
  obtain ⟨h25_1, hf⟩ := kif hf
  refine jald_8 V hH h25_1 dX8_found_35 ?_
  obtain ⟨h25_2, hf⟩ := kif hf
  obtain ⟨h25_3, hf⟩ := kif hf
  refine jt_astq V hH 0 rfl h25_2 h25_3 rfl dX8_found_36 (fun H locs hH => ?_)
  refine jl_iinc (v := (v5 + 1)) (lv' := [(5, .int (v5 + 1)), (0, .ref (ad 0)), (1, .int v1), (2, .int v2), (3, jv ad 1 v3), (4, .ref xq7)]) hx hb dX8_found_37 hl (k := 5) rfl rfl (by decide) rfl (fun ls hl => ?_)
  refine lv_goto (tgt := 15) hx hb dX8_found_40 (by decide) ?_
  exact hk15 hG hz hH (jl_sub hl [1, 2, 3, 4, 5, 0] rfl) hf hc hs
set_option maxHeartbeats 4000000 in
set_option maxRecDepth 100000 in
theorem w_X8_found_43 (V : jV p s mm args meth c cX8_found RX8 6 none D g) (hA : ∀ q, s.heap.size ≤ q → A q) {ad : Nat → Nat} {v1 : Int32} {v2 : Int32} {v3 : Int32} {xq7 : Nat} {xl7 : Int32} {xf7 : Nat → Int32} {z : kS} {H : Heap} {locs : List Loc} {ls : Array Slot} {cells slots mc ms uc us : Nat} {o : kS} (hG : jGc ad0 z0 ad) (hz : jLe z0 z) (hH : jH A s H locs D g ad z [] [jTq g ad xq7 xl7 xf7]) (hl : jl_has ls 6 [(0, .ref (ad 0)), (1, .int v1), (2, .int v2), (3, jv ad 1 v3), (4, .ref xq7)]) (hf : F_X8_found_43 v1 v2 v3 xl7 xf7 z = some (o, uc, us)) (hc : cells + uc = mc) (hs : slots + us = ms) : W p l e (rm_X8_found mc ms) s mm args below meth c H locs cells slots (jGv below args s D g A (jGc ad0 z0) o mc ms) (F0 mm 43 ls []) := by
  have hx := V.1
  have hb := V.2.1
  obtain ⟨h43_1, hf⟩ := kchk_some hf
  obtain ⟨uc43_2, us43_3, hf, e1, e2⟩ := kadd_some2 hf
  have e1 : uc = 2 + uc43_2 := e1
  have e2 : us = 4 + us43_3 := e2
  have hc : cells + 2 + uc43_2 = mc := by rw [Nat.add_assoc, ← e1]; exact hc
  have hs : slots + 4 + us43_3 = ms := by rw [Nat.add_assoc, ← e2]; exact hs
  have lc : cells + 2 ≤ mc := Nat.le.intro hc
  have ls2 : slots + 4 ≤ ms := Nat.le.intro hs
  refine jnew_L V hA hH hl.1.1 h43_1.1 (Nat.le_of_ble_eq_true rfl) (Nat.le_of_ble_eq_true rfl) (Nat.le_of_ble_eq_true rfl) lc ls2 dX8_found_43 dX8_found_46 dX8_found_47 (fun q43_4 q43_5 H locs hH => ?_)
  have hG := hG.newL hz (q := q43_4) (q2 := q43_5)
  have hz := hz.newL h43_1.1.1
  have hr : ∀ i, jr (jup (jup ad (4 * jM z + 2) q43_4) (4 * jM z + 3) q43_5) 2 (xf7 i) = jr ad 2 (xf7 i) := fun i => by rw [jr_upH2]; exact jr_no (h43_1.2 i)
  have hH : jH A s H locs D g (jup (jup ad (4 * jM z + 2) q43_4) (4 * jM z + 3) q43_5) (jNewL z) [] [jTq g (jup (jup ad (4 * jM z + 2) q43_4) (4 * jM z + 3) q43_5) xq7 xl7 xf7] := by simp only [jTp, jTq, hr]; exact hH
  have hl : jl_has ls 6 [(0, .ref ((jup (jup ad (4 * jM z + 2) q43_4) (4 * jM z + 3) q43_5) 0)), (1, .int v1), (2, .int v2), (3, jv (jup (jup ad (4 * jM z + 2) q43_4) (4 * jM z + 3) q43_5) 1 v3), (4, .ref xq7)] := by simp only [jv, jup_0_H, jup_0_L, jr_upH1, jr_upL1]; exact hl
  refine jl_astore (lv' := [(5, jv (jup (jup ad (4 * jM z + 2) q43_4) (4 * jM z + 3) q43_5) 2 (nI (jM z))), (0, .ref ((jup (jup ad (4 * jM z + 2) q43_4) (4 * jM z + 3) q43_5) 0)), (1, .int v1), (2, .int v2), (3, jv (jup (jup ad (4 * jM z + 2) q43_4) (4 * jM z + 3) q43_5) 1 v3), (4, .ref xq7)]) hx hb dX8_found_50 hl (by decide) rfl (fun ls hl => ?_)
  refine jl_aload hx hb dX8_found_52 (lv_at hl.1 0 rfl) ?_
  refine lv_iload_n hx hb dX8_found_54 rfl (lv_at hl.1 2 rfl) ?_
  obtain ⟨h43_6, hf⟩ := kif hf
  refine jp_L0 V hH h43_6 kf_X8_57 dX8_found_55 (fun H locs hH => ?_)
  have hz : jLe z0 (kput (jNewL z) (4 * (nI (jM z)).toNatClampNeg + 2) 0 v1) := (jLe.put (p := (4 * (nI (jM z)).toNatClampNeg + 2)) hz (by omega))
  refine jl_aload hx hb dX8_found_58 (lv_at hl.1 0 rfl) ?_
  refine lv_iload_n hx hb dX8_found_60 rfl (lv_at hl.1 3 rfl) ?_
  obtain ⟨h43_7, hf⟩ := kif hf
  refine jp_L1 V hH h43_7 kf_X8_60 dX8_found_61 (fun H locs hH => ?_)
  have hz : jLe z0 (kput (kput (jNewL z) (4 * (nI (jM z)).toNatClampNeg + 2) 0 v1) (4 * (nI (jM z)).toNatClampNeg + 2) 1 v2) := (jLe.put (p := (4 * (nI (jM z)).toNatClampNeg + 2)) hz (by omega))
  refine lv_aload hx hb dX8_found_64 (lv_at hl.1 5 rfl) ?_
  refine lv_aload_n hx hb dX8_found_66 rfl (lv_at hl.1 1 rfl) ?_
  refine jg_S V hH 1 (by decide) kf_X8_17 rfl dX8_found_67 ?_
  refine jalen_8 V hH dX8_found_70 ?_
  refine jl_aload hx hb dX8_found_71 (lv_at hl.1 0 rfl) ?_
  obtain ⟨h43_8, hf⟩ := kif hf
  obtain ⟨h43_9, hf⟩ := kif hf
  refine jt_astq V hH 0 rfl h43_8 h43_9 rfl dX8_found_73 (fun H locs hH => ?_)
  refine lv_aload_n hx hb dX8_found_74 rfl (lv_at hl.1 1 rfl) ?_
  refine lv_aload hx hb dX8_found_75 (lv_at hl.1 5 rfl) ?_
  refine jmv_8 V hH kf_X8_17 dX8_found_77 (fun H locs hH => ?_)
  have hz : jLe z0 (kst (kst (kput (kput (jNewL z) (4 * (nI (jM z)).toNatClampNeg + 2) 0 v1) (4 * (nI (jM z)).toNatClampNeg + 2) 1 v2) 8 (upd xf7 (nI ((kput (kput (jNewL z) (4 * (nI (jM z)).toNatClampNeg + 2) 0 v1) (4 * (nI (jM z)).toNatClampNeg + 2) 1 v2) 12 1).toNatClampNeg).toNatClampNeg (nI (jM z)))) 12 (upd ((kput (kput (jNewL z) (4 * (nI (jM z)).toNatClampNeg + 2) 0 v1) (4 * (nI (jM z)).toNatClampNeg + 2) 1 v2) 12) 1 xl7)) := (jLe.put (p := 12) (jLe.put (p := 8) hz (by decide)) (by decide))
  have hG := hG.up8 (q := xq7)
  have hl : jl_has ls 6 [(5, jv (jup (jup (jup ad (4 * jM z + 2) q43_4) (4 * jM z + 3) q43_5) 8 xq7) 2 (nI (jM z))), (0, .ref ((jup (jup (jup ad (4 * jM z + 2) q43_4) (4 * jM z + 3) q43_5) 8 xq7) 0)), (1, .int v1), (2, .int v2), (3, jv (jup (jup (jup ad (4 * jM z + 2) q43_4) (4 * jM z + 3) q43_5) 8 xq7) 1 v3), (4, .ref xq7)] := by simp only [jv, jr_up8a, jr_up8b, jup_0_8]; exact hl
  refine lv_aload_n hx hb dX8_found_80 rfl (lv_at hl.1 1 rfl) ?_
  refine jl_aload hx hb dX8_found_81 (lv_at hl.1 0 rfl) ?_
  refine jl_aload_n hx hb dX8_found_83 rfl (lv_at hl.1 4 rfl) ?_
  obtain ⟨x43_10, hx43_10, hf⟩ := kbind hf
  obtain ⟨uc43_11, us43_12, hf, e1, e2⟩ := kadd_some2 hf
  have e1 : uc43_2 = x43_10.2.1 + uc43_11 := e1
  have e2 : us43_3 = x43_10.2.2 + us43_12 := e2
  have hc : cells + 2 + x43_10.2.1 + uc43_11 = mc := by rw [Nat.add_assoc, ← e1]; exact hc
  have hs : slots + 4 + x43_10.2.2 + us43_12 = ms := by rw [Nat.add_assoc, ← e2]; exact hs
  have lc : cells + 2 + x43_10.2.1 ≤ mc := Nat.le.intro hc
  have ls2 : slots + 4 + x43_10.2.2 ≤ ms := Nat.le.intro hs
  refine jr_callv hA hH (jr_runV (as := [jv (jup (jup (jup ad (4 * jM z + 2) q43_4) (4 * jM z + 3) q43_5) 8 xq7) 2 (nI (jM z)), jv (jup (jup (jup ad (4 * jM z + 2) q43_4) (4 * jM z + 3) q43_5) 8 xq7) 1 v3]) (rest := []) V hH kYX8_rule kl_X8_63 (c_X8_rule l _ _ hx43_10 _) rfl rfl ⟨Nat.le_of_ble_eq_true rfl, Nat.le_of_ble_eq_true rfl⟩ rfl hl.1.1 (Nat.le_of_ble_eq_true rfl) dX8_found_84 ⟨lc, ls2⟩ rfl) (fun ad43_1 H locs hm hH => ?_)
  have hG := hG.h3 hm
  have hl : jl_has ls 6 [(5, jv ad43_1 2 (nI (jM z))), (0, .ref (ad43_1 0)), (1, .int v1), (2, .int v2), (3, jv ad43_1 1 v3), (4, .ref xq7)] := by simp only [jv, hm.r1, hm.r2, hm 0 (by decide), hm 4 (by decide), hm 8 (by decide)]; exact hl
  cases hf
  subst hc
  subst hs
  exact je_vret V hG hH dX8_found_87
set_option maxHeartbeats 4000000 in
set_option maxRecDepth 100000 in
theorem w_X8_found_15 (V : jV p s mm args meth c cX8_found RX8 6 none D g) (hA : ∀ q, s.heap.size ≤ q → A q) : ∀ (n : Nat) {ad : Nat → Nat} {v1 : Int32} {v2 : Int32} {v3 : Int32} {v5 : Int32} {xq7 : Nat} {xl7 : Int32} {xf7 : Nat → Int32} {z : kS} {H : Heap} {locs : List Loc} {ls : Array Slot} {cells slots mc ms uc us : Nat} {o : kS}, jGc ad0 z0 ad → jLe z0 z → jH A s H locs D g ad z [] [jTq g ad xq7 xl7 xf7] → jl_has ls 6 [(0, .ref (ad 0)), (1, .int v1), (2, .int v2), (3, jv ad 1 v3), (4, .ref xq7), (5, .int v5)] → F_X8_found_15 n v1 v2 v3 v5 xl7 xf7 z = some (o, uc, us) → cells + uc = mc → slots + us = ms → W p l e (rm_X8_found mc ms) s mm args below meth c H locs cells slots (jGv below args s D g A (jGc ad0 z0) o mc ms) (F0 mm 15 ls []) := by
  have hx := V.1
  have hb := V.2.1
  intro n
  induction n with
  | zero => intro _ _ _ _ _ _ _ _ _ _ _ _ _ _ _ _ _ _ _ hG hz hH hl hf hc hs; cases hf
  | succ n hk15 =>
    intro ad v1 v2 v3 v5 xq7 xl7 xf7 z H locs ls cells slots mc ms uc us o hG hz hH hl hf hc hs
    refine lv_iload hx hb dX8_found_15 (lv_at hl.1 5 rfl) ?_
    refine lv_aload_n hx hb dX8_found_17 rfl (lv_at hl.1 0 rfl) ?_
    refine jg_S V hH 1 (by decide) kf_X8_17 rfl dX8_found_18 ?_
    refine jalen_8 V hH dX8_found_21 ?_
    refine lv_icmp_ge (tgt := 43) hx hb dX8_found_22 (by decide) (fun hq => ?_) (fun hq => ?_)
    · have hf := kpos hq hf
      exact w_X8_found_43 V hA hG hz hH (jl_sub hl [0, 1, 2, 3, 4] rfl) hf hc hs
    · have hf := kneg hq hf
      exact w_X8_found_25 V hA hk15 hG hz hH (jl_sub hl [0, 1, 2, 3, 4, 5] rfl) hf hc hs
set_option maxHeartbeats 4000000 in
set_option maxRecDepth 100000 in
theorem w_X8_found_0 (V : jV p s mm args meth c cX8_found RX8 6 none D g) (hA : ∀ q, s.heap.size ≤ q → A q) {ad : Nat → Nat} {v1 : Int32} {v2 : Int32} {v3 : Int32} {z : kS} {H : Heap} {locs : List Loc} {ls : Array Slot} {cells slots mc ms uc us : Nat} {o : kS} (hG : jGc ad0 z0 ad) (hz : jLe z0 z) (hH : jH A s H locs D g ad z [] []) (hl : jl_has ls 6 [(0, .ref (ad 0)), (1, .int v1), (2, .int v2), (3, jv ad 1 v3)]) (hf : F_X8_found_0 v1 v2 v3 z = some (o, uc, us)) (hc : cells + uc = mc) (hs : slots + us = ms) : W p l e (rm_X8_found mc ms) s mm args below meth c H locs cells slots (jGv below args s D g A (jGc ad0 z0) o mc ms) (F0 mm 0 ls []) := by
  have hx := V.1
  have hb := V.2.1
  refine lv_aload_n hx hb dX8_found_0 rfl (lv_at hl.1 0 rfl) ?_
  refine jg_S V hH 1 (by decide) kf_X8_17 rfl dX8_found_1 ?_
  refine jalen_8 V hH dX8_found_4 ?_
  refine lv_iconst (v := 1) hx hb dX8_found_5 (by decide) ?_
  refine lv_iadd hx hb dX8_found_6 ?_
  obtain ⟨h0_1, hf⟩ := kif hf
  obtain ⟨uc0_2, us0_3, hf, e1, e2⟩ := kadd_some2 hf
  have e1 : uc = 1 + uc0_2 := e1
  have e2 : us = ((nI (z 12 1).toNatClampNeg) + 1).toNatClampNeg + us0_3 := e2
  have hc : cells + 1 + uc0_2 = mc := by rw [Nat.add_assoc, ← e1]; exact hc
  have hs : slots + ((nI (z 12 1).toNatClampNeg) + 1).toNatClampNeg + us0_3 = ms := by rw [Nat.add_assoc, ← e2]; exact hs
  have lc : cells + 1 ≤ mc := Nat.le.intro hc
  have ls2 : slots + ((nI (z 12 1).toNatClampNeg) + 1).toNatClampNeg ≤ ms := Nat.le.intro hs
  refine jt_newq V hA hH (fun q => h0_1 (Or.inl q)) (Nat.not_lt.mp fun q => h0_1 (Or.inr q)) kc_X8_15 lc ls2 dX8_found_7 (fun xq7 H hH => ?_)
  refine jl_astore (o := some xq7) (lv' := [(4, .ref xq7), (0, .ref (ad 0)), (1, .int v1), (2, .int v2), (3, jv ad 1 v3)]) hx hb dX8_found_10 hl (by decide) rfl (fun ls hl => ?_)
  refine lv_iconst (v := 0) hx hb dX8_found_12 (by decide) ?_
  refine jl_istore (lv' := [(5, .int 0), (4, .ref xq7), (0, .ref (ad 0)), (1, .int v1), (2, .int v2), (3, jv ad 1 v3)]) hx hb dX8_found_13 hl (by decide) rfl (fun ls hl => ?_)
  exact w_X8_found_15 V hA kN hG hz hH (jl_sub hl [2, 3, 4, 5, 1, 0] rfl) hf hc hs
set_option maxHeartbeats 4000000 in
set_option maxRecDepth 100000 in
theorem c_X8_found (l : Launch) {D : va_G} {g : Nat → ClassId} {ad : Nat → Nat} {z : kS} (v1 : Int32) (v2 : Int32) (v3 : Int32) {o : kS} {mc ms : Nat} (hf : F_X8_found v1 v2 v3 z = some (o, mc, ms)) (sz : Nat) : Met l yX8_found (Cond.code yX8_found cX8_found 6 none :: kWA) (rm_X8_found mc ms) (jP [.ref (ad 0), .int v1, .int v2, jv ad 1 v3] D g ad z sz) (jQv (jGc ad z) D g (va_A (jC g ad z) sz) o) mc ms (va_A (jC g ad z) sz) := by
  refine j_met (as := [.ref (ad 0), .int v1, .int v2, jv ad 1 v3]) (bytes := cX8_found) (maxL := 6) (rt := none) (lv := [(0, .ref (ad 0)), (1, .int v1), (2, .int v2), (3, jv ad 1 v3)]) (by decide +kernel) (by simp [lg_sl, jcatv, jcati, jcatr]) (by simp [lv_args, jcatv, jcati, jcatr]) (by simp [jcatv, jcati, jcatr]) (fun p e s mm below meth c ls hsz V hA hH hl => ?_)
  exact w_X8_found_0 V hA jGc.rf jLe.rf hH (jl_sub hl [0, 1, 2, 3] rfl) hf (Nat.zero_add _) (Nat.zero_add _)
end
