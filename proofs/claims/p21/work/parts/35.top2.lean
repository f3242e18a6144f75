/-! THE CALLS, on both sides: ruled, best, setLaw, annul, die, pass -/
section ZV
variable {n p q a b c d e j x r L w l y Y : Nat} {k k1 k0 m m1 m' : kS} {v t v1 v2 v3 : Int32} {B P : Nat}
theorem pz_nz : ((0 : Nat) = 0) = True := eq_true rfl
theorem pz_n3 : ((3 : Nat) = 0) = False := eq_false (by decide)
theorem pz_n1 : ((1 : Nat) = 0) = False := eq_false (by decide)
theorem pz_n2 : ((2 : Nat) = 0) = False := eq_false (by decide)
theorem pz_min15 {h : Nat} (hh : h < 2 ^ 31) : (if nI h < 15 then nI h else 15) = nI (min h 15) := by
  by_cases g : h < 15
  · have g' : nI h < 15 := (nI_ltI (b := 15) hh (by decide)).mpr g
    rw [if_pos g', show min h 15 = h by omega]
  · have g' : ¬ nI h < 15 := fun q => g ((nI_ltI (b := 15) hh (by decide)).mp q)
    rw [if_neg g', show min h 15 = 15 by omega]
    rfl
theorem ke_x {hf : Nat → Nat} (hX : zXl L hf k m) (hL : L ≤ 12) (hl : l < L) (hb : hf l < 2 ^ 31) : ∃ h, k 21 l = nI (min h 15) ∧ F_X6_kept m (nI l) = some (nI (min h 15)) ∧ ∀ i, i < min h 15 → m 10 (15 * l + i) = k (45 + l) i := by
  obtain ⟨x1, x2, h, x3, x4, x5, x6, x7⟩ := hX.1 l hl
  refine ⟨h, x6, ?_, x7⟩
  simp only [F_X6_kept_0, F_X6_kept, la_3 (show l < 12 by omega), pz_bind, x5, pz_min15 (show h < 2 ^ 31 by omega)]
theorem zM_ruled (hA : zAll c k m) (hc : c ≤ 600) : ∃ code r b m', F_X5_ruled k v1 v2 = some (code, r) ∧ F_X6_ruled v1 v2 m = some (b, m') ∧ zOk 0 0 1 code r b (m' 7 0) ∧ zAll (c + 1) k m' := by
  have hA' := hA
  obtain ⟨n, L, y, hR, hX, -⟩ := hA
  have hL := hR.2.2.1.1
  have hk : k 16 0 = nI L := hR.2.2.1.2.1
  have hm : thr 0 m 7 2 = nI L := thr_2.trans hR.2.2.1.2.2.1
  have bad : ∀ code r, code = 3 → F_X5_ruled k v1 v2 = some (code, r) → F_X6_ruled v1 v2 m = some (0, thr 1 (thr 0 m)) → ∃ code r b m', F_X5_ruled k v1 v2 = some (code, r) ∧ F_X6_ruled v1 v2 m = some (b, m') ∧ zOk 0 0 1 code r b (m' 7 0) ∧ zAll (c + 1) k m' := by
    rintro code r rfl h1 h2
    exact ⟨3, r, 0, _, h1, h2, by rw [thr_0]; exact zOk_3 (by decide), zAll_up (zAll_thr (zAll_thr hA'))⟩
  rcases pk_ix v1 (n := L) (by omega) with h | h | ⟨l, hl, rfl⟩
  · exact bad 3 0 rfl (by simp only [F_X5_ruled, F_X5_ruled_0, nl_0 hk (Or.inl h), pz_bind, pz_n3, if_false]) (by simp only [F_X6_ruled, F_X6_ruled_0, thr_e, il_0 hL hm (Or.inl h), pz_bind, pz_00, if_true, F_X6_ruled_42, fail_x, F_X6_ruled_47])
  · exact bad 3 0 rfl (by simp only [F_X5_ruled, F_X5_ruled_0, nl_0 hk (Or.inr h), pz_bind, pz_n3, if_false]) (by simp only [F_X6_ruled, F_X6_ruled_0, thr_e, il_0 hL hm (Or.inr h), pz_bind, pz_00, if_true, F_X6_ruled_42, fail_x, F_X6_ruled_47])
  · have l12 : l < 12 := by omega
    obtain ⟨h, e1, e2, e3⟩ := ke_x (zXl_thr (v := 0) hL hX) hL hl (by omega)
    obtain ⟨z, hz⟩ : ∃ z, z = min h 15 := ⟨_, rfl⟩
    rw [← hz] at e1 e2 e3
    have e21 : k (15 + 6) l = nI z := e1
    rcases pk_ix v2 (n := z) (by omega) with g | g | ⟨w, hw, rfl⟩
    · exact bad 3 0 rfl (by simp only [F_X5_ruled, F_X5_ruled_0, nl_1 hL hk hl, pz_bind, pz_nz, if_true, pz_n0 (show l < 2 ^ 31 by omega), nI_clamp (show l < 2 ^ 31 by omega), pz_ge (show l < 12 by omega), or_self, false_or, if_false, e21, nb_0 (k := k) (u := nI z) (Or.inl g), pz_n3]) (by simp only [F_X6_ruled, F_X6_ruled_0, thr_e, il_1 hL hm hl, pz_bind, pz_10, if_false, F_X6_ruled_13, e2, isIn_0 (m := thr 0 m) (v1 := 0) (pz_over (n := z) (by omega) (Or.inl g)), pz_00, if_true, F_X6_ruled_42, fail_x, F_X6_ruled_47])
    · exact bad 3 0 rfl (by simp only [F_X5_ruled, F_X5_ruled_0, nl_1 hL hk hl, pz_bind, pz_nz, if_true, pz_n0 (show l < 2 ^ 31 by omega), nI_clamp (show l < 2 ^ 31 by omega), pz_ge (show l < 12 by omega), or_self, false_or, if_false, e21, nb_0 (k := k) (u := nI z) (v := v2) (Or.inr g), pz_n3]) (by simp only [F_X6_ruled, F_X6_ruled_0, thr_e, il_1 hL hm hl, pz_bind, pz_10, if_false, F_X6_ruled_13, e2, isIn_0 (m := thr 0 m) (v1 := 0) (pz_over (n := z) (by omega) (Or.inr g)), pz_00, if_true, F_X6_ruled_42, fail_x, F_X6_ruled_47])
    · have b1 : ¬ nI w < 0 := nI_pos (by omega)
      have b2 : ¬ nI z - 1 < nI w := by
        rw [Int32.lt_iff_toInt_lt, pz_sub1 (by omega), nI_toInt (by omega)]
        omega
      have nb : F_X5_needBelow k (nI w) (nI z) = some 0 := nb_1 (by omega) hw
      have w15 : w < 15 := by omega
      have kp : kpb 15 = 45 := rfl
      refine ⟨0, k (45 + l) w, k (45 + l) w, thr 0 m, ?_, ?_, by rw [thr_0]; exact zOk_0, zAll_up (zAll_thr hA')⟩
      · simp only [F_X5_ruled, F_X5_ruled_0, nl_1 hL hk hl, pz_bind, pz_nz, if_true, pz_n0 (show l < 2 ^ 31 by omega), nI_clamp (show l < 2 ^ 31 by omega), pz_ge (show l < 12 by omega), or_self, false_or, if_false, e21, nb, pz_n0 (show w < 2 ^ 31 by omega), nI_clamp (show w < 2 ^ 31 by omega), pz_ge (show w < 15 by omega), or_self, false_or, if_false, kp]
      · simp only [F_X6_ruled, F_X6_ruled_0, thr_e, il_1 hL hm hl, pz_bind, pz_10, if_false, F_X6_ruled_13, e2, isIn_1 (m := thr 0 m) b1 b2, F_X6_ruled_28, pz_15w, pz_n0 (show 15 * l + w < 2 ^ 31 by omega), nI_clamp (show 15 * l + w < 2 ^ 31 by omega), pz_ge (show 15 * l + w < 180 by omega), or_self, F_X6_ruled_47, e3 w hw]
theorem zM_best (hA : zAll c k m) : ∃ code r b m', F_X5_best k v1 = some (code, r) ∧ F_X6_best v1 m = some (b, m') ∧ zOk 0 0 1 code r b (m' 7 0) ∧ zAll (c + 1) k m' := by
  have hA' := hA
  obtain ⟨n, L, y, hR, hX, -⟩ := hA
  have hn := hR.1.1
  have hk := hR.1.2.1
  have hm : thr 0 m 7 1 = nI n := thr_1.trans hR.1.2.2.1
  have bad : ∀ code r, code = 3 → F_X5_best k v1 = some (code, r) → F_X6_best v1 m = some (0, thr 1 (thr 0 m)) → ∃ code r b m', F_X5_best k v1 = some (code, r) ∧ F_X6_best v1 m = some (b, m') ∧ zOk 0 0 1 code r b (m' 7 0) ∧ zAll (c + 1) k m' := by
    rintro code r rfl h1 h2
    exact ⟨3, r, 0, _, h1, h2, by rw [thr_0]; exact zOk_3 (by decide), zAll_up (zAll_thr (zAll_thr hA'))⟩
  rcases pk_ix v1 (n := n) (by omega) with h | h | ⟨p, hp, rfl⟩
  · exact bad 3 0 rfl (by simp only [F_X5_best, F_X5_best_0, np_0 hk (Or.inl h), pz_bind, pz_n3, if_false]) (by simp only [F_X6_best, F_X6_best_0, thr_e, ip_0 hn hm (Or.inl h), pz_bind, pz_00, if_true, F_X6_best_13, fail_x])
  · exact bad 3 0 rfl (by simp only [F_X5_best, F_X5_best_0, np_0 hk (Or.inr h), pz_bind, pz_n3, if_false]) (by simp only [F_X6_best, F_X6_best_0, thr_e, ip_0 hn hm (Or.inr h), pz_bind, pz_00, if_true, F_X6_best_13, fail_x])
  · have hR0 := zRel_thr (v := 0) hR
    have hX0 := zXl_thr (v := 0) hR.2.2.1.1 hX
    obtain ⟨hK, hLv, ⟨w1, w2, w3, w4, w5⟩, hMW, hRu, h15, h30⟩ := hR0
    obtain ⟨r, m1, g1, g2, g3⟩ := bt_x hK hLv rfl w4 (fun p hp => ((h15 rfl).1.2.1 p hp).1) w1 w2 w3 (fun l hl => (w5 l hl).2.1) (fun l hl => ⟨(hX0.1 l hl).1, (hX0.1 l hl).2.1⟩) hp
    refine ⟨0, r, r, m1, ?_, ?_, by rw [g3 7 (by decide) (by decide), thr_0]; exact zOk_0, zAll_up (zAll_off (zAll_thr hA') (zOffB.rf 15 k) g3)⟩
    · simp only [F_X5_best, F_X5_best_0, np_1 hn hk hp, pz_bind, pz_nz, if_true, g1]
    · simp only [F_X6_best, F_X6_best_0, thr_e, ip_1 hn hm hp, pz_bind, pz_10, if_false, g2]
theorem nw_1 (hw : w ≤ 3) : F_X5_needLaw k (nI w) = some 0 := by
  have h1 : (nI w < 0) = False := pz_n0 (by omega)
  have h2 : (nI w ≤ 3) = True := eq_true (nI_le (b := 3) hw (by decide))
  simp only [F_X5_needLaw_9, F_X5_needLaw_19, F_X5_needLaw_4, F_X5_needLaw_0, F_X5_needLaw, h1, h2, if_true, if_false]
theorem nw_0 (h : v < 0 ∨ 3 < v) : F_X5_needLaw k v = some 1 := by
  simp only [F_X5_needLaw_9, F_X5_needLaw_19, F_X5_needLaw_4, F_X5_needLaw_0, F_X5_needLaw]
  by_cases h1 : v < 0
  · rw [if_pos h1]
  · rw [if_neg h1, if_neg (Int32.not_le.mpr (h.resolve_left h1))]
theorem ix_law (v : Int32) : (v < 0 ∨ 3 < v) ∨ ∃ w, w ≤ 3 ∧ v = nI w := by
  rcases pk_ix v (n := 4) (by omega) with h | h | ⟨w, hw, rfl⟩
  · exact Or.inl (Or.inl h)
  · refine Or.inl (Or.inr ?_)
    rw [Int32.lt_iff_toInt_lt, show (3 : Int32).toInt = 3 from rfl]
    rw [Int32.le_iff_toInt_le, nI_toInt (by decide)] at h
    omega
  · exact Or.inr ⟨w, by omega, rfl⟩
theorem zM_setLaw (hA : zAll c k m) : ∃ code r k' b m', F_X5_setLaw v1 v2 k = some ((code, r), k') ∧ F_X6_setLaw v1 v2 m = some (b, m') ∧ zOk 2 0 1 code r b (m' 7 0) ∧ zAll (c + 1) k' m' := by
  have hA' := hA
  obtain ⟨n, L, y, hR, hX, hy, hy2, hAh⟩ := hA
  have hL := hR.2.2.1.1
  have hk : k 16 0 = nI L := hR.2.2.1.2.1
  have hm : thr 0 m 7 2 = nI L := thr_2.trans hR.2.2.1.2.2.1
  rcases pk_ix v1 (n := L) (by omega) with h | h | ⟨l, hl, rfl⟩
  · exact ⟨3, 0, k, 0, thr 1 (thr 0 m), by simp only [F_X5_setLaw, F_X5_setLaw_0, nl_0 hk (Or.inl h), pz_bind, pz_n3, if_false], by simp only [F_X6_setLaw, F_X6_setLaw_0, thr_e, il_0 hL hm (Or.inl h), pz_bind, pz_00, if_true, F_X6_setLaw_13, fail_x], by rw [thr_0]; exact zOk_3 (by decide), zAll_up (zAll_thr (zAll_thr hA'))⟩
  · exact ⟨3, 0, k, 0, thr 1 (thr 0 m), by simp only [F_X5_setLaw, F_X5_setLaw_0, nl_0 hk (Or.inr h), pz_bind, pz_n3, if_false], by simp only [F_X6_setLaw, F_X6_setLaw_0, thr_e, il_0 hL hm (Or.inr h), pz_bind, pz_00, if_true, F_X6_setLaw_13, fail_x], by rw [thr_0]; exact zOk_3 (by decide), zAll_up (zAll_thr (zAll_thr hA'))⟩
  · have l12 : l < 12 := by omega
    rcases ix_law v2 with h | ⟨w, hw, rfl⟩
    · exact ⟨1, 0, k, 0, thr 2 (thr 0 m), by simp only [F_X5_setLaw, F_X5_setLaw_0, nl_1 hL hk hl, pz_bind, pz_nz, if_true, nw_0 (k := k) h, pz_n1, if_false], by simp only [F_X6_setLaw, F_X6_setLaw_0, thr_e, il_1 hL hm hl, pz_bind, pz_10, if_false, F_X6_setLaw_19, isIn_0 (m := thr 0 m) (v1 := 0) (v2 := 3) h, pz_00, if_true, F_X6_setLaw_28, fail_x], by rw [thr_0]; exact zOk_1 (by decide), zAll_up (zAll_thr (zAll_thr hA'))⟩
    · obtain ⟨hK, hLv, ⟨w1, w2, w3, w4, w5⟩, hMW, hRu, h15, h30⟩ := zRel_thr (v := 0) hR
      have hX0 := zXl_thr (v := 0) hL hX
      have b1 : ¬ nI w < 0 := nI_pos (by omega)
      have b2 : ¬ (3 : Int32) < nI w := nI_nlt (b := w) (a := 3) (by omega) (by decide)
      have i4 : 4 * nI l + 1 = nI (4 * l + 1) := pz_4 l 1
      have e0 : thr 0 m 9 (4 * l + 1) = k 18 l := (w5 l hl).1
      refine ⟨0, k 18 l, kst k 18 (upd (k 18) l (nI w)), k 18 l, kst (thr 0 m) 9 (upd (thr 0 m 9) (4 * l + 1) (nI w)), ?_, ?_, ?_, ?_⟩
      · simp only [F_X5_setLaw, F_X5_setLaw_0, nl_1 hL hk hl, pz_bind, pz_nz, if_true, nw_1 (k := k) hw, pz_n0 (show l < 2 ^ 31 by omega), nI_clamp (show l < 2 ^ 31 by omega), pz_ge (show l < 12 by omega), or_self, false_or, if_false]
      · simp only [F_X6_setLaw, F_X6_setLaw_0, thr_e, il_1 hL hm hl, pz_bind, pz_10, if_false, F_X6_setLaw_19, isIn_1 (m := thr 0 m) b1 b2, F_X6_setLaw_34, la_1 l12, i4, pz_n0 (show 4 * l + 1 < 2 ^ 31 by omega), nI_clamp (show 4 * l + 1 < 2 ^ 31 by omega), pz_ge (show 4 * l + 1 < 48 by omega), or_self, e0]
      · rw [kst_ne _ _ (by decide), thr_0]; exact zOk_0
      · refine ⟨n, L, y, ⟨zKin_m (zKin_k hK (fun q hq => kst_ne _ _ (by omega)) (fun q hq => kst_ne _ _ (by omega))) (kst_ne _ _ (by decide)) (kst_ne _ _ (by decide)), fun p hp => ?_, ⟨w1, ?_, ?_, ?_, fun l' hl' => ?_⟩, fun p hp => ?_, fun l' hl' => ?_, fun _ => ?_, fun h => absurd h (by decide)⟩, ?_, ?_, by omega, fun p hp => ?_⟩
        · rw [kst_ne _ _ (by decide), kst_ne _ _ (by decide)]; exact hLv p hp
        · rw [kst_ne _ _ (by decide)]; exact w2
        · rw [kst_ne _ _ (by decide)]; exact w3
        · rw [kst_ne _ _ (by decide), kst_ne _ _ (by decide)]; exact w4
        · rw [kst_eq, kst_ne _ _ (show 15 + 4 ≠ 18 by decide), show kst k 18 (upd (k 18) l (nI w)) (15 + 3) = upd (k 18) l (nI w) from kst_eq _ _ _, pz_un (show 4 * l' + 2 ≠ 4 * l + 1 by omega)]
          obtain ⟨x1, x2, x3⟩ := w5 l' hl'
          by_cases g : l' = l
          · subst g
            rw [pz_us, pz_us]
            exact ⟨rfl, x2, w, hw, rfl⟩
          · rw [pz_un (show 4 * l' + 1 ≠ 4 * l + 1 by omega), pz_un g]
            exact ⟨x1, x2, x3⟩
        · rw [kst_ne _ _ (by decide)]; exact hMW p hp
        · rw [kst_ne _ _ (by decide), kst_ne _ _ (by decide)]; exact hRu l' hl'
        · have := h15 rfl
          unfold zXp zXq zMar zTr at *
          rw [kst_ne _ _ (by decide), kst_ne _ _ (by decide), kst_ne _ _ (by decide), kst_ne _ _ (by decide)]
          exact this
        · refine zXl_mono (hf := fun _ => 4100 * c) ⟨fun l' hl' => ?_, fun l' h1 h2 => ?_⟩ (fun l' _ => by omega)
          · rw [kst_eq, kst_ne _ _ (show 17 ≠ 18 by decide), kst_ne _ _ (show 20 ≠ 18 by decide), kst_ne _ _ (show 21 ≠ 18 by decide), kst_ne _ _ (show 45 + l' ≠ 18 by omega), kst_ne _ _ (show 10 ≠ 9 by decide), pz_un (show 4 * l' ≠ 4 * l + 1 by omega), pz_un (show 4 * l' + 3 ≠ 4 * l + 1 by omega)]
            exact hX0.1 l' hl'
          · rw [kst_ne _ _ (show 20 ≠ 18 by decide), kst_ne _ _ (show 21 ≠ 18 by decide)]
            exact hX0.2 l' h1 h2
        · rw [kst_ne _ _ (by decide)]; exact hy
        · rw [kst_ne _ _ (by decide)]; exact hAh p hp
theorem zM_die (hA : zAll c k m) (hc : c ≤ 600) : ∃ code r k' b m' uc us, F_X5_die v1 k = some ((code, r), k') ∧ F_X6_die v1 m = some ((b, m'), uc, us) ∧ zOk 0 2 1 code r b (m' 7 0) ∧ zAll (c + 1) k' m' ∧ uc ≤ 50 ∧ us ≤ 800 := by
  have hA' := hA
  obtain ⟨n, L, y, hR, hX, hy, hy2, hAh⟩ := hA
  have hn := hR.1.1
  have hk := hR.1.2.1
  have hm : thr 0 m 7 1 = nI n := thr_1.trans hR.1.2.2.1
  rcases pk_ix v1 (n := n) (by omega) with h | h | ⟨p, hp, rfl⟩
  · exact ⟨3, 0, k, 0, thr 1 (thr 0 m), 0, 0, by simp only [F_X5_die, F_X5_die_0, np_0 hk (Or.inl h), pz_bind, pz_n3, if_false], by simp only [F_X6_die, F_X6_die_0, thr_e, ip_0 hn hm (Or.inl h), pz_bind, pz_00, if_true, F_X6_die_13, fail_x], by rw [thr_0]; exact zOk_3 (by decide), zAll_up (zAll_thr (zAll_thr hA')), by omega, by omega⟩
  · exact ⟨3, 0, k, 0, thr 1 (thr 0 m), 0, 0, by simp only [F_X5_die, F_X5_die_0, np_0 hk (Or.inr h), pz_bind, pz_n3, if_false], by simp only [F_X6_die, F_X6_die_0, thr_e, ip_0 hn hm (Or.inr h), pz_bind, pz_00, if_true, F_X6_die_13, fail_x], by rw [thr_0]; exact zOk_3 (by decide), zAll_up (zAll_thr (zAll_thr hA')), by omega, by omega⟩
  · have hR0 := zRel_thr (v := 0) hR
    have p40 : p < 40 := by omega
    rcases hR0.2.1 p hp with ⟨l1, l2⟩ | ⟨l1, l2⟩
    · obtain ⟨cnt, k2, m2, u1, u2, b1, b2, b3, b4, b5, b6, b7, b8, b9, b10, b11⟩ := bu_x k15 hR0 hp l1 hy (by omega) (fun _ => zXl_thr hR.2.2.1.1 hX) (by omega)
      refine ⟨0, cnt, k2, cnt, m2, u1, u2, ?_, ?_, by rw [b6, thr_0]; exact zOk_0, ⟨n, L, y, b3, zXl_mono (b4 rfl) (fun l hl => by omega), by rw [b9]; exact hy, by omega, fun p hp => ?_⟩, by omega, by omega⟩
      · simp only [F_X5_die, F_X5_die_0, np_1 hn hk hp, li_1 hn hk hp l1, pz_bind, pz_nz, pz_10, if_true, if_false, F_X5_die_26, b1]
      · simp only [F_X6_die, F_X6_die_0, thr_e, ip_1 hn hm hp, pz_bind, pz_10, if_false, F_X6_die_19, ri_1 p40 l2, F_X6_die_27, b2, F_X6_die_40, pz_kadds, Nat.add_zero]
      · rw [b5.2.2.1 rfl 39 (by decide) (by decide)]; exact hAh p hp
    · refine ⟨2, 0, k, 0, thr 2 (thr 0 m), 0, 0, ?_, ?_, by rw [thr_0]; exact zOk_2 (by decide), zAll_up (zAll_thr (zAll_thr hA')), by omega, by omega⟩
      · simp only [F_X5_die, F_X5_die_0, np_1 hn hk hp, li_0 hn hk hp l1, pz_bind, pz_nz, pz_00, if_true, F_X5_die_16]
      · simp only [F_X6_die, F_X6_die_0, thr_e, ip_1 hn hm hp, pz_bind, pz_10, if_false, F_X6_die_19, ri_0 p40 l2, pz_00, if_true, F_X6_die_35, fail_x, F_X6_die_40]
theorem ny_1 (h1 : 1 ≤ Y) (h2 : Y ≤ 100) : F_X5_needYears k (nI Y) = some 0 := by
  have c1 : (nI Y < 1) = False := eq_false (nI_nlt (b := 1) h1 (by omega))
  have c2 : (nI Y ≤ 100) = True := eq_true (nI_le (b := 100) h2 (by decide))
  simp only [F_X5_needYears_11, F_X5_needYears_21, F_X5_needYears_5, F_X5_needYears_0, F_X5_needYears, c1, c2, if_true, if_false]
theorem ny_0 (h : v < 1 ∨ 100 < v) : F_X5_needYears k v = some 1 := by
  simp only [F_X5_needYears_11, F_X5_needYears_21, F_X5_needYears_5, F_X5_needYears_0, F_X5_needYears]
  by_cases h1 : v < 1
  · rw [if_pos h1]
  · rw [if_neg h1, if_neg (Int32.not_le.mpr (h.resolve_left h1))]
theorem ix_years (v : Int32) : (v < 1 ∨ 100 < v) ∨ ∃ Y, 1 ≤ Y ∧ Y ≤ 100 ∧ v = nI Y := by
  rcases pk_ix v (n := 101) (by omega) with h | h | ⟨w, hw, rfl⟩
  · refine Or.inl (Or.inl ?_)
    rw [Int32.lt_iff_toInt_lt] at *
    rw [show (1 : Int32).toInt = 1 from rfl]
    rw [show (0 : Int32).toInt = 0 from rfl] at h
    omega
  · refine Or.inl (Or.inr ?_)
    rw [Int32.lt_iff_toInt_lt, show (100 : Int32).toInt = 100 from rfl]
    rw [Int32.le_iff_toInt_le, nI_toInt (by decide)] at h
    omega
  · by_cases h0 : w = 0
    · subst h0
      exact Or.inl (Or.inl (by decide))
    · exact Or.inr ⟨w, by omega, by omega, rfl⟩
theorem zAl_le (hn : n ≤ 40) : zAl B n k ≤ 40 := Nat.le_trans (zcnt_le _ _) hn
theorem zM_pass (hA : zAll c k m) (hc : c ≤ 600) : ∃ code r k' b m' uc us, F_X5_pass v1 k = some ((code, r), k') ∧ F_X6_pass v1 m = some ((b, m'), uc, us) ∧ zOk 1 0 0 code r b (m' 7 0) ∧ zAll (c + 1) k' m' ∧ uc ≤ 50 ∧ us ≤ 800 := by
  have hA' := hA
  obtain ⟨n, L, y, hR, hX, hy, hy2, hAh⟩ := hA
  have hn := hR.1.1
  rcases ix_years v1 with h | ⟨Y, y1, y2, rfl⟩
  · exact ⟨1, 0, k, 0, thr 1 (thr 0 m), 0, 0, by simp only [F_X5_pass, F_X5_pass_0, ny_0 (k := k) h, pz_bind, pz_n1, if_false], by simp only [F_X6_pass, F_X6_pass_0, thr_e, isIn_0 (m := thr 0 m) (v1 := 1) (v2 := 100) h, pz_bind, pz_00, if_true, F_X6_pass_23, fail_x, F_X6_pass_28], by rw [thr_0]; exact zOk_1 (by decide), zAll_up (zAll_thr (zAll_thr hA')), by omega, by omega⟩
  · obtain ⟨d, k', m', uc, us, g1, g2, g3, g4, g5, g6, g7, g8, g9⟩ := lp_x k15 (zRel_thr (v := 0) hR) hy y2 (by omega) (fun _ => zXl_thr hR.2.2.1.1 hX) (by omega)
    have al := zAl_le (B := 15) (k := k) hn
    have b1 : ¬ nI Y < 1 := nI_nlt (b := 1) y1 (by omega)
    have b2 : ¬ (100 : Int32) < nI Y := nI_nlt (b := Y) (a := 100) (by omega) (by decide)
    refine ⟨0, d, k', d, m', uc, us, ?_, ?_, by rw [g6, thr_0]; exact zOk_0, ⟨n, L, y + Y, g3, zXl_mono (g4 rfl) (fun l hl => by omega), g7, by omega, fun p hp => ?_⟩, by omega, by omega⟩
    · simp only [F_X5_pass, F_X5_pass_0, ny_1 (k := k) y1 y2, pz_bind, pz_nz, if_true, g1]
    · simp only [F_X6_pass, F_X6_pass_0, thr_e, isIn_1 (m := thr 0 m) b1 b2, pz_bind, pz_10, if_false, F_X6_pass_15, g2, F_X6_pass_28, pz_kadds, Nat.add_zero]
    · rw [g5.2.2.1 rfl 39 (by decide) (by decide)]; exact hAh p hp
end ZV
