/-! THE CALLS, on both sides: rules, foresee, mean, digest -/
section ZE
variable {n p q a b c d e j x r L w l y Y : Nat} {k k1 k0 k' m m1 m' : kS} {v t v1 v2 v3 lv gv : Int32} {B P : Nat} {f : Nat → Int32}
theorem st_r (hR : zRel 15 n L k m) (hAh : ∀ p, p < 40 → k 39 p = -1) : ∃ k', F_X4_startFrom k = some k' ∧ zRel 30 n L k' m ∧ (∀ q, q < 30 → k' q = k q) ∧ (∀ q, 45 ≤ q → k' q = k q) ∧ k' 30 0 = k 15 0 := by
  obtain ⟨hK, hLv, ⟨w1, w2, w3, w4, w5⟩, hMW, hRu, h15, h30⟩ := hR
  obtain ⟨k1, hk1⟩ : ∃ k1, k1 = kst k 30 (upd (k 30) 0 (k 15 0)) := ⟨_, rfl⟩
  obtain ⟨k2, hk2⟩ : ∃ k2, k2 = kst k1 44 (va_cpy (k1 29) (k1 44) 0 0 40) := ⟨_, rfl⟩
  obtain ⟨k3, hk3⟩ : ∃ k3, k3 = kst k2 31 (upd (k2 31) 0 (k2 16 0)) := ⟨_, rfl⟩
  obtain ⟨k4, hk4⟩ : ∃ k4, k4 = kst k3 33 (va_cpy (k3 18) (k3 33) 0 0 12) := ⟨_, rfl⟩
  obtain ⟨k5, hk5⟩ : ∃ k5, k5 = kst k4 34 (va_cpy (k4 19) (k4 34) 0 0 12) := ⟨_, rfl⟩
  have n1 : ∀ q, q ≠ 30 → k1 q = k q := fun q h => by rw [hk1, kst_ne _ _ h]
  have n2 : ∀ q, q ≠ 44 → k2 q = k1 q := fun q h => by rw [hk2, kst_ne _ _ h]
  have n3 : ∀ q, q ≠ 31 → k3 q = k2 q := fun q h => by rw [hk3, kst_ne _ _ h]
  have n4 : ∀ q, q ≠ 33 → k4 q = k3 q := fun q h => by rw [hk4, kst_ne _ _ h]
  have n5 : ∀ q, q ≠ 34 → k5 q = k4 q := fun q h => by rw [hk5, kst_ne _ _ h]
  have all : ∀ q, q ≠ 30 → q ≠ 44 → q ≠ 31 → q ≠ 33 → q ≠ 34 → k5 q = k q := fun q h1 h2 h3 h4 h5 => by rw [n5 q h5, n4 q h4, n3 q h3, n2 q h2, n1 q h1]
  have e30 : k5 30 0 = k 15 0 := by rw [n5 30 (by decide), n4 30 (by decide), n3 30 (by decide), n2 30 (by decide), hk1, kst_eq, pz_us]
  have e31 : k5 31 0 = k 16 0 := by rw [n5 31 (by decide), n4 31 (by decide), hk3, kst_eq, pz_us, n2 16 (by decide), n1 16 (by decide)]
  have e44 : ∀ p, p < 40 → k5 44 p = k 29 p := fun p hp => by
    rw [n5 44 (by decide), n4 44 (by decide), n3 44 (by decide), hk2, kst_eq, pk_cpy_in (by omega) (by omega), n1 29 (by decide)]
    congr 1; omega
  have e33 : ∀ l, l < 12 → k5 33 l = k 18 l := fun l hl => by
    rw [n5 33 (by decide), hk4, kst_eq, pk_cpy_in (by omega) (by omega), n3 18 (by decide), n2 18 (by decide), n1 18 (by decide)]
    congr 1; omega
  have e34 : ∀ l, l < 12 → k5 34 l = k 19 l := fun l hl => by
    rw [hk5, kst_eq, pk_cpy_in (by omega) (by omega), n4 19 (by decide), n3 19 (by decide), n2 19 (by decide), n1 19 (by decide)]
    congr 1; omega
  refine ⟨k5, ?_, ⟨zKin_k hK (fun q hq => all q (by omega) (by omega) (by omega) (by omega) (by omega)) (fun q hq => all q (by omega) (by omega) (by omega) (by omega) (by omega)), fun p hp => ?_, ⟨w1, ?_, w3, ?_, fun l hl => ?_⟩, hMW, fun l hl => ?_, fun h => absurd h (by decide), fun _ p hp => ?_⟩, fun q hq => all q (by omega) (by omega) (by omega) (by omega) (by omega), fun q hq => all q (by omega) (by omega) (by omega) (by omega) (by omega), e30⟩
  · have c1 : F_X4_startFrom k = (F_X1_takeRulers k2).bind fun x => some x := by
      unfold F_X4_startFrom F_X4_startFrom_0
      rw [if_neg (by decide), hk2, hk1]
      rfl
    have c2 : F_X1_takeRulers k2 = some k5 := by
      unfold F_X1_takeRulers F_X1_takeRulers_0
      rw [if_neg (by decide), if_neg (by decide), hk5, hk4, hk3]
      rfl
    rw [c1, c2]
    rfl
  · have := hK.1
    rw [show k5 (30 + 14) p = k 29 p from e44 p (by omega)]; exact hLv p hp
  · rw [show k5 (30 + 1) 0 = k 16 0 from e31]; exact w2
  · rw [e30]; exact w4
  · rw [show k5 (30 + 3) l = k 18 l from e33 l (by omega), show k5 (30 + 4) l = k 19 l from e34 l (by omega)]; exact w5 l hl
  · rw [show k5 (30 + 4) l = k 19 l from e34 l (by omega)]
    rcases hRu l hl with h | ⟨p, h1, h2, h3⟩
    · exact Or.inl h
    · have := hK.1
      exact Or.inr ⟨p, h1, h2, by rw [show k5 (30 + 14) p = k 29 p from e44 p (by omega)]; exact h3⟩
  · rw [all 39 (by decide) (by decide) (by decide) (by decide) (by decide)]; exact hAh p hp
/-- behind a look ahead all is as it was -/
theorem bk_r {cc : Nat} (hR : zRel 15 n L k m) (hX : zXl L (fun _ => 4100 * cc) k m) (hlo : ∀ q, q < 30 → k' q = k q) (hpast : ∀ q, 45 ≤ q → q < 57 → k' q = k q) (hhi : ∀ q, 69 ≤ q → k' q = k q) (h7 : m' 7 = m 7) : zRel 15 n L k' (kBack m' m) ∧ zXl L (fun _ => 4100 * cc) k' (kBack m' m) ∧ kBack m' m 7 = m 7 := by
  have b7 : kBack m' m 7 = m 7 := by
    unfold kBack
    rw [kst_ne _ _ (by decide), kst_ne _ _ (by decide), kst_ne _ _ (by decide), kst_ne _ _ (by decide)]; exact h7
  have b8 : ∀ i, i < 360 → kBack m' m 8 i = m 8 i := fun i hi => by
    unfold kBack
    rw [kst_ne _ _ (by decide), kst_ne _ _ (by decide), kst_ne _ _ (by decide), kst_eq, pk_cpy_in (by omega) (by omega)]
    congr 1; omega
  have b9 : ∀ i, i < 48 → kBack m' m 9 i = m 9 i := fun i hi => by
    unfold kBack
    rw [kst_ne _ _ (by decide), kst_ne _ _ (by decide), kst_eq, pk_cpy_in (by omega) (by omega)]
    congr 1; omega
  have b10 : ∀ i, i < 180 → kBack m' m 10 i = m 10 i := fun i hi => by
    unfold kBack
    rw [kst_ne _ _ (by decide), kst_eq, pk_cpy_in (by omega) (by omega)]
    congr 1; omega
  have b11 : kBack m' m 11 0 = m 11 0 := by
    unfold kBack
    rw [kst_eq, pk_cpy_in (by omega) (by omega)]
  obtain ⟨hK, hLv, ⟨w1, w2, w3, w4, w5⟩, hMW, hRu, h15, h30⟩ := hR
  have R1 : zRel 15 n L k' m := by
    refine ⟨zKin_k hK (fun q hq => hlo q (by omega)) hhi, fun p hp => ?_, ⟨w1, ?_, w3, ?_, fun l hl => ?_⟩, hMW, fun l hl => ?_, fun _ => ?_, fun h => absurd h (by decide)⟩
    · rw [hlo (15 + 14) (by decide)]; exact hLv p hp
    · rw [hlo (15 + 1) (by decide)]; exact w2
    · rw [hlo 15 (by decide)]; exact w4
    · rw [hlo (15 + 3) (by decide), hlo (15 + 4) (by decide)]; exact w5 l hl
    · rw [hlo (15 + 4) (by decide), hlo (15 + 14) (by decide)]; exact hRu l hl
    · have := h15 rfl
      unfold zXp zXq zMar zTr at *
      rw [hlo 24 (by decide), hlo 25 (by decide), hlo 29 (by decide)]
      exact this
  refine ⟨zRel_in R1 b8 b9 (by rw [b7]) (by rw [b7]) b11, zXl_in w1 (zXl_cg (m := m) (m' := m) w1 hX (hlo 17 (by decide)) (hlo 20 (by decide)) (hlo 21 (by decide)) (fun l hl => hpast _ (by omega) (by omega)) rfl rfl) b9 b10, b7⟩
/-- one year, as a call of its own -/
theorem y1_x (hR : zRel 30 n L k m) (hy : k 30 0 = nI y) (hy2 : y + 1 < 2 ^ 31) : ∃ d k' m' uc us, F_X4_letPass 30 1 k = some (d, k') ∧ F_X6_yearOn m = some ((d, m'), uc, us) ∧ zRel 30 n L k' m' ∧ zFr 30 k k' ∧ m' 7 = m 7 ∧ k' 30 0 = nI (y + 1) ∧ uc + zAl 30 n k' ≤ zAl 30 n k ∧ us + 3 * zAl 30 n k' ≤ 3 * zAl 30 n k := by
  obtain ⟨d, k', m', uc, us, g1, g2, g3, _, g5, g6, g7, g8, g9⟩ := yr_x (hH := 0) k30 hR hy hy2 (fun h => absurd h (by decide)) (by decide)
  refine ⟨d, k', m', uc, us, ?_, g2, g3, g5, g6, g7, g8, g9⟩
  have s1 : ∀ (g : Nat) (K : kS) (x : Int32), F_X4_letPass_4 30 (g + 1) 1 x 1 K = some (x, K) := fun g K x => by
    have c : ((1 : Int32) ≤ 1) = True := eq_true (by decide)
    simp only [F_X4_letPass_4, c, if_true, F_X4_letPass_76]
  have s0 : ∀ (g : Nat) (K : kS), F_X4_letPass_4 30 (g + 1) 1 0 0 K = F_X4_letPass_9 30 (F_X4_letPass_4 30 g) 1 0 0 K := fun g K => by
    have c : ((1 : Int32) ≤ 0) = False := eq_false (by decide)
    simp only [F_X4_letPass_4, c, if_false]
  show F_X4_letPass_4 30 kN 1 0 0 k = _
  have e : F_X4_letPass_4 30 kN 1 0 0 k = F_X4_letPass_9 30 (F_X4_letPass_4 30 4095) 1 0 0 k := s0 4095 k
  rw [e, g1]
  have z : (0 : Int32) + d = d := Int32.zero_add d
  have o : (0 : Int32) + 1 = 1 := by decide
  rw [z, o]
  exact s1 4094 k' d
theorem rs_l {v1 : Int32} {xf : kS} : ∀ (dd i : Nat) (k m : kS) (g g' : Nat), i + dd = 100 → zRel 30 n L k m → k 30 0 = nI (y + i) → y + 200 < 2 ^ 31 → dd + 1 < g → dd < g' → ∃ r k' m' uc us, F_X5_rules_18 g v1 (nI i) k = some ((0, r), k') ∧ F_X6_rules_26 g' v1 (nI i) xf m = some ((r, kBack m' xf), uc, us) ∧ zFr 30 k k' ∧ (∀ p, p < 40 → k' 39 p = -1) ∧ m' 7 = m 7 ∧ uc ≤ 1 + zAl 30 n k ∧ us ≤ 4 + 3 * zAl 30 n k
  | 0, i, k, m, g, g', hd, hR, hy, hy2, hg, hg' => by
    obtain rfl : i = 100 := by omega
    obtain ⟨x, rfl⟩ : ∃ x, g = x + 1 + 1 := ⟨g - 2, by omega⟩
    obtain ⟨x', rfl⟩ : ∃ x, g' = x + 1 := ⟨g' - 1, by omega⟩
    have c1 : ((100 : Int32) < nI 100) = False := eq_false (by decide)
    have c2 : ((100 : Int32) ≤ nI 100) = True := eq_true (by decide)
    have c3 : ((100 : Int32) < nI 101) = True := eq_true (by decide)
    obtain ⟨r, r1, r2⟩ := rn_x hR v1
    rcases r2 with ⟨r2, r3⟩ | ⟨r2, r3⟩
    · obtain ⟨d, k', m', uc, us, g1, g2, g3, g4, g5, g6, g7, g8⟩ := y1_x hR hy (by omega)
      refine ⟨-1, k', m, 1, 4, ?_, ?_, g4, g3.2.2.2.2.2.2 rfl, rfl, by omega, by omega⟩
      · simp only [F_X5_rules_18, c1, if_false, F_X5_rules_24, r1, pz_bind, r2, if_true, F_X5_rules_40, g1, nI_1, c3, F_X5_rules_55]
      · simp only [F_X6_rules_26, c2, if_true, F_X6_rules_51, r3, pz_bind, pz_00, F_X6_rules_59, F_X6_rules_61, pz_kadds, Nat.add_zero]
    · refine ⟨nI 100, k, m, 1, 4, ?_, ?_, zFr.rf 30 k, hR.2.2.2.2.2.2 rfl, rfl, by omega, by omega⟩
      · simp only [F_X5_rules_18, c1, if_false, F_X5_rules_24, r1, pz_bind, r2, F_X5_rules_38]
      · simp only [F_X6_rules_26, c2, if_true, F_X6_rules_51, r3, pz_bind, pz_10, if_false, F_X6_rules_61, pz_kadds, Nat.add_zero]
  | dd + 1, i, k, m, g, g', hd, hR, hy, hy2, hg, hg' => by
    obtain ⟨x, rfl⟩ : ∃ x, g = x + 1 := ⟨g - 1, by omega⟩
    obtain ⟨x', rfl⟩ : ∃ x, g' = x + 1 := ⟨g' - 1, by omega⟩
    have c1 : ((100 : Int32) < nI i) = False := eq_false (nI_nlt (b := i) (a := 100) (by omega) (by decide))
    have c2 : ((100 : Int32) ≤ nI i) = False := eq_false (nI_ge (b := 100) (by omega) (by decide))
    obtain ⟨r, r1, r2⟩ := rn_x hR v1
    rcases r2 with ⟨r2, r3⟩ | ⟨r2, r3⟩
    · obtain ⟨d, k2, m2, u1, u2, g1, g2, g3, g4, g5, g6, g7, g8⟩ := y1_x hR hy (by omega)
      obtain ⟨r', k', m', uc, us, q1, q2, q3, q4, q5, q6, q7⟩ := rs_l (v1 := v1) (xf := xf) dd (i + 1) k2 m2 x x' (by omega) g3 (by rw [g6]; rfl) hy2 (by omega) (by omega)
      refine ⟨r', k', m', u1 + uc, u2 + us, ?_, ?_, g4.tr q3, q4, q5.trans g5, by omega, by omega⟩
      · simp only [F_X5_rules_18, c1, if_false, F_X5_rules_24, r1, pz_bind, r2, if_true, F_X5_rules_40, g1, nI_1]
        exact q1
      · simp only [F_X6_rules_26, c2, if_false, F_X6_rules_32, r3, pz_bind, pz_00, if_true, F_X6_rules_40, g2, nI_1, q2, pz_kadds]
    · refine ⟨nI i, k, m, 1, 4, ?_, ?_, zFr.rf 30 k, hR.2.2.2.2.2.2 rfl, rfl, by omega, by omega⟩
      · simp only [F_X5_rules_18, c1, if_false, F_X5_rules_24, r1, pz_bind, r2, F_X5_rules_38]
      · simp only [F_X6_rules_26, c2, if_false, F_X6_rules_32, F_X6_rules_51, r3, pz_bind, pz_10, F_X6_rules_61, pz_kadds, Nat.add_zero]
theorem zM_rules (hA : zAll c k m) (hc : c ≤ 600) : ∃ code r k' b m' uc us, F_X5_rules v1 k = some ((code, r), k') ∧ F_X6_rules v1 m = some ((b, m'), uc, us) ∧ zOk 0 0 1 code r b (m' 7 0) ∧ zAll (c + 1) k' m' ∧ uc ≤ 50 ∧ us ≤ 800 := by
  have hA' := hA
  obtain ⟨n, L, y, hR, hX, hy, hy2, hAh⟩ := hA
  have hn := hR.1.1
  have hk := hR.1.2.1
  have hm : thr 0 m 7 1 = nI n := thr_1.trans hR.1.2.2.1
  rcases pk_ix v1 (n := n) (by omega) with h | h | ⟨p, hp, rfl⟩
  · exact ⟨3, 0, k, 0, thr 1 (thr 0 m), 0, 0, by simp only [F_X5_rules, F_X5_rules_0, np_0 hk (Or.inl h), pz_bind, pz_n3, if_false], by simp only [F_X6_rules, F_X6_rules_0, thr_e, ip_0 hn hm (Or.inl h), pz_bind, pz_00, if_true, F_X6_rules_13, fail_x], by rw [thr_0]; exact zOk_3 (by decide), zAll_up (zAll_thr (zAll_thr hA')), by omega, by omega⟩
  · exact ⟨3, 0, k, 0, thr 1 (thr 0 m), 0, 0, by simp only [F_X5_rules, F_X5_rules_0, np_0 hk (Or.inr h), pz_bind, pz_n3, if_false], by simp only [F_X6_rules, F_X6_rules_0, thr_e, ip_0 hn hm (Or.inr h), pz_bind, pz_00, if_true, F_X6_rules_13, fail_x], by rw [thr_0]; exact zOk_3 (by decide), zAll_up (zAll_thr (zAll_thr hA')), by omega, by omega⟩
  · have hR0 := zRel_thr (v := 0) hR
    obtain ⟨k1, s1, s2, s3, s4, s5⟩ := st_r hR0 hAh
    obtain ⟨r, k', m', uc, us, g1, g2, g3, g4, g5, g6, g7⟩ := rs_l (v1 := nI p) (xf := thr 0 m) (y := y) 100 0 k1 (thr 0 m) kN kN (by omega) s2 (by rw [s5]; exact hy) (by omega) (by show 101 < 4096; omega) (by show 100 < 4096; omega)
    have al := zAl_le (B := 30) (k := k1) hn
    obtain ⟨f1, f2, _, f4, _⟩ := g3
    obtain ⟨b1, b2, b3⟩ := bk_r (k' := k') (m' := m') hR0 (zXl_thr (v := 0) hR.2.2.1.1 hX) (fun q hq => ((f4 rfl).1 q hq).trans (s3 q hq)) (fun q h1 h2 => ((f4 rfl).2 q h1 h2).trans (s4 q h1)) (fun q hq => (f2 q hq).trans (s4 q (by omega))) g5
    refine ⟨0, r, k', r, kBack m' (thr 0 m), 5 + uc, 593 + us, ?_, ?_, by rw [b3, thr_0]; exact zOk_0, ⟨n, L, y, b1, zXl_mono b2 (fun _ _ => by omega), by rw [(f4 rfl).1 15 (by decide), s3 15 (by decide)]; exact hy, by omega, g4⟩, by omega, by omega⟩
    · simp only [F_X5_rules, F_X5_rules_0, np_1 hn hk hp, pz_bind, pz_nz, if_true, s1]
      exact g1
    · simp only [F_X6_rules, F_X6_rules_0, thr_e, ip_1 hn hm hp, pz_bind, pz_10, if_false, F_X6_rules_19]
      have g2' : F_X6_rules_26 kN (nI p) 0 (thr 0 m) (thr 0 m) = some ((r, kBack m' (thr 0 m)), uc, us) := g2
      rw [g2', pz_kadds]
theorem zM_foresee (hA : zAll c k m) (hc : c ≤ 600) : ∃ code r k' b m' uc us, F_X5_foresee v1 v2 k = some ((code, r), k') ∧ F_X6_foresee v1 v2 m = some ((b, m'), uc, us) ∧ zOk 1 0 2 code r b (m' 7 0) ∧ zAll (c + 1) k' m' ∧ uc ≤ 50 ∧ us ≤ 800 := by
  have hA' := hA
  obtain ⟨n, L, y, hR, hX, hy, hy2, hAh⟩ := hA
  have hn := hR.1.1
  have hL := hR.2.2.1.1
  have hk2 : k 16 0 = nI L := hR.2.2.1.2.1
  have hm2 : thr 0 m 7 2 = nI L := thr_2.trans hR.2.2.1.2.2.1
  rcases ix_years v1 with h | ⟨Y, y1, y2, rfl⟩
  · exact ⟨1, 0, k, 0, thr 1 (thr 0 m), 0, 0, by simp only [F_X5_foresee, F_X5_foresee_0, ny_0 (k := k) h, pz_bind, pz_n1, if_false], by simp only [F_X6_foresee, F_X6_foresee_0, thr_e, isIn_0 (m := thr 0 m) (v1 := 1) (v2 := 100) h, pz_bind, pz_00, if_true, F_X6_foresee_15, fail_x], by rw [thr_0]; exact zOk_1 (by decide), zAll_up (zAll_thr (zAll_thr hA')), by omega, by omega⟩
  · have b1 : ¬ nI Y < 1 := nI_nlt (b := 1) y1 (by omega)
    have b2 : ¬ (100 : Int32) < nI Y := nI_nlt (b := Y) (a := 100) (by omega) (by decide)
    have bad : (v2 < 0 ∨ nI L ≤ v2) → ∃ code r k' b m' uc us, F_X5_foresee (nI Y) v2 k = some ((code, r), k') ∧ F_X6_foresee (nI Y) v2 m = some ((b, m'), uc, us) ∧ zOk 1 0 2 code r b (m' 7 0) ∧ zAll (c + 1) k' m' ∧ uc ≤ 50 ∧ us ≤ 800 := fun h =>
      ⟨3, 0, k, 0, thr 2 (thr 0 m), 0, 0, by simp only [F_X5_foresee, F_X5_foresee_0, ny_1 (k := k) y1 y2, nl_0 hk2 h, pz_bind, pz_nz, if_true, pz_n3, if_false], by simp only [F_X6_foresee, F_X6_foresee_0, thr_e, isIn_1 (m := thr 0 m) b1 b2, pz_bind, pz_10, if_false, F_X6_foresee_21, il_0 hL hm2 h, pz_00, if_true, F_X6_foresee_29, fail_x], by rw [thr_0]; exact zOk_3 (by decide), zAll_up (zAll_thr (zAll_thr hA')), by omega, by omega⟩
    rcases pk_ix v2 (n := L) (by omega) with h | h | ⟨l, hl, rfl⟩
    · exact bad (Or.inl h)
    · exact bad (Or.inr h)
    · have hR0 := zRel_thr (v := 0) hR
      obtain ⟨k1, s1, s2, s3, s4, s5⟩ := st_r hR0 hAh
      obtain ⟨d, k', m', uc, us, g1, g2, g3, _, g5, g6, g7, g8, g9⟩ := lp_x (hH := 0) k30 s2 (by rw [s5]; exact hy) y2 (by omega) (fun h => absurd h (by decide)) (by decide)
      have al := zAl_le (B := 30) (k := k1) hn
      obtain ⟨f1, f2, _, f4, _⟩ := g5
      obtain ⟨c1, c2, c3⟩ := bk_r (k' := k') (m' := m') hR0 (zXl_thr (v := 0) hL hX) (fun q hq => ((f4 rfl).1 q hq).trans (s3 q hq)) (fun q h1 h2 => ((f4 rfl).2 q h1 h2).trans (s4 q h1)) (fun q hq => (f2 q hq).trans (s4 q (by omega))) g6
      have la := la_2 (m := m') (show l < 12 by omega)
      rw [(g3.2.2.1.2.2.2.2 l hl).2.1] at la
      refine ⟨0, k' (30 + 4) l, k', k' (30 + 4) l, kBack m' (thr 0 m), 5 + (uc + 1), 593 + (us + 4), ?_, ?_, by rw [c3, thr_0]; exact zOk_0, ⟨n, L, y, c1, zXl_mono c2 (fun _ _ => by omega), by rw [(f4 rfl).1 15 (by decide), s3 15 (by decide)]; exact hy, by omega, g3.2.2.2.2.2.2 rfl⟩, by omega, by omega⟩
      · simp only [F_X5_foresee, F_X5_foresee_0, ny_1 (k := k) y1 y2, nl_1 hL hk2 hl, pz_bind, pz_nz, if_true, s1, g1, ru_1 (B := 30) hL g3.2.2.1.2.1 hl]
      · simp only [F_X6_foresee, F_X6_foresee_0, thr_e, isIn_1 (m := thr 0 m) b1 b2, pz_bind, pz_10, if_false, F_X6_foresee_21, il_1 hL hm2 hl, F_X6_foresee_35, g2, la, pz_kadds, Nat.add_zero]
/-! the mean -/
theorem nn_x (a : Int32) {b : Int32} (hb : b ≠ 0) : (FP.ddiv (FP.i2d a) (FP.i2d b)) &&& 9223372036854775807 ≤ 9218868437227405312 := by
  have hz : ¬ FP.Core.DZero (FP.Core.i2d b) := fun h => FP.Core.i2d_ne_zero hb ((FP.Core.zero_bits2 _).mp h)
  have ha : FP.Core.dIsNaN (FP.Core.i2d a) = false := by
    rw [← Bool.not_eq_true, FP.Core.isNaN_bits]
    have := (FP.Core.fin_bits _).mp (FP.Core.i2d_fin a)
    omega
  have h := FP.Core.ddiv_out ha (FP.Core.i2d_fin b) hz
  rw [← Bool.not_eq_true, FP.Core.isNaN_bits] at h
  rw [UInt64.le_iff_toNat_le]
  have e : (FP.ddiv (FP.i2d a) (FP.i2d b) &&& 9223372036854775807).toNat = (FP.Core.ddiv (FP.Core.i2d a) (FP.Core.i2d b)).toNat % 2 ^ 63 := FP.Core.mask_toNat _
  rw [e]
  have e2 : (9218868437227405312 : UInt64).toNat = 9218868437227405312 := rfl
  omega
theorem zM_mean (hA : zAll c k m) : ∃ d m', F_X5_mean k = some d ∧ F_X6_mean m = some (d, m') ∧ d &&& 9223372036854775807 ≤ 9218868437227405312 ∧ zAll (c + 1) k m' := by
  have hA' := hA
  obtain ⟨n, L, y, hR, hX, hy, hy2, hAh⟩ := hA
  have hR0 := zRel_thr (v := 0) hR
  have hn := hR.1.1
  have hk := hR.1.2.1
  have hm : thr 0 m 7 1 = nI n := hR0.1.2.2.1
  obtain ⟨⟨b1, b2⟩, b', g1, g2, g3, g4⟩ := pz_loop20 (α := Int32 × Int32) (α' := Int32) (β := UInt64) (β' := UInt64 × kS) (fun g i a => F_X5_mean_6 k g a.1 a.2 (nI i)) (fun g i a => F_X6_mean_9 g a (nI i) (thr 0 m)) (fun a => F_X5_mean_48 k a.1 a.2) (fun a => F_X6_mean_43 a (thr 0 m)) n (fun i a a' => a.1 = nI (zcnt (fun p => k (15 + 14) p = -1) i) ∧ a.2 = a')
    (fun a a' _ => ⟨fun g => by simp only [F_X5_mean_6, hk, pz_cT (show n < 2 ^ 31 by omega), if_true], fun g => by simp only [F_X6_mean_9, hm, pz_cT (show n < 2 ^ 31 by omega), if_true]⟩)
    (fun i a a' hi hI => by
      obtain ⟨a, al⟩ := a
      obtain ⟨i1, i2⟩ := hI
      have i1 : a = nI (zcnt (fun p => k (15 + 14) p = -1) i) := i1
      have i2 : al = a' := i2
      subst i2
      have c := pz_cF hi (show n < 2 ^ 31 by omega)
      have i40 : i < 40 := by omega
      have eag := pz_sub16 (B := 15) i hR0.1.2.2.2.1 hi hR0.2.2.1.2.2.2.1
      rcases hR0.2.1 i hi with ⟨l1, l2⟩ | ⟨l1, l2⟩
      · refine ⟨(a + 1, al + (k 15 0 - k 3 i)), al + (k 15 0 - k 3 i), fun g => ?_, fun g => ?_, ?_, rfl⟩
        · simp only [F_X5_mean_6, hk, c, if_false, F_X5_mean_17, li_1 hn hk hi l1, pz_bind, pz_10, F_X5_mean_28, ag_1 hn hk hi, F_X5_mean_42, nI_1]
        · simp only [F_X6_mean_9, hm, c, if_false, F_X6_mean_17, ri_1 i40 l2, pz_bind, pz_10, F_X6_mean_26, ra_1 i40, eag, F_X6_mean_35, nI_1]
        · show a + 1 = _
          rw [i1, nI_1, zcnt_s1 (A := fun p => k (15 + 14) p = -1) l1]
      · refine ⟨(a, al), al, fun g => ?_, fun g => ?_, ?_, rfl⟩
        · simp only [F_X5_mean_6, hk, c, if_false, F_X5_mean_17, li_0 hn hk hi l1, pz_bind, pz_00, if_true, F_X5_mean_42, nI_1]
        · simp only [F_X6_mean_9, hm, c, if_false, F_X6_mean_17, ri_0 i40 l2, pz_bind, pz_00, if_true, F_X6_mean_34, F_X6_mean_35, Int32.add_zero, nI_1]
        · show a = _
          rw [i1, zcnt_s0 (A := fun p => k (15 + 14) p = -1) l1])
    (by omega) (a := (0, 0)) (a' := 0) ⟨rfl, rfl⟩
  have g3 : b1 = nI (zcnt (fun p => k (15 + 14) p = -1) n) := g3
  have g4 : b2 = b' := g4
  subst g4
  obtain ⟨e1, e2⟩ := lv_x hn hk hm hR0.2.1
  have e3 : F_X6_counted (thr 0 m) 2 = some b1 := by
    rw [g3, ← e2]
    have c0 : ((2 : Int32) = 0) = False := eq_false (by decide)
    have c1 : ((2 : Int32) = 1) = False := eq_false (by decide)
    have c2 : ((2 : Int32) = 2) = True := eq_true rfl
    simp only [F_X6_counted, F_X6_counted_0, c0, c1, c2, if_true, if_false]
  have gc : F_X5_mean k = F_X5_mean_48 k b1 b2 := g1
  have gr : F_X6_mean m = F_X6_mean_43 b2 (thr 0 m) := g2
  by_cases hz : b1 = 0
  · refine ⟨FP.dconst0, thr 0 m, ?_, ?_, by decide, zAll_up (zAll_thr hA')⟩
    · rw [gc]; simp only [F_X5_mean_48, hz, if_true, F_X5_mean_52, F_X5_mean_61]
    · rw [gr]; simp only [F_X6_mean_43, e3, pz_bind, hz, if_true, F_X6_mean_51, F_X6_mean_64]
  · have nn := nn_x b2 hz
    have cn : ∀ {α : Type} (X : Option α), (if ¬ ((FP.ddiv (FP.i2d b2) (FP.i2d b1)) &&& 9223372036854775807 ≤ 9218868437227405312) then none else X) = X := fun X => if_neg (fun h => h nn)
    refine ⟨FP.ddiv (FP.i2d b2) (FP.i2d b1), thr 0 m, ?_, ?_, nn, zAll_up (zAll_thr hA')⟩
    · rw [gc, F_X5_mean_48, if_neg hz, F_X5_mean_56, cn]; rfl
    · rw [gr, F_X6_mean_43, e3, pz_bind, if_neg hz, F_X6_mean_55, e3, pz_bind, cn]; rfl
end ZE
