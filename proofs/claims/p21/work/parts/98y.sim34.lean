/-! THE LAW'S LOOPS over persons and lands, behind an act -/
noncomputable def jlw (m : kS) (l : Nat) : Int32 := if m 9 (4 * l + 2) = -1 then 0 else m 9 (4 * l)
noncomputable def jln (m : kS) (l : Nat) : Int32 := if m 9 (4 * l + 2) = -1 then 1 else 0
section ZS
variable {i j n L h0 H c p q w x r B B' y y' l ag Y s A U E N o : Nat} {k k1 k2 k' m m' m2 z z' mc : kS} {v v1 v2 v3 h a b t gv d a3 a4 a12 a13 a14 a15 a16 s0 : Int32} {f xs xf : Nat → Int32} {P : Nat → Int32} {c22 : Int32 → kS → kS → Option (Unit × Nat × Nat)} {c942 : Int32 → Int32 → Int32 → Int32 → Int32 → Int32 → Int32 → Int32 → Int32 → (Nat → Int32) → kS → kS → Option (Unit × Nat × Nat)}
theorem lq_374 (hy : y < 2 ^ 27) (hh : h0 + 12 * jAl n m + 12 * 41 + 13 < 4000) (hH : H < 2 ^ 28) : ∀ (d i g : Nat) (k : kS), i + d = n → d < g → jSt n L h0 H y k m z → ∃ k' c s, F_L_law_374 xs N c22 g a3 a4 (nI n) (nI (zcnt (fun p => m 8 (9 * p + 2) = 1) i)) (nI (zcnt (fun p => m 8 (9 * p + 5) ≠ -1) i)) (nI (jWs i L m)) a15 (nI i) k z = kadd c s (F_L_law_923 xs N c22 a3 (nI (jAl n m)) (nI (jMd n m)) (nI (jWs n L m)) a15 k' z) ∧ jSt n L h0 H y k' m z ∧ c ≤ 124 * d ∧ s ≤ 744 * d
  | 0, i, g, k, hd, hg, S => by
    have hn := S.1.1.1
    obtain ⟨g, rfl⟩ : ∃ x, g = x + 1 := ⟨g - 1, by omega⟩
    obtain rfl : i = n := by omega
    refine ⟨k, 0, 0, ?_, S, by omega, by omega⟩
    rw [pz_kadd0]
    simp only [F_L_law_374, pz_cT (show i < 2 ^ 31 by omega), if_true]
    rfl
  | d + 1, i, g, k, hd, hg, S => by
    have hn := S.1.1.1
    obtain ⟨g, rfl⟩ : ∃ x, g = x + 1 := ⟨g - 1, by omega⟩
    have hi : i < n := by omega
    obtain ⟨k1, c1, s1, e1, S1, hc1, hs1⟩ := lp_381 (a3 := a3) (a4 := a4) (a12 := nI (zcnt (fun p => m 8 (9 * p + 2) = 1) i)) (a13 := nI (zcnt (fun p => m 8 (9 * p + 5) ≠ -1) i)) (a14 := nI (jWs i L m)) (a15 := a15) (xs := xs) (N := N) (c22 := c22) (c374 := F_L_law_374 xs N c22 g) S hi hy hh hH
    obtain ⟨k', c2, s2, e2, S2, hc2, hs2⟩ := lq_374 hy hh hH d (i + 1) g k1 (by omega) (by omega) S1
    refine ⟨k', c1 + c2, s1 + s2, ?_, S2, by omega, by omega⟩
    have u1 : nI (zcnt (fun p => m 8 (9 * p + 2) = 1) i) + m 8 (9 * i + 2) = nI (zcnt (fun p => m 8 (9 * p + 2) = 1) (i + 1)) := by
      rcases S.1.2.1 i hi with ⟨-, l2⟩ | ⟨-, l2⟩
      · rw [l2, nI_1, zcnt_s1 (A := fun p => m 8 (9 * p + 2) = 1) l2]
      · rw [l2, Int32.add_zero, zcnt_s0 (A := fun p => m 8 (9 * p + 2) = 1) (by rw [l2]; decide)]
    have u2 : nI (zcnt (fun p => m 8 (9 * p + 5) ≠ -1) i) + jmd m i = nI (zcnt (fun p => m 8 (9 * p + 5) ≠ -1) (i + 1)) := by
      unfold jmd
      by_cases h5 : m 8 (9 * i + 5) = -1
      · rw [if_pos h5, Int32.add_zero, zcnt_s0 (A := fun p => m 8 (9 * p + 5) ≠ -1) (fun q => q h5)]
      · rw [if_neg h5, nI_1, zcnt_s1 (A := fun p => m 8 (9 * p + 5) ≠ -1) h5]
    have u3 : nI (jWs i L m) + nI (zws m (nI i) L) = nI (jWs (i + 1) L m) := by
      rw [nI_add]
      unfold jWs
      rw [jsT_s]
    rw [← pz_kadd, ← e2]
    have e0 : F_L_law_374 xs N c22 (g + 1) a3 a4 (nI n) (nI (zcnt (fun p => m 8 (9 * p + 2) = 1) i)) (nI (zcnt (fun p => m 8 (9 * p + 5) ≠ -1) i)) (nI (jWs i L m)) a15 (nI i) k z = F_L_law_381 xs N c22 (F_L_law_374 xs N c22 g) a3 a4 (nI n) (nI (zcnt (fun p => m 8 (9 * p + 2) = 1) i)) (nI (zcnt (fun p => m 8 (9 * p + 5) ≠ -1) i)) (nI (jWs i L m)) a15 (nI i) k z := by
      simp only [F_L_law_374, pz_cF hi (show n < 2 ^ 31 by omega), if_false]
    rw [e0, e1]
    show kadd c1 s1 (F_L_law_374 xs N c22 g a3 a4 (nI n) (nI (zcnt (fun p => m 8 (9 * p + 2) = 1) i) + m 8 (9 * i + 2)) (nI (zcnt (fun p => m 8 (9 * p + 5) ≠ -1) i) + jmd m i) (nI (jWs i L m) + nI (zws m (nI i) L)) a15 (nI i + 1) k1 z) = _
    rw [u1, u2, u3, nI_1]
/-! a land -/
theorem lr_1103 (S : jSt n L h0 H y k m z) (hl : l < L) (hy : y < 2 ^ 27) {dd : Int32} {uc us : Nat} (hF : F_X6_yearsOn 2 m = some ((dd, m2), uc, us)) : jGo n L h0 H y m z (fun k => c942 a3 (nI L) a12 a13 a14 a15 a16 (nI l + 1) (nI L) (upd xf l (m2 9 (4 * l + 2))) k z) 1 (F_L_law_1103 xs N c22 c942 a3 (nI L) a12 a13 a14 a15 a16 (nI l) (nI L) xf k z) := by
  have R := S.2.2.2.2.1
  have hL := R.2.1
  obtain ⟨g, k1, e, S1, hg⟩ := rd_fo S (by omega) hl
  obtain rfl := hg _ _ _ _ hF
  have cL : (nI L).toNatClampNeg = L := nI_clamp (by omega)
  have e0 : F_L_law_1103 xs N c22 c942 a3 (nI L) a12 a13 a14 a15 a16 (nI l) (nI L) xf k z = kadd 4 24 (c942 a3 (nI L) a12 a13 a14 a15 a16 (nI l + 1) (nI L) (upd xf l (m2 9 (4 * l + 2))) k1 z) := by
    simp only [F_L_law_1103, e, pz_bind, pz_nz, not_true_eq_false, if_false, cL, jR_ngL R (hl), jR_clL R (hl), pz_ge (hl), or_self, if_false]
  rw [e0]
  exact jGo_k (jGo_0 (K := fun k => c942 a3 (nI L) a12 a13 a14 a15 a16 (nI l + 1) (nI L) (upd xf l (m2 9 (4 * l + 2))) k z) S1)
theorem lr_1067 (S : jSt n L h0 H y k m z) (hl : l < L) (hy : y < 2 ^ 27) {dd : Int32} {uc us : Nat} (hF : F_X6_yearsOn 2 m = some ((dd, m2), uc, us)) (hp : p < n) (hv : v = -1 ∨ ∃ q, q < n ∧ v = nI q ∧ k 29 q = -1 ∧ k 15 0 - k 3 p < 16) : jGo n L h0 H y m z (fun k => c942 a3 (nI L) a12 a13 a14 a15 a16 (nI l + 1) (nI L) (upd xf l (m2 9 (4 * l + 2))) k z) 4 (F_L_law_1067 xs N c22 c942 a3 (nI L) a12 a13 a14 a15 a16 (nI l) (nI p) v (nI L) xf k z) := by
  have fin := lr_1103 (a3 := a3) (a12 := a12) (a13 := a13) (a14 := a14) (a15 := a15) (a16 := a16) (xf := xf) (xs := xs) (N := N) (c22 := c22) (c942 := c942) S hl hy hF
  rcases hv with rfl | ⟨q, hq, rfl, lq, ag⟩
  · simp only [F_L_law_1067, pz_mn, if_true]
    exact jGo_up fin (by omega)
  · have lt : (15 < nI y - m 8 (9 * p + 1)) = False := by
      rw [(S.1.1.2.2.2.1 p hp).2.1, ← S.2.2.1]
      refine eq_false (Int32.not_lt.mpr ?_)
      rw [jle15]; exact ag
    have q2 : m 8 (9 * q + 2) = 1 := by
      rcases S.1.2.1 q hq with ⟨-, h⟩ | ⟨h, -⟩
      · exact h
      · exact absurd lq h
    have e0 : F_L_law_1067 xs N c22 c942 a3 (nI L) a12 a13 a14 a15 a16 (nI l) (nI p) (nI q) (nI L) xf k z = kadd 4 24 (kadd 4 24 (kadd 4 24 (F_L_law_1103 xs N c22 c942 a3 (nI L) a12 a13 a14 a15 a16 (nI l) (nI L) xf k z))) := by
      simp only [F_L_law_1067, jR_ng S.2.2.2.2.1 hq, if_false, F_L_law_1072, rd_c0 S, pz_bind, pz_nz, not_true_eq_false, rd_p1 S hp, lt, F_L_law_1090, rd_p2 S hq, q2, if_true]
    rw [e0]; exact jGo_k (jGo_k (jGo_k fin))
theorem lr_1028 (S : jSt n L h0 H y k m z) (hl : l < L) (hy : y < 2 ^ 27) {dd : Int32} {uc us : Nat} (hF : F_X6_yearsOn 2 m = some ((dd, m2), uc, us)) (hp : p < n) (hv : v = -1 ∨ ∃ q, q < n ∧ v = nI q ∧ k 29 q = -1 ∧ k 15 0 - k 3 p < 16) (hh : h = -1 ∨ ∃ q, q < n ∧ q ≠ p ∧ h = nI q ∧ k 29 q = -1 ∧ k (69 + q) p ≠ -1) : jGo n L h0 H y m z (fun k => c942 a3 (nI L) a12 a13 a14 a15 a16 (nI l + 1) (nI L) (upd xf l (m2 9 (4 * l + 2))) k z) 6 (F_L_law_1028 xs N c22 c942 a3 (nI L) a12 a13 a14 a15 a16 (nI l) (nI p) h v (nI L) xf k z) := by
  have hn := S.1.1.1
  have fin := lr_1067 (a3 := a3) (a12 := a12) (a13 := a13) (a14 := a14) (a15 := a15) (a16 := a16) (xf := xf) (xs := xs) (N := N) (c22 := c22) (c942 := c942) S hl hy hF hp hv
  rcases hh with rfl | ⟨q, hq, hqp, rfl, lq, rel⟩
  · simp only [F_L_law_1028, pz_mn, if_true]
    exact jGo_up fin (by omega)
  · have q2 : m 8 (9 * q + 2) = 1 := by
      rcases S.1.2.1 q hq with ⟨-, h⟩ | ⟨h, -⟩
      · exact h
      · exact absurd lq h
    have ne : (nI q = nI p) = False := by rw [pz_eq (by omega) (by omega)]; exact eq_false hqp
    rcases zst_v S.1.1 hq hp with g | ⟨t, ht, g⟩
    · exact absurd g rel
    · have e0 : F_L_law_1028 xs N c22 c942 a3 (nI L) a12 a13 a14 a15 a16 (nI l) (nI p) (nI q) v (nI L) xf k z = kadd 4 24 (kadd 4 24 (F_L_law_1067 xs N c22 c942 a3 (nI L) a12 a13 a14 a15 a16 (nI l) (nI p) v (nI L) xf k z)) := by
        simp only [F_L_law_1028, jR_ng S.2.2.2.2.1 hq, if_false, F_L_law_1033, jR_ng S.2.2.2.2.1 hp, F_L_law_1038, ne, F_L_law_1045, rd_p2 S hq, pz_bind, pz_nz, not_true_eq_false, q2, if_true, F_L_law_1056, rd_re S hq hp, g, pz_n0 (show t < 2 ^ 31 by omega)]
      rw [e0]; exact jGo_k (jGo_k fin)
theorem lr_949 (S : jSt n L h0 H y k m z) (hl : l < L) (hy : y < 2 ^ 27) {dd : Int32} {uc us : Nat} (hF : F_X6_yearsOn 2 m = some ((dd, m2), uc, us)) : jGo n L h0 H y m z (fun k => c942 a3 (nI L) a12 a13 a14 (a15 + jlw m l) (a16 + jln m l) (nI l + 1) (nI L) (upd xf l (m2 9 (4 * l + 2))) k z) 11 (F_L_law_949 xs N c22 c942 a3 (nI L) a12 a13 a14 a15 a16 (nI l) (nI L) xf k z) := by
  have hn := S.1.1.1
  have r2 := rd_l2 S hl
  have c0 : ((0 : Int32) ≤ -1) = False := eq_false (by decide)
  rcases rd_l4 S hl with ⟨e, r4⟩ | ⟨p, w, hp, hw, e, e3, lp, r4⟩
  · have fin := lr_1103 (a3 := a3) (a12 := a12) (a13 := a13) (a14 := a14) (a15 := a15 + jlw m l) (a16 := a16 + jln m l) (xf := xf) (xs := xs) (N := N) (c22 := c22) (c942 := c942) S hl hy hF
    have j1 : jlw m l = 0 := if_pos e
    have j2 : jln m l = 1 := if_pos e
    rw [j1, j2] at fin ⊢
    have r3 : F_X5_land (nI l) 3 k = some ((0, -1), k) := by
      rcases rd_l3 S hl with ⟨-, g⟩ | ⟨p, hp, g, -⟩
      · exact g
      · rw [e] at g; exact absurd g.symm (pz_m1 (by omega))
    rw [e] at r2
    have e0 : F_L_law_949 xs N c22 c942 a3 (nI L) a12 a13 a14 a15 a16 (nI l) (nI L) xf k z = kadd 4 24 (kadd 4 24 (kadd 4 24 (F_L_law_1103 xs N c22 c942 a3 (nI L) a12 a13 a14 (a15 + 0) (a16 + 1) (nI l) (nI L) xf k z))) := by
      simp only [F_L_law_949, r2, r3, r4, pz_bind, pz_nz, not_true_eq_false, if_false, c0, F_L_law_983, F_L_law_994, F_L_law_1004, F_L_law_1009, pz_mn, if_true, F_L_law_1028, F_L_law_1067]
    rw [e0]; exact jGo_up (jGo_k (jGo_k (jGo_k fin))) (by omega)
  · obtain ⟨g, k1, cc, ss, q1, -, q3, q4, q5, -⟩ := jhe_x S.2.2.2.2.1 S.1.1 (jSt_lv S (by omega)) hp hw
    have r4 := r4 _ _ q1
    have S1 := jSt_off S q3
    have j1 : jlw m l = m 9 (4 * l) := if_neg (by rw [e]; exact pz_m1 (by omega))
    have j2 : jln m l = 0 := if_neg (by rw [e]; exact pz_m1 (by omega))
    obtain ⟨rg, g1, -, g3⟩ := jrg_x S1.2.2.2.2.1 S1.1.1 (jSt_lv S1 (by omega)) ((jSt_z0 S1).trans S1.2.2.1.symm) hp (by rw [q3 29 (by decide) (by decide)]; exact lp)
    have r3 : F_X5_land (nI l) 3 k1 = some ((0, rg), k1) := by
      rcases rd_l3 S1 hl with ⟨g, -⟩ | ⟨p', hp', g, -, r⟩
      · rw [e] at g; exact absurd g (pz_m1 (by omega))
      · rw [e, nI_eq (by omega) (by omega)] at g
        subst g
        exact r rg g1
    have hh : g = -1 ∨ ∃ q, q < n ∧ q ≠ p ∧ g = nI q ∧ k1 29 q = -1 ∧ k1 (69 + q) p ≠ -1 := by
      rcases q4 with h | ⟨q, u1, u2, u3, u4⟩
      · exact Or.inl h
      · refine Or.inr ⟨q, u1, u2, u3, by rw [q3 29 (by decide) (by decide)]; exact u4, ?_⟩
        rw [q3 _ (by omega) (by omega)]
        rcases q5 with h | ⟨q', lt, h, h2⟩
        · rw [u3] at h; exact absurd h (pz_m1 (by omega))
        · have hq' : q' = q := by
            rw [u3, nI_eq (by omega) lt] at h; exact h.symm
          rw [← hq']; exact h2
    have fin := lr_1028 (a3 := a3) (a12 := a12) (a13 := a13) (a14 := a14) (a15 := a15 + jlw m l) (a16 := a16 + jln m l) (xf := xf) (xs := xs) (N := N) (c22 := c22) (c942 := c942) S1 hl hy hF hp g3 hh
    rw [j1, j2] at fin ⊢
    rw [e] at r2
    have p2 : m 8 (9 * p + 2) = 1 := by
      rcases S.1.2.1 p hp with ⟨-, h⟩ | ⟨h, -⟩
      · exact h
      · exact absurd lp h
    have cp : ((0 : Int32) ≤ nI p) = True := eq_true (nI_pos' (by omega))
    have e0 : F_L_law_949 xs N c22 c942 a3 (nI L) a12 a13 a14 a15 a16 (nI l) (nI L) xf k z = kadd 4 24 (kadd 4 24 (kadd 4 24 (kadd 4 24 (kadd 4 24 (F_L_law_1028 xs N c22 c942 a3 (nI L) a12 a13 a14 (a15 + m 9 (4 * l)) (a16 + 0) (nI l) (nI p) g rg (nI L) xf k1 z))))) := by
      simp only [F_L_law_949, r2, r3, r4, pz_bind, pz_nz, not_true_eq_false, if_false, cp, if_true, F_L_law_987, rd_l0 S1 hl, F_L_law_994, F_L_law_1008, F_L_law_1009, jR_ng S.2.2.2.2.1 hp, F_L_law_1017, rd_p2 S1 hp, p2]
    rw [e0]; exact jGo_k (jGo_k (jGo_k (jGo_k (jGo_k fin))))
theorem lq_942 (hy : y < 2 ^ 27) {dd : Int32} {uc us : Nat} (hF : F_X6_yearsOn 2 m = some ((dd, m2), uc, us)) : ∀ (d i g : Nat) (k : kS) (xf : Nat → Int32), i + d = L → d < g → jSt n L h0 H y k m z → (∀ l, l < i → xf l = m2 9 (4 * l + 2)) → ∃ k' xf' c s, F_L_law_942 xs N c22 g a3 (nI L) a12 a13 a14 (nI (jLw i m)) (nI (zcnt (fun l => m 9 (4 * l + 2) = -1) i)) (nI i) (nI L) xf k z = kadd c s (F_L_law_1121 xs N c22 a3 (nI L) a12 a13 a14 (nI (jLw L m)) (nI (zcnt (fun l => m 9 (4 * l + 2) = -1) L)) (nI L) xf' k' z) ∧ jSt n L h0 H y k' m z ∧ (∀ l, l < L → xf' l = m2 9 (4 * l + 2)) ∧ c ≤ 44 * d ∧ s ≤ 264 * d
  | 0, i, g, k, xf, hd, hg, S, hx => by
    have hL := S.2.2.2.2.1.2.1
    obtain ⟨g, rfl⟩ : ∃ x, g = x + 1 := ⟨g - 1, by omega⟩
    obtain rfl : i = L := by omega
    refine ⟨k, xf, 0, 0, ?_, S, hx, by omega, by omega⟩
    rw [pz_kadd0]
    simp only [F_L_law_942, pz_cT (show i < 2 ^ 31 by omega), if_true]
  | d + 1, i, g, k, xf, hd, hg, S, hx => by
    have hL := S.2.2.2.2.1.2.1
    obtain ⟨g, rfl⟩ : ∃ x, g = x + 1 := ⟨g - 1, by omega⟩
    have hi : i < L := by omega
    obtain ⟨k1, c1, s1, e1, S1, hc1, hs1⟩ := lr_949 (a3 := a3) (a12 := a12) (a13 := a13) (a14 := a14) (a15 := nI (jLw i m)) (a16 := nI (zcnt (fun l => m 9 (4 * l + 2) = -1) i)) (xf := xf) (xs := xs) (N := N) (c22 := c22) (c942 := F_L_law_942 xs N c22 g) S hi hy hF
    obtain ⟨k', xf', c2, s2, e2, S2, hx2, hc2, hs2⟩ := lq_942 hy hF d (i + 1) g k1 (upd xf i (m2 9 (4 * i + 2))) (by omega) (by omega) S1 (fun l hl => by
      by_cases h : l = i
      · rw [h, pz_us]
      · rw [pz_un h]; exact hx l (by omega))
    refine ⟨k', xf', c1 + c2, s1 + s2, ?_, S2, hx2, by omega, by omega⟩
    obtain ⟨t, ht, et⟩ := jSt_wo S i hi
    have u1 : nI (jLw i m) + jlw m i = nI (jLw (i + 1) m) := by
      unfold jlw jLw
      by_cases h5 : m 9 (4 * i + 2) = -1
      · rw [if_pos h5, Int32.add_zero, jsm_0 (A := fun l => m 9 (4 * l + 2) ≠ -1) (fun q => q h5)]
      · rw [if_neg h5, jsm_1 (A := fun l => m 9 (4 * l + 2) ≠ -1) h5, et, nI_add, nI_clamp (show t < 2 ^ 31 by omega)]
    have u2 : nI (zcnt (fun l => m 9 (4 * l + 2) = -1) i) + jln m i = nI (zcnt (fun l => m 9 (4 * l + 2) = -1) (i + 1)) := by
      unfold jln
      by_cases h5 : m 9 (4 * i + 2) = -1
      · rw [if_pos h5, nI_1, zcnt_s1 (A := fun l => m 9 (4 * l + 2) = -1) h5]
      · rw [if_neg h5, Int32.add_zero, zcnt_s0 (A := fun l => m 9 (4 * l + 2) = -1) h5]
    rw [← pz_kadd, ← e2]
    have e0 : F_L_law_942 xs N c22 (g + 1) a3 (nI L) a12 a13 a14 (nI (jLw i m)) (nI (zcnt (fun l => m 9 (4 * l + 2) = -1) i)) (nI i) (nI L) xf k z = F_L_law_949 xs N c22 (F_L_law_942 xs N c22 g) a3 (nI L) a12 a13 a14 (nI (jLw i m)) (nI (zcnt (fun l => m 9 (4 * l + 2) = -1) i)) (nI i) (nI L) xf k z := by
      simp only [F_L_law_942, pz_cF hi (show L < 2 ^ 31 by omega), if_false]
    rw [e0, e1]
    show kadd c1 s1 (F_L_law_942 xs N c22 g a3 (nI L) a12 a13 a14 (nI (jLw i m) + jlw m i) (nI (zcnt (fun l => m 9 (4 * l + 2) = -1) i) + jln m i) (nI i + 1) (nI L) (upd xf i (m2 9 (4 * i + 2))) k1 z) = _
    rw [u1, u2, nI_1]
/-! behind the years each land has the ruler that was foreseen -/
theorem lq_1181 (S : jSt n L h0 H y k m z) (hx : ∀ l, l < L → xf l = m 9 (4 * l + 2)) : ∀ (d i g : Nat), i + d = L → d < g → F_L_law_1181 xs N c22 g a3 (nI L) (nI i) (nI L) xf k z = kadd (4 * d) (24 * d) (c22 (a3 + 1) k z)
  | 0, i, g, hd, hg => by
    have hL := S.2.2.2.2.1.2.1
    obtain ⟨g, rfl⟩ : ∃ x, g = x + 1 := ⟨g - 1, by omega⟩
    obtain rfl : i = L := by omega
    show _ = kadd 0 0 (c22 (a3 + 1) k z)
    rw [pz_kadd0]
    simp only [F_L_law_1181, pz_cT (show i < 2 ^ 31 by omega), if_true, F_L_law_1211]
  | d + 1, i, g, hd, hg => by
    have R := S.2.2.2.2.1
    have hL := R.2.1
    obtain ⟨g, rfl⟩ : ∃ x, g = x + 1 := ⟨g - 1, by omega⟩
    have hi : i < L := by omega
    have cL : (nI L).toNatClampNeg = L := nI_clamp (by omega)
    have ih := lq_1181 S hx d (i + 1) g (by omega) (by omega)
    rw [show 4 * (d + 1) = 4 + 4 * d by omega, show 24 * (d + 1) = 24 + 24 * d by omega, ← pz_kadd, ← ih]
    simp only [F_L_law_1181, pz_cF hi (show L < 2 ^ 31 by omega), if_false, F_L_law_1188, rd_l2 S hi, pz_bind, pz_nz, not_true_eq_false, cL, jR_ngL R (hi), jR_clL R (hi), pz_ge (hi), or_self, if_false, hx i hi, if_true, F_L_law_1205, nI_1]
end ZS
