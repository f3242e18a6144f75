/-! A TURN OF THE LAW, as a whole -/
section ZS
variable {i j n n' L L' h0 h1 H H' c p q w x r B B' y y' l ag Y s A U E N o how t : Nat} {k k0 k1 k2 k' m m' m2 z z' mc : kS} {v v1 v2 v3 h a b gv d a3 a4 a5 a10 a12 a13 a14 a15 a16 s0 : Int32} {f f1 f2 f3 xs xf : Nat → Int32} {P : Nat → Int32} {c22 : Int32 → kS → kS → Option (Unit × Nat × Nat)}
theorem jG2_k (G : jG2 i n L h0 y k m z) (S' : jSt n L h0 (4100 * (2 * i + 1)) y k' m z) : jG2 i n L h0 y k' m z := by
  obtain ⟨S, g1, g2, g3, g4, g5, g6, g7⟩ := G
  exact ⟨S', g1, g2, g3, g4, g5, g6, jPr_cg S.1.1 S'.1.1 (fun _ _ => rfl) (fun _ _ => rfl) g7⟩
theorem lt_352 (xs : Nat → Int32) (N : Nat) (c22 : Int32 → kS → kS → Option (Unit × Nat × Nat)) (a3 a4 : Int32) (G : jG2 i n L h0 y k m z) (hi : i < 40) (h26 : 26 ≤ i) : ∃ k' m' z' h1 c s, F_L_law_352 xs N c22 a3 a4 k z = kadd c s (c22 (a3 + 1) k' z') ∧ jG (i + 1) n L h1 (y + 2) k' m' z' ∧ c + jPc n L m ≤ 5600 + jPc n L m' ∧ s + jPs n L m ≤ 33400 + jPs n L m' := by
  have G0 := G
  obtain ⟨S, g1, g2, g3, g4, g5, g6, g7⟩ := G
  have yr := jYr_le i (by omega)
  have hyr : y + 2 ≤ jYr (i + 1) := by
    unfold jYr at g1 ⊢
    rw [if_neg (show ¬ i + 1 ≤ 26 by omega)]
    by_cases c : i ≤ 26
    · rw [if_pos c] at g1; omega
    · rw [if_neg c] at g1; omega
  have R := S.2.2.2.2.1
  have hn := R.1
  have hL := R.2.1
  have hh : h0 + 12 * jAl n m + 12 * 41 + 13 < 4000 := by omega
  obtain ⟨dd, -, m2, -, -, -, -, uc, us, -, -, hF, -⟩ := jG_pass G0 hi (Y := 2) (by decide) (by decide) hyr
  have hF : F_X6_yearsOn 2 m = some ((dd, m2), uc, us) := hF
  obtain ⟨k1, c1, s1, e1, S1, hc1, hs1⟩ := lq_374 (xs := xs) (N := N) (c22 := c22) (a3 := a3) (a4 := a4) (a15 := 0) (y := y) (h0 := h0) (H := 4100 * (2 * i + 1)) (by omega) hh (by omega) n 0 kN k (by omega) (by show n < 4096; omega) S
  have e1 : F_L_law_374 xs N c22 kN a3 a4 (nI n) 0 0 0 0 0 k z = _ := e1
  obtain ⟨k2, xf, c2, s2, e2, S2, hx, hc2, hs2⟩ := lq_942 (xs := xs) (N := N) (c22 := c22) (a3 := a3) (a12 := nI (jAl n m)) (a13 := nI (jMd n m)) (a14 := nI (jWs n L m)) (y := y) (h0 := h0) (H := 4100 * (2 * i + 1)) (by omega) hF L 0 kN k1 (fun _ => 0) (by omega) (by show L < 4096; omega) S1 (fun l hl => absurd hl (Nat.not_lt_zero l))
  have e2 : F_L_law_942 xs N c22 kN a3 (nI L) (nI (jAl n m)) (nI (jMd n m)) (nI (jWs n L m)) 0 0 0 (nI L) (fun _ => 0) k1 z = _ := e2
  obtain ⟨d3, k', m', z', c3, s3, h1, uc3, us3, f1, f2, f3, G3, p1, p2⟩ := jG_pass (jG2_k G0 S2) hi (Y := 2) (by decide) (by decide) hyr
  have f3 : F_X6_yearsOn 2 m = some ((d3, m'), uc3, us3) := f3
  obtain rfl : m2 = m' := by
    rw [hF] at f3
    exact congrArg (fun o => o.1.2) (Option.some.inj f3)
  obtain ⟨d4, m4, z4, c4, s4, uc4, us4, d5, c5, s5, q1, q2, ⟨d6, m6, z6, c6, s6, uc6, us6, d7, c7, s7, q3, q4, ⟨t1, t2, t3, t4, t5⟩, t6, t7, t8⟩, t9, t10, t11⟩ := f2
  have e3 := lq_1181 (xs := xs) (N := N) (c22 := c22) (a3 := a3) G3.1 hx L 0 kN (by omega) (by show L < 4096; omega)
  have e3 : F_L_law_1181 xs N c22 kN a3 (nI L) 0 (nI L) xf k' z' = _ := e3
  have b1 : (nI L < 0 ∨ 100000000 < L) = False := by
    rw [pz_n0 (by omega)]
    exact eq_false (fun q => q.elim id (by omega))
  have cL : (nI L).toNatClampNeg = L := nI_clamp (by omega)
  have two : ((2 : Int32) = 0) = False := eq_false (by decide)
  have half : nI (zcnt (fun p => nI p < m 8 (9 * p + 5)) n) = nI (jMd n m) / 2 := by
    have zl := zcnt_le (fun p => nI p < m 8 (9 * p + 5)) n
    have e := pk_div (a := jMd n m) (d := 2) (by rw [jMd_2 S]; omega) (by decide) (by decide)
    have e : nI (jMd n m) / 2 = nI (jMd n m / 2) := e
    rw [e, jMd_2 S, Nat.mul_div_cancel_left _ (by decide)]
  have ww : (nI (jWs n L m) = nI (jLw L m)) = True := by rw [jWs_lw S]; exact eq_true rfl
  have f1 : F_X5_pass 2 k2 = some ((0, d3), k') := f1
  refine ⟨k', m2, z', h1, 4 + (c1 + (4 + (1 + (c2 + (4 + (4 + (4 + (4 + (c4 + (c6 + 4 * L)))))))))), 24 + (s1 + (24 + (L + (s2 + (24 + (24 + (24 + (24 + (s4 + (s6 + 24 * L)))))))))), ?_, G3, by omega, by omega⟩
  simp only [F_L_law_352, rd_c1 S, pz_bind, pz_nz, not_true_eq_false, if_false, e1, F_L_law_923, rd_c4 S1, b1, cL, e2, F_L_law_1121, rd_c2 S2, if_true, F_L_law_1131, rd_c3 S2, two, ← half, F_L_law_1143, ww, F_L_law_1150, rd_c5 S2, F_L_law_1162, f1, q2, q4, ← t3, e3, pz_kadd]
  congr 1 <;> omega
theorem lturn (xs : Nat → Int32) (N : Nat) (c22 : Int32 → kS → kS → Option (Unit × Nat × Nat)) (G : jG (26 + t) n L h0 y k m z) (ht : t < 14) : ∃ k' z' m' n' L' h1 y' c s, F_L_law_28 xs N c22 (nI t) k z = kadd c s (c22 (nI (t + 1)) k' z') ∧ jG (26 + (t + 1)) n' L' h1 y' k' m' z' ∧ c + jPc n L m ≤ 6000 + jPc n' L' m' ∧ s + jPs n L m ≤ 36100 + jPs n' L' m' := by
  have G0 := G
  obtain ⟨S, g1, g2, g3, g4, g5, g6, g7⟩ := G
  have R := S.2.2.2.2.1
  have hn := R.1
  have hL := R.2.1
  obtain ⟨r, er⟩ := cell_x xs N (show t < 2 ^ 31 by omega)
  obtain ⟨v, hv⟩ : ∃ v, v = r + (83 * nI t) := ⟨_, rfl⟩
  obtain ⟨k1, f1, f2, f3, e1, S1, hs1, hx⟩ := lb_68 (xs := xs) (N := N) (c22 := c22) (a3 := nI t) (a4 := v) S L 0 kN k (fun _ => 0) (fun _ => 0) (fun _ => 0) (by omega) (by show L < 4096; omega) S (zSame.rf 15 k) (fun l hl => absurd hl (Nat.not_lt_zero l))
  have e1 : F_L_law_68 xs N c22 kN (nI t) v (nI L) 0 (nI L) (fun _ => 0) (nI L) (fun _ => 0) (nI L) (fun _ => 0) k z = _ := e1
  have G1 : jG (26 + t) n L h0 y k1 m z := ⟨S1, g1, g2, g3, g4, g5, g6, jPr_cg S.1.1 S1.1.1 (fun _ _ => rfl) (fun _ _ => rfl) g7⟩
  obtain ⟨how, n', L', h1, k2, m2, z2, ca, sa, h12, hh, ea, G2, hlan, hLL, qa, qb⟩ := jG_act v G1 (by omega)
  have n4 : 4 ≤ n := g4 (by omega)
  have hh := (hh.resolve_left (fun q => by omega)).2
  have c4 : ((4 : Int32) ≤ nI n) = True := eq_true (nI_le (a := 4) n4 (by omega))
  have hf : ∀ l, l < L → f1 l = m 9 (4 * l + 2) ∧ f3 l = m 9 (4 * l + 3) ∧ jCf m m2 f2 how l := by
    intro l hl
    obtain ⟨x1, x2, x3⟩ := hx l hl
    refine ⟨x1, x3, ?_⟩
    rcases hlan with h | ⟨h, l0, g, b1, b2, b3, b4, b5, b6⟩ | ⟨h, r0, b1, b2⟩
    · exact Or.inl (h l hl)
    · by_cases e : l = l0
      · subst e
        have e2 : m2 9 (4 * l + 2) = nI g := b5.2.2.1
        refine Or.inr ⟨by rw [e2]; exact fun q => b4 q.symm, Or.inr h, by rw [e2]; exact b5⟩
      · exact Or.inl (b6 l hl e)
    · by_cases e : m 9 (4 * l + 2) = nI r0
      · obtain ⟨u, ⟨w, kk, w3, w4, w5⟩, u2⟩ := (b2 l hl).1 e
        have e2 : m2 9 (4 * l + 2) = u := u2.2.2.1
        obtain ⟨kk2, u3, -⟩ := (x2 r0 w b1 w3 e w4).1 k1 hs1
        have uf : u = f2 l := by
          rw [w5] at u3
          exact congrArg (fun o => o.1) (Option.some.inj u3)
        by_cases same : m2 9 (4 * l + 2) = m 9 (4 * l + 2)
        · exact Or.inl same
        · exact Or.inr ⟨same, Or.inl ⟨h, e2.trans uf⟩, by rw [e2]; exact u2⟩
      · exact Or.inl ((b2 l hl).2 e)
  obtain ⟨c5, s5, e5, b5, b6⟩ := lc_160 (xs := xs) (N := N) (c22 := c22) (a3 := nI t) (a4 := v) (how := how) S1 G2.1 (by omega) (by omega) hLL hf L 0 kN (by omega) (by show L < 4096; omega)
  have e5 : F_L_law_160 xs N c22 kN (nI t) v (nI L) (nI how) 0 0 (nI L) f1 (nI L) f2 (nI L) f3 k2 z2 = _ := e5
  obtain ⟨k3, m3, z3, h3, c6, s6, e6, G3, p1, p2⟩ := lt_352 xs N c22 (nI t) v G2 (by omega) (by omega)
  have e337 : F_L_law_337 xs N c22 (nI t) v (nI how) (nI (zcnt (fun l => m2 9 (4 * l + 2) ≠ m 9 (4 * l + 2)) L)) k2 z2 = F_L_law_352 xs N c22 (nI t) v k2 z2 := by
    by_cases h10 : how = 10
    · have c1 : (nI how = 10) = True := by rw [h10]; exact eq_true rfl
      simp only [F_L_law_337, c1, if_true]
    · have c1 : (nI how = 10) = False := by rw [pz_e10 (by omega)]; exact eq_false h10
      have le : zcnt (fun l => m2 9 (4 * l + 2) ≠ m 9 (4 * l + 2)) L ≤ 1 := by
        rcases hlan with h | ⟨h, l0, g, b1, b2, b3, b4, b5, b6⟩ | ⟨h, -⟩
        · rw [zcnt_none (fun l hl q => q (h l hl))]; omega
        · exact (zcnt_one (x := l0) L (fun l hl q => by
            by_cases e : l = l0
            · exact e
            · exact absurd (b6 l hl e) q)).1
        · exact absurd h h10
      have c2 : (nI (zcnt (fun l => m2 9 (4 * l + 2) ≠ m 9 (4 * l + 2)) L) ≤ 1) = True := by
        have : (nI (zcnt (fun l => m2 9 (4 * l + 2) ≠ m 9 (4 * l + 2)) L) ≤ nI 1) = _ := pz_le (by omega) (by decide)
        rw [show (1 : Int32) = nI 1 from rfl, this]; exact eq_true le
      simp only [F_L_law_337, c1, if_false, F_L_law_344, c2, if_true]
  have b1 : (nI L < 0 ∨ 100000000 < L) = False := by
    rw [pz_n0 (by omega)]
    exact eq_false (fun q => q.elim id (by omega))
  have cL : (nI L).toNatClampNeg = L := nI_clamp (by omega)
  refine ⟨k3, z3, m3, n', L', h3, y + 2, 4 + (1 + (1 + (1 + (12 * L + (4 + (ca + (c5 + c6))))))), 24 + (L + (L + (L + (72 * L + (24 + (sa + (s5 + s6))))))), ?_, G3, by omega, by omega⟩
  rw [← nI_1]
  simp only [F_L_law_28, er, pz_bind, ← hv, rd_c4 S, pz_nz, not_true_eq_false, if_false, b1, cL, e1, F_L_law_117, rd_c1 S1, c4, if_true, F_L_law_130, hh, F_L_law_140, ea, pz_10, F_L_law_154, e5, e337, e6, pz_kadd]
  congr 1 <;> omega
/-- the loop of fourteen turns -/
theorem lloop (xs : Nat → Int32) (N : Nat) : ∀ (d t g n L h0 y : Nat) (k m z : kS), t + d = 14 → d < g → jG (26 + t) n L h0 y k m z → ∃ k' z' m' n' L' h' y' c s, F_L_law_22 xs N g (nI t) k z = kadd c s (F_L_law_1217 xs N k' z') ∧ jG 40 n' L' h' y' k' m' z' ∧ c + jPc n L m ≤ 6000 * d + jPc n' L' m' ∧ s + jPs n L m ≤ 36100 * d + jPs n' L' m'
  | 0, t, g, n, L, h0, y, k, m, z, hd, hg, G => by
    obtain ⟨g, rfl⟩ : ∃ x, g = x + 1 := ⟨g - 1, by omega⟩
    obtain rfl : t = 14 := by omega
    have c1 : ((14 : Int32) ≤ nI 14) = True := eq_true (by decide)
    refine ⟨k, z, m, n, L, h0, y, 0, 0, ?_, G, by omega, by omega⟩
    rw [pz_kadd0]
    simp only [F_L_law_22, c1, if_true]
  | d + 1, t, g, n, L, h0, y, k, m, z, hd, hg, G => by
    obtain ⟨g, rfl⟩ : ∃ x, g = x + 1 := ⟨g - 1, by omega⟩
    have c1 : ((14 : Int32) ≤ nI t) = False := eq_false (nI_ge (b := 14) (by omega) (by decide))
    obtain ⟨k1, z1, m1, n1, L1, h1, y1, c, s, e1, G1, p1, p2⟩ := lturn xs N (F_L_law_22 xs N g) G (by omega)
    obtain ⟨k', z', m', n', L', h', y', c2, s2, e2, G2, p3, p4⟩ := lloop xs N d (t + 1) g n1 L1 h1 y1 k1 m1 z1 (by omega) (by omega) G1
    refine ⟨k', z', m', n', L', h', y', c + c2, s + s2, ?_, G2, by omega, by omega⟩
    rw [← pz_kadd, ← e2, ← e1]
    simp only [F_L_law_22, c1, if_false]
end ZS
