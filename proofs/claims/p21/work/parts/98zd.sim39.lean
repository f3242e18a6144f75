/-! IN THE END ALL IS AS BY HAND: the lands, and all of it -/
section ZS
variable {n L h0 H p q w x y l : Nat} {k k0 k1 k' m z : kS} {v v2 v3 v4 v5 v6 v7 v9 v10 : Int32} {f : Nat → Int32} {c320 : Int32 → Int32 → Int32 → Int32 → Int32 → Int32 → Int32 → kS → Option ((Int32 × kS) × Nat × Nat)}
/-- regent and heir by hand, and as they are told -/
theorem is_la (S : jSt n L h0 H y k m z) (hl : l < L) (hy : y < 2 ^ 27) : ∃ rg hv c s, F_X8_regent z (m 9 (4 * l + 2)) = some rg ∧ jk n rg ∧ jk n hv ∧ ((m 9 (4 * l + 2) = -1 ∧ hv = -1 ∧ c = 0 ∧ s = 0) ∨ (m 9 (4 * l + 2) ≠ -1 ∧ F_X8_heir z (m 9 (4 * l + 2)) (m 9 (4 * l + 1)) = some (hv, c, s))) ∧ c ≤ 3 + 3 * jmx k n n ∧ s ≤ 3 * jmx k n n ∧ (∀ k', jSt n L h0 H y k' m z → F_X5_land (nI l) 3 k' = some ((0, rg), k')) ∧ ∀ k', jSt n L h0 H y k' m z → zSame 15 k k' → ∃ k1, F_X5_land (nI l) 4 k' = some ((0, hv), k1) ∧ jSt n L h0 H y k1 m z ∧ zSame 15 k k1 := by
  have hn := S.1.1.1
  rcases rd_l4 S hl with ⟨e, r4⟩ | ⟨p, w, hp, hw, e, e3, lp, r4⟩
  · rw [e]
    refine ⟨-1, -1, 0, 0, jrg_m, jk_m n, jk_m n, Or.inl ⟨rfl, rfl, rfl, rfl⟩, by omega, by omega, fun k' S' => ?_, fun k' S' hs => ?_⟩
    · rcases rd_l3 S' hl with ⟨-, g⟩ | ⟨p, hp, g, -⟩
      · exact g
      · rw [e] at g; exact absurd g.symm (pz_m1 (by omega))
    · rcases rd_l4 S' hl with ⟨-, g⟩ | ⟨p, w, hp, -, g, -⟩
      · exact ⟨k', g, S', hs⟩
      · rw [e] at g; exact absurd g.symm (pz_m1 (by omega))
  · rw [e, e3]
    obtain ⟨hv, k9, c, s, q1, q2, q3, q4, q5, q6, q7⟩ := jhe_x S.2.2.2.2.1 S.1.1 (jSt_lv S (by omega)) hp hw
    obtain ⟨rg, g1, g2, g3⟩ := jrg_x S.2.2.2.2.1 S.1.1 (jSt_lv S (by omega)) ((jSt_z0 S).trans S.2.2.1.symm) hp lp
    obtain ⟨x, mx, -, -, hV⟩ := hv_x (B := 15) k15 S.1.1 (fun q hq _ => S.1.2.1 q hq) hp hw
    have hx : x = hv := by
      obtain ⟨k2, u1, -⟩ := hV.1 k (zSame.rf 15 k)
      rw [q1] at u1
      exact (congrArg (fun o => o.1) (Option.some.inj u1)).symm
    subst hx
    refine ⟨rg, x, c, s, g2, ?_, ?_, Or.inr ⟨pz_m1 (by omega), q2⟩, q6, q7, fun k' S' => ?_, fun k' S' hs => ?_⟩
    · rcases g3 with h | ⟨q, h1, h2, -⟩
      · rw [h]; exact jk_m n
      · rw [h2]; exact jk_n h1
    · rcases q4 with h | ⟨q, h1, -, h2, -⟩
      · rw [h]; exact jk_m n
      · rw [h2]; exact jk_n h1
    · rcases rd_l3 S' hl with ⟨g, -⟩ | ⟨p', hp', g, lp', r⟩
      · rw [e] at g; exact absurd g (pz_m1 (by omega))
      · rw [e, nI_eq (by omega) (by omega)] at g
        subst g
        obtain ⟨rg', a1, a2, -⟩ := jrg_x S'.2.2.2.2.1 S'.1.1 (jSt_lv S' (by omega)) ((jSt_z0 S').trans S'.2.2.1.symm) hp lp'
        rw [g2] at a2
        rw [Option.some.inj a2]
        exact r rg' a1
    · rcases rd_l4 S' hl with ⟨g, -⟩ | ⟨p', w', hp', hw', g, g', -, r⟩
      · rw [e] at g; exact absurd g (pz_m1 (by omega))
      · rw [e, nI_eq (by omega) (by omega)] at g
        rw [e3, nI_eq (by omega) (by omega)] at g'
        subst g
        subst g'
        obtain ⟨k1, u1, u2⟩ := hV.1 k' hs
        exact ⟨k1, r _ _ u1, jSt_off S' u2, zSame_tr hs (zSame_of u2)⟩
/-- the rulers that are kept -/
theorem is_483 (S : jSt n L h0 H y k m z) (hH : H < 2 ^ 29) (hl : l < L) {h : Nat} (hh : h ≤ 4000) (h16 : z 16 l = nI h) : ∀ (d i g : Nat), i + d = min h 15 → d < g → F_X8_isSame_483 z c320 g v2 v3 v4 v5 v6 v7 (nI l) (nI l) (nI i) k = kadd (4 * d) (24 * d) (F_X8_isSame_531 z c320 v2 v3 v4 v5 v6 v7 (nI l) k)
  | 0, i, g, hd, hg => by
    have R := S.2.2.2.2.1
    obtain ⟨g, rfl⟩ : ∃ x, g = x + 1 := ⟨g - 1, by omega⟩
    have hL := R.2.1
    show _ = kadd 0 0 _
    rw [pz_kadd0]
    by_cases h15 : h ≤ 15
    · have c1 : (nI h ≤ nI i) = True := by rw [pz_le (by omega) (by omega)]; exact eq_true (by omega)
      simp only [F_X8_isSame_483, jR_jN R, jR_jM R, jR_ln R, jR_lL R, if_false, jR_ngL R (hl), jR_clL R (hl), pz_ge (hl), or_self, if_false, h16, nI_clamp (show h < 2 ^ 31 by omega), c1, if_true]
    · have c1 : (nI h ≤ nI i) = False := by rw [pz_le (by omega) (by omega)]; exact eq_false (by omega)
      have c2 : ((15 : Int32) ≤ nI i) = True := by rw [show i = 15 by omega]; exact eq_true (by decide)
      simp only [F_X8_isSame_483, jR_jN R, jR_jM R, jR_ln R, jR_lL R, if_false, jR_ngL R (hl), jR_clL R (hl), pz_ge (hl), or_self, if_false, h16, nI_clamp (show h < 2 ^ 31 by omega), c1, F_X8_isSame_494, c2, if_true]
  | d + 1, i, g, hd, hg => by
    have R := S.2.2.2.2.1
    have hn := R.1
    obtain ⟨g, rfl⟩ : ∃ x, g = x + 1 := ⟨g - 1, by omega⟩
    have hL := R.2.1
    obtain ⟨-, -, -, a3, a4⟩ := jR_lr R hl
    obtain ⟨b1, b2⟩ := a4 h (by omega) h16 i (by omega)
    obtain ⟨q, hq, eq⟩ : ∃ q, q < n ∧ z (4 * l + 3) i = nI q := by
      rcases ((jR_c R).2 l hl).2 i with e | e
      · rw [b1] at e; exact absurd e b2
      · exact e
    have ru := rd_ru (w := i) S (by omega) hl (a3.symm.trans h16) (by omega) (by omega)
    rw [← b1, eq] at ru
    have c1 : (nI h ≤ nI i) = False := by rw [pz_le (by omega) (by omega)]; exact eq_false (by omega)
    have c2 : ((15 : Int32) ≤ nI i) = False := eq_false (nI_ge (b := 15) (by omega) (by decide))
    have ih := is_483 S hH hl hh h16 d (i + 1) g (by omega) (by omega)
    have e0 : z (4 * q + 1) 0 = nI q := (jR_p R hq).1
    rw [show 4 * (d + 1) = 4 + 4 * d by omega, show 24 * (d + 1) = 24 + 24 * d by omega, ← pz_kadd, ← ih]
    simp only [F_X8_isSame_483, jR_jN R, jR_jM R, jR_ln R, jR_lL R, if_false, jR_ngL R (hl), jR_clL R (hl), pz_ge (hl), or_self, if_false, h16, nI_clamp (show h < 2 ^ 31 by omega), c1, F_X8_isSame_494, c2, F_X8_isSame_501, ru, pz_bind, pz_nz, not_true_eq_false, pz_n0 (show i < 2 ^ 31 by omega), nI_clamp (show i < 2 ^ 31 by omega), pz_ge (show i < h by omega), eq, jR_ng R (hq), jR_cl R (hq), pz_ge (hq), or_self, if_false, e0, if_true, F_X8_isSame_525, nI_1]
theorem is_449 (hT : ∀ w, w < 6 → ∀ k, jSt n L h0 H y k m z → zSame 15 k0 k → ∃ k1, F_X5_land (nI l) (nI w) k = some ((0, f w), k1) ∧ jSt n L h0 H y k1 m z ∧ zSame 15 k0 k1) : ∀ (d i g : Nat) (k : kS), i + d = 6 → d < g → jSt n L h0 H y k m z → zSame 15 k0 k → ∃ k1, F_X8_isSame_449 z c320 g v2 v3 v4 v5 v6 v7 (nI l) (nI l) (nI i) 6 f k = kadd (4 * d) (24 * d) (F_X8_isSame_480 z c320 v2 v3 v4 v5 v6 v7 (nI l) (nI l) k1) ∧ jSt n L h0 H y k1 m z
  | 0, i, g, k, hd, hg, S, hs => by
    obtain ⟨g, rfl⟩ : ∃ x, g = x + 1 := ⟨g - 1, by omega⟩
    obtain rfl : i = 6 := by omega
    have c1 : ((6 : Int32) ≤ nI 6) = True := eq_true (by decide)
    refine ⟨k, ?_, S⟩
    show _ = kadd 0 0 _
    rw [pz_kadd0]
    simp only [F_X8_isSame_449, c1, if_true]
  | d + 1, i, g, k, hd, hg, S, hs => by
    obtain ⟨g, rfl⟩ : ∃ x, g = x + 1 := ⟨g - 1, by omega⟩
    have hi : i < 6 := by omega
    have c1 : ((6 : Int32) ≤ nI i) = False := eq_false (nI_ge (b := 6) hi (by decide))
    have c6 : (6 : Int32).toNatClampNeg = 6 := rfl
    obtain ⟨k2, e2, S2, hs2⟩ := hT i hi k S hs
    obtain ⟨k1, e1, S1⟩ := is_449 hT d (i + 1) g k2 (by omega) (by omega) S2 hs2
    refine ⟨k1, ?_, S1⟩
    rw [show 4 * (d + 1) = 4 + 4 * d by omega, show 24 * (d + 1) = 24 + 24 * d by omega, ← pz_kadd, ← e1]
    simp only [F_X8_isSame_449, c1, if_false, F_X8_isSame_456, e2, pz_bind, pz_nz, not_true_eq_false, c6, pz_n0 (show i < 2 ^ 31 by omega), nI_clamp (show i < 2 ^ 31 by omega), pz_ge hi, or_self, if_true, F_X8_isSame_474, nI_1]
/-- what is told of a land by hand -/
def jTl (m : kS) (l : Nat) (rg hv : Int32) : Nat → Int32 := upd (upd (upd (upd (upd (upd (fun _ => 0) 0 (m 9 (4 * l))) 1 (m 9 (4 * l + 1))) 2 (m 9 (4 * l + 2))) 3 rg) 4 hv) 5 (m 9 (4 * l + 3))
theorem is_434 (S : jSt n L h0 H y k m z) (hl : l < L) {rg hv : Int32} : F_X8_isSame_434 z c320 4 hv v2 v3 v4 v5 v6 v7 (nI l) (nI l) 6 (upd (upd (upd (upd (fun _ => 0) 0 (m 9 (4 * l))) 1 (m 9 (4 * l + 1))) 2 (m 9 (4 * l + 2))) 3 rg) k = F_X8_isSame_449 z c320 kN v2 v3 v4 v5 v6 v7 (nI l) (nI l) 0 6 (jTl m l rg hv) k := by
  have R := S.2.2.2.2.1
  obtain ⟨-, -, -, a3, -⟩ := jR_lr R hl
  obtain ⟨h, hh, h16⟩ := jR_h R l hl
  have hh4 := R.2.2.1
  have e5 : nI (z 16 l).toNatClampNeg = m 9 (4 * l + 3) := by rw [← a3, h16, nI_clamp (by omega)]
  have t4 : (4 : Int32).toNatClampNeg = 4 := rfl
  have t5 : (5 : Int32).toNatClampNeg = 5 := rfl
  have t6 : (6 : Int32).toNatClampNeg = 6 := rfl
  have z4 : ((4 : Int32) < 0) = False := eq_false (by decide)
  have z5 : ((5 : Int32) < 0) = False := eq_false (by decide)
  simp only [F_X8_isSame_434, t4, t5, t6, z4, z5, pz_ge (show 4 < 6 by decide), pz_ge (show 5 < 6 by decide), or_self, if_false, jR_jN R, jR_jM R, jR_ln R, jR_lL R, if_false, jR_ngL R (hl), jR_clL R (hl), pz_ge (hl), or_self, if_false, e5]
  rfl
theorem is_330 (S : jSt n L h0 H y k m z) (hl : l < L) (hy : y < 2 ^ 27) (hH : H < 2 ^ 29) : ∃ k1 c s, F_X8_isSame_330 z c320 v2 v3 v4 v5 v6 v7 (nI l) k = kadd c s (c320 v2 v3 (v4 + jln m l) v5 v6 v7 (nI l + 1) k1) ∧ jSt n L h0 H y k1 m z ∧ c ≤ 90 + 3 * jmx k n n ∧ s ≤ 512 + 3 * jmx k n n := by
  have R := S.2.2.2.2.1
  have hn := R.1
  obtain ⟨a0, a1, a2, a3, -⟩ := jR_lr R hl
  obtain ⟨h, hh, h16⟩ := jR_h R l hl
  have hh4 := R.2.2.1
  obtain ⟨rg, hv, c, s, g1, g2, g3, g4, g5, g6, g7, g8⟩ := is_la S hl hy
  have kr := ((jR_c R).2 l hl).1
  rw [a2] at kr
  have nr := jnum_x R kr
  have ng := jnum_x R g2
  have nh := jnum_x R g3
  have t0 : (0 : Int32).toNatClampNeg = 0 := rfl
  have t1 : (1 : Int32).toNatClampNeg = 1 := rfl
  have t2 : (2 : Int32).toNatClampNeg = 2 := rfl
  have t3 : (3 : Int32).toNatClampNeg = 3 := rfl
  have t6 : (6 : Int32).toNatClampNeg = 6 := rfl
  have z0 : ((0 : Int32) < 0) = False := eq_false (by decide)
  have z1 : ((1 : Int32) < 0) = False := eq_false (by decide)
  have z2 : ((2 : Int32) < 0) = False := eq_false (by decide)
  have z3 : ((3 : Int32) < 0) = False := eq_false (by decide)
  have b6 : ((6 : Int32) < 0 ∨ 100000000 < 6) = False := eq_false (by decide)
  have hT : ∀ w, w < 6 → ∀ k', jSt n L h0 H y k' m z → zSame 15 k k' → ∃ k1, F_X5_land (nI l) (nI w) k' = some ((0, jTl m l rg hv w), k1) ∧ jSt n L h0 H y k1 m z ∧ zSame 15 k k1 := by
    intro w hw k' S' hs
    have : w = 0 ∨ w = 1 ∨ w = 2 ∨ w = 3 ∨ w = 4 ∨ w = 5 := by omega
    rcases this with rfl | rfl | rfl | rfl | rfl | rfl
    · exact ⟨k', rd_l0 S' hl, S', hs⟩
    · exact ⟨k', rd_l1 S' hl, S', hs⟩
    · exact ⟨k', rd_l2 S' hl, S', hs⟩
    · exact ⟨k', g7 k' S', S', hs⟩
    · exact g8 k' S' hs
    · exact ⟨k', rd_l5 S' hl, S', hs⟩
  obtain ⟨k1, e1, S1⟩ := is_449 (c320 := c320) (v2 := v2) (v3 := v3) (v4 := v4 + jln m l) (v5 := v5) (v6 := v6) (v7 := v7) hT 6 0 kN k (by decide) (by decide) S (zSame.rf 15 k)
  have e2 := is_483 (c320 := c320) (v2 := v2) (v3 := v3) (v4 := v4 + jln m l) (v5 := v5) (v6 := v6) (v7 := v7) S1 hH hl (by omega) h16 (min h 15) 0 kN (by omega) (by show min h 15 < 4096; omega)
  have e2 : F_X8_isSame_483 z c320 kN v2 v3 (v4 + jln m l) v5 v6 v7 (nI l) (nI l) 0 k1 = _ := e2
  have e3 := is_434 (c320 := c320) (v2 := v2) (v3 := v3) (v4 := v4 + jln m l) (v5 := v5) (v6 := v6) (v7 := v7) (rg := rg) (hv := hv) S hl
  have e1 : F_X8_isSame_449 z c320 kN v2 v3 (v4 + jln m l) v5 v6 v7 (nI l) (nI l) 0 6 (jTl m l rg hv) k = _ := e1
  have fin : F_X8_isSame_434 z c320 4 hv v2 v3 (v4 + jln m l) v5 v6 v7 (nI l) (nI l) 6 (upd (upd (upd (upd (fun _ => 0) 0 (m 9 (4 * l))) 1 (m 9 (4 * l + 1))) 2 (m 9 (4 * l + 2))) 3 rg) k = kadd (24 + 4 * min h 15) (144 + 24 * min h 15) (c320 v2 v3 (v4 + jln m l) v5 v6 v7 (nI l + 1) k1) := by
    rw [e3, e1]
    simp only [F_X8_isSame_480, e2, F_X8_isSame_531, pz_kadd]
  rcases g4 with ⟨r1, r2, r3, r4⟩ | ⟨r1, r2⟩
  · have j : jln m l = 1 := if_pos r1
    refine ⟨k1, 1 + (24 + 4 * min h 15), 6 + (144 + 24 * min h 15), ?_, S1, by omega, by omega⟩
    rw [j, r2] at fin
    rw [j]
    rw [r1] at a2 nr g1 fin
    simp only [F_X8_isSame_330, jR_jN R, jR_jM R, jR_ln R, jR_lL R, if_false, jR_ngL R (hl), jR_clL R (hl), pz_ge (hl), or_self, if_false, jR_z8 R hl, a2, if_true, F_X8_isSame_349, F_X8_isSame_354, t0, t1, t2, t3, t6, b6, z0, z1, z2, z3, pz_ge (show 0 < 6 by decide), pz_ge (show 1 < 6 by decide), pz_ge (show 2 < 6 by decide), pz_ge (show 3 < 6 by decide), a0, a1, nr, g1, ng, pz_bind, F_X8_isSame_413, fin, pz_kadd]
  · have j : jln m l = 0 := if_neg r1
    refine ⟨k1, 1 + (c + (24 + 4 * min h 15)), 6 + (s + (144 + 24 * min h 15)), ?_, S1, by omega, by omega⟩
    rw [j] at fin
    rw [j]
    have nm : (m 9 (4 * l + 2) = -1) = False := eq_false r1
    simp only [F_X8_isSame_330, jR_jN R, jR_jM R, jR_ln R, jR_lL R, if_false, jR_ngL R (hl), jR_clL R (hl), pz_ge (hl), or_self, if_false, jR_z8 R hl, a2, nm, F_X8_isSame_353, F_X8_isSame_354, t0, t1, t2, t3, t6, b6, z0, z1, z2, z3, pz_ge (show 0 < 6 by decide), pz_ge (show 1 < 6 by decide), pz_ge (show 2 < 6 by decide), pz_ge (show 3 < 6 by decide), a0, a1, nr, g1, ng, pz_bind, F_X8_isSame_417, r2, nh, fin, pz_kadd]
theorem is_320 (hy : y < 2 ^ 27) (hH : H < 2 ^ 29) {J : Nat} (hJ : ∀ k, jSt n L h0 H y k m z → jmx k n n ≤ J) : ∀ (d i g : Nat) (k : kS), i + d = L → d < g → jSt n L h0 H y k m z → ∃ k1 c s, F_X8_isSame_320 z g v2 v3 (nI (zcnt (fun l => m 9 (4 * l + 2) = -1) i)) v5 v6 v7 (nI i) k = kadd c s (F_X8_isSame_537 z v2 v3 (nI (zcnt (fun l => m 9 (4 * l + 2) = -1) L)) v5 v6 v7 k1) ∧ jSt n L h0 H y k1 m z ∧ c ≤ d * (90 + 3 * J) ∧ s ≤ d * (512 + 3 * J)
  | 0, i, g, k, hd, hg, S => by
    have R := S.2.2.2.2.1
    have hL := R.2.1
    obtain ⟨g, rfl⟩ : ∃ x, g = x + 1 := ⟨g - 1, by omega⟩
    obtain rfl : i = L := by omega
    refine ⟨k, 0, 0, ?_, S, by omega, by omega⟩
    rw [pz_kadd0]
    simp only [F_X8_isSame_320, jR_jN R, jR_jM R, jR_ln R, jR_lL R, if_false, pz_cT (show i < 2 ^ 31 by omega), if_true]
  | d + 1, i, g, k, hd, hg, S => by
    have R := S.2.2.2.2.1
    have hL := R.2.1
    obtain ⟨g, rfl⟩ : ∃ x, g = x + 1 := ⟨g - 1, by omega⟩
    have hi : i < L := by omega
    obtain ⟨k2, c, s, e2, S2, b1, b2⟩ := is_330 (c320 := F_X8_isSame_320 z g) (v2 := v2) (v3 := v3) (v4 := nI (zcnt (fun l => m 9 (4 * l + 2) = -1) i)) (v5 := v5) (v6 := v6) (v7 := v7) S hi hy hH
    obtain ⟨k1, c', s', e1, S1, b3, b4⟩ := is_320 hy hH hJ d (i + 1) g k2 (by omega) (by omega) S2
    have hj := hJ k S
    refine ⟨k1, c + c', s + s', ?_, S1, by rw [Nat.add_mul, Nat.one_mul]; omega, by rw [Nat.add_mul, Nat.one_mul]; omega⟩
    have u2 : nI (zcnt (fun l => m 9 (4 * l + 2) = -1) i) + jln m i = nI (zcnt (fun l => m 9 (4 * l + 2) = -1) (i + 1)) := by
      unfold jln
      by_cases h5 : m 9 (4 * i + 2) = -1
      · rw [if_pos h5, nI_1, zcnt_s1 (A := fun l => m 9 (4 * l + 2) = -1) h5]
      · rw [if_neg h5, Int32.add_zero, zcnt_s0 (A := fun l => m 9 (4 * l + 2) = -1) h5]
    rw [u2, nI_1, e1, pz_kadd] at e2
    rw [← e2]
    simp only [F_X8_isSame_320, jR_jN R, jR_jM R, jR_ln R, jR_lL R, if_false, pz_cF hi (show L < 2 ^ 31 by omega), if_false]
/-- IN THE END ALL IS AS BY HAND -/
theorem is_x (S : jSt n L h0 H y k m z) (hy : y < 2 ^ 27) (hH : H < 2 ^ 29) {J : Nat} (hJ : ∀ k, jSt n L h0 H y k m z → jmx k n n ≤ J) : ∃ k1 c s, F_X8_isSame z k = some ((1, k1), c, s) ∧ c ≤ 41 * n + L * (90 + 3 * J) + 33 ∧ s ≤ 250 * n + L * (512 + 3 * J) + 200 := by
  have R := S.2.2.2.2.1
  have hn := R.1
  have hL := R.2.1
  have e1 := is_30 (by omega) S n 0 kN (by omega) (by show n < 4096; omega)
  have e1 : F_X8_isSame_30 z kN 0 0 0 0 0 0 (nI n) 0 k = _ := e1
  obtain ⟨k1, c, s, e2, S1, b1, b2⟩ := is_320 (v2 := nI (jAl n m)) (v3 := nI (jMd n m)) (v5 := nI (zcnt (jRu L m) n)) (v6 := nI (zcnt (jYo L y m) n)) (v7 := jAg y m n) hy hH hJ L 0 kN k (by omega) (by show L < 4096; omega) S
  have e2 : F_X8_isSame_320 z kN (nI (jAl n m)) (nI (jMd n m)) 0 (nI (zcnt (jRu L m) n)) (nI (zcnt (jYo L y m) n)) (jAg y m n) 0 k = _ := e2
  rw [is_537 S1, pz_kadds] at e2
  refine ⟨k1, 41 * n + (c + 33), 250 * n + (s + 200), ?_, by omega, by omega⟩
  simp only [F_X8_isSame, F_X8_isSame_0, jR_jN R, jR_jM R, jR_ln R, jR_lL R, if_false, e1, F_X8_isSame_317, e2, pz_kadds]
end ZS
