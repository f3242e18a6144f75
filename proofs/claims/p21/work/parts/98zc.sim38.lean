/-! IN THE END ALL IS AS BY HAND: the persons -/
/-- what is told of a person by hand -/
noncomputable def jTpp (n L : Nat) (k m : kS) (p : Nat) : Nat → Int32 := upd (upd (upd (upd (upd (upd (upd (upd (upd (upd (fun _ => 0) 0 (m 8 (9 * p))) 1 (m 8 (9 * p + 1))) 2 (m 8 (9 * p + 2))) 3 (m 8 (9 * p + 3))) 4 (m 8 (9 * p + 4))) 5 (m 8 (9 * p + 5))) 6 (nI (zcnt (fun c => zCh k c p) n))) 7 (nI (zcnt (fun l => m 9 (4 * l + 2) = nI p) L))) 8 (nI (zws m (nI p) L))) 9 (m 8 (9 * p + 6))
noncomputable def jr1 (L : Nat) (m : kS) (p : Nat) : Int32 := if zcnt (fun l => m 9 (4 * l + 2) = nI p) L = 0 then 0 else 1
noncomputable def jy1 (L y : Nat) (m : kS) (p : Nat) : Int32 := if zcnt (fun l => m 9 (4 * l + 2) = nI p) L = 0 then 0 else if 16 ≤ nI y - m 8 (9 * p + 1) then 0 else 1
def ja1 (y : Nat) (m : kS) (p : Nat) : Int32 := if m 8 (9 * p + 2) = 1 then nI y - m 8 (9 * p + 1) else 0
section ZS
variable {n L h0 H p q w x y : Nat} {k m z : kS} {v v2 v3 v4 v5 v6 v7 v9 v10 : Int32} {f : Nat → Int32} {c30 : Int32 → Int32 → Int32 → Int32 → Int32 → Int32 → Int32 → Int32 → kS → Option ((Int32 × kS) × Nat × Nat)}
theorem is_tp (S : jSt n L h0 H y k m z) (hp : p < n) : ∀ w, w < 10 → F_X5_person k (nI p) (nI w) = some (0, jTpp n L k m p w) := by
  intro w hw
  have : w = 0 ∨ w = 1 ∨ w = 2 ∨ w = 3 ∨ w = 4 ∨ w = 5 ∨ w = 6 ∨ w = 7 ∨ w = 8 ∨ w = 9 := by omega
  rcases this with rfl | rfl | rfl | rfl | rfl | rfl | rfl | rfl | rfl | rfl
  · exact rd_p0 S hp
  · exact rd_p1 S hp
  · exact rd_p2 S hp
  · exact rd_p3 S hp
  · exact rd_p4 S hp
  · exact rd_p5 S hp
  · exact rd_p6 S hp
  · exact rd_p7 S hp
  · exact rd_p8 S hp
  · exact rd_p9 S hp
theorem is_177 (S : jSt n L h0 H y k m z) (hp : p < n) (h : ∀ w, w < 10 → F_X5_person k (nI p) (nI w) = some (0, f w)) : ∀ (d i g : Nat), i + d = 10 → d < g → F_X8_isSame_177 z c30 g v2 v3 v4 v5 v6 v7 v9 v10 (nI p) v (nI i) 10 f k = kadd (4 * d) (24 * d) (F_X8_isSame_211 z c30 v2 v3 v4 v5 v6 v7 v9 v10 (nI p) v 10 f k)
  | 0, i, g, hd, hg => by
    obtain ⟨g, rfl⟩ : ∃ x, g = x + 1 := ⟨g - 1, by omega⟩
    obtain rfl : i = 10 := by omega
    have c1 : ((10 : Int32) ≤ nI 10) = True := eq_true (by decide)
    show _ = kadd 0 0 _
    rw [pz_kadd0]
    simp only [F_X8_isSame_177, c1, if_true]
  | d + 1, i, g, hd, hg => by
    obtain ⟨g, rfl⟩ : ∃ x, g = x + 1 := ⟨g - 1, by omega⟩
    have R := S.2.2.2.2.1
    have hi : i < 10 := by omega
    have c1 : ((10 : Int32) ≤ nI i) = False := eq_false (nI_ge (b := 10) hi (by decide))
    have c8 : (10 : Int32).toNatClampNeg = 10 := rfl
    have e0 : z (4 * p + 1) 0 = nI p := (jR_p R hp).1
    have ih := is_177 S hp h d (i + 1) g (by omega) (by omega)
    rw [show 4 * (d + 1) = 4 + 4 * d by omega, show 24 * (d + 1) = 24 + 24 * d by omega, ← pz_kadd, ← ih]
    simp only [F_X8_isSame_177, c1, if_false, F_X8_isSame_184, jR_jN R, jR_jM R, jR_ln R, jR_lL R, if_false, jR_ng R (hp), jR_cl R (hp), pz_ge (hp), or_self, if_false, e0, h i hi, pz_bind, pz_nz, not_true_eq_false, c8, pz_n0 (show i < 2 ^ 31 by omega), nI_clamp (show i < 2 ^ 31 by omega), pz_ge hi, or_self, if_true, F_X8_isSame_205, nI_1]
theorem is_284 (S : jSt n L h0 H y k m z) (hp : p < n) (s0 s1 : Int32) : F_X8_isSame_284 z c30 s0 s1 v2 v3 v4 v5 v7 v9 v10 (nI p) (m 8 (9 * p + 2)) k = c30 v2 v3 v4 v5 (s0 + s1) (v7 + ja1 y m p) v9 (v10 + 1) k := by
  have R := S.2.2.2.2.1
  have e2 : z (4 * p + 1) 2 = m 8 (9 * p + 1) := (jR_p R hp).2.2.1
  rcases S.1.2.1 p hp with ⟨-, l2⟩ | ⟨-, l2⟩
  · have j : ja1 y m p = nI y - m 8 (9 * p + 1) := if_pos l2
    rw [j, l2]
    simp only [F_X8_isSame_284, pz_10, if_false, F_X8_isSame_294, jR_jN R, jR_jM R, jR_ln R, jR_lL R, if_false, jR_ng R (hp), jR_cl R (hp), pz_ge (hp), or_self, if_false, jSt_z0 S, e2, F_X8_isSame_308]
  · have j : ja1 y m p = 0 := if_neg (by rw [l2]; decide)
    rw [j, l2]
    simp only [F_X8_isSame_284, if_true, F_X8_isSame_307, F_X8_isSame_308]
theorem is_211 (S : jSt n L h0 H y k m z) (hp : p < n) : F_X8_isSame_211 z c30 v2 v3 v4 v5 v6 v7 v9 v10 (nI p) (m 8 (9 * p + 2)) 10 (jTpp n L k m p) k = c30 (v2 + m 8 (9 * p + 2)) (v3 + jmd m p) v4 (v5 + jr1 L m p) (v6 + jy1 L y m p) (v7 + ja1 y m p) v9 (v10 + 1) k := by
  have R := S.2.2.2.2.1
  have hL := R.2.1
  have t2 : (2 : Int32).toNatClampNeg = 2 := rfl
  have t10 : (10 : Int32).toNatClampNeg = 10 := rfl
  have z2 : ((2 : Int32) < 0) = False := eq_false (by decide)
  have T2 : jTpp n L k m p 2 = m 8 (9 * p + 2) := rfl
  have e6 : z (4 * p + 1) 6 = m 8 (9 * p + 5) := (jR_p R hp).2.2.2.2.2.2.1
  have e2 : z (4 * p + 1) 2 = m 8 (9 * p + 1) := (jR_p R hp).2.2.1
  have zl := zcnt_le (fun l => m 9 (4 * l + 2) = nI p) L
  have c0 := nI_le0 (c := zcnt (fun l => m 9 (4 * l + 2) = nI p) L) (by omega)
  have ru := jru_x R (jk_n hp)
  have d250 : ∀ s0 s1 v2 v3, F_X8_isSame_250 z c30 s0 s1 v2 v3 v4 v6 v7 v9 v10 (nI p) (m 8 (9 * p + 2)) k = c30 v2 v3 v4 (s0 + s1) (v6 + jy1 L y m p) (v7 + ja1 y m p) v9 (v10 + 1) k := by
    intro s0 s1 v2 v3
    by_cases hc : zcnt (fun l => m 9 (4 * l + 2) = nI p) L = 0
    · have j : jy1 L y m p = 0 := if_pos hc
      rw [j]
      simp only [F_X8_isSame_250, ru, pz_bind, c0, if_pos hc, F_X8_isSame_283, is_284 S hp]
    · by_cases h16 : 16 ≤ nI y - m 8 (9 * p + 1)
      · have j : jy1 L y m p = 0 := (if_neg hc).trans (if_pos h16)
        rw [j]
        simp only [F_X8_isSame_250, ru, pz_bind, c0, if_neg hc, F_X8_isSame_264, jR_jN R, jR_jM R, jR_ln R, jR_lL R, if_false, jR_ng R (hp), jR_cl R (hp), pz_ge (hp), or_self, if_false, jSt_z0 S, e2, if_pos h16, F_X8_isSame_283, is_284 S hp]
      · have j : jy1 L y m p = 1 := (if_neg hc).trans (if_neg h16)
        rw [j]
        simp only [F_X8_isSame_250, ru, pz_bind, c0, if_neg hc, F_X8_isSame_264, jR_jN R, jR_jM R, jR_ln R, jR_lL R, if_false, jR_ng R (hp), jR_cl R (hp), pz_ge (hp), or_self, if_false, jSt_z0 S, e2, if_neg h16, F_X8_isSame_279, is_284 S hp]
  have d232 : ∀ s0 s1 v2, F_X8_isSame_232 z c30 s0 s1 v2 v4 v5 v6 v7 v9 v10 (nI p) (m 8 (9 * p + 2)) k = c30 v2 (s0 + s1) v4 (v5 + jr1 L m p) (v6 + jy1 L y m p) (v7 + ja1 y m p) v9 (v10 + 1) k := by
    intro s0 s1 v2
    by_cases hc : zcnt (fun l => m 9 (4 * l + 2) = nI p) L = 0
    · have j : jr1 L m p = 0 := if_pos hc
      rw [j]
      simp only [F_X8_isSame_232, ru, pz_bind, c0, if_pos hc, F_X8_isSame_249, d250]
    · have j : jr1 L m p = 1 := if_neg hc
      rw [j]
      simp only [F_X8_isSame_232, ru, pz_bind, c0, if_neg hc, F_X8_isSame_245, d250]
  rcases jSt_w S hp with h | ⟨q, hq, -, h⟩
  · have j : jmd m p = 0 := if_pos h
    rw [j]
    simp only [F_X8_isSame_211, t2, t10, z2, pz_ge (show 2 < 10 by decide), or_self, if_false, jR_jN R, jR_jM R, jR_ln R, jR_lL R, if_false, jR_ng R (hp), jR_cl R (hp), pz_ge (hp), or_self, if_false, e6, h, if_true, F_X8_isSame_227, d232, T2]
  · have hn := R.1
    have j : jmd m p = 1 := if_neg (by rw [h]; exact pz_m1 (by omega))
    have cq : (nI q = -1) = False := pz_m1' (by omega)
    rw [j]
    simp only [F_X8_isSame_211, t2, t10, z2, pz_ge (show 2 < 10 by decide), or_self, if_false, jR_jN R, jR_jM R, jR_ln R, jR_lL R, if_false, jR_ng R (hp), jR_cl R (hp), pz_ge (hp), or_self, if_false, e6, h, cq, F_X8_isSame_231, d232, T2]
theorem is_99 (S : jSt n L h0 H y k m z) (hp : p < n) : F_X8_isSame_99 z c30 2 (m 8 (9 * p + 2)) v2 v3 v4 v5 v6 v7 v9 v10 (nI p) v 10 (upd (upd (fun _ => 0) 0 (m 8 (9 * p))) 1 (m 8 (9 * p + 1))) k = F_X8_isSame_177 z c30 kN v2 v3 v4 v5 v6 v7 v9 v10 (nI p) v 0 10 (jTpp n L k m p) k := by
  have R := S.2.2.2.2.1
  obtain ⟨p0, p1, p2, p3, p4, p5, p6, -, -⟩ := jR_p R hp
  obtain ⟨k4, k5, k6, -, -⟩ := (jR_c R).1 p hp
  rw [p4] at k4
  rw [p5] at k5
  rw [p6] at k6
  have n4 := jnum_x R k4
  have n5 := jnum_x R k5
  have n6 := jnum_x R k6
  have ch := jch_x R S.1.1.2.2.2.1 hp
  have ru := jru_x R (jk_n hp)
  have wo := jwo_x R (jk_n hp) (jSt_wo S)
  have t0 : (0 : Int32).toNatClampNeg = 0 := rfl
  have t1 : (1 : Int32).toNatClampNeg = 1 := rfl
  have t2 : (2 : Int32).toNatClampNeg = 2 := rfl
  have t3 : (3 : Int32).toNatClampNeg = 3 := rfl
  have t4 : (4 : Int32).toNatClampNeg = 4 := rfl
  have t5 : (5 : Int32).toNatClampNeg = 5 := rfl
  have t6 : (6 : Int32).toNatClampNeg = 6 := rfl
  have t7 : (7 : Int32).toNatClampNeg = 7 := rfl
  have t8 : (8 : Int32).toNatClampNeg = 8 := rfl
  have t9 : (9 : Int32).toNatClampNeg = 9 := rfl
  have t10 : (10 : Int32).toNatClampNeg = 10 := rfl
  have z0 : ((0 : Int32) < 0) = False := eq_false (by decide)
  have z1 : ((1 : Int32) < 0) = False := eq_false (by decide)
  have z2 : ((2 : Int32) < 0) = False := eq_false (by decide)
  have z3 : ((3 : Int32) < 0) = False := eq_false (by decide)
  have z4 : ((4 : Int32) < 0) = False := eq_false (by decide)
  have z5 : ((5 : Int32) < 0) = False := eq_false (by decide)
  have z6 : ((6 : Int32) < 0) = False := eq_false (by decide)
  have z7 : ((7 : Int32) < 0) = False := eq_false (by decide)
  have z8 : ((8 : Int32) < 0) = False := eq_false (by decide)
  have z9 : ((9 : Int32) < 0) = False := eq_false (by decide)
  simp only [F_X8_isSame_99, t2, t3, t4, t5, t6, t7, t8, t9, t10, z2, z3, z4, z5, z6, z7, z8, z9, pz_ge (show 2 < 10 by decide), pz_ge (show 3 < 10 by decide), pz_ge (show 4 < 10 by decide), pz_ge (show 5 < 10 by decide), pz_ge (show 6 < 10 by decide), pz_ge (show 7 < 10 by decide), pz_ge (show 8 < 10 by decide), pz_ge (show 9 < 10 by decide), or_self, if_false, jR_jN R, jR_jM R, jR_ln R, jR_lL R, if_false, jR_ng R (hp), jR_cl R (hp), pz_ge (hp), or_self, if_false, p3, p4, p5, p6, n4, n5, n6, ch, ru, wo, pz_bind]
  rfl
theorem is_37 (hy : y < 2 ^ 30) (S : jSt n L h0 H y k m z) (hp : p < n) : F_X8_isSame_37 z c30 v2 v3 v4 v5 v6 v7 (nI n) (nI p) k = kadd 41 250 (c30 (v2 + m 8 (9 * p + 2)) (v3 + jmd m p) v4 (v5 + jr1 L m p) (v6 + jy1 L y m p) (v7 + ja1 y m p) (nI n) (nI p + 1) k) := by
  have R := S.2.2.2.2.1
  obtain ⟨p0, p1, p2, p3, p4, p5, p6, -, -⟩ := jR_p R hp
  have t0 : (0 : Int32).toNatClampNeg = 0 := rfl
  have t1 : (1 : Int32).toNatClampNeg = 1 := rfl
  have t2 : (2 : Int32).toNatClampNeg = 2 := rfl
  have t3 : (3 : Int32).toNatClampNeg = 3 := rfl
  have t4 : (4 : Int32).toNatClampNeg = 4 := rfl
  have t5 : (5 : Int32).toNatClampNeg = 5 := rfl
  have t6 : (6 : Int32).toNatClampNeg = 6 := rfl
  have t7 : (7 : Int32).toNatClampNeg = 7 := rfl
  have t8 : (8 : Int32).toNatClampNeg = 8 := rfl
  have t9 : (9 : Int32).toNatClampNeg = 9 := rfl
  have t10 : (10 : Int32).toNatClampNeg = 10 := rfl
  have z0 : ((0 : Int32) < 0) = False := eq_false (by decide)
  have z1 : ((1 : Int32) < 0) = False := eq_false (by decide)
  have z2 : ((2 : Int32) < 0) = False := eq_false (by decide)
  have z3 : ((3 : Int32) < 0) = False := eq_false (by decide)
  have z4 : ((4 : Int32) < 0) = False := eq_false (by decide)
  have z5 : ((5 : Int32) < 0) = False := eq_false (by decide)
  have z6 : ((6 : Int32) < 0) = False := eq_false (by decide)
  have z7 : ((7 : Int32) < 0) = False := eq_false (by decide)
  have z8 : ((8 : Int32) < 0) = False := eq_false (by decide)
  have z9 : ((9 : Int32) < 0) = False := eq_false (by decide)
  have z10 : ((10 : Int32) < 0 ∨ 100000000 < 10) = False := eq_false (by decide)
  have e177 := is_177 (c30 := c30) (v := m 8 (9 * p + 2)) (v2 := v2) (v3 := v3) (v4 := v4) (v5 := v5) (v6 := v6) (v7 := v7) (v9 := nI n) (v10 := nI p) S hp (is_tp S hp) 10 0 kN (by decide) (by decide)
  rw [is_211 S hp] at e177
  have e78 : F_X8_isSame_78 z c30 0 (m 8 (9 * p)) v2 v3 v4 v5 v6 v7 (nI n) (nI p) (nI p) (m 8 (9 * p + 2)) 10 (fun _ => 0) k = F_X8_isSame_99 z c30 2 (m 8 (9 * p + 2)) v2 v3 v4 v5 v6 v7 (nI n) (nI p) (nI p) (m 8 (9 * p + 2)) 10 (upd (upd (fun _ => 0) 0 (m 8 (9 * p))) 1 (m 8 (9 * p + 1))) k := by
    rcases S.1.2.1 p hp with ⟨-, l2⟩ | ⟨-, l2⟩
    · rw [l2]
      simp only [F_X8_isSame_78, t0, t1, t10, z0, z1, pz_ge (show 0 < 10 by decide), pz_ge (show 1 < 10 by decide), or_self, if_false, jR_jN R, jR_jM R, jR_ln R, jR_lL R, if_false, jR_ng R (hp), jR_cl R (hp), pz_ge (hp), or_self, if_false, p2, pz_10, F_X8_isSame_94]
    · rw [l2]
      simp only [F_X8_isSame_78, t0, t1, t10, z0, z1, pz_ge (show 0 < 10 by decide), pz_ge (show 1 < 10 by decide), or_self, if_false, jR_jN R, jR_jM R, jR_ln R, jR_lL R, if_false, jR_ng R (hp), jR_cl R (hp), pz_ge (hp), or_self, if_false, p2, if_true, F_X8_isSame_98]
  have e57 : F_X8_isSame_57 z c30 (m 8 (9 * p + 2)) v2 v3 v4 v5 v6 v7 (nI n) (nI p) (nI p) k = kadd 1 10 (F_X8_isSame_78 z c30 0 (m 8 (9 * p)) v2 v3 v4 v5 v6 v7 (nI n) (nI p) (nI p) (m 8 (9 * p + 2)) 10 (fun _ => 0) k) := by
    have ml : m 8 (9 * p) = 0 ∨ m 8 (9 * p) = 1 := by
      rw [jSt_k2 S hp]; exact S.1.1.2.2.2.2.1 p hp
    rcases ml with h | h
    · rw [h] at p1 ⊢
      simp only [F_X8_isSame_57, t10, z10, if_false, jR_jN R, jR_jM R, jR_ln R, jR_lL R, if_false, jR_ng R (hp), jR_cl R (hp), pz_ge (hp), or_self, if_false, p1, if_true, F_X8_isSame_77]
    · rw [h] at p1 ⊢
      simp only [F_X8_isSame_57, t10, z10, if_false, jR_jN R, jR_jM R, jR_ln R, jR_lL R, if_false, jR_ng R (hp), jR_cl R (hp), pz_ge (hp), or_self, if_false, p1, pz_10, F_X8_isSame_73]
  have e37 : F_X8_isSame_37 z c30 v2 v3 v4 v5 v6 v7 (nI n) (nI p) k = F_X8_isSame_57 z c30 (m 8 (9 * p + 2)) v2 v3 v4 v5 v6 v7 (nI n) (nI p) (nI p) k := by
    rcases S.2.2.2.2.2.2.2.2.2.1 p hp with ⟨x1, x2⟩ | ⟨x1, t, ht, x2, -⟩
    · have c0 : ((0 : Int32) ≤ -1) = False := eq_false (by decide)
      rw [x1]
      simp only [F_X8_isSame_37, jR_jN R, jR_jM R, jR_ln R, jR_lL R, if_false, jR_ng R (hp), jR_cl R (hp), pz_ge (hp), or_self, if_false, jR_z4 R hp, p3, x2, c0, F_X8_isSame_52]
    · have c0 : ((0 : Int32) ≤ nI t) = True := eq_true (nI_pos' (by omega))
      rw [x1]
      simp only [F_X8_isSame_37, jR_jN R, jR_jM R, jR_ln R, jR_lL R, if_false, jR_ng R (hp), jR_cl R (hp), pz_ge (hp), or_self, if_false, jR_z4 R hp, p3, x2, c0, if_true, F_X8_isSame_56]
  have e177 : F_X8_isSame_177 z c30 kN v2 v3 v4 v5 v6 v7 (nI n) (nI p) (nI p) (m 8 (9 * p + 2)) 0 10 (jTpp n L k m p) k = _ := e177
  rw [e37, e57, e78, is_99 S hp, e177, pz_kadd]
/-- the loop over persons -/
theorem is_30 (hy : y < 2 ^ 30) (S : jSt n L h0 H y k m z) : ∀ (d i g : Nat), i + d = n → d < g → F_X8_isSame_30 z g (nI (jAl i m)) (nI (jMd i m)) 0 (nI (zcnt (jRu L m) i)) (nI (zcnt (jYo L y m) i)) (jAg y m i) (nI n) (nI i) k = kadd (41 * d) (250 * d) (F_X8_isSame_317 z (nI (jAl n m)) (nI (jMd n m)) 0 (nI (zcnt (jRu L m) n)) (nI (zcnt (jYo L y m) n)) (jAg y m n) k)
  | 0, i, g, hd, hg => by
    have hn := S.1.1.1
    obtain ⟨g, rfl⟩ : ∃ x, g = x + 1 := ⟨g - 1, by omega⟩
    obtain rfl : i = n := by omega
    show _ = kadd 0 0 _
    rw [pz_kadd0]
    simp only [F_X8_isSame_30, pz_cT (show i < 2 ^ 31 by omega), if_true]
  | d + 1, i, g, hd, hg => by
    have hn := S.1.1.1
    obtain ⟨g, rfl⟩ : ∃ x, g = x + 1 := ⟨g - 1, by omega⟩
    have hi : i < n := by omega
    have ih := is_30 hy S d (i + 1) g (by omega) (by omega)
    have u1 : nI (jAl i m) + m 8 (9 * i + 2) = nI (jAl (i + 1) m) := by
      unfold jAl
      rcases S.1.2.1 i hi with ⟨-, l2⟩ | ⟨-, l2⟩
      · rw [l2, nI_1, zcnt_s1 (A := fun p => m 8 (9 * p + 2) = 1) l2]
      · rw [l2, Int32.add_zero, zcnt_s0 (A := fun p => m 8 (9 * p + 2) = 1) (by rw [l2]; decide)]
    have u2 : nI (jMd i m) + jmd m i = nI (jMd (i + 1) m) := by
      unfold jmd jMd
      by_cases h5 : m 8 (9 * i + 5) = -1
      · rw [if_pos h5, Int32.add_zero, zcnt_s0 (A := fun p => m 8 (9 * p + 5) ≠ -1) (fun q => q h5)]
      · rw [if_neg h5, nI_1, zcnt_s1 (A := fun p => m 8 (9 * p + 5) ≠ -1) h5]
    have u3 : nI (zcnt (jRu L m) i) + jr1 L m i = nI (zcnt (jRu L m) (i + 1)) := by
      unfold jr1
      by_cases h5 : zcnt (fun l => m 9 (4 * l + 2) = nI i) L = 0
      · rw [if_pos h5, Int32.add_zero, zcnt_s0 (A := jRu L m) (fun q => q h5)]
      · rw [if_neg h5, nI_1, zcnt_s1 (A := jRu L m) h5]
    have u4 : nI (zcnt (jYo L y m) i) + jy1 L y m i = nI (zcnt (jYo L y m) (i + 1)) := by
      unfold jy1
      by_cases h5 : zcnt (fun l => m 9 (4 * l + 2) = nI i) L = 0
      · rw [if_pos h5, Int32.add_zero, zcnt_s0 (A := jYo L y m) (fun q => q.1 h5)]
      · rw [if_neg h5]
        by_cases h16 : 16 ≤ nI y - m 8 (9 * i + 1)
        · rw [if_pos h16, Int32.add_zero, zcnt_s0 (A := jYo L y m) (fun q => q.2 h16)]
        · rw [if_neg h16, nI_1, zcnt_s1 (A := jYo L y m) ⟨h5, h16⟩]
    have u5 : jAg y m i + ja1 y m i = jAg y m (i + 1) := rfl
    have e0 : F_X8_isSame_30 z (g + 1) (nI (jAl i m)) (nI (jMd i m)) 0 (nI (zcnt (jRu L m) i)) (nI (zcnt (jYo L y m) i)) (jAg y m i) (nI n) (nI i) k = F_X8_isSame_37 z (F_X8_isSame_30 z g) (nI (jAl i m)) (nI (jMd i m)) 0 (nI (zcnt (jRu L m) i)) (nI (zcnt (jYo L y m) i)) (jAg y m i) (nI n) (nI i) k := by
      simp only [F_X8_isSame_30, pz_cF hi (show n < 2 ^ 31 by omega), if_false]
    rw [e0, is_37 hy S hi, u1, u2, u3, u4, u5, nI_1, ih, pz_kadd]
    congr 1 <;> omega
end ZS
