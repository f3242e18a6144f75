/-! ACT: a child is born -/
section ZS
variable {n L h0 H c p q w x r B y y' l ag Y s A U : Nat} {k k' m m' z z' mc : kS} {v v1 v2 v3 h a b t gv : Int32} {f : Nat → Int32} {P : Nat → Int32}
/-- what the third kind of turn does -/
def jBorn (n L h0 H y : Nat) (k m z : kS) (o : Option ((Int32 × kS × kS) × Nat × Nat)) : Prop := o = some ((1, k, z), 0, 0) ∨ ∃ k' m' z' v p q, n < 40 ∧ (v = 0 ∨ v = 1) ∧ p < n ∧ q < n ∧ k 24 p = nI q ∧ o = some ((1, k', z'), 6, n + 34) ∧ jSt (n + 1) L h0 H y k' m' z' ∧ (∀ q, q ≠ 7 → q ≠ 8 → m' q = m q) ∧ (∀ p w, p < n → w < 9 → m' 8 (9 * p + w) = m 8 (9 * p + w)) ∧ (∀ w, w < 9 → m' 8 (9 * n + w) = zSaid v (nI y) (nI p) (nI q) w)
theorem jact_bear_l (S : jSt n L h0 H y k m z) (hy : y < 2 ^ 30) (hA : A < n) : ∀ (d i g : Nat), i + d = n → d < g → jBorn n L h0 H y k m z (F_L_act_231 g v (nI n) (nI A) (nI i) k z)
  | 0, i, g, hd, hg => by
    have hn := S.1.1.1
    obtain ⟨g, rfl⟩ : ∃ x, g = x + 1 := ⟨g - 1, by omega⟩
    obtain rfl : i = n := by omega
    refine Or.inl ?_
    simp only [F_L_act_231, pz_cT (show i < 2 ^ 31 by omega), if_true, F_L_act_340, pz_10, pz_01, pz_00, pz_11, or_true, true_or, not_true_eq_false, if_false, if_true]
  | d + 1, i, g, hd, hg => by
    have hn := S.1.1.1
    have R := S.2.2.2.2.1
    obtain ⟨g, rfl⟩ : ∃ x, g = x + 1 := ⟨g - 1, by omega⟩
    have c := pz_cF (show i < n by omega) (show n < 2 ^ 31 by omega)
    by_cases h40 : n = 40
    · refine Or.inl ?_
      have c40 : (40 ≤ nI n) = True := by rw [h40]; exact eq_true (by decide)
      simp only [F_L_act_231, c, if_false, F_L_act_237, c40, if_true, F_L_act_340, pz_10, pz_01, pz_00, pz_11, or_true, true_or, not_true_eq_false, if_false, if_true]
    · have c40 : (40 ≤ nI n) = False := eq_false (nI_ge (b := 40) (by omega) (by decide))
      obtain ⟨p, hp⟩ : ∃ p, p = (A + i) % n := ⟨_, rfl⟩
      have hpn : p < n := by rw [hp]; exact Nat.mod_lt _ (by omega)
      have eA : z (4 * A + 1) 0 = nI A := (jR_p R hA).1
      have ix : nI A + nI i - (nI A + nI i) / nI n * nI n = nI p := by rw [nI_add, pk_rem (by omega) (by omega) (by omega), ← hp]
      have n0 : (nI n = 0) = False := eq_false (nI_ne0 (by omega) (by omega))
      have e1 : z (4 * p + 1) 1 = k 2 p := (jR_p R hpn).2.1.trans (jSt_k2 S hpn)
      have e6 : z (4 * p + 1) 6 = k 24 p := (jR_p R hpn).2.2.2.2.2.2.1.trans (jSt_k24 S hpn)
      have ih := jact_bear_l S hy hA d (i + 1) g (by omega) (by omega)
      by_cases h2 : k 2 p = 0
      · by_cases h24 : k 24 p = -1
        · have e : F_L_act_231 (g + 1) v (nI n) (nI A) (nI i) k z = F_L_act_231 g v (nI n) (nI A) (nI (i + 1)) k z := by
            simp only [F_L_act_231, c, if_false, F_L_act_237, c40, F_L_act_243, jR_jN R, jR_jM R, jR_ln R, jR_lL R, if_false, jR_ng R (hA), jR_cl R (hA), pz_ge (hA), or_self, if_false, jR_ng R (hpn), jR_cl R (hpn), pz_ge (hpn), or_self, if_false, eA, ix, n0, jR_z4 R hpn, e1, h2, if_true, F_L_act_268, e6, h24, F_L_act_276, F_L_act_334, nI_1]
          rw [e]; exact ih
        · obtain ⟨q, hq, eq⟩ : ∃ q, q < n ∧ k 24 p = nI q := by
            rcases (S.1.2.2.2.2.2.1 rfl).1.2.2 p hpn with ⟨h, -⟩ | ⟨q, q1, -, q3, -⟩
            · exact absurd h h24
            · exact ⟨q, q1, q3⟩
          obtain ⟨j, hj, ej⟩ := jbl_x (d := 2) (v >>> (2 &&& 31)) (by decide) (by decide)
          have ej : ∀ z, F_L_below z (v >>> (2 &&& 31)) 2 = some (nI j) := ej
          have e0 : F_L_act_231 (g + 1) v (nI n) (nI A) (nI i) k z = F_L_act_279 v (nI n) (nI p) k z := by
            simp only [F_L_act_231, c, if_false, F_L_act_237, c40, F_L_act_243, jR_jN R, jR_jM R, jR_ln R, jR_lL R, if_false, jR_ng R (hA), jR_cl R (hA), pz_ge (hA), or_self, if_false, jR_ng R (hpn), jR_cl R (hpn), pz_ge (hpn), or_self, if_false, eA, ix, n0, jR_z4 R hpn, e1, h2, if_true, F_L_act_268, e6, h24]
          have bad := jR_b R (jk_n hpn)
          by_cases hj0 : j = 0
          · subst hj0
            obtain ⟨k', m', z', g1, g2, g3, g4, g5, g6⟩ := jbear_st (v2 := 1) S (by omega) (Or.inr rfl) hpn hq h2 eq hy
            refine Or.inr ⟨k', m', z', 1, p, q, by omega, Or.inr rfl, hpn, hq, eq, ?_, g3, g4, g5, g6⟩
            have R' := g3.2.2.2.2.1
            have ng := jR_ng R' (show p < n + 1 by omega)
            have e9 : z' (4 * p + 1) 0 = nI p := (jR_p R' (show p < n + 1 by omega)).1
            have c0 : (nI 0 = 0) = True := eq_true rfl
            rw [e0]
            simp only [F_L_act_279, ej, pz_bind, c0, if_true, F_L_act_292, F_L_act_297, jR_jN R, bad, if_false, g2, jR_jN R', ng, jR_cl R hpn, pz_ge (show p < n + 1 by omega), or_self, e9, F_L_act_316, F_L_act_321, g1, pz_nz, not_true_eq_false, F_L_act_328, F_L_act_333, pz_10, pz_01, pz_00, pz_11, or_true, true_or, not_true_eq_false, if_false, if_true, pz_kadds]
            all_goals (congr 3 <;> omega)
          · have c0 : (nI j = 0) = False := eq_false (nI_ne0 (by omega) (by omega))
            obtain ⟨k', m', z', g1, g2, g3, g4, g5, g6⟩ := jbear_st (v2 := 0) S (by omega) (Or.inl rfl) hpn hq h2 eq hy
            refine Or.inr ⟨k', m', z', 0, p, q, by omega, Or.inl rfl, hpn, hq, eq, ?_, g3, g4, g5, g6⟩
            have R' := g3.2.2.2.2.1
            have ng := jR_ng R' (show p < n + 1 by omega)
            have e9 : z' (4 * p + 1) 0 = nI p := (jR_p R' (show p < n + 1 by omega)).1
            rw [e0]
            simp only [F_L_act_279, ej, pz_bind, c0, F_L_act_296, F_L_act_297, jR_jN R, bad, if_false, g2, jR_jN R', ng, jR_cl R hpn, pz_ge (show p < n + 1 by omega), or_self, e9, F_L_act_320, F_L_act_321, g1, pz_nz, not_true_eq_false, F_L_act_328, F_L_act_333, pz_10, pz_01, pz_00, pz_11, or_true, true_or, not_true_eq_false, if_false, if_true, pz_kadds]
            all_goals (congr 3 <;> omega)
      · have e : F_L_act_231 (g + 1) v (nI n) (nI A) (nI i) k z = F_L_act_231 g v (nI n) (nI A) (nI (i + 1)) k z := by
          simp only [F_L_act_231, c, if_false, F_L_act_237, c40, F_L_act_243, jR_jN R, jR_jM R, jR_ln R, jR_lL R, if_false, jR_ng R (hA), jR_cl R (hA), pz_ge (hA), or_self, if_false, jR_ng R (hpn), jR_cl R (hpn), pz_ge (hpn), or_self, if_false, eA, ix, n0, jR_z4 R hpn, e1, h2, F_L_act_334, nI_1]
        rw [e]; exact ih
theorem jact_bear (S : jSt n L h0 H y k m z) (hy : y < 2 ^ 30) (hA : A < n) : jBorn n L h0 H y k m z (F_L_act_228 v (nI n) (nI A) k z) := by
  have hn := S.1.1.1
  exact jact_bear_l S hy hA n 0 kN (by omega) (by show n < 4096; omega)
end ZS
