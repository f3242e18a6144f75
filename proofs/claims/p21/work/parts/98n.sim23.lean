/-! ACT: two are wed -/
section ZS
variable {n L h0 H c p q w x r B y y' l ag Y s A U E : Nat} {k k' m m' z z' mc : kS} {v v1 v2 v3 h a b t gv : Int32} {f : Nat → Int32} {P : Nat → Int32}
theorem jact_at (R : jQ n L h0 P m z) (hv : jk L v) : ∀ (d i g : Nat) (at' : Int32), i + d = L → d < g → (at' = v ∨ (at' = -1 ∧ ∀ l, v = nI l → i ≤ l)) → F_L_act_421 g a b v at' (nI i) k z = F_L_act_453 a b v v k z
  | 0, i, g, at', hd, hg, hI => by
    have hL := R.2.1
    obtain ⟨g, rfl⟩ : ∃ x, g = x + 1 := ⟨g - 1, by omega⟩
    obtain rfl : i = L := by omega
    have e : at' = v := by
      rcases hI with h | ⟨h1, h2⟩
      · exact h
      · rcases hv with h | ⟨l, hl, h⟩
        · rw [h1, h]
        · have := h2 l h; omega
    subst e
    simp only [F_L_act_421, jR_jN R, jR_jM R, jR_ln R, jR_lL R, if_false, pz_cT (show i < 2 ^ 31 by omega), if_true]
  | d + 1, i, g, at', hd, hg, hI => by
    have hL := R.2.1
    obtain ⟨g, rfl⟩ : ∃ x, g = x + 1 := ⟨g - 1, by omega⟩
    have hi : i < L := by omega
    have c := pz_cF hi (show L < 2 ^ 31 by omega)
    by_cases e : nI i = v
    · have ih := jact_at R hv d (i + 1) g (nI i) (by omega) (by omega) (Or.inl e)
      rw [← ih]
      simp only [F_L_act_421, F_L_act_431, F_L_act_443, F_L_act_447, jR_jN R, jR_jM R, jR_ln R, jR_lL R, if_false, jR_ngL R (hi), jR_clL R (hi), pz_ge (hi), or_self, if_false, c, jR_z8 R hi, jR_bl R (jk_n hi), jR_bl R hv, if_pos e, nI_1]
    · have ih := jact_at R hv d (i + 1) g at' (by omega) (by omega) (hI.imp id (fun h => ⟨h.1, fun l hl => by
        have := h.2 l hl
        by_cases e2 : i = l
        · subst e2; exact absurd hl.symm e
        · omega⟩))
      rw [← ih]
      simp only [F_L_act_421, F_L_act_431, F_L_act_447, jR_jN R, jR_jM R, jR_ln R, jR_lL R, if_false, jR_ngL R (hi), jR_clL R (hi), pz_ge (hi), or_self, if_false, c, jR_z8 R hi, jR_bl R (jk_n hi), jR_bl R hv, if_neg e, nI_1]
def jWed (n L h0 c y : Nat) (k m z : kS) (o : Option ((Int32 × kS × kS) × Nat × Nat)) : Prop := o = some ((1, k, z), 0, 0) ∨ ∃ k' m' z' A U c1 s1, A < n ∧ U < n ∧ o = some ((1, k', z'), c1, s1) ∧ c1 ≤ 5 ∧ s1 ≤ h0 + 25 ∧ jSt n L (h0 + 1) (4100 * (c + 1)) y k' m' z' ∧ jMr n L m m' A U
theorem jact_453 (S : jSt n L h0 (4100 * c) y k m z) (hy : y ≤ 100 * c) (hc : c < 600) (ha : A < n) (hu : U < n) (hcan : jCan k A U) (hv : v = -1 ∨ ∃ l, l < L ∧ v = nI l ∧ (m 9 (4 * l + 2) = nI A ∨ m 9 (4 * l + 2) = nI U)) (hh : h0 < 4000) : jWed n L h0 c y k m z (F_L_act_453 (nI A) (nI U) v v k z) := by
  obtain ⟨wA, wU, k', m', z', c1, s1, g1, g2, g3, g4, g5, g6, g7, g8⟩ := jmarry_st S hy hc ha hu hcan hv hh
  have R' := g5.2.2.2.2.1
  have eA : z' (4 * A + 1) 0 = nI A := (jR_p R' ha).1
  have eU : z' (4 * U + 1) 0 = nI U := (jR_p R' hu).1
  refine Or.inr ⟨k', m', z', A, U, c1 + 4, s1 + 24, ha, hu, ?_, by omega, by omega, g5, g8⟩
  have R := R'
  simp only [F_L_act_453, g2, pz_bind, jR_jN R, jR_jM R, jR_ln R, jR_lL R, if_false, jR_ng R (ha), jR_cl R (ha), pz_ge (ha), or_self, if_false, jR_ng R (hu), jR_cl R (hu), pz_ge (hu), or_self, if_false, eA, eU, g1, pz_nz, not_true_eq_false, g3, g4, if_true, F_L_act_495, F_L_act_500, pz_10, pz_01, pz_00, pz_11, or_true, true_or, not_true_eq_false, if_false, if_true, pz_kadds, Nat.add_zero]
theorem jact_mar_l (S : jSt n L h0 (4100 * c) y k m z) (hy : y ≤ 100 * c) (hc : c < 600) (ha : A < n) (he : E < n) (hv : jk L v) (hh : h0 < 4000) : ∀ (d i g : Nat), i + d = n → d < g → jWed n L h0 c y k m z (F_L_act_345 g (nI n) (nI A) (nI E) v (nI i) k z)
  | 0, i, g, hd, hg => by
    have hn := S.1.1.1
    obtain ⟨g, rfl⟩ : ∃ x, g = x + 1 := ⟨g - 1, by omega⟩
    obtain rfl : i = n := by omega
    refine Or.inl ?_
    simp only [F_L_act_345, pz_cT (show i < 2 ^ 31 by omega), if_true, F_L_act_507, pz_10, pz_01, pz_00, pz_11, or_true, true_or, not_true_eq_false, if_false, if_true]
  | d + 1, i, g, hd, hg => by
    have hn := S.1.1.1
    have R := S.2.2.2.2.1
    have hL := R.2.1
    obtain ⟨g, rfl⟩ : ∃ x, g = x + 1 := ⟨g - 1, by omega⟩
    have cc := pz_cF (show i < n by omega) (show n < 2 ^ 31 by omega)
    obtain ⟨p, hp⟩ : ∃ p, p = (E + i) % n := ⟨_, rfl⟩
    have hpn : p < n := by rw [hp]; exact Nat.mod_lt _ (by omega)
    have eE : z (4 * E + 1) 0 = nI E := (jR_p R he).1
    have ix : nI E + nI i - (nI E + nI i) / nI n * nI n = nI p := by rw [nI_add, pk_rem (by omega) (by omega) (by omega), ← hp]
    have n0 : (nI n = 0) = False := eq_false (nI_ne0 (by omega) (by omega))
    have ih := jact_mar_l S hy hc ha he hv hh d (i + 1) g (by omega) (by omega)
    obtain ⟨r, -, r2, r3⟩ := jcn_x R S.1.1 (jSt_lv S (by omega)) ((jSt_z0 S).trans S.2.2.1.symm) (fun p hp => (jR_p R hp).2.2.2.2.2.2.1.trans (jSt_k24 S hp)) ha hpn
    rcases r3 with ⟨rfl, hcan⟩ | ⟨rfl, -⟩
    · have e0 : F_L_act_345 (g + 1) (nI n) (nI A) (nI E) v (nI i) k z = F_L_act_382 (nI A) v (nI p) k z := by
        simp only [F_L_act_345, cc, if_false, F_L_act_351, jR_jN R, jR_jM R, jR_ln R, jR_lL R, if_false, jR_ng R (he), jR_cl R (he), pz_ge (he), or_self, if_false, jR_ng R (hpn), jR_cl R (hpn), pz_ge (hpn), or_self, if_false, eE, ix, n0, jR_z4 R hpn, r2, pz_bind, pz_10]
      rw [e0]
      have at9 : ∀ u, jk L u → F_L_act_413 u (nI A) (nI p) k z = F_L_act_453 (nI A) (nI p) u u k z := fun u hu => by
        simp only [F_L_act_413]
        exact jact_at R hu L 0 kN (-1) (by omega) (by show L < 4096; omega) (Or.inr ⟨rfl, fun l _ => Nat.zero_le _⟩)
      have none' : jWed n L h0 c y k m z (F_L_act_412 (nI A) (nI p) k z) := by
        simp only [F_L_act_412, at9 (-1) (jk_m L)]
        exact jact_453 S hy hc ha hpn hcan (Or.inl rfl) hh
      rcases hv with rfl | ⟨l, hl, rfl⟩
      · simp only [F_L_act_382, if_true]; exact none'
      · have cl : (nI l = -1) = False := pz_m1' (by omega)
        have er : z (4 * l + 2) 2 = m 9 (4 * l + 2) := (jR_lr R hl).2.2.1
        have rk := ((jR_c R).2 l hl).1
        rw [er] at rk
        have yes : (m 9 (4 * l + 2) = nI A ∨ m 9 (4 * l + 2) = nI p) → jWed n L h0 c y k m z (F_L_act_407 (nI A) (nI l) (nI p) k z) := fun h => by
          simp only [F_L_act_407, at9 (nI l) (jk_n hl)]
          exact jact_453 S hy hc ha hpn hcan (Or.inr ⟨l, hl, rfl, h⟩) hh
        simp only [F_L_act_382, cl, if_false, F_L_act_387, F_L_act_397, jR_jN R, jR_jM R, jR_ln R, jR_lL R, if_false, jR_ngL R (hl), jR_clL R (hl), pz_ge (hl), or_self, if_false, er, jR_b R rk, jR_b R (jk_n ha), jR_b R (jk_n hpn)]
        by_cases h1 : m 9 (4 * l + 2) = nI A
        · rw [if_pos h1]; exact yes (Or.inl h1)
        · rw [if_neg h1]
          by_cases h2 : m 9 (4 * l + 2) = nI p
          · rw [if_pos h2]; exact yes (Or.inr h2)
          · rw [if_neg h2]; exact none'
    · have e0 : F_L_act_345 (g + 1) (nI n) (nI A) (nI E) v (nI i) k z = F_L_act_345 g (nI n) (nI A) (nI E) v (nI (i + 1)) k z := by
        simp only [F_L_act_345, cc, if_false, F_L_act_351, jR_jN R, jR_jM R, jR_ln R, jR_lL R, if_false, jR_ng R (he), jR_cl R (he), pz_ge (he), or_self, if_false, jR_ng R (hpn), jR_cl R (hpn), pz_ge (hpn), or_self, if_false, eE, ix, n0, jR_z4 R hpn, r2, pz_bind, pz_00, if_true, F_L_act_379, F_L_act_501, nI_1]
      rw [e0]; exact ih
theorem jact_mar (S : jSt n L h0 (4100 * c) y k m z) (hy : y ≤ 100 * c) (hc : c < 600) (ha : A < n) (he : E < n) (hv : jk L v) (hh : h0 < 4000) : jWed n L h0 c y k m z (F_L_act_342 (nI n) (nI A) (nI E) v k z) := by
  have hn := S.1.1.1
  exact jact_mar_l S hy hc ha he hv hh n 0 kN (by omega) (by show n < 4096; omega)
end ZS
