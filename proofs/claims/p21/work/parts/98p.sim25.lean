/-! ACT: a land is founded -/
section ZS
variable {n L h0 H c p q w x r B y y' l ag Y s A U E : Nat} {k k' m m' z z' mc : kS} {v v1 v2 v3 h a b t gv : Int32} {f : Nat → Int32} {P : Nat → Int32}
theorem jnum_x (R : jQ n L h0 P m z) (hv : jk n v) : F_X8_number z v = some v := by
  rcases hv with rfl | ⟨p, hp, rfl⟩
  · simp only [F_X8_number_12, F_X8_number_4, F_X8_number_8, F_X8_number_0, F_X8_number, if_true]
  · have hn := R.1
    have cp : (nI p = -1) = False := pz_m1' (by omega)
    simp only [F_X8_number_12, F_X8_number_4, F_X8_number_8, F_X8_number_0, F_X8_number, cp, jR_jN R, jR_jM R, jR_ln R, jR_lL R, if_false, jR_ng R (hp), jR_cl R (hp), pz_ge (hp), or_self, if_false, (jR_p R hp).1]
def jFoO (n L h0 c y : Nat) (k m z : kS) (o : Option ((Int32 × kS × kS) × Nat × Nat)) : Prop := o = some ((1, k, z), 0, 0) ∨ ∃ k' m' z' c1 s1, L < 12 ∧ o = some ((1, k', z'), c1, s1) ∧ c1 ≤ 8 ∧ s1 ≤ h0 + 42 ∧ jSt n (L + 1) (h0 + 1) (4100 * (c + 1)) y k' m' z' ∧ m' 8 = m 8 ∧ (∀ l, l < L → jSm m m' l) ∧ m' 11 = m 11
noncomputable def jfo545 (A B F G s0 : Int32) (k z : kS) : Option ((Int32 × kS × kS) × Nat × Nat) :=
  (F_L_below z A F).bind fun x545_1 => (F_L_below z B G).bind fun x545_2 => if jbad (jN z) s0 then none else (F_X8_found (1 + x545_1) x545_2 s0 z).bind fun x545_4 => kadd x545_4.2.1 x545_4.2.2 ((F_L_below x545_4.1 A F).bind fun x545_7 => (F_L_below x545_4.1 B G).bind fun x545_8 => (F_X8_number x545_4.1 s0).bind fun x545_9 => (F_X5_found (1 + x545_7) x545_8 x545_9 k).bind fun x545_10 => if ¬ (x545_10.1.1 = 0) then none else kadd 4 24 (if x545_10.1.2 = ((nI (x545_4.1 12 1).toNatClampNeg) - 1) then F_L_act_608 x545_10.2 x545_4.1 else F_L_act_612 x545_10.2 x545_4.1))
theorem jfo545_e : F_L_act_545 t v k z = jfo545 (v >>> (2 &&& 31)) (v >>> (6 &&& 31)) 50 4 t k z := rfl
theorem jfo545_x {A B F G W : Int32} {c1 s1 h1 : Nat} (R : jR n L h0 m z) (R' : jR n (L + 1) h1 m' z') (kt : jk n t) (ew : ∀ z, F_L_below z A F = some W) (ex : ∀ z, F_L_below z B G = some (nI x)) (g1 : F_X5_found (1 + W) (nI x) t k = some ((0, nI L), k')) (g2 : F_X8_found (1 + W) (nI x) t z = some (z', c1, s1)) : jfo545 A B F G t k z = some ((1, k', z'), c1 + 4, s1 + 24) := by
  have e9 := jnum_x R' kt
  have e8 := jR_lL R'
  have b9 := jR_b R kt
  unfold jfo545
  rw [ew z, pz_bind, ex z, pz_bind, jR_jN R, if_neg (by rw [b9]; exact id), g2, pz_bind]
  show kadd c1 s1 ((F_L_below z' A F).bind _) = _
  rw [ew z', pz_bind, ex z', pz_bind, e9, pz_bind, g1, pz_bind]
  show kadd c1 s1 (if ¬ ((0 : Nat) = 0) then none else kadd 4 24 (if nI L = nI (z' 12 1).toNatClampNeg - 1 then F_L_act_608 k' z' else F_L_act_612 k' z')) = _
  rw [if_neg (by decide), e8, nI_pred, if_pos rfl]
  simp only [F_L_act_608, F_L_act_613, pz_10, pz_01, pz_00, pz_11, or_true, true_or, not_true_eq_false, if_false, if_true, pz_kadds, Nat.add_zero]
theorem jact_545 (S : jSt n L h0 (4100 * c) y k m z) (hc : c < 600) (hL : L < 12) (hv : t = -1 ∨ ∃ p, p < n ∧ t = nI p ∧ k 29 p = -1) (hh : h0 < 4000) : jFoO n L h0 c y k m z (F_L_act_545 t v k z) := by
  have R := S.2.2.2.2.1
  obtain ⟨w, hw, ew⟩ := jbl_x (d := 50) (v >>> (2 &&& 31)) (by decide) (by decide)
  obtain ⟨x, hx, ex⟩ := jbl_x (d := 4) (v >>> (6 &&& 31)) (by decide) (by decide)
  have kt : jk n t := by
    rcases hv with h | ⟨p, hp, h, -⟩
    · rw [h]; exact jk_m n
    · rw [h]; exact jk_n hp
  obtain ⟨k', m', z', c1, s1, g1, g2, g3, g4, g5, g6, g7, g8⟩ := jfound_st (w := w + 1) (x := x) (v := t) S hL hc (by omega) (by omega) (by omega) hv hh
  have e1 : (1 : Int32) + nI w = nI (w + 1) := by rw [show (1 : Int32) + nI w = nI (1 + w) from nI_add 1 w, Nat.add_comm]
  refine Or.inr ⟨k', m', z', c1 + 4, s1 + 24, hL, ?_, by omega, by omega, g3, g6, g7, g8⟩
  rw [← e1] at g1 g2
  rw [jfo545_e]
  exact jfo545_x (W := nI w) R g3.2.2.2.2.1 kt ew ex g1 g2
theorem jfo_12 (S : jSt n L h0 (4100 * c) y k m z) (h12 : L = 12) : F_L_act_509 v (nI A) k z = some ((1, k, z), 0, 0) := by
  have e := jR_lL S.2.2.2.2.1
  rw [h12] at e
  unfold F_L_act_509
  rw [e, if_pos (show nI 12 = (12 : Int32) from rfl)]
  simp only [F_L_act_519, pz_10, pz_01, pz_00, pz_11, or_true, true_or, not_true_eq_false, if_false, if_true]
theorem jfo_n (S : jSt n L h0 (4100 * c) y k m z) (h12 : L ≠ 12) : F_L_act_509 v (nI A) k z = F_L_act_521 v (nI A) k z := by
  have R := S.2.2.2.2.1
  have hL := R.2.1
  have e := jR_lL R
  unfold F_L_act_509
  rw [e]
  refine if_neg (fun g => h12 ?_)
  have g : nI L = nI 12 := g
  rwa [nI_eq (by omega) (by decide)] at g
theorem jfo_d (S : jSt n L h0 (4100 * c) y k m z) (ha : A < n) {t : Nat} (ht : t < 2 ^ 30) (h : z (4 * A + 1) 3 = nI t) : F_L_act_521 v (nI A) k z = F_L_act_545 (-1) v k z := by
  have R := S.2.2.2.2.1
  unfold F_L_act_521
  rw [jR_jN R, jR_cl R ha, if_neg (by rw [jR_ng R ha, pz_ge ha, or_self]; exact id), h, if_pos (nI_pos' (by omega))]
  rfl
theorem jfo_l (S : jSt n L h0 (4100 * c) y k m z) (ha : A < n) (h : z (4 * A + 1) 3 = -1) : F_L_act_521 v (nI A) k z = F_L_act_529 v (nI A) k z := by
  have R := S.2.2.2.2.1
  unfold F_L_act_521
  rw [jR_jN R, jR_cl R ha, if_neg (by rw [jR_ng R ha, pz_ge ha, or_self]; exact id), h, if_neg (by decide)]
theorem jact_fo (S : jSt n L h0 (4100 * c) y k m z) (hy : y < 2 ^ 30) (hc : c < 600) (ha : A < n) (hh : h0 < 4000) : jFoO n L h0 c y k m z (F_L_act_509 v (nI A) k z) := by
  have R := S.2.2.2.2.1
  have hL := R.2.1
  by_cases h12 : L = 12
  · exact Or.inl (jfo_12 S h12)
  · rw [jfo_n S h12]
    have none' := jact_545 (v := v) (t := -1) S hc (by omega) (Or.inl rfl) hh
    obtain ⟨j, hj, ej⟩ := jbl_x (d := 5) (v >>> (5 &&& 31)) (by decide) (by decide)
    rcases jSt_lv S hy A ha with ⟨l2, l1⟩ | ⟨⟨t, ht, l2⟩, l1⟩
    · rw [jfo_l S ha l2]
      have e : F_L_act_529 v (nI A) k z = if nI j = 0 then F_L_act_545 (-1) v k z else F_L_act_545 (nI A) v k z := by
        unfold F_L_act_529
        rw [show F_L_below z (v >>> (5 &&& 31)) 5 = some (nI j) from ej z, pz_bind]
        rfl
      rw [e]
      by_cases hj0 : nI j = 0
      · rw [if_pos hj0]; exact none'
      · rw [if_neg hj0]; exact jact_545 S hc (by omega) (Or.inr ⟨A, ha, rfl, l1⟩) hh
    · rw [jfo_d S ha ht l2]; exact none'
end ZS
