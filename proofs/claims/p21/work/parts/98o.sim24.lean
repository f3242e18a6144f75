/-! ACT: annul, die -/
section ZS
variable {n L h0 H c p q w x r B y y' l ag Y s A U E : Nat} {k k' m m' z z' mc : kS} {v v1 v2 v3 h a b t gv : Int32} {f : Nat → Int32} {P : Nat → Int32}
def jAnO (n L h0 c y : Nat) (k m z : kS) (o : Option ((Int32 × kS × kS) × Nat × Nat)) : Prop := o = some ((1, k, z), 0, 0) ∨ ∃ k' m' z' c1 s1, o = some ((1, k', z'), c1, s1) ∧ c1 ≤ 5 ∧ s1 ≤ h0 + 25 ∧ jSt n L (h0 + 1) (4100 * (c + 1)) y k' m' z' ∧ jAn n L m m'
theorem jact_ann (S : jSt n L h0 (4100 * c) y k m z) (hy : y ≤ 100 * c) (hc : c < 600) (ha : A < n) (hh : h0 < 4000) : jAnO n L h0 c y k m z (F_L_act_614 v (nI A) k z) := by
  have R := S.2.2.2.2.1
  have e0 : z (4 * A + 1) 0 = nI A := (jR_p R ha).1
  have e6 : z (4 * A + 1) 6 = k 24 A := (jR_p R ha).2.2.2.2.2.2.1.trans (jSt_k24 S ha)
  obtain ⟨j, hj, ej⟩ := jbl_x (d := 2) (v >>> (4 &&& 31)) (by decide) (by decide)
  have ej : ∀ z, F_L_below z (v >>> (4 &&& 31)) 2 = some (nI j) := ej
  by_cases h24 : k 24 A = -1
  · refine Or.inl ?_
    simp only [F_L_act_614, jR_jN R, jR_jM R, jR_ln R, jR_lL R, if_false, jR_ng R (ha), jR_cl R (ha), pz_ge (ha), or_self, if_false, e6, h24, if_true, F_L_act_632, pz_10, pz_01, pz_00, pz_11, or_true, true_or, not_true_eq_false, if_false, if_true]
  · by_cases hj0 : j = 0
    · subst hj0
      have c0 : (nI 0 = 0) = True := eq_true rfl
      refine Or.inl ?_
      simp only [F_L_act_614, jR_jN R, jR_jM R, jR_ln R, jR_lL R, if_false, jR_ng R (ha), jR_cl R (ha), pz_ge (ha), or_self, if_false, e6, h24, F_L_act_622, ej, pz_bind, c0, if_true, F_L_act_632, pz_10, pz_01, pz_00, pz_11, or_true, true_or, not_true_eq_false, if_false, if_true]
    · have c0 : (nI j = 0) = False := eq_false (nI_ne0 (by omega) (by omega))
      obtain ⟨ans, k', m', z', c1, s1, g1, g2, g3, g4, g5, g6⟩ := jannul_st S hy hc ha h24 hh
      refine Or.inr ⟨k', m', z', 4 + c1, 24 + s1, ?_, by omega, by omega, g3, g6⟩
      simp only [F_L_act_614, jR_jN R, jR_jM R, jR_ln R, jR_lL R, if_false, jR_ng R (ha), jR_cl R (ha), pz_ge (ha), or_self, if_false, e6, h24, F_L_act_622, ej, pz_bind, c0, F_L_act_634, e0, g1, pz_nz, not_true_eq_false, g2, if_true, F_L_act_652, F_L_act_657, pz_10, pz_01, pz_00, pz_11, or_true, true_or, not_true_eq_false, if_false, if_true, pz_kadds, Nat.add_zero]
def jDiO (n L h0 H y : Nat) (k m z : kS) (o : Option ((Int32 × kS × kS) × Nat × Nat)) : Prop := o = some ((1, k, z), 0, 0) ∨ ∃ k' m' z' c1 s1 r, r < n ∧ k 29 r = -1 ∧ o = some ((1, k', z'), c1, s1) ∧ jSt n L (h0 + 12) (H + 1) y k' m' z' ∧ zFr 15 k k' ∧ zAl 15 n k' + 1 ≤ zAl 15 n k ∧ jDie n L k m m' r ∧ m' 11 = m 11 ∧ c1 ≤ 4 + jDc L (jmx k n n) ∧ s1 ≤ 24 + jDs L (jmx k n n)
theorem jact_die (S : jSt n L h0 H y k m z) (ha : A < n) (hy : y < 2 ^ 30) (hh : h0 + 13 < 4000) (hH : H < 2 ^ 30) : jDiO n L h0 H y k m z (F_L_act_658 v (nI A) k z) := by
  have R := S.2.2.2.2.1
  have e0 : z (4 * A + 1) 0 = nI A := (jR_p R ha).1
  obtain ⟨j, hj, ej⟩ := jbl_x (d := 2) (v >>> (4 &&& 31)) (by decide) (by decide)
  have ej : ∀ z, F_L_below z (v >>> (4 &&& 31)) 2 = some (nI j) := ej
  rcases jSt_lv S hy A ha with ⟨l2, l1⟩ | ⟨⟨t, ht, l2⟩, l1⟩
  · by_cases hj0 : j = 0
    · subst hj0
      have c0 : (nI 0 = 0) = True := eq_true rfl
      refine Or.inl ?_
      simp only [F_L_act_658, jR_jN R, jR_jM R, jR_ln R, jR_lL R, if_false, jR_ng R (ha), jR_cl R (ha), pz_ge (ha), or_self, if_false, jLv_m l2, F_L_act_666, ej, pz_bind, c0, if_true, F_L_act_676, pz_10, pz_01, pz_00, pz_11, or_true, true_or, not_true_eq_false, if_false, if_true]
    · have c0 : (nI j = 0) = False := eq_false (nI_ne0 (by omega) (by omega))
      obtain ⟨cnt, k', m', z', c1, s1, g1, g2, g3, g4, g5, g6, g7, g8, g9⟩ := jdiec_st S ha l1 hy hh hH
      refine Or.inr ⟨k', m', z', 4 + c1, 24 + s1, A, ha, l1, ?_, g3, g4, g5, g6, g7, by omega, by omega⟩
      simp only [F_L_act_658, jR_jN R, jR_jM R, jR_ln R, jR_lL R, if_false, jR_ng R (ha), jR_cl R (ha), pz_ge (ha), or_self, if_false, jLv_m l2, F_L_act_666, ej, pz_bind, c0, F_L_act_678, e0, g1, pz_nz, not_true_eq_false, g2, if_true, F_L_act_696, F_L_act_701, pz_10, pz_01, pz_00, pz_11, or_true, true_or, not_true_eq_false, if_false, if_true, pz_kadds, Nat.add_zero]
  · refine Or.inl ?_
    simp only [F_L_act_658, jR_jN R, jR_jM R, jR_ln R, jR_lL R, if_false, jR_ng R (ha), jR_cl R (ha), pz_ge (ha), or_self, if_false, jLv_neg ht l2, if_true, F_L_act_676, pz_10, pz_01, pz_00, pz_11, or_true, true_or, not_true_eq_false, if_false, if_true]
end ZS
