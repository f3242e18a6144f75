/-! ACT: below; a new person comes -/
section ZS
variable {n L h0 H c p q w x r B y y' l ag Y s A U d : Nat} {k k' m m' z z' mc : kS} {v v1 v2 v3 h a b t gv : Int32} {f : Nat → Int32} {P : Nat → Int32}
theorem jbl_x (v : Int32) (h0 : 0 < d) (hd : d < 2 ^ 31) : ∃ j, j < d ∧ ∀ z, F_L_below z v (nI d) = some (nI j) := by
  obtain ⟨a, ha, e⟩ := pk_andE v (m := 2147483647) 31 (by decide)
  refine ⟨a % d, Nat.mod_lt _ h0, fun z => ?_⟩
  simp only [F_L_below, F_L_below_0, if_neg (nI_ne0 h0 hd), e, pk_rem ha h0 hd]
/-- H, up to the next call's -/
theorem jSt_up {H' : Nat} (S : jSt n L h0 H y k m z) (h : H ≤ H') : jSt n L h0 H' y k m z := ⟨S.1, zXl_mono S.2.1 (fun _ _ => h), S.2.2⟩
theorem jact_come (S : jSt n L h0 H y k m z) (hy : y < 2 ^ 30) : (n = 40 ∧ F_L_act_160 v (nI n) k z = some ((1, k, z), 0, 0)) ∨ ∃ k' m' z' v1 ag, n < 40 ∧ (v1 = 0 ∨ v1 = 1) ∧ ag < 40 ∧ F_L_act_160 v (nI n) k z = some ((1, k', z'), 6, n + 34) ∧ jSt (n + 1) L h0 H y k' m' z' ∧ (∀ q, q ≠ 7 → q ≠ 8 → m' q = m q) ∧ (∀ p w, p < n → w < 9 → m' 8 (9 * p + w) = m 8 (9 * p + w)) ∧ (∀ w, w < 9 → m' 8 (9 * n + w) = zSaid v1 (nI y - nI ag) (-1) (-1) w) := by
  have hn := S.1.1.1
  by_cases h40 : n = 40
  · subst h40
    refine Or.inl ⟨rfl, ?_⟩
    have c40 : (nI 40 = 40) = True := eq_true rfl
    simp only [F_L_act_160, c40, if_true, F_L_act_166, pz_10, pz_01, pz_00, pz_11, or_true, true_or, not_true_eq_false, if_false, if_true]
  · right
    have c40 : (nI n = 40) = False := by
      have : (nI n = nI 40) = False := by rw [pz_eq (by omega) (by decide)]; exact eq_false h40
      exact this
    obtain ⟨ag, ha, ea⟩ := jbl_x (d := 40) (v >>> (2 &&& 31)) (by decide) (by decide)
    obtain ⟨j, hj, ej⟩ := jbl_x (d := 2) v (by decide) (by decide)
    have ea : ∀ z, F_L_below z (v >>> (2 &&& 31)) 40 = some (nI ag) := ea
    have ej : ∀ z, F_L_below z v 2 = some (nI j) := ej
    have main : ∀ v1, (v1 = 0 ∨ v1 = 1) → (∀ k z x, F_L_act_211 x v1 (nI ag) k z = F_L_act_211 x v1 (nI ag) k z) → ∃ k' m' z', F_X5_come v1 (nI ag) k = some ((0, nI n), k') ∧ F_L_act_211 (nI n) v1 (nI ag) k' z = some ((1, k', z'), 2, n + 10) ∧ jSt (n + 1) L h0 H y k' m' z' ∧ (∀ q, q ≠ 7 → q ≠ 8 → m' q = m q) ∧ (∀ p w, p < n → w < 9 → m' 8 (9 * p + w) = m 8 (9 * p + w)) ∧ (∀ w, w < 9 → m' 8 (9 * n + w) = zSaid v1 (nI y - nI ag) (-1) (-1) w) := by
      intro v1 hv _
      obtain ⟨k', m', z', g1, g2, g3, g4, g5, g6⟩ := jcome_st (v1 := v1) (ag := ag) S (by omega) hv (by omega) hy
      refine ⟨k', m', z', g1, ?_, g3, g4, g5, g6⟩
      have R := g3.2.2.2.2.1
      have e0 : z' (4 * n + 1) 0 = nI n := (jR_p R (show n < n + 1 by omega)).1
      simp only [F_L_act_211, g2, pz_bind, jR_jN R, jR_jM R, jR_ln R, jR_lL R, if_false, jR_ng R (show n < n + 1 by omega), jR_cl R (show n < n + 1 by omega), pz_ge (show n < n + 1 by omega), or_self, if_false, e0, if_true, F_L_act_222, F_L_act_227, pz_10, pz_01, pz_00, pz_11, or_true, true_or, not_true_eq_false, if_false, if_true, pz_kadds, Nat.add_zero]
    by_cases hj0 : j = 0
    · subst hj0
      obtain ⟨k', m', z', g1, g2, g3, g4, g5, g6⟩ := main 1 (Or.inr rfl) (fun _ _ _ => rfl)
      refine ⟨k', m', z', 1, ag, by omega, Or.inr rfl, ha, ?_, g3, g4, g5, g6⟩
      have c0 : (nI 0 = 0) = True := eq_true rfl
      simp only [F_L_act_160, c40, if_false, F_L_act_168, ea, ej, pz_bind, c0, if_true, F_L_act_187, F_L_act_192, g1, pz_nz, not_true_eq_false, F_L_act_206, g2, pz_kadds]
      congr 3
      omega
    · have c0 : (nI j = 0) = False := eq_false (nI_ne0 (by omega) (by omega))
      obtain ⟨k', m', z', g1, g2, g3, g4, g5, g6⟩ := main 0 (Or.inl rfl) (fun _ _ _ => rfl)
      refine ⟨k', m', z', 0, ag, by omega, Or.inl rfl, ha, ?_, g3, g4, g5, g6⟩
      simp only [F_L_act_160, c40, if_false, F_L_act_168, ea, ej, pz_bind, c0, F_L_act_191, F_L_act_192, g1, pz_nz, not_true_eq_false, F_L_act_210, g2, pz_kadds]
      congr 3
      omega
end ZS
