/-! COME AND BEAR, in all three -/
section ZS
variable {n L h0 H p q w r B y y' l ag : Nat} {k k' m m' z z' : kS} {v v1 v2 h a b t : Int32} {f : Nat → Int32} {P : Nat → Int32}
theorem jSt_z0 (S : jSt n L h0 H y k m z) : z 0 0 = nI y := (jR_y S.2.2.2.2.1).trans (jSt_ye S)
theorem jSt_k2 (S : jSt n L h0 H y k m z) (hp : p < n) : m 8 (9 * p) = k 2 p := (S.1.1.2.2.2.1 p hp).1
theorem jSt_k24 (S : jSt n L h0 H y k m z) (hp : p < n) : m 8 (9 * p + 5) = k 24 p := ((S.1.2.2.2.2.2.1 rfl).1.2.1 p hp).1
theorem jcome_st (S : jSt n L h0 H y k m z) (hn : n < 40) (hv : v1 = 0 ∨ v1 = 1) (hag : ag ≤ 60) (hy : y < 2 ^ 30) : ∃ k' m' z', F_X5_come v1 (nI ag) k = some ((0, nI n), k') ∧ F_X8_come v1 (nI ag) z = some ((nI n, z'), 2, n + 10) ∧ jSt (n + 1) L h0 H y k' m' z' ∧ (∀ q, q ≠ 7 → q ≠ 8 → m' q = m q) ∧ (∀ p w, p < n → w < 9 → m' 8 (9 * p + w) = m 8 (9 * p + w)) ∧ (∀ w, w < 9 → m' 8 (9 * n + w) = zSaid v1 (nI y - nI ag) (-1) (-1) w) := by
  have R := S.2.2.2.2.1
  obtain ⟨z', c1, c2⟩ := jcome_z (v2 := nI ag) R hn hv
  have z00 := jSt_z0 S
  have ti : (nI y - nI ag).toInt = (y : Int) - ag := pk_sub_toInt hy (by omega)
  obtain ⟨w0, w1, w2, w3, w4, w5, w6, w7, w8, w9, w10⟩ := c2
  obtain ⟨k', m', a1, a2, a3, a4, a5, a6⟩ := jnew_st (v := v1) (t := nI y - nI ag) (a := -1) (b := -1) S hn hv (Or.inl ⟨rfl, rfl⟩) ⟨w0, w1, w2, w3, w4, w5, w6, w7, w8, by rw [w9, z00], w10 4 (by decide), w10 5 (by decide), fun w hw => w10 w (by omega)⟩ (by rw [ti]; omega) (fun x hx h => by
    rcases h with h | h <;> exact absurd h.symm (pz_m1 (by omega))) (fun x hx => ⟨fun h => absurd h.symm (pz_m1 (by omega)), fun h => absurd h.symm (pz_m1 (by omega))⟩)
  refine ⟨k', m', z', ?_, c1, a2, a6, a4, a5⟩
  have h1 : ¬ nI ag < 0 := nI_pos (by omega)
  have h2 : nI ag ≤ 60 := nI_le (b := 60) hag (by decide)
  rw [← S.2.2.1] at a1
  simp only [F_X5_come, F_X5_come_0, F_X5_come_4, h1, h2, if_true, if_false, F_X5_come_20, fu_1 hn S.1.1.2.1, pz_bind, pz_00, F_X5_come_40, a1]
theorem jbear_st (S : jSt n L h0 H y k m z) (hn : n < 40) (hv : v2 = 0 ∨ v2 = 1) (hp : p < n) (hq : q < n) (h2 : k 2 p = 0) (h24 : k 24 p = nI q) (hy : y < 2 ^ 30) : ∃ k' m' z', F_X5_bear (nI p) v2 k = some ((0, nI n), k') ∧ F_X8_bear (nI p) v2 z = some (z', 2, n + 10) ∧ jSt (n + 1) L h0 H y k' m' z' ∧ (∀ q, q ≠ 7 → q ≠ 8 → m' q = m q) ∧ (∀ p w, p < n → w < 9 → m' 8 (9 * p + w) = m 8 (9 * p + w)) ∧ (∀ w, w < 9 → m' 8 (9 * n + w) = zSaid v2 (nI y) (nI p) (nI q) w) := by
  have R := S.2.2.2.2.1
  have hn40 := R.1
  obtain ⟨z1, c1, c2⟩ := jcome_z (v1 := v2) (v2 := 0) R hn hv
  have z00 := jSt_z0 S
  obtain ⟨⟨-, X2, X3⟩, X4⟩ := S.1.2.2.2.2.2.1 rfl
  have m24 := jSt_k24 S hp
  have hqp : q ≠ p ∧ k 24 q = nI p := by
    rcases X3 p hp with ⟨h, -⟩ | ⟨q', q1, q2, q3, q4, -⟩
    · rw [h24] at h; exact absurd h (pz_m1 (by omega))
    · rw [h24, nI_eq (by omega) (by omega)] at q3
      subst q3; exact ⟨q2, q4⟩
  have m24q : m 8 (9 * q + 5) = nI p := (jSt_k24 S hq).trans hqp.2
  obtain ⟨x1, x2, x3, x4, x5, x6, x7⟩ := S.2.2.2.2.2
  have g1 := x4 p q hp hq (m24.trans h24)
  have g2 := x4 q p hq hp m24q
  have sp : m 8 (9 * p) = 0 := (jSt_k2 S hp).trans h2
  have sq : m 8 (9 * q) = 1 := by
    rw [jSt_k2 S hq]
    rcases S.1.1.2.2.2.2.1 q hq with h | h
    · exact absurd (sp.trans (h.symm.trans (jSt_k2 S hq).symm)) g1.2.1
    · exact h
  have ti : (nI y).toInt = (y : Int) := nI_toInt (by omega)
  obtain ⟨w0, w1, w2, w3, w4, w5, w6, w7, w8, w9, w10⟩ := c2
  obtain ⟨z2, hz2⟩ : ∃ x, x = kst z1 (4 * n + 1) (upd (z1 (4 * n + 1)) 4 (nI p)) := ⟨_, rfl⟩
  obtain ⟨z3, hz3⟩ : ∃ x, x = kst z2 (4 * n + 1) (upd (z2 (4 * n + 1)) 5 (nI q)) := ⟨_, rfl⟩
  have f3o : ∀ x, x ≠ 4 * n + 1 → z3 x = z1 x := fun x hx => by rw [hz3, kst_ne _ _ hx, hz2, kst_ne _ _ hx]
  have f3P : z3 (4 * n + 1) = upd (upd (z1 (4 * n + 1)) 4 (nI p)) 5 (nI q) := by rw [hz3, kst_eq, hz2, kst_eq]
  obtain ⟨k', m', a1, a2, a3, a4, a5, a6⟩ := jnew_st (v := v2) (t := nI y) (a := nI p) (b := nI q) (z' := z3) S hn hv (Or.inr ⟨p, q, hp, hq, rfl, rfl⟩) ⟨fun x e1 e2 e3 e4 => by rw [f3o x e1]; exact w0 x e1 e2 e3 e4, by rw [f3o 20 (by omega)]; exact w1, by rw [f3o 20 (by omega)]; exact w2, by rw [f3o 12 (by omega)]; exact w3, by rw [f3o 12 (by omega)]; exact w4, by rw [f3o 4 (by omega)]; exact w5, by rw [f3o 4 (by omega)]; exact w6, by rw [f3P, pz_un (by decide), pz_un (by decide)]; exact w7, by rw [f3P, pz_un (by decide), pz_un (by decide)]; exact w8, by rw [f3P, pz_un (by decide), pz_un (by decide), w9, z00, Int32.sub_zero], by rw [f3P, pz_un (by decide), pz_us], by rw [f3P, pz_us], fun w hw => by rw [f3P, pz_un (by omega), pz_un (by omega)]; exact w10 w (by omega)⟩ (by rw [ti]; omega) (fun x hx h => by
    rw [ti]
    rcases h with h | h <;> rw [nI_eq (by omega) (by omega)] at h <;> subst h
    · exact ⟨g1.1, by omega⟩
    · exact ⟨g2.1, by omega⟩) (fun x hx => ⟨fun h => by rw [nI_eq (by omega) (by omega)] at h; subst h; exact sp, fun h => by rw [nI_eq (by omega) (by omega)] at h; subst h; exact sq⟩)
  refine ⟨k', m', z3, ?_, ?_, a2, a6, a4, a5⟩
  · have hk := S.1.1.2.1
    have p40 : p < 40 := by omega
    have nq : ¬ nI q = -1 := pz_m1 (by omega)
    have live : k 29 p = -1 := X4 p hp (by rw [h24]; exact nq)
    have lc := li_1 (B := 15) hn40 hk hp live
    rw [← S.2.2.1] at a1
    simp only [F_X5_bear, F_X5_bear_0, np_1 hn40 hk hp, pz_bind, pz_nz, if_true, sp_1 (B := 15) (k := k) p40, pz_n0 (show p < 2 ^ 31 by omega), nI_clamp (show p < 2 ^ 31 by omega), pz_ge (show p < 40 by omega), or_self, false_or, if_false, h2, show (15 + 9 : Nat) = 24 from rfl, h24, F_X5_bear_29, nq, F_X5_bear_34, lc, pz_10, F_X5_bear_55, fu_1 hn hk, pz_00, F_X5_bear_75, a1]
  · have N1 : jN z1 = n + 1 := by unfold jN; rw [w1, nI_clamp (by omega)]
    have N2 : jN z2 = n + 1 := by rw [hz2, jN_st (by omega)]; exact N1
    have e6 : z2 (4 * p + 1) 6 = nI q := by
      rw [hz2, kst_ne _ _ (by omega), w0 _ (by omega) (by omega) (by omega) (by omega)]
      exact (jR_p R hp).2.2.2.2.2.2.1.trans (m24.trans h24)
    have b1 : (nI n < 0) = False := pz_n0 (by omega)
    have b3 : (n + 1 ≤ n) = False := eq_false (by omega)
    have b4 : (n + 1 ≤ p) = False := eq_false (by omega)
    simp only [F_X8_bear, F_X8_bear_0, jR_jN R, jR_jM R, jR_ln R, jR_lL R, if_false, jR_b R (jk_n hp), c1, pz_bind, N1, b1, nI_clamp (show n < 2 ^ 31 by omega), b3, or_self]
    rw [show kput z1 (4 * n + 1) 4 (nI p) = z2 from hz2.symm]
    simp only [N2, jR_ng R (hp), jR_cl R (hp), pz_ge (hp), or_self, if_false, b4, b1, b3, or_self, if_false, e6]
    rw [show kput z2 (4 * n + 1) 5 (nI q) = z3 from hz3.symm]
    rfl
end ZS
