/-! SIM'S NUMBERS BESIDE THE REFERENCE'S -/
def jk (n : Nat) (c : Int32) : Prop := c = -1 ∨ ∃ q, q < n ∧ c = nI q
theorem jk_m (n : Nat) : jk n (-1) := Or.inl rfl
theorem jk_n {n q : Nat} (h : q < n) : jk n (nI q) := Or.inr ⟨q, h, rfl⟩
theorem jk_up {n n2 : Nat} {c : Int32} (h : jk n c) (h2 : n ≤ n2) : jk n2 c := h.imp id (fun ⟨q, a, b⟩ => ⟨q, by omega, b⟩)
def jRp (P : Nat → Int32) (z : kS) (p : Nat) : Prop := z (4 * p + 1) 0 = nI p ∧ z (4 * p + 1) 1 = P (9 * p) ∧ z (4 * p + 1) 2 = P (9 * p + 1) ∧ z (4 * p + 1) 3 = P (9 * p + 6) ∧ z (4 * p + 1) 4 = P (9 * p + 3) ∧ z (4 * p + 1) 5 = P (9 * p + 4) ∧ z (4 * p + 1) 6 = P (9 * p + 5) ∧ z (4 * p + 1) 7 = P (9 * p + 7) ∧ (z (4 * p + 1) 7 = -1 ∨ z (4 * p + 1) 8 = P (9 * p + 8))
def jRl (m z : kS) (l : Nat) : Prop := z (4 * l + 2) 0 = m 9 (4 * l) ∧ z (4 * l + 2) 1 = m 9 (4 * l + 1) ∧ z (4 * l + 2) 2 = m 9 (4 * l + 2) ∧ z 16 l = m 9 (4 * l + 3) ∧ ∀ h, h < 2 ^ 31 → z 16 l = nI h → ∀ i, i < min h 15 → z (4 * l + 3) i = m 10 (15 * l + i) ∧ m 10 (15 * l + i) ≠ -1
def jRc (n L : Nat) (z : kS) : Prop := (∀ p, p < n → jk n (z (4 * p + 1) 4) ∧ jk n (z (4 * p + 1) 5) ∧ jk n (z (4 * p + 1) 6) ∧ jk L (z (4 * p + 1) 7) ∧ jk n (z (4 * p + 1) 8)) ∧ ∀ l, l < L → jk n (z (4 * l + 2) 2) ∧ ∀ i, jk n (z (4 * l + 3) i)
/-- how many rulers the lands have had, at most -/
def jRh (L h0 : Nat) (z : kS) : Prop := ∀ l, l < L → ∃ h, h ≤ h0 ∧ z 16 l = nI h
def jRa (n L : Nat) (z : kS) : Prop := z 20 0 = nI n ∧ z 20 1 = nI L ∧ z 12 0 = nI n ∧ z 12 1 = nI L ∧ (∀ i, i < n → z 4 i = nI i) ∧ (∀ i, n ≤ i → z 4 i = -1) ∧ (∀ l, l < L → z 8 l = nI l) ∧ ∀ l, L ≤ l → z 8 l = -1
def jQ (n L h0 : Nat) (P : Nat → Int32) (m z : kS) : Prop := n ≤ 40 ∧ L ≤ 12 ∧ h0 ≤ 4000 ∧ jRa n L z ∧ z 0 0 = m 11 0 ∧ (∀ p, p < n → jRp P z p) ∧ (∀ l, l < L → jRl m z l) ∧ jRc n L z ∧ jRh L h0 z
abbrev jR (n L h0 : Nat) (m z : kS) : Prop := jQ n L h0 (m 8) m z
/-- who is dead has died at some time -/
def jRd (n : Nat) (m : kS) : Prop := ∀ p, p < n → (m 8 (9 * p + 2) = 1 ∧ m 8 (9 * p + 6) = -1) ∨ (m 8 (9 * p + 2) = 0 ∧ ∃ t, t < 2 ^ 30 ∧ m 8 (9 * p + 6) = nI t)
section ZS
variable {n L h0 a b p q w : Nat} {k m z : kS} {v : Int32} {P : Nat → Int32}
theorem jR_n (R : jQ n L h0 P m z) : n ≤ 40 := R.1
theorem jR_l (R : jQ n L h0 P m z) : L ≤ 12 := R.2.1
theorem jR_a (R : jQ n L h0 P m z) : jRa n L z := R.2.2.2.1
theorem jR_y (R : jQ n L h0 P m z) : z 0 0 = m 11 0 := R.2.2.2.2.1
theorem jR_p (R : jQ n L h0 P m z) (h : p < n) : jRp P z p := R.2.2.2.2.2.1 p h
theorem jR_lr (R : jQ n L h0 P m z) (h : w < L) : jRl m z w := R.2.2.2.2.2.2.1 w h
theorem jR_c (R : jQ n L h0 P m z) : jRc n L z := R.2.2.2.2.2.2.2.1
theorem jR_h (R : jQ n L h0 P m z) : jRh L h0 z := R.2.2.2.2.2.2.2.2
theorem jR_jN (R : jQ n L h0 P m z) : jN z = n := by
  have := (jR_n R)
  unfold jN
  rw [(jR_a R).1, nI_clamp (by omega)]
theorem jR_jM (R : jQ n L h0 P m z) : jM z = L := by
  have := (jR_l R)
  unfold jM
  rw [(jR_a R).2.1, nI_clamp (by omega)]
theorem jR_i (R : jQ n L h0 P m z) (h : p < n) : (nI p < 0 ∨ n ≤ p) = False := by
  have := R.1
  exact eq_false (fun q => q.elim (nI_pos (by omega)) (by omega))
theorem jR_il (R : jQ n L h0 P m z) (h : p < L) : (nI p < 0 ∨ L ≤ p) = False := by
  have := R.2.1
  exact eq_false (fun q => q.elim (nI_pos (by omega)) (by omega))
theorem jbad_f (hn : n < 2 ^ 31) (h : jk n v) : jbad n v = False := by
  refine eq_false (fun q => ?_)
  rcases h with h | ⟨x, hx, h⟩
  · exact q.1 h
  · subst h; exact nI_in hx hn q.2
theorem jR_b (R : jQ n L h0 P m z) (h : jk n v) : jbad n v = False := by
  have := R.1
  exact jbad_f (by omega) h
theorem jR_bl (R : jQ n L h0 P m z) (h : jk L v) : jbad L v = False := by
  have := R.2.1
  exact jbad_f (by omega) h
theorem jR_cl (R : jQ n L h0 P m z) (h : p < n) : (nI p).toNatClampNeg = p := by
  have := (jR_n R)
  exact nI_clamp (by omega)
theorem jR_clL (R : jQ n L h0 P m z) (h : p < L) : (nI p).toNatClampNeg = p := by
  have := (jR_l R)
  exact nI_clamp (by omega)
/-- the persons' and the lands' lengths -/
theorem jR_ln (R : jQ n L h0 P m z) : (z 12 0).toNatClampNeg = n := by
  have := (jR_n R)
  rw [(jR_a R).2.2.1, nI_clamp (by omega)]
theorem jR_lL (R : jQ n L h0 P m z) : (z 12 1).toNatClampNeg = L := by
  have := (jR_l R)
  rw [(jR_a R).2.2.2.1, nI_clamp (by omega)]
theorem jR_z4 (R : jQ n L h0 P m z) (h : p < n) : z 4 p = nI p := (jR_a R).2.2.2.2.1 p h
theorem jR_z8 (R : jQ n L h0 P m z) (h : p < L) : z 8 p = nI p := (jR_a R).2.2.2.2.2.2.1 p h
theorem jR_ng (R : jQ n L h0 P m z) (h : p < n) : (nI p < 0) = False := by
  have := R.1
  exact pz_n0 (by omega)
theorem jR_ngL (R : jQ n L h0 P m z) (h : p < L) : (nI p < 0) = False := by
  have := R.2.1
  exact pz_n0 (by omega)
theorem jN_lt (hn : n ≤ 40) : n < 2 ^ 31 := by omega
/-- who is before -/
theorem jbe_x (R : jR n L h0 m z) (hE : zEq n k m) (ha : a < n) (hb : b < n) : ∃ r, F_X8_isBefore z (nI a) (nI b) = some r ∧ ((r = 1 ∧ zBef k a b) ∨ (r = 0 ∧ ¬ zBef k a b)) := by
  have hn := (jR_n R)
  have ea : z (4 * a + 1) 2 = k 3 a := ((jR_p R) ha).2.2.1.trans (hE a ha).2.1
  have eb : z (4 * b + 1) 2 = k 3 b := ((jR_p R) hb).2.2.1.trans (hE b hb).2.1
  have na : z (4 * a + 1) 0 = nI a := ((jR_p R) ha).1
  have nb : z (4 * b + 1) 0 = nI b := ((jR_p R) hb).1
  simp only [F_X8_isBefore, F_X8_isBefore_0, F_X8_isBefore_11, F_X8_isBefore_30, F_X8_isBefore_22, F_X8_isBefore_26, F_X8_isBefore_41, F_X8_isBefore_45, F_X8_isBefore_46, jR_jN R, (jR_i R) ha, (jR_i R) hb, if_false, (jR_cl R) ha, (jR_cl R) hb, ea, eb, na, nb, pz_b1, pz_b0]
  by_cases h1 : k 3 a = k 3 b
  · rw [if_pos h1]
    by_cases h2 : nI b ≤ nI a
    · rw [if_pos h2]
      refine ⟨0, rfl, Or.inr ⟨rfl, fun h => ?_⟩⟩
      rw [pz_le (by omega) (by omega)] at h2
      rcases h with h | h
      · rw [h1] at h; exact absurd h (by rw [Int32.lt_iff_toInt_lt]; omega)
      · omega
    · rw [if_neg h2]
      refine ⟨1, rfl, Or.inl ⟨rfl, Or.inr ⟨h1, ?_⟩⟩⟩
      rw [pz_le (by omega) (by omega)] at h2
      omega
  · rw [if_neg h1]
    have h9 : (k 3 a).toInt ≠ (k 3 b).toInt := fun e => h1 (Int32.toInt_inj.mp e)
    by_cases h2 : k 3 b ≤ k 3 a
    · rw [if_pos h2]
      refine ⟨0, rfl, Or.inr ⟨rfl, fun h => ?_⟩⟩
      rw [Int32.le_iff_toInt_le] at h2
      rcases h with h | h
      · rw [Int32.lt_iff_toInt_lt] at h; omega
      · exact h1 h.1
    · rw [if_neg h2]
      refine ⟨1, rfl, Or.inl ⟨rfl, Or.inl ?_⟩⟩
      rw [Int32.le_iff_toInt_le] at h2
      rw [Int32.lt_iff_toInt_lt]; omega
theorem jah_x (R : jR n L h0 m z) (hE : zEq n k m) (hMl : zMl n k) (hw : w ≤ 2) (ha : a < n) (hb : b < n) (hab : a ≠ b) : ∃ r, F_X8_isAhead z (nI a) (nI b) (nI w) = some r ∧ ((r = 1 ∧ zAh k w a b) ∨ (r = 0 ∧ ¬ zAh k w a b)) := by
  have hn := (jR_n R)
  have ea : z (4 * a + 1) 1 = k 2 a := ((jR_p R) ha).2.1.trans (hE a ha).1
  have eb : z (4 * b + 1) 1 = k 2 b := ((jR_p R) hb).2.1.trans (hE b hb).1
  obtain ⟨r, hr, hr2⟩ := jbe_x R hE ha hb
  have main : ¬ (w = 0 ∧ k 2 a ≠ k 2 b) → ∃ r, F_X8_isAhead_40 z (nI a) (nI b) (nI w) = some r ∧ ((r = 1 ∧ zAh k w a b) ∨ (r = 0 ∧ ¬ zAh k w a b)) := by
    intro hx
    simp only [F_X8_isAhead_40, hr, pz_bind, F_X8_isAhead_54, F_X8_isAhead_50, F_X8_isAhead_55, F_X8_isAhead_58, F_X8_isAhead_62, F_X8_isAhead_63, pz_b1, pz_b0, pz_e2 (show w < 2 ^ 31 by omega)]
    by_cases h2 : w = 2
    · rw [zAh_3 h2]
      simp only [if_pos h2]
      rcases hr2 with ⟨rfl, h⟩ | ⟨rfl, h⟩
      · exact ⟨0, by simp, Or.inr ⟨rfl, zBef_as h⟩⟩
      · exact ⟨1, by simp, Or.inl ⟨rfl, (zBef_tot hab).resolve_left h⟩⟩
    · rw [zAh_2 hx h2]
      simp only [if_neg h2]
      rcases hr2 with ⟨rfl, h⟩ | ⟨rfl, h⟩
      · exact ⟨1, by simp, Or.inl ⟨rfl, h⟩⟩
      · exact ⟨0, by simp, Or.inr ⟨rfl, h⟩⟩
  simp only [F_X8_isAhead, F_X8_isAhead_0, F_X8_isAhead_4, F_X8_isAhead_11, F_X8_isAhead_18, F_X8_isAhead_20, F_X8_isAhead_24, F_X8_isAhead_31, F_X8_isAhead_38, jR_jN R, (jR_i R) ha, (jR_i R) hb, if_false, (jR_cl R) ha, (jR_cl R) hb, ea, eb, pz_b1, pz_b0, pz_e0 (show w < 2 ^ 31 by omega)]
  by_cases h0 : w = 0
  · simp only [if_pos h0]
    rcases hMl a ha with e1 | e1 <;> rcases hMl b hb with e2 | e2 <;> rw [e1, e2] <;> simp only [pz_10, pz_00, if_true, if_false]
    · exact main (by rw [e1, e2]; simp)
    · refine ⟨0, rfl, Or.inr ⟨rfl, ?_⟩⟩
      rw [zAh_1 ⟨h0, by rw [e1, e2]; decide⟩, e1]; decide
    · refine ⟨1, rfl, Or.inl ⟨rfl, ?_⟩⟩
      rw [zAh_1 ⟨h0, by rw [e1, e2]; decide⟩, e1]
    · exact main (by rw [e1, e2]; simp)
  · simp only [if_neg h0]
    exact main (fun h => h0 h.1)
end ZS
