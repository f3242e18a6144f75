/-! ORDER OF CHILDREN; LOOPS THAT ONLY READ -/
section ZO
variable {n p q a b c L : Nat} {k m : kS} {v w : Int32} {B : Nat}
theorem pz_e0 {w : Nat} (h : w < 2 ^ 31) : (nI w = 0) = (w = 0) := pz_eq (b := 0) h (by decide)
theorem pz_e1 {w : Nat} (h : w < 2 ^ 31) : (nI w = 1) = (w = 1) := pz_eq (b := 1) h (by decide)
theorem pz_e2 {w : Nat} (h : w < 2 ^ 31) : (nI w = 2) = (w = 2) := pz_eq (b := 2) h (by decide)
theorem pz_e3 {w : Nat} (h : w < 2 ^ 31) : (nI w = 3) = (w = 3) := pz_eq (b := 3) h (by decide)
theorem zAh_1 {w : Nat} (h : w = 0 ∧ k 2 a ≠ k 2 b) : zAh k w a b ↔ k 2 a = 1 := by unfold zAh; rw [if_pos h]
theorem zAh_2 {w : Nat} (h : ¬ (w = 0 ∧ k 2 a ≠ k 2 b)) (h2 : w ≠ 2) : zAh k w a b ↔ zBef k a b := by unfold zAh; rw [if_neg h, if_neg h2]
theorem zAh_3 {w : Nat} (h : w = 2) : zAh k w a b ↔ zBef k b a := by unfold zAh; rw [if_neg (by omega), if_pos h]
theorem ah_x {w : Nat} (hn : n ≤ 40) (ha : a < n) (hb : b < n) (hE : zEq n k m) (hMl : zMl n k) (hw : w ≤ 2) : ∃ r, F_X0_isAhead k (nI a) (nI b) (nI w) = some r ∧ F_X6_isAhead m (nI a) (nI b) (nI w) = some r ∧ ((r = 1 ∧ zAh k w a b) ∨ (r = 0 ∧ ¬ zAh k w a b)) := by
  obtain ⟨r1, x1, y1, z1⟩ := be_x hn ha hb hE
  obtain ⟨r2, x2, y2, z2⟩ := be_x hn hb ha hE
  have b1 : (if ¬ (r1 = 0 ∨ r1 = 1) then none else some r1) = some r1 := if_neg (fun h => h (z1.elim (fun h => Or.inr h.1) (fun h => Or.inl h.1)))
  have b2 : (if ¬ (r2 = 0 ∨ r2 = 1) then none else some r2) = some r2 := if_neg (fun h => h (z2.elim (fun h => Or.inr h.1) (fun h => Or.inl h.1)))
  have e1 := (hE a ha).1
  have e2 := (hE b hb).1
  simp only [F_X0_isAhead_19, F_X0_isAhead_35, F_X0_isAhead_42, F_X0_isAhead_30, F_X0_isAhead_26, F_X0_isAhead_4, F_X0_isAhead_0, F_X0_isAhead, F_X6_isAhead_34, F_X6_isAhead_29, F_X6_isAhead_33, F_X6_isAhead_19, F_X6_isAhead_55, F_X6_isAhead_40, F_X6_isAhead_49, F_X6_isAhead_35, F_X6_isAhead_4, F_X6_isAhead_0, F_X6_isAhead, pz_n0 (show a < 2 ^ 31 by omega), nI_clamp (show a < 2 ^ 31 by omega), pz_ge (show a < 40 by omega), or_self, false_or, if_false, pz_n0 (show b < 2 ^ 31 by omega), nI_clamp (show b < 2 ^ 31 by omega), pz_ge (show b < 40 by omega), or_self, false_or, if_false, pe_0 (show a < 40 by omega), pe_0 (show b < 40 by omega), pz_bind, e1, e2, x1, x2, y1, y2, b1, b2, pz_e0 (show w < 2 ^ 31 by omega), pz_e1 (show w < 2 ^ 31 by omega), pz_e2 (show w < 2 ^ 31 by omega)]
  by_cases hm : w = 0 ∧ k 2 a ≠ k 2 b
  · refine ⟨k 2 a, ?_, ?_, ?_⟩
    · rw [if_pos hm.1, if_neg hm.2]
      rcases hMl a ha with ma | ma <;> simp [ma]
    · rw [if_pos hm.1, if_neg hm.2]
      rcases hMl a ha with ma | ma <;> simp [ma]
    · rw [zAh_1 hm]
      rcases hMl a ha with ma | ma
      · exact Or.inr ⟨ma, by rw [ma]; decide⟩
      · exact Or.inl ⟨ma, ma⟩
  · by_cases h2 : w = 2
    · refine ⟨r2, ?_, ?_, ?_⟩
      · simp [h2]
      · simp [h2]
      · rw [zAh_3 h2]; exact z2
    · refine ⟨r1, ?_, ?_, ?_⟩
      · by_cases h0 : w = 0
        · have : k 2 a = k 2 b := Classical.byContradiction fun h => hm ⟨h0, h⟩
          simp [h0, this]
        · have : w = 1 := by omega
          simp [this]
      · by_cases h0 : w = 0
        · have : k 2 a = k 2 b := Classical.byContradiction fun h => hm ⟨h0, h⟩
          simp [h0, this]
        · have : w = 1 := by omega
          simp [this]
      · rw [zAh_2 hm h2]; exact z1
/-- the order of children is total and strict -/
theorem zBef_tot (h : a ≠ b) : zBef k a b ∨ zBef k b a := by
  unfold zBef
  simp only [Int32.lt_iff_toInt_lt, ← Int32.toInt_inj]
  omega
theorem zBef_as (h : zBef k a b) : ¬ zBef k b a := by
  unfold zBef at *
  simp only [Int32.lt_iff_toInt_lt, ← Int32.toInt_inj] at *
  omega
theorem zBef_tr (h : zBef k a b) (h2 : zBef k b c) : zBef k a c := by
  unfold zBef at *
  simp only [Int32.lt_iff_toInt_lt, ← Int32.toInt_inj] at *
  omega
theorem zAh_tot {w : Nat} (hMl : zMl n k) (ha : a < n) (hb : b < n) (h : a ≠ b) : zAh k w a b ∨ zAh k w b a := by
  by_cases h2 : w = 2
  · rw [zAh_3 h2, zAh_3 h2]; exact (zBef_tot h).symm
  · by_cases hm : w = 0 ∧ k 2 a ≠ k 2 b
    · rw [zAh_1 hm, zAh_1 ⟨hm.1, hm.2.symm⟩]
      rcases hMl a ha with ma | ma <;> rcases hMl b hb with mb | mb
      · exact absurd (ma.trans mb.symm) hm.2
      · exact Or.inr mb
      · exact Or.inl ma
      · exact absurd (ma.trans mb.symm) hm.2
    · rw [zAh_2 hm h2, zAh_2 (fun q => hm ⟨q.1, q.2.symm⟩) h2]; exact zBef_tot h
theorem zAh_as {w : Nat} (hMl : zMl n k) (ha : a < n) (hb : b < n) (h : zAh k w a b) : ¬ zAh k w b a := by
  by_cases h2 : w = 2
  · rw [zAh_3 h2] at *; exact zBef_as h
  · by_cases hm : w = 0 ∧ k 2 a ≠ k 2 b
    · rw [zAh_1 hm] at h
      rw [zAh_1 ⟨hm.1, hm.2.symm⟩]
      exact fun q => hm.2 (h.trans q.symm)
    · rw [zAh_2 hm h2] at h
      rw [zAh_2 (fun q => hm ⟨q.1, q.2.symm⟩) h2]
      exact zBef_as h
theorem zAh_ir {w : Nat} (hMl : zMl n k) (ha : a < n) : ¬ zAh k w a a := fun h => zAh_as hMl ha ha h h
theorem zAh_tr {w : Nat} (hMl : zMl n k) (ha : a < n) (hb : b < n) (hc : c < n) (h : zAh k w a b) (g : zAh k w b c) : zAh k w a c := by
  by_cases h2 : w = 2
  · rw [zAh_3 h2] at *; exact zBef_tr g h
  · by_cases h0 : w = 0
    · subst h0
      by_cases hab : k 2 a = k 2 b
      · rw [zAh_2 (fun q => q.2 hab) h2] at h
        by_cases hbc : k 2 b = k 2 c
        · rw [zAh_2 (fun q => q.2 hbc) h2] at g
          rw [zAh_2 (fun q => q.2 (hab.trans hbc)) h2]
          exact zBef_tr h g
        · rw [zAh_1 ⟨rfl, hbc⟩] at g
          rw [zAh_1 ⟨rfl, fun q => hbc (hab.symm.trans q)⟩]
          exact hab.trans g
      · rw [zAh_1 ⟨rfl, hab⟩] at h
        by_cases hbc : k 2 b = k 2 c
        · rw [zAh_1 ⟨rfl, fun q => hab (q.trans hbc.symm)⟩]
          exact h
        · rw [zAh_1 ⟨rfl, hbc⟩] at g
          exact absurd (h.trans g.symm) hab
    · rw [zAh_2 (fun q => h0 q.1) h2] at *
      exact zBef_tr h g
/-! loops that only read -/
theorem nu_x (hL : L ≤ 12) (hk : k (B + 1) 0 = nI L) (hm : m 7 2 = nI L) (hr : ∀ l, l < L → m 9 (4 * l + 2) = k (B + 4) l) : ∃ r, F_X1_numberUnder B k v = some r ∧ F_X6_personTold_101 m v 0 = some r := by
  obtain ⟨b, b', h1, h2, h3⟩ := pz_loop20 (α := Int32) (α' := Int32) (fun g i a => F_X1_numberUnder_4 B k g v a (nI i)) (fun g i a => F_X6_personTold_104 m g v a (nI i)) (fun a => some a) (fun a => some a) L (fun _ a a' => a = a')
    (fun a a' _ => ⟨fun g => by
      have c : (nI L ≤ nI L) = True := eq_true (nI_le (Nat.le_refl _) (by omega))
      simp only [F_X1_numberUnder_25, F_X1_numberUnder_22, F_X1_numberUnder_12, F_X1_numberUnder_31, F_X1_numberUnder_4, F_X1_numberUnder_0, F_X1_numberUnder, hk, c, if_true], fun g => by
      have c : (nI L ≤ nI L) = True := eq_true (nI_le (Nat.le_refl _) (by omega))
      simp only [F_X6_personTold_56, F_X6_personTold_91, F_X6_personTold_86, F_X6_personTold_90, F_X6_personTold_75, F_X6_personTold_99, F_X6_personTold_66, F_X6_personTold_63, F_X6_personTold_130, F_X6_personTold_125, F_X6_personTold_129, F_X6_personTold_113, F_X6_personTold_138, F_X6_personTold_104, F_X6_personTold_101, F_X6_personTold_140, F_X6_personTold_146, F_X6_personTold_154, F_X6_personTold_0, F_X6_personTold, hm, c, if_true]⟩)
    (fun i a a' hi e => by
      subst e
      have c : (nI L ≤ nI i) = False := eq_false (nI_ge hi (by omega))
      by_cases h : k (B + 4) i = v
      · refine ⟨a + 1, a + 1, fun g => ?_, fun g => ?_, rfl⟩
        · simp only [F_X1_numberUnder_25, F_X1_numberUnder_22, F_X1_numberUnder_12, F_X1_numberUnder_31, F_X1_numberUnder_4, F_X1_numberUnder_0, F_X1_numberUnder, hk, c, if_false, pz_n0 (show i < 2 ^ 31 by omega), nI_clamp (show i < 2 ^ 31 by omega), pz_ge (show i < 12 by omega), or_self, false_or, if_false, h, if_true, nI_1]
        · simp only [F_X6_personTold_56, F_X6_personTold_91, F_X6_personTold_86, F_X6_personTold_90, F_X6_personTold_75, F_X6_personTold_99, F_X6_personTold_66, F_X6_personTold_63, F_X6_personTold_130, F_X6_personTold_125, F_X6_personTold_129, F_X6_personTold_113, F_X6_personTold_138, F_X6_personTold_104, F_X6_personTold_101, F_X6_personTold_140, F_X6_personTold_146, F_X6_personTold_154, F_X6_personTold_0, F_X6_personTold, hm, c, if_false, la_2 (show i < 12 by omega), pz_bind, hr i hi, h, if_true, nI_1]
      · refine ⟨a, a, fun g => ?_, fun g => ?_, rfl⟩
        · simp only [F_X1_numberUnder_25, F_X1_numberUnder_22, F_X1_numberUnder_12, F_X1_numberUnder_31, F_X1_numberUnder_4, F_X1_numberUnder_0, F_X1_numberUnder, hk, c, if_false, pz_n0 (show i < 2 ^ 31 by omega), nI_clamp (show i < 2 ^ 31 by omega), pz_ge (show i < 12 by omega), or_self, false_or, if_false, h, nI_1]
        · simp only [F_X6_personTold_56, F_X6_personTold_91, F_X6_personTold_86, F_X6_personTold_90, F_X6_personTold_75, F_X6_personTold_99, F_X6_personTold_66, F_X6_personTold_63, F_X6_personTold_130, F_X6_personTold_125, F_X6_personTold_129, F_X6_personTold_113, F_X6_personTold_138, F_X6_personTold_104, F_X6_personTold_101, F_X6_personTold_140, F_X6_personTold_146, F_X6_personTold_154, F_X6_personTold_0, F_X6_personTold, hm, c, if_false, la_2 (show i < 12 by omega), pz_bind, hr i hi, h, nI_1, Int32.add_zero])
    (by omega) (a := 0) (a' := 0) rfl
  subst h3
  exact ⟨b, h1, h2⟩
end ZO
