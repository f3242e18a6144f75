/-! THE RELATION OF THE CLASS'S NUMBERS AND THE REFERENCE'S: kin -/
theorem pz_b1 {α : Type} {x : Option α} : (if ¬ ((1 : Int32) = 0 ∨ (1 : Int32) = 1) then none else x) = x := if_neg (by decide)
theorem pz_b0 {α : Type} {x : Option α} : (if ¬ ((0 : Int32) = 0 ∨ (0 : Int32) = 1) then none else x) = x := if_neg (by decide)
theorem pz_10 : ((1 : Int32) = 0) = False := eq_false (by decide)
theorem pz_00 : ((0 : Int32) = 0) = True := eq_true rfl
theorem pz_11 : ((1 : Int32) = 1) = True := eq_true rfl
theorem pz_01 : ((0 : Int32) = 1) = False := eq_false (by decide)
theorem pz_mm : ((-1 : Int32) = -1) = True := eq_true rfl
theorem pz_mn : ((-1 : Int32) < 0) = True := eq_true (by decide)
theorem pz_ge {a N : Nat} (h : a < N) : (N ≤ a) = False := eq_false (by omega)
theorem pz_0lt : ((0 : Int32) < 0) = False := eq_false (by decide)
theorem pz_1le0 : (1 ≤ (0 : Nat)) = False := eq_false (by decide)
theorem pz_bind {α β : Type} (a : α) (f : α → Option β) : (some a).bind f = f a := rfl
def zPath (k : kS) : Nat → Nat → Nat → Prop
  | 0, a, q => a = q
  | d + 1, a, q => ∃ b, b < a ∧ (k 4 a = nI b ∨ k 5 a = nI b) ∧ zPath k d b q
def zSteps (n : Nat) (k : kS) : Prop := ∀ a b, a < n → b < n → (k (69 + a) b = -1 ∧ ∀ p d e, zPath k d a p → ¬ zPath k e b p) ∨ (∃ p d e, zPath k d a p ∧ zPath k e b p ∧ k (69 + a) b = nI (d + e) ∧ ∀ p' d' e', zPath k d' a p' → zPath k e' b p' → d + e ≤ d' + e')
def zPar (n : Nat) (k : kS) : Prop := ∀ p, p < n → (k 4 p = -1 ∧ k 5 p = -1) ∨ ∃ a b, a < p ∧ b < p ∧ k 4 p = nI a ∧ k 5 p = nI b
def zMl (n : Nat) (k : kS) : Prop := ∀ p, p < n → k 2 p = 0 ∨ k 2 p = 1
def zEq (n : Nat) (k m : kS) : Prop := ∀ p, p < n → m 8 (9 * p) = k 2 p ∧ m 8 (9 * p + 1) = k 3 p ∧ m 8 (9 * p + 3) = k 4 p ∧ m 8 (9 * p + 4) = k 5 p
def zKin (n : Nat) (k m : kS) : Prop := n ≤ 40 ∧ k 1 0 = nI n ∧ m 7 1 = nI n ∧ zEq n k m ∧ zMl n k ∧ zPar n k ∧ zSteps n k
section ZR
variable {n p q a b : Nat} {k m : kS} {v w : Int32} {B : Nat}
theorem pe_ {w : Nat} (hp : p < 40) (hw : w < 9) : F_X6_pe m (nI p) (nI w) = some (m 8 (9 * p + w)) := by
  show (if (9 * nI p + nI w < 0 ∨ 360 ≤ (9 * nI p + nI w).toNatClampNeg) then none else some (m 8 (9 * nI p + nI w).toNatClampNeg)) = _
  rw [pz_9, pz_if (by omega) (by decide), nI_clamp (by omega)]
theorem pe_0 (hp : p < 40) : F_X6_pe m (nI p) 0 = some (m 8 (9 * p)) := pe_ (w := 0) hp (by decide)
theorem pe_1 (hp : p < 40) : F_X6_pe m (nI p) 1 = some (m 8 (9 * p + 1)) := pe_ (w := 1) hp (by decide)
theorem pe_2 (hp : p < 40) : F_X6_pe m (nI p) 2 = some (m 8 (9 * p + 2)) := pe_ (w := 2) hp (by decide)
theorem pe_3 (hp : p < 40) : F_X6_pe m (nI p) 3 = some (m 8 (9 * p + 3)) := pe_ (w := 3) hp (by decide)
theorem pe_4 (hp : p < 40) : F_X6_pe m (nI p) 4 = some (m 8 (9 * p + 4)) := pe_ (w := 4) hp (by decide)
theorem pe_5 (hp : p < 40) : F_X6_pe m (nI p) 5 = some (m 8 (9 * p + 5)) := pe_ (w := 5) hp (by decide)
theorem pe_6 (hp : p < 40) : F_X6_pe m (nI p) 6 = some (m 8 (9 * p + 6)) := pe_ (w := 6) hp (by decide)
theorem pe_7 (hp : p < 40) : F_X6_pe m (nI p) 7 = some (m 8 (9 * p + 7)) := pe_ (w := 7) hp (by decide)
theorem pe_8 (hp : p < 40) : F_X6_pe m (nI p) 8 = some (m 8 (9 * p + 8)) := pe_ (w := 8) hp (by decide)
theorem set_ {w : Nat} (hp : p < 40) (hw : w < 9) : F_X6_set (nI p) (nI w) v m = some (kst m 8 (upd (m 8) (9 * p + w) v)) := by
  show (if (9 * nI p + nI w < 0 ∨ 360 ≤ (9 * nI p + nI w).toNatClampNeg) then none else some (kst m 8 (upd (m 8) (9 * nI p + nI w).toNatClampNeg v))) = _
  rw [pz_9, pz_if (by omega) (by decide), nI_clamp (by omega)]
theorem la_ {l w : Nat} (hl : l < 12) (hw : w < 4) : F_X6_la m (nI l) (nI w) = some (m 9 (4 * l + w)) := by
  show (if (4 * nI l + nI w < 0 ∨ 48 ≤ (4 * nI l + nI w).toNatClampNeg) then none else some (m 9 (4 * nI l + nI w).toNatClampNeg)) = _
  rw [pz_4, pz_if (by omega) (by decide), nI_clamp (by omega)]
theorem la_0 {l : Nat} (hl : l < 12) : F_X6_la m (nI l) 0 = some (m 9 (4 * l)) := la_ (w := 0) hl (by decide)
theorem la_1 {l : Nat} (hl : l < 12) : F_X6_la m (nI l) 1 = some (m 9 (4 * l + 1)) := la_ (w := 1) hl (by decide)
theorem la_2 {l : Nat} (hl : l < 12) : F_X6_la m (nI l) 2 = some (m 9 (4 * l + 2)) := la_ (w := 2) hl (by decide)
theorem la_3 {l : Nat} (hl : l < 12) : F_X6_la m (nI l) 3 = some (m 9 (4 * l + 3)) := la_ (w := 3) hl (by decide)
/-! what is a person -/
theorem kn_1 (hn : n ≤ 40) (hk : k 1 0 = nI n) (hp : p < n) : F_X0_knows k (nI p) = some 1 := by
  have h1 : (nI p < 0) = False := pz_n0 (by omega)
  have h2 : (nI n ≤ nI p) = False := by rw [pz_le (by omega) (by omega)]; exact eq_false (by omega)
  simp only [F_X0_knows, F_X0_knows_0, F_X0_knows_4, F_X0_knows_12, F_X0_knows_17, hk, h1, h2, if_false, pz_10, pz_01, pz_00, pz_11, or_true, true_or, not_true_eq_false, if_false, if_true]
theorem kn_0 (hk : k 1 0 = nI n) (h : v < 0 ∨ nI n ≤ v) : F_X0_knows k v = some 0 := by
  simp only [F_X0_knows, F_X0_knows_0, F_X0_knows_4, F_X0_knows_16, F_X0_knows_12, F_X0_knows_17, hk, pz_10, pz_01, pz_00, pz_11, or_true, true_or, not_true_eq_false, if_false, if_true]
  by_cases h1 : v < 0
  · rw [if_pos h1]
  · rw [if_neg h1, if_pos (h.resolve_left h1)]
theorem kn_m (hk : k 1 0 = nI n) : F_X0_knows k (-1) = some 0 := kn_0 hk (Or.inl (by decide))
theorem isIn_1 {v0 v1 v2 : Int32} (h1 : ¬ v0 < v1) (h2 : ¬ v2 < v0) : F_X6_isIn m v0 v1 v2 = some 1 := by
  simp only [F_X6_isIn, F_X6_isIn_0, F_X6_isIn_5, F_X6_isIn_10, F_X6_isIn_15, if_neg h1, if_neg h2, pz_10, pz_01, pz_00, pz_11, or_true, true_or, not_true_eq_false, if_false, if_true]
theorem isIn_0 {v0 v1 v2 : Int32} (h : v0 < v1 ∨ v2 < v0) : F_X6_isIn m v0 v1 v2 = some 0 := by
  simp only [F_X6_isIn, F_X6_isIn_0, F_X6_isIn_5, F_X6_isIn_14, F_X6_isIn_10, F_X6_isIn_15, pz_10, pz_01, pz_00, pz_11, or_true, true_or, not_true_eq_false, if_false, if_true]
  by_cases h1 : v0 < v1
  · rw [if_pos h1]
  · rw [if_neg h1, if_pos (h.resolve_left h1)]
theorem pz_sub1 {n : Nat} (hn : n < 2 ^ 30) : (nI n - 1).toInt = (n : Int) - 1 := pk_sub_toInt (b := 1) hn (by decide)
theorem ip_1 (hn : n ≤ 40) (hm : m 7 1 = nI n) (hp : p < n) : F_X6_isPerson m (nI p) = some 1 := by
  have h1 : ¬ nI p < 0 := nI_pos (by omega)
  have h2 : ¬ nI n - 1 < nI p := by
    rw [Int32.lt_iff_toInt_lt, pz_sub1 (by omega), nI_toInt (by omega)]
    omega
  simp only [F_X6_isPerson, F_X6_isPerson_0, hm, isIn_1 h1 h2, pz_bind, pz_10, pz_01, pz_00, pz_11, or_true, true_or, not_true_eq_false, if_false, if_true]
theorem pz_over {n : Nat} (hn : n < 2 ^ 30) (h : v < 0 ∨ nI n ≤ v) : v < 0 ∨ nI n - 1 < v := by
  refine h.imp id fun h => ?_
  rw [Int32.lt_iff_toInt_lt, pz_sub1 hn]
  rw [Int32.le_iff_toInt_le, nI_toInt (by omega)] at h
  omega
theorem ip_0 (hn : n ≤ 40) (hm : m 7 1 = nI n) (h : v < 0 ∨ nI n ≤ v) : F_X6_isPerson m v = some 0 := by
  simp only [F_X6_isPerson, F_X6_isPerson_0, hm, isIn_0 (pz_over (by omega) h), pz_bind, pz_10, pz_01, pz_00, pz_11, or_true, true_or, not_true_eq_false, if_false, if_true]
theorem il_1 {L l : Nat} (hn : L ≤ 12) (hm : m 7 2 = nI L) (hp : l < L) : F_X6_isLand m (nI l) = some 1 := by
  have h1 : ¬ nI l < 0 := nI_pos (by omega)
  have h2 : ¬ nI L - 1 < nI l := by
    rw [Int32.lt_iff_toInt_lt, pz_sub1 (by omega), nI_toInt (by omega)]
    omega
  simp only [F_X6_isLand, F_X6_isLand_0, hm, isIn_1 h1 h2, pz_bind, pz_10, pz_01, pz_00, pz_11, or_true, true_or, not_true_eq_false, if_false, if_true]
theorem il_0 {L : Nat} (hn : L ≤ 12) (hm : m 7 2 = nI L) (h : v < 0 ∨ nI L ≤ v) : F_X6_isLand m v = some 0 := by
  simp only [F_X6_isLand, F_X6_isLand_0, hm, isIn_0 (pz_over (by omega) h), pz_bind, pz_10, pz_01, pz_00, pz_11, or_true, true_or, not_true_eq_false, if_false, if_true]
theorem kl_1 {L l : Nat} (hn : L ≤ 12) (hk : k (B + 1) 0 = nI L) (hp : l < L) : F_X1_knows B k (nI l) = some 1 := by
  have h1 : (nI l < 0) = False := pz_n0 (by omega)
  have h2 : (nI L ≤ nI l) = False := by rw [pz_le (by omega) (by omega)]; exact eq_false (by omega)
  simp only [F_X1_knows, F_X1_knows_0, F_X1_knows_4, F_X1_knows_12, F_X1_knows_17, hk, h1, h2, if_false, pz_10, pz_01, pz_00, pz_11, or_true, true_or, not_true_eq_false, if_false, if_true]
theorem kl_0 {L : Nat} (hk : k (B + 1) 0 = nI L) (h : v < 0 ∨ nI L ≤ v) : F_X1_knows B k v = some 0 := by
  simp only [F_X1_knows, F_X1_knows_0, F_X1_knows_4, F_X1_knows_16, F_X1_knows_12, F_X1_knows_17, hk, pz_10, pz_01, pz_00, pz_11, or_true, true_or, not_true_eq_false, if_false, if_true]
  by_cases h1 : v < 0
  · rw [if_pos h1]
  · rw [if_neg h1, if_pos (h.resolve_left h1)]
/-! who lives, and how old one is -/
theorem li_1 (hn : n ≤ 40) (hk : k 1 0 = nI n) (hp : p < n) (h : k (B + 14) p = -1) : F_X4_lives B k (nI p) = some 1 := by
  simp only [F_X4_lives, F_X4_lives_0, kn_1 hn hk hp, pz_bind, pz_10, if_false, F_X4_lives_11, pz_n0 (show p < 2 ^ 31 by omega), nI_clamp (show p < 2 ^ 31 by omega), pz_ge (show p < 40 by omega), or_self, false_or, if_false, h, pz_mm, if_true, F_X4_lives_21, F_X4_lives_26, pz_10, pz_01, pz_00, pz_11, or_true, true_or, not_true_eq_false, if_false, if_true]
theorem li_0 (hn : n ≤ 40) (hk : k 1 0 = nI n) (hp : p < n) (h : ¬ k (B + 14) p = -1) : F_X4_lives B k (nI p) = some 0 := by
  simp only [F_X4_lives, F_X4_lives_0, kn_1 hn hk hp, pz_bind, pz_10, if_false, F_X4_lives_11, pz_n0 (show p < 2 ^ 31 by omega), nI_clamp (show p < 2 ^ 31 by omega), pz_ge (show p < 40 by omega), or_self, false_or, if_false, h, F_X4_lives_25, F_X4_lives_26, pz_10, pz_01, pz_00, pz_11, or_true, true_or, not_true_eq_false, if_false, if_true]
theorem li_m (hk : k 1 0 = nI n) (h : v < 0 ∨ nI n ≤ v) : F_X4_lives B k v = some 0 := by
  simp only [F_X4_lives, F_X4_lives_0, kn_0 hk h, pz_bind, pz_00, if_true, F_X4_lives_25, F_X4_lives_26, pz_10, pz_01, pz_00, pz_11, or_true, true_or, not_true_eq_false, if_false, if_true]
theorem ri_1 (hp : p < 40) (h : m 8 (9 * p + 2) = 1) : F_X6_lives m (nI p) = some 1 := by
  simp only [F_X6_lives, F_X6_lives_0, pe_2 hp, pz_bind, h, pz_11, if_true, F_X6_lives_10, F_X6_lives_15, pz_10, pz_01, pz_00, pz_11, or_true, true_or, not_true_eq_false, if_false, if_true]
theorem ri_0 (hp : p < 40) (h : m 8 (9 * p + 2) = 0) : F_X6_lives m (nI p) = some 0 := by
  simp only [F_X6_lives, F_X6_lives_0, pe_2 hp, pz_bind, h, pz_01, if_false, F_X6_lives_14, F_X6_lives_15, pz_10, pz_01, pz_00, pz_11, or_true, true_or, not_true_eq_false, if_false, if_true]
theorem ag_1 (hn : n ≤ 40) (hk : k 1 0 = nI n) (hp : p < n) : F_X4_age B k (nI p) = some (k B 0 - k 3 p) := by
  simp only [F_X4_age, F_X4_age_0, kn_1 hn hk hp, pz_bind, pz_10, if_false, F_X4_age_11, pz_n0 (show p < 2 ^ 31 by omega), nI_clamp (show p < 2 ^ 31 by omega), pz_ge (show p < 40 by omega), or_self, false_or, if_false, F_X4_age_29]
theorem ra_1 (hp : p < 40) : F_X6_age m (nI p) = some (m 11 0 - m 8 (9 * p + 1)) := by
  simp only [F_X6_age, F_X6_age_0, pz_0lt, pz_cl0, pz_1le0, or_self, if_false, pe_1 hp, pz_bind, pz_cl0]
theorem ft_1 (hp : p < 40) : F_X3_fits k (nI p) = some 1 := by
  have h1 : (nI p < 0) = False := pz_n0 (by omega)
  have h2 : (40 ≤ nI p) = False := eq_false (nI_ge (b := 40) hp (by decide))
  simp only [F_X3_fits, F_X3_fits_0, F_X3_fits_4, h1, h2, if_false, F_X3_fits_10, F_X3_fits_15, pz_10, pz_01, pz_00, pz_11, or_true, true_or, not_true_eq_false, if_false, if_true]
theorem ft_m : F_X3_fits k (-1) = some 0 := by
  simp only [F_X3_fits, F_X3_fits_0, pz_mn, if_true, F_X3_fits_14, F_X3_fits_15, pz_10, pz_01, pz_00, pz_11, or_true, true_or, not_true_eq_false, if_false, if_true]
theorem sp_1 (hp : p < 40) : F_X3_spouseOf B k (nI p) = some (k (B + 9) p) := by
  simp only [F_X3_spouseOf, F_X3_spouseOf_0, ft_1 hp, pz_bind, pz_10, if_false, F_X3_spouseOf_7, pz_n0 (show p < 2 ^ 31 by omega), nI_clamp (show p < 2 ^ 31 by omega), pz_ge (show p < 40 by omega), or_self, false_or, if_false, F_X3_spouseOf_17]
theorem gb_1 (hp : p < 40) : F_X3_givenBy B k (nI p) = some (k (B + 10) p) := by
  simp only [F_X3_givenBy, F_X3_givenBy_0, ft_1 hp, pz_bind, pz_10, if_false, F_X3_givenBy_7, pz_n0 (show p < 2 ^ 31 by omega), nI_clamp (show p < 2 ^ 31 by omega), pz_ge (show p < 40 by omega), or_self, false_or, if_false, F_X3_givenBy_17]
theorem fo_1 (hp : p < 40) : F_X2_firstOf B k (nI p) = some (k (B + 12) p) := by
  have h1 : (nI p < 0) = False := pz_n0 (by omega)
  have h2 : (40 ≤ nI p) = False := eq_false (nI_ge (b := 40) hp (by decide))
  simp only [F_X2_firstOf, F_X2_firstOf_0, F_X2_firstOf_4, h1, h2, if_false, F_X2_firstOf_10, pz_n0 (show p < 2 ^ 31 by omega), nI_clamp (show p < 2 ^ 31 by omega), pz_ge (show p < 40 by omega), or_self, false_or, if_false, F_X2_firstOf_20]
theorem fo_m : F_X2_firstOf B k (-1) = some (-1) := by
  simp only [F_X2_firstOf, F_X2_firstOf_0, pz_mn, if_true, F_X2_firstOf_19, F_X2_firstOf_20]
theorem ru_1 {L l : Nat} (hn : L ≤ 12) (hk : k (B + 1) 0 = nI L) (hl : l < L) : F_X1_rulerOf B k (nI l) = some (k (B + 4) l) := by
  simp only [F_X1_rulerOf, F_X1_rulerOf_0, kl_1 hn hk hl, pz_bind, pz_10, if_false, F_X1_rulerOf_8, pz_n0 (show l < 2 ^ 31 by omega), nI_clamp (show l < 2 ^ 31 by omega), pz_ge (show l < 12 by omega), or_self, false_or, if_false, F_X1_rulerOf_18]
theorem ru_m {L : Nat} (hk : k (B + 1) 0 = nI L) (h : v < 0 ∨ nI L ≤ v) : F_X1_rulerOf B k v = some (-1) := by
  simp only [F_X1_rulerOf, F_X1_rulerOf_0, kl_0 hk h, pz_bind, pz_00, if_true, F_X1_rulerOf_17, F_X1_rulerOf_18]
/-! age and order -/
def zBef (k : kS) (a b : Nat) : Prop := k 3 a < k 3 b ∨ (k 3 a = k 3 b ∧ a < b)
def zAh (k : kS) (w a b : Nat) : Prop := if w = 0 ∧ k 2 a ≠ k 2 b then k 2 a = 1 else if w = 2 then zBef k b a else zBef k a b
theorem be_x (hn : n ≤ 40) (ha : a < n) (hb : b < n) (hE : zEq n k m) : ∃ r, F_X0_isBefore k (nI a) (nI b) = some r ∧ F_X6_isBefore m (nI a) (nI b) = some r ∧ ((r = 1 ∧ zBef k a b) ∨ (r = 0 ∧ ¬ zBef k a b)) := by
  have e1 := (hE a ha).2.1
  have e2 := (hE b hb).2.1
  simp only [F_X0_isBefore, F_X0_isBefore_0, F_X0_isBefore_15, F_X0_isBefore_30, F_X0_isBefore_35, F_X0_isBefore_39, F_X0_isBefore_40, F_X6_isBefore, F_X6_isBefore_0, F_X6_isBefore_15, F_X6_isBefore_30, F_X6_isBefore_35, F_X6_isBefore_39, F_X6_isBefore_40, pz_n0 (show a < 2 ^ 31 by omega), nI_clamp (show a < 2 ^ 31 by omega), pz_ge (show a < 40 by omega), or_self, false_or, if_false, pz_n0 (show b < 2 ^ 31 by omega), nI_clamp (show b < 2 ^ 31 by omega), pz_ge (show b < 40 by omega), or_self, false_or, if_false, pe_1 (show a < 40 by omega), pe_1 (show b < 40 by omega), pz_bind, e1, e2, pz_10, pz_01, pz_00, pz_11, or_true, true_or, not_true_eq_false, if_false, if_true, pz_le (show b < 2 ^ 31 by omega) (show a < 2 ^ 31 by omega), zBef]
  by_cases h1 : k 3 a < k 3 b
  · exact ⟨1, by rw [if_pos h1], by rw [if_pos h1], Or.inl ⟨rfl, Or.inl h1⟩⟩
  · by_cases h2 : k 3 a = k 3 b
    · by_cases h3 : b ≤ a
      · exact ⟨0, by rw [if_neg h1, if_pos h2, if_pos h3], by rw [if_neg h1, if_pos h2, if_pos h3], Or.inr ⟨rfl, fun h => h.elim h1 (fun h => by omega)⟩⟩
      · exact ⟨1, by rw [if_neg h1, if_pos h2, if_neg h3], by rw [if_neg h1, if_pos h2, if_neg h3], Or.inl ⟨rfl, Or.inr ⟨h2, by omega⟩⟩⟩
    · exact ⟨0, by rw [if_neg h1, if_neg h2], by rw [if_neg h1, if_neg h2], Or.inr ⟨rfl, fun h => h.elim h1 (fun h => h2 h.1)⟩⟩
end ZR
