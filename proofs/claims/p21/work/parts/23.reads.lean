/-! MORE LOOPS THAT ONLY READ -/
section ZS
variable {n p q a b c L : Nat} {k m : kS} {v w : Int32} {B : Nat}
theorem pz_cT {N : Nat} (h : N < 2 ^ 31) : (nI N ≤ nI N) = True := eq_true (nI_le (Nat.le_refl _) h)
theorem pz_cF {i N : Nat} (hi : i < N) (h : N < 2 ^ 31) : (nI N ≤ nI i) = False := eq_false (nI_ge hi h)
theorem wo_x (hL : L ≤ 12) (hk : k (B + 1) 0 = nI L) (hm : m 7 2 = nI L) (hr : ∀ l, l < L → m 9 (4 * l + 2) = k (B + 4) l) (hw : ∀ l, l < L → m 9 (4 * l) = k (B + 2) l ∧ ∃ t, t ≤ 50 ∧ k (B + 2) l = nI t) : ∃ t, t ≤ 600 ∧ F_X1_worthUnder B k v = some (nI t) ∧ F_X6_worthOf m v = some (nI t) := by
  obtain ⟨b, b', h1, h2, rfl, t, ht, rfl⟩ := pz_loop20 (α := Int32) (α' := Int32) (fun g i a => F_X1_worthUnder_4 B k g v a (nI i)) (fun g i a => F_X6_worthOf_4 m g v a (nI i)) (fun a => some a) (fun a => some a) L (fun i a a' => a = a' ∧ ∃ t, t ≤ 50 * i ∧ a = nI t)
    (fun a a' _ => ⟨fun g => by
      simp only [F_X1_worthUnder_31, F_X1_worthUnder_22, F_X1_worthUnder_12, F_X1_worthUnder_37, F_X1_worthUnder_4, F_X1_worthUnder_0, F_X1_worthUnder, hk, pz_cT (show L < 2 ^ 31 by omega), if_true], fun g => by
      simp only [F_X6_worthOf_33, F_X6_worthOf_23, F_X6_worthOf_32, F_X6_worthOf_12, F_X6_worthOf_41, F_X6_worthOf_4, F_X6_worthOf_0, F_X6_worthOf, hm, pz_cT (show L < 2 ^ 31 by omega), if_true]⟩)
    (fun i a a' hi e => by
      obtain ⟨rfl, t, ht, rfl⟩ := e
      have c := pz_cF hi (show L < 2 ^ 31 by omega)
      obtain ⟨e1, t2, ht2, e2⟩ := hw i hi
      by_cases h : k (B + 4) i = v
      · refine ⟨nI (t + t2), nI (t + t2), fun g => ?_, fun g => ?_, rfl, t + t2, by omega, rfl⟩
        · simp only [F_X1_worthUnder_31, F_X1_worthUnder_22, F_X1_worthUnder_12, F_X1_worthUnder_37, F_X1_worthUnder_4, F_X1_worthUnder_0, F_X1_worthUnder, hk, c, if_false, pz_n0 (show i < 2 ^ 31 by omega), nI_clamp (show i < 2 ^ 31 by omega), pz_ge (show i < 12 by omega), or_self, false_or, if_false, h, if_true, nI_1, e2, nI_add]
        · simp only [F_X6_worthOf_33, F_X6_worthOf_23, F_X6_worthOf_32, F_X6_worthOf_12, F_X6_worthOf_41, F_X6_worthOf_4, F_X6_worthOf_0, F_X6_worthOf, hm, c, if_false, la_2 (show i < 12 by omega), la_0 (show i < 12 by omega), pz_bind, hr i hi, h, if_true, nI_1, e1, e2, nI_add]
      · refine ⟨nI t, nI t, fun g => ?_, fun g => ?_, rfl, t, by omega, rfl⟩
        · simp only [F_X1_worthUnder_31, F_X1_worthUnder_22, F_X1_worthUnder_12, F_X1_worthUnder_37, F_X1_worthUnder_4, F_X1_worthUnder_0, F_X1_worthUnder, hk, c, if_false, pz_n0 (show i < 2 ^ 31 by omega), nI_clamp (show i < 2 ^ 31 by omega), pz_ge (show i < 12 by omega), or_self, false_or, if_false, h, nI_1]
        · simp only [F_X6_worthOf_33, F_X6_worthOf_23, F_X6_worthOf_32, F_X6_worthOf_12, F_X6_worthOf_41, F_X6_worthOf_4, F_X6_worthOf_0, F_X6_worthOf, hm, c, if_false, la_2 (show i < 12 by omega), pz_bind, hr i hi, h, nI_1, Int32.add_zero])
    (by omega) (a := 0) (a' := 0) ⟨rfl, 0, by omega, rfl⟩
  exact ⟨t, by omega, h1, h2⟩
theorem ic_1 (hp : p < 40) (h : m 8 (9 * p + 3) = v ∨ m 8 (9 * p + 4) = v) : F_X6_isChild m (nI p) v = some 1 := by
  simp only [F_X6_isChild_25, F_X6_isChild_20, F_X6_isChild_24, F_X6_isChild_10, F_X6_isChild_0, F_X6_isChild, pe_3 hp, pe_4 hp, pz_bind, pz_10, pz_01, pz_00, pz_11, or_true, true_or, not_true_eq_false, if_false, if_true]
  by_cases h3 : m 8 (9 * p + 3) = v
  · rw [if_pos h3]
  · rw [if_neg h3, if_pos (h.resolve_left h3)]
theorem ic_0 (hp : p < 40) (h : ¬ (m 8 (9 * p + 3) = v ∨ m 8 (9 * p + 4) = v)) : F_X6_isChild m (nI p) v = some 0 := by
  simp only [F_X6_isChild_25, F_X6_isChild_20, F_X6_isChild_24, F_X6_isChild_10, F_X6_isChild_0, F_X6_isChild, pe_3 hp, pe_4 hp, pz_bind, pz_10, pz_01, pz_00, pz_11, or_true, true_or, not_true_eq_false, if_false, if_true]
  rw [if_neg (fun q => h (Or.inl q)), if_neg (fun q => h (Or.inr q))]
theorem ch_x (hn : n ≤ 40) (hk : k 1 0 = nI n) (hm : m 7 1 = nI n) (hE : zEq n k m) : ∃ r, F_X0_childrenOf k v = some r ∧ F_X6_personTold_63 m v 0 = some r := by
  obtain ⟨b, b', h1, h2, rfl⟩ := pz_loop20 (α := Int32) (α' := Int32) (fun g i a => F_X0_childrenOf_4 k g v a (nI i)) (fun g i a => F_X6_personTold_66 m g v a (nI i)) (fun a => some a) (fun a => some a) n (fun i a a' => a = a')
    (fun a a' _ => ⟨fun g => by
      simp only [F_X0_childrenOf_35, F_X0_childrenOf_32, F_X0_childrenOf_22, F_X0_childrenOf_12, F_X0_childrenOf_41, F_X0_childrenOf_4, F_X0_childrenOf_0, F_X0_childrenOf, hk, pz_cT (show n < 2 ^ 31 by omega), if_true], fun g => by
      simp only [F_X6_personTold_56, F_X6_personTold_91, F_X6_personTold_86, F_X6_personTold_90, F_X6_personTold_75, F_X6_personTold_99, F_X6_personTold_66, F_X6_personTold_63, F_X6_personTold_130, F_X6_personTold_125, F_X6_personTold_129, F_X6_personTold_113, F_X6_personTold_138, F_X6_personTold_104, F_X6_personTold_101, F_X6_personTold_140, F_X6_personTold_146, F_X6_personTold_154, F_X6_personTold_0, F_X6_personTold, hm, pz_cT (show n < 2 ^ 31 by omega), if_true]⟩)
    (fun i a a' hi e => by
      subst e
      have c := pz_cF hi (show n < 2 ^ 31 by omega)
      obtain ⟨e1, e2, e3, e4⟩ := hE i hi
      by_cases h : k 4 i = v ∨ k 5 i = v
      · refine ⟨a + 1, a + 1, fun g => ?_, fun g => ?_, rfl⟩
        · simp only [F_X0_childrenOf_35, F_X0_childrenOf_32, F_X0_childrenOf_22, F_X0_childrenOf_12, F_X0_childrenOf_41, F_X0_childrenOf_4, F_X0_childrenOf_0, F_X0_childrenOf, hk, c, if_false, pz_n0 (show i < 2 ^ 31 by omega), nI_clamp (show i < 2 ^ 31 by omega), pz_ge (show i < 40 by omega), or_self, false_or, if_false, nI_1]
          by_cases h4 : k 4 i = v
          · rw [if_pos h4]
          · rw [if_neg h4, if_pos (h.resolve_left h4)]
        · simp only [F_X6_personTold_56, F_X6_personTold_91, F_X6_personTold_86, F_X6_personTold_90, F_X6_personTold_75, F_X6_personTold_99, F_X6_personTold_66, F_X6_personTold_63, F_X6_personTold_130, F_X6_personTold_125, F_X6_personTold_129, F_X6_personTold_113, F_X6_personTold_138, F_X6_personTold_104, F_X6_personTold_101, F_X6_personTold_140, F_X6_personTold_146, F_X6_personTold_154, F_X6_personTold_0, F_X6_personTold, hm, c, if_false, ic_1 (m := m) (v := v) (show i < 40 by omega) (by rw [e3, e4]; exact h), pz_bind, pz_10, nI_1]
      · refine ⟨a, a, fun g => ?_, fun g => ?_, rfl⟩
        · simp only [F_X0_childrenOf_35, F_X0_childrenOf_32, F_X0_childrenOf_22, F_X0_childrenOf_12, F_X0_childrenOf_41, F_X0_childrenOf_4, F_X0_childrenOf_0, F_X0_childrenOf, hk, c, if_false, pz_n0 (show i < 2 ^ 31 by omega), nI_clamp (show i < 2 ^ 31 by omega), pz_ge (show i < 40 by omega), or_self, false_or, if_false, nI_1]
          rw [if_neg (fun q => h (Or.inl q)), if_neg (fun q => h (Or.inr q))]
        · simp only [F_X6_personTold_56, F_X6_personTold_91, F_X6_personTold_86, F_X6_personTold_90, F_X6_personTold_75, F_X6_personTold_99, F_X6_personTold_66, F_X6_personTold_63, F_X6_personTold_130, F_X6_personTold_125, F_X6_personTold_129, F_X6_personTold_113, F_X6_personTold_138, F_X6_personTold_104, F_X6_personTold_101, F_X6_personTold_140, F_X6_personTold_146, F_X6_personTold_154, F_X6_personTold_0, F_X6_personTold, hm, c, if_false, ic_0 (m := m) (v := v) (show i < 40 by omega) (by rw [e3, e4]; exact h), pz_bind, pz_00, if_true, nI_1, Int32.add_zero])
    (by omega) (a := 0) (a' := 0) rfl
  exact ⟨b, h1, h2⟩
def zLiv (n B : Nat) (k m : kS) : Prop := ∀ p, p < n → (k (B + 14) p = -1 ∧ m 8 (9 * p + 2) = 1) ∨ (k (B + 14) p ≠ -1 ∧ m 8 (9 * p + 2) = 0)
theorem zcnt_s1 {A : Nat → Prop} {i : Nat} (h : A i) : zcnt A (i + 1) = zcnt A i + 1 := by show zcnt A i + _ = _; rw [if_pos h]
theorem zcnt_s0 {A : Nat → Prop} {i : Nat} (h : ¬ A i) : zcnt A (i + 1) = zcnt A i := by show zcnt A i + _ = _; rw [if_neg h, Nat.add_zero]
/-- how many live -/
theorem lv_x (hn : n ≤ 40) (hk : k 1 0 = nI n) (hm : m 7 1 = nI n) (hL : zLiv n B k m) : F_X4_living B k = some (nI (zcnt (fun p => k (B + 14) p = -1) n)) ∧ F_X6_counted_52 m 0 = some (nI (zcnt (fun p => k (B + 14) p = -1) n)) := by
  obtain ⟨b, b', h1, h2, rfl, rfl⟩ := pz_loop20 (α := Int32) (α' := Int32) (fun g i a => F_X4_living_4 B k g a (nI i)) (fun g i a => F_X6_counted_54 m g a (nI i)) (fun a => some a) (fun a => some a) n (fun i a a' => a = nI (zcnt (fun p => k (B + 14) p = -1) i) ∧ a' = nI (zcnt (fun p => k (B + 14) p = -1) i))
    (fun a a' _ => ⟨fun g => by
      simp only [F_X4_living_26, F_X4_living_23, F_X4_living_15, F_X4_living_32, F_X4_living_4, F_X4_living_0, F_X4_living, hk, pz_cT (show n < 2 ^ 31 by omega), if_true], fun g => by
      simp only [F_X6_counted_40, F_X6_counted_47, F_X6_counted_62, F_X6_counted_77, F_X6_counted_54, F_X6_counted_52, F_X6_counted_105, F_X6_counted_100, F_X6_counted_104, F_X6_counted_89, F_X6_counted_113, F_X6_counted_81, F_X6_counted_79, F_X6_counted_115, F_X6_counted_146, F_X6_counted_141, F_X6_counted_145, F_X6_counted_130, F_X6_counted_154, F_X6_counted_122, F_X6_counted_120, F_X6_counted_196, F_X6_counted_191, F_X6_counted_195, F_X6_counted_181, F_X6_counted_175, F_X6_counted_166, F_X6_counted_204, F_X6_counted_158, F_X6_counted_156, F_X6_counted_0, F_X6_counted, hm, pz_cT (show n < 2 ^ 31 by omega), if_true]⟩)
    (fun i a a' hi e => by
      obtain ⟨rfl, rfl⟩ := e
      have c := pz_cF hi (show n < 2 ^ 31 by omega)
      rcases hL i hi with ⟨e1, e2⟩ | ⟨e1, e2⟩
      · refine ⟨nI (zcnt (fun p => k (B + 14) p = -1) i + 1), nI (zcnt (fun p => k (B + 14) p = -1) i + 1), fun g => ?_, fun g => ?_, by rw [zcnt_s1 (A := fun p => k (B + 14) p = -1) e1], by rw [zcnt_s1 (A := fun p => k (B + 14) p = -1) e1]⟩
        · simp only [F_X4_living_26, F_X4_living_23, F_X4_living_15, F_X4_living_32, F_X4_living_4, F_X4_living_0, F_X4_living, hk, c, if_false, li_1 hn hk hi e1, pz_bind, pz_10, nI_1]
        · simp only [F_X6_counted_40, F_X6_counted_47, F_X6_counted_62, F_X6_counted_77, F_X6_counted_54, F_X6_counted_52, F_X6_counted_105, F_X6_counted_100, F_X6_counted_104, F_X6_counted_89, F_X6_counted_113, F_X6_counted_81, F_X6_counted_79, F_X6_counted_115, F_X6_counted_146, F_X6_counted_141, F_X6_counted_145, F_X6_counted_130, F_X6_counted_154, F_X6_counted_122, F_X6_counted_120, F_X6_counted_196, F_X6_counted_191, F_X6_counted_195, F_X6_counted_181, F_X6_counted_175, F_X6_counted_166, F_X6_counted_204, F_X6_counted_158, F_X6_counted_156, F_X6_counted_0, F_X6_counted, hm, c, if_false, pe_2 (show i < 40 by omega), pz_bind, e2, nI_1]
      · refine ⟨_, _, fun g => ?_, fun g => ?_, by rw [zcnt_s0 (A := fun p => k (B + 14) p = -1) e1], by rw [zcnt_s0 (A := fun p => k (B + 14) p = -1) e1]⟩
        · simp only [F_X4_living_26, F_X4_living_23, F_X4_living_15, F_X4_living_32, F_X4_living_4, F_X4_living_0, F_X4_living, hk, c, if_false, li_0 hn hk hi e1, pz_bind, pz_00, if_true, nI_1]
        · simp only [F_X6_counted_40, F_X6_counted_47, F_X6_counted_62, F_X6_counted_77, F_X6_counted_54, F_X6_counted_52, F_X6_counted_105, F_X6_counted_100, F_X6_counted_104, F_X6_counted_89, F_X6_counted_113, F_X6_counted_81, F_X6_counted_79, F_X6_counted_115, F_X6_counted_146, F_X6_counted_141, F_X6_counted_145, F_X6_counted_130, F_X6_counted_154, F_X6_counted_122, F_X6_counted_120, F_X6_counted_196, F_X6_counted_191, F_X6_counted_195, F_X6_counted_181, F_X6_counted_175, F_X6_counted_166, F_X6_counted_204, F_X6_counted_158, F_X6_counted_156, F_X6_counted_0, F_X6_counted, hm, c, if_false, pe_2 (show i < 40 by omega), pz_bind, e2, nI_1, Int32.add_zero])
    (by omega) (a := 0) (a' := 0) ⟨rfl, rfl⟩
  exact ⟨h1, h2⟩
theorem zcnt_ext {A : Nat → Prop} {n : Nat} : ∀ d, (∀ c, n ≤ c → c < n + d → ¬ A c) → zcnt A (n + d) = zcnt A n
  | 0, _ => rfl
  | d + 1, h => by
    show zcnt A (n + d + 1) = _
    rw [zcnt_s0 (h (n + d) (by omega) (by omega))]
    exact zcnt_ext d (fun c h1 h2 => h c h1 (by omega))
/-- couples -/
theorem co_x (hn : n ≤ 40) (hm : m 7 1 = nI n) (hS : ∀ p, p < n → m 8 (9 * p + 5) = k (B + 9) p) (h0 : ∀ p, n ≤ p → p < 40 → k (B + 9) p = -1) : ∃ r, F_X3_couples B k = some r ∧ F_X6_counted_79 m 0 = some r := by
  obtain ⟨b, h1, rfl⟩ := pz_loop10 (α := Int32) (fun g i a => F_X3_couples_4 B k g a (nI i)) (fun a => some a) 40 (fun i a => a = nI (zcnt (fun p => nI p < k (B + 9) p) i))
    (fun a _ g => by
      have c : (40 ≤ nI 40) = True := eq_true (by decide)
      simp only [F_X3_couples_23, F_X3_couples_20, F_X3_couples_10, F_X3_couples_29, F_X3_couples_4, F_X3_couples_0, F_X3_couples, c, if_true])
    (fun i a hi e => by
      subst e
      have c : (40 ≤ nI i) = False := eq_false (nI_ge (b := 40) hi (by decide))
      by_cases h : k (B + 9) i ≤ nI i
      · have h' : ¬ nI i < k (B + 9) i := Int32.not_lt.mpr h
        refine ⟨_, fun g => ?_, by rw [zcnt_s0 (A := fun p => nI p < k (B + 9) p) h']⟩
        simp only [F_X3_couples_23, F_X3_couples_20, F_X3_couples_10, F_X3_couples_29, F_X3_couples_4, F_X3_couples_0, F_X3_couples, c, if_false, pz_n0 (show i < 2 ^ 31 by omega), nI_clamp (show i < 2 ^ 31 by omega), pz_ge (show i < 40 by omega), or_self, false_or, if_false, h, if_true, nI_1]
      · have h' : nI i < k (B + 9) i := Int32.not_le.mp h
        refine ⟨_, fun g => ?_, by rw [zcnt_s1 (A := fun p => nI p < k (B + 9) p) h']⟩
        simp only [F_X3_couples_23, F_X3_couples_20, F_X3_couples_10, F_X3_couples_29, F_X3_couples_4, F_X3_couples_0, F_X3_couples, c, if_false, pz_n0 (show i < 2 ^ 31 by omega), nI_clamp (show i < 2 ^ 31 by omega), pz_ge (show i < 40 by omega), or_self, false_or, if_false, h, nI_1])
    (by omega) (a := 0) rfl
  obtain ⟨b, h2, rfl⟩ := pz_loop10 (α := Int32) (fun g i a => F_X6_counted_81 m g a (nI i)) (fun a => some a) n (fun i a => a = nI (zcnt (fun p => nI p < k (B + 9) p) i))
    (fun a _ g => by
      simp only [F_X6_counted_40, F_X6_counted_47, F_X6_counted_62, F_X6_counted_77, F_X6_counted_54, F_X6_counted_52, F_X6_counted_105, F_X6_counted_100, F_X6_counted_104, F_X6_counted_89, F_X6_counted_113, F_X6_counted_81, F_X6_counted_79, F_X6_counted_115, F_X6_counted_146, F_X6_counted_141, F_X6_counted_145, F_X6_counted_130, F_X6_counted_154, F_X6_counted_122, F_X6_counted_120, F_X6_counted_196, F_X6_counted_191, F_X6_counted_195, F_X6_counted_181, F_X6_counted_175, F_X6_counted_166, F_X6_counted_204, F_X6_counted_158, F_X6_counted_156, F_X6_counted_0, F_X6_counted, hm, pz_cT (show n < 2 ^ 31 by omega), if_true])
    (fun i a hi e => by
      subst e
      have c := pz_cF hi (show n < 2 ^ 31 by omega)
      by_cases h : k (B + 9) i ≤ nI i
      · have h' : ¬ nI i < k (B + 9) i := Int32.not_lt.mpr h
        refine ⟨_, fun g => ?_, by rw [zcnt_s0 (A := fun p => nI p < k (B + 9) p) h']⟩
        simp only [F_X6_counted_40, F_X6_counted_47, F_X6_counted_62, F_X6_counted_77, F_X6_counted_54, F_X6_counted_52, F_X6_counted_105, F_X6_counted_100, F_X6_counted_104, F_X6_counted_89, F_X6_counted_113, F_X6_counted_81, F_X6_counted_79, F_X6_counted_115, F_X6_counted_146, F_X6_counted_141, F_X6_counted_145, F_X6_counted_130, F_X6_counted_154, F_X6_counted_122, F_X6_counted_120, F_X6_counted_196, F_X6_counted_191, F_X6_counted_195, F_X6_counted_181, F_X6_counted_175, F_X6_counted_166, F_X6_counted_204, F_X6_counted_158, F_X6_counted_156, F_X6_counted_0, F_X6_counted, hm, c, if_false, pe_5 (show i < 40 by omega), pz_bind, hS i hi, h, if_true, nI_1, Int32.add_zero]
      · have h' : nI i < k (B + 9) i := Int32.not_le.mp h
        refine ⟨_, fun g => ?_, by rw [zcnt_s1 (A := fun p => nI p < k (B + 9) p) h']⟩
        simp only [F_X6_counted_40, F_X6_counted_47, F_X6_counted_62, F_X6_counted_77, F_X6_counted_54, F_X6_counted_52, F_X6_counted_105, F_X6_counted_100, F_X6_counted_104, F_X6_counted_89, F_X6_counted_113, F_X6_counted_81, F_X6_counted_79, F_X6_counted_115, F_X6_counted_146, F_X6_counted_141, F_X6_counted_145, F_X6_counted_130, F_X6_counted_154, F_X6_counted_122, F_X6_counted_120, F_X6_counted_196, F_X6_counted_191, F_X6_counted_195, F_X6_counted_181, F_X6_counted_175, F_X6_counted_166, F_X6_counted_204, F_X6_counted_158, F_X6_counted_156, F_X6_counted_0, F_X6_counted, hm, c, if_false, pe_5 (show i < 40 by omega), pz_bind, hS i hi, h, nI_1])
    (by omega) (a := 0) rfl
  have e : zcnt (fun p => nI p < k (B + 9) p) 40 = zcnt (fun p => nI p < k (B + 9) p) n := by
    have := zcnt_ext (A := fun p => nI p < k (B + 9) p) (n := n) (40 - n) (fun c h1 h2 => by
      rw [h0 c h1 (by omega)]
      intro h
      have h3 := Int32.lt_iff_toInt_lt.mp h
      rw [nI_toInt (by omega)] at h3
      have h4 : (-1 : Int32).toInt = -1 := by decide
      omega)
    rwa [show n + (40 - n) = 40 by omega] at this
  rw [e] at h1
  exact ⟨_, h1, h2⟩
/-- lands without rulers -/
theorem nl_x (hL : L ≤ 12) (hk : k (B + 1) 0 = nI L) (hm : m 7 2 = nI L) (hr : ∀ l, l < L → m 9 (4 * l + 2) = k (B + 4) l) : ∃ r, F_X1_numberUnder B k (-1) = some r ∧ F_X6_counted_120 m 0 = some r := by
  obtain ⟨r, h1, h2⟩ := nu_x (v := -1) hL hk hm hr
  refine ⟨r, h1, ?_⟩
  rw [← h2]
  obtain ⟨b, b', h3, h4, rfl⟩ := pz_loop20 (α := Int32) (α' := Int32) (fun g i a => F_X6_counted_122 m g a (nI i)) (fun g i a => F_X6_personTold_104 m g (-1) a (nI i)) (fun a => some a) (fun a => some a) L (fun _ a a' => a = a')
    (fun a a' _ => ⟨fun g => by
      simp only [F_X6_counted_40, F_X6_counted_47, F_X6_counted_62, F_X6_counted_77, F_X6_counted_54, F_X6_counted_52, F_X6_counted_105, F_X6_counted_100, F_X6_counted_104, F_X6_counted_89, F_X6_counted_113, F_X6_counted_81, F_X6_counted_79, F_X6_counted_115, F_X6_counted_146, F_X6_counted_141, F_X6_counted_145, F_X6_counted_130, F_X6_counted_154, F_X6_counted_122, F_X6_counted_120, F_X6_counted_196, F_X6_counted_191, F_X6_counted_195, F_X6_counted_181, F_X6_counted_175, F_X6_counted_166, F_X6_counted_204, F_X6_counted_158, F_X6_counted_156, F_X6_counted_0, F_X6_counted, hm, pz_cT (show L < 2 ^ 31 by omega), if_true], fun g => by
      simp only [F_X6_personTold_56, F_X6_personTold_91, F_X6_personTold_86, F_X6_personTold_90, F_X6_personTold_75, F_X6_personTold_99, F_X6_personTold_66, F_X6_personTold_63, F_X6_personTold_130, F_X6_personTold_125, F_X6_personTold_129, F_X6_personTold_113, F_X6_personTold_138, F_X6_personTold_104, F_X6_personTold_101, F_X6_personTold_140, F_X6_personTold_146, F_X6_personTold_154, F_X6_personTold_0, F_X6_personTold, hm, pz_cT (show L < 2 ^ 31 by omega), if_true]⟩)
    (fun i a a' hi e => by
      subst e
      have c := pz_cF hi (show L < 2 ^ 31 by omega)
      by_cases h : k (B + 4) i = -1
      · refine ⟨a + 1, a + 1, fun g => ?_, fun g => ?_, rfl⟩
        · simp only [F_X6_counted_40, F_X6_counted_47, F_X6_counted_62, F_X6_counted_77, F_X6_counted_54, F_X6_counted_52, F_X6_counted_105, F_X6_counted_100, F_X6_counted_104, F_X6_counted_89, F_X6_counted_113, F_X6_counted_81, F_X6_counted_79, F_X6_counted_115, F_X6_counted_146, F_X6_counted_141, F_X6_counted_145, F_X6_counted_130, F_X6_counted_154, F_X6_counted_122, F_X6_counted_120, F_X6_counted_196, F_X6_counted_191, F_X6_counted_195, F_X6_counted_181, F_X6_counted_175, F_X6_counted_166, F_X6_counted_204, F_X6_counted_158, F_X6_counted_156, F_X6_counted_0, F_X6_counted, hm, c, if_false, la_2 (show i < 12 by omega), pz_bind, hr i hi, h, if_true, nI_1]
        · simp only [F_X6_personTold_56, F_X6_personTold_91, F_X6_personTold_86, F_X6_personTold_90, F_X6_personTold_75, F_X6_personTold_99, F_X6_personTold_66, F_X6_personTold_63, F_X6_personTold_130, F_X6_personTold_125, F_X6_personTold_129, F_X6_personTold_113, F_X6_personTold_138, F_X6_personTold_104, F_X6_personTold_101, F_X6_personTold_140, F_X6_personTold_146, F_X6_personTold_154, F_X6_personTold_0, F_X6_personTold, hm, c, if_false, la_2 (show i < 12 by omega), pz_bind, hr i hi, h, if_true, nI_1]
      · refine ⟨a, a, fun g => ?_, fun g => ?_, rfl⟩
        · simp only [F_X6_counted_40, F_X6_counted_47, F_X6_counted_62, F_X6_counted_77, F_X6_counted_54, F_X6_counted_52, F_X6_counted_105, F_X6_counted_100, F_X6_counted_104, F_X6_counted_89, F_X6_counted_113, F_X6_counted_81, F_X6_counted_79, F_X6_counted_115, F_X6_counted_146, F_X6_counted_141, F_X6_counted_145, F_X6_counted_130, F_X6_counted_154, F_X6_counted_122, F_X6_counted_120, F_X6_counted_196, F_X6_counted_191, F_X6_counted_195, F_X6_counted_181, F_X6_counted_175, F_X6_counted_166, F_X6_counted_204, F_X6_counted_158, F_X6_counted_156, F_X6_counted_0, F_X6_counted, hm, c, if_false, la_2 (show i < 12 by omega), pz_bind, hr i hi, h, nI_1, Int32.add_zero]
        · simp only [F_X6_personTold_56, F_X6_personTold_91, F_X6_personTold_86, F_X6_personTold_90, F_X6_personTold_75, F_X6_personTold_99, F_X6_personTold_66, F_X6_personTold_63, F_X6_personTold_130, F_X6_personTold_125, F_X6_personTold_129, F_X6_personTold_113, F_X6_personTold_138, F_X6_personTold_104, F_X6_personTold_101, F_X6_personTold_140, F_X6_personTold_146, F_X6_personTold_154, F_X6_personTold_0, F_X6_personTold, hm, c, if_false, la_2 (show i < 12 by omega), pz_bind, hr i hi, h, nI_1, Int32.add_zero])
    (by omega) (a := 0) (a' := 0) rfl
  exact h3.trans h4.symm
end ZS
