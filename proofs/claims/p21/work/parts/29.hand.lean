/-! A LAND IS HANDED OVER; A MARRIAGE ENDS -/
def hand1 (B l : Nat) (k : kS) : kS := kst k (B + 5) (upd (k (B + 5)) l (k (B + 5) l + 1))
def hand2 (B l : Nat) (k : kS) : kS := kst k (kpb B + l) (va_cpy (k (kpb B + l)) (k (kpb B + l)) 0 1 14)
def hand3 (B l : Nat) (v : Int32) (k : kS) : kS := kst k (kpb B + l) (upd (k (kpb B + l)) 0 v)
def hand4 (B l : Nat) (k : kS) : kS := kst k (B + 6) (upd (k (B + 6)) l (if 15 < k (B + 6) l + 1 then 15 else k (B + 6) l + 1))
def rul1 (l : Nat) (m : kS) : kS := kst m 10 (va_cpy (m 10) (m 10) (15 * l) (15 * l + 1) 14)
def rul2 (l : Nat) (v : Int32) (m : kS) : kS := kst m 10 (upd (m 10) (15 * l) v)
def rul3 (l : Nat) (m : kS) : kS := kst m 9 (upd (m 9) (4 * l + 3) (m 9 (4 * l + 3) + 1))
section ZL
variable {n p q a b c d e j x r L w l : Nat} {k k1 m m' : kS} {v t : Int32} {B P : Nat} {f th : Nat → Int32}
theorem pz_c15 {α : Type} {x : Option α} : (if ((0 : Int32) < 0 ∨ (1 : Int32) < 0 ∨ (14 : Int32) < 0 ∨ 15 < (0 : Int32).toNatClampNeg + (14 : Int32).toNatClampNeg ∨ 15 < (1 : Int32).toNatClampNeg + (14 : Int32).toNatClampNeg) then none else x) = x := if_neg (by decide)
theorem pz_c15b {α : Type} {x : Option α} : (if ((0 : Int32) < 0 ∨ 15 ≤ (0 : Int32).toNatClampNeg) then none else x) = x := if_neg (by decide)
theorem ht_13 (hl : l < 12) : F_X1_handTo_13 B (nI l) v k = some (hand4 B l (hand3 B l v (hand2 B l (hand1 B l k)))) := by
  simp only [F_X1_handTo_13, pz_n0 (show l < 2 ^ 31 by omega), nI_clamp (show l < 2 ^ 31 by omega), pz_ge (show l < 12 by omega), or_self, false_or, if_false, pz_c15, pz_c15b]
  rfl
theorem zP_ne (hB : kB B) {i : Nat} (hi : i < 15) (hl : l < 12) : B + i ≠ kpb B + l := by
  rcases hB with rfl | rfl
  · show 15 + i ≠ 45 + l; omega
  · show 30 + i ≠ 57 + l; omega
/-- handTo, by its places -/
theorem ht_x (hB : kB B) (hl : l < 12) : ∃ k', F_X1_handTo B (nI l) v k = some k' ∧ (∀ q, q ≠ B + 4 → q ≠ B + 5 → q ≠ B + 6 → q ≠ kpb B + l → k' q = k q) ∧ k' (B + 4) = upd (k (B + 4)) l v ∧
    ((v = -1 ∧ k' (B + 5) = k (B + 5) ∧ k' (B + 6) = k (B + 6) ∧ k' (kpb B + l) = k (kpb B + l)) ∨ (v ≠ -1 ∧ k' (B + 5) = upd (k (B + 5)) l (k (B + 5) l + 1) ∧ k' (B + 6) = upd (k (B + 6)) l (if 15 < k (B + 6) l + 1 then 15 else k (B + 6) l + 1) ∧ k' (kpb B + l) 0 = v ∧ ∀ i, i < 14 → k' (kpb B + l) (i + 1) = k (kpb B + l) i)) := by
  obtain ⟨k4, h4⟩ : ∃ k4, k4 = kst k (B + 4) (upd (k (B + 4)) l v) := ⟨_, rfl⟩
  have g4 : k4 (B + 4) = upd (k (B + 4)) l v := by rw [h4, kst_eq]
  have gn : ∀ q, q ≠ B + 4 → k4 q = k q := fun q hq => by rw [h4, kst_ne _ _ hq]
  by_cases hv : v = -1
  · refine ⟨k4, ?_, fun q h1 _ _ _ => gn q h1, g4, Or.inl ⟨hv, gn _ (by omega), gn _ (by omega), gn _ (fun e => zP_ne hB (by decide) hl e.symm)⟩⟩
    subst hv
    simp only [F_X1_handTo, F_X1_handTo_0, pz_n0 (show l < 2 ^ 31 by omega), nI_clamp (show l < 2 ^ 31 by omega), pz_ge (show l < 12 by omega), or_self, false_or, if_false, if_true, F_X1_handTo_12, h4]
  · have n5 := zP_ne (i := 5) hB (by decide) hl
    have n6 := zP_ne (i := 6) hB (by decide) hl
    have n4 := zP_ne (i := 4) hB (by decide) hl
    refine ⟨hand4 B l (hand3 B l v (hand2 B l (hand1 B l k4))), ?_, fun q q4 q5 q6 qp => ?_, ?_, Or.inr ⟨hv, ?_, ?_, ?_, fun i hi => ?_⟩⟩
    · simp only [F_X1_handTo, F_X1_handTo_0, pz_n0 (show l < 2 ^ 31 by omega), nI_clamp (show l < 2 ^ 31 by omega), pz_ge (show l < 12 by omega), or_self, false_or, if_false, hv, h4.symm, ht_13 hl]
    · unfold hand4 hand3 hand2 hand1
      rw [kst_ne _ _ q6, kst_ne _ _ qp, kst_ne _ _ qp, kst_ne _ _ q5]
      exact gn q q4
    · unfold hand4 hand3 hand2 hand1
      rw [kst_ne _ _ (show B + 4 ≠ B + 6 by omega), kst_ne _ _ n4, kst_ne _ _ n4, kst_ne _ _ (show B + 4 ≠ B + 5 by omega)]
      exact g4
    · unfold hand4 hand3 hand2 hand1
      rw [kst_ne _ _ (show B + 5 ≠ B + 6 by omega), kst_ne _ _ n5, kst_ne _ _ n5, kst_eq, gn _ (show B + 5 ≠ B + 4 by omega)]
    · have e : hand3 B l v (hand2 B l (hand1 B l k4)) (B + 6) = k (B + 6) := by
        unfold hand3 hand2 hand1
        rw [kst_ne _ _ n6, kst_ne _ _ n6, kst_ne _ _ (show B + 6 ≠ B + 5 by omega)]
        exact gn _ (by omega)
      unfold hand4
      rw [kst_eq, e]
    · unfold hand4 hand3
      rw [kst_ne _ _ n6.symm, kst_eq, pz_us]
    · unfold hand4 hand3 hand2 hand1
      rw [kst_ne _ _ n6.symm, kst_eq, pz_un (by omega), kst_eq, pk_cpy_in (by omega) (by omega), kst_ne _ _ n5.symm, gn _ n4.symm]
      congr 1
      omega
theorem pz_14 : (14 : Int32).toNatClampNeg = 14 := rfl
theorem pz_14l : ((14 : Int32) < 0) = False := eq_false (by decide)
theorem rl_17 (hl : l < 12) : F_X6_rule_17 (nI l) v m = some (rul3 l (rul2 l v (rul1 l m))) := by
  have c1 : (180 < 15 * l + 14) = False := eq_false (by omega)
  have c2 : (180 < 15 * l + 1 + 14) = False := eq_false (by omega)
  have c3 : 4 * nI l + 3 = nI (4 * l + 3) := pz_4 l 3
  simp only [F_X6_rule_17, pz_15, nI_1, c3, pz_n0 (show 15 * l < 2 ^ 31 by omega), pz_n0 (show 15 * l + 1 < 2 ^ 31 by omega), pz_n0 (show 4 * l + 3 < 2 ^ 31 by omega), nI_clamp (show 15 * l < 2 ^ 31 by omega), nI_clamp (show 15 * l + 1 < 2 ^ 31 by omega), nI_clamp (show 4 * l + 3 < 2 ^ 31 by omega), pz_14, pz_14l, c1, c2, pz_ge (show 15 * l < 180 by omega), pz_ge (show 4 * l + 3 < 48 by omega), or_self, if_false]
  rfl
/-- rule, by its places -/
theorem rl_x (hl : l < 12) : ∃ m', F_X6_rule (nI l) v m = some m' ∧ (∀ q, q ≠ 9 → q ≠ 10 → m' q = m q) ∧
    ((v = -1 ∧ m' 9 = upd (m 9) (4 * l + 2) v ∧ m' 10 = m 10) ∨ (v ≠ -1 ∧ m' 9 = upd (upd (m 9) (4 * l + 2) v) (4 * l + 3) (m 9 (4 * l + 3) + 1) ∧ m' 10 (15 * l) = v ∧ (∀ i, i < 14 → m' 10 (15 * l + (i + 1)) = m 10 (15 * l + i)) ∧ ∀ i, (i < 15 * l ∨ 15 * l + 15 ≤ i) → m' 10 i = m 10 i)) := by
  obtain ⟨m4, h4⟩ : ∃ m4, m4 = kst m 9 (upd (m 9) (4 * l + 2) v) := ⟨_, rfl⟩
  have g4 : m4 9 = upd (m 9) (4 * l + 2) v := by rw [h4, kst_eq]
  have gn : ∀ q, q ≠ 9 → m4 q = m q := fun q hq => by rw [h4, kst_ne _ _ hq]
  have c3 : 4 * nI l + 2 = nI (4 * l + 2) := pz_4 l 2
  by_cases hv : v = -1
  · refine ⟨m4, ?_, fun q h1 _ => gn q h1, Or.inl ⟨hv, g4, gn _ (by decide)⟩⟩
    subst hv
    simp only [F_X6_rule, F_X6_rule_0, c3, pz_n0 (show 4 * l + 2 < 2 ^ 31 by omega), nI_clamp (show 4 * l + 2 < 2 ^ 31 by omega), pz_ge (show 4 * l + 2 < 48 by omega), or_self, if_false, if_true, F_X6_rule_16, h4]
  · refine ⟨rul3 l (rul2 l v (rul1 l m4)), ?_, fun q q9 q10 => ?_, Or.inr ⟨hv, ?_, ?_, fun i hi => ?_, fun i hi => ?_⟩⟩
    · simp only [F_X6_rule, F_X6_rule_0, c3, pz_n0 (show 4 * l + 2 < 2 ^ 31 by omega), nI_clamp (show 4 * l + 2 < 2 ^ 31 by omega), pz_ge (show 4 * l + 2 < 48 by omega), or_self, if_false, hv, h4.symm, rl_17 hl]
    · unfold rul3 rul2 rul1
      rw [kst_ne _ _ q9, kst_ne _ _ q10, kst_ne _ _ q10]
      exact gn q q9
    · have e : rul2 l v (rul1 l m4) 9 = upd (m 9) (4 * l + 2) v := by
        unfold rul2 rul1
        rw [kst_ne _ _ (by decide), kst_ne _ _ (by decide)]
        exact g4
      unfold rul3
      rw [kst_eq, e, pz_un (show 4 * l + 3 ≠ 4 * l + 2 by omega)]
    · unfold rul3 rul2
      rw [kst_ne _ _ (by decide), kst_eq, pz_us]
    · unfold rul3 rul2 rul1
      rw [kst_ne _ _ (by decide), kst_eq, pz_un (by omega), kst_eq, pk_cpy_in (by omega) (by omega), gn _ (by decide)]
      congr 1
      omega
    · unfold rul3 rul2 rul1
      rw [kst_ne _ _ (by decide), kst_eq, pz_un (by omega), kst_eq, pk_cpy_out (by omega), gn _ (by decide)]
/-! what the treaties and the rulers that were are worth -/
def zTr (L : Nat) (k m : kS) (p q : Nat) : Prop := (k 25 p = -1 ∧ k 25 q = -1 ∧ m 8 (9 * p + 7) = -1) ∨ ∃ l, l < L ∧ m 8 (9 * p + 7) = nI l ∧ ((m 8 (9 * p + 8) = nI p ∧ k 25 p = nI l ∧ k 25 q = -1) ∨ (m 8 (9 * p + 8) = nI q ∧ k 25 q = nI l ∧ k 25 p = -1))
def zMar (n : Nat) (k : kS) : Prop := ∀ p, p < n → k 24 p ≠ -1 → k 29 p = -1
def zXq (n L : Nat) (k m : kS) : Prop := (∀ p, n ≤ p → p < 40 → k 24 p = -1 ∧ k 25 p = -1 ∧ k 29 p = -1) ∧ (∀ p, p < n → m 8 (9 * p + 5) = k 24 p ∧ m 8 (9 * p + 6) = k 29 p) ∧ ∀ p, p < n → (k 24 p = -1 ∧ k 25 p = -1) ∨ ∃ q, q < n ∧ q ≠ p ∧ k 24 p = nI q ∧ k 24 q = nI p ∧ zTr L k m p q
def zXp (n L : Nat) (k m : kS) : Prop := zXq n L k m ∧ zMar n k
def zXl (L : Nat) (hf : Nat → Nat) (k m : kS) : Prop := (∀ l, l < L → m 9 (4 * l) = k 17 l ∧ (∃ t, t ≤ 50 ∧ k 17 l = nI t) ∧ ∃ h, h ≤ hf l ∧ k 20 l = nI h ∧ m 9 (4 * l + 3) = nI h ∧ k 21 l = nI (min h 15) ∧ ∀ i, i < min h 15 → m 10 (15 * l + i) = k (45 + l) i) ∧ ∀ l, L ≤ l → l < 12 → k 20 l = 0 ∧ k 21 l = 0
theorem zXl_mono {hf hg : Nat → Nat} (h : zXl L hf k m) (hm : ∀ l, l < L → hf l ≤ hg l) : zXl L hg k m := by
  refine ⟨fun l hl => ?_, h.2⟩
  obtain ⟨h1, h2, u, h3, h4⟩ := h.1 l hl
  exact ⟨h1, h2, u, Nat.le_trans h3 (hm l hl), h4⟩
theorem min15 {h : Nat} (hh : h < 2 ^ 30) : (if 15 < nI (min h 15) + 1 then 15 else nI (min h 15) + 1) = nI (min (h + 1) 15) := by
  rw [nI_1]
  by_cases g : 15 < min h 15 + 1
  · have g' : (15 : Int32) < nI (min h 15 + 1) := (nI_ltI (a := 15) (by decide) (by omega)).mpr g
    rw [if_pos g', show min (h + 1) 15 = 15 by omega]
    rfl
  · have g' : ¬ (15 : Int32) < nI (min h 15 + 1) := fun q => g ((nI_ltI (a := 15) (by decide) (by omega)).mp q)
    rw [if_neg g', show min (h + 1) 15 = min h 15 + 1 by omega]
/-- handTo beside rule: the rulers that were stay alike -/
theorem hr_l {hf : Nat → Nat} {k' : kS} (hL : L ≤ 12) (hl : l < L) (hb : hf l < 2 ^ 30) (hX : zXl L hf k m) (h1 : F_X1_handTo 15 (nI l) v k = some k') (h2 : F_X6_rule (nI l) v m = some m') : zXl L (fun j => if j = l then hf l + 1 else hf j) k' m' := by
  obtain ⟨k2, a1, a2, a3, a4⟩ := ht_x (B := 15) (l := l) (v := v) (k := k) k15 (by omega)
  obtain ⟨m2, b1, b2, b3⟩ := rl_x (l := l) (v := v) (m := m) (by omega)
  obtain rfl : k2 = k' := Option.some.inj (a1.symm.trans h1)
  obtain rfl : m2 = m' := Option.some.inj (b1.symm.trans h2)
  have e17 : k2 17 = k 17 := a2 17 (by decide) (by decide) (by decide) (by show 17 ≠ 45 + l; omega)
  have epast : ∀ j, j ≠ l → j < 12 → k2 (45 + j) = k (45 + j) := fun j hj hj2 => a2 _ (by omega) (by omega) (by omega) (by show 45 + j ≠ 45 + l; omega)
  refine ⟨fun j hj => ?_, fun j hj hj2 => ?_⟩
  · obtain ⟨x1, x2, h, x3, x4, x5, x6, x7⟩ := hX.1 j hj
    rw [e17]
    by_cases g : j = l
    · subst g
      rcases a4 with ⟨hv, c1, c2, c3⟩ | ⟨hv, c1, c2, c3, c4⟩
      · rcases b3 with ⟨_, d1, d2⟩ | ⟨hv2, _⟩
        · refine ⟨by rw [d1, pz_un (by omega)]; exact x1, x2, h, by simp; omega, by rw [c1]; exact x4, by rw [d1, pz_un (by omega)]; exact x5, by rw [c2]; exact x6, fun i hi => ?_⟩
          rw [d2]
          exact (x7 i hi).trans (congrFun c3 i).symm
        · exact absurd hv hv2
      · rcases b3 with ⟨hv2, _⟩ | ⟨_, d1, d2, d3, d4⟩
        · exact absurd hv2 hv
        · refine ⟨by rw [d1, pz_un (by omega), pz_un (by omega)]; exact x1, x2, h + 1, by simp; omega, ?_, ?_, ?_, fun i hi => ?_⟩
          · rw [c1, pz_us, x4, nI_1]
          · rw [d1, pz_us, x5, nI_1]
          · rw [c2, pz_us, x6]
            exact min15 (by omega)
          · have c3' : k2 (45 + j) 0 = v := c3
            have c4' : ∀ i, i < 14 → k2 (45 + j) (i + 1) = k (45 + j) i := c4
            cases i with
            | zero => rw [c3']; exact d2
            | succ i => rw [c4' i (by omega), d3 i (by omega)]; exact x7 i (by omega)
    · have e9 : ∀ w, w < 4 → m2 9 (4 * j + w) = m 9 (4 * j + w) := by
        intro w hw
        rcases b3 with ⟨_, d1, d2⟩ | ⟨_, d1, _⟩
        · rw [d1, pz_un (by omega)]
        · rw [d1, pz_un (by omega), pz_un (by omega)]
      have e10 : ∀ i, i < 15 → m2 10 (15 * j + i) = m 10 (15 * j + i) := by
        intro i hi
        rcases b3 with ⟨_, _, d2⟩ | ⟨_, _, _, _, d4⟩
        · rw [d2]
        · exact d4 _ (by omega)
      have e20 : k2 20 j = k 20 j := by
        rcases a4 with ⟨_, c1, _⟩ | ⟨_, c1, _⟩
        · exact congrFun c1 j
        · exact (congrFun c1 j).trans (pz_un g)
      have e21 : k2 21 j = k 21 j := by
        rcases a4 with ⟨_, _, c1, _⟩ | ⟨_, _, c1, _⟩
        · exact congrFun c1 j
        · exact (congrFun c1 j).trans (pz_un g)
      refine ⟨(e9 0 (by decide)).trans x1, x2, h, by simp [g]; exact x3, e20.trans x4, (e9 3 (by decide)).trans x5, e21.trans x6, fun i hi => ?_⟩
      rw [e10 i (by omega), epast j g (by omega)]
      exact x7 i hi
  · have e20 : k2 20 j = k 20 j := by
      rcases a4 with ⟨_, c1, _⟩ | ⟨_, c1, _⟩
      · exact congrFun c1 j
      · exact (congrFun c1 j).trans (pz_un (by omega))
    have e21 : k2 21 j = k 21 j := by
      rcases a4 with ⟨_, _, c1, _⟩ | ⟨_, _, c1, _⟩
      · exact congrFun c1 j
      · exact (congrFun c1 j).trans (pz_un (by omega))
    rw [e20, e21]
    exact hX.2 j hj hj2
end ZL
