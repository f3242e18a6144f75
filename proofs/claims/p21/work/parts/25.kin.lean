/-! STEPS, FREE, MARRY, ELDEST, REGENT -/
def zOff (m m' : kS) : Prop := ∀ q, q ≠ 12 → q ≠ 13 → m' q = m q
theorem zOff.rf (m : kS) : zOff m m := fun _ _ _ => rfl
theorem zOff.tr {a b c : kS} (h : zOff a b) (g : zOff b c) : zOff a c := fun q h1 h2 => (g q h1 h2).trans (h q h1 h2)
section ZK
variable {n p q a b c d e j x r L : Nat} {k m m' : kS} {v w : Int32} {B P : Nat}
theorem zKin_m (h : zKin n k m) (h7 : m' 7 = m 7) (h8 : m' 8 = m 8) : zKin n k m' := by
  obtain ⟨a, b, c, d, e⟩ := h
  exact ⟨a, b, by rw [h7]; exact c, fun p hp => by rw [h8]; exact d p hp, e⟩
theorem zKin_off (h : zKin n k m) (ho : zOff m m') : zKin n k m' := zKin_m h (ho 7 (by decide) (by decide)) (ho 8 (by decide) (by decide))
theorem zLiv_off (h : zLiv n B k m) (ho : zOff m m') : zLiv n B k m' := fun p hp => by rw [ho 8 (by decide) (by decide)]; exact h p hp
theorem st_x (hK : zKin n k m) (ha : a < n) (hb : b < n) : ∃ r m', F_X6_steps (nI a) (nI b) m = some (r, m') ∧ zOff m m' ∧ ((k (69 + a) b = -1 ∧ r = nI 999) ∨ ∃ t, t ≤ 80 ∧ k (69 + a) b = nI t ∧ r = nI t) := by
  obtain ⟨m1, h1, h2, h3⟩ := cl_x (P := 12) hK ha (by decide) (by decide)
  obtain ⟨m2, h4, h5, h6⟩ := cl_x (P := 13) (zKin_m hK (h2 7 (by decide)) (h2 8 (by decide))) hb (by decide) (by decide)
  have hn := hK.1
  have o2 : zOff m m2 := fun q hq hq2 => (h5 q hq2).trans (h2 q hq)
  have hm : m2 7 1 = nI n := by rw [o2 7 (by decide) (by decide)]; exact hK.2.2.1
  obtain ⟨v, g1, t, rfl, g2, g3, g4⟩ := pz_loop10 (α := Int32) (fun g i v => F_X6_steps_25 g v (nI i) m2) (fun v => some (v, m2)) n (fun i v => ∃ t, v = nI t ∧ t ≤ 999 ∧ (t = 999 ∨ ∃ p d e, zPath k d a p ∧ zPath k e b p ∧ t = d + e) ∧ ∀ p d e, p < i → zPath k d a p → zPath k e b p → t ≤ d + e)
    (fun v _ g => by simp only [F_X6_steps_34, F_X6_steps_60, F_X6_steps_25, F_X6_steps_0, F_X6_steps, hm, pz_cT (show n < 2 ^ 31 by omega), if_true])
    (fun i v hi hI => by
      obtain ⟨t, rfl, t1, t2, t3⟩ := hI
      have c := pz_cF hi (show n < 2 ^ 31 by omega)
      have e12 : m2 12 = m1 12 := h5 12 (by decide)
      have key : ∃ x y, m2 12 i = nI x ∧ m2 13 i = nI y ∧ x ≤ 999 ∧ y ≤ 999 ∧ ((x = 999 ∧ ∀ d, ¬ zPath k d a i) ∨ (zPath k x a i ∧ ∀ d', zPath k d' a i → x ≤ d')) ∧ ((y = 999 ∧ ∀ d, ¬ zPath k d b i) ∨ (zPath k y b i ∧ ∀ d', zPath k d' b i → y ≤ d')) := by
        rw [e12]
        rcases h3 i hi with ⟨u1, u2⟩ | ⟨x, u1, u2, u3, u4⟩ <;> rcases h6 i hi with ⟨w1, w2⟩ | ⟨y, w1, w2, w3, w4⟩
        · exact ⟨999, 999, u1, w1, by omega, by omega, Or.inl ⟨rfl, u2⟩, Or.inl ⟨rfl, w2⟩⟩
        · exact ⟨999, y, u1, w3, by omega, by omega, Or.inl ⟨rfl, u2⟩, Or.inr ⟨w2, w4⟩⟩
        · exact ⟨x, 999, u3, w1, by omega, by omega, Or.inr ⟨u2, u4⟩, Or.inl ⟨rfl, w2⟩⟩
        · exact ⟨x, y, u3, w3, by omega, by omega, Or.inr ⟨u2, u4⟩, Or.inr ⟨w2, w4⟩⟩
      obtain ⟨x, y, x1, y1, x2, y2, x3, y3⟩ := key
      by_cases g : x + y < t
      · have g' := (nI_ltI (show x + y < 2 ^ 31 by omega) (show t < 2 ^ 31 by omega)).mpr g
        refine ⟨nI (x + y), fun g => ?_, x + y, rfl, by omega, Or.inr ?_, fun p d e hp hd he => ?_⟩
        · simp only [F_X6_steps_34, F_X6_steps_60, F_X6_steps_25, F_X6_steps_0, F_X6_steps, hm, c, if_false, pz_n0 (show i < 2 ^ 31 by omega), nI_clamp (show i < 2 ^ 31 by omega), pz_ge (show i < 40 by omega), or_self, false_or, if_false, x1, y1, nI_add, if_pos g', nI_1]
        · rcases x3 with ⟨rfl, x3⟩ | ⟨x3, x4⟩
          · omega
          · rcases y3 with ⟨rfl, y3⟩ | ⟨y3, y4⟩
            · omega
            · exact ⟨i, x, y, x3, y3, rfl⟩
        · by_cases hpi : p = i
          · subst hpi
            rcases x3 with ⟨rfl, x3⟩ | ⟨x3, x4⟩
            · exact absurd hd (x3 d)
            · rcases y3 with ⟨rfl, y3⟩ | ⟨y3, y4⟩
              · exact absurd he (y3 e)
              · have := x4 d hd
                have := y4 e he
                omega
          · have := t3 p d e (by omega) hd he
            omega
      · have g' := fun q => g ((nI_ltI (show x + y < 2 ^ 31 by omega) (show t < 2 ^ 31 by omega)).mp q)
        refine ⟨nI t, fun g => ?_, t, rfl, t1, t2, fun p d e hp hd he => ?_⟩
        · simp only [F_X6_steps_34, F_X6_steps_60, F_X6_steps_25, F_X6_steps_0, F_X6_steps, hm, c, if_false, pz_n0 (show i < 2 ^ 31 by omega), nI_clamp (show i < 2 ^ 31 by omega), pz_ge (show i < 40 by omega), or_self, false_or, if_false, x1, y1, nI_add, if_neg g', nI_1]
        · by_cases hpi : p = i
          · subst hpi
            rcases x3 with ⟨rfl, x3⟩ | ⟨x3, x4⟩
            · exact absurd hd (x3 d)
            · rcases y3 with ⟨rfl, y3⟩ | ⟨y3, y4⟩
              · exact absurd he (y3 e)
              · have := x4 d hd
                have := y4 e he
                omega
          · exact t3 p d e (by omega) hd he)
    (by omega) (a := 999) ⟨999, rfl, by omega, Or.inl rfl, fun p d e hp => absurd hp (Nat.not_lt_zero _)⟩
  refine ⟨nI t, m2, ?_, o2, ?_⟩
  · simp only [F_X6_steps, F_X6_steps_0, h1, h4, pz_bind]
    exact g1
  · rcases hK.2.2.2.2.2.2 a b ha hb with ⟨s1, s2⟩ | ⟨p, d, e, s1, s2, s3, s4⟩
    · refine Or.inl ⟨s1, ?_⟩
      rcases g3 with rfl | ⟨p, d, e, u1, u2, _⟩
      · rfl
      · exact absurd u2 (s2 p d e u1)
    · have l1 := zPath_le s1
      have l2 := zPath_le s2
      refine Or.inr ⟨d + e, by omega, s3, ?_⟩
      have h7 := g4 p d e (by omega) s1 s2
      rcases g3 with rfl | ⟨p', d', e', u1, u2, rfl⟩
      · omega
      · have := s4 p' d' e' u1 u2
        rw [show d + e = d' + e' by omega]
theorem sb_1 (hn : n ≤ 40) (hk : k 1 0 = nI n) (ha : a < n) (hb : b < n) : F_X0_stepsBetween k (nI a) (nI b) = some (k (69 + a) b) := by
  simp only [F_X0_stepsBetween_28, F_X0_stepsBetween_16, F_X0_stepsBetween_27, F_X0_stepsBetween_8, F_X0_stepsBetween_0, F_X0_stepsBetween, kn_1 hn hk ha, kn_1 hn hk hb, pz_bind, pz_10, if_false, pz_n0 (show a < 2 ^ 31 by omega), nI_clamp (show a < 2 ^ 31 by omega), pz_ge (show a < 40 by omega), or_self, false_or, if_false, pz_n0 (show b < 2 ^ 31 by omega), nI_clamp (show b < 2 ^ 31 by omega), pz_ge (show b < 40 by omega), or_self, false_or, if_false]
theorem pz_sub16 (p : Nat) (hE : zEq n k m) (hp : p < n) (hy : k B 0 = m 11 0) : m 11 0 - m 8 (9 * p + 1) = k B 0 - k 3 p := by rw [(hE p hp).2.1, hy]
theorem fr_x (hK : zKin n k m) (hL : zLiv n B k m) (hy : k B 0 = m 11 0) (hS : ∀ p, p < n → m 8 (9 * p + 5) = k (B + 9) p) (hp : p < n) : ∃ r, F_X4_isFree B k (nI p) = some r ∧ F_X6_isFree m (nI p) = some r ∧ ((r = 1 ∧ k (B + 14) p = -1 ∧ k (B + 9) p = -1) ∨ r = 0) := by
  obtain ⟨hn, hk, hm, hE, hMl, hPar, hSt⟩ := hK
  have h40 : p < 40 := by omega
  rcases hL p hp with ⟨l1, l2⟩ | ⟨l1, l2⟩
  · simp only [F_X4_isFree_35, F_X4_isFree_30, F_X4_isFree_34, F_X4_isFree_18, F_X4_isFree_8, F_X4_isFree_0, F_X4_isFree, F_X6_isFree_33, F_X6_isFree_28, F_X6_isFree_32, F_X6_isFree_18, F_X6_isFree_8, F_X6_isFree_0, F_X6_isFree, li_1 hn hk hp l1, ri_1 h40 l2, ag_1 hn hk hp, ra_1 h40, pz_sub16 p hE hp hy, sp_1 h40, pe_5 h40, hS p hp, pz_bind, pz_10, pz_01, pz_00, pz_11, or_true, true_or, not_true_eq_false, if_false, if_true]
    by_cases h1 : k B 0 - k 3 p < 16
    · exact ⟨0, by rw [if_pos h1], by rw [if_pos h1], Or.inr rfl⟩
    · by_cases h2 : k (B + 9) p = -1
      · exact ⟨1, by rw [if_neg h1, if_pos h2], by rw [if_neg h1, if_pos h2], Or.inl ⟨rfl, l1, h2⟩⟩
      · exact ⟨0, by rw [if_neg h1, if_neg h2], by rw [if_neg h1, if_neg h2], Or.inr rfl⟩
  · exact ⟨0, by simp only [F_X4_isFree_35, F_X4_isFree_30, F_X4_isFree_34, F_X4_isFree_18, F_X4_isFree_8, F_X4_isFree_0, F_X4_isFree, li_0 hn hk hp l1, pz_bind, pz_10, pz_01, pz_00, pz_11, or_true, true_or, not_true_eq_false, if_false, if_true], by simp only [F_X6_isFree_33, F_X6_isFree_28, F_X6_isFree_32, F_X6_isFree_18, F_X6_isFree_8, F_X6_isFree_0, F_X6_isFree, ri_0 h40 l2, pz_bind, pz_10, pz_01, pz_00, pz_11, or_true, true_or, not_true_eq_false, if_false, if_true], Or.inr rfl⟩
theorem mm_x (hK : zKin n k m) (hL : zLiv n B k m) (hy : k B 0 = m 11 0) (hS : ∀ p, p < n → m 8 (9 * p + 5) = k (B + 9) p) (ha : a < n) (hb : b < n) : ∃ r m', F_X4_mayMarry B k (nI a) (nI b) = some r ∧ F_X6_canMarry (nI a) (nI b) m = some (r, m') ∧ zOff m m' ∧ ((r = 1 ∧ a ≠ b ∧ k (B + 14) a = -1 ∧ k (B + 9) a = -1 ∧ k (B + 14) b = -1 ∧ k (B + 9) b = -1) ∨ r = 0) := by
  obtain ⟨r1, a1, a2, a3⟩ := fr_x hK hL hy hS ha
  obtain ⟨r2, b1, b2, b3⟩ := fr_x hK hL hy hS hb
  obtain ⟨t, m', s1, s2, s3⟩ := st_x hK ha hb
  obtain ⟨hn, hk, hm, hE, hMl, hPar, hSt⟩ := hK
  have e1 := (hE a ha).1
  have e2 := (hE b hb).1
  rcases a3 with ⟨rfl, a4, a5⟩ | rfl
  · rcases b3 with ⟨rfl, b4, b5⟩ | rfl
    · simp only [F_X4_mayMarry_37, F_X4_mayMarry_64, F_X4_mayMarry_59, F_X4_mayMarry_63, F_X4_mayMarry_54, F_X4_mayMarry_39, F_X4_mayMarry_16, F_X4_mayMarry_8, F_X4_mayMarry_0, F_X4_mayMarry, F_X6_canMarry_46, F_X6_canMarry_41, F_X6_canMarry_45, F_X6_canMarry_31, F_X6_canMarry_16, F_X6_canMarry_8, F_X6_canMarry_0, F_X6_canMarry, a1, a2, b1, b2, pz_bind, pz_10, pz_01, pz_00, pz_11, or_true, true_or, not_true_eq_false, if_false, if_true, pz_n0 (show a < 2 ^ 31 by omega), nI_clamp (show a < 2 ^ 31 by omega), pz_ge (show a < 40 by omega), or_self, false_or, if_false, pz_n0 (show b < 2 ^ 31 by omega), nI_clamp (show b < 2 ^ 31 by omega), pz_ge (show b < 40 by omega), or_self, false_or, if_false, pe_0 (show a < 40 by omega), pe_0 (show b < 40 by omega), e1, e2, sb_1 hn hk ha hb, s1]
      by_cases g : k 2 a = k 2 b
      · exact ⟨0, m, by rw [if_pos g], by rw [if_pos g], zOff.rf m, Or.inr rfl⟩
      · have hab : a ≠ b := fun h => g (by rw [h])
        rcases s3 with ⟨u1, u2⟩ | ⟨t, u1, u2, u3⟩
        · have c : ¬ nI 999 < 3 := by decide
          exact ⟨1, m', by rw [if_neg g, if_pos u1], by rw [if_neg g, u2, if_neg c], s2, Or.inl ⟨rfl, hab, a4, a5, b4, b5⟩⟩
        · rw [u2, u3]
          by_cases g3 : t < 3
          · have c : nI t < 3 := (nI_ltI (b := 3) (by omega) (by decide)).mpr g3
            exact ⟨0, m', by rw [if_neg g, if_neg (pz_m1 (by omega)), if_pos c], by rw [if_neg g, if_pos c], s2, Or.inr rfl⟩
          · have c : ¬ nI t < 3 := fun q => g3 ((nI_ltI (b := 3) (by omega) (by decide)).mp q)
            exact ⟨1, m', by rw [if_neg g, if_neg (pz_m1 (by omega)), if_neg c], by rw [if_neg g, if_neg c], s2, Or.inl ⟨rfl, hab, a4, a5, b4, b5⟩⟩
    · exact ⟨0, m, by simp only [F_X4_mayMarry_37, F_X4_mayMarry_64, F_X4_mayMarry_59, F_X4_mayMarry_63, F_X4_mayMarry_54, F_X4_mayMarry_39, F_X4_mayMarry_16, F_X4_mayMarry_8, F_X4_mayMarry_0, F_X4_mayMarry, a1, b1, pz_bind, pz_10, pz_01, pz_00, pz_11, or_true, true_or, not_true_eq_false, if_false, if_true], by simp only [F_X6_canMarry_46, F_X6_canMarry_41, F_X6_canMarry_45, F_X6_canMarry_31, F_X6_canMarry_16, F_X6_canMarry_8, F_X6_canMarry_0, F_X6_canMarry, a2, b2, pz_bind, pz_10, pz_01, pz_00, pz_11, or_true, true_or, not_true_eq_false, if_false, if_true], zOff.rf m, Or.inr rfl⟩
  · exact ⟨0, m, by simp only [F_X4_mayMarry_37, F_X4_mayMarry_64, F_X4_mayMarry_59, F_X4_mayMarry_63, F_X4_mayMarry_54, F_X4_mayMarry_39, F_X4_mayMarry_16, F_X4_mayMarry_8, F_X4_mayMarry_0, F_X4_mayMarry, a1, pz_bind, pz_10, pz_01, pz_00, pz_11, or_true, true_or, not_true_eq_false, if_false, if_true], by simp only [F_X6_canMarry_46, F_X6_canMarry_41, F_X6_canMarry_45, F_X6_canMarry_31, F_X6_canMarry_16, F_X6_canMarry_8, F_X6_canMarry_0, F_X6_canMarry, a2, pz_bind, pz_10, pz_01, pz_00, pz_11, or_true, true_or, not_true_eq_false, if_false, if_true], zOff.rf m, Or.inr rfl⟩
def zLivX (n B r : Nat) (k m : kS) : Prop := ∀ p, p < n → p ≠ r → (k (B + 14) p = -1 ∧ m 8 (9 * p + 2) = 1) ∨ (k (B + 14) p ≠ -1 ∧ m 8 (9 * p + 2) = 0)
/-- one that lives, is known, and isn't r -/
def zHeirOk (n B r : Nat) (k : kS) (h : Int32) : Prop := h = -1 ∨ ∃ q, q < n ∧ q ≠ r ∧ h = nI q ∧ k (B + 14) q = -1
theorem el_x (hK : zKin n k m) (hL : zLivX n B r k m) (hr : r < n) : ∃ h m', F_X4_eldestOfKin B k (nI r) = some h ∧ F_X6_oldest (nI r) m = some (h, m') ∧ zOff m m' ∧ zHeirOk n B r k h := by
  have hK' := hK
  obtain ⟨hn, hk, hm, hE, hMl, hPar, hSt⟩ := hK
  obtain ⟨b, ⟨b', m'⟩, h1, h2, rfl, h3, h4⟩ := pz_loop20 (α := Int32) (α' := Int32 × kS) (fun g i a => F_X4_eldestOfKin_4 B k g (nI r) a (nI i)) (fun g i a => F_X6_oldest_4 g (nI r) a.1 (nI i) a.2) (fun a => some a) (fun a => some a) n (fun i a a' => a = a'.1 ∧ zOff m a'.2 ∧ zHeirOk n B r k a)
    (fun a a' hI => ⟨fun g => by
      simp only [F_X4_eldestOfKin_60, F_X4_eldestOfKin_58, F_X4_eldestOfKin_46, F_X4_eldestOfKin_41, F_X4_eldestOfKin_28, F_X4_eldestOfKin_20, F_X4_eldestOfKin_15, F_X4_eldestOfKin_66, F_X4_eldestOfKin_4, F_X4_eldestOfKin_0, F_X4_eldestOfKin, hk, pz_cT (show n < 2 ^ 31 by omega), if_true], fun g => by
      have e : a'.2 7 1 = nI n := by rw [hI.2.1 7 (by decide) (by decide)]; exact hm
      simp only [F_X6_oldest_53, F_X6_oldest_51, F_X6_oldest_42, F_X6_oldest_37, F_X6_oldest_25, F_X6_oldest_17, F_X6_oldest_12, F_X6_oldest_59, F_X6_oldest_4, F_X6_oldest_0, F_X6_oldest, e, pz_cT (show n < 2 ^ 31 by omega), if_true]⟩)
    (fun i a a' hi hI => by
      obtain ⟨a', m1⟩ := a'
      obtain ⟨rfl, i2, i3⟩ := hI
      have i2 : zOff m m1 := i2
      have e : m1 7 1 = nI n := by rw [i2 7 (by decide) (by decide)]; exact hm
      have c := pz_cF hi (show n < 2 ^ 31 by omega)
      have hK1 := zKin_off hK' i2
      by_cases g : i = r
      · subst g
        exact ⟨a, (a, m1), fun g => by simp only [F_X4_eldestOfKin_60, F_X4_eldestOfKin_58, F_X4_eldestOfKin_46, F_X4_eldestOfKin_41, F_X4_eldestOfKin_28, F_X4_eldestOfKin_20, F_X4_eldestOfKin_15, F_X4_eldestOfKin_66, F_X4_eldestOfKin_4, F_X4_eldestOfKin_0, F_X4_eldestOfKin, hk, c, if_false, if_true, nI_1], fun g => by simp only [F_X6_oldest_53, F_X6_oldest_51, F_X6_oldest_42, F_X6_oldest_37, F_X6_oldest_25, F_X6_oldest_17, F_X6_oldest_12, F_X6_oldest_59, F_X6_oldest_4, F_X6_oldest_0, F_X6_oldest, e, c, if_false, if_true, nI_1], rfl, i2, i3⟩
      · have hne : (nI i = nI r) = False := by rw [pz_eq (by omega) (by omega)]; exact eq_false g
        have e8 : m1 8 (9 * i + 2) = m 8 (9 * i + 2) := by rw [i2 8 (by decide) (by decide)]
        rcases hL i hi g with ⟨l1, l2⟩ | ⟨l1, l2⟩
        · obtain ⟨t, m2, s1, s2, s3⟩ := st_x hK1 hi hr
          rcases s3 with ⟨u1, u2⟩ | ⟨t, u1, u2, rfl⟩
          · subst u2
            have c9 : (999 ≤ nI 999) = True := eq_true (by decide)
            exact ⟨a, (a, m2), fun g => by simp only [F_X4_eldestOfKin_60, F_X4_eldestOfKin_58, F_X4_eldestOfKin_46, F_X4_eldestOfKin_41, F_X4_eldestOfKin_28, F_X4_eldestOfKin_20, F_X4_eldestOfKin_15, F_X4_eldestOfKin_66, F_X4_eldestOfKin_4, F_X4_eldestOfKin_0, F_X4_eldestOfKin, hk, c, if_false, hne, li_1 hn hk hi l1, pz_bind, pz_10, sb_1 hn hk hi hr, u1, if_true, nI_1], fun g => by simp only [F_X6_oldest_53, F_X6_oldest_51, F_X6_oldest_42, F_X6_oldest_37, F_X6_oldest_25, F_X6_oldest_17, F_X6_oldest_12, F_X6_oldest_59, F_X6_oldest_4, F_X6_oldest_0, F_X6_oldest, e, c, if_false, hne, ri_1 (show i < 40 by omega) (e8.trans l2), pz_bind, pz_10, s1, c9, if_true, nI_1], rfl, i2.tr s2, i3⟩
          · have c9 : (999 ≤ nI t) = False := eq_false (nI_ge (b := 999) (by omega) (by decide))
            have cm : (nI t = -1) = False := pz_m1' (by omega)
            have ok : zHeirOk n B r k (nI i) := Or.inr ⟨i, hi, g, rfl, l1⟩
            rcases i3 with rfl | ⟨q, q1, q2, rfl, q3⟩
            · exact ⟨nI i, (nI i, m2), fun g => by simp only [F_X4_eldestOfKin_60, F_X4_eldestOfKin_58, F_X4_eldestOfKin_46, F_X4_eldestOfKin_41, F_X4_eldestOfKin_28, F_X4_eldestOfKin_20, F_X4_eldestOfKin_15, F_X4_eldestOfKin_66, F_X4_eldestOfKin_4, F_X4_eldestOfKin_0, F_X4_eldestOfKin, hk, c, if_false, hne, li_1 hn hk hi l1, pz_bind, pz_10, sb_1 hn hk hi hr, u2, cm, if_true, nI_1], fun g => by simp only [F_X6_oldest_53, F_X6_oldest_51, F_X6_oldest_42, F_X6_oldest_37, F_X6_oldest_25, F_X6_oldest_17, F_X6_oldest_12, F_X6_oldest_59, F_X6_oldest_4, F_X6_oldest_0, F_X6_oldest, e, c, if_false, hne, ri_1 (show i < 40 by omega) (e8.trans l2), pz_bind, pz_10, s1, c9, if_true, nI_1], rfl, i2.tr s2, ok⟩
            · obtain ⟨y, y1, y2, y3⟩ := be_x (m := m2) hn hi q1 (zKin_off hK1 s2).2.2.2.1
              have cq : (nI q = -1) = False := pz_m1' (by omega)
              rcases y3 with ⟨rfl, _⟩ | ⟨rfl, _⟩
              · exact ⟨nI i, (nI i, m2), fun g => by simp only [F_X4_eldestOfKin_60, F_X4_eldestOfKin_58, F_X4_eldestOfKin_46, F_X4_eldestOfKin_41, F_X4_eldestOfKin_28, F_X4_eldestOfKin_20, F_X4_eldestOfKin_15, F_X4_eldestOfKin_66, F_X4_eldestOfKin_4, F_X4_eldestOfKin_0, F_X4_eldestOfKin, hk, c, if_false, hne, li_1 hn hk hi l1, pz_bind, pz_10, sb_1 hn hk hi hr, u2, cm, cq, y1, nI_1], fun g => by simp only [F_X6_oldest_53, F_X6_oldest_51, F_X6_oldest_42, F_X6_oldest_37, F_X6_oldest_25, F_X6_oldest_17, F_X6_oldest_12, F_X6_oldest_59, F_X6_oldest_4, F_X6_oldest_0, F_X6_oldest, e, c, if_false, hne, ri_1 (show i < 40 by omega) (e8.trans l2), pz_bind, pz_10, s1, c9, cq, y2, nI_1], rfl, i2.tr s2, ok⟩
              · exact ⟨nI q, (nI q, m2), fun g => by simp only [F_X4_eldestOfKin_60, F_X4_eldestOfKin_58, F_X4_eldestOfKin_46, F_X4_eldestOfKin_41, F_X4_eldestOfKin_28, F_X4_eldestOfKin_20, F_X4_eldestOfKin_15, F_X4_eldestOfKin_66, F_X4_eldestOfKin_4, F_X4_eldestOfKin_0, F_X4_eldestOfKin, hk, c, if_false, hne, li_1 hn hk hi l1, pz_bind, pz_10, sb_1 hn hk hi hr, u2, cm, cq, y1, pz_00, if_true, nI_1], fun g => by simp only [F_X6_oldest_53, F_X6_oldest_51, F_X6_oldest_42, F_X6_oldest_37, F_X6_oldest_25, F_X6_oldest_17, F_X6_oldest_12, F_X6_oldest_59, F_X6_oldest_4, F_X6_oldest_0, F_X6_oldest, e, c, if_false, hne, ri_1 (show i < 40 by omega) (e8.trans l2), pz_bind, pz_10, s1, c9, cq, y2, pz_00, if_true, nI_1], rfl, i2.tr s2, Or.inr ⟨q, q1, q2, rfl, q3⟩⟩
        · exact ⟨a, (a, m1), fun g => by simp only [F_X4_eldestOfKin_60, F_X4_eldestOfKin_58, F_X4_eldestOfKin_46, F_X4_eldestOfKin_41, F_X4_eldestOfKin_28, F_X4_eldestOfKin_20, F_X4_eldestOfKin_15, F_X4_eldestOfKin_66, F_X4_eldestOfKin_4, F_X4_eldestOfKin_0, F_X4_eldestOfKin, hk, c, if_false, hne, li_0 hn hk hi l1, pz_bind, pz_00, if_true, nI_1], fun g => by simp only [F_X6_oldest_53, F_X6_oldest_51, F_X6_oldest_42, F_X6_oldest_37, F_X6_oldest_25, F_X6_oldest_17, F_X6_oldest_12, F_X6_oldest_59, F_X6_oldest_4, F_X6_oldest_0, F_X6_oldest, e, c, if_false, hne, ri_0 (show i < 40 by omega) (e8.trans l2), pz_bind, pz_00, if_true, nI_1], rfl, i2, i3⟩)
    (by omega) (a := (-1)) (a' := ((-1), m)) ⟨rfl, zOff.rf m, Or.inl rfl⟩
  exact ⟨b, m', h1, h2, h3, h4⟩
end ZK
