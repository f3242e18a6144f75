/-! BUILD: the loop, and what it costs -/
/-- the last year of a turn, the weights of all turns -/
def jYr (i : Nat) : Nat := if i ≤ 26 then 3 * i else 26 + 2 * i
def jWm : Nat → Nat
  | 0 => 0
  | i + 1 => jWm i + (if i < 4 then 0 else 2 ^ (jYr i / 16 - 1))
theorem jWm_le : ∀ i, i < 41 → jWm i ≤ 369 := by decide +kernel
theorem jYr_le : ∀ i, i < 41 → jYr i ≤ 106 := by decide +kernel
noncomputable def jPc (n L : Nat) (m : kS) : Nat := (n - jAl n m) * jDc L 369
noncomputable def jPs (n L : Nat) (m : kS) : Nat := (n - jAl n m) * jDs L 369
/-- after i turns -/
def jG (i n L h0 y : Nat) (k m z : kS) : Prop := jSt n L h0 (4100 * (2 * i)) y k m z ∧ y ≤ jYr i ∧ n + L ≤ i ∧ (i < 4 → n = i) ∧ (4 ≤ i → 4 ≤ n) ∧ jWb n m ≤ jWm i ∧ h0 + 12 * jAl n m ≤ 12 * i ∧ jPr n k
/-- after the act of turn i, ahead of its years -/
def jG2 (i n L h0 y : Nat) (k m z : kS) : Prop := jSt n L h0 (4100 * (2 * i + 1)) y k m z ∧ y ≤ jYr i ∧ n + L ≤ i + 1 ∧ (i + 1 < 4 → n = i + 1) ∧ (4 ≤ i + 1 → 4 ≤ n) ∧ jWb n m ≤ jWm (i + 1) ∧ h0 + 12 * jAl n m ≤ 12 * (i + 1) ∧ jPr n k
theorem jDc_mono {L L' J J' : Nat} (h : L ≤ L') (g : J ≤ J') : jDc L J ≤ jDc L' J' := by
  have : L * (4 + 3 * J) ≤ L' * (4 + 3 * J') := Nat.mul_le_mul h (by omega)
  show 1 + L * (4 + 3 * J) ≤ 1 + L' * (4 + 3 * J')
  omega
theorem jDs_mono {L L' J J' : Nat} (h : L ≤ L') (g : J ≤ J') : jDs L J ≤ jDs L' J' := by
  have h1 : L * (3 * J) ≤ L' * (3 * J') := Nat.mul_le_mul h (by omega)
  have h2 : L * 4000 ≤ L' * 4000 := Nat.mul_le_mul h (Nat.le_refl _)
  show L + L * (3 * J) + L * 4000 ≤ L' + L' * (3 * J') + L' * 4000
  omega
/-- deaths paid out of the sum -/
theorem jpot {c D0 D al al' n : Nat} (h : c + D0 * al' ≤ D0 * al) (hD : D0 ≤ D) (ha : al' ≤ al) (hn : al ≤ n) : c + (n - al) * D ≤ (n - al') * D := by
  obtain ⟨e, rfl⟩ : ∃ e, al = al' + e := ⟨al - al', by omega⟩
  obtain ⟨f, rfl⟩ : ∃ f, n = al' + e + f := ⟨n - (al' + e), by omega⟩
  rw [show al' + e + f - (al' + e) = f by omega, show al' + e + f - al' = f + e by omega, Nat.add_mul]
  rw [Nat.mul_add] at h
  have h2 : D0 * e ≤ e * D := by rw [Nat.mul_comm]; exact Nat.mul_le_mul (Nat.le_refl e) hD
  omega
theorem jpot1 {c K D0 D D' al al' n : Nat} (h : c ≤ K + D0) (hD : D0 ≤ D) (hDD : D ≤ D') (ha : al' + 1 ≤ al) (hn : al ≤ n) : c + (n - al) * D ≤ K + (n - al') * D' := by
  obtain ⟨e, rfl⟩ : ∃ e, al = al' + 1 + e := ⟨al - al' - 1, by omega⟩
  obtain ⟨f, rfl⟩ : ∃ f, n = al' + 1 + e + f := ⟨n - (al' + 1 + e), by omega⟩
  rw [show al' + 1 + e + f - (al' + 1 + e) = f by omega, show al' + 1 + e + f - al' = f + (1 + e) by omega]
  have h2 : (f + (1 + e)) * D ≤ (f + (1 + e)) * D' := Nat.mul_le_mul (Nat.le_refl _) hDD
  have h3 : (f + (1 + e)) * D = f * D + (D + e * D) := by rw [Nat.add_mul, Nat.add_mul, Nat.one_mul]
  have h4 : 0 ≤ e * D := Nat.zero_le _
  omega
theorem jpot0 {c K D D' al al' n n' : Nat} (h : c ≤ K) (hDD : D ≤ D') (ha : n + al' ≤ n' + al) (hn : al ≤ n) : c + (n - al) * D ≤ K + (n' - al') * D' := by
  have : (n - al) * D ≤ (n' - al') * D' := Nat.mul_le_mul (by omega) hDD
  omega
section ZS
variable {i j n L h0 H c p q w x r B y y' l ag Y s A U E N : Nat} {k k1 k2 k' m m' z z' mc : kS} {v v1 v2 v3 h a b t gv d : Int32} {f xs : Nat → Int32} {P : Nat → Int32}
theorem jAl_n : jAl n m ≤ n := zcnt_le _ _
theorem jG_j (G : jG i n L h0 y k m z) (hi : i < 41) : jmx k n n ≤ 369 := Nat.le_trans (Nat.le_trans (jmx_w G.1 G.2.2.2.2.2.2.2) G.2.2.2.2.2.1) (jWm_le i hi)
theorem jG2_j (G : jG2 i n L h0 y k m z) (hi : i < 40) : jmx k n n ≤ 369 := Nat.le_trans (Nat.le_trans (jmx_w G.1 G.2.2.2.2.2.2.2) G.2.2.2.2.2.1) (jWm_le (i + 1) (by omega))
theorem jG_act (v : Int32) (G : jG i n L h0 y k m z) (hi : i < 40) : ∃ how n' L' h1 k' m' z' c1 s1, how < 12 ∧ ((n < 4 ∧ how = 0) ∨ (4 ≤ n ∧ ∀ z, F_L_below z (v >>> (9 &&& 31)) 12 = some (nI how))) ∧ F_L_act v k z = some ((1, k', z'), c1, s1) ∧ jG2 i n' L' h1 y k' m' z' ∧ jLan n L k m m' how ∧ L ≤ L' ∧ c1 + jPc n L m ≤ 8 + jPc n' L' m' ∧ s1 + jPs n L m ≤ 600 + jPs n' L' m' := by
  have hJ := jG_j G (by omega)
  obtain ⟨S, g1, g2, g3, g4, g5, g6, g7⟩ := G
  have yr := jYr_le i (by omega)
  have hyi : y ≤ 100 * (2 * i) := by
    unfold jYr at g1
    by_cases c : i ≤ 26
    · rw [if_pos c] at g1; omega
    · rw [if_neg c] at g1; omega
  obtain ⟨how, h12, hh, n', L', h1, k', m', z', c1, s1, e, S', ⟨a1, a2, a3, a4, a5, a6, a7⟩, hl, hpr⟩ := jact_x v S hyi (by omega) (by omega)
  have aln := jAl_n (n := n) (m := m)
  have aln' := jAl_n (n := n') (m := m')
  have wb : jWb n' m' ≤ jWm (i + 1) := by
    refine Nat.le_trans a7 ?_
    show _ ≤ jWm i + (if i < 4 then 0 else 2 ^ (jYr i / 16 - 1))
    by_cases c : i < 4
    · rw [if_pos c, if_pos (show n < 4 by omega)]; omega
    · rw [if_neg c, if_neg (show ¬ n < 4 by omega)]
      have : 2 ^ (y / 16 - 1) ≤ 2 ^ (jYr i / 16 - 1) := Nat.pow_le_pow_right (by decide) (by omega)
      omega
  refine ⟨how, n', L', h1, k', m', z', c1, s1, h12, hh, e, ⟨S', g1, by omega, fun c => by omega, fun c => by omega, wb, by omega, hpr g7⟩, hl, a2, ?_, ?_⟩
  · rcases a6 with ⟨b1, b2, b3⟩ | ⟨b1, b2, b3, b4, b5⟩
    · exact jpot0 b1 (jDc_mono a2 (Nat.le_refl _)) b3 aln
    · rw [b3, b4]
      rw [b3] at b5
      exact jpot1 (D0 := jDc L (jmx k n n)) (by omega) (jDc_mono (Nat.le_refl _) hJ) (Nat.le_refl _) b5 aln
  · rcases a6 with ⟨b1, b2, b3⟩ | ⟨b1, b2, b3, b4, b5⟩
    · exact jpot0 (by omega) (jDs_mono a2 (Nat.le_refl _)) b3 aln
    · rw [b3, b4]
      rw [b3] at b5
      exact jpot1 (D0 := jDs L (jmx k n n)) (by omega) (jDs_mono (Nat.le_refl _) hJ) (Nat.le_refl _) b5 aln
theorem jG_skip (G : jG2 i n L h0 y k m z) : jG (i + 1) n L h0 y k m z := by
  obtain ⟨S, g1, g2, g3, g4, g5, g6, g7⟩ := G
  refine ⟨jSt_up S (by omega), Nat.le_trans g1 ?_, g2, g3, g4, g5, g6, g7⟩
  unfold jYr
  by_cases c : i ≤ 26
  · rw [if_pos c]
    by_cases c2 : i + 1 ≤ 26
    · rw [if_pos c2]; omega
    · rw [if_neg c2]; omega
  · rw [if_neg c, if_neg (by omega)]; omega
/-- the years of a turn -/
theorem jG_pass (G : jG2 i n L h0 y k m z) (hi : i < 40) (hY : 1 ≤ Y) (hY3 : Y ≤ 3) (hyr : y + Y ≤ jYr (i + 1)) : ∃ d k' m' z' c s h1 uc us, F_X5_pass (nI Y) k = some ((0, d), k') ∧ jChain Y m z d m' z' c s ∧ F_X6_yearsOn (nI Y) m = some ((d, m'), uc, us) ∧ jG (i + 1) n L h1 (y + Y) k' m' z' ∧ c + jPc n L m ≤ jPc n L m' ∧ s + jPs n L m ≤ jPs n L m' := by
  have hJ := jG2_j G hi
  obtain ⟨S, g1, g2, g3, g4, g5, g6, g7⟩ := G
  have yr := jYr_le i (by omega)
  have al := jSt_al S
  obtain ⟨d, k', m', z', c, s, h1, uc, us, e1, e2, e3, S', e4, e5, e6, e7, e8⟩ := jpass_st S hY hY3 (by omega) (by omega) (by omega)
  have al' := jSt_al S'
  rw [al, al'] at e5 e6 e7 e8
  have k4 := e4.1 4 (by decide)
  have k5 := e4.1 5 (by decide)
  have m1 : ∀ p, p < n → m' 8 (9 * p + 1) = m 8 (9 * p + 1) := fun p hp => by rw [(S'.1.1.2.2.2.1 p hp).2.1, e4.1 3 (by decide), (S.1.1.2.2.2.1 p hp).2.1]
  have m3 : ∀ p, p < n → m' 8 (9 * p + 3) = m 8 (9 * p + 3) := fun p hp => by rw [(S'.1.1.2.2.2.1 p hp).2.2.1, k4, (S.1.1.2.2.2.1 p hp).2.2.1]
  have wb := jWb_cg m1 m3
  refine ⟨d, k', m', z', c, s, h1, uc, us, e1, e2, e3, ⟨jSt_up S' (by omega), hyr, g2, g3, g4, by rw [wb]; exact g5, by omega, fun q a b hq ha hb h4 h5 t ht => ?_⟩, jpot e7 (jDc_mono (Nat.le_refl _) hJ) e6 jAl_n, jpot e8 (jDs_mono (Nat.le_refl _) hJ) e6 jAl_n⟩
  rw [k4] at h4
  rw [k5] at h5
  rw [e4.2.1 _ (by omega)]
  exact g7 q a b hq ha hb h4 h5 t ht
theorem cell_x (xs : Nat → Int32) (N : Nat) (h : i < 2 ^ 31) : ∃ r, F_L_cell xs N (nI i) = some r := by
  unfold F_L_cell
  rw [if_neg (nI_pos h)]
  by_cases c : nI N ≤ nI i
  · exact ⟨_, if_pos c⟩
  · exact ⟨_, if_neg c⟩
theorem jb_74 {c10 : Int32 → kS → kS → Option ((kS × kS) × Nat × Nat)} (hY : Y < 2 ^ 31) : ∀ (e j g : Nat) (d0 : Int32) (mm zz : kS) (d : Int32) (m' z' : kS) (c s : Nat), j + e = Y → e < g → jChain e mm zz d m' z' c s → F_L_build_74 xs N c10 g v (nI Y) d0 (nI j) k zz = kadd c s (F_L_build_96 xs N c10 v (nI Y) (d0 + d) k z')
  | 0, j, g, d0, mm, zz, d, m', z', c, s, hj, hg, h => by
    obtain ⟨g, rfl⟩ : ∃ x, g = x + 1 := ⟨g - 1, by omega⟩
    obtain ⟨rfl, rfl, rfl, rfl, rfl⟩ := h
    obtain rfl : j = Y := by omega
    rw [pz_kadd0, Int32.add_zero]
    simp only [F_L_build_74, pz_cT hY, if_true]
  | e + 1, j, g, d0, mm, zz, d, m', z', c, s, hj, hg, h => by
    obtain ⟨g, rfl⟩ : ∃ x, g = x + 1 := ⟨g - 1, by omega⟩
    obtain ⟨d1, m1, z1, c1, s1, uc, us, d2, c2, s2, h1, h2, h3, rfl, rfl, rfl⟩ := h
    have ih := jb_74 (c10 := c10) hY e (j + 1) g (d0 + d1) m1 z1 d2 m' z' c2 s2 (by omega) (by omega) h3
    rw [← Int32.add_assoc, ← pz_kadd, ← ih]
    simp only [F_L_build_74, F_L_build_81, pz_cF (show j < Y by omega) hY, if_false, h2, pz_bind, nI_1]
theorem jbuild_l (xs : Nat → Int32) (N : Nat) : ∀ (d i g n L h0 y : Nat) (k m z : kS), i + d = 26 → d < g → jG i n L h0 y k m z → ∃ k' z' m' n' L' h' y' c s, F_L_build_10 xs N g (nI i) k z = some ((k', z'), c, s) ∧ jG 26 n' L' h' y' k' m' z' ∧ c + jPc n L m ≤ 20 * d + jPc n' L' m' ∧ s + jPs n L m ≤ 700 * d + jPs n' L' m'
  | 0, i, g, n, L, h0, y, k, m, z, hd, hg, G => by
    obtain ⟨g, rfl⟩ : ∃ x, g = x + 1 := ⟨g - 1, by omega⟩
    obtain rfl : i = 26 := by omega
    have c1 : ((26 : Int32) ≤ nI 26) = True := eq_true (by decide)
    exact ⟨k, z, m, n, L, h0, y, 0, 0, by simp only [F_L_build_10, c1, if_true, F_L_build_115], G, by omega, by omega⟩
  | d + 1, i, g, n, L, h0, y, k, m, z, hd, hg, G => by
    obtain ⟨g, rfl⟩ : ∃ x, g = x + 1 := ⟨g - 1, by omega⟩
    have c1 : ((26 : Int32) ≤ nI i) = False := eq_false (nI_ge (b := 26) (by omega) (by decide))
    have c13 : ((13 : Int32) = 0) = False := eq_false (by decide)
    have ix : nI i - nI i / 13 * 13 = nI (i % 13) := pk_rem (a := i) (d := 13) (by omega) (by decide) (by decide)
    obtain ⟨r, er⟩ := cell_x xs N (show i % 13 < 2 ^ 31 by omega)
    obtain ⟨v, hv⟩ : ∃ v, v = (r >>> (((nI i / 13) * 5) &&& 31)) + (109 * nI i) := ⟨_, rfl⟩
    obtain ⟨how, n', L', h1, k1, m1, z1, ca, sa, -, -, ea, G2, -, -, qa, qb⟩ := jG_act v G (by omega)
    obtain ⟨Y, hY, eY⟩ := jbl_x (d := 4) (v >>> (5 &&& 31)) (by decide) (by decide)
    have eY : ∀ z, F_L_below z (v >>> (5 &&& 31)) 4 = some (nI Y) := eY
    have e0 : F_L_build_10 xs N (g + 1) (nI i) k z = kadd ca sa (F_L_build_50 xs N (F_L_build_10 xs N g) (nI i) v k1 z1) := by
      simp only [F_L_build_10, c1, if_false, F_L_build_16, c13, ix, er, pz_bind, ← hv, ea, pz_10]
    by_cases hY0 : Y = 0
    · obtain ⟨k', z', m', n2, L2, h2, y2, c, s, p1, p2, p3, p4⟩ := jbuild_l xs N d (i + 1) g n' L' h1 y k1 m1 z1 (by omega) (by omega) (jG_skip G2)
      refine ⟨k', z', m', n2, L2, h2, y2, ca + c, sa + s, ?_, p2, by omega, by omega⟩
      rw [e0]
      simp only [F_L_build_50, eY, pz_bind, pz_e0 (show Y < 2 ^ 31 by omega), if_pos hY0, F_L_build_65, F_L_build_109, nI_1, p1, pz_kadds]
    · have hyr : y + Y ≤ jYr (i + 1) := by
        have g1 := G2.2.1
        unfold jYr at g1 ⊢
        rw [if_pos (by omega)] at g1 ⊢
        omega
      obtain ⟨dd, k2, m2, z2, c2, s2, h2, uc, us, f1, f2, f3, G3, f4, f5⟩ := jG_pass G2 (by omega) (show 1 ≤ Y by omega) (by omega) hyr
      obtain ⟨k', z', m', n3, L3, h3, y3, c, s, p1, p2, p3, p4⟩ := jbuild_l xs N d (i + 1) g n' L' h2 (y + Y) k2 m2 z2 (by omega) (by omega) G3
      refine ⟨k', z', m', n3, L3, h3, y3, ca + (c2 + (4 + c)), sa + (s2 + (24 + s)), ?_, p2, by omega, by omega⟩
      have l74 := jb_74 (xs := xs) (N := N) (c10 := F_L_build_10 xs N g) (v := nI i) (k := k1) (show Y < 2 ^ 31 by omega) Y 0 kN 0 m1 z1 dd m2 z2 c2 s2 (by omega) (by show Y < 4096; omega) f2
      have l74 : F_L_build_74 xs N (F_L_build_10 xs N g) kN (nI i) (nI Y) 0 0 k1 z1 = _ := l74
      rw [e0]
      simp only [F_L_build_50, eY, pz_bind, pz_e0 (show Y < 2 ^ 31 by omega), if_neg hY0, F_L_build_68, l74, F_L_build_96, f1, pz_nz, not_true_eq_false, if_false, Int32.zero_add, if_true, F_L_build_109, nI_1, p1, pz_kadds]
end ZS
