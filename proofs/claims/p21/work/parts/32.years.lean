/-! YEARS GO BY, on both sides -/
theorem pz_loop2g {α α' γ γ' : Type} (L : Nat → Nat → α → γ) (L' : Nat → Nat → α' → γ') (fin : α → γ) (fin' : α' → γ') (N : Nat) (I : Nat → α → α' → Prop)
    (he : ∀ a a', I N a a' → (∀ g, L (g + 1) N a = fin a) ∧ (∀ g, L' (g + 1) N a' = fin' a'))
    (hs : ∀ i a a', i < N → I i a a' → ∃ b b', (∀ g, L (g + 1) i a = L g (i + 1) b) ∧ (∀ g, L' (g + 1) i a' = L' g (i + 1) b') ∧ I (i + 1) b b') :
    ∀ (d i : Nat) (a : α) (a' : α') (g g' : Nat), i + d = N → I i a a' → d < g → d < g' → ∃ b b', L g i a = fin b ∧ L' g' i a' = fin' b' ∧ I N b b'
  | 0, i, a, a', g, g', hd, hI, hg, hg' => by
    obtain rfl : i = N := by omega
    obtain ⟨x, rfl⟩ : ∃ x, g = x + 1 := ⟨g - 1, by omega⟩
    obtain ⟨y, rfl⟩ : ∃ x, g' = x + 1 := ⟨g' - 1, by omega⟩
    exact ⟨a, a', (he a a' hI).1 x, (he a a' hI).2 y, hI⟩
  | d + 1, i, a, a', g, g', hd, hI, hg, hg' => by
    obtain ⟨x, rfl⟩ : ∃ x, g = x + 1 := ⟨g - 1, by omega⟩
    obtain ⟨y, rfl⟩ : ∃ x, g' = x + 1 := ⟨g' - 1, by omega⟩
    obtain ⟨b, b', h1, h2, h3⟩ := hs i a a' (by omega) hI
    rw [h1, h2]
    exact pz_loop2g L L' fin fin' N I he hs d (i + 1) b b' x y (by omega) h3 (by omega) (by omega)
theorem pz_loop20g {α α' γ γ' : Type} (L : Nat → Nat → α → γ) (L' : Nat → Nat → α' → γ') (fin : α → γ) (fin' : α' → γ') (N : Nat) (I : Nat → α → α' → Prop)
    (he : ∀ a a', I N a a' → (∀ g, L (g + 1) N a = fin a) ∧ (∀ g, L' (g + 1) N a' = fin' a'))
    (hs : ∀ i a a', i < N → I i a a' → ∃ b b', (∀ g, L (g + 1) i a = L g (i + 1) b) ∧ (∀ g, L' (g + 1) i a' = L' g (i + 1) b') ∧ I (i + 1) b b')
    (hN : N < 4096) {a : α} {a' : α'} (h0 : I 0 a a') : ∃ b b', L kN 0 a = fin b ∧ L' kN 0 a' = fin' b' ∧ I N b b' :=
  pz_loop2g L L' fin fin' N I he hs N 0 a a' kN kN (by omega) h0 hN hN
/-- how many live -/
noncomputable def zAl (B n : Nat) (k : kS) : Nat := zcnt (fun p => k (B + 14) p = -1) n
section ZY
variable {n p q a b c d e j x r L w l y Y : Nat} {k k1 k0 m m1 m' : kS} {v t : Int32} {B P : Nat}
theorem zRel_cg {k' : kS} (hB : kB B) (h : zRel B n L k m) (hk : ∀ q, q ≠ B → q ≠ B + 12 → q ≠ B + 13 → k' q = k q) (hm : ∀ q, q ≠ 7 → q ≠ 11 → q ≠ 12 → q ≠ 13 → q ≠ 14 → m' q = m q) (h71 : m' 7 1 = m 7 1) (h72 : m' 7 2 = m 7 2) (hy : k' B 0 = m' 11 0) : zRel B n L k' m' := by
  obtain ⟨hK, hL, ⟨w1, w2, w3, w4, w5⟩, hMW, hRu, h15, h30⟩ := h
  have m8 : m' 8 = m 8 := hm 8 (by decide) (by decide) (by decide) (by decide) (by decide)
  have m9 : m' 9 = m 9 := hm 9 (by decide) (by decide) (by decide) (by decide) (by decide)
  have inB : ∀ j, j ≠ 0 → j ≠ 12 → j ≠ 13 → k' (B + j) = k (B + j) := fun j h0 h12 h13 => hk _ (by omega) (by omega) (by omega)
  have lo : ∀ q, (q < 15 ∨ 45 ≤ q) → k' q = k q := fun q hq => hk q (zB_ne (i := 0) hB hq (by decide)) (zB_ne hB hq (by decide)) (zB_ne hB hq (by decide))
  refine ⟨zKin_k (k := k) ?_ (fun q hq => lo q (Or.inl hq)) (fun q hq => lo q (Or.inr (by omega))), fun p hp => ?_, ⟨w1, ?_, h72.trans w3, hy, fun l hl => ?_⟩, fun p hp => by rw [m8]; exact hMW p hp, fun l hl => ?_, fun e15 => ?_, fun e30 p hp => ?_⟩
  · obtain ⟨a1, a2, a3, a4, a5⟩ := hK
    exact ⟨a1, a2, h71.trans a3, fun p hp => by rw [m8]; exact a4 p hp, a5⟩
  · rw [inB 14 (by decide) (by decide) (by decide), m8]; exact hL p hp
  · rw [inB 1 (by decide) (by decide) (by decide)]; exact w2
  · rw [m9, inB 3 (by decide) (by decide) (by decide), inB 4 (by decide) (by decide) (by decide)]; exact w5 l hl
  · rw [inB 14 (by decide) (by decide) (by decide), inB 4 (by decide) (by decide) (by decide)]; exact hRu l hl
  · subst e15
    have := h15 rfl
    unfold zXp zXq zMar zTr at *
    rw [hk 24 (by decide) (by decide) (by decide), hk 25 (by decide) (by decide) (by decide), hk 29 (by decide) (by decide) (by decide), m8]
    exact this
  · subst e30
    rw [hk 39 (by decide) (by decide) (by decide)]
    exact h30 rfl p hp
theorem zXl_cg {k' : kS} {hf : Nat → Nat} (hL : L ≤ 12) (h : zXl L hf k m) (h17 : k' 17 = k 17) (h20 : k' 20 = k 20) (h21 : k' 21 = k 21) (hp : ∀ l, l < 12 → k' (45 + l) = k (45 + l)) (h9 : m' 9 = m 9) (h10 : m' 10 = m 10) : zXl L hf k' m' := by
  refine ⟨fun l hl => ?_, fun l hl hl2 => ?_⟩
  · rw [h17, h20, h21, h9, h10, hp l (by omega)]; exact h.1 l hl
  · rw [h20, h21]; exact h.2 l hl hl2
/-- one year -/
theorem yr_x {hH : Nat} (hB : kB B) (hR : zRel B n L k m) (hy : k B 0 = nI y) (hy2 : y + 1 < 2 ^ 31) (hX : B = 15 → zXl L (fun _ => hH) k m) (hH2 : hH + 40 < 2 ^ 30) :
    ∃ d k' m' uc us, (∀ c4 v1 v2 v3, F_X4_letPass_9 B c4 v1 v2 v3 k = c4 v1 (v2 + d) (v3 + 1) k') ∧ F_X6_yearOn m = some ((d, m'), uc, us) ∧ zRel B n L k' m' ∧ (B = 15 → zXl L (fun _ => hH + 40) k' m') ∧ zFr B k k' ∧ m' 7 = m 7 ∧ k' B 0 = nI (y + 1) ∧ uc + zAl B n k' ≤ zAl B n k ∧ us + 3 * zAl B n k' ≤ 3 * zAl B n k := by
  have hn := hR.1.1
  have hL12 := hR.2.2.1.1
  have hym := hR.2.2.1.2.2.2.1
  obtain ⟨k0, hk0⟩ : ∃ k0, k0 = kst k B (upd (k B) 0 (k B 0 + 1)) := ⟨_, rfl⟩
  obtain ⟨m0, hm0⟩ : ∃ m0, m0 = kst m 11 (upd (m 11) 0 (m 11 0 + 1)) := ⟨_, rfl⟩
  have k0n : ∀ q, q ≠ B → k0 q = k q := fun q hq => by rw [hk0, kst_ne _ _ hq]
  have m0n : ∀ q, q ≠ 11 → m0 q = m q := fun q hq => by rw [hm0, kst_ne _ _ hq]
  have k0y : k0 B 0 = nI (y + 1) := by rw [hk0, kst_eq, pz_us, hy, nI_1]
  have m0y : m0 11 0 = nI (y + 1) := by rw [hm0, kst_eq, pz_us, ← hym, hy, nI_1]
  have R0 : zRel B n L k0 m0 := zRel_cg hB hR (fun q h1 _ _ => k0n q h1) (fun q _ h1 _ _ _ => m0n q h1) (by rw [m0n 7 (by decide)]) (by rw [m0n 7 (by decide)]) (k0y.trans m0y.symm)
  have A0 : zAl B n k0 = zAl B n k := by unfold zAl; rw [k0n (B + 14) (by omega)]
  have F0 : zFr B k k0 := ⟨fun q hq => k0n q (zB_ne (i := 0) hB (Or.inl hq) (by decide)), fun q hq => k0n q (zB_ne (i := 0) hB (Or.inr (by omega)) (by decide)), fun e q h1 h2 => k0n q (by omega), fun e => ⟨fun q hq => k0n q (by omega), fun q h1 h2 => k0n q (by omega)⟩, k0n _ (by omega), k0n _ (by omega), k0n _ (by omega)⟩
  obtain ⟨⟨d, k'⟩, ⟨d', m', uc, us⟩, g1, g2, g3, g4, g5, g6, g7, g8, g9, g10⟩ := pz_loop20g (α := Int32 × kS) (α' := Int32 × kS × Nat × Nat) (γ := (Int32 → Int32 → Int32 → kS → Option (Int32 × kS)) → Int32 → Int32 → Int32 → Option (Int32 × kS)) (γ' := Option ((Int32 × kS) × Nat × Nat))
    (fun g i a c4 v1 v2 v3 => F_X4_letPass_22 B c4 g v1 (v2 + a.1) v3 (nI i) a.2) (fun g i a => kadd a.2.2.1 a.2.2.2 (F_X6_yearOn_14 g a.1 (nI i) a.2.1)) (fun a c4 v1 v2 v3 => c4 v1 (v2 + a.1) (v3 + 1) a.2) (fun a => some ((a.1, a.2.1), a.2.2.1, a.2.2.2)) n
    (fun i a a' => a.1 = a'.1 ∧ zRel B n L a.2 a'.2.1 ∧ (B = 15 → zXl L (fun _ => hH + i) a.2 a'.2.1) ∧ zFr B k a.2 ∧ a'.2.1 7 = m 7 ∧ a.2 B 0 = nI (y + 1) ∧ a'.2.2.1 + zAl B n a.2 ≤ zAl B n k ∧ a'.2.2.2 + 3 * zAl B n a.2 ≤ 3 * zAl B n k)
    (by
      rintro ⟨d, k1⟩ ⟨d', m1, uc, us⟩ ⟨_, hR1, _⟩
      have hR1 : zRel B n L k1 m1 := hR1
      have e1 := hR1.1.2.1
      have e2 := hR1.1.2.2.1
      refine ⟨fun g => ?_, fun g => ?_⟩
      · funext c4 v1 v2 v3
        simp only [F_X4_letPass_22, e1, pz_cT (show n < 2 ^ 31 by omega), if_true, F_X4_letPass_70]
      · simp only [F_X6_yearOn_14, e2, pz_cT (show n < 2 ^ 31 by omega), if_true, F_X6_yearOn_58, pz_kadds]
        rfl)
    (by
      rintro i ⟨d, k1⟩ ⟨d', m1, uc, us⟩ hi ⟨rfl, hR1, hX1, hF1, h71, hy1, ha1, ha2⟩
      have hR1 : zRel B n L k1 m1 := hR1
      have hX1 : B = 15 → zXl L (fun _ => hH + i) k1 m1 := hX1
      have hF1 : zFr B k k1 := hF1
      have h71 : m1 7 = m 7 := h71
      have hy1 : k1 B 0 = nI (y + 1) := hy1
      have ha1 : uc + zAl B n k1 ≤ zAl B n k := ha1
      have ha2 : us + 3 * zAl B n k1 ≤ 3 * zAl B n k := ha2
      have i40 : i < 40 := by omega
      have e1 := hR1.1.2.1
      have e2 := hR1.1.2.2.1
      have c := pz_cF hi (show n < 2 ^ 31 by omega)
      have eag : m1 11 0 - m1 8 (9 * i + 1) = k1 B 0 - k1 3 i := pz_sub16 i hR1.1.2.2.2.1 hi hR1.2.2.1.2.2.2.1
      rcases hR1.2.1 i hi with ⟨l1, l2⟩ | ⟨l1, l2⟩
      · by_cases g80 : k1 B 0 - k1 3 i < 80
        · have g80' : ¬ 80 ≤ k1 B 0 - k1 3 i := Int32.not_le.mpr g80
          refine ⟨(d, k1), (d, m1, uc, us), fun g => ?_, fun g => ?_, rfl, hR1, fun e15 => zXl_mono (hX1 e15) (fun l hl => by omega), hF1, h71, hy1, ha1, ha2⟩
          · funext c4 v1 v2 v3
            simp only [F_X4_letPass_22, e1, c, if_false, F_X4_letPass_34, li_1 hn e1 hi l1, pz_bind, pz_10, F_X4_letPass_43, ag_1 hn e1 hi, g80, if_true, F_X4_letPass_64, nI_1]
          · simp only [F_X6_yearOn_14, e2, c, if_false, F_X6_yearOn_22, ri_1 i40 l2, pz_bind, pz_10, F_X6_yearOn_30, ra_1 i40, eag, g80', F_X6_yearOn_40, F_X6_yearOn_52, nI_1]
        · have g80' : 80 ≤ k1 B 0 - k1 3 i := Int32.not_lt.mp g80
          obtain ⟨cnt, k2, m2, u1, u2, b1, b2, b3, b4, b5, b6, b7, b8, b9, b10, b11⟩ := bu_x hB hR1 hi l1 hy1 hy2 hX1 (by omega)
          have al : zAl B n k2 + 1 ≤ zAl B n k1 := by
            unfold zAl
            rw [b8]
            exact zcnt_lt (A := fun p => k1 (B + 14) p = -1) (A' := fun p => upd (k1 (B + 14)) i (nI (y + 1)) p = -1) (x := i) (fun p hp h => by
              by_cases g : p = i
              · subst g
                exact l1
              · rw [pz_un g] at h; exact h) hi l1 (fun h => by rw [pz_us] at h; exact pz_m1 hy2 h)
          refine ⟨(d + 1, k2), (d + 1, m2, uc + u1, us + u2), fun g => ?_, fun g => ?_, rfl, b3, b4, hF1.tr b5, b6.trans h71, by rw [show (d + 1, k2).2 = k2 from rfl, b9]; exact hy1, ?_, ?_⟩
          · funext c4 v1 v2 v3
            simp only [F_X4_letPass_22, e1, c, if_false, F_X4_letPass_34, li_1 hn e1 hi l1, pz_bind, pz_10, F_X4_letPass_43, ag_1 hn e1 hi, g80, F_X4_letPass_54, b1, F_X4_letPass_64, nI_1, Int32.add_assoc]
          · simp only [F_X6_yearOn_14, e2, c, if_false, F_X6_yearOn_22, ri_1 i40 l2, pz_bind, pz_10, F_X6_yearOn_30, ra_1 i40, eag, g80', if_true, F_X6_yearOn_43, b2, F_X6_yearOn_52, nI_1, pz_kadd]
          · show uc + u1 + zAl B n k2 ≤ _
            omega
          · show us + u2 + 3 * zAl B n k2 ≤ _
            omega
      · refine ⟨(d, k1), (d, m1, uc, us), fun g => ?_, fun g => ?_, rfl, hR1, fun e15 => zXl_mono (hX1 e15) (fun l hl => by omega), hF1, h71, hy1, ha1, ha2⟩
        · funext c4 v1 v2 v3
          simp only [F_X4_letPass_22, e1, c, if_false, F_X4_letPass_34, li_0 hn e1 hi l1, pz_bind, pz_00, if_true, F_X4_letPass_64, nI_1]
        · simp only [F_X6_yearOn_14, e2, c, if_false, F_X6_yearOn_22, ri_0 i40 l2, pz_bind, pz_00, if_true, F_X6_yearOn_52, nI_1])
    (by omega) (a := (0, k0)) (a' := (0, m0, 0, 0)) ⟨rfl, R0, fun e15 => by
      subst e15
      exact zXl_cg hL12 (hX rfl) (k0n 17 (by decide)) (k0n 20 (by decide)) (k0n 21 (by decide)) (fun l hl => k0n _ (by omega)) (m0n 9 (by decide)) (m0n 10 (by decide)), F0, m0n 7 (by decide), k0y, by show 0 + zAl B n k0 ≤ _; omega, by show 0 + 3 * zAl B n k0 ≤ _; omega⟩
  have g3 : d = d' := g3
  subst g3
  refine ⟨d, k', m', uc, us, fun c4 v1 v2 v3 => ?_, ?_, g4, fun e15 => zXl_mono (g5 e15) (fun l hl => by omega), g6, g7, g8, g9, g10⟩
  · have := congrFun (congrFun (congrFun (congrFun g1 c4) v1) v2) v3
    have h0 : v2 + 0 = v2 := Int32.add_zero v2
    simp only [F_X4_letPass_9, ← hk0]
    exact (congrArg (fun z => F_X4_letPass_22 B c4 kN v1 z v3 0 k0) h0.symm).trans this
  · simp only [F_X6_yearOn, F_X6_yearOn_0, pz_0lt, pz_cl0, pz_1le0, or_self, if_false, ← hm0]
    have g2' : kadd 0 0 (F_X6_yearOn_14 kN 0 (nI 0) m0) = some ((d, m'), uc, us) := g2
    rw [pz_kadd0] at g2'
    exact g2'
/-- years -/
theorem lp_x {hH : Nat} (hB : kB B) (hR : zRel B n L k m) (hy : k B 0 = nI y) (hY : Y ≤ 100) (hy2 : y + 100 < 2 ^ 31) (hX : B = 15 → zXl L (fun _ => hH) k m) (hH2 : hH + 40 * 100 < 2 ^ 30) :
    ∃ d k' m' uc us, F_X4_letPass B (nI Y) k = some (d, k') ∧ F_X6_yearsOn (nI Y) m = some ((d, m'), uc, us) ∧ zRel B n L k' m' ∧ (B = 15 → zXl L (fun _ => hH + 40 * Y) k' m') ∧ zFr B k k' ∧ m' 7 = m 7 ∧ k' B 0 = nI (y + Y) ∧ uc + zAl B n k' ≤ zAl B n k ∧ us + 3 * zAl B n k' ≤ 3 * zAl B n k := by
  obtain ⟨⟨d, k'⟩, ⟨d', m', uc, us⟩, g1, g2, g3, g4, g5, g6, g7, g8, g9, g10⟩ := pz_loop20g (α := Int32 × kS) (α' := Int32 × kS × Nat × Nat) (γ := Option (Int32 × kS)) (γ' := Option ((Int32 × kS) × Nat × Nat))
    (fun g i a => F_X4_letPass_4 B g (nI Y) a.1 (nI i) a.2) (fun g i a => kadd a.2.2.1 a.2.2.2 (F_X6_yearsOn_4 g (nI Y) a.1 (nI i) a.2.1)) (fun a => some a) (fun a => some ((a.1, a.2.1), a.2.2.1, a.2.2.2)) Y
    (fun i a a' => a.1 = a'.1 ∧ zRel B n L a.2 a'.2.1 ∧ (B = 15 → zXl L (fun _ => hH + 40 * i) a.2 a'.2.1) ∧ zFr B k a.2 ∧ a'.2.1 7 = m 7 ∧ a.2 B 0 = nI (y + i) ∧ a'.2.2.1 + zAl B n a.2 ≤ zAl B n k ∧ a'.2.2.2 + 3 * zAl B n a.2 ≤ 3 * zAl B n k)
    (by
      rintro ⟨d, k1⟩ ⟨d', m1, uc, us⟩ _
      exact ⟨fun g => by simp only [F_X4_letPass_4, pz_cT (show Y < 2 ^ 31 by omega), if_true, F_X4_letPass_76], fun g => by
        simp only [F_X6_yearsOn_4, pz_cT (show Y < 2 ^ 31 by omega), if_true, F_X6_yearsOn_22, pz_kadds]
        rfl⟩)
    (by
      rintro i ⟨d, k1⟩ ⟨d', m1, uc, us⟩ hi ⟨rfl, hR1, hX1, hF1, h71, hy1, ha1, ha2⟩
      have hR1 : zRel B n L k1 m1 := hR1
      have hX1 : B = 15 → zXl L (fun _ => hH + 40 * i) k1 m1 := hX1
      have hF1 : zFr B k k1 := hF1
      have h71 : m1 7 = m 7 := h71
      have hy1 : k1 B 0 = nI (y + i) := hy1
      have ha1 : uc + zAl B n k1 ≤ zAl B n k := ha1
      have ha2 : us + 3 * zAl B n k1 ≤ 3 * zAl B n k := ha2
      have c := pz_cF hi (show Y < 2 ^ 31 by omega)
      obtain ⟨e, k2, m2, u1, u2, b1, b2, b3, b4, b5, b6, b7, b8, b9⟩ := yr_x hB hR1 hy1 (by omega) hX1 (by omega)
      refine ⟨(d + e, k2), (d + e, m2, uc + u1, us + u2), fun g => ?_, fun g => ?_, rfl, b3, fun e15 => zXl_mono (b4 e15) (fun l hl => by omega), hF1.tr b5, b6.trans h71, b7, ?_, ?_⟩
      · simp only [F_X4_letPass_4, c, if_false, b1, nI_1]
      · simp only [F_X6_yearsOn_4, c, if_false, F_X6_yearsOn_9, b2, pz_bind, nI_1, pz_kadd]
      · show uc + u1 + zAl B n k2 ≤ _
        omega
      · show us + u2 + 3 * zAl B n k2 ≤ _
        omega)
    (by omega) (a := (0, k)) (a' := (0, m, 0, 0)) ⟨rfl, hR, hX, zFr.rf B k, rfl, hy, by show 0 + zAl B n k ≤ _; omega, by show 0 + 3 * zAl B n k ≤ _; omega⟩
  have g3 : d = d' := g3
  subst g3
  have g2' : kadd 0 0 (F_X6_yearsOn_4 kN (nI Y) 0 (nI 0) m) = some ((d, m'), uc, us) := g2
  rw [pz_kadd0] at g2'
  exact ⟨d, k', m', uc, us, g1, g2', g4, g5, g6, g7, g8, g9, g10⟩
end ZY
