/-! ONE DIES, on both sides -/
def zW (B L : Nat) (k m : kS) : Prop := L ≤ 12 ∧ k (B + 1) 0 = nI L ∧ m 7 2 = nI L ∧ k B 0 = m 11 0 ∧ ∀ l, l < L → m 9 (4 * l + 1) = k (B + 3) l ∧ m 9 (4 * l + 2) = k (B + 4) l ∧ ∃ w, w ≤ 3 ∧ k (B + 3) l = nI w
def zRul (B n L : Nat) (k : kS) : Prop := ∀ l, l < L → k (B + 4) l = -1 ∨ ∃ p, p < n ∧ k (B + 4) l = nI p ∧ k (B + 14) p = -1
def zRel (B n L : Nat) (k m : kS) : Prop := zKin n k m ∧ zLiv n B k m ∧ zW B L k m ∧ zMW n m ∧ zRul B n L k ∧ (B = 15 → zXp n L k m) ∧ (B = 30 → ∀ p, p < 40 → k 39 p = -1)
/-- all that is not of the world B -/
def zFr (B : Nat) (k k' : kS) : Prop := (∀ q, q < 15 → k' q = k q) ∧ (∀ q, 69 ≤ q → k' q = k q) ∧ (B = 15 → ∀ q, 30 ≤ q → q < 45 → k' q = k q) ∧ (B = 30 → (∀ q, q < 30 → k' q = k q) ∧ ∀ q, 45 ≤ q → q < 57 → k' q = k q) ∧ k' (B + 1) = k (B + 1) ∧ k' (B + 2) = k (B + 2) ∧ k' (B + 3) = k (B + 3)
theorem zFr.rf (B : Nat) (k : kS) : zFr B k k := ⟨fun _ _ => rfl, fun _ _ => rfl, fun _ _ _ _ => rfl, fun _ => ⟨fun _ _ => rfl, fun _ _ _ => rfl⟩, rfl, rfl, rfl⟩
theorem zFr.tr {B : Nat} {a b c : kS} (h : zFr B a b) (g : zFr B b c) : zFr B a c := by
  obtain ⟨h1, h2, h3, h4, h5, h6, h7⟩ := h
  obtain ⟨g1, g2, g3, g4, g5, g6, g7⟩ := g
  exact ⟨fun q hq => (g1 q hq).trans (h1 q hq), fun q hq => (g2 q hq).trans (h2 q hq), fun e q q1 q2 => (g3 e q q1 q2).trans (h3 e q q1 q2), fun e => ⟨fun q hq => ((g4 e).1 q hq).trans ((h4 e).1 q hq), fun q q1 q2 => ((g4 e).2 q q1 q2).trans ((h4 e).2 q q1 q2)⟩, g5.trans h5, g6.trans h6, g7.trans h7⟩
/-- what an heir hangs on -/
def zSame (B : Nat) (k k' : kS) : Prop := (∀ q, q < 15 → k' q = k q) ∧ (∀ q, 69 ≤ q → k' q = k q) ∧ k' (B + 14) = k (B + 14)
theorem zSame.rf (B : Nat) (k : kS) : zSame B k k := ⟨fun _ _ => rfl, fun _ _ => rfl, rfl⟩
section ZU
variable {n p q a b c d e j x r L w l y : Nat} {k k1 k0 m m1 m' : kS} {v t : Int32} {B P : Nat}
theorem zPath_same (h4 : k1 4 = k 4) (h5 : k1 5 = k 5) : ∀ {d a q : Nat}, zPath k1 d a q ↔ zPath k d a q
  | 0, _, _ => Iff.rfl
  | d + 1, a, q => by
    show (∃ b, b < a ∧ (k1 4 a = nI b ∨ k1 5 a = nI b) ∧ zPath k1 d b q) ↔ ∃ b, b < a ∧ (k 4 a = nI b ∨ k 5 a = nI b) ∧ zPath k d b q
    rw [h4, h5]
    constructor
    · rintro ⟨b, h1, h2, h3⟩; exact ⟨b, h1, h2, (zPath_same h4 h5).mp h3⟩
    · rintro ⟨b, h1, h2, h3⟩; exact ⟨b, h1, h2, (zPath_same h4 h5).mpr h3⟩
theorem zKin_k (h : zKin n k m) (hl : ∀ q, q < 15 → k1 q = k q) (hh : ∀ q, 69 ≤ q → k1 q = k q) : zKin n k1 m := by
  obtain ⟨a, b, c, d, e, f, g⟩ := h
  have h2 := hl 2 (by decide)
  have h3 := hl 3 (by decide)
  have h4 := hl 4 (by decide)
  have h5 := hl 5 (by decide)
  refine ⟨a, by rw [hl 1 (by decide)]; exact b, c, ?_, ?_, ?_, ?_⟩
  · unfold zEq; rw [h2, h3, h4, h5]; exact d
  · unfold zMl; rw [h2]; exact e
  · unfold zPar; rw [h4, h5]; exact f
  · intro x y hx hy
    rw [hh (69 + x) (by omega)]
    rcases g x y hx hy with ⟨g1, g2⟩ | ⟨p, d, e, g1, g2, g3, g4⟩
    · exact Or.inl ⟨g1, fun p d e q1 q2 => g2 p d e ((zPath_same h4 h5).mp q1) ((zPath_same h4 h5).mp q2)⟩
    · exact Or.inr ⟨p, d, e, (zPath_same h4 h5).mpr g1, (zPath_same h4 h5).mpr g2, g3, fun p' d' e' q1 q2 => g4 p' d' e' ((zPath_same h4 h5).mp q1) ((zPath_same h4 h5).mp q2)⟩
/-- the heir's value, whatever else the class's numbers are -/
def zHV (n B r : Nat) (k : kS) (w : Nat) (h : Int32) : Prop := (∀ k1, zSame B k k1 → ∃ k2, F_X4_heirOf B (nI r) (nI w) k1 = some (h, k2) ∧ zOffB B k1 k2) ∧ zHeirOk n B r k h
theorem hv_x (hB : kB B) (hK : zKin n k m) (hL : zLivX n B r k m) (hr : r < n) (hw : w ≤ 3) : ∃ h m', F_X6_heir (nI r) (nI w) m = some (h, m') ∧ zOff m m' ∧ zHV n B r k w h := by
  obtain ⟨h, k', m', h1, h2, h3, h4, h5⟩ := he_x hB hK hL hr hw
  refine ⟨h, m', h2, h4, fun k1 hs => ?_, h5⟩
  obtain ⟨g, k2, m2, g1, g2, g3, g4, g5⟩ := he_x (k := k1) hB (zKin_k hK hs.1 hs.2.1) (fun p hp hne => by rw [hs.2.2]; exact hL p hp hne) hr hw
  have e : (g, m2) = (h, m') := Option.some.inj (g2.symm.trans h2)
  obtain ⟨rfl, _⟩ := Prod.mk.inj e
  exact ⟨k2, g1, g3⟩
/-- the reference's first loop: the heirs of the lands of r -/
theorem ds_1 (hB : kB B) (hK : zKin n k m) (hL : zLivX n B r k m) (hr : r < n) (hL12 : L ≤ 12) (hm2 : m 7 2 = nI L) (hlaw : ∀ l, l < L → ∃ w, w ≤ 3 ∧ m 9 (4 * l + 1) = nI w) :
    ∃ m1, F_X6_dies (nI r) m = F_X6_dies_49 (nI r) 0 m1 ∧ (∀ q, q ≠ 12 → q ≠ 13 → q ≠ 14 → m1 q = m q) ∧ ∀ l, l < L → m 9 (4 * l + 2) = nI r → ∃ w, w ≤ 3 ∧ m 9 (4 * l + 1) = nI w ∧ zHV n B r k w (m1 14 l) := by
  obtain ⟨m1, h1, h2, h3⟩ := pz_loop10 (α := kS) (fun g i mo => F_X6_dies_4 g (nI r) 0 (nI i) mo) (fun mo => F_X6_dies_49 (nI r) 0 mo) L (fun i mo => (∀ q, q ≠ 12 → q ≠ 13 → q ≠ 14 → mo q = m q) ∧ ∀ l, l < i → m 9 (4 * l + 2) = nI r → ∃ w, w ≤ 3 ∧ m 9 (4 * l + 1) = nI w ∧ zHV n B r k w (mo 14 l))
    (fun mo hI g => by
      have e : mo 7 2 = nI L := by rw [hI.1 7 (by decide) (by decide) (by decide)]; exact hm2
      simp only [F_X6_dies_4, e, pz_cT (show L < 2 ^ 31 by omega), if_true])
    (fun i mo hi hI => by
      obtain ⟨i1, i2⟩ := hI
      have e : mo 7 2 = nI L := by rw [i1 7 (by decide) (by decide) (by decide)]; exact hm2
      have e9 : mo 9 = m 9 := i1 9 (by decide) (by decide) (by decide)
      have c := pz_cF hi (show L < 2 ^ 31 by omega)
      obtain ⟨w, hw, ew⟩ := hlaw i hi
      by_cases g : m 9 (4 * i + 2) = nI r
      · have hK1 : zKin n k mo := zKin_m hK (i1 7 (by decide) (by decide) (by decide)) (i1 8 (by decide) (by decide) (by decide))
        have hL1 : zLivX n B r k mo := fun p hp hne => by rw [i1 8 (by decide) (by decide) (by decide)]; exact hL p hp hne
        obtain ⟨h, m2, g1, g2, g3⟩ := hv_x hB hK1 hL1 hr hw
        refine ⟨kst m2 14 (upd (m2 14) i h), fun g' => ?_, fun q q1 q2 q3 => ?_, fun l hl hl2 => ?_⟩
        · simp only [F_X6_dies_4, e, c, if_false, F_X6_dies_12, la_2 (show i < 12 by omega), la_1 (show i < 12 by omega), e9, g, pz_bind, if_true, F_X6_dies_27, ew, g1, F_X6_dies_42, pz_n0 (show i < 2 ^ 31 by omega), nI_clamp (show i < 2 ^ 31 by omega), pz_ge (show i < 12 by omega), or_self, false_or, if_false, nI_1]
        · rw [kst_ne _ _ q3, g2 q q1 q2]; exact i1 q q1 q2 q3
        · rw [kst_eq]
          by_cases gl : l = i
          · subst gl; rw [pz_us]; exact ⟨w, hw, ew, g3⟩
          · rw [pz_un gl, g2 14 (by decide) (by decide)]; exact i2 l (by omega) hl2
      · refine ⟨kst mo 14 (upd (mo 14) i (-1)), fun g' => ?_, fun q q1 q2 q3 => ?_, fun l hl hl2 => ?_⟩
        · simp only [F_X6_dies_4, e, c, if_false, F_X6_dies_12, la_2 (show i < 12 by omega), e9, g, pz_bind, F_X6_dies_41, F_X6_dies_42, pz_n0 (show i < 2 ^ 31 by omega), nI_clamp (show i < 2 ^ 31 by omega), pz_ge (show i < 12 by omega), or_self, false_or, if_false, nI_1]
        · rw [kst_ne _ _ q3]; exact i1 q q1 q2 q3
        · rw [kst_eq]
          by_cases gl : l = i
          · subst gl; exact absurd hl2 g
          · rw [pz_un gl]; exact i2 l (by omega) hl2)
    (by omega) (a := m) ⟨fun _ _ _ _ => rfl, fun l hl => absurd hl (Nat.not_lt_zero _)⟩
  exact ⟨m1, h1, h2, h3⟩
theorem bu_x {hH : Nat} (hB : kB B) (hR : zRel B n L k m) (hr : r < n) (hl : k (B + 14) r = -1) (hy : k B 0 = nI y) (hy2 : y < 2 ^ 31) (hX : B = 15 → zXl L (fun _ => hH) k m) (hH2 : hH < 2 ^ 30) :
    ∃ cnt k' m' uc us, F_X4_bury B (nI r) k = some (cnt, k') ∧ F_X6_dies (nI r) m = some ((cnt, m'), uc, us) ∧ zRel B n L k' m' ∧ (B = 15 → zXl L (fun _ => hH + 1) k' m') ∧ zFr B k k' ∧ m' 7 = m 7 ∧ m' 11 = m 11 ∧ k' (B + 14) = upd (k (B + 14)) r (nI y) ∧ k' B = k B ∧ uc ≤ 1 ∧ us ≤ 3 := by
  obtain ⟨hK, hL, ⟨w1, w2, w3, w4, w5⟩, hMW, hRu, h15, h30⟩ := hR
  have hn := hK.1
  have h40 : r < 40 := by omega
  obtain ⟨k0, hk0⟩ : ∃ k0, k0 = kst k (B + 14) (upd (k (B + 14)) r (k B 0)) := ⟨_, rfl⟩
  have k0n : ∀ q, q ≠ B + 14 → k0 q = k q := fun q hq => by rw [hk0, kst_ne _ _ hq]
  have k0d : k0 (B + 14) = upd (k (B + 14)) r (nI y) := by rw [hk0, kst_eq, hy]
  have k0lo : ∀ q, q < 15 → k0 q = k q := fun q hq => k0n q (zB_ne hB (Or.inl hq) (by decide))
  have k0hi : ∀ q, 45 ≤ q → k0 q = k q := fun q hq => k0n q (zB_ne hB (Or.inr hq) (by decide))
  have hK0 : zKin n k0 m := zKin_k hK k0lo (fun q hq => k0hi q (by omega))
  have hLX : zLivX n B r k0 m := fun p hp hne => by
    rw [k0d, pz_un hne]
    exact hL p hp
  obtain ⟨m1, d1, d2, d3⟩ := ds_1 hB hK0 hLX hr w1 w3 (fun l hl => by
    obtain ⟨e1, _, w, hw, e2⟩ := w5 l hl
    exact ⟨w, hw, e1.trans e2⟩)
  have m18 : m1 8 = m 8 := d2 8 (by decide) (by decide) (by decide)
  have m19 : m1 9 = m 9 := d2 9 (by decide) (by decide) (by decide)
  have m17 : m1 7 = m 7 := d2 7 (by decide) (by decide) (by decide)
  have m111 : m1 11 = m 11 := d2 11 (by decide) (by decide) (by decide)
  have m110 : m1 10 = m 10 := d2 10 (by decide) (by decide) (by decide)
  obtain ⟨m3, hm3⟩ : ∃ m3, m3 = kst m1 8 (upd (upd (m 8) (9 * r + 2) 0) (9 * r + 6) (nI y)) := ⟨_, rfl⟩
  have m3n : ∀ q, q ≠ 8 → m3 q = m1 q := fun q hq => by rw [hm3, kst_ne _ _ hq]
  have m38 : m3 8 = upd (upd (m 8) (9 * r + 2) 0) (9 * r + 6) (nI y) := by rw [hm3, kst_eq]
  have m3o : ∀ p w, w < 9 → w ≠ 2 → w ≠ 6 → m3 8 (9 * p + w) = m 8 (9 * p + w) := fun p w hw h2 h6 => by rw [m38, pz_un (by omega), pz_un (by omega)]
  have m3p : ∀ p w, w < 9 → p ≠ r → m3 8 (9 * p + w) = m 8 (9 * p + w) := fun p w hw hp => by rw [m38, pz_un (by omega), pz_un (by omega)]
  have d4 : F_X6_dies_49 (nI r) 0 m1 = F_X6_dies_71 kN (nI r) 0 0 m3 := by
    have s2 : F_X6_set (nI r) 2 0 m1 = some (kst m1 8 (upd (m1 8) (9 * r + 2) 0)) := set_ (w := 2) h40 (by decide)
    have s6 : ∀ v mo, F_X6_set (nI r) 6 v mo = some (kst mo 8 (upd (mo 8) (9 * r + 6) v)) := fun v mo => set_ (w := 6) h40 (by decide)
    have e11 : (kst m1 8 (upd (m 8) (9 * r + 2) 0)) 11 0 = nI y := by rw [kst_ne _ _ (by decide), m111, ← w4, hy]
    simp only [F_X6_dies_49, s2, pz_bind, pz_0lt, pz_cl0, pz_1le0, or_self, if_false, e11, s6, kst_kst, kst_eq, m18, hm3]
  -- both walks over the lands
  have b0 : F_X4_bury B (nI r) k = F_X4_bury_14 B kN (nI r) 0 0 k0 := by
    simp only [F_X4_bury, F_X4_bury_0, pz_n0 (show r < 2 ^ 31 by omega), nI_clamp (show r < 2 ^ 31 by omega), pz_ge (show r < 40 by omega), or_self, false_or, if_false, hk0]
  have wk : ∃ (bb : Int32 × kS) (bb' : Int32 × kS), F_X4_bury_14 B kN (nI r) 0 (nI 0) k0 = F_X4_bury_69 B (nI r) bb.1 bb.2 ∧ F_X6_dies_71 kN (nI r) 0 (nI 0) m3 = F_X6_dies_112 (nI r) bb'.1 bb'.2 ∧
      (bb.1 = bb'.1 ∧ (zSame B k0 bb.2 ∧ ((B = 30 → (∀ q, q < 30 → bb.2 q = k0 q) ∧ ∀ q, 45 ≤ q → q < 57 → bb.2 q = k0 q) ∧ (B = 15 → ∀ q, 30 ≤ q → q < 45 → bb.2 q = k0 q)) ∧ bb.2 B = k B ∧ bb.2 (B + 1) = k (B + 1) ∧ bb.2 (B + 2) = k (B + 2) ∧ bb.2 (B + 3) = k (B + 3) ∧ bb.2 (B + 9) = k (B + 9) ∧ bb.2 (B + 10) = k (B + 10)) ∧
        (bb'.2 7 = m 7 ∧ bb'.2 8 = m3 8 ∧ bb'.2 11 = m 11 ∧ bb'.2 14 = m1 14) ∧
        (∀ l, l < L → bb'.2 9 (4 * l + 1) = m 9 (4 * l + 1) ∧ bb'.2 9 (4 * l + 2) = bb.2 (B + 4) l ∧ (l < L → bb.2 (B + 4) l = -1 ∨ ∃ p, p < n ∧ bb.2 (B + 4) l = nI p ∧ k0 (B + 14) p = -1) ∧ (L ≤ l → bb.2 (B + 4) l = k (B + 4) l)) ∧
        (B = 15 → zXl L (fun l => if l < L then hH + 1 else hH) bb.2 bb'.2)) := by
    refine pz_loop20 (α := Int32 × kS) (α' := Int32 × kS) (fun g i a => F_X4_bury_14 B g (nI r) a.1 (nI i) a.2) (fun g i a => F_X6_dies_71 g (nI r) a.1 (nI i) a.2) (fun a => F_X4_bury_69 B (nI r) a.1 a.2) (fun a => F_X6_dies_112 (nI r) a.1 a.2) L
      (fun i bb bb' => bb.1 = bb'.1 ∧ (zSame B k0 bb.2 ∧ ((B = 30 → (∀ q, q < 30 → bb.2 q = k0 q) ∧ ∀ q, 45 ≤ q → q < 57 → bb.2 q = k0 q) ∧ (B = 15 → ∀ q, 30 ≤ q → q < 45 → bb.2 q = k0 q)) ∧ bb.2 B = k B ∧ bb.2 (B + 1) = k (B + 1) ∧ bb.2 (B + 2) = k (B + 2) ∧ bb.2 (B + 3) = k (B + 3) ∧ bb.2 (B + 9) = k (B + 9) ∧ bb.2 (B + 10) = k (B + 10)) ∧
        (bb'.2 7 = m 7 ∧ bb'.2 8 = m3 8 ∧ bb'.2 11 = m 11 ∧ bb'.2 14 = m1 14) ∧
        (∀ l, l < L → bb'.2 9 (4 * l + 1) = m 9 (4 * l + 1) ∧ bb'.2 9 (4 * l + 2) = bb.2 (B + 4) l ∧ (l < i → bb.2 (B + 4) l = -1 ∨ ∃ p, p < n ∧ bb.2 (B + 4) l = nI p ∧ k0 (B + 14) p = -1) ∧ (i ≤ l → bb.2 (B + 4) l = k (B + 4) l)) ∧
        (B = 15 → zXl L (fun l => if l < i then hH + 1 else hH) bb.2 bb'.2)) ?_ ?_ (by omega) (a := (0, k0)) (a' := (0, m3)) ?_
    · rintro ⟨a, k1⟩ ⟨a', m4⟩ ⟨_, ⟨_, _, _, f1, _⟩, ⟨g1, _⟩, _⟩
      have f1 : k1 (B + 1) = k (B + 1) := f1
      have g1 : m4 7 = m 7 := g1
      exact ⟨fun g => by simp only [F_X4_bury_14, f1, w2, pz_cT (show L < 2 ^ 31 by omega), if_true], fun g => by simp only [F_X6_dies_71, g1, w3, pz_cT (show L < 2 ^ 31 by omega), if_true]⟩
    · rintro i ⟨a, k1⟩ ⟨a', m4⟩ hi ⟨rfl, ⟨f0, fx, fB, f1, f2, f3, f9, f10⟩, ⟨g7, g8, g11, g14⟩, hland, hxl⟩
      have f0 : zSame B k0 k1 := f0
      have fx : (B = 30 → (∀ q, q < 30 → k1 q = k0 q) ∧ ∀ q, 45 ≤ q → q < 57 → k1 q = k0 q) ∧ (B = 15 → ∀ q, 30 ≤ q → q < 45 → k1 q = k0 q) := fx
      have fB : k1 B = k B := fB
      have f1 : k1 (B + 1) = k (B + 1) := f1
      have f2 : k1 (B + 2) = k (B + 2) := f2
      have f3 : k1 (B + 3) = k (B + 3) := f3
      have f9 : k1 (B + 9) = k (B + 9) := f9
      have f10 : k1 (B + 10) = k (B + 10) := f10
      have g7 : m4 7 = m 7 := g7
      have g8 : m4 8 = m3 8 := g8
      have g11 : m4 11 = m 11 := g11
      have g14 : m4 14 = m1 14 := g14
      have hland : ∀ l, l < L → m4 9 (4 * l + 1) = m 9 (4 * l + 1) ∧ m4 9 (4 * l + 2) = k1 (B + 4) l ∧ (l < i → k1 (B + 4) l = -1 ∨ ∃ p, p < n ∧ k1 (B + 4) l = nI p ∧ k0 (B + 14) p = -1) ∧ (i ≤ l → k1 (B + 4) l = k (B + 4) l) := hland
      have hxl : B = 15 → zXl L (fun l => if l < i then hH + 1 else hH) k1 m4 := hxl
      have c := pz_cF hi (show L < 2 ^ 31 by omega)
      have i12 : i < 12 := by omega
      obtain ⟨l1, l2, l3, l4⟩ := hland i hi
      have l4 := l4 (Nat.le_refl _)
      obtain ⟨q1, q2, w, hw, q3⟩ := w5 i hi
      by_cases g : k (B + 4) i = nI r
      · obtain ⟨w', hw', e1, hv, hok⟩ := d3 i hi (q2.trans g)
        have : w' = w := (nI_eq (by omega) (by omega)).mp (e1.symm.trans (q1.trans q3))
        subst this
        obtain ⟨k2, hv1, hv2⟩ := hv k1 f0
        obtain ⟨k3, t1, t2, t3, t4⟩ := ht_x (B := B) (l := i) (v := m1 14 i) (k := k2) hB i12
        obtain ⟨m5, r1, r2, r3⟩ := rl_x (l := i) (v := m1 14 i) (m := m4) i12
        have lo : ∀ q, q < 15 → k3 q = k1 q := fun q hq => by
          rw [t2 q (zB_ne hB (Or.inl hq) (by decide)) (zB_ne hB (Or.inl hq) (by decide)) (zB_ne hB (Or.inl hq) (by decide)) (by rcases hB with rfl | rfl; (show q ≠ 45 + i; omega); (show q ≠ 57 + i; omega))]
          exact zOffB_lo hB hv2 (Or.inl hq)
        have hi69 : ∀ q, 69 ≤ q → k3 q = k1 q := fun q hq => by
          rw [t2 q (zB_ne hB (Or.inr (by omega)) (by decide)) (zB_ne hB (Or.inr (by omega)) (by decide)) (zB_ne hB (Or.inr (by omega)) (by decide)) (by rcases hB with rfl | rfl; (show q ≠ 45 + i; omega); (show q ≠ 57 + i; omega))]
          exact zOffB_lo hB hv2 (Or.inr (by omega))
        have inB : ∀ j, j < 15 → j ≠ 4 → j ≠ 5 → j ≠ 6 → j ≠ 12 → j ≠ 13 → k3 (B + j) = k1 (B + j) := fun j hj j4 j5 j6 j12 j13 => by
          rw [t2 (B + j) (by omega) (by omega) (by omega) (zP_ne hB hj i12)]
          exact hv2 _ (by omega) (by omega)
        have hlaw : k1 (B + 3) i = nI w' := by rw [f3]; exact q3
        have k3r : k3 (B + 4) = upd (k1 (B + 4)) i (m1 14 i) := by rw [t3, hv2 _ (by omega) (by omega)]
        have m59 : ∀ l, l < L → m5 9 (4 * l + 1) = m4 9 (4 * l + 1) ∧ m5 9 (4 * l + 2) = upd (k1 (B + 4)) i (m1 14 i) l := fun l hl => by
          have e2 : m5 9 (4 * l + 1) = m4 9 (4 * l + 1) := by
            rcases r3 with ⟨_, u1, _⟩ | ⟨_, u1, _⟩
            · rw [u1, pz_un (by omega)]
            · rw [u1, pz_un (by omega), pz_un (by omega)]
          refine ⟨e2, ?_⟩
          by_cases gl : l = i
          · subst gl
            rw [pz_us]
            rcases r3 with ⟨_, u1, _⟩ | ⟨_, u1, _⟩
            · rw [u1, pz_us]
            · rw [u1, pz_un (by omega), pz_us]
          · rw [pz_un gl]
            have e3 : m5 9 (4 * l + 2) = m4 9 (4 * l + 2) := by
              rcases r3 with ⟨_, u1, _⟩ | ⟨_, u1, _⟩
              · rw [u1, pz_un (by omega)]
              · rw [u1, pz_un (by omega), pz_un (by omega)]
            rw [e3]
            exact (hland l hl).2.1
        refine ⟨(a + 1, k3), (a + 1, m5), fun g' => ?_, fun g' => ?_, rfl, ⟨⟨fun q hq => (lo q hq).trans (f0.1 q hq), fun q hq => (hi69 q hq).trans (f0.2.1 q hq), (inB 14 (by decide) (by decide) (by decide) (by decide) (by decide) (by decide)).trans f0.2.2⟩, ⟨fun e30 => ⟨fun q hq => ?_, fun q hq hq2 => ?_⟩, fun e15 q hq hq2 => ?_⟩, (inB 0 (by decide) (by decide) (by decide) (by decide) (by decide) (by decide)).trans fB, (inB 1 (by decide) (by decide) (by decide) (by decide) (by decide) (by decide)).trans f1, (inB 2 (by decide) (by decide) (by decide) (by decide) (by decide) (by decide)).trans f2, (inB 3 (by decide) (by decide) (by decide) (by decide) (by decide) (by decide)).trans f3, (inB 9 (by decide) (by decide) (by decide) (by decide) (by decide) (by decide)).trans f9, (inB 10 (by decide) (by decide) (by decide) (by decide) (by decide) (by decide)).trans f10⟩, ⟨(r2 7 (by decide) (by decide)).trans g7, (r2 8 (by decide) (by decide)).trans g8, (r2 11 (by decide) (by decide)).trans g11, (r2 14 (by decide) (by decide)).trans g14⟩, fun l hl => ⟨?_, ?_, fun hl2 => ?_, fun hl2 => ?_⟩, fun e15 => ?_⟩
        · simp only [F_X4_bury_14, f1, w2, c, if_false, F_X4_bury_25, pz_n0 (show i < 2 ^ 31 by omega), nI_clamp (show i < 2 ^ 31 by omega), pz_ge (show i < 12 by omega), or_self, false_or, if_false, l4, g, if_true, F_X4_bury_38, hlaw, hv1, pz_bind, t1, F_X4_bury_63, nI_1]
        · simp only [F_X6_dies_71, g7, w3, c, if_false, F_X6_dies_79, la_2 i12, l2, l4, g, pz_bind, if_true, F_X6_dies_92, pz_n0 (show i < 2 ^ 31 by omega), nI_clamp (show i < 2 ^ 31 by omega), pz_ge (show i < 12 by omega), or_self, false_or, if_false, g14, r1, F_X6_dies_106, nI_1]
        · subst e30
          show k3 q = k0 q
          rw [t2 q (by omega) (by omega) (by omega) (by show q ≠ 57 + i; omega), hv2 q (by omega) (by omega)]
          exact (fx.1 rfl).1 q hq
        · subst e30
          show k3 q = k0 q
          rw [t2 q (by omega) (by omega) (by omega) (by show q ≠ 57 + i; omega), hv2 q (by omega) (by omega)]
          exact (fx.1 rfl).2 q hq hq2
        · subst e15
          show k3 q = k0 q
          rw [t2 q (by omega) (by omega) (by omega) (by show q ≠ 45 + i; omega), hv2 q (by omega) (by omega)]
          exact fx.2 rfl q hq hq2
        · exact (m59 l hl).1.trans (hland l hl).1
        · show m5 9 (4 * l + 2) = k3 (B + 4) l
          rw [k3r]; exact (m59 l hl).2
        · show k3 (B + 4) l = -1 ∨ ∃ p, p < n ∧ k3 (B + 4) l = nI p ∧ k0 (B + 14) p = -1
          rw [k3r]
          by_cases gl : l = i
          · subst gl
            rw [pz_us]
            rcases hok with h | ⟨p, h1, _, h2, h3⟩
            · exact Or.inl h
            · exact Or.inr ⟨p, h1, h2, h3⟩
          · rw [pz_un gl]
            exact (hland l hl).2.2.1 (by omega)
        · show k3 (B + 4) l = k (B + 4) l
          rw [k3r, pz_un (by omega)]
          exact (hland l hl).2.2.2 (by omega)
        · subst e15
          have hx2 : zXl L (fun l => if l < i then hH + 1 else hH) k2 m4 := by
            have := hxl rfl
            have e17 : k2 17 = k1 17 := hv2 17 (by decide) (by decide)
            have e20 : k2 20 = k1 20 := hv2 20 (by decide) (by decide)
            have e21 : k2 21 = k1 21 := hv2 21 (by decide) (by decide)
            refine ⟨fun l hl => ?_, fun l hl hl2 => ?_⟩
            · rw [e17, e20, e21, hv2 (45 + l) (by omega) (by omega)]; exact this.1 l hl
            · rw [e20, e21]; exact this.2 l hl hl2
          refine zXl_mono (hr_l w1 hi (by simp; omega) hx2 t1 r1) (fun l hl => ?_)
          by_cases gl : l = i
          · subst gl; simp
          · by_cases gl2 : l < i
            · rw [if_neg gl]
              simp [gl2, show l < i + 1 by omega]
            · rw [if_neg gl]
              simp [gl2, show ¬ l < i + 1 by omega]
      · refine ⟨(a, k1), (a, m4), fun g' => ?_, fun g' => ?_, rfl, ⟨f0, fx, fB, f1, f2, f3, f9, f10⟩, ⟨g7, g8, g11, g14⟩, fun l hl => ⟨(hland l hl).1, (hland l hl).2.1, fun hl2 => ?_, fun hl2 => (hland l hl).2.2.2 (by omega)⟩, fun e15 => zXl_mono (hxl e15) (fun l hl => ?_)⟩
        · simp only [F_X4_bury_14, f1, w2, c, if_false, F_X4_bury_25, pz_n0 (show i < 2 ^ 31 by omega), nI_clamp (show i < 2 ^ 31 by omega), pz_ge (show i < 12 by omega), or_self, false_or, if_false, l4, g, F_X4_bury_63, nI_1]
        · simp only [F_X6_dies_71, g7, w3, c, if_false, F_X6_dies_79, la_2 i12, l2, l4, g, pz_bind, F_X6_dies_89, F_X6_dies_106, nI_1]
        · by_cases gl : l = i
          · subst gl
            show k1 (B + 4) l = -1 ∨ ∃ p, p < n ∧ k1 (B + 4) l = nI p ∧ k0 (B + 14) p = -1
            rw [l4]
            rcases hRu l hl with h | ⟨p, h1, h2, h3⟩
            · exact Or.inl h
            · refine Or.inr ⟨p, h1, h2, ?_⟩
              have hne : p ≠ r := fun e => g (e ▸ h2)
              rw [k0d, pz_un hne]; exact h3
          · exact (hland l hl).2.2.1 (by omega)
        · by_cases gl2 : l < i
          · simp [gl2, show l < i + 1 by omega]
          · by_cases gl3 : l < i + 1
            · simp [gl2, gl3]
            · simp [gl2, gl3]
    · refine ⟨rfl, ⟨zSame.rf B k0, ⟨fun _ => ⟨fun _ _ => rfl, fun _ _ _ => rfl⟩, fun _ _ _ _ => rfl⟩, k0n B (by omega), k0n _ (by omega), k0n _ (by omega), k0n _ (by omega), k0n _ (by omega), k0n _ (by omega)⟩, ⟨(m3n 7 (by decide)).trans m17, rfl, (m3n 11 (by decide)).trans m111, m3n 14 (by decide)⟩, fun l hl => ⟨?_, ?_, fun h => absurd h (Nat.not_lt_zero _), fun _ => by show k0 (B + 4) l = _; rw [k0n _ (by omega)]⟩, fun e15 => ?_⟩
      · show m3 9 (4 * l + 1) = _
        rw [m3n 9 (by decide), m19]
      · show m3 9 (4 * l + 2) = k0 (B + 4) l
        rw [m3n 9 (by decide), m19, k0n _ (by omega)]; exact (w5 l hl).2.1
      · subst e15
        have := hX rfl
        show zXl L (fun l => if l < 0 then hH + 1 else hH) k0 m3
        refine ⟨fun l hl => ?_, fun l hl hl2 => ?_⟩
        · rw [k0n 17 (by decide), k0n 20 (by decide), k0n 21 (by decide), k0n (45 + l) (by omega), m3n 9 (by decide), m19, m3n 10 (by decide), m110]
          simpa using this.1 l hl
        · rw [k0n 20 (by decide), k0n 21 (by decide)]
          exact this.2 l hl hl2
  obtain ⟨⟨cnt, k2⟩, ⟨cnt', m4⟩, e1, e2, e3, ⟨s0, sx, sB, s1, s2, s3, s9, s10⟩, ⟨n7, n8, n11, n14⟩, hl2, hxl2⟩ := wk
  have e3 : cnt = cnt' := e3
  subst e3
  have s0 : zSame B k0 k2 := s0
  have sx : (B = 30 → (∀ q, q < 30 → k2 q = k0 q) ∧ ∀ q, 45 ≤ q → q < 57 → k2 q = k0 q) ∧ (B = 15 → ∀ q, 30 ≤ q → q < 45 → k2 q = k0 q) := sx
  have sB : k2 B = k B := sB
  have s1 : k2 (B + 1) = k (B + 1) := s1
  have s2 : k2 (B + 2) = k (B + 2) := s2
  have s3 : k2 (B + 3) = k (B + 3) := s3
  have s9 : k2 (B + 9) = k (B + 9) := s9
  have s10 : k2 (B + 10) = k (B + 10) := s10
  have n7 : m4 7 = m 7 := n7
  have n8 : m4 8 = m3 8 := n8
  have n11 : m4 11 = m 11 := n11
  have hl2 : ∀ l, l < L → m4 9 (4 * l + 1) = m 9 (4 * l + 1) ∧ m4 9 (4 * l + 2) = k2 (B + 4) l ∧ (l < L → k2 (B + 4) l = -1 ∨ ∃ p, p < n ∧ k2 (B + 4) l = nI p ∧ k0 (B + 14) p = -1) ∧ (L ≤ l → k2 (B + 4) l = k (B + 4) l) := hl2
  have hxl2 : B = 15 → zXl L (fun l => if l < L then hH + 1 else hH) k2 m4 := hxl2
  have xp2 : B = 15 → zXq n L k2 m4 := fun e15 => by
    subst e15
    obtain ⟨X1, X2, X3⟩ := (h15 rfl).1
    have s9 : k2 24 = k 24 := s9
    have s10 : k2 25 = k 25 := s10
    have s29 : k2 29 = upd (k 29) r (nI y) := s0.2.2.trans k0d
    refine ⟨fun p hp hp2 => ?_, fun p hp => ?_, fun p hp => ?_⟩
    · rw [s9, s10, s29, pz_un (by omega)]; exact X1 p hp hp2
    · rw [s9, s29, n8, m3o p 5 (by decide) (by decide) (by decide)]
      refine ⟨(X2 p hp).1, ?_⟩
      by_cases g : p = r
      · subst g; rw [m38, pz_us, pz_us]
      · rw [m3p p 6 (by decide) g, pz_un g]; exact (X2 p hp).2
    · unfold zTr
      rw [s9, s10, n8, m3o p 7 (by decide) (by decide) (by decide), m3o p 8 (by decide) (by decide) (by decide)]
      exact X3 p hp
  have mw2 : zMW n m4 := fun p hp => by rw [n8, m3o p 5 (by decide) (by decide) (by decide)]; exact hMW p hp
  obtain ⟨k', m', uc, us, p1, p2, p3, p4, p5, p6, p7, p8, p9, p10, p11⟩ := pt_x (k := k2) (m := m4) hB hn hr mw2 xp2 (fun e30 p hp => by
    subst e30
    have s9 : k2 39 = k 39 := s9
    rw [s9]
    exact h30 rfl p hp)
  have lo : ∀ q, q < 15 → k' q = k q := fun q hq => by
    rw [p5 q (zB_ne hB (Or.inl hq) (by decide)) (zB_ne hB (Or.inl hq) (by decide)), s0.1 q hq]; exact k0lo q hq
  have hi69 : ∀ q, 69 ≤ q → k' q = k q := fun q hq => by
    rw [p5 q (zB_ne hB (Or.inr (by omega)) (by decide)) (zB_ne hB (Or.inr (by omega)) (by decide)), s0.2.1 q hq]; exact k0hi q (by omega)
  have k'd : k' (B + 14) = upd (k (B + 14)) r (nI y) := by rw [p5 _ (by omega) (by omega), s0.2.2]; exact k0d
  have m'8 : ∀ p w, w < 9 → w ≠ 5 → w ≠ 7 → w ≠ 8 → m' 8 (9 * p + w) = m3 8 (9 * p + w) := fun p w hw h5 h7 h8 => by rw [p7 p w hw h5 h7 h8, n8]
  refine ⟨cnt, k', m', uc, us, ?_, ?_, ⟨?_, ?_, ⟨w1, ?_, ?_, ?_, fun l hl => ?_⟩, p8, fun l hl => ?_, fun e15 => ⟨p9 e15, ?_⟩, p10⟩, fun e15 => ?_, ?_, (p6 7 (by decide)).trans n7, (p6 11 (by decide)).trans n11, k'd, (p5 B (by omega) (by omega)).trans sB, p3, p4⟩
  · rw [b0]
    refine e1.trans ?_
    simp only [F_X4_bury_69, p1, pz_bind]
  · rw [d1, d4]
    refine e2.trans ?_
    simp only [F_X6_dies_112, p2, pz_bind, pz_kadds]
    rfl
  · refine zKin_k (k := k) ?_ lo hi69
    obtain ⟨a1, a2, a3, a4, a5⟩ := hK
    refine ⟨a1, a2, by rw [p6 7 (by decide), n7]; exact a3, fun p hp => ?_, a5⟩
    have e0 := (m'8 p 0 (by decide) (by decide) (by decide) (by decide)).trans (m3o p 0 (by decide) (by decide) (by decide))
    rw [m'8 p 1 (by decide) (by decide) (by decide) (by decide), m'8 p 3 (by decide) (by decide) (by decide) (by decide), m'8 p 4 (by decide) (by decide) (by decide) (by decide), m3o p 1 (by decide) (by decide) (by decide), m3o p 3 (by decide) (by decide) (by decide), m3o p 4 (by decide) (by decide) (by decide)]
    obtain ⟨x1, x2, x3, x4⟩ := a4 p hp
    exact ⟨e0.trans x1, x2, x3, x4⟩
  · intro p hp
    rw [k'd, m'8 p 2 (by decide) (by decide) (by decide) (by decide)]
    by_cases g : p = r
    · subst g
      rw [pz_us, m38, pz_un (by omega), pz_us]
      exact Or.inr ⟨pz_m1 hy2, rfl⟩
    · rw [pz_un g, m3p p 2 (by decide) g]; exact hL p hp
  · rw [p5 _ (by omega) (by omega), s1]; exact w2
  · rw [p6 7 (by decide), n7]; exact w3
  · rw [p5 B (by omega) (by omega), sB, p6 11 (by decide), n11]; exact w4
  · rw [p6 9 (by decide), p5 (B + 3) (by omega) (by omega), p5 (B + 4) (by omega) (by omega), s3]
    exact ⟨(hl2 l hl).1.trans (w5 l hl).1, (hl2 l hl).2.1, (w5 l hl).2.2⟩
  · rw [p5 (B + 4) (by omega) (by omega), k'd, ← k0d]
    exact (hl2 l hl).2.2.1 hl
  · subst e15
    obtain ⟨p12, p13⟩ := p11 rfl
    have s9 : k2 24 = k 24 := s9
    have k'd : k' 29 = upd (k 29) r (nI y) := k'd
    intro p hp hne
    have hpr : p ≠ r := fun e => hne (e ▸ p13)
    have h24 : k 24 p ≠ -1 := by
      rcases p12 p with g | g
      · rw [← s9, ← g]; exact hne
      · exact absurd g hne
    rw [k'd, pz_un hpr]
    exact (h15 rfl).2 p hp h24
  · subst e15
    have := hxl2 rfl
    refine ⟨fun l hl => ?_, fun l hl hl2 => ?_⟩
    · rw [p5 17 (by decide) (by decide), p5 20 (by decide) (by decide), p5 21 (by decide) (by decide), p5 (45 + l) (by omega) (by omega), p6 9 (by decide), p6 10 (by decide)]
      have h9 := this.1 l hl
      simpa [hl] using h9
    · rw [p5 20 (by decide) (by decide), p5 21 (by decide) (by decide)]
      exact this.2 l hl hl2
  · refine ⟨lo, hi69, fun e15 q hq hq2 => ?_, fun e30 => ⟨fun q hq => ?_, fun q hq hq2 => ?_⟩, (p5 _ (by omega) (by omega)).trans s1, (p5 _ (by omega) (by omega)).trans s2, (p5 _ (by omega) (by omega)).trans s3⟩
    · subst e15
      rw [p5 q (by omega) (by omega), sx.2 rfl q hq hq2]; exact k0n q (by omega)
    · subst e30
      rw [p5 q (by omega) (by omega), (sx.1 rfl).1 q hq]; exact k0n q (by omega)
    · subst e30
      rw [p5 q (by omega) (by omega), (sx.1 rfl).2 q hq hq2]; exact k0n q (by omega)
end ZU
