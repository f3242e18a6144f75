/-! THE CALLS, on both sides: found, marry, annul -/
def zSaidL (v t : Int32) : Nat → Int32 := upd (upd (upd (upd (fun _ => 0) 0 v) 1 t) 2 (-1)) 3 0
section ZB
variable {n p q a b c d e j x r L w l y Y : Nat} {k k1 k0 k' m m1 m' : kS} {v t v1 v2 v3 : Int32} {B P : Nat}
/-- a land is handed over, on both sides, world 15 -/
theorem hd_r {hf : Nat → Nat} (hR : zRel 15 n L k m) (hX : zXl L hf k m) (hl : l < L) (hb : hf l < 2 ^ 30) (hv : v = -1 ∨ ∃ p, p < n ∧ v = nI p ∧ k 29 p = -1) : ∃ k' m', F_X1_handTo 15 (nI l) v k = some k' ∧ F_X6_rule (nI l) v m = some m' ∧ zRel 15 n L k' m' ∧ zXl L (fun j => if j = l then hf l + 1 else hf j) k' m' ∧ k' 15 = k 15 ∧ (∀ q, 30 ≤ q → q < 45 → k' q = k q) ∧ m' 7 = m 7 := by
  obtain ⟨hK, hLv, ⟨w1, w2, w3, w4, w5⟩, hMW, hRu, h15, h30⟩ := hR
  have l12 : l < 12 := by omega
  obtain ⟨k', t1, t2, t3, t4⟩ := ht_x (B := 15) (l := l) (v := v) (k := k) k15 l12
  obtain ⟨m', r1, r2, r3⟩ := rl_x (l := l) (v := v) (m := m) l12
  have kp : kpb 15 + l = 45 + l := rfl
  have kn : ∀ q, q ≠ 19 → q ≠ 20 → q ≠ 21 → (q < 45 ∨ 57 ≤ q) → k' q = k q := fun q h1 h2 h3 h4 => t2 q h1 h2 h3 (by rw [kp]; omega)
  have k19 : k' 19 = upd (k 19) l v := t3
  have m9 : ∀ l', l' < L → m' 9 (4 * l' + 1) = m 9 (4 * l' + 1) ∧ m' 9 (4 * l' + 2) = upd (k 19) l v l' := fun l' hl' => by
    refine ⟨?_, ?_⟩
    · rcases r3 with ⟨_, u1, _⟩ | ⟨_, u1, _⟩
      · rw [u1, pz_un (by omega)]
      · rw [u1, pz_un (by omega), pz_un (by omega)]
    · by_cases g : l' = l
      · subst g
        rw [pz_us]
        rcases r3 with ⟨_, u1, _⟩ | ⟨_, u1, _⟩
        · rw [u1, pz_us]
        · rw [u1, pz_un (by omega), pz_us]
      · rw [pz_un g]
        have e3 : m' 9 (4 * l' + 2) = m 9 (4 * l' + 2) := by
          rcases r3 with ⟨_, u1, _⟩ | ⟨_, u1, _⟩
          · rw [u1, pz_un (by omega)]
          · rw [u1, pz_un (by omega), pz_un (by omega)]
        rw [e3]; exact (w5 l' hl').2.1
  have m8 : m' 8 = m 8 := r2 8 (by decide) (by decide)
  have m7 : m' 7 = m 7 := r2 7 (by decide) (by decide)
  refine ⟨k', m', t1, r1, ⟨zKin_m (zKin_k hK (fun q hq => kn q (by omega) (by omega) (by omega) (by omega)) (fun q hq => kn q (by omega) (by omega) (by omega) (by omega))) m7 m8, fun p hp => ?_, ⟨w1, ?_, by rw [m7]; exact w3, ?_, fun l' hl' => ?_⟩, fun p hp => by rw [m8]; exact hMW p hp, fun l' hl' => ?_, fun _ => ?_, fun h => absurd h (by decide)⟩, hr_l w1 hl hb hX t1 r1, kn 15 (by decide) (by decide) (by decide) (by decide), fun q h1 h2 => kn q (by omega) (by omega) (by omega) (by omega), m7⟩
  · rw [kn (15 + 14) (by decide) (by decide) (by decide) (by decide), m8]; exact hLv p hp
  · rw [kn (15 + 1) (by decide) (by decide) (by decide) (by decide)]; exact w2
  · rw [kn 15 (by decide) (by decide) (by decide) (by decide), r2 11 (by decide) (by decide)]; exact w4
  · rw [kn (15 + 3) (by decide) (by decide) (by decide) (by decide), (m9 l' hl').1, (m9 l' hl').2]
    exact ⟨(w5 l' hl').1, by rw [← k19], (w5 l' hl').2.2⟩
  · rw [kn (15 + 14) (by decide) (by decide) (by decide) (by decide), show k' (15 + 4) = upd (k 19) l v from t3]
    by_cases g : l' = l
    · subst g; rw [pz_us]; exact hv
    · rw [pz_un g]; exact hRu l' hl'
  · have := h15 rfl
    unfold zXp zXq zMar zTr at *
    rw [kn 24 (by decide) (by decide) (by decide) (by decide), kn 25 (by decide) (by decide) (by decide) (by decide), kn 29 (by decide) (by decide) (by decide) (by decide), m8]
    exact this
theorem fl_1 (hL : L < 12) (hk : k 16 0 = nI L) : F_X1_isFull 15 k = some 0 := by
  have c : (nI L < 12) = True := eq_true ((nI_ltI (b := 12) (by omega) (by decide)).mpr hL)
  simp only [F_X1_isFull, F_X1_isFull_0, show 15 + 1 = 16 from rfl, hk, c, if_true, F_X1_isFull_13, F_X1_isFull_14, pz_10, pz_01, pz_00, pz_11, or_true, true_or, not_true_eq_false, if_false, if_true]
theorem fl_0 (hk : k 16 0 = nI 12) : F_X1_isFull 15 k = some 1 := by
  have c : (nI 12 < 12) = False := eq_false (by decide)
  simp only [F_X1_isFull, F_X1_isFull_0, show 15 + 1 = 16 from rfl, hk, c, if_false, F_X1_isFull_9, F_X1_isFull_14, pz_10, pz_01, pz_00, pz_11, or_true, true_or, not_true_eq_false, if_false, if_true]
/-- a land more, on both sides -/
theorem fd_r (hR : zRel 15 n L k m) (hX : zXl L (fun _ => 4100 * c) k m) (hL : L < 12) (hc : c ≤ 600) (hw : w ≤ 50) (hx : x ≤ 3) (hv : v = -1 ∨ ∃ p, p < n ∧ v = nI p ∧ k 29 p = -1) :
    ∃ k' m', F_X1_add 15 (nI w) (nI x) v k = some (nI L, k') ∧ F_X6_found_77 (nI w) (nI x) v m = some ((nI L, m'), 1, 4) ∧ zRel 15 n (L + 1) k' m' ∧ zXl (L + 1) (fun _ => 4100 * (c + 1)) k' m' ∧ k' 15 = k 15 ∧ (∀ q, 30 ≤ q → q < 45 → k' q = k q) ∧ m' 7 0 = m 7 0 := by
  obtain ⟨hK, hLv, ⟨w1, w2, w3, w4, w5⟩, hMW, hRu, h15, h30⟩ := hR
  have hk : k 16 0 = nI L := w2
  obtain ⟨k1, hk1⟩ : ∃ k1, k1 = kst (kst k 17 (upd (k 17) L (nI w))) 18 (upd (k 18) L (nI x)) := ⟨_, rfl⟩
  obtain ⟨m1, hm1⟩ : ∃ m1, m1 = kst m 9 (va_cpy (zSaidL (nI w) (nI x)) (m 9) 0 (4 * L) 4) := ⟨_, rfl⟩
  have k1n : ∀ q, q ≠ 17 → q ≠ 18 → k1 q = k q := fun q h1 h2 => by rw [hk1, kst_ne _ _ h2, kst_ne _ _ h1]
  have k117 : k1 17 = upd (k 17) L (nI w) := by rw [hk1, kst_ne _ _ (by decide), kst_eq]
  have k118 : k1 18 = upd (k 18) L (nI x) := by rw [hk1, kst_eq]
  have m1n : ∀ q, q ≠ 9 → m1 q = m q := fun q h1 => by rw [hm1, kst_ne _ _ h1]
  have m19 : m1 9 = va_cpy (zSaidL (nI w) (nI x)) (m 9) 0 (4 * L) 4 := by rw [hm1, kst_eq]
  have m9o : ∀ l z, l < L → z < 4 → m1 9 (4 * l + z) = m 9 (4 * l + z) := fun l z hl hz => by rw [m19, pk_cpy_out (by omega)]
  have m9n : ∀ z, z < 4 → m1 9 (4 * L + z) = zSaidL (nI w) (nI x) z := fun z hz => by rw [m19, pk_cpy_in (by omega) (by omega)]; congr 1; omega
  -- the rulers that were, with the new land in them
  have hX1 : zXl (L + 1) (fun _ => 4100 * c) k1 m1 := by
    refine ⟨fun l hl => ?_, fun l hl hl2 => ?_⟩
    · rw [k117, k1n 20 (by decide) (by decide), k1n 21 (by decide) (by decide), k1n (45 + l) (by omega) (by omega), m1n 10 (by decide)]
      by_cases g : l = L
      · subst g
        obtain ⟨h20, h21⟩ := hX.2 l (Nat.le_refl _) hL
        rw [pz_us, h20, h21, m9n 3 (by decide)]
        exact ⟨m9n 0 (by decide), ⟨w, hw, rfl⟩, 0, by omega, rfl, rfl, rfl, fun i hi => absurd hi (by omega)⟩
      · have e0 := m9o l 0 (by omega) (by decide)
        rw [pz_un g, m9o l 3 (by omega) (by decide)]
        obtain ⟨x1, x2⟩ := hX.1 l (by omega)
        exact ⟨e0.trans x1, x2⟩
    · rw [k1n 20 (by decide) (by decide), k1n 21 (by decide) (by decide)]; exact hX.2 l (by omega) hl2
  obtain ⟨k2, t1, t2, t3, t4⟩ := ht_x (B := 15) (l := L) (v := v) (k := k1) k15 hL
  obtain ⟨m2, r1, r2, r3⟩ := rl_x (l := L) (v := v) (m := m1) hL
  have hX2 := hr_l (by omega) (show L < L + 1 by omega) (by omega) hX1 t1 r1
  have kn : ∀ q, q ≠ 19 → q ≠ 20 → q ≠ 21 → (q < 45 ∨ 57 ≤ q) → k2 q = k1 q := fun q h1 h2 h3 h4 => t2 q h1 h2 h3 (by show q ≠ 45 + L; omega)
  obtain ⟨k', hk'⟩ : ∃ k', k' = kst k2 16 (upd (k2 16) 0 (nI (L + 1))) := ⟨_, rfl⟩
  obtain ⟨m', hm'⟩ : ∃ m', m' = kst m2 7 (upd (m2 7) 2 (nI (L + 1))) := ⟨_, rfl⟩
  have k'n : ∀ q, q ≠ 16 → k' q = k2 q := fun q h => by rw [hk', kst_ne _ _ h]
  have m'n : ∀ q, q ≠ 7 → m' q = m2 q := fun q h => by rw [hm', kst_ne _ _ h]
  have m'7 : m' 7 = upd (m 7) 2 (nI (L + 1)) := by rw [hm', kst_eq, r2 7 (by decide) (by decide), m1n 7 (by decide)]
  have m'8 : m' 8 = m 8 := by rw [m'n 8 (by decide), r2 8 (by decide) (by decide), m1n 8 (by decide)]
  have all : ∀ q, q ≠ 16 → q ≠ 17 → q ≠ 18 → q ≠ 19 → q ≠ 20 → q ≠ 21 → (q < 45 ∨ 57 ≤ q) → k' q = k q := fun q h1 h2 h3 h4 h5 h6 h7 => by rw [k'n q h1, kn q h4 h5 h6 h7, k1n q h2 h3]
  have k'19 : k' 19 = upd (k 19) L v := by rw [k'n 19 (by decide), show k2 19 = upd (k1 19) L v from t3, k1n 19 (by decide) (by decide)]
  have k'18 : k' 18 = upd (k 18) L (nI x) := by rw [k'n 18 (by decide), kn 18 (by decide) (by decide) (by decide) (by decide), k118]
  have m'9 : ∀ l, l < L + 1 → m' 9 (4 * l + 1) = upd (k 18) L (nI x) l ∧ m' 9 (4 * l + 2) = upd (k 19) L v l := fun l hl => by
    rw [m'n 9 (by decide)]
    by_cases g : l = L
    · subst g
      rw [pz_us, pz_us]
      rcases r3 with ⟨_, u1, _⟩ | ⟨_, u1, _⟩
      · rw [u1, pz_us, pz_un (by omega), m9n 1 (by decide)]
        exact ⟨rfl, rfl⟩
      · rw [u1, pz_un (show 4 * l + 2 ≠ 4 * l + 3 by omega), pz_us, pz_un (by omega), pz_un (by omega), m9n 1 (by decide)]
        exact ⟨rfl, rfl⟩
    · rw [pz_un g, pz_un g, ← (w5 l (by omega)).1, ← (w5 l (by omega)).2.1]
      rcases r3 with ⟨_, u1, _⟩ | ⟨_, u1, _⟩
      · rw [u1, pz_un (by omega), pz_un (by omega)]
        exact ⟨m9o l 1 (by omega) (by decide), m9o l 2 (by omega) (by decide)⟩
      · rw [u1, pz_un (by omega), pz_un (by omega), pz_un (by omega), pz_un (by omega)]
        exact ⟨m9o l 1 (by omega) (by decide), m9o l 2 (by omega) (by decide)⟩
  refine ⟨k', m', ?_, ?_, ⟨?_, fun p hp => ?_, ⟨by omega, ?_, by rw [m'7, pz_us], ?_, fun l hl => ?_⟩, fun p hp => by rw [m'8]; exact hMW p hp, fun l hl => ?_, fun _ => ?_, fun h => absurd h (by decide)⟩, ?_, all 15 (by decide) (by decide) (by decide) (by decide) (by decide) (by decide) (by decide), fun q h1 h2 => all q (by omega) (by omega) (by omega) (by omega) (by omega) (by omega) (by omega), by rw [m'7, pz_un (by decide)]⟩
  · simp only [F_X1_add, F_X1_add_0, fl_1 hL hk, pz_bind, pz_00, if_true, F_X1_add_9, show 15 + 1 = 16 from rfl, show 15 + 2 = 17 from rfl, show 15 + 3 = 18 from rfl, hk, pz_n0 (show L < 2 ^ 31 by omega), nI_clamp (show L < 2 ^ 31 by omega), pz_ge (show L < 12 by omega), or_self, false_or, if_false, kst_ne k (upd (k 17) L (nI w)) (show 18 ≠ 17 by decide), ← hk1, t1, nI_1, ← hk']
  · have c4 : 4 * nI L = nI (4 * L) := pk_mul 4 L
    have cc : ∀ X : Option ((Int32 × kS) × Nat × Nat), (if ((0 : Int32) < 0 ∨ nI (4 * L) < 0 ∨ (4 : Int32) < 0 ∨ 4 < (0 : Int32).toNatClampNeg + (4 : Int32).toNatClampNeg ∨ 48 < (nI (4 * L)).toNatClampNeg + (4 : Int32).toNatClampNeg) then none else X) = X := fun X => by
      refine if_neg ?_
      rw [nI_clamp (show 4 * L < 2 ^ 31 by omega)]
      rintro (h | h | h | h | h)
      · exact absurd h (by decide)
      · exact nI_pos (by omega) h
      · exact absurd h (by decide)
      · exact absurd h (by decide)
      · have : (4 : Int32).toNatClampNeg = 4 := rfl
        omega
    have e9 : ∀ f, (kst m 9 f) 7 = m 7 := fun f => kst_ne _ _ (by decide)
    have m2l : m2 7 2 = nI L := by rw [r2 7 (by decide) (by decide), m1n 7 (by decide)]; exact w3
    unfold F_X6_found_77
    rw [if_neg (by decide), if_neg (by decide), if_neg (by decide), if_neg (by decide), w3, c4, cc]
    simp only [e9, w3, nI_clamp (show 4 * L < 2 ^ 31 by omega)]
    have key : ∀ X : kS → Option ((Int32 × kS) × Nat × Nat), (F_X6_rule (nI L) v (kst m 9 (va_cpy (upd (upd (upd (upd (fun _ => 0) (0 : Int32).toNatClampNeg (nI w)) (1 : Int32).toNatClampNeg (nI x)) (2 : Int32).toNatClampNeg (-1)) (3 : Int32).toNatClampNeg 0) (m 9) (0 : Int32).toNatClampNeg (4 * L) (4 : Int32).toNatClampNeg))).bind X = X m2 := fun X => by
      have : F_X6_rule (nI L) v (kst m 9 (va_cpy (upd (upd (upd (upd (fun _ => 0) (0 : Int32).toNatClampNeg (nI w)) (1 : Int32).toNatClampNeg (nI x)) (2 : Int32).toNatClampNeg (-1)) (3 : Int32).toNatClampNeg 0) (m 9) (0 : Int32).toNatClampNeg (4 * L) (4 : Int32).toNatClampNeg)) = F_X6_rule (nI L) v m1 := by rw [hm1]; rfl
      rw [this, r1, pz_bind]
    rw [key]
    have u1 : nI L + 1 = nI (L + 1) := nI_1 L
    have u2 : nI (L + 1) - 1 = nI L := nI_pred L
    simp only [m2l, u1, kst_eq, pz_us, u2, ← hm', pz_kadds, Nat.add_zero]
  · refine zKin_k (k := k) ?_ (fun q hq => all q (by omega) (by omega) (by omega) (by omega) (by omega) (by omega) (by omega)) (fun q hq => all q (by omega) (by omega) (by omega) (by omega) (by omega) (by omega) (by omega))
    obtain ⟨a1, a2, a3, a4, a5⟩ := hK
    exact ⟨a1, a2, by rw [m'7, pz_un (by decide)]; exact a3, fun p hp => by rw [m'8]; exact a4 p hp, a5⟩
  · rw [all (15 + 14) (by decide) (by decide) (by decide) (by decide) (by decide) (by decide) (by decide), m'8]; exact hLv p hp
  · rw [show k' (15 + 1) = upd (k2 16) 0 (nI (L + 1)) by rw [hk']; exact kst_eq _ _ _, pz_us]
  · rw [all 15 (by decide) (by decide) (by decide) (by decide) (by decide) (by decide) (by decide), m'n 11 (by decide), r2 11 (by decide) (by decide), m1n 11 (by decide)]; exact w4
  · rw [(m'9 l hl).1, (m'9 l hl).2, show k' (15 + 3) = _ from k'18, show k' (15 + 4) = _ from k'19]
    refine ⟨rfl, rfl, ?_⟩
    by_cases g : l = L
    · subst g; rw [pz_us]; exact ⟨x, hx, rfl⟩
    · rw [pz_un g]; exact (w5 l (by omega)).2.2
  · rw [show k' (15 + 4) = _ from k'19, all (15 + 14) (by decide) (by decide) (by decide) (by decide) (by decide) (by decide) (by decide)]
    by_cases g : l = L
    · subst g; rw [pz_us]; exact hv
    · rw [pz_un g]; exact hRu l (by omega)
  · obtain ⟨⟨X1, X2, X3⟩, X4⟩ := h15 rfl
    have e24 := all 24 (by decide) (by decide) (by decide) (by decide) (by decide) (by decide) (by decide)
    have e25 := all 25 (by decide) (by decide) (by decide) (by decide) (by decide) (by decide) (by decide)
    have e29 := all 29 (by decide) (by decide) (by decide) (by decide) (by decide) (by decide) (by decide)
    refine ⟨⟨by rw [e24, e25, e29]; exact X1, by rw [e24, e29, m'8]; exact X2, fun p hp => ?_⟩, by unfold zMar; rw [e24, e29]; exact X4⟩
    unfold zTr
    rw [e24, e25, m'8]
    rcases X3 p hp with h | ⟨q, h1, h2, h3, h4, h5⟩
    · exact Or.inl h
    · refine Or.inr ⟨q, h1, h2, h3, h4, ?_⟩
      rcases h5 with h5 | ⟨l, hl, h5⟩
      · exact Or.inl h5
      · exact Or.inr ⟨l, by omega, h5⟩
  · refine zXl_mono (hf := fun j => if j = L then 4100 * c + 1 else 4100 * c) (zXl_cg (by omega) hX2 (k'n 17 (by decide)) (k'n 20 (by decide)) (k'n 21 (by decide)) (fun l hl => k'n _ (by omega)) (m'n 9 (by decide)) (m'n 10 (by decide))) (fun j hj => ?_)
    by_cases g : j = L
    · simp [g]; omega
    · simp [g]; omega
theorem ix_worth (v : Int32) : (v < 1 ∨ 50 < v) ∨ ∃ w, w ≤ 50 ∧ 1 ≤ w ∧ v = nI w := by
  rcases pk_ix v (n := 51) (by omega) with h | h | ⟨w, hw, rfl⟩
  · refine Or.inl (Or.inl ?_)
    rw [Int32.lt_iff_toInt_lt] at *
    rw [show (1 : Int32).toInt = 1 from rfl]
    rw [show (0 : Int32).toInt = 0 from rfl] at h
    omega
  · refine Or.inl (Or.inr ?_)
    rw [Int32.lt_iff_toInt_lt, show (50 : Int32).toInt = 50 from rfl]
    rw [Int32.le_iff_toInt_le, nI_toInt (by decide)] at h
    omega
  · by_cases h0 : w = 0
    · subst h0
      exact Or.inl (Or.inl (by decide))
    · exact Or.inr ⟨w, by omega, by omega, rfl⟩
theorem zM_found (hA : zAll c k m) (hc : c ≤ 600) : ∃ code r k' b m' uc us, F_X5_found v1 v2 v3 k = some ((code, r), k') ∧ F_X6_found v1 v2 v3 m = some ((b, m'), uc, us) ∧ zOk 1 3 2 code r b (m' 7 0) ∧ zAll (c + 1) k' m' ∧ uc ≤ 50 ∧ us ≤ 800 := by
  have hA' := hA
  obtain ⟨n, L, y, hR, hX, hy, hy2, hAh⟩ := hA
  have hn := hR.1.1
  have hk := hR.1.2.1
  have hm : thr 0 m 7 1 = nI n := thr_1.trans hR.1.2.2.1
  have hL := hR.2.2.1.1
  have hk2 : k 16 0 = nI L := hR.2.2.1.2.1
  have hm2 : thr 0 m 7 2 = nI L := thr_2.trans hR.2.2.1.2.2.1
  have bad1 : F_X5_found v1 v2 v3 k = some ((1, 0), k) → F_X6_found v1 v2 v3 m = F_X6_found_24 (thr 0 m) → ∃ code r k' b m' uc us, F_X5_found v1 v2 v3 k = some ((code, r), k') ∧ F_X6_found v1 v2 v3 m = some ((b, m'), uc, us) ∧ zOk 1 3 2 code r b (m' 7 0) ∧ zAll (c + 1) k' m' ∧ uc ≤ 50 ∧ us ≤ 800 := fun h1 h2 =>
    ⟨1, 0, k, 0, thr 1 (thr 0 m), 0, 0, h1, by rw [h2]; simp only [F_X6_found_24, fail_x, pz_bind], by rw [thr_0]; exact zOk_1 (by decide), zAll_up (zAll_thr (zAll_thr hA')), by omega, by omega⟩
  have bad2 : F_X5_found v1 v2 v3 k = some ((3, 0), k) → F_X6_found v1 v2 v3 m = F_X6_found_43 (thr 0 m) → ∃ code r k' b m' uc us, F_X5_found v1 v2 v3 k = some ((code, r), k') ∧ F_X6_found v1 v2 v3 m = some ((b, m'), uc, us) ∧ zOk 1 3 2 code r b (m' 7 0) ∧ zAll (c + 1) k' m' ∧ uc ≤ 50 ∧ us ≤ 800 := fun h1 h2 =>
    ⟨3, 0, k, 0, thr 2 (thr 0 m), 0, 0, h1, by rw [h2]; simp only [F_X6_found_43, fail_x, pz_bind], by rw [thr_0]; exact zOk_3 (by decide), zAll_up (zAll_thr (zAll_thr hA')), by omega, by omega⟩
  have bad3 : F_X5_found v1 v2 v3 k = some ((2, 0), k) → F_X6_found v1 v2 v3 m = F_X6_found_71 (thr 0 m) → ∃ code r k' b m' uc us, F_X5_found v1 v2 v3 k = some ((code, r), k') ∧ F_X6_found v1 v2 v3 m = some ((b, m'), uc, us) ∧ zOk 1 3 2 code r b (m' 7 0) ∧ zAll (c + 1) k' m' ∧ uc ≤ 50 ∧ us ≤ 800 := fun h1 h2 =>
    ⟨2, 0, k, 0, thr 3 (thr 0 m), 0, 0, h1, by rw [h2]; simp only [F_X6_found_71, fail_x, pz_bind], by rw [thr_0]; exact zOk_2 (by decide), zAll_up (zAll_thr (zAll_thr hA')), by omega, by omega⟩
  rcases ix_worth v1 with hwo | ⟨w, w50, w1, rfl⟩
  · refine bad1 ?_ ?_
    · simp only [F_X5_found, F_X5_found_0, F_X5_found_5, F_X5_found_11]
      by_cases h1 : v1 < 1
      · rw [if_pos h1]
      · rw [if_neg h1, if_neg (Int32.not_le.mpr (hwo.resolve_left h1))]
    · simp only [F_X6_found, F_X6_found_0, thr_e, isIn_0 (m := thr 0 m) (v1 := 1) (v2 := 50) hwo, pz_bind, pz_00, if_true]
  · have a1 : ¬ nI w < 1 := nI_nlt (b := 1) w1 (by omega)
    have a2 : ¬ (50 : Int32) < nI w := nI_nlt (b := w) (a := 50) w50 (by decide)
    have a3 : nI w ≤ 50 := nI_le (b := 50) w50 (by decide)
    have cls : F_X5_found (nI w) v2 v3 k = F_X5_found_21 (nI w) v2 v3 k := by simp only [F_X5_found, F_X5_found_0, F_X5_found_5, a1, a3, if_true, if_false]
    have ref : F_X6_found (nI w) v2 v3 m = F_X6_found_15 (nI w) v2 v3 (thr 0 m) := by simp only [F_X6_found, F_X6_found_0, thr_e, isIn_1 (m := thr 0 m) a1 a2, pz_bind, pz_10, if_false]
    rcases ix_law v2 with hla | ⟨x, x3, rfl⟩
    · refine bad1 ?_ ?_
      · rw [cls]; simp only [F_X5_found_21, nw_0 (k := k) hla, pz_bind, pz_n1, if_false]
      · rw [ref]; simp only [F_X6_found_15, isIn_0 (m := thr 0 m) (v1 := 0) (v2 := 3) hla, pz_bind, pz_00, if_true]
    · have b1 : ¬ nI x < 0 := nI_pos (by omega)
      have b2 : ¬ (3 : Int32) < nI x := nI_nlt (b := x) (a := 3) (by omega) (by decide)
      have cls2 : F_X5_found (nI w) (nI x) v3 k = if v3 = -1 then F_X5_found_35 (nI w) (nI x) v3 k else F_X5_found_30 (nI w) (nI x) v3 k := by
        rw [cls]; simp only [F_X5_found_21, nw_1 (k := k) x3, pz_bind, pz_nz, if_true]
      have ref2 : F_X6_found (nI w) (nI x) v3 m = F_X6_found_30 (nI w) (nI x) v3 (thr 0 m) := by
        rw [ref]; simp only [F_X6_found_15, isIn_1 (m := thr 0 m) b1 b2, pz_bind, pz_10, if_false]
      -- the land is founded
      have go : ∀ (hv : v3 = -1 ∨ ∃ p, p < n ∧ v3 = nI p ∧ k 29 p = -1), L < 12 → F_X5_found (nI w) (nI x) v3 k = F_X5_found_84 (nI w) (nI x) v3 k → F_X6_found (nI w) (nI x) v3 m = F_X6_found_77 (nI w) (nI x) v3 (thr 0 m) → ∃ code r k' b m' uc us, F_X5_found (nI w) (nI x) v3 k = some ((code, r), k') ∧ F_X6_found (nI w) (nI x) v3 m = some ((b, m'), uc, us) ∧ zOk 1 3 2 code r b (m' 7 0) ∧ zAll (c + 1) k' m' ∧ uc ≤ 50 ∧ us ≤ 800 := by
        intro hv hL12 h1 h2
        obtain ⟨k', m', g1, g2, g3, g4, g5, g6, g7⟩ := fd_r (zRel_thr (v := 0) hR) (zXl_thr (v := 0) hL hX) hL12 hc w50 x3 hv
        exact ⟨0, nI L, k', nI L, m', 1, 4, by rw [h1]; simp only [F_X5_found_84, g1, pz_bind], by rw [h2]; exact g2, by rw [g7, thr_0]; exact zOk_0, ⟨n, L + 1, y, g3, g4, by rw [g5]; exact hy, by omega, fun p hp => by rw [g6 39 (by decide) (by decide)]; exact hAh p hp⟩, by omega, by omega⟩
      by_cases hnone : v3 = -1
      · subst hnone
        rw [if_pos rfl] at cls2
        have ref3 : F_X6_found_30 (nI w) (nI x) (-1) (thr 0 m) = F_X6_found_49 (nI w) (nI x) (-1) (thr 0 m) := by simp only [F_X6_found_30, if_true]
        by_cases h12 : L = 12
        · subst h12
          have c12 : (nI 12 = 12) = True := eq_true rfl
          refine bad3 ?_ ?_
          · rw [cls2]; simp only [F_X5_found_35, fl_0 hk2, pz_bind, pz_10, if_false, F_X5_found_48]
          · rw [ref2, ref3]; simp only [F_X6_found_49, hm2, c12, if_true]
        · have c12 : (nI L = 12) = False := by
            have : (nI L = nI 12) = False := by rw [pz_eq (by omega) (by decide)]; exact eq_false h12
            exact this
          refine go (Or.inl rfl) (by omega) ?_ ?_
          · rw [cls2]; simp only [F_X5_found_35, fl_1 (show L < 12 by omega) hk2, pz_bind, pz_00, if_true, F_X5_found_58]
          · rw [ref2, ref3]; simp only [F_X6_found_49, hm2, c12, if_false, F_X6_found_58, if_true]
      · rw [if_neg hnone] at cls2
        have ref3 : F_X6_found_30 (nI w) (nI x) v3 (thr 0 m) = F_X6_found_35 (nI w) (nI x) v3 (thr 0 m) := by simp only [F_X6_found_30, hnone, if_false]
        rcases pk_ix v3 (n := n) (by omega) with h | h | ⟨p, hp, rfl⟩
        · refine bad2 ?_ ?_
          · rw [cls2]; simp only [F_X5_found_30, np_0 hk (Or.inl h), pz_bind, pz_n3, if_false]
          · rw [ref2, ref3]; simp only [F_X6_found_35, ip_0 hn hm (Or.inl h), pz_bind, pz_00, if_true]
        · refine bad2 ?_ ?_
          · rw [cls2]; simp only [F_X5_found_30, np_0 hk (Or.inr h), pz_bind, pz_n3, if_false]
          · rw [ref2, ref3]; simp only [F_X6_found_35, ip_0 hn hm (Or.inr h), pz_bind, pz_00, if_true]
        · have cls4 : F_X5_found (nI w) (nI x) (nI p) k = F_X5_found_35 (nI w) (nI x) (nI p) k := by
            rw [cls2]; simp only [F_X5_found_30, np_1 hn hk hp, pz_bind, pz_nz, if_true]
          have ref4 : F_X6_found (nI w) (nI x) (nI p) m = F_X6_found_49 (nI w) (nI x) (nI p) (thr 0 m) := by
            rw [ref2, ref3]; simp only [F_X6_found_35, ip_1 hn hm hp, pz_bind, pz_10, if_false]
          have cp : (nI p = -1) = False := pz_m1' (by omega)
          by_cases h12 : L = 12
          · subst h12
            have c12 : (nI 12 = 12) = True := eq_true rfl
            refine bad3 ?_ ?_
            · rw [cls4]; simp only [F_X5_found_35, fl_0 hk2, pz_bind, pz_10, if_false, F_X5_found_48]
            · rw [ref4]; simp only [F_X6_found_49, hm2, c12, if_true]
          · have c12 : (nI L = 12) = False := by
              have : (nI L = nI 12) = False := by rw [pz_eq (by omega) (by decide)]; exact eq_false h12
              exact this
            rcases (zRel_thr (v := 0) hR).2.1 p hp with ⟨l1, l2⟩ | ⟨l1, l2⟩
            · refine go (Or.inr ⟨p, hp, rfl, l1⟩) (by omega) ?_ ?_
              · rw [cls4]; simp only [F_X5_found_35, fl_1 (show L < 12 by omega) hk2, pz_bind, pz_00, if_true, F_X5_found_58, cp, if_false, F_X5_found_63, li_1 hn hk hp l1, pz_10]
              · rw [ref4]; simp only [F_X6_found_49, hm2, c12, if_false, F_X6_found_58, cp, F_X6_found_63, ri_1 (show p < 40 by omega) l2, pz_bind, pz_10]
            · refine bad3 ?_ ?_
              · rw [cls4]; simp only [F_X5_found_35, fl_1 (show L < 12 by omega) hk2, pz_bind, pz_00, if_true, F_X5_found_58, cp, if_false, F_X5_found_63, li_0 hn hk hp l1, F_X5_found_74]
              · rw [ref4]; simp only [F_X6_found_49, hm2, c12, if_false, F_X6_found_58, cp, F_X6_found_63, ri_0 (show p < 40 by omega) l2, pz_bind, pz_00, if_true]
end ZB
