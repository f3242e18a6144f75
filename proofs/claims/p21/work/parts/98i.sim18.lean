/-! MARRY, in all three -/
def jMr (n L : Nat) (m m' : kS) (A U : Nat) : Prop := (∀ q, q ≠ 7 → q ≠ 8 → q ≠ 9 → q ≠ 10 → q ≠ 12 → q ≠ 13 → m' q = m q) ∧ (∀ p w, w < 9 → w ≠ 5 → w ≠ 7 → w ≠ 8 → m' 8 (9 * p + w) = m 8 (9 * p + w)) ∧ m' 8 (9 * A + 5) = nI U ∧ m' 8 (9 * U + 5) = nI A ∧ (∀ p, p ≠ A → p ≠ U → m' 8 (9 * p + 5) = m 8 (9 * p + 5) ∧ m' 8 (9 * p + 7) = m 8 (9 * p + 7)) ∧ ((∀ l, jSm m m' l) ∨ ∃ l g, l < L ∧ g < n ∧ m 9 (4 * l + 2) ≠ -1 ∧ m 9 (4 * l + 2) ≠ nI g ∧ jHd m m' l (nI g) ∧ ∀ l', l' ≠ l → jSm m m' l')
section ZS
variable {n L h0 H c p q w r B y y' l ag Y s A U : Nat} {k k' m m' z z' mc : kS} {v v1 v2 v3 h a b t d gv : Int32} {f : Nat → Int32} {P : Nat → Int32}
theorem jage {x : Int32} (h1 : -100 ≤ x.toInt) (h2 : x.toInt ≤ y) (hy : y < 2 ^ 30) : (nI y - x).toInt = (y : Int) - x.toInt := by
  rw [Int32.toInt_sub, nI_toInt (by omega), Int.bmod_def]
  omega
theorem jage16 {x : Int32} (h1 : -100 ≤ x.toInt) (h2 : x.toInt ≤ y) (hy : y < 2 ^ 30) (h : ¬ nI y - x < 16) : x.toInt + 16 ≤ y := by
  rw [Int32.lt_iff_toInt_lt, jage h1 h2 hy, show (16 : Int32).toInt = 16 from rfl] at h
  omega
theorem jEx_ma (R : jR n L h0 m z) (hX : jEx n L y k m) (hA : jMr n L m m' A U) (ha : A < n) (hu : U < n) (hk : ∀ p q, p < n → q < n → k' (69 + p) q = k (69 + p) q)
    (gA : (m 8 (9 * A + 1)).toInt + 16 ≤ y) (gU : (m 8 (9 * U + 1)).toInt + 16 ≤ y) (sx : m 8 (9 * A) ≠ m 8 (9 * U)) (ds : k (69 + A) U = -1 ∨ ∃ t, 3 ≤ t ∧ t ≤ 80 ∧ k (69 + A) U = nI t) (ds2 : k (69 + U) A = -1 ∨ ∃ t, 3 ≤ t ∧ t ≤ 80 ∧ k (69 + U) A = nI t) : jEx n L y k' m' := by
  obtain ⟨x1, x2, x3, x4, x5, x6, x7⟩ := hX
  obtain ⟨d1, d2, d3, d4, d5, d6⟩ := hA
  have hn := R.1
  have e0 : ∀ p, m' 8 (9 * p) = m 8 (9 * p) := fun p => d2 p 0 (by decide) (by decide) (by decide) (by decide)
  have e1 : ∀ p, m' 8 (9 * p + 1) = m 8 (9 * p + 1) := fun p => d2 p 1 (by decide) (by decide) (by decide) (by decide)
  have e3 : ∀ p, m' 8 (9 * p + 3) = m 8 (9 * p + 3) := fun p => d2 p 3 (by decide) (by decide) (by decide) (by decide)
  have e4 : ∀ p, m' 8 (9 * p + 4) = m 8 (9 * p + 4) := fun p => d2 p 4 (by decide) (by decide) (by decide) (by decide)
  refine ⟨fun p hp => by rw [e1]; exact x1 p hp, fun p x hp hx h => ?_, fun p x hp hx => ?_, fun p q hp hq e => ?_, fun p hp => ?_, fun l hl => ?_, fun p hp => ?_⟩
  · rw [e3, e4] at h; rw [e1, e1]; exact x2 p x hp hx h
  · rw [e3, e4, e0]; exact x3 p x hp hx
  · rw [e1, e0, e0, hk p q hp hq]
    by_cases pA : p = A
    · subst pA
      rw [d3, nI_eq (by omega) (by omega)] at e
      subst e
      exact ⟨gA, sx, ds⟩
    · by_cases pU : p = U
      · subst pU
        rw [d4, nI_eq (by omega) (by omega)] at e
        subst e
        exact ⟨gU, fun h => sx h.symm, ds2⟩
      · rw [(d5 p pA pU).1] at e
        exact x4 p q hp hq e
  · rw [e1, d2 p 2 (by decide) (by decide) (by decide) (by decide), d2 p 6 (by decide) (by decide) (by decide) (by decide)]; exact x5 p hp
  · have same : jSm m m' l → (m' 9 (4 * l + 2) = -1 ∨ ∃ h, 1 ≤ h ∧ h ≤ 4001 ∧ m' 9 (4 * l + 3) = nI h ∧ m' 10 (15 * l) = m' 9 (4 * l + 2)) := fun g => by
      rw [g.1 2 (by decide), g.1 3 (by decide), show m' 10 (15 * l) = m 10 (15 * l) from g.2 0 (by decide)]; exact x6 l hl
    rcases d6 with g | ⟨l1, g, a1, a2, a3, a4, a5, a6⟩
    · exact same (g l)
    · by_cases e : l = l1
      · subst e; exact jHd_x6 R hl a5
      · exact same (a6 l e)
  · by_cases pA : p = A
    · subst pA; rw [d3]; exact fun h => absurd h (pz_m1 (by omega))
    · by_cases pU : p = U
      · subst pU; rw [d4]; exact fun h => absurd h (pz_m1 (by omega))
      · rw [(d5 p pA pU).1, (d5 p pA pU).2]; exact x7 p hp
end ZS
