/-! WHAT STAYS TRUE OF THE PERSONS AND LANDS; A YEAR -/
def jEx (n L y : Nat) (k m : kS) : Prop :=
  (∀ p, p < n → -100 ≤ (m 8 (9 * p + 1)).toInt ∧ (m 8 (9 * p + 1)).toInt ≤ y) ∧
  (∀ p x, p < n → x < n → (m 8 (9 * p + 3) = nI x ∨ m 8 (9 * p + 4) = nI x) → (m 8 (9 * x + 1)).toInt + 16 ≤ (m 8 (9 * p + 1)).toInt ∧ 0 ≤ (m 8 (9 * p + 1)).toInt) ∧
  (∀ p x, p < n → x < n → (m 8 (9 * p + 3) = nI x → m 8 (9 * x) = 0) ∧ (m 8 (9 * p + 4) = nI x → m 8 (9 * x) = 1)) ∧
  (∀ p q, p < n → q < n → m 8 (9 * p + 5) = nI q → (m 8 (9 * p + 1)).toInt + 16 ≤ y ∧ m 8 (9 * p) ≠ m 8 (9 * q) ∧ (k (69 + p) q = -1 ∨ ∃ t, 3 ≤ t ∧ t ≤ 80 ∧ k (69 + p) q = nI t)) ∧
  (∀ p, p < n → (m 8 (9 * p + 2) = 1 ∧ m 8 (9 * p + 6) = -1) ∨ (m 8 (9 * p + 2) = 0 ∧ ∃ t, t ≤ y ∧ m 8 (9 * p + 6) = nI t ∧ (m 8 (9 * p + 1)).toInt ≤ t)) ∧
  (∀ l, l < L → m 9 (4 * l + 2) = -1 ∨ ∃ h, 1 ≤ h ∧ h ≤ 4001 ∧ m 9 (4 * l + 3) = nI h ∧ m 10 (15 * l) = m 9 (4 * l + 2)) ∧
  ∀ p, p < n → m 8 (9 * p + 5) = -1 → m 8 (9 * p + 7) = -1
section ZS
variable {n L h0 a b p q w r B y y' l : Nat} {k k' m m' z : kS} {v h : Int32} {f : Nat → Int32} {P : Nat → Int32}
theorem jLv_of (R : jR n L h0 m z) (hLi : zLiv n 15 k m) (hX : jEx n L y k m) (hy : y < 2 ^ 30) : jLv n k z := by
  intro c hc
  have e : z (4 * c + 1) 3 = m 8 (9 * c + 6) := (jR_p R hc).2.2.2.1
  rcases hX.2.2.2.2.1 c hc with ⟨h1, h2⟩ | ⟨h1, t, ht, h2, -⟩
  · rcases hLi c hc with ⟨g1, g2⟩ | ⟨g1, g2⟩
    · exact Or.inl ⟨e.trans h2, g1⟩
    · rw [h1] at g2; exact absurd g2 (by decide)
  · rcases hLi c hc with ⟨g1, g2⟩ | ⟨g1, g2⟩
    · rw [h1] at g2; exact absurd g2 (by decide)
    · exact Or.inr ⟨⟨t, by omega, e.trans h2⟩, g1⟩
theorem jEx_y (hX : jEx n L y k m) (h : y ≤ y') : jEx n L y' k m := by
  obtain ⟨x1, x2, x3, x4, x5, x6, x7⟩ := hX
  refine ⟨fun p hp => ⟨(x1 p hp).1, by have := (x1 p hp).2; omega⟩, x2, x3, fun p q hp hq e => ?_, fun p hp => ?_, x6, x7⟩
  · obtain ⟨a, b⟩ := x4 p q hp hq e
    exact ⟨by omega, b⟩
  · rcases x5 p hp with h1 | ⟨h1, t, h2, h3, h4⟩
    · exact Or.inl h1
    · exact Or.inr ⟨h1, t, by omega, h3, h4⟩
/-- other places may change -/
theorem jEx_cg (hX : jEx n L y k m) (hk : ∀ q, 69 ≤ q → k' q = k q) (h8 : ∀ p w, p < n → w < 9 → w ≠ 8 → m' 8 (9 * p + w) = m 8 (9 * p + w)) (h9 : ∀ l, l < L → jSm m m' l) : jEx n L y k' m' := by
  obtain ⟨x1, x2, x3, x4, x5, x6, x7⟩ := hX
  have e0 : ∀ p, p < n → m' 8 (9 * p) = m 8 (9 * p) := fun p hp => h8 p 0 hp (by decide) (by decide)
  refine ⟨fun p hp => ?_, fun p x hp hx h => ?_, fun p x hp hx => ?_, fun p q hp hq e => ?_, fun p hp => ?_, fun l hl => ?_, fun p hp => ?_⟩
  · rw [h8 p 1 hp (by decide) (by decide)]; exact x1 p hp
  · rw [h8 p 3 hp (by decide) (by decide), h8 p 4 hp (by decide) (by decide)] at h
    rw [h8 p 1 hp (by decide) (by decide), h8 x 1 hx (by decide) (by decide)]; exact x2 p x hp hx h
  · rw [h8 p 3 hp (by decide) (by decide), h8 p 4 hp (by decide) (by decide), e0 x hx]; exact x3 p x hp hx
  · rw [h8 p 5 hp (by decide) (by decide)] at e
    rw [h8 p 1 hp (by decide) (by decide), e0 p hp, e0 q hq, hk _ (by omega)]; exact x4 p q hp hq e
  · rw [h8 p 1 hp (by decide) (by decide), h8 p 2 hp (by decide) (by decide), h8 p 6 hp (by decide) (by decide)]; exact x5 p hp
  · rw [(h9 l hl).1 2 (by decide), (h9 l hl).1 3 (by decide), show m' 10 (15 * l) = m 10 (15 * l) from (h9 l hl).2 0 (by decide)]; exact x6 l hl
  · rw [h8 p 5 hp (by decide) (by decide), h8 p 7 hp (by decide) (by decide)]; exact x7 p hp
/-- one dies -/
theorem jEx_die (R : jR n L h0 m z) (hX : jEx n L y k m) (hD : jDie n L k m m' r) (hr : r < n) (hy : m 11 0 = nI y) (hl : m 8 (9 * r + 2) = 1) (hk : ∀ q, 69 ≤ q → k' q = k q) : jEx n L y k' m' := by
  obtain ⟨x1, x2, x3, x4, x5, x6, x7⟩ := hX
  obtain ⟨d1, d2, d3, d4, d5, d6, d7⟩ := hD
  have e0 : ∀ p, m' 8 (9 * p) = m 8 (9 * p) := fun p => d4 p 0 (by decide) (by decide) (by decide) (by decide) (Or.inr ⟨by decide, by decide⟩)
  have e1 : ∀ p, m' 8 (9 * p + 1) = m 8 (9 * p + 1) := fun p => d4 p 1 (by decide) (by decide) (by decide) (by decide) (Or.inr ⟨by decide, by decide⟩)
  have e3 : ∀ p, m' 8 (9 * p + 3) = m 8 (9 * p + 3) := fun p => d4 p 3 (by decide) (by decide) (by decide) (by decide) (Or.inr ⟨by decide, by decide⟩)
  have e4 : ∀ p, m' 8 (9 * p + 4) = m 8 (9 * p + 4) := fun p => d4 p 4 (by decide) (by decide) (by decide) (by decide) (Or.inr ⟨by decide, by decide⟩)
  refine ⟨fun p hp => by rw [e1]; exact x1 p hp, fun p x hp hx h => ?_, fun p x hp hx => ?_, fun p q hp hq e => ?_, fun p hp => ?_, fun l hl => ?_, fun p hp => ?_⟩
  · rw [e3, e4] at h; rw [e1, e1]; exact x2 p x hp hx h
  · rw [e3, e4, e0]; exact x3 p x hp hx
  · rcases d6 p with ⟨h, -⟩ | ⟨h, -⟩
    · rw [h] at e
      rw [e1, e0, e0, hk _ (by omega)]; exact x4 p q hp hq e
    · rw [h] at e
      have := R.1
      exact absurd e.symm (pz_m1 (by omega))
  · by_cases e : p = r
    · subst e
      refine Or.inr ⟨d2, y, Nat.le_refl _, d3.trans hy, ?_⟩
      rw [e1]; exact (x1 p hp).2
    · rw [e1, d4 p 2 (by decide) (by decide) (by decide) (by decide) (Or.inl e), d4 p 6 (by decide) (by decide) (by decide) (by decide) (Or.inl e)]; exact x5 p hp
  · by_cases e : m 9 (4 * l + 2) = nI r
    · obtain ⟨x, -, g0, g1, g2, g3⟩ := (d5 l hl).1 e
      rcases g3 with ⟨e5, -, -⟩ | ⟨e5, g4, g5, -⟩
      · exact Or.inl (g2.trans e5)
      · obtain ⟨h, hh, e16⟩ := jR_h R l hl
        have h4000 := R.2.2.1
        refine Or.inr ⟨h + 1, by omega, by omega, ?_, ?_⟩
        · rw [g4, ← (jR_lr R hl).2.2.2.1, e16, nI_1]
        · rw [g5, g2]
    · have g := (d5 l hl).2 e
      rw [g.1 2 (by decide), g.1 3 (by decide), show m' 10 (15 * l) = m 10 (15 * l) from g.2 0 (by decide)]; exact x6 l hl
  · rcases d6 p with ⟨h1, h2⟩ | ⟨h1, h2⟩
    · rw [h1, h2]; exact x7 p hp
    · exact fun _ => h2
theorem zAl_b {k : kS} : zAl 15 n k ≤ n := zcnt_le _ _
/-- the most that one death takes -/
noncomputable def jDc (L J : Nat) : Nat := 1 + L * (4 + 3 * J)
noncomputable def jDs (L J : Nat) : Nat := L + L * (3 * J) + L * 4000
theorem jmx_cg (h4 : k' 4 = k 4) (h5 : k' 5 = k 5) : ∀ n d p, jps k' n d p = jps k n d p
  | n, 0, p => rfl
  | n, d + 1, p => by
    show jsm _ _ n = jsm _ _ n
    exact jsm_cg n (fun c _ => by unfold zCh; rw [h4, h5]) (fun c _ _ => by rw [jmx_cg h4 h5 n d c])
theorem jmx_cg2 (h4 : k' 4 = k 4) (h5 : k' 5 = k 5) : ∀ x, jmx k' n x = jmx k n x
  | 0 => rfl
  | x + 1 => by
    show max _ _ = max _ _
    rw [jmx_cg2 h4 h5 x, jmx_cg h4 h5]
end ZS
