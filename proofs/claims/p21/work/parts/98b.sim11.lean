/-! A PERSON MORE, in all three -/
def jNw2 (n : Nat) (z z' : kS) (v t a b : Int32) : Prop := (∀ q, q ≠ 4 * n + 1 → q ≠ 20 → q ≠ 4 → q ≠ 12 → z' q = z q) ∧ z' 20 0 = nI (n + 1) ∧ z' 20 1 = z 20 1 ∧ z' 12 0 = nI (n + 1) ∧ z' 12 1 = z 12 1 ∧ (∀ i, i < n + 1 → z' 4 i = nI i) ∧ (∀ i, n + 1 ≤ i → z' 4 i = -1) ∧ z' (4 * n + 1) 0 = nI n ∧ z' (4 * n + 1) 1 = v ∧ z' (4 * n + 1) 2 = t ∧ z' (4 * n + 1) 4 = a ∧ z' (4 * n + 1) 5 = b ∧ ∀ w, w = 3 ∨ w = 6 ∨ w = 7 ∨ w = 8 → z' (4 * n + 1) w = -1
section ZS
variable {n L h0 H p q w r B y y' l : Nat} {k k' m m' z z' : kS} {v v1 v2 h a b t : Int32} {f : Nat → Int32} {P : Nat → Int32}
theorem zSteps_un {n' : Nat} (hn' : n' ≤ 40) (hs : zSteps n k) (hs' : zSteps n' k') (hnn : n ≤ n') (hp : ∀ p, p < n → k' 4 p = k 4 p ∧ k' 5 p = k 5 p) {x u : Nat} (hx : x < n) (hu : u < n) : k' (69 + x) u = k (69 + x) u := by
  have iff : ∀ {d c q}, c < n → (zPath k' d c q ↔ zPath k d c q) := fun hc => zPath_lt hp hc
  rcases hs x u hx hu with ⟨e1, e2⟩ | ⟨p, d, e, p1, p2, p3, p4⟩
  · rcases hs' x u (by omega) (by omega) with ⟨f1, f2⟩ | ⟨p', d', e', q1, q2, -, -⟩
    · rw [e1, f1]
    · exact absurd ((iff hu).mp q2) (e2 p' d' e' ((iff hx).mp q1))
  · rcases hs' x u (by omega) (by omega) with ⟨f1, f2⟩ | ⟨p', d', e', q1, q2, q3, q4⟩
    · exact absurd ((iff hu).mpr p2) (f2 p d e ((iff hx).mpr p1))
    · have h1 := p4 p' d' e' ((iff hx).mp q1) ((iff hu).mp q2)
      have h2 := q4 p d e ((iff hx).mpr p1) ((iff hu).mpr p2)
      rw [p3, q3, show d + e = d' + e' by omega]
theorem zSaid_v : zSaid v t a b 0 = v ∧ zSaid v t a b 1 = t ∧ zSaid v t a b 2 = 1 ∧ zSaid v t a b 3 = a ∧ zSaid v t a b 4 = b ∧ zSaid v t a b 5 = -1 ∧ zSaid v t a b 6 = -1 ∧ zSaid v t a b 7 = -1 ∧ zSaid v t a b 8 = -1 := ⟨rfl, rfl, rfl, rfl, rfl, rfl, rfl, rfl, rfl⟩
theorem jR_new (R : jR n L h0 m z) (hn : n < 40) (hz : jNw2 n z z' v t a b) (ka : jk n a) (kb : jk n b) (h8o : ∀ p w, p < n → w < 9 → m' 8 (9 * p + w) = m 8 (9 * p + w)) (h8n : ∀ w, w < 9 → m' 8 (9 * n + w) = zSaid v t a b w) (hq : ∀ q, q ≠ 7 → q ≠ 8 → m' q = m q) : jR (n + 1) L h0 m' z' := by
  obtain ⟨z0, z1, z2, z3, z4, z5, z6, z7, z8, z9, z10, z11, z12⟩ := hz
  have R' := R
  obtain ⟨r1, r2, r3, r4, r5, r6, r7, r8, r9⟩ := R
  have hP : ∀ p, p < n → z' (4 * p + 1) = z (4 * p + 1) := fun p hp => z0 _ (by omega) (by omega) (by omega) (by omega)
  refine ⟨by omega, r2, r3, ⟨z1, z2.trans r4.2.1, z3, z4.trans r4.2.2.2.1, z5, z6, ?_, ?_⟩, ?_, fun p hp => ?_, fun l hl => ?_, ⟨fun p hp => ?_, fun l hl => ?_⟩, fun l hl => ?_⟩
  · rw [z0 8 (by omega) (by omega) (by omega) (by omega)]; exact r4.2.2.2.2.2.2.1
  · rw [z0 8 (by omega) (by omega) (by omega) (by omega)]; exact r4.2.2.2.2.2.2.2
  · rw [z0 0 (by omega) (by omega) (by omega) (by omega), hq 11 (by decide) (by decide)]; exact r5
  · by_cases e : p = n
    · subst e
      obtain ⟨s0, s1, s2, s3, s4, s5, s6, s7, s8⟩ := zSaid_v (v := v) (t := t) (a := a) (b := b)
      unfold jRp
      rw [h8n 1 (by decide), h8n 6 (by decide), h8n 3 (by decide), h8n 4 (by decide), h8n 5 (by decide), h8n 7 (by decide), h8n 8 (by decide), show m' 8 (9 * p) = zSaid v t a b 0 from h8n 0 (by decide), s0, s1, s3, s4, s5, s6, s7, s8]
      exact ⟨z7, z8, z9, z12 3 (by decide), z10, z11, z12 6 (by decide), z12 7 (by decide), Or.inl (z12 7 (by decide))⟩
    · exact jRp_cg (r6 p (by omega)) (hP p (by omega)) (fun w hw => h8o p w (by omega) hw)
  · exact jRl_cg (r7 l hl) (z0 _ (by omega) (by omega) (by omega) (by omega)) (z0 _ (by omega) (by omega) (by omega) (by omega)) (by rw [z0 16 (by omega) (by omega) (by omega) (by omega)]) (fun w _ => by rw [hq 9 (by decide) (by decide)]) (fun i _ => by rw [hq 10 (by decide) (by decide)])
  · by_cases e : p = n
    · subst e
      rw [z10, z11, z12 6 (by decide), z12 7 (by decide), z12 8 (by decide)]
      exact ⟨jk_up ka (by omega), jk_up kb (by omega), jk_m _, jk_m _, jk_m _⟩
    · rw [hP p (by omega)]
      obtain ⟨c4, c5, c6, c7, c8⟩ := r8.1 p (by omega)
      exact ⟨jk_up c4 (by omega), jk_up c5 (by omega), jk_up c6 (by omega), c7, jk_up c8 (by omega)⟩
  · rw [z0 _ (by omega) (by omega) (by omega) (by omega), z0 (4 * l + 3) (by omega) (by omega) (by omega) (by omega)]
    obtain ⟨c1, c2⟩ := r8.2 l hl
    exact ⟨jk_up c1 (by omega), fun i => jk_up (c2 i) (by omega)⟩
  · rw [z0 16 (by omega) (by omega) (by omega) (by omega)]; exact r9 l hl
theorem jnew_st (S : jSt n L h0 H y k m z) (hn : n < 40) (hv : v = 0 ∨ v = 1) (hpar : (a = -1 ∧ b = -1) ∨ ∃ x u, x < n ∧ u < n ∧ a = nI x ∧ b = nI u) (hz : jNw2 n z z' v t a b) (ht : -100 ≤ t.toInt ∧ t.toInt ≤ y)
    (hb : ∀ x, x < n → (a = nI x ∨ b = nI x) → (m 8 (9 * x + 1)).toInt + 16 ≤ t.toInt ∧ 0 ≤ t.toInt) (hs : ∀ x, x < n → (a = nI x → m 8 (9 * x) = 0) ∧ (b = nI x → m 8 (9 * x) = 1)) : ∃ k' m', F_X0_add v t a b k = some (nI n, k') ∧ jSt (n + 1) L h0 H y k' m' z' ∧ (∀ q, 6 ≤ q → q < 69 → k' q = k q) ∧ (∀ p w, p < n → w < 9 → m' 8 (9 * p + w) = m 8 (9 * p + w)) ∧ (∀ w, w < 9 → m' 8 (9 * n + w) = zSaid v t a b w) ∧ ∀ q, q ≠ 7 → q ≠ 8 → m' q = m q := by
  obtain ⟨hR, hX, hyk, h39, R, hE⟩ := S
  obtain ⟨k', m', a1, a2, a3, a4, a5, a6⟩ := ad_r (v := v) (t := t) (v1 := a) (v2 := b) hR hn hv hpar
  rw [pr_x hn hR.1.2.2.1] at a2
  have em : m' = kst (kst m 8 (va_cpy (zSaid v t a b) (m 8) 0 (9 * n) 9)) 7 (upd (m 7) 1 (nI (n + 1))) := (congrArg (fun o : (Int32 × kS) × Nat × Nat => o.1.2) (Option.some.inj a2)).symm
  have m8 : m' 8 = va_cpy (zSaid v t a b) (m 8) 0 (9 * n) 9 := by rw [em, kst_ne _ _ (by decide), kst_eq]
  have h8o : ∀ p w, p < n → w < 9 → m' 8 (9 * p + w) = m 8 (9 * p + w) := fun p w hp hw => by rw [m8, pk_cpy_out (by omega)]
  have h8n : ∀ w, w < 9 → m' 8 (9 * n + w) = zSaid v t a b w := fun w hw => by rw [m8, pk_cpy_in (by omega) (by omega)]; congr 1; omega
  have ka : jk n a := by
    rcases hpar with ⟨h, -⟩ | ⟨x, u, hx, hu, h, -⟩
    · rw [h]; exact jk_m n
    · rw [h]; exact jk_n hx
  have kb : jk n b := by
    rcases hpar with ⟨-, h⟩ | ⟨x, u, hx, hu, -, h⟩
    · rw [h]; exact jk_m n
    · rw [h]; exact jk_n hu
  obtain ⟨s0, s1, s2, s3, s4, s5, s6, s7, s8⟩ := zSaid_v (v := v) (t := t) (a := a) (b := b)
  have e0 : ∀ p, p < n → m' 8 (9 * p) = m 8 (9 * p) := fun p hp => h8o p 0 hp (by decide)
  have par : ∀ p, p < n → ∀ x, (m 8 (9 * p + 3) = nI x ∨ m 8 (9 * p + 4) = nI x) → x < 2 ^ 30 → x < n := by
    intro p hp x h hx
    rw [(hR.1.2.2.2.1 p hp).2.2.1, (hR.1.2.2.2.1 p hp).2.2.2] at h
    rcases hR.1.2.2.2.2.2.1 p hp with ⟨h1, h2⟩ | ⟨c, d, hc, hd, h1, h2⟩
    · rw [h1, h2] at h
      rcases h with h | h <;> exact absurd h.symm (pz_m1 (by omega))
    · rw [h1, h2] at h
      rcases h with h | h <;> rw [nI_eq (by omega) (by omega)] at h <;> omega
  have un : ∀ x u, x < n → u < n → k' (69 + x) u = k (69 + x) u := fun x u hx hu => zSteps_un (by omega) hR.1.2.2.2.2.2.2 a3.1.2.2.2.2.2.2 (by omega) (fun p hp => by
    have g := a3.1.2.2.2.1 p (by omega)
    have g0 := hR.1.2.2.2.1 p hp
    rw [← g.2.2.1, ← g.2.2.2, ← g0.2.2.1, ← g0.2.2.2]
    exact ⟨h8o p 3 hp (by decide), h8o p 4 hp (by decide)⟩) hx hu
  obtain ⟨x1, x2, x3, x4, x5, x6, x7⟩ := hE
  refine ⟨k', m', a1, ⟨a3, zXl_cg hR.2.2.1.1 hX (a4 17 (by decide) (by decide)) (a4 20 (by decide) (by decide)) (a4 21 (by decide) (by decide)) (fun l hl => a4 _ (by omega) (by omega)) (a6 9 (by decide) (by decide)) (a6 10 (by decide) (by decide)), by rw [a4 15 (by decide) (by decide)]; exact hyk, fun p hp => by rw [a4 39 (by decide) (by decide)]; exact h39 p hp, jR_new R hn hz ka kb h8o h8n a6, fun p hp => ?_, fun p x hp hx h => ?_, fun p x hp hx => ?_, fun p q hp hq e => ?_, fun p hp => ?_, fun l hl => by rw [a6 9 (by decide) (by decide), a6 10 (by decide) (by decide)]; exact x6 l hl, fun p hp => ?_⟩, a4, h8o, h8n, a6⟩
  · by_cases e : p = n
    · subst e; rw [h8n 1 (by decide), s1]; exact ht
    · rw [h8o p 1 (by omega) (by decide)]; exact x1 p (by omega)
  · by_cases e : p = n
    · subst e
      rw [h8n 3 (by decide), h8n 4 (by decide), s3, s4] at h
      have hxn : x < p := by
        rcases hpar with ⟨g1, g2⟩ | ⟨c, d, hc, hd, g1, g2⟩
        · rw [g1, g2] at h
          rcases h with h | h <;> exact absurd h.symm (pz_m1 (by omega))
        · rw [g1, g2] at h
          rcases h with h | h <;> rw [nI_eq (by omega) (by omega)] at h <;> omega
      rw [h8n 1 (by decide), s1, h8o x 1 hxn (by decide)]
      exact hb x hxn h
    · rw [h8o p 3 (by omega) (by decide), h8o p 4 (by omega) (by decide)] at h
      have hxn := par p (by omega) x h (by omega)
      rw [h8o p 1 (by omega) (by decide), h8o x 1 hxn (by decide)]
      exact x2 p x (by omega) hxn h
  · by_cases e : p = n
    · subst e
      rw [h8n 3 (by decide), h8n 4 (by decide), s3, s4]
      have hxn : a = nI x ∨ b = nI x → x < p := fun h => by
        rcases hpar with ⟨g1, g2⟩ | ⟨c, d, hc, hd, g1, g2⟩
        · rw [g1, g2] at h
          rcases h with h | h <;> exact absurd h.symm (pz_m1 (by omega))
        · rw [g1, g2] at h
          rcases h with h | h <;> rw [nI_eq (by omega) (by omega)] at h <;> omega
      exact ⟨fun h => by rw [e0 x (hxn (Or.inl h))]; exact (hs x (hxn (Or.inl h))).1 h, fun h => by rw [e0 x (hxn (Or.inr h))]; exact (hs x (hxn (Or.inr h))).2 h⟩
    · rw [h8o p 3 (by omega) (by decide), h8o p 4 (by omega) (by decide)]
      exact ⟨fun h => by
        have hxn := par p (by omega) x (Or.inl h) (by omega)
        rw [e0 x hxn]; exact (x3 p x (by omega) hxn).1 h, fun h => by
        have hxn := par p (by omega) x (Or.inr h) (by omega)
        rw [e0 x hxn]; exact (x3 p x (by omega) hxn).2 h⟩
  · by_cases e2 : p = n
    · subst e2
      rw [h8n 5 (by decide), s5] at e
      exact absurd e.symm (pz_m1 (by omega))
    · rw [h8o p 5 (by omega) (by decide)] at e
      have hqn : q < n := by
        rcases hR.2.2.2.1 p (by omega) with h | ⟨u, hu, h⟩
        · rw [h] at e; exact absurd e.symm (pz_m1 (by omega))
        · rw [h, nI_eq (by omega) (by omega)] at e; omega
      rw [h8o p 1 (by omega) (by decide), e0 p (by omega), e0 q hqn, un p q (by omega) hqn]
      exact x4 p q (by omega) hqn e
  · by_cases e : p = n
    · subst e
      rw [h8n 2 (by decide), h8n 6 (by decide), s2, s6]
      exact Or.inl ⟨rfl, rfl⟩
    · rw [h8o p 2 (by omega) (by decide), h8o p 6 (by omega) (by decide), h8o p 1 (by omega) (by decide)]
      exact x5 p (by omega)
  · by_cases e : p = n
    · subst e
      rw [h8n 7 (by decide), s7]; exact fun _ => rfl
    · rw [h8o p 5 (by omega) (by decide), h8o p 7 (by omega) (by decide)]; exact x7 p (by omega)
end ZS
