/-! THE LAW'S CHECKS OF A PERSON -/
def jGo {α : Type} (n L h0 H y : Nat) (m z : kS) (K : kS → Option (α × Nat × Nat)) (B : Nat) (o : Option (α × Nat × Nat)) : Prop := ∃ k' c s, o = kadd c s (K k') ∧ jSt n L h0 H y k' m z ∧ c ≤ 4 * B ∧ s ≤ 24 * B
def jmd (m : kS) (p : Nat) : Int32 := if m 8 (9 * p + 5) = -1 then 0 else 1
section ZS
variable {α : Type} {i j n L h0 H c p q w x r B B' y y' l ag Y s A U E N o : Nat} {k k1 k2 k' m m' z z' mc : kS} {v v1 v2 v3 h a b t gv d a3 a4 a12 a13 a14 a15 s0 : Int32} {f xs : Nat → Int32} {P : Nat → Int32} {K : kS → Option (α × Nat × Nat)} {oo : Option (α × Nat × Nat)} {c22 : Int32 → kS → kS → Option (Unit × Nat × Nat)} {c374 : Int32 → Int32 → Int32 → Int32 → Int32 → Int32 → Int32 → Int32 → kS → kS → Option (Unit × Nat × Nat)}
theorem jGo_0 (S : jSt n L h0 H y k m z) : jGo n L h0 H y m z K B (K k) := ⟨k, 0, 0, (pz_kadd0 _).symm, S, Nat.zero_le _, Nat.zero_le _⟩
theorem jGo_k (h : jGo n L h0 H y m z K B oo) : jGo n L h0 H y m z K (B + 1) (kadd 4 24 oo) := by
  obtain ⟨k', c, s, rfl, S, hc, hs⟩ := h
  exact ⟨k', 4 + c, 24 + s, pz_kadd 4 24 c s _, S, by omega, by omega⟩
theorem jGo_up (h : jGo n L h0 H y m z K B oo) (hB : B ≤ B') : jGo n L h0 H y m z K B' oo := by
  obtain ⟨k', c, s, e, S, hc, hs⟩ := h
  exact ⟨k', c, s, e, S, by omega, by omega⟩
/-! steps of kin -/
theorem zst_0 (hK : zKin n k m) (hp : p < n) : k (69 + p) p = 0 := by
  rcases hK.2.2.2.2.2.2 p p hp hp with ⟨-, h⟩ | ⟨x, d, e, p1, p2, p3, p4⟩
  · exact absurd (show zPath k 0 p p from rfl) (h p 0 0 rfl)
  · have := p4 p 0 0 rfl rfl
    rw [p3, show d + e = 0 by omega]; rfl
theorem zst_n0 (hK : zKin n k m) (hp : p < n) (hq : q < n) (hpq : p ≠ q) : k (69 + p) q ≠ 0 := by
  have hn := hK.1
  rcases hK.2.2.2.2.2.2 p q hp hq with ⟨h, -⟩ | ⟨x, d, e, p1, p2, p3, p4⟩
  · rw [h]; decide
  · have l1 := zPath_le p1
    have l2 := zPath_le p2
    rw [p3]
    refine nI_ne0 ?_ (by omega)
    rcases Nat.eq_zero_or_pos (d + e) with h | h
    · obtain rfl : d = 0 := by omega
      obtain rfl : e = 0 := by omega
      have e1 : p = x := p1
      have e2 : q = x := p2
      omega
    · exact h
theorem zst_sy (hK : zKin n k m) (hp : p < n) (hq : q < n) : k (69 + p) q = k (69 + q) p := by
  rcases hK.2.2.2.2.2.2 p q hp hq with ⟨h, h2⟩ | ⟨x, d, e, p1, p2, p3, p4⟩ <;> rcases hK.2.2.2.2.2.2 q p hq hp with ⟨g, g2⟩ | ⟨x', d', e', q1, q2, q3, q4⟩
  · rw [h, g]
  · exact absurd q1 (h2 x' e' d' q2)
  · exact absurd p1 (g2 x e d p2)
  · have := p4 x' e' d' q2 q1
    have := q4 x e d p2 p1
    rw [p3, q3, show d + e = d' + e' by omega]
theorem zst_1 {a : Nat} (hK : zKin n k m) (hp : p < n) (ha : a < p) (h : k 4 p = nI a ∨ k 5 p = nI a) : k (69 + p) a = 1 := by
  have pp : zPath k 1 p a := ⟨a, ha, h, rfl⟩
  rcases hK.2.2.2.2.2.2 p a hp (by omega) with ⟨-, h⟩ | ⟨x, d, e, p1, p2, p3, p4⟩
  · exact absurd (show zPath k 0 a a from rfl) (h a 1 0 pp)
  · have := p4 a 1 0 pp rfl
    have n0 : d + e ≠ 0 := fun h => by
      obtain rfl : d = 0 := by omega
      obtain rfl : e = 0 := by omega
      have e1 : p = x := p1
      have e2 : a = x := p2
      omega
    rw [p3, show d + e = 1 by omega]; rfl
theorem zst_m {a : Nat} (hK : zKin n k m) (hp : p < n) (ho : o < n) (ha : a < p) (h : k 4 p = nI a) : k (69 + a) o = -1 ∨ ∃ t u, t ≤ 80 ∧ k (69 + a) o = nI t ∧ k (69 + p) o = nI u ∧ u ≤ t + 1 := by
  have hn := hK.1
  rcases hK.2.2.2.2.2.2 a o (by omega) ho with ⟨g, -⟩ | ⟨x, d, e, p1, p2, p3, p4⟩
  · exact Or.inl g
  · have l1 := zPath_le p1
    have l2 := zPath_le p2
    have pp : zPath k (d + 1) p x := ⟨a, ha, Or.inl h, p1⟩
    rcases hK.2.2.2.2.2.2 p o hp ho with ⟨-, g⟩ | ⟨x', d', e', q1, q2, q3, q4⟩
    · exact absurd p2 (g x (d + 1) e pp)
    · have := q4 x (d + 1) e pp p2
      exact Or.inr ⟨d + e, d' + e', by omega, p3, q3, by omega⟩
theorem zst_v (hK : zKin n k m) (hp : p < n) (ho : o < n) : k (69 + p) o = -1 ∨ ∃ t, t ≤ 80 ∧ k (69 + p) o = nI t := by
  have hn := hK.1
  rcases hK.2.2.2.2.2.2 p o hp ho with ⟨g, -⟩ | ⟨x, d, e, p1, p2, p3, p4⟩
  · exact Or.inl g
  · have l1 := zPath_le p1
    have l2 := zPath_le p2
    exact Or.inr ⟨d + e, by omega, p3⟩
/-! the checks, from the last to the first -/
theorem lp_901 (S : jSt n L h0 H y k m z) (hp : p < n) (hy : y < 2 ^ 27) (hh : h0 + 12 * jAl n m + 12 * 41 + 13 < 4000) (hH : H < 2 ^ 28) : jGo n L h0 H y m z (fun k => F_L_law_917 xs N c22 c374 a3 a4 (nI n) a12 a13 a14 a15 (nI p) k z) 1 (F_L_law_901 xs N c22 c374 a3 a4 (nI n) a12 a13 a14 a15 (nI p) (m 8 (9 * p + 2)) k z) := by
  rcases S.1.2.1 p hp with ⟨l1, l2⟩ | ⟨l1, l2⟩
  · simp only [F_L_law_901, l2, pz_10, if_false]
    exact jGo_0 S
  · obtain ⟨g, k1, e, S', -, -, r3⟩ := rd_rs S hy hp (by rw [jSt_al S]; exact hh) hH
    rw [r3 l2] at e
    have e0 : F_L_law_901 xs N c22 c374 a3 a4 (nI n) a12 a13 a14 a15 (nI p) (m 8 (9 * p + 2)) k z = kadd 4 24 (F_L_law_917 xs N c22 c374 a3 a4 (nI n) a12 a13 a14 a15 (nI p) k1 z) := by
      simp only [F_L_law_901, l2, pz_00, if_true, F_L_law_906, e, pz_bind, pz_nz, not_true_eq_false, if_false, pz_mn]
    rw [e0]
    exact jGo_k (jGo_0 S')
theorem lp_882 (S : jSt n L h0 H y k m z) (hp : p < n) (hy : y < 2 ^ 27) (hh : h0 + 12 * jAl n m + 12 * 41 + 13 < 4000) (hH : H < 2 ^ 28) (h1 : zcnt (fun l => m 9 (4 * l + 2) = nI p) L ≠ 0 → s0 = 1) (h2 : zcnt (fun l => m 9 (4 * l + 2) = nI p) L = 0 → s0 = 0) : jGo n L h0 H y m z (fun k => F_L_law_917 xs N c22 c374 a3 a4 (nI n) a12 a13 a14 a15 (nI p) k z) 2 (F_L_law_882 xs N c22 c374 s0 a3 a4 (nI n) a12 a13 a14 a15 (nI p) (m 8 (9 * p + 2)) k z) := by
  have hL := S.1.2.2.1.1
  have zl := zcnt_le (fun l => m 9 (4 * l + 2) = nI p) L
  have c0 := nI_le0 (c := zcnt (fun l => m 9 (4 * l + 2) = nI p) L) (by omega)
  have g := lp_901 (a3 := a3) (a4 := a4) (a12 := a12) (a13 := a13) (a14 := a14) (a15 := a15) (xs := xs) (N := N) (c22 := c22) (c374 := c374) S hp hy hh hH
  by_cases hc : zcnt (fun l => m 9 (4 * l + 2) = nI p) L = 0
  · have e0 : F_L_law_882 xs N c22 c374 s0 a3 a4 (nI n) a12 a13 a14 a15 (nI p) (m 8 (9 * p + 2)) k z = kadd 4 24 (F_L_law_901 xs N c22 c374 a3 a4 (nI n) a12 a13 a14 a15 (nI p) (m 8 (9 * p + 2)) k z) := by
      simp only [F_L_law_882, rd_p7 S hp, pz_bind, pz_nz, not_true_eq_false, if_false, c0, if_pos hc, F_L_law_897, F_L_law_898, h2 hc, if_true]
    rw [e0]; exact jGo_k g
  · have e0 : F_L_law_882 xs N c22 c374 s0 a3 a4 (nI n) a12 a13 a14 a15 (nI p) (m 8 (9 * p + 2)) k z = kadd 4 24 (F_L_law_901 xs N c22 c374 a3 a4 (nI n) a12 a13 a14 a15 (nI p) (m 8 (9 * p + 2)) k z) := by
      simp only [F_L_law_882, rd_p7 S hp, pz_bind, pz_nz, not_true_eq_false, if_false, c0, if_neg hc, F_L_law_893, F_L_law_898, h1 hc, if_true]
    rw [e0]; exact jGo_k g
theorem lp_868 (S : jSt n L h0 H y k m z) (hp : p < n) (hy : y < 2 ^ 27) (hh : h0 + 12 * jAl n m + 12 * 41 + 13 < 4000) (hH : H < 2 ^ 28) : jGo n L h0 H y m z (fun k => F_L_law_917 xs N c22 c374 a3 a4 (nI n) a12 a13 a14 a15 (nI p) k z) 3 (F_L_law_868 xs N c22 c374 a3 a4 (nI n) a12 a13 a14 a15 (nI p) (m 8 (9 * p + 2)) k z) := by
  obtain ⟨g, k1, e, S', r1, r2, -⟩ := rd_rs S hy hp (by rw [jSt_al S]; exact hh) hH
  by_cases hc : zcnt (fun l => m 9 (4 * l + 2) = nI p) L = 0
  · have e0 : F_L_law_868 xs N c22 c374 a3 a4 (nI n) a12 a13 a14 a15 (nI p) (m 8 (9 * p + 2)) k z = kadd 4 24 (F_L_law_882 xs N c22 c374 0 a3 a4 (nI n) a12 a13 a14 a15 (nI p) (m 8 (9 * p + 2)) k1 z) := by
      simp only [F_L_law_868, e, pz_bind, pz_nz, not_true_eq_false, if_false, if_neg (r2 hc), F_L_law_881]
    rw [e0]; exact jGo_k (lp_882 S' hp hy hh hH (fun q => absurd hc q) (fun _ => rfl))
  · have e0 : F_L_law_868 xs N c22 c374 a3 a4 (nI n) a12 a13 a14 a15 (nI p) (m 8 (9 * p + 2)) k z = kadd 4 24 (F_L_law_882 xs N c22 c374 1 a3 a4 (nI n) a12 a13 a14 a15 (nI p) (m 8 (9 * p + 2)) k1 z) := by
      simp only [F_L_law_868, e, pz_bind, pz_nz, not_true_eq_false, if_false, if_pos (r1 hc), F_L_law_877]
    rw [e0]; exact jGo_k (lp_882 S' hp hy hh hH (fun _ => rfl) (fun q => absurd q hc))
theorem lp_805 (S : jSt n L h0 H y k m z) (hp : p < n) (hy : y < 2 ^ 27) (hh : h0 + 12 * jAl n m + 12 * 41 + 13 < 4000) (hH : H < 2 ^ 28) : jGo n L h0 H y m z (fun k => F_L_law_917 xs N c22 c374 a3 a4 (nI n) a12 a13 a14 a15 (nI p) k z) 8 (F_L_law_805 xs N c22 c374 a3 a4 (nI n) a12 a13 a14 a15 (nI p) (m 8 (9 * p + 2)) (m 8 (9 * p + 5)) k z) := by
  have hn := S.1.1.1
  have fin := lp_868 (a3 := a3) (a4 := a4) (a12 := a12) (a13 := a13) (a14 := a14) (a15 := a15) (xs := xs) (N := N) (c22 := c22) (c374 := c374) S hp hy hh hH
  obtain ⟨g, e, rfl | ⟨q, hq, rfl, ⟨fa, fb, fc, -⟩⟩⟩ := rd_be S (by omega) hp
  · have e0 : F_L_law_805 xs N c22 c374 a3 a4 (nI n) a12 a13 a14 a15 (nI p) (m 8 (9 * p + 2)) (m 8 (9 * p + 5)) k z = kadd 4 24 (F_L_law_868 xs N c22 c374 a3 a4 (nI n) a12 a13 a14 a15 (nI p) (m 8 (9 * p + 2)) k z) := by
      simp only [F_L_law_805, e, pz_bind, pz_nz, not_true_eq_false, if_false, pz_mn, if_true]
    rw [e0]; exact jGo_up (jGo_k fin) (by omega)
  · have w5 : m 8 (9 * p + 5) = -1 := (jSt_k24 S hp).trans fa.2.1
    have q5 : m 8 (9 * q + 5) = -1 := (jSt_k24 S hq).trans fb.2.1
    have c1 : ((0 : Int32) ≤ -1) = False := eq_false (by decide)
    have p2 : m 8 (9 * p + 2) = 1 := by
      rcases S.1.2.1 p hp with ⟨-, h⟩ | ⟨h, -⟩
      · exact h
      · exact absurd fa.1 h
    have q2 : m 8 (9 * q + 2) = 1 := by
      rcases S.1.2.1 q hq with ⟨-, h⟩ | ⟨h, -⟩
      · exact h
      · exact absurd fb.1 h
    have sx : (m 8 (9 * q) = m 8 (9 * p)) = False := eq_false (fun h => fc (by rw [← jSt_k2 S hp, ← jSt_k2 S hq, h]))
    have e0 : F_L_law_805 xs N c22 c374 a3 a4 (nI n) a12 a13 a14 a15 (nI p) (m 8 (9 * p + 2)) (m 8 (9 * p + 5)) k z = kadd 4 24 (kadd 4 24 (kadd 4 24 (kadd 4 24 (kadd 4 24 (F_L_law_868 xs N c22 c374 a3 a4 (nI n) a12 a13 a14 a15 (nI p) (m 8 (9 * p + 2)) k z))))) := by
      simp only [F_L_law_805, e, pz_bind, pz_nz, not_true_eq_false, if_false, jR_ng S.2.2.2.2.1 hq, F_L_law_818, w5, c1, F_L_law_823, p2, pz_10, F_L_law_828, rd_p5 S hq, q5, F_L_law_838, rd_p2 S hq, q2, if_true, F_L_law_849, rd_p0 S hq, rd_p0 S hp, sx]
    rw [e0]; exact jGo_k (jGo_k (jGo_k (jGo_k (jGo_k fin))))
theorem lp_760 (S : jSt n L h0 H y k m z) (hp : p < n) (hy : y < 2 ^ 27) (hh : h0 + 12 * jAl n m + 12 * 41 + 13 < 4000) (hH : H < 2 ^ 28) (ho : o < n) : jGo n L h0 H y m z (fun k => F_L_law_917 xs N c22 c374 a3 a4 (nI n) a12 a13 a14 a15 (nI p) k z) 10 (F_L_law_760 xs N c22 c374 a3 a4 (nI n) a12 a13 a14 a15 (nI p) (m 8 (9 * p + 2)) (m 8 (9 * p + 5)) (m 8 (9 * p + 3)) (nI o) (k (69 + p) o) k z) := by
  have hn := S.1.1.1
  have hK := S.1.1
  have R := S.2.2.2.2.1
  have fin := lp_805 (a3 := a3) (a4 := a4) (a12 := a12) (a13 := a13) (a14 := a14) (a15 := a15) (xs := xs) (N := N) (c22 := c22) (c374 := c374) S hp hy hh hH
  have e3 := (hK.2.2.2.1 p hp).2.2.1
  rcases hK.2.2.2.2.2.1 p hp with ⟨h4, -⟩ | ⟨a, b, ha, hb, h4, h5⟩
  · rw [e3, h4]
    simp only [F_L_law_760, pz_mn, if_true]
    exact jGo_up fin (by omega)
  · have han : a < n := by omega
    rw [e3, h4]
    rcases zst_m hK hp ho ha h4 with g | ⟨t, u, ht, g1, g2, g3⟩
    · have e0 : F_L_law_760 xs N c22 c374 a3 a4 (nI n) a12 a13 a14 a15 (nI p) (m 8 (9 * p + 2)) (m 8 (9 * p + 5)) (nI a) (nI o) (k (69 + p) o) k z = kadd 4 24 (F_L_law_805 xs N c22 c374 a3 a4 (nI n) a12 a13 a14 a15 (nI p) (m 8 (9 * p + 2)) (m 8 (9 * p + 5)) k z) := by
        simp only [F_L_law_760, jR_ng R han, if_false, F_L_law_765, rd_re S han ho, pz_bind, pz_nz, not_true_eq_false, g, pz_mn, if_true]
      rw [e0]; exact jGo_up (jGo_k fin) (by omega)
    · by_cases hop : o = p
      · have eq : (nI o = nI p) = True := eq_true (by rw [hop])
        have e0 : F_L_law_760 xs N c22 c374 a3 a4 (nI n) a12 a13 a14 a15 (nI p) (m 8 (9 * p + 2)) (m 8 (9 * p + 5)) (nI a) (nI o) (k (69 + p) o) k z = kadd 4 24 (F_L_law_805 xs N c22 c374 a3 a4 (nI n) a12 a13 a14 a15 (nI p) (m 8 (9 * p + 2)) (m 8 (9 * p + 5)) k z) := by
          simp only [F_L_law_760, jR_ng R han, if_false, F_L_law_765, rd_re S han ho, pz_bind, pz_nz, not_true_eq_false, g1, pz_n0 (show t < 2 ^ 31 by omega), F_L_law_776, eq, if_true]
        rw [e0]; exact jGo_up (jGo_k fin) (by omega)
      · have ne : (nI o = nI p) = False := by rw [pz_eq (by omega) (by omega)]; exact eq_false hop
        have le : (nI u ≤ nI t + 1) = True := by rw [nI_1, pz_le (by omega) (by omega)]; exact eq_true g3
        have e0 : F_L_law_760 xs N c22 c374 a3 a4 (nI n) a12 a13 a14 a15 (nI p) (m 8 (9 * p + 2)) (m 8 (9 * p + 5)) (nI a) (nI o) (k (69 + p) o) k z = kadd 4 24 (kadd 4 24 (F_L_law_805 xs N c22 c374 a3 a4 (nI n) a12 a13 a14 a15 (nI p) (m 8 (9 * p + 2)) (m 8 (9 * p + 5)) k z)) := by
          simp only [F_L_law_760, jR_ng R han, if_false, F_L_law_765, rd_re S han ho, pz_bind, pz_nz, not_true_eq_false, g1, g2, pz_n0 (show t < 2 ^ 31 by omega), pz_n0 (show u < 2 ^ 31 by omega), F_L_law_776, ne, F_L_law_783, F_L_law_788, le, if_true]
        rw [e0]; exact jGo_k (jGo_k fin)
theorem lp_694 (S : jSt n L h0 H y k m z) (hp : p < n) (hy : y < 2 ^ 27) (hh : h0 + 12 * jAl n m + 12 * 41 + 13 < 4000) (hH : H < 2 ^ 28) : jGo n L h0 H y m z (fun k => F_L_law_917 xs N c22 c374 a3 a4 (nI n) a12 a13 a14 a15 (nI p) k z) 12 (F_L_law_694 xs N c22 c374 a3 a4 (nI n) a12 a13 a14 a15 (nI p) (m 8 (9 * p + 2)) (m 8 (9 * p + 5)) (m 8 (9 * p + 3)) k z) := by
  have hn := S.1.1.1
  have hK := S.1.1
  obtain ⟨o, ho, eo⟩ := jbl_x (d := n) ((a4 >>> (2 &&& 31)) + (5 * nI p)) (by omega) (by omega)
  have fin := lp_760 (a3 := a3) (a4 := a4) (a12 := a12) (a13 := a13) (a14 := a14) (a15 := a15) (xs := xs) (N := N) (c22 := c22) (c374 := c374) S hp hy hh hH ho
  have sy : (k (69 + p) o = k (69 + o) p) = True := eq_true (zst_sy hK hp ho)
  by_cases hop : p = o
  · have z0 : (k (69 + p) o = 0) = True := by rw [← hop]; exact eq_true (zst_0 hK hp)
    have eq : (nI p = nI o) = True := eq_true (by rw [hop])
    have e0 : F_L_law_694 xs N c22 c374 a3 a4 (nI n) a12 a13 a14 a15 (nI p) (m 8 (9 * p + 2)) (m 8 (9 * p + 5)) (m 8 (9 * p + 3)) k z = kadd 4 24 (kadd 4 24 (F_L_law_760 xs N c22 c374 a3 a4 (nI n) a12 a13 a14 a15 (nI p) (m 8 (9 * p + 2)) (m 8 (9 * p + 5)) (m 8 (9 * p + 3)) (nI o) (k (69 + p) o) k z)) := by
      simp only [F_L_law_694, eo, pz_bind, rd_re S hp ho, rd_re S ho hp, pz_nz, not_true_eq_false, if_false, sy, if_true, F_L_law_733, z0, F_L_law_738, F_L_law_743, eq, F_L_law_750, F_L_law_755]
    rw [e0]; exact jGo_k (jGo_k fin)
  · have z0 : (k (69 + p) o = 0) = False := eq_false (zst_n0 hK hp ho hop)
    have eq : (nI p = nI o) = False := by rw [pz_eq (by omega) (by omega)]; exact eq_false hop
    have e0 : F_L_law_694 xs N c22 c374 a3 a4 (nI n) a12 a13 a14 a15 (nI p) (m 8 (9 * p + 2)) (m 8 (9 * p + 5)) (m 8 (9 * p + 3)) k z = kadd 4 24 (kadd 4 24 (F_L_law_760 xs N c22 c374 a3 a4 (nI n) a12 a13 a14 a15 (nI p) (m 8 (9 * p + 2)) (m 8 (9 * p + 5)) (m 8 (9 * p + 3)) (nI o) (k (69 + p) o) k z)) := by
      simp only [F_L_law_694, eo, pz_bind, rd_re S hp ho, rd_re S ho hp, pz_nz, not_true_eq_false, if_false, sy, if_true, F_L_law_733, z0, F_L_law_742, F_L_law_743, eq, F_L_law_754, F_L_law_755]
    rw [e0]; exact jGo_k (jGo_k fin)
theorem lp_603 (S : jSt n L h0 H y k m z) (hp : p < n) (hy : y < 2 ^ 27) (hh : h0 + 12 * jAl n m + 12 * 41 + 13 < 4000) (hH : H < 2 ^ 28) : jGo n L h0 H y m z (fun k => F_L_law_917 xs N c22 c374 a3 a4 (nI n) a12 a13 a14 a15 (nI p) k z) 16 (F_L_law_603 xs N c22 c374 a3 a4 (nI n) a12 a13 a14 a15 (nI p) (m 8 (9 * p + 2)) (m 8 (9 * p + 5)) (m 8 (9 * p + 3)) (m 8 (9 * p + 4)) k z) := by
  have hn := S.1.1.1
  have hK := S.1.1
  have R := S.2.2.2.2.1
  have fin := lp_694 (a3 := a3) (a4 := a4) (a12 := a12) (a13 := a13) (a14 := a14) (a15 := a15) (xs := xs) (N := N) (c22 := c22) (c374 := c374) S hp hy hh hH
  have e3 := (hK.2.2.2.1 p hp).2.2.1
  have e4 := (hK.2.2.2.1 p hp).2.2.2
  rcases hK.2.2.2.2.2.1 p hp with ⟨h4, h5⟩ | ⟨a, b, ha, hb, h4, h5⟩
  · rw [e3, h4] at fin
    rw [e3, e4, h4, h5]
    simp only [F_L_law_603, pz_mn, if_true, F_L_law_612, F_L_law_613, F_L_law_622, F_L_law_623, F_L_law_628]
    exact jGo_up fin (by omega)
  · have han : a < n := by omega
    have hbn : b < n := by omega
    obtain ⟨x3, x4⟩ := S.2.2.2.2.2.2.2.1 p a hp han
    obtain ⟨y3, y4⟩ := S.2.2.2.2.2.2.2.1 p b hp hbn
    have sa := x3 (e3.trans h4)
    have sb := y4 (e4.trans h5)
    have la : (nI p ≤ nI a) = False := by rw [pz_le (by omega) (by omega)]; exact eq_false (by omega)
    have lb : (nI p ≤ nI b) = False := by rw [pz_le (by omega) (by omega)]; exact eq_false (by omega)
    have ra := zst_1 hK hp ha (Or.inl h4)
    have rb := zst_1 hK hp hb (Or.inr h5)
    rw [zst_sy hK hp hbn] at rb
    rw [e3, h4] at fin
    rw [e3, e4, h4, h5]
    have e0 : F_L_law_603 xs N c22 c374 a3 a4 (nI n) a12 a13 a14 a15 (nI p) (m 8 (9 * p + 2)) (m 8 (9 * p + 5)) (nI a) (nI b) k z = kadd 4 24 (kadd 4 24 (kadd 4 24 (kadd 4 24 (F_L_law_694 xs N c22 c374 a3 a4 (nI n) a12 a13 a14 a15 (nI p) (m 8 (9 * p + 2)) (m 8 (9 * p + 5)) (nI a) k z)))) := by
      simp only [F_L_law_603, jR_ng R han, jR_ng R hbn, if_false, F_L_law_608, F_L_law_613, F_L_law_618, F_L_law_623, if_true, F_L_law_628, F_L_law_633, la, F_L_law_640, lb, F_L_law_647, rd_p0 S han, pz_bind, pz_nz, not_true_eq_false, sa, F_L_law_657, rd_p0 S hbn, sb, F_L_law_668, rd_re S hp han, ra, F_L_law_680, rd_re S hbn hp, rb]
    rw [e0]; exact jGo_k (jGo_k (jGo_k (jGo_k fin)))
theorem lp_576 (S : jSt n L h0 H y k m z) (hp : p < n) (hy : y < 2 ^ 27) (hh : h0 + 12 * jAl n m + 12 * 41 + 13 < 4000) (hH : H < 2 ^ 28) : jGo n L h0 H y m z (fun k => F_L_law_917 xs N c22 c374 a3 a4 (nI n) a12 a13 a14 a15 (nI p) k z) 17 (F_L_law_576 xs N c22 c374 a3 a4 (nI n) a12 a13 a14 a15 (nI p) (m 8 (9 * p + 2)) (m 8 (9 * p + 5)) (m 8 (9 * p + 3)) (m 8 (9 * p + 4)) k z) := by
  have fin := lp_603 (a3 := a3) (a4 := a4) (a12 := a12) (a13 := a13) (a14 := a14) (a15 := a15) (xs := xs) (N := N) (c22 := c22) (c374 := c374) S hp hy hh hH
  have e0 : F_L_law_576 xs N c22 c374 a3 a4 (nI n) a12 a13 a14 a15 (nI p) (m 8 (9 * p + 2)) (m 8 (9 * p + 5)) (m 8 (9 * p + 3)) (m 8 (9 * p + 4)) k z = kadd 4 24 (F_L_law_603 xs N c22 c374 a3 a4 (nI n) a12 a13 a14 a15 (nI p) (m 8 (9 * p + 2)) (m 8 (9 * p + 5)) (m 8 (9 * p + 3)) (m 8 (9 * p + 4)) k z) := by
    rcases S.2.2.2.2.2.2.2.2.2.1 p hp with ⟨x1, x2⟩ | ⟨x1, t, ht, x2, -⟩
    · simp only [F_L_law_576, rd_p9 S hp, pz_bind, pz_nz, not_true_eq_false, if_false, x2, if_true, F_L_law_590, x1, pz_10, F_L_law_595, F_L_law_600]
    · simp only [F_L_law_576, rd_p9 S hp, pz_bind, pz_nz, not_true_eq_false, if_false, x2, pz_m1' (show t < 2 ^ 31 by omega), F_L_law_599, x1, F_L_law_600, if_true]
  rw [e0]; exact jGo_k fin
theorem lp_542 (S : jSt n L h0 H y k m z) (hp : p < n) (hy : y < 2 ^ 27) (hh : h0 + 12 * jAl n m + 12 * 41 + 13 < 4000) (hH : H < 2 ^ 28) : jGo n L h0 H y m z (fun k => F_L_law_917 xs N c22 c374 a3 a4 (nI n) a12 a13 a14 a15 (nI p) k z) 20 (F_L_law_542 xs N c22 c374 a3 a4 (nI n) a12 a13 a14 a15 (nI p) (m 8 (9 * p + 2)) (m 8 (9 * p + 5)) (m 8 (9 * p + 3)) (m 8 (9 * p + 4)) k z) := by
  have hn := S.1.1.1
  have fin := lp_576 (a3 := a3) (a4 := a4) (a12 := a12) (a13 := a13) (a14 := a14) (a15 := a15) (xs := xs) (N := N) (c22 := c22) (c374 := c374) S hp hy hh hH
  rcases S.2.2.2.2.2.2.2.2.2.1 p hp with ⟨x1, x2⟩ | ⟨x1, t, ht, x2, x3⟩
  · have e0 : F_L_law_542 xs N c22 c374 a3 a4 (nI n) a12 a13 a14 a15 (nI p) (m 8 (9 * p + 2)) (m 8 (9 * p + 5)) (m 8 (9 * p + 3)) (m 8 (9 * p + 4)) k z = F_L_law_576 xs N c22 c374 a3 a4 (nI n) a12 a13 a14 a15 (nI p) (m 8 (9 * p + 2)) (m 8 (9 * p + 5)) (m 8 (9 * p + 3)) (m 8 (9 * p + 4)) k z := by
      simp only [F_L_law_542, x1, pz_10, if_false]
    rw [e0]; exact jGo_up fin (by omega)
  · have no : zcnt (fun l => m 9 (4 * l + 2) = nI p) L = 0 := zcnt_none (fun l hl e => by
      rcases jSt_rl S hl with g | ⟨q, q1, q2, q3⟩
      · rw [e] at g; exact pz_m1 (by omega) g
      · rw [e, nI_eq (by omega) (by omega)] at q2
        subst q2
        rcases S.1.2.1 p hp with ⟨-, g⟩ | ⟨g, -⟩
        · rw [x1] at g; exact absurd g (by decide)
        · exact g q3)
    have r7 := rd_p7 S hp
    rw [no] at r7
    have c0 : (nI 0 = 0) = True := eq_true rfl
    have lt : (nI t < m 8 (9 * p + 1)) = False := eq_false (fun g => by
      rw [Int32.lt_iff_toInt_lt, nI_toInt (by omega)] at g
      omega)
    have e0 : F_L_law_542 xs N c22 c374 a3 a4 (nI n) a12 a13 a14 a15 (nI p) (m 8 (9 * p + 2)) (m 8 (9 * p + 5)) (m 8 (9 * p + 3)) (m 8 (9 * p + 4)) k z = kadd 4 24 (kadd 4 24 (kadd 4 24 (F_L_law_576 xs N c22 c374 a3 a4 (nI n) a12 a13 a14 a15 (nI p) (m 8 (9 * p + 2)) (m 8 (9 * p + 5)) (m 8 (9 * p + 3)) (m 8 (9 * p + 4)) k z))) := by
      simp only [F_L_law_542, x1, if_true, F_L_law_547, r7, pz_bind, pz_nz, not_true_eq_false, if_false, c0, F_L_law_558, rd_p9 S hp, rd_p1 S hp, x2, lt]
    rw [e0]; exact jGo_k (jGo_k (jGo_k fin))
theorem lp_474 (S : jSt n L h0 H y k m z) (hp : p < n) (hy : y < 2 ^ 27) (hh : h0 + 12 * jAl n m + 12 * 41 + 13 < 4000) (hH : H < 2 ^ 28) (hq : q < n) (hw : m 8 (9 * p + 5) = nI q) : jGo n L h0 H y m z (fun k => F_L_law_917 xs N c22 c374 a3 a4 (nI n) a12 a13 a14 a15 (nI p) k z) 26 (F_L_law_474 xs N c22 c374 a3 a4 (nI n) a12 a13 a14 a15 (nI p) (m 8 (9 * p + 2)) (m 8 (9 * p + 5)) (m 8 (9 * p + 3)) (m 8 (9 * p + 4)) k z) := by
  have hn := S.1.1.1
  have fin := lp_542 (a3 := a3) (a4 := a4) (a12 := a12) (a13 := a13) (a14 := a14) (a15 := a15) (xs := xs) (N := N) (c22 := c22) (c374 := c374) S hp hy hh hH
  have hM := (S.1.2.2.2.2.2.1 rfl).2
  have k24 : k 24 p = nI q := (jSt_k24 S hp).symm.trans hw
  obtain ⟨q', hq', -, b1, b2⟩ : ∃ q', q' < n ∧ q' ≠ p ∧ k 24 p = nI q' ∧ k 24 q' = nI p := by
    rcases (S.1.2.2.2.2.2.1 rfl).1.2.2 p hp with ⟨h, -⟩ | ⟨q', g1, g2, g3, g4, -⟩
    · rw [k24] at h; exact absurd h (pz_m1 (by omega))
    · exact ⟨q', g1, g2, g3, g4⟩
  obtain rfl : q = q' := by
    rw [k24, nI_eq (by omega) (by omega)] at b1
    exact b1
  have alive : ∀ x, x < n → k 24 x ≠ -1 → m 8 (9 * x + 2) = 1 := fun x hx hx2 => by
    rcases S.1.2.1 x hx with ⟨-, h⟩ | ⟨h, -⟩
    · exact h
    · exact absurd (hM x hx hx2) h
  have p2 := alive p hp (by rw [k24]; exact pz_m1 (by omega))
  have q2 := alive q hq (by rw [b2]; exact pz_m1 (by omega))
  have q5 : m 8 (9 * q + 5) = nI p := (jSt_k24 S hq).trans b2
  obtain ⟨-, sx, rel⟩ := S.2.2.2.2.2.2.2.2.1 p q hp hq hw
  have sx : (m 8 (9 * q) = m 8 (9 * p)) = False := eq_false (fun h => sx h.symm)
  rcases rel with g | ⟨t, t3, t80, g⟩
  · have e0 : F_L_law_474 xs N c22 c374 a3 a4 (nI n) a12 a13 a14 a15 (nI p) (m 8 (9 * p + 2)) (m 8 (9 * p + 5)) (m 8 (9 * p + 3)) (m 8 (9 * p + 4)) k z = kadd 4 24 (kadd 4 24 (kadd 4 24 (kadd 4 24 (kadd 4 24 (F_L_law_542 xs N c22 c374 a3 a4 (nI n) a12 a13 a14 a15 (nI p) (m 8 (9 * p + 2)) (m 8 (9 * p + 5)) (m 8 (9 * p + 3)) (m 8 (9 * p + 4)) k z))))) := by
      simp only [F_L_law_474, p2, pz_10, if_false, F_L_law_479, hw, rd_p5 S hq, q5, pz_bind, pz_nz, not_true_eq_false, if_true, F_L_law_491, rd_p2 S hq, q2, F_L_law_502, rd_p0 S hq, rd_p0 S hp, sx, F_L_law_519, rd_re S hp hq, g, pz_mn]
    rw [e0]; exact jGo_up (jGo_k (jGo_k (jGo_k (jGo_k (jGo_k fin))))) (by omega)
  · have l3 : (nI t < 3) = False := eq_false (nI_nlt (b := 3) t3 (by omega))
    have e0 : F_L_law_474 xs N c22 c374 a3 a4 (nI n) a12 a13 a14 a15 (nI p) (m 8 (9 * p + 2)) (m 8 (9 * p + 5)) (m 8 (9 * p + 3)) (m 8 (9 * p + 4)) k z = kadd 4 24 (kadd 4 24 (kadd 4 24 (kadd 4 24 (kadd 4 24 (kadd 4 24 (F_L_law_542 xs N c22 c374 a3 a4 (nI n) a12 a13 a14 a15 (nI p) (m 8 (9 * p + 2)) (m 8 (9 * p + 5)) (m 8 (9 * p + 3)) (m 8 (9 * p + 4)) k z)))))) := by
      simp only [F_L_law_474, p2, pz_10, if_false, F_L_law_479, hw, rd_p5 S hq, q5, pz_bind, pz_nz, not_true_eq_false, if_true, F_L_law_491, rd_p2 S hq, q2, F_L_law_502, rd_p0 S hq, rd_p0 S hp, sx, F_L_law_519, rd_re S hp hq, g, pz_n0 (show t < 2 ^ 31 by omega), F_L_law_530, l3]
    rw [e0]; exact jGo_k (jGo_k (jGo_k (jGo_k (jGo_k (jGo_k fin)))))
theorem lp_453 (S : jSt n L h0 H y k m z) (hp : p < n) (hy : y < 2 ^ 27) (hh : h0 + 12 * jAl n m + 12 * 41 + 13 < 4000) (hH : H < 2 ^ 28) : jGo n L h0 H y m z (fun k => F_L_law_917 xs N c22 c374 a3 a4 (nI n) a12 (a13 + jmd m p) (a14 + nI (zws m (nI p) L)) a15 (nI p) k z) 27 (F_L_law_453 xs N c22 c374 a13 (jmd m p) a3 a4 (nI n) a12 a14 a15 (nI p) (m 8 (9 * p + 2)) (m 8 (9 * p + 5)) (m 8 (9 * p + 3)) (m 8 (9 * p + 4)) k z) := by
  have hn := S.1.1.1
  rcases jSt_w S hp with h | ⟨q, hq, -, h⟩
  · have fin := lp_542 (a3 := a3) (a4 := a4) (a12 := a12) (a13 := a13 + jmd m p) (a14 := a14 + nI (zws m (nI p) L)) (a15 := a15) (xs := xs) (N := N) (c22 := c22) (c374 := c374) S hp hy hh hH
    rw [h] at fin
    rw [h]
    simp only [F_L_law_453, rd_p8 S hp, pz_bind, pz_nz, not_true_eq_false, if_false, pz_mn, if_true]
    exact jGo_up (jGo_k fin) (by omega)
  · have fin := lp_474 (a3 := a3) (a4 := a4) (a12 := a12) (a13 := a13 + jmd m p) (a14 := a14 + nI (zws m (nI p) L)) (a15 := a15) (xs := xs) (N := N) (c22 := c22) (c374 := c374) S hp hy hh hH hq h
    rw [h] at fin
    rw [h]
    simp only [F_L_law_453, rd_p8 S hp, pz_bind, pz_nz, not_true_eq_false, if_false, jR_ng S.2.2.2.2.1 hq]
    exact jGo_k fin
theorem lp_381 (S : jSt n L h0 H y k m z) (hp : p < n) (hy : y < 2 ^ 27) (hh : h0 + 12 * jAl n m + 12 * 41 + 13 < 4000) (hH : H < 2 ^ 28) : jGo n L h0 H y m z (fun k => F_L_law_917 xs N c22 c374 a3 a4 (nI n) (a12 + m 8 (9 * p + 2)) (a13 + jmd m p) (a14 + nI (zws m (nI p) L)) a15 (nI p) k z) 31 (F_L_law_381 xs N c22 c374 a3 a4 (nI n) a12 a13 a14 a15 (nI p) k z) := by
  have hn := S.1.1.1
  have fin := lp_453 (a3 := a3) (a4 := a4) (a12 := a12 + m 8 (9 * p + 2)) (a13 := a13) (a14 := a14) (a15 := a15) (xs := xs) (N := N) (c22 := c22) (c374 := c374) S hp hy hh hH
  have e438 : ∀ s0 s1, F_L_law_438 xs N c22 c374 s0 s1 a3 a4 (nI n) a13 a14 a15 (nI p) (m 8 (9 * p + 2)) (m 8 (9 * p + 5)) (m 8 (9 * p + 3)) (m 8 (9 * p + 4)) k z = F_L_law_453 xs N c22 c374 a13 (jmd m p) a3 a4 (nI n) (s0 + s1) a14 a15 (nI p) (m 8 (9 * p + 2)) (m 8 (9 * p + 5)) (m 8 (9 * p + 3)) (m 8 (9 * p + 4)) k z := by
    intro s0 s1
    rcases jSt_w S hp with h | ⟨q, hq, -, h⟩
    · have j0 : jmd m p = 0 := if_pos h
      simp only [F_L_law_438, h, pz_mn, if_true, F_L_law_452, j0]
    · have j0 : jmd m p = 1 := if_neg (by rw [h]; exact pz_m1 (by omega))
      simp only [F_L_law_438, h, jR_ng S.2.2.2.2.1 hq, if_false, F_L_law_448, j0]
  have e0 : F_L_law_381 xs N c22 c374 a3 a4 (nI n) a12 a13 a14 a15 (nI p) k z = kadd 4 24 (kadd 4 24 (kadd 4 24 (kadd 4 24 (F_L_law_453 xs N c22 c374 a13 (jmd m p) a3 a4 (nI n) (a12 + m 8 (9 * p + 2)) a14 a15 (nI p) (m 8 (9 * p + 2)) (m 8 (9 * p + 5)) (m 8 (9 * p + 3)) (m 8 (9 * p + 4)) k z)))) := by
    rcases S.1.2.1 p hp with ⟨-, l2⟩ | ⟨-, l2⟩
    · rw [l2] at e438
      rw [l2]
      simp only [F_L_law_381, rd_p2 S hp, l2, pz_bind, pz_nz, not_true_eq_false, if_false, if_true, F_L_law_392, F_L_law_397, rd_p5 S hp, rd_p3 S hp, rd_p4 S hp, pz_10, F_L_law_433, e438]
    · rw [l2] at e438
      rw [l2]
      simp only [F_L_law_381, rd_p2 S hp, l2, pz_bind, pz_nz, not_true_eq_false, if_false, pz_01, F_L_law_396, F_L_law_397, rd_p5 S hp, rd_p3 S hp, rd_p4 S hp, if_true, F_L_law_437, e438]
  rw [e0]; exact jGo_k (jGo_k (jGo_k (jGo_k fin)))
end ZS
