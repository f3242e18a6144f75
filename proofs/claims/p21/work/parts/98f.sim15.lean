/-! YEARS, in all three -/
def jChain : Nat → kS → kS → Int32 → kS → kS → Nat → Nat → Prop
  | 0, m, z, d, m', z', c, s => d = 0 ∧ m' = m ∧ z' = z ∧ c = 0 ∧ s = 0
  | Y + 1, m, z, d, m', z', c, s => ∃ d1 m1 z1 c1 s1 uc us d2 c2 s2, F_X6_yearOn m = some ((d1, m1), uc, us) ∧ F_X8_pass z = some ((d1, z1), c1, s1) ∧ jChain Y m1 z1 d2 m' z' c2 s2 ∧ d = d1 + d2 ∧ c = c1 + c2 ∧ s = s1 + s2
section ZS
variable {n L h0 H c p q w r B y y' l ag Y s : Nat} {k k' m m' z z' : kS} {v v1 v2 h a b t d : Int32} {f : Nat → Int32} {P : Nat → Int32}
theorem zAl_m (h : zLiv n 15 k m) (g : zLiv n 15 k' m) : zAl 15 n k' = zAl 15 n k := zcnt_congr n (fun c hc => by
  show k' 29 c = -1 ↔ k 29 c = -1
  rcases h c hc with ⟨h1, h2⟩ | ⟨h1, h2⟩ <;> rcases g c hc with ⟨g1, g2⟩ | ⟨g1, g2⟩
  · exact ⟨fun _ => h1, fun _ => g1⟩
  · rw [h2] at g2; exact absurd g2 (by decide)
  · rw [h2] at g2; exact absurd g2 (by decide)
  · exact ⟨fun h => absurd h g1, fun h => absurd h h1⟩)
/-- the reference's years out of the chain -/
theorem jCh_ref : ∀ (e i : Nat) (m z : kS) (v : Int32) (d : Int32) (m' z' : kS) (c s g : Nat), i + e = Y → Y < 2 ^ 31 → e < g → jChain e m z d m' z' c s → ∃ uc us, F_X6_yearsOn_4 g (nI Y) v (nI i) m = some ((v + d, m'), uc, us)
  | 0, i, m, z, v, d, m', z', c, s, g, hi, hY, hg, h => by
    obtain ⟨g, rfl⟩ : ∃ x, g = x + 1 := ⟨g - 1, by omega⟩
    obtain ⟨rfl, rfl, rfl, -, -⟩ := h
    obtain rfl : i = Y := by omega
    refine ⟨0, 0, ?_⟩
    simp only [F_X6_yearsOn_4, F_X6_yearsOn_22, pz_cT hY, if_true, Int32.add_zero]
  | e + 1, i, m, z, v, d, m', z', c, s, g, hi, hY, hg, h => by
    obtain ⟨g, rfl⟩ : ∃ x, g = x + 1 := ⟨g - 1, by omega⟩
    obtain ⟨d1, m1, z1, c1, s1, uc, us, d2, c2, s2, h1, h2, h3, rfl, rfl, rfl⟩ := h
    obtain ⟨uc2, us2, q⟩ := jCh_ref e (i + 1) m1 z1 (v + d1) d2 m' z' c2 s2 g (by omega) hY (by omega) h3
    refine ⟨uc + uc2, us + us2, ?_⟩
    simp only [F_X6_yearsOn_4, F_X6_yearsOn_9, pz_cF (show i < Y by omega) hY, if_false, h1, pz_bind, nI_1, q, pz_kadds, Int32.add_assoc]
theorem jCh_ex : ∀ (e : Nat) {k m z : kS} {h0 H y : Nat}, jSt n L h0 H y k m z → y + e < 2 ^ 29 → h0 + 12 * zAl 15 n k + 12 * 41 + 13 < 4000 → H + 41 * e + 41 * 40 < 2 ^ 29 → ∃ d k' m' z' c s h1 H1, jChain e m z d m' z' c s ∧ jSt n L h1 H1 (y + e) k' m' z' ∧ zFr 15 k k' ∧ h1 + 12 * zAl 15 n k' ≤ h0 + 12 * zAl 15 n k ∧ H1 + zAl 15 n k' ≤ H + zAl 15 n k ∧ zAl 15 n k' ≤ zAl 15 n k ∧ c + jDc L (jmx k n n) * zAl 15 n k' ≤ jDc L (jmx k n n) * zAl 15 n k ∧ s + jDs L (jmx k n n) * zAl 15 n k' ≤ jDs L (jmx k n n) * zAl 15 n k ∧ m' 7 = m 7
  | 0, k, m, z, h0, H, y, S, hy, hh, hH => ⟨0, k, m, z, 0, 0, h0, H, ⟨rfl, rfl, rfl, rfl, rfl⟩, S, zFr.rf 15 k, Nat.le_refl _, Nat.le_refl _, Nat.le_refl _, by omega, by omega, rfl⟩
  | e + 1, k, m, z, h0, H, y, S, hy, hh, hH => by
    have al := zAl_b (n := n) (k := k)
    have hn := S.1.1.1
    obtain ⟨d1, k1, m1, z1, c1, s1, uc, us, h1, H1, a1, a2, a3, a4, a5, a6, a7, a8, a9, a10, -⟩ := jyr_x S (by omega) (by omega) (by omega)
    obtain ⟨d2, k', m', z', c2, s2, h2, H2, b1, b2, b3, b4, b5, b6, b7, b8, b9⟩ := jCh_ex e a3 (by omega) (by omega) (by omega)
    have ju := zFr_par a4
    rw [jmx_cg2 ju.1 ju.2] at b7 b8
    refine ⟨_, k', m', z', _, _, h2, H2, ⟨nI d1, m1, z1, c1, s1, uc, us, d2, c2, s2, a1, a2, b1, rfl, rfl, rfl⟩, by rw [show y + (e + 1) = y + 1 + e by omega]; exact b2, a4.tr b3, by omega, by omega, by omega, by omega, by omega, b9.trans a10⟩
theorem jpass_st (S : jSt n L h0 H y k m z) (hY : 1 ≤ Y) (hY3 : Y ≤ 3) (hy : y < 2 ^ 28) (hh : h0 + 12 * zAl 15 n k + 12 * 41 + 13 < 4000) (hH : H < 2 ^ 28) : ∃ d k' m' z' c s h1 uc us, F_X5_pass (nI Y) k = some ((0, d), k') ∧ jChain Y m z d m' z' c s ∧ F_X6_yearsOn (nI Y) m = some ((d, m'), uc, us) ∧ jSt n L h1 (H + 40 * Y) (y + Y) k' m' z' ∧ zFr 15 k k' ∧ h1 + 12 * zAl 15 n k' ≤ h0 + 12 * zAl 15 n k ∧ zAl 15 n k' ≤ zAl 15 n k ∧ c + jDc L (jmx k n n) * zAl 15 n k' ≤ jDc L (jmx k n n) * zAl 15 n k ∧ s + jDs L (jmx k n n) * zAl 15 n k' ≤ jDs L (jmx k n n) * zAl 15 n k := by
  obtain ⟨d, k1, m', z', c, s, h1, H1, a1, a2, a3, a4, a5, a6, a7, a8, a9⟩ := jCh_ex Y S (by omega) hh (by omega)
  obtain ⟨uc, us, r1⟩ := jCh_ref (Y := Y) Y 0 m z 0 d m' z' c s kN (by omega) (by omega) (by show Y < 4096; omega) a1
  have r2 : F_X6_yearsOn (nI Y) m = some ((d, m'), uc, us) := by
    have e : (0 : Int32) + d = d := Int32.zero_add d
    rw [e] at r1
    simp only [F_X6_yearsOn, F_X6_yearsOn_0]
    exact r1
  obtain ⟨d2, k', m2, uc2, us2, g1, g2, g3, g4, g5, g6, g7, -, -⟩ := lp_x (hH := H) k15 S.1 S.2.2.1 (show Y ≤ 100 by omega) (by omega) (fun _ => S.2.1) (by omega)
  rw [r2] at g2
  have g2 := Option.some.inj g2
  have ed : d = d2 := congrArg (fun o => o.1.1) g2
  have em : m' = m2 := congrArg (fun o => o.1.2) g2
  subst ed
  subst em
  have al := zAl_m (k := k1) (k' := k') a2.1.2.1 g3.2.1
  rw [← al] at a4 a6 a7 a8
  refine ⟨d, k', m', z', c, s, h1, uc, us, ?_, a1, r2, ⟨g3, g4 rfl, g7, fun p hp => by rw [g5.2.2.1 rfl 39 (by decide) (by decide)]; exact S.2.2.2.1 p hp, a2.2.2.2.2.1, jEx_cg a2.2.2.2.2.2 (fun q hq => (g5.2.1 q hq).trans (a3.2.1 q hq).symm) (fun _ _ _ _ _ => rfl) (fun _ _ => jSm.rf rfl rfl)⟩, g5, a4, a6, a7, a8⟩
  simp only [F_X5_pass, F_X5_pass_0, ny_1 (k := k) hY (show Y ≤ 100 by omega), pz_bind, pz_nz, if_true, g1]
end ZS
