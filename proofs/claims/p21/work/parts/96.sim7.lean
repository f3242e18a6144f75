/-! SIM: ONE DIES, A YEAR GOES BY, beside the reference's -/
def jHV (k m : kS) (r l : Nat) (x : Int32) : Prop := ∃ w k2, w ≤ 3 ∧ m 9 (4 * l + 1) = nI w ∧ F_X4_heirOf 15 (nI r) (nI w) k = some (x, k2)
section ZS
variable {n L h0 a b p q w r B y l : Nat} {k m z : kS} {v h : Int32} {f : Nat → Int32} {P : Nat → Int32}
theorem jdi_1 (R : jR n L h0 m z) (hK : zKin n k m) (hLv : jLv n k z) (hr : r < n) (hlaw : ∀ l, l < L → ∃ w, w ≤ 3 ∧ m 9 (4 * l + 1) = nI w) : ∀ (d i : Nat) (xf : Nat → Int32) (g : Nat), i + d = L → d < g → (∀ l, l < i → m 9 (4 * l + 2) = nI r → jHV k m r l (xf l)) → (∀ j, jk n (xf j)) → ∃ xf' c s, F_X8_die_14 g (nI r) 0 (nI i) (nI L) xf z = kadd c s (F_X8_die_63 (nI r) 0 (nI L) xf' z) ∧ (∀ l, l < L → m 9 (4 * l + 2) = nI r → jHV k m r l (xf' l)) ∧ (∀ j, jk n (xf' j)) ∧ c ≤ d * (3 + 3 * jmx k n n) ∧ s ≤ d * (3 * jmx k n n)
  | 0, i, xf, g, hd, hg, h1, h2 => by
    have hL := R.2.1
    obtain ⟨g, rfl⟩ : ∃ x, g = x + 1 := ⟨g - 1, by omega⟩
    obtain rfl : i = L := by omega
    refine ⟨xf, 0, 0, ?_, h1, h2, by omega, by omega⟩
    simp only [F_X8_die_14, jR_jN R, jR_jM R, jR_ln R, jR_lL R, if_false, pz_cT (show i < 2 ^ 31 by omega), if_true, pz_kadd0]
  | d + 1, i, xf, g, hd, hg, h1, h2 => by
    have hL := R.2.1
    have hn := R.1
    obtain ⟨g, rfl⟩ : ∃ x, g = x + 1 := ⟨g - 1, by omega⟩
    have hi : i < L := by omega
    have c := pz_cF hi (show L < 2 ^ 31 by omega)
    obtain ⟨a0, a1, a2, a3, a4⟩ := jR_lr R hi
    have b2 := ((jR_c R).2 i hi).1
    by_cases e : m 9 (4 * i + 2) = nI r
    · obtain ⟨w, hw, ew⟩ := hlaw i hi
      obtain ⟨x, k', c1, s1, g1, g2, g3, g4, g5, g6, g7⟩ := jhe_x R hK hLv hr hw
      have kx : jk n x := by
        rcases g4 with e | ⟨q, q1, -, e, -⟩
        · rw [e]; exact jk_m n
        · rw [e]; exact jk_n q1
      obtain ⟨xf', c2, s2, q1, q2, q3, q4, q5⟩ := jdi_1 R hK hLv hr hlaw d (i + 1) (upd xf i x) g (by omega) (by omega) (fun l hl e2 => by
        by_cases hli : l = i
        · subst hli
          rw [pz_us]; exact ⟨w, k', hw, ew, g1⟩
        · rw [pz_un hli]; exact h1 l (by omega) e2) (fun j => by
        by_cases hji : j = i
        · subst hji; rw [pz_us]; exact kx
        · rw [pz_un hji]; exact h2 j)
      refine ⟨xf', c1 + c2, s1 + s2, ?_, q2, q3, by rw [Nat.add_mul]; omega, by rw [Nat.add_mul]; omega⟩
      rw [← pz_kadd, ← q1]
      simp only [F_X8_die_14, F_X8_die_24, F_X8_die_38, F_X8_die_57, jR_jN R, jR_jM R, jR_ln R, jR_lL R, if_false, jR_ngL R (hi), jR_clL R (hi), pz_ge (hi), or_self, if_false, c, jR_z8 R hi, jR_b R b2, jR_b R (jk_n hr), a2, a1, e, ew, if_true, g2, pz_bind, nI_clamp (show L < 2 ^ 31 by omega), jR_b R kx, nI_1]
    · obtain ⟨xf', c2, s2, q1, q2, q3, q4, q5⟩ := jdi_1 R hK hLv hr hlaw d (i + 1) xf g (by omega) (by omega) (fun l hl e2 => by
        by_cases hli : l = i
        · subst hli; exact absurd e2 e
        · exact h1 l (by omega) e2) h2
      refine ⟨xf', c2, s2, ?_, q2, q3, by rw [Nat.add_mul]; omega, by rw [Nat.add_mul]; omega⟩
      rw [← q1]
      rw [a2] at b2
      simp only [F_X8_die_14, F_X8_die_24, F_X8_die_57, jR_jN R, jR_jM R, jR_ln R, jR_lL R, if_false, jR_ngL R (hi), jR_clL R (hi), pz_ge (hi), or_self, if_false, c, jR_z8 R hi, jR_b R b2, jR_b R (jk_n hr), a2, if_neg e, nI_1]
/-- what holds while the lands are handed over -/
def jdI (n L h0 r i : Nat) (m m2 mo zi : kS) (xf : Nat → Int32) : Prop := jQ n L (h0 + i) (m 8) mo zi ∧ (∀ q, q ≠ 9 → q ≠ 10 → mo q = m2 q) ∧ ∀ l, l < L → (l < i ∧ m 9 (4 * l + 2) = nI r → jHd m mo l (xf l)) ∧ (¬ (l < i ∧ m 9 (4 * l + 2) = nI r) → jSm m mo l)
theorem jdi_2 {m2 : kS} {xf : Nat → Int32} (hr : r < n) (hm2 : m2 7 2 = nI L) (hx : ∀ l, l < L → m 9 (4 * l + 2) = nI r → xf l = m2 14 l) (hxk : ∀ j, jk n (xf j)) (hh0 : h0 + 13 < 4000) : ∀ (d i : Nat) (mo zi : kS) (cnt : Int32) (g g' : Nat), i + d = L → d < g → d < g' → jdI n L h0 r i m m2 mo zi xf → ∃ mo' zf c s cnt', F_X6_dies_71 g (nI r) cnt (nI i) mo = F_X6_dies_112 (nI r) cnt' mo' ∧ F_X8_die_66 g' (nI r) cnt (nI i) (nI L) xf zi = kadd c s (F_X8_die_117 (nI r) cnt' zf) ∧ jdI n L h0 r L m m2 mo' zf xf ∧ c ≤ d ∧ s ≤ d * (h0 + 13)
  | 0, i, mo, zi, cnt, g, g', hd, hg, hg', hI => by
    have hL := hI.1.2.1
    obtain ⟨g, rfl⟩ : ∃ x, g = x + 1 := ⟨g - 1, by omega⟩
    obtain ⟨g', rfl⟩ : ∃ x, g' = x + 1 := ⟨g' - 1, by omega⟩
    obtain rfl : i = L := by omega
    have e7 : mo 7 2 = nI i := by rw [hI.2.1 7 (by decide) (by decide)]; exact hm2
    have R := hI.1
    refine ⟨mo, zi, 0, 0, cnt, ?_, ?_, hI, by omega, by omega⟩
    · simp only [F_X6_dies_71, e7, pz_cT (show i < 2 ^ 31 by omega), if_true]
    · simp only [F_X8_die_66, jR_jN R, jR_jM R, jR_ln R, jR_lL R, if_false, pz_cT (show i < 2 ^ 31 by omega), if_true, pz_kadd0]
  | d + 1, i, mo, zi, cnt, g, g', hd, hg, hg', hI => by
    have R := hI.1
    have hL := R.2.1
    have hn := R.1
    obtain ⟨g, rfl⟩ : ∃ x, g = x + 1 := ⟨g - 1, by omega⟩
    obtain ⟨g', rfl⟩ : ∃ x, g' = x + 1 := ⟨g' - 1, by omega⟩
    have hi : i < L := by omega
    have c := pz_cF hi (show L < 2 ^ 31 by omega)
    have e7 : mo 7 2 = nI L := by rw [hI.2.1 7 (by decide) (by decide)]; exact hm2
    have sm : jSm m mo i := (hI.2.2 i hi).2 (fun h => by omega)
    have er : mo 9 (4 * i + 2) = m 9 (4 * i + 2) := sm.1 2 (by decide)
    obtain ⟨a0, a1, a2, a3, a4⟩ := jR_lr R hi
    have b2 := ((jR_c R).2 i hi).1
    rw [a2, er] at b2
    have ci : (nI i < 0 ∨ 12 ≤ i) = False := eq_false (fun q => q.elim (nI_pos (by omega)) (by omega))
    by_cases e : m 9 (4 * i + 2) = nI r
    · have e14 : mo 14 i = xf i := by rw [hI.2.1 14 (by decide) (by decide)]; exact (hx i hi e).symm
      obtain ⟨m', z', c1, s1, r1, r2, r3, r4, r5, r6, r7, r8, r9⟩ := jrule_x R hi (hxk i) (by omega)
      obtain ⟨mo', zf, c2, s2, cnt', q1, q2, q3, q4, q5⟩ := jdi_2 hr hm2 hx hxk hh0 d (i + 1) m' z' (cnt + 1) g g' (by omega) (by omega) (by omega) ⟨r3, fun q h1 h2 => (r4 q h1 h2).trans (hI.2.1 q h1 h2), fun l hl => ⟨fun h => by
        by_cases hli : l = i
        · subst hli; exact jHd_a sm r8
        · exact jHd_b ((hI.2.2 l hl).1 ⟨by omega, h.2⟩) (r9 l hli), fun h => by
        by_cases hli : l = i
        · subst hli; exact absurd ⟨by omega, e⟩ h
        · exact jSm_tr ((hI.2.2 l hl).2 (fun h' => h ⟨by omega, h'.2⟩)) (r9 l hli)⟩⟩
      refine ⟨mo', zf, c1 + c2, s1 + s2, cnt', ?_, ?_, q3, by omega, by rw [Nat.add_mul]; omega⟩
      · rw [← q1]
        simp only [F_X6_dies_71, F_X6_dies_79, F_X6_dies_92, F_X6_dies_106, e7, c, if_false, la_2 (show i < 12 by omega), pz_bind, er, e, if_true, nI_clamp (show i < 2 ^ 31 by omega), ci, e14, r1, nI_1]
      · rw [← pz_kadd, ← q2]
        simp only [F_X8_die_66, F_X8_die_76, F_X8_die_93, F_X8_die_111, jR_jN R, jR_jM R, jR_ln R, jR_lL R, if_false, jR_ngL R (hi), jR_clL R (hi), pz_ge (hi), or_self, if_false, c, jR_z8 R hi, jR_b R b2, jR_b R (jk_n hr), a2, er, e, if_true, nI_clamp (show L < 2 ^ 31 by omega), r2, pz_bind, nI_1]
    · obtain ⟨mo', zf, c2, s2, cnt', q1, q2, q3, q4, q5⟩ := jdi_2 hr hm2 hx hxk hh0 d (i + 1) mo zi cnt g g' (by omega) (by omega) (by omega) ⟨⟨hn, hL, by omega, R.2.2.2.1, R.2.2.2.2.1, R.2.2.2.2.2.1, R.2.2.2.2.2.2.1, R.2.2.2.2.2.2.2.1, fun l hl => by
        obtain ⟨h, h1, h2⟩ := jR_h R l hl
        exact ⟨h, by omega, h2⟩⟩, hI.2.1, fun l hl => ⟨fun h => by
        by_cases hli : l = i
        · subst hli; exact absurd h.2 e
        · exact (hI.2.2 l hl).1 ⟨by omega, h.2⟩, fun h => (hI.2.2 l hl).2 (fun h' => h ⟨by omega, h'.2⟩)⟩⟩
      refine ⟨mo', zf, c2, s2, cnt', ?_, ?_, q3, by omega, by rw [Nat.add_mul]; omega⟩
      · rw [← q1]
        simp only [F_X6_dies_71, F_X6_dies_79, F_X6_dies_89, F_X6_dies_106, e7, c, if_false, la_2 (show i < 12 by omega), pz_bind, er, if_neg e, nI_1]
      · rw [← q2]
        simp only [F_X8_die_66, F_X8_die_76, F_X8_die_90, F_X8_die_111, jR_jN R, jR_jM R, jR_ln R, jR_lL R, if_false, jR_ngL R (hi), jR_clL R (hi), pz_ge (hi), or_self, if_false, c, jR_z8 R hi, jR_b R b2, jR_b R (jk_n hr), a2, er, if_neg e, nI_1]
/-- what a death does -/
def jDie (n L : Nat) (k m m' : kS) (r : Nat) : Prop := (∀ q, q ≠ 8 → q ≠ 9 → q ≠ 10 → q ≠ 12 → q ≠ 13 → q ≠ 14 → m' q = m q) ∧ m' 8 (9 * r + 2) = 0 ∧ m' 8 (9 * r + 6) = m 11 0 ∧ (∀ p w, w < 9 → w ≠ 5 → w ≠ 7 → w ≠ 8 → (p ≠ r ∨ (w ≠ 2 ∧ w ≠ 6)) → m' 8 (9 * p + w) = m 8 (9 * p + w)) ∧ (∀ l, l < L → (m 9 (4 * l + 2) = nI r → ∃ x, jHV k m r l x ∧ jHd m m' l x) ∧ (m 9 (4 * l + 2) ≠ nI r → jSm m m' l)) ∧ (∀ p, (m' 8 (9 * p + 5) = m 8 (9 * p + 5) ∧ m' 8 (9 * p + 7) = m 8 (9 * p + 7)) ∨ (m' 8 (9 * p + 5) = -1 ∧ m' 8 (9 * p + 7) = -1)) ∧ m' 8 (9 * r + 5) = -1
theorem jQ_up {h1 : Nat} (R : jQ n L h0 P m z) (h : h0 ≤ h1) (h2 : h1 ≤ 4000) : jQ n L h1 P m z := ⟨R.1, R.2.1, h2, R.2.2.2.1, R.2.2.2.2.1, R.2.2.2.2.2.1, R.2.2.2.2.2.2.1, R.2.2.2.2.2.2.2.1, fun l hl => by
  obtain ⟨x, x1, x2⟩ := jR_h R l hl
  exact ⟨x, by omega, x2⟩⟩
theorem jdi_x (R : jR n L h0 m z) (hK : zKin n k m) (hLi : zLiv n 15 k m) (hLv : jLv n k z) (hr : r < n) (hlaw : ∀ l, l < L → ∃ w, w ≤ 3 ∧ m 9 (4 * l + 1) = nI w) (hm2 : m 7 2 = nI L) (hW : m 8 (9 * r + 5) = -1 ∨ ∃ q, q < n ∧ q ≠ r ∧ m 8 (9 * r + 5) = nI q) (hh0 : h0 + 13 < 4000) : ∃ cnt m' z' c s uc us, F_X6_dies (nI r) m = some ((cnt, m'), uc, us) ∧ F_X8_die (nI r) z = some ((cnt, z'), c, s) ∧ jR n L (h0 + 12) m' z' ∧ jDie n L k m m' r ∧ c ≤ 1 + L * (4 + 3 * jmx k n n) ∧ s ≤ L + L * (3 * jmx k n n) + L * (h0 + 13) := by
  have hL := R.2.1
  have hn := R.1
  obtain ⟨m1, d1, d2, d3⟩ := ds_1 (Or.inl rfl) hK (fun p hp _ => hLi p hp) hr hL hm2 hlaw
  obtain ⟨xf, c1, s1, f1, f2, f3, f4, f5⟩ := jdi_1 R hK hLv hr hlaw L 0 (fun _ => -1) kN (by omega) (by show L < 4096; omega) (fun l hl => absurd hl (Nat.not_lt_zero _)) (fun _ => jk_m n)
  have hx1 : ∀ l, l < L → m 9 (4 * l + 2) = nI r → xf l = m1 14 l := by
    intro l hl e
    obtain ⟨w, k2, w1, w2, w3⟩ := f2 l hl e
    obtain ⟨w', w1', w2', hHV⟩ := d3 l hl e
    have : w = w' := (nI_eq (by omega) (by omega)).mp (w2.symm.trans w2')
    subst this
    obtain ⟨k3, g1, -⟩ := hHV.1 k (zSame.rf 15 k)
    rw [w3] at g1
    exact congrArg (fun o : Int32 × kS => o.1) (Option.some.inj g1)
  obtain ⟨m2a, hm2a⟩ : ∃ x, x = kst m1 8 (upd (m1 8) (9 * r + 2) 0) := ⟨_, rfl⟩
  obtain ⟨m2, hm2d⟩ : ∃ x, x = kst m2a 8 (upd (m2a 8) (9 * r + 6) (m2a 11 0)) := ⟨_, rfl⟩
  have m2o : ∀ q, q ≠ 8 → m2 q = m1 q := fun q hq => by rw [hm2d, kst_ne _ _ hq, hm2a, kst_ne _ _ hq]
  have m2y : m2a 11 0 = m 11 0 := by rw [hm2a, kst_ne _ _ (by decide), d2 11 (by decide) (by decide) (by decide)]
  have m28 : m2 8 = upd (upd (m 8) (9 * r + 2) 0) (9 * r + 6) (m 11 0) := by rw [hm2d, kst_eq, m2y, hm2a, kst_eq, d2 8 (by decide) (by decide) (by decide)]
  have hm27 : m2 7 2 = nI L := by rw [m2o 7 (by decide), d2 7 (by decide) (by decide) (by decide)]; exact hm2
  have I0 : jdI n L h0 r 0 m m2 m2 z xf := ⟨⟨R.1, R.2.1, R.2.2.1, R.2.2.2.1, by rw [m2o 11 (by decide), d2 11 (by decide) (by decide) (by decide)]; exact R.2.2.2.2.1, R.2.2.2.2.2.1, fun l hl => jRl_cg (jR_lr R hl) rfl rfl rfl (fun w _ => by rw [m2o 9 (by decide), d2 9 (by decide) (by decide) (by decide)]) (fun i _ => by rw [m2o 10 (by decide), d2 10 (by decide) (by decide) (by decide)]), R.2.2.2.2.2.2.2.1, R.2.2.2.2.2.2.2.2⟩, fun _ _ _ => rfl, fun l hl => ⟨fun h => absurd h.1 (Nat.not_lt_zero _), fun _ => jSm.rf (by rw [m2o 9 (by decide), d2 9 (by decide) (by decide) (by decide)]) (by rw [m2o 10 (by decide), d2 10 (by decide) (by decide) (by decide)])⟩⟩
  obtain ⟨mo, zf, c2, s2, cnt, e1, e2, e3, e4, e5⟩ := jdi_2 (m := m) hr hm27 (fun l hl e => by rw [m2o 14 (by decide)]; exact hx1 l hl e) f3 hh0 L 0 m2 z 0 kN kN (by omega) (by show L < 4096; omega) (by show L < 4096; omega) I0
  obtain ⟨Rf, If, Ilf⟩ := e3
  have mo8 : mo 8 = upd (upd (m 8) (9 * r + 2) 0) (9 * r + 6) (m 11 0) := (If 8 (by decide) (by decide)).trans m28
  have mo11 : mo 11 0 = m 11 0 := by rw [If 11 (by decide) (by decide), m2o 11 (by decide), d2 11 (by decide) (by decide) (by decide)]
  have zf0 : zf 0 0 = m 11 0 := (jR_y Rf).trans mo11
  have P8 : ∀ p w, w < 9 → (p ≠ r ∨ (w ≠ 2 ∧ w ≠ 6)) → mo 8 (9 * p + w) = m 8 (9 * p + w) := fun p w hw hpw => by
    rw [mo8, pz_un (by omega), pz_un (by omega)]
  /- died now -/
  have Rz : jR n L (h0 + L) mo (kst zf (4 * r + 1) (upd (zf (4 * r + 1)) 3 (zf 0 0))) := by
    have o : ∀ x, x ≠ 4 * r + 1 → (kst zf (4 * r + 1) (upd (zf (4 * r + 1)) 3 (zf 0 0))) x = zf x := fun x hx => kst_ne _ _ hx
    refine ⟨hn, hL, by omega, jRa_cg (jR_a Rf) (o 4 (by omega)) (o 8 (by omega)) (o 12 (by omega)) (o 20 (by omega)), by rw [o 0 (by omega)]; exact jR_y Rf, fun p hp => ?_, fun l hl => jRl_cg (jR_lr Rf hl) (o _ (by omega)) (o _ (by omega)) (by rw [o 16 (by omega)]) (fun _ _ => rfl) (fun _ _ => rfl), ⟨fun p hp => ?_, fun l hl => ?_⟩, fun l hl => by rw [o 16 (by omega)]; exact jR_h Rf l hl⟩
    · by_cases e : p = r
      · subst e
        obtain ⟨b0, b1, b2, b3, b4, b5, b6, b7, b8⟩ := jR_p Rf hp
        unfold jRp
        rw [kst_eq]
        refine ⟨?_, ?_, ?_, ?_, ?_, ?_, ?_, ?_, ?_⟩
        · rw [pz_un (by decide)]; exact b0
        · rw [pz_un (by decide), show mo 8 (9 * p) = m 8 (9 * p) from P8 p 0 (by decide) (Or.inr ⟨by decide, by decide⟩)]; exact b1
        · rw [pz_un (by decide), P8 p 1 (by decide) (Or.inr ⟨by decide, by decide⟩)]; exact b2
        · rw [pz_us, mo8, pz_us]; exact zf0
        · rw [pz_un (by decide), P8 p 3 (by decide) (Or.inr ⟨by decide, by decide⟩)]; exact b4
        · rw [pz_un (by decide), P8 p 4 (by decide) (Or.inr ⟨by decide, by decide⟩)]; exact b5
        · rw [pz_un (by decide), P8 p 5 (by decide) (Or.inr ⟨by decide, by decide⟩)]; exact b6
        · rw [pz_un (by decide), P8 p 7 (by decide) (Or.inr ⟨by decide, by decide⟩)]; exact b7
        · rw [pz_un (by decide), pz_un (by decide), P8 p 8 (by decide) (Or.inr ⟨by decide, by decide⟩)]; exact b8
      · exact jRp_cg (jR_p Rf hp) (o _ (by omega)) (fun w hw => P8 p w hw (Or.inl e))
    · by_cases e : p = r
      · subst e
        rw [kst_eq, pz_un (by decide), pz_un (by decide), pz_un (by decide), pz_un (by decide), pz_un (by decide)]
        exact (jR_c Rf).1 p hp
      · rw [o _ (by omega)]; exact (jR_c Rf).1 p hp
    · rw [o _ (by omega), o _ (by omega)]; exact (jR_c Rf).2 l hl
  have e5r : mo 8 (9 * r + 5) = m 8 (9 * r + 5) := P8 r 5 (by decide) (Or.inr ⟨by decide, by decide⟩)
  obtain ⟨m', z', uc, us, p1, p2, p3, p4, p5, p6, p7, p8, p9⟩ := jpart_x Rz hr (by rw [e5r]; exact hW)
  refine ⟨cnt, m', z', 1 + (c1 + c2), L + (s1 + s2), uc, us, ?_, ?_, jQ_up p3 (by omega) (by omega), ⟨?_, ?_, ?_, ?_, ?_, ?_, ?_⟩, ?_, ?_⟩
  · rw [d1]
    have c6 : F_X6_set (nI r) 2 0 m1 = some m2a := by rw [hm2a]; exact set_ (w := 2) (by omega) (by decide)
    have c7 : F_X6_set (nI r) 6 (m2a 11 0) m2a = some m2 := by rw [hm2d]; exact set_ (w := 6) (by omega) (by decide)
    have e1' : F_X6_dies_71 kN (nI r) 0 0 m2 = F_X6_dies_112 (nI r) cnt mo := e1
    simp only [F_X6_dies_49, c6, pz_bind, pz_cl0, pz_0lt, pz_1le0, or_self, if_false, c7, e1', F_X6_dies_112, p1, pz_kadds, Nat.add_zero]
  · have h8 : (nI L < 0 ∨ 100000000 < L) = False := eq_false (fun q => q.elim (nI_pos (by omega)) (by omega))
    have f1' : F_X8_die_14 kN (nI r) 0 0 (nI L) (fun _ => -1) z = kadd c1 s1 (F_X8_die_63 (nI r) 0 (nI L) xf z) := f1
    have e2' : F_X8_die_66 kN (nI r) 0 0 (nI L) xf z = kadd c2 s2 (F_X8_die_117 (nI r) cnt zf) := e2
    have p2' : F_X8_part (nI r) (kput zf (4 * r + 1) 3 (zf 0 0)) = some z' := p2
    have t : F_X8_die_117 (nI r) cnt zf = some ((cnt, z'), 0, 0) := by
      have R := Rf
      simp only [F_X8_die_117, jR_jN R, jR_jM R, jR_ln R, jR_lL R, if_false, jR_ng R (hr), jR_cl R (hr), pz_ge (hr), or_self, if_false, p2', pz_bind]
    simp only [F_X8_die, F_X8_die_0, jR_jN R, jR_jM R, jR_ln R, jR_lL R, if_false, nI_clamp (show L < 2 ^ 31 by omega), h8, f1', F_X8_die_63, e2', t, pz_kadds, Nat.add_zero]
  · intro q q8 q9 q10 q12 q13 q14
    rw [p4 q q8, If q q9 q10, m2o q q8, d2 q q12 q13 q14]
  · rw [p5 r 2 (by decide) (by decide) (by decide) (by decide), mo8, pz_un (by omega), pz_us]
  · rw [p5 r 6 (by decide) (by decide) (by decide) (by decide), mo8, pz_us]
  · intro p w h1 h2 h3 h4 h5
    rw [p5 p w h1 h2 h3 h4, P8 p w h1 h5]
  · intro l hl
    have g : jSm mo m' l := jSm.rf (p4 9 (by decide)) (p4 10 (by decide))
    exact ⟨fun e => ⟨xf l, f2 l hl e, jHd_b ((Ilf l hl).1 ⟨hl, e⟩) g⟩, fun e => jSm_tr ((Ilf l hl).2 (fun h => e h.2)) g⟩
  · intro p
    rcases p9 with ⟨-, e, -⟩ | ⟨q, q1, q2, q3, q4⟩
    · rw [e]; exact Or.inl ⟨P8 p 5 (by decide) (Or.inr ⟨by decide, by decide⟩), P8 p 7 (by decide) (Or.inr ⟨by decide, by decide⟩)⟩
    · rw [q4]
      by_cases hpe : p = r ∨ p = q
      · exact Or.inr ⟨zPart_in hpe (Or.inl rfl), zPart_in hpe (Or.inr (Or.inl rfl))⟩
      · left
        rw [zPart_o1 ⟨fun h => hpe (Or.inl h), fun h => hpe (Or.inr h)⟩ (by decide), zPart_o1 ⟨fun h => hpe (Or.inl h), fun h => hpe (Or.inr h)⟩ (by decide)]
        exact ⟨P8 p 5 (by decide) (Or.inr ⟨by decide, by decide⟩), P8 p 7 (by decide) (Or.inr ⟨by decide, by decide⟩)⟩
  · rcases p9 with ⟨h, e, -⟩ | ⟨q, q1, q2, q3, q4⟩
    · rw [e]; exact h
    · rw [q4]; exact zPart_in (Or.inl rfl) (Or.inl rfl)
  · have : L * (4 + 3 * jmx k n n) = L + L * (3 + 3 * jmx k n n) := by rw [show 4 + 3 * jmx k n n = 1 + (3 + 3 * jmx k n n) by omega, Nat.mul_add, Nat.mul_one]
    omega
  · omega
end ZS
