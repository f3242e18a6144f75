/-! ANNUL, in all three -/
def jAn (n L : Nat) (m m' : kS) : Prop := (∀ q, q ≠ 7 → q ≠ 8 → q ≠ 9 → q ≠ 10 → m' q = m q) ∧ (∀ p w, w < 9 → w ≠ 5 → w ≠ 7 → w ≠ 8 → m' 8 (9 * p + w) = m 8 (9 * p + w)) ∧ (∀ p, (m' 8 (9 * p + 5) = m 8 (9 * p + 5) ∧ m' 8 (9 * p + 7) = m 8 (9 * p + 7)) ∨ (m' 8 (9 * p + 5) = -1 ∧ m' 8 (9 * p + 7) = -1)) ∧ ((∀ l, jSm m m' l) ∨ ∃ l g, l < L ∧ g < n ∧ m 9 (4 * l + 2) ≠ -1 ∧ m 9 (4 * l + 2) ≠ nI g ∧ jHd m m' l (nI g) ∧ ∀ l', l' ≠ l → jSm m m' l')
section ZS
variable {n L h0 H c p q w r B y y' l ag Y s : Nat} {k k' m m' z z' : kS} {v v1 v2 h a b t d : Int32} {f : Nat → Int32} {P : Nat → Int32}
theorem jR_thr (R : jR n L h0 m z) : jR n L h0 (thr v m) z := by
  obtain ⟨r1, r2, r3, r4, r5, r6, r7, r8, r9⟩ := R
  refine ⟨r1, r2, r3, r4, by rw [thr_n (by decide)]; exact r5, fun p hp => by rw [thr_n (by decide)]; exact r6 p hp, fun l hl => ?_, r8, r9⟩
  exact jRl_cg (r7 l hl) rfl rfl rfl (fun w _ => by rw [thr_n (by decide)]) (fun i _ => by rw [thr_n (by decide)])
theorem jHd_x6 (R : jR n L h0 m z) (hl : l < L) (h : jHd m m' l v) : m' 9 (4 * l + 2) = -1 ∨ ∃ h, 1 ≤ h ∧ h ≤ 4001 ∧ m' 9 (4 * l + 3) = nI h ∧ m' 10 (15 * l) = m' 9 (4 * l + 2) := by
  obtain ⟨-, -, g2, g3⟩ := h
  rcases g3 with ⟨e5, -, -⟩ | ⟨e5, g4, g5, -⟩
  · exact Or.inl (g2.trans e5)
  · obtain ⟨h, hh, e16⟩ := jR_h R l hl
    have h4000 := R.2.2.1
    refine Or.inr ⟨h + 1, by omega, by omega, ?_, ?_⟩
    · rw [g4, ← (jR_lr R hl).2.2.2.1, e16, nI_1]
    · rw [g5, g2]
theorem jEx_an (R : jR n L h0 m z) (hX : jEx n L y k m) (hA : jAn n L m m') (hk : ∀ p q, p < n → q < n → k' (69 + p) q = k (69 + p) q) : jEx n L y k' m' := by
  obtain ⟨x1, x2, x3, x4, x5, x6, x7⟩ := hX
  obtain ⟨d1, d2, d3, d4⟩ := hA
  have e0 : ∀ p, m' 8 (9 * p) = m 8 (9 * p) := fun p => d2 p 0 (by decide) (by decide) (by decide) (by decide)
  have e1 : ∀ p, m' 8 (9 * p + 1) = m 8 (9 * p + 1) := fun p => d2 p 1 (by decide) (by decide) (by decide) (by decide)
  have e3 : ∀ p, m' 8 (9 * p + 3) = m 8 (9 * p + 3) := fun p => d2 p 3 (by decide) (by decide) (by decide) (by decide)
  have e4 : ∀ p, m' 8 (9 * p + 4) = m 8 (9 * p + 4) := fun p => d2 p 4 (by decide) (by decide) (by decide) (by decide)
  refine ⟨fun p hp => by rw [e1]; exact x1 p hp, fun p x hp hx h => ?_, fun p x hp hx => ?_, fun p q hp hq e => ?_, fun p hp => ?_, fun l hl => ?_, fun p hp => ?_⟩
  · rw [e3, e4] at h; rw [e1, e1]; exact x2 p x hp hx h
  · rw [e3, e4, e0]; exact x3 p x hp hx
  · rcases d3 p with ⟨h, -⟩ | ⟨h, -⟩
    · rw [h] at e
      rw [e1, e0, e0, hk p q hp hq]; exact x4 p q hp hq e
    · rw [h] at e
      have := R.1
      exact absurd e.symm (pz_m1 (by omega))
  · rw [e1, d2 p 2 (by decide) (by decide) (by decide) (by decide), d2 p 6 (by decide) (by decide) (by decide) (by decide)]; exact x5 p hp
  · have same : jSm m m' l → (m' 9 (4 * l + 2) = -1 ∨ ∃ h, 1 ≤ h ∧ h ≤ 4001 ∧ m' 9 (4 * l + 3) = nI h ∧ m' 10 (15 * l) = m' 9 (4 * l + 2)) := fun g => by
      rw [g.1 2 (by decide), g.1 3 (by decide), show m' 10 (15 * l) = m 10 (15 * l) from g.2 0 (by decide)]; exact x6 l hl
    rcases d4 with g | ⟨l1, g, a1, a2, a3, a4, a5, a6⟩
    · exact same (g l)
    · by_cases e : l = l1
      · subst e; exact jHd_x6 R hl a5
      · exact same (a6 l e)
  · rcases d3 p with ⟨h1, h2⟩ | ⟨h1, h2⟩
    · rw [h1, h2]; exact x7 p hp
    · exact fun _ => h2
theorem jSteps_m (hK : zKin n k m) (hK' : zKin n k' m') (h3 : ∀ p, p < n → m' 8 (9 * p + 3) = m 8 (9 * p + 3)) (h4 : ∀ p, p < n → m' 8 (9 * p + 4) = m 8 (9 * p + 4)) : ∀ p q, p < n → q < n → k' (69 + p) q = k (69 + p) q := fun p q hp hq => zSteps_un hK.1 hK.2.2.2.2.2.2 hK'.2.2.2.2.2.2 (Nat.le_refl _) (fun x hx => by
  have g := hK'.2.2.2.1 x hx
  have g0 := hK.2.2.2.1 x hx
  rw [← g.2.2.1, ← g.2.2.2, ← g0.2.2.1, ← g0.2.2.2]
  exact ⟨h3 x hx, h4 x hx⟩) hp hq
theorem zAll_kin (hA : zAll c k m) (h : m 7 1 = nI n) (hn : n ≤ 40) : zKin n k m := by
  obtain ⟨n', L', y', a1, -⟩ := hA
  have e1 : n' = n := (nI_eq (by have := a1.1.1; omega) (by omega)).mp (a1.1.2.2.1.symm.trans h)
  rw [← e1]; exact a1.1
/-- the place of a land among all -/
theorem jan_at (R : jQ n L h0 P m z) (hl : l < L) : ∀ (e i g : Nat), i + e = l → e < g → F_X8_annul_54 g (nI l) (nI i) z = some ((nI l, z), 0, 0)
  | 0, i, g, hi, hg => by
    have hL := R.2.1
    obtain ⟨g, rfl⟩ : ∃ x, g = x + 1 := ⟨g - 1, by omega⟩
    obtain rfl : i = l := by omega
    simp only [F_X8_annul_54, F_X8_annul_71, jR_jN R, jR_jM R, jR_ln R, jR_lL R, if_false, jR_ngL R (hl), jR_clL R (hl), pz_ge (hl), or_self, if_false, jR_z8 R hl, jR_bl R (jk_n hl), if_true]
  | e + 1, i, g, hi, hg => by
    have hL := R.2.1
    obtain ⟨g, rfl⟩ : ∃ x, g = x + 1 := ⟨g - 1, by omega⟩
    have hiL : i < L := by omega
    have c : (nI i = nI l) = False := by rw [pz_eq (by omega) (by omega)]; exact eq_false (by omega)
    simp only [F_X8_annul_54, F_X8_annul_65, jR_jN R, jR_jM R, jR_ln R, jR_lL R, if_false, jR_ngL R (hiL), jR_clL R (hiL), pz_ge (hiL), or_self, if_false, jR_z8 R hiL, jR_bl R (jk_n hiL), jR_bl R (jk_n hl), c, nI_1]
    exact jan_at R hl e (i + 1) g (by omega) (by omega)
theorem jannul_st (S : jSt n L h0 (4100 * c) y k m z) (hy : y ≤ 100 * c) (hc : c < 600) (hp : p < n) (h24 : k 24 p ≠ -1) (hh : h0 < 4000) : ∃ ans k' m' z' c1 s1, F_X5_annul (nI p) k = some ((0, ans), k') ∧ F_X8_annul (nI p) z = some ((ans, z'), c1, s1) ∧ jSt n L (h0 + 1) (4100 * (c + 1)) y k' m' z' ∧ c1 ≤ 1 ∧ s1 ≤ h0 + 1 ∧ jAn n L m m' := by
  obtain ⟨code, r, k', b, m', uc, us, z1, z2, z3, z4, -, -⟩ := zM_annul (v1 := nI p) (jAll_of S hy) (by omega)
  have R0 := S.2.2.2.2.1
  have R : jR n L h0 (thr 0 m) z := jR_thr R0
  have hn := R.1
  have hL := R.2.1
  have p40 : p < 40 := by omega
  have t8 : thr 0 m 8 = m 8 := thr_n (by decide)
  have t9 : thr 0 m 9 = m 9 := thr_n (by decide)
  have t10 : thr 0 m 10 = m 10 := thr_n (by decide)
  have hm : thr 0 m 7 1 = nI n := thr_1.trans S.1.1.2.2.1
  obtain ⟨⟨-, X2, X3⟩, X4⟩ := S.1.2.2.2.2.2.1 rfl
  obtain ⟨q, q1, q2, q3, q4, q5⟩ : ∃ q, q < n ∧ q ≠ p ∧ k 24 p = nI q ∧ k 24 q = nI p ∧ zTr L k m p q := by
    rcases X3 p hp with ⟨h, -⟩ | h
    · exact absurd h h24
    · exact h
  have e5 : thr 0 m 8 (9 * p + 5) = nI q := by rw [t8]; exact (jSt_k24 S hp).trans q3
  have cq : (nI q = -1) = False := pz_m1' (by omega)
  obtain ⟨m1, zp, u1, u2, pp1, pp2, pp3, pp4, pp5, pp6, pp7, pp8, pp9⟩ := jpart_x R hp (Or.inr ⟨q, q1, q2, e5⟩)
  have m18 : m1 8 = zPart p q (m 8) := by
    rcases pp9 with ⟨h, -⟩ | ⟨q', a1, a2, a3, a4⟩
    · rw [e5] at h; exact absurd h (pz_m1 (by omega))
    · rw [e5, nI_eq (by omega) (by omega)] at a3
      subst a3
      rw [a4, t8]
  have ref : F_X6_annul (nI p) m = F_X6_annul_37 (nI p) (nI q) (thr 0 m) := by
    simp only [F_X6_annul, F_X6_annul_0, thr_e, ip_1 hn hm hp, pz_bind, pz_10, if_false, F_X6_annul_19, pe_5 p40, e5, cq]
  /- both ends -/
  have fin : ∀ (ans : Int32) (m2 z2' : kS) (c1 s1 uc1 us1 : Nat), F_X6_annul_37 (nI p) (nI q) (thr 0 m) = some ((ans, m2), uc1, us1) → F_X8_annul (nI p) z = some ((ans, z2'), c1, s1) → jR n L (h0 + 1) m2 z2' → c1 ≤ 1 → s1 ≤ h0 + 1 → m2 7 = (thr 0 m) 7 → jAn n L m m2 → ∃ ans k' m' z' c1 s1, F_X5_annul (nI p) k = some ((0, ans), k') ∧ F_X8_annul (nI p) z = some ((ans, z'), c1, s1) ∧ jSt n L (h0 + 1) (4100 * (c + 1)) y k' m' z' ∧ c1 ≤ 1 ∧ s1 ≤ h0 + 1 ∧ jAn n L m m' := by
    intro ans m2 z2' c1 s1 uc1 us1 f1 f2 f3 f4 f5 f6 f7
    rw [← ref, z2] at f1
    have f1 := Option.some.inj f1
    have eb : b = ans := congrArg (fun o => o.1.1) f1
    have em : m' = m2 := congrArg (fun o => o.1.2) f1
    subst eb
    subst em
    have e70 : m' 7 0 = 0 := by rw [f6]; exact thr_0
    obtain ⟨rfl, rfl⟩ : code = 0 ∧ r = b := by
      rw [e70] at z3
      rcases z3 with ⟨g1, g2, -⟩ | ⟨-, g, -⟩ | ⟨-, -, g⟩ | ⟨-, -, g⟩
      · exact ⟨g1, g2⟩
      · exact absurd rfl g
      · exact absurd g (by decide)
      · exact absurd g (by decide)
    have e71 : m' 7 1 = nI n := by rw [f6]; exact hm
    refine ⟨r, k', m', z2', c1, s1, z1, f2, jSt_of z4 e71 (by rw [f6]; exact thr_2.trans S.1.2.2.1.2.2.1) (by rw [f7.1 11 (by decide) (by decide) (by decide) (by decide)]; exact jSt_ye S) hn hL (by omega) (by omega) f3 ?_, f4, f5, f7⟩
    exact jEx_an R0 S.2.2.2.2.2 f7 (jSteps_m S.1.1 (zAll_kin z4 e71 hn) (fun x _ => f7.2.1 x 3 (by decide) (by decide) (by decide) (by decide)) (fun x _ => f7.2.1 x 4 (by decide) (by decide) (by decide) (by decide)))
  have an1 : ∀ m2 : kS, (∀ q, q ≠ 9 → q ≠ 10 → m2 q = m1 q) → (∀ q, q ≠ 7 → q ≠ 8 → q ≠ 9 → q ≠ 10 → m2 q = m q) ∧ (∀ p w, w < 9 → w ≠ 5 → w ≠ 7 → w ≠ 8 → m2 8 (9 * p + w) = m 8 (9 * p + w)) ∧ (∀ p, (m2 8 (9 * p + 5) = m 8 (9 * p + 5) ∧ m2 8 (9 * p + 7) = m 8 (9 * p + 7)) ∨ (m2 8 (9 * p + 5) = -1 ∧ m2 8 (9 * p + 7) = -1)) := by
    intro m2 h2
    refine ⟨fun x h7 h8 h9 h10 => by rw [h2 x h9 h10, pp4 x h8, thr_n h7], fun x w w1 w2 w3 w4 => by rw [h2 8 (by decide) (by decide), pp5 x w w1 w2 w3 w4, t8], fun x => ?_⟩
    rw [h2 8 (by decide) (by decide), m18]
    by_cases hpe : x = p ∨ x = q
    · exact Or.inr ⟨zPart_in hpe (Or.inl rfl), zPart_in hpe (Or.inr (Or.inl rfl))⟩
    · exact Or.inl ⟨zPart_o1 ⟨fun h => hpe (Or.inl h), fun h => hpe (Or.inr h)⟩ (by decide), zPart_o1 ⟨fun h => hpe (Or.inl h), fun h => hpe (Or.inr h)⟩ (by decide)⟩
  have sm1 : ∀ l, jSm m m1 l := fun l => jSm.rf (by rw [pp4 9 (by decide), t9]) (by rw [pp4 10 (by decide), t10])
  obtain ⟨b0, b1, b2, b3, b4, b5, b6, b7, b8⟩ := jR_p R hp
  rw [t8] at b6 b7 b8
  have z6 : z (4 * p + 1) 6 = nI q := b6.trans ((jSt_k24 S hp).trans q3)
  have jc := (jR_c R).1 p hp
  rcases q5 with ⟨-, -, g3⟩ | ⟨l, hl, g1, g2⟩
  · /- no land -/
    have z7 : z (4 * p + 1) 7 = -1 := b7.trans g3
    refine fin (-1) m1 zp 0 0 u1 u2 ?_ ?_ (jQ_up pp3 (by omega) (by omega)) (by omega) (by omega) (pp4 7 (by decide)) ⟨(an1 m1 (fun _ _ _ => rfl)).1, (an1 m1 (fun _ _ _ => rfl)).2.1, (an1 m1 (fun _ _ _ => rfl)).2.2, Or.inl sm1⟩
    · simp only [F_X6_annul_37, pe_7 p40, pe_8 p40, t8, g3, pz_bind, pp1, if_true, F_X6_annul_79, pz_kadds, Nat.add_zero]
    · simp only [F_X8_annul, F_X8_annul_0, F_X8_annul_15, F_X8_annul_22, jR_jN R, jR_jM R, jR_ln R, jR_lL R, if_false, jR_ng R (hp), jR_cl R (hp), pz_ge (hp), or_self, if_false, jR_b R jc.2.2.2.2, jR_b R (jk_n hp), z7]
      have t : ∀ x, F_X8_annul_23 x (nI p) (-1) (z (4 * p + 1) 8) z = some ((-1, zp), 0, 0) := fun x => by
        simp only [F_X8_annul_23, pp2, pz_bind, if_true, F_X8_annul_43]
      rw [t, t]
      split <;> rfl
  · have z7 : z (4 * p + 1) 7 = nI l := b7.trans g1
    have cl : (nI l = -1) = False := pz_m1' (by omega)
    have l12 : l < 12 := by omega
    have rz : zp (4 * l + 2) 2 = m 9 (4 * l + 2) := by
      rw [(jR_lr pp3 hl).2.2.1, pp4 9 (by decide), t9]
    have rk := ((jR_c pp3).2 l hl).1
    have m9r : m1 9 (4 * l + 2) = m 9 (4 * l + 2) := by rw [pp4 9 (by decide), t9]
    have z8 : z (4 * p + 1) 8 = m 8 (9 * p + 8) := by
      rcases b8 with h | h
      · rw [z7] at h; exact absurd h (pz_m1 (by omega))
      · exact h
    have R1 := pp3
    /- the giver g, the other one o -/
    have go : ∀ g o : Nat, g < n → o < n → g ≠ o → m 8 (9 * p + 8) = nI g → nI p + nI q - nI g = nI o → F_X8_annul (nI p) z = F_X8_annul_23 (nI o) (nI p) (nI l) (nI g) z → ∃ ans k' m' z' c1 s1, F_X5_annul (nI p) k = some ((0, ans), k') ∧ F_X8_annul (nI p) z = some ((ans, z'), c1, s1) ∧ jSt n L (h0 + 1) (4100 * (c + 1)) y k' m' z' ∧ c1 ≤ 1 ∧ s1 ≤ h0 + 1 ∧ jAn n L m m' := by
      intro g o hg ho hgo eg es ez
      have rf : F_X6_annul_37 (nI p) (nI q) (thr 0 m) = kadd u1 u2 (if m 9 (4 * l + 2) = nI o then F_X6_annul_81 (nI l) (nI g) m1 else some (((-1), m1), 0, 0)) := by
        simp only [F_X6_annul_37, pe_7 p40, pe_8 p40, t8, g1, eg, pz_bind, pp1, cl, if_false, F_X6_annul_64, la_2 l12, m9r, es, F_X6_annul_79]
      have hpR : jM zp = L := jR_jM R1
      have hnR : jN zp = n := jR_jN R1
      have rs : F_X8_annul (nI p) z = if m 9 (4 * l + 2) = nI o then F_X8_annul_45 (nI l) (nI g) zp else some ((-1, zp), 0, 0) := by
        rw [ez]
        have rk' := rk
        rw [rz] at rk'
        simp only [F_X8_annul_23, pp2, pz_bind, cl, if_false, F_X8_annul_34, hpR, hnR, jR_ngL R (hl), jR_clL R (hl), pz_ge (hl), or_self, if_false, rz, jR_b R1 rk', jR_b R1 (jk_n ho), F_X8_annul_43]
      by_cases e : m 9 (4 * l + 2) = nI o
      · rw [if_pos e] at rf rs
        obtain ⟨m2, z2', c1, s1, r1, r2, r3, r4, r5, r6, r7, r8, r9⟩ := jrule_x (v := nI g) R1 hl (jk_n hg) hh
        have r8' := jHd_a (sm1 l) r8
        refine fin (nI l) m2 z2' c1 s1 u1 u2 ?_ ?_ ?_ r6 r7 (by rw [r4 7 (by decide) (by decide), pp4 7 (by decide)]) ⟨(an1 m2 r4).1, (an1 m2 r4).2.1, (an1 m2 r4).2.2, Or.inr ⟨l, g, hl, hg, by rw [e]; exact pz_m1 (by omega), ?_, r8', fun l' hl' => jSm_tr (sm1 l') (r9 l' hl')⟩⟩
        · rw [rf]; simp only [F_X6_annul_81, r1, pz_bind, pz_kadds, Nat.add_zero]
        · rw [rs]
          have at0 : F_X8_annul_54 kN (nI l) 0 z2' = some ((nI l, z2'), 0, 0) := jan_at r3 hl l 0 kN (by omega) (by show l < 4096; omega)
          simp only [F_X8_annul_45, r2, pz_bind, at0, pz_kadds, Nat.add_zero]
        · have e8 : m2 8 = m1 8 := r4 8 (by decide) (by decide)
          show jQ n L (h0 + 1) (m2 8) m2 z2'
          rw [e8]; exact r3
        · rw [e]
          intro h
          exact hgo ((nI_eq (by omega) (by omega)).mp h).symm
      · rw [if_neg e] at rf rs
        refine fin (-1) m1 zp 0 0 u1 u2 ?_ rs (jQ_up pp3 (by omega) (by omega)) (by omega) (by omega) (pp4 7 (by decide)) ⟨(an1 m1 (fun _ _ _ => rfl)).1, (an1 m1 (fun _ _ _ => rfl)).2.1, (an1 m1 (fun _ _ _ => rfl)).2.2, Or.inl sm1⟩
        rw [rf]; simp only [pz_kadds, Nat.add_zero]
    rcases g2 with ⟨ga, -, -⟩ | ⟨ga, -, -⟩
    · refine go p q hp q1 (fun h => q2 h.symm) ga (by rw [nI_add, pk_sub (by omega)]; congr 1; omega) ?_
      have z8' := z8.trans ga
      simp only [F_X8_annul, F_X8_annul_0, F_X8_annul_15, jR_jN R, jR_jM R, jR_ln R, jR_lL R, if_false, jR_ng R (hp), jR_cl R (hp), pz_ge (hp), or_self, if_false, z7, z8', jR_b R (jk_n hp), if_true, z6]
    · refine go q p q1 hp q2 ga (by rw [nI_add, pk_sub (by omega)]; congr 1; omega) ?_
      have z8' := z8.trans ga
      have ne : (nI q = nI p) = False := by rw [pz_eq (by omega) (by omega)]; exact eq_false q2
      simp only [F_X8_annul, F_X8_annul_0, F_X8_annul_22, jR_jN R, jR_jM R, jR_ln R, jR_lL R, if_false, jR_ng R (hp), jR_cl R (hp), pz_ge (hp), or_self, if_false, z7, z8', jR_b R (jk_n hp), jR_b R (jk_n q1), ne]
end ZS
