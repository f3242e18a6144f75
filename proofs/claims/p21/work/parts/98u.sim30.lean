/-! LOOKING AHEAD: rules, foresee -/
theorem kadd_inv {α : Type} {a b c s : Nat} {o : Option (α × Nat × Nat)} {x : α} (h : kadd a b o = some (x, c, s)) : ∃ c' s', o = some (x, c', s') := by
  cases o with
  | none => exact absurd h (by intro q; cases q)
  | some y =>
    obtain ⟨y1, y2, y3⟩ := y
    have h := Option.some.inj h
    have e : y1 = x := congrArg (fun o => o.1) h
    exact ⟨y2, y3, by rw [e]⟩
section ZS
variable {n L h0 H c p q w x r B y y' l ag Y s A U E : Nat} {k k1 k2 k' m m' z z' mc : kS} {v v1 v2 v3 h a b t gv : Int32} {f : Nat → Int32} {P : Nat → Int32}
/-- a year more, nobody has died yet -/
theorem jyr_S1 (S : jSt n L h0 H y k m z) : jSt n L h0 H (y + 1) (kst k 15 (upd (k 15) 0 (nI (y + 1)))) (kst m 11 (upd (m 11) 0 (nI (y + 1)))) (kst z 0 (upd (z 0) 0 (nI (y + 1)))) := by
  obtain ⟨hR, hX, hyk, h39, R, hE⟩ := id S
  have hn := R.1
  have hL := R.2.1
  obtain ⟨k1, hk1⟩ : ∃ x, x = kst k 15 (upd (k 15) 0 (nI (y + 1))) := ⟨_, rfl⟩
  obtain ⟨m1, hm1⟩ : ∃ x, x = kst m 11 (upd (m 11) 0 (nI (y + 1))) := ⟨_, rfl⟩
  obtain ⟨z1, hz1⟩ : ∃ x, x = kst z 0 (upd (z 0) 0 (nI (y + 1))) := ⟨_, rfl⟩
  have kq : ∀ q, q ≠ 15 → k1 q = k q := fun q hq => by rw [hk1, kst_ne _ _ hq]
  have mq : ∀ q, q ≠ 11 → m1 q = m q := fun q hq => by rw [hm1, kst_ne _ _ hq]
  have zq : ∀ q, q ≠ 0 → z1 q = z q := fun q hq => by rw [hz1, kst_ne _ _ hq]
  have ky : k1 15 0 = nI (y + 1) := by rw [hk1, kst_eq, pz_us]
  have my : m1 11 0 = nI (y + 1) := by rw [hm1, kst_eq, pz_us]
  have zy : z1 0 0 = nI (y + 1) := by rw [hz1, kst_eq, pz_us]
  rw [← hk1, ← hm1, ← hz1]
  refine ⟨zRel_cg (Or.inl rfl) hR (fun q h1 _ _ => kq q h1) (fun q _ h2 _ _ _ => mq q h2) (by rw [mq 7 (by decide)]) (by rw [mq 7 (by decide)]) (ky.trans my.symm), zXl_cg hL hX (kq 17 (by decide)) (kq 20 (by decide)) (kq 21 (by decide)) (fun l hl => kq _ (by omega)) (mq 9 (by decide)) (mq 10 (by decide)), ky, fun p hp => by rw [kq 39 (by decide)]; exact h39 p hp, ⟨hn, hL, R.2.2.1, jRa_cg (jR_a R) (zq 4 (by decide)) (zq 8 (by decide)) (zq 12 (by decide)) (zq 20 (by decide)), zy.trans my.symm, fun p hp => jRp_cg (jR_p R hp) (zq _ (by omega)) (fun w _ => by rw [mq 8 (by decide)]), fun l hl => jRl_cg (jR_lr R hl) (zq _ (by omega)) (zq _ (by omega)) (by rw [zq 16 (by decide)]) (fun w _ => by rw [mq 9 (by decide)]) (fun i _ => by rw [mq 10 (by decide)]), ⟨fun p hp => by rw [zq _ (by omega)]; exact (jR_c R).1 p hp, fun l hl => by rw [zq _ (by omega), zq (4 * l + 3) (by omega)]; exact (jR_c R).2 l hl⟩, fun l hl => by rw [zq 16 (by decide)]; exact jR_h R l hl⟩, ?_⟩
  exact jEx_cg (jEx_y hE (show y ≤ y + 1 by omega)) (fun q hq => kq q (by omega)) (fun p w _ _ _ => by rw [mq 8 (by decide)]) (fun l _ => jSm.rf (mq 9 (by decide)) (mq 10 (by decide)))
/-- who is dead stays so -/
theorem jyd_l (hn : n ≤ 40) (hy : y < 2 ^ 30) (hp : p < n) : ∀ (d i : Nat) (k mo zi : kS) (cnt : Int32) (hi Hi g : Nat), i + d = n → d < g → jSt n L hi Hi y k mo zi → hi + 12 * d + 13 < 4000 → Hi + d < 2 ^ 30 → ∀ cnt' mo' uc us, F_X6_yearOn_14 g cnt (nI i) mo = some ((cnt', mo'), uc, us) → mo 8 (9 * p + 2) = 0 → mo' 8 (9 * p + 2) = 0
  | 0, i, k, mo, zi, cnt, hi, Hi, g, hd, hg, S, h1, h2, cnt', mo', uc, us, h, h0 => by
    obtain ⟨g, rfl⟩ : ∃ x, g = x + 1 := ⟨g - 1, by omega⟩
    obtain rfl : i = n := by omega
    have e7 : mo 7 1 = nI i := S.1.1.2.2.1
    simp only [F_X6_yearOn_14, F_X6_yearOn_58, e7, pz_cT (show i < 2 ^ 31 by omega), if_true] at h
    have h := Option.some.inj h
    have em : mo = mo' := congrArg (fun o => o.1.2) h
    rw [← em]; exact h0
  | d + 1, i, k, mo, zi, cnt, hi, Hi, g, hd, hg, S, h1, h2, cnt', mo', uc, us, h, h0 => by
    obtain ⟨g, rfl⟩ : ∃ x, g = x + 1 := ⟨g - 1, by omega⟩
    have hin : i < n := by omega
    have e7 : mo 7 1 = nI n := S.1.1.2.2.1
    have c := pz_cF hin (show n < 2 ^ 31 by omega)
    rcases S.1.2.1 i hin with ⟨l1, l2⟩ | ⟨l1, l2⟩
    · by_cases g80 : 80 ≤ mo 11 0 - mo 8 (9 * i + 1)
      · obtain ⟨x, k1, m1, z1, c1, s1, uc1, us1, -, f2, f3, f4, f5, f6, f7, f8, f9, f10, f11⟩ := jdie_st S hin l1 hy (by omega) (by omega)
        simp only [F_X6_yearOn_14, F_X6_yearOn_22, F_X6_yearOn_30, F_X6_yearOn_43, F_X6_yearOn_52, e7, c, if_false, ri_1 (show i < 40 by omega) l2, pz_bind, pz_10, ra_1 (show i < 40 by omega), g80, if_true, f2, nI_1] at h
        obtain ⟨c', s', h⟩ := kadd_inv h
        refine jyd_l hn hy hp d (i + 1) k1 m1 z1 _ (hi + 12) (Hi + 1) g (by omega) (by omega) f4 (by omega) (by omega) _ _ _ _ h ?_
        by_cases e : p = i
        · rw [e]; exact f7.2.1
        · rw [f7.2.2.2.1 p 2 (by decide) (by decide) (by decide) (by decide) (Or.inl e)]; exact h0
      · simp only [F_X6_yearOn_14, F_X6_yearOn_22, F_X6_yearOn_30, F_X6_yearOn_40, F_X6_yearOn_52, e7, c, if_false, ri_1 (show i < 40 by omega) l2, pz_bind, pz_10, ra_1 (show i < 40 by omega), g80, nI_1] at h
        exact jyd_l hn hy hp d (i + 1) k mo zi _ hi Hi g (by omega) (by omega) S (by omega) (by omega) _ _ _ _ h h0
    · simp only [F_X6_yearOn_14, F_X6_yearOn_22, F_X6_yearOn_52, e7, c, if_false, ri_0 (show i < 40 by omega) l2, pz_bind, pz_00, if_true, nI_1] at h
      exact jyd_l hn hy hp d (i + 1) k mo zi _ hi Hi g (by omega) (by omega) S (by omega) (by omega) _ _ _ _ h h0
theorem jyd_x {d : Int32} {uc us : Nat} (S : jSt n L h0 H y k m z) (hy : y + 1 < 2 ^ 30) (hp : p < n) (hh : h0 + 12 * 41 + 13 < 4000) (hH : H + 41 < 2 ^ 30) (h : F_X6_yearOn m = some ((d, m'), uc, us)) (hd : m 8 (9 * p + 2) = 0) : m' 8 (9 * p + 2) = 0 := by
  have hn := S.1.1.1
  have S1 := jyr_S1 S
  have e2 : m 11 0 + 1 = nI (y + 1) := by rw [jSt_ye S, nI_1]
  simp only [F_X6_yearOn, F_X6_yearOn_0, pz_cl0, pz_0lt, pz_1le0, or_self, if_false, e2] at h
  exact jyd_l hn hy hp n 0 _ _ _ 0 h0 H kN (by omega) (by show n < 4096; omega) S1 (by omega) (by omega) _ _ _ _ h (by rw [kst_ne _ _ (by decide)]; exact hd)
/-- a look ahead leaves all as it is -/
theorem jSt_far (S : jSt n L h0 H y k m z) (hlo : ∀ q, q < 30 → k1 q = k q) (hpast : ∀ q, 45 ≤ q → q < 57 → k1 q = k q) (hhi : ∀ q, 69 ≤ q → k1 q = k q) (h39 : ∀ p, p < 40 → k1 39 p = -1) : jSt n L h0 H y k1 m z := by
  obtain ⟨⟨hK, hLv, ⟨w1, w2, w3, w4, w5⟩, hMW, hRu, h15, h30⟩, s2, s3, s4, s5, s6⟩ := S
  refine ⟨⟨zKin_k hK (fun q hq => hlo q (by omega)) hhi, fun p hp => ?_, ⟨w1, ?_, w3, ?_, fun l hl => ?_⟩, hMW, fun l hl => ?_, fun _ => ?_, fun h => absurd h (by decide)⟩, zXl_cg (m := m) (m' := m) w1 s2 (hlo 17 (by decide)) (hlo 20 (by decide)) (hlo 21 (by decide)) (fun l hl => hpast _ (by omega) (by omega)) rfl rfl, by rw [hlo 15 (by decide)]; exact s3, h39, s5, jEx_cg s6 (fun q hq => hhi q hq) (fun _ _ _ _ _ => rfl) (fun _ _ => jSm.rf rfl rfl)⟩
  · rw [hlo (15 + 14) (by decide)]; exact hLv p hp
  · rw [hlo (15 + 1) (by decide)]; exact w2
  · rw [hlo 15 (by decide)]; exact w4
  · rw [hlo (15 + 3) (by decide), hlo (15 + 4) (by decide)]; exact w5 l hl
  · rw [hlo (15 + 4) (by decide), hlo (15 + 14) (by decide)]; exact hRu l hl
  · have := h15 rfl
    unfold zXp zXq zMar zTr at *
    rw [hlo 24 (by decide), hlo 25 (by decide), hlo 29 (by decide)]
    exact this
theorem rd_fo (S : jSt n L h0 H y k m z) (hy : y < 2 ^ 28) (hl : l < L) : ∃ g k1, F_X5_foresee 2 (nI l) k = some ((0, g), k1) ∧ jSt n L h0 H y k1 m z ∧ ∀ d m' uc us, F_X6_yearsOn 2 m = some ((d, m'), uc, us) → g = m' 9 (4 * l + 2) := by
  have hL := S.1.2.2.1.1
  have hk2 : k 16 0 = nI L := S.1.2.2.1.2.1
  obtain ⟨k1, s1, s2, s3, s4, s5⟩ := st_r S.1 S.2.2.2.1
  obtain ⟨d, k', m', uc, us, g1, g2, g3, _, g5, g6, g7, g8, g9⟩ := lp_x (hH := 0) (Y := 2) k30 s2 (by rw [s5]; exact S.2.2.1) (by decide) (by omega) (fun h => absurd h (by decide)) (by decide)
  obtain ⟨f1, f2, _, f4, _⟩ := g5
  have e : F_X5_foresee (nI 2) (nI l) k = some ((0, k' (30 + 4) l), k') := by
    simp only [F_X5_foresee, F_X5_foresee_0, ny_1 (k := k) (Y := 2) (by decide) (by decide), nl_1 hL hk2 hl, pz_bind, pz_nz, if_true, s1, g1, ru_1 (B := 30) hL g3.2.2.1.2.1 hl]
  refine ⟨k' (30 + 4) l, k', e, jSt_far S (fun q hq => ((f4 rfl).1 q hq).trans (s3 q hq)) (fun q h1 h2 => ((f4 rfl).2 q h1 h2).trans (s4 q h1)) (fun q hq => (f2 q hq).trans (s4 q (by omega))) (g3.2.2.2.2.2.2 rfl), fun d2 m2 uc2 us2 h2 => ?_⟩
  have g2 : F_X6_yearsOn 2 m = some ((d, m'), uc, us) := g2
  rw [g2] at h2
  have h2 := Option.some.inj h2
  have em : m' = m2 := congrArg (fun o => o.1.2) h2
  rw [← em]
  exact (g3.2.2.1.2.2.2.2 l hl).2.1.symm
theorem rs_r : ∀ (g i : Nat) (k : kS) (r : Int32) (k' : kS), i ≤ 101 → F_X5_rules_18 g v (nI i) k = some ((0, r), k') → r = -1 ∨ ∃ j, i ≤ j ∧ j ≤ 100 ∧ r = nI j
  | 0, i, k, r, k', hi, h => by
    exact absurd h (by intro q; cases q)
  | g + 1, i, k, r, k', hi, h => by
    by_cases c : i = 101
    · have c1 : ((100 : Int32) < nI i) = True := by rw [c]; exact eq_true (by decide)
      simp only [F_X5_rules_18, c1, if_true, F_X5_rules_55] at h
      have h := Option.some.inj h
      exact Or.inl (congrArg (fun o => o.1.2) h).symm
    · have c1 : ((100 : Int32) < nI i) = False := eq_false (nI_nlt (b := i) (a := 100) (by omega) (by decide))
      simp only [F_X5_rules_18, c1, if_false, F_X5_rules_24] at h
      cases hu : F_X1_numberUnder 30 k v with
      | none => rw [hu] at h; exact absurd h (by intro q; cases q)
      | some u =>
        rw [hu, pz_bind] at h
        by_cases hc : u ≤ 0
        · rw [if_pos hc] at h
          unfold F_X5_rules_40 at h
          cases ho : F_X4_letPass 30 1 k with
          | none => rw [ho] at h; exact absurd h (by intro q; cases q)
          | some o =>
            rw [ho, pz_bind, nI_1] at h
            rcases rs_r g (i + 1) o.2 r k' (by omega) h with e | ⟨j, j1, j2, j3⟩
            · exact Or.inl e
            · exact Or.inr ⟨j, by omega, j2, j3⟩
        · rw [if_neg hc] at h
          unfold F_X5_rules_38 at h
          have h := Option.some.inj h
          exact Or.inr ⟨i, Nat.le_refl _, by omega, (congrArg (fun o => o.1.2) h).symm⟩
theorem nI_le0 {c : Nat} (h : c < 2 ^ 31) : (nI c ≤ 0) = (c = 0) := by
  have : (nI c ≤ nI 0) = (c ≤ 0) := pz_le h (by decide)
  rw [show (0 : Int32) = nI 0 from rfl, this]
  exact propext ⟨fun q => by omega, fun q => by omega⟩
theorem zcnt_none {A : Nat → Prop} : ∀ {n : Nat}, (∀ c, c < n → ¬ A c) → zcnt A n = 0
  | 0, _ => rfl
  | n + 1, h => by rw [zcnt_s0 (h n (by omega)), zcnt_none (fun c hc => h c (by omega))]
/-- who is dead will rule nothing -/
theorem rs_v (hp : p < n) : ∀ (dd i : Nat) (k kk m z : kS) (hh HH g : Nat), i + dd = 100 → zRel 30 n L k m → k 30 0 = nI (y + i) → y + 200 < 2 ^ 28 → dd + 1 < g → jSt n L hh HH (y + i) kk m z → hh + 12 * zAl 15 n kk + 12 * 41 + 13 < 4000 → HH + 41 * dd + 41 * 41 < 2 ^ 29 → m 8 (9 * p + 2) = 0 → ∃ k', F_X5_rules_18 g (nI p) (nI i) k = some ((0, -1), k')
  | dd, i, k, kk, m, z, hh, HH, g, hd, hR, hy, hy2, hg, S, hh0, hH, h0 => by
    have hn := hR.1.1
    have hL := hR.2.2.1.1
    obtain ⟨g, rfl⟩ : ∃ x, g = x + 1 := ⟨g - 1, by omega⟩
    have c1 : ((100 : Int32) < nI i) = False := eq_false (nI_nlt (b := i) (a := 100) (by omega) (by decide))
    have no : zcnt (fun l => k 34 l = nI p) L = 0 := zcnt_none (fun l hl e => by
      rcases hR.2.2.2.2.1 l hl with g | ⟨q, q1, q2, q3⟩
      · rw [show k (30 + 4) l = nI p from e] at g; exact pz_m1 (by omega) g
      · rw [show k (30 + 4) l = nI p from e, nI_eq (by omega) (by omega)] at q2
        subst q2
        rcases hR.2.1 p hp with ⟨-, g⟩ | ⟨g, -⟩
        · rw [h0] at g; exact absurd g (by decide)
        · exact g q3)
    have nu : F_X1_numberUnder 30 k (nI p) = some (nI 0) := by
      rw [nu_v (B := 30) hL hR.2.2.1.2.1]
      show some (nI (zcnt (fun l => k 34 l = nI p) L)) = _
      rw [no]
    obtain ⟨d, k2, m2, u1, u2, g1, g2, g3, g4, g5, g6, g7, g8⟩ := y1_x hR hy (by omega)
    have al := zAl_b (n := n) (k := kk)
    obtain ⟨d9, k9, m9, z9, c9, s9, uc9, us9, h9, H9, a1, a2, a3, a4, a5, a6, a7, -⟩ := jyr_x S (by omega) (by omega) (by omega)
    have em : m2 = m9 := by
      rw [g2] at a1
      exact congrArg (fun o => o.1.2) (Option.some.inj a1)
    subst em
    have hd2 := jyd_x S (by omega) hp (by omega) (by omega) g2 h0
    have c0 : (nI 0 ≤ 0) = True := eq_true (by decide)
    have e : F_X5_rules_18 (g + 1) (nI p) (nI i) k = F_X5_rules_18 g (nI p) (nI (i + 1)) k2 := by
      simp only [F_X5_rules_18, c1, if_false, F_X5_rules_24, nu, pz_bind, c0, if_true, F_X5_rules_40, g1, nI_1]
    rw [e]
    match dd, hd, hg, hH with
    | 0, hd, hg, hH =>
      obtain ⟨g, rfl⟩ : ∃ x, g = x + 1 := ⟨g - 1, by omega⟩
      have c3 : ((100 : Int32) < nI (i + 1)) = True := by rw [show i + 1 = 101 by omega]; exact eq_true (by decide)
      exact ⟨k2, by simp only [F_X5_rules_18, c3, if_true, F_X5_rules_55]⟩
    | dd + 1, hd, hg, hH => exact rs_v hp dd (i + 1) k2 k9 m2 z9 h9 H9 g (by omega) g3 (by rw [g6]; rfl) hy2 (by omega) a3 (by omega) (by omega) hd2
theorem rd_rs (S : jSt n L h0 H y k m z) (hy : y < 2 ^ 27) (hp : p < n) (hh : h0 + 12 * zAl 15 n k + 12 * 41 + 13 < 4000) (hH : H < 2 ^ 28) : ∃ g k1, F_X5_rules (nI p) k = some ((0, g), k1) ∧ jSt n L h0 H y k1 m z ∧ (zcnt (fun l => m 9 (4 * l + 2) = nI p) L ≠ 0 → g = 0) ∧ (zcnt (fun l => m 9 (4 * l + 2) = nI p) L = 0 → g ≠ 0) ∧ (m 8 (9 * p + 2) = 0 → g = -1) := by
  have hn := S.1.1.1
  have hL := S.1.2.2.1.1
  have hk := S.1.1.2.1
  obtain ⟨k1, s1, s2, s3, s4, s5⟩ := st_r S.1 S.2.2.2.1
  have hy1 : k1 30 0 = nI (y + 0) := by rw [s5]; exact S.2.2.1
  obtain ⟨r, k', m', uc, us, g1, g2, g3, g4, g5, g6, g7⟩ := rs_l (v1 := nI p) (xf := m) (y := y) 100 0 k1 m kN kN (by omega) s2 hy1 (by omega) (by show 101 < 4096; omega) (by show 100 < 4096; omega)
  obtain ⟨f1, f2, _, f4, _⟩ := g3
  have eq : F_X5_rules (nI p) k = some ((0, r), k') := by
    simp only [F_X5_rules, F_X5_rules_0, np_1 hn hk hp, pz_bind, pz_nz, if_true, s1]
    exact g1
  refine ⟨r, k', eq, jSt_far S (fun q hq => ((f4 rfl).1 q hq).trans (s3 q hq)) (fun q h1 h2 => ((f4 rfl).2 q h1 h2).trans (s4 q h1)) (fun q hq => (f2 q hq).trans (s4 q (by omega))) g4, ?_⟩
  have cnt : zcnt (fun l => m 9 (4 * l + 2) = nI p) L = zcnt (fun l => k1 34 l = nI p) L := zcnt_congr L (fun l hl => by
    have e := (s2.2.2.1.2.2.2.2 l hl).2.1
    exact ⟨fun q => e.symm.trans q, fun q => e.trans q⟩)
  have nu := nu_v (B := 30) (v := nI p) hL s2.2.2.1.2.1
  have nu : F_X1_numberUnder 30 k1 (nI p) = some (nI (zcnt (fun l => m 9 (4 * l + 2) = nI p) L)) := by rw [cnt]; exact nu
  have zl := zcnt_le (fun l => m 9 (4 * l + 2) = nI p) L
  have c1 : ((100 : Int32) < nI 0) = False := eq_false (by decide)
  have st : F_X5_rules_18 kN (nI p) (nI 0) k1 = if nI (zcnt (fun l => m 9 (4 * l + 2) = nI p) L) ≤ 0 then F_X5_rules_40 (F_X5_rules_18 4095) (nI p) (nI 0) k1 else F_X5_rules_38 (nI 0) k1 := by
    have e : F_X5_rules_18 kN (nI p) (nI 0) k1 = if 100 < nI 0 then F_X5_rules_55 k1 else F_X5_rules_24 (F_X5_rules_18 4095) (nI p) (nI 0) k1 := rfl
    rw [e, if_neg (fun g => by rw [c1] at g; exact g)]
    unfold F_X5_rules_24
    rw [nu, pz_bind]
  have le := nI_le0 (c := zcnt (fun l => m 9 (4 * l + 2) = nI p) L) (by omega)
  refine ⟨fun hc => ?_, fun hc => ?_, fun hd => ?_⟩
  · rw [if_neg (by rw [le]; exact hc)] at st
    rw [st] at g1
    exact (congrArg (fun o => o.1.2) (Option.some.inj g1)).symm
  · rw [if_pos (by rw [le]; exact hc)] at st
    rw [st] at g1
    unfold F_X5_rules_40 at g1
    cases ho : F_X4_letPass 30 1 k1 with
    | none => rw [ho] at g1; exact absurd g1 (by intro q; cases q)
    | some o =>
      rw [ho, pz_bind, nI_1] at g1
      rcases rs_r 4095 (0 + 1) o.2 r k' (by omega) g1 with e | ⟨j, j1, j2, j3⟩
      · rw [e]; decide
      · rw [j3]; exact nI_ne0 (by omega) (by omega)
  · have al := zAl_b (n := n) (k := k)
    obtain ⟨k9, h9⟩ := rs_v hp 100 0 k1 k m z h0 H kN (by omega) s2 hy1 (by omega) (by show 101 < 4096; omega) S hh (by omega) hd
    rw [h9] at g1
    exact (congrArg (fun o => o.1.2) (Option.some.inj g1)).symm
end ZS
