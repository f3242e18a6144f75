/-! MARRY, in all three -/
def jMr (n L : Nat) (m m' : kS) (A U : Nat) : Prop := (∀ q, q ≠ 7 → q ≠ 8 → q ≠ 9 → q ≠ 10 → q ≠ 12 → q ≠ 13 → m' q = m q) ∧ (∀ p w, w < 9 → w ≠ 5 → w ≠ 7 → w ≠ 8 → m' 8 (9 * p + w) = m 8 (9 * p + w)) ∧ m' 8 (9 * A + 5) = nI U ∧ m' 8 (9 * U + 5) = nI A ∧ (∀ p, p ≠ A → p ≠ U → m' 8 (9 * p + 5) = m 8 (9 * p + 5) ∧ m' 8 (9 * p + 7) = m 8 (9 * p + 7)) ∧ ((∀ l, jSm m m' l) ∨ ∃ l g, l < L ∧ g < n ∧ m 9 (4 * l + 2) ≠ -1 ∧ m 9 (4 * l + 2) ≠ nI g ∧ jHd m m' l (nI g) ∧ ∀ l', l' ≠ l → jSm m m' l')
section ZS
variable {n L h0 H c p q w r B y y' l ag Y s A U : Nat} {k k' m m' z z' mc : kS} {v v1 v2 v3 h a b t d gv : Int32} {f : Nat → Int32} {P : Nat → Int32}
theorem jage {x : Int32} (h1 : -100 ≤ x.toInt) (h2 : x.toInt ≤ y) (hy : y < 2 ^ 30) : (nI y - x).toInt = (y : Int) - x.toInt := by
  rw [Int32.toInt_sub, nI_toInt (by omega), Int.bmod_def]
  omega
theorem jage16 {x : Int32} (h1 : -100 ≤ x.toInt) (h2 : x.toInt ≤ y) (hy : y < 2 ^ 30) (h : ¬ nI y - x < 16) : x.toInt + 16 ≤ y := by
  rw [Int32.lt_iff_toInt_lt, jage h1 h2 hy, show (16 : Int32).toInt = 16 from rfl] at h
  omega
theorem jEx_ma (R : jR n L h0 m z) (hX : jEx n L y k m) (hA : jMr n L m m' A U) (ha : A < n) (hu : U < n) (hk : ∀ p q, p < n → q < n → k' (69 + p) q = k (69 + p) q)
    (gA : (m 8 (9 * A + 1)).toInt + 16 ≤ y) (gU : (m 8 (9 * U + 1)).toInt + 16 ≤ y) (sx : m 8 (9 * A) ≠ m 8 (9 * U)) (ds : k (69 + A) U = -1 ∨ ∃ t, 3 ≤ t ∧ t ≤ 80 ∧ k (69 + A) U = nI t) (ds2 : k (69 + U) A = -1 ∨ ∃ t, 3 ≤ t ∧ t ≤ 80 ∧ k (69 + U) A = nI t) : jEx n L y k' m' := by
  obtain ⟨x1, x2, x3, x4, x5, x6, x7⟩ := hX
  obtain ⟨d1, d2, d3, d4, d5, d6⟩ := hA
  have hn := R.1
  have e0 : ∀ p, m' 8 (9 * p) = m 8 (9 * p) := fun p => d2 p 0 (by decide) (by decide) (by decide) (by decide)
  have e1 : ∀ p, m' 8 (9 * p + 1) = m 8 (9 * p + 1) := fun p => d2 p 1 (by decide) (by decide) (by decide) (by decide)
  have e3 : ∀ p, m' 8 (9 * p + 3) = m 8 (9 * p + 3) := fun p => d2 p 3 (by decide) (by decide) (by decide) (by decide)
  have e4 : ∀ p, m' 8 (9 * p + 4) = m 8 (9 * p + 4) := fun p => d2 p 4 (by decide) (by decide) (by decide) (by decide)
  refine ⟨fun p hp => by rw [e1]; exact x1 p hp, fun p x hp hx h => ?_, fun p x hp hx => ?_, fun p q hp hq e => ?_, fun p hp => ?_, fun l hl => ?_, fun p hp => ?_⟩
  · rw [e3, e4] at h; rw [e1, e1]; exact x2 p x hp hx h
  · rw [e3, e4, e0]; exact x3 p x hp hx
  · rw [e1, e0, e0, hk p q hp hq]
    by_cases pA : p = A
    · subst pA
      rw [d3, nI_eq (by omega) (by omega)] at e
      subst e
      exact ⟨gA, sx, ds⟩
    · by_cases pU : p = U
      · subst pU
        rw [d4, nI_eq (by omega) (by omega)] at e
        subst e
        exact ⟨gU, fun h => sx h.symm, ds2⟩
      · rw [(d5 p pA pU).1] at e
        exact x4 p q hp hq e
  · rw [e1, d2 p 2 (by decide) (by decide) (by decide) (by decide), d2 p 6 (by decide) (by decide) (by decide) (by decide)]; exact x5 p hp
  · have same : jSm m m' l → (m' 9 (4 * l + 2) = -1 ∨ ∃ h, 1 ≤ h ∧ h ≤ 4001 ∧ m' 9 (4 * l + 3) = nI h ∧ m' 10 (15 * l) = m' 9 (4 * l + 2)) := fun g => by
      rw [g.1 2 (by decide), g.1 3 (by decide), show m' 10 (15 * l) = m 10 (15 * l) from g.2 0 (by decide)]; exact x6 l hl
    rcases d6 with g | ⟨l1, g, a1, a2, a3, a4, a5, a6⟩
    · exact same (g l)
    · by_cases e : l = l1
      · subst e; exact jHd_x6 R hl a5
      · exact same (a6 l e)
  · by_cases pA : p = A
    · subst pA; rw [d3]; exact fun h => absurd h (pz_m1 (by omega))
    · by_cases pU : p = U
      · subst pU; rw [d4]; exact fun h => absurd h (pz_m1 (by omega))
      · rw [(d5 p pA pU).1, (d5 p pA pU).2]; exact x7 p hp
theorem jwo_r (hL : L ≤ 12) (hm : m 7 2 = nI L) (hw : ∀ l, l < L → ∃ t, t ≤ 50 ∧ m 9 (4 * l) = nI t) : F_X6_worthOf m v = some (nI (zws m v L)) := by
  obtain ⟨u, h1, rfl⟩ := pz_loop10 (α := Int32) (fun g i u => F_X6_worthOf_4 m g v u (nI i)) (fun u => some u) L (fun i u => u = nI (zws m v i))
    (fun u _ g => by
      simp only [F_X6_worthOf_33, F_X6_worthOf_23, F_X6_worthOf_32, F_X6_worthOf_12, F_X6_worthOf_41, F_X6_worthOf_4, F_X6_worthOf_0, F_X6_worthOf, hm, pz_cT (show L < 2 ^ 31 by omega), if_true])
    (fun i u hi hI => by
      subst hI
      have c := pz_cF hi (show L < 2 ^ 31 by omega)
      obtain ⟨t, ht, et⟩ := hw i hi
      by_cases h : m 9 (4 * i + 2) = v
      · refine ⟨nI (zws m v (i + 1)), fun g => ?_, rfl⟩
        simp only [F_X6_worthOf_33, F_X6_worthOf_23, F_X6_worthOf_32, F_X6_worthOf_12, F_X6_worthOf_41, F_X6_worthOf_4, F_X6_worthOf_0, F_X6_worthOf, hm, c, if_false, la_2 (show i < 12 by omega), la_0 (show i < 12 by omega), pz_bind, if_pos h, et, nI_add, nI_1, zws, nI_clamp (show t < 2 ^ 31 by omega)]
      · refine ⟨nI (zws m v (i + 1)), fun g => ?_, rfl⟩
        simp only [F_X6_worthOf_33, F_X6_worthOf_23, F_X6_worthOf_32, F_X6_worthOf_12, F_X6_worthOf_41, F_X6_worthOf_4, F_X6_worthOf_0, F_X6_worthOf, hm, c, if_false, la_2 (show i < 12 by omega), pz_bind, if_neg h, nI_1, Int32.add_zero, zws, Nat.add_zero])
    (by omega) (a := 0) rfl
  simp only [F_X6_worthOf, F_X6_worthOf_0]
  exact h1
theorem jSt_wo (S : jSt n L h0 H y k m z) : ∀ l, l < L → ∃ t, t ≤ 50 ∧ m 9 (4 * l) = nI t := fun l hl => by
  obtain ⟨e, ⟨t, ht, et⟩, -⟩ := S.2.1.1 l hl
  exact ⟨t, ht, e.trans et⟩
theorem jmarry_st (S : jSt n L h0 (4100 * c) y k m z) (hy : y ≤ 100 * c) (hc : c < 600) (ha : A < n) (hu : U < n) (hcan : jCan k A U) (hv : v3 = -1 ∨ ∃ l, l < L ∧ v3 = nI l ∧ (m 9 (4 * l + 2) = nI A ∨ m 9 (4 * l + 2) = nI U)) (hh : h0 < 4000) : ∃ wA wU k' m' z' c1 s1, F_X5_marry (nI A) (nI U) v3 k = some ((0, wA + wU), k') ∧ F_X8_marry (nI A) (nI U) v3 z = some (z', c1, s1) ∧ F_X8_worth z' (nI A) = some wA ∧ F_X8_worth z' (nI U) = some wU ∧ jSt n L (h0 + 1) (4100 * (c + 1)) y k' m' z' ∧ c1 ≤ 1 ∧ s1 ≤ h0 + 1 ∧ jMr n L m m' A U := by
  obtain ⟨code, r, k', b, m', z1, z2, z3, z4⟩ := zM_marry (v1 := nI A) (v2 := nI U) (v3 := v3) (jAll_of S hy) (by omega)
  have R0 := S.2.2.2.2.1
  have hn := R0.1
  have hL := R0.2.1
  have hLv := jSt_lv S (by omega)
  have hR0 := zRel_thr (v := 0) S.1
  have hm : thr 0 m 7 1 = nI n := thr_1.trans S.1.1.2.2.1
  have hm2 : thr 0 m 7 2 = nI L := thr_2.trans S.1.2.2.1.2.2.1
  have a40 : A < 40 := by omega
  have u40 : U < 40 := by omega
  have hab : A ≠ U := fun h => hcan.2.2.1 (by rw [h])
  obtain ⟨t, mc, s1, s2, s3, -⟩ := mm_x (B := 15) hR0.1 hR0.2.1 hR0.2.2.1.2.2.2.1 (fun p hp => ((hR0.2.2.2.2.2.1 rfl).1.2.1 p hp).1) ha hu
  have t1 : t = 1 := by
    obtain ⟨r', q1, -, q3⟩ := jcn_x R0 S.1.1 hLv ((jSt_z0 S).trans S.2.2.1.symm) (fun p hp => (jR_p R0 hp).2.2.2.2.2.2.1.trans (jSt_k24 S hp)) ha hu
    rw [s1] at q1
    have := Option.some.inj q1
    rcases q3 with ⟨g, -⟩ | ⟨-, g⟩
    · exact this.trans g
    · exact absurd hcan g
  subst t1
  have mcq : ∀ q, q ≠ 7 → q ≠ 12 → q ≠ 13 → mc q = m q := fun q h1 h2 h3 => by rw [s3 q h2 h3, thr_n h1]
  have mc7 : mc 7 = (thr 0 m) 7 := s3 7 (by decide) (by decide)
  have mc8 : mc 8 = m 8 := mcq 8 (by decide) (by decide) (by decide)
  have Rc : jR n L h0 mc z := jR_off (jR_thr R0) s3
  have h24 : ∀ p, p < n → k 24 p = -1 → m 8 (9 * p + 7) = -1 := fun p hp h => S.2.2.2.2.2.2.2.2.2.2.2 p hp ((jSt_k24 S hp).trans h)
  have ref : F_X6_marry (nI A) (nI U) v3 m = F_X6_marry_49 (nI A) (nI U) v3 mc := by
    have r40 : F_X6_marry_40 (nI A) (nI U) v3 (thr 0 m) = F_X6_marry_49 (nI A) (nI U) v3 mc := by
      simp only [F_X6_marry_40, s2, pz_bind, pz_10, if_false]
    simp only [F_X6_marry, F_X6_marry_0, thr_e, ip_1 hn hm ha, ip_1 hn hm hu, pz_bind, pz_10, if_false, F_X6_marry_13, F_X6_marry_21]
    rcases hv with h | ⟨l, hl, h, -⟩
    · rw [if_pos h]; exact r40
    · rw [h] at r40 ⊢
      rw [if_neg (pz_m1 (by omega))]
      simp only [F_X6_marry_26, il_1 hL hm2 hl, pz_bind, pz_10, if_false]
      exact r40
  have sets : ∀ gv, F_X6_marry_109 gv (nI A) (nI U) v3 (kst mc 8 (upd (upd (mc 8) (9 * A + 5) (nI U)) (9 * U + 5) (nI A))) = if v3 = -1 then F_X6_marry_161 (nI A) (nI U) (kst mc 8 (zWed A U v3 gv (mc 8))) else F_X6_marry_150 (nI A) (nI U) v3 gv (kst mc 8 (zWed A U v3 gv (mc 8))) := by
    intro gv
    simp only [F_X6_marry_109, (p3_s a40).2.1, (p3_s u40).2.1, (p3_s a40).2.2, (p3_s u40).2.2, pz_bind, kst_eq, kst_kst]
    rfl
  have e80 : F_X6_marry_80 (nI A) (nI U) v3 mc = if v3 = -1 then F_X6_marry_99 (nI A) (nI U) v3 (kst mc 8 (upd (upd (mc 8) (9 * A + 5) (nI U)) (9 * U + 5) (nI A))) else F_X6_marry_103 (nI A) (nI U) v3 (kst mc 8 (upd (upd (mc 8) (9 * A + 5) (nI U)) (9 * U + 5) (nI A))) := by
    simp only [F_X6_marry_80, (p3_s a40).1, (p3_s u40).1, pz_bind, kst_eq, kst_kst]
  have mc9 : mc 9 = m 9 := mcq 9 (by decide) (by decide) (by decide)
  have mc10 : mc 10 = m 10 := mcq 10 (by decide) (by decide) (by decide)
  /- both ends -/
  have fin : ∀ (m2 z2' : kS) (c1 s1 : Nat), F_X6_marry_49 (nI A) (nI U) v3 mc = F_X6_marry_161 (nI A) (nI U) m2 → F_X8_marry (nI A) (nI U) v3 z = some (z2', c1, s1) → jR n L (h0 + 1) m2 z2' → c1 ≤ 1 → s1 ≤ h0 + 1 → m2 7 = mc 7 → (∀ l, l < L → m2 9 (4 * l) = m 9 (4 * l)) → jMr n L m m2 A U → ∃ wA wU k' m' z' c1 s1, F_X5_marry (nI A) (nI U) v3 k = some ((0, wA + wU), k') ∧ F_X8_marry (nI A) (nI U) v3 z = some (z', c1, s1) ∧ F_X8_worth z' (nI A) = some wA ∧ F_X8_worth z' (nI U) = some wU ∧ jSt n L (h0 + 1) (4100 * (c + 1)) y k' m' z' ∧ c1 ≤ 1 ∧ s1 ≤ h0 + 1 ∧ jMr n L m m' A U := by
    intro m2 z2' c1 s1 f1 f2 f3 f4 f5 f6 f7 f8
    have e72 : m2 7 2 = nI L := by rw [f6, mc7]; exact hm2
    have e71 : m2 7 1 = nI n := by rw [f6, mc7]; exact hm
    have wo : ∀ l, l < L → ∃ t, t ≤ 50 ∧ m2 9 (4 * l) = nI t := fun l hl => by rw [f7 l hl]; exact jSt_wo S l hl
    have g1 : F_X6_marry (nI A) (nI U) v3 m = some (nI (zws m2 (nI A) L) + nI (zws m2 (nI U) L), m2) := by
      rw [ref, f1]
      simp only [F_X6_marry_161, jwo_r hL e72 wo, pz_bind]
    rw [z2] at g1
    have g1 := Option.some.inj g1
    have eb : b = nI (zws m2 (nI A) L) + nI (zws m2 (nI U) L) := congrArg (fun o => o.1) g1
    have em : m' = m2 := congrArg (fun o => o.2) g1
    subst em
    subst eb
    have e70 : m' 7 0 = 0 := by rw [f6, mc7]; exact thr_0
    obtain ⟨e1, e2⟩ : code = 0 ∧ r = nI (zws m' (nI A) L) + nI (zws m' (nI U) L) := by
      rw [e70] at z3
      rcases z3 with ⟨g1, g2, -⟩ | ⟨-, g, -⟩ | ⟨-, -, g⟩ | ⟨-, -, g⟩
      · exact ⟨g1, g2⟩
      · exact absurd rfl g
      · exact absurd g (by decide)
      · exact absurd g (by decide)
    subst e1
    subst e2
    have k3 : ∀ p, p < n → (m 8 (9 * p + 1)) = k 3 p := fun p hp => (S.1.1.2.2.2.1 p hp).2.1
    have age : ∀ p, p < n → jFr k p → (m 8 (9 * p + 1)).toInt + 16 ≤ y := fun p hp hf => by
      have x1 := S.2.2.2.2.2.1 p hp
      refine jage16 x1.1 x1.2 (by omega) ?_
      rw [k3 p hp, ← S.2.2.1]; exact hf.2.2
    have sym : k (69 + U) A = k (69 + A) U := by
      have hs := S.1.1.2.2.2.2.2.2
      rcases hs A U ha hu with ⟨e1, e2⟩ | ⟨p, d, e, p1, p2, p3, p4⟩
      · rcases hs U A hu ha with ⟨f1, -⟩ | ⟨p', d', e', q1, q2, -, -⟩
        · rw [e1, f1]
        · exact absurd q1 (e2 p' e' d' q2)
      · rcases hs U A hu ha with ⟨-, f2⟩ | ⟨p', d', e', q1, q2, q3, q4⟩
        · exact absurd p1 (f2 p e d p2)
        · have := p4 p' e' d' q2 q1
          have := q4 p e d p2 p1
          rw [p3, q3, show d + e = d' + e' by omega]
    refine ⟨_, _, k', m', z2', c1, s1, z1, f2, jwo_x f3 (jk_n ha) wo, jwo_x f3 (jk_n hu) wo, jSt_of z4 e71 e72 (by rw [f8.1 11 (by decide) (by decide) (by decide) (by decide) (by decide) (by decide)]; exact jSt_ye S) hn hL (by omega) (by omega) f3 ?_, f4, f5, f8⟩
    refine jEx_ma R0 S.2.2.2.2.2 f8 ha hu (jSteps_m S.1.1 (zAll_kin z4 e71 hn) (fun x _ => f8.2.1 x 3 (by decide) (by decide) (by decide) (by decide)) (fun x _ => f8.2.1 x 4 (by decide) (by decide) (by decide) (by decide))) (age A ha hcan.1) (age U hu hcan.2.1) ?_ hcan.2.2.2 (by rw [sym]; exact hcan.2.2.2)
    rw [jSt_k2 S ha, jSt_k2 S hu]; exact hcan.2.2.1
  have an : ∀ (g gv : Int32) (m2 : kS), (∀ q, q ≠ 9 → q ≠ 10 → m2 q = (kst mc 8 (zWed A U g gv (mc 8))) q) → ((∀ l, jSm m m2 l) ∨ ∃ l g, l < L ∧ g < n ∧ m 9 (4 * l + 2) ≠ -1 ∧ m 9 (4 * l + 2) ≠ nI g ∧ jHd m m2 l (nI g) ∧ ∀ l', l' ≠ l → jSm m m2 l') → jMr n L m m2 A U := by
    intro g gv m2 h1 h2
    have e8 : m2 8 = zWed A U g gv (m 8) := by rw [h1 8 (by decide) (by decide), kst_eq, mc8]
    obtain ⟨w1, w2, -⟩ := zWed_v (lv := g) (gv := gv) (f := m 8) hab
    exact ⟨fun q h7 h8 h9 h10 h12 h13 => by rw [h1 q h9 h10, kst_ne _ _ h8]; exact mcq q h7 h12 h13, fun p w hw h5 h7 h8 => by rw [e8]; exact zWed_o hw (Or.inr ⟨h5, h7, h8⟩), by rw [e8]; exact w1, by rw [e8]; exact w2, fun p hA hU => by rw [e8]; exact ⟨zWed_o (by decide) (Or.inl ⟨hA, hU⟩), zWed_o (by decide) (Or.inl ⟨hA, hU⟩)⟩, h2⟩
  rcases hv with rfl | ⟨l, hl, rfl, hg⟩
  · obtain ⟨z2', j1, j2⟩ := jma_0 Rc ha hu hab (by rw [mc8]; exact h24 A ha hcan.1.2.1) (by rw [mc8]; exact h24 U hu hcan.2.1.2.1)
    refine fin (kst mc 8 (zWed A U (-1) (-1) (mc 8))) z2' 0 0 ?_ j1 (jQ_up (j2 (-1) (jk_m n)) (by omega) (by omega)) (by omega) (by omega) (kst_ne _ _ (by decide)) (fun l _ => by rw [kst_ne _ _ (by decide), mc9]) (an _ _ _ (fun _ _ _ => rfl) (Or.inl fun l => jSm.rf (by rw [kst_ne _ _ (by decide), mc9]) (by rw [kst_ne _ _ (by decide), mc10])))
    have e := sets (-1)
    rw [if_pos rfl] at e e80
    simp only [F_X6_marry_49, if_true, e80, F_X6_marry_99, e]
  · have l12 : l < 12 := by omega
    have cl : (nI l = -1) = False := pz_m1' (by omega)
    have go : ∀ g o : Nat, ((g = A ∧ o = U) ∨ (g = U ∧ o = A)) → m 9 (4 * l + 2) = nI g → nI A + nI U - nI g = nI o → ∃ wA wU k' m' z' c1 s1, F_X5_marry (nI A) (nI U) (nI l) k = some ((0, wA + wU), k') ∧ F_X8_marry (nI A) (nI U) (nI l) z = some (z', c1, s1) ∧ F_X8_worth z' (nI A) = some wA ∧ F_X8_worth z' (nI U) = some wU ∧ jSt n L (h0 + 1) (4100 * (c + 1)) y k' m' z' ∧ c1 ≤ 1 ∧ s1 ≤ h0 + 1 ∧ jMr n L m m' A U := by
      intro g o hgo eg es
      obtain ⟨z6, j1, j2⟩ := jma_1 Rc ha hu hab hl (by rw [mc9]; exact eg) hgo
      have hgn : g < n := by rcases hgo with ⟨h, -⟩ | ⟨h, -⟩ <;> omega
      have hon : o < n := by rcases hgo with ⟨-, h⟩ | ⟨-, h⟩ <;> omega
      have hne : g ≠ o := by rcases hgo with ⟨h, h2⟩ | ⟨h, h2⟩ <;> omega
      obtain ⟨m2, hm2d⟩ : ∃ x, x = kst mc 8 (zWed A U (nI l) (nI g) (mc 8)) := ⟨_, rfl⟩
      rw [← hm2d] at j2
      have m2q : ∀ q, q ≠ 8 → m2 q = mc q := fun q hq => by rw [hm2d, kst_ne _ _ hq]
      obtain ⟨m3, z3', c1, s1, r1, r2, r3, r4, r5, r6, r7, r8, r9⟩ := jrule_x (v := nI o) j2 hl (jk_n hon) hh
      have sm : ∀ l, jSm m m2 l := fun l => jSm.rf (by rw [m2q 9 (by decide), mc9]) (by rw [m2q 10 (by decide), mc10])
      refine fin m3 z3' c1 s1 ?_ ?_ ?_ r6 r7 (by rw [r4 7 (by decide) (by decide), m2q 7 (by decide)]) (fun l' hl' => ?_) (an (nI l) (nI g) m3 (fun q h1 h2 => by rw [r4 q h1 h2, hm2d]) (Or.inr ⟨l, o, hl, hon, by rw [eg]; exact pz_m1 (by omega), by rw [eg]; intro h; exact hne ((nI_eq (by omega) (by omega)).mp h), jHd_a (sm l) r8, fun l' hl' => jSm_tr (sm l') (r9 l' hl')⟩))
      · have e := sets (nI g)
        rw [if_neg (pz_m1 (show l < 2 ^ 31 by omega))] at e e80
        have l80 : F_X6_marry_80 (nI A) (nI U) (nI l) mc = F_X6_marry_161 (nI A) (nI U) m3 := by
          rw [e80]
          have la9 : ∀ ff, F_X6_la (kst mc 8 ff) (nI l) 2 = some (nI g) := fun ff => by rw [la_2 l12, kst_ne _ _ (by decide), mc9, eg]
          simp only [F_X6_marry_103, la9, pz_bind, e, F_X6_marry_150, es]
          rw [← hm2d, r1]
          rfl
        have la0 : F_X6_la mc (nI l) 2 = some (nI g) := by rw [la_2 l12, mc9, eg]
        simp only [F_X6_marry_49, cl, if_false, F_X6_marry_54, la0, pz_bind, F_X6_marry_64]
        rcases hgo with ⟨rfl, rfl⟩ | ⟨rfl, rfl⟩
        · rw [if_pos rfl]; exact l80
        · rw [if_neg (fun h => hab ((nI_eq (by omega) (by omega)).mp h).symm), if_pos rfl]; exact l80
      · rw [j1, r2]
        simp only [pz_bind, pz_kadds, Nat.add_zero]
      · have e8 : m3 8 = m2 8 := r4 8 (by decide) (by decide)
        show jQ n L (h0 + 1) (m3 8) m3 z3'
        rw [e8]; exact r3
      · by_cases e : l' = l
        · subst e; exact (jHd_a (sm l') r8).1
        · exact (jSm_tr (sm l') (r9 l' e)).1 0 (by decide)
    rcases hg with h | h
    · exact go A U (Or.inl ⟨rfl, rfl⟩) h (by rw [nI_add, pk_sub (by omega)]; congr 1; omega)
    · exact go U A (Or.inr ⟨rfl, rfl⟩) h (by rw [nI_add, pk_sub (by omega)]; congr 1; omega)
end ZS
