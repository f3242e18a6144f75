/-! THE CALLS, on both sides: annul, marry -/
def zWed (a b : Nat) (lv gv : Int32) (f : Nat → Int32) : Nat → Int32 := upd (upd (upd (upd (upd (upd f (9 * a + 5) (nI b)) (9 * b + 5) (nI a)) (9 * a + 7) lv) (9 * b + 7) lv) (9 * a + 8) gv) (9 * b + 8) gv
section ZD
variable {n p q a b c d e j x r L w l y Y : Nat} {k k1 k0 k' m m1 m' : kS} {v t v1 v2 v3 lv gv : Int32} {B P : Nat} {f : Nat → Int32}
/-- the end of a marriage, both sides, all that is kept -/
theorem pt_r {hf : Nat → Nat} (hR : zRel 15 n L k m) (hX : zXl L hf k m) (hr : r < n) : ∃ k' m' uc us, F_X3_part 15 (nI r) k = some k' ∧ F_X6_part (nI r) m = some (m', uc, us) ∧ uc ≤ 1 ∧ us ≤ 3 ∧ zRel 15 n L k' m' ∧ zXl L hf k' m' ∧ (∀ q, q ≠ 24 → q ≠ 25 → k' q = k q) ∧ m' 7 = m 7 ∧ m' 9 = m 9 := by
  obtain ⟨hK, hLv, ⟨w1, w2, w3, w4, w5⟩, hMW, hRu, h15, h30⟩ := hR
  obtain ⟨X, X4⟩ := h15 rfl
  obtain ⟨k', m', uc, us, p1, p2, p3, p4, p5, p6, p7, p8, p9, p10, p11⟩ := pt_x (B := 15) k15 hK.1 hr hMW (fun _ => X) (fun h => absurd h (by decide))
  have kn : ∀ q, q ≠ 24 → q ≠ 25 → k' q = k q := p5
  obtain ⟨p12, p13⟩ := p11 rfl
  refine ⟨k', m', uc, us, p1, p2, p3, p4, ⟨zKin_k (k := k) ?_ (fun q hq => kn q (by omega) (by omega)) (fun q hq => kn q (by omega) (by omega)), fun p hp => ?_, ⟨w1, ?_, ?_, ?_, fun l hl => ?_⟩, p8, fun l hl => ?_, fun _ => ⟨p9 rfl, fun p hp hne => ?_⟩, fun h => absurd h (by decide)⟩, zXl_cg w1 hX (kn 17 (by decide) (by decide)) (kn 20 (by decide) (by decide)) (kn 21 (by decide) (by decide)) (fun l hl => kn _ (by omega) (by omega)) (p6 9 (by decide)) (p6 10 (by decide)), kn, p6 7 (by decide), p6 9 (by decide)⟩
  · obtain ⟨a1, a2, a3, a4, a5⟩ := hK
    refine ⟨a1, a2, by rw [p6 7 (by decide)]; exact a3, fun p hp => ?_, a5⟩
    have e0 := p7 p 0 (by decide) (by decide) (by decide) (by decide)
    rw [p7 p 1 (by decide) (by decide) (by decide) (by decide), p7 p 3 (by decide) (by decide) (by decide) (by decide), p7 p 4 (by decide) (by decide) (by decide) (by decide)]
    obtain ⟨x1, x2, x3, x4⟩ := a4 p hp
    exact ⟨e0.trans x1, x2, x3, x4⟩
  · rw [kn (15 + 14) (by decide) (by decide), p7 p 2 (by decide) (by decide) (by decide) (by decide)]; exact hLv p hp
  · rw [kn (15 + 1) (by decide) (by decide)]; exact w2
  · rw [p6 7 (by decide)]; exact w3
  · rw [kn 15 (by decide) (by decide), p6 11 (by decide)]; exact w4
  · rw [p6 9 (by decide), kn (15 + 3) (by decide) (by decide), kn (15 + 4) (by decide) (by decide)]; exact w5 l hl
  · rw [kn (15 + 4) (by decide) (by decide), kn (15 + 14) (by decide) (by decide)]; exact hRu l hl
  · rw [kn 29 (by decide) (by decide)]
    refine X4 p hp (fun h => hne ?_)
    rcases p12 p with g | g
    · rw [g]; exact h
    · exact g
theorem zM_annul (hA : zAll c k m) (hc : c ≤ 600) : ∃ code r k' b m' uc us, F_X5_annul v1 k = some ((code, r), k') ∧ F_X6_annul v1 m = some ((b, m'), uc, us) ∧ zOk 0 2 1 code r b (m' 7 0) ∧ zAll (c + 1) k' m' ∧ uc ≤ 50 ∧ us ≤ 800 := by
  have hA' := hA
  obtain ⟨n, L, y, hR, hX, hy, hy2, hAh⟩ := hA
  have hn := hR.1.1
  have hk := hR.1.2.1
  have hm : thr 0 m 7 1 = nI n := thr_1.trans hR.1.2.2.1
  rcases pk_ix v1 (n := n) (by omega) with h | h | ⟨p, hp, rfl⟩
  · exact ⟨3, 0, k, 0, thr 1 (thr 0 m), 0, 0, by simp only [F_X5_annul, F_X5_annul_0, np_0 hk (Or.inl h), pz_bind, pz_n3, if_false], by simp only [F_X6_annul, F_X6_annul_0, thr_e, ip_0 hn hm (Or.inl h), pz_bind, pz_00, if_true, F_X6_annul_13, fail_x], by rw [thr_0]; exact zOk_3 (by decide), zAll_up (zAll_thr (zAll_thr hA')), by omega, by omega⟩
  · exact ⟨3, 0, k, 0, thr 1 (thr 0 m), 0, 0, by simp only [F_X5_annul, F_X5_annul_0, np_0 hk (Or.inr h), pz_bind, pz_n3, if_false], by simp only [F_X6_annul, F_X6_annul_0, thr_e, ip_0 hn hm (Or.inr h), pz_bind, pz_00, if_true, F_X6_annul_13, fail_x], by rw [thr_0]; exact zOk_3 (by decide), zAll_up (zAll_thr (zAll_thr hA')), by omega, by omega⟩
  · have hR0 := zRel_thr (v := 0) hR
    have hX0 := zXl_thr (v := 0) hR.2.2.1.1 hX
    have p40 : p < 40 := by omega
    obtain ⟨⟨X1, X2, X3⟩, X4⟩ := hR0.2.2.2.2.2.1 rfl
    have e5 : thr 0 m 8 (9 * p + 5) = k 24 p := (X2 p hp).1
    have hL := hR0.2.2.1.1
    have hk2 : k 16 0 = nI L := hR0.2.2.1.2.1
    rcases X3 p hp with ⟨s1, s2⟩ | ⟨q, q1, q2, q3, q4, q5⟩
    · refine ⟨2, 0, k, 0, thr 2 (thr 0 m), 0, 0, ?_, ?_, by rw [thr_0]; exact zOk_2 (by decide), zAll_up (zAll_thr (zAll_thr hA')), by omega, by omega⟩
      · have s1' : k (15 + 9) p = -1 := s1
        simp only [F_X5_annul, F_X5_annul_0, np_1 hn hk hp, pz_bind, pz_nz, if_true, sp_1 (B := 15) (k := k) p40, s1', F_X5_annul_20]
      · simp only [F_X6_annul, F_X6_annul_0, thr_e, ip_1 hn hm hp, pz_bind, pz_10, if_false, F_X6_annul_19, pe_5 p40, e5, s1, if_true, F_X6_annul_31, fail_x]
    · have cq : (nI q = -1) = False := pz_m1' (by omega)
      have cp : (nI p = -1) = False := pz_m1' (by omega)
      have cpq : (nI q = nI p) = False := by rw [pz_eq (by omega) (by omega)]; exact eq_false q2
      have livep : k 29 p = -1 := X4 p hp (by rw [q3]; exact pz_m1 (by omega))
      have liveq : k 29 q = -1 := X4 q q1 (by rw [q4]; exact pz_m1 (by omega))
      obtain ⟨k1, m1, uc, us, t1, t2, t3, t4, R1, XL1, kn, m17, m19⟩ := pt_r hR0 hX0 hp
      have q3' : k (15 + 9) p = nI q := q3
      have cls : F_X5_annul (nI p) k = (F_X4_separate_16 15 (nI p) (nI q) k).bind fun x => some ((0, x.1), x.2) := by
        simp only [F_X5_annul, F_X5_annul_0, np_1 hn hk hp, pz_bind, pz_nz, if_true, sp_1 (B := 15) (k := k) p40, q3', cq, if_false, F_X5_annul_30, F_X4_separate, F_X4_separate_0]
      have ref : F_X6_annul (nI p) m = F_X6_annul_37 (nI p) (nI q) (thr 0 m) := by
        simp only [F_X6_annul, F_X6_annul_0, thr_e, ip_1 hn hm hp, pz_bind, pz_10, if_false, F_X6_annul_19, pe_5 p40, e5, q3, cq]
      have hk1L : k1 (15 + 1) 0 = nI L := R1.2.2.1.2.1
      have nobody : ∀ (K : kS → Option (Int32 × kS)), True := fun _ => trivial
      -- what comes where no land goes back
      have none' : F_X4_separate_16 15 (nI p) (nI q) k = some ((-1), k1) → F_X6_annul_37 (nI p) (nI q) (thr 0 m) = kadd uc us (some (((-1), m1), 0, 0)) → ∃ code r k' b m' uc us, F_X5_annul (nI p) k = some ((code, r), k') ∧ F_X6_annul (nI p) m = some ((b, m'), uc, us) ∧ zOk 0 2 1 code r b (m' 7 0) ∧ zAll (c + 1) k' m' ∧ uc ≤ 50 ∧ us ≤ 800 := fun h1 h2 =>
        ⟨0, -1, k1, -1, m1, uc, us, by rw [cls, h1]; rfl, by rw [ref, h2, pz_kadds]; rfl, by rw [m17, thr_0]; exact zOk_0, ⟨n, L, y, R1, zXl_mono XL1 (fun _ _ => by omega), by rw [kn 15 (by decide) (by decide)]; exact hy, by omega, fun p hp => by rw [kn 39 (by decide) (by decide)]; exact hAh p hp⟩, by omega, by omega⟩
      have back : ∀ (l g : Nat), l < L → g < n → k 29 g = -1 → ((F_X1_handTo 15 (nI l) (nI g) k1).bind fun x => some (nI l, x)) = F_X4_separate_16 15 (nI p) (nI q) k → F_X6_annul_37 (nI p) (nI q) (thr 0 m) = kadd uc us (F_X6_annul_81 (nI l) (nI g) m1) → ∃ code r k' b m' uc us, F_X5_annul (nI p) k = some ((code, r), k') ∧ F_X6_annul (nI p) m = some ((b, m'), uc, us) ∧ zOk 0 2 1 code r b (m' 7 0) ∧ zAll (c + 1) k' m' ∧ uc ≤ 50 ∧ us ≤ 800 := by
        intro l g hl hg hlive h1 h2
        obtain ⟨k2, m2, g1, g2, g3, g4, g5, g6, g7⟩ := hd_r (v := nI g) R1 XL1 hl (by omega) (Or.inr ⟨g, hg, rfl, by rw [kn 29 (by decide) (by decide)]; exact hlive⟩)
        refine ⟨0, nI l, k2, nI l, m2, uc, us, ?_, ?_, by rw [g7, m17, thr_0]; exact zOk_0, ⟨n, L, y, g3, zXl_mono g4 (fun j hj => ?_), by rw [g5, kn 15 (by decide) (by decide)]; exact hy, by omega, fun p hp => by rw [g6 39 (by decide) (by decide), kn 39 (by decide) (by decide)]; exact hAh p hp⟩, by omega, by omega⟩
        · rw [cls, ← h1, g1]; rfl
        · rw [ref, h2]
          simp only [F_X6_annul_81, g2, pz_bind, pz_kadds, Nat.add_zero]
        · by_cases gj : j = l
          · simp [gj]; omega
          · simp [gj]; omega
      have k25e : ∀ z, k (15 + 10) z = k 25 z := fun z => rfl
      rcases q5 with ⟨u1, u2, u3⟩ | ⟨l, hl, u1, u2⟩
      · refine none' ?_ ?_
        · have rm := ru_m (B := 15) (k := k1) (v := -1) hk1L (Or.inl (by decide))
          simp only [F_X4_separate_16, gb_1 (B := 15) (k := k) p40, pz_bind, k25e, u1, if_true, if_false, F_X4_separate_28, F_X4_separate_33, cpq, F_X4_separate_43, F_X4_separate_44, gb_1 (B := 15) (k := k) (show q < 40 by omega), t1, pz_bind, u2, rm, eq_comm (a := (-1 : Int32)) (b := nI p), cp, F_X4_separate_78]
        · simp only [F_X6_annul_37, pe_7 p40, pe_8 p40, u3, pz_bind, t2, if_true, F_X6_annul_79]
      · have l12 : l < 12 := by omega
        have cl : (nI l = -1) = False := pz_m1' (by omega)
        have ru := ru_1 (B := 15) hL hk1L hl
        have r19 : k1 (15 + 4) l = k 19 l := by rw [kn (15 + 4) (by decide) (by decide)]
        have m9r : m1 9 (4 * l + 2) = k 19 l := by rw [m19]; exact (hR0.2.2.1.2.2.2.2 l hl).2.1
        rcases u2 with ⟨g1, g2, g3⟩ | ⟨g1, g2, g3⟩
        · -- p gave it
          have s : nI p + nI q - nI p = nI q := by rw [nI_add, pk_sub (by omega)]; congr 1; omega
          have rf : F_X6_annul_37 (nI p) (nI q) (thr 0 m) = kadd uc us (if k 19 l = nI q then F_X6_annul_81 (nI l) (nI p) m1 else some (((-1), m1), 0, 0)) := by
            simp only [F_X6_annul_37, pe_7 p40, pe_8 p40, u1, g1, pz_bind, t2, cl, if_false, F_X6_annul_64, la_2 l12, m9r, s, F_X6_annul_79]
          have cf : F_X4_separate_16 15 (nI p) (nI q) k = if k 19 l = nI q then ((F_X1_handTo 15 (nI l) (nI p) k1).bind fun x => some (nI l, x)) else some ((-1), k1) := by
            simp only [F_X4_separate_16, gb_1 (B := 15) (k := k) p40, pz_bind, k25e, g2, cl, if_false, F_X4_separate_32, F_X4_separate_33, if_true, F_X4_separate_39, F_X4_separate_44, t1, pz_bind, ru, r19, F_X4_separate_80, F_X4_separate_78]
          by_cases g : k 19 l = nI q
          · rw [if_pos g] at rf cf
            exact back l p hl hp livep cf.symm rf
          · rw [if_neg g] at rf cf
            exact none' cf rf
        · have s : nI p + nI q - nI q = nI p := by rw [nI_add, pk_sub (by omega)]; congr 1; omega
          have rf : F_X6_annul_37 (nI p) (nI q) (thr 0 m) = kadd uc us (if k 19 l = nI p then F_X6_annul_81 (nI l) (nI q) m1 else some (((-1), m1), 0, 0)) := by
            simp only [F_X6_annul_37, pe_7 p40, pe_8 p40, u1, g1, pz_bind, t2, cl, if_false, F_X6_annul_64, la_2 l12, m9r, s, F_X6_annul_79]
          have cf : F_X4_separate_16 15 (nI p) (nI q) k = if k 19 l = nI p then ((F_X1_handTo 15 (nI l) (nI q) k1).bind fun x => some (nI l, x)) else some ((-1), k1) := by
            simp only [F_X4_separate_16, gb_1 (B := 15) (k := k) p40, pz_bind, k25e, g3, if_true, if_false, F_X4_separate_28, F_X4_separate_33, cpq, F_X4_separate_43, F_X4_separate_44, gb_1 (B := 15) (k := k) (show q < 40 by omega), g2, t1, pz_bind, ru, r19, F_X4_separate_80, F_X4_separate_78]
          by_cases g : k 19 l = nI p
          · rw [if_pos g] at rf cf
            exact back l q hl q1 liveq cf.symm rf
          · rw [if_neg g] at rf cf
            exact none' cf rf
theorem zWed_o {z : Nat} (hz : z < 9) (h : (p ≠ a ∧ p ≠ b) ∨ (z ≠ 5 ∧ z ≠ 7 ∧ z ≠ 8)) : zWed a b lv gv f (9 * p + z) = f (9 * p + z) := by
  unfold zWed
  rw [pz_un (by omega), pz_un (by omega), pz_un (by omega), pz_un (by omega), pz_un (by omega), pz_un (by omega)]
theorem zWed_v (hab : a ≠ b) : zWed a b lv gv f (9 * a + 5) = nI b ∧ zWed a b lv gv f (9 * b + 5) = nI a ∧ zWed a b lv gv f (9 * a + 7) = lv ∧ zWed a b lv gv f (9 * b + 7) = lv ∧ zWed a b lv gv f (9 * a + 8) = gv ∧ zWed a b lv gv f (9 * b + 8) = gv := by
  unfold zWed
  refine ⟨?_, ?_, ?_, ?_, ?_, ?_⟩
  · rw [pz_un (by omega), pz_un (by omega), pz_un (by omega), pz_un (by omega), pz_un (by omega), pz_us]
  · rw [pz_un (by omega), pz_un (by omega), pz_un (by omega), pz_un (by omega), pz_us]
  · rw [pz_un (by omega), pz_un (by omega), pz_un (by omega), pz_us]
  · rw [pz_un (by omega), pz_un (by omega), pz_us]
  · rw [pz_un (by omega), pz_us]
  · rw [pz_us]
/-- two are wed, on both sides (the land not yet handed over) -/
theorem wd_r {hf : Nat → Nat} (hR : zRel 15 n L k m) (hX : zXl L hf k m) (ha : a < n) (hb : b < n) (hab : a ≠ b) (sa : k 24 a = -1) (sb : k 24 b = -1) (la : k 29 a = -1) (lb : k 29 b = -1) (hT : (lv = -1 ∧ f = k 25) ∨ ∃ l, l < L ∧ lv = nI l ∧ ((gv = nI a ∧ f = upd (k 25) a (nI l)) ∨ (gv = nI b ∧ f = upd (k 25) b (nI l)))) :
    zRel 15 n L (kst (kst k 24 (upd (upd (k 24) a (nI b)) b (nI a))) 25 f) (kst m 8 (zWed a b lv gv (m 8))) ∧ zXl L hf (kst (kst k 24 (upd (upd (k 24) a (nI b)) b (nI a))) 25 f) (kst m 8 (zWed a b lv gv (m 8))) := by
  obtain ⟨hK, hLv, ⟨w1, w2, w3, w4, w5⟩, hMW, hRu, h15, h30⟩ := hR
  obtain ⟨⟨X1, X2, X3⟩, X4⟩ := h15 rfl
  have hn := hK.1
  obtain ⟨k2, hk2⟩ : ∃ k2, k2 = kst (kst k 24 (upd (upd (k 24) a (nI b)) b (nI a))) 25 f := ⟨_, rfl⟩
  obtain ⟨m2, hm2⟩ : ∃ m2, m2 = kst m 8 (zWed a b lv gv (m 8)) := ⟨_, rfl⟩
  rw [← hk2, ← hm2]
  have kn : ∀ q, q ≠ 24 → q ≠ 25 → k2 q = k q := fun q h1 h2 => by rw [hk2, kst_ne _ _ h2, kst_ne _ _ h1]
  have k24 : k2 24 = upd (upd (k 24) a (nI b)) b (nI a) := by rw [hk2, kst_ne _ _ (by decide), kst_eq]
  have k25 : k2 25 = f := by rw [hk2, kst_eq]
  have mn : ∀ q, q ≠ 8 → m2 q = m q := fun q h => by rw [hm2, kst_ne _ _ h]
  have m8 : m2 8 = zWed a b lv gv (m 8) := by rw [hm2, kst_eq]
  have k24a : k2 24 a = nI b := by rw [k24, pz_un hab, pz_us]
  have k24b : k2 24 b = nI a := by rw [k24, pz_us]
  have k24o : ∀ p, p ≠ a → p ≠ b → k2 24 p = k 24 p := fun p h1 h2 => by rw [k24, pz_un h2, pz_un h1]
  obtain ⟨v1, v2, v3, v4, v5, v6⟩ := zWed_v (lv := lv) (gv := gv) (f := m 8) hab
  have none25 : ∀ p, p < n → k 24 p = -1 → k 25 p = -1 := fun p hp h => by
    rcases X3 p hp with ⟨_, h2⟩ | ⟨q, hq, _, h2, _⟩
    · exact h2
    · exact absurd (h2.symm.trans h) (pz_m1 (by omega))
  have f25o : ∀ p, p ≠ a → p ≠ b → f p = k 25 p := fun p h1 h2 => by
    rcases hT with ⟨_, rfl⟩ | ⟨l, _, _, ⟨_, rfl⟩ | ⟨_, rfl⟩⟩
    · rfl
    · rw [pz_un h1]
    · rw [pz_un h2]
  refine ⟨⟨zKin_k (k := k) ?_ (fun q hq => kn q (by omega) (by omega)) (fun q hq => kn q (by omega) (by omega)), fun p hp => ?_, ⟨w1, ?_, ?_, ?_, fun l hl => ?_⟩, fun p hp => ?_, fun l hl => ?_, fun _ => ⟨⟨fun p hp hp2 => ?_, fun p hp => ?_, fun p hp => ?_⟩, fun p hp hne => ?_⟩, fun h => absurd h (by decide)⟩, zXl_cg w1 hX (kn 17 (by decide) (by decide)) (kn 20 (by decide) (by decide)) (kn 21 (by decide) (by decide)) (fun l hl => kn _ (by omega) (by omega)) (mn 9 (by decide)) (mn 10 (by decide))⟩
  · obtain ⟨a1, a2, a3, a4, a5⟩ := hK
    refine ⟨a1, a2, by rw [mn 7 (by decide)]; exact a3, fun p hp => ?_, a5⟩
    have e0 := zWed_o (p := p) (a := a) (b := b) (lv := lv) (gv := gv) (f := m 8) (z := 0) (by decide) (Or.inr (by decide))
    rw [m8, zWed_o (z := 1) (by decide) (Or.inr (by decide)), zWed_o (z := 3) (by decide) (Or.inr (by decide)), zWed_o (z := 4) (by decide) (Or.inr (by decide))]
    obtain ⟨x1, x2, x3, x4⟩ := a4 p hp
    exact ⟨e0.trans x1, x2, x3, x4⟩
  · rw [kn (15 + 14) (by decide) (by decide), m8, zWed_o (z := 2) (by decide) (Or.inr (by decide))]; exact hLv p hp
  · rw [kn (15 + 1) (by decide) (by decide)]; exact w2
  · rw [mn 7 (by decide)]; exact w3
  · rw [kn 15 (by decide) (by decide), mn 11 (by decide)]; exact w4
  · rw [mn 9 (by decide), kn (15 + 3) (by decide) (by decide), kn (15 + 4) (by decide) (by decide)]; exact w5 l hl
  · rw [m8]
    by_cases ga : p = a
    · subst ga; exact Or.inr ⟨b, hb, v1⟩
    · by_cases gb : p = b
      · subst gb; exact Or.inr ⟨a, ha, v2⟩
      · rw [zWed_o (z := 5) (by decide) (Or.inl ⟨ga, gb⟩)]; exact hMW p hp
  · rw [kn (15 + 4) (by decide) (by decide), kn (15 + 14) (by decide) (by decide)]; exact hRu l hl
  · rw [k24o p (by omega) (by omega), k25, f25o p (by omega) (by omega), kn 29 (by decide) (by decide)]; exact X1 p hp hp2
  · rw [m8, kn 29 (by decide) (by decide), zWed_o (z := 6) (by decide) (Or.inr (by decide))]
    refine ⟨?_, (X2 p hp).2⟩
    by_cases ga : p = a
    · subst ga; rw [k24a]; exact v1
    · by_cases gb : p = b
      · subst gb; rw [k24b]; exact v2
      · rw [zWed_o (z := 5) (by decide) (Or.inl ⟨ga, gb⟩), k24o p ga gb]; exact (X2 p hp).1
  · unfold zTr
    rw [k25]
    by_cases ga : p = a
    · subst ga
      refine Or.inr ⟨b, hb, fun e => hab e.symm, k24a, k24b, ?_⟩
      rw [m8, v3, v5]
      rcases hT with ⟨rfl, rfl⟩ | ⟨l, hl, rfl, ⟨rfl, rfl⟩ | ⟨rfl, rfl⟩⟩
      · exact Or.inl ⟨none25 p hp sa, none25 b hb sb, rfl⟩
      · exact Or.inr ⟨l, hl, rfl, Or.inl ⟨rfl, pz_us, by rw [pz_un (fun e => hab e.symm)]; exact none25 b hb sb⟩⟩
      · exact Or.inr ⟨l, hl, rfl, Or.inr ⟨rfl, pz_us, by rw [pz_un hab]; exact none25 p hp sa⟩⟩
    · by_cases gb : p = b
      · subst gb
        refine Or.inr ⟨a, ha, hab, k24b, k24a, ?_⟩
        rw [m8, v4, v6]
        rcases hT with ⟨rfl, rfl⟩ | ⟨l, hl, rfl, ⟨rfl, rfl⟩ | ⟨rfl, rfl⟩⟩
        · exact Or.inl ⟨none25 p hp sb, none25 a ha sa, rfl⟩
        · exact Or.inr ⟨l, hl, rfl, Or.inr ⟨rfl, pz_us, by rw [pz_un (fun e => hab e.symm)]; exact none25 p hp sb⟩⟩
        · exact Or.inr ⟨l, hl, rfl, Or.inl ⟨rfl, pz_us, by rw [pz_un hab]; exact none25 a ha sa⟩⟩
      · rw [k24o p ga gb, m8, zWed_o (z := 7) (by decide) (Or.inl ⟨ga, gb⟩), zWed_o (z := 8) (by decide) (Or.inl ⟨ga, gb⟩), f25o p ga gb]
        rcases X3 p hp with h | ⟨q, h1, h2, h3, h4, h5⟩
        · exact Or.inl h
        · have qa : q ≠ a := fun e => by subst e; exact pz_m1 (show p < 2 ^ 31 by omega) (h4.symm.trans sa)
          have qb : q ≠ b := fun e => by subst e; exact pz_m1 (show p < 2 ^ 31 by omega) (h4.symm.trans sb)
          refine Or.inr ⟨q, h1, h2, h3, by rw [k24o q qa qb]; exact h4, ?_⟩
          rw [f25o q qa qb]
          exact h5
  · rw [kn 29 (by decide) (by decide)]
    by_cases ga : p = a
    · subst ga; exact la
    · by_cases gb : p = b
      · subst gb; exact lb
      · rw [k24o p ga gb] at hne; exact X4 p hp hne
theorem zM_marry (hA : zAll c k m) (hc : c ≤ 600) : ∃ code r k' b m', F_X5_marry v1 v2 v3 k = some ((code, r), k') ∧ F_X6_marry v1 v2 v3 m = some (b, m') ∧ zOk 0 2 1 code r b (m' 7 0) ∧ zAll (c + 1) k' m' := by
  have hA' := hA
  obtain ⟨n, L, y, hR, hX, hy, hy2, hAh⟩ := hA
  have hn := hR.1.1
  have hk := hR.1.2.1
  have hm : thr 0 m 7 1 = nI n := thr_1.trans hR.1.2.2.1
  have hL := hR.2.2.1.1
  have hk2 : k 16 0 = nI L := hR.2.2.1.2.1
  have hm2 : thr 0 m 7 2 = nI L := thr_2.trans hR.2.2.1.2.2.1
  have bad3 : F_X5_marry v1 v2 v3 k = some ((3, 0), k) → F_X6_marry v1 v2 v3 m = F_X6_marry_34 (thr 0 m) → ∃ code r k' b m', F_X5_marry v1 v2 v3 k = some ((code, r), k') ∧ F_X6_marry v1 v2 v3 m = some (b, m') ∧ zOk 0 2 1 code r b (m' 7 0) ∧ zAll (c + 1) k' m' := fun h1 h2 =>
    ⟨3, 0, k, 0, thr 1 (thr 0 m), h1, by rw [h2]; simp only [F_X6_marry_34, fail_x, pz_bind], by rw [thr_0]; exact zOk_3 (by decide), zAll_up (zAll_thr (zAll_thr hA'))⟩
  have bad2 : ∀ m1, zOff (thr 0 m) m1 → F_X5_marry v1 v2 v3 k = some ((2, 0), k) → F_X6_marry v1 v2 v3 m = F_X6_marry_74 m1 → ∃ code r k' b m', F_X5_marry v1 v2 v3 k = some ((code, r), k') ∧ F_X6_marry v1 v2 v3 m = some (b, m') ∧ zOk 0 2 1 code r b (m' 7 0) ∧ zAll (c + 1) k' m' := fun m1 ho h1 h2 =>
    ⟨2, 0, k, 0, thr 2 m1, h1, by rw [h2]; simp only [F_X6_marry_74, fail_x, pz_bind], by rw [thr_0]; exact zOk_2 (by decide), zAll_up (zAll_thr (zAll_off (zAll_thr hA') (zOffB.rf 15 k) ho))⟩
  rcases pk_ix v1 (n := n) (by omega) with h | h | ⟨a, ha, rfl⟩
  · exact bad3 (by simp only [F_X5_marry, F_X5_marry_0, np_0 hk (Or.inl h), pz_bind, pz_n3, if_false]) (by simp only [F_X6_marry, F_X6_marry_0, thr_e, ip_0 hn hm (Or.inl h), pz_bind, pz_00, if_true])
  · exact bad3 (by simp only [F_X5_marry, F_X5_marry_0, np_0 hk (Or.inr h), pz_bind, pz_n3, if_false]) (by simp only [F_X6_marry, F_X6_marry_0, thr_e, ip_0 hn hm (Or.inr h), pz_bind, pz_00, if_true])
  rcases pk_ix v2 (n := n) (by omega) with h | h | ⟨b, hb, rfl⟩
  · exact bad3 (by simp only [F_X5_marry, F_X5_marry_0, np_1 hn hk ha, np_0 hk (Or.inl h), pz_bind, pz_n3, pz_nz, if_true, if_false]) (by simp only [F_X6_marry, F_X6_marry_0, thr_e, ip_1 hn hm ha, F_X6_marry_13, ip_0 hn hm (Or.inl h), pz_bind, pz_00, pz_10, if_true, if_false])
  · exact bad3 (by simp only [F_X5_marry, F_X5_marry_0, np_1 hn hk ha, np_0 hk (Or.inr h), pz_bind, pz_n3, pz_nz, if_true, if_false]) (by simp only [F_X6_marry, F_X6_marry_0, thr_e, ip_1 hn hm ha, F_X6_marry_13, ip_0 hn hm (Or.inr h), pz_bind, pz_00, pz_10, if_true, if_false])
  have a40 : a < 40 := by omega
  have b40 : b < 40 := by omega
  have hR0 := zRel_thr (v := 0) hR
  have hX0 := zXl_thr (v := 0) hR.2.2.1.1 hX
  have cls : F_X5_marry (nI a) (nI b) v3 k = if v3 = -1 then F_X5_marry_20 (nI a) (nI b) v3 k else F_X5_marry_15 (nI a) (nI b) v3 k := by
    simp only [F_X5_marry, F_X5_marry_0, np_1 hn hk ha, np_1 hn hk hb, pz_bind, pz_nz, if_true]
  have ref : F_X6_marry (nI a) (nI b) v3 m = if v3 = -1 then F_X6_marry_40 (nI a) (nI b) v3 (thr 0 m) else F_X6_marry_26 (nI a) (nI b) v3 (thr 0 m) := by
    simp only [F_X6_marry, F_X6_marry_0, thr_e, ip_1 hn hm ha, F_X6_marry_13, ip_1 hn hm hb, pz_bind, pz_10, if_false, F_X6_marry_21]
  -- a land, if there is one, is known
  have land : (v3 = -1 ∨ ∃ l, l < L ∧ v3 = nI l) → F_X5_marry (nI a) (nI b) v3 k = F_X5_marry_20 (nI a) (nI b) v3 k ∧ F_X6_marry (nI a) (nI b) v3 m = F_X6_marry_40 (nI a) (nI b) v3 (thr 0 m) := by
    rintro (rfl | ⟨l, hl, rfl⟩)
    · rw [cls, ref, if_pos rfl, if_pos rfl]; exact ⟨rfl, rfl⟩
    · rw [cls, ref, if_neg (pz_m1 (by omega)), if_neg (pz_m1 (by omega))]
      exact ⟨by simp only [F_X5_marry_15, nl_1 hL hk2 hl, pz_bind, pz_nz, if_true], by simp only [F_X6_marry_26, il_1 hL hm2 hl, pz_bind, pz_10, if_false]⟩
  by_cases hl3 : v3 = -1 ∨ ∃ l, l < L ∧ v3 = nI l
  · obtain ⟨cls, ref⟩ := land hl3
    obtain ⟨t, m1, s1, s2, s3, s4⟩ := mm_x (B := 15) hR0.1 hR0.2.1 hR0.2.2.1.2.2.2.1 (fun p hp => ((hR0.2.2.2.2.2.1 rfl).1.2.1 p hp).1) ha hb
    have hR1 := zRel_off k15 hR0 (zOffB.rf 15 k) s3
    have hX1 := zXl_off hL hX0 (zOffB.rf 15 k) s3
    have m17 : m1 7 = thr 0 m 7 := s3 7 (by decide) (by decide)
    rcases s4 with ⟨rfl, hab, la, sa, lb, sb⟩ | rfl
    · have sa : k 24 a = -1 := sa
      have sb : k 24 b = -1 := sb
      have la : k 29 a = -1 := la
      have lb : k 29 b = -1 := lb
      have cab : (nI b = nI a) = False := by rw [pz_eq (by omega) (by omega)]; exact eq_false (fun e => hab e.symm)
      have set5 : ∀ mo, F_X6_set (nI a) 5 (nI b) mo = some (kst mo 8 (upd (mo 8) (9 * a + 5) (nI b))) := fun mo => (p3_s a40).1
      have set5b : ∀ mo, F_X6_set (nI b) 5 (nI a) mo = some (kst mo 8 (upd (mo 8) (9 * b + 5) (nI a))) := fun mo => (p3_s b40).1
      have sets : ∀ lv gv, F_X6_marry_109 gv (nI a) (nI b) lv (kst (kst m1 8 (upd (m1 8) (9 * a + 5) (nI b))) 8 (upd ((kst m1 8 (upd (m1 8) (9 * a + 5) (nI b))) 8) (9 * b + 5) (nI a))) = if lv = -1 then F_X6_marry_161 (nI a) (nI b) (kst m1 8 (zWed a b lv gv (m1 8))) else F_X6_marry_150 (nI a) (nI b) lv gv (kst m1 8 (zWed a b lv gv (m1 8))) := by
        intro lv gv
        have q1 : ∀ mo v, F_X6_set (nI a) 7 v mo = some (kst mo 8 (upd (mo 8) (9 * a + 7) v)) := fun mo v => (p3_s a40).2.1
        have q2 : ∀ mo v, F_X6_set (nI b) 7 v mo = some (kst mo 8 (upd (mo 8) (9 * b + 7) v)) := fun mo v => (p3_s b40).2.1
        have q3 : ∀ mo v, F_X6_set (nI a) 8 v mo = some (kst mo 8 (upd (mo 8) (9 * a + 8) v)) := fun mo v => (p3_s a40).2.2
        have q4 : ∀ mo v, F_X6_set (nI b) 8 v mo = some (kst mo 8 (upd (mo 8) (9 * b + 8) v)) := fun mo v => (p3_s b40).2.2
        simp only [F_X6_marry_109, q1, q2, q3, q4, pz_bind, kst_kst, kst_eq, zWed]
      have bindx : F_X3_bind 15 (nI a) (nI b) k = some (kst k 24 (upd (upd (k 24) a (nI b)) b (nI a))) := by
        simp only [F_X3_bind, F_X3_bind_0, pz_n0 (show a < 2 ^ 31 by omega), nI_clamp (show a < 2 ^ 31 by omega), pz_ge (show a < 40 by omega), or_self, false_or, if_false, pz_n0 (show b < 2 ^ 31 by omega), nI_clamp (show b < 2 ^ 31 by omega), pz_ge (show b < 40 by omega), or_self, false_or, if_false, show 15 + 9 = 24 from rfl, kst_kst, kst_eq]
      have finish : ∀ k' m', zRel 15 n L k' m' → zXl L (fun _ => 4100 * (c + 1)) k' m' → k' 15 = k 15 → (∀ q, 30 ≤ q → q < 45 → k' q = k q) → m' 7 = thr 0 m 7 → F_X4_wed 15 (nI a) (nI b) v3 k = some k' → F_X5_marry_20 (nI a) (nI b) v3 k = F_X5_marry_82 (nI a) (nI b) v3 k → F_X6_marry_40 (nI a) (nI b) v3 (thr 0 m) = F_X6_marry_161 (nI a) (nI b) m' → ∃ code r k' b' m', F_X5_marry (nI a) (nI b) v3 k = some ((code, r), k') ∧ F_X6_marry (nI a) (nI b) v3 m = some (b', m') ∧ zOk 0 2 1 code r b' (m' 7 0) ∧ zAll (c + 1) k' m' := by
        intro k' m' R' X' h15 h30 h7 hw h1 h2
        obtain ⟨t1, _, e1, e2⟩ := tw_worth R' X' (nI a)
        obtain ⟨t2, _, e3, e4⟩ := tw_worth R' X' (nI b)
        exact ⟨0, nI t1 + nI t2, k', nI t1 + nI t2, m', by rw [cls, h1]; simp only [F_X5_marry_82, hw, pz_bind, e1, e3], by rw [ref, h2]; simp only [F_X6_marry_161, e2, e4, pz_bind], by rw [h7, thr_0]; exact zOk_0, ⟨n, L, y, R', X', by rw [h15]; exact hy, by omega, fun p hp => by rw [h30 39 (by decide) (by decide)]; exact hAh p hp⟩⟩
      have start : ∀ v, F_X6_marry_80 (nI a) (nI b) v m1 = if v = -1 then F_X6_marry_99 (nI a) (nI b) v (kst (kst m1 8 (upd (m1 8) (9 * a + 5) (nI b))) 8 (upd ((kst m1 8 (upd (m1 8) (9 * a + 5) (nI b))) 8) (9 * b + 5) (nI a))) else F_X6_marry_103 (nI a) (nI b) v (kst (kst m1 8 (upd (m1 8) (9 * a + 5) (nI b))) 8 (upd ((kst m1 8 (upd (m1 8) (9 * a + 5) (nI b))) 8) (9 * b + 5) (nI a))) := fun v => by
        simp only [F_X6_marry_80, set5, set5b, pz_bind]
      rcases hl3 with rfl | ⟨l, hl, rfl⟩
      · obtain ⟨R2, X2⟩ := wd_r (lv := -1) (gv := -1) hR1 hX1 ha hb hab sa sb la lb (Or.inl ⟨rfl, rfl⟩)
        have ek : kst (kst k 24 (upd (upd (k 24) a (nI b)) b (nI a))) 25 (k 25) = kst k 24 (upd (upd (k 24) a (nI b)) b (nI a)) := funext fun z => by
          by_cases hz : z = 25
          · subst hz; rw [kst_eq, kst_ne _ _ (by decide)]
          · rw [kst_ne _ _ hz]
        rw [ek] at R2 X2
        refine finish _ _ R2 (zXl_mono X2 (fun _ _ => by omega)) (kst_ne _ _ (by decide)) (fun q h1 h2 => kst_ne _ _ (by omega)) ?_ ?_ ?_ ?_
        · rw [kst_ne _ _ (by decide)]; exact m17
        · have rm := ru_m (B := 15) (k := kst k 24 (upd (upd (k 24) a (nI b)) b (nI a))) (L := L) (v := -1) (by rw [kst_ne _ _ (by decide)]; exact hk2) (Or.inl (by decide))
          simp only [F_X4_wed, F_X4_wed_0, bindx, pz_bind, rm, eq_comm (a := (-1 : Int32)) (b := nI a), eq_comm (a := (-1 : Int32)) (b := nI b), pz_m1' (show a < 2 ^ 31 by omega), pz_m1' (show b < 2 ^ 31 by omega), if_false, F_X4_wed_25, F_X4_wed_61]
        · have rm := ru_m (B := 15) (k := k) (L := L) (v := -1) hk2 (Or.inl (by decide))
          simp only [F_X5_marry_20, s1, pz_bind, pz_10, if_false, F_X5_marry_42, rm, if_true]
        · simp only [F_X6_marry_40, s2, pz_bind, pz_10, if_false, F_X6_marry_49, if_true, start, F_X6_marry_99, sets]
      · have l12 : l < 12 := by omega
        have cl : (nI l = -1) = False := pz_m1' (by omega)
        have r19 : thr 0 m 9 (4 * l + 2) = k 19 l := (hR0.2.2.1.2.2.2.2 l hl).2.1
        have m19 : m1 9 (4 * l + 2) = k 19 l := by rw [s3 9 (by decide) (by decide)]; exact r19
        have ru := ru_1 (B := 15) (k := k) hL hk2 hl
        have ru' := ru_1 (B := 15) (k := kst k 24 (upd (upd (k 24) a (nI b)) b (nI a))) (L := L) (l := l) hL (by rw [kst_ne _ _ (by decide)]; exact hk2) hl
        rw [kst_ne _ _ (show 15 + 4 ≠ 24 by decide)] at ru'
        have ru : F_X1_rulerOf 15 k (nI l) = some (k 19 l) := ru
        have ru' : F_X1_rulerOf 15 (kst k 24 (upd (upd (k 24) a (nI b)) b (nI a))) (nI l) = some (k 19 l) := ru'
        have give : ∀ g o : Nat, ((g = a ∧ o = b) ∨ (g = b ∧ o = a)) → k 19 l = nI g → ∃ code r k' b' m', F_X5_marry (nI a) (nI b) (nI l) k = some ((code, r), k') ∧ F_X6_marry (nI a) (nI b) (nI l) m = some (b', m') ∧ zOk 0 2 1 code r b' (m' 7 0) ∧ zAll (c + 1) k' m' := by
          intro g o hgo hg
          have gl : g < n := by rcases hgo with ⟨rfl, _⟩ | ⟨rfl, _⟩ <;> assumption
          have ol : o < n ∧ k 29 o = -1 := by
            rcases hgo with ⟨_, rfl⟩ | ⟨_, rfl⟩
            · exact ⟨hb, lb⟩
            · exact ⟨ha, la⟩
          obtain ⟨R2, X2⟩ := wd_r (lv := nI l) (gv := nI g) (f := upd (k 25) g (nI l)) hR1 hX1 ha hb hab sa sb la lb (Or.inr ⟨l, hl, rfl, by rcases hgo with ⟨rfl, _⟩ | ⟨rfl, _⟩; exact Or.inl ⟨rfl, rfl⟩; exact Or.inr ⟨rfl, rfl⟩⟩)
          obtain ⟨k3, m3, h1, h2, h3, h4, h5, h6, h7⟩ := hd_r (v := nI o) R2 X2 hl (by omega) (Or.inr ⟨o, ol.1, rfl, by rw [kst_ne _ _ (by decide), kst_ne _ _ (by decide)]; exact ol.2⟩)
          refine finish k3 m3 h3 (zXl_mono h4 (fun j hj => ?_)) ?_ (fun q q1 q2 => ?_) ?_ ?_ ?_ ?_
          · by_cases gj : j = l
            · simp [gj]; omega
            · simp [gj]; omega
          · rw [h5, kst_ne _ _ (by decide), kst_ne _ _ (by decide)]
          · rw [h6 q q1 q2, kst_ne _ _ (by omega), kst_ne _ _ (by omega)]
          · rw [h7, kst_ne _ _ (by decide)]; exact m17
          · have g40 : g < 40 := by omega
            have w31 : F_X4_wed_31 15 (nI a) (nI b) (nI l) (nI g) (kst k 24 (upd (upd (k 24) a (nI b)) b (nI a))) = some k3 := by
              have e25 : (kst k 24 (upd (upd (k 24) a (nI b)) b (nI a))) 25 = k 25 := kst_ne _ _ (by decide)
              rcases hgo with ⟨rfl, rfl⟩ | ⟨rfl, rfl⟩
              · simp only [F_X4_wed_31, pz_n0 (show g < 2 ^ 31 by omega), nI_clamp (show g < 2 ^ 31 by omega), pz_ge (show g < 40 by omega), or_self, false_or, if_false, show 15 + 10 = 25 from rfl, e25, if_true, F_X4_wed_53, F_X4_wed_58, h1, pz_bind, F_X4_wed_61]
              · simp only [F_X4_wed_31, pz_n0 (show g < 2 ^ 31 by omega), nI_clamp (show g < 2 ^ 31 by omega), pz_ge (show g < 40 by omega), or_self, false_or, if_false, show 15 + 10 = 25 from rfl, e25, cab, F_X4_wed_57, F_X4_wed_58, h1, pz_bind, F_X4_wed_61]
            rcases hgo with ⟨rfl, rfl⟩ | ⟨rfl, rfl⟩
            · simp only [F_X4_wed, F_X4_wed_0, bindx, pz_bind, ru', hg, if_true, w31]
            · simp only [F_X4_wed, F_X4_wed_0, bindx, pz_bind, ru', hg, cab, if_false, F_X4_wed_25, if_true, w31]
          · rcases hgo with ⟨rfl, rfl⟩ | ⟨rfl, rfl⟩
            · simp only [F_X5_marry_20, s1, pz_bind, pz_10, if_false, F_X5_marry_42, ru, hg, cl, F_X5_marry_60, if_true]
            · simp only [F_X5_marry_20, s1, pz_bind, pz_10, if_false, F_X5_marry_42, ru, hg, cl, F_X5_marry_60, cab, F_X5_marry_66, if_true]
          · have so : nI a + nI b - nI g = nI o := by
              rw [nI_add]
              rcases hgo with ⟨rfl, rfl⟩ | ⟨rfl, rfl⟩
              · rw [pk_sub (by omega)]; congr 1; omega
              · rw [pk_sub (by omega)]; congr 1; omega
            have e9 : (kst (kst m1 8 (upd (m1 8) (9 * a + 5) (nI b))) 8 (upd ((kst m1 8 (upd (m1 8) (9 * a + 5) (nI b))) 8) (9 * b + 5) (nI a))) 9 (4 * l + 2) = nI g := by
              rw [kst_ne _ _ (by decide), kst_ne _ _ (by decide), m19]; exact hg
            have to80 : F_X6_marry_40 (nI a) (nI b) (nI l) (thr 0 m) = F_X6_marry_80 (nI a) (nI b) (nI l) m1 := by
              rcases hgo with ⟨rfl, rfl⟩ | ⟨rfl, rfl⟩
              · simp only [F_X6_marry_40, s2, pz_bind, pz_10, if_false, F_X6_marry_49, cl, F_X6_marry_54, la_2 l12, m19, hg, if_true]
              · simp only [F_X6_marry_40, s2, pz_bind, pz_10, if_false, F_X6_marry_49, cl, F_X6_marry_54, la_2 l12, m19, hg, cab, F_X6_marry_64, if_true]
            rw [to80, start, if_neg (pz_m1 (by omega)), F_X6_marry_103, la_2 l12, pz_bind, e9, sets, if_neg (pz_m1 (by omega))]
            simp only [F_X6_marry_150, so, h2, pz_bind]
        by_cases g1 : k 19 l = nI a
        · exact give a b (Or.inl ⟨rfl, rfl⟩) g1
        · by_cases g2 : k 19 l = nI b
          · exact give b a (Or.inr ⟨rfl, rfl⟩) g2
          · refine bad2 m1 s3 ?_ ?_
            · rw [cls]; simp only [F_X5_marry_20, s1, pz_bind, pz_10, if_false, F_X5_marry_42, ru, cl, F_X5_marry_60, g1, F_X5_marry_66, g2, F_X5_marry_72]
            · rw [ref]; simp only [F_X6_marry_40, s2, pz_bind, pz_10, if_false, F_X6_marry_49, cl, F_X6_marry_54, la_2 l12, m19, g1, F_X6_marry_64, g2]
    · refine bad2 m1 s3 ?_ ?_
      · rw [cls]; simp only [F_X5_marry_20, s1, pz_bind, pz_00, if_true, F_X5_marry_32]
      · rw [ref]; simp only [F_X6_marry_40, s2, pz_bind, pz_00, if_true]
  · have hne : ¬ v3 = -1 := fun h => hl3 (Or.inl h)
    rw [if_neg hne] at cls ref
    have hno : v3 < 0 ∨ nI L ≤ v3 := by
      rcases pk_ix v3 (n := L) (by omega) with h | h | ⟨l, hl, rfl⟩
      · exact Or.inl h
      · exact Or.inr h
      · exact absurd (Or.inr ⟨l, hl, rfl⟩) hl3
    refine bad3 ?_ ?_
    · rw [cls]; simp only [F_X5_marry_15, nl_0 hk2 hno, pz_bind, pz_n3, if_false]
    · rw [ref]; simp only [F_X6_marry_26, il_0 hL hm2 hno, pz_bind, pz_00, if_true]
end ZD
