/-! FOUND, in all three -/
section ZS
variable {n L h0 H c p q w x r B y y' l ag Y s A U : Nat} {k k' m m' z z' mc : kS} {v v1 v2 v3 h a b t d gv : Int32} {f : Nat → Int32} {P : Nat → Int32}
theorem zSaidL_v : zSaidL v t 0 = v ∧ zSaidL v t 1 = t ∧ zSaidL v t 2 = -1 ∧ zSaidL v t 3 = 0 := ⟨rfl, rfl, rfl, rfl⟩
theorem jR_land (R : jR n L h0 m z) (hL : L < 12) (hz : jNl L z z' v t) : jR n (L + 1) h0 (kst m 9 (va_cpy (zSaidL v t) (m 9) 0 (4 * L) 4)) z' ∧ ∀ l, l < L → jSm m (kst m 9 (va_cpy (zSaidL v t) (m 9) 0 (4 * L) 4)) l := by
  obtain ⟨z0, z1, z2, z3, z4, z5, z6, z7, z8, z9, z10, z11, z12⟩ := hz
  obtain ⟨s0, s1, s2, s3⟩ := zSaidL_v (v := v) (t := t)
  have m9o : ∀ l w, l < L → w < 4 → (kst m 9 (va_cpy (zSaidL v t) (m 9) 0 (4 * L) 4)) 9 (4 * l + w) = m 9 (4 * l + w) := fun l w hl hw => by rw [kst_eq, pk_cpy_out (by omega)]
  have m9n : ∀ w, w < 4 → (kst m 9 (va_cpy (zSaidL v t) (m 9) 0 (4 * L) 4)) 9 (4 * L + w) = zSaidL v t w := fun w hw => by rw [kst_eq, pk_cpy_in (by omega) (by omega)]; congr 1; omega
  have mq : ∀ q, q ≠ 9 → (kst m 9 (va_cpy (zSaidL v t) (m 9) 0 (4 * L) 4)) q = m q := fun q hq => kst_ne _ _ hq
  have sm : ∀ l, l < L → jSm m (kst m 9 (va_cpy (zSaidL v t) (m 9) 0 (4 * L) 4)) l := fun l hl => ⟨fun w hw => m9o l w hl hw, fun i _ => by rw [mq 10 (by decide)]⟩
  obtain ⟨r1, r2, r3, r4, r5, r6, r7, r8, r9⟩ := R
  have zP : ∀ p, z' (4 * p + 1) = z (4 * p + 1) := fun p => z0 _ (by omega) (by omega) (by omega) (by omega) (by omega) (by omega)
  refine ⟨⟨r1, by omega, r3, ⟨z1.trans r4.1, z2, z3.trans r4.2.2.1, z4, ?_, ?_, z5, z6⟩, ?_, fun p hp => jRp_cg (r6 p hp) (zP p) (fun w _ => by rw [mq 8 (by decide)]), fun l hl => ?_, ⟨fun p hp => ?_, fun l hl => ?_⟩, fun l hl => ?_⟩, sm⟩
  · rw [z0 4 (by omega) (by omega) (by decide) (by decide) (by decide) (by decide)]; exact r4.2.2.2.2.1
  · rw [z0 4 (by omega) (by omega) (by decide) (by decide) (by decide) (by decide)]; exact r4.2.2.2.2.2.1
  · rw [z0 0 (by omega) (by omega) (by decide) (by decide) (by decide) (by decide), mq 11 (by decide)]; exact r5
  · by_cases e : l = L
    · subst e
      refine ⟨?_, ?_, ?_, ?_, fun h hh e i hi => ?_⟩
      · rw [z7]; exact (m9n 0 (by decide)).symm
      · rw [z8]; exact (m9n 1 (by decide)).symm
      · rw [z9]; exact (m9n 2 (by decide)).symm
      · rw [z11]; exact (m9n 3 (by decide)).symm
      · rw [z11] at e
        have : 0 = h := (nI_eq (a := 0) (by decide) hh).mp e
        omega
    · exact jRl_cg (r7 l (by omega)) (z0 _ (by omega) (by omega) (by omega) (by omega) (by omega) (by omega)) (z0 _ (by omega) (by omega) (by omega) (by omega) (by omega) (by omega)) (z12 l e) (fun w hw => m9o l w (by omega) hw) (fun i _ => by rw [mq 10 (by decide)])
  · rw [zP p]
    obtain ⟨c4, c5, c6, c7, c8⟩ := r8.1 p hp
    exact ⟨c4, c5, c6, jk_up c7 (by omega), c8⟩
  · by_cases e : l = L
    · subst e
      rw [z9]
      exact ⟨jk_m n, fun i => by rw [z10]; exact jk_m n⟩
    · rw [z0 _ (by omega) (by omega) (by omega) (by omega) (by omega) (by omega), z0 (4 * l + 3) (by omega) (by omega) (by omega) (by omega) (by omega) (by omega)]
      exact r8.2 l (by omega)
  · by_cases e : l = L
    · subst e; exact ⟨0, by omega, z11⟩
    · rw [z12 l e]; exact r9 l (by omega)
theorem jfound_st (S : jSt n L h0 (4100 * c) y k m z) (hL : L < 12) (hc : c < 600) (hw : w ≤ 50) (hw1 : 1 ≤ w) (hx : x ≤ 3) (hv : v = -1 ∨ ∃ p, p < n ∧ v = nI p ∧ k 29 p = -1) (hh : h0 < 4000) : ∃ k' m' z' c1 s1, F_X5_found (nI w) (nI x) v k = some ((0, nI L), k') ∧ F_X8_found (nI w) (nI x) v z = some (z', c1, s1) ∧ jSt n (L + 1) (h0 + 1) (4100 * (c + 1)) y k' m' z' ∧ c1 ≤ 4 ∧ s1 ≤ L + h0 + 6 ∧ m' 8 = m 8 ∧ (∀ l, l < L → jSm m m' l) ∧ m' 11 = m 11 := by
  have R := S.2.2.2.2.1
  have hn := R.1
  obtain ⟨k', m', g1, g2, g3, g4, g5, g6, -⟩ := fd_r (v := v) S.1 S.2.1 hL (by omega) hw hx hv
  obtain ⟨z1, f1, f2⟩ := jfound_z (v1 := nI w) (v2 := nI x) (v3 := v) R hL
  obtain ⟨R1, sm⟩ := jR_land R hL f2
  have kv : jk n v := by
    rcases hv with h | ⟨p, hp, h, -⟩
    · rw [h]; exact jk_m n
    · rw [h]; exact jk_n hp
  obtain ⟨m5, z5, c1, s1, r1, r2, r3, r4, r5, r6, r7, r8, r9⟩ := jrule_x (l := L) R1 (by omega) kv hh
  have e7 : (kst m 9 (va_cpy (zSaidL (nI w) (nI x)) (m 9) 0 (4 * L) 4)) 7 = m 7 := kst_ne _ _ (by decide)
  have m57 : m5 7 2 = nI L := by rw [r4 7 (by decide) (by decide), e7]; exact S.1.2.2.1.2.2.1
  have ref : F_X6_found_77 (nI w) (nI x) v m = some ((nI L, kst m5 7 (upd (m5 7) 2 (nI (L + 1)))), 1, 4) := by
    have c4 : 4 * nI L = nI (4 * L) := pk_mul 4 L
    have cc : ¬ ((0 : Int32) < 0 ∨ nI (4 * L) < 0 ∨ (4 : Int32) < 0 ∨ 4 < (0 : Int32).toNatClampNeg + (4 : Int32).toNatClampNeg ∨ 48 < (nI (4 * L)).toNatClampNeg + (4 : Int32).toNatClampNeg) := by
      rw [nI_clamp (show 4 * L < 2 ^ 31 by omega)]
      rintro (h | h | h | h | h)
      · exact absurd h (by decide)
      · exact nI_pos (by omega) h
      · exact absurd h (by decide)
      · exact absurd h (by decide)
      · have : (4 : Int32).toNatClampNeg = 4 := rfl
        omega
    unfold F_X6_found_77
    rw [if_neg (by decide), if_neg (by decide), if_neg (by decide), if_neg (by decide), S.1.2.2.1.2.2.1, c4, if_neg cc, nI_clamp (show 4 * L < 2 ^ 31 by omega)]
    have e72 : (kst m 9 (va_cpy (zSaidL (nI w) (nI x)) (m 9) 0 (4 * L) 4)) 7 2 = nI L := by rw [e7]; exact S.1.2.2.1.2.2.1
    show kadd 1 4 ((F_X6_rule ((kst m 9 (va_cpy (zSaidL (nI w) (nI x)) (m 9) 0 (4 * L) 4)) 7 2) v (kst m 9 (va_cpy (zSaidL (nI w) (nI x)) (m 9) 0 (4 * L) 4))).bind _) = _
    rw [e72, r1]
    show some ((kst m5 7 (upd (m5 7) 2 (m5 7 2 + 1)) 7 2 - 1, kst m5 7 (upd (m5 7) 2 (m5 7 2 + 1))), 1, 4) = _
    rw [m57, nI_1, kst_eq, pz_us, nI_pred]
  rw [g2] at ref
  have em : m' = kst m5 7 (upd (m5 7) 2 (nI (L + 1))) := congrArg (fun o : (Int32 × kS) × Nat × Nat => o.1.2) (Option.some.inj ref)
  have mq : ∀ q, q ≠ 7 → m' q = m5 q := fun q hq => by rw [em, kst_ne _ _ hq]
  have m8 : m' 8 = m 8 := by rw [mq 8 (by decide), r4 8 (by decide) (by decide), kst_ne _ _ (by decide)]
  have m11 : m' 11 = m 11 := by rw [mq 11 (by decide), r4 11 (by decide) (by decide), kst_ne _ _ (by decide)]
  have sm2 : ∀ l, l < L → jSm m m' l := fun l hl => jSm_tr (sm l hl) (jSm_tr (r9 l (by omega)) (jSm.rf (mq 9 (by decide)) (mq 10 (by decide))))
  have Rf : jR n (L + 1) (h0 + 1) m' z5 := by
    obtain ⟨q1, q2, q3, q4, q5, q6, q7, q8, q9⟩ := r3
    refine ⟨q1, q2, q3, q4, by rw [mq 11 (by decide)]; exact q5, fun p hp => ?_, fun l hl => jRl_cg (q7 l hl) rfl rfl rfl (fun w _ => by rw [mq 9 (by decide)]) (fun i _ => by rw [mq 10 (by decide)]), q8, q9⟩
    rw [m8]
    have := q6 p hp
    rw [kst_ne _ _ (by decide)] at this
    exact this
  refine ⟨k', m', z5, 3 + c1, L + 5 + s1, ?_, ?_, ⟨g3, g4, by rw [g5]; exact S.2.2.1, fun p hp => by rw [g6 39 (by decide) (by decide)]; exact S.2.2.2.1 p hp, Rf, ?_⟩, by omega, by omega, m8, sm2, m11⟩
  · have a1 : ¬ nI w < 1 := nI_nlt (b := 1) hw1 (by omega)
    have a3 : nI w ≤ 50 := nI_le (b := 50) hw (by decide)
    have hk2 : k 16 0 = nI L := S.1.2.2.1.2.1
    simp only [F_X5_found, F_X5_found_0, F_X5_found_5, a1, a3, if_true, if_false, F_X5_found_21, nw_1 (k := k) hx, pz_bind, pz_nz]
    rcases hv with rfl | ⟨p, hp, rfl, hl⟩
    · simp only [if_true, F_X5_found_35, fl_1 hL hk2, pz_bind, pz_00, F_X5_found_58, F_X5_found_84, g1]
    · have cp : (nI p = -1) = False := pz_m1' (by omega)
      simp only [cp, if_false, F_X5_found_30, np_1 hn S.1.1.2.1 hp, pz_bind, pz_nz, if_true, F_X5_found_35, fl_1 hL hk2, pz_00, F_X5_found_58, F_X5_found_63, li_1 (B := 15) hn S.1.1.2.1 hp hl, pz_10, F_X5_found_84, g1]
  · rw [f1, r2]
    simp only [pz_bind, pz_kadds, Nat.add_zero]
  · obtain ⟨x1, x2, x3, x4, x5, x6, x7⟩ := S.2.2.2.2.2
    have un := jSteps_m S.1.1 g3.1 (fun p _ => by rw [m8]) (fun p _ => by rw [m8])
    unfold jEx
    rw [m8]
    refine ⟨x1, x2, x3, fun p q hp hq e => by rw [un p q hp hq]; exact x4 p q hp hq e, x5, fun l hl => ?_, x7⟩
    by_cases e : l = L
    · subst e
      have := jHd_x6 (m' := m5) (show jR n (l + 1) h0 (kst m 9 (va_cpy (zSaidL (nI w) (nI x)) (m 9) 0 (4 * l) 4)) z1 from R1) (by omega) r8
      rw [mq 9 (by decide), mq 10 (by decide)]; exact this
    · have g := sm2 l (by omega)
      rw [g.1 2 (by decide), g.1 3 (by decide), show m' 10 (15 * l) = m 10 (15 * l) from g.2 0 (by decide)]; exact x6 l (by omega)
end ZS
