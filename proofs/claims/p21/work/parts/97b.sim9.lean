/-! SIM, THE CLASS AND THE REFERENCE TOGETHER: one dies; a year -/
def jSt (n L h0 H y : Nat) (k m z : kS) : Prop := zRel 15 n L k m ∧ zXl L (fun _ => H) k m ∧ k 15 0 = nI y ∧ (∀ p, p < 40 → k 39 p = -1) ∧ jR n L h0 m z ∧ jEx n L y k m
section ZS
variable {n L h0 H a b p q w r B y y' l : Nat} {k k' m m' z : kS} {v h : Int32} {f : Nat → Int32} {P : Nat → Int32}
theorem jSt_lv (S : jSt n L h0 H y k m z) (hy : y < 2 ^ 30) : jLv n k z := jLv_of S.2.2.2.2.1 S.1.2.1 S.2.2.2.2.2 hy
theorem jSt_law (S : jSt n L h0 H y k m z) (hl : l < L) : ∃ w, w ≤ 3 ∧ m 9 (4 * l + 1) = nI w := by
  obtain ⟨-, -, ⟨-, -, -, -, w5⟩, -⟩ := S.1
  obtain ⟨e1, -, w, w1, w2⟩ := w5 l hl
  exact ⟨w, w1, e1.trans w2⟩
theorem jSt_w (S : jSt n L h0 H y k m z) (hr : r < n) : m 8 (9 * r + 5) = -1 ∨ ∃ q, q < n ∧ q ≠ r ∧ m 8 (9 * r + 5) = nI q := by
  obtain ⟨⟨-, a2, a3⟩, -⟩ := S.1.2.2.2.2.2.1 rfl
  rw [(a2 r hr).1]
  rcases a3 r hr with ⟨h, -⟩ | ⟨q, q1, q2, q3, -⟩
  · exact Or.inl h
  · exact Or.inr ⟨q, q1, q2, q3⟩
theorem jSt_ye (S : jSt n L h0 H y k m z) : m 11 0 = nI y := by
  obtain ⟨-, -, ⟨-, -, -, w4, -⟩, -⟩ := S.1
  exact w4.symm.trans S.2.2.1
theorem jdie_st (S : jSt n L h0 H y k m z) (hr : r < n) (hl : k 29 r = -1) (hy : y < 2 ^ 30) (hh : h0 + 13 < 4000) (hH : H < 2 ^ 30) : ∃ cnt k' m' z' c s uc us, F_X4_bury 15 (nI r) k = some (cnt, k') ∧ F_X6_dies (nI r) m = some ((cnt, m'), uc, us) ∧ F_X8_die (nI r) z = some ((cnt, z'), c, s) ∧ jSt n L (h0 + 12) (H + 1) y k' m' z' ∧ zFr 15 k k' ∧ zAl 15 n k' + 1 ≤ zAl 15 n k ∧ jDie n L k m m' r ∧ m' 7 = m 7 ∧ m' 11 = m 11 ∧ c ≤ jDc L (jmx k n n) ∧ s ≤ jDs L (jmx k n n) := by
  have hLv := jSt_lv S hy
  have hye := jSt_ye S
  obtain ⟨hR, hX, hyk, h39, R, hE⟩ := id S
  have hLi := hR.2.1
  have hl2 : m 8 (9 * r + 2) = 1 := by
    rcases hLi r hr with ⟨-, h⟩ | ⟨h, -⟩
    · exact h
    · exact absurd hl h
  obtain ⟨cnt, k', m', uc, us, b1, b2, b3, b4, b5, b6, b7, b8, b9, -, -⟩ := bu_x (hH := H) (Or.inl rfl) hR hr hl hyk (by omega) (fun _ => hX) hH
  obtain ⟨cnt2, m2, z', c, s, uc2, us2, d1, d2, d3, d4, d5, d6⟩ := jdi_x R hR.1 hLi hLv hr (fun l hl => jSt_law S hl) hR.2.2.1.2.2.1 (jSt_w S hr) hh
  rw [b2] at d1
  have e := Option.some.inj d1
  have e1 : cnt = cnt2 := congrArg (fun o => o.1.1) e
  have e2 : m' = m2 := congrArg (fun o => o.1.2) e
  subst e1
  subst e2
  refine ⟨cnt, k', m', z', c, s, uc, us, b1, b2, d2, ⟨b3, b4 rfl, by rw [b9]; exact hyk, fun p hp => by rw [b5.2.2.1 rfl 39 (by decide) (by decide)]; exact h39 p hp, d3, jEx_die R hE d4 hr hye hl2 b5.2.1⟩, b5, ?_, d4, b6, b7, d5, ?_⟩
  · refine zcnt_lt (fun c hc h => ?_) hr hl ?_
    · have h : k' (15 + 14) c = -1 := h
      rw [b8] at h
      by_cases e : c = r
      · subst e; exact hl
      · rw [pz_un e] at h; exact h
    · show ¬ k' (15 + 14) r = -1
      rw [b8, pz_us]; exact pz_m1 (by omega)
  · unfold jDs
    have := Nat.mul_le_mul_left L (show h0 + 13 ≤ 4000 by omega)
    omega
theorem zFr_par (h : zFr 15 k k') : k' 4 = k 4 ∧ k' 5 = k 5 := ⟨h.1 4 (by decide), h.1 5 (by decide)⟩
/-- the loop of a year -/
theorem jyr_l (hn : n ≤ 40) {k0 : kS} (hy : y < 2 ^ 30) (hh : h0 + 12 * 41 + 13 < 4000) (hH : H + 41 < 2 ^ 30) : ∀ (d i : Nat) (k mo zi : kS) (cnt : Nat) (hi Hi : Nat) (g g' : Nat), i + d = n → d < g → d < g' → jSt n L hi Hi y k mo zi → zFr 15 k0 k → hi + 12 * zAl 15 n k ≤ h0 + 12 * zAl 15 n k0 → Hi + zAl 15 n k ≤ H + zAl 15 n k0 → ∃ k' mo' zf c s uc us cnt' hf Hf, F_X6_yearOn_14 g (nI cnt) (nI i) mo = some ((nI cnt', mo'), uc, us) ∧ F_X8_pass_23 g' (nI cnt) (nI n) (nI i) zi = some ((nI cnt', zf), c, s) ∧ jSt n L hf Hf y k' mo' zf ∧ zFr 15 k0 k' ∧ hf + 12 * zAl 15 n k' ≤ h0 + 12 * zAl 15 n k0 ∧ Hf + zAl 15 n k' ≤ H + zAl 15 n k0 ∧ zAl 15 n k' ≤ zAl 15 n k ∧ c + jDc L (jmx k0 n n) * zAl 15 n k' ≤ jDc L (jmx k0 n n) * zAl 15 n k ∧ s + jDs L (jmx k0 n n) * zAl 15 n k' ≤ jDs L (jmx k0 n n) * zAl 15 n k ∧ mo' 7 = mo 7 ∧ mo' 11 = mo 11
  | 0, i, k, mo, zi, cnt, hi, Hi, g, g', hd, hg, hg', S, hF, h1, h2 => by
    obtain ⟨g, rfl⟩ : ∃ x, g = x + 1 := ⟨g - 1, by omega⟩
    obtain ⟨g', rfl⟩ : ∃ x, g' = x + 1 := ⟨g' - 1, by omega⟩
    obtain rfl : i = n := by omega
    have e7 : mo 7 1 = nI i := S.1.1.2.2.1
    refine ⟨k, mo, zi, 0, 0, 0, 0, cnt, hi, Hi, ?_, ?_, S, hF, h1, h2, Nat.le_refl _, by omega, by omega, rfl, rfl⟩
    · simp only [F_X6_yearOn_14, F_X6_yearOn_58, e7, pz_cT (show i < 2 ^ 31 by omega), if_true]
    · simp only [F_X8_pass_23, F_X8_pass_77, pz_cT (show i < 2 ^ 31 by omega), if_true]
  | d + 1, i, k, mo, zi, cnt, hi, Hi, g, g', hd, hg, hg', S, hF, h1, h2 => by
    obtain ⟨g, rfl⟩ : ∃ x, g = x + 1 := ⟨g - 1, by omega⟩
    obtain ⟨g', rfl⟩ : ∃ x, g' = x + 1 := ⟨g' - 1, by omega⟩
    have hin : i < n := by omega
    have e7 : mo 7 1 = nI n := S.1.1.2.2.1
    have c := pz_cF hin (show n < 2 ^ 31 by omega)
    have R := S.2.2.2.2.1
    have hLv := jSt_lv S hy
    have hye := jSt_ye S
    have e2 : zi (4 * i + 1) 2 = mo 8 (9 * i + 1) := (jR_p R hin).2.2.1
    have z00 : zi 0 0 = mo 11 0 := jR_y R
    have al0 : zAl 15 n k0 ≤ n := zAl_b
    have skip : ∃ k' mo' zf c s uc us cnt' hf Hf, F_X6_yearOn_14 g (nI cnt) (nI (i + 1)) mo = some ((nI cnt', mo'), uc, us) ∧ F_X8_pass_23 g' (nI cnt) (nI n) (nI (i + 1)) zi = some ((nI cnt', zf), c, s) ∧ jSt n L hf Hf y k' mo' zf ∧ zFr 15 k0 k' ∧ hf + 12 * zAl 15 n k' ≤ h0 + 12 * zAl 15 n k0 ∧ Hf + zAl 15 n k' ≤ H + zAl 15 n k0 ∧ zAl 15 n k' ≤ zAl 15 n k ∧ c + jDc L (jmx k0 n n) * zAl 15 n k' ≤ jDc L (jmx k0 n n) * zAl 15 n k ∧ s + jDs L (jmx k0 n n) * zAl 15 n k' ≤ jDs L (jmx k0 n n) * zAl 15 n k ∧ mo' 7 = mo 7 ∧ mo' 11 = mo 11 := jyr_l hn hy hh hH d (i + 1) k mo zi cnt hi Hi g g' (by omega) (by omega) (by omega) S hF h1 h2
    rcases S.1.2.1 i hin with ⟨l1, l2⟩ | ⟨l1, l2⟩
    · have l3 : zi (4 * i + 1) 3 = -1 := by
        rcases hLv i hin with ⟨h, -⟩ | ⟨-, h⟩
        · exact h
        · exact absurd l1 h
      by_cases g80 : 80 ≤ mo 11 0 - mo 8 (9 * i + 1)
      · obtain ⟨x, k1, m1, z1, c1, s1, uc1, us1, -, f2, f3, f4, f5, f6, f7, f8, f9, f10, f11⟩ := jdie_st S hin l1 hy (by omega) (by omega)
        have ju := zFr_par hF
        rw [jmx_cg2 ju.1 ju.2] at f10 f11
        obtain ⟨k', mo', zf, c2, s2, uc2, us2, cnt', hf, Hf, p1, p2, p3, p4, p5, p6, p7, p8, p9, p10, p11⟩ := jyr_l hn hy hh hH d (i + 1) k1 m1 z1 (cnt + 1) (hi + 12) (Hi + 1) g g' (by omega) (by omega) (by omega) f4 (hF.tr f5) (by omega) (by omega)
        have mu := Nat.mul_le_mul_left (jDc L (jmx k0 n n)) f6
        have mu2 := Nat.mul_le_mul_left (jDs L (jmx k0 n n)) f6
        rw [Nat.mul_add, Nat.mul_one] at mu mu2
        refine ⟨k', mo', zf, c1 + c2, s1 + s2, uc1 + uc2, us1 + us2, cnt', hf, Hf, ?_, ?_, p3, p4, p5, p6, by omega, by omega, by omega, p10.trans f8, p11.trans f9⟩
        · simp only [F_X6_yearOn_14, F_X6_yearOn_22, F_X6_yearOn_30, F_X6_yearOn_43, F_X6_yearOn_52, e7, c, if_false, ri_1 (show i < 40 by omega) l2, pz_bind, pz_10, ra_1 (show i < 40 by omega), g80, if_true, f2, nI_1, p1, pz_kadds]
        · simp only [F_X8_pass_23, F_X8_pass_29, F_X8_pass_43, F_X8_pass_61, F_X8_pass_71, c, jR_jN R, jR_jM R, jR_ln R, jR_lL R, if_false, jR_ng R (hin), jR_cl R (hin), pz_ge (hin), or_self, if_false, jR_z4 R hin, jLv_m l3, e2, z00, g80, if_true, f3, pz_bind, nI_1, p2, pz_kadds]
      · obtain ⟨k', mo', zf, c2, s2, uc2, us2, cnt', hf, Hf, p1, p2, pr⟩ := skip
        refine ⟨k', mo', zf, c2, s2, uc2, us2, cnt', hf, Hf, ?_, ?_, pr⟩
        · simp only [F_X6_yearOn_14, F_X6_yearOn_22, F_X6_yearOn_30, F_X6_yearOn_40, F_X6_yearOn_52, e7, c, if_false, ri_1 (show i < 40 by omega) l2, pz_bind, pz_10, ra_1 (show i < 40 by omega), g80, nI_1, p1]
        · simp only [F_X8_pass_23, F_X8_pass_29, F_X8_pass_43, F_X8_pass_58, F_X8_pass_71, c, jR_jN R, jR_jM R, jR_ln R, jR_lL R, if_false, jR_ng R (hin), jR_cl R (hin), pz_ge (hin), or_self, if_false, jR_z4 R hin, jLv_m l3, e2, z00, g80, nI_1, p2]
    · obtain ⟨t, ht, l3⟩ : ∃ t, t < 2 ^ 30 ∧ zi (4 * i + 1) 3 = nI t := by
        rcases hLv i hin with ⟨-, h⟩ | ⟨h, -⟩
        · exact absurd h l1
        · exact h
      obtain ⟨k', mo', zf, c2, s2, uc2, us2, cnt', hf, Hf, p1, p2, pr⟩ := skip
      refine ⟨k', mo', zf, c2, s2, uc2, us2, cnt', hf, Hf, ?_, ?_, pr⟩
      · simp only [F_X6_yearOn_14, F_X6_yearOn_22, F_X6_yearOn_52, e7, c, if_false, ri_0 (show i < 40 by omega) l2, pz_bind, pz_00, if_true, nI_1, p1]
      · simp only [F_X8_pass_23, F_X8_pass_29, F_X8_pass_71, c, jR_jN R, jR_jM R, jR_ln R, jR_lL R, if_false, jR_ng R (hin), jR_cl R (hin), pz_ge (hin), or_self, if_false, jR_z4 R hin, jLv_neg ht l3, if_true, nI_1, p2]
end ZS
