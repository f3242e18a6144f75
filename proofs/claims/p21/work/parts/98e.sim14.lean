/-! A YEAR AND A DEATH, in all three -/
section ZS
variable {n L h0 H c p q w r B y y' l ag : Nat} {k k' m m' z z' : kS} {v v1 v2 h a b t : Int32} {f : Nat → Int32} {P : Nat → Int32}
theorem jdiec_st (S : jSt n L h0 H y k m z) (hr : r < n) (hl : k 29 r = -1) (hy : y < 2 ^ 30) (hh : h0 + 13 < 4000) (hH : H < 2 ^ 30) : ∃ cnt k' m' z' c s, F_X5_die (nI r) k = some ((0, cnt), k') ∧ F_X8_die (nI r) z = some ((cnt, z'), c, s) ∧ jSt n L (h0 + 12) (H + 1) y k' m' z' ∧ zFr 15 k k' ∧ zAl 15 n k' + 1 ≤ zAl 15 n k ∧ jDie n L k m m' r ∧ m' 11 = m 11 ∧ c ≤ jDc L (jmx k n n) ∧ s ≤ jDs L (jmx k n n) := by
  obtain ⟨cnt, k', m', z', c, s, uc, us, e1, e2, e3, e4, e5, e6, e7, e8, e9, e10, e11⟩ := jdie_st S hr hl hy hh hH
  refine ⟨cnt, k', m', z', c, s, ?_, e3, e4, e5, e6, e7, e9, e10, e11⟩
  have hn := S.1.1.1
  have hk := S.1.1.2.1
  simp only [F_X5_die, F_X5_die_0, np_1 hn hk hr, li_1 (B := 15) hn hk hr hl, pz_bind, pz_nz, pz_10, if_true, if_false, F_X5_die_26, e1]
theorem zAl_cg (h : k' 29 = k 29) : zAl 15 n k' = zAl 15 n k := zcnt_congr n (fun c _ => by show k' 29 c = -1 ↔ k 29 c = -1; rw [h])
theorem jyr_x (S : jSt n L h0 H y k m z) (hy : y + 1 < 2 ^ 30) (hh : h0 + 12 * 41 + 13 < 4000) (hH : H + 41 < 2 ^ 30) : ∃ d k' m' z' c s uc us h1 H1, F_X6_yearOn m = some ((nI d, m'), uc, us) ∧ F_X8_pass z = some ((nI d, z'), c, s) ∧ jSt n L h1 H1 (y + 1) k' m' z' ∧ zFr 15 k k' ∧ h1 + 12 * zAl 15 n k' ≤ h0 + 12 * zAl 15 n k ∧ H1 + zAl 15 n k' ≤ H + zAl 15 n k ∧ zAl 15 n k' ≤ zAl 15 n k ∧ c + jDc L (jmx k n n) * zAl 15 n k' ≤ jDc L (jmx k n n) * zAl 15 n k ∧ s + jDs L (jmx k n n) * zAl 15 n k' ≤ jDs L (jmx k n n) * zAl 15 n k ∧ m' 7 = m 7 ∧ m' 11 0 = nI (y + 1) := by
  have hye := jSt_ye S
  have hz0 := jSt_z0 S
  obtain ⟨hR, hX, hyk, h39, R, hE⟩ := id S
  have hn := R.1
  have hL := R.2.1
  obtain ⟨k1, hk1⟩ : ∃ x, x = kst k 15 (upd (k 15) 0 (nI (y + 1))) := ⟨_, rfl⟩
  obtain ⟨m1, hm1⟩ : ∃ x, x = kst m 11 (upd (m 11) 0 (nI (y + 1))) := ⟨_, rfl⟩
  obtain ⟨z1, hz1⟩ : ∃ x, x = kst z 0 (upd (z 0) 0 (nI (y + 1))) := ⟨_, rfl⟩
  have kq : ∀ q, q ≠ 15 → k1 q = k q := fun q hq => by rw [hk1, kst_ne _ _ hq]
  have mq : ∀ q, q ≠ 11 → m1 q = m q := fun q hq => by rw [hm1, kst_ne _ _ hq]
  have zq : ∀ q, q ≠ 0 → z1 q = z q := fun q hq => by rw [hz1, kst_ne _ _ hq]
  have ky : k1 15 0 = nI (y + 1) := by rw [hk1, kst_eq, pz_us]
  have my : m1 11 0 = nI (y + 1) := by rw [hm1, kst_eq, pz_us]
  have zy : z1 0 0 = nI (y + 1) := by rw [hz1, kst_eq, pz_us]
  have S1 : jSt n L h0 H (y + 1) k1 m1 z1 := by
    refine ⟨zRel_cg (Or.inl rfl) hR (fun q h1 _ _ => kq q h1) (fun q _ h2 _ _ _ => mq q h2) (by rw [mq 7 (by decide)]) (by rw [mq 7 (by decide)]) (ky.trans my.symm), zXl_cg hL hX (kq 17 (by decide)) (kq 20 (by decide)) (kq 21 (by decide)) (fun l hl => kq _ (by omega)) (mq 9 (by decide)) (mq 10 (by decide)), ky, fun p hp => by rw [kq 39 (by decide)]; exact h39 p hp, ⟨hn, hL, R.2.2.1, jRa_cg (jR_a R) (zq 4 (by decide)) (zq 8 (by decide)) (zq 12 (by decide)) (zq 20 (by decide)), zy.trans my.symm, fun p hp => jRp_cg (jR_p R hp) (zq _ (by omega)) (fun w _ => by rw [mq 8 (by decide)]), fun l hl => jRl_cg (jR_lr R hl) (zq _ (by omega)) (zq _ (by omega)) (by rw [zq 16 (by decide)]) (fun w _ => by rw [mq 9 (by decide)]) (fun i _ => by rw [mq 10 (by decide)]), ⟨fun p hp => by rw [zq _ (by omega)]; exact (jR_c R).1 p hp, fun l hl => by rw [zq _ (by omega), zq (4 * l + 3) (by omega)]; exact (jR_c R).2 l hl⟩, fun l hl => by rw [zq 16 (by decide)]; exact jR_h R l hl⟩, ?_⟩
    exact jEx_cg (jEx_y hE (show y ≤ y + 1 by omega)) (fun q hq => kq q (by omega)) (fun p w _ _ _ => by rw [mq 8 (by decide)]) (fun l _ => jSm.rf (mq 9 (by decide)) (mq 10 (by decide)))
  have F1 : zFr 15 k k1 := ⟨fun q hq => kq q (by omega), fun q hq => kq q (by omega), fun _ q h1 _ => kq q (by omega), fun h => absurd h (by decide), kq _ (by decide), kq _ (by decide), kq _ (by decide)⟩
  have al := zAl_cg (n := n) (kq 29 (by decide))
  have jx : jmx k1 n n = jmx k n n := jmx_cg2 (kq 4 (by decide)) (kq 5 (by decide)) n
  obtain ⟨k', mo', zf, c, s, uc, us, d, hf, Hf, p1, p2, p3, p4, p5, p6, p7, p8, p9, p10, p11⟩ := jyr_l hn hy (k0 := k1) (h0 := h0) (H := H) hh hH n 0 k1 m1 z1 0 h0 H kN kN (by omega) (by show n < 4096; omega) (by show n < 4096; omega) S1 (zFr.rf 15 k1) (Nat.le_refl _) (Nat.le_refl _)
  rw [jx, al] at p8 p9
  rw [al] at p5 p6 p7
  refine ⟨d, k', mo', zf, c, s, uc, us, hf, Hf, ?_, ?_, p3, F1.tr p4, p5, p6, p7, p8, p9, by rw [p10, mq 7 (by decide)], by rw [p11]; exact my⟩
  · have e : F_X6_yearOn_14 kN 0 0 m1 = some ((nI d, mo'), uc, us) := p1
    have e2 : m 11 0 + 1 = nI (y + 1) := by rw [hye, nI_1]
    simp only [F_X6_yearOn, F_X6_yearOn_0, pz_cl0, pz_0lt, pz_1le0, or_self, if_false, e2]
    rw [← hm1]; exact e
  · have e : F_X8_pass_23 kN 0 (nI n) 0 z1 = some ((nI d, zf), c, s) := p2
    have e2 : z 0 0 + 1 = nI (y + 1) := by rw [hz0, nI_1]
    have hz1' : kput z 0 0 (nI (y + 1)) = z1 := hz1.symm
    have l1 : (z1 12 0).toNatClampNeg = n := by rw [zq 12 (by decide)]; exact jR_ln R
    simp only [F_X8_pass, F_X8_pass_0, e2, hz1', l1]
    exact e
end ZS
