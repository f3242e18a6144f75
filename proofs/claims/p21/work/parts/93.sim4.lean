/-! SIM'S HEIR AND REGENT, beside the class's -/
def jKn (k : kS) (r : Nat) (h : Int32) : Prop := h = -1 ∨ ∃ q, q < 2 ^ 31 ∧ h = nI q ∧ k (69 + q) r ≠ -1
section ZS
variable {n L h0 a b p q w r B y : Nat} {k m z : kS} {v : Int32} {f : Nat → Int32}
theorem jLv_neg {x : Int32} {t : Nat} (ht : t < 2 ^ 30) (e : x = nI t) : ((0 : Int32) ≤ x) = True := by subst e; exact eq_true (nI_pos' (by omega))
theorem jLv_m {x : Int32} (e : x = -1) : ((0 : Int32) ≤ x) = False := by subst e; exact eq_false (by decide)
/-- the eldest of kin -/
theorem jel_x (R : jR n L h0 m z) (hK : zKin n k m) (hLv : jLv n k z) (hr : r < n) : ∃ h, F_X4_eldestOfKin 15 k (nI r) = some h ∧ F_X8_heir_7 z (nI r) (-1) = some (h, 0, 0) ∧ zHeirOk n 15 r k h ∧ jKn k r h := by
  have hK' := hK
  obtain ⟨hn, hk, hm, hE, hMl, hPar, hSt⟩ := hK
  obtain ⟨b, b', h1, h2, rfl, h3, h4⟩ := pz_loop20 (α := Int32) (α' := Int32) (fun g i a => F_X4_eldestOfKin_4 15 k g (nI r) a (nI i)) (fun g i a => F_X8_heir_21 z g (nI r) a (nI n) (nI i)) (fun a => some a) (fun a => some (a, 0, 0)) n (fun i a a' => a = a' ∧ zHeirOk n 15 r k a ∧ jKn k r a)
    (fun a a' hI => ⟨fun g => by
      simp only [F_X4_eldestOfKin_60, F_X4_eldestOfKin_58, F_X4_eldestOfKin_46, F_X4_eldestOfKin_41, F_X4_eldestOfKin_28, F_X4_eldestOfKin_20, F_X4_eldestOfKin_15, F_X4_eldestOfKin_66, F_X4_eldestOfKin_4, F_X4_eldestOfKin_0, F_X4_eldestOfKin, hk, pz_cT (show n < 2 ^ 31 by omega), if_true], fun g => by
      simp only [F_X8_heir_21, F_X8_heir_84, pz_cT (show n < 2 ^ 31 by omega), if_true]⟩)
    (fun i a a' hi hI => by
      obtain ⟨rfl, i3, i4⟩ := hI
      have c := pz_cF hi (show n < 2 ^ 31 by omega)
      by_cases g : i = r
      · subst g
        exact ⟨a, a, fun g => by simp only [F_X4_eldestOfKin_60, F_X4_eldestOfKin_58, F_X4_eldestOfKin_46, F_X4_eldestOfKin_41, F_X4_eldestOfKin_28, F_X4_eldestOfKin_20, F_X4_eldestOfKin_15, F_X4_eldestOfKin_66, F_X4_eldestOfKin_4, F_X4_eldestOfKin_0, F_X4_eldestOfKin, hk, c, if_false, if_true, nI_1], fun g => by simp only [F_X8_heir_21, F_X8_heir_28, F_X8_heir_78, c, jR_jN R, jR_jM R, jR_ln R, jR_lL R, if_false, jR_ng R (hi), jR_cl R (hi), pz_ge (hi), or_self, if_false, jR_z4 R hi, jR_b R (jk_n hi), if_true, nI_1], rfl, i3, i4⟩
      · have hne : (nI i = nI r) = False := by rw [pz_eq (by omega) (by omega)]; exact eq_false g
        rcases hLv i hi with ⟨l2, l1⟩ | ⟨⟨t, ht, l2⟩, l1⟩
        · rcases jrl_v hK' hi hr with ⟨u1, u2⟩ | ⟨t, ht, u1, u2⟩
          · have c9 : (1000 ≤ nI 1000) = True := eq_true (by decide)
            exact ⟨a, a, fun g => by simp only [F_X4_eldestOfKin_60, F_X4_eldestOfKin_58, F_X4_eldestOfKin_46, F_X4_eldestOfKin_41, F_X4_eldestOfKin_28, F_X4_eldestOfKin_20, F_X4_eldestOfKin_15, F_X4_eldestOfKin_66, F_X4_eldestOfKin_4, F_X4_eldestOfKin_0, F_X4_eldestOfKin, hk, c, if_false, hne, li_1 (B := 15) hn hk hi l1, pz_bind, pz_10, sb_1 hn hk hi hr, u1, if_true, nI_1], fun g => by simp only [F_X8_heir_21, F_X8_heir_28, F_X8_heir_41, F_X8_heir_49, F_X8_heir_78, c, jR_jN R, jR_jM R, jR_ln R, jR_lL R, if_false, jR_ng R (hi), jR_cl R (hi), pz_ge (hi), or_self, if_false, jR_z4 R hi, jR_b R (jk_n hi), jR_b R (jk_n hr), hne, jLv_m l2, jrel_x R hK' hi hr, u2, pz_bind, c9, if_true, nI_1], rfl, i3, i4⟩
          · have c9 : (1000 ≤ nI t) = False := eq_false (nI_ge (b := 1000) (by omega) (by decide))
            have cm : (nI t = -1) = False := pz_m1' (by omega)
            have ok : zHeirOk n 15 r k (nI i) := Or.inr ⟨i, hi, g, rfl, l1⟩
            have ok2 : jKn k r (nI i) := Or.inr ⟨i, by omega, rfl, by rw [u1]; exact pz_m1 (by omega)⟩
            rcases i3 with rfl | ⟨q, q1, q2, rfl, q3⟩
            · exact ⟨nI i, nI i, fun g => by simp only [F_X4_eldestOfKin_60, F_X4_eldestOfKin_58, F_X4_eldestOfKin_46, F_X4_eldestOfKin_41, F_X4_eldestOfKin_28, F_X4_eldestOfKin_20, F_X4_eldestOfKin_15, F_X4_eldestOfKin_66, F_X4_eldestOfKin_4, F_X4_eldestOfKin_0, F_X4_eldestOfKin, hk, c, if_false, hne, li_1 (B := 15) hn hk hi l1, pz_bind, pz_10, sb_1 hn hk hi hr, u1, cm, if_true, nI_1], fun g => by simp only [F_X8_heir_21, F_X8_heir_28, F_X8_heir_41, F_X8_heir_49, F_X8_heir_62, F_X8_heir_75, F_X8_heir_78, c, jR_jN R, jR_jM R, jR_ln R, jR_lL R, if_false, jR_ng R (hi), jR_cl R (hi), pz_ge (hi), or_self, if_false, jR_z4 R hi, jR_b R (jk_n hi), jR_b R (jk_n hr), hne, jLv_m l2, jrel_x R hK' hi hr, u2, pz_bind, c9, if_true, nI_1], rfl, ok, ok2⟩
            · obtain ⟨y, y1, -, y3⟩ := be_x (m := m) hn hi q1 hE
              obtain ⟨x, x1, x3⟩ := jbe_x R hE hi q1
              have cq : (nI q = -1) = False := pz_m1' (by omega)
              rcases y3 with ⟨rfl, y4⟩ | ⟨rfl, y4⟩
              · obtain rfl : x = 1 := by
                  rcases x3 with ⟨h, -⟩ | ⟨-, h⟩
                  · exact h
                  · exact absurd y4 h
                exact ⟨nI i, nI i, fun g => by simp only [F_X4_eldestOfKin_60, F_X4_eldestOfKin_58, F_X4_eldestOfKin_46, F_X4_eldestOfKin_41, F_X4_eldestOfKin_28, F_X4_eldestOfKin_20, F_X4_eldestOfKin_15, F_X4_eldestOfKin_66, F_X4_eldestOfKin_4, F_X4_eldestOfKin_0, F_X4_eldestOfKin, hk, c, if_false, hne, li_1 (B := 15) hn hk hi l1, pz_bind, pz_10, sb_1 hn hk hi hr, u1, cm, cq, y1, nI_1], fun g => by simp only [F_X8_heir_21, F_X8_heir_28, F_X8_heir_41, F_X8_heir_49, F_X8_heir_62, F_X8_heir_66, F_X8_heir_75, F_X8_heir_78, c, jR_jN R, jR_jM R, jR_ln R, jR_lL R, if_false, jR_ng R (hi), jR_cl R (hi), pz_ge (hi), or_self, if_false, jR_z4 R hi, jR_b R (jk_n hi), jR_b R (jk_n hr), hne, jLv_m l2, jrel_x R hK' hi hr, u2, pz_bind, c9, cq, x1, pz_10, nI_1], rfl, ok, ok2⟩
              · obtain rfl : x = 0 := by
                  rcases x3 with ⟨-, h⟩ | ⟨h, -⟩
                  · exact absurd h y4
                  · exact h
                exact ⟨nI q, nI q, fun g => by simp only [F_X4_eldestOfKin_60, F_X4_eldestOfKin_58, F_X4_eldestOfKin_46, F_X4_eldestOfKin_41, F_X4_eldestOfKin_28, F_X4_eldestOfKin_20, F_X4_eldestOfKin_15, F_X4_eldestOfKin_66, F_X4_eldestOfKin_4, F_X4_eldestOfKin_0, F_X4_eldestOfKin, hk, c, if_false, hne, li_1 (B := 15) hn hk hi l1, pz_bind, pz_10, sb_1 hn hk hi hr, u1, cm, cq, y1, pz_00, if_true, nI_1], fun g => by simp only [F_X8_heir_21, F_X8_heir_28, F_X8_heir_41, F_X8_heir_49, F_X8_heir_62, F_X8_heir_66, F_X8_heir_75, F_X8_heir_78, c, jR_jN R, jR_jM R, jR_ln R, jR_lL R, if_false, jR_ng R (hi), jR_cl R (hi), pz_ge (hi), or_self, if_false, jR_z4 R hi, jR_b R (jk_n hi), jR_b R (jk_n hr), hne, jLv_m l2, jrel_x R hK' hi hr, u2, pz_bind, c9, cq, x1, pz_00, if_true, nI_1], rfl, Or.inr ⟨q, q1, q2, rfl, q3⟩, i4⟩
        · exact ⟨a, a, fun g => by simp only [F_X4_eldestOfKin_60, F_X4_eldestOfKin_58, F_X4_eldestOfKin_46, F_X4_eldestOfKin_41, F_X4_eldestOfKin_28, F_X4_eldestOfKin_20, F_X4_eldestOfKin_15, F_X4_eldestOfKin_66, F_X4_eldestOfKin_4, F_X4_eldestOfKin_0, F_X4_eldestOfKin, hk, c, if_false, hne, li_0 (B := 15) hn hk hi l1, pz_bind, pz_00, if_true, nI_1], fun g => by simp only [F_X8_heir_21, F_X8_heir_28, F_X8_heir_41, F_X8_heir_78, c, jR_jN R, jR_jM R, jR_ln R, jR_lL R, if_false, jR_ng R (hi), jR_cl R (hi), pz_ge (hi), or_self, if_false, jR_z4 R hi, jR_b R (jk_n hi), jR_b R (jk_n hr), hne, jLv_neg ht l2, if_true, nI_1], rfl, i3, i4⟩)
    (by omega) (a := (-1)) (a' := (-1)) ⟨rfl, Or.inl rfl, Or.inl rfl⟩
  refine ⟨b, h1, ?_, h3, h4⟩
  simp only [F_X8_heir_7, jR_ln R]
  exact h2
/-- the first of a line comes from it -/
theorem zTab_path (hn : n ≤ 40) (hP : zPar n k) (hT : zTabF n k 15 r w f) : ∀ d p, p < n → n < d + p → f p = -1 ∨ ∃ q e, q < n ∧ f p = nI q ∧ zPath k e q p
  | 0, p, hp, hd => by omega
  | d + 1, p, hp, hd => by
    rcases hT p hp with ⟨h, -⟩ | ⟨c, c1, c2, c3, c4, -⟩
    · exact Or.inl h
    · have hlt := zCh_lt hn hP c1 hp c2
      rw [c4]
      unfold zTold
      by_cases h : k 29 c = -1 ∧ c ≠ r
      · rw [if_pos h]
        exact Or.inr ⟨c, 1, c1, rfl, p, hlt, c2, rfl⟩
      · rw [if_neg h]
        rcases zTab_path hn hP hT d c c1 (by omega) with e | ⟨q, e, q1, q2, q3⟩
        · exact Or.inl e
        · exact Or.inr ⟨q, e + 1, q1, q2, zPath_snoc q3 hlt c2⟩
theorem jKn_of (hK : zKin n k m) (hr : r < n) (hq : q < n) {d e : Nat} {x : Nat} (h1 : zPath k d q x) (h2 : zPath k e r x) : k (69 + q) r ≠ -1 := by
  rcases hK.2.2.2.2.2.2 q r hq hr with ⟨-, h⟩ | ⟨p', d', e', -, -, h, -⟩
  · exact absurd h2 (h x d e h1)
  · have hn := hK.1
    rcases hK.2.2.2.2.2.2 q r hq hr with ⟨-, h⟩ | ⟨p', d', e', g1, g2, h, -⟩
    · exact absurd h2 (h x d e h1)
    · have := zPath_le g1
      have := zPath_le g2
      rw [h]; exact pz_m1 (by omega)
/-- the most steps down from one of all -/
noncomputable def jmx (k : kS) (n : Nat) : Nat → Nat
  | 0 => 0
  | p + 1 => max (jmx k n p) (jps k n kD p)
theorem jmx_le : ∀ x, p < x → jps k n kD p ≤ jmx k n x
  | 0, h => by omega
  | x + 1, h => by
    show _ ≤ max _ _
    by_cases e : p = x
    · subst e; omega
    · have := jmx_le x (show p < x by omega)
      omega
/-- heirs by any law -/
theorem jhe_x (R : jR n L h0 m z) (hK : zKin n k m) (hLv : jLv n k z) (hr : r < n) (hw : w ≤ 3) : ∃ h k' c s, F_X4_heirOf 15 (nI r) (nI w) k = some (h, k') ∧ F_X8_heir z (nI r) (nI w) = some (h, c, s) ∧ zOffB 15 k k' ∧ zHeirOk n 15 r k h ∧ jKn k r h ∧ c ≤ 3 + 3 * jmx k n n ∧ s ≤ 3 * jmx k n n := by
  have hn := R.1
  by_cases h3 : w = 3
  · subst h3
    obtain ⟨h, g1, g2, g3, g4⟩ := jel_x R hK hLv hr
    have c3 : (nI 3 = 3) = True := eq_true rfl
    refine ⟨h, k, 0, 0, ?_, ?_, zOffB.rf 15 k, g3, g4, by omega, by omega⟩
    · simp only [F_X4_heirOf, F_X4_heirOf_0, F_X4_heirOf_13, F_X4_heirOf_18, kn_1 hK.1 hK.2.1 hr, pz_bind, pz_10, if_false, c3, if_true, g1]
    · simp only [F_X8_heir, F_X8_heir_0, c3, if_true, g2]
  · obtain ⟨k', g1, g2, g3, g4⟩ := hc_x (Or.inl rfl) hK hr (show w ≤ 2 by omega)
    have hP := hK.2.2.2.2.2.1
    have hE := hK.2.2.2.1
    generalize hf : k' (15 + 12) = f at g1 g3 g4
    have fr : ∀ x, x < n → ∃ c s, F_X8_first z kD (nI x) (nI w) (nI r) = some (f x, c, s) ∧ c ≤ 1 + jmx k n n ∧ s ≤ jmx k n n := by
      intro x hx
      obtain ⟨c, s, e1, e2, e3⟩ := jfi_x R hK hLv hr (show w ≤ 2 by omega) g3 g4 kD x hx (by show n < 45 + x; omega)
      have := jmx_le (k := k) (n := n) (p := x) n hx
      exact ⟨c, s, e1, by omega, by omega⟩
    have fa : ∀ v, (v = k 4 r ∨ v = k 5 r) → ∃ c s, F_X8_first z kD v (nI w) (nI r) = some (zAt f v, c, s) ∧ c ≤ 1 + jmx k n n ∧ s ≤ jmx k n n ∧ zHeirOk n 15 r k (zAt f v) ∧ jKn k r (zAt f v) := by
      intro v hv
      have : v = -1 ∨ ∃ x, x < n ∧ v = nI x ∧ (k 4 r = nI x ∨ k 5 r = nI x) ∧ x < r := by
        rcases hP r hr with ⟨p1, p2⟩ | ⟨x, y, hx, hy, p1, p2⟩
        · rcases hv with rfl | rfl
          · exact Or.inl p1
          · exact Or.inl p2
        · rcases hv with rfl | rfl
          · exact Or.inr ⟨x, by omega, p1, Or.inl p1, hx⟩
          · exact Or.inr ⟨y, by omega, p2, Or.inr p2, hy⟩
      rcases this with rfl | ⟨x, hx, rfl, hx2, hx3⟩
      · refine ⟨0, 0, ?_, by omega, by omega, Or.inl rfl, Or.inl rfl⟩
        exact jfi_m
      · obtain ⟨c, s, e1, e2, e3⟩ := fr x hx
        have ea : zAt f (nI x) = f x := by rw [zAt, if_neg (pz_m1 (by omega)), nI_clamp (by omega)]
        refine ⟨c, s, by rw [e1, ea], e2, e3, by rw [ea]; exact g4 x hx, ?_⟩
        rw [ea]
        rcases zTab_path hn hP g3 kD x hx (by show n < 45 + x; omega) with e | ⟨q, e, q1, q2, q3⟩
        · exact Or.inl e
        · exact Or.inr ⟨q, by omega, q2, jKn_of hK hr q1 (x := x) q3 (e := 1) ⟨x, hx3, hx2, rfl⟩⟩
    obtain ⟨c1, s1, a1, a2, a3⟩ := fr r hr
    obtain ⟨c2, s2, b1, b2, b3, b4, b5⟩ := fa (k 5 r) (Or.inr rfl)
    obtain ⟨c3, s3, d1, d2, d3, d4, d5⟩ := fa (k 4 r) (Or.inl rfl)
    have kr : jKn k r (f r) := by
      rcases zTab_path hn hP g3 kD r hr (by show n < 45 + r; omega) with e | ⟨q, e, q1, q2, q3⟩
      · exact Or.inl e
      · exact Or.inr ⟨q, by omega, q2, jKn_of hK hr q1 (x := r) q3 (e := 0) rfl⟩
    have w3 : (nI w = 3) = False := by rw [pz_e3 (by omega)]; exact eq_false h3
    have e4 := jR_k4 R hE hr
    have e5 := jR_k5 R hE hr
    have t9 : ∀ x : Int32, F_X8_heir_109 z (nI r) (nI w) x = if x = -1 then some (zAt f (k 4 r), c3, s3) else some (x, 0, 0) := by
      intro x
      simp only [F_X8_heir_109, F_X8_heir_113, F_X8_heir_126, F_X8_heir_127, jR_jN R, jR_jM R, jR_ln R, jR_lL R, if_false, jR_ng R (hr), jR_cl R (hr), pz_ge (hr), or_self, if_false, e4, d1, pz_bind, pz_kadds, Nat.add_zero]
    have t8 : F_X8_heir_98 z (nI r) (nI w) = if zAt f (k 5 r) = -1 then some (zAt f (k 4 r), c2 + c3, s2 + s3) else some (zAt f (k 5 r), c2, s2) := by
      simp only [F_X8_heir_98, jR_jN R, jR_jM R, jR_ln R, jR_lL R, if_false, jR_ng R (hr), jR_cl R (hr), pz_ge (hr), or_self, if_false, e5, b1, pz_bind, t9]
      by_cases h : zAt f (k 5 r) = -1
      · rw [if_pos h, if_pos h]; rfl
      · rw [if_neg h, if_neg h]; rfl
    refine ⟨zComb k f r, k', ?_⟩
    by_cases h1 : f r = -1
    · by_cases h2 : zAt f (k 5 r) = -1
      · refine ⟨c1 + (c2 + c3), s1 + (s2 + s3), g1, ?_, g2, ?_, ?_, by omega, by omega⟩ <;> (unfold zComb; rw [if_pos h1, if_pos h2])
        · simp only [F_X8_heir, F_X8_heir_0, w3, if_false, F_X8_heir_86, a1, pz_bind, h1, if_true, t8, h2]
          rfl
        · exact d4
        · exact d5
      · refine ⟨c1 + c2, s1 + s2, g1, ?_, g2, ?_, ?_, by omega, by omega⟩ <;> (unfold zComb; rw [if_pos h1, if_neg h2])
        · simp only [F_X8_heir, F_X8_heir_0, w3, if_false, F_X8_heir_86, a1, pz_bind, h1, if_true, t8, h2]
          rfl
        · exact b4
        · exact b5
    · refine ⟨c1, s1, g1, ?_, g2, ?_, ?_, by omega, by omega⟩ <;> (unfold zComb; rw [if_neg h1])
      · simp only [F_X8_heir, F_X8_heir_0, w3, if_false, F_X8_heir_86, a1, pz_bind, h1, t9]
        rfl
      · exact g4 r hr
      · exact kr
end ZS
