/-! MARRY, in all three: the state's side -/
section ZS
variable {n L h0 H c p q w r B y y' l ag Y s A U : Nat} {k k' m m' z z' mc : kS} {v v1 v2 v3 h a b t d gv : Int32} {f : Nat → Int32} {P : Nat → Int32}
theorem jR_off (R : jR n L h0 m z) (ho : zOff m mc) : jR n L h0 mc z := by
  obtain ⟨r1, r2, r3, r4, r5, r6, r7, r8, r9⟩ := R
  refine ⟨r1, r2, r3, r4, by rw [ho 11 (by decide) (by decide)]; exact r5, fun p hp => by rw [ho 8 (by decide) (by decide)]; exact r6 p hp, fun l hl => ?_, r8, r9⟩
  exact jRl_cg (r7 l hl) rfl rfl rfl (fun w _ => by rw [ho 9 (by decide) (by decide)]) (fun i _ => by rw [ho 10 (by decide) (by decide)])
/-- two persons' places change: with, given, giver -/
theorem jR_wed {z' : kS} {g g1 : Int32} (R : jR n L h0 m z) (ha : A < n) (hb : U < n) (hab : A ≠ U) (hg : jk L g) (hg1 : jk n g1) (o : ∀ x, x ≠ 4 * A + 1 → x ≠ 4 * U + 1 → z' x = z x)
    (za : ∀ w, w < 6 → z' (4 * A + 1) w = z (4 * A + 1) w) (zu : ∀ w, w < 6 → z' (4 * U + 1) w = z (4 * U + 1) w) (a6 : z' (4 * A + 1) 6 = nI U) (u6 : z' (4 * U + 1) 6 = nI A) (a7 : z' (4 * A + 1) 7 = g) (u7 : z' (4 * U + 1) 7 = g)
    (a8 : jk n (z' (4 * A + 1) 8)) (u8 : jk n (z' (4 * U + 1) 8)) (a9 : g = -1 ∨ z' (4 * A + 1) 8 = g1) (u9 : g = -1 ∨ z' (4 * U + 1) 8 = g1) : jR n L h0 (kst m 8 (zWed A U g g1 (m 8))) z' := by
  have m8 : ∀ x, x ≠ 8 → kst m 8 (zWed A U g g1 (m 8)) x = m x := fun x hx => kst_ne _ _ hx
  obtain ⟨w1, w2, w3, w4, w5, w6⟩ := zWed_v (lv := g) (gv := g1) (f := m 8) hab
  refine ⟨R.1, R.2.1, R.2.2.1, jRa_cg (jR_a R) (o 4 (by omega) (by omega)) (o 8 (by omega) (by omega)) (o 12 (by omega) (by omega)) (o 20 (by omega) (by omega)), by rw [o 0 (by omega) (by omega), m8 11 (by decide)]; exact jR_y R, fun p hp => ?_, fun l hl => jRl_cg (jR_lr R hl) (o _ (by omega) (by omega)) (o _ (by omega) (by omega)) (by rw [o 16 (by omega) (by omega)]) (fun w _ => by rw [m8 9 (by decide)]) (fun i _ => by rw [m8 10 (by decide)]), ⟨fun p hp => ?_, fun l hl => by rw [o _ (by omega) (by omega), o (4 * l + 3) (by omega) (by omega)]; exact (jR_c R).2 l hl⟩, fun l hl => by rw [o 16 (by omega) (by omega)]; exact jR_h R l hl⟩
  · rw [kst_eq]
    obtain ⟨b0, b1, b2, b3, b4, b5, b6, b7, b8⟩ := jR_p R hp
    have keep : ∀ w, w < 9 → w ≠ 5 → w ≠ 7 → w ≠ 8 → zWed A U g g1 (m 8) (9 * p + w) = m 8 (9 * p + w) := fun w hw h5 h7 h8 => zWed_o hw (Or.inr ⟨h5, h7, h8⟩)
    have k0 : zWed A U g g1 (m 8) (9 * p) = m 8 (9 * p) := keep 0 (by decide) (by decide) (by decide) (by decide)
    by_cases e : p = A
    · subst e
      unfold jRp
      rw [za 0 (by decide), za 1 (by decide), za 2 (by decide), za 3 (by decide), za 4 (by decide), za 5 (by decide), k0, keep 1 (by decide) (by decide) (by decide) (by decide), keep 6 (by decide) (by decide) (by decide) (by decide), keep 3 (by decide) (by decide) (by decide) (by decide), keep 4 (by decide) (by decide) (by decide) (by decide), w1, w3, w5]
      exact ⟨b0, b1, b2, b3, b4, b5, a6, a7, a9.imp (fun h => a7.trans h) id⟩
    · by_cases e2 : p = U
      · subst e2
        unfold jRp
        rw [zu 0 (by decide), zu 1 (by decide), zu 2 (by decide), zu 3 (by decide), zu 4 (by decide), zu 5 (by decide), k0, keep 1 (by decide) (by decide) (by decide) (by decide), keep 6 (by decide) (by decide) (by decide) (by decide), keep 3 (by decide) (by decide) (by decide) (by decide), keep 4 (by decide) (by decide) (by decide) (by decide), w2, w4, w6]
        exact ⟨b0, b1, b2, b3, b4, b5, u6, u7, u9.imp (fun h => u7.trans h) id⟩
      · exact jRp_cg (jR_p R hp) (o _ (by omega) (by omega)) (fun w hw => zWed_o hw (Or.inl ⟨e, e2⟩))
  · obtain ⟨c4, c5, c6, c7, c8⟩ := (jR_c R).1 p hp
    by_cases e : p = A
    · subst e
      rw [za 4 (by decide), za 5 (by decide), a6, a7]
      exact ⟨c4, c5, jk_n hb, hg, a8⟩
    · by_cases e2 : p = U
      · subst e2
        rw [zu 4 (by decide), zu 5 (by decide), u6, u7]
        exact ⟨c4, c5, jk_n ha, hg, u8⟩
      · rw [o _ (by omega) (by omega)]; exact ⟨c4, c5, c6, c7, c8⟩
/-- Sim's marry, its two roads -/
theorem jma_0 (R : jR n L h0 m z) (ha : A < n) (hb : U < n) (hab : A ≠ U) (h7 : m 8 (9 * A + 7) = -1) (h7u : m 8 (9 * U + 7) = -1) : ∃ z', F_X8_marry (nI A) (nI U) (-1) z = some (z', 0, 0) ∧ ∀ g1, jk n g1 → jR n L h0 (kst m 8 (zWed A U (-1) g1 (m 8))) z' := by
  have nA : 4 * A + 1 ≠ 20 := by omega
  have nU : 4 * U + 1 ≠ 4 * A + 1 := by omega
  obtain ⟨z1, hz1⟩ : ∃ x, x = kst z (4 * A + 1) (upd (z (4 * A + 1)) 6 (nI U)) := ⟨_, rfl⟩
  obtain ⟨z2, hz2⟩ : ∃ x, x = kst z1 (4 * U + 1) (upd (z1 (4 * U + 1)) 6 (nI A)) := ⟨_, rfl⟩
  have N1 : jN z1 = n := by rw [hz1, jN_st nA]; exact jR_jN R
  have eA : z2 (4 * A + 1) = upd (z (4 * A + 1)) 6 (nI U) := by rw [hz2, kst_ne _ _ nU.symm, hz1, kst_eq]
  have eU : z2 (4 * U + 1) = upd (z (4 * U + 1)) 6 (nI A) := by rw [hz2, kst_eq, hz1, kst_ne _ _ nU]
  refine ⟨z2, ?_, fun g1 hg1 => ?_⟩
  · simp only [F_X8_marry, F_X8_marry_0, jR_jN R, jR_jM R, jR_ln R, jR_lL R, if_false, jR_ng R (ha), jR_cl R (ha), pz_ge (ha), or_self, if_false]
    rw [show kput z (4 * A + 1) 6 (nI U) = z1 from hz1.symm]
    simp only [N1, jR_ng R (hb), jR_cl R (hb), pz_ge (hb), or_self, if_false, if_true, F_X8_marry_14]
    rw [show kput z1 (4 * U + 1) 6 (nI A) = z2 from hz2.symm]
  · have ca := (jR_c R).1 A ha
    have cu := (jR_c R).1 U hb
    refine jR_wed R ha hb hab (jk_m L) hg1 (fun x h1 h2 => by rw [hz2, kst_ne _ _ h2, hz1, kst_ne _ _ h1]) (fun w hw => by rw [eA, pz_un (by omega)]) (fun w hw => by rw [eU, pz_un (by omega)]) (by rw [eA, pz_us]) (by rw [eU, pz_us]) ?_ ?_ ?_ ?_ (Or.inl rfl) (Or.inl rfl)
    · rw [eA, pz_un (by decide)]; exact (jR_p R ha).2.2.2.2.2.2.2.1.trans h7
    · rw [eU, pz_un (by decide)]; exact (jR_p R hb).2.2.2.2.2.2.2.1.trans h7u
    · rw [eA, pz_un (by decide)]; exact ca.2.2.2.2
    · rw [eU, pz_un (by decide)]; exact cu.2.2.2.2
theorem jma_1 {g o : Nat} (R : jR n L h0 m z) (ha : A < n) (hb : U < n) (hab : A ≠ U) (hl : l < L) (hg : m 9 (4 * l + 2) = nI g) (hgo : (g = A ∧ o = U) ∨ (g = U ∧ o = A)) : ∃ z6, F_X8_marry (nI A) (nI U) (nI l) z = (F_X8_rule (nI l) (nI o) z6).bind (fun x => kadd x.2.1 x.2.2 (some (x.1, 0, 0))) ∧ jR n L h0 (kst m 8 (zWed A U (nI l) (nI g) (m 8))) z6 := by
  have hn := R.1
  have hL := R.2.1
  have nA : 4 * A + 1 ≠ 20 := by omega
  have nU2 : 4 * U + 1 ≠ 20 := by omega
  have nU : 4 * U + 1 ≠ 4 * A + 1 := by omega
  have nl : 4 * l + 2 ≠ 4 * A + 1 := by omega
  have nl2 : 4 * l + 2 ≠ 4 * U + 1 := by omega
  have hgn : g < n := by rcases hgo with ⟨h, -⟩ | ⟨h, -⟩ <;> omega
  obtain ⟨z1, hz1⟩ : ∃ x, x = kst z (4 * A + 1) (upd (z (4 * A + 1)) 6 (nI U)) := ⟨_, rfl⟩
  obtain ⟨z2, hz2⟩ : ∃ x, x = kst z1 (4 * U + 1) (upd (z1 (4 * U + 1)) 6 (nI A)) := ⟨_, rfl⟩
  obtain ⟨z3, hz3⟩ : ∃ x, x = kst z2 (4 * A + 1) (upd (z2 (4 * A + 1)) 7 (nI l)) := ⟨_, rfl⟩
  obtain ⟨z4, hz4⟩ : ∃ x, x = kst z3 (4 * U + 1) (upd (z3 (4 * U + 1)) 7 (nI l)) := ⟨_, rfl⟩
  obtain ⟨z5, hz5⟩ : ∃ x, x = kst z4 (4 * A + 1) (upd (z4 (4 * A + 1)) 8 (nI g)) := ⟨_, rfl⟩
  obtain ⟨z6, hz6⟩ : ∃ x, x = kst z5 (4 * U + 1) (upd (z5 (4 * U + 1)) 8 (nI g)) := ⟨_, rfl⟩
  have N1 : jN z1 = n := by rw [hz1, jN_st nA]; exact jR_jN R
  have N2 : jN z2 = n := by rw [hz2, jN_st nU2]; exact N1
  have N3 : jN z3 = n := by rw [hz3, jN_st nA]; exact N2
  have N4 : jN z4 = n := by rw [hz4, jN_st nU2]; exact N3
  have N5 : jN z5 = n := by rw [hz5, jN_st nA]; exact N4
  have N6 : jN z6 = n := by rw [hz6, jN_st nU2]; exact N5
  have M2 : jM z2 = L := by rw [hz2, jM_st nU2, hz1, jM_st nA]; exact jR_jM R
  have r2 : z2 (4 * l + 2) 2 = nI g := by rw [hz2, kst_ne _ _ nl2, hz1, kst_ne _ _ nl]; exact (jR_lr R hl).2.2.1.trans hg
  have cl : (nI l = -1) = False := pz_m1' (by omega)
  have eA : z6 (4 * A + 1) = upd (upd (upd (z (4 * A + 1)) 6 (nI U)) 7 (nI l)) 8 (nI g) := by
    rw [hz6, kst_ne _ _ nU.symm, hz5, kst_eq, hz4, kst_ne _ _ nU.symm, hz3, kst_eq, hz2, kst_ne _ _ nU.symm, hz1, kst_eq]
  have eU : z6 (4 * U + 1) = upd (upd (upd (z (4 * U + 1)) 6 (nI A)) 7 (nI l)) 8 (nI g) := by
    rw [hz6, kst_eq, hz5, kst_ne _ _ nU, hz4, kst_eq, hz3, kst_ne _ _ nU, hz2, kst_eq, hz1, kst_ne _ _ nU]
  refine ⟨z6, ?_, ?_⟩
  · simp only [F_X8_marry, F_X8_marry_0, jR_jN R, jR_jM R, jR_ln R, jR_lL R, if_false, jR_ng R (ha), jR_cl R (ha), pz_ge (ha), or_self, if_false]
    rw [show kput z (4 * A + 1) 6 (nI U) = z1 from hz1.symm]
    simp only [N1, jR_ng R (hb), jR_cl R (hb), pz_ge (hb), or_self, if_false, cl]
    rw [show kput z1 (4 * U + 1) 6 (nI A) = z2 from hz2.symm]
    simp only [F_X8_marry_15, M2, N2, jR_ng R (ha), jR_cl R (ha), pz_ge (ha), or_self, if_false, jR_ngL R (hl), jR_clL R (hl), pz_ge (hl), or_self, if_false, jR_ng R (hb), jR_cl R (hb), pz_ge (hb), or_self, if_false]
    rw [show kput z2 (4 * A + 1) 7 (nI l) = z3 from hz3.symm]
    simp only [N3, jR_ng R (hb), jR_cl R (hb), pz_ge (hb), or_self, if_false]
    rw [show kput z3 (4 * U + 1) 7 (nI l) = z4 from hz4.symm]
    simp only [N4, jR_ng R (ha), jR_cl R (ha), pz_ge (ha), or_self, if_false, r2]
    rw [show kput z4 (4 * A + 1) 8 (nI g) = z5 from hz5.symm]
    simp only [N5, jR_ng R (hb), jR_cl R (hb), pz_ge (hb), or_self, if_false]
    rw [show kput z5 (4 * U + 1) 8 (nI g) = z6 from hz6.symm]
    simp only [N6, jR_b R (jk_n hgn), jR_b R (jk_n ha), if_false, F_X8_marry_51, F_X8_marry_55, F_X8_marry_56]
    rcases hgo with ⟨rfl, rfl⟩ | ⟨rfl, rfl⟩
    · rw [if_pos rfl]
    · rw [if_neg (fun h => hab ((nI_eq (by omega) (by omega)).mp h).symm)]
  · refine jR_wed R ha hb hab (jk_n hl) (jk_n hgn) (fun x h1 h2 => by rw [hz6, kst_ne _ _ h2, hz5, kst_ne _ _ h1, hz4, kst_ne _ _ h2, hz3, kst_ne _ _ h1, hz2, kst_ne _ _ h2, hz1, kst_ne _ _ h1]) (fun w hw => by rw [eA, pz_un (by omega), pz_un (by omega), pz_un (by omega)]) (fun w hw => by rw [eU, pz_un (by omega), pz_un (by omega), pz_un (by omega)]) ?_ ?_ ?_ ?_ ?_ ?_ ?_ ?_
    · rw [eA, pz_un (by decide), pz_un (by decide), pz_us]
    · rw [eU, pz_un (by decide), pz_un (by decide), pz_us]
    · rw [eA, pz_un (by decide), pz_us]
    · rw [eU, pz_un (by decide), pz_us]
    · rw [eA, pz_us]; exact jk_n hgn
    · rw [eU, pz_us]; exact jk_n hgn
    · exact Or.inr (by rw [eA, pz_us])
    · exact Or.inr (by rw [eU, pz_us])
end ZS
