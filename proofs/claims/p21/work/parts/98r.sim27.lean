/-! ACT, as a whole -/
theorem pz_e10 {w : Nat} (h : w < 2 ^ 31) : (nI w = 10) = (w = 10) := by
  have : (nI w = nI 10) = (w = 10) := pz_eq h (by decide)
  exact this
section ZS
variable {n L h0 H c p q w x r B y y' l ag Y s A U E : Nat} {k k' m m' z z' mc : kS} {v v1 v2 v3 h a b t gv : Int32} {f : Nat → Int32} {P : Nat → Int32}
theorem jSt_al (S : jSt n L h0 H y k m z) : zAl 15 n k = jAl n m := jAl_k S.1.2.1
theorem jact_n0 (S : jSt n L h0 (4100 * c) y k m z) (hy : y < 2 ^ 30) (hc : c < 600) (hh : h0 + 13 < 4000) : jActO n L h0 c y 0 k m (F_L_act_160 v (nI n) k z) := by
  rcases jact_come (v := v) S hy with ⟨h40, e⟩ | ⟨k', m', z', v1, ag, hn, hv1, hag, e, S', hq, ho, hs⟩
  · exact jActO_rf S (by omega) e
  · obtain ⟨s0, s1, s2, s3, s4, -⟩ := zSaid_v (v := v1) (t := nI y - nI ag) (a := -1) (b := -1)
    have al := jAl_new (m := m) (m' := m') ho ((hs 2 (by decide)).trans s2)
    have wb := jWb_new0 (m := m) (m' := m') ho ((hs 3 (by decide)).trans s3)
    refine ⟨n + 1, L, h0, k', m', z', 6, n + 34, e, jSt_up S' (by omega), ⟨by omega, by omega, by omega, fun _ => rfl, by omega, Or.inl ⟨by omega, by omega, by omega⟩, by rw [wb]; exact Nat.le_add_right _ _⟩, Or.inl fun l _ => by rw [hq 9 (by decide) (by decide)], jPr_new S.1.1 S'.1.1 ho (fun a b ha hb e => by rw [hs 3 (by decide), s3] at e; exact absurd e.symm (pz_m1 (by omega)))⟩
theorem jact_n1 {how : Nat} (S : jSt n L h0 (4100 * c) y k m z) (hy : y < 2 ^ 30) (hc : c < 600) (hh : h0 + 13 < 4000) (h4 : ¬ n < 4) (hA : A < n) : jActO n L h0 c y how k m (F_L_act_228 v (nI n) (nI A) k z) := by
  rcases jact_bear (v := v) S hy hA with e | ⟨k', m', z', v1, p, q, hn, hv1, hp, hq', e24, e, S', hq, ho, hs⟩
  · exact jActO_rf S (by omega) e
  · obtain ⟨s0, s1, s2, s3, s4, -⟩ := zSaid_v (v := v1) (t := nI y) (a := nI p) (b := nI q)
    have al := jAl_new (m := m) (m' := m') ho ((hs 2 (by decide)).trans s2)
    have wb := jWb_new1 (m := m) (m' := m') ho (by rw [hs 3 (by decide), s3]; exact pz_m1 (by omega)) ((hs 1 (by decide)).trans s1) hy
    refine ⟨n + 1, L, h0, k', m', z', 6, n + 34, e, jSt_up S' (by omega), ⟨by omega, by omega, by omega, fun _ => rfl, by omega, Or.inl ⟨by omega, by omega, by omega⟩, by rw [wb, if_neg h4]; exact Nat.le_refl _⟩, Or.inl fun l _ => by rw [hq 9 (by decide) (by decide)], jPr_new S.1.1 S'.1.1 ho (fun a b ha hb ea eb t ht => ?_)⟩
    have a1 := S.1.1.1
    rw [hs 3 (by decide), s3, nI_eq (by omega) (by omega)] at ea
    rw [hs 4 (by decide), s4, nI_eq (by omega) (by omega)] at eb
    subst ea
    subst eb
    rcases (S.2.2.2.2.2.2.2.2.1 p q hp hq' ((jSt_k24 S hp).trans e24)).2.2 with h | ⟨u, u1, u2, h⟩
    · rw [h]; exact fun e => pz_m1 (show t < 2 ^ 31 by omega) e.symm
    · rw [h, Ne, nI_eq (by omega) (by omega)]; omega
/-- what a turn that leaves births, deaths and mothers as they are adds -/
theorem jGw_o {h1 c1 s1 : Nat} (h4 : ¬ n < 4) (h8 : ∀ p w, p < n → w = 1 ∨ w = 2 ∨ w = 3 → m' 8 (9 * p + w) = m 8 (9 * p + w)) {L' : Nat} (hL : L ≤ L') (hL1 : L' ≤ L + 1) (hh1 : h1 ≤ h0 + 12) (hc1 : c1 ≤ 8) (hs1 : s1 ≤ h0 + 80) : jGw n L h0 y n L' h1 c1 s1 k m m' := by
  have al := jAl_cg (m := m) (m' := m') (fun p (hp : p < n) => h8 p 2 hp (by omega))
  have wb := jWb_cg (m := m) (m' := m') (fun p (hp : p < n) => h8 p 1 hp (by omega)) (fun p (hp : p < n) => h8 p 3 hp (by omega))
  exact ⟨by omega, hL, by omega, fun q => absurd q h4, by omega, Or.inl ⟨hc1, hs1, by omega⟩, by rw [wb]; exact Nat.le_add_right _ _⟩
theorem jact_n5 {how : Nat} (S : jSt n L h0 (4100 * c) y k m z) (hy : y ≤ 100 * c) (hc : c < 600) (hh : h0 + 13 < 4000) (h4 : ¬ n < 4) (hw : how = 5 ∨ how = 6 ∨ how = 7) (ha : A < n) (he : E < n) (ht : jk L t) : jActO n L h0 c y how k m (F_L_act_342 (nI n) (nI A) (nI E) t k z) := by
  rcases jact_mar S hy hc ha he ht (by omega) with e | ⟨k', m', z', A', U, c1, s1, hA, hU, e, hc1, hs1, S', d1, d2, d3, d4, d5, d6⟩
  · exact jActO_rf S h4 e
  · refine ⟨n, L, h0 + 1, k', m', z', c1, s1, e, S', jGw_o h4 (fun p w hp hw => d2 p w (by omega) (by omega) (by omega) (by omega)) (by omega) (by omega) (by omega) (by omega) (by omega), ?_, jPr_cg S.1.1 S'.1.1 (fun p _ => d2 p 3 (by decide) (by decide) (by decide) (by decide)) (fun p _ => d2 p 4 (by decide) (by decide) (by decide) (by decide))⟩
    rcases d6 with h | ⟨l, g, hl, hg, h1, h2, h3, h5⟩
    · exact Or.inl fun l _ => (h l).1 2 (by decide)
    · exact Or.inr (Or.inl ⟨by omega, l, g, hl, hg, h1, h2, h3, fun l' _ hne => (h5 l' hne).1 2 (by decide)⟩)
theorem jact_n9 (S : jSt n L h0 (4100 * c) y k m z) (hy : y ≤ 100 * c) (hc : c < 600) (hh : h0 + 13 < 4000) (h4 : ¬ n < 4) (ha : A < n) : jActO n L h0 c y 9 k m (F_L_act_614 v (nI A) k z) := by
  rcases jact_ann (v := v) S hy hc ha (by omega) with e | ⟨k', m', z', c1, s1, e, hc1, hs1, S', d1, d2, d3, d4⟩
  · exact jActO_rf S h4 e
  · refine ⟨n, L, h0 + 1, k', m', z', c1, s1, e, S', jGw_o h4 (fun p w hp hw => d2 p w (by omega) (by omega) (by omega) (by omega)) (by omega) (by omega) (by omega) (by omega) (by omega), ?_, jPr_cg S.1.1 S'.1.1 (fun p _ => d2 p 3 (by decide) (by decide) (by decide) (by decide)) (fun p _ => d2 p 4 (by decide) (by decide) (by decide) (by decide))⟩
    rcases d4 with h | ⟨l, g, hl, hg, h1, h2, h3, h5⟩
    · exact Or.inl fun l _ => (h l).1 2 (by decide)
    · exact Or.inr (Or.inl ⟨by omega, l, g, hl, hg, h1, h2, h3, fun l' _ hne => (h5 l' hne).1 2 (by decide)⟩)
theorem jact_n10 (S : jSt n L h0 (4100 * c) y k m z) (hy : y ≤ 100 * c) (hc : c < 600) (hh : h0 + 13 < 4000) (h4 : ¬ n < 4) (ha : A < n) : jActO n L h0 c y 10 k m (F_L_act_658 v (nI A) k z) := by
  rcases jact_die (v := v) S ha (by omega) hh (by omega) with e | ⟨k', m', z', c1, s1, r, hr, hlr, e, S', hF, hal, ⟨d1, d2, d3, d4, d5, d6, d7⟩, h11, hc1, hs1⟩
  · exact jActO_rf S h4 e
  · have e1 := jSt_al S
    have e2 := jSt_al S'
    have wb := jWb_cg (n := n) (m := m) (m' := m') (fun p hp => d4 p 1 (by decide) (by decide) (by decide) (by decide) (Or.inr ⟨by decide, by decide⟩)) (fun p hp => d4 p 3 (by decide) (by decide) (by decide) (by decide) (Or.inr ⟨by decide, by decide⟩))
    refine ⟨n, L, h0 + 12, k', m', z', c1, s1, e, jSt_up S' (by omega), ⟨by omega, by omega, by omega, fun q => absurd q h4, by omega, Or.inr ⟨by omega, by omega, rfl, rfl, by omega⟩, by rw [wb]; exact Nat.le_add_right _ _⟩, Or.inr (Or.inr ⟨rfl, r, hr, fun l hl => ⟨(d5 l hl).1, fun hne => ((d5 l hl).2 hne).1 2 (by decide)⟩⟩), jPr_cg S.1.1 S'.1.1 (fun p _ => d4 p 3 (by decide) (by decide) (by decide) (by decide) (Or.inr ⟨by decide, by decide⟩)) (fun p _ => d4 p 4 (by decide) (by decide) (by decide) (by decide) (Or.inr ⟨by decide, by decide⟩))⟩
theorem jact_n8 {how : Nat} (S : jSt n L h0 (4100 * c) y k m z) (hy : y ≤ 100 * c) (hc : c < 600) (hh : h0 + 13 < 4000) (h4 : ¬ n < 4) (ha : A < n) : jActO n L h0 c y how k m (F_L_act_509 v (nI A) k z) := by
  rcases jact_fo (v := v) S (by omega) hc ha (by omega) with e | ⟨k', m', z', c1, s1, hL, e, hc1, hs1, S', h8, hl, h11⟩
  · exact jActO_rf S h4 e
  · exact ⟨n, L + 1, h0 + 1, k', m', z', c1, s1, e, S', jGw_o h4 (fun p w hp hw => by rw [h8]) (by omega) (by omega) (by omega) (by omega) (by omega), Or.inl fun l h => (hl l h).1 2 (by decide), jPr_cg S.1.1 S'.1.1 (fun p _ => by rw [h8]) (fun p _ => by rw [h8])⟩
theorem jact_n11 {how : Nat} (S : jSt n L h0 (4100 * c) y k m z) (hy : y ≤ 100 * c) (hc : c < 600) (hh : h0 + 13 < 4000) (h4 : ¬ n < 4) (ht : jk L t) : jActO n L h0 c y how k m (F_L_act_702 v t k z) := by
  rcases jact_law (v := v) S hy hc ht with e | ⟨k', m', z', e, S', hq, hl⟩
  · exact jActO_rf S h4 e
  · exact ⟨n, L, h0, k', m', z', 4, 24, e, S', jGw_o h4 (fun p w hp hw => by rw [hq 8 (by decide) (by decide)]) (by omega) (by omega) (by omega) (by omega) (by omega), Or.inl fun l h => (hl l).2.1, jPr_cg S.1.1 S'.1.1 (fun p _ => by rw [hq 8 (by decide) (by decide)]) (fun p _ => by rw [hq 8 (by decide) (by decide)])⟩
theorem jact_96 {how : Nat} (S : jSt n L h0 (4100 * c) y k m z) (hy : y ≤ 100 * c) (hc : c < 600) (hh : h0 + 13 < 4000) (h12 : how < 12) (ht : jk L t) (hn : (n < 4 ∧ how = 0) ∨ (4 ≤ n ∧ ∃ A E, A < n ∧ E < n ∧ a = nI A ∧ b = nI E)) : jActO n L h0 c y how k m (F_L_act_96 t v (nI n) (nI how) a b k z) := by
  have hb : how < 2 ^ 31 := by omega
  have e : F_L_act_96 t v (nI n) (nI how) a b k z = if how = 0 then F_L_act_160 v (nI n) k z else if how = 1 then F_L_act_228 v (nI n) a k z else if how = 2 then F_L_act_228 v (nI n) a k z else if how = 3 then F_L_act_228 v (nI n) a k z else if how = 4 then F_L_act_228 v (nI n) a k z else if how = 5 then F_L_act_342 (nI n) a b t k z else if how = 6 then F_L_act_342 (nI n) a b t k z else if how = 7 then F_L_act_342 (nI n) a b t k z else if how = 8 then F_L_act_509 v a k z else if how = 9 then F_L_act_614 v a k z else if how = 10 then F_L_act_658 v a k z else F_L_act_702 v t k z := by
    simp only [F_L_act_96, pz_e0 hb, pz_e1 hb, pz_e2 hb, pz_e3 hb, pz_e4 hb, pz_e5 hb, pz_e6 hb, pz_e7 hb, pz_e8 hb, pz_e9 hb, pz_e10 hb]
  rw [e]
  by_cases c0 : how = 0
  · rw [if_pos c0, c0]; exact jact_n0 S (by omega) hc hh
  rw [if_neg c0]
  obtain ⟨h4, A, E, hA, hE, rfl, rfl⟩ := hn.resolve_left (fun q => c0 q.2)
  have h4 : ¬ n < 4 := by omega
  have hb1 := fun (how : Nat) => jact_n1 (how := how) (v := v) S (by omega) hc hh h4 hA
  by_cases c1 : how = 1
  · rw [if_pos c1]; exact hb1 _
  rw [if_neg c1]
  by_cases c1 : how = 2
  · rw [if_pos c1]; exact hb1 _
  rw [if_neg c1]
  by_cases c1 : how = 3
  · rw [if_pos c1]; exact hb1 _
  rw [if_neg c1]
  by_cases c1 : how = 4
  · rw [if_pos c1]; exact hb1 _
  rw [if_neg c1]
  by_cases c1 : how = 5
  · rw [if_pos c1]; exact jact_n5 S hy hc hh h4 (by omega) hA hE ht
  rw [if_neg c1]
  by_cases c1 : how = 6
  · rw [if_pos c1]; exact jact_n5 S hy hc hh h4 (by omega) hA hE ht
  rw [if_neg c1]
  by_cases c1 : how = 7
  · rw [if_pos c1]; exact jact_n5 S hy hc hh h4 (by omega) hA hE ht
  rw [if_neg c1]
  by_cases c1 : how = 8
  · rw [if_pos c1]; exact jact_n8 S hy hc hh h4 hA
  rw [if_neg c1]
  by_cases c1 : how = 9
  · rw [if_pos c1, c1]; exact jact_n9 S hy hc hh h4 hA
  rw [if_neg c1]
  by_cases c1 : how = 10
  · rw [if_pos c1, c1]; exact jact_n10 S hy hc hh h4 hA
  rw [if_neg c1]
  exact jact_n11 S hy hc hh h4 ht
theorem jact_24 {s : Int32} (R : jQ n L h0 P m z) : ∃ a b t, F_L_act_24 s v (nI n) k z = F_L_act_96 t v (nI n) s a b k z ∧ jk L t ∧ (n = 0 ∨ ∃ A E, A < n ∧ E < n ∧ a = nI A ∧ b = nI E) := by
  have hn := R.1
  have hL := R.2.1
  have tail : ∀ a b, ∃ t, jk L t ∧ F_L_act_66 b v (nI n) s a k z = F_L_act_96 t v (nI n) s a b k z := by
    intro a b
    by_cases hL0 : L = 0
    · exact ⟨-1, jk_m L, by simp only [F_L_act_66, jR_jN R, jR_jM R, jR_ln R, jR_lL R, if_false, pz_e0 (show L < 2 ^ 31 by omega), if_pos hL0, F_L_act_76]⟩
    · obtain ⟨j, hj, ej⟩ := jbl_x (d := L) (v >>> (4 &&& 31)) (by omega) (by omega)
      exact ⟨nI j, jk_n hj, by simp only [F_L_act_66, jR_jN R, jR_jM R, jR_ln R, jR_lL R, if_false, pz_e0 (show L < 2 ^ 31 by omega), if_neg hL0, F_L_act_80, ej, pz_bind, jR_ngL R (hj), jR_clL R (hj), pz_ge (hj), or_self, if_false, jR_z8 R hj]⟩
  by_cases hn0 : n = 0
  · obtain ⟨t, ht, e⟩ := tail (-1) (-1)
    exact ⟨-1, -1, t, by rw [← e]; simp only [F_L_act_24, F_L_act_30, F_L_act_44, F_L_act_50, pz_e0 (show n < 2 ^ 31 by omega), if_pos hn0], ht, Or.inl hn0⟩
  · obtain ⟨A, hA, eA⟩ := jbl_x (d := n) v (by omega) (by omega)
    obtain ⟨E, hE, eE⟩ := jbl_x (d := n) (v >>> (3 &&& 31)) (by omega) (by omega)
    obtain ⟨t, ht, e⟩ := tail (nI A) (nI E)
    refine ⟨nI A, nI E, t, ?_, ht, Or.inr ⟨A, E, hA, hE, rfl, rfl⟩⟩
    rw [← e]
    simp only [F_L_act_24, F_L_act_34, F_L_act_44, F_L_act_54, jR_jN R, jR_jM R, jR_ln R, jR_lL R, if_false, pz_e0 (show n < 2 ^ 31 by omega), if_neg hn0, eA, eE, pz_bind, jR_ng R (hA), jR_cl R (hA), pz_ge (hA), or_self, if_false, jR_ng R (hE), jR_cl R (hE), pz_ge (hE), or_self, if_false, jR_z4 R hA, jR_z4 R hE]
theorem jact_x (v : Int32) (S : jSt n L h0 (4100 * c) y k m z) (hy : y ≤ 100 * c) (hc : c < 600) (hh : h0 + 13 < 4000) : ∃ how, how < 12 ∧ ((n < 4 ∧ how = 0) ∨ (4 ≤ n ∧ ∀ z, F_L_below z (v >>> (9 &&& 31)) 12 = some (nI how))) ∧ jActO n L h0 c y how k m (F_L_act v k z) := by
  have R := S.2.2.2.2.1
  have hn := R.1
  have c4 : ((4 : Int32) ≤ nI n) = (4 ≤ n) := pz_le (a := 4) (by decide) (by omega)
  by_cases h4 : 4 ≤ n
  · obtain ⟨how, h12, eh⟩ := jbl_x (d := 12) (v >>> (9 &&& 31)) (by decide) (by decide)
    have eh : ∀ z, F_L_below z (v >>> (9 &&& 31)) 12 = some (nI how) := eh
    obtain ⟨a, b, t, e, ht, h0n | ⟨A, E, hA, hE, ea, eb⟩⟩ := jact_24 (v := v) (k := k) (s := nI how) R
    · omega
    · refine ⟨how, h12, Or.inr ⟨h4, eh⟩, ?_⟩
      have e0 : F_L_act v k z = F_L_act_96 t v (nI n) (nI how) a b k z := by
        rw [← e]
        simp only [F_L_act, F_L_act_0, jR_jN R, jR_jM R, jR_ln R, jR_lL R, if_false, c4, if_pos h4, F_L_act_15, eh, pz_bind]
      rw [e0]
      exact jact_96 S hy hc hh h12 ht (Or.inr ⟨h4, A, E, hA, hE, ea, eb⟩)
  · obtain ⟨a, b, t, e, ht, -⟩ := jact_24 (v := v) (k := k) (s := nI 0) R
    refine ⟨0, by decide, Or.inl ⟨by omega, rfl⟩, ?_⟩
    have e0 : F_L_act v k z = F_L_act_96 t v (nI n) (nI 0) a b k z := by
      rw [← e]
      simp only [F_L_act, F_L_act_0, jR_jN R, jR_jM R, jR_ln R, jR_lL R, if_false, c4, if_neg h4, F_L_act_11]
      rfl
    rw [e0]
    exact jact_96 S hy hc hh (by decide) ht (Or.inl ⟨by omega, rfl⟩)
end ZS
