/-! SIM'S WRITING METHODS beside the reference's: rule, part -/
/-- a land handed to one, and a land as it was -/
def jHd (m m' : kS) (l : Nat) (v : Int32) : Prop := m' 9 (4 * l) = m 9 (4 * l) ∧ m' 9 (4 * l + 1) = m 9 (4 * l + 1) ∧ m' 9 (4 * l + 2) = v ∧ ((v = -1 ∧ m' 9 (4 * l + 3) = m 9 (4 * l + 3) ∧ ∀ i, i < 15 → m' 10 (15 * l + i) = m 10 (15 * l + i)) ∨ (v ≠ -1 ∧ m' 9 (4 * l + 3) = m 9 (4 * l + 3) + 1 ∧ m' 10 (15 * l) = v ∧ ∀ i, i < 14 → m' 10 (15 * l + (i + 1)) = m 10 (15 * l + i)))
def jSm (m m' : kS) (l : Nat) : Prop := (∀ w, w < 4 → m' 9 (4 * l + w) = m 9 (4 * l + w)) ∧ ∀ i, i < 15 → m' 10 (15 * l + i) = m 10 (15 * l + i)
theorem jSm.rf {m m' : kS} {l : Nat} (h9 : m' 9 = m 9) (h10 : m' 10 = m 10) : jSm m m' l := ⟨fun _ _ => by rw [h9], fun _ _ => by rw [h10]⟩
theorem jSm_tr {a b c : kS} {l : Nat} (h : jSm a b l) (g : jSm b c l) : jSm a c l := ⟨fun w hw => (g.1 w hw).trans (h.1 w hw), fun i hi => (g.2 i hi).trans (h.2 i hi)⟩
theorem jHd_a {a b c : kS} {l : Nat} {v : Int32} (h : jSm a b l) (g : jHd b c l v) : jHd a c l v := by
  obtain ⟨h9, h10⟩ := h
  obtain ⟨g0, g1, g2, g3⟩ := g
  refine ⟨g0.trans (h9 0 (by decide)), g1.trans (h9 1 (by decide)), g2, ?_⟩
  rcases g3 with ⟨e, f, k⟩ | ⟨e, f, f2, k⟩
  · exact Or.inl ⟨e, f.trans (h9 3 (by decide)), fun i hi => (k i hi).trans (h10 i hi)⟩
  · exact Or.inr ⟨e, by rw [f, h9 3 (by decide)], f2, fun i hi => (k i hi).trans (h10 i (by omega))⟩
theorem jHd_b {a b c : kS} {l : Nat} {v : Int32} (g : jHd a b l v) (h : jSm b c l) : jHd a c l v := by
  obtain ⟨h9, h10⟩ := h
  obtain ⟨g0, g1, g2, g3⟩ := g
  refine ⟨(h9 0 (by decide)).trans g0, (h9 1 (by decide)).trans g1, (h9 2 (by decide)).trans g2, ?_⟩
  rcases g3 with ⟨e, f, k⟩ | ⟨e, f, f2, k⟩
  · exact Or.inl ⟨e, (h9 3 (by decide)).trans f, fun i hi => (h10 i hi).trans (k i hi)⟩
  · exact Or.inr ⟨e, (h9 3 (by decide)).trans f, (h10 0 (by decide)).trans f2, fun i hi => (h10 (i + 1) (by omega)).trans (k i hi)⟩
section ZS
variable {n L h0 a b p q w r B y l : Nat} {k m z : kS} {v h : Int32} {f : Nat → Int32} {P : Nat → Int32}
theorem jN_st (h : p ≠ 20) : jN (kst z p f) = jN z := by unfold jN; rw [kst_ne _ _ (show 20 ≠ p by omega)]
theorem jM_st (h : p ≠ 20) : jM (kst z p f) = jM z := by unfold jM; rw [kst_ne _ _ (show 20 ≠ p by omega)]
/-- what a change of other places leaves -/
theorem jRa_cg {z' : kS} (h : jRa n L z) (h4 : z' 4 = z 4) (h8 : z' 8 = z 8) (h12 : z' 12 = z 12) (h20 : z' 20 = z 20) : jRa n L z' := by
  unfold jRa
  rw [h4, h8, h12, h20]; exact h
theorem jRp_cg {z' : kS} {P' : Nat → Int32} (h : jRp P z p) (hz : z' (4 * p + 1) = z (4 * p + 1)) (hP : ∀ w, w < 9 → P' (9 * p + w) = P (9 * p + w)) : jRp P' z' p := by
  unfold jRp
  rw [hz, hP 1 (by omega), hP 6 (by omega), hP 3 (by omega), hP 4 (by omega), hP 5 (by omega), hP 7 (by omega), hP 8 (by omega), show P' (9 * p) = P (9 * p) from hP 0 (by omega)]
  exact h
theorem jRl_cg {m' z' : kS} (h : jRl m z l) (h2 : z' (4 * l + 2) = z (4 * l + 2)) (h3 : z' (4 * l + 3) = z (4 * l + 3)) (h16 : z' 16 l = z 16 l) (h9 : ∀ w, w < 4 → m' 9 (4 * l + w) = m 9 (4 * l + w)) (h10 : ∀ i, i < 15 → m' 10 (15 * l + i) = m 10 (15 * l + i)) : jRl m' z' l := by
  obtain ⟨a0, a1, a2, a3, a4⟩ := h
  refine ⟨?_, ?_, ?_, ?_, fun h hh e i hi => ?_⟩
  · rw [h2, show m' 9 (4 * l) = m 9 (4 * l) from h9 0 (by omega)]; exact a0
  · rw [h2, h9 1 (by omega)]; exact a1
  · rw [h2, h9 2 (by omega)]; exact a2
  · rw [h16, h9 3 (by omega)]; exact a3
  · rw [h3, h10 i (by omega)]; exact a4 h hh (by rw [← h16]; exact e) i hi
/-- the copy of the rulers that were -/
theorem jru_cp {z1 : kS} {h l : Nat} (hM : jM z1 = L) (hN : jN z1 = n) (hn : n ≤ 40) (hl : l < L) (hL : L ≤ 12) (hh : h ≤ 4000) (e16 : z1 16 l = nI h) (hc : ∀ i, jk n (z1 (4 * l + 3) i)) : ∀ (d i : Nat) (xf : Nat → Int32) (g : Nat), i + d = h → d < g → (∀ j, j < i → xf (j + 1) = z1 (4 * l + 3) j) → (∀ j, jk n (xf j)) → ∃ xf', F_X8_rule_24 g (nI l) v (nI i) (nI (h + 1)) xf z1 = F_X8_rule_53 (nI l) v (nI (h + 1)) xf' z1 ∧ (∀ j, j < h → xf' (j + 1) = z1 (4 * l + 3) j) ∧ ∀ j, jk n (xf' j)
  | 0, i, xf, g, hd, hg, h1, h2 => by
    obtain ⟨g, rfl⟩ : ∃ x, g = x + 1 := ⟨g - 1, by omega⟩
    obtain rfl : i = h := by omega
    refine ⟨xf, ?_, h1, h2⟩
    simp only [F_X8_rule_24, hM, pz_n0 (show l < 2 ^ 31 by omega), nI_clamp (show l < 2 ^ 31 by omega), pz_ge hl, or_self, if_false, e16, nI_clamp (show i < 2 ^ 31 by omega), pz_cT (show i < 2 ^ 31 by omega), if_true]
  | d + 1, i, xf, g, hd, hg, h1, h2 => by
    obtain ⟨g, rfl⟩ : ∃ x, g = x + 1 := ⟨g - 1, by omega⟩
    have c := pz_cF (show i < h by omega) (show h < 2 ^ 31 by omega)
    obtain ⟨xf', q1, q2, q3⟩ := jru_cp hM hN hn hl hL hh e16 hc d (i + 1) (upd xf (i + 1) (z1 (4 * l + 3) i)) g (by omega) (by omega) (fun j hj => by
      by_cases e : j = i
      · subst e; rw [pz_us]
      · rw [pz_un (by omega)]; exact h1 j (by omega)) (fun j => by
      by_cases e : j = i + 1
      · subst e; rw [pz_us]; exact hc i
      · rw [pz_un e]; exact h2 j)
    refine ⟨xf', ?_, q2, q3⟩
    rw [← q1]
    simp only [F_X8_rule_24, F_X8_rule_34, hM, hN, pz_n0 (show l < 2 ^ 31 by omega), nI_clamp (show l < 2 ^ 31 by omega), pz_ge hl, or_self, if_false, e16, nI_clamp (show h < 2 ^ 31 by omega), c, pz_n0 (show i < 2 ^ 31 by omega), nI_clamp (show i < 2 ^ 31 by omega), pz_ge (show i < h by omega), nI_1, pz_n0 (show i + 1 < 2 ^ 31 by omega), nI_clamp (show i + 1 < 2 ^ 31 by omega), nI_clamp (show h + 1 < 2 ^ 31 by omega), pz_ge (show i + 1 < h + 1 by omega), jbad_f (show n < 2 ^ 31 by omega) (hc i)]
theorem jrule_x (R : jQ n L h0 P m z) (hl : l < L) (hv : jk n v) (hh0 : h0 < 4000) : ∃ m' z' c s, F_X6_rule (nI l) v m = some m' ∧ F_X8_rule (nI l) v z = some (z', c, s) ∧ jQ n L (h0 + 1) P m' z' ∧ (∀ q, q ≠ 9 → q ≠ 10 → m' q = m q) ∧ (∀ q, q ≠ 4 * l + 2 → q ≠ 4 * l + 3 → q ≠ 16 → z' q = z q) ∧ c ≤ 1 ∧ s ≤ h0 + 1 ∧ jHd m m' l v ∧ ∀ l', l' ≠ l → jSm m m' l' := by
  have hL := R.2.1
  have hn := R.1
  obtain ⟨m', r1, r2, r3⟩ := rl_x (m := m) (v := v) (show l < 12 by omega)
  obtain ⟨a0, a1, a2, a3, a4⟩ := jR_lr R hl
  obtain ⟨h, hh, e16⟩ := jR_h R l hl
  have hc := ((jR_c R).2 l hl).2
  have h9v : m' 9 (4 * l + 2) = v := by
    rcases r3 with ⟨-, e, -⟩ | ⟨-, e, -⟩
    · rw [e, pz_us]
    · rw [e, pz_un (by omega), pz_us]
  have h9o : ∀ j, j ≠ 4 * l + 2 → j ≠ 4 * l + 3 → m' 9 j = m 9 j := by
    intro j j1 j2
    rcases r3 with ⟨-, e, -⟩ | ⟨-, e, -⟩
    · rw [e, pz_un j1]
    · rw [e, pz_un j2, pz_un j1]
  have h10o : ∀ l' i, l' ≠ l → i < 15 → m' 10 (15 * l' + i) = m 10 (15 * l' + i) := by
    intro l' i hne hi
    rcases r3 with ⟨-, -, e⟩ | ⟨-, -, -, -, e⟩
    · rw [e]
    · exact e _ (by omega)
  have hHd : jHd m m' l v := by
    refine ⟨h9o _ (by omega) (by omega), h9o _ (by omega) (by omega), h9v, ?_⟩
    rcases r3 with ⟨e, e9, e10⟩ | ⟨e, e9, e10, e11, -⟩
    · exact Or.inl ⟨e, by rw [e9, pz_un (by omega)], fun i _ => by rw [e10]⟩
    · exact Or.inr ⟨e, by rw [e9, pz_us], e10, e11⟩
  have hSm : ∀ l', l' ≠ l → jSm m m' l' := fun l' hne => ⟨fun w hw => h9o _ (by omega) (by omega), fun i hi => h10o l' i hne hi⟩
  /- all but the land itself -/
  have mk : ∀ z' : kS, (∀ q, q ≠ 4 * l + 2 → q ≠ 4 * l + 3 → q ≠ 16 → z' q = z q) → (∀ l', l' ≠ l → z' 16 l' = z 16 l') → jRl m' z' l → jk n (z' (4 * l + 2) 2) → (∀ i, jk n (z' (4 * l + 3) i)) → (∃ h, h ≤ h0 + 1 ∧ z' 16 l = nI h) → jQ n L (h0 + 1) P m' z' := by
    intro z' hz h16 g1 g2 g3 g4
    refine ⟨hn, hL, by omega, jRa_cg (jR_a R) (hz 4 (by omega) (by omega) (by omega)) (hz 8 (by omega) (by omega) (by omega)) (hz 12 (by omega) (by omega) (by omega)) (hz 20 (by omega) (by omega) (by omega)), ?_, fun p hp => jRp_cg (jR_p R hp) (hz _ (by omega) (by omega) (by omega)) (fun _ _ => rfl), fun l' hl' => ?_, ⟨fun p hp => ?_, fun l' hl' => ?_⟩, fun l' hl' => ?_⟩
    · rw [hz 0 (by omega) (by omega) (by omega), r2 11 (by decide) (by decide)]; exact jR_y R
    · by_cases e : l' = l
      · subst e; exact g1
      · exact jRl_cg (jR_lr R hl') (hz _ (by omega) (by omega) (by omega)) (hz _ (by omega) (by omega) (by omega)) (h16 l' e) (fun w hw => h9o _ (by omega) (by omega)) (fun i hi => h10o l' i e hi)
    · rw [hz _ (by omega) (by omega) (by omega)]; exact (jR_c R).1 p hp
    · by_cases e : l' = l
      · subst e; exact ⟨g2, g3⟩
      · rw [hz _ (by omega) (by omega) (by omega), hz _ (by omega) (by omega) (by omega)]; exact (jR_c R).2 l' hl'
    · by_cases e : l' = l
      · subst e; exact g4
      · rw [h16 l' e]
        obtain ⟨h, h1, h2⟩ := jR_h R l' hl'
        exact ⟨h, by omega, h2⟩
  by_cases hv1 : v = -1
  · rcases r3 with ⟨-, e9, e10⟩ | ⟨h, -⟩
    · refine ⟨m', kst z (4 * l + 2) (upd (z (4 * l + 2)) 2 v), 0, 0, r1, ?_, mk _ (fun q q1 q2 q3 => kst_ne _ _ q1) (fun l' _ => by rw [kst_ne _ _ (by omega)]) ⟨?_, ?_, ?_, ?_, ?_⟩ ?_ ?_ ?_, r2, fun q q1 q2 q3 => kst_ne _ _ q1, by omega, by omega, hHd, hSm⟩
      · simp only [F_X8_rule, F_X8_rule_0, F_X8_rule_9, jR_jN R, jR_jM R, jR_ln R, jR_lL R, if_false, jR_ngL R (hl), jR_clL R (hl), pz_ge (hl), or_self, if_false, if_pos hv1]
      · rw [kst_eq, pz_un (by decide), h9o _ (by omega) (by omega)]; exact a0
      · rw [kst_eq, pz_un (by decide), h9o _ (by omega) (by omega)]; exact a1
      · rw [kst_eq, pz_us, h9v]
      · rw [kst_ne _ _ (by omega), e9, pz_un (by omega)]; exact a3
      · rw [kst_ne _ _ (by omega), kst_ne _ _ (by omega), e10]; exact a4
      · rw [kst_eq, pz_us]; exact hv
      · rw [kst_ne _ _ (by omega)]; exact hc
      · rw [kst_ne _ _ (by omega)]; exact ⟨h, by omega, e16⟩
    · exact absurd hv1 h
  · rcases r3 with ⟨h, -⟩ | ⟨-, e9, e10, e11, e12⟩
    · exact absurd h hv1
    · have f16 : (kst z (4 * l + 2) (upd (z (4 * l + 2)) 2 v)) 16 l = nI h := by rw [kst_ne _ _ (by omega)]; exact e16
      have fM : jM (kst z (4 * l + 2) (upd (z (4 * l + 2)) 2 v)) = L := (jM_st (by omega)).trans (jR_jM R)
      have fN : jN (kst z (4 * l + 2) (upd (z (4 * l + 2)) 2 v)) = n := (jN_st (by omega)).trans (jR_jN R)
      have f3 : (kst z (4 * l + 2) (upd (z (4 * l + 2)) 2 v)) (4 * l + 3) = z (4 * l + 3) := kst_ne _ _ (by omega)
      obtain ⟨xf, q1, q2, q3⟩ := jru_cp (v := v) (z1 := kst z (4 * l + 2) (upd (z (4 * l + 2)) 2 v)) (h := h) fM fN hn hl hL (by have := R.2.2.1; omega) f16 (by rw [f3]; exact hc) h 0 (fun _ => -1) kN (by omega) (by show h < 4096; omega) (fun j hj => absurd hj (Nat.not_lt_zero _)) (fun _ => jk_m n)
      rw [f3] at q2
      refine ⟨m', kst (kst (kst z (4 * l + 2) (upd (z (4 * l + 2)) 2 v)) (4 * l + 3) (upd xf 0 v)) 16 (upd (z 16) l (nI (h + 1))), 1, h + 1, r1, ?_, mk _ (fun q q1 q2 q3 => by rw [kst_ne _ _ q3, kst_ne _ _ q2, kst_ne _ _ q1]) (fun l' hl' => by rw [kst_eq, pz_un hl']) ⟨?_, ?_, ?_, ?_, ?_⟩ ?_ ?_ ?_, r2, fun q q1 q2 q3 => by rw [kst_ne _ _ q3, kst_ne _ _ q2, kst_ne _ _ q1], by omega, by omega, hHd, hSm⟩
      · have q1' : F_X8_rule_24 kN (nI l) v 0 (nI (h + 1)) (fun _ => -1) (kst z (4 * l + 2) (upd (z (4 * l + 2)) 2 v)) = F_X8_rule_53 (nI l) v (nI (h + 1)) xf (kst z (4 * l + 2) (upd (z (4 * l + 2)) 2 v)) := q1
        have h8 : (nI (h + 1) < 0 ∨ 100000000 < h + 1) = False := eq_false (fun q => q.elim (nI_pos (by omega)) (by omega))
        have f16' : (kst z (4 * l + 2) (upd (z (4 * l + 2)) 2 v)) 16 = z 16 := kst_ne _ _ (by omega)
        simp only [F_X8_rule, F_X8_rule_0, F_X8_rule_10, jR_jN R, jR_jM R, jR_ln R, jR_lL R, if_false, jR_ngL R (hl), jR_clL R (hl), pz_ge (hl), or_self, if_false, if_neg hv1, fM, f16, nI_clamp (show h < 2 ^ 31 by omega), nI_1, nI_clamp (show h + 1 < 2 ^ 31 by omega), h8, q1', F_X8_rule_53, fN, jbad_f (show n < 2 ^ 31 by omega) hv, pz_0lt, pz_cl0, pz_ge (show 0 < h + 1 by omega), f16']
        rfl
      · rw [kst_ne _ _ (by omega), kst_ne _ _ (by omega), kst_eq, pz_un (by decide), h9o _ (by omega) (by omega)]; exact a0
      · rw [kst_ne _ _ (by omega), kst_ne _ _ (by omega), kst_eq, pz_un (by decide), h9o _ (by omega) (by omega)]; exact a1
      · rw [kst_ne _ _ (by omega), kst_ne _ _ (by omega), kst_eq, pz_us, h9v]
      · rw [kst_eq, pz_us, e9, pz_us, ← a3, e16, nI_1]
      · intro h' hh' e i hi
        rw [kst_eq, pz_us] at e
        have : h + 1 = h' := (nI_eq (by omega) hh').mp e
        subst this
        rw [kst_ne _ _ (by omega), kst_eq]
        cases i with
        | zero => rw [pz_us]; exact ⟨e10.symm, fun g => hv1 (e10.symm.trans g)⟩
        | succ i =>
          rw [pz_un (by omega), q2 i (by omega), e11 i (by omega)]
          exact a4 h (by omega) e16 i (by omega)
      · rw [kst_ne _ _ (by omega), kst_ne _ _ (by omega), kst_eq, pz_us]; exact hv
      · intro i
        rw [kst_ne _ _ (by omega), kst_eq]
        by_cases e : i = 0
        · subst e; rw [pz_us]; exact hv
        · rw [pz_un e]; exact q3 i
      · exact ⟨h + 1, by omega, by rw [kst_eq, pz_us]⟩
/-- part -/
theorem jpart_x (R : jR n L h0 m z) (hr : r < n) (hW : m 8 (9 * r + 5) = -1 ∨ ∃ q, q < n ∧ q ≠ r ∧ m 8 (9 * r + 5) = nI q) : ∃ m' z' uc us, F_X6_part (nI r) m = some (m', uc, us) ∧ F_X8_part (nI r) z = some z' ∧ jR n L h0 m' z' ∧ (∀ q, q ≠ 8 → m' q = m q) ∧ (∀ p w, w < 9 → w ≠ 5 → w ≠ 7 → w ≠ 8 → m' 8 (9 * p + w) = m 8 (9 * p + w)) ∧ (∀ q, q % 4 ≠ 1 → z' q = z q) ∧ uc ≤ 1 ∧ us ≤ 3 ∧ ((m 8 (9 * r + 5) = -1 ∧ m' = m ∧ z' = z) ∨ ∃ q, q < n ∧ q ≠ r ∧ m 8 (9 * r + 5) = nI q ∧ m' 8 = zPart r q (m 8)) := by
  have hL := R.2.1
  have hn := R.1
  have e6 : z (4 * r + 1) 6 = m 8 (9 * r + 5) := (jR_p R hr).2.2.2.2.2.2.1
  rcases hW with e | ⟨q, hq, hqr, e⟩
  · refine ⟨m, z, 0, 0, ?_, ?_, R, fun _ _ => rfl, fun _ _ _ _ _ _ => rfl, fun _ _ => rfl, by omega, by omega, Or.inl ⟨e, rfl, rfl⟩⟩
    · simp only [F_X6_part, F_X6_part_0, F_X6_part_12, pe_5 (show r < 40 by omega), pz_bind, e, if_true]
    · simp only [F_X8_part, F_X8_part_0, F_X8_part_7, jR_jN R, jR_jM R, jR_ln R, jR_lL R, if_false, jR_ng R (hr), jR_cl R (hr), pz_ge (hr), or_self, if_false, e6, e, if_true]
  · have eq6 : z (4 * r + 1) 6 = nI q := e6.trans e
    have cq : (nI q = -1) = False := pz_m1' (by omega)
    have n1 : 4 * q + 1 ≠ 20 := by omega
    have n2 : 4 * r + 1 ≠ 20 := by omega
    have n3 : 4 * r + 1 ≠ 4 * q + 1 := by omega
    obtain ⟨z1, hz1⟩ : ∃ z1, z1 = kst z (4 * q + 1) (upd (z (4 * q + 1)) 6 (-1)) := ⟨_, rfl⟩
    obtain ⟨z2, hz2⟩ : ∃ z2, z2 = kst z1 (4 * q + 1) (upd (z1 (4 * q + 1)) 7 (-1)) := ⟨_, rfl⟩
    obtain ⟨z3, hz3⟩ : ∃ z3, z3 = kst z2 (4 * r + 1) (upd (z2 (4 * r + 1)) 6 (-1)) := ⟨_, rfl⟩
    obtain ⟨z4, hz4⟩ : ∃ z4, z4 = kst z3 (4 * r + 1) (upd (z3 (4 * r + 1)) 7 (-1)) := ⟨_, rfl⟩
    have N1 : jN z1 = n := by rw [hz1, jN_st n1]; exact jR_jN R
    have N2 : jN z2 = n := by rw [hz2, jN_st n1]; exact N1
    have N3 : jN z3 = n := by rw [hz3, jN_st n2]; exact N2
    have f1 : z1 (4 * r + 1) 6 = nI q := by rw [hz1, kst_ne _ _ n3]; exact eq6
    have q4 : z4 (4 * q + 1) = upd (upd (z (4 * q + 1)) 6 (-1)) 7 (-1) := by
      rw [hz4, kst_ne _ _ (by omega), hz3, kst_ne _ _ (by omega), hz2, kst_eq, hz1, kst_eq]
    have r4 : z4 (4 * r + 1) = upd (upd (z (4 * r + 1)) 6 (-1)) 7 (-1) := by
      rw [hz4, kst_eq, hz3, kst_eq, hz2, kst_ne _ _ n3, hz1, kst_ne _ _ n3]
    have o4 : ∀ x, x ≠ 4 * q + 1 → x ≠ 4 * r + 1 → z4 x = z x := fun x h1 h2 => by
      rw [hz4, kst_ne _ _ h2, hz3, kst_ne _ _ h2, hz2, kst_ne _ _ h1, hz1, kst_ne _ _ h1]
    have m8 : ∀ x, x ≠ 8 → kst m 8 (zPart r q (m 8)) x = m x := fun x hx => kst_ne _ _ hx
    refine ⟨kst m 8 (zPart r q (m 8)), z4, 1, 3, ?_, ?_, ⟨hn, hL, R.2.2.1, jRa_cg (jR_a R) (o4 4 (by omega) (by omega)) (o4 8 (by omega) (by omega)) (o4 12 (by omega) (by omega)) (o4 20 (by omega) (by omega)), ?_, fun p hp => ?_, fun l hl => ?_, ⟨fun p hp => ?_, fun l hl => ?_⟩, fun l hl => ?_⟩, m8, fun p w h1 h2 h3 h4 => ?_, fun x hx => o4 x (by omega) (by omega), by omega, by omega, Or.inr ⟨q, hq, hqr, e, kst_eq _ _ _⟩⟩
    · simp only [F_X6_part, F_X6_part_0, pe_5 (show r < 40 by omega), pz_bind, e, cq, if_false]
      exact p13_x (by omega) (by omega)
    · simp only [F_X8_part, F_X8_part_0, F_X8_part_8, jR_jN R, jR_jM R, jR_ln R, jR_lL R, if_false, jR_ng R (hr), jR_cl R (hr), pz_ge (hr), or_self, if_false, jR_ng R (hq), jR_cl R (hq), pz_ge (hq), or_self, if_false, eq6, cq]
      rw [show kput z (4 * q + 1) 6 (-1) = z1 from hz1.symm]
      simp only [N1, jR_ng R (hr), jR_cl R (hr), pz_ge (hr), or_self, if_false, jR_ng R (hq), jR_cl R (hq), pz_ge (hq), or_self, if_false, f1]
      rw [show kput z1 (4 * q + 1) 7 (-1) = z2 from hz2.symm]
      simp only [N2, jR_ng R (hr), jR_cl R (hr), pz_ge (hr), or_self, if_false]
      rw [show kput z2 (4 * r + 1) 6 (-1) = z3 from hz3.symm]
      simp only [N3, jR_ng R (hr), jR_cl R (hr), pz_ge (hr), or_self, if_false]
      rw [show kput z3 (4 * r + 1) 7 (-1) = z4 from hz4.symm]
    · rw [o4 0 (by omega) (by omega), m8 11 (by decide)]; exact jR_y R
    · rw [kst_eq]
      obtain ⟨b0, b1, b2, b3, b4, b5, b6, b7, b8⟩ := jR_p R hp
      have w0 : zPart r q (m 8) (9 * p) = m 8 (9 * p) := zPart_o2 (w := 0) ⟨by decide, by decide, by decide, by decide⟩
      have w1 : zPart r q (m 8) (9 * p + 1) = m 8 (9 * p + 1) := zPart_o2 (w := 1) ⟨by decide, by decide, by decide, by decide⟩
      have w3 : zPart r q (m 8) (9 * p + 3) = m 8 (9 * p + 3) := zPart_o2 (w := 3) ⟨by decide, by decide, by decide, by decide⟩
      have w4 : zPart r q (m 8) (9 * p + 4) = m 8 (9 * p + 4) := zPart_o2 (w := 4) ⟨by decide, by decide, by decide, by decide⟩
      have w6 : zPart r q (m 8) (9 * p + 6) = m 8 (9 * p + 6) := zPart_o2 (w := 6) ⟨by decide, by decide, by decide, by decide⟩
      by_cases hpe : p = r ∨ p = q
      · have e4 : z4 (4 * p + 1) = upd (upd (z (4 * p + 1)) 6 (-1)) 7 (-1) := by rcases hpe with h | h <;> subst h <;> assumption
        unfold jRp
        rw [e4, w0, w1, w3, w4, w6, zPart_in (w := 5) hpe (Or.inl rfl), zPart_in (w := 7) hpe (Or.inr (Or.inl rfl))]
        refine ⟨?_, ?_, ?_, ?_, ?_, ?_, ?_, ?_, Or.inl ?_⟩
        · rw [pz_un (by decide), pz_un (by decide)]; exact b0
        · rw [pz_un (by decide), pz_un (by decide)]; exact b1
        · rw [pz_un (by decide), pz_un (by decide)]; exact b2
        · rw [pz_un (by decide), pz_un (by decide)]; exact b3
        · rw [pz_un (by decide), pz_un (by decide)]; exact b4
        · rw [pz_un (by decide), pz_un (by decide)]; exact b5
        · rw [pz_un (by decide), pz_us]
        · rw [pz_us]
        · rw [pz_us]
      · exact jRp_cg (jR_p R hp) (o4 _ (by omega) (by omega)) (fun w hw => zPart_o1 ⟨fun h => hpe (Or.inl h), fun h => hpe (Or.inr h)⟩ hw)
    · exact jRl_cg (jR_lr R hl) (o4 _ (by omega) (by omega)) (o4 _ (by omega) (by omega)) (by rw [o4 _ (by omega) (by omega)]) (fun w _ => by rw [m8 9 (by decide)]) (fun i _ => by rw [m8 10 (by decide)])
    · obtain ⟨c4, c5, c6, c7, c8⟩ := (jR_c R).1 p hp
      by_cases hpe : p = r ∨ p = q
      · have e4 : z4 (4 * p + 1) = upd (upd (z (4 * p + 1)) 6 (-1)) 7 (-1) := by rcases hpe with h | h <;> subst h <;> assumption
        rw [e4]
        refine ⟨?_, ?_, ?_, ?_, ?_⟩
        · rw [pz_un (by decide), pz_un (by decide)]; exact c4
        · rw [pz_un (by decide), pz_un (by decide)]; exact c5
        · rw [pz_un (by decide), pz_us]; exact jk_m n
        · rw [pz_us]; exact jk_m L
        · rw [pz_un (by decide), pz_un (by decide)]; exact c8
      · rw [o4 _ (by omega) (by omega)]; exact ⟨c4, c5, c6, c7, c8⟩
    · rw [o4 _ (by omega) (by omega), o4 _ (by omega) (by omega)]; exact (jR_c R).2 l hl
    · rw [o4 _ (by omega) (by omega)]; exact jR_h R l hl
    · rw [kst_eq]; exact zPart_o2 ⟨h1, h2, h3, h4⟩
end ZS
