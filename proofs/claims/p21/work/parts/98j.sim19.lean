/-! SIM: A LAND MORE -/
section ZS
variable {n L h0 H c p q w r B y y' l ag Y s A U : Nat} {k k' m m' z z' mc : kS} {v v1 v2 v3 h a b t d gv : Int32} {f : Nat → Int32} {P : Nat → Int32}
theorem jNoL_of (R : jQ n L h0 P m z) : jNoL z L := by
  have hn := R.2.1
  refine ⟨by omega, fun i => jk_no (by omega) (jk_8 R i), fun p hp => ?_⟩
  rw [jR_jN R] at hp
  obtain ⟨-, -, -, d, -⟩ := (jR_c R).1 p hp
  exact jk_no (by omega) d
/-- what a new land's place is, before it is handed to one -/
def jNl (L : Nat) (z z' : kS) (v1 v2 : Int32) : Prop := (∀ q, q ≠ 4 * L + 2 → q ≠ 4 * L + 3 → q ≠ 16 → q ≠ 20 → q ≠ 8 → q ≠ 12 → z' q = z q) ∧ z' 20 0 = z 20 0 ∧ z' 20 1 = nI (L + 1) ∧ z' 12 0 = z 12 0 ∧ z' 12 1 = nI (L + 1) ∧ (∀ i, i < L + 1 → z' 8 i = nI i) ∧ (∀ i, L + 1 ≤ i → z' 8 i = -1) ∧ z' (4 * L + 2) 0 = v1 ∧ z' (4 * L + 2) 1 = v2 ∧ z' (4 * L + 2) 2 = -1 ∧ (∀ i, z' (4 * L + 3) i = -1) ∧ z' 16 L = 0 ∧ ∀ i, i ≠ L → z' 16 i = z 16 i
theorem jfound_l (R : jQ n L h0 P m z) (hL : L < 12) : ∃ xf, F_X8_found_0 v1 v2 v3 z = kadd 1 (L + 1) (F_X8_found_43 v1 v2 v3 (nI (L + 1)) xf z) ∧ (∀ i, i < L → xf i = nI i) ∧ ∀ i, L ≤ i → xf i = -1 := by
  obtain ⟨xf, h1, h2, h3⟩ := pz_loop10 (α := Nat → Int32) (fun g i xf => F_X8_found_15 g v1 v2 v3 (nI i) (nI (L + 1)) xf z) (fun xf => F_X8_found_43 v1 v2 v3 (nI (L + 1)) xf z) L (fun i xf => (∀ j, j < i → xf j = nI j) ∧ ∀ j, i ≤ j → xf j = -1)
    (fun xf _ g => by
      simp only [F_X8_found_15, jR_jN R, jR_jM R, jR_ln R, jR_lL R, if_false, pz_cT (show L < 2 ^ 31 by omega), if_true])
    (fun i xf hi hI => by
      have c := pz_cF hi (show L < 2 ^ 31 by omega)
      refine ⟨upd xf i (nI i), fun g => ?_, fun j hj => ?_, fun j hj => ?_⟩
      · simp only [F_X8_found_15, F_X8_found_25, jR_jN R, jR_jM R, jR_ln R, jR_lL R, if_false, jR_ngL R (hi), jR_clL R (hi), pz_ge (hi), or_self, if_false, c, jR_z8 R hi, nI_clamp (show L + 1 < 2 ^ 31 by omega), pz_ge (show i < L + 1 by omega), or_self, if_false, jR_bl R (jk_n hi), nI_1]
      · by_cases e : j = i
        · subst e; rw [pz_us]
        · rw [pz_un e]; exact hI.1 j (by omega)
      · rw [pz_un (by omega)]; exact hI.2 j (by omega))
    (by omega) (a := fun _ => -1) ⟨fun j hj => absurd hj (Nat.not_lt_zero _), fun _ _ => rfl⟩
  refine ⟨xf, ?_, h2, h3⟩
  have h8 : (nI (L + 1) < 0 ∨ 100000000 < L + 1) = False := eq_false (fun q => q.elim (nI_pos (by omega)) (by omega))
  have h1' : F_X8_found_15 kN v1 v2 v3 0 (nI (L + 1)) (fun _ => -1) z = F_X8_found_43 v1 v2 v3 (nI (L + 1)) xf z := h1
  simp only [F_X8_found_0, jR_jN R, jR_jM R, jR_ln R, jR_lL R, if_false, nI_1, nI_clamp (show L + 1 < 2 ^ 31 by omega), h8, h1']
theorem jfound_z (R : jQ n L h0 P m z) (hL : L < 12) : ∃ z', F_X8_found v1 v2 v3 z = kadd 3 (L + 5) ((F_X8_rule (nI L) v3 z').bind fun x => kadd x.2.1 x.2.2 (some (x.1, 0, 0))) ∧ jNl L z z' v1 v2 := by
  obtain ⟨xf, e1, e2, e3⟩ := jfound_l (v1 := v1) (v2 := v2) (v3 := v3) R hL
  have hM := jR_jM R
  obtain ⟨z1, hz1⟩ : ∃ x, x = kst (kst (kst (kst z (4 * L + 2) (fun i => if i < 2 then 0 else -1)) (4 * L + 3) (fun _ => -1)) 16 (upd (z 16) L 0)) 20 (upd (z 20) 1 (nI (L + 1))) := ⟨_, rfl⟩
  have g1 : jNewL z = z1 := by rw [hz1]; unfold jNewL; rw [hM]
  have f120 : z1 20 = upd (z 20) 1 (nI (L + 1)) := by rw [hz1, kst_eq]
  have f116 : z1 16 = upd (z 16) L 0 := by rw [hz1, kst_ne _ _ (by decide), kst_eq]
  have f13 : z1 (4 * L + 3) = fun _ => -1 := by rw [hz1, kst_ne _ _ (by omega), kst_ne _ _ (by omega), kst_eq]
  have f12 : z1 (4 * L + 2) = fun i => if i < 2 then 0 else -1 := by rw [hz1, kst_ne _ _ (by omega), kst_ne _ _ (by omega), kst_ne _ _ (by omega), kst_eq]
  have f1o : ∀ q, q ≠ 4 * L + 2 → q ≠ 4 * L + 3 → q ≠ 16 → q ≠ 20 → z1 q = z q := fun q h h2 h3 h4 => by rw [hz1, kst_ne _ _ h4, kst_ne _ _ h3, kst_ne _ _ h2, kst_ne _ _ h]
  have N1 : jM z1 = L + 1 := by unfold jM; rw [f120, pz_us, nI_clamp (by omega)]
  obtain ⟨z2, hz2⟩ : ∃ x, x = kst z1 (4 * L + 2) (upd (z1 (4 * L + 2)) 0 v1) := ⟨_, rfl⟩
  obtain ⟨z3, hz3⟩ : ∃ x, x = kst z2 (4 * L + 2) (upd (z2 (4 * L + 2)) 1 v2) := ⟨_, rfl⟩
  have N2 : jM z2 = L + 1 := by rw [hz2, jM_st (by omega)]; exact N1
  have N3 : jM z3 = L + 1 := by rw [hz3, jM_st (by omega)]; exact N2
  have f3o : ∀ q, q ≠ 4 * L + 2 → z3 q = z1 q := fun q h => by rw [hz3, kst_ne _ _ h, hz2, kst_ne _ _ h]
  have f3P : z3 (4 * L + 2) = upd (upd (fun i => if i < 2 then 0 else -1) 0 v1) 1 v2 := by rw [hz3, kst_eq, hz2, kst_eq, f12]
  have l3 : (z3 12 1).toNatClampNeg = L := by rw [f3o 12 (by omega), f1o 12 (by omega) (by omega) (by decide) (by decide)]; exact jR_lL R
  have b1 : (nI L < 0) = False := pz_n0 (by omega)
  have b2 : (nI L).toNatClampNeg = L := nI_clamp (by omega)
  have b3 : (L + 1 ≤ L) = False := eq_false (by omega)
  refine ⟨kst (kst z3 8 (upd xf L (nI L))) 12 (upd (z3 12) 1 (nI (L + 1))), ?_, ?_⟩
  · have hk : (jNoL z L ∧ ∀ i, jno L (xf i)) := ⟨jNoL_of R, fun i => by
      by_cases h : i < L
      · rw [e2 i h]; exact jk_no (by omega) (jk_n h)
      · rw [e3 i (by omega)]; exact Or.inl rfl⟩
    show F_X8_found_0 v1 v2 v3 z = _
    rw [e1]
    have t : F_X8_found_43 v1 v2 v3 (nI (L + 1)) xf z = kadd 2 4 ((F_X8_rule (nI L) v3 (kst (kst z3 8 (upd xf L (nI L))) 12 (upd (z3 12) 1 (nI (L + 1))))).bind fun x => kadd x.2.1 x.2.2 (some (x.1, 0, 0))) := by
      unfold F_X8_found_43
      rw [kchk_t (by rw [hM]; exact hk)]
      simp only [hM, g1, b1, b2, N1, b3, or_self, if_false]
      rw [show kput z1 (4 * L + 2) 0 v1 = z2 from hz2.symm]
      simp only [N2, b3, or_self, if_false]
      rw [show kput z2 (4 * L + 2) 1 v2 = z3 from hz3.symm]
      simp only [l3, b1, b2, nI_clamp (show L + 1 < 2 ^ 31 by omega), b3, or_self, if_false, N3, jbad_f (show L + 1 < 2 ^ 31 by omega) (jk_n (show L < L + 1 by omega))]
    rw [t, pz_kadd, show 1 + 2 = 3 from rfl, show L + 1 + 4 = L + 5 by omega]
  · refine ⟨fun q h1 h2 h3 h4 h5 h6 => ?_, ?_, ?_, ?_, ?_, fun i hi => ?_, fun i hi => ?_, ?_, ?_, ?_, fun i => ?_, ?_, fun i hi => ?_⟩
    · rw [kst_ne _ _ h6, kst_ne _ _ h5, f3o q h1, f1o q h1 h2 h3 h4]
    · rw [kst_ne _ _ (by decide), kst_ne _ _ (by decide), f3o 20 (by omega), f120, pz_un (by decide)]
    · rw [kst_ne _ _ (by decide), kst_ne _ _ (by decide), f3o 20 (by omega), f120, pz_us]
    · rw [kst_eq, pz_un (by decide), f3o 12 (by omega), f1o 12 (by omega) (by omega) (by decide) (by decide)]
    · rw [kst_eq, pz_us]
    · rw [kst_ne _ _ (by decide), kst_eq]
      by_cases e : i = L
      · subst e; rw [pz_us]
      · rw [pz_un e]; exact e2 i (by omega)
    · rw [kst_ne _ _ (by decide), kst_eq, pz_un (by omega)]; exact e3 i (by omega)
    · rw [kst_ne _ _ (by omega), kst_ne _ _ (by omega), f3P, pz_un (by decide), pz_us]
    · rw [kst_ne _ _ (by omega), kst_ne _ _ (by omega), f3P, pz_us]
    · rw [kst_ne _ _ (by omega), kst_ne _ _ (by omega), f3P, pz_un (by decide), pz_un (by decide)]; rfl
    · rw [kst_ne _ _ (by omega), kst_ne _ _ (by omega), f3o _ (by omega), f13]
    · rw [kst_ne _ _ (by decide), kst_ne _ _ (by decide), f3o 16 (by omega), f116, pz_us]
    · rw [kst_ne _ _ (by decide), kst_ne _ _ (by decide), f3o 16 (by omega), f116, pz_un hi]
end ZS
