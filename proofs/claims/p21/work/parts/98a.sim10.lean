/-! SIM: A PERSON MORE -/
theorem kchk_t {α : Type} {P : Prop} {x : Option α} (h : P) : kchk P x = x := by unfold kchk; exact if_pos h
theorem jk_no {n : Nat} {c : Int32} (hn : n < 2 ^ 31) (h : jk n c) : jno n c := by
  rcases h with h | ⟨q, hq, h⟩
  · exact Or.inl h
  · right; rw [h, nI_clamp (by omega)]; omega
section ZS
variable {n L h0 H a b p q w r B y y' l : Nat} {k k' m m' z : kS} {v v1 v2 h : Int32} {f : Nat → Int32} {P : Nat → Int32}
theorem jk_4 (R : jQ n L h0 P m z) (i : Nat) : jk n (z 4 i) := by
  by_cases h : i < n
  · rw [jR_z4 R h]; exact jk_n h
  · rw [(jR_a R).2.2.2.2.2.1 i (by omega)]; exact jk_m n
theorem jk_8 (R : jQ n L h0 P m z) (i : Nat) : jk L (z 8 i) := by
  by_cases h : i < L
  · rw [jR_z8 R h]; exact jk_n h
  · rw [(jR_a R).2.2.2.2.2.2.2 i (by omega)]; exact jk_m L
theorem jNoP_of (R : jQ n L h0 P m z) : jNoP z n := by
  have hn := R.1
  refine ⟨by omega, fun i => jk_no (by omega) (jk_4 R i), fun p hp => ?_, fun l hl => ?_⟩
  · rw [jR_jN R] at hp
    obtain ⟨a, b, c, -, e⟩ := (jR_c R).1 p hp
    exact ⟨jk_no (by omega) a, jk_no (by omega) b, jk_no (by omega) c, jk_no (by omega) e⟩
  · rw [jR_jM R] at hl
    obtain ⟨a, b⟩ := (jR_c R).2 l hl
    exact ⟨jk_no (by omega) a, fun i => jk_no (by omega) (b i)⟩
/-- what a new person's place is -/
def jNw (n : Nat) (z z' : kS) (v1 t : Int32) : Prop := (∀ q, q ≠ 4 * n + 1 → q ≠ 20 → q ≠ 4 → q ≠ 12 → z' q = z q) ∧ z' 20 0 = nI (n + 1) ∧ z' 20 1 = z 20 1 ∧ z' 12 0 = nI (n + 1) ∧ z' 12 1 = z 12 1 ∧ (∀ i, i < n + 1 → z' 4 i = nI i) ∧ (∀ i, n + 1 ≤ i → z' 4 i = -1) ∧ z' (4 * n + 1) 0 = nI n ∧ z' (4 * n + 1) 1 = v1 ∧ z' (4 * n + 1) 2 = t ∧ ∀ w, 3 ≤ w → z' (4 * n + 1) w = -1
theorem jcome_l (R : jQ n L h0 P m z) (hn : n < 40) : ∃ xf, F_X8_come_0 v1 v2 z = kadd 1 (n + 1) (F_X8_come_41 v1 v2 (nI (n + 1)) xf z) ∧ (∀ i, i < n → xf i = nI i) ∧ ∀ i, n ≤ i → xf i = -1 := by
  obtain ⟨xf, h1, h2, h3⟩ := pz_loop10 (α := Nat → Int32) (fun g i xf => F_X8_come_14 g v1 v2 (nI i) (nI (n + 1)) xf z) (fun xf => F_X8_come_41 v1 v2 (nI (n + 1)) xf z) n (fun i xf => (∀ j, j < i → xf j = nI j) ∧ ∀ j, i ≤ j → xf j = -1)
    (fun xf _ g => by
      simp only [F_X8_come_14, jR_jN R, jR_jM R, jR_ln R, jR_lL R, if_false, pz_cT (show n < 2 ^ 31 by omega), if_true])
    (fun i xf hi hI => by
      have c := pz_cF hi (show n < 2 ^ 31 by omega)
      refine ⟨upd xf i (nI i), fun g => ?_, fun j hj => ?_, fun j hj => ?_⟩
      · simp only [F_X8_come_14, F_X8_come_24, jR_jN R, jR_jM R, jR_ln R, jR_lL R, if_false, jR_ng R (hi), jR_cl R (hi), pz_ge (hi), or_self, if_false, c, jR_z4 R hi, nI_clamp (show n + 1 < 2 ^ 31 by omega), pz_ge (show i < n + 1 by omega), or_self, if_false, jR_b R (jk_n hi), nI_1]
      · by_cases e : j = i
        · subst e; rw [pz_us]
        · rw [pz_un e]; exact hI.1 j (by omega)
      · rw [pz_un (by omega)]; exact hI.2 j (by omega))
    (by omega) (a := fun _ => -1) ⟨fun j hj => absurd hj (Nat.not_lt_zero _), fun _ _ => rfl⟩
  refine ⟨xf, ?_, h2, h3⟩
  have h8 : (nI (n + 1) < 0 ∨ 100000000 < n + 1) = False := eq_false (fun q => q.elim (nI_pos (by omega)) (by omega))
  have h1' : F_X8_come_14 kN v1 v2 0 (nI (n + 1)) (fun _ => -1) z = F_X8_come_41 v1 v2 (nI (n + 1)) xf z := h1
  simp only [F_X8_come_0, jR_jN R, jR_jM R, jR_ln R, jR_lL R, if_false, nI_1, nI_clamp (show n + 1 < 2 ^ 31 by omega), h8, h1']
theorem jcome_z (R : jQ n L h0 P m z) (hn : n < 40) (hv : v1 = 0 ∨ v1 = 1) : ∃ z', F_X8_come v1 v2 z = some ((nI n, z'), 2, n + 10) ∧ jNw n z z' v1 (z 0 0 - v2) := by
  obtain ⟨xf, e1, e2, e3⟩ := jcome_l (v1 := v1) (v2 := v2) R hn
  have hN := jR_jN R
  have n20 : 4 * n + 1 ≠ 20 := by omega
  obtain ⟨z1, hz1⟩ : ∃ x, x = kst (kst z (4 * n + 1) (fun i => if i < 3 then 0 else -1)) 20 (upd (z 20) 0 (nI (n + 1))) := ⟨_, rfl⟩
  have g1 : jNewP z = z1 := by rw [hz1]; unfold jNewP; rw [hN]
  have f120 : z1 20 = upd (z 20) 0 (nI (n + 1)) := by rw [hz1, kst_eq]
  have f1P : z1 (4 * n + 1) = fun i => if i < 3 then 0 else -1 := by rw [hz1, kst_ne _ _ n20, kst_eq]
  have f1o : ∀ q, q ≠ 4 * n + 1 → q ≠ 20 → z1 q = z q := fun q h h2 => by rw [hz1, kst_ne _ _ h2, kst_ne _ _ h]
  have N1 : jN z1 = n + 1 := by unfold jN; rw [f120, pz_us, nI_clamp (by omega)]
  obtain ⟨z2, hz2⟩ : ∃ x, x = kst z1 (4 * n + 1) (upd (z1 (4 * n + 1)) 0 (nI n)) := ⟨_, rfl⟩
  obtain ⟨z3, hz3⟩ : ∃ x, x = kst z2 (4 * n + 1) (upd (z2 (4 * n + 1)) 1 v1) := ⟨_, rfl⟩
  obtain ⟨z4, hz4⟩ : ∃ x, x = kst z3 (4 * n + 1) (upd (z3 (4 * n + 1)) 2 (z 0 0 - v2)) := ⟨_, rfl⟩
  have N2 : jN z2 = n + 1 := by rw [hz2, jN_st n20]; exact N1
  have N3 : jN z3 = n + 1 := by rw [hz3, jN_st n20]; exact N2
  have N4 : jN z4 = n + 1 := by rw [hz4, jN_st n20]; exact N3
  have f4o : ∀ q, q ≠ 4 * n + 1 → z4 q = z1 q := fun q h => by rw [hz4, kst_ne _ _ h, hz3, kst_ne _ _ h, hz2, kst_ne _ _ h]
  have f3o : ∀ q, q ≠ 4 * n + 1 → z3 q = z1 q := fun q h => by rw [hz3, kst_ne _ _ h, hz2, kst_ne _ _ h]
  have f4P : z4 (4 * n + 1) = upd (upd (upd (fun i => if i < 3 then 0 else -1) 0 (nI n)) 1 v1) 2 (z 0 0 - v2) := by rw [hz4, kst_eq, hz3, kst_eq, hz2, kst_eq, f1P]
  have l1 : (z1 12 0).toNatClampNeg = n := by rw [f1o 12 (by omega) (by decide)]; exact jR_ln R
  have l4 : (z4 12 0).toNatClampNeg = n := by rw [f4o 12 (by omega)]; exact l1
  have y3 : z3 0 0 = z 0 0 := by rw [f3o 0 (by omega), f1o 0 (by omega) (by decide)]
  have b1 : (nI n < 0) = False := pz_n0 (by omega)
  have b2 : (nI n).toNatClampNeg = n := nI_clamp (by omega)
  have b3 : (n + 1 ≤ n) = False := eq_false (by omega)
  refine ⟨kst (kst z4 4 (upd xf n (nI n))) 12 (upd (z4 12) 0 (nI (n + 1))), ?_, ?_⟩
  · have hk : (jNoP z n ∧ ∀ i, jno n (xf i)) := ⟨jNoP_of R, fun i => by
      by_cases h : i < n
      · rw [e2 i h]; exact jk_no (by omega) (jk_n h)
      · rw [e3 i (by omega)]; exact Or.inl rfl⟩
    have t : F_X8_come_41 v1 v2 (nI (n + 1)) xf z = some ((nI n, kst (kst z4 4 (upd xf n (nI n))) 12 (upd (z4 12) 0 (nI (n + 1)))), 1, 9) := by
      unfold F_X8_come_41
      rw [kchk_t (by rw [hN]; exact hk)]
      simp only [hN, g1, b1, b2, l1, N1, b3, or_self, if_false]
      rw [show kput z1 (4 * n + 1) 0 (nI n) = z2 from hz2.symm]
      simp only [N2, b3, or_self, if_false, hv, not_true_eq_false]
      rw [show kput z2 (4 * n + 1) 1 v1 = z3 from hz3.symm]
      simp only [N3, b3, or_self, if_false, y3]
      rw [show kput z3 (4 * n + 1) 2 (z 0 0 - v2) = z4 from hz4.symm]
      simp only [l4, b1, b2, nI_clamp (show n + 1 < 2 ^ 31 by omega), b3, or_self, if_false, N4, jbad_f (show n + 1 < 2 ^ 31 by omega) (jk_n (show n < n + 1 by omega))]
      rfl
    show F_X8_come_0 v1 v2 z = _
    rw [e1, t]
    show some ((nI n, _), 1 + 1, n + 1 + 9) = _
    rfl
  · refine ⟨fun q h1 h2 h3 h4 => ?_, ?_, ?_, ?_, ?_, fun i hi => ?_, fun i hi => ?_, ?_, ?_, ?_, fun w hw => ?_⟩
    · rw [kst_ne _ _ h4, kst_ne _ _ h3, f4o q h1, f1o q h1 h2]
    · rw [kst_ne _ _ (by decide), kst_ne _ _ (by decide), f4o 20 (by omega), f120, pz_us]
    · rw [kst_ne _ _ (by decide), kst_ne _ _ (by decide), f4o 20 (by omega), f120, pz_un (by decide)]
    · rw [kst_eq, pz_us]
    · rw [kst_eq, pz_un (by decide), f4o 12 (by omega), f1o 12 (by omega) (by decide)]
    · rw [kst_ne _ _ (by decide), kst_eq]
      by_cases e : i = n
      · subst e; rw [pz_us]
      · rw [pz_un e]; exact e2 i (by omega)
    · rw [kst_ne _ _ (by decide), kst_eq, pz_un (by omega)]; exact e3 i (by omega)
    · rw [kst_ne _ _ (by omega), kst_ne _ _ (by omega), f4P, pz_un (by decide), pz_un (by decide), pz_us]
    · rw [kst_ne _ _ (by omega), kst_ne _ _ (by omega), f4P, pz_un (by decide), pz_us]
    · rw [kst_ne _ _ (by omega), kst_ne _ _ (by omega), f4P, pz_us]
    · rw [kst_ne _ _ (by omega), kst_ne _ _ (by omega), f4P, pz_un (by omega), pz_un (by omega), pz_un (by omega)]
      exact if_neg (by omega)
end ZS
