/-! THE CALLS, on both sides: what only reads -/
def zAll (c : Nat) (k m : kS) : Prop := ∃ n L y, zRel 15 n L k m ∧ zXl L (fun _ => 4100 * c) k m ∧ k 15 0 = nI y ∧ y ≤ 100 * c ∧ ∀ p, p < 40 → k 39 p = -1
/-- class's code and answer beside the reference's answer and its 'thrown'; a, b, d: what the reference says for the three exceptions, 0 if the call throws none such -/
def zOk (a b d : Nat) (code : Nat) (r b' : Int32) (t : Int32) : Prop := (code = 0 ∧ r = b' ∧ t = 0) ∨ (code = 1 ∧ a ≠ 0 ∧ t = nI a) ∨ (code = 2 ∧ b ≠ 0 ∧ t = nI b) ∨ (code = 3 ∧ d ≠ 0 ∧ t = nI d)
theorem zOk_0 {a b d : Nat} {r : Int32} : zOk a b d 0 r r 0 := Or.inl ⟨rfl, rfl, rfl⟩
theorem zOk_1 {a b d : Nat} {r b' : Int32} (h : a ≠ 0) : zOk a b d 1 r b' (nI a) := Or.inr (Or.inl ⟨rfl, h, rfl⟩)
theorem zOk_2 {a b d : Nat} {r b' : Int32} (h : b ≠ 0) : zOk a b d 2 r b' (nI b) := Or.inr (Or.inr (Or.inl ⟨rfl, h, rfl⟩))
theorem zOk_3 {a b d : Nat} {r b' : Int32} (h : d ≠ 0) : zOk a b d 3 r b' (nI d) := Or.inr (Or.inr (Or.inr ⟨rfl, h, rfl⟩))
section ZT
variable {n p q a b c d e j x r L w l y Y : Nat} {k k1 k0 m m1 m' : kS} {v t v1 v2 v3 : Int32} {B P : Nat}
def thr (v : Int32) (m : kS) : kS := kst m 7 (upd (m 7) 0 v)
theorem thr_0 : thr v m 7 0 = v := by unfold thr; rw [kst_eq, pz_us]
theorem thr_1 : thr v m 7 1 = m 7 1 := by unfold thr; rw [kst_eq, pz_un (by decide)]
theorem thr_2 : thr v m 7 2 = m 7 2 := by unfold thr; rw [kst_eq, pz_un (by decide)]
theorem thr_n {q : Nat} (h : q ≠ 7) : thr v m q = m q := by unfold thr; rw [kst_ne _ _ h]
theorem thr_e : kst m 7 (upd (m 7) 0 v) = thr v m := rfl
theorem fail_x : F_X6_fail v m = some (0, thr v m) := rfl
theorem zRel_in {B : Nat} (h : zRel B n L k m) (h8 : ∀ i, i < 360 → m1 8 i = m 8 i) (h9 : ∀ i, i < 48 → m1 9 i = m 9 i) (h71 : m1 7 1 = m 7 1) (h72 : m1 7 2 = m 7 2) (hy : m1 11 0 = m 11 0) : zRel B n L k m1 := by
  obtain ⟨⟨a1, a2, a3, a4, a5⟩, hL, ⟨w1, w2, w3, w4, w5⟩, hMW, hRu, h15, h30⟩ := h
  refine ⟨⟨a1, a2, h71.trans a3, fun p hp => ?_, a5⟩, fun p hp => ?_, ⟨w1, w2, h72.trans w3, w4.trans hy.symm, fun l hl => ?_⟩, fun p hp => ?_, hRu, fun e15 => ?_, h30⟩
  · rw [h8 (9 * p) (by omega), h8 (9 * p + 1) (by omega), h8 (9 * p + 3) (by omega), h8 (9 * p + 4) (by omega)]; exact a4 p hp
  · rw [h8 (9 * p + 2) (by omega)]; exact hL p hp
  · rw [h9 (4 * l + 1) (by omega), h9 (4 * l + 2) (by omega)]; exact w5 l hl
  · rw [h8 (9 * p + 5) (by omega)]; exact hMW p hp
  · obtain ⟨⟨X1, X2, X3⟩, X4⟩ := h15 e15
    refine ⟨⟨X1, fun p hp => ?_, fun p hp => ?_⟩, X4⟩
    · rw [h8 (9 * p + 5) (by omega), h8 (9 * p + 6) (by omega)]; exact X2 p hp
    · unfold zTr
      rw [h8 (9 * p + 7) (by omega), h8 (9 * p + 8) (by omega)]; exact X3 p hp
theorem zXl_in {hf : Nat → Nat} (hL : L ≤ 12) (h : zXl L hf k m) (h9 : ∀ i, i < 48 → m1 9 i = m 9 i) (h10 : ∀ i, i < 180 → m1 10 i = m 10 i) : zXl L hf k m1 := by
  refine ⟨fun l hl => ?_, h.2⟩
  obtain ⟨x1, x2, u, x3, x4, x5, x6, x7⟩ := h.1 l hl
  exact ⟨by rw [h9 _ (by omega)]; exact x1, x2, u, x3, x4, by rw [h9 _ (by omega)]; exact x5, x6, fun i hi => by rw [h10 _ (by omega)]; exact x7 i hi⟩
theorem zAll_up (h : zAll c k m) : zAll (c + 1) k m := by
  obtain ⟨n, L, y, h1, h2, h3, h4, h5⟩ := h
  exact ⟨n, L, y, h1, zXl_mono h2 (fun l hl => by omega), h3, by omega, h5⟩
theorem zAll_off (h : zAll c k m) (hk : zOffB 15 k k1) (hm : zOff m m1) : zAll c k1 m1 := by
  obtain ⟨n, L, y, h1, h2, h3, h4, h5⟩ := h
  exact ⟨n, L, y, zRel_off k15 h1 hk hm, zXl_off h1.2.2.1.1 h2 hk hm, by rw [hk 15 (by decide) (by decide)]; exact h3, h4, fun p hp => by rw [hk 39 (by decide) (by decide)]; exact h5 p hp⟩
theorem zRel_thr {B : Nat} (h : zRel B n L k m) : zRel B n L k (thr v m) :=
  zRel_in h (fun i _ => by rw [thr_n (by decide)]) (fun i _ => by rw [thr_n (by decide)]) thr_1 thr_2 (by rw [thr_n (by decide)])
theorem zXl_thr {hf : Nat → Nat} (hL : L ≤ 12) (h : zXl L hf k m) : zXl L hf k (thr v m) :=
  zXl_in hL h (fun i _ => by rw [thr_n (by decide)]) (fun i _ => by rw [thr_n (by decide)])
theorem zAll_thr (h : zAll c k m) : zAll c k (thr v m) := by
  obtain ⟨n, L, y, h1, h2, h3, h4, h5⟩ := h
  exact ⟨n, L, y, zRel_thr h1, zXl_thr h1.2.2.1.1 h2, h3, h4, h5⟩
theorem np_1 (hn : n ≤ 40) (hk : k 1 0 = nI n) (hp : p < n) : F_X5_needPerson k (nI p) = some 0 := by
  simp only [F_X5_needPerson_11, F_X5_needPerson_21, F_X5_needPerson_0, F_X5_needPerson, kn_1 hn hk hp, pz_bind, pz_10, if_false]
theorem np_0 (hk : k 1 0 = nI n) (h : v < 0 ∨ nI n ≤ v) : F_X5_needPerson k v = some 3 := by
  simp only [F_X5_needPerson_11, F_X5_needPerson_21, F_X5_needPerson_0, F_X5_needPerson, kn_0 hk h, pz_bind, pz_00, if_true]
theorem nl_1 (hn : L ≤ 12) (hk : k 16 0 = nI L) (hp : l < L) : F_X5_needLand k (nI l) = some 0 := by
  simp only [F_X5_needLand_14, F_X5_needLand_24, F_X5_needLand_0, F_X5_needLand, kl_1 (B := 15) hn hk hp, pz_bind, pz_10, if_false]
theorem nl_0 (hk : k 16 0 = nI L) (h : v < 0 ∨ nI L ≤ v) : F_X5_needLand k v = some 3 := by
  simp only [F_X5_needLand_14, F_X5_needLand_24, F_X5_needLand_0, F_X5_needLand, kl_0 (B := 15) hk h, pz_bind, pz_00, if_true]
theorem nb_1 {N : Nat} (hN : N < 2 ^ 31) (h : w < N) : F_X5_needBelow k (nI w) (nI N) = some 0 := by
  have h1 : (nI w < 0) = False := pz_n0 (by omega)
  have h2 : (nI w < nI N) = True := eq_true ((nI_ltI (by omega) hN).mpr h)
  simp only [F_X5_needBelow_9, F_X5_needBelow_19, F_X5_needBelow_4, F_X5_needBelow_0, F_X5_needBelow, h1, h2, if_true, if_false]
theorem nb_0 {u : Int32} (h : v < 0 ∨ u ≤ v) : F_X5_needBelow k v u = some 3 := by
  simp only [F_X5_needBelow_9, F_X5_needBelow_19, F_X5_needBelow_4, F_X5_needBelow_0, F_X5_needBelow]
  by_cases h1 : v < 0
  · rw [if_pos h1]
  · rw [if_neg h1, if_neg (Int32.not_lt.mpr (h.resolve_left h1))]
theorem zM_person (hA : zAll c k m) : ∃ code r b m', F_X5_person k v1 v2 = some (code, r) ∧ F_X6_person_ v1 v2 m = some (b, m') ∧ zOk 0 0 1 code r b (m' 7 0) ∧ zAll (c + 1) k m' := by
  have hA' := hA
  obtain ⟨n, L, y, hR, hX, -⟩ := hA
  have hn := hR.1.1
  have hk := hR.1.2.1
  have hm : thr 0 m 7 1 = nI n := thr_1.trans hR.1.2.2.1
  have bad : ∀ code r, code = 3 → F_X5_person k v1 v2 = some (code, r) → F_X6_person_ v1 v2 m = some (0, thr 1 (thr 0 m)) → ∃ code r b m', F_X5_person k v1 v2 = some (code, r) ∧ F_X6_person_ v1 v2 m = some (b, m') ∧ zOk 0 0 1 code r b (m' 7 0) ∧ zAll (c + 1) k m' := by
    rintro code r rfl h1 h2
    exact ⟨3, r, 0, _, h1, h2, by rw [thr_0]; exact zOk_3 (by decide), zAll_up (zAll_thr (zAll_thr hA'))⟩
  rcases pk_ix v1 (n := n) (by omega) with h | h | ⟨p, hp, rfl⟩
  · exact bad 3 0 rfl (by simp only [F_X5_person, F_X5_person_0, np_0 hk (Or.inl h), pz_bind]; rfl) (by simp only [F_X6_person_, F_X6_person__0, thr_e, ip_0 hn hm (Or.inl h), pz_bind, pz_00, if_true, F_X6_person__32, fail_x, F_X6_person__37])
  · exact bad 3 0 rfl (by simp only [F_X5_person, F_X5_person_0, np_0 hk (Or.inr h), pz_bind]; rfl) (by simp only [F_X6_person_, F_X6_person__0, thr_e, ip_0 hn hm (Or.inr h), pz_bind, pz_00, if_true, F_X6_person__32, fail_x, F_X6_person__37])
  · have z0 : ((0 : Nat) = 0) = True := eq_true rfl
    rcases pk_ix v2 (n := 10) (by omega) with h | h | ⟨w, hw, rfl⟩
    · exact bad 3 0 rfl (by simp only [F_X5_person, F_X5_person_0, np_1 hn hk hp, pz_bind, z0, if_true, nb_0 (k := k) (u := 10) (Or.inl h)]; rfl) (by simp only [F_X6_person_, F_X6_person__0, thr_e, ip_1 hn hm hp, pz_bind, pz_10, if_false, F_X6_person__13, isIn_0 (m := thr 0 m) (v1 := 0) (v2 := 9) (Or.inl h), pz_00, if_true, F_X6_person__32, fail_x, F_X6_person__37])
    · have h9 : (9 : Int32) < v2 := by
        rw [Int32.lt_iff_toInt_lt, show (9 : Int32).toInt = 9 from rfl]
        rw [Int32.le_iff_toInt_le, nI_toInt (by decide)] at h
        omega
      exact bad 3 0 rfl (by simp only [F_X5_person, F_X5_person_0, np_1 hn hk hp, pz_bind, z0, if_true, nb_0 (k := k) (u := 10) (v := v2) (Or.inr h)]; rfl) (by simp only [F_X6_person_, F_X6_person__0, thr_e, ip_1 hn hm hp, pz_bind, pz_10, if_false, F_X6_person__13, isIn_0 (m := thr 0 m) (v1 := 0) (v2 := 9) (Or.inr h9), pz_00, if_true, F_X6_person__32, fail_x, F_X6_person__37])
    · obtain ⟨r, g1, g2⟩ := pf_x (zRel_thr (v := 0) hR) (zXl_thr (v := 0) hR.2.2.1.1 hX) hp hw
      have b1 : ¬ nI w < 0 := nI_pos (by omega)
      have b2 : ¬ (9 : Int32) < nI w := nI_nlt (b := w) (a := 9) (by omega) (by decide)
      refine ⟨0, r, r, thr 0 m, ?_, ?_, by rw [thr_0]; exact zOk_0, zAll_up (zAll_thr hA')⟩
      · have nb : F_X5_needBelow k (nI w) 10 = some 0 := nb_1 (N := 10) (by decide) hw
        simp only [F_X5_person, F_X5_person_0, np_1 hn hk hp, pz_bind, z0, if_true, nb, g1]
      · simp only [F_X6_person_, F_X6_person__0, thr_e, ip_1 hn hm hp, pz_bind, pz_10, if_false, F_X6_person__13, isIn_1 (m := thr 0 m) b1 b2, F_X6_person__23, g2, F_X6_person__37]
theorem zM_land (hA : zAll c k m) : ∃ code r k' b m', F_X5_land v1 v2 k = some ((code, r), k') ∧ F_X6_land v1 v2 m = some (b, m') ∧ zOk 0 0 1 code r b (m' 7 0) ∧ zAll (c + 1) k' m' := by
  have hA' := hA
  obtain ⟨n, L, y, hR, hX, -⟩ := hA
  have hL := hR.2.2.1.1
  have hk : k 16 0 = nI L := hR.2.2.1.2.1
  have hm : thr 0 m 7 2 = nI L := thr_2.trans hR.2.2.1.2.2.1
  have bad : ∀ code r, code = 3 → F_X5_land v1 v2 k = some ((code, r), k) → F_X6_land v1 v2 m = some (0, thr 1 (thr 0 m)) → ∃ code r k' b m', F_X5_land v1 v2 k = some ((code, r), k') ∧ F_X6_land v1 v2 m = some (b, m') ∧ zOk 0 0 1 code r b (m' 7 0) ∧ zAll (c + 1) k' m' := by
    rintro code r rfl h1 h2
    exact ⟨3, r, k, 0, _, h1, h2, by rw [thr_0]; exact zOk_3 (by decide), zAll_up (zAll_thr (zAll_thr hA'))⟩
  rcases pk_ix v1 (n := L) (by omega) with h | h | ⟨l, hl, rfl⟩
  · exact bad 3 0 rfl (by simp only [F_X5_land, F_X5_land_0, nl_0 hk (Or.inl h), pz_bind]; rfl) (by simp only [F_X6_land, F_X6_land_0, thr_e, il_0 hL hm (Or.inl h), pz_bind, pz_00, if_true, F_X6_land_31, fail_x, F_X6_land_36])
  · exact bad 3 0 rfl (by simp only [F_X5_land, F_X5_land_0, nl_0 hk (Or.inr h), pz_bind]; rfl) (by simp only [F_X6_land, F_X6_land_0, thr_e, il_0 hL hm (Or.inr h), pz_bind, pz_00, if_true, F_X6_land_31, fail_x, F_X6_land_36])
  · have z0 : ((0 : Nat) = 0) = True := eq_true rfl
    rcases pk_ix v2 (n := 6) (by omega) with h | h | ⟨w, hw, rfl⟩
    · exact bad 3 0 rfl (by simp only [F_X5_land, F_X5_land_0, nl_1 hL hk hl, pz_bind, z0, if_true, nb_0 (k := k) (u := 6) (Or.inl h)]; rfl) (by simp only [F_X6_land, F_X6_land_0, thr_e, il_1 hL hm hl, pz_bind, pz_10, if_false, F_X6_land_13, isIn_0 (m := thr 0 m) (v1 := 0) (v2 := 5) (Or.inl h), pz_00, if_true, F_X6_land_31, fail_x, F_X6_land_36])
    · have h9 : (5 : Int32) < v2 := by
        rw [Int32.lt_iff_toInt_lt, show (5 : Int32).toInt = 5 from rfl]
        rw [Int32.le_iff_toInt_le, nI_toInt (by decide)] at h
        omega
      exact bad 3 0 rfl (by simp only [F_X5_land, F_X5_land_0, nl_1 hL hk hl, pz_bind, z0, if_true, nb_0 (k := k) (u := 6) (v := v2) (Or.inr h)]; rfl) (by simp only [F_X6_land, F_X6_land_0, thr_e, il_1 hL hm hl, pz_bind, pz_10, if_false, F_X6_land_13, isIn_0 (m := thr 0 m) (v1 := 0) (v2 := 5) (Or.inr h9), pz_00, if_true, F_X6_land_31, fail_x, F_X6_land_36])
    · obtain ⟨r, k1, m1, g1, g2, g3, g4⟩ := lf_x (zRel_thr (v := 0) hR) (zXl_thr (v := 0) hR.2.2.1.1 hX) hl hw
      have b1 : ¬ nI w < 0 := nI_pos (by omega)
      have b2 : ¬ (5 : Int32) < nI w := nI_nlt (b := w) (a := 5) (by omega) (by decide)
      refine ⟨0, r, k1, r, m1, ?_, ?_, ?_, zAll_up (zAll_off (zAll_thr hA') g3 g4)⟩
      · have nb : F_X5_needBelow k (nI w) 6 = some 0 := nb_1 (N := 6) (by decide) hw
        simp only [F_X5_land, F_X5_land_0, nl_1 hL hk hl, pz_bind, z0, if_true, nb, g1]
      · simp only [F_X6_land, F_X6_land_0, thr_e, il_1 hL hm hl, pz_bind, pz_10, if_false, F_X6_land_13, isIn_1 (m := thr 0 m) b1 b2, F_X6_land_22, g2, F_X6_land_36]
      · rw [g4 7 (by decide) (by decide), thr_0]; exact zOk_0
theorem zM_count (hA : zAll c k m) : ∃ code r b m', F_X5_count k v1 = some (code, r) ∧ F_X6_count v1 m = some (b, m') ∧ zOk 0 0 1 code r b (m' 7 0) ∧ zAll (c + 1) k m' := by
  have hA' := hA
  obtain ⟨n, L, y, hR, hX, -⟩ := hA
  have z0 : ((0 : Nat) = 0) = True := eq_true rfl
  have bad : ∀ code r, code = 3 → F_X5_count k v1 = some (code, r) → F_X6_count v1 m = some (0, thr 1 (thr 0 m)) → ∃ code r b m', F_X5_count k v1 = some (code, r) ∧ F_X6_count v1 m = some (b, m') ∧ zOk 0 0 1 code r b (m' 7 0) ∧ zAll (c + 1) k m' := by
    rintro code r rfl h1 h2
    exact ⟨3, r, 0, _, h1, h2, by rw [thr_0]; exact zOk_3 (by decide), zAll_up (zAll_thr (zAll_thr hA'))⟩
  rcases pk_ix v1 (n := 8) (by omega) with h | h | ⟨w, hw, rfl⟩
  · exact bad 3 0 rfl (by simp only [F_X5_count, F_X5_count_0, nb_0 (k := k) (u := 8) (Or.inl h), pz_bind]; rfl) (by simp only [F_X6_count, F_X6_count_0, thr_e, isIn_0 (m := thr 0 m) (v1 := 0) (v2 := 7) (Or.inl h), pz_bind, pz_00, if_true, F_X6_count_23, fail_x, F_X6_count_28])
  · have h9 : (7 : Int32) < v1 := by
      rw [Int32.lt_iff_toInt_lt, show (7 : Int32).toInt = 7 from rfl]
      rw [Int32.le_iff_toInt_le, nI_toInt (by decide)] at h
      omega
    exact bad 3 0 rfl (by simp only [F_X5_count, F_X5_count_0, nb_0 (k := k) (u := 8) (v := v1) (Or.inr h), pz_bind]; rfl) (by simp only [F_X6_count, F_X6_count_0, thr_e, isIn_0 (m := thr 0 m) (v1 := 0) (v2 := 7) (Or.inr h9), pz_bind, pz_00, if_true, F_X6_count_23, fail_x, F_X6_count_28])
  · obtain ⟨r, g1, g2⟩ := cf_x (zRel_thr (v := 0) hR) hw
    have b1 : ¬ nI w < 0 := nI_pos (by omega)
    have b2 : ¬ (7 : Int32) < nI w := nI_nlt (b := w) (a := 7) (by omega) (by decide)
    refine ⟨0, r, r, thr 0 m, ?_, ?_, by rw [thr_0]; exact zOk_0, zAll_up (zAll_thr hA')⟩
    · have nb : F_X5_needBelow k (nI w) 8 = some 0 := nb_1 (N := 8) (by decide) hw
      simp only [F_X5_count, F_X5_count_0, nb, pz_bind, z0, if_true, g1]
    · simp only [F_X6_count, F_X6_count_0, thr_e, isIn_1 (m := thr 0 m) b1 b2, pz_bind, pz_10, if_false, F_X6_count_15, g2, F_X6_count_28]
theorem zM_related (hA : zAll c k m) : ∃ code r b m', F_X5_related k v1 v2 = some (code, r) ∧ F_X6_related v1 v2 m = some (b, m') ∧ zOk 0 0 1 code r b (m' 7 0) ∧ zAll (c + 1) k m' := by
  have hA' := hA
  obtain ⟨n, L, y, hR, hX, -⟩ := hA
  have hn := hR.1.1
  have hk := hR.1.2.1
  have hm : thr 0 m 7 1 = nI n := thr_1.trans hR.1.2.2.1
  have z0 : ((0 : Nat) = 0) = True := eq_true rfl
  have bad : ∀ code r, code = 3 → F_X5_related k v1 v2 = some (code, r) → F_X6_related v1 v2 m = some (0, thr 1 (thr 0 m)) → ∃ code r b m', F_X5_related k v1 v2 = some (code, r) ∧ F_X6_related v1 v2 m = some (b, m') ∧ zOk 0 0 1 code r b (m' 7 0) ∧ zAll (c + 1) k m' := by
    rintro code r rfl h1 h2
    exact ⟨3, r, 0, _, h1, h2, by rw [thr_0]; exact zOk_3 (by decide), zAll_up (zAll_thr (zAll_thr hA'))⟩
  rcases pk_ix v1 (n := n) (by omega) with h | h | ⟨p, hp, rfl⟩
  · exact bad 3 0 rfl (by simp only [F_X5_related, F_X5_related_0, np_0 hk (Or.inl h), pz_bind]; rfl) (by simp only [F_X6_related, F_X6_related_0, thr_e, ip_0 hn hm (Or.inl h), pz_bind, pz_00, if_true, F_X6_related_21, fail_x])
  · exact bad 3 0 rfl (by simp only [F_X5_related, F_X5_related_0, np_0 hk (Or.inr h), pz_bind]; rfl) (by simp only [F_X6_related, F_X6_related_0, thr_e, ip_0 hn hm (Or.inr h), pz_bind, pz_00, if_true, F_X6_related_21, fail_x])
  · rcases pk_ix v2 (n := n) (by omega) with h | h | ⟨q, hq, rfl⟩
    · exact bad 3 0 rfl (by simp only [F_X5_related, F_X5_related_0, np_1 hn hk hp, np_0 hk (Or.inl h), pz_bind, z0, if_true]; rfl) (by simp only [F_X6_related, F_X6_related_0, thr_e, ip_1 hn hm hp, F_X6_related_13, ip_0 hn hm (Or.inl h), pz_bind, pz_00, pz_10, if_true, if_false, F_X6_related_21, fail_x])
    · exact bad 3 0 rfl (by simp only [F_X5_related, F_X5_related_0, np_1 hn hk hp, np_0 hk (Or.inr h), pz_bind, z0, if_true]; rfl) (by simp only [F_X6_related, F_X6_related_0, thr_e, ip_1 hn hm hp, F_X6_related_13, ip_0 hn hm (Or.inr h), pz_bind, pz_00, pz_10, if_true, if_false, F_X6_related_21, fail_x])
    · have hR0 := zRel_thr (v := 0) hR
      obtain ⟨t, m1, s1, s2, s3⟩ := st_x hR0.1 hp hq
      have cl : F_X5_related k (nI p) (nI q) = some (0, k (69 + p) q) := by
        simp only [F_X5_related, F_X5_related_0, np_1 hn hk hp, np_1 hn hk hq, pz_bind, z0, if_true, pz_n0 (show p < 2 ^ 31 by omega), nI_clamp (show p < 2 ^ 31 by omega), pz_ge (show p < 40 by omega), or_self, false_or, if_false, pz_n0 (show q < 2 ^ 31 by omega), nI_clamp (show q < 2 ^ 31 by omega), pz_ge (show q < 40 by omega), or_self, false_or, if_false]
      rcases s3 with ⟨u1, rfl⟩ | ⟨t, u1, u2, rfl⟩
      · have c9 : (nI 999 = 999) = True := eq_true rfl
        refine ⟨0, -1, -1, m1, by rw [cl, u1], ?_, by rw [s2 7 (by decide) (by decide), thr_0]; exact zOk_0, zAll_up (zAll_off (zAll_thr hA') (zOffB.rf 15 k) s2)⟩
        simp only [F_X6_related, F_X6_related_0, thr_e, ip_1 hn hm hp, ip_1 hn hm hq, F_X6_related_13, F_X6_related_27, s1, c9, pz_bind, pz_10, if_true, if_false, F_X6_related_39, F_X6_related_49]
      · have c9 : (nI t = 999) = False := eq_false (fun e => by have := (nI_eq (show t < 2 ^ 31 by omega) (show 999 < 2 ^ 31 by decide)).mp e; omega)
        obtain ⟨t2, m2, s4, s5, s6⟩ := st_x (zKin_off hR0.1 s2) hp hq
        have e2 : t2 = nI t := by
          rcases s6 with ⟨w1, _⟩ | ⟨w, w1, w2, rfl⟩
          · exact absurd (u2.symm.trans w1) (pz_m1 (by omega))
          · exact w2.symm.trans u2
        subst e2
        refine ⟨0, nI t, nI t, m2, by rw [cl, u2], ?_, by rw [s5 7 (by decide) (by decide), s2 7 (by decide) (by decide), thr_0]; exact zOk_0, zAll_up (zAll_off (zAll_thr hA') (zOffB.rf 15 k) (s2.tr s5))⟩
        simp only [F_X6_related, F_X6_related_0, thr_e, ip_1 hn hm hp, ip_1 hn hm hq, F_X6_related_13, F_X6_related_27, s1, c9, pz_bind, pz_10, if_false, F_X6_related_43, s4, F_X6_related_49]
end ZT
