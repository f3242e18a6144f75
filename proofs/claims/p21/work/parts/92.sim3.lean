/-! SIM'S ROW OF CHILDREN, AND THE FIRST OF A LINE, with the cells they take -/
noncomputable def jsm (A : Nat → Prop) (h : Nat → Nat) : Nat → Nat
  | 0 => 0
  | n + 1 => jsm A h n + (@ite Nat (A n) (Classical.propDecidable _) (h n) 0)
theorem jsm_1 {A : Nat → Prop} {h : Nat → Nat} {i : Nat} (q : A i) : jsm A h (i + 1) = jsm A h i + h i := by show jsm A h i + _ = _; rw [if_pos q]
theorem jsm_0 {A : Nat → Prop} {h : Nat → Nat} {i : Nat} (q : ¬ A i) : jsm A h (i + 1) = jsm A h i := by show jsm A h i + _ = _; rw [if_neg q, Nat.add_zero]
theorem jsm_cg {A A' : Nat → Prop} {h h' : Nat → Nat} : ∀ n, (∀ c, c < n → (A c ↔ A' c)) → (∀ c, c < n → A c → h c = h' c) → jsm A h n = jsm A' h' n
  | 0, _, _ => rfl
  | n + 1, g, e => by
    by_cases q : A n
    · rw [jsm_1 q, jsm_1 ((g n (by omega)).mp q), jsm_cg n (fun c hc => g c (by omega)) (fun c hc => e c (by omega)), e n (by omega) q]
    · rw [jsm_0 q, jsm_0 (fun r => q ((g n (by omega)).mpr r)), jsm_cg n (fun c hc => g c (by omega)) (fun c hc => e c (by omega))]
theorem jsm_mono {A : Nat → Prop} {h h' : Nat → Nat} : ∀ n, (∀ c, c < n → A c → h c ≤ h' c) → jsm A h n ≤ jsm A h' n
  | 0, _ => Nat.le_refl _
  | n + 1, e => by
    have ih := jsm_mono n (fun c hc => e c (by omega))
    by_cases q : A n
    · rw [jsm_1 q, jsm_1 q]
      have := e n (by omega) q
      omega
    · rw [jsm_0 q, jsm_0 q]; exact ih
theorem jsm_pull {A : Nat → Prop} {h : Nat → Nat} {c : Nat} (hA : A c) : ∀ n, c < n → h c + jsm (fun x => A x ∧ x ≠ c) h n = jsm A h n
  | 0, hc => by omega
  | n + 1, hc => by
    by_cases e : c = n
    · subst e
      rw [jsm_1 hA, jsm_0 (fun q => q.2 rfl), jsm_cg c (A' := A) (h' := h) (fun x hx => ⟨fun q => q.1, fun q => ⟨q, by omega⟩⟩) (fun _ _ _ => rfl)]
      omega
    · have ih := jsm_pull (h := h) hA n (by omega)
      by_cases q : A n
      · rw [jsm_1 q, jsm_1 (A := fun x => A x ∧ x ≠ c) ⟨q, by omega⟩]; omega
      · rw [jsm_0 q, jsm_0 (A := fun x => A x ∧ x ≠ c) (fun r => q r.1)]; exact ih
theorem jsm_add {A : Nat → Prop} {h : Nat → Nat} : ∀ n, jsm A (fun c => 1 + h c) n = zcnt A n + jsm A h n
  | 0 => rfl
  | n + 1 => by
    have ih := jsm_add (A := A) (h := h) n
    by_cases q : A n
    · rw [jsm_1 q, jsm_1 q, zcnt_s1 q]; omega
    · rw [jsm_0 q, jsm_0 q, zcnt_s0 q]; exact ih
theorem zcnt_up {A : Nat → Prop} {i : Nat} : ∀ d, zcnt A i ≤ zcnt A (i + d)
  | 0 => Nat.le_refl _
  | d + 1 => Nat.le_trans (zcnt_up d) (Nat.le_add_right _ _)
/-- the steps of all ways down from one -/
noncomputable def jps (k : kS) (n : Nat) : Nat → Nat → Nat
  | 0, _ => 0
  | d + 1, p => jsm (fun c => zCh k c p) (fun c => 1 + jps k n d c) n
/-- a row of children, in order -/
def jSo (n : Nat) (k : kS) (w p t : Nat) (i : Nat) (f : Nat → Int32) : Prop :=
  (∀ j, j < t → ∃ c, c < i ∧ zCh k c p ∧ f j = nI c) ∧ (∀ j1 j2, j1 < j2 → j2 < t → ∀ a b, a < n → b < n → f j1 = nI a → f j2 = nI b → zAh k w a b) ∧ ∀ c, c < i → zCh k c p → ∃ j, j < t ∧ f j = nI c
/-- the new one is put in its place -/
def jIn (n : Nat) (k : kS) (w t i at' : Nat) (f f' : Nat → Int32) : Prop :=
  at' ≤ t ∧ (∀ j, j < at' → f' j = f j) ∧ (∀ j, at' < j → j ≤ t → f' j = f (j - 1)) ∧ (∀ j, at' ≤ j → j < t → ∀ c, c < n → f j = nI c → zAh k w i c)
section ZS
variable {n L h0 a b p q w r B : Nat} {k m z : kS} {v : Int32} {f : Nat → Int32}
theorem jIn_so {t i x : Nat} {f f' : Nat → Int32} (hn : n ≤ 40) (hMl : zMl n k) (hi : i < n) (hc : zCh k i p) (hS : jSo n k w p t i f) (hI : jIn n k w t i x f f') (hlast : x = 0 ∨ ∀ c, c < n → f (x - 1) = nI c → zAh k w c i) : jSo n k w p (t + 1) (i + 1) (upd f' x (nI i)) := by
  obtain ⟨s1, s2, s3⟩ := hS
  obtain ⟨i0, i1, i2, i3⟩ := hI
  have lo : ∀ j, j < x → upd f' x (nI i) j = f j := fun j h => by rw [pz_un (by omega)]; exact i1 j h
  have mid : upd f' x (nI i) x = nI i := pz_us
  have hi2 : ∀ j, x < j → j ≤ t → upd f' x (nI i) j = f (j - 1) := fun j h h2 => by rw [pz_un (by omega)]; exact i2 j h h2
  have bef : ∀ j, j < x → ∀ c, c < n → f j = nI c → zAh k w c i := by
    intro j hj c hcn e
    rcases hlast with h | h
    · omega
    · obtain ⟨c', h1, h2, h3⟩ := s1 (x - 1) (by omega)
      have h4 := h c' (by omega) h3
      by_cases hjx : j = x - 1
      · exact h c hcn (by rw [← hjx]; exact e)
      · exact zAh_tr hMl hcn (by omega) hi (s2 j (x - 1) (by omega) (by omega) c c' hcn (by omega) e h3) h4
  have inj : ∀ a b, a < n → b < n → nI a = nI b → a = b := fun a b h1 h2 e => (nI_eq (by omega) (by omega)).mp e
  refine ⟨fun j hj => ?_, fun j1 j2 h12 h2t a b ha hb e1 e2 => ?_, fun c hc2 hcp => ?_⟩
  · rcases Nat.lt_trichotomy j x with h | h | h
    · obtain ⟨c, c1, c2, c3⟩ := s1 j (by omega)
      exact ⟨c, by omega, c2, (lo j h).trans c3⟩
    · subst h; exact ⟨i, by omega, hc, mid⟩
    · obtain ⟨c, c1, c2, c3⟩ := s1 (j - 1) (by omega)
      exact ⟨c, by omega, c2, (hi2 j h (by omega)).trans c3⟩
  · rcases Nat.lt_trichotomy j2 x with h | h | h
    · rw [lo j2 h] at e2
      rw [lo j1 (by omega)] at e1
      exact s2 j1 j2 h12 (by omega) a b ha hb e1 e2
    · subst h
      rw [mid] at e2
      rw [lo j1 h12] at e1
      rw [← inj i b hi hb e2]
      exact bef j1 h12 a ha e1
    · rw [hi2 j2 h (by omega)] at e2
      rcases Nat.lt_trichotomy j1 x with g | g | g
      · rw [lo j1 g] at e1
        exact s2 j1 (j2 - 1) (by omega) (by omega) a b ha hb e1 e2
      · subst g
        rw [mid] at e1
        rw [← inj i a hi ha e1]
        exact i3 (j2 - 1) (by omega) (by omega) b hb e2
      · rw [hi2 j1 g (by omega)] at e1
        exact s2 (j1 - 1) (j2 - 1) (by omega) (by omega) a b ha hb e1 e2
  · by_cases e : c = i
    · subst e; exact ⟨x, by omega, mid⟩
    · obtain ⟨j, j1, j2⟩ := s3 c (by omega) hcp
      by_cases h : j < x
      · exact ⟨j, by omega, (lo j h).trans j2⟩
      · exact ⟨j + 1, by omega, (hi2 (j + 1) (by omega) (by omega)).trans j2⟩
/-- the inner loop of row -/
theorem jrow_in {c26 : Int32 → Int32 → Int32 → Int32 → Int32 → Int32 → (Nat → Int32) → Option ((Int32 × (Nat → Int32)) × Nat × Nat)} {t i C : Nat} {f : Nat → Int32} {v1 v6 : Int32} (R : jR n L h0 m z) (hE : zEq n k m) (hMl : zMl n k) (hw : w ≤ 2) (hi : i < n) (hc : zCh k i p) (hC : t < C) (hC9 : C ≤ 40) (hS : jSo n k w p t i f) : ∀ (x : Nat) (f' : Nat → Int32) (g : Nat), jIn n k w t i x f f' → x < g → ∃ f2, F_X8_row_65 z c26 g v1 (nI w) (nI t) v6 (nI i) (nI i) (nI x) (nI C) f' = c26 v1 (nI w) (nI (t + 1)) v6 (nI (i + 1)) (nI C) f2 ∧ jSo n k w p (t + 1) (i + 1) f2
  | x, f', 0, _, hg => by omega
  | 0, f', g + 1, hI, _ => by
    have hn := R.1
    have := hI.1
    refine ⟨upd f' 0 (nI i), ?_, jIn_so hn hMl hi hc hS hI (Or.inl rfl)⟩
    simp only [F_X8_row_65, F_X8_row_101, F_X8_row_110, show (nI 0 ≤ 0) = True from eq_true (by decide), if_true, pz_n0 (show 0 < 2 ^ 31 by omega), nI_clamp (show 0 < 2 ^ 31 by omega), nI_clamp (show C < 2 ^ 31 by omega), pz_ge (show 0 < C by omega), or_self, if_false, jR_jN R, jR_jM R, jR_ln R, jR_lL R, if_false, jR_b R (jk_n hi), nI_1]
  | x + 1, f', g + 1, hI, hg => by
    have hn := R.1
    obtain ⟨i0, i1, i2, i3⟩ := hI
    obtain ⟨c', h1, h2, h3⟩ := hS.1 x (by omega)
    have e : f' x = nI c' := (i1 x (by omega)).trans h3
    obtain ⟨r, hr, hr2⟩ := jah_x R hE hMl hw hi (show c' < n by omega) (by omega)
    have h9 : (nI (x + 1) ≤ 0) = False := by rw [show (0 : Int32) = nI 0 from rfl, pz_le (by omega) (by omega)]; exact eq_false (by omega)
    rcases hr2 with ⟨rfl, ha⟩ | ⟨rfl, ha⟩
    · obtain ⟨f2, q1, q2⟩ := jrow_in (c26 := c26) (v1 := v1) (v6 := v6) R hE hMl hw hi hc hC hC9 hS x (upd f' (x + 1) (nI c')) g ⟨by omega, fun j hj => by rw [pz_un (by omega)]; exact i1 j (by omega), fun j hj hj2 => by
        by_cases hjx : j = x + 1
        · subst hjx; rw [pz_us]; exact h3.symm
        · rw [pz_un hjx]; exact i2 j (by omega) hj2, fun j hj hj2 c hcn e2 => by
        by_cases hjx : j = x
        · subst hjx
          rw [h3] at e2
          rw [← (nI_eq (by omega) (by omega)).mp e2]
          exact ha
        · exact i3 j (by omega) hj2 c hcn e2⟩ (by omega)
      refine ⟨f2, ?_, q2⟩
      rw [← q1]
      simp only [F_X8_row_65, F_X8_row_70, F_X8_row_85, h9, if_false, nI_pred, pz_n0 (show x < 2 ^ 31 by omega), nI_clamp (show x < 2 ^ 31 by omega), pz_n0 (show x + 1 < 2 ^ 31 by omega), nI_clamp (show x + 1 < 2 ^ 31 by omega), nI_clamp (show C < 2 ^ 31 by omega), pz_ge (show x < C by omega), pz_ge (show x + 1 < C by omega), or_self, jR_jN R, jR_jM R, jR_ln R, jR_lL R, if_false, e, hr, pz_bind, pz_10, jR_b R (jk_n (show c' < n by omega)), pk_m1]
    · refine ⟨upd f' (x + 1) (nI i), ?_, jIn_so hn hMl hi hc hS ⟨i0, i1, i2, i3⟩ (Or.inr fun c hcn e2 => ?_)⟩
      · simp only [F_X8_row_65, F_X8_row_70, F_X8_row_101, F_X8_row_110, h9, if_false, nI_pred, pz_n0 (show x < 2 ^ 31 by omega), nI_clamp (show x < 2 ^ 31 by omega), pz_n0 (show x + 1 < 2 ^ 31 by omega), nI_clamp (show x + 1 < 2 ^ 31 by omega), nI_clamp (show C < 2 ^ 31 by omega), pz_ge (show x < C by omega), pz_ge (show x + 1 < C by omega), or_self, jR_jN R, jR_jM R, jR_ln R, jR_lL R, if_false, e, hr, pz_bind, pz_00, if_true, jR_b R (jk_n hi), nI_1]
      · rw [show x + 1 - 1 = x from rfl, h3] at e2
        rw [← (nI_eq (by omega) (by omega)).mp e2]
        exact (zAh_tot hMl hi (show c' < n by omega) (by omega)).resolve_left ha
/-- row -/
theorem jrow_x (R : jR n L h0 m z) (hE : zEq n k m) (hMl : zMl n k) (hw : w ≤ 2) (hp : p < n) : ∃ f, F_X8_row z (nI p) (nI w) = some ((nI (zcnt (fun c => zCh k c p) n), f), 1, zcnt (fun c => zCh k c p) n) ∧ jSo n k w p (zcnt (fun c => zCh k c p) n) n f := by
  have hn := R.1
  have hC9 := zcnt_le (fun c => zCh k c p) n
  have loop : ∀ (d i : Nat) (f : Nat → Int32) (g : Nat), i + d = n → jSo n k w p (zcnt (fun c => zCh k c p) i) i f → d < g → ∃ f2, F_X8_row_26 z g (nI p) (nI w) (nI (zcnt (fun c => zCh k c p) i)) (nI n) (nI i) (nI (zcnt (fun c => zCh k c p) n)) f = some ((nI (zcnt (fun c => zCh k c p) n), f2), 0, 0) ∧ jSo n k w p (zcnt (fun c => zCh k c p) n) n f2 := by
    intro d
    induction d with
    | zero =>
      intro i f g hd hS hg
      obtain ⟨g, rfl⟩ : ∃ x, g = x + 1 := ⟨g - 1, by omega⟩
      obtain rfl : i = n := by omega
      exact ⟨f, by simp only [F_X8_row_26, F_X8_row_116, pz_cT (show i < 2 ^ 31 by omega), if_true], hS⟩
    | succ d ih =>
      intro i f g hd hS hg
      obtain ⟨g, rfl⟩ : ∃ x, g = x + 1 := ⟨g - 1, by omega⟩
      have hi : i < n := by omega
      have c := pz_cF hi (show n < 2 ^ 31 by omega)
      have e4 := jR_k4 R hE hi
      have e5 := jR_k5 R hE hi
      have b4 := (jR_c R).1 i hi
      rw [e4, e5] at b4
      have hti := zcnt_le (fun c => zCh k c p) i
      by_cases h : zCh k i p
      · have hup : zcnt (fun c => zCh k c p) (i + 1) ≤ zcnt (fun c => zCh k c p) n := by
          have := zcnt_up (A := fun c => zCh k c p) (i := i + 1) (n - (i + 1))
          rwa [show i + 1 + (n - (i + 1)) = n by omega] at this
        rw [zcnt_s1 (A := fun c => zCh k c p) h] at hup
        obtain ⟨f1, q1, q2⟩ := jrow_in (c26 := F_X8_row_26 z g) (v1 := nI p) (v6 := nI n) R hE hMl hw hi h (show zcnt (fun c => zCh k c p) i < zcnt (fun c => zCh k c p) n by omega) (by omega) hS (zcnt (fun c => zCh k c p) i) f kN ⟨Nat.le_refl _, fun j _ => rfl, fun j h1 h2 => by omega, fun j h1 h2 => by omega⟩ (by show _ < 4096; omega)
        rw [← zcnt_s1 (A := fun c => zCh k c p) h] at q1 q2
        obtain ⟨f2, r1, r2⟩ := ih (i + 1) f1 g (by omega) q2 (by omega)
        refine ⟨f2, ?_, r2⟩
        rw [← r1, ← q1]
        simp only [F_X8_row_26, F_X8_row_33, F_X8_row_49, F_X8_row_61, c, jR_jN R, jR_jM R, jR_ln R, jR_lL R, if_false, jR_ng R (hi), jR_cl R (hi), pz_ge (hi), or_self, if_false, jR_z4 R hi, e4, e5, jR_b R b4.1, jR_b R b4.2.1, jR_b R (jk_n hp)]
        by_cases h4 : k 4 i = nI p
        · rw [if_pos h4]
        · rw [if_neg h4, if_pos (h.resolve_left h4)]
      · obtain ⟨f2, r1, r2⟩ := ih (i + 1) f g (by omega) (by
          rw [zcnt_s0 (A := fun c => zCh k c p) h]
          refine ⟨fun j hj => ?_, hS.2.1, fun c hc hcp => ?_⟩
          · obtain ⟨c, c1, c2, c3⟩ := hS.1 j hj
            exact ⟨c, by omega, c2, c3⟩
          · refine hS.2.2 c ?_ hcp
            rcases Nat.lt_or_ge c i with h9 | h9
            · exact h9
            · obtain rfl : c = i := by omega
              exact absurd hcp h) (by omega)
        refine ⟨f2, ?_, r2⟩
        rw [← r1, zcnt_s0 (A := fun c => zCh k c p) h]
        simp only [F_X8_row_26, F_X8_row_33, F_X8_row_49, F_X8_row_58, F_X8_row_110, c, jR_jN R, jR_jM R, jR_ln R, jR_lL R, if_false, jR_ng R (hi), jR_cl R (hi), pz_ge (hi), or_self, if_false, jR_z4 R hi, e4, e5, jR_b R b4.1, jR_b R b4.2.1, jR_b R (jk_n hp), nI_1]
        rw [if_neg (fun q => h (Or.inl q)), if_neg (fun q => h (Or.inr q))]
  obtain ⟨f2, r1, r2⟩ := loop n 0 (fun _ => -1) kN (by omega) ⟨fun j hj => absurd hj (Nat.not_lt_zero _), fun j1 j2 h1 h2 => absurd h2 (Nat.not_lt_zero _), fun c hc => by omega⟩ (by show n < 4096; omega)
  refine ⟨f2, ?_, r2⟩
  have h8 : (nI (zcnt (fun c => zCh k c p) n) < 0 ∨ 100000000 < zcnt (fun c => zCh k c p) n) = False := eq_false (fun q => q.elim (nI_pos (by omega)) (by omega))
  simp only [F_X8_row, F_X8_row_0, jch_x R hE hp, pz_bind, nI_clamp (show zcnt (fun c => zCh k c p) n < 2 ^ 31 by omega), h8, if_false, jR_ln R]
  have r1' : F_X8_row_26 z kN (nI p) (nI w) 0 (nI n) 0 (nI (zcnt (fun c => zCh k c p) n)) (fun _ => -1) = some ((nI (zcnt (fun c => zCh k c p) n), f2), 0, 0) := r1
  rw [r1']
  rfl
/-! the first of a line -/
def jLv (n : Nat) (k z : kS) : Prop := ∀ c, c < n → (z (4 * c + 1) 3 = -1 ∧ k 29 c = -1) ∨ ((∃ t, t < 2 ^ 30 ∧ z (4 * c + 1) 3 = nI t) ∧ k 29 c ≠ -1)
theorem jfi_m {d : Nat} {v2 v3 : Int32} : F_X8_first z (d + 1) (-1) v2 v3 = some (-1, 0, 0) := by
  simp only [F_X8_first, F_X8_first_0, F_X8_first_4, if_true]
theorem zCh_lt (hn : n ≤ 40) (hP : zPar n k) (hq : q < n) (hp : p < n) (h : zCh k q p) : p < q := by
  rcases hP q hq with ⟨h4, h5⟩ | ⟨x, y, hx, hy, h4, h5⟩
  · rcases h with h | h
    · rw [h4] at h; exact absurd h.symm (pz_m1 (by omega))
    · rw [h5] at h; exact absurd h.symm (pz_m1 (by omega))
  · rcases h with h | h
    · rw [h4, nI_eq (by omega) (by omega)] at h; omega
    · rw [h5, nI_eq (by omega) (by omega)] at h; omega
theorem jfi_x (R : jR n L h0 m z) (hK : zKin n k m) (hLv : jLv n k z) (hr : r < n) (hw : w ≤ 2) (hT : zTabF n k 15 r w f) (hV : zVal n k 15 r f) : ∀ d p, p < n → n < d + p → ∃ c s, F_X8_first z d (nI p) (nI w) (nI r) = some (f p, c, s) ∧ c ≤ 1 + jps k n d p ∧ s ≤ jps k n d p
  | 0, p, hp, hd => by omega
  | d + 1, p, hp, hd => by
    have hn := R.1
    have hE := hK.2.2.2.1
    have hMl := hK.2.2.2.2.1
    have hP := hK.2.2.2.2.2.1
    obtain ⟨g, hg, s1, s2, s3⟩ := jrow_x R hE hMl hw hp
    have hC := zcnt_le (fun c => zCh k c p) n
    generalize hCe : zcnt (fun c => zCh k c p) n = C at hg s1 s2 s3 hC
    have tv : ∀ c, c < n → zTold k 15 r f c = -1 ∨ ∃ x, x < n ∧ zTold k 15 r f c = nI x := by
      intro c hc
      unfold zTold
      by_cases h : k 29 c = -1 ∧ c ≠ r
      · rw [if_pos h]; exact Or.inr ⟨c, hc, rfl⟩
      · rw [if_neg h]
        rcases hV c hc with e | ⟨x, hx, -, e, -⟩
        · exact Or.inl e
        · exact Or.inr ⟨x, hx, e⟩
    /- one step of the loop -/
    have step : ∀ (j c : Nat) (u : Nat), j < C → c < n → zCh k c p → g j = nI c → ∃ uc us, uc ≤ 1 + jps k n d c ∧ us ≤ jps k n d c ∧ F_X8_first_22 (F_X8_first z d) z (u + 1) (nI w) (nI r) (nI C) (nI j) (nI C) g = (if zTold k 15 r f c = -1 then kadd uc us (F_X8_first_22 (F_X8_first z d) z u (nI w) (nI r) (nI C) (nI (j + 1)) (nI C) g) else some (zTold k 15 r f c, uc, us)) := by
      intro j c u hj hcn hcp hgj
      have hlt := zCh_lt hn hP hcn hp hcp
      have cc := pz_cF hj (show C < 2 ^ 31 by omega)
      obtain ⟨c1, u1, i1, i2, i3⟩ := jfi_x R hK hLv hr hw hT hV d c hcn (by omega)
      have t63 : ∀ (x : Int32), F_X8_first_63 (F_X8_first z d) z (F_X8_first_22 (F_X8_first z d) z u) x (nI w) (nI r) (nI C) (nI j) (nI C) g = if x = -1 then F_X8_first_22 (F_X8_first z d) z u (nI w) (nI r) (nI C) (nI (j + 1)) (nI C) g else some (x, 0, 0) := by
        intro x
        simp only [F_X8_first_63, F_X8_first_73, F_X8_first_70, nI_1]
      have t55 : F_X8_first_55 (F_X8_first z d) z (F_X8_first_22 (F_X8_first z d) z u) (nI w) (nI r) (nI C) (nI j) (nI c) (nI C) g = if f c = -1 then kadd c1 u1 (F_X8_first_22 (F_X8_first z d) z u (nI w) (nI r) (nI C) (nI (j + 1)) (nI C) g) else some (f c, c1, u1) := by
        simp only [F_X8_first_55, i1, pz_bind, t63]
        by_cases h : f c = -1
        · rw [if_pos h, if_pos h]
        · rw [if_neg h, if_neg h]; rfl
      have nc := pz_m1 (show c < 2 ^ 31 by omega)
      rcases hLv c hcn with ⟨e1, e2⟩ | ⟨⟨t, ht, e1⟩, e2⟩
      · have h0 : ((0 : Int32) ≤ -1) = False := eq_false (by decide)
        by_cases hcr : c = r
        · refine ⟨c1, u1, i2, i3, ?_⟩
          have e9 : zTold k 15 r f c = f c := if_neg (fun q => q.2 hcr)
          rw [e9, ← t55]
          simp only [F_X8_first_22, F_X8_first_29, F_X8_first_44, cc, if_false, pz_n0 (show j < 2 ^ 31 by omega), nI_clamp (show j < 2 ^ 31 by omega), nI_clamp (show C < 2 ^ 31 by omega), pz_ge hj, or_self, hgj, jR_jN R, jR_jM R, jR_ln R, jR_lL R, if_false, jR_ng R (hcn), jR_cl R (hcn), pz_ge (hcn), or_self, if_false, e1, h0, jR_b R (jk_n hcn), jR_b R (jk_n hr), pz_eq (show c < 2 ^ 31 by omega) (show r < 2 ^ 31 by omega), if_pos hcr]
        · refine ⟨0, 0, by omega, by omega, ?_⟩
          have e9 : zTold k 15 r f c = nI c := if_pos ⟨e2, hcr⟩
          rw [e9, if_neg nc]
          simp only [F_X8_first_22, F_X8_first_29, F_X8_first_44, F_X8_first_50, t63, cc, if_false, pz_n0 (show j < 2 ^ 31 by omega), nI_clamp (show j < 2 ^ 31 by omega), nI_clamp (show C < 2 ^ 31 by omega), pz_ge hj, or_self, hgj, jR_jN R, jR_jM R, jR_ln R, jR_lL R, if_false, jR_ng R (hcn), jR_cl R (hcn), pz_ge (hcn), or_self, if_false, e1, h0, jR_b R (jk_n hcn), jR_b R (jk_n hr), pz_eq (show c < 2 ^ 31 by omega) (show r < 2 ^ 31 by omega), if_neg hcr, if_neg nc]
      · have h0 : ((0 : Int32) ≤ nI t) = True := eq_true (nI_pos' (by omega))
        refine ⟨c1, u1, i2, i3, ?_⟩
        have e9 : zTold k 15 r f c = f c := if_neg (fun q => e2 q.1)
        rw [e9, ← t55]
        simp only [F_X8_first_22, F_X8_first_29, cc, if_false, pz_n0 (show j < 2 ^ 31 by omega), nI_clamp (show j < 2 ^ 31 by omega), nI_clamp (show C < 2 ^ 31 by omega), pz_ge hj, or_self, hgj, jR_jN R, jR_jM R, jR_ln R, jR_lL R, if_false, jR_ng R (hcn), jR_cl R (hcn), pz_ge (hcn), or_self, if_false, e1, h0, if_true]
    have loop : ∀ (e j : Nat) (u : Nat), j + e = C → e < u → (∀ i, i < j → ∀ c, c < n → g i = nI c → zTold k 15 r f c = -1) → ∃ uc us, F_X8_first_22 (F_X8_first z d) z u (nI w) (nI r) (nI C) (nI j) (nI C) g = some (f p, uc, us) ∧ uc ≤ jsm (fun c => zCh k c p ∧ ∀ i, i < j → g i ≠ nI c) (fun c => 1 + jps k n d c) n ∧ us ≤ jsm (fun c => zCh k c p ∧ ∀ i, i < j → g i ≠ nI c) (fun c => jps k n d c) n := by
      intro e
      induction e with
      | zero =>
        intro j u hj hu hI
        obtain ⟨u, rfl⟩ : ∃ x, u = x + 1 := ⟨u - 1, by omega⟩
        obtain rfl : j = C := by omega
        refine ⟨0, 0, ?_, Nat.zero_le _, Nat.zero_le _⟩
        have e9 : f p = -1 := by
          rcases hT p hp with ⟨h, -⟩ | ⟨c, c1, c2, c3, -⟩
          · exact h
          · obtain ⟨i, i1, i2⟩ := s3 c c1 c2
            exact absurd (hI i i1 c c1 i2) c3
        simp only [F_X8_first_22, F_X8_first_79, pz_cT (show j < 2 ^ 31 by omega), if_true, e9]
      | succ e ih =>
        intro j u hj hu hI
        obtain ⟨u, rfl⟩ : ∃ x, u = x + 1 := ⟨u - 1, by omega⟩
        obtain ⟨c, c1, c2, c3⟩ := s1 j (by omega)
        obtain ⟨uc, us, b1, b2, b3⟩ := step j c u (by omega) c1 c2 c3
        have fresh : ∀ i, i < j → g i ≠ nI c := by
          intro i hi e5
          exact zAh_ir hMl c1 (s2 i j hi (by omega) c c c1 c1 e5 c3)
        have P0 : zCh k c p ∧ ∀ i, i < j → g i ≠ nI c := ⟨c2, fresh⟩
        have cg : ∀ (h : Nat → Nat), jsm (fun x => (zCh k x p ∧ ∀ i, i < j → g i ≠ nI x) ∧ x ≠ c) h n = jsm (fun x => zCh k x p ∧ ∀ i, i < j + 1 → g i ≠ nI x) h n := by
          intro h
          refine jsm_cg n (fun x hx => ⟨fun q => ⟨q.1.1, fun i hi => ?_⟩, fun q => ⟨⟨q.1, fun i hi => q.2 i (by omega)⟩, fun e5 => ?_⟩⟩) (fun _ _ _ => rfl)
          · by_cases hij : i = j
            · subst hij
              rw [c3]
              intro e5
              exact q.2 ((nI_eq (by omega) (by omega)).mp e5).symm
            · exact q.1.2 i (by omega)
          · subst e5; exact q.2 j (by omega) c3
        have p1 := jsm_pull (A := fun c => zCh k c p ∧ ∀ i, i < j → g i ≠ nI c) (h := fun c => 1 + jps k n d c) P0 n c1
        have p2 := jsm_pull (A := fun c => zCh k c p ∧ ∀ i, i < j → g i ≠ nI c) (h := fun c => jps k n d c) P0 n c1
        rw [cg] at p1 p2
        have p1 : 1 + jps k n d c + jsm (fun x => zCh k x p ∧ ∀ i, i < j + 1 → g i ≠ nI x) (fun c => 1 + jps k n d c) n = jsm (fun c => zCh k c p ∧ ∀ i, i < j → g i ≠ nI c) (fun c => 1 + jps k n d c) n := p1
        have p2 : jps k n d c + jsm (fun x => zCh k x p ∧ ∀ i, i < j + 1 → g i ≠ nI x) (fun c => jps k n d c) n = jsm (fun c => zCh k c p ∧ ∀ i, i < j → g i ≠ nI c) (fun c => jps k n d c) n := p2
        by_cases ht : zTold k 15 r f c = -1
        · obtain ⟨uc2, us2, l1, l2, l3⟩ := ih (j + 1) u (by omega) (by omega) (fun i hi x hx e5 => by
            by_cases hij : i = j
            · subst hij
              rw [c3] at e5
              rw [← (nI_eq (by omega) (by omega)).mp e5]
              exact ht
            · exact hI i (by omega) x hx e5)
          refine ⟨uc + uc2, us + us2, ?_, by omega, by omega⟩
          rw [b3, if_pos ht, l1]
          rfl
        · refine ⟨uc, us, ?_, by omega, by omega⟩
          rw [b3, if_neg ht]
          rcases hT p hp with ⟨-, h⟩ | ⟨c', q1, q2, q3, q4, q5⟩
          · exact absurd (h c c1 c2) ht
          · by_cases ecc : c = c'
            · subst ecc; rw [q4]
            · exfalso
              have a1 := q5 c c1 c2 ht ecc
              obtain ⟨i, i1, i2⟩ := s3 c' q1 q2
              rcases Nat.lt_trichotomy i j with h | h | h
              · exact q3 (hI i h c' q1 i2)
              · subst h
                rw [c3] at i2
                exact ecc ((nI_eq (by omega) (by omega)).mp i2)
              · exact zAh_as hMl q1 c1 a1 (s2 j i h i1 c c' c1 q1 c3 i2)
    obtain ⟨uc, us, l1, l2, l3⟩ := loop C 0 kN (by omega) (by show C < 4096; omega) (fun i hi => by omega)
    have cg0 : ∀ (h : Nat → Nat), jsm (fun c => zCh k c p ∧ ∀ i, i < 0 → g i ≠ nI c) h n = jsm (fun c => zCh k c p) h n := fun h => jsm_cg n (fun x hx => ⟨fun q => q.1, fun q => ⟨q, fun i hi => absurd hi (Nat.not_lt_zero _)⟩⟩) (fun _ _ _ => rfl)
    rw [cg0] at l2 l3
    have ad := jsm_add (A := fun c => zCh k c p) (h := fun c => jps k n d c) n
    rw [hCe] at ad
    refine ⟨1 + uc, C + us, ?_, ?_, ?_⟩
    · have l1' : F_X8_first_22 (F_X8_first z d) z kN (nI w) (nI r) (nI C) 0 (nI C) g = some (f p, uc, us) := l1
      simp only [F_X8_first, F_X8_first_0, F_X8_first_6, pz_m1' (show p < 2 ^ 31 by omega), if_false, hg, pz_bind, nI_clamp (show C < 2 ^ 31 by omega), l1']
      rfl
    · show 1 + uc ≤ 1 + jsm (fun c => zCh k c p) (fun c => 1 + jps k n d c) n
      omega
    · show C + us ≤ jsm (fun c => zCh k c p) (fun c => 1 + jps k n d c) n
      omega
end ZS
