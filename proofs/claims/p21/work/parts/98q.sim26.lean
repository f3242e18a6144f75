/-! ACT: a land's law is set; what all turns do -/
noncomputable def jAl (n : Nat) (m : kS) : Nat := zcnt (fun p => m 8 (9 * p + 2) = 1) n
/-- the weights of all who are born here: no more ways than these lead down from one -/
noncomputable def jWb (n : Nat) (m : kS) : Nat := jsm (fun q => m 8 (9 * q + 3) ≠ -1) (fun q => 2 ^ ((m 8 (9 * q + 1)).toInt.toNat / 16 - 1)) n
/-- the parents of one aren't near kin -/
def jPr (n : Nat) (k : kS) : Prop := ∀ q a b, q < n → a < n → b < n → k 4 q = nI a → k 5 q = nI b → ∀ t, t ≤ 2 → k (69 + a) b ≠ nI t
section ZS
variable {n L h0 H c p q w x r B y y' l ag Y s A U E : Nat} {k k' m m' z z' mc : kS} {v v1 v2 v3 h a b t gv : Int32} {f : Nat → Int32} {P : Nat → Int32}
theorem jact_la_l (R : jQ n L h0 P m z) (hl : l < L) : ∀ (d i g : Nat), i + d = l → d < g → F_L_act_731 g (nI l) t (nI i) k z = F_L_act_749 (nI l) t (nI l) k z
  | 0, i, g, hd, hg => by
    have hL := R.2.1
    obtain ⟨g, rfl⟩ : ∃ x, g = x + 1 := ⟨g - 1, by omega⟩
    obtain rfl : i = l := by omega
    simp only [F_L_act_731, jR_jN R, jR_jM R, jR_ln R, jR_lL R, if_false, jR_ngL R (hl), jR_clL R (hl), pz_ge (hl), or_self, if_false, jR_z8 R hl, jR_bl R (jk_n hl), if_true]
  | d + 1, i, g, hd, hg => by
    have hL := R.2.1
    obtain ⟨g, rfl⟩ : ∃ x, g = x + 1 := ⟨g - 1, by omega⟩
    have hi : i < L := by omega
    have ne : (nI i = nI l) = False := by rw [pz_eq (by omega) (by omega)]; exact eq_false (by omega)
    have ih := jact_la_l R hl d (i + 1) g (by omega) (by omega)
    rw [← ih]
    simp only [F_L_act_731, F_L_act_743, jR_jN R, jR_jM R, jR_ln R, jR_lL R, if_false, jR_ngL R (hi), jR_clL R (hi), pz_ge (hi), or_self, if_false, jR_z8 R hi, jR_bl R (jk_n hi), jR_bl R (jk_n hl), ne, nI_1]
def jLaO (n L h0 c y : Nat) (k m z : kS) (o : Option ((Int32 × kS × kS) × Nat × Nat)) : Prop := o = some ((1, k, z), 0, 0) ∨ ∃ k' m' z', o = some ((1, k', z'), 4, 24) ∧ jSt n L h0 (4100 * (c + 1)) y k' m' z' ∧ (∀ q, q ≠ 7 → q ≠ 9 → m' q = m q) ∧ (∀ l', m' 9 (4 * l') = m 9 (4 * l') ∧ m' 9 (4 * l' + 2) = m 9 (4 * l' + 2) ∧ m' 9 (4 * l' + 3) = m 9 (4 * l' + 3))
theorem jact_law (S : jSt n L h0 (4100 * c) y k m z) (hy : y ≤ 100 * c) (hc : c < 600) (hv : jk L t) : jLaO n L h0 c y k m z (F_L_act_702 v t k z) := by
  have R := S.2.2.2.2.1
  have hL := R.2.1
  rcases hv with rfl | ⟨l, hl, rfl⟩
  · refine Or.inl ?_
    simp only [F_L_act_702, if_true, F_L_act_707, pz_10, pz_01, pz_00, pz_11, or_true, true_or, not_true_eq_false, if_false, if_true]
  · obtain ⟨w, hw, ew⟩ := jbl_x (d := 4) (v >>> (2 &&& 31)) (by decide) (by decide)
    have ew : ∀ z, F_L_below z (v >>> (2 &&& 31)) 4 = some (nI w) := ew
    obtain ⟨k', m', g1, g2, g3, g4, -, -⟩ := jlaw_st S hy hc hl (show w ≤ 3 by omega)
    have R' := g2.2.2.2.2.1
    have el : z (4 * l + 2) 1 = m 9 (4 * l + 1) := (jR_lr R hl).2.1
    have cl : (nI l = -1) = False := pz_m1' (by omega)
    refine Or.inr ⟨k', m', _, ?_, g2, g3, g4⟩
    have e1 : F_L_act_731 kN (nI l) (m 9 (4 * l + 1)) 0 k (kst z (4 * l + 2) (upd (z (4 * l + 2)) 1 (nI w))) = _ := jact_la_l (t := m 9 (4 * l + 1)) (k := k) R' hl l 0 kN (by omega) (by show l < 4096; omega)
    have e2 : F_L_act_749 (nI l) (m 9 (4 * l + 1)) (nI l) k (kst z (4 * l + 2) (upd (z (4 * l + 2)) 1 (nI w))) = some ((1, k', kst z (4 * l + 2) (upd (z (4 * l + 2)) 1 (nI w))), 4, 24) := by
      have R := R'
      simp only [F_L_act_749, jR_jN R, jR_jM R, jR_ln R, jR_lL R, if_false, jR_ngL R (hl), jR_clL R (hl), pz_ge (hl), or_self, if_false, kst_eq, pz_us, g1, pz_bind, pz_nz, not_true_eq_false, if_true, F_L_act_765, F_L_act_770, pz_10, pz_01, pz_00, pz_11, or_true, true_or, not_true_eq_false, if_false, if_true, pz_kadds, Nat.add_zero]
    have e0 : F_L_act_702 v (nI l) k z = F_L_act_731 kN (nI l) (m 9 (4 * l + 1)) 0 k (kst z (4 * l + 2) (upd (z (4 * l + 2)) 1 (nI w))) := by
      simp only [F_L_act_702, cl, if_false, F_L_act_709, jR_jN R, jR_jM R, jR_ln R, jR_lL R, if_false, jR_ngL R (hl), jR_clL R (hl), pz_ge (hl), or_self, if_false, ew, pz_bind, el]
    rw [e0, e1, e2]
theorem jAl_k (h : zLiv n 15 k m) : zAl 15 n k = jAl n m := zcnt_congr n (fun c hc => by
  rcases h c hc with ⟨a, b⟩ | ⟨a, b⟩
  · exact ⟨fun _ => b, fun _ => a⟩
  · exact ⟨fun q => absurd q a, fun q => absurd (b.symm.trans q) (by decide)⟩)
theorem jAl_cg (h : ∀ p, p < n → m' 8 (9 * p + 2) = m 8 (9 * p + 2)) : jAl n m' = jAl n m := zcnt_congr n (fun c hc => ⟨fun q => (h c hc).symm.trans q, fun q => (h c hc).trans q⟩)
theorem jWb_cg (h1 : ∀ p, p < n → m' 8 (9 * p + 1) = m 8 (9 * p + 1)) (h3 : ∀ p, p < n → m' 8 (9 * p + 3) = m 8 (9 * p + 3)) : jWb n m' = jWb n m := jsm_cg n (fun c hc => by
  show (m' 8 (9 * c + 3) ≠ -1) ↔ (m 8 (9 * c + 3) ≠ -1)
  rw [h3 c hc]) (fun c hc _ => by
  show 2 ^ ((m' 8 (9 * c + 1)).toInt.toNat / 16 - 1) = 2 ^ ((m 8 (9 * c + 1)).toInt.toNat / 16 - 1)
  rw [h1 c hc])
theorem jAl_new (h : ∀ p w, p < n → w < 9 → m' 8 (9 * p + w) = m 8 (9 * p + w)) (h2 : m' 8 (9 * n + 2) = 1) : jAl (n + 1) m' = jAl n m + 1 := by
  have e : jAl (n + 1) m' = jAl n m' + 1 := zcnt_s1 (A := fun p => m' 8 (9 * p + 2) = 1) h2
  rw [e, jAl_cg (fun p hp => h p 2 hp (by decide))]
theorem jWb_new0 (h : ∀ p w, p < n → w < 9 → m' 8 (9 * p + w) = m 8 (9 * p + w)) (h2 : m' 8 (9 * n + 3) = -1) : jWb (n + 1) m' = jWb n m := by
  have e : jWb (n + 1) m' = jWb n m' := jsm_0 (A := fun q => m' 8 (9 * q + 3) ≠ -1) (fun g => g h2)
  rw [e, jWb_cg (fun p hp => h p 1 hp (by decide)) (fun p hp => h p 3 hp (by decide))]
theorem jWb_new1 (h : ∀ p w, p < n → w < 9 → m' 8 (9 * p + w) = m 8 (9 * p + w)) (h2 : m' 8 (9 * n + 3) ≠ -1) (h1 : m' 8 (9 * n + 1) = nI y) (hy : y < 2 ^ 30) : jWb (n + 1) m' = jWb n m + 2 ^ (y / 16 - 1) := by
  have e : jWb (n + 1) m' = jWb n m' + 2 ^ ((m' 8 (9 * n + 1)).toInt.toNat / 16 - 1) := jsm_1 (A := fun q => m' 8 (9 * q + 3) ≠ -1) h2
  rw [e, jWb_cg (fun p hp => h p 1 hp (by decide)) (fun p hp => h p 3 hp (by decide)), h1, nI_toInt (by omega), Int.toNat_natCast]
theorem jPr_cg (hK : zKin n k m) (hK' : zKin n k' m') (h3 : ∀ p, p < n → m' 8 (9 * p + 3) = m 8 (9 * p + 3)) (h4 : ∀ p, p < n → m' 8 (9 * p + 4) = m 8 (9 * p + 4)) (h : jPr n k) : jPr n k' := by
  intro q a b hq ha hb e4 e5 t ht
  rw [jSteps_m hK hK' h3 h4 a b ha hb]
  refine h q a b hq ha hb ?_ ?_ t ht
  · rw [← (hK.2.2.2.1 q hq).2.2.1, ← h3 q hq, (hK'.2.2.2.1 q hq).2.2.1, e4]
  · rw [← (hK.2.2.2.1 q hq).2.2.2, ← h4 q hq, (hK'.2.2.2.1 q hq).2.2.2, e5]
theorem jPr_new (hK : zKin n k m) (hK' : zKin (n + 1) k' m') (ho : ∀ p w, p < n → w < 9 → m' 8 (9 * p + w) = m 8 (9 * p + w)) (hnew : ∀ a b, a < n → b < n → m' 8 (9 * n + 3) = nI a → m' 8 (9 * n + 4) = nI b → ∀ t, t ≤ 2 → k (69 + a) b ≠ nI t) (h : jPr n k) : jPr (n + 1) k' := by
  intro q a b hq ha hb e4 e5 t ht
  have hn := hK'.1
  have par : ∀ p, p < n → k' 4 p = k 4 p ∧ k' 5 p = k 5 p := fun p hp => ⟨by rw [← (hK'.2.2.2.1 p (by omega)).2.2.1, ho p 3 hp (by decide), (hK.2.2.2.1 p hp).2.2.1], by rw [← (hK'.2.2.2.1 p (by omega)).2.2.2, ho p 4 hp (by decide), (hK.2.2.2.1 p hp).2.2.2]⟩
  have low : a < q ∧ b < q := by
    rcases hK'.2.2.2.2.2.1 q hq with ⟨g4, g5⟩ | ⟨x, y, hx, hy, g4, g5⟩
    · rw [g4] at e4; exact absurd e4.symm (pz_m1 (by omega))
    · rw [g4, nI_eq (by omega) (by omega)] at e4
      rw [g5, nI_eq (by omega) (by omega)] at e5
      omega
  have tab : k' (69 + a) b = k (69 + a) b := zSteps_un hn hK.2.2.2.2.2.2 hK'.2.2.2.2.2.2 (by omega) par (by omega) (by omega)
  rw [tab]
  by_cases hqn : q = n
  · subst hqn
    exact hnew a b (by omega) (by omega) ((hK'.2.2.2.1 q hq).2.2.1.trans e4) ((hK'.2.2.2.1 q hq).2.2.2.trans e5) t ht
  · exact h q a b (by omega) (by omega) (by omega) ((par q (by omega)).1.symm.trans e4) ((par q (by omega)).2.symm.trans e5) t ht
/-- how much a turn adds, and takes -/
def jGw (n L h0 y n' L' h1 c1 s1 : Nat) (k m m' : kS) : Prop := n ≤ n' ∧ L ≤ L' ∧ n' + L' ≤ n + L + 1 ∧ (n < 4 → n' = n + 1) ∧ h1 + 12 * jAl n' m' ≤ h0 + 12 * jAl n m + 12 ∧ ((c1 ≤ 8 ∧ s1 ≤ h0 + 80 ∧ n + jAl n' m' ≤ n' + jAl n m) ∨ (c1 ≤ 4 + jDc L (jmx k n n) ∧ s1 ≤ 24 + jDs L (jmx k n n) ∧ n' = n ∧ L' = L ∧ jAl n' m' + 1 ≤ jAl n m)) ∧ jWb n' m' ≤ jWb n m + (if n < 4 then 0 else 2 ^ (y / 16 - 1))
/-- which lands a turn hands over -/
def jLan (n L : Nat) (k m m' : kS) (how : Nat) : Prop := (∀ l, l < L → m' 9 (4 * l + 2) = m 9 (4 * l + 2)) ∨ ((how = 5 ∨ how = 6 ∨ how = 7 ∨ how = 9) ∧ ∃ l g, l < L ∧ g < n ∧ m 9 (4 * l + 2) ≠ -1 ∧ m 9 (4 * l + 2) ≠ nI g ∧ jHd m m' l (nI g) ∧ ∀ l', l' < L → l' ≠ l → m' 9 (4 * l' + 2) = m 9 (4 * l' + 2)) ∨ (how = 10 ∧ ∃ r, r < n ∧ ∀ l, l < L → (m 9 (4 * l + 2) = nI r → ∃ x, jHV k m r l x ∧ jHd m m' l x) ∧ (m 9 (4 * l + 2) ≠ nI r → m' 9 (4 * l + 2) = m 9 (4 * l + 2)))
theorem jGw_rf (h : ¬ n < 4) : jGw n L h0 y n L h0 0 0 k m m := ⟨Nat.le_refl _, Nat.le_refl _, by omega, fun q => absurd q h, by omega, Or.inl ⟨by omega, by omega, by omega⟩, Nat.le_add_right _ _⟩
def jActO (n L h0 c y how : Nat) (k m : kS) (o : Option ((Int32 × kS × kS) × Nat × Nat)) : Prop := ∃ n' L' h1 k' m' z' c1 s1, o = some ((1, k', z'), c1, s1) ∧ jSt n' L' h1 (4100 * (c + 1)) y k' m' z' ∧ jGw n L h0 y n' L' h1 c1 s1 k m m' ∧ jLan n L k m m' how ∧ (jPr n k → jPr n' k')
theorem jActO_rf {how : Nat} {o : Option ((Int32 × kS × kS) × Nat × Nat)} (S : jSt n L h0 (4100 * c) y k m z) (h : ¬ n < 4) (ho : o = some ((1, k, z), 0, 0)) : jActO n L h0 c y how k m o := ⟨n, L, h0, k, m, z, 0, 0, ho, jSt_up S (by omega), jGw_rf h, Or.inl fun _ _ => rfl, id⟩
end ZS
