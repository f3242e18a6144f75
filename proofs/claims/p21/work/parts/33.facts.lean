/-! WHAT IS TOLD of a person, of a land, and of all -/
section ZF
variable {n p q a b c d e j x r L w l y Y : Nat} {k k1 k0 m m1 m' : kS} {v t : Int32} {B P : Nat}
theorem pz_e4 {w : Nat} (h : w < 2 ^ 31) : (nI w = 4) = (w = 4) := pz_eq (b := 4) h (by decide)
theorem pz_e5 {w : Nat} (h : w < 2 ^ 31) : (nI w = 5) = (w = 5) := pz_eq (b := 5) h (by decide)
theorem pz_e6 {w : Nat} (h : w < 2 ^ 31) : (nI w = 6) = (w = 6) := pz_eq (b := 6) h (by decide)
theorem pz_e7 {w : Nat} (h : w < 2 ^ 31) : (nI w = 7) = (w = 7) := pz_eq (b := 7) h (by decide)
theorem pz_e8 {w : Nat} (h : w < 2 ^ 31) : (nI w = 8) = (w = 8) := pz_eq (b := 8) h (by decide)
theorem pz_e9 {w : Nat} (h : w < 2 ^ 31) : (nI w = 9) = (w = 9) := pz_eq (b := 9) h (by decide)
def sel10 {α : Type} (w : Nat) (a0 a1 a2 a3 a4 a5 a6 a7 a8 a9 : α) : α := if w = 0 then a0 else if w = 1 then a1 else if w = 2 then a2 else if w = 3 then a3 else if w = 4 then a4 else if w = 5 then a5 else if w = 6 then a6 else if w = 7 then a7 else if w = 8 then a8 else a9
theorem pf_s (hw : w < 10) : F_X4_personFact B k v (nI w) = sel10 w (F_X4_personFact_52 B k v) (F_X4_personFact_70 B k v) (F_X4_personFact_80 B k v) (F_X4_personFact_94 B k v) (F_X4_personFact_104 B k v) (F_X4_personFact_114 B k v) (F_X4_personFact_123 B k v) (F_X4_personFact_132 B k v) (F_X4_personFact_141 B k v) (F_X4_personFact_150 B k v) := by
  simp only [F_X4_personFact, F_X4_personFact_0, pz_e0 (show w < 2 ^ 31 by omega), pz_e1 (show w < 2 ^ 31 by omega), pz_e2 (show w < 2 ^ 31 by omega), pz_e3 (show w < 2 ^ 31 by omega), pz_e4 (show w < 2 ^ 31 by omega), pz_e5 (show w < 2 ^ 31 by omega), pz_e6 (show w < 2 ^ 31 by omega), pz_e7 (show w < 2 ^ 31 by omega), pz_e8 (show w < 2 ^ 31 by omega)]
  rfl
theorem pt_s (hw : w < 10) : F_X6_personTold m v (nI w) = sel10 w (F_X6_personTold_56 m v) (F_X6_personTold_154 m v (nI w)) (F_X6_personTold_154 m v (nI w)) (F_X6_personTold_154 m v (nI w)) (F_X6_personTold_154 m v (nI w)) (F_X6_personTold_154 m v (nI w)) (F_X6_personTold_63 m v 0) (F_X6_personTold_101 m v 0) (F_X6_personTold_140 m v) (F_X6_personTold_146 m v) := by
  simp only [F_X6_personTold, F_X6_personTold_0, pz_e0 (show w < 2 ^ 31 by omega), pz_e1 (show w < 2 ^ 31 by omega), pz_e2 (show w < 2 ^ 31 by omega), pz_e3 (show w < 2 ^ 31 by omega), pz_e4 (show w < 2 ^ 31 by omega), pz_e5 (show w < 2 ^ 31 by omega), pz_e6 (show w < 2 ^ 31 by omega), pz_e7 (show w < 2 ^ 31 by omega), pz_e8 (show w < 2 ^ 31 by omega), pz_e9 (show w < 2 ^ 31 by omega)]
  unfold sel10
  by_cases h0 : w = 0
  · rw [if_pos h0, if_pos h0]
  rw [if_neg h0, if_neg h0]
  by_cases h1 : w = 1
  · rw [if_pos h1, if_pos h1]
  rw [if_neg h1, if_neg h1]
  by_cases h2 : w = 2
  · rw [if_pos h2, if_pos h2]
  rw [if_neg h2, if_neg h2]
  by_cases h3 : w = 3
  · rw [if_pos h3, if_pos h3]
  rw [if_neg h3, if_neg h3]
  by_cases h4 : w = 4
  · rw [if_pos h4, if_pos h4]
  rw [if_neg h4, if_neg h4]
  by_cases h5 : w = 5
  · rw [if_pos h5, if_pos h5]
  rw [if_neg h5, if_neg h5]
  by_cases h6 : w = 6
  · rw [if_pos h6, if_pos h6]
  rw [if_neg h6, if_neg h6]
  by_cases h7 : w = 7
  · rw [if_pos h7, if_pos h7]
  rw [if_neg h7, if_neg h7]
  by_cases h8 : w = 8
  · rw [if_pos h8, if_pos h8]
  rw [if_neg h8, if_neg h8]
  rw [if_pos (show w = 9 by omega)]
theorem sel_x {α : Type} {P : α → α → Prop} (hw : w < 10) {a0 a1 a2 a3 a4 a5 a6 a7 a8 a9 b0 b1 b2 b3 b4 b5 b6 b7 b8 b9 : α} (h0 : w = 0 → P a0 b0) (h1 : w = 1 → P a1 b1) (h2 : w = 2 → P a2 b2) (h3 : w = 3 → P a3 b3) (h4 : w = 4 → P a4 b4) (h5 : w = 5 → P a5 b5) (h6 : w = 6 → P a6 b6) (h7 : w = 7 → P a7 b7) (h8 : w = 8 → P a8 b8) (h9 : w = 9 → P a9 b9) : P (sel10 w a0 a1 a2 a3 a4 a5 a6 a7 a8 a9) (sel10 w b0 b1 b2 b3 b4 b5 b6 b7 b8 b9) := by
  have : w = 0 ∨ w = 1 ∨ w = 2 ∨ w = 3 ∨ w = 4 ∨ w = 5 ∨ w = 6 ∨ w = 7 ∨ w = 8 ∨ w = 9 := by omega
  rcases this with rfl | rfl | rfl | rfl | rfl | rfl | rfl | rfl | rfl | rfl
  · exact h0 rfl
  · exact h1 rfl
  · exact h2 rfl
  · exact h3 rfl
  · exact h4 rfl
  · exact h5 rfl
  · exact h6 rfl
  · exact h7 rfl
  · exact h8 rfl
  · exact h9 rfl
def zTwo (a b : Option Int32) : Prop := ∃ r, a = some r ∧ b = some r
theorem tw_worth {hf : Nat → Nat} (hR : zRel 15 n L k m) (hX : zXl L hf k m) (v : Int32) : ∃ t, t ≤ 600 ∧ F_X1_worthUnder 15 k v = some (nI t) ∧ F_X6_worthOf m v = some (nI t) := by
  obtain ⟨w1, w2, w3, w4, w5⟩ := hR.2.2.1
  exact wo_x w1 w2 w3 (fun l hl => (w5 l hl).2.1) (fun l hl => ⟨(hX.1 l hl).1, (hX.1 l hl).2.1⟩)
theorem tw_num (hR : zRel B n L k m) (v : Int32) : ∃ r, F_X1_numberUnder B k v = some r ∧ F_X6_personTold_101 m v 0 = some r := by
  obtain ⟨w1, w2, w3, w4, w5⟩ := hR.2.2.1
  exact nu_x w1 w2 w3 (fun l hl => (w5 l hl).2.1)
theorem pf_x {hf : Nat → Nat} (hR : zRel 15 n L k m) (hX : zXl L hf k m) (hp : p < n) (hw : w < 10) : zTwo (F_X4_personFact 15 k (nI p) (nI w)) (F_X6_personTold m (nI p) (nI w)) := by
  rw [pf_s hw, pt_s hw]
  have hn := hR.1.1
  have p40 : p < 40 := by omega
  obtain ⟨e1, e2, e3, e4⟩ := hR.1.2.2.2.1 p hp
  obtain ⟨x5, x6⟩ := (hR.2.2.2.2.2.1 rfl).1.2.1 p hp
  refine sel_x (P := zTwo) hw ?_ ?_ ?_ ?_ ?_ ?_ ?_ ?_ ?_ ?_ <;> intro hw0 <;> (try subst hw0)
  · refine ⟨k 2 p, ?_, ?_⟩
    · simp only [F_X4_personFact_52, F_X4_personFact_68, F_X4_personFact_64, F_X4_personFact_69, pz_n0 (show p < 2 ^ 31 by omega), nI_clamp (show p < 2 ^ 31 by omega), pz_ge (show p < 40 by omega), or_self, false_or, if_false]
      rcases hR.1.2.2.2.2.1 p hp with h | h
      · rw [if_pos h, h]
      · rw [if_neg (by rw [h]; decide), h]
    · simp only [F_X6_personTold_56, pe_0 p40, pz_bind, e1]
  · refine ⟨k 3 p, by simp only [F_X4_personFact_70, pz_n0 (show p < 2 ^ 31 by omega), nI_clamp (show p < 2 ^ 31 by omega), pz_ge (show p < 40 by omega), or_self, false_or, if_false], ?_⟩
    simp only [F_X6_personTold_154, pe_ p40 (show 1 < 9 by decide), pz_bind, e2]
  · rcases hR.2.1 p hp with ⟨l1, l2⟩ | ⟨l1, l2⟩
    · refine ⟨1, by simp only [F_X4_personFact_80, li_1 hn hR.1.2.1 hp l1, pz_bind, pz_10, if_false, F_X4_personFact_88, F_X4_personFact_93], ?_⟩
      simp only [F_X6_personTold_154, pe_ p40 (show 2 < 9 by decide), pz_bind, l2]
    · refine ⟨0, by simp only [F_X4_personFact_80, li_0 hn hR.1.2.1 hp l1, pz_bind, pz_00, if_true, F_X4_personFact_92, F_X4_personFact_93], ?_⟩
      simp only [F_X6_personTold_154, pe_ p40 (show 2 < 9 by decide), pz_bind, l2]
  · refine ⟨k 4 p, by simp only [F_X4_personFact_94, pz_n0 (show p < 2 ^ 31 by omega), nI_clamp (show p < 2 ^ 31 by omega), pz_ge (show p < 40 by omega), or_self, false_or, if_false], ?_⟩
    simp only [F_X6_personTold_154, pe_ p40 (show 3 < 9 by decide), pz_bind, e3]
  · refine ⟨k 5 p, by simp only [F_X4_personFact_104, pz_n0 (show p < 2 ^ 31 by omega), nI_clamp (show p < 2 ^ 31 by omega), pz_ge (show p < 40 by omega), or_self, false_or, if_false], ?_⟩
    simp only [F_X6_personTold_154, pe_ p40 (show 4 < 9 by decide), pz_bind, e4]
  · refine ⟨k 24 p, by simp only [F_X4_personFact_114, sp_1 p40, pz_bind], ?_⟩
    simp only [F_X6_personTold_154, pe_ p40 (show 5 < 9 by decide), pz_bind, x5]
  · obtain ⟨r, h1, h2⟩ := ch_x (v := nI p) hn hR.1.2.1 hR.1.2.2.1 hR.1.2.2.2.1
    exact ⟨r, by simp only [F_X4_personFact_123, h1, pz_bind], h2⟩
  · obtain ⟨r, h1, h2⟩ := tw_num hR (nI p)
    exact ⟨r, by simp only [F_X4_personFact_132, h1, pz_bind], h2⟩
  · obtain ⟨t, ht, h1, h2⟩ := tw_worth hR hX (nI p)
    exact ⟨nI t, by simp only [F_X4_personFact_141, h1, pz_bind], by simp only [F_X6_personTold_140, h2, pz_bind]⟩
  · refine ⟨k 29 p, by simp only [F_X4_personFact_150, pz_n0 (show p < 2 ^ 31 by omega), nI_clamp (show p < 2 ^ 31 by omega), pz_ge (show p < 40 by omega), or_self, false_or, if_false], ?_⟩
    simp only [F_X6_personTold_146, pe_6 p40, pz_bind, x6]
/-! of a land -/
theorem zRel_off (hB : kB B) (h : zRel B n L k m) (hk : zOffB B k k1) (hm : zOff m m1) : zRel B n L k1 m1 := by
  refine zRel_cg hB h (fun q _ h1 h2 => hk q h1 h2) (fun q _ _ h1 h2 _ => hm q h1 h2) (by rw [hm 7 (by decide) (by decide)]) (by rw [hm 7 (by decide) (by decide)]) ?_
  rw [hk B (by omega) (by omega), hm 11 (by decide) (by decide)]
  exact h.2.2.1.2.2.2.1
theorem zXl_off {hf : Nat → Nat} (hL : L ≤ 12) (h : zXl L hf k m) (hk : zOffB 15 k k1) (hm : zOff m m1) : zXl L hf k1 m1 :=
  zXl_cg hL h (hk 17 (by decide) (by decide)) (hk 20 (by decide) (by decide)) (hk 21 (by decide) (by decide)) (fun l hl => hk _ (by omega) (by omega)) (hm 9 (by decide) (by decide)) (hm 10 (by decide) (by decide))
theorem lf_x {hf : Nat → Nat} (hR : zRel 15 n L k m) (hX : zXl L hf k m) (hl : l < L) (hw : w < 6) : ∃ r k1 m1, F_X4_landFact 15 (nI l) (nI w) k = some (r, k1) ∧ F_X6_landTold (nI l) (nI w) m = some (r, m1) ∧ zOffB 15 k k1 ∧ zOff m m1 := by
  obtain ⟨hK, hLv, ⟨w1, w2, w3, w4, w5⟩, hMW, hRu, h15, h30⟩ := hR
  have l12 : l < 12 := by omega
  obtain ⟨a1, a2, ww, hww, a3⟩ := w5 l hl
  obtain ⟨x1, x2, h, x3, x4, x5, x6, x7⟩ := hX.1 l hl
  have e0 : (nI w = 0) = (w = 0) := pz_e0 (by omega)
  have e1 := pz_e1 (show w < 2 ^ 31 by omega)
  have e2 := pz_e2 (show w < 2 ^ 31 by omega)
  have e3 := pz_e3 (show w < 2 ^ 31 by omega)
  have e4 := pz_e4 (show w < 2 ^ 31 by omega)
  have e5 := pz_e5 (show w < 2 ^ 31 by omega)
  have c3 : (3 ≤ nI w) = (3 ≤ w) := pz_le (a := 3) (by decide) (by omega)
  have : w = 0 ∨ w = 1 ∨ w = 2 ∨ w = 3 ∨ w = 4 ∨ w = 5 := by omega
  rcases this with rfl | rfl | rfl | rfl | rfl | rfl
  · refine ⟨k 17 l, k, m, ?_, ?_, zOffB.rf 15 k, zOff.rf m⟩
    · simp only [F_X4_landFact, F_X4_landFact_0, pz_n0 (show l < 2 ^ 31 by omega), nI_clamp (show l < 2 ^ 31 by omega), pz_ge (show l < 12 by omega), or_self, false_or, if_false, e0, if_true, F_X4_landFact_44]
    · simp only [F_X6_landTold, F_X6_landTold_0, la_2 l12, pz_bind, c3, show (3 ≤ 0) = False from eq_false (by decide), if_false, F_X6_landTold_12, la_ l12 (show 0 < 4 by decide), Nat.add_zero, x1]
  · refine ⟨k 18 l, k, m, ?_, ?_, zOffB.rf 15 k, zOff.rf m⟩
    · simp only [F_X4_landFact, F_X4_landFact_0, pz_n0 (show l < 2 ^ 31 by omega), nI_clamp (show l < 2 ^ 31 by omega), pz_ge (show l < 12 by omega), or_self, false_or, if_false, e0, e1, show ((1 : Nat) = 0) = False from eq_false (by decide), if_false, if_true, F_X4_landFact_54]
    · simp only [F_X6_landTold, F_X6_landTold_0, la_2 l12, pz_bind, c3, show (3 ≤ 1) = False from eq_false (by decide), if_false, F_X6_landTold_12, la_ l12 (show 1 < 4 by decide), a1]
  · refine ⟨k 19 l, k, m, ?_, ?_, zOffB.rf 15 k, zOff.rf m⟩
    · simp only [F_X4_landFact, F_X4_landFact_0, pz_n0 (show l < 2 ^ 31 by omega), nI_clamp (show l < 2 ^ 31 by omega), pz_ge (show l < 12 by omega), or_self, false_or, if_false, e0, e1, e2, show ((2 : Nat) = 0) = False from eq_false (by decide), show ((2 : Nat) = 1) = False from eq_false (by decide), if_false, if_true, F_X4_landFact_64]
    · simp only [F_X6_landTold, F_X6_landTold_0, la_2 l12, pz_bind, c3, show (3 ≤ 2) = False from eq_false (by decide), if_false, F_X6_landTold_12, la_ l12 (show 2 < 4 by decide), a2]
  · have cl : F_X4_landFact 15 (nI l) (nI 3) k = F_X4_landFact_66 15 (k 19 l) k := by
      simp only [F_X4_landFact, F_X4_landFact_0, pz_n0 (show l < 2 ^ 31 by omega), nI_clamp (show l < 2 ^ 31 by omega), pz_ge (show l < 12 by omega), or_self, false_or, if_false, e0, e1, e2, e3, show ((3 : Nat) = 0) = False from eq_false (by decide), show ((3 : Nat) = 1) = False from eq_false (by decide), show ((3 : Nat) = 2) = False from eq_false (by decide), if_false, if_true]
    have rf : F_X6_landTold (nI l) (nI 3) m = F_X6_landTold_24 (k 19 l) m := by
      simp only [F_X6_landTold, F_X6_landTold_0, la_2 l12, pz_bind, c3, show (3 ≤ 3) = True from eq_true (by decide), if_true, F_X6_landTold_19, e3, a2]
    rw [cl, rf]
    rcases hRu l hl with g | ⟨p, p1, p2, p3⟩
    · have g : k 19 l = -1 := g
      rw [g]
      obtain ⟨r1, r2⟩ := rg_m (B := 15) (m := m) hK.2.1
      exact ⟨-1, k, m, by simp only [F_X4_landFact_66, r1, pz_bind], by simp only [F_X6_landTold_24, r2, pz_bind, F_X6_landTold_66], zOffB.rf 15 k, zOff.rf m⟩
    · have p2 : k 19 l = nI p := p2
      rw [p2]
      obtain ⟨r, m1, r1, r2, r3⟩ := rg_x (B := 15) hK hLv w4 p1 p3
      exact ⟨r, k, m1, by simp only [F_X4_landFact_66, r1, pz_bind], by simp only [F_X6_landTold_24, r2, pz_bind, F_X6_landTold_66], zOffB.rf 15 k, r3⟩
  · have cl : F_X4_landFact 15 (nI l) (nI 4) k = F_X4_landFact_72 15 (nI l) (k 19 l) k := by
      simp only [F_X4_landFact, F_X4_landFact_0, pz_n0 (show l < 2 ^ 31 by omega), nI_clamp (show l < 2 ^ 31 by omega), pz_ge (show l < 12 by omega), or_self, false_or, if_false, e0, e1, e2, e3, e4, show ((4 : Nat) = 0) = False from eq_false (by decide), show ((4 : Nat) = 1) = False from eq_false (by decide), show ((4 : Nat) = 2) = False from eq_false (by decide), show ((4 : Nat) = 3) = False from eq_false (by decide), if_false, if_true]
    have rf : F_X6_landTold (nI l) (nI 4) m = F_X6_landTold_46 (nI l) (k 19 l) m := by
      simp only [F_X6_landTold, F_X6_landTold_0, la_2 l12, pz_bind, c3, show (3 ≤ 4) = True from eq_true (by decide), if_true, F_X6_landTold_19, e3, show ((4 : Nat) = 3) = False from eq_false (by decide), if_false, F_X6_landTold_32, e5, show ((4 : Nat) = 5) = False from eq_false (by decide), a2]
    rw [cl, rf]
    have a3 : k 18 l = nI ww := a3
    have a1 : m 9 (4 * l + 1) = k 18 l := a1
    rcases hRu l hl with g | ⟨p, p1, p2, p3⟩
    · have g : k 19 l = -1 := g
      rw [g]
      exact ⟨-1, k, m, by simp only [F_X4_landFact_72, pz_n0 (show l < 2 ^ 31 by omega), nI_clamp (show l < 2 ^ 31 by omega), pz_ge (show l < 12 by omega), or_self, false_or, if_false, F_X4_heirOf, F_X4_heirOf_0, kn_m hK.2.1, pz_bind, pz_00, if_true, F_X4_heirOf_11], by simp only [F_X6_landTold_46, if_true, F_X6_landTold_51, F_X6_landTold_66], zOffB.rf 15 k, zOff.rf m⟩
    · have p2 : k 19 l = nI p := p2
      rw [p2]
      obtain ⟨r, k1, m1, r1, r2, r3, r4, _⟩ := he_x (B := 15) (w := ww) k15 hK (fun p hp _ => hLv p hp) p1 hww
      have hp40 := hK.1
      exact ⟨r, k1, m1, by simp only [F_X4_landFact_72, pz_n0 (show l < 2 ^ 31 by omega), nI_clamp (show l < 2 ^ 31 by omega), pz_ge (show l < 12 by omega), or_self, false_or, if_false, show 15 + 3 = 18 from rfl, a3, r1, pz_bind], by simp only [F_X6_landTold_46, pz_m1' (show p < 2 ^ 31 by omega), if_false, F_X6_landTold_55, la_1 l12, pz_bind, a1, a3, r2, F_X6_landTold_66], r3, r4⟩
  · refine ⟨nI h, k, m, ?_, ?_, zOffB.rf 15 k, zOff.rf m⟩
    · simp only [F_X4_landFact, F_X4_landFact_0, pz_n0 (show l < 2 ^ 31 by omega), nI_clamp (show l < 2 ^ 31 by omega), pz_ge (show l < 12 by omega), or_self, false_or, if_false, e0, e1, e2, e3, e4, show ((5 : Nat) = 0) = False from eq_false (by decide), show ((5 : Nat) = 1) = False from eq_false (by decide), show ((5 : Nat) = 2) = False from eq_false (by decide), show ((5 : Nat) = 3) = False from eq_false (by decide), show ((5 : Nat) = 4) = False from eq_false (by decide), if_false, F_X4_landFact_87, show 15 + 5 = 20 from rfl, x4]
    · simp only [F_X6_landTold, F_X6_landTold_0, la_2 l12, pz_bind, c3, show (3 ≤ 5) = True from eq_true (by decide), if_true, F_X6_landTold_19, e3, show ((5 : Nat) = 3) = False from eq_false (by decide), if_false, F_X6_landTold_32, e5, F_X6_landTold_37, la_3 l12, x5, F_X6_landTold_66]
/-! of all -/
theorem rn_x (hR : zRel B n L k m) (v : Int32) : ∃ r, F_X1_numberUnder B k v = some r ∧ ((r ≤ 0 ∧ F_X6_rulesNow m v = some 0) ∨ (¬ r ≤ 0 ∧ F_X6_rulesNow m v = some 1)) := by
  obtain ⟨r, h1, h2⟩ := tw_num hR v
  have h3 : F_X6_personTold m v 7 = some r := (pt_s (w := 7) (m := m) (v := v) (by decide)).trans h2
  refine ⟨r, h1, ?_⟩
  by_cases g : r ≤ 0
  · exact Or.inl ⟨g, by simp only [F_X6_rulesNow_15, F_X6_rulesNow_10, F_X6_rulesNow_14, F_X6_rulesNow_0, F_X6_rulesNow, h3, pz_bind, g, if_true, pz_10, pz_01, pz_00, pz_11, or_true, true_or, not_true_eq_false, if_false, if_true]⟩
  · exact Or.inr ⟨g, by simp only [F_X6_rulesNow_15, F_X6_rulesNow_10, F_X6_rulesNow_14, F_X6_rulesNow_0, F_X6_rulesNow, h3, pz_bind, g, pz_10, pz_01, pz_00, pz_11, or_true, true_or, not_true_eq_false, if_false, if_true]⟩
theorem ru_x (hR : zRel B n L k m) {v1 u : Int32} (hv : (v1 = 0 ∧ u = 6) ∨ (¬ v1 = 0 ∧ ¬ u = 6)) : zTwo (F_X4_rulers B k v1) (F_X6_counted_158 m kN u 0 0) := by
  have hn := hR.1.1
  have hk := hR.1.2.1
  have hm := hR.1.2.2.1
  obtain ⟨b, b', h1, h2, rfl⟩ := pz_loop20 (α := Int32) (α' := Int32) (fun g i a => F_X4_rulers_4 B k g v1 a (nI i)) (fun g i a => F_X6_counted_158 m g u a (nI i)) (fun a => some a) (fun a => some a) n (fun _ a a' => a = a')
    (fun a a' _ => ⟨fun g => by simp only [F_X4_rulers_43, F_X4_rulers_40, F_X4_rulers_30, F_X4_rulers_26, F_X4_rulers_15, F_X4_rulers_49, F_X4_rulers_4, F_X4_rulers_0, F_X4_rulers, hk, pz_cT (show n < 2 ^ 31 by omega), if_true], fun g => by simp only [F_X6_counted_158, hm, pz_cT (show n < 2 ^ 31 by omega), if_true, F_X6_counted_204]⟩)
    (fun i a a' hi e => by
      subst e
      have c := pz_cF hi (show n < 2 ^ 31 by omega)
      have i40 : i < 40 := by omega
      have eag : m 11 0 - m 8 (9 * i + 1) = k B 0 - k 3 i := pz_sub16 i hR.1.2.2.2.1 hi hR.2.2.1.2.2.2.1
      obtain ⟨r, r1, r2⟩ := rn_x hR (nI i)
      rcases r2 with ⟨r2, r3⟩ | ⟨r2, r3⟩
      · exact ⟨a, a, fun g => by simp only [F_X4_rulers_43, F_X4_rulers_40, F_X4_rulers_30, F_X4_rulers_26, F_X4_rulers_15, F_X4_rulers_49, F_X4_rulers_4, F_X4_rulers_0, F_X4_rulers, hk, c, if_false, r1, pz_bind, r2, if_true, nI_1], fun g => by simp only [F_X6_counted_158, hm, c, if_false, F_X6_counted_166, r3, pz_bind, pz_00, if_true, F_X6_counted_195, F_X6_counted_196, Int32.add_zero, nI_1], rfl⟩
      · rcases hv with ⟨y1, y2⟩ | ⟨y1, y2⟩
        · exact ⟨a + 1, a + 1, fun g => by simp only [F_X4_rulers_4, hk, c, if_false, F_X4_rulers_15, r1, pz_bind, r2, F_X4_rulers_26, y1, if_true, F_X4_rulers_40, F_X4_rulers_43, nI_1], fun g => by simp only [F_X6_counted_158, hm, c, if_false, F_X6_counted_166, r3, pz_bind, pz_10, F_X6_counted_175, y2, if_true, F_X6_counted_191, F_X6_counted_196, nI_1], rfl⟩
        · by_cases g16 : 16 ≤ k B 0 - k 3 i
          · exact ⟨a, a, fun g => by simp only [F_X4_rulers_4, hk, c, if_false, F_X4_rulers_15, r1, pz_bind, r2, F_X4_rulers_26, y1, F_X4_rulers_30, ag_1 hn hk hi, g16, if_true, F_X4_rulers_43, nI_1], fun g => by simp only [F_X6_counted_158, hm, c, if_false, F_X6_counted_166, r3, pz_bind, pz_10, F_X6_counted_175, y2, F_X6_counted_181, ra_1 i40, eag, g16, if_true, F_X6_counted_195, F_X6_counted_196, Int32.add_zero, nI_1], rfl⟩
          · exact ⟨a + 1, a + 1, fun g => by simp only [F_X4_rulers_4, hk, c, if_false, F_X4_rulers_15, r1, pz_bind, r2, F_X4_rulers_26, y1, F_X4_rulers_30, ag_1 hn hk hi, g16, F_X4_rulers_40, F_X4_rulers_43, nI_1], fun g => by simp only [F_X6_counted_158, hm, c, if_false, F_X6_counted_166, r3, pz_bind, pz_10, F_X6_counted_175, y2, F_X6_counted_181, ra_1 i40, eag, g16, F_X6_counted_191, F_X6_counted_196, nI_1], rfl⟩)
    (by omega) (a := 0) (a' := 0) rfl
  exact ⟨b, h1, h2⟩
theorem cf_x (hR : zRel 15 n L k m) (hw : w < 8) : zTwo (F_X4_countFact 15 k (nI w)) (F_X6_counted m (nI w)) := by
  have hR' := hR
  obtain ⟨hK, hLv, ⟨w1, w2, w3, w4, w5⟩, hMW, hRu, h15, h30⟩ := hR
  obtain ⟨X1, X2, X3⟩ := (h15 rfl).1
  have e0 : (nI w = 0) = (w = 0) := pz_e0 (by omega)
  have e1 := pz_e1 (show w < 2 ^ 31 by omega)
  have e2 := pz_e2 (show w < 2 ^ 31 by omega)
  have e3 := pz_e3 (show w < 2 ^ 31 by omega)
  have e4 := pz_e4 (show w < 2 ^ 31 by omega)
  have e5 := pz_e5 (show w < 2 ^ 31 by omega)
  have e6 := pz_e6 (show w < 2 ^ 31 by omega)
  have cl : F_X4_countFact 15 k (nI w) = if w = 0 then F_X4_countFact_44 15 k else if w = 1 then F_X4_countFact_49 15 k else if w = 2 then F_X4_countFact_57 15 k else if w = 3 then F_X4_countFact_62 15 k else if w = 4 then F_X4_countFact_70 15 k else if w = 5 then F_X4_countFact_78 15 k else if w = 6 then F_X4_countFact_87 15 k else F_X4_countFact_93 15 k := by
    simp only [F_X4_countFact, F_X4_countFact_0, e0, e1, e2, e3, e4, e5, e6]
  have rf : F_X6_counted m (nI w) = if w = 0 then F_X6_counted_40 m else if w = 1 then F_X6_counted_47 m else if w = 2 then F_X6_counted_52 m 0 else if w = 3 then F_X6_counted_79 m 0 else if w = 4 then F_X6_counted_115 m else if w = 5 then F_X6_counted_120 m 0 else F_X6_counted_156 m (nI w) 0 := by
    simp only [F_X6_counted, F_X6_counted_0, e0, e1, e2, e3, e4, e5]
  have : w = 0 ∨ w = 1 ∨ w = 2 ∨ w = 3 ∨ w = 4 ∨ w = 5 ∨ w = 6 ∨ w = 7 := by omega
  rcases this with rfl | rfl | rfl | rfl | rfl | rfl | rfl | rfl
  · skip
    rw [if_pos rfl] at cl
    rw [if_pos rfl] at rf
    rw [cl, rf]
    refine ⟨k 15 0, rfl, ?_⟩
    simp only [F_X6_counted_40, pz_0lt, pz_cl0, pz_1le0, or_self, if_false, ← w4]
  · skip
    rw [if_neg (show ¬ (1 : Nat) = 0 by decide), if_pos rfl] at cl
    rw [if_neg (show ¬ (1 : Nat) = 0 by decide), if_pos rfl] at rf
    rw [cl, rf]
    exact ⟨k 1 0, rfl, by show some (m 7 1) = _; rw [hK.2.2.1, hK.2.1]⟩
  · skip
    rw [if_neg (show ¬ (2 : Nat) = 0 by decide), if_neg (show ¬ (2 : Nat) = 1 by decide), if_pos rfl] at cl
    rw [if_neg (show ¬ (2 : Nat) = 0 by decide), if_neg (show ¬ (2 : Nat) = 1 by decide), if_pos rfl] at rf
    rw [cl, rf]
    obtain ⟨g1, g2⟩ := lv_x hK.1 hK.2.1 hK.2.2.1 hLv
    exact ⟨_, by simp only [F_X4_countFact_57, g1, pz_bind], g2⟩
  · skip
    rw [if_neg (show ¬ (3 : Nat) = 0 by decide), if_neg (show ¬ (3 : Nat) = 1 by decide), if_neg (show ¬ (3 : Nat) = 2 by decide), if_pos rfl] at cl
    rw [if_neg (show ¬ (3 : Nat) = 0 by decide), if_neg (show ¬ (3 : Nat) = 1 by decide), if_neg (show ¬ (3 : Nat) = 2 by decide), if_pos rfl] at rf
    rw [cl, rf]
    obtain ⟨r, g1, g2⟩ := co_x (B := 15) (k := k) hK.1 hK.2.2.1 (fun p hp => (X2 p hp).1) (fun p h1 h2 => (X1 p h1 h2).1)
    exact ⟨r, by simp only [F_X4_countFact_62, g1, pz_bind], g2⟩
  · skip
    rw [if_neg (show ¬ (4 : Nat) = 0 by decide), if_neg (show ¬ (4 : Nat) = 1 by decide), if_neg (show ¬ (4 : Nat) = 2 by decide), if_neg (show ¬ (4 : Nat) = 3 by decide), if_pos rfl] at cl
    rw [if_neg (show ¬ (4 : Nat) = 0 by decide), if_neg (show ¬ (4 : Nat) = 1 by decide), if_neg (show ¬ (4 : Nat) = 2 by decide), if_neg (show ¬ (4 : Nat) = 3 by decide), if_pos rfl] at rf
    rw [cl, rf]
    exact ⟨k 16 0, rfl, by show some (m 7 2) = _; rw [w3]; exact congrArg some w2.symm⟩
  · skip
    rw [if_neg (show ¬ (5 : Nat) = 0 by decide), if_neg (show ¬ (5 : Nat) = 1 by decide), if_neg (show ¬ (5 : Nat) = 2 by decide), if_neg (show ¬ (5 : Nat) = 3 by decide), if_neg (show ¬ (5 : Nat) = 4 by decide), if_pos rfl] at cl
    rw [if_neg (show ¬ (5 : Nat) = 0 by decide), if_neg (show ¬ (5 : Nat) = 1 by decide), if_neg (show ¬ (5 : Nat) = 2 by decide), if_neg (show ¬ (5 : Nat) = 3 by decide), if_neg (show ¬ (5 : Nat) = 4 by decide), if_pos rfl] at rf
    rw [cl, rf]
    obtain ⟨r, g1, g2⟩ := nl_x (B := 15) (k := k) w1 w2 w3 (fun l hl => (w5 l hl).2.1)
    exact ⟨r, by simp only [F_X4_countFact_78, g1, pz_bind], g2⟩
  · skip
    rw [if_neg (show ¬ (6 : Nat) = 0 by decide), if_neg (show ¬ (6 : Nat) = 1 by decide), if_neg (show ¬ (6 : Nat) = 2 by decide), if_neg (show ¬ (6 : Nat) = 3 by decide), if_neg (show ¬ (6 : Nat) = 4 by decide), if_neg (show ¬ (6 : Nat) = 5 by decide), if_pos rfl] at cl
    rw [if_neg (show ¬ (6 : Nat) = 0 by decide), if_neg (show ¬ (6 : Nat) = 1 by decide), if_neg (show ¬ (6 : Nat) = 2 by decide), if_neg (show ¬ (6 : Nat) = 3 by decide), if_neg (show ¬ (6 : Nat) = 4 by decide), if_neg (show ¬ (6 : Nat) = 5 by decide)] at rf
    rw [cl, rf]
    obtain ⟨r, g1, g2⟩ := ru_x (v1 := 0) (u := nI 6) hR' (Or.inl ⟨rfl, rfl⟩)
    exact ⟨r, by simp only [F_X4_countFact_87, g1, pz_bind], by simp only [F_X6_counted_156, g2]⟩
  · skip
    rw [if_neg (show ¬ (7 : Nat) = 0 by decide), if_neg (show ¬ (7 : Nat) = 1 by decide), if_neg (show ¬ (7 : Nat) = 2 by decide), if_neg (show ¬ (7 : Nat) = 3 by decide), if_neg (show ¬ (7 : Nat) = 4 by decide), if_neg (show ¬ (7 : Nat) = 5 by decide), if_neg (show ¬ (7 : Nat) = 6 by decide)] at cl
    rw [if_neg (show ¬ (7 : Nat) = 0 by decide), if_neg (show ¬ (7 : Nat) = 1 by decide), if_neg (show ¬ (7 : Nat) = 2 by decide), if_neg (show ¬ (7 : Nat) = 3 by decide), if_neg (show ¬ (7 : Nat) = 4 by decide), if_neg (show ¬ (7 : Nat) = 5 by decide)] at rf
    rw [cl, rf]
    obtain ⟨r, g1, g2⟩ := ru_x (v1 := 1) (u := nI 7) hR' (Or.inr ⟨by decide, by decide⟩)
    exact ⟨r, by simp only [F_X4_countFact_93, g1, pz_bind], by simp only [F_X6_counted_156, g2]⟩
end ZF
