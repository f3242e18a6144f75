/-! COUNTS of rulers, the mean -/
/-- one rules a land -/
def jRu (L : Nat) (m : kS) (p : Nat) : Prop := zcnt (fun l => m 9 (4 * l + 2) = nI p) L ≠ 0
def jYo (L y : Nat) (m : kS) (p : Nat) : Prop := jRu L m p ∧ ¬ 16 ≤ nI y - m 8 (9 * p + 1)
/-- the ages of all who live -/
def jAg (y : Nat) (m : kS) : Nat → Int32
  | 0 => 0
  | p + 1 => jAg y m p + (if m 8 (9 * p + 2) = 1 then nI y - m 8 (9 * p + 1) else 0)
theorem dc_self {a : UInt64} (h : FP.Core.dIsNaN a = false) : Op.cmpValue (FP.dcmp a a) .l = 0 := by
  have e : FP.dcmp a a = some .eq := FP.Core.dcmp_self ((FP.Core.notNaN_iff a).mp h)
  rw [e]; rfl
theorem dc_zero : Op.cmpValue (FP.dcmp FP.dconst0 FP.dconst0) .l = 0 := dc_self (by decide +kernel)
theorem dc_div (a : Int32) {b : Int32} (hb : b ≠ 0) : Op.cmpValue (FP.dcmp (FP.ddiv (FP.i2d a) (FP.i2d b)) (FP.ddiv (FP.i2d a) (FP.i2d b))) .l = 0 := by
  have hz : ¬ FP.Core.DZero (FP.Core.i2d b) := fun h => FP.Core.i2d_ne_zero hb ((FP.Core.zero_bits2 _).mp h)
  have ha : FP.Core.dIsNaN (FP.Core.i2d a) = false := by
    rw [← Bool.not_eq_true, FP.Core.isNaN_bits]
    have := (FP.Core.fin_bits _).mp (FP.Core.i2d_fin a)
    omega
  have h := FP.Core.ddiv_out ha (FP.Core.i2d_fin b) hz
  have nan : FP.ddiv (FP.i2d a) (FP.i2d b) = FP.Core.ddiv (FP.Core.i2d a) (FP.Core.i2d b) := rfl
  rw [nan]
  exact dc_self h
section ZS
variable {n L h0 H p q w x y : Nat} {k m z : kS} {v : Int32}
theorem jSt_ag (S : jSt n L h0 H y k m z) (hp : p < n) : F_X4_age 15 k (nI p) = some (nI y - m 8 (9 * p + 1)) := by
  rw [ag_1 S.1.1.1 S.1.1.2.1 hp, S.2.2.1, (S.1.1.2.2.2.1 p hp).2.1]
theorem rd_c6 (S : jSt n L h0 H y k m z) : F_X5_count k 6 = some (0, nI (zcnt (jRu L m) n)) := by
  have hn := S.1.1.1
  have hL := S.1.2.2.1.1
  have hk := S.1.1.2.1
  obtain ⟨u, h1, rfl⟩ := pz_loop10 (α := Int32) (fun g i u => F_X4_rulers_4 15 k g 0 u (nI i)) (fun u => some u) n (fun i u => u = nI (zcnt (jRu L m) i))
    (fun u _ g => by simp only [F_X4_rulers_4, F_X4_rulers_49, hk, pz_cT (show n < 2 ^ 31 by omega), if_true])
    (fun i u hi hI => by
      subst hI
      have c := pz_cF hi (show n < 2 ^ 31 by omega)
      have zl := zcnt_le (fun l => m 9 (4 * l + 2) = nI i) L
      have c0 := nI_le0 (c := zcnt (fun l => m 9 (4 * l + 2) = nI i) L) (by omega)
      by_cases h : zcnt (fun l => m 9 (4 * l + 2) = nI i) L = 0
      · refine ⟨nI (zcnt (jRu L m) i), fun g => ?_, by rw [zcnt_s0 (A := jRu L m) (fun q => q h)]⟩
        simp only [F_X4_rulers_4, F_X4_rulers_15, F_X4_rulers_43, hk, c, if_false, jSt_nu S, pz_bind, c0, if_pos h, nI_1]
      · refine ⟨nI (zcnt (jRu L m) i + 1), fun g => ?_, by rw [zcnt_s1 (A := jRu L m) h]⟩
        simp only [F_X4_rulers_4, F_X4_rulers_15, F_X4_rulers_26, F_X4_rulers_40, F_X4_rulers_43, hk, c, if_false, jSt_nu S, pz_bind, c0, if_neg h, if_true, nI_1])
    (by omega) (a := 0) rfl
  have h1 : F_X4_rulers 15 k 0 = some (nI (zcnt (jRu L m) n)) := h1
  refine rd_cw (w := 6) (by decide) ?_
  show F_X4_countFact_87 15 k = _
  simp only [F_X4_countFact_87, h1, pz_bind]
theorem rd_c7 (S : jSt n L h0 H y k m z) : F_X5_count k 7 = some (0, nI (zcnt (jYo L y m) n)) := by
  have hn := S.1.1.1
  have hL := S.1.2.2.1.1
  have hk := S.1.1.2.1
  have o1 : ((1 : Int32) = 0) = False := eq_false (by decide)
  obtain ⟨u, h1, rfl⟩ := pz_loop10 (α := Int32) (fun g i u => F_X4_rulers_4 15 k g 1 u (nI i)) (fun u => some u) n (fun i u => u = nI (zcnt (jYo L y m) i))
    (fun u _ g => by simp only [F_X4_rulers_4, F_X4_rulers_49, hk, pz_cT (show n < 2 ^ 31 by omega), if_true])
    (fun i u hi hI => by
      subst hI
      have c := pz_cF hi (show n < 2 ^ 31 by omega)
      have zl := zcnt_le (fun l => m 9 (4 * l + 2) = nI i) L
      have c0 := nI_le0 (c := zcnt (fun l => m 9 (4 * l + 2) = nI i) L) (by omega)
      by_cases h : zcnt (fun l => m 9 (4 * l + 2) = nI i) L = 0
      · refine ⟨nI (zcnt (jYo L y m) i), fun g => ?_, by rw [zcnt_s0 (A := jYo L y m) (fun q => q.1 h)]⟩
        simp only [F_X4_rulers_4, F_X4_rulers_15, F_X4_rulers_43, hk, c, if_false, jSt_nu S, pz_bind, c0, if_pos h, nI_1]
      · by_cases h16 : 16 ≤ nI y - m 8 (9 * i + 1)
        · refine ⟨nI (zcnt (jYo L y m) i), fun g => ?_, by rw [zcnt_s0 (A := jYo L y m) (fun q => q.2 h16)]⟩
          simp only [F_X4_rulers_4, F_X4_rulers_15, F_X4_rulers_26, F_X4_rulers_30, F_X4_rulers_43, hk, c, if_false, jSt_nu S, pz_bind, c0, if_neg h, o1, jSt_ag S hi, if_pos h16, nI_1]
        · refine ⟨nI (zcnt (jYo L y m) i + 1), fun g => ?_, by rw [zcnt_s1 (A := jYo L y m) ⟨h, h16⟩]⟩
          simp only [F_X4_rulers_4, F_X4_rulers_15, F_X4_rulers_26, F_X4_rulers_30, F_X4_rulers_40, F_X4_rulers_43, hk, c, if_false, jSt_nu S, pz_bind, c0, if_neg h, o1, jSt_ag S hi, if_neg h16, nI_1])
    (by omega) (a := 0) rfl
  have h1 : F_X4_rulers 15 k 1 = some (nI (zcnt (jYo L y m) n)) := h1
  refine rd_cw (w := 7) (by decide) ?_
  show F_X4_countFact_93 15 k = _
  simp only [F_X4_countFact_93, h1, pz_bind]
theorem rd_me (S : jSt n L h0 H y k m z) : F_X5_mean k = F_X5_mean_48 k (nI (jAl n m)) (jAg y m n) := by
  have hn := S.1.1.1
  have hk := S.1.1.2.1
  obtain ⟨⟨b1, b2⟩, h1, h2, h3⟩ := pz_loop10 (α := Int32 × Int32) (fun g i u => F_X5_mean_6 k g u.1 u.2 (nI i)) (fun u => F_X5_mean_48 k u.1 u.2) n (fun i u => u.1 = nI (jAl i m) ∧ u.2 = jAg y m i)
    (fun u _ g => by simp only [F_X5_mean_6, hk, pz_cT (show n < 2 ^ 31 by omega), if_true])
    (fun i u hi hI => by
      obtain ⟨u1, u2⟩ := u
      obtain ⟨i1, i2⟩ := hI
      have i1 : u1 = nI (jAl i m) := i1
      have i2 : u2 = jAg y m i := i2
      subst i1
      subst i2
      have c := pz_cF hi (show n < 2 ^ 31 by omega)
      rcases S.1.2.1 i hi with ⟨l1, l2⟩ | ⟨l1, l2⟩
      · refine ⟨(nI (jAl i m + 1), jAg y m i + (nI y - m 8 (9 * i + 1))), fun g => ?_, ?_, ?_⟩
        · simp only [F_X5_mean_6, hk, c, if_false, F_X5_mean_17, li_1 (B := 15) hn hk hi l1, pz_bind, pz_10, F_X5_mean_28, jSt_ag S hi, F_X5_mean_42, nI_1]
        · exact congrArg nI (zcnt_s1 (A := fun p => m 8 (9 * p + 2) = 1) l2).symm
        · show _ = jAg y m i + (if m 8 (9 * i + 2) = 1 then _ else 0)
          rw [if_pos l2]
      · refine ⟨(nI (jAl i m), jAg y m i), fun g => ?_, ?_, ?_⟩
        · simp only [F_X5_mean_6, hk, c, if_false, F_X5_mean_17, li_0 (B := 15) hn hk hi l1, pz_bind, pz_00, if_true, F_X5_mean_42, nI_1]
        · exact congrArg nI (zcnt_s0 (A := fun p => m 8 (9 * p + 2) = 1) (by rw [l2]; decide)).symm
        · show _ = jAg y m i + (if m 8 (9 * i + 2) = 1 then _ else 0)
          rw [if_neg (by rw [l2]; decide), Int32.add_zero])
    (by omega) (a := (0, 0)) ⟨rfl, rfl⟩
  have h2 : b1 = nI (jAl n m) := h2
  have h3 : b2 = jAg y m n := h3
  subst h2
  subst h3
  exact h1
/-- the last check: the mean -/
theorem is_625 (S : jSt n L h0 H y k m z) : F_X8_isSame_625 z (nI (jAl n m)) (jAg y m n) k = some ((1, k), 0, 0) := by
  by_cases h : nI (jAl n m) = 0
  · have e : F_X5_mean k = some FP.dconst0 := by
      rw [rd_me S]
      simp only [F_X5_mean_48, if_pos h, F_X5_mean_52, F_X5_mean_61]
    simp only [F_X8_isSame_625, e, pz_bind, if_pos h, F_X8_isSame_633, F_X8_isSame_643, dc_zero, if_true, F_X8_isSame_647, F_X8_isSame_652, pz_10, pz_01, pz_00, pz_11, or_true, true_or, not_true_eq_false, if_false, if_true]
  · have ok : (¬ ((FP.ddiv (FP.i2d (jAg y m n)) (FP.i2d (nI (jAl n m)))) &&& 9223372036854775807 ≤ 9218868437227405312)) = False := eq_false (fun q => q (nn_x _ h))
    have e : F_X5_mean k = some (FP.ddiv (FP.i2d (jAg y m n)) (FP.i2d (nI (jAl n m)))) := by
      rw [rd_me S]
      simp only [F_X5_mean_48, if_neg h, F_X5_mean_56, ok, if_false, F_X5_mean_61]
    simp only [F_X8_isSame_625, e, pz_bind, if_neg h, F_X8_isSame_637, ok, if_false, F_X8_isSame_643, dc_div _ h, if_true, F_X8_isSame_647, F_X8_isSame_652, pz_10, pz_01, pz_00, pz_11, or_true, true_or, not_true_eq_false, if_false, if_true]
/-- the eight counts -/
theorem is_596 {a b : Int32} {f : Nat → Int32} (h : ∀ w, w < 8 → F_X5_count k (nI w) = some (0, f w)) : ∀ (d i g : Nat), i + d = 8 → d < g → F_X8_isSame_596 z g a b (nI i) 8 f k = kadd (4 * d) (24 * d) (F_X8_isSame_625 z a b k)
  | 0, i, g, hd, hg => by
    obtain ⟨g, rfl⟩ : ∃ x, g = x + 1 := ⟨g - 1, by omega⟩
    obtain rfl : i = 8 := by omega
    have c1 : ((8 : Int32) ≤ nI 8) = True := eq_true (by decide)
    show _ = kadd 0 0 _
    rw [pz_kadd0]
    simp only [F_X8_isSame_596, c1, if_true]
  | d + 1, i, g, hd, hg => by
    obtain ⟨g, rfl⟩ : ∃ x, g = x + 1 := ⟨g - 1, by omega⟩
    have hi : i < 8 := by omega
    have c1 : ((8 : Int32) ≤ nI i) = False := eq_false (nI_ge (b := 8) hi (by decide))
    have c8 : (8 : Int32).toNatClampNeg = 8 := rfl
    have ih := is_596 (a := a) (b := b) h d (i + 1) g (by omega) (by omega)
    rw [show 4 * (d + 1) = 4 + 4 * d by omega, show 24 * (d + 1) = 24 + 24 * d by omega, ← pz_kadd, ← ih]
    simp only [F_X8_isSame_596, c1, if_false, F_X8_isSame_603, h i hi, pz_bind, pz_nz, not_true_eq_false, c8, pz_n0 (show i < 2 ^ 31 by omega), nI_clamp (show i < 2 ^ 31 by omega), pz_ge hi, or_self, if_true, F_X8_isSame_619, nI_1]
theorem is_537 (S : jSt n L h0 H y k m z) : F_X8_isSame_537 z (nI (jAl n m)) (nI (jMd n m)) (nI (zcnt (fun l => m 9 (4 * l + 2) = -1) L)) (nI (zcnt (jRu L m) n)) (nI (zcnt (jYo L y m) n)) (jAg y m n) k = some ((1, k), 33, 200) := by
  have R := S.2.2.2.2.1
  have hn := R.1
  have hL := R.2.1
  have t0 : (0 : Int32).toNatClampNeg = 0 := rfl
  have t1 : (1 : Int32).toNatClampNeg = 1 := rfl
  have t2 : (2 : Int32).toNatClampNeg = 2 := rfl
  have t3 : (3 : Int32).toNatClampNeg = 3 := rfl
  have t4 : (4 : Int32).toNatClampNeg = 4 := rfl
  have t5 : (5 : Int32).toNatClampNeg = 5 := rfl
  have t6 : (6 : Int32).toNatClampNeg = 6 := rfl
  have t7 : (7 : Int32).toNatClampNeg = 7 := rfl
  have t8 : (8 : Int32).toNatClampNeg = 8 := rfl
  have half : nI (jMd n m) / 2 = nI (zcnt (fun p => nI p < m 8 (9 * p + 5)) n) := by
    have zl := zcnt_le (fun p => nI p < m 8 (9 * p + 5)) n
    have e := pk_div (a := jMd n m) (d := 2) (by rw [jMd_2 S]; omega) (by decide) (by decide)
    have e : nI (jMd n m) / 2 = nI (jMd n m / 2) := e
    rw [e, jMd_2 S, Nat.mul_div_cancel_left _ (by decide)]
  obtain ⟨f, hf⟩ : ∃ f, f = upd (upd (upd (upd (upd (upd (upd (upd (fun _ => 0) 0 (nI y)) 1 (nI n)) 2 (nI (jAl n m))) 3 (nI (zcnt (fun p => nI p < m 8 (9 * p + 5)) n))) 4 (nI L)) 5 (nI (zcnt (fun l => m 9 (4 * l + 2) = -1) L))) 6 (nI (zcnt (jRu L m) n))) 7 (nI (zcnt (jYo L y m) n)) := ⟨_, rfl⟩
  have all : ∀ w, w < 8 → F_X5_count k (nI w) = some (0, f w) := by
    intro w hw
    have : w = 0 ∨ w = 1 ∨ w = 2 ∨ w = 3 ∨ w = 4 ∨ w = 5 ∨ w = 6 ∨ w = 7 := by omega
    rw [hf]
    rcases this with rfl | rfl | rfl | rfl | rfl | rfl | rfl | rfl
    · exact rd_c0 S
    · exact rd_c1 S
    · exact rd_c2 S
    · exact rd_c3 S
    · exact rd_c4 S
    · exact rd_c5 S
    · exact rd_c6 S
    · exact rd_c7 S
  have l596 := is_596 (z := z) (a := nI (jAl n m)) (b := jAg y m n) all 8 0 kN (by decide) (by decide)
  rw [is_625 S] at l596
  have l596 : F_X8_isSame_596 z kN (nI (jAl n m)) (jAg y m n) 0 8 f k = some ((1, k), 32, 192) := l596
  rw [hf] at l596
  have b0 : ((8 : Int32) < 0 ∨ 100000000 < 8) = False := eq_false (by decide)
  have z0 : ((0 : Int32) < 0) = False := eq_false (by decide)
  have z1 : ((1 : Int32) < 0) = False := eq_false (by decide)
  have z2 : ((2 : Int32) < 0) = False := eq_false (by decide)
  have z3 : ((3 : Int32) < 0) = False := eq_false (by decide)
  have z4 : ((4 : Int32) < 0) = False := eq_false (by decide)
  have z5 : ((5 : Int32) < 0) = False := eq_false (by decide)
  have z6 : ((6 : Int32) < 0) = False := eq_false (by decide)
  have z7 : ((7 : Int32) < 0) = False := eq_false (by decide)
  have two : ((2 : Int32) = 0) = False := eq_false (by decide)
  simp only [F_X8_isSame_537, t0, t1, t2, t3, t4, t5, t6, t7, t8, b0, if_false, z0, z1, z2, z3, z4, z5, z6, z7, two, pz_ge (show 0 < 8 by decide), pz_ge (show 1 < 8 by decide), pz_ge (show 2 < 8 by decide), pz_ge (show 3 < 8 by decide), pz_ge (show 4 < 8 by decide), pz_ge (show 5 < 8 by decide), pz_ge (show 6 < 8 by decide), pz_ge (show 7 < 8 by decide), or_self, jSt_z0 S, jR_ln R, jR_lL R, half, l596, pz_kadds]
end ZS
