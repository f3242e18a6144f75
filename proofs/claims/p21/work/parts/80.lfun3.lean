/-! BUILD AS A FUNCTION -/
-- L_build
noncomputable def F_L_build_48 (xs : Nat → Int32) (L : Nat) (k : kS) (z : kS) : Option ((kS × kS) × Nat × Nat) :=
  none
noncomputable def F_L_build_109 (xs : Nat → Int32) (L : Nat) (c10 : Int32 → kS → kS → Option ((kS × kS) × Nat × Nat)) (v3 : Int32) (k : kS) (z : kS) : Option ((kS × kS) × Nat × Nat) :=
  c10 (v3 + 1) k z
noncomputable def F_L_build_65 (xs : Nat → Int32) (L : Nat) (c10 : Int32 → kS → kS → Option ((kS × kS) × Nat × Nat)) (v3 : Int32) (k : kS) (z : kS) : Option ((kS × kS) × Nat × Nat) :=
  F_L_build_109 xs L c10 v3 k z
noncomputable def F_L_build_81 (xs : Nat → Int32) (L : Nat) (c10 : Int32 → kS → kS → Option ((kS × kS) × Nat × Nat)) (c74 : Int32 → Int32 → Int32 → Int32 → kS → kS → Option ((kS × kS) × Nat × Nat)) (v3 : Int32) (v5 : Int32) (v6 : Int32) (v7 : Int32) (k : kS) (z : kS) : Option ((kS × kS) × Nat × Nat) :=
  (F_X8_pass z).bind fun x81_1 => kadd x81_1.2.1 x81_1.2.2 (c74 v3 v5 (v6 + x81_1.1.1) (v7 + 1) k x81_1.1.2)
noncomputable def F_L_build_107 (xs : Nat → Int32) (L : Nat) (k : kS) (z : kS) : Option ((kS × kS) × Nat × Nat) :=
  none
noncomputable def F_L_build_96 (xs : Nat → Int32) (L : Nat) (c10 : Int32 → kS → kS → Option ((kS × kS) × Nat × Nat)) (v3 : Int32) (v5 : Int32) (v6 : Int32) (k : kS) (z : kS) : Option ((kS × kS) × Nat × Nat) :=
  (F_X5_pass v5 k).bind fun x96_1 => if ¬ (x96_1.1.1 = 0) then none else kadd 4 24 (if x96_1.1.2 = v6 then F_L_build_109 xs L c10 v3 x96_1.2 z else F_L_build_107 xs L x96_1.2 z)
noncomputable def F_L_build_74 (xs : Nat → Int32) (L : Nat) (c10 : Int32 → kS → kS → Option ((kS × kS) × Nat × Nat)) : Nat → Int32 → Int32 → Int32 → Int32 → kS → kS → Option ((kS × kS) × Nat × Nat)
  | 0, _, _, _, _, _, _ => none
  | n + 1, v3, v5, v6, v7, k, z => if v5 ≤ v7 then F_L_build_96 xs L c10 v3 v5 v6 k z else F_L_build_81 xs L c10 (F_L_build_74 xs L c10 n) v3 v5 v6 v7 k z
noncomputable def F_L_build_68 (xs : Nat → Int32) (L : Nat) (c10 : Int32 → kS → kS → Option ((kS × kS) × Nat × Nat)) (v3 : Int32) (v5 : Int32) (k : kS) (z : kS) : Option ((kS × kS) × Nat × Nat) :=
  F_L_build_74 xs L c10 kN v3 v5 0 0 k z
noncomputable def F_L_build_50 (xs : Nat → Int32) (L : Nat) (c10 : Int32 → kS → kS → Option ((kS × kS) × Nat × Nat)) (v3 : Int32) (v4 : Int32) (k : kS) (z : kS) : Option ((kS × kS) × Nat × Nat) :=
  (F_L_below z (v4 >>> (5 &&& 31)) 4).bind fun x50_1 => if x50_1 = 0 then F_L_build_65 xs L c10 v3 k z else F_L_build_68 xs L c10 v3 x50_1 k z
noncomputable def F_L_build_16 (xs : Nat → Int32) (L : Nat) (c10 : Int32 → kS → kS → Option ((kS × kS) × Nat × Nat)) (v3 : Int32) (k : kS) (z : kS) : Option ((kS × kS) × Nat × Nat) :=
  if (13 : Int32) = 0 then none else (F_L_cell xs L (v3 - v3 / 13 * 13)).bind fun x16_2 => if (13 : Int32) = 0 then none else (F_L_act ((x16_2 >>> (((v3 / 13) * 5) &&& 31)) + (109 * v3)) k z).bind fun x16_4 => kadd x16_4.2.1 x16_4.2.2 (if x16_4.1.1 = 0 then F_L_build_48 xs L x16_4.1.2.1 x16_4.1.2.2 else F_L_build_50 xs L c10 v3 ((x16_2 >>> (((v3 / 13) * 5) &&& 31)) + (109 * v3)) x16_4.1.2.1 x16_4.1.2.2)
noncomputable def F_L_build_115 (xs : Nat → Int32) (L : Nat) (k : kS) (z : kS) : Option ((kS × kS) × Nat × Nat) :=
  some ((k, z), 0, 0)
noncomputable def F_L_build_10 (xs : Nat → Int32) (L : Nat) : Nat → Int32 → kS → kS → Option ((kS × kS) × Nat × Nat)
  | 0, _, _, _ => none
  | n + 1, v3, k, z => if 26 ≤ v3 then F_L_build_115 xs L k z else F_L_build_16 xs L (F_L_build_10 xs L n) v3 k z
noncomputable def F_L_build_0 (xs : Nat → Int32) (L : Nat) (k : kS) (z : kS) : Option ((kS × kS) × Nat × Nat) :=
  kadd 3 3 (F_L_build_10 xs L kN 0 k jS0)
noncomputable def F_L_build (xs : Nat → Int32) (L : Nat) (k : kS) : Option ((kS × kS) × Nat × Nat) :=
  F_L_build_0 xs L k jS0
