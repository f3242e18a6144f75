/-! SIM'S WRITING METHODS AS FUNCTIONS -/
-- X8_rule
def F_X8_rule_9 (z : kS) : Option (kS × Nat × Nat) :=
  some (z, 0, 0)
def F_X8_rule_34 (c24 : Int32 → Int32 → Int32 → Int32 → (Nat → Int32) → kS → Option (kS × Nat × Nat)) (v1 : Int32) (v2 : Int32) (v4 : Int32) (xl17 : Int32) (xf17 : Nat → Int32) (z : kS) : Option (kS × Nat × Nat) :=
  if (v1 < 0 ∨ jM z ≤ v1.toNatClampNeg) then none else if (v4 < 0 ∨ (z 16 v1.toNatClampNeg).toNatClampNeg ≤ v4.toNatClampNeg) then none else if ((v4 + 1) < 0 ∨ xl17.toNatClampNeg ≤ (v4 + 1).toNatClampNeg) then none else if jbad (jN z) (z (4 * v1.toNatClampNeg + 3) v4.toNatClampNeg) then none else c24 v1 v2 (v4 + 1) xl17 (upd xf17 (v4 + 1).toNatClampNeg (z (4 * v1.toNatClampNeg + 3) v4.toNatClampNeg)) z
def F_X8_rule_53 (v1 : Int32) (v2 : Int32) (xl17 : Int32) (xf17 : Nat → Int32) (z : kS) : Option (kS × Nat × Nat) :=
  if ((0 : Int32) < 0 ∨ xl17.toNatClampNeg ≤ (0 : Int32).toNatClampNeg) then none else if jbad (jN z) v2 then none else if (v1 < 0 ∨ jM z ≤ v1.toNatClampNeg) then none else some ((kst (kst z (4 * v1.toNatClampNeg + 3) (upd xf17 (0 : Int32).toNatClampNeg v2)) 16 (upd (z 16) v1.toNatClampNeg xl17)), 0, 0)
def F_X8_rule_24 : Nat → Int32 → Int32 → Int32 → Int32 → (Nat → Int32) → kS → Option (kS × Nat × Nat)
  | 0, _, _, _, _, _, _ => none
  | n + 1, v1, v2, v4, xl17, xf17, z => if (v1 < 0 ∨ jM z ≤ v1.toNatClampNeg) then none else if (nI (z 16 v1.toNatClampNeg).toNatClampNeg) ≤ v4 then F_X8_rule_53 v1 v2 xl17 xf17 z else F_X8_rule_34 (F_X8_rule_24 n) v1 v2 v4 xl17 xf17 z
def F_X8_rule_10 (v1 : Int32) (v2 : Int32) (z : kS) : Option (kS × Nat × Nat) :=
  if (v1 < 0 ∨ jM z ≤ v1.toNatClampNeg) then none else if (((nI (z 16 v1.toNatClampNeg).toNatClampNeg) + 1) < 0 ∨ 100000000 < ((nI (z 16 v1.toNatClampNeg).toNatClampNeg) + 1).toNatClampNeg) then none else kadd 1 ((nI (z 16 v1.toNatClampNeg).toNatClampNeg) + 1).toNatClampNeg (F_X8_rule_24 kN v1 v2 0 ((nI (z 16 v1.toNatClampNeg).toNatClampNeg) + 1) (fun _ => -1) z)
def F_X8_rule_0 (v1 : Int32) (v2 : Int32) (z : kS) : Option (kS × Nat × Nat) :=
  if (v1 < 0 ∨ jM z ≤ v1.toNatClampNeg) then none else if v2 = (-1) then F_X8_rule_9 (kput z (4 * v1.toNatClampNeg + 2) 2 v2) else F_X8_rule_10 v1 v2 (kput z (4 * v1.toNatClampNeg + 2) 2 v2)
def F_X8_rule (v1 : Int32) (v2 : Int32) (z : kS) : Option (kS × Nat × Nat) :=
  F_X8_rule_0 v1 v2 z
-- X8_marry
def F_X8_marry_14 (z : kS) : Option (kS × Nat × Nat) :=
  some (z, 0, 0)
def F_X8_marry_56 (s1 : Int32) (s2 : Int32) (z : kS) : Option (kS × Nat × Nat) :=
  (F_X8_rule s1 s2 z).bind fun x56_1 => kadd x56_1.2.1 x56_1.2.2 (some (x56_1.1, 0, 0))
def F_X8_marry_51 (s1 : Int32) (v2 : Int32) (z : kS) : Option (kS × Nat × Nat) :=
  F_X8_marry_56 s1 v2 z
def F_X8_marry_55 (s1 : Int32) (v1 : Int32) (z : kS) : Option (kS × Nat × Nat) :=
  F_X8_marry_56 s1 v1 z
def F_X8_marry_15 (v1 : Int32) (v2 : Int32) (v3 : Int32) (z : kS) : Option (kS × Nat × Nat) :=
  if (v3 < 0 ∨ jM z ≤ v3.toNatClampNeg) then none else if (v1 < 0 ∨ jN z ≤ v1.toNatClampNeg) then none else if (v2 < 0 ∨ jN (kput z (4 * v1.toNatClampNeg + 1) 7 v3) ≤ v2.toNatClampNeg) then none else if (v1 < 0 ∨ jN (kput (kput z (4 * v1.toNatClampNeg + 1) 7 v3) (4 * v2.toNatClampNeg + 1) 7 v3) ≤ v1.toNatClampNeg) then none else if (v2 < 0 ∨ jN (kput (kput (kput z (4 * v1.toNatClampNeg + 1) 7 v3) (4 * v2.toNatClampNeg + 1) 7 v3) (4 * v1.toNatClampNeg + 1) 8 (z (4 * v3.toNatClampNeg + 2) 2)) ≤ v2.toNatClampNeg) then none else if jbad (jN (kput (kput (kput (kput z (4 * v1.toNatClampNeg + 1) 7 v3) (4 * v2.toNatClampNeg + 1) 7 v3) (4 * v1.toNatClampNeg + 1) 8 (z (4 * v3.toNatClampNeg + 2) 2)) (4 * v2.toNatClampNeg + 1) 8 (z (4 * v3.toNatClampNeg + 2) 2))) (z (4 * v3.toNatClampNeg + 2) 2) then none else if jbad (jN (kput (kput (kput (kput z (4 * v1.toNatClampNeg + 1) 7 v3) (4 * v2.toNatClampNeg + 1) 7 v3) (4 * v1.toNatClampNeg + 1) 8 (z (4 * v3.toNatClampNeg + 2) 2)) (4 * v2.toNatClampNeg + 1) 8 (z (4 * v3.toNatClampNeg + 2) 2))) v1 then none else if (z (4 * v3.toNatClampNeg + 2) 2) = v1 then F_X8_marry_51 v3 v2 (kput (kput (kput (kput z (4 * v1.toNatClampNeg + 1) 7 v3) (4 * v2.toNatClampNeg + 1) 7 v3) (4 * v1.toNatClampNeg + 1) 8 (z (4 * v3.toNatClampNeg + 2) 2)) (4 * v2.toNatClampNeg + 1) 8 (z (4 * v3.toNatClampNeg + 2) 2)) else F_X8_marry_55 v3 v1 (kput (kput (kput (kput z (4 * v1.toNatClampNeg + 1) 7 v3) (4 * v2.toNatClampNeg + 1) 7 v3) (4 * v1.toNatClampNeg + 1) 8 (z (4 * v3.toNatClampNeg + 2) 2)) (4 * v2.toNatClampNeg + 1) 8 (z (4 * v3.toNatClampNeg + 2) 2))
def F_X8_marry_0 (v1 : Int32) (v2 : Int32) (v3 : Int32) (z : kS) : Option (kS × Nat × Nat) :=
  if (v1 < 0 ∨ jN z ≤ v1.toNatClampNeg) then none else if (v2 < 0 ∨ jN (kput z (4 * v1.toNatClampNeg + 1) 6 v2) ≤ v2.toNatClampNeg) then none else if v3 = (-1) then F_X8_marry_14 (kput (kput z (4 * v1.toNatClampNeg + 1) 6 v2) (4 * v2.toNatClampNeg + 1) 6 v1) else F_X8_marry_15 v1 v2 v3 (kput (kput z (4 * v1.toNatClampNeg + 1) 6 v2) (4 * v2.toNatClampNeg + 1) 6 v1)
def F_X8_marry (v1 : Int32) (v2 : Int32) (v3 : Int32) (z : kS) : Option (kS × Nat × Nat) :=
  F_X8_marry_0 v1 v2 v3 z
-- X8_annul
def F_X8_annul_43 (z : kS) : Option ((Int32 × kS) × Nat × Nat) :=
  some (((-1), z), 0, 0)
def F_X8_annul_65 (c54 : Int32 → Int32 → kS → Option ((Int32 × kS) × Nat × Nat)) (v2 : Int32) (v5 : Int32) (z : kS) : Option ((Int32 × kS) × Nat × Nat) :=
  c54 v2 (v5 + 1) z
def F_X8_annul_71 (v5 : Int32) (z : kS) : Option ((Int32 × kS) × Nat × Nat) :=
  some ((v5, z), 0, 0)
def F_X8_annul_54 : Nat → Int32 → Int32 → kS → Option ((Int32 × kS) × Nat × Nat)
  | 0, _, _, _ => none
  | n + 1, v2, v5, z => if (v5 < 0 ∨ (z 12 1).toNatClampNeg ≤ v5.toNatClampNeg) then none else if jbad (jM z) (z 8 v5.toNatClampNeg) then none else if jbad (jM z) v2 then none else if (z 8 v5.toNatClampNeg) = v2 then F_X8_annul_71 v5 z else F_X8_annul_65 (F_X8_annul_54 n) v2 v5 z
def F_X8_annul_45 (v2 : Int32) (v3 : Int32) (z : kS) : Option ((Int32 × kS) × Nat × Nat) :=
  (F_X8_rule v2 v3 z).bind fun x45_1 => kadd x45_1.2.1 x45_1.2.2 (F_X8_annul_54 kN v2 0 x45_1.1)
def F_X8_annul_34 (v2 : Int32) (v3 : Int32) (v4 : Int32) (z : kS) : Option ((Int32 × kS) × Nat × Nat) :=
  if (v2 < 0 ∨ jM z ≤ v2.toNatClampNeg) then none else if jbad (jN z) (z (4 * v2.toNatClampNeg + 2) 2) then none else if jbad (jN z) v4 then none else if (z (4 * v2.toNatClampNeg + 2) 2) = v4 then F_X8_annul_45 v2 v3 z else F_X8_annul_43 z
def F_X8_annul_23 (s0 : Int32) (v1 : Int32) (v2 : Int32) (v3 : Int32) (z : kS) : Option ((Int32 × kS) × Nat × Nat) :=
  (F_X8_part v1 z).bind fun x23_1 => if v2 = (-1) then F_X8_annul_43 x23_1 else F_X8_annul_34 v2 v3 s0 x23_1
def F_X8_annul_15 (v1 : Int32) (v2 : Int32) (v3 : Int32) (z : kS) : Option ((Int32 × kS) × Nat × Nat) :=
  if (v1 < 0 ∨ jN z ≤ v1.toNatClampNeg) then none else F_X8_annul_23 (z (4 * v1.toNatClampNeg + 1) 6) v1 v2 v3 z
def F_X8_annul_22 (v1 : Int32) (v2 : Int32) (v3 : Int32) (z : kS) : Option ((Int32 × kS) × Nat × Nat) :=
  F_X8_annul_23 v1 v1 v2 v3 z
def F_X8_annul_0 (v1 : Int32) (z : kS) : Option ((Int32 × kS) × Nat × Nat) :=
  if (v1 < 0 ∨ jN z ≤ v1.toNatClampNeg) then none else if (v1 < 0 ∨ jN z ≤ v1.toNatClampNeg) then none else if jbad (jN z) (z (4 * v1.toNatClampNeg + 1) 8) then none else if jbad (jN z) v1 then none else if (z (4 * v1.toNatClampNeg + 1) 8) = v1 then F_X8_annul_15 v1 (z (4 * v1.toNatClampNeg + 1) 7) (z (4 * v1.toNatClampNeg + 1) 8) z else F_X8_annul_22 v1 (z (4 * v1.toNatClampNeg + 1) 7) (z (4 * v1.toNatClampNeg + 1) 8) z
def F_X8_annul (v1 : Int32) (z : kS) : Option ((Int32 × kS) × Nat × Nat) :=
  F_X8_annul_0 v1 z
-- X8_die
def F_X8_die_57 (c14 : Int32 → Int32 → Int32 → Int32 → (Nat → Int32) → kS → Option ((Int32 × kS) × Nat × Nat)) (v1 : Int32) (v3 : Int32) (v4 : Int32) (xl5 : Int32) (xf5 : Nat → Int32) (z : kS) : Option ((Int32 × kS) × Nat × Nat) :=
  c14 v1 v3 (v4 + 1) xl5 xf5 z
def F_X8_die_38 (c14 : Int32 → Int32 → Int32 → Int32 → (Nat → Int32) → kS → Option ((Int32 × kS) × Nat × Nat)) (v1 : Int32) (v3 : Int32) (v4 : Int32) (xl5 : Int32) (xf5 : Nat → Int32) (z : kS) : Option ((Int32 × kS) × Nat × Nat) :=
  if (v4 < 0 ∨ (z 12 1).toNatClampNeg ≤ v4.toNatClampNeg) then none else if ((z 8 v4.toNatClampNeg) < 0 ∨ jM z ≤ (z 8 v4.toNatClampNeg).toNatClampNeg) then none else (F_X8_heir z v1 (z (4 * (z 8 v4.toNatClampNeg).toNatClampNeg + 2) 1)).bind fun x38_3 => kadd x38_3.2.1 x38_3.2.2 (if (v4 < 0 ∨ xl5.toNatClampNeg ≤ v4.toNatClampNeg) then none else if jbad (jN z) x38_3.1 then none else F_X8_die_57 c14 v1 v3 v4 xl5 (upd xf5 v4.toNatClampNeg x38_3.1) z)
def F_X8_die_24 (c14 : Int32 → Int32 → Int32 → Int32 → (Nat → Int32) → kS → Option ((Int32 × kS) × Nat × Nat)) (v1 : Int32) (v3 : Int32) (v4 : Int32) (xl5 : Int32) (xf5 : Nat → Int32) (z : kS) : Option ((Int32 × kS) × Nat × Nat) :=
  if (v4 < 0 ∨ (z 12 1).toNatClampNeg ≤ v4.toNatClampNeg) then none else if ((z 8 v4.toNatClampNeg) < 0 ∨ jM z ≤ (z 8 v4.toNatClampNeg).toNatClampNeg) then none else if jbad (jN z) (z (4 * (z 8 v4.toNatClampNeg).toNatClampNeg + 2) 2) then none else if jbad (jN z) v1 then none else if (z (4 * (z 8 v4.toNatClampNeg).toNatClampNeg + 2) 2) = v1 then F_X8_die_38 c14 v1 v3 v4 xl5 xf5 z else F_X8_die_57 c14 v1 v3 v4 xl5 xf5 z
def F_X8_die_111 (c66 : Int32 → Int32 → Int32 → Int32 → (Nat → Int32) → kS → Option ((Int32 × kS) × Nat × Nat)) (v1 : Int32) (v3 : Int32) (v4 : Int32) (xl5 : Int32) (xf5 : Nat → Int32) (z : kS) : Option ((Int32 × kS) × Nat × Nat) :=
  c66 v1 v3 (v4 + 1) xl5 xf5 z
def F_X8_die_90 (c66 : Int32 → Int32 → Int32 → Int32 → (Nat → Int32) → kS → Option ((Int32 × kS) × Nat × Nat)) (v1 : Int32) (v3 : Int32) (v4 : Int32) (xl5 : Int32) (xf5 : Nat → Int32) (z : kS) : Option ((Int32 × kS) × Nat × Nat) :=
  F_X8_die_111 c66 v1 v3 v4 xl5 xf5 z
def F_X8_die_93 (c66 : Int32 → Int32 → Int32 → Int32 → (Nat → Int32) → kS → Option ((Int32 × kS) × Nat × Nat)) (v1 : Int32) (v3 : Int32) (v4 : Int32) (xl5 : Int32) (xf5 : Nat → Int32) (z : kS) : Option ((Int32 × kS) × Nat × Nat) :=
  if (v4 < 0 ∨ (z 12 1).toNatClampNeg ≤ v4.toNatClampNeg) then none else if (v4 < 0 ∨ xl5.toNatClampNeg ≤ v4.toNatClampNeg) then none else (F_X8_rule (z 8 v4.toNatClampNeg) (xf5 v4.toNatClampNeg) z).bind fun x93_3 => kadd x93_3.2.1 x93_3.2.2 (F_X8_die_111 c66 v1 (v3 + 1) v4 xl5 xf5 x93_3.1)
def F_X8_die_76 (c66 : Int32 → Int32 → Int32 → Int32 → (Nat → Int32) → kS → Option ((Int32 × kS) × Nat × Nat)) (v1 : Int32) (v3 : Int32) (v4 : Int32) (xl5 : Int32) (xf5 : Nat → Int32) (z : kS) : Option ((Int32 × kS) × Nat × Nat) :=
  if (v4 < 0 ∨ (z 12 1).toNatClampNeg ≤ v4.toNatClampNeg) then none else if ((z 8 v4.toNatClampNeg) < 0 ∨ jM z ≤ (z 8 v4.toNatClampNeg).toNatClampNeg) then none else if jbad (jN z) (z (4 * (z 8 v4.toNatClampNeg).toNatClampNeg + 2) 2) then none else if jbad (jN z) v1 then none else if (z (4 * (z 8 v4.toNatClampNeg).toNatClampNeg + 2) 2) = v1 then F_X8_die_93 c66 v1 v3 v4 xl5 xf5 z else F_X8_die_90 c66 v1 v3 v4 xl5 xf5 z
def F_X8_die_117 (v1 : Int32) (v3 : Int32) (z : kS) : Option ((Int32 × kS) × Nat × Nat) :=
  if (v1 < 0 ∨ jN z ≤ v1.toNatClampNeg) then none else (F_X8_part v1 (kput z (4 * v1.toNatClampNeg + 1) 3 (z 0 0))).bind fun x117_2 => some ((v3, x117_2), 0, 0)
def F_X8_die_66 : Nat → Int32 → Int32 → Int32 → Int32 → (Nat → Int32) → kS → Option ((Int32 × kS) × Nat × Nat)
  | 0, _, _, _, _, _, _ => none
  | n + 1, v1, v3, v4, xl5, xf5, z => if (nI (z 12 1).toNatClampNeg) ≤ v4 then F_X8_die_117 v1 v3 z else F_X8_die_76 (F_X8_die_66 n) v1 v3 v4 xl5 xf5 z
def F_X8_die_63 (v1 : Int32) (v3 : Int32) (xl5 : Int32) (xf5 : Nat → Int32) (z : kS) : Option ((Int32 × kS) × Nat × Nat) :=
  F_X8_die_66 kN v1 v3 0 xl5 xf5 z
def F_X8_die_14 : Nat → Int32 → Int32 → Int32 → Int32 → (Nat → Int32) → kS → Option ((Int32 × kS) × Nat × Nat)
  | 0, _, _, _, _, _, _ => none
  | n + 1, v1, v3, v4, xl5, xf5, z => if (nI (z 12 1).toNatClampNeg) ≤ v4 then F_X8_die_63 v1 v3 xl5 xf5 z else F_X8_die_24 (F_X8_die_14 n) v1 v3 v4 xl5 xf5 z
def F_X8_die_0 (v1 : Int32) (z : kS) : Option ((Int32 × kS) × Nat × Nat) :=
  if ((nI (z 12 1).toNatClampNeg) < 0 ∨ 100000000 < (nI (z 12 1).toNatClampNeg).toNatClampNeg) then none else kadd 1 (nI (z 12 1).toNatClampNeg).toNatClampNeg (F_X8_die_14 kN v1 0 0 (nI (z 12 1).toNatClampNeg) (fun _ => -1) z)
def F_X8_die (v1 : Int32) (z : kS) : Option ((Int32 × kS) × Nat × Nat) :=
  F_X8_die_0 v1 z
-- X8_pass
def F_X8_pass_71 (c23 : Int32 → Int32 → Int32 → kS → Option ((Int32 × kS) × Nat × Nat)) (v1 : Int32) (v3 : Int32) (v4 : Int32) (z : kS) : Option ((Int32 × kS) × Nat × Nat) :=
  c23 v1 v3 (v4 + 1) z
def F_X8_pass_58 (c23 : Int32 → Int32 → Int32 → kS → Option ((Int32 × kS) × Nat × Nat)) (v1 : Int32) (v3 : Int32) (v4 : Int32) (z : kS) : Option ((Int32 × kS) × Nat × Nat) :=
  F_X8_pass_71 c23 v1 v3 v4 z
def F_X8_pass_61 (c23 : Int32 → Int32 → Int32 → kS → Option ((Int32 × kS) × Nat × Nat)) (v1 : Int32) (v3 : Int32) (v4 : Int32) (v5 : Int32) (z : kS) : Option ((Int32 × kS) × Nat × Nat) :=
  (F_X8_die v5 z).bind fun x61_1 => kadd x61_1.2.1 x61_1.2.2 (F_X8_pass_71 c23 (v1 + 1) v3 v4 x61_1.1.2)
def F_X8_pass_43 (c23 : Int32 → Int32 → Int32 → kS → Option ((Int32 × kS) × Nat × Nat)) (v1 : Int32) (v3 : Int32) (v4 : Int32) (v5 : Int32) (z : kS) : Option ((Int32 × kS) × Nat × Nat) :=
  if (v5 < 0 ∨ jN z ≤ v5.toNatClampNeg) then none else if 80 ≤ ((z 0 0) - (z (4 * v5.toNatClampNeg + 1) 2)) then F_X8_pass_61 c23 v1 v3 v4 v5 z else F_X8_pass_58 c23 v1 v3 v4 z
def F_X8_pass_29 (c23 : Int32 → Int32 → Int32 → kS → Option ((Int32 × kS) × Nat × Nat)) (v1 : Int32) (v3 : Int32) (v4 : Int32) (z : kS) : Option ((Int32 × kS) × Nat × Nat) :=
  if (v4 < 0 ∨ (z 12 0).toNatClampNeg ≤ v4.toNatClampNeg) then none else if ((z 4 v4.toNatClampNeg) < 0 ∨ jN z ≤ (z 4 v4.toNatClampNeg).toNatClampNeg) then none else if 0 ≤ (z (4 * (z 4 v4.toNatClampNeg).toNatClampNeg + 1) 3) then F_X8_pass_71 c23 v1 v3 v4 z else F_X8_pass_43 c23 v1 v3 v4 (z 4 v4.toNatClampNeg) z
def F_X8_pass_77 (v1 : Int32) (z : kS) : Option ((Int32 × kS) × Nat × Nat) :=
  some ((v1, z), 0, 0)
def F_X8_pass_23 : Nat → Int32 → Int32 → Int32 → kS → Option ((Int32 × kS) × Nat × Nat)
  | 0, _, _, _, _ => none
  | n + 1, v1, v3, v4, z => if v3 ≤ v4 then F_X8_pass_77 v1 z else F_X8_pass_29 (F_X8_pass_23 n) v1 v3 v4 z
def F_X8_pass_0 (z : kS) : Option ((Int32 × kS) × Nat × Nat) :=
  F_X8_pass_23 kN 0 (nI ((kput z 0 0 ((z 0 0) + 1)) 12 0).toNatClampNeg) 0 (kput z 0 0 ((z 0 0) + 1))
def F_X8_pass (z : kS) : Option ((Int32 × kS) × Nat × Nat) :=
  F_X8_pass_0 z
