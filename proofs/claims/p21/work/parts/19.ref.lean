/-! THE REFERENCE AS PURE FUNCTIONS (of the claim whole): a middle that both the class and the law are held to; none of its bytecode is here -/
-- X6_thrown
def F_X6_thrown_0 (mo : kS) : Option (Int32) :=
  some (mo 7 0)
def F_X6_thrown (mo : kS) : Option (Int32) :=
  F_X6_thrown_0 mo
-- X6_fail
def F_X6_fail_0 (v1 : Int32) (mo : kS) : Option ((Int32 × kS)) :=
  some (0, (kst mo 7 (upd (mo 7) 0 v1)))
def F_X6_fail (v1 : Int32) (mo : kS) : Option ((Int32 × kS)) :=
  F_X6_fail_0 v1 mo
-- X6_isIn
def F_X6_isIn_15 (mo : kS) (s0 : Int32) : Option (Int32) :=
  if ¬ (s0 = 0 ∨ s0 = 1) then none else some s0
def F_X6_isIn_10 (mo : kS) : Option (Int32) :=
  F_X6_isIn_15 mo 1
def F_X6_isIn_14 (mo : kS) : Option (Int32) :=
  F_X6_isIn_15 mo 0
def F_X6_isIn_5 (mo : kS) (v0 : Int32) (v2 : Int32) : Option (Int32) :=
  if v2 < v0 then F_X6_isIn_14 mo else F_X6_isIn_10 mo
def F_X6_isIn_0 (mo : kS) (v0 : Int32) (v1 : Int32) (v2 : Int32) : Option (Int32) :=
  if v0 < v1 then F_X6_isIn_14 mo else F_X6_isIn_5 mo v0 v2
def F_X6_isIn (mo : kS) (v0 : Int32) (v1 : Int32) (v2 : Int32) : Option (Int32) :=
  F_X6_isIn_0 mo v0 v1 v2
-- X6_isPerson
def F_X6_isPerson_0 (mo : kS) (v1 : Int32) : Option (Int32) :=
  (F_X6_isIn mo v1 0 ((mo 7 1) - 1)).bind fun x0_1 => if ¬ (x0_1 = 0 ∨ x0_1 = 1) then none else some x0_1
def F_X6_isPerson (mo : kS) (v1 : Int32) : Option (Int32) :=
  F_X6_isPerson_0 mo v1
-- X6_isLand
def F_X6_isLand_0 (mo : kS) (v1 : Int32) : Option (Int32) :=
  (F_X6_isIn mo v1 0 ((mo 7 2) - 1)).bind fun x0_1 => if ¬ (x0_1 = 0 ∨ x0_1 = 1) then none else some x0_1
def F_X6_isLand (mo : kS) (v1 : Int32) : Option (Int32) :=
  F_X6_isLand_0 mo v1
-- X6_pe
def F_X6_pe_0 (mo : kS) (v1 : Int32) (v2 : Int32) : Option (Int32) :=
  if (((9 * v1) + v2) < 0 ∨ 360 ≤ ((9 * v1) + v2).toNatClampNeg) then none else some (mo 8 ((9 * v1) + v2).toNatClampNeg)
def F_X6_pe (mo : kS) (v1 : Int32) (v2 : Int32) : Option (Int32) :=
  F_X6_pe_0 mo v1 v2
-- X6_set
def F_X6_set_0 (v1 : Int32) (v2 : Int32) (v3 : Int32) (mo : kS) : Option (kS) :=
  if (((9 * v1) + v2) < 0 ∨ 360 ≤ ((9 * v1) + v2).toNatClampNeg) then none else some (kst mo 8 (upd (mo 8) ((9 * v1) + v2).toNatClampNeg v3))
def F_X6_set (v1 : Int32) (v2 : Int32) (v3 : Int32) (mo : kS) : Option (kS) :=
  F_X6_set_0 v1 v2 v3 mo
-- X6_la
def F_X6_la_0 (mo : kS) (v1 : Int32) (v2 : Int32) : Option (Int32) :=
  if (((4 * v1) + v2) < 0 ∨ 48 ≤ ((4 * v1) + v2).toNatClampNeg) then none else some (mo 9 ((4 * v1) + v2).toNatClampNeg)
def F_X6_la (mo : kS) (v1 : Int32) (v2 : Int32) : Option (Int32) :=
  F_X6_la_0 mo v1 v2
-- X6_lives
def F_X6_lives_15 (mo : kS) (s0 : Int32) : Option (Int32) :=
  if ¬ (s0 = 0 ∨ s0 = 1) then none else some s0
def F_X6_lives_10 (mo : kS) : Option (Int32) :=
  F_X6_lives_15 mo 1
def F_X6_lives_14 (mo : kS) : Option (Int32) :=
  F_X6_lives_15 mo 0
def F_X6_lives_0 (mo : kS) (v1 : Int32) : Option (Int32) :=
  (F_X6_pe mo v1 2).bind fun x0_1 => if x0_1 = 1 then F_X6_lives_10 mo else F_X6_lives_14 mo
def F_X6_lives (mo : kS) (v1 : Int32) : Option (Int32) :=
  F_X6_lives_0 mo v1
-- X6_age
def F_X6_age_0 (mo : kS) (v1 : Int32) : Option (Int32) :=
  if ((0 : Int32) < 0 ∨ 1 ≤ (0 : Int32).toNatClampNeg) then none else (F_X6_pe mo v1 1).bind fun x0_2 => some ((mo 11 (0 : Int32).toNatClampNeg) - x0_2)
def F_X6_age (mo : kS) (v1 : Int32) : Option (Int32) :=
  F_X6_age_0 mo v1
-- X6_person
def F_X6_person_0 (v1 : Int32) (v2 : Int32) (v3 : Int32) (v4 : Int32) (mo : kS) : Option ((Int32 × kS) × Nat × Nat) :=
  kadd 1 9 (if ((0 : Int32) < 0 ∨ 9 ≤ (0 : Int32).toNatClampNeg) then none else if ((1 : Int32) < 0 ∨ 9 ≤ (1 : Int32).toNatClampNeg) then none else if ((2 : Int32) < 0 ∨ 9 ≤ (2 : Int32).toNatClampNeg) then none else if ((3 : Int32) < 0 ∨ 9 ≤ (3 : Int32).toNatClampNeg) then none else if ((4 : Int32) < 0 ∨ 9 ≤ (4 : Int32).toNatClampNeg) then none else if ((5 : Int32) < 0 ∨ 9 ≤ (5 : Int32).toNatClampNeg) then none else if ((6 : Int32) < 0 ∨ 9 ≤ (6 : Int32).toNatClampNeg) then none else if ((7 : Int32) < 0 ∨ 9 ≤ (7 : Int32).toNatClampNeg) then none else if ((8 : Int32) < 0 ∨ 9 ≤ (8 : Int32).toNatClampNeg) then none else if ((0 : Int32) < 0 ∨ (9 * (mo 7 1)) < 0 ∨ (9 : Int32) < 0 ∨ 9 < (0 : Int32).toNatClampNeg + (9 : Int32).toNatClampNeg ∨ 360 < (9 * (mo 7 1)).toNatClampNeg + (9 : Int32).toNatClampNeg) then none else some (((((kst (kst mo 8 (va_cpy (upd (upd (upd (upd (upd (upd (upd (upd (upd (fun _ => 0) (0 : Int32).toNatClampNeg v1) (1 : Int32).toNatClampNeg v2) (2 : Int32).toNatClampNeg 1) (3 : Int32).toNatClampNeg v3) (4 : Int32).toNatClampNeg v4) (5 : Int32).toNatClampNeg (-1)) (6 : Int32).toNatClampNeg (-1)) (7 : Int32).toNatClampNeg (-1)) (8 : Int32).toNatClampNeg (-1)) (mo 8) (0 : Int32).toNatClampNeg (9 * (mo 7 1)).toNatClampNeg (9 : Int32).toNatClampNeg)) 7 (upd ((kst mo 8 (va_cpy (upd (upd (upd (upd (upd (upd (upd (upd (upd (fun _ => 0) (0 : Int32).toNatClampNeg v1) (1 : Int32).toNatClampNeg v2) (2 : Int32).toNatClampNeg 1) (3 : Int32).toNatClampNeg v3) (4 : Int32).toNatClampNeg v4) (5 : Int32).toNatClampNeg (-1)) (6 : Int32).toNatClampNeg (-1)) (7 : Int32).toNatClampNeg (-1)) (8 : Int32).toNatClampNeg (-1)) (mo 8) (0 : Int32).toNatClampNeg (9 * (mo 7 1)).toNatClampNeg (9 : Int32).toNatClampNeg)) 7) 1 (((kst mo 8 (va_cpy (upd (upd (upd (upd (upd (upd (upd (upd (upd (fun _ => 0) (0 : Int32).toNatClampNeg v1) (1 : Int32).toNatClampNeg v2) (2 : Int32).toNatClampNeg 1) (3 : Int32).toNatClampNeg v3) (4 : Int32).toNatClampNeg v4) (5 : Int32).toNatClampNeg (-1)) (6 : Int32).toNatClampNeg (-1)) (7 : Int32).toNatClampNeg (-1)) (8 : Int32).toNatClampNeg (-1)) (mo 8) (0 : Int32).toNatClampNeg (9 * (mo 7 1)).toNatClampNeg (9 : Int32).toNatClampNeg)) 7 1) + 1))) 7 1) - 1), (kst (kst mo 8 (va_cpy (upd (upd (upd (upd (upd (upd (upd (upd (upd (fun _ => 0) (0 : Int32).toNatClampNeg v1) (1 : Int32).toNatClampNeg v2) (2 : Int32).toNatClampNeg 1) (3 : Int32).toNatClampNeg v3) (4 : Int32).toNatClampNeg v4) (5 : Int32).toNatClampNeg (-1)) (6 : Int32).toNatClampNeg (-1)) (7 : Int32).toNatClampNeg (-1)) (8 : Int32).toNatClampNeg (-1)) (mo 8) (0 : Int32).toNatClampNeg (9 * (mo 7 1)).toNatClampNeg (9 : Int32).toNatClampNeg)) 7 (upd ((kst mo 8 (va_cpy (upd (upd (upd (upd (upd (upd (upd (upd (upd (fun _ => 0) (0 : Int32).toNatClampNeg v1) (1 : Int32).toNatClampNeg v2) (2 : Int32).toNatClampNeg 1) (3 : Int32).toNatClampNeg v3) (4 : Int32).toNatClampNeg v4) (5 : Int32).toNatClampNeg (-1)) (6 : Int32).toNatClampNeg (-1)) (7 : Int32).toNatClampNeg (-1)) (8 : Int32).toNatClampNeg (-1)) (mo 8) (0 : Int32).toNatClampNeg (9 * (mo 7 1)).toNatClampNeg (9 : Int32).toNatClampNeg)) 7) 1 (((kst mo 8 (va_cpy (upd (upd (upd (upd (upd (upd (upd (upd (upd (fun _ => 0) (0 : Int32).toNatClampNeg v1) (1 : Int32).toNatClampNeg v2) (2 : Int32).toNatClampNeg 1) (3 : Int32).toNatClampNeg v3) (4 : Int32).toNatClampNeg v4) (5 : Int32).toNatClampNeg (-1)) (6 : Int32).toNatClampNeg (-1)) (7 : Int32).toNatClampNeg (-1)) (8 : Int32).toNatClampNeg (-1)) (mo 8) (0 : Int32).toNatClampNeg (9 * (mo 7 1)).toNatClampNeg (9 : Int32).toNatClampNeg)) 7 1) + 1)))), 0, 0))
def F_X6_person (v1 : Int32) (v2 : Int32) (v3 : Int32) (v4 : Int32) (mo : kS) : Option ((Int32 × kS) × Nat × Nat) :=
  F_X6_person_0 v1 v2 v3 v4 mo
-- X6_come
def F_X6_come_15 (mo : kS) : Option ((Int32 × kS) × Nat × Nat) :=
  (F_X6_fail 1 mo).bind fun x15_1 => some ((x15_1.1, x15_1.2), 0, 0)
def F_X6_come_61 (s0 : Int32) (mo : kS) : Option ((Int32 × kS) × Nat × Nat) :=
  some ((s0, mo), 0, 0)
def F_X6_come_30 (mo : kS) : Option ((Int32 × kS) × Nat × Nat) :=
  (F_X6_fail 2 mo).bind fun x30_1 => F_X6_come_61 x30_1.1 x30_1.2
def F_X6_come_48 (s1 : Int32) (v2 : Int32) (mo : kS) : Option ((Int32 × kS) × Nat × Nat) :=
  if ((0 : Int32) < 0 ∨ 1 ≤ (0 : Int32).toNatClampNeg) then none else (F_X6_person s1 ((mo 11 (0 : Int32).toNatClampNeg) - v2) (-1) (-1) mo).bind fun x48_2 => kadd x48_2.2.1 x48_2.2.2 (F_X6_come_61 x48_2.1.1 x48_2.1.2)
def F_X6_come_43 (v2 : Int32) (mo : kS) : Option ((Int32 × kS) × Nat × Nat) :=
  F_X6_come_48 1 v2 mo
def F_X6_come_47 (v2 : Int32) (mo : kS) : Option ((Int32 × kS) × Nat × Nat) :=
  F_X6_come_48 0 v2 mo
def F_X6_come_38 (v1 : Int32) (v2 : Int32) (mo : kS) : Option ((Int32 × kS) × Nat × Nat) :=
  if v1 = 0 then F_X6_come_47 v2 mo else F_X6_come_43 v2 mo
def F_X6_come_21 (v1 : Int32) (v2 : Int32) (mo : kS) : Option ((Int32 × kS) × Nat × Nat) :=
  if (mo 7 1) = 40 then F_X6_come_30 mo else F_X6_come_38 v1 v2 mo
def F_X6_come_0 (v1 : Int32) (v2 : Int32) (mo : kS) : Option ((Int32 × kS) × Nat × Nat) :=
  (F_X6_isIn (kst mo 7 (upd (mo 7) 0 0)) v2 0 60).bind fun x0_1 => if x0_1 = 0 then F_X6_come_15 (kst mo 7 (upd (mo 7) 0 0)) else F_X6_come_21 v1 v2 (kst mo 7 (upd (mo 7) 0 0))
def F_X6_come (v1 : Int32) (v2 : Int32) (mo : kS) : Option ((Int32 × kS) × Nat × Nat) :=
  F_X6_come_0 v1 v2 mo
-- X6_bear
def F_X6_bear_13 (mo : kS) : Option ((Int32 × kS) × Nat × Nat) :=
  (F_X6_fail 1 mo).bind fun x13_1 => some ((x13_1.1, x13_1.2), 0, 0)
def F_X6_bear_56 (mo : kS) : Option ((Int32 × kS) × Nat × Nat) :=
  (F_X6_fail 2 mo).bind fun x56_1 => some ((x56_1.1, x56_1.2), 0, 0)
def F_X6_bear_72 (s1 : Int32) (v1 : Int32) (mo : kS) : Option ((Int32 × kS) × Nat × Nat) :=
  if ((0 : Int32) < 0 ∨ 1 ≤ (0 : Int32).toNatClampNeg) then none else (F_X6_pe mo v1 5).bind fun x72_2 => (F_X6_person s1 (mo 11 (0 : Int32).toNatClampNeg) v1 x72_2 mo).bind fun x72_3 => kadd x72_3.2.1 x72_3.2.2 (some ((x72_3.1.1, x72_3.1.2), 0, 0))
def F_X6_bear_67 (v1 : Int32) (mo : kS) : Option ((Int32 × kS) × Nat × Nat) :=
  F_X6_bear_72 1 v1 mo
def F_X6_bear_71 (v1 : Int32) (mo : kS) : Option ((Int32 × kS) × Nat × Nat) :=
  F_X6_bear_72 0 v1 mo
def F_X6_bear_62 (v1 : Int32) (v2 : Int32) (mo : kS) : Option ((Int32 × kS) × Nat × Nat) :=
  if v2 = 0 then F_X6_bear_71 v1 mo else F_X6_bear_67 v1 mo
def F_X6_bear_47 (v1 : Int32) (v2 : Int32) (mo : kS) : Option ((Int32 × kS) × Nat × Nat) :=
  if (mo 7 1) = 40 then F_X6_bear_56 mo else F_X6_bear_62 v1 v2 mo
def F_X6_bear_39 (v1 : Int32) (v2 : Int32) (mo : kS) : Option ((Int32 × kS) × Nat × Nat) :=
  (F_X6_lives mo v1).bind fun x39_1 => if x39_1 = 0 then F_X6_bear_56 mo else F_X6_bear_47 v1 v2 mo
def F_X6_bear_29 (v1 : Int32) (v2 : Int32) (mo : kS) : Option ((Int32 × kS) × Nat × Nat) :=
  (F_X6_pe mo v1 5).bind fun x29_1 => if x29_1 = (-1) then F_X6_bear_56 mo else F_X6_bear_39 v1 v2 mo
def F_X6_bear_19 (v1 : Int32) (v2 : Int32) (mo : kS) : Option ((Int32 × kS) × Nat × Nat) :=
  (F_X6_pe mo v1 0).bind fun x19_1 => if x19_1 = 1 then F_X6_bear_56 mo else F_X6_bear_29 v1 v2 mo
def F_X6_bear_0 (v1 : Int32) (v2 : Int32) (mo : kS) : Option ((Int32 × kS) × Nat × Nat) :=
  (F_X6_isPerson (kst mo 7 (upd (mo 7) 0 0)) v1).bind fun x0_1 => if x0_1 = 0 then F_X6_bear_13 (kst mo 7 (upd (mo 7) 0 0)) else F_X6_bear_19 v1 v2 (kst mo 7 (upd (mo 7) 0 0))
def F_X6_bear (v1 : Int32) (v2 : Int32) (mo : kS) : Option ((Int32 × kS) × Nat × Nat) :=
  F_X6_bear_0 v1 v2 mo
-- X6_rule
def F_X6_rule_16 (mo : kS) : Option (kS) :=
  some mo
def F_X6_rule_17 (v1 : Int32) (v2 : Int32) (mo : kS) : Option (kS) :=
  if ((15 * v1) < 0 ∨ ((15 * v1) + 1) < 0 ∨ (14 : Int32) < 0 ∨ 180 < (15 * v1).toNatClampNeg + (14 : Int32).toNatClampNeg ∨ 180 < ((15 * v1) + 1).toNatClampNeg + (14 : Int32).toNatClampNeg) then none else if ((15 * v1) < 0 ∨ 180 ≤ (15 * v1).toNatClampNeg) then none else if (((4 * v1) + 3) < 0 ∨ 48 ≤ ((4 * v1) + 3).toNatClampNeg) then none else if (((4 * v1) + 3) < 0 ∨ 48 ≤ ((4 * v1) + 3).toNatClampNeg) then none else some (kst (kst (kst mo 10 (va_cpy (mo 10) (mo 10) (15 * v1).toNatClampNeg ((15 * v1) + 1).toNatClampNeg (14 : Int32).toNatClampNeg)) 10 (upd ((kst mo 10 (va_cpy (mo 10) (mo 10) (15 * v1).toNatClampNeg ((15 * v1) + 1).toNatClampNeg (14 : Int32).toNatClampNeg)) 10) (15 * v1).toNatClampNeg v2)) 9 (upd ((kst (kst mo 10 (va_cpy (mo 10) (mo 10) (15 * v1).toNatClampNeg ((15 * v1) + 1).toNatClampNeg (14 : Int32).toNatClampNeg)) 10 (upd ((kst mo 10 (va_cpy (mo 10) (mo 10) (15 * v1).toNatClampNeg ((15 * v1) + 1).toNatClampNeg (14 : Int32).toNatClampNeg)) 10) (15 * v1).toNatClampNeg v2)) 9) ((4 * v1) + 3).toNatClampNeg (((kst (kst mo 10 (va_cpy (mo 10) (mo 10) (15 * v1).toNatClampNeg ((15 * v1) + 1).toNatClampNeg (14 : Int32).toNatClampNeg)) 10 (upd ((kst mo 10 (va_cpy (mo 10) (mo 10) (15 * v1).toNatClampNeg ((15 * v1) + 1).toNatClampNeg (14 : Int32).toNatClampNeg)) 10) (15 * v1).toNatClampNeg v2)) 9 ((4 * v1) + 3).toNatClampNeg) + 1)))
def F_X6_rule_0 (v1 : Int32) (v2 : Int32) (mo : kS) : Option (kS) :=
  if (((4 * v1) + 2) < 0 ∨ 48 ≤ ((4 * v1) + 2).toNatClampNeg) then none else if v2 = (-1) then F_X6_rule_16 (kst mo 9 (upd (mo 9) ((4 * v1) + 2).toNatClampNeg v2)) else F_X6_rule_17 v1 v2 (kst mo 9 (upd (mo 9) ((4 * v1) + 2).toNatClampNeg v2))
def F_X6_rule (v1 : Int32) (v2 : Int32) (mo : kS) : Option (kS) :=
  F_X6_rule_0 v1 v2 mo
-- X6_found
def F_X6_found_24 (mo : kS) : Option ((Int32 × kS) × Nat × Nat) :=
  (F_X6_fail 1 mo).bind fun x24_1 => some ((x24_1.1, x24_1.2), 0, 0)
def F_X6_found_43 (mo : kS) : Option ((Int32 × kS) × Nat × Nat) :=
  (F_X6_fail 2 mo).bind fun x43_1 => some ((x43_1.1, x43_1.2), 0, 0)
def F_X6_found_71 (mo : kS) : Option ((Int32 × kS) × Nat × Nat) :=
  (F_X6_fail 3 mo).bind fun x71_1 => some ((x71_1.1, x71_1.2), 0, 0)
def F_X6_found_77 (v1 : Int32) (v2 : Int32) (v3 : Int32) (mo : kS) : Option ((Int32 × kS) × Nat × Nat) :=
  kadd 1 4 (if ((0 : Int32) < 0 ∨ 4 ≤ (0 : Int32).toNatClampNeg) then none else if ((1 : Int32) < 0 ∨ 4 ≤ (1 : Int32).toNatClampNeg) then none else if ((2 : Int32) < 0 ∨ 4 ≤ (2 : Int32).toNatClampNeg) then none else if ((3 : Int32) < 0 ∨ 4 ≤ (3 : Int32).toNatClampNeg) then none else if ((0 : Int32) < 0 ∨ (4 * (mo 7 2)) < 0 ∨ (4 : Int32) < 0 ∨ 4 < (0 : Int32).toNatClampNeg + (4 : Int32).toNatClampNeg ∨ 48 < (4 * (mo 7 2)).toNatClampNeg + (4 : Int32).toNatClampNeg) then none else (F_X6_rule ((kst mo 9 (va_cpy (upd (upd (upd (upd (fun _ => 0) (0 : Int32).toNatClampNeg v1) (1 : Int32).toNatClampNeg v2) (2 : Int32).toNatClampNeg (-1)) (3 : Int32).toNatClampNeg 0) (mo 9) (0 : Int32).toNatClampNeg (4 * (mo 7 2)).toNatClampNeg (4 : Int32).toNatClampNeg)) 7 2) v3 (kst mo 9 (va_cpy (upd (upd (upd (upd (fun _ => 0) (0 : Int32).toNatClampNeg v1) (1 : Int32).toNatClampNeg v2) (2 : Int32).toNatClampNeg (-1)) (3 : Int32).toNatClampNeg 0) (mo 9) (0 : Int32).toNatClampNeg (4 * (mo 7 2)).toNatClampNeg (4 : Int32).toNatClampNeg))).bind fun x77_8 => some (((((kst x77_8 7 (upd (x77_8 7) 2 ((x77_8 7 2) + 1))) 7 2) - 1), (kst x77_8 7 (upd (x77_8 7) 2 ((x77_8 7 2) + 1)))), 0, 0))
def F_X6_found_63 (v1 : Int32) (v2 : Int32) (v3 : Int32) (mo : kS) : Option ((Int32 × kS) × Nat × Nat) :=
  (F_X6_lives mo v3).bind fun x63_1 => if x63_1 = 0 then F_X6_found_71 mo else F_X6_found_77 v1 v2 v3 mo
def F_X6_found_58 (v1 : Int32) (v2 : Int32) (v3 : Int32) (mo : kS) : Option ((Int32 × kS) × Nat × Nat) :=
  if v3 = (-1) then F_X6_found_77 v1 v2 v3 mo else F_X6_found_63 v1 v2 v3 mo
def F_X6_found_49 (v1 : Int32) (v2 : Int32) (v3 : Int32) (mo : kS) : Option ((Int32 × kS) × Nat × Nat) :=
  if (mo 7 2) = 12 then F_X6_found_71 mo else F_X6_found_58 v1 v2 v3 mo
def F_X6_found_35 (v1 : Int32) (v2 : Int32) (v3 : Int32) (mo : kS) : Option ((Int32 × kS) × Nat × Nat) :=
  (F_X6_isPerson mo v3).bind fun x35_1 => if x35_1 = 0 then F_X6_found_43 mo else F_X6_found_49 v1 v2 v3 mo
def F_X6_found_30 (v1 : Int32) (v2 : Int32) (v3 : Int32) (mo : kS) : Option ((Int32 × kS) × Nat × Nat) :=
  if v3 = (-1) then F_X6_found_49 v1 v2 v3 mo else F_X6_found_35 v1 v2 v3 mo
def F_X6_found_15 (v1 : Int32) (v2 : Int32) (v3 : Int32) (mo : kS) : Option ((Int32 × kS) × Nat × Nat) :=
  (F_X6_isIn mo v2 0 3).bind fun x15_1 => if x15_1 = 0 then F_X6_found_24 mo else F_X6_found_30 v1 v2 v3 mo
def F_X6_found_0 (v1 : Int32) (v2 : Int32) (v3 : Int32) (mo : kS) : Option ((Int32 × kS) × Nat × Nat) :=
  (F_X6_isIn (kst mo 7 (upd (mo 7) 0 0)) v1 1 50).bind fun x0_1 => if x0_1 = 0 then F_X6_found_24 (kst mo 7 (upd (mo 7) 0 0)) else F_X6_found_15 v1 v2 v3 (kst mo 7 (upd (mo 7) 0 0))
def F_X6_found (v1 : Int32) (v2 : Int32) (v3 : Int32) (mo : kS) : Option ((Int32 × kS) × Nat × Nat) :=
  F_X6_found_0 v1 v2 v3 mo
-- X6_setLaw
def F_X6_setLaw_13 (mo : kS) : Option ((Int32 × kS)) :=
  (F_X6_fail 1 mo).bind fun x13_1 => some (x13_1.1, x13_1.2)
def F_X6_setLaw_28 (mo : kS) : Option ((Int32 × kS)) :=
  (F_X6_fail 2 mo).bind fun x28_1 => some (x28_1.1, x28_1.2)
def F_X6_setLaw_34 (v1 : Int32) (v2 : Int32) (mo : kS) : Option ((Int32 × kS)) :=
  (F_X6_la mo v1 1).bind fun x34_1 => if (((4 * v1) + 1) < 0 ∨ 48 ≤ ((4 * v1) + 1).toNatClampNeg) then none else some (x34_1, (kst mo 9 (upd (mo 9) ((4 * v1) + 1).toNatClampNeg v2)))
def F_X6_setLaw_19 (v1 : Int32) (v2 : Int32) (mo : kS) : Option ((Int32 × kS)) :=
  (F_X6_isIn mo v2 0 3).bind fun x19_1 => if x19_1 = 0 then F_X6_setLaw_28 mo else F_X6_setLaw_34 v1 v2 mo
def F_X6_setLaw_0 (v1 : Int32) (v2 : Int32) (mo : kS) : Option ((Int32 × kS)) :=
  (F_X6_isLand (kst mo 7 (upd (mo 7) 0 0)) v1).bind fun x0_1 => if x0_1 = 0 then F_X6_setLaw_13 (kst mo 7 (upd (mo 7) 0 0)) else F_X6_setLaw_19 v1 v2 (kst mo 7 (upd (mo 7) 0 0))
def F_X6_setLaw (v1 : Int32) (v2 : Int32) (mo : kS) : Option ((Int32 × kS)) :=
  F_X6_setLaw_0 v1 v2 mo
-- X6_climb
def F_X6_climb_24 (P : Nat) (c2 : Int32 → Int32 → kS → Option (kS)) (s1 : Int32) (s2 : Int32) (v1 : Int32) (v3 : Int32) (mo : kS) : Option (kS) :=
  if (s1 < 0 ∨ 40 ≤ s1.toNatClampNeg) then none else c2 v1 (v3 + 1) (kst mo P (upd (mo P) s1.toNatClampNeg s2))
def F_X6_climb_17 (P : Nat) (c2 : Int32 → Int32 → kS → Option (kS)) (s1 : Int32) (v1 : Int32) (v3 : Int32) (mo : kS) : Option (kS) :=
  F_X6_climb_24 P c2 s1 0 v1 v3 mo
def F_X6_climb_21 (P : Nat) (c2 : Int32 → Int32 → kS → Option (kS)) (s1 : Int32) (v1 : Int32) (v3 : Int32) (mo : kS) : Option (kS) :=
  F_X6_climb_24 P c2 s1 999 v1 v3 mo
def F_X6_climb_10 (P : Nat) (c2 : Int32 → Int32 → kS → Option (kS)) (v1 : Int32) (v3 : Int32) (mo : kS) : Option (kS) :=
  if v3 = v1 then F_X6_climb_17 P c2 v3 v1 v3 mo else F_X6_climb_21 P c2 v3 v1 v3 mo
def F_X6_climb_107 (P : Nat) (c33 : Int32 → kS → Option (kS)) (v3 : Int32) (mo : kS) : Option (kS) :=
  c33 (v3 + (-1)) mo
def F_X6_climb_56 (P : Nat) (c33 : Int32 → kS → Option (kS)) (v3 : Int32) (mo : kS) : Option (kS) :=
  F_X6_climb_107 P c33 v3 mo
def F_X6_climb_59 (P : Nat) (c33 : Int32 → kS → Option (kS)) (v3 : Int32) (mo : kS) : Option (kS) :=
  (F_X6_pe mo v3 3).bind fun x59_1 => (F_X6_pe mo v3 3).bind fun x59_2 => if (x59_2 < 0 ∨ 40 ≤ x59_2.toNatClampNeg) then none else if (v3 < 0 ∨ 40 ≤ v3.toNatClampNeg) then none else if (x59_1 < 0 ∨ 40 ≤ x59_1.toNatClampNeg) then none else (F_X6_pe (kst mo P (upd (mo P) x59_1.toNatClampNeg (if ((mo P v3.toNatClampNeg) + 1) < (mo P x59_2.toNatClampNeg) then ((mo P v3.toNatClampNeg) + 1) else (mo P x59_2.toNatClampNeg)))) v3 4).bind fun x59_6 => (F_X6_pe (kst mo P (upd (mo P) x59_1.toNatClampNeg (if ((mo P v3.toNatClampNeg) + 1) < (mo P x59_2.toNatClampNeg) then ((mo P v3.toNatClampNeg) + 1) else (mo P x59_2.toNatClampNeg)))) v3 4).bind fun x59_7 => if (x59_7 < 0 ∨ 40 ≤ x59_7.toNatClampNeg) then none else if (v3 < 0 ∨ 40 ≤ v3.toNatClampNeg) then none else if (x59_6 < 0 ∨ 40 ≤ x59_6.toNatClampNeg) then none else F_X6_climb_107 P c33 v3 (kst (kst mo P (upd (mo P) x59_1.toNatClampNeg (if ((mo P v3.toNatClampNeg) + 1) < (mo P x59_2.toNatClampNeg) then ((mo P v3.toNatClampNeg) + 1) else (mo P x59_2.toNatClampNeg)))) P (upd ((kst mo P (upd (mo P) x59_1.toNatClampNeg (if ((mo P v3.toNatClampNeg) + 1) < (mo P x59_2.toNatClampNeg) then ((mo P v3.toNatClampNeg) + 1) else (mo P x59_2.toNatClampNeg)))) P) x59_6.toNatClampNeg (if (((kst mo P (upd (mo P) x59_1.toNatClampNeg (if ((mo P v3.toNatClampNeg) + 1) < (mo P x59_2.toNatClampNeg) then ((mo P v3.toNatClampNeg) + 1) else (mo P x59_2.toNatClampNeg)))) P v3.toNatClampNeg) + 1) < ((kst mo P (upd (mo P) x59_1.toNatClampNeg (if ((mo P v3.toNatClampNeg) + 1) < (mo P x59_2.toNatClampNeg) then ((mo P v3.toNatClampNeg) + 1) else (mo P x59_2.toNatClampNeg)))) P x59_7.toNatClampNeg) then (((kst mo P (upd (mo P) x59_1.toNatClampNeg (if ((mo P v3.toNatClampNeg) + 1) < (mo P x59_2.toNatClampNeg) then ((mo P v3.toNatClampNeg) + 1) else (mo P x59_2.toNatClampNeg)))) P v3.toNatClampNeg) + 1) else ((kst mo P (upd (mo P) x59_1.toNatClampNeg (if ((mo P v3.toNatClampNeg) + 1) < (mo P x59_2.toNatClampNeg) then ((mo P v3.toNatClampNeg) + 1) else (mo P x59_2.toNatClampNeg)))) P x59_7.toNatClampNeg))))
def F_X6_climb_46 (P : Nat) (c33 : Int32 → kS → Option (kS)) (v3 : Int32) (mo : kS) : Option (kS) :=
  (F_X6_pe mo v3 3).bind fun x46_1 => if x46_1 = (-1) then F_X6_climb_56 P c33 v3 mo else F_X6_climb_59 P c33 v3 mo
def F_X6_climb_37 (P : Nat) (c33 : Int32 → kS → Option (kS)) (v3 : Int32) (mo : kS) : Option (kS) :=
  if (v3 < 0 ∨ 40 ≤ v3.toNatClampNeg) then none else if (mo P v3.toNatClampNeg) = 999 then F_X6_climb_107 P c33 v3 mo else F_X6_climb_46 P c33 v3 mo
def F_X6_climb_113 (P : Nat) (mo : kS) : Option (kS) :=
  some mo
def F_X6_climb_33 (P : Nat) : Nat → Int32 → kS → Option (kS)
  | 0, _, _ => none
  | n + 1, v3, mo => if v3 < 0 then F_X6_climb_113 P mo else F_X6_climb_37 P (F_X6_climb_33 P n) v3 mo
def F_X6_climb_31 (P : Nat) (v1 : Int32) (mo : kS) : Option (kS) :=
  F_X6_climb_33 P kN v1 mo
def F_X6_climb_2 (P : Nat) : Nat → Int32 → Int32 → kS → Option (kS)
  | 0, _, _, _ => none
  | n + 1, v1, v3, mo => if (mo 7 1) ≤ v3 then F_X6_climb_31 P v1 mo else F_X6_climb_10 P (F_X6_climb_2 P n) v1 v3 mo
def F_X6_climb_0 (P : Nat) (v1 : Int32) (mo : kS) : Option (kS) :=
  F_X6_climb_2 P kN v1 0 mo
def F_X6_climb (P : Nat) (v1 : Int32) (mo : kS) : Option (kS) :=
  F_X6_climb_0 P v1 mo
-- X6_steps
def F_X6_steps_34 (c25 : Int32 → Int32 → kS → Option ((Int32 × kS))) (v3 : Int32) (v4 : Int32) (mo : kS) : Option ((Int32 × kS)) :=
  if (v4 < 0 ∨ 40 ≤ v4.toNatClampNeg) then none else if (v4 < 0 ∨ 40 ≤ v4.toNatClampNeg) then none else c25 (if ((mo 12 v4.toNatClampNeg) + (mo 13 v4.toNatClampNeg)) < v3 then ((mo 12 v4.toNatClampNeg) + (mo 13 v4.toNatClampNeg)) else v3) (v4 + 1) mo
def F_X6_steps_60 (v3 : Int32) (mo : kS) : Option ((Int32 × kS)) :=
  some (v3, mo)
def F_X6_steps_25 : Nat → Int32 → Int32 → kS → Option ((Int32 × kS))
  | 0, _, _, _ => none
  | n + 1, v3, v4, mo => if (mo 7 1) ≤ v4 then F_X6_steps_60 v3 mo else F_X6_steps_34 (F_X6_steps_25 n) v3 v4 mo
def F_X6_steps_0 (v1 : Int32) (v2 : Int32) (mo : kS) : Option ((Int32 × kS)) :=
  (F_X6_climb 12 v1 mo).bind fun x0_1 => (F_X6_climb 13 v2 x0_1).bind fun x0_2 => F_X6_steps_25 kN 999 0 x0_2
def F_X6_steps (v1 : Int32) (v2 : Int32) (mo : kS) : Option ((Int32 × kS)) :=
  F_X6_steps_0 v1 v2 mo
-- X6_isBefore
def F_X6_isBefore_40 (mo : kS) (s0 : Int32) : Option (Int32) :=
  if ¬ (s0 = 0 ∨ s0 = 1) then none else some s0
def F_X6_isBefore_35 (mo : kS) : Option (Int32) :=
  F_X6_isBefore_40 mo 1
def F_X6_isBefore_39 (mo : kS) : Option (Int32) :=
  F_X6_isBefore_40 mo 0
def F_X6_isBefore_30 (mo : kS) (v1 : Int32) (v2 : Int32) : Option (Int32) :=
  if v2 ≤ v1 then F_X6_isBefore_39 mo else F_X6_isBefore_35 mo
def F_X6_isBefore_15 (mo : kS) (v1 : Int32) (v2 : Int32) : Option (Int32) :=
  (F_X6_pe mo v1 1).bind fun x15_1 => (F_X6_pe mo v2 1).bind fun x15_2 => if x15_1 = x15_2 then F_X6_isBefore_30 mo v1 v2 else F_X6_isBefore_39 mo
def F_X6_isBefore_0 (mo : kS) (v1 : Int32) (v2 : Int32) : Option (Int32) :=
  (F_X6_pe mo v1 1).bind fun x0_1 => (F_X6_pe mo v2 1).bind fun x0_2 => if x0_1 < x0_2 then F_X6_isBefore_35 mo else F_X6_isBefore_15 mo v1 v2
def F_X6_isBefore (mo : kS) (v1 : Int32) (v2 : Int32) : Option (Int32) :=
  F_X6_isBefore_0 mo v1 v2
-- X6_isAhead
def F_X6_isAhead_34 (mo : kS) (s0 : Int32) : Option (Int32) :=
  if ¬ (s0 = 0 ∨ s0 = 1) then none else some s0
def F_X6_isAhead_29 (mo : kS) : Option (Int32) :=
  F_X6_isAhead_34 mo 1
def F_X6_isAhead_33 (mo : kS) : Option (Int32) :=
  F_X6_isAhead_34 mo 0
def F_X6_isAhead_19 (mo : kS) (v1 : Int32) : Option (Int32) :=
  (F_X6_pe mo v1 0).bind fun x19_1 => if x19_1 = 1 then F_X6_isAhead_29 mo else F_X6_isAhead_33 mo
def F_X6_isAhead_55 (mo : kS) (s0 : Int32) : Option (Int32) :=
  if ¬ (s0 = 0 ∨ s0 = 1) then none else some s0
def F_X6_isAhead_40 (mo : kS) (v1 : Int32) (v2 : Int32) : Option (Int32) :=
  (F_X6_isBefore mo v2 v1).bind fun x40_1 => F_X6_isAhead_55 mo x40_1
def F_X6_isAhead_49 (mo : kS) (v1 : Int32) (v2 : Int32) : Option (Int32) :=
  (F_X6_isBefore mo v1 v2).bind fun x49_1 => F_X6_isAhead_55 mo x49_1
def F_X6_isAhead_35 (mo : kS) (v1 : Int32) (v2 : Int32) (v3 : Int32) : Option (Int32) :=
  if v3 = 2 then F_X6_isAhead_40 mo v1 v2 else F_X6_isAhead_49 mo v1 v2
def F_X6_isAhead_4 (mo : kS) (v1 : Int32) (v2 : Int32) (v3 : Int32) : Option (Int32) :=
  (F_X6_pe mo v1 0).bind fun x4_1 => (F_X6_pe mo v2 0).bind fun x4_2 => if x4_1 = x4_2 then F_X6_isAhead_35 mo v1 v2 v3 else F_X6_isAhead_19 mo v1
def F_X6_isAhead_0 (mo : kS) (v1 : Int32) (v2 : Int32) (v3 : Int32) : Option (Int32) :=
  if v3 = 0 then F_X6_isAhead_4 mo v1 v2 v3 else F_X6_isAhead_35 mo v1 v2 v3
def F_X6_isAhead (mo : kS) (v1 : Int32) (v2 : Int32) (v3 : Int32) : Option (Int32) :=
  F_X6_isAhead_0 mo v1 v2 v3
-- X6_isChild
def F_X6_isChild_25 (mo : kS) (s0 : Int32) : Option (Int32) :=
  if ¬ (s0 = 0 ∨ s0 = 1) then none else some s0
def F_X6_isChild_20 (mo : kS) : Option (Int32) :=
  F_X6_isChild_25 mo 1
def F_X6_isChild_24 (mo : kS) : Option (Int32) :=
  F_X6_isChild_25 mo 0
def F_X6_isChild_10 (mo : kS) (v1 : Int32) (v2 : Int32) : Option (Int32) :=
  (F_X6_pe mo v1 4).bind fun x10_1 => if x10_1 = v2 then F_X6_isChild_20 mo else F_X6_isChild_24 mo
def F_X6_isChild_0 (mo : kS) (v1 : Int32) (v2 : Int32) : Option (Int32) :=
  (F_X6_pe mo v1 3).bind fun x0_1 => if x0_1 = v2 then F_X6_isChild_20 mo else F_X6_isChild_10 mo v1 v2
def F_X6_isChild (mo : kS) (v1 : Int32) (v2 : Int32) : Option (Int32) :=
  F_X6_isChild_0 mo v1 v2
-- X6_nextChild
def F_X6_nextChild_66 (mo : kS) (c6 : Int32 → Int32 → Int32 → Int32 → Int32 → Option (Int32)) (v1 : Int32) (v2 : Int32) (v3 : Int32) (v4 : Int32) (v5 : Int32) : Option (Int32) :=
  c6 v1 v2 v3 v4 (v5 + 1)
def F_X6_nextChild_41 (mo : kS) (c6 : Int32 → Int32 → Int32 → Int32 → Int32 → Option (Int32)) (v1 : Int32) (v2 : Int32) (v3 : Int32) (v4 : Int32) (v5 : Int32) : Option (Int32) :=
  F_X6_nextChild_66 mo c6 v1 v2 v3 v4 v5
def F_X6_nextChild_62 (mo : kS) (c6 : Int32 → Int32 → Int32 → Int32 → Int32 → Option (Int32)) (v1 : Int32) (v2 : Int32) (v3 : Int32) (v5 : Int32) : Option (Int32) :=
  F_X6_nextChild_66 mo c6 v1 v2 v3 v5 v5
def F_X6_nextChild_50 (mo : kS) (c6 : Int32 → Int32 → Int32 → Int32 → Int32 → Option (Int32)) (v1 : Int32) (v2 : Int32) (v3 : Int32) (v4 : Int32) (v5 : Int32) : Option (Int32) :=
  (F_X6_isAhead mo v5 v4 v3).bind fun x50_1 => if x50_1 = 0 then F_X6_nextChild_66 mo c6 v1 v2 v3 v4 v5 else F_X6_nextChild_62 mo c6 v1 v2 v3 v5
def F_X6_nextChild_44 (mo : kS) (c6 : Int32 → Int32 → Int32 → Int32 → Int32 → Option (Int32)) (v1 : Int32) (v2 : Int32) (v3 : Int32) (v4 : Int32) (v5 : Int32) : Option (Int32) :=
  if v4 = (-1) then F_X6_nextChild_62 mo c6 v1 v2 v3 v5 else F_X6_nextChild_50 mo c6 v1 v2 v3 v4 v5
def F_X6_nextChild_30 (mo : kS) (c6 : Int32 → Int32 → Int32 → Int32 → Int32 → Option (Int32)) (v1 : Int32) (v2 : Int32) (v3 : Int32) (v4 : Int32) (v5 : Int32) : Option (Int32) :=
  (F_X6_isAhead mo v2 v5 v3).bind fun x30_1 => if x30_1 = 0 then F_X6_nextChild_41 mo c6 v1 v2 v3 v4 v5 else F_X6_nextChild_44 mo c6 v1 v2 v3 v4 v5
def F_X6_nextChild_25 (mo : kS) (c6 : Int32 → Int32 → Int32 → Int32 → Int32 → Option (Int32)) (v1 : Int32) (v2 : Int32) (v3 : Int32) (v4 : Int32) (v5 : Int32) : Option (Int32) :=
  if v2 = (-1) then F_X6_nextChild_44 mo c6 v1 v2 v3 v4 v5 else F_X6_nextChild_30 mo c6 v1 v2 v3 v4 v5
def F_X6_nextChild_15 (mo : kS) (c6 : Int32 → Int32 → Int32 → Int32 → Int32 → Option (Int32)) (v1 : Int32) (v2 : Int32) (v3 : Int32) (v4 : Int32) (v5 : Int32) : Option (Int32) :=
  (F_X6_isChild mo v5 v1).bind fun x15_1 => if x15_1 = 0 then F_X6_nextChild_66 mo c6 v1 v2 v3 v4 v5 else F_X6_nextChild_25 mo c6 v1 v2 v3 v4 v5
def F_X6_nextChild_72 (mo : kS) (v4 : Int32) : Option (Int32) :=
  some v4
def F_X6_nextChild_6 (mo : kS) : Nat → Int32 → Int32 → Int32 → Int32 → Int32 → Option (Int32)
  | 0, _, _, _, _, _ => none
  | n + 1, v1, v2, v3, v4, v5 => if (mo 7 1) ≤ v5 then F_X6_nextChild_72 mo v4 else F_X6_nextChild_15 mo (F_X6_nextChild_6 mo n) v1 v2 v3 v4 v5
def F_X6_nextChild_0 (mo : kS) (v1 : Int32) (v2 : Int32) (v3 : Int32) : Option (Int32) :=
  F_X6_nextChild_6 mo kN v1 v2 v3 (-1) 0
def F_X6_nextChild (mo : kS) (v1 : Int32) (v2 : Int32) (v3 : Int32) : Option (Int32) :=
  F_X6_nextChild_0 mo v1 v2 v3
-- X6_first
def F_X6_first_30 (self : Int32 → Int32 → Int32 → Option Int32) (mo : kS) (v4 : Int32) : Option (Int32) :=
  some v4
def F_X6_first_49 (self : Int32 → Int32 → Int32 → Option Int32) (mo : kS) (v5 : Int32) : Option (Int32) :=
  some v5
def F_X6_first_52 (self : Int32 → Int32 → Int32 → Option Int32) (mo : kS) (c9 : Int32 → Int32 → Int32 → Int32 → Option (Int32)) (v1 : Int32) (v2 : Int32) (v3 : Int32) (v4 : Int32) : Option (Int32) :=
  (F_X6_nextChild mo v1 v4 v2).bind fun x52_1 => c9 v1 v2 v3 x52_1
def F_X6_first_33 (self : Int32 → Int32 → Int32 → Option Int32) (mo : kS) (c9 : Int32 → Int32 → Int32 → Int32 → Option (Int32)) (v1 : Int32) (v2 : Int32) (v3 : Int32) (v4 : Int32) : Option (Int32) :=
  (self v4 v2 v3).bind fun x33_1 => if x33_1 = (-1) then F_X6_first_52 self mo c9 v1 v2 v3 v4 else F_X6_first_49 self mo x33_1
def F_X6_first_24 (self : Int32 → Int32 → Int32 → Option Int32) (mo : kS) (c9 : Int32 → Int32 → Int32 → Int32 → Option (Int32)) (v1 : Int32) (v2 : Int32) (v3 : Int32) (v4 : Int32) : Option (Int32) :=
  if v4 = v3 then F_X6_first_33 self mo c9 v1 v2 v3 v4 else F_X6_first_30 self mo v4
def F_X6_first_15 (self : Int32 → Int32 → Int32 → Option Int32) (mo : kS) (c9 : Int32 → Int32 → Int32 → Int32 → Option (Int32)) (v1 : Int32) (v2 : Int32) (v3 : Int32) (v4 : Int32) : Option (Int32) :=
  (F_X6_lives mo v4).bind fun x15_1 => if x15_1 = 0 then F_X6_first_33 self mo c9 v1 v2 v3 v4 else F_X6_first_24 self mo c9 v1 v2 v3 v4
def F_X6_first_65 (self : Int32 → Int32 → Int32 → Option Int32) (mo : kS) : Option (Int32) :=
  some (-1)
def F_X6_first_9 (self : Int32 → Int32 → Int32 → Option Int32) (mo : kS) : Nat → Int32 → Int32 → Int32 → Int32 → Option (Int32)
  | 0, _, _, _, _ => none
  | n + 1, v1, v2, v3, v4 => if v4 = (-1) then F_X6_first_65 self mo else F_X6_first_15 self mo (F_X6_first_9 self mo n) v1 v2 v3 v4
def F_X6_first_0 (self : Int32 → Int32 → Int32 → Option Int32) (mo : kS) (v1 : Int32) (v2 : Int32) (v3 : Int32) : Option (Int32) :=
  (F_X6_nextChild mo v1 (-1) v2).bind fun x0_1 => F_X6_first_9 self mo kN v1 v2 v3 x0_1
def F_X6_first (mo : kS) : Nat → Int32 → Int32 → Int32 → Option Int32
  | 0, _, _, _ => none
  | d + 1, v1, v2, v3 => F_X6_first_0 (F_X6_first mo d) mo v1 v2 v3
-- X6_oldest
def F_X6_oldest_53 (c4 : Int32 → Int32 → Int32 → kS → Option ((Int32 × kS))) (v1 : Int32) (v2 : Int32) (v3 : Int32) (mo : kS) : Option ((Int32 × kS)) :=
  c4 v1 v2 (v3 + 1) mo
def F_X6_oldest_51 (c4 : Int32 → Int32 → Int32 → kS → Option ((Int32 × kS))) (v1 : Int32) (v3 : Int32) (mo : kS) : Option ((Int32 × kS)) :=
  F_X6_oldest_53 c4 v1 v3 v3 mo
def F_X6_oldest_42 (c4 : Int32 → Int32 → Int32 → kS → Option ((Int32 × kS))) (v1 : Int32) (v2 : Int32) (v3 : Int32) (mo : kS) : Option ((Int32 × kS)) :=
  (F_X6_isBefore mo v3 v2).bind fun x42_1 => if x42_1 = 0 then F_X6_oldest_53 c4 v1 v2 v3 mo else F_X6_oldest_51 c4 v1 v3 mo
def F_X6_oldest_37 (c4 : Int32 → Int32 → Int32 → kS → Option ((Int32 × kS))) (v1 : Int32) (v2 : Int32) (v3 : Int32) (mo : kS) : Option ((Int32 × kS)) :=
  if v2 = (-1) then F_X6_oldest_51 c4 v1 v3 mo else F_X6_oldest_42 c4 v1 v2 v3 mo
def F_X6_oldest_25 (c4 : Int32 → Int32 → Int32 → kS → Option ((Int32 × kS))) (v1 : Int32) (v2 : Int32) (v3 : Int32) (mo : kS) : Option ((Int32 × kS)) :=
  (F_X6_steps v3 v1 mo).bind fun x25_1 => if 999 ≤ x25_1.1 then F_X6_oldest_53 c4 v1 v2 v3 x25_1.2 else F_X6_oldest_37 c4 v1 v2 v3 x25_1.2
def F_X6_oldest_17 (c4 : Int32 → Int32 → Int32 → kS → Option ((Int32 × kS))) (v1 : Int32) (v2 : Int32) (v3 : Int32) (mo : kS) : Option ((Int32 × kS)) :=
  (F_X6_lives mo v3).bind fun x17_1 => if x17_1 = 0 then F_X6_oldest_53 c4 v1 v2 v3 mo else F_X6_oldest_25 c4 v1 v2 v3 mo
def F_X6_oldest_12 (c4 : Int32 → Int32 → Int32 → kS → Option ((Int32 × kS))) (v1 : Int32) (v2 : Int32) (v3 : Int32) (mo : kS) : Option ((Int32 × kS)) :=
  if v3 = v1 then F_X6_oldest_53 c4 v1 v2 v3 mo else F_X6_oldest_17 c4 v1 v2 v3 mo
def F_X6_oldest_59 (v2 : Int32) (mo : kS) : Option ((Int32 × kS)) :=
  some (v2, mo)
def F_X6_oldest_4 : Nat → Int32 → Int32 → Int32 → kS → Option ((Int32 × kS))
  | 0, _, _, _, _ => none
  | n + 1, v1, v2, v3, mo => if (mo 7 1) ≤ v3 then F_X6_oldest_59 v2 mo else F_X6_oldest_12 (F_X6_oldest_4 n) v1 v2 v3 mo
def F_X6_oldest_0 (v1 : Int32) (mo : kS) : Option ((Int32 × kS)) :=
  F_X6_oldest_4 kN v1 (-1) 0 mo
def F_X6_oldest (v1 : Int32) (mo : kS) : Option ((Int32 × kS)) :=
  F_X6_oldest_0 v1 mo
-- X6_heir
def F_X6_heir_5 (v1 : Int32) (mo : kS) : Option ((Int32 × kS)) :=
  (F_X6_oldest v1 mo).bind fun x5_1 => some (x5_1.1, x5_1.2)
def F_X6_heir_75 (v3 : Int32) (mo : kS) : Option ((Int32 × kS)) :=
  some (v3, mo)
def F_X6_heir_62 (v1 : Int32) (v2 : Int32) (mo : kS) : Option ((Int32 × kS)) :=
  (F_X6_pe mo v1 3).bind fun x62_1 => (F_X6_first mo kD x62_1 v2 v1).bind fun x62_2 => F_X6_heir_75 x62_2 mo
def F_X6_heir_52 (v1 : Int32) (v2 : Int32) (v3 : Int32) (mo : kS) : Option ((Int32 × kS)) :=
  (F_X6_pe mo v1 3).bind fun x52_1 => if x52_1 = (-1) then F_X6_heir_75 v3 mo else F_X6_heir_62 v1 v2 mo
def F_X6_heir_47 (v1 : Int32) (v2 : Int32) (v3 : Int32) (mo : kS) : Option ((Int32 × kS)) :=
  if v3 = (-1) then F_X6_heir_52 v1 v2 v3 mo else F_X6_heir_75 v3 mo
def F_X6_heir_34 (v1 : Int32) (v2 : Int32) (mo : kS) : Option ((Int32 × kS)) :=
  (F_X6_pe mo v1 4).bind fun x34_1 => (F_X6_first mo kD x34_1 v2 v1).bind fun x34_2 => F_X6_heir_47 v1 v2 x34_2 mo
def F_X6_heir_24 (v1 : Int32) (v2 : Int32) (v3 : Int32) (mo : kS) : Option ((Int32 × kS)) :=
  (F_X6_pe mo v1 4).bind fun x24_1 => if x24_1 = (-1) then F_X6_heir_47 v1 v2 v3 mo else F_X6_heir_34 v1 v2 mo
def F_X6_heir_11 (v1 : Int32) (v2 : Int32) (mo : kS) : Option ((Int32 × kS)) :=
  (F_X6_first mo kD v1 v2 v1).bind fun x11_1 => if x11_1 = (-1) then F_X6_heir_24 v1 v2 x11_1 mo else F_X6_heir_47 v1 v2 x11_1 mo
def F_X6_heir_0 (v1 : Int32) (v2 : Int32) (mo : kS) : Option ((Int32 × kS)) :=
  if v2 = 3 then F_X6_heir_5 v1 mo else F_X6_heir_11 v1 v2 mo
def F_X6_heir (v1 : Int32) (v2 : Int32) (mo : kS) : Option ((Int32 × kS)) :=
  F_X6_heir_0 v1 v2 mo
-- X6_regent
def F_X6_regent_15 (mo : kS) : Option ((Int32 × kS)) :=
  some ((-1), mo)
def F_X6_regent_44 (v2 : Int32) (mo : kS) : Option ((Int32 × kS)) :=
  some (v2, mo)
def F_X6_regent_59 (v3 : Int32) (mo : kS) : Option ((Int32 × kS)) :=
  some (v3, mo)
def F_X6_regent_164 (c67 : Int32 → Int32 → Int32 → kS → Option ((Int32 × kS))) (v1 : Int32) (v4 : Int32) (v5 : Int32) (mo : kS) : Option ((Int32 × kS)) :=
  c67 v1 v4 (v5 + 1) mo
def F_X6_regent_109 (c67 : Int32 → Int32 → Int32 → kS → Option ((Int32 × kS))) (v1 : Int32) (v4 : Int32) (v5 : Int32) (mo : kS) : Option ((Int32 × kS)) :=
  F_X6_regent_164 c67 v1 v4 v5 mo
def F_X6_regent_160 (c67 : Int32 → Int32 → Int32 → kS → Option ((Int32 × kS))) (v1 : Int32) (v5 : Int32) (mo : kS) : Option ((Int32 × kS)) :=
  F_X6_regent_164 c67 v1 v5 v5 mo
def F_X6_regent_149 (c67 : Int32 → Int32 → Int32 → kS → Option ((Int32 × kS))) (v1 : Int32) (v4 : Int32) (v5 : Int32) (mo : kS) : Option ((Int32 × kS)) :=
  (F_X6_isBefore mo v5 v4).bind fun x149_1 => if x149_1 = 0 then F_X6_regent_164 c67 v1 v4 v5 mo else F_X6_regent_160 c67 v1 v5 mo
def F_X6_regent_144 (c67 : Int32 → Int32 → Int32 → kS → Option ((Int32 × kS))) (v1 : Int32) (v4 : Int32) (v5 : Int32) (v6 : Int32) (mo : kS) : Option ((Int32 × kS)) :=
  if v6 = 0 then F_X6_regent_149 c67 v1 v4 v5 mo else F_X6_regent_164 c67 v1 v4 v5 mo
def F_X6_regent_137 (c67 : Int32 → Int32 → Int32 → kS → Option ((Int32 × kS))) (s0 : Int32) (v1 : Int32) (v4 : Int32) (v5 : Int32) (mo : kS) : Option ((Int32 × kS)) :=
  if s0 < 0 then F_X6_regent_160 c67 v1 v5 mo else F_X6_regent_144 c67 v1 v4 v5 s0 mo
def F_X6_regent_118 (c67 : Int32 → Int32 → Int32 → kS → Option ((Int32 × kS))) (v1 : Int32) (v4 : Int32) (v5 : Int32) (mo : kS) : Option ((Int32 × kS)) :=
  F_X6_regent_137 c67 (-1) v1 v4 v5 mo
def F_X6_regent_122 (c67 : Int32 → Int32 → Int32 → kS → Option ((Int32 × kS))) (v1 : Int32) (v4 : Int32) (v5 : Int32) (mo : kS) : Option ((Int32 × kS)) :=
  (F_X6_steps v5 v1 mo).bind fun x122_1 => (F_X6_steps v4 v1 x122_1.2).bind fun x122_2 => F_X6_regent_137 c67 (x122_1.1 - x122_2.1) v1 v4 v5 x122_2.2
def F_X6_regent_112 (c67 : Int32 → Int32 → Int32 → kS → Option ((Int32 × kS))) (v1 : Int32) (v4 : Int32) (v5 : Int32) (mo : kS) : Option ((Int32 × kS)) :=
  if v4 = (-1) then F_X6_regent_118 c67 v1 v4 v5 mo else F_X6_regent_122 c67 v1 v4 v5 mo
def F_X6_regent_96 (c67 : Int32 → Int32 → Int32 → kS → Option ((Int32 × kS))) (v1 : Int32) (v4 : Int32) (v5 : Int32) (mo : kS) : Option ((Int32 × kS)) :=
  (F_X6_steps v5 v1 mo).bind fun x96_1 => if x96_1.1 = 999 then F_X6_regent_109 c67 v1 v4 v5 x96_1.2 else F_X6_regent_112 c67 v1 v4 v5 x96_1.2
def F_X6_regent_85 (c67 : Int32 → Int32 → Int32 → kS → Option ((Int32 × kS))) (v1 : Int32) (v4 : Int32) (v5 : Int32) (mo : kS) : Option ((Int32 × kS)) :=
  (F_X6_age mo v5).bind fun x85_1 => if x85_1 < 16 then F_X6_regent_164 c67 v1 v4 v5 mo else F_X6_regent_96 c67 v1 v4 v5 mo
def F_X6_regent_76 (c67 : Int32 → Int32 → Int32 → kS → Option ((Int32 × kS))) (v1 : Int32) (v4 : Int32) (v5 : Int32) (mo : kS) : Option ((Int32 × kS)) :=
  (F_X6_lives mo v5).bind fun x76_1 => if x76_1 = 0 then F_X6_regent_164 c67 v1 v4 v5 mo else F_X6_regent_85 c67 v1 v4 v5 mo
def F_X6_regent_170 (v4 : Int32) (mo : kS) : Option ((Int32 × kS)) :=
  some (v4, mo)
def F_X6_regent_67 : Nat → Int32 → Int32 → Int32 → kS → Option ((Int32 × kS))
  | 0, _, _, _, _ => none
  | n + 1, v1, v4, v5, mo => if (mo 7 1) ≤ v5 then F_X6_regent_170 v4 mo else F_X6_regent_76 (F_X6_regent_67 n) v1 v4 v5 mo
def F_X6_regent_61 (v1 : Int32) (mo : kS) : Option ((Int32 × kS)) :=
  F_X6_regent_67 kN v1 (-1) 0 mo
def F_X6_regent_51 (v1 : Int32) (v3 : Int32) (mo : kS) : Option ((Int32 × kS)) :=
  (F_X6_lives mo v3).bind fun x51_1 => if x51_1 = 0 then F_X6_regent_61 v1 mo else F_X6_regent_59 v3 mo
def F_X6_regent_46 (v1 : Int32) (v3 : Int32) (mo : kS) : Option ((Int32 × kS)) :=
  if v3 = (-1) then F_X6_regent_61 v1 mo else F_X6_regent_51 v1 v3 mo
def F_X6_regent_36 (v1 : Int32) (v2 : Int32) (v3 : Int32) (mo : kS) : Option ((Int32 × kS)) :=
  (F_X6_lives mo v2).bind fun x36_1 => if x36_1 = 0 then F_X6_regent_46 v1 v3 mo else F_X6_regent_44 v2 mo
def F_X6_regent_17 (v1 : Int32) (mo : kS) : Option ((Int32 × kS)) :=
  (F_X6_pe mo v1 3).bind fun x17_1 => (F_X6_pe mo v1 4).bind fun x17_2 => if x17_1 = (-1) then F_X6_regent_46 v1 x17_2 mo else F_X6_regent_36 v1 x17_1 x17_2 mo
def F_X6_regent_5 (v1 : Int32) (mo : kS) : Option ((Int32 × kS)) :=
  (F_X6_age mo v1).bind fun x5_1 => if x5_1 < 16 then F_X6_regent_17 v1 mo else F_X6_regent_15 mo
def F_X6_regent_0 (v1 : Int32) (mo : kS) : Option ((Int32 × kS)) :=
  if v1 = (-1) then F_X6_regent_15 mo else F_X6_regent_5 v1 mo
def F_X6_regent (v1 : Int32) (mo : kS) : Option ((Int32 × kS)) :=
  F_X6_regent_0 v1 mo
-- X6_worthOf
def F_X6_worthOf_33 (mo : kS) (c4 : Int32 → Int32 → Int32 → Option (Int32)) (s0 : Int32) (s1 : Int32) (v1 : Int32) (v3 : Int32) : Option (Int32) :=
  c4 v1 (s0 + s1) (v3 + 1)
def F_X6_worthOf_23 (mo : kS) (c4 : Int32 → Int32 → Int32 → Option (Int32)) (s0 : Int32) (v1 : Int32) (v3 : Int32) : Option (Int32) :=
  (F_X6_la mo v3 0).bind fun x23_1 => F_X6_worthOf_33 mo c4 s0 x23_1 v1 v3
def F_X6_worthOf_32 (mo : kS) (c4 : Int32 → Int32 → Int32 → Option (Int32)) (s0 : Int32) (v1 : Int32) (v3 : Int32) : Option (Int32) :=
  F_X6_worthOf_33 mo c4 s0 0 v1 v3
def F_X6_worthOf_12 (mo : kS) (c4 : Int32 → Int32 → Int32 → Option (Int32)) (v1 : Int32) (v2 : Int32) (v3 : Int32) : Option (Int32) :=
  (F_X6_la mo v3 2).bind fun x12_1 => if x12_1 = v1 then F_X6_worthOf_23 mo c4 v2 v1 v3 else F_X6_worthOf_32 mo c4 v2 v1 v3
def F_X6_worthOf_41 (mo : kS) (v2 : Int32) : Option (Int32) :=
  some v2
def F_X6_worthOf_4 (mo : kS) : Nat → Int32 → Int32 → Int32 → Option (Int32)
  | 0, _, _, _ => none
  | n + 1, v1, v2, v3 => if (mo 7 2) ≤ v3 then F_X6_worthOf_41 mo v2 else F_X6_worthOf_12 mo (F_X6_worthOf_4 mo n) v1 v2 v3
def F_X6_worthOf_0 (mo : kS) (v1 : Int32) : Option (Int32) :=
  F_X6_worthOf_4 mo kN v1 0 0
def F_X6_worthOf (mo : kS) (v1 : Int32) : Option (Int32) :=
  F_X6_worthOf_0 mo v1
-- X6_isFree
def F_X6_isFree_33 (mo : kS) (s0 : Int32) : Option (Int32) :=
  if ¬ (s0 = 0 ∨ s0 = 1) then none else some s0
def F_X6_isFree_28 (mo : kS) : Option (Int32) :=
  F_X6_isFree_33 mo 1
def F_X6_isFree_32 (mo : kS) : Option (Int32) :=
  F_X6_isFree_33 mo 0
def F_X6_isFree_18 (mo : kS) (v1 : Int32) : Option (Int32) :=
  (F_X6_pe mo v1 5).bind fun x18_1 => if x18_1 = (-1) then F_X6_isFree_28 mo else F_X6_isFree_32 mo
def F_X6_isFree_8 (mo : kS) (v1 : Int32) : Option (Int32) :=
  (F_X6_age mo v1).bind fun x8_1 => if x8_1 < 16 then F_X6_isFree_32 mo else F_X6_isFree_18 mo v1
def F_X6_isFree_0 (mo : kS) (v1 : Int32) : Option (Int32) :=
  (F_X6_lives mo v1).bind fun x0_1 => if x0_1 = 0 then F_X6_isFree_32 mo else F_X6_isFree_8 mo v1
def F_X6_isFree (mo : kS) (v1 : Int32) : Option (Int32) :=
  F_X6_isFree_0 mo v1
-- X6_canMarry
def F_X6_canMarry_46 (s0 : Int32) (mo : kS) : Option ((Int32 × kS)) :=
  if ¬ (s0 = 0 ∨ s0 = 1) then none else some (s0, mo)
def F_X6_canMarry_41 (mo : kS) : Option ((Int32 × kS)) :=
  F_X6_canMarry_46 1 mo
def F_X6_canMarry_45 (mo : kS) : Option ((Int32 × kS)) :=
  F_X6_canMarry_46 0 mo
def F_X6_canMarry_31 (v1 : Int32) (v2 : Int32) (mo : kS) : Option ((Int32 × kS)) :=
  (F_X6_steps v1 v2 mo).bind fun x31_1 => if x31_1.1 < 3 then F_X6_canMarry_45 x31_1.2 else F_X6_canMarry_41 x31_1.2
def F_X6_canMarry_16 (v1 : Int32) (v2 : Int32) (mo : kS) : Option ((Int32 × kS)) :=
  (F_X6_pe mo v1 0).bind fun x16_1 => (F_X6_pe mo v2 0).bind fun x16_2 => if x16_1 = x16_2 then F_X6_canMarry_45 mo else F_X6_canMarry_31 v1 v2 mo
def F_X6_canMarry_8 (v1 : Int32) (v2 : Int32) (mo : kS) : Option ((Int32 × kS)) :=
  (F_X6_isFree mo v2).bind fun x8_1 => if x8_1 = 0 then F_X6_canMarry_45 mo else F_X6_canMarry_16 v1 v2 mo
def F_X6_canMarry_0 (v1 : Int32) (v2 : Int32) (mo : kS) : Option ((Int32 × kS)) :=
  (F_X6_isFree mo v1).bind fun x0_1 => if x0_1 = 0 then F_X6_canMarry_45 mo else F_X6_canMarry_8 v1 v2 mo
def F_X6_canMarry (v1 : Int32) (v2 : Int32) (mo : kS) : Option ((Int32 × kS)) :=
  F_X6_canMarry_0 v1 v2 mo
-- X6_marry
def F_X6_marry_34 (mo : kS) : Option ((Int32 × kS)) :=
  (F_X6_fail 1 mo).bind fun x34_1 => some (x34_1.1, x34_1.2)
def F_X6_marry_74 (mo : kS) : Option ((Int32 × kS)) :=
  (F_X6_fail 2 mo).bind fun x74_1 => some (x74_1.1, x74_1.2)
def F_X6_marry_161 (v1 : Int32) (v2 : Int32) (mo : kS) : Option ((Int32 × kS)) :=
  (F_X6_worthOf mo v1).bind fun x161_1 => (F_X6_worthOf mo v2).bind fun x161_2 => some ((x161_1 + x161_2), mo)
def F_X6_marry_150 (v1 : Int32) (v2 : Int32) (v3 : Int32) (v4 : Int32) (mo : kS) : Option ((Int32 × kS)) :=
  (F_X6_rule v3 ((v1 + v2) - v4) mo).bind fun x150_1 => F_X6_marry_161 v1 v2 x150_1
def F_X6_marry_109 (s0 : Int32) (v1 : Int32) (v2 : Int32) (v3 : Int32) (mo : kS) : Option ((Int32 × kS)) :=
  (F_X6_set v1 7 v3 mo).bind fun x109_1 => (F_X6_set v2 7 v3 x109_1).bind fun x109_2 => (F_X6_set v1 8 s0 x109_2).bind fun x109_3 => (F_X6_set v2 8 s0 x109_3).bind fun x109_4 => if v3 = (-1) then F_X6_marry_161 v1 v2 x109_4 else F_X6_marry_150 v1 v2 v3 s0 x109_4
def F_X6_marry_99 (v1 : Int32) (v2 : Int32) (v3 : Int32) (mo : kS) : Option ((Int32 × kS)) :=
  F_X6_marry_109 (-1) v1 v2 v3 mo
def F_X6_marry_103 (v1 : Int32) (v2 : Int32) (v3 : Int32) (mo : kS) : Option ((Int32 × kS)) :=
  (F_X6_la mo v3 2).bind fun x103_1 => F_X6_marry_109 x103_1 v1 v2 v3 mo
def F_X6_marry_80 (v1 : Int32) (v2 : Int32) (v3 : Int32) (mo : kS) : Option ((Int32 × kS)) :=
  (F_X6_set v1 5 v2 mo).bind fun x80_1 => (F_X6_set v2 5 v1 x80_1).bind fun x80_2 => if v3 = (-1) then F_X6_marry_99 v1 v2 v3 x80_2 else F_X6_marry_103 v1 v2 v3 x80_2
def F_X6_marry_64 (v1 : Int32) (v2 : Int32) (v3 : Int32) (mo : kS) : Option ((Int32 × kS)) :=
  (F_X6_la mo v3 2).bind fun x64_1 => if x64_1 = v2 then F_X6_marry_80 v1 v2 v3 mo else F_X6_marry_74 mo
def F_X6_marry_54 (v1 : Int32) (v2 : Int32) (v3 : Int32) (mo : kS) : Option ((Int32 × kS)) :=
  (F_X6_la mo v3 2).bind fun x54_1 => if x54_1 = v1 then F_X6_marry_80 v1 v2 v3 mo else F_X6_marry_64 v1 v2 v3 mo
def F_X6_marry_49 (v1 : Int32) (v2 : Int32) (v3 : Int32) (mo : kS) : Option ((Int32 × kS)) :=
  if v3 = (-1) then F_X6_marry_80 v1 v2 v3 mo else F_X6_marry_54 v1 v2 v3 mo
def F_X6_marry_40 (v1 : Int32) (v2 : Int32) (v3 : Int32) (mo : kS) : Option ((Int32 × kS)) :=
  (F_X6_canMarry v1 v2 mo).bind fun x40_1 => if x40_1.1 = 0 then F_X6_marry_74 x40_1.2 else F_X6_marry_49 v1 v2 v3 x40_1.2
def F_X6_marry_26 (v1 : Int32) (v2 : Int32) (v3 : Int32) (mo : kS) : Option ((Int32 × kS)) :=
  (F_X6_isLand mo v3).bind fun x26_1 => if x26_1 = 0 then F_X6_marry_34 mo else F_X6_marry_40 v1 v2 v3 mo
def F_X6_marry_21 (v1 : Int32) (v2 : Int32) (v3 : Int32) (mo : kS) : Option ((Int32 × kS)) :=
  if v3 = (-1) then F_X6_marry_40 v1 v2 v3 mo else F_X6_marry_26 v1 v2 v3 mo
def F_X6_marry_13 (v1 : Int32) (v2 : Int32) (v3 : Int32) (mo : kS) : Option ((Int32 × kS)) :=
  (F_X6_isPerson mo v2).bind fun x13_1 => if x13_1 = 0 then F_X6_marry_34 mo else F_X6_marry_21 v1 v2 v3 mo
def F_X6_marry_0 (v1 : Int32) (v2 : Int32) (v3 : Int32) (mo : kS) : Option ((Int32 × kS)) :=
  (F_X6_isPerson (kst mo 7 (upd (mo 7) 0 0)) v1).bind fun x0_1 => if x0_1 = 0 then F_X6_marry_34 (kst mo 7 (upd (mo 7) 0 0)) else F_X6_marry_13 v1 v2 v3 (kst mo 7 (upd (mo 7) 0 0))
def F_X6_marry (v1 : Int32) (v2 : Int32) (v3 : Int32) (mo : kS) : Option ((Int32 × kS)) :=
  F_X6_marry_0 v1 v2 v3 mo
-- X6_part
def F_X6_part_12 (mo : kS) : Option (kS × Nat × Nat) :=
  some (mo, 0, 0)
def F_X6_part_45 (c38 : Int32 → Int32 → Int32 → Int32 → (Nat → Int32) → kS → Option (kS × Nat × Nat)) (v1 : Int32) (v2 : Int32) (v4 : Int32) (v5 : Int32) (xf : (Nat → Int32)) (mo : kS) : Option (kS × Nat × Nat) :=
  if (v5 < 0 ∨ 3 ≤ v5.toNatClampNeg) then none else (F_X6_set v1 (xf v5.toNatClampNeg) (-1) mo).bind fun x45_2 => (F_X6_set v2 (xf v5.toNatClampNeg) (-1) x45_2).bind fun x45_3 => c38 v1 v2 v4 (v5 + 1) xf x45_3
def F_X6_part_73 (mo : kS) : Option (kS × Nat × Nat) :=
  some (mo, 0, 0)
def F_X6_part_38 : Nat → Int32 → Int32 → Int32 → Int32 → (Nat → Int32) → kS → Option (kS × Nat × Nat)
  | 0, _, _, _, _, _, _ => none
  | n + 1, v1, v2, v4, v5, xf, mo => if v4 ≤ v5 then F_X6_part_73 mo else F_X6_part_45 (F_X6_part_38 n) v1 v2 v4 v5 xf mo
def F_X6_part_13 (v1 : Int32) (v2 : Int32) (mo : kS) : Option (kS × Nat × Nat) :=
  kadd 1 3 (if ((0 : Int32) < 0 ∨ 3 ≤ (0 : Int32).toNatClampNeg) then none else if ((1 : Int32) < 0 ∨ 3 ≤ (1 : Int32).toNatClampNeg) then none else if ((2 : Int32) < 0 ∨ 3 ≤ (2 : Int32).toNatClampNeg) then none else F_X6_part_38 kN v1 v2 3 0 (upd (upd (upd (fun _ => 0) (0 : Int32).toNatClampNeg 5) (1 : Int32).toNatClampNeg 7) (2 : Int32).toNatClampNeg 8) mo)
def F_X6_part_0 (v1 : Int32) (mo : kS) : Option (kS × Nat × Nat) :=
  (F_X6_pe mo v1 5).bind fun x0_1 => if x0_1 = (-1) then F_X6_part_12 mo else F_X6_part_13 v1 x0_1 mo
def F_X6_part (v1 : Int32) (mo : kS) : Option (kS × Nat × Nat) :=
  F_X6_part_0 v1 mo
-- X6_annul
def F_X6_annul_13 (mo : kS) : Option ((Int32 × kS) × Nat × Nat) :=
  (F_X6_fail 1 mo).bind fun x13_1 => some ((x13_1.1, x13_1.2), 0, 0)
def F_X6_annul_31 (mo : kS) : Option ((Int32 × kS) × Nat × Nat) :=
  (F_X6_fail 2 mo).bind fun x31_1 => some ((x31_1.1, x31_1.2), 0, 0)
def F_X6_annul_79 (mo : kS) : Option ((Int32 × kS) × Nat × Nat) :=
  some (((-1), mo), 0, 0)
def F_X6_annul_81 (v3 : Int32) (v4 : Int32) (mo : kS) : Option ((Int32 × kS) × Nat × Nat) :=
  (F_X6_rule v3 v4 mo).bind fun x81_1 => some ((v3, x81_1), 0, 0)
def F_X6_annul_64 (v1 : Int32) (v2 : Int32) (v3 : Int32) (v4 : Int32) (mo : kS) : Option ((Int32 × kS) × Nat × Nat) :=
  (F_X6_la mo v3 2).bind fun x64_1 => if x64_1 = ((v1 + v2) - v4) then F_X6_annul_81 v3 v4 mo else F_X6_annul_79 mo
def F_X6_annul_37 (v1 : Int32) (v2 : Int32) (mo : kS) : Option ((Int32 × kS) × Nat × Nat) :=
  (F_X6_pe mo v1 7).bind fun x37_1 => (F_X6_pe mo v1 8).bind fun x37_2 => (F_X6_part v1 mo).bind fun x37_3 => kadd x37_3.2.1 x37_3.2.2 (if x37_1 = (-1) then F_X6_annul_79 x37_3.1 else F_X6_annul_64 v1 v2 x37_1 x37_2 x37_3.1)
def F_X6_annul_19 (v1 : Int32) (mo : kS) : Option ((Int32 × kS) × Nat × Nat) :=
  (F_X6_pe mo v1 5).bind fun x19_1 => if x19_1 = (-1) then F_X6_annul_31 mo else F_X6_annul_37 v1 x19_1 mo
def F_X6_annul_0 (v1 : Int32) (mo : kS) : Option ((Int32 × kS) × Nat × Nat) :=
  (F_X6_isPerson (kst mo 7 (upd (mo 7) 0 0)) v1).bind fun x0_1 => if x0_1 = 0 then F_X6_annul_13 (kst mo 7 (upd (mo 7) 0 0)) else F_X6_annul_19 v1 (kst mo 7 (upd (mo 7) 0 0))
def F_X6_annul (v1 : Int32) (mo : kS) : Option ((Int32 × kS) × Nat × Nat) :=
  F_X6_annul_0 v1 mo
-- X6_dies
def F_X6_dies_42 (c4 : Int32 → Int32 → Int32 → kS → Option ((Int32 × kS) × Nat × Nat)) (s1 : Int32) (s2 : Int32) (v1 : Int32) (v2 : Int32) (v3 : Int32) (mo : kS) : Option ((Int32 × kS) × Nat × Nat) :=
  if (s1 < 0 ∨ 12 ≤ s1.toNatClampNeg) then none else c4 v1 v2 (v3 + 1) (kst mo 14 (upd (mo 14) s1.toNatClampNeg s2))
def F_X6_dies_27 (c4 : Int32 → Int32 → Int32 → kS → Option ((Int32 × kS) × Nat × Nat)) (s1 : Int32) (v1 : Int32) (v2 : Int32) (v3 : Int32) (mo : kS) : Option ((Int32 × kS) × Nat × Nat) :=
  (F_X6_la mo v3 1).bind fun x27_1 => (F_X6_heir v1 x27_1 mo).bind fun x27_2 => F_X6_dies_42 c4 s1 x27_2.1 v1 v2 v3 x27_2.2
def F_X6_dies_41 (c4 : Int32 → Int32 → Int32 → kS → Option ((Int32 × kS) × Nat × Nat)) (s1 : Int32) (v1 : Int32) (v2 : Int32) (v3 : Int32) (mo : kS) : Option ((Int32 × kS) × Nat × Nat) :=
  F_X6_dies_42 c4 s1 (-1) v1 v2 v3 mo
def F_X6_dies_12 (c4 : Int32 → Int32 → Int32 → kS → Option ((Int32 × kS) × Nat × Nat)) (v1 : Int32) (v2 : Int32) (v3 : Int32) (mo : kS) : Option ((Int32 × kS) × Nat × Nat) :=
  (F_X6_la mo v3 2).bind fun x12_1 => if x12_1 = v1 then F_X6_dies_27 c4 v3 v1 v2 v3 mo else F_X6_dies_41 c4 v3 v1 v2 v3 mo
def F_X6_dies_106 (c71 : Int32 → Int32 → Int32 → kS → Option ((Int32 × kS) × Nat × Nat)) (v1 : Int32) (v2 : Int32) (v3 : Int32) (mo : kS) : Option ((Int32 × kS) × Nat × Nat) :=
  c71 v1 v2 (v3 + 1) mo
def F_X6_dies_89 (c71 : Int32 → Int32 → Int32 → kS → Option ((Int32 × kS) × Nat × Nat)) (v1 : Int32) (v2 : Int32) (v3 : Int32) (mo : kS) : Option ((Int32 × kS) × Nat × Nat) :=
  F_X6_dies_106 c71 v1 v2 v3 mo
def F_X6_dies_92 (c71 : Int32 → Int32 → Int32 → kS → Option ((Int32 × kS) × Nat × Nat)) (v1 : Int32) (v2 : Int32) (v3 : Int32) (mo : kS) : Option ((Int32 × kS) × Nat × Nat) :=
  if (v3 < 0 ∨ 12 ≤ v3.toNatClampNeg) then none else (F_X6_rule v3 (mo 14 v3.toNatClampNeg) mo).bind fun x92_2 => F_X6_dies_106 c71 v1 (v2 + 1) v3 x92_2
def F_X6_dies_79 (c71 : Int32 → Int32 → Int32 → kS → Option ((Int32 × kS) × Nat × Nat)) (v1 : Int32) (v2 : Int32) (v3 : Int32) (mo : kS) : Option ((Int32 × kS) × Nat × Nat) :=
  (F_X6_la mo v3 2).bind fun x79_1 => if x79_1 = v1 then F_X6_dies_92 c71 v1 v2 v3 mo else F_X6_dies_89 c71 v1 v2 v3 mo
def F_X6_dies_112 (v1 : Int32) (v2 : Int32) (mo : kS) : Option ((Int32 × kS) × Nat × Nat) :=
  (F_X6_part v1 mo).bind fun x112_1 => kadd x112_1.2.1 x112_1.2.2 (some ((v2, x112_1.1), 0, 0))
def F_X6_dies_71 : Nat → Int32 → Int32 → Int32 → kS → Option ((Int32 × kS) × Nat × Nat)
  | 0, _, _, _, _ => none
  | n + 1, v1, v2, v3, mo => if (mo 7 2) ≤ v3 then F_X6_dies_112 v1 v2 mo else F_X6_dies_79 (F_X6_dies_71 n) v1 v2 v3 mo
def F_X6_dies_49 (v1 : Int32) (v2 : Int32) (mo : kS) : Option ((Int32 × kS) × Nat × Nat) :=
  (F_X6_set v1 2 0 mo).bind fun x49_1 => if ((0 : Int32) < 0 ∨ 1 ≤ (0 : Int32).toNatClampNeg) then none else (F_X6_set v1 6 (x49_1 11 (0 : Int32).toNatClampNeg) x49_1).bind fun x49_3 => F_X6_dies_71 kN v1 v2 0 x49_3
def F_X6_dies_4 : Nat → Int32 → Int32 → Int32 → kS → Option ((Int32 × kS) × Nat × Nat)
  | 0, _, _, _, _ => none
  | n + 1, v1, v2, v3, mo => if (mo 7 2) ≤ v3 then F_X6_dies_49 v1 v2 mo else F_X6_dies_12 (F_X6_dies_4 n) v1 v2 v3 mo
def F_X6_dies_0 (v1 : Int32) (mo : kS) : Option ((Int32 × kS) × Nat × Nat) :=
  F_X6_dies_4 kN v1 0 0 mo
def F_X6_dies (v1 : Int32) (mo : kS) : Option ((Int32 × kS) × Nat × Nat) :=
  F_X6_dies_0 v1 mo
-- X6_die
def F_X6_die_13 (mo : kS) : Option ((Int32 × kS) × Nat × Nat) :=
  (F_X6_fail 1 mo).bind fun x13_1 => some ((x13_1.1, x13_1.2), 0, 0)
def F_X6_die_40 (s0 : Int32) (mo : kS) : Option ((Int32 × kS) × Nat × Nat) :=
  some ((s0, mo), 0, 0)
def F_X6_die_27 (v1 : Int32) (mo : kS) : Option ((Int32 × kS) × Nat × Nat) :=
  (F_X6_dies v1 mo).bind fun x27_1 => kadd x27_1.2.1 x27_1.2.2 (F_X6_die_40 x27_1.1.1 x27_1.1.2)
def F_X6_die_35 (mo : kS) : Option ((Int32 × kS) × Nat × Nat) :=
  (F_X6_fail 2 mo).bind fun x35_1 => F_X6_die_40 x35_1.1 x35_1.2
def F_X6_die_19 (v1 : Int32) (mo : kS) : Option ((Int32 × kS) × Nat × Nat) :=
  (F_X6_lives mo v1).bind fun x19_1 => if x19_1 = 0 then F_X6_die_35 mo else F_X6_die_27 v1 mo
def F_X6_die_0 (v1 : Int32) (mo : kS) : Option ((Int32 × kS) × Nat × Nat) :=
  (F_X6_isPerson (kst mo 7 (upd (mo 7) 0 0)) v1).bind fun x0_1 => if x0_1 = 0 then F_X6_die_13 (kst mo 7 (upd (mo 7) 0 0)) else F_X6_die_19 v1 (kst mo 7 (upd (mo 7) 0 0))
def F_X6_die (v1 : Int32) (mo : kS) : Option ((Int32 × kS) × Nat × Nat) :=
  F_X6_die_0 v1 mo
-- X6_personTold
def F_X6_personTold_56 (mo : kS) (v1 : Int32) : Option (Int32) :=
  (F_X6_pe mo v1 0).bind fun x56_1 => some x56_1
def F_X6_personTold_91 (mo : kS) (c66 : Int32 → Int32 → Int32 → Option (Int32)) (s0 : Int32) (s1 : Int32) (v1 : Int32) (v4 : Int32) : Option (Int32) :=
  c66 v1 (s0 + s1) (v4 + 1)
def F_X6_personTold_86 (mo : kS) (c66 : Int32 → Int32 → Int32 → Option (Int32)) (s0 : Int32) (v1 : Int32) (v4 : Int32) : Option (Int32) :=
  F_X6_personTold_91 mo c66 s0 1 v1 v4
def F_X6_personTold_90 (mo : kS) (c66 : Int32 → Int32 → Int32 → Option (Int32)) (s0 : Int32) (v1 : Int32) (v4 : Int32) : Option (Int32) :=
  F_X6_personTold_91 mo c66 s0 0 v1 v4
def F_X6_personTold_75 (mo : kS) (c66 : Int32 → Int32 → Int32 → Option (Int32)) (v1 : Int32) (v3 : Int32) (v4 : Int32) : Option (Int32) :=
  (F_X6_isChild mo v4 v1).bind fun x75_1 => if x75_1 = 0 then F_X6_personTold_90 mo c66 v3 v1 v4 else F_X6_personTold_86 mo c66 v3 v1 v4
def F_X6_personTold_99 (mo : kS) (v3 : Int32) : Option (Int32) :=
  some v3
def F_X6_personTold_66 (mo : kS) : Nat → Int32 → Int32 → Int32 → Option (Int32)
  | 0, _, _, _ => none
  | n + 1, v1, v3, v4 => if (mo 7 1) ≤ v4 then F_X6_personTold_99 mo v3 else F_X6_personTold_75 mo (F_X6_personTold_66 mo n) v1 v3 v4
def F_X6_personTold_63 (mo : kS) (v1 : Int32) (v3 : Int32) : Option (Int32) :=
  F_X6_personTold_66 mo kN v1 v3 0
def F_X6_personTold_130 (mo : kS) (c104 : Int32 → Int32 → Int32 → Option (Int32)) (s0 : Int32) (s1 : Int32) (v1 : Int32) (v4 : Int32) : Option (Int32) :=
  c104 v1 (s0 + s1) (v4 + 1)
def F_X6_personTold_125 (mo : kS) (c104 : Int32 → Int32 → Int32 → Option (Int32)) (s0 : Int32) (v1 : Int32) (v4 : Int32) : Option (Int32) :=
  F_X6_personTold_130 mo c104 s0 1 v1 v4
def F_X6_personTold_129 (mo : kS) (c104 : Int32 → Int32 → Int32 → Option (Int32)) (s0 : Int32) (v1 : Int32) (v4 : Int32) : Option (Int32) :=
  F_X6_personTold_130 mo c104 s0 0 v1 v4
def F_X6_personTold_113 (mo : kS) (c104 : Int32 → Int32 → Int32 → Option (Int32)) (v1 : Int32) (v3 : Int32) (v4 : Int32) : Option (Int32) :=
  (F_X6_la mo v4 2).bind fun x113_1 => if x113_1 = v1 then F_X6_personTold_125 mo c104 v3 v1 v4 else F_X6_personTold_129 mo c104 v3 v1 v4
def F_X6_personTold_138 (mo : kS) (v3 : Int32) : Option (Int32) :=
  some v3
def F_X6_personTold_104 (mo : kS) : Nat → Int32 → Int32 → Int32 → Option (Int32)
  | 0, _, _, _ => none
  | n + 1, v1, v3, v4 => if (mo 7 2) ≤ v4 then F_X6_personTold_138 mo v3 else F_X6_personTold_113 mo (F_X6_personTold_104 mo n) v1 v3 v4
def F_X6_personTold_101 (mo : kS) (v1 : Int32) (v3 : Int32) : Option (Int32) :=
  F_X6_personTold_104 mo kN v1 v3 0
def F_X6_personTold_140 (mo : kS) (v1 : Int32) : Option (Int32) :=
  (F_X6_worthOf mo v1).bind fun x140_1 => some x140_1
def F_X6_personTold_146 (mo : kS) (v1 : Int32) : Option (Int32) :=
  (F_X6_pe mo v1 6).bind fun x146_1 => some x146_1
def F_X6_personTold_154 (mo : kS) (v1 : Int32) (v2 : Int32) : Option (Int32) :=
  (F_X6_pe mo v1 v2).bind fun x154_1 => some x154_1
def F_X6_personTold_0 (mo : kS) (v1 : Int32) (v2 : Int32) : Option (Int32) :=
  if v2 = 0 then F_X6_personTold_56 mo v1 else if v2 = 1 then F_X6_personTold_154 mo v1 v2 else if v2 = 2 then F_X6_personTold_154 mo v1 v2 else if v2 = 3 then F_X6_personTold_154 mo v1 v2 else if v2 = 4 then F_X6_personTold_154 mo v1 v2 else if v2 = 5 then F_X6_personTold_154 mo v1 v2 else if v2 = 6 then F_X6_personTold_63 mo v1 0 else if v2 = 7 then F_X6_personTold_101 mo v1 0 else if v2 = 8 then F_X6_personTold_140 mo v1 else if v2 = 9 then F_X6_personTold_146 mo v1 else F_X6_personTold_154 mo v1 v2
def F_X6_personTold (mo : kS) (v1 : Int32) (v2 : Int32) : Option (Int32) :=
  F_X6_personTold_0 mo v1 v2
-- X6_person_
def F_X6_person__37 (s0 : Int32) (mo : kS) : Option ((Int32 × kS)) :=
  some (s0, mo)
def F_X6_person__23 (v1 : Int32) (v2 : Int32) (mo : kS) : Option ((Int32 × kS)) :=
  (F_X6_personTold mo v1 v2).bind fun x23_1 => F_X6_person__37 x23_1 mo
def F_X6_person__32 (mo : kS) : Option ((Int32 × kS)) :=
  (F_X6_fail 1 mo).bind fun x32_1 => F_X6_person__37 x32_1.1 x32_1.2
def F_X6_person__13 (v1 : Int32) (v2 : Int32) (mo : kS) : Option ((Int32 × kS)) :=
  (F_X6_isIn mo v2 0 9).bind fun x13_1 => if x13_1 = 0 then F_X6_person__32 mo else F_X6_person__23 v1 v2 mo
def F_X6_person__0 (v1 : Int32) (v2 : Int32) (mo : kS) : Option ((Int32 × kS)) :=
  (F_X6_isPerson (kst mo 7 (upd (mo 7) 0 0)) v1).bind fun x0_1 => if x0_1 = 0 then F_X6_person__32 (kst mo 7 (upd (mo 7) 0 0)) else F_X6_person__13 v1 v2 (kst mo 7 (upd (mo 7) 0 0))
def F_X6_person_ (v1 : Int32) (v2 : Int32) (mo : kS) : Option ((Int32 × kS)) :=
  F_X6_person__0 v1 v2 mo
-- X6_landTold
def F_X6_landTold_12 (v1 : Int32) (v2 : Int32) (mo : kS) : Option ((Int32 × kS)) :=
  (F_X6_la mo v1 v2).bind fun x12_1 => some (x12_1, mo)
def F_X6_landTold_66 (s0 : Int32) (mo : kS) : Option ((Int32 × kS)) :=
  some (s0, mo)
def F_X6_landTold_24 (v3 : Int32) (mo : kS) : Option ((Int32 × kS)) :=
  (F_X6_regent v3 mo).bind fun x24_1 => F_X6_landTold_66 x24_1.1 x24_1.2
def F_X6_landTold_37 (v1 : Int32) (mo : kS) : Option ((Int32 × kS)) :=
  (F_X6_la mo v1 3).bind fun x37_1 => F_X6_landTold_66 x37_1 mo
def F_X6_landTold_51 (mo : kS) : Option ((Int32 × kS)) :=
  F_X6_landTold_66 (-1) mo
def F_X6_landTold_55 (v1 : Int32) (v3 : Int32) (mo : kS) : Option ((Int32 × kS)) :=
  (F_X6_la mo v1 1).bind fun x55_1 => (F_X6_heir v3 x55_1 mo).bind fun x55_2 => F_X6_landTold_66 x55_2.1 x55_2.2
def F_X6_landTold_46 (v1 : Int32) (v3 : Int32) (mo : kS) : Option ((Int32 × kS)) :=
  if v3 = (-1) then F_X6_landTold_51 mo else F_X6_landTold_55 v1 v3 mo
def F_X6_landTold_32 (v1 : Int32) (v2 : Int32) (v3 : Int32) (mo : kS) : Option ((Int32 × kS)) :=
  if v2 = 5 then F_X6_landTold_37 v1 mo else F_X6_landTold_46 v1 v3 mo
def F_X6_landTold_19 (v1 : Int32) (v2 : Int32) (v3 : Int32) (mo : kS) : Option ((Int32 × kS)) :=
  if v2 = 3 then F_X6_landTold_24 v3 mo else F_X6_landTold_32 v1 v2 v3 mo
def F_X6_landTold_0 (v1 : Int32) (v2 : Int32) (mo : kS) : Option ((Int32 × kS)) :=
  (F_X6_la mo v1 2).bind fun x0_1 => if 3 ≤ v2 then F_X6_landTold_19 v1 v2 x0_1 mo else F_X6_landTold_12 v1 v2 mo
def F_X6_landTold (v1 : Int32) (v2 : Int32) (mo : kS) : Option ((Int32 × kS)) :=
  F_X6_landTold_0 v1 v2 mo
-- X6_land
def F_X6_land_36 (s0 : Int32) (mo : kS) : Option ((Int32 × kS)) :=
  some (s0, mo)
def F_X6_land_22 (v1 : Int32) (v2 : Int32) (mo : kS) : Option ((Int32 × kS)) :=
  (F_X6_landTold v1 v2 mo).bind fun x22_1 => F_X6_land_36 x22_1.1 x22_1.2
def F_X6_land_31 (mo : kS) : Option ((Int32 × kS)) :=
  (F_X6_fail 1 mo).bind fun x31_1 => F_X6_land_36 x31_1.1 x31_1.2
def F_X6_land_13 (v1 : Int32) (v2 : Int32) (mo : kS) : Option ((Int32 × kS)) :=
  (F_X6_isIn mo v2 0 5).bind fun x13_1 => if x13_1 = 0 then F_X6_land_31 mo else F_X6_land_22 v1 v2 mo
def F_X6_land_0 (v1 : Int32) (v2 : Int32) (mo : kS) : Option ((Int32 × kS)) :=
  (F_X6_isLand (kst mo 7 (upd (mo 7) 0 0)) v1).bind fun x0_1 => if x0_1 = 0 then F_X6_land_31 (kst mo 7 (upd (mo 7) 0 0)) else F_X6_land_13 v1 v2 (kst mo 7 (upd (mo 7) 0 0))
def F_X6_land (v1 : Int32) (v2 : Int32) (mo : kS) : Option ((Int32 × kS)) :=
  F_X6_land_0 v1 v2 mo
-- X6_kept
def F_X6_kept_0 (mo : kS) (v1 : Int32) : Option (Int32) :=
  (F_X6_la mo v1 3).bind fun x0_1 => some (if x0_1 < 15 then x0_1 else 15)
def F_X6_kept (mo : kS) (v1 : Int32) : Option (Int32) :=
  F_X6_kept_0 mo v1
-- X6_ruled
def F_X6_ruled_47 (s0 : Int32) (mo : kS) : Option ((Int32 × kS)) :=
  some (s0, mo)
def F_X6_ruled_28 (v1 : Int32) (v2 : Int32) (mo : kS) : Option ((Int32 × kS)) :=
  if (((15 * v1) + v2) < 0 ∨ 180 ≤ ((15 * v1) + v2).toNatClampNeg) then none else F_X6_ruled_47 (mo 10 ((15 * v1) + v2).toNatClampNeg) mo
def F_X6_ruled_42 (mo : kS) : Option ((Int32 × kS)) :=
  (F_X6_fail 1 mo).bind fun x42_1 => F_X6_ruled_47 x42_1.1 x42_1.2
def F_X6_ruled_13 (v1 : Int32) (v2 : Int32) (mo : kS) : Option ((Int32 × kS)) :=
  (F_X6_kept mo v1).bind fun x13_1 => (F_X6_isIn mo v2 0 (x13_1 - 1)).bind fun x13_2 => if x13_2 = 0 then F_X6_ruled_42 mo else F_X6_ruled_28 v1 v2 mo
def F_X6_ruled_0 (v1 : Int32) (v2 : Int32) (mo : kS) : Option ((Int32 × kS)) :=
  (F_X6_isLand (kst mo 7 (upd (mo 7) 0 0)) v1).bind fun x0_1 => if x0_1 = 0 then F_X6_ruled_42 (kst mo 7 (upd (mo 7) 0 0)) else F_X6_ruled_13 v1 v2 (kst mo 7 (upd (mo 7) 0 0))
def F_X6_ruled (v1 : Int32) (v2 : Int32) (mo : kS) : Option ((Int32 × kS)) :=
  F_X6_ruled_0 v1 v2 mo
-- X6_related
def F_X6_related_21 (mo : kS) : Option ((Int32 × kS)) :=
  (F_X6_fail 1 mo).bind fun x21_1 => some (x21_1.1, x21_1.2)
def F_X6_related_49 (s0 : Int32) (mo : kS) : Option ((Int32 × kS)) :=
  some (s0, mo)
def F_X6_related_39 (mo : kS) : Option ((Int32 × kS)) :=
  F_X6_related_49 (-1) mo
def F_X6_related_43 (v1 : Int32) (v2 : Int32) (mo : kS) : Option ((Int32 × kS)) :=
  (F_X6_steps v1 v2 mo).bind fun x43_1 => F_X6_related_49 x43_1.1 x43_1.2
def F_X6_related_27 (v1 : Int32) (v2 : Int32) (mo : kS) : Option ((Int32 × kS)) :=
  (F_X6_steps v1 v2 mo).bind fun x27_1 => if x27_1.1 = 999 then F_X6_related_39 x27_1.2 else F_X6_related_43 v1 v2 x27_1.2
def F_X6_related_13 (v1 : Int32) (v2 : Int32) (mo : kS) : Option ((Int32 × kS)) :=
  (F_X6_isPerson mo v2).bind fun x13_1 => if x13_1 = 0 then F_X6_related_21 mo else F_X6_related_27 v1 v2 mo
def F_X6_related_0 (v1 : Int32) (v2 : Int32) (mo : kS) : Option ((Int32 × kS)) :=
  (F_X6_isPerson (kst mo 7 (upd (mo 7) 0 0)) v1).bind fun x0_1 => if x0_1 = 0 then F_X6_related_21 (kst mo 7 (upd (mo 7) 0 0)) else F_X6_related_13 v1 v2 (kst mo 7 (upd (mo 7) 0 0))
def F_X6_related (v1 : Int32) (v2 : Int32) (mo : kS) : Option ((Int32 × kS)) :=
  F_X6_related_0 v1 v2 mo
-- X6_rulesNow
def F_X6_rulesNow_15 (mo : kS) (s0 : Int32) : Option (Int32) :=
  if ¬ (s0 = 0 ∨ s0 = 1) then none else some s0
def F_X6_rulesNow_10 (mo : kS) : Option (Int32) :=
  F_X6_rulesNow_15 mo 1
def F_X6_rulesNow_14 (mo : kS) : Option (Int32) :=
  F_X6_rulesNow_15 mo 0
def F_X6_rulesNow_0 (mo : kS) (v1 : Int32) : Option (Int32) :=
  (F_X6_personTold mo v1 7).bind fun x0_1 => if x0_1 ≤ 0 then F_X6_rulesNow_14 mo else F_X6_rulesNow_10 mo
def F_X6_rulesNow (mo : kS) (v1 : Int32) : Option (Int32) :=
  F_X6_rulesNow_0 mo v1
-- X6_counted
def F_X6_counted_40 (mo : kS) : Option (Int32) :=
  if ((0 : Int32) < 0 ∨ 1 ≤ (0 : Int32).toNatClampNeg) then none else some (mo 11 (0 : Int32).toNatClampNeg)
def F_X6_counted_47 (mo : kS) : Option (Int32) :=
  some (mo 7 1)
def F_X6_counted_62 (mo : kS) (c54 : Int32 → Int32 → Option (Int32)) (v2 : Int32) (v3 : Int32) : Option (Int32) :=
  (F_X6_pe mo v3 2).bind fun x62_1 => c54 (v2 + x62_1) (v3 + 1)
def F_X6_counted_77 (mo : kS) (v2 : Int32) : Option (Int32) :=
  some v2
def F_X6_counted_54 (mo : kS) : Nat → Int32 → Int32 → Option (Int32)
  | 0, _, _ => none
  | n + 1, v2, v3 => if (mo 7 1) ≤ v3 then F_X6_counted_77 mo v2 else F_X6_counted_62 mo (F_X6_counted_54 mo n) v2 v3
def F_X6_counted_52 (mo : kS) (v2 : Int32) : Option (Int32) :=
  F_X6_counted_54 mo kN v2 0
def F_X6_counted_105 (mo : kS) (c81 : Int32 → Int32 → Option (Int32)) (s0 : Int32) (s1 : Int32) (v3 : Int32) : Option (Int32) :=
  c81 (s0 + s1) (v3 + 1)
def F_X6_counted_100 (mo : kS) (c81 : Int32 → Int32 → Option (Int32)) (s0 : Int32) (v3 : Int32) : Option (Int32) :=
  F_X6_counted_105 mo c81 s0 1 v3
def F_X6_counted_104 (mo : kS) (c81 : Int32 → Int32 → Option (Int32)) (s0 : Int32) (v3 : Int32) : Option (Int32) :=
  F_X6_counted_105 mo c81 s0 0 v3
def F_X6_counted_89 (mo : kS) (c81 : Int32 → Int32 → Option (Int32)) (v2 : Int32) (v3 : Int32) : Option (Int32) :=
  (F_X6_pe mo v3 5).bind fun x89_1 => if x89_1 ≤ v3 then F_X6_counted_104 mo c81 v2 v3 else F_X6_counted_100 mo c81 v2 v3
def F_X6_counted_113 (mo : kS) (v2 : Int32) : Option (Int32) :=
  some v2
def F_X6_counted_81 (mo : kS) : Nat → Int32 → Int32 → Option (Int32)
  | 0, _, _ => none
  | n + 1, v2, v3 => if (mo 7 1) ≤ v3 then F_X6_counted_113 mo v2 else F_X6_counted_89 mo (F_X6_counted_81 mo n) v2 v3
def F_X6_counted_79 (mo : kS) (v2 : Int32) : Option (Int32) :=
  F_X6_counted_81 mo kN v2 0
def F_X6_counted_115 (mo : kS) : Option (Int32) :=
  some (mo 7 2)
def F_X6_counted_146 (mo : kS) (c122 : Int32 → Int32 → Option (Int32)) (s0 : Int32) (s1 : Int32) (v3 : Int32) : Option (Int32) :=
  c122 (s0 + s1) (v3 + 1)
def F_X6_counted_141 (mo : kS) (c122 : Int32 → Int32 → Option (Int32)) (s0 : Int32) (v3 : Int32) : Option (Int32) :=
  F_X6_counted_146 mo c122 s0 1 v3
def F_X6_counted_145 (mo : kS) (c122 : Int32 → Int32 → Option (Int32)) (s0 : Int32) (v3 : Int32) : Option (Int32) :=
  F_X6_counted_146 mo c122 s0 0 v3
def F_X6_counted_130 (mo : kS) (c122 : Int32 → Int32 → Option (Int32)) (v2 : Int32) (v3 : Int32) : Option (Int32) :=
  (F_X6_la mo v3 2).bind fun x130_1 => if x130_1 = (-1) then F_X6_counted_141 mo c122 v2 v3 else F_X6_counted_145 mo c122 v2 v3
def F_X6_counted_154 (mo : kS) (v2 : Int32) : Option (Int32) :=
  some v2
def F_X6_counted_122 (mo : kS) : Nat → Int32 → Int32 → Option (Int32)
  | 0, _, _ => none
  | n + 1, v2, v3 => if (mo 7 2) ≤ v3 then F_X6_counted_154 mo v2 else F_X6_counted_130 mo (F_X6_counted_122 mo n) v2 v3
def F_X6_counted_120 (mo : kS) (v2 : Int32) : Option (Int32) :=
  F_X6_counted_122 mo kN v2 0
def F_X6_counted_196 (mo : kS) (c158 : Int32 → Int32 → Int32 → Option (Int32)) (s0 : Int32) (s1 : Int32) (v1 : Int32) (v3 : Int32) : Option (Int32) :=
  c158 v1 (s0 + s1) (v3 + 1)
def F_X6_counted_191 (mo : kS) (c158 : Int32 → Int32 → Int32 → Option (Int32)) (s0 : Int32) (v1 : Int32) (v3 : Int32) : Option (Int32) :=
  F_X6_counted_196 mo c158 s0 1 v1 v3
def F_X6_counted_195 (mo : kS) (c158 : Int32 → Int32 → Int32 → Option (Int32)) (s0 : Int32) (v1 : Int32) (v3 : Int32) : Option (Int32) :=
  F_X6_counted_196 mo c158 s0 0 v1 v3
def F_X6_counted_181 (mo : kS) (c158 : Int32 → Int32 → Int32 → Option (Int32)) (s0 : Int32) (v1 : Int32) (v3 : Int32) : Option (Int32) :=
  (F_X6_age mo v3).bind fun x181_1 => if 16 ≤ x181_1 then F_X6_counted_195 mo c158 s0 v1 v3 else F_X6_counted_191 mo c158 s0 v1 v3
def F_X6_counted_175 (mo : kS) (c158 : Int32 → Int32 → Int32 → Option (Int32)) (s0 : Int32) (v1 : Int32) (v3 : Int32) : Option (Int32) :=
  if v1 = 6 then F_X6_counted_191 mo c158 s0 v1 v3 else F_X6_counted_181 mo c158 s0 v1 v3
def F_X6_counted_166 (mo : kS) (c158 : Int32 → Int32 → Int32 → Option (Int32)) (v1 : Int32) (v2 : Int32) (v3 : Int32) : Option (Int32) :=
  (F_X6_rulesNow mo v3).bind fun x166_1 => if x166_1 = 0 then F_X6_counted_195 mo c158 v2 v1 v3 else F_X6_counted_175 mo c158 v2 v1 v3
def F_X6_counted_204 (mo : kS) (v2 : Int32) : Option (Int32) :=
  some v2
def F_X6_counted_158 (mo : kS) : Nat → Int32 → Int32 → Int32 → Option (Int32)
  | 0, _, _, _ => none
  | n + 1, v1, v2, v3 => if (mo 7 1) ≤ v3 then F_X6_counted_204 mo v2 else F_X6_counted_166 mo (F_X6_counted_158 mo n) v1 v2 v3
def F_X6_counted_156 (mo : kS) (v1 : Int32) (v2 : Int32) : Option (Int32) :=
  F_X6_counted_158 mo kN v1 v2 0
def F_X6_counted_0 (mo : kS) (v1 : Int32) : Option (Int32) :=
  if v1 = 0 then F_X6_counted_40 mo else if v1 = 1 then F_X6_counted_47 mo else if v1 = 2 then F_X6_counted_52 mo 0 else if v1 = 3 then F_X6_counted_79 mo 0 else if v1 = 4 then F_X6_counted_115 mo else if v1 = 5 then F_X6_counted_120 mo 0 else F_X6_counted_156 mo v1 0
def F_X6_counted (mo : kS) (v1 : Int32) : Option (Int32) :=
  F_X6_counted_0 mo v1
-- X6_count
def F_X6_count_28 (s0 : Int32) (mo : kS) : Option ((Int32 × kS)) :=
  some (s0, mo)
def F_X6_count_15 (v1 : Int32) (mo : kS) : Option ((Int32 × kS)) :=
  (F_X6_counted mo v1).bind fun x15_1 => F_X6_count_28 x15_1 mo
def F_X6_count_23 (mo : kS) : Option ((Int32 × kS)) :=
  (F_X6_fail 1 mo).bind fun x23_1 => F_X6_count_28 x23_1.1 x23_1.2
def F_X6_count_0 (v1 : Int32) (mo : kS) : Option ((Int32 × kS)) :=
  (F_X6_isIn (kst mo 7 (upd (mo 7) 0 0)) v1 0 7).bind fun x0_1 => if x0_1 = 0 then F_X6_count_23 (kst mo 7 (upd (mo 7) 0 0)) else F_X6_count_15 v1 (kst mo 7 (upd (mo 7) 0 0))
def F_X6_count (v1 : Int32) (mo : kS) : Option ((Int32 × kS)) :=
  F_X6_count_0 v1 mo
-- X6_yearOn
def F_X6_yearOn_52 (c14 : Int32 → Int32 → kS → Option ((Int32 × kS) × Nat × Nat)) (v1 : Int32) (v2 : Int32) (mo : kS) : Option ((Int32 × kS) × Nat × Nat) :=
  c14 v1 (v2 + 1) mo
def F_X6_yearOn_40 (c14 : Int32 → Int32 → kS → Option ((Int32 × kS) × Nat × Nat)) (v1 : Int32) (v2 : Int32) (mo : kS) : Option ((Int32 × kS) × Nat × Nat) :=
  F_X6_yearOn_52 c14 v1 v2 mo
def F_X6_yearOn_43 (c14 : Int32 → Int32 → kS → Option ((Int32 × kS) × Nat × Nat)) (v1 : Int32) (v2 : Int32) (mo : kS) : Option ((Int32 × kS) × Nat × Nat) :=
  (F_X6_dies v2 mo).bind fun x43_1 => kadd x43_1.2.1 x43_1.2.2 (F_X6_yearOn_52 c14 (v1 + 1) v2 x43_1.1.2)
def F_X6_yearOn_30 (c14 : Int32 → Int32 → kS → Option ((Int32 × kS) × Nat × Nat)) (v1 : Int32) (v2 : Int32) (mo : kS) : Option ((Int32 × kS) × Nat × Nat) :=
  (F_X6_age mo v2).bind fun x30_1 => if 80 ≤ x30_1 then F_X6_yearOn_43 c14 v1 v2 mo else F_X6_yearOn_40 c14 v1 v2 mo
def F_X6_yearOn_22 (c14 : Int32 → Int32 → kS → Option ((Int32 × kS) × Nat × Nat)) (v1 : Int32) (v2 : Int32) (mo : kS) : Option ((Int32 × kS) × Nat × Nat) :=
  (F_X6_lives mo v2).bind fun x22_1 => if x22_1 = 0 then F_X6_yearOn_52 c14 v1 v2 mo else F_X6_yearOn_30 c14 v1 v2 mo
def F_X6_yearOn_58 (v1 : Int32) (mo : kS) : Option ((Int32 × kS) × Nat × Nat) :=
  some ((v1, mo), 0, 0)
def F_X6_yearOn_14 : Nat → Int32 → Int32 → kS → Option ((Int32 × kS) × Nat × Nat)
  | 0, _, _, _ => none
  | n + 1, v1, v2, mo => if (mo 7 1) ≤ v2 then F_X6_yearOn_58 v1 mo else F_X6_yearOn_22 (F_X6_yearOn_14 n) v1 v2 mo
def F_X6_yearOn_0 (mo : kS) : Option ((Int32 × kS) × Nat × Nat) :=
  if ((0 : Int32) < 0 ∨ 1 ≤ (0 : Int32).toNatClampNeg) then none else if ((0 : Int32) < 0 ∨ 1 ≤ (0 : Int32).toNatClampNeg) then none else F_X6_yearOn_14 kN 0 0 (kst mo 11 (upd (mo 11) (0 : Int32).toNatClampNeg ((mo 11 (0 : Int32).toNatClampNeg) + 1)))
def F_X6_yearOn (mo : kS) : Option ((Int32 × kS) × Nat × Nat) :=
  F_X6_yearOn_0 mo
-- X6_yearsOn
def F_X6_yearsOn_9 (c4 : Int32 → Int32 → Int32 → kS → Option ((Int32 × kS) × Nat × Nat)) (v1 : Int32) (v2 : Int32) (v3 : Int32) (mo : kS) : Option ((Int32 × kS) × Nat × Nat) :=
  (F_X6_yearOn mo).bind fun x9_1 => kadd x9_1.2.1 x9_1.2.2 (c4 v1 (v2 + x9_1.1.1) (v3 + 1) x9_1.1.2)
def F_X6_yearsOn_22 (v2 : Int32) (mo : kS) : Option ((Int32 × kS) × Nat × Nat) :=
  some ((v2, mo), 0, 0)
def F_X6_yearsOn_4 : Nat → Int32 → Int32 → Int32 → kS → Option ((Int32 × kS) × Nat × Nat)
  | 0, _, _, _, _ => none
  | n + 1, v1, v2, v3, mo => if v1 ≤ v3 then F_X6_yearsOn_22 v2 mo else F_X6_yearsOn_9 (F_X6_yearsOn_4 n) v1 v2 v3 mo
def F_X6_yearsOn_0 (v1 : Int32) (mo : kS) : Option ((Int32 × kS) × Nat × Nat) :=
  F_X6_yearsOn_4 kN v1 0 0 mo
def F_X6_yearsOn (v1 : Int32) (mo : kS) : Option ((Int32 × kS) × Nat × Nat) :=
  F_X6_yearsOn_0 v1 mo
-- X6_pass
def F_X6_pass_28 (s0 : Int32) (mo : kS) : Option ((Int32 × kS) × Nat × Nat) :=
  some ((s0, mo), 0, 0)
def F_X6_pass_15 (v1 : Int32) (mo : kS) : Option ((Int32 × kS) × Nat × Nat) :=
  (F_X6_yearsOn v1 mo).bind fun x15_1 => kadd x15_1.2.1 x15_1.2.2 (F_X6_pass_28 x15_1.1.1 x15_1.1.2)
def F_X6_pass_23 (mo : kS) : Option ((Int32 × kS) × Nat × Nat) :=
  (F_X6_fail 1 mo).bind fun x23_1 => F_X6_pass_28 x23_1.1 x23_1.2
def F_X6_pass_0 (v1 : Int32) (mo : kS) : Option ((Int32 × kS) × Nat × Nat) :=
  (F_X6_isIn (kst mo 7 (upd (mo 7) 0 0)) v1 1 100).bind fun x0_1 => if x0_1 = 0 then F_X6_pass_23 (kst mo 7 (upd (mo 7) 0 0)) else F_X6_pass_15 v1 (kst mo 7 (upd (mo 7) 0 0))
def F_X6_pass (v1 : Int32) (mo : kS) : Option ((Int32 × kS) × Nat × Nat) :=
  F_X6_pass_0 v1 mo
-- X6_best
def F_X6_best_13 (mo : kS) : Option ((Int32 × kS)) :=
  (F_X6_fail 1 mo).bind fun x13_1 => some (x13_1.1, x13_1.2)
def F_X6_best_60 (c23 : Int32 → Int32 → Int32 → kS → Option ((Int32 × kS))) (v1 : Int32) (v2 : Int32) (v3 : Int32) (mo : kS) : Option ((Int32 × kS)) :=
  c23 v1 v2 (v3 + 1) mo
def F_X6_best_58 (c23 : Int32 → Int32 → Int32 → kS → Option ((Int32 × kS))) (v1 : Int32) (v3 : Int32) (mo : kS) : Option ((Int32 × kS)) :=
  F_X6_best_60 c23 v1 v3 v3 mo
def F_X6_best_45 (c23 : Int32 → Int32 → Int32 → kS → Option ((Int32 × kS))) (v1 : Int32) (v2 : Int32) (v3 : Int32) (mo : kS) : Option ((Int32 × kS)) :=
  (F_X6_worthOf mo v3).bind fun x45_1 => (F_X6_worthOf mo v2).bind fun x45_2 => if x45_1 ≤ x45_2 then F_X6_best_60 c23 v1 v2 v3 mo else F_X6_best_58 c23 v1 v3 mo
def F_X6_best_40 (c23 : Int32 → Int32 → Int32 → kS → Option ((Int32 × kS))) (v1 : Int32) (v2 : Int32) (v3 : Int32) (mo : kS) : Option ((Int32 × kS)) :=
  if v2 = (-1) then F_X6_best_58 c23 v1 v3 mo else F_X6_best_45 c23 v1 v2 v3 mo
def F_X6_best_31 (c23 : Int32 → Int32 → Int32 → kS → Option ((Int32 × kS))) (v1 : Int32) (v2 : Int32) (v3 : Int32) (mo : kS) : Option ((Int32 × kS)) :=
  (F_X6_canMarry v1 v3 mo).bind fun x31_1 => if x31_1.1 = 0 then F_X6_best_60 c23 v1 v2 v3 x31_1.2 else F_X6_best_40 c23 v1 v2 v3 x31_1.2
def F_X6_best_66 (v2 : Int32) (mo : kS) : Option ((Int32 × kS)) :=
  some (v2, mo)
def F_X6_best_23 : Nat → Int32 → Int32 → Int32 → kS → Option ((Int32 × kS))
  | 0, _, _, _, _ => none
  | n + 1, v1, v2, v3, mo => if (mo 7 1) ≤ v3 then F_X6_best_66 v2 mo else F_X6_best_31 (F_X6_best_23 n) v1 v2 v3 mo
def F_X6_best_19 (v1 : Int32) (mo : kS) : Option ((Int32 × kS)) :=
  F_X6_best_23 kN v1 (-1) 0 mo
def F_X6_best_0 (v1 : Int32) (mo : kS) : Option ((Int32 × kS)) :=
  (F_X6_isPerson (kst mo 7 (upd (mo 7) 0 0)) v1).bind fun x0_1 => if x0_1 = 0 then F_X6_best_13 (kst mo 7 (upd (mo 7) 0 0)) else F_X6_best_19 v1 (kst mo 7 (upd (mo 7) 0 0))
def F_X6_best (v1 : Int32) (mo : kS) : Option ((Int32 × kS)) :=
  F_X6_best_0 v1 mo
-- X6_mean
def F_X6_mean_35 (c9 : Int32 → Int32 → kS → Option ((UInt64 × kS))) (s0 : Int32) (s1 : Int32) (v2 : Int32) (mo : kS) : Option ((UInt64 × kS)) :=
  c9 (s0 + s1) (v2 + 1) mo
def F_X6_mean_26 (c9 : Int32 → Int32 → kS → Option ((UInt64 × kS))) (s0 : Int32) (v2 : Int32) (mo : kS) : Option ((UInt64 × kS)) :=
  (F_X6_age mo v2).bind fun x26_1 => F_X6_mean_35 c9 s0 x26_1 v2 mo
def F_X6_mean_34 (c9 : Int32 → Int32 → kS → Option ((UInt64 × kS))) (s0 : Int32) (v2 : Int32) (mo : kS) : Option ((UInt64 × kS)) :=
  F_X6_mean_35 c9 s0 0 v2 mo
def F_X6_mean_17 (c9 : Int32 → Int32 → kS → Option ((UInt64 × kS))) (v1 : Int32) (v2 : Int32) (mo : kS) : Option ((UInt64 × kS)) :=
  (F_X6_lives mo v2).bind fun x17_1 => if x17_1 = 0 then F_X6_mean_34 c9 v1 v2 mo else F_X6_mean_26 c9 v1 v2 mo
def F_X6_mean_64 (s0 : UInt64) (mo : kS) : Option ((UInt64 × kS)) :=
  some (s0, mo)
def F_X6_mean_51 (mo : kS) : Option ((UInt64 × kS)) :=
  F_X6_mean_64 FP.dconst0 mo
def F_X6_mean_55 (v1 : Int32) (mo : kS) : Option ((UInt64 × kS)) :=
  (F_X6_counted mo 2).bind fun x55_1 => if ¬ ((FP.ddiv (FP.i2d v1) (FP.i2d x55_1)) &&& 9223372036854775807 ≤ 9218868437227405312) then none else F_X6_mean_64 (FP.ddiv (FP.i2d v1) (FP.i2d x55_1)) mo
def F_X6_mean_43 (v1 : Int32) (mo : kS) : Option ((UInt64 × kS)) :=
  (F_X6_counted mo 2).bind fun x43_1 => if x43_1 = 0 then F_X6_mean_51 mo else F_X6_mean_55 v1 mo
def F_X6_mean_9 : Nat → Int32 → Int32 → kS → Option ((UInt64 × kS))
  | 0, _, _, _ => none
  | n + 1, v1, v2, mo => if (mo 7 1) ≤ v2 then F_X6_mean_43 v1 mo else F_X6_mean_17 (F_X6_mean_9 n) v1 v2 mo
def F_X6_mean_0 (mo : kS) : Option ((UInt64 × kS)) :=
  F_X6_mean_9 kN 0 0 (kst mo 7 (upd (mo 7) 0 0))
def F_X6_mean (mo : kS) : Option ((UInt64 × kS)) :=
  F_X6_mean_0 mo
-- X6_digest
def F_X6_digest_17 (c11 : Int64 → Int32 → kS → Option ((Int64 × kS))) (v1 : Int64) (v3 : Int32) (mo : kS) : Option ((Int64 × kS)) :=
  (F_X6_counted mo v3).bind fun x17_1 => c11 ((v1 * 31) + x17_1.toInt64) (v3 + 1) mo
def F_X6_digest_56 (c38 : Int64 → Int32 → kS → Option ((Int64 × kS))) (c49 : Int64 → Int32 → Int32 → kS → Option ((Int64 × kS))) (v1 : Int64) (v3 : Int32) (v4 : Int32) (mo : kS) : Option ((Int64 × kS)) :=
  (F_X6_personTold mo v3 v4).bind fun x56_1 => c49 ((v1 * 31) + x56_1.toInt64) v3 (v4 + 1) mo
def F_X6_digest_77 (c38 : Int64 → Int32 → kS → Option ((Int64 × kS))) (v1 : Int64) (v3 : Int32) (mo : kS) : Option ((Int64 × kS)) :=
  c38 v1 (v3 + 1) mo
def F_X6_digest_49 (c38 : Int64 → Int32 → kS → Option ((Int64 × kS))) : Nat → Int64 → Int32 → Int32 → kS → Option ((Int64 × kS))
  | 0, _, _, _, _ => none
  | n + 1, v1, v3, v4, mo => if 10 ≤ v4 then F_X6_digest_77 c38 v1 v3 mo else F_X6_digest_56 c38 (F_X6_digest_49 c38 n) v1 v3 v4 mo
def F_X6_digest_46 (c38 : Int64 → Int32 → kS → Option ((Int64 × kS))) (v1 : Int64) (v3 : Int32) (mo : kS) : Option ((Int64 × kS)) :=
  F_X6_digest_49 c38 kN v1 v3 0 mo
def F_X6_digest_103 (c85 : Int64 → Int32 → kS → Option ((Int64 × kS))) (c96 : Int64 → Int32 → Int32 → kS → Option ((Int64 × kS))) (v1 : Int64) (v3 : Int32) (v4 : Int32) (mo : kS) : Option ((Int64 × kS)) :=
  (F_X6_landTold v3 v4 mo).bind fun x103_1 => c96 ((v1 * 31) + (x103_1.1).toInt64) v3 (v4 + 1) x103_1.2
def F_X6_digest_137 (c85 : Int64 → Int32 → kS → Option ((Int64 × kS))) (c127 : Int64 → Int32 → Int32 → kS → Option ((Int64 × kS))) (v1 : Int64) (v3 : Int32) (v4 : Int32) (mo : kS) : Option ((Int64 × kS)) :=
  if (((15 * v3) + v4) < 0 ∨ 180 ≤ ((15 * v3) + v4).toNatClampNeg) then none else c127 ((v1 * 31) + ((mo 10 ((15 * v3) + v4).toNatClampNeg)).toInt64) v3 (v4 + 1) mo
def F_X6_digest_163 (c85 : Int64 → Int32 → kS → Option ((Int64 × kS))) (v1 : Int64) (v3 : Int32) (mo : kS) : Option ((Int64 × kS)) :=
  c85 v1 (v3 + 1) mo
def F_X6_digest_127 (c85 : Int64 → Int32 → kS → Option ((Int64 × kS))) : Nat → Int64 → Int32 → Int32 → kS → Option ((Int64 × kS))
  | 0, _, _, _, _ => none
  | n + 1, v1, v3, v4, mo => (F_X6_kept mo v3).bind fun x127_1 => if x127_1 ≤ v4 then F_X6_digest_163 c85 v1 v3 mo else F_X6_digest_137 c85 (F_X6_digest_127 c85 n) v1 v3 v4 mo
def F_X6_digest_124 (c85 : Int64 → Int32 → kS → Option ((Int64 × kS))) (v1 : Int64) (v3 : Int32) (mo : kS) : Option ((Int64 × kS)) :=
  F_X6_digest_127 c85 kN v1 v3 0 mo
def F_X6_digest_96 (c85 : Int64 → Int32 → kS → Option ((Int64 × kS))) : Nat → Int64 → Int32 → Int32 → kS → Option ((Int64 × kS))
  | 0, _, _, _, _ => none
  | n + 1, v1, v3, v4, mo => if 6 ≤ v4 then F_X6_digest_124 c85 v1 v3 mo else F_X6_digest_103 c85 (F_X6_digest_96 c85 n) v1 v3 v4 mo
def F_X6_digest_93 (c85 : Int64 → Int32 → kS → Option ((Int64 × kS))) (v1 : Int64) (v3 : Int32) (mo : kS) : Option ((Int64 × kS)) :=
  F_X6_digest_96 c85 kN v1 v3 0 mo
def F_X6_digest_169 (v1 : Int64) (mo : kS) : Option ((Int64 × kS)) :=
  some (v1, mo)
def F_X6_digest_85 : Nat → Int64 → Int32 → kS → Option ((Int64 × kS))
  | 0, _, _, _ => none
  | n + 1, v1, v3, mo => if (mo 7 2) ≤ v3 then F_X6_digest_169 v1 mo else F_X6_digest_93 (F_X6_digest_85 n) v1 v3 mo
def F_X6_digest_83 (v1 : Int64) (mo : kS) : Option ((Int64 × kS)) :=
  F_X6_digest_85 kN v1 0 mo
def F_X6_digest_38 : Nat → Int64 → Int32 → kS → Option ((Int64 × kS))
  | 0, _, _, _ => none
  | n + 1, v1, v3, mo => if (mo 7 1) ≤ v3 then F_X6_digest_83 v1 mo else F_X6_digest_46 (F_X6_digest_38 n) v1 v3 mo
def F_X6_digest_36 (v1 : Int64) (mo : kS) : Option ((Int64 × kS)) :=
  F_X6_digest_38 kN v1 0 mo
def F_X6_digest_11 : Nat → Int64 → Int32 → kS → Option ((Int64 × kS))
  | 0, _, _, _ => none
  | n + 1, v1, v3, mo => if 8 ≤ v3 then F_X6_digest_36 v1 mo else F_X6_digest_17 (F_X6_digest_11 n) v1 v3 mo
def F_X6_digest_0 (mo : kS) : Option ((Int64 × kS)) :=
  F_X6_digest_11 kN 887 0 (kst mo 7 (upd (mo 7) 0 0))
def F_X6_digest (mo : kS) : Option ((Int64 × kS)) :=
  F_X6_digest_0 mo
def kBack (mo m0 : kS) : kS := kst (kst (kst (kst mo 8 (va_cpy (m0 8) (mo 8) 0 0 360)) 9 (va_cpy (m0 9) (mo 9) 0 0 48)) 10 (va_cpy (m0 10) (mo 10) 0 0 180)) 11 (va_cpy (m0 11) (mo 11) 0 0 1)
-- X6_rules
def F_X6_rules_13 (mo : kS) : Option ((Int32 × kS) × Nat × Nat) :=
  (F_X6_fail 1 mo).bind fun x13_1 => some ((x13_1.1, x13_1.2), 0, 0)
def F_X6_rules_40 (c26 : Int32 → Int32 → kS → kS → Option ((Int32 × kS) × Nat × Nat)) (v1 : Int32) (v3 : Int32) (xf : kS) (mo : kS) : Option ((Int32 × kS) × Nat × Nat) :=
  (F_X6_yearOn mo).bind fun x40_1 => kadd x40_1.2.1 x40_1.2.2 (c26 v1 (v3 + 1) xf x40_1.1.2)
def F_X6_rules_61 (v3 : Int32) (xf : kS) (mo : kS) : Option ((Int32 × kS) × Nat × Nat) :=
  kadd 1 4 (some ((v3, (kBack mo xf)), 0, 0))
def F_X6_rules_59 (xf : kS) (mo : kS) : Option ((Int32 × kS) × Nat × Nat) :=
  F_X6_rules_61 (-1) xf mo
def F_X6_rules_51 (v1 : Int32) (v3 : Int32) (xf : kS) (mo : kS) : Option ((Int32 × kS) × Nat × Nat) :=
  (F_X6_rulesNow mo v1).bind fun x51_1 => if x51_1 = 0 then F_X6_rules_59 xf mo else F_X6_rules_61 v3 xf mo
def F_X6_rules_32 (c26 : Int32 → Int32 → kS → kS → Option ((Int32 × kS) × Nat × Nat)) (v1 : Int32) (v3 : Int32) (xf : kS) (mo : kS) : Option ((Int32 × kS) × Nat × Nat) :=
  (F_X6_rulesNow mo v1).bind fun x32_1 => if x32_1 = 0 then F_X6_rules_40 c26 v1 v3 xf mo else F_X6_rules_51 v1 v3 xf mo
def F_X6_rules_26 : Nat → Int32 → Int32 → kS → kS → Option ((Int32 × kS) × Nat × Nat)
  | 0, _, _, _, _ => none
  | n + 1, v1, v3, xf, mo => if 100 ≤ v3 then F_X6_rules_51 v1 v3 xf mo else F_X6_rules_32 (F_X6_rules_26 n) v1 v3 xf mo
def F_X6_rules_19 (v1 : Int32) (mo : kS) : Option ((Int32 × kS) × Nat × Nat) :=
  kadd 5 593 (F_X6_rules_26 kN v1 0 mo mo)
def F_X6_rules_0 (v1 : Int32) (mo : kS) : Option ((Int32 × kS) × Nat × Nat) :=
  (F_X6_isPerson (kst mo 7 (upd (mo 7) 0 0)) v1).bind fun x0_1 => if x0_1 = 0 then F_X6_rules_13 (kst mo 7 (upd (mo 7) 0 0)) else F_X6_rules_19 v1 (kst mo 7 (upd (mo 7) 0 0))
def F_X6_rules (v1 : Int32) (mo : kS) : Option ((Int32 × kS) × Nat × Nat) :=
  F_X6_rules_0 v1 mo
-- X6_foresee
def F_X6_foresee_15 (mo : kS) : Option ((Int32 × kS) × Nat × Nat) :=
  (F_X6_fail 1 mo).bind fun x15_1 => some ((x15_1.1, x15_1.2), 0, 0)
def F_X6_foresee_29 (mo : kS) : Option ((Int32 × kS) × Nat × Nat) :=
  (F_X6_fail 2 mo).bind fun x29_1 => some ((x29_1.1, x29_1.2), 0, 0)
def F_X6_foresee_35 (v1 : Int32) (v2 : Int32) (mo : kS) : Option ((Int32 × kS) × Nat × Nat) :=
  kadd 5 593 ((F_X6_yearsOn v1 mo).bind fun x35_3 => kadd x35_3.2.1 x35_3.2.2 ((F_X6_la x35_3.1.2 v2 2).bind fun x35_6 => kadd 1 4 (some ((x35_6, (kBack x35_3.1.2 mo)), 0, 0))))
def F_X6_foresee_21 (v1 : Int32) (v2 : Int32) (mo : kS) : Option ((Int32 × kS) × Nat × Nat) :=
  (F_X6_isLand mo v2).bind fun x21_1 => if x21_1 = 0 then F_X6_foresee_29 mo else F_X6_foresee_35 v1 v2 mo
def F_X6_foresee_0 (v1 : Int32) (v2 : Int32) (mo : kS) : Option ((Int32 × kS) × Nat × Nat) :=
  (F_X6_isIn (kst mo 7 (upd (mo 7) 0 0)) v1 1 100).bind fun x0_1 => if x0_1 = 0 then F_X6_foresee_15 (kst mo 7 (upd (mo 7) 0 0)) else F_X6_foresee_21 v1 v2 (kst mo 7 (upd (mo 7) 0 0))
def F_X6_foresee (v1 : Int32) (v2 : Int32) (mo : kS) : Option ((Int32 × kS) × Nat × Nat) :=
  F_X6_foresee_0 v1 v2 mo
