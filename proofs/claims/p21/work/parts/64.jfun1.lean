/-! SIM'S METHODS AS FUNCTIONS (printed by a program out of the bytecode) -/
-- X8_isBefore
def F_X8_isBefore_46 (z : kS) (s0 : Int32) : Option (Int32) :=
  if ¬ (s0 = 0 ∨ s0 = 1) then none else some s0
def F_X8_isBefore_22 (z : kS) : Option (Int32) :=
  F_X8_isBefore_46 z 1
def F_X8_isBefore_26 (z : kS) : Option (Int32) :=
  F_X8_isBefore_46 z 0
def F_X8_isBefore_11 (z : kS) (v0 : Int32) (v1 : Int32) : Option (Int32) :=
  if (v0 < 0 ∨ jN z ≤ v0.toNatClampNeg) then none else if (v1 < 0 ∨ jN z ≤ v1.toNatClampNeg) then none else if (z (4 * v1.toNatClampNeg + 1) 2) ≤ (z (4 * v0.toNatClampNeg + 1) 2) then F_X8_isBefore_26 z else F_X8_isBefore_22 z
def F_X8_isBefore_41 (z : kS) : Option (Int32) :=
  F_X8_isBefore_46 z 1
def F_X8_isBefore_45 (z : kS) : Option (Int32) :=
  F_X8_isBefore_46 z 0
def F_X8_isBefore_30 (z : kS) (v0 : Int32) (v1 : Int32) : Option (Int32) :=
  if (v0 < 0 ∨ jN z ≤ v0.toNatClampNeg) then none else if (v1 < 0 ∨ jN z ≤ v1.toNatClampNeg) then none else if (z (4 * v1.toNatClampNeg + 1) 0) ≤ (z (4 * v0.toNatClampNeg + 1) 0) then F_X8_isBefore_45 z else F_X8_isBefore_41 z
def F_X8_isBefore_0 (z : kS) (v0 : Int32) (v1 : Int32) : Option (Int32) :=
  if (v0 < 0 ∨ jN z ≤ v0.toNatClampNeg) then none else if (v1 < 0 ∨ jN z ≤ v1.toNatClampNeg) then none else if (z (4 * v0.toNatClampNeg + 1) 2) = (z (4 * v1.toNatClampNeg + 1) 2) then F_X8_isBefore_30 z v0 v1 else F_X8_isBefore_11 z v0 v1
def F_X8_isBefore (z : kS) (v0 : Int32) (v1 : Int32) : Option (Int32) :=
  F_X8_isBefore_0 z v0 v1
-- X8_isAhead
def F_X8_isAhead_18 (z : kS) : Option (Int32) :=
  if ¬ ((1 : Int32) = 0 ∨ (1 : Int32) = 1) then none else some 1
def F_X8_isAhead_38 (z : kS) : Option (Int32) :=
  if ¬ ((0 : Int32) = 0 ∨ (0 : Int32) = 1) then none else some 0
def F_X8_isAhead_63 (z : kS) (s0 : Int32) : Option (Int32) :=
  if ¬ (s0 = 0 ∨ s0 = 1) then none else some s0
def F_X8_isAhead_58 (z : kS) : Option (Int32) :=
  F_X8_isAhead_63 z 1
def F_X8_isAhead_62 (z : kS) : Option (Int32) :=
  F_X8_isAhead_63 z 0
def F_X8_isAhead_55 (z : kS) (s0 : Int32) (s1 : Int32) : Option (Int32) :=
  if s0 = s1 then F_X8_isAhead_58 z else F_X8_isAhead_62 z
def F_X8_isAhead_50 (z : kS) (s0 : Int32) : Option (Int32) :=
  F_X8_isAhead_55 z s0 1
def F_X8_isAhead_54 (z : kS) (s0 : Int32) : Option (Int32) :=
  F_X8_isAhead_55 z s0 0
def F_X8_isAhead_40 (z : kS) (v0 : Int32) (v1 : Int32) (v2 : Int32) : Option (Int32) :=
  (F_X8_isBefore z v0 v1).bind fun x40_1 => if v2 = 2 then F_X8_isAhead_54 z x40_1 else F_X8_isAhead_50 z x40_1
def F_X8_isAhead_31 (z : kS) (v0 : Int32) (v1 : Int32) (v2 : Int32) : Option (Int32) :=
  if (v0 < 0 ∨ jN z ≤ v0.toNatClampNeg) then none else if (z (4 * v0.toNatClampNeg + 1) 1) = 0 then F_X8_isAhead_38 z else F_X8_isAhead_40 z v0 v1 v2
def F_X8_isAhead_24 (z : kS) (v0 : Int32) (v1 : Int32) (v2 : Int32) : Option (Int32) :=
  if (v1 < 0 ∨ jN z ≤ v1.toNatClampNeg) then none else if (z (4 * v1.toNatClampNeg + 1) 1) = 0 then F_X8_isAhead_40 z v0 v1 v2 else F_X8_isAhead_31 z v0 v1 v2
def F_X8_isAhead_20 (z : kS) (v0 : Int32) (v1 : Int32) (v2 : Int32) : Option (Int32) :=
  if v2 = 0 then F_X8_isAhead_24 z v0 v1 v2 else F_X8_isAhead_40 z v0 v1 v2
def F_X8_isAhead_11 (z : kS) (v0 : Int32) (v1 : Int32) (v2 : Int32) : Option (Int32) :=
  if (v1 < 0 ∨ jN z ≤ v1.toNatClampNeg) then none else if (z (4 * v1.toNatClampNeg + 1) 1) = 0 then F_X8_isAhead_18 z else F_X8_isAhead_20 z v0 v1 v2
def F_X8_isAhead_4 (z : kS) (v0 : Int32) (v1 : Int32) (v2 : Int32) : Option (Int32) :=
  if (v0 < 0 ∨ jN z ≤ v0.toNatClampNeg) then none else if (z (4 * v0.toNatClampNeg + 1) 1) = 0 then F_X8_isAhead_20 z v0 v1 v2 else F_X8_isAhead_11 z v0 v1 v2
def F_X8_isAhead_0 (z : kS) (v0 : Int32) (v1 : Int32) (v2 : Int32) : Option (Int32) :=
  if v2 = 0 then F_X8_isAhead_4 z v0 v1 v2 else F_X8_isAhead_20 z v0 v1 v2
def F_X8_isAhead (z : kS) (v0 : Int32) (v1 : Int32) (v2 : Int32) : Option (Int32) :=
  F_X8_isAhead_0 z v0 v1 v2
-- X8_number
def F_X8_number_12 (z : kS) (s0 : Int32) : Option (Int32) :=
  some s0
def F_X8_number_4 (z : kS) : Option (Int32) :=
  F_X8_number_12 z (-1)
def F_X8_number_8 (z : kS) (v0 : Int32) : Option (Int32) :=
  if (v0 < 0 ∨ jN z ≤ v0.toNatClampNeg) then none else F_X8_number_12 z (z (4 * v0.toNatClampNeg + 1) 0)
def F_X8_number_0 (z : kS) (v0 : Int32) : Option (Int32) :=
  if v0 = (-1) then F_X8_number_4 z else F_X8_number_8 z v0
def F_X8_number (z : kS) (v0 : Int32) : Option (Int32) :=
  F_X8_number_0 z v0
-- X8_up
def F_X8_up_4 (self : Int32 → Int32 → Option (Int32)) (z : kS) : Option (Int32) :=
  some 1000
def F_X8_up_13 (self : Int32 → Int32 → Option (Int32)) (z : kS) : Option (Int32) :=
  some 0
def F_X8_up_15 (self : Int32 → Int32 → Option (Int32)) (z : kS) (v0 : Int32) (v1 : Int32) : Option (Int32) :=
  if (v0 < 0 ∨ jN z ≤ v0.toNatClampNeg) then none else (self (z (4 * v0.toNatClampNeg + 1) 4) v1).bind fun x15_2 => if (v0 < 0 ∨ jN z ≤ v0.toNatClampNeg) then none else (self (z (4 * v0.toNatClampNeg + 1) 5) v1).bind fun x15_4 => some (if (1 + (if x15_4 < x15_2 then x15_4 else x15_2)) < 1000 then (1 + (if x15_4 < x15_2 then x15_4 else x15_2)) else 1000)
def F_X8_up_8 (self : Int32 → Int32 → Option (Int32)) (z : kS) (v0 : Int32) (v1 : Int32) : Option (Int32) :=
  if jbad (jN z) v0 then none else if jbad (jN z) v1 then none else if v0 = v1 then F_X8_up_13 self z else F_X8_up_15 self z v0 v1
def F_X8_up_0 (self : Int32 → Int32 → Option (Int32)) (z : kS) (v0 : Int32) (v1 : Int32) : Option (Int32) :=
  if v0 = (-1) then F_X8_up_4 self z else F_X8_up_8 self z v0 v1
def F_X8_up (z : kS) : Nat → Int32 → Int32 → Option (Int32)
  | 0, _, _ => none
  | d + 1, v0, v1 => F_X8_up_0 (F_X8_up z d) z v0 v1
-- X8_children
def F_X8_children_51 (z : kS) (c14 : Int32 → Int32 → Int32 → Int32 → Option (Int32)) (s0 : Int32) (s1 : Int32) (v1 : Int32) (v4 : Int32) (v5 : Int32) : Option (Int32) :=
  c14 v1 (s0 + s1) v4 (v5 + 1)
def F_X8_children_46 (z : kS) (c14 : Int32 → Int32 → Int32 → Int32 → Option (Int32)) (s0 : Int32) (v1 : Int32) (v4 : Int32) (v5 : Int32) : Option (Int32) :=
  F_X8_children_51 z c14 s0 1 v1 v4 v5
def F_X8_children_50 (z : kS) (c14 : Int32 → Int32 → Int32 → Int32 → Option (Int32)) (s0 : Int32) (v1 : Int32) (v4 : Int32) (v5 : Int32) : Option (Int32) :=
  F_X8_children_51 z c14 s0 0 v1 v4 v5
def F_X8_children_37 (z : kS) (c14 : Int32 → Int32 → Int32 → Int32 → Option (Int32)) (s0 : Int32) (v1 : Int32) (v4 : Int32) (v5 : Int32) (v6 : Int32) : Option (Int32) :=
  if (v6 < 0 ∨ jN z ≤ v6.toNatClampNeg) then none else if jbad (jN z) (z (4 * v6.toNatClampNeg + 1) 5) then none else if jbad (jN z) v1 then none else if (z (4 * v6.toNatClampNeg + 1) 5) = v1 then F_X8_children_46 z c14 s0 v1 v4 v5 else F_X8_children_50 z c14 s0 v1 v4 v5
def F_X8_children_21 (z : kS) (c14 : Int32 → Int32 → Int32 → Int32 → Option (Int32)) (v1 : Int32) (v2 : Int32) (v4 : Int32) (v5 : Int32) : Option (Int32) :=
  if (v5 < 0 ∨ (z 12 0).toNatClampNeg ≤ v5.toNatClampNeg) then none else if ((z 4 v5.toNatClampNeg) < 0 ∨ jN z ≤ (z 4 v5.toNatClampNeg).toNatClampNeg) then none else if jbad (jN z) (z (4 * (z 4 v5.toNatClampNeg).toNatClampNeg + 1) 4) then none else if jbad (jN z) v1 then none else if (z (4 * (z 4 v5.toNatClampNeg).toNatClampNeg + 1) 4) = v1 then F_X8_children_46 z c14 v2 v1 v4 v5 else F_X8_children_37 z c14 v2 v1 v4 v5 (z 4 v5.toNatClampNeg)
def F_X8_children_59 (z : kS) (v2 : Int32) : Option (Int32) :=
  some v2
def F_X8_children_14 (z : kS) : Nat → Int32 → Int32 → Int32 → Int32 → Option (Int32)
  | 0, _, _, _, _ => none
  | n + 1, v1, v2, v4, v5 => if v4 ≤ v5 then F_X8_children_59 z v2 else F_X8_children_21 z (F_X8_children_14 z n) v1 v2 v4 v5
def F_X8_children_0 (z : kS) (v1 : Int32) : Option (Int32) :=
  F_X8_children_14 z kN v1 0 (nI (z 12 0).toNatClampNeg) 0
def F_X8_children (z : kS) (v1 : Int32) : Option (Int32) :=
  F_X8_children_0 z v1
-- X8_worth
def F_X8_worth_46 (z : kS) (c14 : Int32 → Int32 → Int32 → Int32 → Option (Int32)) (s0 : Int32) (s1 : Int32) (v1 : Int32) (v4 : Int32) (v5 : Int32) : Option (Int32) :=
  c14 v1 (s0 + s1) v4 (v5 + 1)
def F_X8_worth_37 (z : kS) (c14 : Int32 → Int32 → Int32 → Int32 → Option (Int32)) (s0 : Int32) (v1 : Int32) (v4 : Int32) (v5 : Int32) (v6 : Int32) : Option (Int32) :=
  if (v6 < 0 ∨ jM z ≤ v6.toNatClampNeg) then none else F_X8_worth_46 z c14 s0 (z (4 * v6.toNatClampNeg + 2) 0) v1 v4 v5
def F_X8_worth_45 (z : kS) (c14 : Int32 → Int32 → Int32 → Int32 → Option (Int32)) (s0 : Int32) (v1 : Int32) (v4 : Int32) (v5 : Int32) : Option (Int32) :=
  F_X8_worth_46 z c14 s0 0 v1 v4 v5
def F_X8_worth_21 (z : kS) (c14 : Int32 → Int32 → Int32 → Int32 → Option (Int32)) (v1 : Int32) (v2 : Int32) (v4 : Int32) (v5 : Int32) : Option (Int32) :=
  if (v5 < 0 ∨ (z 12 1).toNatClampNeg ≤ v5.toNatClampNeg) then none else if ((z 8 v5.toNatClampNeg) < 0 ∨ jM z ≤ (z 8 v5.toNatClampNeg).toNatClampNeg) then none else if jbad (jN z) (z (4 * (z 8 v5.toNatClampNeg).toNatClampNeg + 2) 2) then none else if jbad (jN z) v1 then none else if (z (4 * (z 8 v5.toNatClampNeg).toNatClampNeg + 2) 2) = v1 then F_X8_worth_37 z c14 v2 v1 v4 v5 (z 8 v5.toNatClampNeg) else F_X8_worth_45 z c14 v2 v1 v4 v5
def F_X8_worth_54 (z : kS) (v2 : Int32) : Option (Int32) :=
  some v2
def F_X8_worth_14 (z : kS) : Nat → Int32 → Int32 → Int32 → Int32 → Option (Int32)
  | 0, _, _, _, _ => none
  | n + 1, v1, v2, v4, v5 => if v4 ≤ v5 then F_X8_worth_54 z v2 else F_X8_worth_21 z (F_X8_worth_14 z n) v1 v2 v4 v5
def F_X8_worth_0 (z : kS) (v1 : Int32) : Option (Int32) :=
  F_X8_worth_14 z kN v1 0 (nI (z 12 1).toNatClampNeg) 0
def F_X8_worth (z : kS) (v1 : Int32) : Option (Int32) :=
  F_X8_worth_0 z v1
-- X8_rules
def F_X8_rules_42 (z : kS) (c14 : Int32 → Int32 → Int32 → Int32 → Option (Int32)) (s0 : Int32) (s1 : Int32) (v1 : Int32) (v4 : Int32) (v5 : Int32) : Option (Int32) :=
  c14 v1 (s0 + s1) v4 (v5 + 1)
def F_X8_rules_37 (z : kS) (c14 : Int32 → Int32 → Int32 → Int32 → Option (Int32)) (s0 : Int32) (v1 : Int32) (v4 : Int32) (v5 : Int32) : Option (Int32) :=
  F_X8_rules_42 z c14 s0 1 v1 v4 v5
def F_X8_rules_41 (z : kS) (c14 : Int32 → Int32 → Int32 → Int32 → Option (Int32)) (s0 : Int32) (v1 : Int32) (v4 : Int32) (v5 : Int32) : Option (Int32) :=
  F_X8_rules_42 z c14 s0 0 v1 v4 v5
def F_X8_rules_21 (z : kS) (c14 : Int32 → Int32 → Int32 → Int32 → Option (Int32)) (v1 : Int32) (v2 : Int32) (v4 : Int32) (v5 : Int32) : Option (Int32) :=
  if (v5 < 0 ∨ (z 12 1).toNatClampNeg ≤ v5.toNatClampNeg) then none else if ((z 8 v5.toNatClampNeg) < 0 ∨ jM z ≤ (z 8 v5.toNatClampNeg).toNatClampNeg) then none else if jbad (jN z) (z (4 * (z 8 v5.toNatClampNeg).toNatClampNeg + 2) 2) then none else if jbad (jN z) v1 then none else if (z (4 * (z 8 v5.toNatClampNeg).toNatClampNeg + 2) 2) = v1 then F_X8_rules_37 z c14 v2 v1 v4 v5 else F_X8_rules_41 z c14 v2 v1 v4 v5
def F_X8_rules_50 (z : kS) (v2 : Int32) : Option (Int32) :=
  some v2
def F_X8_rules_14 (z : kS) : Nat → Int32 → Int32 → Int32 → Int32 → Option (Int32)
  | 0, _, _, _, _ => none
  | n + 1, v1, v2, v4, v5 => if v4 ≤ v5 then F_X8_rules_50 z v2 else F_X8_rules_21 z (F_X8_rules_14 z n) v1 v2 v4 v5
def F_X8_rules_0 (z : kS) (v1 : Int32) : Option (Int32) :=
  F_X8_rules_14 z kN v1 0 (nI (z 12 1).toNatClampNeg) 0
def F_X8_rules (z : kS) (v1 : Int32) : Option (Int32) :=
  F_X8_rules_0 z v1
-- X8_isFree
def F_X8_isFree_33 (z : kS) (s0 : Int32) : Option (Int32) :=
  if ¬ (s0 = 0 ∨ s0 = 1) then none else some s0
def F_X8_isFree_28 (z : kS) : Option (Int32) :=
  F_X8_isFree_33 z 1
def F_X8_isFree_32 (z : kS) : Option (Int32) :=
  F_X8_isFree_33 z 0
def F_X8_isFree_14 (z : kS) (v1 : Int32) : Option (Int32) :=
  if (v1 < 0 ∨ jN z ≤ v1.toNatClampNeg) then none else if ((z 0 0) - (z (4 * v1.toNatClampNeg + 1) 2)) ≤ 15 then F_X8_isFree_32 z else F_X8_isFree_28 z
def F_X8_isFree_7 (z : kS) (v1 : Int32) : Option (Int32) :=
  if (v1 < 0 ∨ jN z ≤ v1.toNatClampNeg) then none else if (z (4 * v1.toNatClampNeg + 1) 6) = (-1) then F_X8_isFree_14 z v1 else F_X8_isFree_32 z
def F_X8_isFree_0 (z : kS) (v1 : Int32) : Option (Int32) :=
  if (v1 < 0 ∨ jN z ≤ v1.toNatClampNeg) then none else if 0 ≤ (z (4 * v1.toNatClampNeg + 1) 3) then F_X8_isFree_32 z else F_X8_isFree_7 z v1
def F_X8_isFree (z : kS) (v1 : Int32) : Option (Int32) :=
  F_X8_isFree_0 z v1
-- X8_related
def F_X8_related_25 (z : kS) (c18 : Int32 → Int32 → Int32 → Int32 → Int32 → Option (Int32)) (v1 : Int32) (v2 : Int32) (v3 : Int32) (v5 : Int32) (v6 : Int32) : Option (Int32) :=
  if (v6 < 0 ∨ (z 12 0).toNatClampNeg ≤ v6.toNatClampNeg) then none else (F_X8_up z kD v1 (z 4 v6.toNatClampNeg)).bind fun x25_2 => (F_X8_up z kD v2 (z 4 v6.toNatClampNeg)).bind fun x25_3 => c18 v1 v2 (if (x25_2 + x25_3) < v3 then (x25_2 + x25_3) else v3) v5 (v6 + 1)
def F_X8_related_56 (z : kS) (v3 : Int32) : Option (Int32) :=
  some v3
def F_X8_related_18 (z : kS) : Nat → Int32 → Int32 → Int32 → Int32 → Int32 → Option (Int32)
  | 0, _, _, _, _, _ => none
  | n + 1, v1, v2, v3, v5, v6 => if v5 ≤ v6 then F_X8_related_56 z v3 else F_X8_related_25 z (F_X8_related_18 z n) v1 v2 v3 v5 v6
def F_X8_related_0 (z : kS) (v1 : Int32) (v2 : Int32) : Option (Int32) :=
  F_X8_related_18 z kN v1 v2 1000 (nI (z 12 0).toNatClampNeg) 0
def F_X8_related (z : kS) (v1 : Int32) (v2 : Int32) : Option (Int32) :=
  F_X8_related_0 z v1 v2
-- X8_can
def F_X8_can_42 (z : kS) (s0 : Int32) : Option (Int32) :=
  if ¬ (s0 = 0 ∨ s0 = 1) then none else some s0
def F_X8_can_37 (z : kS) : Option (Int32) :=
  F_X8_can_42 z 1
def F_X8_can_41 (z : kS) : Option (Int32) :=
  F_X8_can_42 z 0
def F_X8_can_27 (z : kS) (v1 : Int32) (v2 : Int32) : Option (Int32) :=
  (F_X8_related z v1 v2).bind fun x27_1 => if x27_1 ≤ 2 then F_X8_can_41 z else F_X8_can_37 z
def F_X8_can_16 (z : kS) (v1 : Int32) (v2 : Int32) : Option (Int32) :=
  if (v1 < 0 ∨ jN z ≤ v1.toNatClampNeg) then none else if (v2 < 0 ∨ jN z ≤ v2.toNatClampNeg) then none else if (z (4 * v1.toNatClampNeg + 1) 1) = (z (4 * v2.toNatClampNeg + 1) 1) then F_X8_can_41 z else F_X8_can_27 z v1 v2
def F_X8_can_8 (z : kS) (v1 : Int32) (v2 : Int32) : Option (Int32) :=
  (F_X8_isFree z v2).bind fun x8_1 => if x8_1 = 0 then F_X8_can_41 z else F_X8_can_16 z v1 v2
def F_X8_can_0 (z : kS) (v1 : Int32) (v2 : Int32) : Option (Int32) :=
  (F_X8_isFree z v1).bind fun x0_1 => if x0_1 = 0 then F_X8_can_41 z else F_X8_can_8 z v1 v2
def F_X8_can (z : kS) (v1 : Int32) (v2 : Int32) : Option (Int32) :=
  F_X8_can_0 z v1 v2
-- X8_regent
def F_X8_regent_18 (z : kS) : Option (Int32) :=
  some (-1)
def F_X8_regent_37 (z : kS) (v1 : Int32) : Option (Int32) :=
  if (v1 < 0 ∨ jN z ≤ v1.toNatClampNeg) then none else some (z (4 * v1.toNatClampNeg + 1) 4)
def F_X8_regent_59 (z : kS) (v1 : Int32) : Option (Int32) :=
  if (v1 < 0 ∨ jN z ≤ v1.toNatClampNeg) then none else some (z (4 * v1.toNatClampNeg + 1) 5)
def F_X8_regent_166 (z : kS) (c79 : Int32 → Int32 → Int32 → Int32 → Option (Int32)) (v1 : Int32) (v2 : Int32) (v3 : Int32) (v4 : Int32) : Option (Int32) :=
  c79 v1 v2 v3 (v4 + (-1))
def F_X8_regent_139 (z : kS) (c79 : Int32 → Int32 → Int32 → Int32 → Option (Int32)) (v1 : Int32) (v2 : Int32) (v3 : Int32) (v4 : Int32) : Option (Int32) :=
  F_X8_regent_166 z c79 v1 v2 v3 v4
def F_X8_regent_157 (z : kS) (c79 : Int32 → Int32 → Int32 → Int32 → Option (Int32)) (v1 : Int32) (v2 : Int32) (v3 : Int32) (v4 : Int32) : Option (Int32) :=
  F_X8_regent_166 z c79 v1 v2 v3 v4
def F_X8_regent_160 (z : kS) (c79 : Int32 → Int32 → Int32 → Int32 → Option (Int32)) (v1 : Int32) (v4 : Int32) (v5 : Int32) (v6 : Int32) : Option (Int32) :=
  F_X8_regent_166 z c79 v1 v5 v6 v4
def F_X8_regent_148 (z : kS) (c79 : Int32 → Int32 → Int32 → Int32 → Option (Int32)) (v1 : Int32) (v2 : Int32) (v3 : Int32) (v4 : Int32) (v5 : Int32) (v6 : Int32) : Option (Int32) :=
  (F_X8_isBefore z v5 v2).bind fun x148_1 => if x148_1 = 0 then F_X8_regent_157 z c79 v1 v2 v3 v4 else F_X8_regent_160 z c79 v1 v4 v5 v6
def F_X8_regent_142 (z : kS) (c79 : Int32 → Int32 → Int32 → Int32 → Option (Int32)) (v1 : Int32) (v2 : Int32) (v3 : Int32) (v4 : Int32) (v5 : Int32) (v6 : Int32) : Option (Int32) :=
  if v6 = v3 then F_X8_regent_148 z c79 v1 v2 v3 v4 v5 v6 else F_X8_regent_160 z c79 v1 v4 v5 v6
def F_X8_regent_131 (z : kS) (c79 : Int32 → Int32 → Int32 → Int32 → Option (Int32)) (v1 : Int32) (v2 : Int32) (v3 : Int32) (v4 : Int32) (v5 : Int32) (v6 : Int32) : Option (Int32) :=
  if v6 = 1000 then F_X8_regent_139 z c79 v1 v2 v3 v4 else F_X8_regent_142 z c79 v1 v2 v3 v4 v5 v6
def F_X8_regent_125 (z : kS) (c79 : Int32 → Int32 → Int32 → Int32 → Option (Int32)) (v1 : Int32) (v2 : Int32) (v3 : Int32) (v4 : Int32) (v5 : Int32) (v6 : Int32) : Option (Int32) :=
  if v3 < v6 then F_X8_regent_166 z c79 v1 v2 v3 v4 else F_X8_regent_131 z c79 v1 v2 v3 v4 v5 v6
def F_X8_regent_110 (z : kS) (c79 : Int32 → Int32 → Int32 → Int32 → Option (Int32)) (v1 : Int32) (v2 : Int32) (v3 : Int32) (v4 : Int32) (v5 : Int32) (v6 : Int32) : Option (Int32) :=
  if (v5 < 0 ∨ jN z ≤ v5.toNatClampNeg) then none else if ((z 0 0) - (z (4 * v5.toNatClampNeg + 1) 2)) < 16 then F_X8_regent_166 z c79 v1 v2 v3 v4 else F_X8_regent_125 z c79 v1 v2 v3 v4 v5 v6
def F_X8_regent_84 (z : kS) (c79 : Int32 → Int32 → Int32 → Int32 → Option (Int32)) (v1 : Int32) (v2 : Int32) (v3 : Int32) (v4 : Int32) : Option (Int32) :=
  if (v4 < 0 ∨ (z 12 0).toNatClampNeg ≤ v4.toNatClampNeg) then none else (F_X8_related z (z 4 v4.toNatClampNeg) v1).bind fun x84_2 => if ((z 4 v4.toNatClampNeg) < 0 ∨ jN z ≤ (z 4 v4.toNatClampNeg).toNatClampNeg) then none else if 0 ≤ (z (4 * (z 4 v4.toNatClampNeg).toNatClampNeg + 1) 3) then F_X8_regent_166 z c79 v1 v2 v3 v4 else F_X8_regent_110 z c79 v1 v2 v3 v4 (z 4 v4.toNatClampNeg) x84_2
def F_X8_regent_172 (z : kS) (v2 : Int32) : Option (Int32) :=
  some v2
def F_X8_regent_79 (z : kS) : Nat → Int32 → Int32 → Int32 → Int32 → Option (Int32)
  | 0, _, _, _, _ => none
  | n + 1, v1, v2, v3, v4 => if v4 < 0 then F_X8_regent_172 z v2 else F_X8_regent_84 z (F_X8_regent_79 z n) v1 v2 v3 v4
def F_X8_regent_64 (z : kS) (v1 : Int32) : Option (Int32) :=
  F_X8_regent_79 z kN v1 (-1) 1000 ((nI (z 12 0).toNatClampNeg) - 1)
def F_X8_regent_49 (z : kS) (v1 : Int32) : Option (Int32) :=
  if (v1 < 0 ∨ jN z ≤ v1.toNatClampNeg) then none else if ((z (4 * v1.toNatClampNeg + 1) 5) < 0 ∨ jN z ≤ (z (4 * v1.toNatClampNeg + 1) 5).toNatClampNeg) then none else if 0 ≤ (z (4 * (z (4 * v1.toNatClampNeg + 1) 5).toNatClampNeg + 1) 3) then F_X8_regent_64 z v1 else F_X8_regent_59 z v1
def F_X8_regent_42 (z : kS) (v1 : Int32) : Option (Int32) :=
  if (v1 < 0 ∨ jN z ≤ v1.toNatClampNeg) then none else if (z (4 * v1.toNatClampNeg + 1) 5) = (-1) then F_X8_regent_64 z v1 else F_X8_regent_49 z v1
def F_X8_regent_27 (z : kS) (v1 : Int32) : Option (Int32) :=
  if (v1 < 0 ∨ jN z ≤ v1.toNatClampNeg) then none else if ((z (4 * v1.toNatClampNeg + 1) 4) < 0 ∨ jN z ≤ (z (4 * v1.toNatClampNeg + 1) 4).toNatClampNeg) then none else if 0 ≤ (z (4 * (z (4 * v1.toNatClampNeg + 1) 4).toNatClampNeg + 1) 3) then F_X8_regent_42 z v1 else F_X8_regent_37 z v1
def F_X8_regent_20 (z : kS) (v1 : Int32) : Option (Int32) :=
  if (v1 < 0 ∨ jN z ≤ v1.toNatClampNeg) then none else if (z (4 * v1.toNatClampNeg + 1) 4) = (-1) then F_X8_regent_42 z v1 else F_X8_regent_27 z v1
def F_X8_regent_4 (z : kS) (v1 : Int32) : Option (Int32) :=
  if (v1 < 0 ∨ jN z ≤ v1.toNatClampNeg) then none else if ((z 0 0) - (z (4 * v1.toNatClampNeg + 1) 2)) ≤ 15 then F_X8_regent_20 z v1 else F_X8_regent_18 z
def F_X8_regent_0 (z : kS) (v1 : Int32) : Option (Int32) :=
  if v1 = (-1) then F_X8_regent_18 z else F_X8_regent_4 z v1
def F_X8_regent (z : kS) (v1 : Int32) : Option (Int32) :=
  F_X8_regent_0 z v1
-- X8_row
def F_X8_row_110 (z : kS) (c26 : Int32 → Int32 → Int32 → Int32 → Int32 → Int32 → (Nat → Int32) → Option ((Int32 × (Nat → Int32)) × Nat × Nat)) (v1 : Int32) (v2 : Int32) (v4 : Int32) (v6 : Int32) (v7 : Int32) (xl5 : Int32) (xf5 : Nat → Int32) : Option ((Int32 × (Nat → Int32)) × Nat × Nat) :=
  c26 v1 v2 v4 v6 (v7 + 1) xl5 xf5
def F_X8_row_58 (z : kS) (c26 : Int32 → Int32 → Int32 → Int32 → Int32 → Int32 → (Nat → Int32) → Option ((Int32 × (Nat → Int32)) × Nat × Nat)) (v1 : Int32) (v2 : Int32) (v4 : Int32) (v6 : Int32) (v7 : Int32) (xl5 : Int32) (xf5 : Nat → Int32) : Option ((Int32 × (Nat → Int32)) × Nat × Nat) :=
  F_X8_row_110 z c26 v1 v2 v4 v6 v7 xl5 xf5
def F_X8_row_85 (z : kS) (c26 : Int32 → Int32 → Int32 → Int32 → Int32 → Int32 → (Nat → Int32) → Option ((Int32 × (Nat → Int32)) × Nat × Nat)) (c65 : Int32 → Int32 → Int32 → Int32 → Int32 → Int32 → Int32 → Int32 → (Nat → Int32) → Option ((Int32 × (Nat → Int32)) × Nat × Nat)) (v1 : Int32) (v2 : Int32) (v4 : Int32) (v6 : Int32) (v7 : Int32) (v8 : Int32) (v9 : Int32) (xl5 : Int32) (xf5 : Nat → Int32) : Option ((Int32 × (Nat → Int32)) × Nat × Nat) :=
  if ((v9 - 1) < 0 ∨ xl5.toNatClampNeg ≤ (v9 - 1).toNatClampNeg) then none else if (v9 < 0 ∨ xl5.toNatClampNeg ≤ v9.toNatClampNeg) then none else if jbad (jN z) (xf5 (v9 - 1).toNatClampNeg) then none else c65 v1 v2 v4 v6 v7 v8 (v9 + (-1)) xl5 (upd xf5 v9.toNatClampNeg (xf5 (v9 - 1).toNatClampNeg))
def F_X8_row_101 (z : kS) (c26 : Int32 → Int32 → Int32 → Int32 → Int32 → Int32 → (Nat → Int32) → Option ((Int32 × (Nat → Int32)) × Nat × Nat)) (v1 : Int32) (v2 : Int32) (v4 : Int32) (v6 : Int32) (v7 : Int32) (v8 : Int32) (v9 : Int32) (xl5 : Int32) (xf5 : Nat → Int32) : Option ((Int32 × (Nat → Int32)) × Nat × Nat) :=
  if (v9 < 0 ∨ xl5.toNatClampNeg ≤ v9.toNatClampNeg) then none else if jbad (jN z) v8 then none else F_X8_row_110 z c26 v1 v2 (v4 + 1) v6 v7 xl5 (upd xf5 v9.toNatClampNeg v8)
def F_X8_row_70 (z : kS) (c26 : Int32 → Int32 → Int32 → Int32 → Int32 → Int32 → (Nat → Int32) → Option ((Int32 × (Nat → Int32)) × Nat × Nat)) (c65 : Int32 → Int32 → Int32 → Int32 → Int32 → Int32 → Int32 → Int32 → (Nat → Int32) → Option ((Int32 × (Nat → Int32)) × Nat × Nat)) (v1 : Int32) (v2 : Int32) (v4 : Int32) (v6 : Int32) (v7 : Int32) (v8 : Int32) (v9 : Int32) (xl5 : Int32) (xf5 : Nat → Int32) : Option ((Int32 × (Nat → Int32)) × Nat × Nat) :=
  if ((v9 - 1) < 0 ∨ xl5.toNatClampNeg ≤ (v9 - 1).toNatClampNeg) then none else (F_X8_isAhead z v8 (xf5 (v9 - 1).toNatClampNeg) v2).bind fun x70_2 => if x70_2 = 0 then F_X8_row_101 z c26 v1 v2 v4 v6 v7 v8 v9 xl5 xf5 else F_X8_row_85 z c26 c65 v1 v2 v4 v6 v7 v8 v9 xl5 xf5
def F_X8_row_65 (z : kS) (c26 : Int32 → Int32 → Int32 → Int32 → Int32 → Int32 → (Nat → Int32) → Option ((Int32 × (Nat → Int32)) × Nat × Nat)) : Nat → Int32 → Int32 → Int32 → Int32 → Int32 → Int32 → Int32 → Int32 → (Nat → Int32) → Option ((Int32 × (Nat → Int32)) × Nat × Nat)
  | 0, _, _, _, _, _, _, _, _, _ => none
  | n + 1, v1, v2, v4, v6, v7, v8, v9, xl5, xf5 => if v9 ≤ 0 then F_X8_row_101 z c26 v1 v2 v4 v6 v7 v8 v9 xl5 xf5 else F_X8_row_70 z c26 (F_X8_row_65 z c26 n) v1 v2 v4 v6 v7 v8 v9 xl5 xf5
def F_X8_row_61 (z : kS) (c26 : Int32 → Int32 → Int32 → Int32 → Int32 → Int32 → (Nat → Int32) → Option ((Int32 × (Nat → Int32)) × Nat × Nat)) (v1 : Int32) (v2 : Int32) (v4 : Int32) (v6 : Int32) (v7 : Int32) (v8 : Int32) (xl5 : Int32) (xf5 : Nat → Int32) : Option ((Int32 × (Nat → Int32)) × Nat × Nat) :=
  F_X8_row_65 z c26 kN v1 v2 v4 v6 v7 v8 v4 xl5 xf5
def F_X8_row_49 (z : kS) (c26 : Int32 → Int32 → Int32 → Int32 → Int32 → Int32 → (Nat → Int32) → Option ((Int32 × (Nat → Int32)) × Nat × Nat)) (v1 : Int32) (v2 : Int32) (v4 : Int32) (v6 : Int32) (v7 : Int32) (v8 : Int32) (xl5 : Int32) (xf5 : Nat → Int32) : Option ((Int32 × (Nat → Int32)) × Nat × Nat) :=
  if (v8 < 0 ∨ jN z ≤ v8.toNatClampNeg) then none else if jbad (jN z) (z (4 * v8.toNatClampNeg + 1) 5) then none else if jbad (jN z) v1 then none else if (z (4 * v8.toNatClampNeg + 1) 5) = v1 then F_X8_row_61 z c26 v1 v2 v4 v6 v7 v8 xl5 xf5 else F_X8_row_58 z c26 v1 v2 v4 v6 v7 xl5 xf5
def F_X8_row_33 (z : kS) (c26 : Int32 → Int32 → Int32 → Int32 → Int32 → Int32 → (Nat → Int32) → Option ((Int32 × (Nat → Int32)) × Nat × Nat)) (v1 : Int32) (v2 : Int32) (v4 : Int32) (v6 : Int32) (v7 : Int32) (xl5 : Int32) (xf5 : Nat → Int32) : Option ((Int32 × (Nat → Int32)) × Nat × Nat) :=
  if (v7 < 0 ∨ (z 12 0).toNatClampNeg ≤ v7.toNatClampNeg) then none else if ((z 4 v7.toNatClampNeg) < 0 ∨ jN z ≤ (z 4 v7.toNatClampNeg).toNatClampNeg) then none else if jbad (jN z) (z (4 * (z 4 v7.toNatClampNeg).toNatClampNeg + 1) 4) then none else if jbad (jN z) v1 then none else if (z (4 * (z 4 v7.toNatClampNeg).toNatClampNeg + 1) 4) = v1 then F_X8_row_61 z c26 v1 v2 v4 v6 v7 (z 4 v7.toNatClampNeg) xl5 xf5 else F_X8_row_49 z c26 v1 v2 v4 v6 v7 (z 4 v7.toNatClampNeg) xl5 xf5
def F_X8_row_116 (z : kS) (xl5 : Int32) (xf5 : Nat → Int32) : Option ((Int32 × (Nat → Int32)) × Nat × Nat) :=
  some ((xl5, xf5), 0, 0)
def F_X8_row_26 (z : kS) : Nat → Int32 → Int32 → Int32 → Int32 → Int32 → Int32 → (Nat → Int32) → Option ((Int32 × (Nat → Int32)) × Nat × Nat)
  | 0, _, _, _, _, _, _, _ => none
  | n + 1, v1, v2, v4, v6, v7, xl5, xf5 => if v6 ≤ v7 then F_X8_row_116 z xl5 xf5 else F_X8_row_33 z (F_X8_row_26 z n) v1 v2 v4 v6 v7 xl5 xf5
def F_X8_row_0 (z : kS) (v1 : Int32) (v2 : Int32) : Option ((Int32 × (Nat → Int32)) × Nat × Nat) :=
  (F_X8_children z v1).bind fun x0_1 => if (x0_1 < 0 ∨ 100000000 < x0_1.toNatClampNeg) then none else kadd 1 x0_1.toNatClampNeg (F_X8_row_26 z kN v1 v2 0 (nI (z 12 0).toNatClampNeg) 0 x0_1 (fun _ => -1))
def F_X8_row (z : kS) (v1 : Int32) (v2 : Int32) : Option ((Int32 × (Nat → Int32)) × Nat × Nat) :=
  F_X8_row_0 z v1 v2
-- X8_first
def F_X8_first_4 (self : Int32 → Int32 → Int32 → Option (Int32 × Nat × Nat)) (z : kS) : Option (Int32 × Nat × Nat) :=
  some ((-1), 0, 0)
def F_X8_first_70 (self : Int32 → Int32 → Int32 → Option (Int32 × Nat × Nat)) (z : kS) (v8 : Int32) : Option (Int32 × Nat × Nat) :=
  some (v8, 0, 0)
def F_X8_first_73 (self : Int32 → Int32 → Int32 → Option (Int32 × Nat × Nat)) (z : kS) (c22 : Int32 → Int32 → Int32 → Int32 → Int32 → (Nat → Int32) → Option (Int32 × Nat × Nat)) (v2 : Int32) (v3 : Int32) (v5 : Int32) (v6 : Int32) (xl9 : Int32) (xf9 : Nat → Int32) : Option (Int32 × Nat × Nat) :=
  c22 v2 v3 v5 (v6 + 1) xl9 xf9
def F_X8_first_63 (self : Int32 → Int32 → Int32 → Option (Int32 × Nat × Nat)) (z : kS) (c22 : Int32 → Int32 → Int32 → Int32 → Int32 → (Nat → Int32) → Option (Int32 × Nat × Nat)) (s0 : Int32) (v2 : Int32) (v3 : Int32) (v5 : Int32) (v6 : Int32) (xl9 : Int32) (xf9 : Nat → Int32) : Option (Int32 × Nat × Nat) :=
  if s0 = (-1) then F_X8_first_73 self z c22 v2 v3 v5 v6 xl9 xf9 else F_X8_first_70 self z s0
def F_X8_first_50 (self : Int32 → Int32 → Int32 → Option (Int32 × Nat × Nat)) (z : kS) (c22 : Int32 → Int32 → Int32 → Int32 → Int32 → (Nat → Int32) → Option (Int32 × Nat × Nat)) (v2 : Int32) (v3 : Int32) (v5 : Int32) (v6 : Int32) (v7 : Int32) (xl9 : Int32) (xf9 : Nat → Int32) : Option (Int32 × Nat × Nat) :=
  F_X8_first_63 self z c22 v7 v2 v3 v5 v6 xl9 xf9
def F_X8_first_55 (self : Int32 → Int32 → Int32 → Option (Int32 × Nat × Nat)) (z : kS) (c22 : Int32 → Int32 → Int32 → Int32 → Int32 → (Nat → Int32) → Option (Int32 × Nat × Nat)) (v2 : Int32) (v3 : Int32) (v5 : Int32) (v6 : Int32) (v7 : Int32) (xl9 : Int32) (xf9 : Nat → Int32) : Option (Int32 × Nat × Nat) :=
  (self v7 v2 v3).bind fun x55_1 => kadd x55_1.2.1 x55_1.2.2 (F_X8_first_63 self z c22 x55_1.1 v2 v3 v5 v6 xl9 xf9)
def F_X8_first_44 (self : Int32 → Int32 → Int32 → Option (Int32 × Nat × Nat)) (z : kS) (c22 : Int32 → Int32 → Int32 → Int32 → Int32 → (Nat → Int32) → Option (Int32 × Nat × Nat)) (v2 : Int32) (v3 : Int32) (v5 : Int32) (v6 : Int32) (v7 : Int32) (xl9 : Int32) (xf9 : Nat → Int32) : Option (Int32 × Nat × Nat) :=
  if jbad (jN z) v7 then none else if jbad (jN z) v3 then none else if v7 = v3 then F_X8_first_55 self z c22 v2 v3 v5 v6 v7 xl9 xf9 else F_X8_first_50 self z c22 v2 v3 v5 v6 v7 xl9 xf9
def F_X8_first_29 (self : Int32 → Int32 → Int32 → Option (Int32 × Nat × Nat)) (z : kS) (c22 : Int32 → Int32 → Int32 → Int32 → Int32 → (Nat → Int32) → Option (Int32 × Nat × Nat)) (v2 : Int32) (v3 : Int32) (v5 : Int32) (v6 : Int32) (xl9 : Int32) (xf9 : Nat → Int32) : Option (Int32 × Nat × Nat) :=
  if (v6 < 0 ∨ xl9.toNatClampNeg ≤ v6.toNatClampNeg) then none else if ((xf9 v6.toNatClampNeg) < 0 ∨ jN z ≤ (xf9 v6.toNatClampNeg).toNatClampNeg) then none else if 0 ≤ (z (4 * (xf9 v6.toNatClampNeg).toNatClampNeg + 1) 3) then F_X8_first_55 self z c22 v2 v3 v5 v6 (xf9 v6.toNatClampNeg) xl9 xf9 else F_X8_first_44 self z c22 v2 v3 v5 v6 (xf9 v6.toNatClampNeg) xl9 xf9
def F_X8_first_79 (self : Int32 → Int32 → Int32 → Option (Int32 × Nat × Nat)) (z : kS) : Option (Int32 × Nat × Nat) :=
  some ((-1), 0, 0)
def F_X8_first_22 (self : Int32 → Int32 → Int32 → Option (Int32 × Nat × Nat)) (z : kS) : Nat → Int32 → Int32 → Int32 → Int32 → Int32 → (Nat → Int32) → Option (Int32 × Nat × Nat)
  | 0, _, _, _, _, _, _ => none
  | n + 1, v2, v3, v5, v6, xl9, xf9 => if v5 ≤ v6 then F_X8_first_79 self z else F_X8_first_29 self z (F_X8_first_22 self z n) v2 v3 v5 v6 xl9 xf9
def F_X8_first_6 (self : Int32 → Int32 → Int32 → Option (Int32 × Nat × Nat)) (z : kS) (v1 : Int32) (v2 : Int32) (v3 : Int32) : Option (Int32 × Nat × Nat) :=
  (F_X8_row z v1 v2).bind fun x6_1 => kadd x6_1.2.1 x6_1.2.2 (F_X8_first_22 self z kN v2 v3 (nI x6_1.1.1.toNatClampNeg) 0 x6_1.1.1 x6_1.1.2)
def F_X8_first_0 (self : Int32 → Int32 → Int32 → Option (Int32 × Nat × Nat)) (z : kS) (v1 : Int32) (v2 : Int32) (v3 : Int32) : Option (Int32 × Nat × Nat) :=
  if v1 = (-1) then F_X8_first_4 self z else F_X8_first_6 self z v1 v2 v3
def F_X8_first (z : kS) : Nat → Int32 → Int32 → Int32 → Option (Int32 × Nat × Nat)
  | 0, _, _, _ => none
  | d + 1, v1, v2, v3 => F_X8_first_0 (F_X8_first z d) z v1 v2 v3
-- X8_heir
def F_X8_heir_78 (z : kS) (c21 : Int32 → Int32 → Int32 → Int32 → Option (Int32 × Nat × Nat)) (v1 : Int32) (v3 : Int32) (v5 : Int32) (v6 : Int32) : Option (Int32 × Nat × Nat) :=
  c21 v1 v3 v5 (v6 + 1)
def F_X8_heir_75 (z : kS) (c21 : Int32 → Int32 → Int32 → Int32 → Option (Int32 × Nat × Nat)) (v1 : Int32) (v5 : Int32) (v6 : Int32) (v7 : Int32) : Option (Int32 × Nat × Nat) :=
  F_X8_heir_78 z c21 v1 v7 v5 v6
def F_X8_heir_66 (z : kS) (c21 : Int32 → Int32 → Int32 → Int32 → Option (Int32 × Nat × Nat)) (v1 : Int32) (v3 : Int32) (v5 : Int32) (v6 : Int32) (v7 : Int32) : Option (Int32 × Nat × Nat) :=
  (F_X8_isBefore z v7 v3).bind fun x66_1 => if x66_1 = 0 then F_X8_heir_78 z c21 v1 v3 v5 v6 else F_X8_heir_75 z c21 v1 v5 v6 v7
def F_X8_heir_62 (z : kS) (c21 : Int32 → Int32 → Int32 → Int32 → Option (Int32 × Nat × Nat)) (v1 : Int32) (v3 : Int32) (v5 : Int32) (v6 : Int32) (v7 : Int32) : Option (Int32 × Nat × Nat) :=
  if v3 = (-1) then F_X8_heir_75 z c21 v1 v5 v6 v7 else F_X8_heir_66 z c21 v1 v3 v5 v6 v7
def F_X8_heir_49 (z : kS) (c21 : Int32 → Int32 → Int32 → Int32 → Option (Int32 × Nat × Nat)) (v1 : Int32) (v3 : Int32) (v5 : Int32) (v6 : Int32) (v7 : Int32) : Option (Int32 × Nat × Nat) :=
  (F_X8_related z v7 v1).bind fun x49_1 => if 1000 ≤ x49_1 then F_X8_heir_78 z c21 v1 v3 v5 v6 else F_X8_heir_62 z c21 v1 v3 v5 v6 v7
def F_X8_heir_41 (z : kS) (c21 : Int32 → Int32 → Int32 → Int32 → Option (Int32 × Nat × Nat)) (v1 : Int32) (v3 : Int32) (v5 : Int32) (v6 : Int32) (v7 : Int32) : Option (Int32 × Nat × Nat) :=
  if (v7 < 0 ∨ jN z ≤ v7.toNatClampNeg) then none else if 0 ≤ (z (4 * v7.toNatClampNeg + 1) 3) then F_X8_heir_78 z c21 v1 v3 v5 v6 else F_X8_heir_49 z c21 v1 v3 v5 v6 v7
def F_X8_heir_28 (z : kS) (c21 : Int32 → Int32 → Int32 → Int32 → Option (Int32 × Nat × Nat)) (v1 : Int32) (v3 : Int32) (v5 : Int32) (v6 : Int32) : Option (Int32 × Nat × Nat) :=
  if (v6 < 0 ∨ (z 12 0).toNatClampNeg ≤ v6.toNatClampNeg) then none else if jbad (jN z) (z 4 v6.toNatClampNeg) then none else if jbad (jN z) v1 then none else if (z 4 v6.toNatClampNeg) = v1 then F_X8_heir_78 z c21 v1 v3 v5 v6 else F_X8_heir_41 z c21 v1 v3 v5 v6 (z 4 v6.toNatClampNeg)
def F_X8_heir_84 (z : kS) (v3 : Int32) : Option (Int32 × Nat × Nat) :=
  some (v3, 0, 0)
def F_X8_heir_21 (z : kS) : Nat → Int32 → Int32 → Int32 → Int32 → Option (Int32 × Nat × Nat)
  | 0, _, _, _, _ => none
  | n + 1, v1, v3, v5, v6 => if v5 ≤ v6 then F_X8_heir_84 z v3 else F_X8_heir_28 z (F_X8_heir_21 z n) v1 v3 v5 v6
def F_X8_heir_7 (z : kS) (v1 : Int32) (v3 : Int32) : Option (Int32 × Nat × Nat) :=
  F_X8_heir_21 z kN v1 v3 (nI (z 12 0).toNatClampNeg) 0
def F_X8_heir_127 (z : kS) (s0 : Int32) : Option (Int32 × Nat × Nat) :=
  some (s0, 0, 0)
def F_X8_heir_113 (z : kS) (v1 : Int32) (v2 : Int32) : Option (Int32 × Nat × Nat) :=
  if (v1 < 0 ∨ jN z ≤ v1.toNatClampNeg) then none else (F_X8_first z kD (z (4 * v1.toNatClampNeg + 1) 4) v2 v1).bind fun x113_2 => kadd x113_2.2.1 x113_2.2.2 (F_X8_heir_127 z x113_2.1)
def F_X8_heir_126 (z : kS) (v3 : Int32) : Option (Int32 × Nat × Nat) :=
  F_X8_heir_127 z v3
def F_X8_heir_109 (z : kS) (v1 : Int32) (v2 : Int32) (v3 : Int32) : Option (Int32 × Nat × Nat) :=
  if v3 = (-1) then F_X8_heir_113 z v1 v2 else F_X8_heir_126 z v3
def F_X8_heir_98 (z : kS) (v1 : Int32) (v2 : Int32) : Option (Int32 × Nat × Nat) :=
  if (v1 < 0 ∨ jN z ≤ v1.toNatClampNeg) then none else (F_X8_first z kD (z (4 * v1.toNatClampNeg + 1) 5) v2 v1).bind fun x98_2 => kadd x98_2.2.1 x98_2.2.2 (F_X8_heir_109 z v1 v2 x98_2.1)
def F_X8_heir_86 (z : kS) (v1 : Int32) (v2 : Int32) : Option (Int32 × Nat × Nat) :=
  (F_X8_first z kD v1 v2 v1).bind fun x86_1 => kadd x86_1.2.1 x86_1.2.2 (if x86_1.1 = (-1) then F_X8_heir_98 z v1 v2 else F_X8_heir_109 z v1 v2 x86_1.1)
def F_X8_heir_0 (z : kS) (v1 : Int32) (v2 : Int32) : Option (Int32 × Nat × Nat) :=
  if v2 = 3 then F_X8_heir_7 z v1 (-1) else F_X8_heir_86 z v1 v2
def F_X8_heir (z : kS) (v1 : Int32) (v2 : Int32) : Option (Int32 × Nat × Nat) :=
  F_X8_heir_0 z v1 v2
-- X8_part
def F_X8_part_7 (z : kS) : Option (kS) :=
  some z
def F_X8_part_8 (v1 : Int32) (z : kS) : Option (kS) :=
  if (v1 < 0 ∨ jN z ≤ v1.toNatClampNeg) then none else if ((z (4 * v1.toNatClampNeg + 1) 6) < 0 ∨ jN z ≤ (z (4 * v1.toNatClampNeg + 1) 6).toNatClampNeg) then none else if (v1 < 0 ∨ jN (kput z (4 * (z (4 * v1.toNatClampNeg + 1) 6).toNatClampNeg + 1) 6 (-1)) ≤ v1.toNatClampNeg) then none else if (((kput z (4 * (z (4 * v1.toNatClampNeg + 1) 6).toNatClampNeg + 1) 6 (-1)) (4 * v1.toNatClampNeg + 1) 6) < 0 ∨ jN (kput z (4 * (z (4 * v1.toNatClampNeg + 1) 6).toNatClampNeg + 1) 6 (-1)) ≤ ((kput z (4 * (z (4 * v1.toNatClampNeg + 1) 6).toNatClampNeg + 1) 6 (-1)) (4 * v1.toNatClampNeg + 1) 6).toNatClampNeg) then none else if (v1 < 0 ∨ jN (kput (kput z (4 * (z (4 * v1.toNatClampNeg + 1) 6).toNatClampNeg + 1) 6 (-1)) (4 * ((kput z (4 * (z (4 * v1.toNatClampNeg + 1) 6).toNatClampNeg + 1) 6 (-1)) (4 * v1.toNatClampNeg + 1) 6).toNatClampNeg + 1) 7 (-1)) ≤ v1.toNatClampNeg) then none else if (v1 < 0 ∨ jN (kput (kput (kput z (4 * (z (4 * v1.toNatClampNeg + 1) 6).toNatClampNeg + 1) 6 (-1)) (4 * ((kput z (4 * (z (4 * v1.toNatClampNeg + 1) 6).toNatClampNeg + 1) 6 (-1)) (4 * v1.toNatClampNeg + 1) 6).toNatClampNeg + 1) 7 (-1)) (4 * v1.toNatClampNeg + 1) 6 (-1)) ≤ v1.toNatClampNeg) then none else some (kput (kput (kput (kput z (4 * (z (4 * v1.toNatClampNeg + 1) 6).toNatClampNeg + 1) 6 (-1)) (4 * ((kput z (4 * (z (4 * v1.toNatClampNeg + 1) 6).toNatClampNeg + 1) 6 (-1)) (4 * v1.toNatClampNeg + 1) 6).toNatClampNeg + 1) 7 (-1)) (4 * v1.toNatClampNeg + 1) 6 (-1)) (4 * v1.toNatClampNeg + 1) 7 (-1))
def F_X8_part_0 (v1 : Int32) (z : kS) : Option (kS) :=
  if (v1 < 0 ∨ jN z ≤ v1.toNatClampNeg) then none else if (z (4 * v1.toNatClampNeg + 1) 6) = (-1) then F_X8_part_7 z else F_X8_part_8 v1 z
def F_X8_part (v1 : Int32) (z : kS) : Option (kS) :=
  F_X8_part_0 v1 z
