-- X6_rules
def F_X6_rules_13 (mo : kS) : Option ((Int32 × kS) × Nat × Nat) :=
  (F_X6_fail 1 mo).bind fun x13_1 => some ((x13_1.1, x13_1.2), 0, 0)
def F_X6_rules_40 (c26 : Int32 → Int32 → kS → kS → Option ((Int32 × kS) × Nat × Nat)) (v1 : Int32) (v3 : Int32) (xf : kS) (mo : kS) : Option ((Int32 × kS) × Nat × Nat) :=
  (F_X6_yearOn mo).bind fun x40_1 => kadd x40_1.2.1 x40_1.2.2 (c26 v1 (v3 + 1) xf x40_1.1.2)
def F_X6_rules_61 (v3 : Int32) (xf : kS) (mo : kS) : Option ((Int32 × kS) × Nat × Nat) :=
  kadd 1 4 (some ((v3, (kBack mo xf)), 0, 0))
def F_X6_rules_59 (xf : kS) (mo : kS) : Option ((Int32 × kS) × Nat × Nat) :=
  F_X6_rules_61 (-1) xf mo
def F_X6_rules_51 (v1 : Int32) (v3 : Int32) (xf : kS) (mo : kS) : Option ((Int32 × kS) × Nat × Nat) :=
  (F_X6_rulesNow mo v1).bind fun x51_1 => if x51_1 = 0 then F_X6_rules_59 xf mo else F_X6_rules_61 v3 xf mo
def F_X6_rules_32 (c26 : Int32 → Int32 → kS → kS → Option ((Int32 × kS) × Nat × Nat)) (v1 : Int32) (v3 : Int32) (xf : kS) (mo : kS) : Option ((Int32 × kS) × Nat × Nat) :=
  (F_X6_rulesNow mo v1).bind fun x32_1 => if x32_1 = 0 then F_X6_rules_40 c26 v1 v3 xf mo else F_X6_rules_51 v1 v3 xf mo
def F_X6_rules_26 : Nat → Int32 → Int32 → kS → kS → Option ((Int32 × kS) × Nat × Nat)
  | 0, _, _, _, _ => none
  | n + 1, v1, v3, xf, mo => if 100 ≤ v3 then F_X6_rules_51 v1 v3 xf mo else F_X6_rules_32 (F_X6_rules_26 n) v1 v3 xf mo
def F_X6_rules_19 (v1 : Int32) (mo : kS) : Option ((Int32 × kS) × Nat × Nat) :=
  kadd 5 593 (F_X6_rules_26 kN v1 0 mo mo)
def F_X6_rules_0 (v1 : Int32) (mo : kS) : Option ((Int32 × kS) × Nat × Nat) :=
  (F_X6_isPerson (kst mo 7 (upd (mo 7) 0 0)) v1).bind fun x0_1 => if x0_1 = 0 then F_X6_rules_13 (kst mo 7 (upd (mo 7) 0 0)) else F_X6_rules_19 v1 (kst mo 7 (upd (mo 7) 0 0))
def F_X6_rules (v1 : Int32) (mo : kS) : Option ((Int32 × kS) × Nat × Nat) :=
  F_X6_rules_0 v1 mo
-- X6_foresee
def F_X6_foresee_15 (mo : kS) : Option ((Int32 × kS) × Nat × Nat) :=
  (F_X6_fail 1 mo).bind fun x15_1 => some ((x15_1.1, x15_1.2), 0, 0)
def F_X6_foresee_29 (mo : kS) : Option ((Int32 × kS) × Nat × Nat) :=
  (F_X6_fail 2 mo).bind fun x29_1 => some ((x29_1.1, x29_1.2), 0, 0)
def F_X6_foresee_35 (v1 : Int32) (v2 : Int32) (mo : kS) : Option ((Int32 × kS) × Nat × Nat) :=
  kadd 5 593 ((F_X6_yearsOn v1 mo).bind fun x35_3 => kadd x35_3.2.1 x35_3.2.2 ((F_X6_la x35_3.1.2 v2 2).bind fun x35_6 => kadd 1 4 (some ((x35_6, (kBack x35_3.1.2 mo)), 0, 0))))
def F_X6_foresee_21 (v1 : Int32) (v2 : Int32) (mo : kS) : Option ((Int32 × kS) × Nat × Nat) :=
  (F_X6_isLand mo v2).bind fun x21_1 => if x21_1 = 0 then F_X6_foresee_29 mo else F_X6_foresee_35 v1 v2 mo
def F_X6_foresee_0 (v1 : Int32) (v2 : Int32) (mo : kS) : Option ((Int32 × kS) × Nat × Nat) :=
  (F_X6_isIn (kst mo 7 (upd (mo 7) 0 0)) v1 1 100).bind fun x0_1 => if x0_1 = 0 then F_X6_foresee_15 (kst mo 7 (upd (mo 7) 0 0)) else F_X6_foresee_21 v1 v2 (kst mo 7 (upd (mo 7) 0 0))
def F_X6_foresee (v1 : Int32) (v2 : Int32) (mo : kS) : Option ((Int32 × kS) × Nat × Nat) :=
  F_X6_foresee_0 v1 v2 mo
