-- X5_come
def F_X5_come_10 (k : kS) : Option (((Nat × Int32) × kS)) :=
  some ((1, 0), k)
def F_X5_come_30 (k : kS) : Option (((Nat × Int32) × kS)) :=
  some ((2, 0), k)
def F_X5_come_40 (v1 : Int32) (v2 : Int32) (k : kS) : Option (((Nat × Int32) × kS)) :=
  (F_X0_add v1 ((k 15 0) - v2) (-1) (-1) k).bind fun x40_1 => some ((0, x40_1.1), x40_1.2)
def F_X5_come_20 (v1 : Int32) (v2 : Int32) (k : kS) : Option (((Nat × Int32) × kS)) :=
  (F_X0_isFull k).bind fun x20_1 => if x20_1 = 0 then F_X5_come_40 v1 v2 k else F_X5_come_30 k
def F_X5_come_4 (v1 : Int32) (v2 : Int32) (k : kS) : Option (((Nat × Int32) × kS)) :=
  if v2 ≤ 60 then F_X5_come_20 v1 v2 k else F_X5_come_10 k
def F_X5_come_0 (v1 : Int32) (v2 : Int32) (k : kS) : Option (((Nat × Int32) × kS)) :=
  if v2 < 0 then F_X5_come_10 k else F_X5_come_4 v1 v2 k
def F_X5_come (v1 : Int32) (v2 : Int32) (k : kS) : Option (((Nat × Int32) × kS)) :=
  F_X5_come_0 v1 v2 k
-- X5_needPerson
def F_X5_needPerson_11 (k : kS) : Option (Nat) :=
  some 3
def F_X5_needPerson_21 (k : kS) : Option (Nat) :=
  some 0
def F_X5_needPerson_0 (k : kS) (v1 : Int32) : Option (Nat) :=
  (F_X0_knows k v1).bind fun x0_1 => if x0_1 = 0 then F_X5_needPerson_11 k else F_X5_needPerson_21 k
def F_X5_needPerson (k : kS) (v1 : Int32) : Option (Nat) :=
  F_X5_needPerson_0 k v1
-- X5_bear
def F_X5_bear_45 (k : kS) : Option (((Nat × Int32) × kS)) :=
  some ((2, 0), k)
def F_X5_bear_65 (k : kS) : Option (((Nat × Int32) × kS)) :=
  some ((2, 0), k)
def F_X5_bear_75 (v1 : Int32) (v2 : Int32) (v3 : Int32) (k : kS) : Option (((Nat × Int32) × kS)) :=
  (F_X0_add v2 (k 15 0) v1 v3 k).bind fun x75_1 => some ((0, x75_1.1), x75_1.2)
def F_X5_bear_55 (v1 : Int32) (v2 : Int32) (v3 : Int32) (k : kS) : Option (((Nat × Int32) × kS)) :=
  (F_X0_isFull k).bind fun x55_1 => if x55_1 = 0 then F_X5_bear_75 v1 v2 v3 k else F_X5_bear_65 k
def F_X5_bear_34 (v1 : Int32) (v2 : Int32) (v3 : Int32) (k : kS) : Option (((Nat × Int32) × kS)) :=
  (F_X4_lives 15 k v1).bind fun x34_1 => if x34_1 = 0 then F_X5_bear_45 k else F_X5_bear_55 v1 v2 v3 k
def F_X5_bear_29 (v1 : Int32) (v2 : Int32) (v3 : Int32) (k : kS) : Option (((Nat × Int32) × kS)) :=
  if v3 = (-1) then F_X5_bear_45 k else F_X5_bear_34 v1 v2 v3 k
def F_X5_bear_0 (v1 : Int32) (v2 : Int32) (k : kS) : Option (((Nat × Int32) × kS)) :=
  (F_X5_needPerson k v1).bind fun x0_1 => if x0_1 = 0 then (F_X3_spouseOf 15 k v1).bind fun x0_2 => if (v1 < 0 ∨ 40 ≤ v1.toNatClampNeg) then none else if (k 2 v1.toNatClampNeg) = 0 then F_X5_bear_29 v1 v2 x0_2 k else F_X5_bear_45 k else some ((x0_1, 0), k)
def F_X5_bear (v1 : Int32) (v2 : Int32) (k : kS) : Option (((Nat × Int32) × kS)) :=
  F_X5_bear_0 v1 v2 k
-- X5_needLaw
def F_X5_needLaw_9 (k : kS) : Option (Nat) :=
  some 1
def F_X5_needLaw_19 (k : kS) : Option (Nat) :=
  some 0
def F_X5_needLaw_4 (k : kS) (v0 : Int32) : Option (Nat) :=
  if v0 ≤ 3 then F_X5_needLaw_19 k else F_X5_needLaw_9 k
def F_X5_needLaw_0 (k : kS) (v0 : Int32) : Option (Nat) :=
  if v0 < 0 then F_X5_needLaw_9 k else F_X5_needLaw_4 k v0
def F_X5_needLaw (k : kS) (v0 : Int32) : Option (Nat) :=
  F_X5_needLaw_0 k v0
-- X5_found
def F_X5_found_11 (k : kS) : Option (((Nat × Int32) × kS)) :=
  some ((1, 0), k)
def F_X5_found_48 (k : kS) : Option (((Nat × Int32) × kS)) :=
  some ((2, 0), k)
def F_X5_found_74 (k : kS) : Option (((Nat × Int32) × kS)) :=
  some ((2, 0), k)
def F_X5_found_84 (v1 : Int32) (v2 : Int32) (v3 : Int32) (k : kS) : Option (((Nat × Int32) × kS)) :=
  (F_X1_add 15 v1 v2 v3 k).bind fun x84_1 => some ((0, x84_1.1), x84_1.2)
def F_X5_found_63 (v1 : Int32) (v2 : Int32) (v3 : Int32) (k : kS) : Option (((Nat × Int32) × kS)) :=
  (F_X4_lives 15 k v3).bind fun x63_1 => if x63_1 = 0 then F_X5_found_74 k else F_X5_found_84 v1 v2 v3 k
def F_X5_found_58 (v1 : Int32) (v2 : Int32) (v3 : Int32) (k : kS) : Option (((Nat × Int32) × kS)) :=
  if v3 = (-1) then F_X5_found_84 v1 v2 v3 k else F_X5_found_63 v1 v2 v3 k
def F_X5_found_35 (v1 : Int32) (v2 : Int32) (v3 : Int32) (k : kS) : Option (((Nat × Int32) × kS)) :=
  (F_X1_isFull 15 k).bind fun x35_1 => if x35_1 = 0 then F_X5_found_58 v1 v2 v3 k else F_X5_found_48 k
def F_X5_found_30 (v1 : Int32) (v2 : Int32) (v3 : Int32) (k : kS) : Option (((Nat × Int32) × kS)) :=
  (F_X5_needPerson k v3).bind fun x30_1 => if x30_1 = 0 then F_X5_found_35 v1 v2 v3 k else some ((x30_1, 0), k)
def F_X5_found_21 (v1 : Int32) (v2 : Int32) (v3 : Int32) (k : kS) : Option (((Nat × Int32) × kS)) :=
  (F_X5_needLaw k v2).bind fun x21_1 => if x21_1 = 0 then if v3 = (-1) then F_X5_found_35 v1 v2 v3 k else F_X5_found_30 v1 v2 v3 k else some ((x21_1, 0), k)
def F_X5_found_5 (v1 : Int32) (v2 : Int32) (v3 : Int32) (k : kS) : Option (((Nat × Int32) × kS)) :=
  if v1 ≤ 50 then F_X5_found_21 v1 v2 v3 k else F_X5_found_11 k
def F_X5_found_0 (v1 : Int32) (v2 : Int32) (v3 : Int32) (k : kS) : Option (((Nat × Int32) × kS)) :=
  if v1 < 1 then F_X5_found_11 k else F_X5_found_5 v1 v2 v3 k
def F_X5_found (v1 : Int32) (v2 : Int32) (v3 : Int32) (k : kS) : Option (((Nat × Int32) × kS)) :=
  F_X5_found_0 v1 v2 v3 k
-- X5_needLand
def F_X5_needLand_14 (k : kS) : Option (Nat) :=
  some 3
def F_X5_needLand_24 (k : kS) : Option (Nat) :=
  some 0
def F_X5_needLand_0 (k : kS) (v1 : Int32) : Option (Nat) :=
  (F_X1_knows 15 k v1).bind fun x0_1 => if x0_1 = 0 then F_X5_needLand_14 k else F_X5_needLand_24 k
def F_X5_needLand (k : kS) (v1 : Int32) : Option (Nat) :=
  F_X5_needLand_0 k v1
-- X5_setLaw
def F_X5_setLaw_0 (v1 : Int32) (v2 : Int32) (k : kS) : Option (((Nat × Int32) × kS)) :=
  (F_X5_needLand k v1).bind fun x0_1 => if x0_1 = 0 then (F_X5_needLaw k v2).bind fun x0_2 => if x0_2 = 0 then if (v1 < 0 ∨ 12 ≤ v1.toNatClampNeg) then none else if (v1 < 0 ∨ 12 ≤ v1.toNatClampNeg) then none else some ((0, (k (15 + 3) v1.toNatClampNeg)), (kst k (15 + 3) (upd (k (15 + 3)) v1.toNatClampNeg v2))) else some ((x0_2, 0), k) else some ((x0_1, 0), k)
def F_X5_setLaw (v1 : Int32) (v2 : Int32) (k : kS) : Option (((Nat × Int32) × kS)) :=
  F_X5_setLaw_0 v1 v2 k
-- X5_marry
def F_X5_marry_32 (k : kS) : Option (((Nat × Int32) × kS)) :=
  some ((2, 0), k)
def F_X5_marry_72 (k : kS) : Option (((Nat × Int32) × kS)) :=
  some ((2, 0), k)
def F_X5_marry_82 (v1 : Int32) (v2 : Int32) (v3 : Int32) (k : kS) : Option (((Nat × Int32) × kS)) :=
  (F_X4_wed 15 v1 v2 v3 k).bind fun x82_1 => (F_X1_worthUnder 15 x82_1 v1).bind fun x82_2 => (F_X1_worthUnder 15 x82_1 v2).bind fun x82_3 => some ((0, (x82_2 + x82_3)), x82_1)
def F_X5_marry_66 (v1 : Int32) (v2 : Int32) (v3 : Int32) (v4 : Int32) (k : kS) : Option (((Nat × Int32) × kS)) :=
  if v4 = v2 then F_X5_marry_82 v1 v2 v3 k else F_X5_marry_72 k
def F_X5_marry_60 (v1 : Int32) (v2 : Int32) (v3 : Int32) (v4 : Int32) (k : kS) : Option (((Nat × Int32) × kS)) :=
  if v4 = v1 then F_X5_marry_82 v1 v2 v3 k else F_X5_marry_66 v1 v2 v3 v4 k
def F_X5_marry_42 (v1 : Int32) (v2 : Int32) (v3 : Int32) (k : kS) : Option (((Nat × Int32) × kS)) :=
  (F_X1_rulerOf 15 k v3).bind fun x42_1 => if v3 = (-1) then F_X5_marry_82 v1 v2 v3 k else F_X5_marry_60 v1 v2 v3 x42_1 k
def F_X5_marry_20 (v1 : Int32) (v2 : Int32) (v3 : Int32) (k : kS) : Option (((Nat × Int32) × kS)) :=
  (F_X4_mayMarry 15 k v1 v2).bind fun x20_1 => if x20_1 = 0 then F_X5_marry_32 k else F_X5_marry_42 v1 v2 v3 k
def F_X5_marry_15 (v1 : Int32) (v2 : Int32) (v3 : Int32) (k : kS) : Option (((Nat × Int32) × kS)) :=
  (F_X5_needLand k v3).bind fun x15_1 => if x15_1 = 0 then F_X5_marry_20 v1 v2 v3 k else some ((x15_1, 0), k)
def F_X5_marry_0 (v1 : Int32) (v2 : Int32) (v3 : Int32) (k : kS) : Option (((Nat × Int32) × kS)) :=
  (F_X5_needPerson k v1).bind fun x0_1 => if x0_1 = 0 then (F_X5_needPerson k v2).bind fun x0_2 => if x0_2 = 0 then if v3 = (-1) then F_X5_marry_20 v1 v2 v3 k else F_X5_marry_15 v1 v2 v3 k else some ((x0_2, 0), k) else some ((x0_1, 0), k)
def F_X5_marry (v1 : Int32) (v2 : Int32) (v3 : Int32) (k : kS) : Option (((Nat × Int32) × kS)) :=
  F_X5_marry_0 v1 v2 v3 k
-- X5_annul
def F_X5_annul_20 (k : kS) : Option (((Nat × Int32) × kS)) :=
  some ((2, 0), k)
def F_X5_annul_30 (v1 : Int32) (k : kS) : Option (((Nat × Int32) × kS)) :=
  (F_X4_separate 15 v1 k).bind fun x30_1 => some ((0, x30_1.1), x30_1.2)
def F_X5_annul_0 (v1 : Int32) (k : kS) : Option (((Nat × Int32) × kS)) :=
  (F_X5_needPerson k v1).bind fun x0_1 => if x0_1 = 0 then (F_X3_spouseOf 15 k v1).bind fun x0_2 => if x0_2 = (-1) then F_X5_annul_20 k else F_X5_annul_30 v1 k else some ((x0_1, 0), k)
def F_X5_annul (v1 : Int32) (k : kS) : Option (((Nat × Int32) × kS)) :=
  F_X5_annul_0 v1 k
-- X5_die
def F_X5_die_16 (k : kS) : Option (((Nat × Int32) × kS)) :=
  some ((2, 0), k)
def F_X5_die_26 (v1 : Int32) (k : kS) : Option (((Nat × Int32) × kS)) :=
  (F_X4_bury 15 v1 k).bind fun x26_1 => some ((0, x26_1.1), x26_1.2)
def F_X5_die_0 (v1 : Int32) (k : kS) : Option (((Nat × Int32) × kS)) :=
  (F_X5_needPerson k v1).bind fun x0_1 => if x0_1 = 0 then (F_X4_lives 15 k v1).bind fun x0_2 => if x0_2 = 0 then F_X5_die_16 k else F_X5_die_26 v1 k else some ((x0_1, 0), k)
def F_X5_die (v1 : Int32) (k : kS) : Option (((Nat × Int32) × kS)) :=
  F_X5_die_0 v1 k
-- X5_needBelow
def F_X5_needBelow_9 (k : kS) : Option (Nat) :=
  some 3
def F_X5_needBelow_19 (k : kS) : Option (Nat) :=
  some 0
def F_X5_needBelow_4 (k : kS) (v0 : Int32) (v1 : Int32) : Option (Nat) :=
  if v0 < v1 then F_X5_needBelow_19 k else F_X5_needBelow_9 k
def F_X5_needBelow_0 (k : kS) (v0 : Int32) (v1 : Int32) : Option (Nat) :=
  if v0 < 0 then F_X5_needBelow_9 k else F_X5_needBelow_4 k v0 v1
def F_X5_needBelow (k : kS) (v0 : Int32) (v1 : Int32) : Option (Nat) :=
  F_X5_needBelow_0 k v0 v1
-- X5_person
def F_X5_person_0 (k : kS) (v1 : Int32) (v2 : Int32) : Option ((Nat × Int32)) :=
  (F_X5_needPerson k v1).bind fun x0_1 => if x0_1 = 0 then (F_X5_needBelow k v2 10).bind fun x0_2 => if x0_2 = 0 then (F_X4_personFact 15 k v1 v2).bind fun x0_3 => some (0, x0_3) else some (x0_2, 0) else some (x0_1, 0)
def F_X5_person (k : kS) (v1 : Int32) (v2 : Int32) : Option ((Nat × Int32)) :=
  F_X5_person_0 k v1 v2
-- X5_land
def F_X5_land_0 (v1 : Int32) (v2 : Int32) (k : kS) : Option (((Nat × Int32) × kS)) :=
  (F_X5_needLand k v1).bind fun x0_1 => if x0_1 = 0 then (F_X5_needBelow k v2 6).bind fun x0_2 => if x0_2 = 0 then (F_X4_landFact 15 v1 v2 k).bind fun x0_3 => some ((0, x0_3.1), x0_3.2) else some ((x0_2, 0), k) else some ((x0_1, 0), k)
def F_X5_land (v1 : Int32) (v2 : Int32) (k : kS) : Option (((Nat × Int32) × kS)) :=
  F_X5_land_0 v1 v2 k
-- X5_ruled
def F_X5_ruled_0 (k : kS) (v1 : Int32) (v2 : Int32) : Option ((Nat × Int32)) :=
  (F_X5_needLand k v1).bind fun x0_1 => if x0_1 = 0 then if (v1 < 0 ∨ 12 ≤ v1.toNatClampNeg) then none else (F_X5_needBelow k v2 (k (15 + 6) v1.toNatClampNeg)).bind fun x0_3 => if x0_3 = 0 then if (v1 < 0 ∨ 12 ≤ v1.toNatClampNeg) then none else if (v2 < 0 ∨ 15 ≤ v2.toNatClampNeg) then none else some (0, (k (kpb 15 + v1.toNatClampNeg) v2.toNatClampNeg)) else some (x0_3, 0) else some (x0_1, 0)
def F_X5_ruled (k : kS) (v1 : Int32) (v2 : Int32) : Option ((Nat × Int32)) :=
  F_X5_ruled_0 k v1 v2
-- X5_related
def F_X5_related_0 (k : kS) (v1 : Int32) (v2 : Int32) : Option ((Nat × Int32)) :=
  (F_X5_needPerson k v1).bind fun x0_1 => if x0_1 = 0 then (F_X5_needPerson k v2).bind fun x0_2 => if x0_2 = 0 then if (v1 < 0 ∨ 40 ≤ v1.toNatClampNeg) then none else if (v2 < 0 ∨ 40 ≤ v2.toNatClampNeg) then none else some (0, (k (69 + v1.toNatClampNeg) v2.toNatClampNeg)) else some (x0_2, 0) else some (x0_1, 0)
def F_X5_related (k : kS) (v1 : Int32) (v2 : Int32) : Option ((Nat × Int32)) :=
  F_X5_related_0 k v1 v2
-- X5_count
def F_X5_count_0 (k : kS) (v1 : Int32) : Option ((Nat × Int32)) :=
  (F_X5_needBelow k v1 8).bind fun x0_1 => if x0_1 = 0 then (F_X4_countFact 15 k v1).bind fun x0_2 => some (0, x0_2) else some (x0_1, 0)
def F_X5_count (k : kS) (v1 : Int32) : Option ((Nat × Int32)) :=
  F_X5_count_0 k v1
-- X5_needYears
def F_X5_needYears_11 (k : kS) : Option (Nat) :=
  some 1
def F_X5_needYears_21 (k : kS) : Option (Nat) :=
  some 0
def F_X5_needYears_5 (k : kS) (v0 : Int32) : Option (Nat) :=
  if v0 ≤ 100 then F_X5_needYears_21 k else F_X5_needYears_11 k
def F_X5_needYears_0 (k : kS) (v0 : Int32) : Option (Nat) :=
  if v0 < 1 then F_X5_needYears_11 k else F_X5_needYears_5 k v0
def F_X5_needYears (k : kS) (v0 : Int32) : Option (Nat) :=
  F_X5_needYears_0 k v0
-- X5_pass
def F_X5_pass_0 (v1 : Int32) (k : kS) : Option (((Nat × Int32) × kS)) :=
  (F_X5_needYears k v1).bind fun x0_1 => if x0_1 = 0 then (F_X4_letPass 15 v1 k).bind fun x0_2 => some ((0, x0_2.1), x0_2.2) else some ((x0_1, 0), k)
def F_X5_pass (v1 : Int32) (k : kS) : Option (((Nat × Int32) × kS)) :=
  F_X5_pass_0 v1 k
-- X5_rules
def F_X5_rules_38 (v2 : Int32) (k : kS) : Option (((Nat × Int32) × kS)) :=
  some ((0, v2), k)
def F_X5_rules_40 (c18 : Int32 → Int32 → kS → Option (((Nat × Int32) × kS))) (v1 : Int32) (v2 : Int32) (k : kS) : Option (((Nat × Int32) × kS)) :=
  (F_X4_letPass 30 1 k).bind fun x40_1 => c18 v1 (v2 + 1) x40_1.2
def F_X5_rules_24 (c18 : Int32 → Int32 → kS → Option (((Nat × Int32) × kS))) (v1 : Int32) (v2 : Int32) (k : kS) : Option (((Nat × Int32) × kS)) :=
  (F_X1_numberUnder 30 k v1).bind fun x24_1 => if x24_1 ≤ 0 then F_X5_rules_40 c18 v1 v2 k else F_X5_rules_38 v2 k
def F_X5_rules_55 (k : kS) : Option (((Nat × Int32) × kS)) :=
  some ((0, (-1)), k)
def F_X5_rules_18 : Nat → Int32 → Int32 → kS → Option (((Nat × Int32) × kS))
  | 0, _, _, _ => none
  | n + 1, v1, v2, k => if 100 < v2 then F_X5_rules_55 k else F_X5_rules_24 (F_X5_rules_18 n) v1 v2 k
def F_X5_rules_0 (v1 : Int32) (k : kS) : Option (((Nat × Int32) × kS)) :=
  (F_X5_needPerson k v1).bind fun x0_1 => if x0_1 = 0 then (F_X4_startFrom k).bind fun x0_2 => F_X5_rules_18 kN v1 0 x0_2 else some ((x0_1, 0), k)
def F_X5_rules (v1 : Int32) (k : kS) : Option (((Nat × Int32) × kS)) :=
  F_X5_rules_0 v1 k
-- X5_foresee
def F_X5_foresee_0 (v1 : Int32) (v2 : Int32) (k : kS) : Option (((Nat × Int32) × kS)) :=
  (F_X5_needYears k v1).bind fun x0_1 => if x0_1 = 0 then (F_X5_needLand k v2).bind fun x0_2 => if x0_2 = 0 then (F_X4_startFrom k).bind fun x0_3 => (F_X4_letPass 30 v1 x0_3).bind fun x0_4 => (F_X1_rulerOf 30 x0_4.2 v2).bind fun x0_5 => some ((0, x0_5), x0_4.2) else some ((x0_2, 0), k) else some ((x0_1, 0), k)
def F_X5_foresee (v1 : Int32) (v2 : Int32) (k : kS) : Option (((Nat × Int32) × kS)) :=
  F_X5_foresee_0 v1 v2 k
-- X5_best
def F_X5_best_63 (k : kS) (c12 : Int32 → Int32 → Int32 → Int32 → Option ((Nat × Int32))) (v1 : Int32) (v2 : Int32) (v3 : Int32) (v4 : Int32) : Option ((Nat × Int32)) :=
  c12 v1 v2 v3 (v4 + 1)
def F_X5_best_57 (k : kS) (c12 : Int32 → Int32 → Int32 → Int32 → Option ((Nat × Int32))) (v1 : Int32) (v4 : Int32) (v5 : Int32) : Option ((Nat × Int32)) :=
  F_X5_best_63 k c12 v1 v4 v5 v4
def F_X5_best_44 (k : kS) (c12 : Int32 → Int32 → Int32 → Int32 → Option ((Nat × Int32))) (v1 : Int32) (v2 : Int32) (v3 : Int32) (v4 : Int32) (v5 : Int32) : Option ((Nat × Int32)) :=
  (F_X4_mayMarry 15 k v1 v4).bind fun x44_1 => if x44_1 = 0 then F_X5_best_63 k c12 v1 v2 v3 v4 else F_X5_best_57 k c12 v1 v4 v5
def F_X5_best_24 (k : kS) (c12 : Int32 → Int32 → Int32 → Int32 → Option ((Nat × Int32))) (v1 : Int32) (v2 : Int32) (v3 : Int32) (v4 : Int32) : Option ((Nat × Int32)) :=
  (F_X1_worthUnder 15 k v4).bind fun x24_1 => if x24_1 ≤ v3 then F_X5_best_63 k c12 v1 v2 v3 v4 else F_X5_best_44 k c12 v1 v2 v3 v4 x24_1
def F_X5_best_69 (k : kS) (v2 : Int32) : Option ((Nat × Int32)) :=
  some (0, v2)
def F_X5_best_12 (k : kS) : Nat → Int32 → Int32 → Int32 → Int32 → Option ((Nat × Int32))
  | 0, _, _, _, _ => none
  | n + 1, v1, v2, v3, v4 => if (k 1 0) ≤ v4 then F_X5_best_69 k v2 else F_X5_best_24 k (F_X5_best_12 k n) v1 v2 v3 v4
def F_X5_best_0 (k : kS) (v1 : Int32) : Option ((Nat × Int32)) :=
  (F_X5_needPerson k v1).bind fun x0_1 => if x0_1 = 0 then F_X5_best_12 k kN v1 (-1) (-1) 0 else some (x0_1, 0)
def F_X5_best (k : kS) (v1 : Int32) : Option ((Nat × Int32)) :=
  F_X5_best_0 k v1
-- X5_mean
def F_X5_mean_42 (k : kS) (c6 : Int32 → Int32 → Int32 → Option (UInt64)) (v1 : Int32) (v2 : Int32) (v3 : Int32) : Option (UInt64) :=
  c6 v1 v2 (v3 + 1)
def F_X5_mean_28 (k : kS) (c6 : Int32 → Int32 → Int32 → Option (UInt64)) (v1 : Int32) (v2 : Int32) (v3 : Int32) : Option (UInt64) :=
  (F_X4_age 15 k v3).bind fun x28_1 => F_X5_mean_42 k c6 (v1 + 1) (v2 + x28_1) v3
def F_X5_mean_17 (k : kS) (c6 : Int32 → Int32 → Int32 → Option (UInt64)) (v1 : Int32) (v2 : Int32) (v3 : Int32) : Option (UInt64) :=
  (F_X4_lives 15 k v3).bind fun x17_1 => if x17_1 = 0 then F_X5_mean_42 k c6 v1 v2 v3 else F_X5_mean_28 k c6 v1 v2 v3
def F_X5_mean_61 (k : kS) (s0 : UInt64) : Option (UInt64) :=
  some s0
def F_X5_mean_52 (k : kS) : Option (UInt64) :=
  F_X5_mean_61 k FP.dconst0
def F_X5_mean_56 (k : kS) (v1 : Int32) (v2 : Int32) : Option (UInt64) :=
  if ¬ ((FP.ddiv (FP.i2d v2) (FP.i2d v1)) &&& 9223372036854775807 ≤ 9218868437227405312) then none else F_X5_mean_61 k (FP.ddiv (FP.i2d v2) (FP.i2d v1))
def F_X5_mean_48 (k : kS) (v1 : Int32) (v2 : Int32) : Option (UInt64) :=
  if v1 = 0 then F_X5_mean_52 k else F_X5_mean_56 k v1 v2
def F_X5_mean_6 (k : kS) : Nat → Int32 → Int32 → Int32 → Option (UInt64)
  | 0, _, _, _ => none
  | n + 1, v1, v2, v3 => if (k 1 0) ≤ v3 then F_X5_mean_48 k v1 v2 else F_X5_mean_17 k (F_X5_mean_6 k n) v1 v2 v3
def F_X5_mean_0 (k : kS) : Option (UInt64) :=
  F_X5_mean_6 k kN 0 0 0
def F_X5_mean (k : kS) : Option (UInt64) :=
  F_X5_mean_0 k
