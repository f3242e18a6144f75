/-! THE METHODS AS FUNCTIONS (printed by a program out of the bytecode): a function a basic block, none where an index is out of its row or the fuel is gone -/
def kN : Nat := 4096
def kD : Nat := 45
def kfill (n : Nat) (v : Int32) (f : Nat → Int32) : Nat → Int32 := fun j => if j < n then v else f j

-- X0_knows
def F_X0_knows_17 (k : kS) (s0 : Int32) : Option (Int32) :=
  if ¬ (s0 = 0 ∨ s0 = 1) then none else some s0
def F_X0_knows_12 (k : kS) : Option (Int32) :=
  F_X0_knows_17 k 1
def F_X0_knows_16 (k : kS) : Option (Int32) :=
  F_X0_knows_17 k 0
def F_X0_knows_4 (k : kS) (v1 : Int32) : Option (Int32) :=
  if (k 1 0) ≤ v1 then F_X0_knows_16 k else F_X0_knows_12 k
def F_X0_knows_0 (k : kS) (v1 : Int32) : Option (Int32) :=
  if v1 < 0 then F_X0_knows_16 k else F_X0_knows_4 k v1
def F_X0_knows (k : kS) (v1 : Int32) : Option (Int32) :=
  F_X0_knows_0 k v1
-- X0_isFull
def F_X0_isFull_14 (k : kS) (s0 : Int32) : Option (Int32) :=
  if ¬ (s0 = 0 ∨ s0 = 1) then none else some s0
def F_X0_isFull_9 (k : kS) : Option (Int32) :=
  F_X0_isFull_14 k 1
def F_X0_isFull_13 (k : kS) : Option (Int32) :=
  F_X0_isFull_14 k 0
def F_X0_isFull_0 (k : kS) : Option (Int32) :=
  if (k 1 0) < 40 then F_X0_isFull_13 k else F_X0_isFull_9 k
def F_X0_isFull (k : kS) : Option (Int32) :=
  F_X0_isFull_0 k
-- X0_stepsBetween
def F_X0_stepsBetween_28 (k : kS) (s0 : Int32) : Option (Int32) :=
  some s0
def F_X0_stepsBetween_16 (k : kS) (v1 : Int32) (v2 : Int32) : Option (Int32) :=
  if (v1 < 0 ∨ 40 ≤ v1.toNatClampNeg) then none else if (v2 < 0 ∨ 40 ≤ v2.toNatClampNeg) then none else F_X0_stepsBetween_28 k (k (69 + v1.toNatClampNeg) v2.toNatClampNeg)
def F_X0_stepsBetween_27 (k : kS) : Option (Int32) :=
  F_X0_stepsBetween_28 k (-1)
def F_X0_stepsBetween_8 (k : kS) (v1 : Int32) (v2 : Int32) : Option (Int32) :=
  (F_X0_knows k v2).bind fun x8_1 => if x8_1 = 0 then F_X0_stepsBetween_27 k else F_X0_stepsBetween_16 k v1 v2
def F_X0_stepsBetween_0 (k : kS) (v1 : Int32) (v2 : Int32) : Option (Int32) :=
  (F_X0_knows k v1).bind fun x0_1 => if x0_1 = 0 then F_X0_stepsBetween_27 k else F_X0_stepsBetween_8 k v1 v2
def F_X0_stepsBetween (k : kS) (v1 : Int32) (v2 : Int32) : Option (Int32) :=
  F_X0_stepsBetween_0 k v1 v2
-- X0_stepsThroughParents
def F_X0_stepsThroughParents_28 (k : kS) : Option (Int32) :=
  some (-1)
def F_X0_stepsThroughParents_36 (k : kS) (v5 : Int32) : Option (Int32) :=
  some (v5 + 1)
def F_X0_stepsThroughParents_63 (k : kS) (s0 : Int32) : Option (Int32) :=
  some s0
def F_X0_stepsThroughParents_47 (k : kS) (v4 : Int32) : Option (Int32) :=
  F_X0_stepsThroughParents_63 k (v4 + 1)
def F_X0_stepsThroughParents_54 (k : kS) (v4 : Int32) (v5 : Int32) : Option (Int32) :=
  F_X0_stepsThroughParents_63 k ((if v5 < v4 then v5 else v4) + 1)
def F_X0_stepsThroughParents_41 (k : kS) (v4 : Int32) (v5 : Int32) : Option (Int32) :=
  if v5 = (-1) then F_X0_stepsThroughParents_47 k v4 else F_X0_stepsThroughParents_54 k v4 v5
def F_X0_stepsThroughParents_30 (k : kS) (v4 : Int32) (v5 : Int32) : Option (Int32) :=
  if v4 = (-1) then F_X0_stepsThroughParents_36 k v5 else F_X0_stepsThroughParents_41 k v4 v5
def F_X0_stepsThroughParents_22 (k : kS) (v4 : Int32) (v5 : Int32) : Option (Int32) :=
  if v5 = (-1) then F_X0_stepsThroughParents_28 k else F_X0_stepsThroughParents_30 k v4 v5
def F_X0_stepsThroughParents_0 (k : kS) (v1 : Int32) (v2 : Int32) (v3 : Int32) : Option (Int32) :=
  (F_X0_stepsBetween k v1 v3).bind fun x0_1 => (F_X0_stepsBetween k v2 v3).bind fun x0_2 => if x0_1 = (-1) then F_X0_stepsThroughParents_22 k x0_1 x0_2 else F_X0_stepsThroughParents_30 k x0_1 x0_2
def F_X0_stepsThroughParents (k : kS) (v1 : Int32) (v2 : Int32) (v3 : Int32) : Option (Int32) :=
  F_X0_stepsThroughParents_0 k v1 v2 v3
-- X0_add
def F_X0_add_7 (k : kS) : Option ((Int32 × kS)) :=
  some ((-1), k)
def F_X0_add_58 (c51 : Int32 → Int32 → Int32 → Int32 → kS → Option ((Int32 × kS))) (v3 : Int32) (v4 : Int32) (v5 : Int32) (v6 : Int32) (k : kS) : Option ((Int32 × kS)) :=
  (F_X0_stepsThroughParents k v3 v4 v6).bind fun x58_1 => if (v5 < 0 ∨ 40 ≤ v5.toNatClampNeg) then none else if (v6 < 0 ∨ 40 ≤ v6.toNatClampNeg) then none else if (v6 < 0 ∨ 40 ≤ v6.toNatClampNeg) then none else if (v5 < 0 ∨ 40 ≤ v5.toNatClampNeg) then none else c51 v3 v4 v5 (v6 + 1) (kst (kst k (69 + v5.toNatClampNeg) (upd (k (69 + v5.toNatClampNeg)) v6.toNatClampNeg x58_1)) (69 + v6.toNatClampNeg) (upd ((kst k (69 + v5.toNatClampNeg) (upd (k (69 + v5.toNatClampNeg)) v6.toNatClampNeg x58_1)) (69 + v6.toNatClampNeg)) v5.toNatClampNeg x58_1))
def F_X0_add_99 (v5 : Int32) (k : kS) : Option ((Int32 × kS)) :=
  if (v5 < 0 ∨ 40 ≤ v5.toNatClampNeg) then none else if (v5 < 0 ∨ 40 ≤ v5.toNatClampNeg) then none else some (v5, (kst (kst k (69 + v5.toNatClampNeg) (upd (k (69 + v5.toNatClampNeg)) v5.toNatClampNeg 0)) 1 (upd ((kst k (69 + v5.toNatClampNeg) (upd (k (69 + v5.toNatClampNeg)) v5.toNatClampNeg 0)) 1) 0 (v5 + 1))))
def F_X0_add_51 : Nat → Int32 → Int32 → Int32 → Int32 → kS → Option ((Int32 × kS))
  | 0, _, _, _, _, _ => none
  | n + 1, v3, v4, v5, v6, k => if v5 ≤ v6 then F_X0_add_99 v5 k else F_X0_add_58 (F_X0_add_51 n) v3 v4 v5 v6 k
def F_X0_add_9 (v1 : Int32) (v2 : Int32) (v3 : Int32) (v4 : Int32) (k : kS) : Option ((Int32 × kS)) :=
  if ((k 1 0) < 0 ∨ 40 ≤ (k 1 0).toNatClampNeg) then none else if ((k 1 0) < 0 ∨ 40 ≤ (k 1 0).toNatClampNeg) then none else if ((k 1 0) < 0 ∨ 40 ≤ (k 1 0).toNatClampNeg) then none else if ((k 1 0) < 0 ∨ 40 ≤ (k 1 0).toNatClampNeg) then none else F_X0_add_51 kN v3 v4 (k 1 0) 0 (kst (kst (kst (kst k 2 (upd (k 2) (k 1 0).toNatClampNeg (vp_nar .boolean v1))) 3 (upd ((kst k 2 (upd (k 2) (k 1 0).toNatClampNeg (vp_nar .boolean v1))) 3) (k 1 0).toNatClampNeg v2)) 4 (upd ((kst (kst k 2 (upd (k 2) (k 1 0).toNatClampNeg (vp_nar .boolean v1))) 3 (upd ((kst k 2 (upd (k 2) (k 1 0).toNatClampNeg (vp_nar .boolean v1))) 3) (k 1 0).toNatClampNeg v2)) 4) (k 1 0).toNatClampNeg v3)) 5 (upd ((kst (kst (kst k 2 (upd (k 2) (k 1 0).toNatClampNeg (vp_nar .boolean v1))) 3 (upd ((kst k 2 (upd (k 2) (k 1 0).toNatClampNeg (vp_nar .boolean v1))) 3) (k 1 0).toNatClampNeg v2)) 4 (upd ((kst (kst k 2 (upd (k 2) (k 1 0).toNatClampNeg (vp_nar .boolean v1))) 3 (upd ((kst k 2 (upd (k 2) (k 1 0).toNatClampNeg (vp_nar .boolean v1))) 3) (k 1 0).toNatClampNeg v2)) 4) (k 1 0).toNatClampNeg v3)) 5) (k 1 0).toNatClampNeg v4))
def F_X0_add_0 (v1 : Int32) (v2 : Int32) (v3 : Int32) (v4 : Int32) (k : kS) : Option ((Int32 × kS)) :=
  (F_X0_isFull k).bind fun x0_1 => if x0_1 = 0 then F_X0_add_9 v1 v2 v3 v4 k else F_X0_add_7 k
def F_X0_add (v1 : Int32) (v2 : Int32) (v3 : Int32) (v4 : Int32) (k : kS) : Option ((Int32 × kS)) :=
  F_X0_add_0 v1 v2 v3 v4 k
-- X0_isBefore
def F_X0_isBefore_40 (k : kS) (s0 : Int32) : Option (Int32) :=
  if ¬ (s0 = 0 ∨ s0 = 1) then none else some s0
def F_X0_isBefore_35 (k : kS) : Option (Int32) :=
  F_X0_isBefore_40 k 1
def F_X0_isBefore_39 (k : kS) : Option (Int32) :=
  F_X0_isBefore_40 k 0
def F_X0_isBefore_30 (k : kS) (v1 : Int32) (v2 : Int32) : Option (Int32) :=
  if v2 ≤ v1 then F_X0_isBefore_39 k else F_X0_isBefore_35 k
def F_X0_isBefore_15 (k : kS) (v1 : Int32) (v2 : Int32) : Option (Int32) :=
  if (v1 < 0 ∨ 40 ≤ v1.toNatClampNeg) then none else if (v2 < 0 ∨ 40 ≤ v2.toNatClampNeg) then none else if (k 3 v1.toNatClampNeg) = (k 3 v2.toNatClampNeg) then F_X0_isBefore_30 k v1 v2 else F_X0_isBefore_39 k
def F_X0_isBefore_0 (k : kS) (v1 : Int32) (v2 : Int32) : Option (Int32) :=
  if (v1 < 0 ∨ 40 ≤ v1.toNatClampNeg) then none else if (v2 < 0 ∨ 40 ≤ v2.toNatClampNeg) then none else if (k 3 v1.toNatClampNeg) < (k 3 v2.toNatClampNeg) then F_X0_isBefore_35 k else F_X0_isBefore_15 k v1 v2
def F_X0_isBefore (k : kS) (v1 : Int32) (v2 : Int32) : Option (Int32) :=
  F_X0_isBefore_0 k v1 v2
-- X0_isAhead
def F_X0_isAhead_19 (k : kS) (v1 : Int32) : Option (Int32) :=
  if (v1 < 0 ∨ 40 ≤ v1.toNatClampNeg) then none else if ¬ ((k 2 v1.toNatClampNeg) = 0 ∨ (k 2 v1.toNatClampNeg) = 1) then none else some (k 2 v1.toNatClampNeg)
def F_X0_isAhead_35 (k : kS) (v1 : Int32) (v2 : Int32) : Option (Int32) :=
  (F_X0_isBefore k v1 v2).bind fun x35_1 => if ¬ (x35_1 = 0 ∨ x35_1 = 1) then none else some x35_1
def F_X0_isAhead_42 (k : kS) (v1 : Int32) (v2 : Int32) : Option (Int32) :=
  (F_X0_isBefore k v2 v1).bind fun x42_1 => if ¬ (x42_1 = 0 ∨ x42_1 = 1) then none else some x42_1
def F_X0_isAhead_30 (k : kS) (v1 : Int32) (v2 : Int32) (v3 : Int32) : Option (Int32) :=
  if v3 = 1 then F_X0_isAhead_35 k v1 v2 else F_X0_isAhead_42 k v1 v2
def F_X0_isAhead_26 (k : kS) (v1 : Int32) (v2 : Int32) (v3 : Int32) : Option (Int32) :=
  if v3 = 0 then F_X0_isAhead_35 k v1 v2 else F_X0_isAhead_30 k v1 v2 v3
def F_X0_isAhead_4 (k : kS) (v1 : Int32) (v2 : Int32) (v3 : Int32) : Option (Int32) :=
  if (v1 < 0 ∨ 40 ≤ v1.toNatClampNeg) then none else if (v2 < 0 ∨ 40 ≤ v2.toNatClampNeg) then none else if (k 2 v1.toNatClampNeg) = (k 2 v2.toNatClampNeg) then F_X0_isAhead_26 k v1 v2 v3 else F_X0_isAhead_19 k v1
def F_X0_isAhead_0 (k : kS) (v1 : Int32) (v2 : Int32) (v3 : Int32) : Option (Int32) :=
  if v3 = 0 then F_X0_isAhead_4 k v1 v2 v3 else F_X0_isAhead_26 k v1 v2 v3
def F_X0_isAhead (k : kS) (v1 : Int32) (v2 : Int32) (v3 : Int32) : Option (Int32) :=
  F_X0_isAhead_0 k v1 v2 v3
-- X0_childrenOf
def F_X0_childrenOf_35 (k : kS) (c4 : Int32 → Int32 → Int32 → Option (Int32)) (v1 : Int32) (v2 : Int32) (v3 : Int32) : Option (Int32) :=
  c4 v1 v2 (v3 + 1)
def F_X0_childrenOf_32 (k : kS) (c4 : Int32 → Int32 → Int32 → Option (Int32)) (v1 : Int32) (v2 : Int32) (v3 : Int32) : Option (Int32) :=
  F_X0_childrenOf_35 k c4 v1 (v2 + 1) v3
def F_X0_childrenOf_22 (k : kS) (c4 : Int32 → Int32 → Int32 → Option (Int32)) (v1 : Int32) (v2 : Int32) (v3 : Int32) : Option (Int32) :=
  if (v3 < 0 ∨ 40 ≤ v3.toNatClampNeg) then none else if (k 5 v3.toNatClampNeg) = v1 then F_X0_childrenOf_32 k c4 v1 v2 v3 else F_X0_childrenOf_35 k c4 v1 v2 v3
def F_X0_childrenOf_12 (k : kS) (c4 : Int32 → Int32 → Int32 → Option (Int32)) (v1 : Int32) (v2 : Int32) (v3 : Int32) : Option (Int32) :=
  if (v3 < 0 ∨ 40 ≤ v3.toNatClampNeg) then none else if (k 4 v3.toNatClampNeg) = v1 then F_X0_childrenOf_32 k c4 v1 v2 v3 else F_X0_childrenOf_22 k c4 v1 v2 v3
def F_X0_childrenOf_41 (k : kS) (v2 : Int32) : Option (Int32) :=
  some v2
def F_X0_childrenOf_4 (k : kS) : Nat → Int32 → Int32 → Int32 → Option (Int32)
  | 0, _, _, _ => none
  | n + 1, v1, v2, v3 => if (k 1 0) ≤ v3 then F_X0_childrenOf_41 k v2 else F_X0_childrenOf_12 k (F_X0_childrenOf_4 k n) v1 v2 v3
def F_X0_childrenOf_0 (k : kS) (v1 : Int32) : Option (Int32) :=
  F_X0_childrenOf_4 k kN v1 0 0
def F_X0_childrenOf (k : kS) (v1 : Int32) : Option (Int32) :=
  F_X0_childrenOf_0 k v1
-- X1_knows
def F_X1_knows_17 (B : Nat) (k : kS) (s0 : Int32) : Option (Int32) :=
  if ¬ (s0 = 0 ∨ s0 = 1) then none else some s0
def F_X1_knows_12 (B : Nat) (k : kS) : Option (Int32) :=
  F_X1_knows_17 B k 1
def F_X1_knows_16 (B : Nat) (k : kS) : Option (Int32) :=
  F_X1_knows_17 B k 0
def F_X1_knows_4 (B : Nat) (k : kS) (v1 : Int32) : Option (Int32) :=
  if (k (B + 1) 0) ≤ v1 then F_X1_knows_16 B k else F_X1_knows_12 B k
def F_X1_knows_0 (B : Nat) (k : kS) (v1 : Int32) : Option (Int32) :=
  if v1 < 0 then F_X1_knows_16 B k else F_X1_knows_4 B k v1
def F_X1_knows (B : Nat) (k : kS) (v1 : Int32) : Option (Int32) :=
  F_X1_knows_0 B k v1
-- X1_isFull
def F_X1_isFull_14 (B : Nat) (k : kS) (s0 : Int32) : Option (Int32) :=
  if ¬ (s0 = 0 ∨ s0 = 1) then none else some s0
def F_X1_isFull_9 (B : Nat) (k : kS) : Option (Int32) :=
  F_X1_isFull_14 B k 1
def F_X1_isFull_13 (B : Nat) (k : kS) : Option (Int32) :=
  F_X1_isFull_14 B k 0
def F_X1_isFull_0 (B : Nat) (k : kS) : Option (Int32) :=
  if (k (B + 1) 0) < 12 then F_X1_isFull_13 B k else F_X1_isFull_9 B k
def F_X1_isFull (B : Nat) (k : kS) : Option (Int32) :=
  F_X1_isFull_0 B k
-- X1_handTo
def F_X1_handTo_12 (B : Nat) (k : kS) : Option (kS) :=
  some k
def F_X1_handTo_13 (B : Nat) (v1 : Int32) (v2 : Int32) (k : kS) : Option (kS) :=
  if (v1 < 0 ∨ 12 ≤ v1.toNatClampNeg) then none else if (v1 < 0 ∨ 12 ≤ v1.toNatClampNeg) then none else if (v1 < 0 ∨ 12 ≤ v1.toNatClampNeg) then none else if (v1 < 0 ∨ 12 ≤ v1.toNatClampNeg) then none else if ((0 : Int32) < 0 ∨ (1 : Int32) < 0 ∨ (14 : Int32) < 0 ∨ 15 < (0 : Int32).toNatClampNeg + (14 : Int32).toNatClampNeg ∨ 15 < (1 : Int32).toNatClampNeg + (14 : Int32).toNatClampNeg) then none else if (v1 < 0 ∨ 12 ≤ v1.toNatClampNeg) then none else if ((0 : Int32) < 0 ∨ 15 ≤ (0 : Int32).toNatClampNeg) then none else if (v1 < 0 ∨ 12 ≤ v1.toNatClampNeg) then none else if (v1 < 0 ∨ 12 ≤ v1.toNatClampNeg) then none else some (kst (kst (kst (kst k (B + 5) (upd (k (B + 5)) v1.toNatClampNeg ((k (B + 5) v1.toNatClampNeg) + 1))) (kpb B + v1.toNatClampNeg) (va_cpy ((kst k (B + 5) (upd (k (B + 5)) v1.toNatClampNeg ((k (B + 5) v1.toNatClampNeg) + 1))) (kpb B + v1.toNatClampNeg)) ((kst k (B + 5) (upd (k (B + 5)) v1.toNatClampNeg ((k (B + 5) v1.toNatClampNeg) + 1))) (kpb B + v1.toNatClampNeg)) (0 : Int32).toNatClampNeg (1 : Int32).toNatClampNeg (14 : Int32).toNatClampNeg)) (kpb B + v1.toNatClampNeg) (upd ((kst (kst k (B + 5) (upd (k (B + 5)) v1.toNatClampNeg ((k (B + 5) v1.toNatClampNeg) + 1))) (kpb B + v1.toNatClampNeg) (va_cpy ((kst k (B + 5) (upd (k (B + 5)) v1.toNatClampNeg ((k (B + 5) v1.toNatClampNeg) + 1))) (kpb B + v1.toNatClampNeg)) ((kst k (B + 5) (upd (k (B + 5)) v1.toNatClampNeg ((k (B + 5) v1.toNatClampNeg) + 1))) (kpb B + v1.toNatClampNeg)) (0 : Int32).toNatClampNeg (1 : Int32).toNatClampNeg (14 : Int32).toNatClampNeg)) (kpb B + v1.toNatClampNeg)) (0 : Int32).toNatClampNeg v2)) (B + 6) (upd ((kst (kst (kst k (B + 5) (upd (k (B + 5)) v1.toNatClampNeg ((k (B + 5) v1.toNatClampNeg) + 1))) (kpb B + v1.toNatClampNeg) (va_cpy ((kst k (B + 5) (upd (k (B + 5)) v1.toNatClampNeg ((k (B + 5) v1.toNatClampNeg) + 1))) (kpb B + v1.toNatClampNeg)) ((kst k (B + 5) (upd (k (B + 5)) v1.toNatClampNeg ((k (B + 5) v1.toNatClampNeg) + 1))) (kpb B + v1.toNatClampNeg)) (0 : Int32).toNatClampNeg (1 : Int32).toNatClampNeg (14 : Int32).toNatClampNeg)) (kpb B + v1.toNatClampNeg) (upd ((kst (kst k (B + 5) (upd (k (B + 5)) v1.toNatClampNeg ((k (B + 5) v1.toNatClampNeg) + 1))) (kpb B + v1.toNatClampNeg) (va_cpy ((kst k (B + 5) (upd (k (B + 5)) v1.toNatClampNeg ((k (B + 5) v1.toNatClampNeg) + 1))) (kpb B + v1.toNatClampNeg)) ((kst k (B + 5) (upd (k (B + 5)) v1.toNatClampNeg ((k (B + 5) v1.toNatClampNeg) + 1))) (kpb B + v1.toNatClampNeg)) (0 : Int32).toNatClampNeg (1 : Int32).toNatClampNeg (14 : Int32).toNatClampNeg)) (kpb B + v1.toNatClampNeg)) (0 : Int32).toNatClampNeg v2)) (B + 6)) v1.toNatClampNeg (if 15 < (((kst (kst (kst k (B + 5) (upd (k (B + 5)) v1.toNatClampNeg ((k (B + 5) v1.toNatClampNeg) + 1))) (kpb B + v1.toNatClampNeg) (va_cpy ((kst k (B + 5) (upd (k (B + 5)) v1.toNatClampNeg ((k (B + 5) v1.toNatClampNeg) + 1))) (kpb B + v1.toNatClampNeg)) ((kst k (B + 5) (upd (k (B + 5)) v1.toNatClampNeg ((k (B + 5) v1.toNatClampNeg) + 1))) (kpb B + v1.toNatClampNeg)) (0 : Int32).toNatClampNeg (1 : Int32).toNatClampNeg (14 : Int32).toNatClampNeg)) (kpb B + v1.toNatClampNeg) (upd ((kst (kst k (B + 5) (upd (k (B + 5)) v1.toNatClampNeg ((k (B + 5) v1.toNatClampNeg) + 1))) (kpb B + v1.toNatClampNeg) (va_cpy ((kst k (B + 5) (upd (k (B + 5)) v1.toNatClampNeg ((k (B + 5) v1.toNatClampNeg) + 1))) (kpb B + v1.toNatClampNeg)) ((kst k (B + 5) (upd (k (B + 5)) v1.toNatClampNeg ((k (B + 5) v1.toNatClampNeg) + 1))) (kpb B + v1.toNatClampNeg)) (0 : Int32).toNatClampNeg (1 : Int32).toNatClampNeg (14 : Int32).toNatClampNeg)) (kpb B + v1.toNatClampNeg)) (0 : Int32).toNatClampNeg v2)) (B + 6) v1.toNatClampNeg) + 1) then 15 else (((kst (kst (kst k (B + 5) (upd (k (B + 5)) v1.toNatClampNeg ((k (B + 5) v1.toNatClampNeg) + 1))) (kpb B + v1.toNatClampNeg) (va_cpy ((kst k (B + 5) (upd (k (B + 5)) v1.toNatClampNeg ((k (B + 5) v1.toNatClampNeg) + 1))) (kpb B + v1.toNatClampNeg)) ((kst k (B + 5) (upd (k (B + 5)) v1.toNatClampNeg ((k (B + 5) v1.toNatClampNeg) + 1))) (kpb B + v1.toNatClampNeg)) (0 : Int32).toNatClampNeg (1 : Int32).toNatClampNeg (14 : Int32).toNatClampNeg)) (kpb B + v1.toNatClampNeg) (upd ((kst (kst k (B + 5) (upd (k (B + 5)) v1.toNatClampNeg ((k (B + 5) v1.toNatClampNeg) + 1))) (kpb B + v1.toNatClampNeg) (va_cpy ((kst k (B + 5) (upd (k (B + 5)) v1.toNatClampNeg ((k (B + 5) v1.toNatClampNeg) + 1))) (kpb B + v1.toNatClampNeg)) ((kst k (B + 5) (upd (k (B + 5)) v1.toNatClampNeg ((k (B + 5) v1.toNatClampNeg) + 1))) (kpb B + v1.toNatClampNeg)) (0 : Int32).toNatClampNeg (1 : Int32).toNatClampNeg (14 : Int32).toNatClampNeg)) (kpb B + v1.toNatClampNeg)) (0 : Int32).toNatClampNeg v2)) (B + 6) v1.toNatClampNeg) + 1))))
def F_X1_handTo_0 (B : Nat) (v1 : Int32) (v2 : Int32) (k : kS) : Option (kS) :=
  if (v1 < 0 ∨ 12 ≤ v1.toNatClampNeg) then none else if v2 = (-1) then F_X1_handTo_12 B (kst k (B + 4) (upd (k (B + 4)) v1.toNatClampNeg v2)) else F_X1_handTo_13 B v1 v2 (kst k (B + 4) (upd (k (B + 4)) v1.toNatClampNeg v2))
def F_X1_handTo (B : Nat) (v1 : Int32) (v2 : Int32) (k : kS) : Option (kS) :=
  F_X1_handTo_0 B v1 v2 k
-- X1_add
def F_X1_add_7 (B : Nat) (k : kS) : Option ((Int32 × kS)) :=
  some ((-1), k)
def F_X1_add_9 (B : Nat) (v1 : Int32) (v2 : Int32) (v3 : Int32) (k : kS) : Option ((Int32 × kS)) :=
  if ((k (B + 1) 0) < 0 ∨ 12 ≤ (k (B + 1) 0).toNatClampNeg) then none else if ((k (B + 1) 0) < 0 ∨ 12 ≤ (k (B + 1) 0).toNatClampNeg) then none else (F_X1_handTo B (k (B + 1) 0) v3 (kst (kst k (B + 2) (upd (k (B + 2)) (k (B + 1) 0).toNatClampNeg v1)) (B + 3) (upd ((kst k (B + 2) (upd (k (B + 2)) (k (B + 1) 0).toNatClampNeg v1)) (B + 3)) (k (B + 1) 0).toNatClampNeg v2))).bind fun x9_3 => some ((k (B + 1) 0), (kst x9_3 (B + 1) (upd (x9_3 (B + 1)) 0 ((k (B + 1) 0) + 1))))
def F_X1_add_0 (B : Nat) (v1 : Int32) (v2 : Int32) (v3 : Int32) (k : kS) : Option ((Int32 × kS)) :=
  (F_X1_isFull B k).bind fun x0_1 => if x0_1 = 0 then F_X1_add_9 B v1 v2 v3 k else F_X1_add_7 B k
def F_X1_add (B : Nat) (v1 : Int32) (v2 : Int32) (v3 : Int32) (k : kS) : Option ((Int32 × kS)) :=
  F_X1_add_0 B v1 v2 v3 k
-- X1_rulerOf
def F_X1_rulerOf_18 (B : Nat) (k : kS) (s0 : Int32) : Option (Int32) :=
  some s0
def F_X1_rulerOf_8 (B : Nat) (k : kS) (v1 : Int32) : Option (Int32) :=
  if (v1 < 0 ∨ 12 ≤ v1.toNatClampNeg) then none else F_X1_rulerOf_18 B k (k (B + 4) v1.toNatClampNeg)
def F_X1_rulerOf_17 (B : Nat) (k : kS) : Option (Int32) :=
  F_X1_rulerOf_18 B k (-1)
def F_X1_rulerOf_0 (B : Nat) (k : kS) (v1 : Int32) : Option (Int32) :=
  (F_X1_knows B k v1).bind fun x0_1 => if x0_1 = 0 then F_X1_rulerOf_17 B k else F_X1_rulerOf_8 B k v1
def F_X1_rulerOf (B : Nat) (k : kS) (v1 : Int32) : Option (Int32) :=
  F_X1_rulerOf_0 B k v1
-- X1_numberUnder
def F_X1_numberUnder_25 (B : Nat) (k : kS) (c4 : Int32 → Int32 → Int32 → Option (Int32)) (v1 : Int32) (v2 : Int32) (v3 : Int32) : Option (Int32) :=
  c4 v1 v2 (v3 + 1)
def F_X1_numberUnder_22 (B : Nat) (k : kS) (c4 : Int32 → Int32 → Int32 → Option (Int32)) (v1 : Int32) (v2 : Int32) (v3 : Int32) : Option (Int32) :=
  F_X1_numberUnder_25 B k c4 v1 (v2 + 1) v3
def F_X1_numberUnder_12 (B : Nat) (k : kS) (c4 : Int32 → Int32 → Int32 → Option (Int32)) (v1 : Int32) (v2 : Int32) (v3 : Int32) : Option (Int32) :=
  if (v3 < 0 ∨ 12 ≤ v3.toNatClampNeg) then none else if (k (B + 4) v3.toNatClampNeg) = v1 then F_X1_numberUnder_22 B k c4 v1 v2 v3 else F_X1_numberUnder_25 B k c4 v1 v2 v3
def F_X1_numberUnder_31 (B : Nat) (k : kS) (v2 : Int32) : Option (Int32) :=
  some v2
def F_X1_numberUnder_4 (B : Nat) (k : kS) : Nat → Int32 → Int32 → Int32 → Option (Int32)
  | 0, _, _, _ => none
  | n + 1, v1, v2, v3 => if (k (B + 1) 0) ≤ v3 then F_X1_numberUnder_31 B k v2 else F_X1_numberUnder_12 B k (F_X1_numberUnder_4 B k n) v1 v2 v3
def F_X1_numberUnder_0 (B : Nat) (k : kS) (v1 : Int32) : Option (Int32) :=
  F_X1_numberUnder_4 B k kN v1 0 0
def F_X1_numberUnder (B : Nat) (k : kS) (v1 : Int32) : Option (Int32) :=
  F_X1_numberUnder_0 B k v1
-- X1_worthUnder
def F_X1_worthUnder_31 (B : Nat) (k : kS) (c4 : Int32 → Int32 → Int32 → Option (Int32)) (v1 : Int32) (v2 : Int32) (v3 : Int32) : Option (Int32) :=
  c4 v1 v2 (v3 + 1)
def F_X1_worthUnder_22 (B : Nat) (k : kS) (c4 : Int32 → Int32 → Int32 → Option (Int32)) (v1 : Int32) (v2 : Int32) (v3 : Int32) : Option (Int32) :=
  if (v3 < 0 ∨ 12 ≤ v3.toNatClampNeg) then none else F_X1_worthUnder_31 B k c4 v1 (v2 + (k (B + 2) v3.toNatClampNeg)) v3
def F_X1_worthUnder_12 (B : Nat) (k : kS) (c4 : Int32 → Int32 → Int32 → Option (Int32)) (v1 : Int32) (v2 : Int32) (v3 : Int32) : Option (Int32) :=
  if (v3 < 0 ∨ 12 ≤ v3.toNatClampNeg) then none else if (k (B + 4) v3.toNatClampNeg) = v1 then F_X1_worthUnder_22 B k c4 v1 v2 v3 else F_X1_worthUnder_31 B k c4 v1 v2 v3
def F_X1_worthUnder_37 (B : Nat) (k : kS) (v2 : Int32) : Option (Int32) :=
  some v2
def F_X1_worthUnder_4 (B : Nat) (k : kS) : Nat → Int32 → Int32 → Int32 → Option (Int32)
  | 0, _, _, _ => none
  | n + 1, v1, v2, v3 => if (k (B + 1) 0) ≤ v3 then F_X1_worthUnder_37 B k v2 else F_X1_worthUnder_12 B k (F_X1_worthUnder_4 B k n) v1 v2 v3
def F_X1_worthUnder_0 (B : Nat) (k : kS) (v1 : Int32) : Option (Int32) :=
  F_X1_worthUnder_4 B k kN v1 0 0
def F_X1_worthUnder (B : Nat) (k : kS) (v1 : Int32) : Option (Int32) :=
  F_X1_worthUnder_0 B k v1
-- X1_takeRulers
def F_X1_takeRulers_0 (k : kS) : Option (kS) :=
  if ((0 : Int32) < 0 ∨ (0 : Int32) < 0 ∨ (12 : Int32) < 0 ∨ 12 < (0 : Int32).toNatClampNeg + (12 : Int32).toNatClampNeg ∨ 12 < (0 : Int32).toNatClampNeg + (12 : Int32).toNatClampNeg) then none else if ((0 : Int32) < 0 ∨ (0 : Int32) < 0 ∨ (12 : Int32) < 0 ∨ 12 < (0 : Int32).toNatClampNeg + (12 : Int32).toNatClampNeg ∨ 12 < (0 : Int32).toNatClampNeg + (12 : Int32).toNatClampNeg) then none else some (kst (kst (kst k (30 + 1) (upd (k (30 + 1)) 0 (k (15 + 1) 0))) (30 + 3) (va_cpy ((kst k (30 + 1) (upd (k (30 + 1)) 0 (k (15 + 1) 0))) (15 + 3)) ((kst k (30 + 1) (upd (k (30 + 1)) 0 (k (15 + 1) 0))) (30 + 3)) (0 : Int32).toNatClampNeg (0 : Int32).toNatClampNeg (12 : Int32).toNatClampNeg)) (30 + 4) (va_cpy ((kst (kst k (30 + 1) (upd (k (30 + 1)) 0 (k (15 + 1) 0))) (30 + 3) (va_cpy ((kst k (30 + 1) (upd (k (30 + 1)) 0 (k (15 + 1) 0))) (15 + 3)) ((kst k (30 + 1) (upd (k (30 + 1)) 0 (k (15 + 1) 0))) (30 + 3)) (0 : Int32).toNatClampNeg (0 : Int32).toNatClampNeg (12 : Int32).toNatClampNeg)) (15 + 4)) ((kst (kst k (30 + 1) (upd (k (30 + 1)) 0 (k (15 + 1) 0))) (30 + 3) (va_cpy ((kst k (30 + 1) (upd (k (30 + 1)) 0 (k (15 + 1) 0))) (15 + 3)) ((kst k (30 + 1) (upd (k (30 + 1)) 0 (k (15 + 1) 0))) (30 + 3)) (0 : Int32).toNatClampNeg (0 : Int32).toNatClampNeg (12 : Int32).toNatClampNeg)) (30 + 4)) (0 : Int32).toNatClampNeg (0 : Int32).toNatClampNeg (12 : Int32).toNatClampNeg))
def F_X1_takeRulers (k : kS) : Option (kS) :=
  F_X1_takeRulers_0 k
-- X2_clear
def F_X2_clear_0 (B : Nat) (k : kS) : Option (kS) :=
  some (kst (kst k (B + 12) (kfill 40 (-1) (k (B + 12)))) (B + 13) (kfill 40 (-1) ((kst k (B + 12) (kfill 40 (-1) (k (B + 12)))) (B + 13))))
def F_X2_clear (B : Nat) (k : kS) : Option (kS) :=
  F_X2_clear_0 B k
-- X2_firstOf
def F_X2_firstOf_20 (B : Nat) (k : kS) (s0 : Int32) : Option (Int32) :=
  some s0
def F_X2_firstOf_10 (B : Nat) (k : kS) (v1 : Int32) : Option (Int32) :=
  if (v1 < 0 ∨ 40 ≤ v1.toNatClampNeg) then none else F_X2_firstOf_20 B k (k (B + 12) v1.toNatClampNeg)
def F_X2_firstOf_19 (B : Nat) (k : kS) : Option (Int32) :=
  F_X2_firstOf_20 B k (-1)
def F_X2_firstOf_4 (B : Nat) (k : kS) (v1 : Int32) : Option (Int32) :=
  if 40 ≤ v1 then F_X2_firstOf_19 B k else F_X2_firstOf_10 B k v1
def F_X2_firstOf_0 (B : Nat) (k : kS) (v1 : Int32) : Option (Int32) :=
  if v1 < 0 then F_X2_firstOf_19 B k else F_X2_firstOf_4 B k v1
def F_X2_firstOf (B : Nat) (k : kS) (v1 : Int32) : Option (Int32) :=
  F_X2_firstOf_0 B k v1
-- X2_tell
def F_X2_tell_8 (B : Nat) (k : kS) : Option (kS) :=
  some k
def F_X2_tell_54 (B : Nat) (k : kS) : Option (kS) :=
  some k
def F_X2_tell_38 (B : Nat) (v3 : Int32) (v4 : Int32) (v5 : Int32) (k : kS) : Option (kS) :=
  if (v3 < 0 ∨ 40 ≤ v3.toNatClampNeg) then none else if (v3 < 0 ∨ 40 ≤ v3.toNatClampNeg) then none else F_X2_tell_54 B (kst (kst k (B + 13) (upd (k (B + 13)) v3.toNatClampNeg v4)) (B + 12) (upd ((kst k (B + 13) (upd (k (B + 13)) v3.toNatClampNeg v4)) (B + 12)) v3.toNatClampNeg v5))
def F_X2_tell_26 (B : Nat) (v2 : Int32) (v3 : Int32) (v4 : Int32) (v5 : Int32) (v6 : Int32) (k : kS) : Option (kS) :=
  (F_X0_isAhead k v4 v6 v2).bind fun x26_1 => if x26_1 = 0 then F_X2_tell_54 B k else F_X2_tell_38 B v3 v4 v5 k
def F_X2_tell_9 (B : Nat) (v2 : Int32) (v3 : Int32) (v4 : Int32) (v5 : Int32) (k : kS) : Option (kS) :=
  if (v3 < 0 ∨ 40 ≤ v3.toNatClampNeg) then none else (F_X0_knows k (k (B + 13) v3.toNatClampNeg)).bind fun x9_2 => if x9_2 = 0 then F_X2_tell_38 B v3 v4 v5 k else F_X2_tell_26 B v2 v3 v4 v5 (k (B + 13) v3.toNatClampNeg) k
def F_X2_tell_0 (B : Nat) (v2 : Int32) (v3 : Int32) (v4 : Int32) (v5 : Int32) (k : kS) : Option (kS) :=
  (F_X0_knows k v3).bind fun x0_1 => if x0_1 = 0 then F_X2_tell_8 B k else F_X2_tell_9 B v2 v3 v4 v5 k
def F_X2_tell (B : Nat) (v2 : Int32) (v3 : Int32) (v4 : Int32) (v5 : Int32) (k : kS) : Option (kS) :=
  F_X2_tell_0 B v2 v3 v4 v5 k
-- X3_fits
def F_X3_fits_15 (k : kS) (s0 : Int32) : Option (Int32) :=
  if ¬ (s0 = 0 ∨ s0 = 1) then none else some s0
def F_X3_fits_10 (k : kS) : Option (Int32) :=
  F_X3_fits_15 k 1
def F_X3_fits_14 (k : kS) : Option (Int32) :=
  F_X3_fits_15 k 0
def F_X3_fits_4 (k : kS) (v0 : Int32) : Option (Int32) :=
  if 40 ≤ v0 then F_X3_fits_14 k else F_X3_fits_10 k
def F_X3_fits_0 (k : kS) (v0 : Int32) : Option (Int32) :=
  if v0 < 0 then F_X3_fits_14 k else F_X3_fits_4 k v0
def F_X3_fits (k : kS) (v0 : Int32) : Option (Int32) :=
  F_X3_fits_0 k v0
-- X3_spouseOf
def F_X3_spouseOf_17 (B : Nat) (k : kS) (s0 : Int32) : Option (Int32) :=
  some s0
def F_X3_spouseOf_7 (B : Nat) (k : kS) (v1 : Int32) : Option (Int32) :=
  if (v1 < 0 ∨ 40 ≤ v1.toNatClampNeg) then none else F_X3_spouseOf_17 B k (k (B + 9) v1.toNatClampNeg)
def F_X3_spouseOf_16 (B : Nat) (k : kS) : Option (Int32) :=
  F_X3_spouseOf_17 B k (-1)
def F_X3_spouseOf_0 (B : Nat) (k : kS) (v1 : Int32) : Option (Int32) :=
  (F_X3_fits k v1).bind fun x0_1 => if x0_1 = 0 then F_X3_spouseOf_16 B k else F_X3_spouseOf_7 B k v1
def F_X3_spouseOf (B : Nat) (k : kS) (v1 : Int32) : Option (Int32) :=
  F_X3_spouseOf_0 B k v1
-- X3_givenBy
def F_X3_givenBy_17 (B : Nat) (k : kS) (s0 : Int32) : Option (Int32) :=
  some s0
def F_X3_givenBy_7 (B : Nat) (k : kS) (v1 : Int32) : Option (Int32) :=
  if (v1 < 0 ∨ 40 ≤ v1.toNatClampNeg) then none else F_X3_givenBy_17 B k (k (B + 10) v1.toNatClampNeg)
def F_X3_givenBy_16 (B : Nat) (k : kS) : Option (Int32) :=
  F_X3_givenBy_17 B k (-1)
def F_X3_givenBy_0 (B : Nat) (k : kS) (v1 : Int32) : Option (Int32) :=
  (F_X3_fits k v1).bind fun x0_1 => if x0_1 = 0 then F_X3_givenBy_16 B k else F_X3_givenBy_7 B k v1
def F_X3_givenBy (B : Nat) (k : kS) (v1 : Int32) : Option (Int32) :=
  F_X3_givenBy_0 B k v1
-- X3_bind
def F_X3_bind_0 (B : Nat) (v1 : Int32) (v2 : Int32) (k : kS) : Option (kS) :=
  if (v1 < 0 ∨ 40 ≤ v1.toNatClampNeg) then none else if (v2 < 0 ∨ 40 ≤ v2.toNatClampNeg) then none else some (kst (kst k (B + 9) (upd (k (B + 9)) v1.toNatClampNeg v2)) (B + 9) (upd ((kst k (B + 9) (upd (k (B + 9)) v1.toNatClampNeg v2)) (B + 9)) v2.toNatClampNeg v1))
def F_X3_bind (B : Nat) (v1 : Int32) (v2 : Int32) (k : kS) : Option (kS) :=
  F_X3_bind_0 B v1 v2 k
-- X3_part
def F_X3_part_20 (B : Nat) (k : kS) : Option (kS) :=
  some k
def F_X3_part_21 (B : Nat) (v1 : Int32) (v2 : Int32) (k : kS) : Option (kS) :=
  if (v1 < 0 ∨ 40 ≤ v1.toNatClampNeg) then none else if (v2 < 0 ∨ 40 ≤ v2.toNatClampNeg) then none else if (v1 < 0 ∨ 40 ≤ v1.toNatClampNeg) then none else if (v2 < 0 ∨ 40 ≤ v2.toNatClampNeg) then none else some (kst (kst (kst (kst k (B + 9) (upd (k (B + 9)) v1.toNatClampNeg (-1))) (B + 9) (upd ((kst k (B + 9) (upd (k (B + 9)) v1.toNatClampNeg (-1))) (B + 9)) v2.toNatClampNeg (-1))) (B + 10) (upd ((kst (kst k (B + 9) (upd (k (B + 9)) v1.toNatClampNeg (-1))) (B + 9) (upd ((kst k (B + 9) (upd (k (B + 9)) v1.toNatClampNeg (-1))) (B + 9)) v2.toNatClampNeg (-1))) (B + 10)) v1.toNatClampNeg (-1))) (B + 10) (upd ((kst (kst (kst k (B + 9) (upd (k (B + 9)) v1.toNatClampNeg (-1))) (B + 9) (upd ((kst k (B + 9) (upd (k (B + 9)) v1.toNatClampNeg (-1))) (B + 9)) v2.toNatClampNeg (-1))) (B + 10) (upd ((kst (kst k (B + 9) (upd (k (B + 9)) v1.toNatClampNeg (-1))) (B + 9) (upd ((kst k (B + 9) (upd (k (B + 9)) v1.toNatClampNeg (-1))) (B + 9)) v2.toNatClampNeg (-1))) (B + 10)) v1.toNatClampNeg (-1))) (B + 10)) v2.toNatClampNeg (-1)))
def F_X3_part_13 (B : Nat) (v1 : Int32) (v2 : Int32) (k : kS) : Option (kS) :=
  (F_X3_fits k v2).bind fun x13_1 => if x13_1 = 0 then F_X3_part_20 B k else F_X3_part_21 B v1 v2 k
def F_X3_part_0 (B : Nat) (v1 : Int32) (k : kS) : Option (kS) :=
  (F_X3_spouseOf B k v1).bind fun x0_1 => (F_X3_fits k v1).bind fun x0_2 => if x0_2 = 0 then F_X3_part_20 B k else F_X3_part_13 B v1 x0_1 k
def F_X3_part (B : Nat) (v1 : Int32) (k : kS) : Option (kS) :=
  F_X3_part_0 B v1 k
-- X3_couples
def F_X3_couples_23 (B : Nat) (k : kS) (c4 : Int32 → Int32 → Option (Int32)) (v1 : Int32) (v2 : Int32) : Option (Int32) :=
  c4 v1 (v2 + 1)
def F_X3_couples_20 (B : Nat) (k : kS) (c4 : Int32 → Int32 → Option (Int32)) (v1 : Int32) (v2 : Int32) : Option (Int32) :=
  F_X3_couples_23 B k c4 (v1 + 1) v2
def F_X3_couples_10 (B : Nat) (k : kS) (c4 : Int32 → Int32 → Option (Int32)) (v1 : Int32) (v2 : Int32) : Option (Int32) :=
  if (v2 < 0 ∨ 40 ≤ v2.toNatClampNeg) then none else if (k (B + 9) v2.toNatClampNeg) ≤ v2 then F_X3_couples_23 B k c4 v1 v2 else F_X3_couples_20 B k c4 v1 v2
def F_X3_couples_29 (B : Nat) (k : kS) (v1 : Int32) : Option (Int32) :=
  some v1
def F_X3_couples_4 (B : Nat) (k : kS) : Nat → Int32 → Int32 → Option (Int32)
  | 0, _, _ => none
  | n + 1, v1, v2 => if 40 ≤ v2 then F_X3_couples_29 B k v1 else F_X3_couples_10 B k (F_X3_couples_4 B k n) v1 v2
def F_X3_couples_0 (B : Nat) (k : kS) : Option (Int32) :=
  F_X3_couples_4 B k kN 0 0
def F_X3_couples (B : Nat) (k : kS) : Option (Int32) :=
  F_X3_couples_0 B k
-- X4_startFrom
def F_X4_startFrom_0 (k : kS) : Option (kS) :=
  if ((0 : Int32) < 0 ∨ (0 : Int32) < 0 ∨ (40 : Int32) < 0 ∨ 40 < (0 : Int32).toNatClampNeg + (40 : Int32).toNatClampNeg ∨ 40 < (0 : Int32).toNatClampNeg + (40 : Int32).toNatClampNeg) then none else (F_X1_takeRulers (kst (kst k 30 (upd (k 30) 0 (k 15 0))) (30 + 14) (va_cpy ((kst k 30 (upd (k 30) 0 (k 15 0))) (15 + 14)) ((kst k 30 (upd (k 30) 0 (k 15 0))) (30 + 14)) (0 : Int32).toNatClampNeg (0 : Int32).toNatClampNeg (40 : Int32).toNatClampNeg))).bind fun x0_2 => some x0_2
def F_X4_startFrom (k : kS) : Option (kS) :=
  F_X4_startFrom_0 k
-- X4_lives
def F_X4_lives_26 (B : Nat) (k : kS) (s0 : Int32) : Option (Int32) :=
  if ¬ (s0 = 0 ∨ s0 = 1) then none else some s0
def F_X4_lives_21 (B : Nat) (k : kS) : Option (Int32) :=
  F_X4_lives_26 B k 1
def F_X4_lives_25 (B : Nat) (k : kS) : Option (Int32) :=
  F_X4_lives_26 B k 0
def F_X4_lives_11 (B : Nat) (k : kS) (v1 : Int32) : Option (Int32) :=
  if (v1 < 0 ∨ 40 ≤ v1.toNatClampNeg) then none else if (k (B + 14) v1.toNatClampNeg) = (-1) then F_X4_lives_21 B k else F_X4_lives_25 B k
def F_X4_lives_0 (B : Nat) (k : kS) (v1 : Int32) : Option (Int32) :=
  (F_X0_knows k v1).bind fun x0_1 => if x0_1 = 0 then F_X4_lives_25 B k else F_X4_lives_11 B k v1
def F_X4_lives (B : Nat) (k : kS) (v1 : Int32) : Option (Int32) :=
  F_X4_lives_0 B k v1
-- X4_age
def F_X4_age_29 (B : Nat) (k : kS) (s0 : Int32) : Option (Int32) :=
  some s0
def F_X4_age_11 (B : Nat) (k : kS) (v1 : Int32) : Option (Int32) :=
  if (v1 < 0 ∨ 40 ≤ v1.toNatClampNeg) then none else F_X4_age_29 B k ((k B 0) - (k 3 v1.toNatClampNeg))
def F_X4_age_28 (B : Nat) (k : kS) : Option (Int32) :=
  F_X4_age_29 B k 0
def F_X4_age_0 (B : Nat) (k : kS) (v1 : Int32) : Option (Int32) :=
  (F_X0_knows k v1).bind fun x0_1 => if x0_1 = 0 then F_X4_age_28 B k else F_X4_age_11 B k v1
def F_X4_age (B : Nat) (k : kS) (v1 : Int32) : Option (Int32) :=
  F_X4_age_0 B k v1
-- X4_isFree
def F_X4_isFree_35 (B : Nat) (k : kS) (s0 : Int32) : Option (Int32) :=
  if ¬ (s0 = 0 ∨ s0 = 1) then none else some s0
def F_X4_isFree_30 (B : Nat) (k : kS) : Option (Int32) :=
  F_X4_isFree_35 B k 1
def F_X4_isFree_34 (B : Nat) (k : kS) : Option (Int32) :=
  F_X4_isFree_35 B k 0
def F_X4_isFree_18 (B : Nat) (k : kS) (v1 : Int32) : Option (Int32) :=
  (F_X3_spouseOf B k v1).bind fun x18_1 => if x18_1 = (-1) then F_X4_isFree_30 B k else F_X4_isFree_34 B k
def F_X4_isFree_8 (B : Nat) (k : kS) (v1 : Int32) : Option (Int32) :=
  (F_X4_age B k v1).bind fun x8_1 => if x8_1 < 16 then F_X4_isFree_34 B k else F_X4_isFree_18 B k v1
def F_X4_isFree_0 (B : Nat) (k : kS) (v1 : Int32) : Option (Int32) :=
  (F_X4_lives B k v1).bind fun x0_1 => if x0_1 = 0 then F_X4_isFree_34 B k else F_X4_isFree_8 B k v1
def F_X4_isFree (B : Nat) (k : kS) (v1 : Int32) : Option (Int32) :=
  F_X4_isFree_0 B k v1
-- X4_mayMarry
def F_X4_mayMarry_37 (B : Nat) (k : kS) : Option (Int32) :=
  if ¬ ((0 : Int32) = 0 ∨ (0 : Int32) = 1) then none else some 0
def F_X4_mayMarry_64 (B : Nat) (k : kS) (s0 : Int32) : Option (Int32) :=
  if ¬ (s0 = 0 ∨ s0 = 1) then none else some s0
def F_X4_mayMarry_59 (B : Nat) (k : kS) : Option (Int32) :=
  F_X4_mayMarry_64 B k 1
def F_X4_mayMarry_63 (B : Nat) (k : kS) : Option (Int32) :=
  F_X4_mayMarry_64 B k 0
def F_X4_mayMarry_54 (B : Nat) (k : kS) (v3 : Int32) : Option (Int32) :=
  if v3 < 3 then F_X4_mayMarry_63 B k else F_X4_mayMarry_59 B k
def F_X4_mayMarry_39 (B : Nat) (k : kS) (v1 : Int32) (v2 : Int32) : Option (Int32) :=
  (F_X0_stepsBetween k v1 v2).bind fun x39_1 => if x39_1 = (-1) then F_X4_mayMarry_59 B k else F_X4_mayMarry_54 B k x39_1
def F_X4_mayMarry_16 (B : Nat) (k : kS) (v1 : Int32) (v2 : Int32) : Option (Int32) :=
  if (v1 < 0 ∨ 40 ≤ v1.toNatClampNeg) then none else if (v2 < 0 ∨ 40 ≤ v2.toNatClampNeg) then none else if (k 2 v1.toNatClampNeg) = (k 2 v2.toNatClampNeg) then F_X4_mayMarry_37 B k else F_X4_mayMarry_39 B k v1 v2
def F_X4_mayMarry_8 (B : Nat) (k : kS) (v1 : Int32) (v2 : Int32) : Option (Int32) :=
  (F_X4_isFree B k v2).bind fun x8_1 => if x8_1 = 0 then F_X4_mayMarry_37 B k else F_X4_mayMarry_16 B k v1 v2
def F_X4_mayMarry_0 (B : Nat) (k : kS) (v1 : Int32) (v2 : Int32) : Option (Int32) :=
  (F_X4_isFree B k v1).bind fun x0_1 => if x0_1 = 0 then F_X4_mayMarry_37 B k else F_X4_mayMarry_8 B k v1 v2
def F_X4_mayMarry (B : Nat) (k : kS) (v1 : Int32) (v2 : Int32) : Option (Int32) :=
  F_X4_mayMarry_0 B k v1 v2
-- X4_wed
def F_X4_wed_61 (B : Nat) (k : kS) : Option (kS) :=
  some k
def F_X4_wed_58 (B : Nat) (s1 : Int32) (s2 : Int32) (k : kS) : Option (kS) :=
  (F_X1_handTo B s1 s2 k).bind fun x58_1 => F_X4_wed_61 B x58_1
def F_X4_wed_53 (B : Nat) (s1 : Int32) (v2 : Int32) (k : kS) : Option (kS) :=
  F_X4_wed_58 B s1 v2 k
def F_X4_wed_57 (B : Nat) (s1 : Int32) (v1 : Int32) (k : kS) : Option (kS) :=
  F_X4_wed_58 B s1 v1 k
def F_X4_wed_31 (B : Nat) (v1 : Int32) (v2 : Int32) (v3 : Int32) (v4 : Int32) (k : kS) : Option (kS) :=
  if (v4 < 0 ∨ 40 ≤ v4.toNatClampNeg) then none else if v4 = v1 then F_X4_wed_53 B v3 v2 (kst k (B + 10) (upd (k (B + 10)) v4.toNatClampNeg v3)) else F_X4_wed_57 B v3 v1 (kst k (B + 10) (upd (k (B + 10)) v4.toNatClampNeg v3))
def F_X4_wed_25 (B : Nat) (v1 : Int32) (v2 : Int32) (v3 : Int32) (v4 : Int32) (k : kS) : Option (kS) :=
  if v4 = v2 then F_X4_wed_31 B v1 v2 v3 v4 k else F_X4_wed_61 B k
def F_X4_wed_0 (B : Nat) (v1 : Int32) (v2 : Int32) (v3 : Int32) (k : kS) : Option (kS) :=
  (F_X3_bind B v1 v2 k).bind fun x0_1 => (F_X1_rulerOf B x0_1 v3).bind fun x0_2 => if x0_2 = v1 then F_X4_wed_31 B v1 v2 v3 x0_2 x0_1 else F_X4_wed_25 B v1 v2 v3 x0_2 x0_1
def F_X4_wed (B : Nat) (v1 : Int32) (v2 : Int32) (v3 : Int32) (k : kS) : Option (kS) :=
  F_X4_wed_0 B v1 v2 v3 k
-- X4_separate
def F_X4_separate_14 (B : Nat) (k : kS) : Option ((Int32 × kS)) :=
  some ((-1), k)
def F_X4_separate_78 (B : Nat) (k : kS) : Option ((Int32 × kS)) :=
  some ((-1), k)
def F_X4_separate_80 (B : Nat) (v3 : Int32) (v5 : Int32) (k : kS) : Option ((Int32 × kS)) :=
  (F_X1_handTo B v5 v3 k).bind fun x80_1 => some (v5, x80_1)
def F_X4_separate_44 (B : Nat) (s0 : Int32) (v1 : Int32) (v3 : Int32) (k : kS) : Option ((Int32 × kS)) :=
  (F_X3_givenBy B k v3).bind fun x44_1 => (F_X3_part B v1 k).bind fun x44_2 => (F_X1_rulerOf B x44_2 x44_1).bind fun x44_3 => if x44_3 = s0 then F_X4_separate_80 B v3 x44_1 x44_2 else F_X4_separate_78 B x44_2
def F_X4_separate_39 (B : Nat) (v1 : Int32) (v2 : Int32) (v3 : Int32) (k : kS) : Option ((Int32 × kS)) :=
  F_X4_separate_44 B v2 v1 v3 k
def F_X4_separate_43 (B : Nat) (v1 : Int32) (v3 : Int32) (k : kS) : Option ((Int32 × kS)) :=
  F_X4_separate_44 B v1 v1 v3 k
def F_X4_separate_33 (B : Nat) (s0 : Int32) (v1 : Int32) (v2 : Int32) (k : kS) : Option ((Int32 × kS)) :=
  if s0 = v1 then F_X4_separate_39 B v1 v2 s0 k else F_X4_separate_43 B v1 s0 k
def F_X4_separate_28 (B : Nat) (v1 : Int32) (v2 : Int32) (k : kS) : Option ((Int32 × kS)) :=
  F_X4_separate_33 B v2 v1 v2 k
def F_X4_separate_32 (B : Nat) (v1 : Int32) (v2 : Int32) (k : kS) : Option ((Int32 × kS)) :=
  F_X4_separate_33 B v1 v1 v2 k
def F_X4_separate_16 (B : Nat) (v1 : Int32) (v2 : Int32) (k : kS) : Option ((Int32 × kS)) :=
  (F_X3_givenBy B k v1).bind fun x16_1 => if x16_1 = (-1) then F_X4_separate_28 B v1 v2 k else F_X4_separate_32 B v1 v2 k
def F_X4_separate_0 (B : Nat) (v1 : Int32) (k : kS) : Option ((Int32 × kS)) :=
  (F_X3_spouseOf B k v1).bind fun x0_1 => if x0_1 = (-1) then F_X4_separate_14 B k else F_X4_separate_16 B v1 x0_1 k
def F_X4_separate (B : Nat) (v1 : Int32) (k : kS) : Option ((Int32 × kS)) :=
  F_X4_separate_0 B v1 k
-- X4_eldestOfKin
def F_X4_eldestOfKin_60 (B : Nat) (k : kS) (c4 : Int32 → Int32 → Int32 → Option (Int32)) (v1 : Int32) (v2 : Int32) (v3 : Int32) : Option (Int32) :=
  c4 v1 v2 (v3 + 1)
def F_X4_eldestOfKin_58 (B : Nat) (k : kS) (c4 : Int32 → Int32 → Int32 → Option (Int32)) (v1 : Int32) (v3 : Int32) : Option (Int32) :=
  F_X4_eldestOfKin_60 B k c4 v1 v3 v3
def F_X4_eldestOfKin_46 (B : Nat) (k : kS) (c4 : Int32 → Int32 → Int32 → Option (Int32)) (v1 : Int32) (v2 : Int32) (v3 : Int32) : Option (Int32) :=
  (F_X0_isBefore k v3 v2).bind fun x46_1 => if x46_1 = 0 then F_X4_eldestOfKin_60 B k c4 v1 v2 v3 else F_X4_eldestOfKin_58 B k c4 v1 v3
def F_X4_eldestOfKin_41 (B : Nat) (k : kS) (c4 : Int32 → Int32 → Int32 → Option (Int32)) (v1 : Int32) (v2 : Int32) (v3 : Int32) : Option (Int32) :=
  if v2 = (-1) then F_X4_eldestOfKin_58 B k c4 v1 v3 else F_X4_eldestOfKin_46 B k c4 v1 v2 v3
def F_X4_eldestOfKin_28 (B : Nat) (k : kS) (c4 : Int32 → Int32 → Int32 → Option (Int32)) (v1 : Int32) (v2 : Int32) (v3 : Int32) : Option (Int32) :=
  (F_X0_stepsBetween k v3 v1).bind fun x28_1 => if x28_1 = (-1) then F_X4_eldestOfKin_60 B k c4 v1 v2 v3 else F_X4_eldestOfKin_41 B k c4 v1 v2 v3
def F_X4_eldestOfKin_20 (B : Nat) (k : kS) (c4 : Int32 → Int32 → Int32 → Option (Int32)) (v1 : Int32) (v2 : Int32) (v3 : Int32) : Option (Int32) :=
  (F_X4_lives B k v3).bind fun x20_1 => if x20_1 = 0 then F_X4_eldestOfKin_60 B k c4 v1 v2 v3 else F_X4_eldestOfKin_28 B k c4 v1 v2 v3
def F_X4_eldestOfKin_15 (B : Nat) (k : kS) (c4 : Int32 → Int32 → Int32 → Option (Int32)) (v1 : Int32) (v2 : Int32) (v3 : Int32) : Option (Int32) :=
  if v3 = v1 then F_X4_eldestOfKin_60 B k c4 v1 v2 v3 else F_X4_eldestOfKin_20 B k c4 v1 v2 v3
def F_X4_eldestOfKin_66 (B : Nat) (k : kS) (v2 : Int32) : Option (Int32) :=
  some v2
def F_X4_eldestOfKin_4 (B : Nat) (k : kS) : Nat → Int32 → Int32 → Int32 → Option (Int32)
  | 0, _, _, _ => none
  | n + 1, v1, v2, v3 => if (k 1 0) ≤ v3 then F_X4_eldestOfKin_66 B k v2 else F_X4_eldestOfKin_15 B k (F_X4_eldestOfKin_4 B k n) v1 v2 v3
def F_X4_eldestOfKin_0 (B : Nat) (k : kS) (v1 : Int32) : Option (Int32) :=
  F_X4_eldestOfKin_4 B k kN v1 (-1) 0
def F_X4_eldestOfKin (B : Nat) (k : kS) (v1 : Int32) : Option (Int32) :=
  F_X4_eldestOfKin_0 B k v1
-- X4_heirOf
def F_X4_heirOf_11 (B : Nat) (k : kS) : Option ((Int32 × kS)) :=
  some ((-1), k)
def F_X4_heirOf_18 (B : Nat) (v1 : Int32) (k : kS) : Option ((Int32 × kS)) :=
  (F_X4_eldestOfKin B k v1).bind fun x18_1 => some (x18_1, k)
def F_X4_heirOf_126 (B : Nat) (c41 : Int32 → Int32 → Int32 → kS → Option ((Int32 × kS))) (v1 : Int32) (v2 : Int32) (v3 : Int32) (k : kS) : Option ((Int32 × kS)) :=
  c41 v1 v2 (v3 + (-1)) k
def F_X4_heirOf_78 (B : Nat) (c41 : Int32 → Int32 → Int32 → kS → Option ((Int32 × kS))) (v1 : Int32) (v2 : Int32) (v3 : Int32) (v4 : Int32) (k : kS) : Option ((Int32 × kS)) :=
  if (v3 < 0 ∨ 40 ≤ v3.toNatClampNeg) then none else (F_X2_tell B v2 (k 4 v3.toNatClampNeg) v3 v4 k).bind fun x78_2 => if (v3 < 0 ∨ 40 ≤ v3.toNatClampNeg) then none else (F_X2_tell B v2 (x78_2 5 v3.toNatClampNeg) v3 v4 x78_2).bind fun x78_4 => F_X4_heirOf_126 B c41 v1 v2 v3 x78_4
def F_X4_heirOf_70 (B : Nat) (c41 : Int32 → Int32 → Int32 → kS → Option ((Int32 × kS))) (s0 : Int32) (v1 : Int32) (v2 : Int32) (v3 : Int32) (k : kS) : Option ((Int32 × kS)) :=
  if s0 = (-1) then F_X4_heirOf_126 B c41 v1 v2 v3 k else F_X4_heirOf_78 B c41 v1 v2 v3 s0 k
def F_X4_heirOf_58 (B : Nat) (c41 : Int32 → Int32 → Int32 → kS → Option ((Int32 × kS))) (v1 : Int32) (v2 : Int32) (v3 : Int32) (k : kS) : Option ((Int32 × kS)) :=
  F_X4_heirOf_70 B c41 v3 v1 v2 v3 k
def F_X4_heirOf_62 (B : Nat) (c41 : Int32 → Int32 → Int32 → kS → Option ((Int32 × kS))) (v1 : Int32) (v2 : Int32) (v3 : Int32) (k : kS) : Option ((Int32 × kS)) :=
  (F_X2_firstOf B k v3).bind fun x62_1 => F_X4_heirOf_70 B c41 x62_1 v1 v2 v3 k
def F_X4_heirOf_53 (B : Nat) (c41 : Int32 → Int32 → Int32 → kS → Option ((Int32 × kS))) (v1 : Int32) (v2 : Int32) (v3 : Int32) (k : kS) : Option ((Int32 × kS)) :=
  if v3 = v1 then F_X4_heirOf_62 B c41 v1 v2 v3 k else F_X4_heirOf_58 B c41 v1 v2 v3 k
def F_X4_heirOf_45 (B : Nat) (c41 : Int32 → Int32 → Int32 → kS → Option ((Int32 × kS))) (v1 : Int32) (v2 : Int32) (v3 : Int32) (k : kS) : Option ((Int32 × kS)) :=
  (F_X4_lives B k v3).bind fun x45_1 => if x45_1 = 0 then F_X4_heirOf_62 B c41 v1 v2 v3 k else F_X4_heirOf_53 B c41 v1 v2 v3 k
def F_X4_heirOf_188 (B : Nat) (s0 : Int32) (k : kS) : Option ((Int32 × kS)) :=
  some (s0, k)
def F_X4_heirOf_168 (B : Nat) (v1 : Int32) (k : kS) : Option ((Int32 × kS)) :=
  if (v1 < 0 ∨ 40 ≤ v1.toNatClampNeg) then none else (F_X2_firstOf B k (k 4 v1.toNatClampNeg)).bind fun x168_2 => F_X4_heirOf_188 B x168_2 k
def F_X4_heirOf_187 (B : Nat) (v3 : Int32) (k : kS) : Option ((Int32 × kS)) :=
  F_X4_heirOf_188 B v3 k
def F_X4_heirOf_163 (B : Nat) (v1 : Int32) (v3 : Int32) (k : kS) : Option ((Int32 × kS)) :=
  if v3 = (-1) then F_X4_heirOf_168 B v1 k else F_X4_heirOf_187 B v3 k
def F_X4_heirOf_146 (B : Nat) (v1 : Int32) (k : kS) : Option ((Int32 × kS)) :=
  if (v1 < 0 ∨ 40 ≤ v1.toNatClampNeg) then none else (F_X2_firstOf B k (k 5 v1.toNatClampNeg)).bind fun x146_2 => F_X4_heirOf_163 B v1 x146_2 k
def F_X4_heirOf_132 (B : Nat) (v1 : Int32) (k : kS) : Option ((Int32 × kS)) :=
  (F_X2_firstOf B k v1).bind fun x132_1 => if x132_1 = (-1) then F_X4_heirOf_146 B v1 k else F_X4_heirOf_163 B v1 x132_1 k
def F_X4_heirOf_41 (B : Nat) : Nat → Int32 → Int32 → Int32 → kS → Option ((Int32 × kS))
  | 0, _, _, _, _ => none
  | n + 1, v1, v2, v3, k => if v3 < 0 then F_X4_heirOf_132 B v1 k else F_X4_heirOf_45 B (F_X4_heirOf_41 B n) v1 v2 v3 k
def F_X4_heirOf_24 (B : Nat) (v1 : Int32) (v2 : Int32) (k : kS) : Option ((Int32 × kS)) :=
  (F_X2_clear B k).bind fun x24_1 => F_X4_heirOf_41 B kN v1 v2 ((x24_1 1 0) - 1) x24_1
def F_X4_heirOf_13 (B : Nat) (v1 : Int32) (v2 : Int32) (k : kS) : Option ((Int32 × kS)) :=
  if v2 = 3 then F_X4_heirOf_18 B v1 k else F_X4_heirOf_24 B v1 v2 k
def F_X4_heirOf_0 (B : Nat) (v1 : Int32) (v2 : Int32) (k : kS) : Option ((Int32 × kS)) :=
  (F_X0_knows k v1).bind fun x0_1 => if x0_1 = 0 then F_X4_heirOf_11 B k else F_X4_heirOf_13 B v1 v2 k
def F_X4_heirOf (B : Nat) (v1 : Int32) (v2 : Int32) (k : kS) : Option ((Int32 × kS)) :=
  F_X4_heirOf_0 B v1 v2 k
-- X4_bury
def F_X4_bury_63 (B : Nat) (c14 : Int32 → Int32 → Int32 → kS → Option ((Int32 × kS))) (v1 : Int32) (v2 : Int32) (v3 : Int32) (k : kS) : Option ((Int32 × kS)) :=
  c14 v1 v2 (v3 + 1) k
def F_X4_bury_38 (B : Nat) (c14 : Int32 → Int32 → Int32 → kS → Option ((Int32 × kS))) (v1 : Int32) (v2 : Int32) (v3 : Int32) (k : kS) : Option ((Int32 × kS)) :=
  if (v3 < 0 ∨ 12 ≤ v3.toNatClampNeg) then none else (F_X4_heirOf B v1 (k (B + 3) v3.toNatClampNeg) k).bind fun x38_2 => (F_X1_handTo B v3 x38_2.1 x38_2.2).bind fun x38_3 => F_X4_bury_63 B c14 v1 (v2 + 1) v3 x38_3
def F_X4_bury_25 (B : Nat) (c14 : Int32 → Int32 → Int32 → kS → Option ((Int32 × kS))) (v1 : Int32) (v2 : Int32) (v3 : Int32) (k : kS) : Option ((Int32 × kS)) :=
  if (v3 < 0 ∨ 12 ≤ v3.toNatClampNeg) then none else if (k (B + 4) v3.toNatClampNeg) = v1 then F_X4_bury_38 B c14 v1 v2 v3 k else F_X4_bury_63 B c14 v1 v2 v3 k
def F_X4_bury_69 (B : Nat) (v1 : Int32) (v2 : Int32) (k : kS) : Option ((Int32 × kS)) :=
  (F_X3_part B v1 k).bind fun x69_1 => some (v2, x69_1)
def F_X4_bury_14 (B : Nat) : Nat → Int32 → Int32 → Int32 → kS → Option ((Int32 × kS))
  | 0, _, _, _, _ => none
  | n + 1, v1, v2, v3, k => if (k (B + 1) 0) ≤ v3 then F_X4_bury_69 B v1 v2 k else F_X4_bury_25 B (F_X4_bury_14 B n) v1 v2 v3 k
def F_X4_bury_0 (B : Nat) (v1 : Int32) (k : kS) : Option ((Int32 × kS)) :=
  if (v1 < 0 ∨ 40 ≤ v1.toNatClampNeg) then none else F_X4_bury_14 B kN v1 0 0 (kst k (B + 14) (upd (k (B + 14)) v1.toNatClampNeg (k B 0)))
def F_X4_bury (B : Nat) (v1 : Int32) (k : kS) : Option ((Int32 × kS)) :=
  F_X4_bury_0 B v1 k
-- X4_letPass
def F_X4_letPass_64 (B : Nat) (c4 : Int32 → Int32 → Int32 → kS → Option ((Int32 × kS))) (c22 : Int32 → Int32 → Int32 → Int32 → kS → Option ((Int32 × kS))) (v1 : Int32) (v2 : Int32) (v3 : Int32) (v4 : Int32) (k : kS) : Option ((Int32 × kS)) :=
  c22 v1 v2 v3 (v4 + 1) k
def F_X4_letPass_54 (B : Nat) (c4 : Int32 → Int32 → Int32 → kS → Option ((Int32 × kS))) (c22 : Int32 → Int32 → Int32 → Int32 → kS → Option ((Int32 × kS))) (v1 : Int32) (v2 : Int32) (v3 : Int32) (v4 : Int32) (k : kS) : Option ((Int32 × kS)) :=
  (F_X4_bury B v4 k).bind fun x54_1 => F_X4_letPass_64 B c4 c22 v1 (v2 + 1) v3 v4 x54_1.2
def F_X4_letPass_43 (B : Nat) (c4 : Int32 → Int32 → Int32 → kS → Option ((Int32 × kS))) (c22 : Int32 → Int32 → Int32 → Int32 → kS → Option ((Int32 × kS))) (v1 : Int32) (v2 : Int32) (v3 : Int32) (v4 : Int32) (k : kS) : Option ((Int32 × kS)) :=
  (F_X4_age B k v4).bind fun x43_1 => if x43_1 < 80 then F_X4_letPass_64 B c4 c22 v1 v2 v3 v4 k else F_X4_letPass_54 B c4 c22 v1 v2 v3 v4 k
def F_X4_letPass_34 (B : Nat) (c4 : Int32 → Int32 → Int32 → kS → Option ((Int32 × kS))) (c22 : Int32 → Int32 → Int32 → Int32 → kS → Option ((Int32 × kS))) (v1 : Int32) (v2 : Int32) (v3 : Int32) (v4 : Int32) (k : kS) : Option ((Int32 × kS)) :=
  (F_X4_lives B k v4).bind fun x34_1 => if x34_1 = 0 then F_X4_letPass_64 B c4 c22 v1 v2 v3 v4 k else F_X4_letPass_43 B c4 c22 v1 v2 v3 v4 k
def F_X4_letPass_70 (B : Nat) (c4 : Int32 → Int32 → Int32 → kS → Option ((Int32 × kS))) (v1 : Int32) (v2 : Int32) (v3 : Int32) (k : kS) : Option ((Int32 × kS)) :=
  c4 v1 v2 (v3 + 1) k
def F_X4_letPass_22 (B : Nat) (c4 : Int32 → Int32 → Int32 → kS → Option ((Int32 × kS))) : Nat → Int32 → Int32 → Int32 → Int32 → kS → Option ((Int32 × kS))
  | 0, _, _, _, _, _ => none
  | n + 1, v1, v2, v3, v4, k => if (k 1 0) ≤ v4 then F_X4_letPass_70 B c4 v1 v2 v3 k else F_X4_letPass_34 B c4 (F_X4_letPass_22 B c4 n) v1 v2 v3 v4 k
def F_X4_letPass_9 (B : Nat) (c4 : Int32 → Int32 → Int32 → kS → Option ((Int32 × kS))) (v1 : Int32) (v2 : Int32) (v3 : Int32) (k : kS) : Option ((Int32 × kS)) :=
  F_X4_letPass_22 B c4 kN v1 v2 v3 0 (kst k B (upd (k B) 0 ((k B 0) + 1)))
def F_X4_letPass_76 (B : Nat) (v2 : Int32) (k : kS) : Option ((Int32 × kS)) :=
  some (v2, k)
def F_X4_letPass_4 (B : Nat) : Nat → Int32 → Int32 → Int32 → kS → Option ((Int32 × kS))
  | 0, _, _, _, _ => none
  | n + 1, v1, v2, v3, k => if v1 ≤ v3 then F_X4_letPass_76 B v2 k else F_X4_letPass_9 B (F_X4_letPass_4 B n) v1 v2 v3 k
def F_X4_letPass_0 (B : Nat) (v1 : Int32) (k : kS) : Option ((Int32 × kS)) :=
  F_X4_letPass_4 B kN v1 0 0 k
def F_X4_letPass (B : Nat) (v1 : Int32) (k : kS) : Option ((Int32 × kS)) :=
  F_X4_letPass_0 B v1 k
-- X4_nearestGrown
def F_X4_nearestGrown_93 (B : Nat) (k : kS) (c7 : Int32 → Int32 → Int32 → Int32 → Option (Int32)) (v1 : Int32) (v2 : Int32) (v3 : Int32) (v4 : Int32) : Option (Int32) :=
  c7 v1 v2 v3 (v4 + 1)
def F_X4_nearestGrown_87 (B : Nat) (k : kS) (c7 : Int32 → Int32 → Int32 → Int32 → Option (Int32)) (v1 : Int32) (v4 : Int32) (v5 : Int32) : Option (Int32) :=
  F_X4_nearestGrown_93 B k c7 v1 v4 v5 v4
def F_X4_nearestGrown_74 (B : Nat) (k : kS) (c7 : Int32 → Int32 → Int32 → Int32 → Option (Int32)) (v1 : Int32) (v2 : Int32) (v3 : Int32) (v4 : Int32) (v5 : Int32) : Option (Int32) :=
  (F_X0_isBefore k v4 v2).bind fun x74_1 => if x74_1 = 0 then F_X4_nearestGrown_93 B k c7 v1 v2 v3 v4 else F_X4_nearestGrown_87 B k c7 v1 v4 v5
def F_X4_nearestGrown_68 (B : Nat) (k : kS) (c7 : Int32 → Int32 → Int32 → Int32 → Option (Int32)) (v1 : Int32) (v2 : Int32) (v3 : Int32) (v4 : Int32) (v5 : Int32) : Option (Int32) :=
  if v5 = v3 then F_X4_nearestGrown_74 B k c7 v1 v2 v3 v4 v5 else F_X4_nearestGrown_93 B k c7 v1 v2 v3 v4
def F_X4_nearestGrown_62 (B : Nat) (k : kS) (c7 : Int32 → Int32 → Int32 → Int32 → Option (Int32)) (v1 : Int32) (v2 : Int32) (v3 : Int32) (v4 : Int32) (v5 : Int32) : Option (Int32) :=
  if v5 < v3 then F_X4_nearestGrown_87 B k c7 v1 v4 v5 else F_X4_nearestGrown_68 B k c7 v1 v2 v3 v4 v5
def F_X4_nearestGrown_57 (B : Nat) (k : kS) (c7 : Int32 → Int32 → Int32 → Int32 → Option (Int32)) (v1 : Int32) (v2 : Int32) (v3 : Int32) (v4 : Int32) (v5 : Int32) : Option (Int32) :=
  if v2 = (-1) then F_X4_nearestGrown_87 B k c7 v1 v4 v5 else F_X4_nearestGrown_62 B k c7 v1 v2 v3 v4 v5
def F_X4_nearestGrown_46 (B : Nat) (k : kS) (c7 : Int32 → Int32 → Int32 → Int32 → Option (Int32)) (v1 : Int32) (v2 : Int32) (v3 : Int32) (v4 : Int32) (v5 : Int32) : Option (Int32) :=
  (F_X4_age B k v4).bind fun x46_1 => if x46_1 < 16 then F_X4_nearestGrown_93 B k c7 v1 v2 v3 v4 else F_X4_nearestGrown_57 B k c7 v1 v2 v3 v4 v5
def F_X4_nearestGrown_37 (B : Nat) (k : kS) (c7 : Int32 → Int32 → Int32 → Int32 → Option (Int32)) (v1 : Int32) (v2 : Int32) (v3 : Int32) (v4 : Int32) (v5 : Int32) : Option (Int32) :=
  (F_X4_lives B k v4).bind fun x37_1 => if x37_1 = 0 then F_X4_nearestGrown_93 B k c7 v1 v2 v3 v4 else F_X4_nearestGrown_46 B k c7 v1 v2 v3 v4 v5
def F_X4_nearestGrown_19 (B : Nat) (k : kS) (c7 : Int32 → Int32 → Int32 → Int32 → Option (Int32)) (v1 : Int32) (v2 : Int32) (v3 : Int32) (v4 : Int32) : Option (Int32) :=
  (F_X0_stepsBetween k v4 v1).bind fun x19_1 => if x19_1 = (-1) then F_X4_nearestGrown_93 B k c7 v1 v2 v3 v4 else F_X4_nearestGrown_37 B k c7 v1 v2 v3 v4 x19_1
def F_X4_nearestGrown_99 (B : Nat) (k : kS) (v2 : Int32) : Option (Int32) :=
  some v2
def F_X4_nearestGrown_7 (B : Nat) (k : kS) : Nat → Int32 → Int32 → Int32 → Int32 → Option (Int32)
  | 0, _, _, _, _ => none
  | n + 1, v1, v2, v3, v4 => if (k 1 0) ≤ v4 then F_X4_nearestGrown_99 B k v2 else F_X4_nearestGrown_19 B k (F_X4_nearestGrown_7 B k n) v1 v2 v3 v4
def F_X4_nearestGrown_0 (B : Nat) (k : kS) (v1 : Int32) : Option (Int32) :=
  F_X4_nearestGrown_7 B k kN v1 (-1) (-1) 0
def F_X4_nearestGrown (B : Nat) (k : kS) (v1 : Int32) : Option (Int32) :=
  F_X4_nearestGrown_0 B k v1
-- X4_regentOf
def F_X4_regentOf_18 (B : Nat) (k : kS) : Option (Int32) :=
  some (-1)
def F_X4_regentOf_36 (B : Nat) (k : kS) (v1 : Int32) : Option (Int32) :=
  if (v1 < 0 ∨ 40 ≤ v1.toNatClampNeg) then none else some (k 4 v1.toNatClampNeg)
def F_X4_regentOf_79 (B : Nat) (k : kS) (s0 : Int32) : Option (Int32) :=
  some s0
def F_X4_regentOf_62 (B : Nat) (k : kS) (v1 : Int32) : Option (Int32) :=
  if (v1 < 0 ∨ 40 ≤ v1.toNatClampNeg) then none else F_X4_regentOf_79 B k (k 5 v1.toNatClampNeg)
def F_X4_regentOf_74 (B : Nat) (k : kS) (v1 : Int32) : Option (Int32) :=
  (F_X4_nearestGrown B k v1).bind fun x74_1 => F_X4_regentOf_79 B k x74_1
def F_X4_regentOf_46 (B : Nat) (k : kS) (v1 : Int32) : Option (Int32) :=
  if (v1 < 0 ∨ 40 ≤ v1.toNatClampNeg) then none else (F_X4_lives B k (k 5 v1.toNatClampNeg)).bind fun x46_2 => if x46_2 = 0 then F_X4_regentOf_74 B k v1 else F_X4_regentOf_62 B k v1
def F_X4_regentOf_20 (B : Nat) (k : kS) (v1 : Int32) : Option (Int32) :=
  if (v1 < 0 ∨ 40 ≤ v1.toNatClampNeg) then none else (F_X4_lives B k (k 4 v1.toNatClampNeg)).bind fun x20_2 => if x20_2 = 0 then F_X4_regentOf_46 B k v1 else F_X4_regentOf_36 B k v1
def F_X4_regentOf_8 (B : Nat) (k : kS) (v1 : Int32) : Option (Int32) :=
  (F_X4_age B k v1).bind fun x8_1 => if x8_1 < 16 then F_X4_regentOf_20 B k v1 else F_X4_regentOf_18 B k
def F_X4_regentOf_0 (B : Nat) (k : kS) (v1 : Int32) : Option (Int32) :=
  (F_X4_lives B k v1).bind fun x0_1 => if x0_1 = 0 then F_X4_regentOf_18 B k else F_X4_regentOf_8 B k v1
def F_X4_regentOf (B : Nat) (k : kS) (v1 : Int32) : Option (Int32) :=
  F_X4_regentOf_0 B k v1
-- X4_personFact
def F_X4_personFact_69 (B : Nat) (k : kS) (s0 : Int32) : Option (Int32) :=
  some s0
def F_X4_personFact_64 (B : Nat) (k : kS) : Option (Int32) :=
  F_X4_personFact_69 B k 1
def F_X4_personFact_68 (B : Nat) (k : kS) : Option (Int32) :=
  F_X4_personFact_69 B k 0
def F_X4_personFact_52 (B : Nat) (k : kS) (v1 : Int32) : Option (Int32) :=
  if (v1 < 0 ∨ 40 ≤ v1.toNatClampNeg) then none else if (k 2 v1.toNatClampNeg) = 0 then F_X4_personFact_68 B k else F_X4_personFact_64 B k
def F_X4_personFact_70 (B : Nat) (k : kS) (v1 : Int32) : Option (Int32) :=
  if (v1 < 0 ∨ 40 ≤ v1.toNatClampNeg) then none else some (k 3 v1.toNatClampNeg)
def F_X4_personFact_93 (B : Nat) (k : kS) (s0 : Int32) : Option (Int32) :=
  some s0
def F_X4_personFact_88 (B : Nat) (k : kS) : Option (Int32) :=
  F_X4_personFact_93 B k 1
def F_X4_personFact_92 (B : Nat) (k : kS) : Option (Int32) :=
  F_X4_personFact_93 B k 0
def F_X4_personFact_80 (B : Nat) (k : kS) (v1 : Int32) : Option (Int32) :=
  (F_X4_lives B k v1).bind fun x80_1 => if x80_1 = 0 then F_X4_personFact_92 B k else F_X4_personFact_88 B k
def F_X4_personFact_94 (B : Nat) (k : kS) (v1 : Int32) : Option (Int32) :=
  if (v1 < 0 ∨ 40 ≤ v1.toNatClampNeg) then none else some (k 4 v1.toNatClampNeg)
def F_X4_personFact_104 (B : Nat) (k : kS) (v1 : Int32) : Option (Int32) :=
  if (v1 < 0 ∨ 40 ≤ v1.toNatClampNeg) then none else some (k 5 v1.toNatClampNeg)
def F_X4_personFact_114 (B : Nat) (k : kS) (v1 : Int32) : Option (Int32) :=
  (F_X3_spouseOf B k v1).bind fun x114_1 => some x114_1
def F_X4_personFact_123 (B : Nat) (k : kS) (v1 : Int32) : Option (Int32) :=
  (F_X0_childrenOf k v1).bind fun x123_1 => some x123_1
def F_X4_personFact_132 (B : Nat) (k : kS) (v1 : Int32) : Option (Int32) :=
  (F_X1_numberUnder B k v1).bind fun x132_1 => some x132_1
def F_X4_personFact_141 (B : Nat) (k : kS) (v1 : Int32) : Option (Int32) :=
  (F_X1_worthUnder B k v1).bind fun x141_1 => some x141_1
def F_X4_personFact_150 (B : Nat) (k : kS) (v1 : Int32) : Option (Int32) :=
  if (v1 < 0 ∨ 40 ≤ v1.toNatClampNeg) then none else some (k (B + 14) v1.toNatClampNeg)
def F_X4_personFact_0 (B : Nat) (k : kS) (v1 : Int32) (v2 : Int32) : Option (Int32) :=
  if v2 = 0 then F_X4_personFact_52 B k v1 else if v2 = 1 then F_X4_personFact_70 B k v1 else if v2 = 2 then F_X4_personFact_80 B k v1 else if v2 = 3 then F_X4_personFact_94 B k v1 else if v2 = 4 then F_X4_personFact_104 B k v1 else if v2 = 5 then F_X4_personFact_114 B k v1 else if v2 = 6 then F_X4_personFact_123 B k v1 else if v2 = 7 then F_X4_personFact_132 B k v1 else if v2 = 8 then F_X4_personFact_141 B k v1 else F_X4_personFact_150 B k v1
def F_X4_personFact (B : Nat) (k : kS) (v1 : Int32) (v2 : Int32) : Option (Int32) :=
  F_X4_personFact_0 B k v1 v2
-- X4_landFact
def F_X4_landFact_44 (B : Nat) (v1 : Int32) (k : kS) : Option ((Int32 × kS)) :=
  if (v1 < 0 ∨ 12 ≤ v1.toNatClampNeg) then none else some ((k (B + 2) v1.toNatClampNeg), k)
def F_X4_landFact_54 (B : Nat) (v1 : Int32) (k : kS) : Option ((Int32 × kS)) :=
  if (v1 < 0 ∨ 12 ≤ v1.toNatClampNeg) then none else some ((k (B + 3) v1.toNatClampNeg), k)
def F_X4_landFact_64 (B : Nat) (v3 : Int32) (k : kS) : Option ((Int32 × kS)) :=
  some (v3, k)
def F_X4_landFact_66 (B : Nat) (v3 : Int32) (k : kS) : Option ((Int32 × kS)) :=
  (F_X4_regentOf B k v3).bind fun x66_1 => some (x66_1, k)
def F_X4_landFact_72 (B : Nat) (v1 : Int32) (v3 : Int32) (k : kS) : Option ((Int32 × kS)) :=
  if (v1 < 0 ∨ 12 ≤ v1.toNatClampNeg) then none else (F_X4_heirOf B v3 (k (B + 3) v1.toNatClampNeg) k).bind fun x72_2 => some (x72_2.1, x72_2.2)
def F_X4_landFact_87 (B : Nat) (v1 : Int32) (k : kS) : Option ((Int32 × kS)) :=
  if (v1 < 0 ∨ 12 ≤ v1.toNatClampNeg) then none else some ((k (B + 5) v1.toNatClampNeg), k)
def F_X4_landFact_0 (B : Nat) (v1 : Int32) (v2 : Int32) (k : kS) : Option ((Int32 × kS)) :=
  if (v1 < 0 ∨ 12 ≤ v1.toNatClampNeg) then none else if v2 = 0 then F_X4_landFact_44 B v1 k else if v2 = 1 then F_X4_landFact_54 B v1 k else if v2 = 2 then F_X4_landFact_64 B (k (B + 4) v1.toNatClampNeg) k else if v2 = 3 then F_X4_landFact_66 B (k (B + 4) v1.toNatClampNeg) k else if v2 = 4 then F_X4_landFact_72 B v1 (k (B + 4) v1.toNatClampNeg) k else F_X4_landFact_87 B v1 k
def F_X4_landFact (B : Nat) (v1 : Int32) (v2 : Int32) (k : kS) : Option ((Int32 × kS)) :=
  F_X4_landFact_0 B v1 v2 k
-- X4_living
def F_X4_living_26 (B : Nat) (k : kS) (c4 : Int32 → Int32 → Option (Int32)) (v1 : Int32) (v2 : Int32) : Option (Int32) :=
  c4 v1 (v2 + 1)
def F_X4_living_23 (B : Nat) (k : kS) (c4 : Int32 → Int32 → Option (Int32)) (v1 : Int32) (v2 : Int32) : Option (Int32) :=
  F_X4_living_26 B k c4 (v1 + 1) v2
def F_X4_living_15 (B : Nat) (k : kS) (c4 : Int32 → Int32 → Option (Int32)) (v1 : Int32) (v2 : Int32) : Option (Int32) :=
  (F_X4_lives B k v2).bind fun x15_1 => if x15_1 = 0 then F_X4_living_26 B k c4 v1 v2 else F_X4_living_23 B k c4 v1 v2
def F_X4_living_32 (B : Nat) (k : kS) (v1 : Int32) : Option (Int32) :=
  some v1
def F_X4_living_4 (B : Nat) (k : kS) : Nat → Int32 → Int32 → Option (Int32)
  | 0, _, _ => none
  | n + 1, v1, v2 => if (k 1 0) ≤ v2 then F_X4_living_32 B k v1 else F_X4_living_15 B k (F_X4_living_4 B k n) v1 v2
def F_X4_living_0 (B : Nat) (k : kS) : Option (Int32) :=
  F_X4_living_4 B k kN 0 0
def F_X4_living (B : Nat) (k : kS) : Option (Int32) :=
  F_X4_living_0 B k
-- X4_rulers
def F_X4_rulers_43 (B : Nat) (k : kS) (c4 : Int32 → Int32 → Int32 → Option (Int32)) (v1 : Int32) (v2 : Int32) (v3 : Int32) : Option (Int32) :=
  c4 v1 v2 (v3 + 1)
def F_X4_rulers_40 (B : Nat) (k : kS) (c4 : Int32 → Int32 → Int32 → Option (Int32)) (v1 : Int32) (v2 : Int32) (v3 : Int32) : Option (Int32) :=
  F_X4_rulers_43 B k c4 v1 (v2 + 1) v3
def F_X4_rulers_30 (B : Nat) (k : kS) (c4 : Int32 → Int32 → Int32 → Option (Int32)) (v1 : Int32) (v2 : Int32) (v3 : Int32) : Option (Int32) :=
  (F_X4_age B k v3).bind fun x30_1 => if 16 ≤ x30_1 then F_X4_rulers_43 B k c4 v1 v2 v3 else F_X4_rulers_40 B k c4 v1 v2 v3
def F_X4_rulers_26 (B : Nat) (k : kS) (c4 : Int32 → Int32 → Int32 → Option (Int32)) (v1 : Int32) (v2 : Int32) (v3 : Int32) : Option (Int32) :=
  if v1 = 0 then F_X4_rulers_40 B k c4 v1 v2 v3 else F_X4_rulers_30 B k c4 v1 v2 v3
def F_X4_rulers_15 (B : Nat) (k : kS) (c4 : Int32 → Int32 → Int32 → Option (Int32)) (v1 : Int32) (v2 : Int32) (v3 : Int32) : Option (Int32) :=
  (F_X1_numberUnder B k v3).bind fun x15_1 => if x15_1 ≤ 0 then F_X4_rulers_43 B k c4 v1 v2 v3 else F_X4_rulers_26 B k c4 v1 v2 v3
def F_X4_rulers_49 (B : Nat) (k : kS) (v2 : Int32) : Option (Int32) :=
  some v2
def F_X4_rulers_4 (B : Nat) (k : kS) : Nat → Int32 → Int32 → Int32 → Option (Int32)
  | 0, _, _, _ => none
  | n + 1, v1, v2, v3 => if (k 1 0) ≤ v3 then F_X4_rulers_49 B k v2 else F_X4_rulers_15 B k (F_X4_rulers_4 B k n) v1 v2 v3
def F_X4_rulers_0 (B : Nat) (k : kS) (v1 : Int32) : Option (Int32) :=
  F_X4_rulers_4 B k kN v1 0 0
def F_X4_rulers (B : Nat) (k : kS) (v1 : Int32) : Option (Int32) :=
  F_X4_rulers_0 B k v1
-- X4_countFact
def F_X4_countFact_44 (B : Nat) (k : kS) : Option (Int32) :=
  some (k B 0)
def F_X4_countFact_49 (B : Nat) (k : kS) : Option (Int32) :=
  some (k 1 0)
def F_X4_countFact_57 (B : Nat) (k : kS) : Option (Int32) :=
  (F_X4_living B k).bind fun x57_1 => some x57_1
def F_X4_countFact_62 (B : Nat) (k : kS) : Option (Int32) :=
  (F_X3_couples B k).bind fun x62_1 => some x62_1
def F_X4_countFact_70 (B : Nat) (k : kS) : Option (Int32) :=
  some (k (B + 1) 0)
def F_X4_countFact_78 (B : Nat) (k : kS) : Option (Int32) :=
  (F_X1_numberUnder B k (-1)).bind fun x78_1 => some x78_1
def F_X4_countFact_87 (B : Nat) (k : kS) : Option (Int32) :=
  (F_X4_rulers B k 0).bind fun x87_1 => some x87_1
def F_X4_countFact_93 (B : Nat) (k : kS) : Option (Int32) :=
  (F_X4_rulers B k 1).bind fun x93_1 => some x93_1
def F_X4_countFact_0 (B : Nat) (k : kS) (v1 : Int32) : Option (Int32) :=
  if v1 = 0 then F_X4_countFact_44 B k else if v1 = 1 then F_X4_countFact_49 B k else if v1 = 2 then F_X4_countFact_57 B k else if v1 = 3 then F_X4_countFact_62 B k else if v1 = 4 then F_X4_countFact_70 B k else if v1 = 5 then F_X4_countFact_78 B k else if v1 = 6 then F_X4_countFact_87 B k else F_X4_countFact_93 B k
def F_X4_countFact (B : Nat) (k : kS) (v1 : Int32) : Option (Int32) :=
  F_X4_countFact_0 B k v1
