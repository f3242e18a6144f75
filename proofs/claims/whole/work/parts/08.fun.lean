/-! THE METHODS AS FUNCTIONS (printed by a program out of the bytecode): a function a basic block, none where an index is out of its row or the fuel is gone -/
def kN : Nat := 4096
def kD : Nat := 45
def kfill (n : Nat) (v : Int32) (f : Nat → Int32) : Nat → Int32 := fun j => if j < n then v else f j

-- X0_knows
def F_X0_knows_17 (k : kS) (s0 : Int32) : Option (Int32) :=
  if ¬ (s0 = 0 ∨ s0 = 1) then none else some s0
def F_X0_knows_12 (k : kS) : Option (Int32) :=
  F_X0_knows_17 k 1
def F_X0_knows_16 (k : kS) : Option (Int32) :=
  F_X0_knows_17 k 0
def F_X0_knows_4 (k : kS) (v1 : Int32) : Option (Int32) :=
  if (k 1 0) ≤ v1 then F_X0_knows_16 k else F_X0_knows_12 k
def F_X0_knows_0 (k : kS) (v1 : Int32) : Option (Int32) :=
  if v1 < 0 then F_X0_knows_16 k else F_X0_knows_4 k v1
def F_X0_knows (k : kS) (v1 : Int32) : Option (Int32) :=
  F_X0_knows_0 k v1
-- X0_isFull
def F_X0_isFull_14 (k : kS) (s0 : Int32) : Option (Int32) :=
  if ¬ (s0 = 0 ∨ s0 = 1) then none else some s0
def F_X0_isFull_9 (k : kS) : Option (Int32) :=
  F_X0_isFull_14 k 1
def F_X0_isFull_13 (k : kS) : Option (Int32) :=
  F_X0_isFull_14 k 0
def F_X0_isFull_0 (k : kS) : Option (Int32) :=
  if (k 1 0) < 40 then F_X0_isFull_13 k else F_X0_isFull_9 k
def F_X0_isFull (k : kS) : Option (Int32) :=
  F_X0_isFull_0 k
-- X0_stepsBetween
def F_X0_stepsBetween_28 (k : kS) (s0 : Int32) : Option (Int32) :=
  some s0
def F_X0_stepsBetween_16 (k : kS) (v1 : Int32) (v2 : Int32) : Option (Int32) :=
  if (v1 < 0 ∨ 40 ≤ v1.toNatClampNeg) then none else if (v2 < 0 ∨ 40 ≤ v2.toNatClampNeg) then none else F_X0_stepsBetween_28 k (k (69 + v1.toNatClampNeg) v2.toNatClampNeg)
def F_X0_stepsBetween_27 (k : kS) : Option (Int32) :=
  F_X0_stepsBetween_28 k (-1)
def F_X0_stepsBetween_8 (k : kS) (v1 : Int32) (v2 : Int32) : Option (Int32) :=
  (F_X0_knows k v2).bind fun x8_1 => if x8_1 = 0 then F_X0_stepsBetween_27 k else F_X0_stepsBetween_16 k v1 v2
def F_X0_stepsBetween_0 (k : kS) (v1 : Int32) (v2 : Int32) : Option (Int32) :=
  (F_X0_knows k v1).bind fun x0_1 => if x0_1 = 0 then F_X0_stepsBetween_27 k else F_X0_stepsBetween_8 k v1 v2
def F_X0_stepsBetween (k : kS) (v1 : Int32) (v2 : Int32) : Option (Int32) :=
  F_X0_stepsBetween_0 k v1 v2
-- X0_stepsThroughParents
def F_X0_stepsThroughParents_28 (k : kS) : Option (Int32) :=
  some (-1)
def F_X0_stepsThroughParents_36 (k : kS) (v5 : Int32) : Option (Int32) :=
  some (v5 + 1)
def F_X0_stepsThroughParents_63 (k : kS) (s0 : Int32) : Option (Int32) :=
  some s0
def F_X0_stepsThroughParents_47 (k : kS) (v4 : Int32) : Option (Int32) :=
  F_X0_stepsThroughParents_63 k (v4 + 1)
def F_X0_stepsThroughParents_54 (k : kS) (v4 : Int32) (v5 : Int32) : Option (Int32) :=
  F_X0_stepsThroughParents_63 k ((if v5 < v4 then v5 else v4) + 1)
def F_X0_stepsThroughParents_41 (k : kS) (v4 : Int32) (v5 : Int32) : Option (Int32) :=
  if v5 = (-1) then F_X0_stepsThroughParents_47 k v4 else F_X0_stepsThroughParents_54 k v4 v5
def F_X0_stepsThroughParents_30 (k : kS) (v4 : Int32) (v5 : Int32) : Option (Int32) :=
  if v4 = (-1) then F_X0_stepsThroughParents_36 k v5 else F_X0_stepsThroughParents_41 k v4 v5
def F_X0_stepsThroughParents_22 (k : kS) (v4 : Int32) (v5 : Int32) : Option (Int32) :=
  if v5 = (-1) then F_X0_stepsThroughParents_28 k else F_X0_stepsThroughParents_30 k v4 v5
def F_X0_stepsThroughParents_0 (k : kS) (v1 : Int32) (v2 : Int32) (v3 : Int32) : Option (Int32) :=
  (F_X0_stepsBetween k v1 v3).bind fun x0_1 => (F_X0_stepsBetween k v2 v3).bind fun x0_2 => if x0_1 = (-1) then F_X0_stepsThroughParents_22 k x0_1 x0_2 else F_X0_stepsThroughParents_30 k x0_1 x0_2
def F_X0_stepsThroughParents (k : kS) (v1 : Int32) (v2 : Int32) (v3 : Int32) : Option (Int32) :=
  F_X0_stepsThroughParents_0 k v1 v2 v3
-- X0_add
def F_X0_add_7 (k : kS) : Option ((Int32 × kS)) :=
  some ((-1), k)
def F_X0_add_58 (c51 : Int32 → Int32 → Int32 → Int32 → kS → Option ((Int32 × kS))) (v3 : Int32) (v4 : Int32) (v5 : Int32) (v6 : Int32) (k : kS) : Option ((Int32 × kS)) :=
  (F_X0_stepsThroughParents k v3 v4 v6).bind fun x58_1 => if (v5 < 0 ∨ 40 ≤ v5.toNatClampNeg) then none else if (v6 < 0 ∨ 40 ≤ v6.toNatClampNeg) then none else if (v6 < 0 ∨ 40 ≤ v6.toNatClampNeg) then none else if (v5 < 0 ∨ 40 ≤ v5.toNatClampNeg) then none else c51 v3 v4 v5 (v6 + 1) (kst (kst k (69 + v5.toNatClampNeg) (upd (k (69 + v5.toNatClampNeg)) v6.toNatClampNeg x58_1)) (69 + v6.toNatClampNeg) (upd ((kst k (69 + v5.toNatClampNeg) (upd (k (69 + v5.toNatClampNeg)) v6.toNatClampNeg x58_1)) (69 + v6.toNatClampNeg)) v5.toNatClampNeg x58_1))
def F_X0_add_99 (v5 : Int32) (k : kS) : Option ((Int32 × kS)) :=
  if (v5 < 0 ∨ 40 ≤ v5.toNatClampNeg) then none else if (v5 < 0 ∨ 40 ≤ v5.toNatClampNeg) then none else some (v5, (kst (kst k (69 + v5.toNatClampNeg) (upd (k (69 + v5.toNatClampNeg)) v5.toNatClampNeg 0)) 1 (upd ((kst k (69 + v5.toNatClampNeg) (upd (k (69 + v5.toNatClampNeg)) v5.toNatClampNeg 0)) 1) 0 (v5 + 1))))
def F_X0_add_51 : Nat → Int32 → Int32 → Int32 → Int32 → kS → Option ((Int32 × kS))
  | 0, _, _, _, _, _ => none
  | n + 1, v3, v4, v5, v6, k => if v5 ≤ v6 then F_X0_add_99 v5 k else F_X0_add_58 (F_X0_add_51 n) v3 v4 v5 v6 k
def F_X0_add_9 (v1 : Int32) (v2 : Int32) (v3 : Int32) (v4 : Int32) (k : kS) : Option ((Int32 × kS)) :=
  if ((k 1 0) < 0 ∨ 40 ≤ (k 1 0).toNatClampNeg) then none else if ((k 1 0) < 0 ∨ 40 ≤ (k 1 0).toNatClampNeg) then none else if ((k 1 0) < 0 ∨ 40 ≤ (k 1 0).toNatClampNeg) then none else if ((k 1 0) < 0 ∨ 40 ≤ (k 1 0).toNatClampNeg) then none else F_X0_add_51 kN v3 v4 (k 1 0) 0 (kst (kst (kst (kst k 2 (upd (k 2) (k 1 0).toNatClampNeg (vp_nar .boolean v1))) 3 (upd ((kst k 2 (upd (k 2) (k 1 0).toNatClampNeg (vp_nar .boolean v1))) 3) (k 1 0).toNatClampNeg v2)) 4 (upd ((kst (kst k 2 (upd (k 2) (k 1 0).toNatClampNeg (vp_nar .boolean v1))) 3 (upd ((kst k 2 (upd (k 2) (k 1 0).toNatClampNeg (vp_nar .boolean v1))) 3) (k 1 0).toNatClampNeg v2)) 4) (k 1 0).toNatClampNeg v3)) 5 (upd ((kst (kst (kst k 2 (upd (k 2) (k 1 0).toNatClampNeg (vp_nar .boolean v1))) 3 (upd ((kst k 2 (upd (k 2) (k 1 0).toNatClampNeg (vp_nar .boolean v1))) 3) (k 1 0).toNatClampNeg v2)) 4 (upd ((kst (kst k 2 (upd (k 2) (k 1 0).toNatClampNeg (vp_nar .boolean v1))) 3 (upd ((kst k 2 (upd (k 2) (k 1 0).toNatClampNeg (vp_nar .boolean v1))) 3) (k 1 0).toNatClampNeg v2)) 4) (k 1 0).toNatClampNeg v3)) 5) (k 1 0).toNatClampNeg v4))
def F_X0_add_0 (v1 : Int32) (v2 : Int32) (v3 : Int32) (v4 : Int32) (k : kS) : Option ((Int32 × kS)) :=
  (F_X0_isFull k).bind fun x0_1 => if x0_1 = 0 then F_X0_add_9 v1 v2 v3 v4 k else F_X0_add_7 k
def F_X0_add (v1 : Int32) (v2 : Int32) (v3 : Int32) (v4 : Int32) (k : kS) : Option ((Int32 × kS)) :=
  F_X0_add_0 v1 v2 v3 v4 k
-- X0_isBefore
def F_X0_isBefore_40 (k : kS) (s0 : Int32) : Option (Int32) :=
  if ¬ (s0 = 0 ∨ s0 = 1) then none else some s0
def F_X0_isBefore_35 (k : kS) : Option (Int32) :=
  F_X0_isBefore_40 k 1
def F_X0_isBefore_39 (k : kS) : Option (Int32) :=
  F_X0_isBefore_40 k 0
def F_X0_isBefore_30 (k : kS) (v1 : Int32) (v2 : Int32) : Option (Int32) :=
  if v2 ≤ v1 then F_X0_isBefore_39 k else F_X0_isBefore_35 k
def F_X0_isBefore_15 (k : kS) (v1 : Int32) (v2 : Int32) : Option (Int32) :=
  if (v1 < 0 ∨ 40 ≤ v1.toNatClampNeg) then none else if (v2 < 0 ∨ 40 ≤ v2.toNatClampNeg) then none else if (k 3 v1.toNatClampNeg) = (k 3 v2.toNatClampNeg) then F_X0_isBefore_30 k v1 v2 else F_X0_isBefore_39 k
def F_X0_isBefore_0 (k : kS) (v1 : Int32) (v2 : Int32) : Option (Int32) :=
  if (v1 < 0 ∨ 40 ≤ v1.toNatClampNeg) then none else if (v2 < 0 ∨ 40 ≤ v2.toNatClampNeg) then none else if (k 3 v1.toNatClampNeg) < (k 3 v2.toNatClampNeg) then F_X0_isBefore_35 k else F_X0_isBefore_15 k v1 v2
def F_X0_isBefore (k : kS) (v1 : Int32) (v2 : Int32) : Option (Int32) :=
  F_X0_isBefore_0 k v1 v2
-- X0_isAhead
def F_X0_isAhead_19 (k : kS) (v1 : Int32) : Option (Int32) :=
  if (v1 < 0 ∨ 40 ≤ v1.toNatClampNeg) then none else if ¬ ((k 2 v1.toNatClampNeg) = 0 ∨ (k 2 v1.toNatClampNeg) = 1) then none else some (k 2 v1.toNatClampNeg)
def F_X0_isAhead_35 (k : kS) (v1 : Int32) (v2 : Int32) : Option (Int32) :=
  (F_X0_isBefore k v1 v2).bind fun x35_1 => if ¬ (x35_1 = 0 ∨ x35_1 = 1) then none else some x35_1
def F_X0_isAhead_42 (k : kS) (v1 : Int32) (v2 : Int32) : Option (Int32) :=
  (F_X0_isBefore k v2 v1).bind fun x42_1 => if ¬ (x42_1 = 0 ∨ x42_1 = 1) then none else some x42_1
def F_X0_isAhead_30 (k : kS) (v1 : Int32) (v2 : Int32) (v3 : Int32) : Option (Int32) :=
  if v3 = 1 then F_X0_isAhead_35 k v1 v2 else F_X0_isAhead_42 k v1 v2
def F_X0_isAhead_26 (k : kS) (v1 : Int32) (v2 : Int32) (v3 : Int32) : Option (Int32) :=
  if v3 = 0 then F_X0_isAhead_35 k v1 v2 else F_X0_isAhead_30 k v1 v2 v3
def F_X0_isAhead_4 (k : kS) (v1 : Int32) (v2 : Int32) (v3 : Int32) : Option (Int32) :=
  if (v1 < 0 ∨ 40 ≤ v1.toNatClampNeg) then none else if (v2 < 0 ∨ 40 ≤ v2.toNatClampNeg) then none else if (k 2 v1.toNatClampNeg) = (k 2 v2.toNatClampNeg) then F_X0_isAhead_26 k v1 v2 v3 else F_X0_isAhead_19 k v1
def F_X0_isAhead_0 (k : kS) (v1 : Int32) (v2 : Int32) (v3 : Int32) : Option (Int32) :=
  if v3 = 0 then F_X0_isAhead_4 k v1 v2 v3 else F_X0_isAhead_26 k v1 v2 v3
def F_X0_isAhead (k : kS) (v1 : Int32) (v2 : Int32) (v3 : Int32) : Option (Int32) :=
  F_X0_isAhead_0 k v1 v2 v3
-- X0_childrenOf
def F_X0_childrenOf_35 (k : kS) (c4 : Int32 → Int32 → Int32 → Option (Int32)) (v1 : Int32) (v2 : Int32) (v3 : Int32) : Option (Int32) :=
  c4 v1 v2 (v3 + 1)
def F_X0_childrenOf_32 (k : kS) (c4 : Int32 → Int32 → Int32 → Option (Int32)) (v1 : Int32) (v2 : Int32) (v3 : Int32) : Option (Int32) :=
  F_X0_childrenOf_35 k c4 v1 (v2 + 1) v3
def F_X0_childrenOf_22 (k : kS) (c4 : Int32 → Int32 → Int32 → Option (Int32)) (v1 : Int32) (v2 : Int32) (v3 : Int32) : Option (Int32) :=
  if (v3 < 0 ∨ 40 ≤ v3.toNatClampNeg) then none else if (k 5 v3.toNatClampNeg) = v1 then F_X0_childrenOf_32 k c4 v1 v2 v3 else F_X0_childrenOf_35 k c4 v1 v2 v3
def F_X0_childrenOf_12 (k : kS) (c4 : Int32 → Int32 → Int32 → Option (Int32)) (v1 : Int32) (v2 : Int32) (v3 : Int32) : Option (Int32) :=
  if (v3 < 0 ∨ 40 ≤ v3.toNatClampNeg) then none else if (k 4 v3.toNatClampNeg) = v1 then F_X0_childrenOf_32 k c4 v1 v2 v3 else F_X0_childrenOf_22 k c4 v1 v2 v3
def F_X0_childrenOf_41 (k : kS) (v2 : Int32) : Option (Int32) :=
  some v2
def F_X0_childrenOf_4 (k : kS) : Nat → Int32 → Int32 → Int32 → Option (Int32)
  | 0, _, _, _ => none
  | n + 1, v1, v2, v3 => if (k 1 0) ≤ v3 then F_X0_childrenOf_41 k v2 else F_X0_childrenOf_12 k (F_X0_childrenOf_4 k n) v1 v2 v3
def F_X0_childrenOf_0 (k : kS) (v1 : Int32) : Option (Int32) :=
  F_X0_childrenOf_4 k kN v1 0 0
def F_X0_childrenOf (k : kS) (v1 : Int32) : Option (Int32) :=
  F_X0_childrenOf_0 k v1
-- X1_knows
def F_X1_knows_17 (B : Nat) (k : kS) (s0 : Int32) : Option (Int32) :=
  if ¬ (s0 = 0 ∨ s0 = 1) then none else some s0
def F_X1_knows_12 (B : Nat) (k : kS) : Option (Int32) :=
  F_X1_knows_17 B k 1
def F_X1_knows_16 (B : Nat) (k : kS) : Option (Int32) :=
  F_X1_knows_17 B k 0
def F_X1_knows_4 (B : Nat) (k : kS) (v1 : Int32) : Option (Int32) :=
  if (k (B + 1) 0) ≤ v1 then F_X1_knows_16 B k else F_X1_knows_12 B k
def F_X1_knows_0 (B : Nat) (k : kS) (v1 : Int32) : Option (Int32) :=
  if v1 < 0 then F_X1_knows_16 B k else F_X1_knows_4 B k v1
def F_X1_knows (B : Nat) (k : kS) (v1 : Int32) : Option (Int32) :=
  F_X1_knows_0 B k v1
-- X1_isFull
def F_X1_isFull_14 (B : Nat) (k : kS) (s0 : Int32) : Option (Int32) :=
  if ¬ (s0 = 0 ∨ s0 = 1) then none else some s0
def F_X1_isFull_9 (B : Nat) (k : kS) : Option (Int32) :=
  F_X1_isFull_14 B k 1
def F_X1_isFull_13 (B : Nat) (k : kS) : Option (Int32) :=
  F_X1_isFull_14 B k 0
def F_X1_isFull_0 (B : Nat) (k : kS) : Option (Int32) :=
  if (k (B + 1) 0) < 12 then F_X1_isFull_13 B k else F_X1_isFull_9 B k
def F_X1_isFull (B : Nat) (k : kS) : Option (Int32) :=
  F_X1_isFull_0 B k
-- X1_handTo
def F_X1_handTo_12 (B : Nat) (k : kS) : Option (kS) :=
  some k
def F_X1_handTo_13 (B : Nat) (v1 : Int32) (v2 : Int32) (k : kS) : Option (kS) :=
  if (v1 < 0 ∨ 12 ≤ v1.toNatClampNeg) then none else if (v1 < 0 ∨ 12 ≤ v1.toNatClampNeg) then none else if (v1 < 0 ∨ 12 ≤ v1.toNatClampNeg) then none else if (v1 < 0 ∨ 12 ≤ v1.toNatClampNeg) then none else if ((0 : Int32) < 0 ∨ (1 : Int32) < 0 ∨ (14 : Int32) < 0 ∨ 15 < (0 : Int32).toNatClampNeg + (14 : Int32).toNatClampNeg ∨ 15 < (1 : Int32).toNatClampNeg + (14 : Int32).toNatClampNeg) then none else if (v1 < 0 ∨ 12 ≤ v1.toNatClampNeg) then none else if ((0 : Int32) < 0 ∨ 15 ≤ (0 : Int32).toNatClampNeg) then none else if (v1 < 0 ∨ 12 ≤ v1.toNatClampNeg) then none else if (v1 < 0 ∨ 12 ≤ v1.toNatClampNeg) then none else some (kst (kst (kst (kst k (B + 5) (upd (k (B + 5)) v1.toNatClampNeg ((k (B + 5) v1.toNatClampNeg) + 1))) (kpb B + v1.toNatClampNeg) (va_cpy ((kst k (B + 5) (upd (k (B + 5)) v1.toNatClampNeg ((k (B + 5) v1.toNatClampNeg) + 1))) (kpb B + v1.toNatClampNeg)) ((kst k (B + 5) (upd (k (B + 5)) v1.toNatClampNeg ((k (B + 5) v1.toNatClampNeg) + 1))) (kpb B + v1.toNatClampNeg)) (0 : Int32).toNatClampNeg (1 : Int32).toNatClampNeg (14 : Int32).toNatClampNeg)) (kpb B + v1.toNatClampNeg) (upd ((kst (kst k (B + 5) (upd (k (B + 5)) v1.toNatClampNeg ((k (B + 5) v1.toNatClampNeg) + 1))) (kpb B + v1.toNatClampNeg) (va_cpy ((kst k (B + 5) (upd (k (B + 5)) v1.toNatClampNeg ((k (B + 5) v1.toNatClampNeg) + 1))) (kpb B + v1.toNatClampNeg)) ((kst k (B + 5) (upd (k (B + 5)) v1.toNatClampNeg ((k (B + 5) v1.toNatClampNeg) + 1))) (kpb B + v1.toNatClampNeg)) (0 : Int32).toNatClampNeg (1 : Int32).toNatClampNeg (14 : Int32).toNatClampNeg)) (kpb B + v1.toNatClampNeg)) (0 : Int32).toNatClampNeg v2)) (B + 6) (upd ((kst (kst (kst k (B + 5) (upd (k (B + 5)) v1.toNatClampNeg ((k (B + 5) v1.toNatClampNeg) + 1))) (kpb B + v1.toNatClampNeg) (va_cpy ((kst k (B + 5) (upd (k (B + 5)) v1.toNatClampNeg ((k (B + 5) v1.toNatClampNeg) + 1))) (kpb B + v1.toNatClampNeg)) ((kst k (B + 5) (upd (k (B + 5)) v1.toNatClampNeg ((k (B + 5) v1.toNatClampNeg) + 1))) (kpb B + v1.toNatClampNeg)) (0 : Int32).toNatClampNeg (1 : Int32).toNatClampNeg (14 : Int32).toNatClampNeg)) (kpb B + v1.toNatClampNeg) (upd ((kst (kst k (B + 5) (upd (k (B + 5)) v1.toNatClampNeg ((k (B + 5) v1.toNatClampNeg) + 1))) (kpb B + v1.toNatClampNeg) (va_cpy ((kst k (B + 5) (upd (k (B + 5)) v1.toNatClampNeg ((k (B + 5) v1.toNatClampNeg) + 1))) (kpb B + v1.toNatClampNeg)) ((kst k (B + 5) (upd (k (B + 5)) v1.toNatClampNeg ((k (B + 5) v1.toNatClampNeg) + 1))) (kpb B + v1.toNatClampNeg)) (0 : Int32).toNatClampNeg (1 : Int32).toNatClampNeg (14 : Int32).toNatClampNeg)) (kpb B + v1.toNatClampNeg)) (0 : Int32).toNatClampNeg v2)) (B + 6)) v1.toNatClampNeg (if 15 < (((kst (kst (kst k (B + 5) (upd (k (B + 5)) v1.toNatClampNeg ((k (B + 5) v1.toNatClampNeg) + 1))) (kpb B + v1.toNatClampNeg) (va_cpy ((kst k (B + 5) (upd (k (B + 5)) v1.toNatClampNeg ((k (B + 5) v1.toNatClampNeg) + 1))) (kpb B + v1.toNatClampNeg)) ((kst k (B + 5) (upd (k (B + 5)) v1.toNatClampNeg ((k (B + 5) v1.toNatClampNeg) + 1))) (kpb B + v1.toNatClampNeg)) (0 : Int32).toNatClampNeg (1 : Int32).toNatClampNeg (14 : Int32).toNatClampNeg)) (kpb B + v1.toNatClampNeg) (upd ((kst (kst k (B + 5) (upd (k (B + 5)) v1.toNatClampNeg ((k (B + 5) v1.toNatClampNeg) + 1))) (kpb B + v1.toNatClampNeg) (va_cpy ((kst k (B + 5) (upd (k (B + 5)) v1.toNatClampNeg ((k (B + 5) v1.toNatClampNeg) + 1))) (kpb B + v1.toNatClampNeg)) ((kst k (B + 5) (upd (k (B + 5)) v1.toNatClampNeg ((k (B + 5) v1.toNatClampNeg) + 1))) (kpb B + v1.toNatClampNeg)) (0 : Int32).toNatClampNeg (1 : Int32).toNatClampNeg (14 : Int32).toNatClampNeg)) (kpb B + v1.toNatClampNeg)) (0 : Int32).toNatClampNeg v2)) (B + 6) v1.toNatClampNeg) + 1) then 15 else (((kst (kst (kst k (B + 5) (upd (k (B + 5)) v1.toNatClampNeg ((k (B + 5) v1.toNatClampNeg) + 1))) (kpb B + v1.toNatClampNeg) (va_cpy ((kst k (B + 5) (upd (k (B + 5)) v1.toNatClampNeg ((k (B + 5) v1.toNatClampNeg) + 1))) (kpb B + v1.toNatClampNeg)) ((kst k (B + 5) (upd (k (B + 5)) v1.toNatClampNeg ((k (B + 5) v1.toNatClampNeg) + 1))) (kpb B + v1.toNatClampNeg)) (0 : Int32).toNatClampNeg (1 : Int32).toNatClampNeg (14 : Int32).toNatClampNeg)) (kpb B + v1.toNatClampNeg) (upd ((kst (kst k (B + 5) (upd (k (B + 5)) v1.toNatClampNeg ((k (B + 5) v1.toNatClampNeg) + 1))) (kpb B + v1.toNatClampNeg) (va_cpy ((kst k (B + 5) (upd (k (B + 5)) v1.toNatClampNeg ((k (B + 5) v1.toNatClampNeg) + 1))) (kpb B + v1.toNatClampNeg)) ((kst k (B + 5) (upd (k (B + 5)) v1.toNatClampNeg ((k (B + 5) v1.toNatClampNeg) + 1))) (kpb B + v1.toNatClampNeg)) (0 : Int32).toNatClampNeg (1 : Int32).toNatClampNeg (14 : Int32).toNatClampNeg)) (kpb B + v1.toNatClampNeg)) (0 : Int32).toNatClampNeg v2)) (B + 6) v1.toNatClampNeg) + 1))))
def F_X1_handTo_0 (B : Nat) (v1 : Int32) (v2 : Int32) (k : kS) : Option (kS) :=
  if (v1 < 0 ∨ 12 ≤ v1.toNatClampNeg) then none else if v2 = (-1) then F_X1_handTo_12 B (kst k (B + 4) (upd (k (B + 4)) v1.toNatClampNeg v2)) else F_X1_handTo_13 B v1 v2 (kst k (B + 4) (upd (k (B + 4)) v1.toNatClampNeg v2))
def F_X1_handTo (B : Nat) (v1 : Int32) (v2 : Int32) (k : kS) : Option (kS) :=
  F_X1_handTo_0 B v1 v2 k
-- X1_add
def F_X1_add_7 (B : Nat) (k : kS) : Option ((Int32 × kS)) :=
  some ((-1), k)
def F_X1_add_9 (B : Nat) (v1 : Int32) (v2 : Int32) (v3 : Int32) (k : kS) : Option ((Int32 × kS)) :=
  if ((k (B + 1) 0) < 0 ∨ 12 ≤ (k (B + 1) 0).toNatClampNeg) then none else if ((k (B + 1) 0) < 0 ∨ 12 ≤ (k (B + 1) 0).toNatClampNeg) then none else (F_X1_handTo B (k (B + 1) 0) v3 (kst (kst k (B + 2) (upd (k (B + 2)) (k (B + 1) 0).toNatClampNeg v1)) (B + 3) (upd ((kst k (B + 2) (upd (k (B + 2)) (k (B + 1) 0).toNatClampNeg v1)) (B + 3)) (k (B + 1) 0).toNatClampNeg v2))).bind fun x9_3 => some ((k (B + 1) 0), (kst x9_3 (B + 1) (upd (x9_3 (B + 1)) 0 ((k (B + 1) 0) + 1))))
def F_X1_add_0 (B : Nat) (v1 : Int32) (v2 : Int32) (v3 : Int32) (k : kS) : Option ((Int32 × kS)) :=
  (F_X1_isFull B k).bind fun x0_1 => if x0_1 = 0 then F_X1_add_9 B v1 v2 v3 k else F_X1_add_7 B k
def F_X1_add (B : Nat) (v1 : Int32) (v2 : Int32) (v3 : Int32) (k : kS) : Option ((Int32 × kS)) :=
  F_X1_add_0 B v1 v2 v3 k
-- X1_rulerOf
def F_X1_rulerOf_18 (B : Nat) (k : kS) (s0 : Int32) : Option (Int32) :=
  some s0
def F_X1_rulerOf_8 (B : Nat) (k : kS) (v1 : Int32) : Option (Int32) :=
  if (v1 < 0 ∨ 12 ≤ v1.toNatClampNeg) then none else F_X1_rulerOf_18 B k (k (B + 4) v1.toNatClampNeg)
def F_X1_rulerOf_17 (B : Nat) (k : kS) : Option (Int32) :=
  F_X1_rulerOf_18 B k (-1)
def F_X1_rulerOf_0 (B : Nat) (k : kS) (v1 : Int32) : Option (Int32) :=
  (F_X1_knows B k v1).bind fun x0_1 => if x0_1 = 0 then F_X1_rulerOf_17 B k else F_X1_rulerOf_8 B k v1
def F_X1_rulerOf (B : Nat) (k : kS) (v1 : Int32) : Option (Int32) :=
  F_X1_rulerOf_0 B k v1
-- X1_numberUnder
def F_X1_numberUnder_25 (B : Nat) (k : kS) (c4 : Int32 → Int32 → Int32 → Option (Int32)) (v1 : Int32) (v2 : Int32) (v3 : Int32) : Option (Int32) :=
  c4 v1 v2 (v3 + 1)
def F_X1_numberUnder_22 (B : Nat) (k : kS) (c4 : Int32 → Int32 → Int32 → Option (Int32)) (v1 : Int32) (v2 : Int32) (v3 : Int32) : Option (Int32) :=
  F_X1_numberUnder_25 B k c4 v1 (v2 + 1) v3
def F_X1_numberUnder_12 (B : Nat) (k : kS) (c4 : Int32 → Int32 → Int32 → Option (Int32)) (v1 : Int32) (v2 : Int32) (v3 : Int32) : Option (Int32) :=
  if (v3 < 0 ∨ 12 ≤ v3.toNatClampNeg) then none else if (k (B + 4) v3.toNatClampNeg) = v1 then F_X1_numberUnder_22 B k c4 v1 v2 v3 else F_X1_numberUnder_25 B k c4 v1 v2 v3
def F_X1_numberUnder_31 (B : Nat) (k : kS) (v2 : Int32) : Option (Int32) :=
  some v2
def F_X1_numberUnder_4 (B : Nat) (k : kS) : Nat → Int32 → Int32 → Int32 → Option (Int32)
  | 0, _, _, _ => none
  | n + 1, v1, v2, v3 => if (k (B + 1) 0) ≤ v3 then F_X1_numberUnder_31 B k v2 else F_X1_numberUnder_12 B k (F_X1_numberUnder_4 B k n) v1 v2 v3
def F_X1_numberUnder_0 (B : Nat) (k : kS) (v1 : Int32) : Option (Int32) :=
  F_X1_numberUnder_4 B k kN v1 0 0
def F_X1_numberUnder (B : Nat) (k : kS) (v1 : Int32) : Option (Int32) :=
  F_X1_numberUnder_0 B k v1
-- X1_worthUnder
def F_X1_worthUnder_31 (B : Nat) (k : kS) (c4 : Int32 → Int32 → Int32 → Option (Int32)) (v1 : Int32) (v2 : Int32) (v3 : Int32) : Option (Int32) :=
  c4 v1 v2 (v3 + 1)
def F_X1_worthUnder_22 (B : Nat) (k : kS) (c4 : Int32 → Int32 → Int32 → Option (Int32)) (v1 : Int32) (v2 : Int32) (v3 : Int32) : Option (Int32) :=
  if (v3 < 0 ∨ 12 ≤ v3.toNatClampNeg) then none else F_X1_worthUnder_31 B k c4 v1 (v2 + (k (B + 2) v3.toNatClampNeg)) v3
def F_X1_worthUnder_12 (B : Nat) (k : kS) (c4 : Int32 → Int32 → Int32 → Option (Int32)) (v1 : Int32) (v2 : Int32) (v3 : Int32) : Option (Int32) :=
  if (v3 < 0 ∨ 12 ≤ v3.toNatClampNeg) then none else if (k (B + 4) v3.toNatClampNeg) = v1 then F_X1_worthUnder_22 B k c4 v1 v2 v3 else F_X1_worthUnder_31 B k c4 v1 v2 v3
def F_X1_worthUnder_37 (B : Nat) (k : kS) (v2 : Int32) : Option (Int32) :=
  some v2
def F_X1_worthUnder_4 (B : Nat) (k : kS) : Nat → Int32 → Int32 → Int32 → Option (Int32)
  | 0, _, _, _ => none
  | n + 1, v1, v2, v3 => if (k (B + 1) 0) ≤ v3 then F_X1_worthUnder_37 B k v2 else F_X1_worthUnder_12 B k (F_X1_worthUnder_4 B k n) v1 v2 v3
def F_X1_worthUnder_0 (B : Nat) (k : kS) (v1 : Int32) : Option (Int32) :=
  F_X1_worthUnder_4 B k kN v1 0 0
def F_X1_worthUnder (B : Nat) (k : kS) (v1 : Int32) : Option (Int32) :=
  F_X1_worthUnder_0 B k v1
-- X1_takeRulers
def F_X1_takeRulers_0 (k : kS) : Option (kS) :=
  if ((0 : Int32) < 0 ∨ (0 : Int32) < 0 ∨ (12 : Int32) < 0 ∨ 12 < (0 : Int32).toNatClampNeg + (12 : Int32).toNatClampNeg ∨ 12 < (0 : Int32).toNatClampNeg + (12 : Int32).toNatClampNeg) then none else if ((0 : Int32) < 0 ∨ (0 : Int32) < 0 ∨ (12 : Int32) < 0 ∨ 12 < (0 : Int32).toNatClampNeg + (12 : Int32).toNatClampNeg ∨ 12 < (0 : Int32).toNatClampNeg + (12 : Int32).toNatClampNeg) then none else some (kst (kst (kst k (30 + 1) (upd (k (30 + 1)) 0 (k (15 + 1) 0))) (30 + 3) (va_cpy ((kst k (30 + 1) (upd (k (30 + 1)) 0 (k (15 + 1) 0))) (15 + 3)) ((kst k (30 + 1) (upd (k (30 + 1)) 0 (k (15 + 1) 0))) (30 + 3)) (0 : Int32).toNatClampNeg (0 : Int32).toNatClampNeg (12 : Int32).toNatClampNeg)) (30 + 4) (va_cpy ((kst (kst k (30 + 1) (upd (k (30 + 1)) 0 (k (15 + 1) 0))) (30 + 3) (va_cpy ((kst k (30 + 1) (upd (k (30 + 1)) 0 (k (15 + 1) 0))) (15 + 3)) ((kst k (30 + 1) (upd (k (30 + 1)) 0 (k (15 + 1) 0))) (30 + 3)) (0 : Int32).toNatClampNeg (0 : Int32).toNatClampNeg (12 : Int32).toNatClampNeg)) (15 + 4)) ((kst (kst k (30 + 1) (upd (k (30 + 1)) 0 (k (15 + 1) 0))) (30 + 3) (va_cpy ((kst k (30 + 1) (upd (k (30 + 1)) 0 (k (15 + 1) 0))) (15 + 3)) ((kst k (30 + 1) (upd (k (30 + 1)) 0 (k (15 + 1) 0))) (30 + 3)) (0 : Int32).toNatClampNeg (0 : Int32).toNatClampNeg (12 : Int32).toNatClampNeg)) (30 + 4)) (0 : Int32).toNatClampNeg (0 : Int32).toNatClampNeg (12 : Int32).toNatClampNeg))
def F_X1_takeRulers (k : kS) : Option (kS) :=
  F_X1_takeRulers_0 k
-- X2_clear
def F_X2_clear_0 (B : Nat) (k : kS) : Option (kS) :=
  some (kst (kst k (B + 12) (kfill 40 (-1) (k (B + 12)))) (B + 13) (kfill 40 (-1) ((kst k (B + 12) (kfill 40 (-1) (k (B + 12)))) (B + 13))))
def F_X2_clear (B : Nat) (k : kS) : Option (kS) :=
  F_X2_clear_0 B k
-- X2_firstOf
def F_X2_firstOf_20 (B : Nat) (k : kS) (s0 : Int32) : Option (Int32) :=
  some s0
def F_X2_firstOf_10 (B : Nat) (k : kS) (v1 : Int32) : Option (Int32) :=
  if (v1 < 0 ∨ 40 ≤ v1.toNatClampNeg) then none else F_X2_firstOf_20 B k (k (B + 12) v1.toNatClampNeg)
def F_X2_firstOf_19 (B : Nat) (k : kS) : Option (Int32) :=
  F_X2_firstOf_20 B k (-1)
def F_X2_firstOf_4 (B : Nat) (k : kS) (v1 : Int32) : Option (Int32) :=
  if 40 ≤ v1 then F_X2_firstOf_19 B k else F_X2_firstOf_10 B k v1
def F_X2_firstOf_0 (B : Nat) (k : kS) (v1 : Int32) : Option (Int32) :=
  if v1 < 0 then F_X2_firstOf_19 B k else F_X2_firstOf_4 B k v1
def F_X2_firstOf (B : Nat) (k : kS) (v1 : Int32) : Option (Int32) :=
  F_X2_firstOf_0 B k v1
-- X2_tell
def F_X2_tell_8 (B : Nat) (k : kS) : Option (kS) :=
  some k
def F_X2_tell_54 (B : Nat) (k : kS) : Option (kS) :=
  some k
def F_X2_tell_38 (B : Nat) (v3 : Int32) (v4 : Int32) (v5 : Int32) (k : kS) : Option (kS) :=
  if (v3 < 0 ∨ 40 ≤ v3.toNatClampNeg) then none else if (v3 < 0 ∨ 40 ≤ v3.toNatClampNeg) then none else F_X2_tell_54 B (kst (kst k (B + 13) (upd (k (B + 13)) v3.toNatClampNeg v4)) (B + 12) (upd ((kst k (B + 13) (upd (k (B + 13)) v3.toNatClampNeg v4)) (B + 12)) v3.toNatClampNeg v5))
def F_X2_tell_26 (B : Nat) (v2 : Int32) (v3 : Int32) (v4 : Int32) (v5 : Int32) (v6 : Int32) (k : kS) : Option (kS) :=
  (F_X0_isAhead k v4 v6 v2).bind fun x26_1 => if x26_1 = 0 then F_X2_tell_54 B k else F_X2_tell_38 B v3 v4 v5 k
def F_X2_tell_9 (B : Nat) (v2 : Int32) (v3 : Int32) (v4 : Int32) (v5 : Int32) (k : kS) : Option (kS) :=
  if (v3 < 0 ∨ 40 ≤ v3.toNatClampNeg) then none else (F_X0_knows k (k (B + 13) v3.toNatClampNeg)).bind fun x9_2 => if x9_2 = 0 then F_X2_tell_38 B v3 v4 v5 k else F_X2_tell_26 B v2 v3 v4 v5 (k (B + 13) v3.toNatClampNeg) k
def F_X2_tell_0 (B : Nat) (v2 : Int32) (v3 : Int32) (v4 : Int32) (v5 : Int32) (k : kS) : Option (kS) :=
  (F_X0_knows k v3).bind fun x0_1 => if x0_1 = 0 then F_X2_tell_8 B k else F_X2_tell_9 B v2 v3 v4 v5 k
def F_X2_tell (B : Nat) (v2 : Int32) (v3 : Int32) (v4 : Int32) (v5 : Int32) (k : kS) : Option (kS) :=
  F_X2_tell_0 B v2 v3 v4 v5 k
-- X3_fits
def F_X3_fits_15 (k : kS) (s0 : Int32) : Option (Int32) :=
  if ¬ (s0 = 0 ∨ s0 = 1) then none else some s0
def F_X3_fits_10 (k : kS) : Option (Int32) :=
  F_X3_fits_15 k 1
def F_X3_fits_14 (k : kS) : Option (Int32) :=
  F_X3_fits_15 k 0
def F_X3_fits_4 (k : kS) (v0 : Int32) : Option (Int32) :=
  if 40 ≤ v0 then F_X3_fits_14 k else F_X3_fits_10 k
def F_X3_fits_0 (k : kS) (v0 : Int32) : Option (Int32) :=
  if v0 < 0 then F_X3_fits_14 k else F_X3_fits_4 k v0
def F_X3_fits (k : kS) (v0 : Int32) : Option (Int32) :=
  F_X3_fits_0 k v0
-- X3_spouseOf
def F_X3_spouseOf_17 (B : Nat) (k : kS) (s0 : Int32) : Option (Int32) :=
  some s0
def F_X3_spouseOf_7 (B : Nat) (k : kS) (v1 : Int32) : Option (Int32) :=
  if (v1 < 0 ∨ 40 ≤ v1.toNatClampNeg) then none else F_X3_spouseOf_17 B k (k (B + 9) v1.toNatClampNeg)
def F_X3_spouseOf_16 (B : Nat) (k : kS) : Option (Int32) :=
  F_X3_spouseOf_17 B k (-1)
def F_X3_spouseOf_0 (B : Nat) (k : kS) (v1 : Int32) : Option (Int32) :=
  (F_X3_fits k v1).bind fun x0_1 => if x0_1 = 0 then F_X3_spouseOf_16 B k else F_X3_spouseOf_7 B k v1
def F_X3_spouseOf (B : Nat) (k : kS) (v1 : Int32) : Option (Int32) :=
  F_X3_spouseOf_0 B k v1
-- X3_givenBy
def F_X3_givenBy_17 (B : Nat) (k : kS) (s0 : Int32) : Option (Int32) :=
  some s0
def F_X3_givenBy_7 (B : Nat) (k : kS) (v1 : Int32) : Option (Int32) :=
  if (v1 < 0 ∨ 40 ≤ v1.toNatClampNeg) then none else F_X3_givenBy_17 B k (k (B + 10) v1.toNatClampNeg)
def F_X3_givenBy_16 (B : Nat) (k : kS) : Option (Int32) :=
  F_X3_givenBy_17 B k (-1)
def F_X3_givenBy_0 (B : Nat) (k : kS) (v1 : Int32) : Option (Int32) :=
  (F_X3_fits k v1).bind fun x0_1 => if x0_1 = 0 then F_X3_givenBy_16 B k else F_X3_givenBy_7 B k v1
def F_X3_givenBy (B : Nat) (k : kS) (v1 : Int32) : Option (Int32) :=
  F_X3_givenBy_0 B k v1
-- X3_bind
def F_X3_bind_0 (B : Nat) (v1 : Int32) (v2 : Int32) (k : kS) : Option (kS) :=
  if (v1 < 0 ∨ 40 ≤ v1.toNatClampNeg) then none else if (v2 < 0 ∨ 40 ≤ v2.toNatClampNeg) then none else some (kst (kst k (B + 9) (upd (k (B + 9)) v1.toNatClampNeg v2)) (B + 9) (upd ((kst k (B + 9) (upd (k (B + 9)) v1.toNatClampNeg v2)) (B + 9)) v2.toNatClampNeg v1))
def F_X3_bind (B : Nat) (v1 : Int32) (v2 : Int32) (k : kS) : Option (kS) :=
  F_X3_bind_0 B v1 v2 k
-- X3_part
def F_X3_part_20 (B : Nat) (k : kS) : Option (kS) :=
  some k
def F_X3_part_21 (B : Nat) (v1 : Int32) (v2 : Int32) (k : kS) : Option (kS) :=
  if (v1 < 0 ∨ 40 ≤ v1.toNatClampNeg) then none else if (v2 < 0 ∨ 40 ≤ v2.toNatClampNeg) then none else if (v1 < 0 ∨ 40 ≤ v1.toNatClampNeg) then none else if (v2 < 0 ∨ 40 ≤ v2.toNatClampNeg) then none else some (kst (kst (kst (kst k (B + 9) (upd (k (B + 9)) v1.toNatClampNeg (-1))) (B + 9) (upd ((kst k (B + 9) (upd (k (B + 9)) v1.toNatClampNeg (-1))) (B + 9)) v2.toNatClampNeg (-1))) (B + 10) (upd ((kst (kst k (B + 9) (upd (k (B + 9)) v1.toNatClampNeg (-1))) (B + 9) (upd ((kst k (B + 9) (upd (k (B + 9)) v1.toNatClampNeg (-1))) (B + 9)) v2.toNatClampNeg (-1))) (B + 10)) v1.toNatClampNeg (-1))) (B + 10) (upd ((kst (kst (kst k (B + 9) (upd (k (B + 9)) v1.toNatClampNeg (-1))) (B + 9) (upd ((kst k (B + 9) (upd (k (B + 9)) v1.toNatClampNeg (-1))) (B + 9)) v2.toNatClampNeg (-1))) (B + 10) (upd ((kst (kst k (B + 9) (upd (k (B + 9)) v1.toNatClampNeg (-1))) (B + 9) (upd ((kst k (B + 9) (upd (k (B + 9)) v1.toNatClampNeg (-1))) (B + 9)) v2.toNatClampNeg (-1))) (B + 10)) v1.toNatClampNeg (-1))) (B + 10)) v2.toNatClampNeg (-1)))
def F_X3_part_13 (B : Nat) (v1 : Int32) (v2 : Int32) (k : kS) : Option (kS) :=
  (F_X3_fits k v2).bind fun x13_1 => if x13_1 = 0 then F_X3_part_20 B k else F_X3_part_21 B v1 v2 k
def F_X3_part_0 (B : Nat) (v1 : Int32) (k : kS) : Option (kS) :=
  (F_X3_spouseOf B k v1).bind fun x0_1 => (F_X3_fits k v1).bind fun x0_2 => if x0_2 = 0 then F_X3_part_20 B k else F_X3_part_13 B v1 x0_1 k
def F_X3_part (B : Nat) (v1 : Int32) (k : kS) : Option (kS) :=
  F_X3_part_0 B v1 k
-- X3_couples
def F_X3_couples_23 (B : Nat) (k : kS) (c4 : Int32 → Int32 → Option (Int32)) (v1 : Int32) (v2 : Int32) : Option (Int32) :=
  c4 v1 (v2 + 1)
def F_X3_couples_20 (B : Nat) (k : kS) (c4 : Int32 → Int32 → Option (Int32)) (v1 : Int32) (v2 : Int32) : Option (Int32) :=
  F_X3_couples_23 B k c4 (v1 + 1) v2
def F_X3_couples_10 (B : Nat) (k : kS) (c4 : Int32 → Int32 → Option (Int32)) (v1 : Int32) (v2 : Int32) : Option (Int32) :=
  if (v2 < 0 ∨ 40 ≤ v2.toNatClampNeg) then none else if (k (B + 9) v2.toNatClampNeg) ≤ v2 then F_X3_couples_23 B k c4 v1 v2 else F_X3_couples_20 B k c4 v1 v2
def F_X3_couples_29 (B : Nat) (k : kS) (v1 : Int32) : Option (Int32) :=
  some v1
def F_X3_couples_4 (B : Nat) (k : kS) : Nat → Int32 → Int32 → Option (Int32)
  | 0, _, _ => none
  | n + 1, v1, v2 => if 40 ≤ v2 then F_X3_couples_29 B k v1 else F_X3_couples_10 B k (F_X3_couples_4 B k n) v1 v2
def F_X3_couples_0 (B : Nat) (k : kS) : Option (Int32) :=
  F_X3_couples_4 B k kN 0 0
def F_X3_couples (B : Nat) (k : kS) : Option (Int32) :=
  F_X3_couples_0 B k
-- X4_startFrom
def F_X4_startFrom_0 (k : kS) : Option (kS) :=
  if ((0 : Int32) < 0 ∨ (0 : Int32) < 0 ∨ (40 : Int32) < 0 ∨ 40 < (0 : Int32).toNatClampNeg + (40 : Int32).toNatClampNeg ∨ 40 < (0 : Int32).toNatClampNeg + (40 : Int32).toNatClampNeg) then none else (F_X1_takeRulers (kst (kst k 30 (upd (k 30) 0 (k 15 0))) (30 + 14) (va_cpy ((kst k 30 (upd (k 30) 0 (k 15 0))) (15 + 14)) ((kst k 30 (upd (k 30) 0 (k 15 0))) (30 + 14)) (0 : Int32).toNatClampNeg (0 : Int32).toNatClampNeg (40 : Int32).toNatClampNeg))).bind fun x0_2 => some x0_2
def F_X4_startFrom (k : kS) : Option (kS) :=
  F_X4_startFrom_0 k
-- X4_lives
def F_X4_lives_26 (B : Nat) (k : kS) (s0 : Int32) : Option (Int32) :=
  if ¬ (s0 = 0 ∨ s0 = 1) then none else some s0
def F_X4_lives_21 (B : Nat) (k : kS) : Option (Int32) :=
  F_X4_lives_26 B k 1
def F_X4_lives_25 (B : Nat) (k : kS) : Option (Int32) :=
  F_X4_lives_26 B k 0
def F_X4_lives_11 (B : Nat) (k : kS) (v1 : Int32) : Option (Int32) :=
  if (v1 < 0 ∨ 40 ≤ v1.toNatClampNeg) then none else if (k (B + 14) v1.toNatClampNeg) = (-1) then F_X4_lives_21 B k else F_X4_lives_25 B k
def F_X4_lives_0 (B : Nat) (k : kS) (v1 : Int32) : Option (Int32) :=
  (F_X0_knows k v1).bind fun x0_1 => if x0_1 = 0 then F_X4_lives_25 B k else F_X4_lives_11 B k v1
def F_X4_lives (B : Nat) (k : kS) (v1 : Int32) : Option (Int32) :=
  F_X4_lives_0 B k v1
-- X4_age
def F_X4_age_29 (B : Nat) (k : kS) (s0 : Int32) : Option (Int32) :=
  some s0
def F_X4_age_11 (B : Nat) (k : kS) (v1 : Int32) : Option (Int32) :=
  if (v1 < 0 ∨ 40 ≤ v1.toNatClampNeg) then none else F_X4_age_29 B k ((k B 0) - (k 3 v1.toNatClampNeg))
def F_X4_age_28 (B : Nat) (k : kS) : Option (Int32) :=
  F_X4_age_29 B k 0
def F_X4_age_0 (B : Nat) (k : kS) (v1 : Int32) : Option (Int32) :=
  (F_X0_knows k v1).bind fun x0_1 => if x0_1 = 0 then F_X4_age_28 B k else F_X4_age_11 B k v1
def F_X4_age (B : Nat) (k : kS) (v1 : Int32) : Option (Int32) :=
  F_X4_age_0 B k v1
-- X4_isFree
def F_X4_isFree_35 (B : Nat) (k : kS) (s0 : Int32) : Option (Int32) :=
  if ¬ (s0 = 0 ∨ s0 = 1) then none else some s0
def F_X4_isFree_30 (B : Nat) (k : kS) : Option (Int32) :=
  F_X4_isFree_35 B k 1
def F_X4_isFree_34 (B : Nat) (k : kS) : Option (Int32) :=
  F_X4_isFree_35 B k 0
def F_X4_isFree_18 (B : Nat) (k : kS) (v1 : Int32) : Option (Int32) :=
  (F_X3_spouseOf B k v1).bind fun x18_1 => if x18_1 = (-1) then F_X4_isFree_30 B k else F_X4_isFree_34 B k
def F_X4_isFree_8 (B : Nat) (k : kS) (v1 : Int32) : Option (Int32) :=
  (F_X4_age B k v1).bind fun x8_1 => if x8_1 < 16 then F_X4_isFree_34 B k else F_X4_isFree_18 B k v1
def F_X4_isFree_0 (B : Nat) (k : kS) (v1 : Int32) : Option (Int32) :=
  (F_X4_lives B k v1).bind fun x0_1 => if x0_1 = 0 then F_X4_isFree_34 B k else F_X4_isFree_8 B k v1
def F_X4_isFree (B : Nat) (k : kS) (v1 : Int32) : Option (Int32) :=
  F_X4_isFree_0 B k v1
-- X4_mayMarry
def F_X4_mayMarry_37 (B : Nat) (k : kS) : Option (Int32) :=
  if ¬ ((0 : Int32) = 0 ∨ (0 : Int32) = 1) then none else some 0
def F_X4_mayMarry_64 (B : Nat) (k : kS) (s0 : Int32) : Option (Int32) :=
  if ¬ (s0 = 0 ∨ s0 = 1) then none else some s0
def F_X4_mayMarry_59 (B : Nat) (k : kS) : Option (Int32) :=
  F_X4_mayMarry_64 B k 1
def F_X4_mayMarry_63 (B : Nat) (k : kS) : Option (Int32) :=
  F_X4_mayMarry_64 B k 0
def F_X4_mayMarry_54 (B : Nat) (k : kS) (v3 : Int32) : Option (Int32) :=
  if v3 < 3 then F_X4_mayMarry_63 B k else F_X4_mayMarry_59 B k
def F_X4_mayMarry_39 (B : Nat) (k : kS) (v1 : Int32) (v2 : Int32) : Option (Int32) :=
  (F_X0_stepsBetween k v1 v2).bind fun x39_1 => if x39_1 = (-1) then F_X4_mayMarry_59 B k else F_X4_mayMarry_54 B k x39_1
def F_X4_mayMarry_16 (B : Nat) (k : kS) (v1 : Int32) (v2 : Int32) : Option (Int32) :=
  if (v1 < 0 ∨ 40 ≤ v1.toNatClampNeg) then none else if (v2 < 0 ∨ 40 ≤ v2.toNatClampNeg) then none else if (k 2 v1.toNatClampNeg) = (k 2 v2.toNatClampNeg) then F_X4_mayMarry_37 B k else F_X4_mayMarry_39 B k v1 v2
def F_X4_mayMarry_8 (B : Nat) (k : kS) (v1 : Int32) (v2 : Int32) : Option (Int32) :=
  (F_X4_isFree B k v2).bind fun x8_1 => if x8_1 = 0 then F_X4_mayMarry_37 B k else F_X4_mayMarry_16 B k v1 v2
def F_X4_mayMarry_0 (B : Nat) (k : kS) (v1 : Int32) (v2 : Int32) : Option (Int32) :=
  (F_X4_isFree B k v1).bind fun x0_1 => if x0_1 = 0 then F_X4_mayMarry_37 B k else F_X4_mayMarry_8 B k v1 v2
def F_X4_mayMarry (B : Nat) (k : kS) (v1 : Int32) (v2 : Int32) : Option (Int32) :=
  F_X4_mayMarry_0 B k v1 v2
-- X4_wed
def F_X4_wed_61 (B : Nat) (k : kS) : Option (kS) :=
  some k
def F_X4_wed_58 (B : Nat) (s1 : Int32) (s2 : Int32) (k : kS) : Option (kS) :=
  (F_X1_handTo B s1 s2 k).bind fun x58_1 => F_X4_wed_61 B x58_1
def F_X4_wed_53 (B : Nat) (s1 : Int32) (v2 : Int32) (k : kS) : Option (kS) :=
  F_X4_wed_58 B s1 v2 k
def F_X4_wed_57 (B : Nat) (s1 : Int32) (v1 : Int32) (k : kS) : Option (kS) :=
  F_X4_wed_58 B s1 v1 k
def F_X4_wed_31 (B : Nat) (v1 : Int32) (v2 : Int32) (v3 : Int32) (v4 : Int32) (k : kS) : Option (kS) :=
  if (v4 < 0 ∨ 40 ≤ v4.toNatClampNeg) then none else if v4 = v1 then F_X4_wed_53 B v3 v2 (kst k (B + 10) (upd (k (B + 10)) v4.toNatClampNeg v3)) else F_X4_wed_57 B v3 v1 (kst k (B + 10) (upd (k (B + 10)) v4.toNatClampNeg v3))
def F_X4_wed_25 (B : Nat) (v1 : Int32) (v2 : Int32) (v3 : Int32) (v4 : Int32) (k : kS) : Option (kS) :=
  if v4 = v2 then F_X4_wed_31 B v1 v2 v3 v4 k else F_X4_wed_61 B k
def F_X4_wed_0 (B : Nat) (v1 : Int32) (v2 : Int32) (v3 : Int32) (k : kS) : Option (kS) :=
  (F_X3_bind B v1 v2 k).bind fun x0_1 => (F_X1_rulerOf B x0_1 v3).bind fun x0_2 => if x0_2 = v1 then F_X4_wed_31 B v1 v2 v3 x0_2 x0_1 else F_X4_wed_25 B v1 v2 v3 x0_2 x0_1
def F_X4_wed (B : Nat) (v1 : Int32) (v2 : Int32) (v3 : Int32) (k : kS) : Option (kS) :=
  F_X4_wed_0 B v1 v2 v3 k
-- X4_separate
def F_X4_separate_14 (B : Nat) (k : kS) : Option ((Int32 × kS)) :=
  some ((-1), k)
def F_X4_separate_78 (B : Nat) (k : kS) : Option ((Int32 × kS)) :=
  some ((-1), k)
def F_X4_separate_80 (B : Nat) (v3 : Int32) (v5 : Int32) (k : kS) : Option ((Int32 × kS)) :=
  (F_X1_handTo B v5 v3 k).bind fun x80_1 => some (v5, x80_1)
def F_X4_separate_44 (B : Nat) (s0 : Int32) (v1 : Int32) (v3 : Int32) (k : kS) : Option ((Int32 × kS)) :=
  (F_X3_givenBy B k v3).bind fun x44_1 => (F_X3_part B v1 k).bind fun x44_2 => (F_X1_rulerOf B x44_2 x44_1).bind fun x44_3 => if x44_3 = s0 then F_X4_separate_80 B v3 x44_1 x44_2 else F_X4_separate_78 B x44_2
def F_X4_separate_39 (B : Nat) (v1 : Int32) (v2 : Int32) (v3 : Int32) (k : kS) : Option ((Int32 × kS)) :=
  F_X4_separate_44 B v2 v1 v3 k
def F_X4_separate_43 (B : Nat) (v1 : Int32) (v3 : Int32) (k : kS) : Option ((Int32 × kS)) :=
  F_X4_separate_44 B v1 v1 v3 k
def F_X4_separate_33 (B : Nat) (s0 : Int32) (v1 : Int32) (v2 : Int32) (k : kS) : Option ((Int32 × kS)) :=
  if s0 = v1 then F_X4_separate_39 B v1 v2 s0 k else F_X4_separate_43 B v1 s0 k
def F_X4_separate_28 (B : Nat) (v1 : Int32) (v2 : Int32) (k : kS) : Option ((Int32 × kS)) :=
  F_X4_separate_33 B v2 v1 v2 k
def F_X4_separate_32 (B : Nat) (v1 : Int32) (v2 : Int32) (k : kS) : Option ((Int32 × kS)) :=
  F_X4_separate_33 B v1 v1 v2 k
def F_X4_separate_16 (B : Nat) (v1 : Int32) (v2 : Int32) (k : kS) : Option ((Int32 × kS)) :=
  (F_X3_givenBy B k v1).bind fun x16_1 => if x16_1 = (-1) then F_X4_separate_28 B v1 v2 k else F_X4_separate_32 B v1 v2 k
def F_X4_separate_0 (B : Nat) (v1 : Int32) (k : kS) : Option ((Int32 × kS)) :=
  (F_X3_spouseOf B k v1).bind fun x0_1 => if x0_1 = (-1) then F_X4_separate_14 B k else F_X4_separate_16 B v1 x0_1 k
def F_X4_separate (B : Nat) (v1 : Int32) (k : kS) : Option ((Int32 × kS)) :=
  F_X4_separate_0 B v1 k
-- X4_eldestOfKin
def F_X4_eldestOfKin_60 (B : Nat) (k : kS) (c4 : Int32 → Int32 → Int32 → Option (Int32)) (v1 : Int32) (v2 : Int32) (v3 : Int32) : Option (Int32) :=
  c4 v1 v2 (v3 + 1)
def F_X4_eldestOfKin_58 (B : Nat) (k : kS) (c4 : Int32 → Int32 → Int32 → Option (Int32)) (v1 : Int32) (v3 : Int32) : Option (Int32) :=
  F_X4_eldestOfKin_60 B k c4 v1 v3 v3
def F_X4_eldestOfKin_46 (B : Nat) (k : kS) (c4 : Int32 → Int32 → Int32 → Option (Int32)) (v1 : Int32) (v2 : Int32) (v3 : Int32) : Option (Int32) :=
  (F_X0_isBefore k v3 v2).bind fun x46_1 => if x46_1 = 0 then F_X4_eldestOfKin_60 B k c4 v1 v2 v3 else F_X4_eldestOfKin_58 B k c4 v1 v3
def F_X4_eldestOfKin_41 (B : Nat) (k : kS) (c4 : Int32 → Int32 → Int32 → Option (Int32)) (v1 : Int32) (v2 : Int32) (v3 : Int32) : Option (Int32) :=
  if v2 = (-1) then F_X4_eldestOfKin_58 B k c4 v1 v3 else F_X4_eldestOfKin_46 B k c4 v1 v2 v3
def F_X4_eldestOfKin_28 (B : Nat) (k : kS) (c4 : Int32 → Int32 → Int32 → Option (Int32)) (v1 : Int32) (v2 : Int32) (v3 : Int32) : Option (Int32) :=
  (F_X0_stepsBetween k v3 v1).bind fun x28_1 => if x28_1 = (-1) then F_X4_eldestOfKin_60 B k c4 v1 v2 v3 else F_X4_eldestOfKin_41 B k c4 v1 v2 v3
def F_X4_eldestOfKin_20 (B : Nat) (k : kS) (c4 : Int32 → Int32 → Int32 → Option (Int32)) (v1 : Int32) (v2 : Int32) (v3 : Int32) : Option (Int32) :=
  (F_X4_lives B k v3).bind fun x20_1 => if x20_1 = 0 then F_X4_eldestOfKin_60 B k c4 v1 v2 v3 else F_X4_eldestOfKin_28 B k c4 v1 v2 v3
def F_X4_eldestOfKin_15 (B : Nat) (k : kS) (c4 : Int32 → Int32 → Int32 → Option (Int32)) (v1 : Int32) (v2 : Int32) (v3 : Int32) : Option (Int32) :=
  if v3 = v1 then F_X4_eldestOfKin_60 B k c4 v1 v2 v3 else F_X4_eldestOfKin_20 B k c4 v1 v2 v3
def F_X4_eldestOfKin_66 (B : Nat) (k : kS) (v2 : Int32) : Option (Int32) :=
  some v2
def F_X4_eldestOfKin_4 (B : Nat) (k : kS) : Nat → Int32 → Int32 → Int32 → Option (Int32)
  | 0, _, _, _ => none
  | n + 1, v1, v2, v3 => if (k 1 0) ≤ v3 then F_X4_eldestOfKin_66 B k v2 else F_X4_eldestOfKin_15 B k (F_X4_eldestOfKin_4 B k n) v1 v2 v3
def F_X4_eldestOfKin_0 (B : Nat) (k : kS) (v1 : Int32) : Option (Int32) :=
  F_X4_eldestOfKin_4 B k kN v1 (-1) 0
def F_X4_eldestOfKin (B : Nat) (k : kS) (v1 : Int32) : Option (Int32) :=
  F_X4_eldestOfKin_0 B k v1
-- X4_heirOf
def F_X4_heirOf_11 (B : Nat) (k : kS) : Option ((Int32 × kS)) :=
  some ((-1), k)
def F_X4_heirOf_18 (B : Nat) (v1 : Int32) (k : kS) : Option ((Int32 × kS)) :=
  (F_X4_eldestOfKin B k v1).bind fun x18_1 => some (x18_1, k)
def F_X4_heirOf_126 (B : Nat) (c41 : Int32 → Int32 → Int32 → kS → Option ((Int32 × kS))) (v1 : Int32) (v2 : Int32) (v3 : Int32) (k : kS) : Option ((Int32 × kS)) :=
  c41 v1 v2 (v3 + (-1)) k
def F_X4_heirOf_78 (B : Nat) (c41 : Int32 → Int32 → Int32 → kS → Option ((Int32 × kS))) (v1 : Int32) (v2 : Int32) (v3 : Int32) (v4 : Int32) (k : kS) : Option ((Int32 × kS)) :=
  if (v3 < 0 ∨ 40 ≤ v3.toNatClampNeg) then none else (F_X2_tell B v2 (k 4 v3.toNatClampNeg) v3 v4 k).bind fun x78_2 => if (v3 < 0 ∨ 40 ≤ v3.toNatClampNeg) then none else (F_X2_tell B v2 (x78_2 5 v3.toNatClampNeg) v3 v4 x78_2).bind fun x78_4 => F_X4_heirOf_126 B c41 v1 v2 v3 x78_4
def F_X4_heirOf_70 (B : Nat) (c41 : Int32 → Int32 → Int32 → kS → Option ((Int32 × kS))) (s0 : Int32) (v1 : Int32) (v2 : Int32) (v3 : Int32) (k : kS) : Option ((Int32 × kS)) :=
  if s0 = (-1) then F_X4_heirOf_126 B c41 v1 v2 v3 k else F_X4_heirOf_78 B c41 v1 v2 v3 s0 k
def F_X4_heirOf_58 (B : Nat) (c41 : Int32 → Int32 → Int32 → kS → Option ((Int32 × kS))) (v1 : Int32) (v2 : Int32) (v3 : Int32) (k : kS) : Option ((Int32 × kS)) :=
  F_X4_heirOf_70 B c41 v3 v1 v2 v3 k
def F_X4_heirOf_62 (B : Nat) (c41 : Int32 → Int32 → Int32 → kS → Option ((Int32 × kS))) (v1 : Int32) (v2 : Int32) (v3 : Int32) (k : kS) : Option ((Int32 × kS)) :=
  (F_X2_firstOf B k v3).bind fun x62_1 => F_X4_heirOf_70 B c41 x62_1 v1 v2 v3 k
def F_X4_heirOf_53 (B : Nat) (c41 : Int32 → Int32 → Int32 → kS → Option ((Int32 × kS))) (v1 : Int32) (v2 : Int32) (v3 : Int32) (k : kS) : Option ((Int32 × kS)) :=
  if v3 = v1 then F_X4_heirOf_62 B c41 v1 v2 v3 k else F_X4_heirOf_58 B c41 v1 v2 v3 k
def F_X4_heirOf_45 (B : Nat) (c41 : Int32 → Int32 → Int32 → kS → Option ((Int32 × kS))) (v1 : Int32) (v2 : Int32) (v3 : Int32) (k : kS) : Option ((Int32 × kS)) :=
  (F_X4_lives B k v3).bind fun x45_1 => if x45_1 = 0 then F_X4_heirOf_62 B c41 v1 v2 v3 k else F_X4_heirOf_53 B c41 v1 v2 v3 k
def F_X4_heirOf_188 (B : Nat) (s0 : Int32) (k : kS) : Option ((Int32 × kS)) :=
  some (s0, k)
def F_X4_heirOf_168 (B : Nat) (v1 : Int32) (k : kS) : Option ((Int32 × kS)) :=
  if (v1 < 0 ∨ 40 ≤ v1.toNatClampNeg) then none else (F_X2_firstOf B k (k 4 v1.toNatClampNeg)).bind fun x168_2 => F_X4_heirOf_188 B x168_2 k
def F_X4_heirOf_187 (B : Nat) (v3 : Int32) (k : kS) : Option ((Int32 × kS)) :=
  F_X4_heirOf_188 B v3 k
def F_X4_heirOf_163 (B : Nat) (v1 : Int32) (v3 : Int32) (k : kS) : Option ((Int32 × kS)) :=
  if v3 = (-1) then F_X4_heirOf_168 B v1 k else F_X4_heirOf_187 B v3 k
def F_X4_heirOf_146 (B : Nat) (v1 : Int32) (k : kS) : Option ((Int32 × kS)) :=
  if (v1 < 0 ∨ 40 ≤ v1.toNatClampNeg) then none else (F_X2_firstOf B k (k 5 v1.toNatClampNeg)).bind fun x146_2 => F_X4_heirOf_163 B v1 x146_2 k
def F_X4_heirOf_132 (B : Nat) (v1 : Int32) (k : kS) : Option ((Int32 × kS)) :=
  (F_X2_firstOf B k v1).bind fun x132_1 => if x132_1 = (-1) then F_X4_heirOf_146 B v1 k else F_X4_heirOf_163 B v1 x132_1 k
def F_X4_heirOf_41 (B : Nat) : Nat → Int32 → Int32 → Int32 → kS → Option ((Int32 × kS))
  | 0, _, _, _, _ => none
  | n + 1, v1, v2, v3, k => if v3 < 0 then F_X4_heirOf_132 B v1 k else F_X4_heirOf_45 B (F_X4_heirOf_41 B n) v1 v2 v3 k
def F_X4_heirOf_24 (B : Nat) (v1 : Int32) (v2 : Int32) (k : kS) : Option ((Int32 × kS)) :=
  (F_X2_clear B k).bind fun x24_1 => F_X4_heirOf_41 B kN v1 v2 ((x24_1 1 0) - 1) x24_1
def F_X4_heirOf_13 (B : Nat) (v1 : Int32) (v2 : Int32) (k : kS) : Option ((Int32 × kS)) :=
  if v2 = 3 then F_X4_heirOf_18 B v1 k else F_X4_heirOf_24 B v1 v2 k
def F_X4_heirOf_0 (B : Nat) (v1 : Int32) (v2 : Int32) (k : kS) : Option ((Int32 × kS)) :=
  (F_X0_knows k v1).bind fun x0_1 => if x0_1 = 0 then F_X4_heirOf_11 B k else F_X4_heirOf_13 B v1 v2 k
def F_X4_heirOf (B : Nat) (v1 : Int32) (v2 : Int32) (k : kS) : Option ((Int32 × kS)) :=
  F_X4_heirOf_0 B v1 v2 k
-- X4_bury
def F_X4_bury_63 (B : Nat) (c14 : Int32 → Int32 → Int32 → kS → Option ((Int32 × kS))) (v1 : Int32) (v2 : Int32) (v3 : Int32) (k : kS) : Option ((Int32 × kS)) :=
  c14 v1 v2 (v3 + 1) k
def F_X4_bury_38 (B : Nat) (c14 : Int32 → Int32 → Int32 → kS → Option ((Int32 × kS))) (v1 : Int32) (v2 : Int32) (v3 : Int32) (k : kS) : Option ((Int32 × kS)) :=
  if (v3 < 0 ∨ 12 ≤ v3.toNatClampNeg) then none else (F_X4_heirOf B v1 (k (B + 3) v3.toNatClampNeg) k).bind fun x38_2 => (F_X1_handTo B v3 x38_2.1 x38_2.2).bind fun x38_3 => F_X4_bury_63 B c14 v1 (v2 + 1) v3 x38_3
def F_X4_bury_25 (B : Nat) (c14 : Int32 → Int32 → Int32 → kS → Option ((Int32 × kS))) (v1 : Int32) (v2 : Int32) (v3 : Int32) (k : kS) : Option ((Int32 × kS)) :=
  if (v3 < 0 ∨ 12 ≤ v3.toNatClampNeg) then none else if (k (B + 4) v3.toNatClampNeg) = v1 then F_X4_bury_38 B c14 v1 v2 v3 k else F_X4_bury_63 B c14 v1 v2 v3 k
def F_X4_bury_69 (B : Nat) (v1 : Int32) (v2 : Int32) (k : kS) : Option ((Int32 × kS)) :=
  (F_X3_part B v1 k).bind fun x69_1 => some (v2, x69_1)
def F_X4_bury_14 (B : Nat) : Nat → Int32 → Int32 → Int32 → kS → Option ((Int32 × kS))
  | 0, _, _, _, _ => none
  | n + 1, v1, v2, v3, k => if (k (B + 1) 0) ≤ v3 then F_X4_bury_69 B v1 v2 k else F_X4_bury_25 B (F_X4_bury_14 B n) v1 v2 v3 k
def F_X4_bury_0 (B : Nat) (v1 : Int32) (k : kS) : Option ((Int32 × kS)) :=
  if (v1 < 0 ∨ 40 ≤ v1.toNatClampNeg) then none else F_X4_bury_14 B kN v1 0 0 (kst k (B + 14) (upd (k (B + 14)) v1.toNatClampNeg (k B 0)))
def F_X4_bury (B : Nat) (v1 : Int32) (k : kS) : Option ((Int32 × kS)) :=
  F_X4_bury_0 B v1 k
-- X4_letPass
def F_X4_letPass_64 (B : Nat) (c4 : Int32 → Int32 → Int32 → kS → Option ((Int32 × kS))) (c22 : Int32 → Int32 → Int32 → Int32 → kS → Option ((Int32 × kS))) (v1 : Int32) (v2 : Int32) (v3 : Int32) (v4 : Int32) (k : kS) : Option ((Int32 × kS)) :=
  c22 v1 v2 v3 (v4 + 1) k
def F_X4_letPass_54 (B : Nat) (c4 : Int32 → Int32 → Int32 → kS → Option ((Int32 × kS))) (c22 : Int32 → Int32 → Int32 → Int32 → kS → Option ((Int32 × kS))) (v1 : Int32) (v2 : Int32) (v3 : Int32) (v4 : Int32) (k : kS) : Option ((Int32 × kS)) :=
  (F_X4_bury B v4 k).bind fun x54_1 => F_X4_letPass_64 B c4 c22 v1 (v2 + 1) v3 v4 x54_1.2
def F_X4_letPass_43 (B : Nat) (c4 : Int32 → Int32 → Int32 → kS → Option ((Int32 × kS))) (c22 : Int32 → Int32 → Int32 → Int32 → kS → Option ((Int32 × kS))) (v1 : Int32) (v2 : Int32) (v3 : Int32) (v4 : Int32) (k : kS) : Option ((Int32 × kS)) :=
  (F_X4_age B k v4).bind fun x43_1 => if x43_1 < 80 then F_X4_letPass_64 B c4 c22 v1 v2 v3 v4 k else F_X4_letPass_54 B c4 c22 v1 v2 v3 v4 k
def F_X4_letPass_34 (B : Nat) (c4 : Int32 → Int32 → Int32 → kS → Option ((Int32 × kS))) (c22 : Int32 → Int32 → Int32 → Int32 → kS → Option ((Int32 × kS))) (v1 : Int32) (v2 : Int32) (v3 : Int32) (v4 : Int32) (k : kS) : Option ((Int32 × kS)) :=
  (F_X4_lives B k v4).bind fun x34_1 => if x34_1 = 0 then F_X4_letPass_64 B c4 c22 v1 v2 v3 v4 k else F_X4_letPass_43 B c4 c22 v1 v2 v3 v4 k
def F_X4_letPass_70 (B : Nat) (c4 : Int32 → Int32 → Int32 → kS → Option ((Int32 × kS))) (v1 : Int32) (v2 : Int32) (v3 : Int32) (k : kS) : Option ((Int32 × kS)) :=
  c4 v1 v2 (v3 + 1) k
def F_X4_letPass_22 (B : Nat) (c4 : Int32 → Int32 → Int32 → kS → Option ((Int32 × kS))) : Nat → Int32 → Int32 → Int32 → Int32 → kS → Option ((Int32 × kS))
  | 0, _, _, _, _, _ => none
  | n + 1, v1, v2, v3, v4, k => if (k 1 0) ≤ v4 then F_X4_letPass_70 B c4 v1 v2 v3 k else F_X4_letPass_34 B c4 (F_X4_letPass_22 B c4 n) v1 v2 v3 v4 k
def F_X4_letPass_9 (B : Nat) (c4 : Int32 → Int32 → Int32 → kS → Option ((Int32 × kS))) (v1 : Int32) (v2 : Int32) (v3 : Int32) (k : kS) : Option ((Int32 × kS)) :=
  F_X4_letPass_22 B c4 kN v1 v2 v3 0 (kst k B (upd (k B) 0 ((k B 0) + 1)))
def F_X4_letPass_76 (B : Nat) (v2 : Int32) (k : kS) : Option ((Int32 × kS)) :=
  some (v2, k)
def F_X4_letPass_4 (B : Nat) : Nat → Int32 → Int32 → Int32 → kS → Option ((Int32 × kS))
  | 0, _, _, _, _ => none
  | n + 1, v1, v2, v3, k => if v1 ≤ v3 then F_X4_letPass_76 B v2 k else F_X4_letPass_9 B (F_X4_letPass_4 B n) v1 v2 v3 k
def F_X4_letPass_0 (B : Nat) (v1 : Int32) (k : kS) : Option ((Int32 × kS)) :=
  F_X4_letPass_4 B kN v1 0 0 k
def F_X4_letPass (B : Nat) (v1 : Int32) (k : kS) : Option ((Int32 × kS)) :=
  F_X4_letPass_0 B v1 k
-- X4_nearestGrown
def F_X4_nearestGrown_93 (B : Nat) (k : kS) (c7 : Int32 → Int32 → Int32 → Int32 → Option (Int32)) (v1 : Int32) (v2 : Int32) (v3 : Int32) (v4 : Int32) : Option (Int32) :=
  c7 v1 v2 v3 (v4 + 1)
def F_X4_nearestGrown_87 (B : Nat) (k : kS) (c7 : Int32 → Int32 → Int32 → Int32 → Option (Int32)) (v1 : Int32) (v4 : Int32) (v5 : Int32) : Option (Int32) :=
  F_X4_nearestGrown_93 B k c7 v1 v4 v5 v4
def F_X4_nearestGrown_74 (B : Nat) (k : kS) (c7 : Int32 → Int32 → Int32 → Int32 → Option (Int32)) (v1 : Int32) (v2 : Int32) (v3 : Int32) (v4 : Int32) (v5 : Int32) : Option (Int32) :=
  (F_X0_isBefore k v4 v2).bind fun x74_1 => if x74_1 = 0 then F_X4_nearestGrown_93 B k c7 v1 v2 v3 v4 else F_X4_nearestGrown_87 B k c7 v1 v4 v5
def F_X4_nearestGrown_68 (B : Nat) (k : kS) (c7 : Int32 → Int32 → Int32 → Int32 → Option (Int32)) (v1 : Int32) (v2 : Int32) (v3 : Int32) (v4 : Int32) (v5 : Int32) : Option (Int32) :=
  if v5 = v3 then F_X4_nearestGrown_74 B k c7 v1 v2 v3 v4 v5 else F_X4_nearestGrown_93 B k c7 v1 v2 v3 v4
def F_X4_nearestGrown_62 (B : Nat) (k : kS) (c7 : Int32 → Int32 → Int32 → Int32 → Option (Int32)) (v1 : Int32) (v2 : Int32) (v3 : Int32) (v4 : Int32) (v5 : Int32) : Option (Int32) :=
  if v5 < v3 then F_X4_nearestGrown_87 B k c7 v1 v4 v5 else F_X4_nearestGrown_68 B k c7 v1 v2 v3 v4 v5
def F_X4_nearestGrown_57 (B : Nat) (k : kS) (c7 : Int32 → Int32 → Int32 → Int32 → Option (Int32)) (v1 : Int32) (v2 : Int32) (v3 : Int32) (v4 : Int32) (v5 : Int32) : Option (Int32) :=
  if v2 = (-1) then F_X4_nearestGrown_87 B k c7 v1 v4 v5 else F_X4_nearestGrown_62 B k c7 v1 v2 v3 v4 v5
def F_X4_nearestGrown_46 (B : Nat) (k : kS) (c7 : Int32 → Int32 → Int32 → Int32 → Option (Int32)) (v1 : Int32) (v2 : Int32) (v3 : Int32) (v4 : Int32) (v5 : Int32) : Option (Int32) :=
  (F_X4_age B k v4).bind fun x46_1 => if x46_1 < 16 then F_X4_nearestGrown_93 B k c7 v1 v2 v3 v4 else F_X4_nearestGrown_57 B k c7 v1 v2 v3 v4 v5
def F_X4_nearestGrown_37 (B : Nat) (k : kS) (c7 : Int32 → Int32 → Int32 → Int32 → Option (Int32)) (v1 : Int32) (v2 : Int32) (v3 : Int32) (v4 : Int32) (v5 : Int32) : Option (Int32) :=
  (F_X4_lives B k v4).bind fun x37_1 => if x37_1 = 0 then F_X4_nearestGrown_93 B k c7 v1 v2 v3 v4 else F_X4_nearestGrown_46 B k c7 v1 v2 v3 v4 v5
def F_X4_nearestGrown_19 (B : Nat) (k : kS) (c7 : Int32 → Int32 → Int32 → Int32 → Option (Int32)) (v1 : Int32) (v2 : Int32) (v3 : Int32) (v4 : Int32) : Option (Int32) :=
  (F_X0_stepsBetween k v4 v1).bind fun x19_1 => if x19_1 = (-1) then F_X4_nearestGrown_93 B k c7 v1 v2 v3 v4 else F_X4_nearestGrown_37 B k c7 v1 v2 v3 v4 x19_1
def F_X4_nearestGrown_99 (B : Nat) (k : kS) (v2 : Int32) : Option (Int32) :=
  some v2
def F_X4_nearestGrown_7 (B : Nat) (k : kS) : Nat → Int32 → Int32 → Int32 → Int32 → Option (Int32)
  | 0, _, _, _, _ => none
  | n + 1, v1, v2, v3, v4 => if (k 1 0) ≤ v4 then F_X4_nearestGrown_99 B k v2 else F_X4_nearestGrown_19 B k (F_X4_nearestGrown_7 B k n) v1 v2 v3 v4
def F_X4_nearestGrown_0 (B : Nat) (k : kS) (v1 : Int32) : Option (Int32) :=
  F_X4_nearestGrown_7 B k kN v1 (-1) (-1) 0
def F_X4_nearestGrown (B : Nat) (k : kS) (v1 : Int32) : Option (Int32) :=
  F_X4_nearestGrown_0 B k v1
-- X4_regentOf
def F_X4_regentOf_18 (B : Nat) (k : kS) : Option (Int32) :=
  some (-1)
def F_X4_regentOf_36 (B : Nat) (k : kS) (v1 : Int32) : Option (Int32) :=
  if (v1 < 0 ∨ 40 ≤ v1.toNatClampNeg) then none else some (k 4 v1.toNatClampNeg)
def F_X4_regentOf_79 (B : Nat) (k : kS) (s0 : Int32) : Option (Int32) :=
  some s0
def F_X4_regentOf_62 (B : Nat) (k : kS) (v1 : Int32) : Option (Int32) :=
  if (v1 < 0 ∨ 40 ≤ v1.toNatClampNeg) then none else F_X4_regentOf_79 B k (k 5 v1.toNatClampNeg)
def F_X4_regentOf_74 (B : Nat) (k : kS) (v1 : Int32) : Option (Int32) :=
  (F_X4_nearestGrown B k v1).bind fun x74_1 => F_X4_regentOf_79 B k x74_1
def F_X4_regentOf_46 (B : Nat) (k : kS) (v1 : Int32) : Option (Int32) :=
  if (v1 < 0 ∨ 40 ≤ v1.toNatClampNeg) then none else (F_X4_lives B k (k 5 v1.toNatClampNeg)).bind fun x46_2 => if x46_2 = 0 then F_X4_regentOf_74 B k v1 else F_X4_regentOf_62 B k v1
def F_X4_regentOf_20 (B : Nat) (k : kS) (v1 : Int32) : Option (Int32) :=
  if (v1 < 0 ∨ 40 ≤ v1.toNatClampNeg) then none else (F_X4_lives B k (k 4 v1.toNatClampNeg)).bind fun x20_2 => if x20_2 = 0 then F_X4_regentOf_46 B k v1 else F_X4_regentOf_36 B k v1
def F_X4_regentOf_8 (B : Nat) (k : kS) (v1 : Int32) : Option (Int32) :=
  (F_X4_age B k v1).bind fun x8_1 => if x8_1 < 16 then F_X4_regentOf_20 B k v1 else F_X4_regentOf_18 B k
def F_X4_regentOf_0 (B : Nat) (k : kS) (v1 : Int32) : Option (Int32) :=
  (F_X4_lives B k v1).bind fun x0_1 => if x0_1 = 0 then F_X4_regentOf_18 B k else F_X4_regentOf_8 B k v1
def F_X4_regentOf (B : Nat) (k : kS) (v1 : Int32) : Option (Int32) :=
  F_X4_regentOf_0 B k v1
-- X4_personFact
def F_X4_personFact_69 (B : Nat) (k : kS) (s0 : Int32) : Option (Int32) :=
  some s0
def F_X4_personFact_64 (B : Nat) (k : kS) : Option (Int32) :=
  F_X4_personFact_69 B k 1
def F_X4_personFact_68 (B : Nat) (k : kS) : Option (Int32) :=
  F_X4_personFact_69 B k 0
def F_X4_personFact_52 (B : Nat) (k : kS) (v1 : Int32) : Option (Int32) :=
  if (v1 < 0 ∨ 40 ≤ v1.toNatClampNeg) then none else if (k 2 v1.toNatClampNeg) = 0 then F_X4_personFact_68 B k else F_X4_personFact_64 B k
def F_X4_personFact_70 (B : Nat) (k : kS) (v1 : Int32) : Option (Int32) :=
  if (v1 < 0 ∨ 40 ≤ v1.toNatClampNeg) then none else some (k 3 v1.toNatClampNeg)
def F_X4_personFact_93 (B : Nat) (k : kS) (s0 : Int32) : Option (Int32) :=
  some s0
def F_X4_personFact_88 (B : Nat) (k : kS) : Option (Int32) :=
  F_X4_personFact_93 B k 1
def F_X4_personFact_92 (B : Nat) (k : kS) : Option (Int32) :=
  F_X4_personFact_93 B k 0
def F_X4_personFact_80 (B : Nat) (k : kS) (v1 : Int32) : Option (Int32) :=
  (F_X4_lives B k v1).bind fun x80_1 => if x80_1 = 0 then F_X4_personFact_92 B k else F_X4_personFact_88 B k
def F_X4_personFact_94 (B : Nat) (k : kS) (v1 : Int32) : Option (Int32) :=
  if (v1 < 0 ∨ 40 ≤ v1.toNatClampNeg) then none else some (k 4 v1.toNatClampNeg)
def F_X4_personFact_104 (B : Nat) (k : kS) (v1 : Int32) : Option (Int32) :=
  if (v1 < 0 ∨ 40 ≤ v1.toNatClampNeg) then none else some (k 5 v1.toNatClampNeg)
def F_X4_personFact_114 (B : Nat) (k : kS) (v1 : Int32) : Option (Int32) :=
  (F_X3_spouseOf B k v1).bind fun x114_1 => some x114_1
def F_X4_personFact_123 (B : Nat) (k : kS) (v1 : Int32) : Option (Int32) :=
  (F_X0_childrenOf k v1).bind fun x123_1 => some x123_1
def F_X4_personFact_132 (B : Nat) (k : kS) (v1 : Int32) : Option (Int32) :=
  (F_X1_numberUnder B k v1).bind fun x132_1 => some x132_1
def F_X4_personFact_141 (B : Nat) (k : kS) (v1 : Int32) : Option (Int32) :=
  (F_X1_worthUnder B k v1).bind fun x141_1 => some x141_1
def F_X4_personFact_150 (B : Nat) (k : kS) (v1 : Int32) : Option (Int32) :=
  if (v1 < 0 ∨ 40 ≤ v1.toNatClampNeg) then none else some (k (B + 14) v1.toNatClampNeg)
def F_X4_personFact_0 (B : Nat) (k : kS) (v1 : Int32) (v2 : Int32) : Option (Int32) :=
  if v2 = 0 then F_X4_personFact_52 B k v1 else if v2 = 1 then F_X4_personFact_70 B k v1 else if v2 = 2 then F_X4_personFact_80 B k v1 else if v2 = 3 then F_X4_personFact_94 B k v1 else if v2 = 4 then F_X4_personFact_104 B k v1 else if v2 = 5 then F_X4_personFact_114 B k v1 else if v2 = 6 then F_X4_personFact_123 B k v1 else if v2 = 7 then F_X4_personFact_132 B k v1 else if v2 = 8 then F_X4_personFact_141 B k v1 else F_X4_personFact_150 B k v1
def F_X4_personFact (B : Nat) (k : kS) (v1 : Int32) (v2 : Int32) : Option (Int32) :=
  F_X4_personFact_0 B k v1 v2
-- X4_landFact
def F_X4_landFact_44 (B : Nat) (v1 : Int32) (k : kS) : Option ((Int32 × kS)) :=
  if (v1 < 0 ∨ 12 ≤ v1.toNatClampNeg) then none else some ((k (B + 2) v1.toNatClampNeg), k)
def F_X4_landFact_54 (B : Nat) (v1 : Int32) (k : kS) : Option ((Int32 × kS)) :=
  if (v1 < 0 ∨ 12 ≤ v1.toNatClampNeg) then none else some ((k (B + 3) v1.toNatClampNeg), k)
def F_X4_landFact_64 (B : Nat) (v3 : Int32) (k : kS) : Option ((Int32 × kS)) :=
  some (v3, k)
def F_X4_landFact_66 (B : Nat) (v3 : Int32) (k : kS) : Option ((Int32 × kS)) :=
  (F_X4_regentOf B k v3).bind fun x66_1 => some (x66_1, k)
def F_X4_landFact_72 (B : Nat) (v1 : Int32) (v3 : Int32) (k : kS) : Option ((Int32 × kS)) :=
  if (v1 < 0 ∨ 12 ≤ v1.toNatClampNeg) then none else (F_X4_heirOf B v3 (k (B + 3) v1.toNatClampNeg) k).bind fun x72_2 => some (x72_2.1, x72_2.2)
def F_X4_landFact_87 (B : Nat) (v1 : Int32) (k : kS) : Option ((Int32 × kS)) :=
  if (v1 < 0 ∨ 12 ≤ v1.toNatClampNeg) then none else some ((k (B + 5) v1.toNatClampNeg), k)
def F_X4_landFact_0 (B : Nat) (v1 : Int32) (v2 : Int32) (k : kS) : Option ((Int32 × kS)) :=
  if (v1 < 0 ∨ 12 ≤ v1.toNatClampNeg) then none else if v2 = 0 then F_X4_landFact_44 B v1 k else if v2 = 1 then F_X4_landFact_54 B v1 k else if v2 = 2 then F_X4_landFact_64 B (k (B + 4) v1.toNatClampNeg) k else if v2 = 3 then F_X4_landFact_66 B (k (B + 4) v1.toNatClampNeg) k else if v2 = 4 then F_X4_landFact_72 B v1 (k (B + 4) v1.toNatClampNeg) k else F_X4_landFact_87 B v1 k
def F_X4_landFact (B : Nat) (v1 : Int32) (v2 : Int32) (k : kS) : Option ((Int32 × kS)) :=
  F_X4_landFact_0 B v1 v2 k
-- X4_living
def F_X4_living_26 (B : Nat) (k : kS) (c4 : Int32 → Int32 → Option (Int32)) (v1 : Int32) (v2 : Int32) : Option (Int32) :=
  c4 v1 (v2 + 1)
def F_X4_living_23 (B : Nat) (k : kS) (c4 : Int32 → Int32 → Option (Int32)) (v1 : Int32) (v2 : Int32) : Option (Int32) :=
  F_X4_living_26 B k c4 (v1 + 1) v2
def F_X4_living_15 (B : Nat) (k : kS) (c4 : Int32 → Int32 → Option (Int32)) (v1 : Int32) (v2 : Int32) : Option (Int32) :=
  (F_X4_lives B k v2).bind fun x15_1 => if x15_1 = 0 then F_X4_living_26 B k c4 v1 v2 else F_X4_living_23 B k c4 v1 v2
def F_X4_living_32 (B : Nat) (k : kS) (v1 : Int32) : Option (Int32) :=
  some v1
def F_X4_living_4 (B : Nat) (k : kS) : Nat → Int32 → Int32 → Option (Int32)
  | 0, _, _ => none
  | n + 1, v1, v2 => if (k 1 0) ≤ v2 then F_X4_living_32 B k v1 else F_X4_living_15 B k (F_X4_living_4 B k n) v1 v2
def F_X4_living_0 (B : Nat) (k : kS) : Option (Int32) :=
  F_X4_living_4 B k kN 0 0
def F_X4_living (B : Nat) (k : kS) : Option (Int32) :=
  F_X4_living_0 B k
-- X4_rulers
def F_X4_rulers_43 (B : Nat) (k : kS) (c4 : Int32 → Int32 → Int32 → Option (Int32)) (v1 : Int32) (v2 : Int32) (v3 : Int32) : Option (Int32) :=
  c4 v1 v2 (v3 + 1)
def F_X4_rulers_40 (B : Nat) (k : kS) (c4 : Int32 → Int32 → Int32 → Option (Int32)) (v1 : Int32) (v2 : Int32) (v3 : Int32) : Option (Int32) :=
  F_X4_rulers_43 B k c4 v1 (v2 + 1) v3
def F_X4_rulers_30 (B : Nat) (k : kS) (c4 : Int32 → Int32 → Int32 → Option (Int32)) (v1 : Int32) (v2 : Int32) (v3 : Int32) : Option (Int32) :=
  (F_X4_age B k v3).bind fun x30_1 => if 16 ≤ x30_1 then F_X4_rulers_43 B k c4 v1 v2 v3 else F_X4_rulers_40 B k c4 v1 v2 v3
def F_X4_rulers_26 (B : Nat) (k : kS) (c4 : Int32 → Int32 → Int32 → Option (Int32)) (v1 : Int32) (v2 : Int32) (v3 : Int32) : Option (Int32) :=
  if v1 = 0 then F_X4_rulers_40 B k c4 v1 v2 v3 else F_X4_rulers_30 B k c4 v1 v2 v3
def F_X4_rulers_15 (B : Nat) (k : kS) (c4 : Int32 → Int32 → Int32 → Option (Int32)) (v1 : Int32) (v2 : Int32) (v3 : Int32) : Option (Int32) :=
  (F_X1_numberUnder B k v3).bind fun x15_1 => if x15_1 ≤ 0 then F_X4_rulers_43 B k c4 v1 v2 v3 else F_X4_rulers_26 B k c4 v1 v2 v3
def F_X4_rulers_49 (B : Nat) (k : kS) (v2 : Int32) : Option (Int32) :=
  some v2
def F_X4_rulers_4 (B : Nat) (k : kS) : Nat → Int32 → Int32 → Int32 → Option (Int32)
  | 0, _, _, _ => none
  | n + 1, v1, v2, v3 => if (k 1 0) ≤ v3 then F_X4_rulers_49 B k v2 else F_X4_rulers_15 B k (F_X4_rulers_4 B k n) v1 v2 v3
def F_X4_rulers_0 (B : Nat) (k : kS) (v1 : Int32) : Option (Int32) :=
  F_X4_rulers_4 B k kN v1 0 0
def F_X4_rulers (B : Nat) (k : kS) (v1 : Int32) : Option (Int32) :=
  F_X4_rulers_0 B k v1
-- X4_countFact
def F_X4_countFact_44 (B : Nat) (k : kS) : Option (Int32) :=
  some (k B 0)
def F_X4_countFact_49 (B : Nat) (k : kS) : Option (Int32) :=
  some (k 1 0)
def F_X4_countFact_57 (B : Nat) (k : kS) : Option (Int32) :=
  (F_X4_living B k).bind fun x57_1 => some x57_1
def F_X4_countFact_62 (B : Nat) (k : kS) : Option (Int32) :=
  (F_X3_couples B k).bind fun x62_1 => some x62_1
def F_X4_countFact_70 (B : Nat) (k : kS) : Option (Int32) :=
  some (k (B + 1) 0)
def F_X4_countFact_78 (B : Nat) (k : kS) : Option (Int32) :=
  (F_X1_numberUnder B k (-1)).bind fun x78_1 => some x78_1
def F_X4_countFact_87 (B : Nat) (k : kS) : Option (Int32) :=
  (F_X4_rulers B k 0).bind fun x87_1 => some x87_1
def F_X4_countFact_93 (B : Nat) (k : kS) : Option (Int32) :=
  (F_X4_rulers B k 1).bind fun x93_1 => some x93_1
def F_X4_countFact_0 (B : Nat) (k : kS) (v1 : Int32) : Option (Int32) :=
  if v1 = 0 then F_X4_countFact_44 B k else if v1 = 1 then F_X4_countFact_49 B k else if v1 = 2 then F_X4_countFact_57 B k else if v1 = 3 then F_X4_countFact_62 B k else if v1 = 4 then F_X4_countFact_70 B k else if v1 = 5 then F_X4_countFact_78 B k else if v1 = 6 then F_X4_countFact_87 B k else F_X4_countFact_93 B k
def F_X4_countFact (B : Nat) (k : kS) (v1 : Int32) : Option (Int32) :=
  F_X4_countFact_0 B k v1
-- X6_thrown
def F_X6_thrown_0 (mo : kS) : Option (Int32) :=
  some (mo 7 0)
def F_X6_thrown (mo : kS) : Option (Int32) :=
  F_X6_thrown_0 mo
-- X6_fail
def F_X6_fail_0 (v1 : Int32) (mo : kS) : Option ((Int32 × kS)) :=
  some (0, (kst mo 7 (upd (mo 7) 0 v1)))
def F_X6_fail (v1 : Int32) (mo : kS) : Option ((Int32 × kS)) :=
  F_X6_fail_0 v1 mo
-- X6_isIn
def F_X6_isIn_15 (mo : kS) (s0 : Int32) : Option (Int32) :=
  if ¬ (s0 = 0 ∨ s0 = 1) then none else some s0
def F_X6_isIn_10 (mo : kS) : Option (Int32) :=
  F_X6_isIn_15 mo 1
def F_X6_isIn_14 (mo : kS) : Option (Int32) :=
  F_X6_isIn_15 mo 0
def F_X6_isIn_5 (mo : kS) (v0 : Int32) (v2 : Int32) : Option (Int32) :=
  if v2 < v0 then F_X6_isIn_14 mo else F_X6_isIn_10 mo
def F_X6_isIn_0 (mo : kS) (v0 : Int32) (v1 : Int32) (v2 : Int32) : Option (Int32) :=
  if v0 < v1 then F_X6_isIn_14 mo else F_X6_isIn_5 mo v0 v2
def F_X6_isIn (mo : kS) (v0 : Int32) (v1 : Int32) (v2 : Int32) : Option (Int32) :=
  F_X6_isIn_0 mo v0 v1 v2
-- X6_isPerson
def F_X6_isPerson_0 (mo : kS) (v1 : Int32) : Option (Int32) :=
  (F_X6_isIn mo v1 0 ((mo 7 1) - 1)).bind fun x0_1 => if ¬ (x0_1 = 0 ∨ x0_1 = 1) then none else some x0_1
def F_X6_isPerson (mo : kS) (v1 : Int32) : Option (Int32) :=
  F_X6_isPerson_0 mo v1
-- X6_isLand
def F_X6_isLand_0 (mo : kS) (v1 : Int32) : Option (Int32) :=
  (F_X6_isIn mo v1 0 ((mo 7 2) - 1)).bind fun x0_1 => if ¬ (x0_1 = 0 ∨ x0_1 = 1) then none else some x0_1
def F_X6_isLand (mo : kS) (v1 : Int32) : Option (Int32) :=
  F_X6_isLand_0 mo v1
-- X6_pe
def F_X6_pe_0 (mo : kS) (v1 : Int32) (v2 : Int32) : Option (Int32) :=
  if (((9 * v1) + v2) < 0 ∨ 360 ≤ ((9 * v1) + v2).toNatClampNeg) then none else some (mo 8 ((9 * v1) + v2).toNatClampNeg)
def F_X6_pe (mo : kS) (v1 : Int32) (v2 : Int32) : Option (Int32) :=
  F_X6_pe_0 mo v1 v2
-- X6_set
def F_X6_set_0 (v1 : Int32) (v2 : Int32) (v3 : Int32) (mo : kS) : Option (kS) :=
  if (((9 * v1) + v2) < 0 ∨ 360 ≤ ((9 * v1) + v2).toNatClampNeg) then none else some (kst mo 8 (upd (mo 8) ((9 * v1) + v2).toNatClampNeg v3))
def F_X6_set (v1 : Int32) (v2 : Int32) (v3 : Int32) (mo : kS) : Option (kS) :=
  F_X6_set_0 v1 v2 v3 mo
-- X6_la
def F_X6_la_0 (mo : kS) (v1 : Int32) (v2 : Int32) : Option (Int32) :=
  if (((4 * v1) + v2) < 0 ∨ 48 ≤ ((4 * v1) + v2).toNatClampNeg) then none else some (mo 9 ((4 * v1) + v2).toNatClampNeg)
def F_X6_la (mo : kS) (v1 : Int32) (v2 : Int32) : Option (Int32) :=
  F_X6_la_0 mo v1 v2
-- X6_lives
def F_X6_lives_15 (mo : kS) (s0 : Int32) : Option (Int32) :=
  if ¬ (s0 = 0 ∨ s0 = 1) then none else some s0
def F_X6_lives_10 (mo : kS) : Option (Int32) :=
  F_X6_lives_15 mo 1
def F_X6_lives_14 (mo : kS) : Option (Int32) :=
  F_X6_lives_15 mo 0
def F_X6_lives_0 (mo : kS) (v1 : Int32) : Option (Int32) :=
  (F_X6_pe mo v1 2).bind fun x0_1 => if x0_1 = 1 then F_X6_lives_10 mo else F_X6_lives_14 mo
def F_X6_lives (mo : kS) (v1 : Int32) : Option (Int32) :=
  F_X6_lives_0 mo v1
-- X6_age
def F_X6_age_0 (mo : kS) (v1 : Int32) : Option (Int32) :=
  if ((0 : Int32) < 0 ∨ 1 ≤ (0 : Int32).toNatClampNeg) then none else (F_X6_pe mo v1 1).bind fun x0_2 => some ((mo 11 (0 : Int32).toNatClampNeg) - x0_2)
def F_X6_age (mo : kS) (v1 : Int32) : Option (Int32) :=
  F_X6_age_0 mo v1
-- X6_person
def F_X6_person_0 (v1 : Int32) (v2 : Int32) (v3 : Int32) (v4 : Int32) (mo : kS) : Option ((Int32 × kS) × Nat × Nat) :=
  kadd 1 9 (if ((0 : Int32) < 0 ∨ 9 ≤ (0 : Int32).toNatClampNeg) then none else if ((1 : Int32) < 0 ∨ 9 ≤ (1 : Int32).toNatClampNeg) then none else if ((2 : Int32) < 0 ∨ 9 ≤ (2 : Int32).toNatClampNeg) then none else if ((3 : Int32) < 0 ∨ 9 ≤ (3 : Int32).toNatClampNeg) then none else if ((4 : Int32) < 0 ∨ 9 ≤ (4 : Int32).toNatClampNeg) then none else if ((5 : Int32) < 0 ∨ 9 ≤ (5 : Int32).toNatClampNeg) then none else if ((6 : Int32) < 0 ∨ 9 ≤ (6 : Int32).toNatClampNeg) then none else if ((7 : Int32) < 0 ∨ 9 ≤ (7 : Int32).toNatClampNeg) then none else if ((8 : Int32) < 0 ∨ 9 ≤ (8 : Int32).toNatClampNeg) then none else if ((0 : Int32) < 0 ∨ (9 * (mo 7 1)) < 0 ∨ (9 : Int32) < 0 ∨ 9 < (0 : Int32).toNatClampNeg + (9 : Int32).toNatClampNeg ∨ 360 < (9 * (mo 7 1)).toNatClampNeg + (9 : Int32).toNatClampNeg) then none else some (((((kst (kst mo 8 (va_cpy (upd (upd (upd (upd (upd (upd (upd (upd (upd (fun _ => 0) (0 : Int32).toNatClampNeg v1) (1 : Int32).toNatClampNeg v2) (2 : Int32).toNatClampNeg 1) (3 : Int32).toNatClampNeg v3) (4 : Int32).toNatClampNeg v4) (5 : Int32).toNatClampNeg (-1)) (6 : Int32).toNatClampNeg (-1)) (7 : Int32).toNatClampNeg (-1)) (8 : Int32).toNatClampNeg (-1)) (mo 8) (0 : Int32).toNatClampNeg (9 * (mo 7 1)).toNatClampNeg (9 : Int32).toNatClampNeg)) 7 (upd ((kst mo 8 (va_cpy (upd (upd (upd (upd (upd (upd (upd (upd (upd (fun _ => 0) (0 : Int32).toNatClampNeg v1) (1 : Int32).toNatClampNeg v2) (2 : Int32).toNatClampNeg 1) (3 : Int32).toNatClampNeg v3) (4 : Int32).toNatClampNeg v4) (5 : Int32).toNatClampNeg (-1)) (6 : Int32).toNatClampNeg (-1)) (7 : Int32).toNatClampNeg (-1)) (8 : Int32).toNatClampNeg (-1)) (mo 8) (0 : Int32).toNatClampNeg (9 * (mo 7 1)).toNatClampNeg (9 : Int32).toNatClampNeg)) 7) 1 (((kst mo 8 (va_cpy (upd (upd (upd (upd (upd (upd (upd (upd (upd (fun _ => 0) (0 : Int32).toNatClampNeg v1) (1 : Int32).toNatClampNeg v2) (2 : Int32).toNatClampNeg 1) (3 : Int32).toNatClampNeg v3) (4 : Int32).toNatClampNeg v4) (5 : Int32).toNatClampNeg (-1)) (6 : Int32).toNatClampNeg (-1)) (7 : Int32).toNatClampNeg (-1)) (8 : Int32).toNatClampNeg (-1)) (mo 8) (0 : Int32).toNatClampNeg (9 * (mo 7 1)).toNatClampNeg (9 : Int32).toNatClampNeg)) 7 1) + 1))) 7 1) - 1), (kst (kst mo 8 (va_cpy (upd (upd (upd (upd (upd (upd (upd (upd (upd (fun _ => 0) (0 : Int32).toNatClampNeg v1) (1 : Int32).toNatClampNeg v2) (2 : Int32).toNatClampNeg 1) (3 : Int32).toNatClampNeg v3) (4 : Int32).toNatClampNeg v4) (5 : Int32).toNatClampNeg (-1)) (6 : Int32).toNatClampNeg (-1)) (7 : Int32).toNatClampNeg (-1)) (8 : Int32).toNatClampNeg (-1)) (mo 8) (0 : Int32).toNatClampNeg (9 * (mo 7 1)).toNatClampNeg (9 : Int32).toNatClampNeg)) 7 (upd ((kst mo 8 (va_cpy (upd (upd (upd (upd (upd (upd (upd (upd (upd (fun _ => 0) (0 : Int32).toNatClampNeg v1) (1 : Int32).toNatClampNeg v2) (2 : Int32).toNatClampNeg 1) (3 : Int32).toNatClampNeg v3) (4 : Int32).toNatClampNeg v4) (5 : Int32).toNatClampNeg (-1)) (6 : Int32).toNatClampNeg (-1)) (7 : Int32).toNatClampNeg (-1)) (8 : Int32).toNatClampNeg (-1)) (mo 8) (0 : Int32).toNatClampNeg (9 * (mo 7 1)).toNatClampNeg (9 : Int32).toNatClampNeg)) 7) 1 (((kst mo 8 (va_cpy (upd (upd (upd (upd (upd (upd (upd (upd (upd (fun _ => 0) (0 : Int32).toNatClampNeg v1) (1 : Int32).toNatClampNeg v2) (2 : Int32).toNatClampNeg 1) (3 : Int32).toNatClampNeg v3) (4 : Int32).toNatClampNeg v4) (5 : Int32).toNatClampNeg (-1)) (6 : Int32).toNatClampNeg (-1)) (7 : Int32).toNatClampNeg (-1)) (8 : Int32).toNatClampNeg (-1)) (mo 8) (0 : Int32).toNatClampNeg (9 * (mo 7 1)).toNatClampNeg (9 : Int32).toNatClampNeg)) 7 1) + 1)))), 0, 0))
def F_X6_person (v1 : Int32) (v2 : Int32) (v3 : Int32) (v4 : Int32) (mo : kS) : Option ((Int32 × kS) × Nat × Nat) :=
  F_X6_person_0 v1 v2 v3 v4 mo
-- X6_come
def F_X6_come_15 (mo : kS) : Option ((Int32 × kS) × Nat × Nat) :=
  (F_X6_fail 1 mo).bind fun x15_1 => some ((x15_1.1, x15_1.2), 0, 0)
def F_X6_come_61 (s0 : Int32) (mo : kS) : Option ((Int32 × kS) × Nat × Nat) :=
  some ((s0, mo), 0, 0)
def F_X6_come_30 (mo : kS) : Option ((Int32 × kS) × Nat × Nat) :=
  (F_X6_fail 2 mo).bind fun x30_1 => F_X6_come_61 x30_1.1 x30_1.2
def F_X6_come_48 (s1 : Int32) (v2 : Int32) (mo : kS) : Option ((Int32 × kS) × Nat × Nat) :=
  if ((0 : Int32) < 0 ∨ 1 ≤ (0 : Int32).toNatClampNeg) then none else (F_X6_person s1 ((mo 11 (0 : Int32).toNatClampNeg) - v2) (-1) (-1) mo).bind fun x48_2 => kadd x48_2.2.1 x48_2.2.2 (F_X6_come_61 x48_2.1.1 x48_2.1.2)
def F_X6_come_43 (v2 : Int32) (mo : kS) : Option ((Int32 × kS) × Nat × Nat) :=
  F_X6_come_48 1 v2 mo
def F_X6_come_47 (v2 : Int32) (mo : kS) : Option ((Int32 × kS) × Nat × Nat) :=
  F_X6_come_48 0 v2 mo
def F_X6_come_38 (v1 : Int32) (v2 : Int32) (mo : kS) : Option ((Int32 × kS) × Nat × Nat) :=
  if v1 = 0 then F_X6_come_47 v2 mo else F_X6_come_43 v2 mo
def F_X6_come_21 (v1 : Int32) (v2 : Int32) (mo : kS) : Option ((Int32 × kS) × Nat × Nat) :=
  if (mo 7 1) = 40 then F_X6_come_30 mo else F_X6_come_38 v1 v2 mo
def F_X6_come_0 (v1 : Int32) (v2 : Int32) (mo : kS) : Option ((Int32 × kS) × Nat × Nat) :=
  (F_X6_isIn (kst mo 7 (upd (mo 7) 0 0)) v2 0 60).bind fun x0_1 => if x0_1 = 0 then F_X6_come_15 (kst mo 7 (upd (mo 7) 0 0)) else F_X6_come_21 v1 v2 (kst mo 7 (upd (mo 7) 0 0))
def F_X6_come (v1 : Int32) (v2 : Int32) (mo : kS) : Option ((Int32 × kS) × Nat × Nat) :=
  F_X6_come_0 v1 v2 mo
-- X6_bear
def F_X6_bear_13 (mo : kS) : Option ((Int32 × kS) × Nat × Nat) :=
  (F_X6_fail 1 mo).bind fun x13_1 => some ((x13_1.1, x13_1.2), 0, 0)
def F_X6_bear_56 (mo : kS) : Option ((Int32 × kS) × Nat × Nat) :=
  (F_X6_fail 2 mo).bind fun x56_1 => some ((x56_1.1, x56_1.2), 0, 0)
def F_X6_bear_72 (s1 : Int32) (v1 : Int32) (mo : kS) : Option ((Int32 × kS) × Nat × Nat) :=
  if ((0 : Int32) < 0 ∨ 1 ≤ (0 : Int32).toNatClampNeg) then none else (F_X6_pe mo v1 5).bind fun x72_2 => (F_X6_person s1 (mo 11 (0 : Int32).toNatClampNeg) v1 x72_2 mo).bind fun x72_3 => kadd x72_3.2.1 x72_3.2.2 (some ((x72_3.1.1, x72_3.1.2), 0, 0))
def F_X6_bear_67 (v1 : Int32) (mo : kS) : Option ((Int32 × kS) × Nat × Nat) :=
  F_X6_bear_72 1 v1 mo
def F_X6_bear_71 (v1 : Int32) (mo : kS) : Option ((Int32 × kS) × Nat × Nat) :=
  F_X6_bear_72 0 v1 mo
def F_X6_bear_62 (v1 : Int32) (v2 : Int32) (mo : kS) : Option ((Int32 × kS) × Nat × Nat) :=
  if v2 = 0 then F_X6_bear_71 v1 mo else F_X6_bear_67 v1 mo
def F_X6_bear_47 (v1 : Int32) (v2 : Int32) (mo : kS) : Option ((Int32 × kS) × Nat × Nat) :=
  if (mo 7 1) = 40 then F_X6_bear_56 mo else F_X6_bear_62 v1 v2 mo
def F_X6_bear_39 (v1 : Int32) (v2 : Int32) (mo : kS) : Option ((Int32 × kS) × Nat × Nat) :=
  (F_X6_lives mo v1).bind fun x39_1 => if x39_1 = 0 then F_X6_bear_56 mo else F_X6_bear_47 v1 v2 mo
def F_X6_bear_29 (v1 : Int32) (v2 : Int32) (mo : kS) : Option ((Int32 × kS) × Nat × Nat) :=
  (F_X6_pe mo v1 5).bind fun x29_1 => if x29_1 = (-1) then F_X6_bear_56 mo else F_X6_bear_39 v1 v2 mo
def F_X6_bear_19 (v1 : Int32) (v2 : Int32) (mo : kS) : Option ((Int32 × kS) × Nat × Nat) :=
  (F_X6_pe mo v1 0).bind fun x19_1 => if x19_1 = 1 then F_X6_bear_56 mo else F_X6_bear_29 v1 v2 mo
def F_X6_bear_0 (v1 : Int32) (v2 : Int32) (mo : kS) : Option ((Int32 × kS) × Nat × Nat) :=
  (F_X6_isPerson (kst mo 7 (upd (mo 7) 0 0)) v1).bind fun x0_1 => if x0_1 = 0 then F_X6_bear_13 (kst mo 7 (upd (mo 7) 0 0)) else F_X6_bear_19 v1 v2 (kst mo 7 (upd (mo 7) 0 0))
def F_X6_bear (v1 : Int32) (v2 : Int32) (mo : kS) : Option ((Int32 × kS) × Nat × Nat) :=
  F_X6_bear_0 v1 v2 mo
-- X6_rule
def F_X6_rule_16 (mo : kS) : Option (kS) :=
  some mo
def F_X6_rule_17 (v1 : Int32) (v2 : Int32) (mo : kS) : Option (kS) :=
  if ((15 * v1) < 0 ∨ ((15 * v1) + 1) < 0 ∨ (14 : Int32) < 0 ∨ 180 < (15 * v1).toNatClampNeg + (14 : Int32).toNatClampNeg ∨ 180 < ((15 * v1) + 1).toNatClampNeg + (14 : Int32).toNatClampNeg) then none else if ((15 * v1) < 0 ∨ 180 ≤ (15 * v1).toNatClampNeg) then none else if (((4 * v1) + 3) < 0 ∨ 48 ≤ ((4 * v1) + 3).toNatClampNeg) then none else if (((4 * v1) + 3) < 0 ∨ 48 ≤ ((4 * v1) + 3).toNatClampNeg) then none else some (kst (kst (kst mo 10 (va_cpy (mo 10) (mo 10) (15 * v1).toNatClampNeg ((15 * v1) + 1).toNatClampNeg (14 : Int32).toNatClampNeg)) 10 (upd ((kst mo 10 (va_cpy (mo 10) (mo 10) (15 * v1).toNatClampNeg ((15 * v1) + 1).toNatClampNeg (14 : Int32).toNatClampNeg)) 10) (15 * v1).toNatClampNeg v2)) 9 (upd ((kst (kst mo 10 (va_cpy (mo 10) (mo 10) (15 * v1).toNatClampNeg ((15 * v1) + 1).toNatClampNeg (14 : Int32).toNatClampNeg)) 10 (upd ((kst mo 10 (va_cpy (mo 10) (mo 10) (15 * v1).toNatClampNeg ((15 * v1) + 1).toNatClampNeg (14 : Int32).toNatClampNeg)) 10) (15 * v1).toNatClampNeg v2)) 9) ((4 * v1) + 3).toNatClampNeg (((kst (kst mo 10 (va_cpy (mo 10) (mo 10) (15 * v1).toNatClampNeg ((15 * v1) + 1).toNatClampNeg (14 : Int32).toNatClampNeg)) 10 (upd ((kst mo 10 (va_cpy (mo 10) (mo 10) (15 * v1).toNatClampNeg ((15 * v1) + 1).toNatClampNeg (14 : Int32).toNatClampNeg)) 10) (15 * v1).toNatClampNeg v2)) 9 ((4 * v1) + 3).toNatClampNeg) + 1)))
def F_X6_rule_0 (v1 : Int32) (v2 : Int32) (mo : kS) : Option (kS) :=
  if (((4 * v1) + 2) < 0 ∨ 48 ≤ ((4 * v1) + 2).toNatClampNeg) then none else if v2 = (-1) then F_X6_rule_16 (kst mo 9 (upd (mo 9) ((4 * v1) + 2).toNatClampNeg v2)) else F_X6_rule_17 v1 v2 (kst mo 9 (upd (mo 9) ((4 * v1) + 2).toNatClampNeg v2))
def F_X6_rule (v1 : Int32) (v2 : Int32) (mo : kS) : Option (kS) :=
  F_X6_rule_0 v1 v2 mo
-- X6_found
def F_X6_found_24 (mo : kS) : Option ((Int32 × kS) × Nat × Nat) :=
  (F_X6_fail 1 mo).bind fun x24_1 => some ((x24_1.1, x24_1.2), 0, 0)
def F_X6_found_43 (mo : kS) : Option ((Int32 × kS) × Nat × Nat) :=
  (F_X6_fail 2 mo).bind fun x43_1 => some ((x43_1.1, x43_1.2), 0, 0)
def F_X6_found_71 (mo : kS) : Option ((Int32 × kS) × Nat × Nat) :=
  (F_X6_fail 3 mo).bind fun x71_1 => some ((x71_1.1, x71_1.2), 0, 0)
def F_X6_found_77 (v1 : Int32) (v2 : Int32) (v3 : Int32) (mo : kS) : Option ((Int32 × kS) × Nat × Nat) :=
  kadd 1 4 (if ((0 : Int32) < 0 ∨ 4 ≤ (0 : Int32).toNatClampNeg) then none else if ((1 : Int32) < 0 ∨ 4 ≤ (1 : Int32).toNatClampNeg) then none else if ((2 : Int32) < 0 ∨ 4 ≤ (2 : Int32).toNatClampNeg) then none else if ((3 : Int32) < 0 ∨ 4 ≤ (3 : Int32).toNatClampNeg) then none else if ((0 : Int32) < 0 ∨ (4 * (mo 7 2)) < 0 ∨ (4 : Int32) < 0 ∨ 4 < (0 : Int32).toNatClampNeg + (4 : Int32).toNatClampNeg ∨ 48 < (4 * (mo 7 2)).toNatClampNeg + (4 : Int32).toNatClampNeg) then none else (F_X6_rule ((kst mo 9 (va_cpy (upd (upd (upd (upd (fun _ => 0) (0 : Int32).toNatClampNeg v1) (1 : Int32).toNatClampNeg v2) (2 : Int32).toNatClampNeg (-1)) (3 : Int32).toNatClampNeg 0) (mo 9) (0 : Int32).toNatClampNeg (4 * (mo 7 2)).toNatClampNeg (4 : Int32).toNatClampNeg)) 7 2) v3 (kst mo 9 (va_cpy (upd (upd (upd (upd (fun _ => 0) (0 : Int32).toNatClampNeg v1) (1 : Int32).toNatClampNeg v2) (2 : Int32).toNatClampNeg (-1)) (3 : Int32).toNatClampNeg 0) (mo 9) (0 : Int32).toNatClampNeg (4 * (mo 7 2)).toNatClampNeg (4 : Int32).toNatClampNeg))).bind fun x77_8 => some (((((kst x77_8 7 (upd (x77_8 7) 2 ((x77_8 7 2) + 1))) 7 2) - 1), (kst x77_8 7 (upd (x77_8 7) 2 ((x77_8 7 2) + 1)))), 0, 0))
def F_X6_found_63 (v1 : Int32) (v2 : Int32) (v3 : Int32) (mo : kS) : Option ((Int32 × kS) × Nat × Nat) :=
  (F_X6_lives mo v3).bind fun x63_1 => if x63_1 = 0 then F_X6_found_71 mo else F_X6_found_77 v1 v2 v3 mo
def F_X6_found_58 (v1 : Int32) (v2 : Int32) (v3 : Int32) (mo : kS) : Option ((Int32 × kS) × Nat × Nat) :=
  if v3 = (-1) then F_X6_found_77 v1 v2 v3 mo else F_X6_found_63 v1 v2 v3 mo
def F_X6_found_49 (v1 : Int32) (v2 : Int32) (v3 : Int32) (mo : kS) : Option ((Int32 × kS) × Nat × Nat) :=
  if (mo 7 2) = 12 then F_X6_found_71 mo else F_X6_found_58 v1 v2 v3 mo
def F_X6_found_35 (v1 : Int32) (v2 : Int32) (v3 : Int32) (mo : kS) : Option ((Int32 × kS) × Nat × Nat) :=
  (F_X6_isPerson mo v3).bind fun x35_1 => if x35_1 = 0 then F_X6_found_43 mo else F_X6_found_49 v1 v2 v3 mo
def F_X6_found_30 (v1 : Int32) (v2 : Int32) (v3 : Int32) (mo : kS) : Option ((Int32 × kS) × Nat × Nat) :=
  if v3 = (-1) then F_X6_found_49 v1 v2 v3 mo else F_X6_found_35 v1 v2 v3 mo
def F_X6_found_15 (v1 : Int32) (v2 : Int32) (v3 : Int32) (mo : kS) : Option ((Int32 × kS) × Nat × Nat) :=
  (F_X6_isIn mo v2 0 3).bind fun x15_1 => if x15_1 = 0 then F_X6_found_24 mo else F_X6_found_30 v1 v2 v3 mo
def F_X6_found_0 (v1 : Int32) (v2 : Int32) (v3 : Int32) (mo : kS) : Option ((Int32 × kS) × Nat × Nat) :=
  (F_X6_isIn (kst mo 7 (upd (mo 7) 0 0)) v1 1 50).bind fun x0_1 => if x0_1 = 0 then F_X6_found_24 (kst mo 7 (upd (mo 7) 0 0)) else F_X6_found_15 v1 v2 v3 (kst mo 7 (upd (mo 7) 0 0))
def F_X6_found (v1 : Int32) (v2 : Int32) (v3 : Int32) (mo : kS) : Option ((Int32 × kS) × Nat × Nat) :=
  F_X6_found_0 v1 v2 v3 mo
-- X6_setLaw
def F_X6_setLaw_13 (mo : kS) : Option ((Int32 × kS)) :=
  (F_X6_fail 1 mo).bind fun x13_1 => some (x13_1.1, x13_1.2)
def F_X6_setLaw_28 (mo : kS) : Option ((Int32 × kS)) :=
  (F_X6_fail 2 mo).bind fun x28_1 => some (x28_1.1, x28_1.2)
def F_X6_setLaw_34 (v1 : Int32) (v2 : Int32) (mo : kS) : Option ((Int32 × kS)) :=
  (F_X6_la mo v1 1).bind fun x34_1 => if (((4 * v1) + 1) < 0 ∨ 48 ≤ ((4 * v1) + 1).toNatClampNeg) then none else some (x34_1, (kst mo 9 (upd (mo 9) ((4 * v1) + 1).toNatClampNeg v2)))
def F_X6_setLaw_19 (v1 : Int32) (v2 : Int32) (mo : kS) : Option ((Int32 × kS)) :=
  (F_X6_isIn mo v2 0 3).bind fun x19_1 => if x19_1 = 0 then F_X6_setLaw_28 mo else F_X6_setLaw_34 v1 v2 mo
def F_X6_setLaw_0 (v1 : Int32) (v2 : Int32) (mo : kS) : Option ((Int32 × kS)) :=
  (F_X6_isLand (kst mo 7 (upd (mo 7) 0 0)) v1).bind fun x0_1 => if x0_1 = 0 then F_X6_setLaw_13 (kst mo 7 (upd (mo 7) 0 0)) else F_X6_setLaw_19 v1 v2 (kst mo 7 (upd (mo 7) 0 0))
def F_X6_setLaw (v1 : Int32) (v2 : Int32) (mo : kS) : Option ((Int32 × kS)) :=
  F_X6_setLaw_0 v1 v2 mo
-- X6_climb
def F_X6_climb_24 (P : Nat) (c2 : Int32 → Int32 → kS → Option (kS)) (s1 : Int32) (s2 : Int32) (v1 : Int32) (v3 : Int32) (mo : kS) : Option (kS) :=
  if (s1 < 0 ∨ 40 ≤ s1.toNatClampNeg) then none else c2 v1 (v3 + 1) (kst mo P (upd (mo P) s1.toNatClampNeg s2))
def F_X6_climb_17 (P : Nat) (c2 : Int32 → Int32 → kS → Option (kS)) (s1 : Int32) (v1 : Int32) (v3 : Int32) (mo : kS) : Option (kS) :=
  F_X6_climb_24 P c2 s1 0 v1 v3 mo
def F_X6_climb_21 (P : Nat) (c2 : Int32 → Int32 → kS → Option (kS)) (s1 : Int32) (v1 : Int32) (v3 : Int32) (mo : kS) : Option (kS) :=
  F_X6_climb_24 P c2 s1 999 v1 v3 mo
def F_X6_climb_10 (P : Nat) (c2 : Int32 → Int32 → kS → Option (kS)) (v1 : Int32) (v3 : Int32) (mo : kS) : Option (kS) :=
  if v3 = v1 then F_X6_climb_17 P c2 v3 v1 v3 mo else F_X6_climb_21 P c2 v3 v1 v3 mo
def F_X6_climb_107 (P : Nat) (c33 : Int32 → kS → Option (kS)) (v3 : Int32) (mo : kS) : Option (kS) :=
  c33 (v3 + (-1)) mo
def F_X6_climb_56 (P : Nat) (c33 : Int32 → kS → Option (kS)) (v3 : Int32) (mo : kS) : Option (kS) :=
  F_X6_climb_107 P c33 v3 mo
def F_X6_climb_59 (P : Nat) (c33 : Int32 → kS → Option (kS)) (v3 : Int32) (mo : kS) : Option (kS) :=
  (F_X6_pe mo v3 3).bind fun x59_1 => (F_X6_pe mo v3 3).bind fun x59_2 => if (x59_2 < 0 ∨ 40 ≤ x59_2.toNatClampNeg) then none else if (v3 < 0 ∨ 40 ≤ v3.toNatClampNeg) then none else if (x59_1 < 0 ∨ 40 ≤ x59_1.toNatClampNeg) then none else (F_X6_pe (kst mo P (upd (mo P) x59_1.toNatClampNeg (if ((mo P v3.toNatClampNeg) + 1) < (mo P x59_2.toNatClampNeg) then ((mo P v3.toNatClampNeg) + 1) else (mo P x59_2.toNatClampNeg)))) v3 4).bind fun x59_6 => (F_X6_pe (kst mo P (upd (mo P) x59_1.toNatClampNeg (if ((mo P v3.toNatClampNeg) + 1) < (mo P x59_2.toNatClampNeg) then ((mo P v3.toNatClampNeg) + 1) else (mo P x59_2.toNatClampNeg)))) v3 4).bind fun x59_7 => if (x59_7 < 0 ∨ 40 ≤ x59_7.toNatClampNeg) then none else if (v3 < 0 ∨ 40 ≤ v3.toNatClampNeg) then none else if (x59_6 < 0 ∨ 40 ≤ x59_6.toNatClampNeg) then none else F_X6_climb_107 P c33 v3 (kst (kst mo P (upd (mo P) x59_1.toNatClampNeg (if ((mo P v3.toNatClampNeg) + 1) < (mo P x59_2.toNatClampNeg) then ((mo P v3.toNatClampNeg) + 1) else (mo P x59_2.toNatClampNeg)))) P (upd ((kst mo P (upd (mo P) x59_1.toNatClampNeg (if ((mo P v3.toNatClampNeg) + 1) < (mo P x59_2.toNatClampNeg) then ((mo P v3.toNatClampNeg) + 1) else (mo P x59_2.toNatClampNeg)))) P) x59_6.toNatClampNeg (if (((kst mo P (upd (mo P) x59_1.toNatClampNeg (if ((mo P v3.toNatClampNeg) + 1) < (mo P x59_2.toNatClampNeg) then ((mo P v3.toNatClampNeg) + 1) else (mo P x59_2.toNatClampNeg)))) P v3.toNatClampNeg) + 1) < ((kst mo P (upd (mo P) x59_1.toNatClampNeg (if ((mo P v3.toNatClampNeg) + 1) < (mo P x59_2.toNatClampNeg) then ((mo P v3.toNatClampNeg) + 1) else (mo P x59_2.toNatClampNeg)))) P x59_7.toNatClampNeg) then (((kst mo P (upd (mo P) x59_1.toNatClampNeg (if ((mo P v3.toNatClampNeg) + 1) < (mo P x59_2.toNatClampNeg) then ((mo P v3.toNatClampNeg) + 1) else (mo P x59_2.toNatClampNeg)))) P v3.toNatClampNeg) + 1) else ((kst mo P (upd (mo P) x59_1.toNatClampNeg (if ((mo P v3.toNatClampNeg) + 1) < (mo P x59_2.toNatClampNeg) then ((mo P v3.toNatClampNeg) + 1) else (mo P x59_2.toNatClampNeg)))) P x59_7.toNatClampNeg))))
def F_X6_climb_46 (P : Nat) (c33 : Int32 → kS → Option (kS)) (v3 : Int32) (mo : kS) : Option (kS) :=
  (F_X6_pe mo v3 3).bind fun x46_1 => if x46_1 = (-1) then F_X6_climb_56 P c33 v3 mo else F_X6_climb_59 P c33 v3 mo
def F_X6_climb_37 (P : Nat) (c33 : Int32 → kS → Option (kS)) (v3 : Int32) (mo : kS) : Option (kS) :=
  if (v3 < 0 ∨ 40 ≤ v3.toNatClampNeg) then none else if (mo P v3.toNatClampNeg) = 999 then F_X6_climb_107 P c33 v3 mo else F_X6_climb_46 P c33 v3 mo
def F_X6_climb_113 (P : Nat) (mo : kS) : Option (kS) :=
  some mo
def F_X6_climb_33 (P : Nat) : Nat → Int32 → kS → Option (kS)
  | 0, _, _ => none
  | n + 1, v3, mo => if v3 < 0 then F_X6_climb_113 P mo else F_X6_climb_37 P (F_X6_climb_33 P n) v3 mo
def F_X6_climb_31 (P : Nat) (v1 : Int32) (mo : kS) : Option (kS) :=
  F_X6_climb_33 P kN v1 mo
def F_X6_climb_2 (P : Nat) : Nat → Int32 → Int32 → kS → Option (kS)
  | 0, _, _, _ => none
  | n + 1, v1, v3, mo => if (mo 7 1) ≤ v3 then F_X6_climb_31 P v1 mo else F_X6_climb_10 P (F_X6_climb_2 P n) v1 v3 mo
def F_X6_climb_0 (P : Nat) (v1 : Int32) (mo : kS) : Option (kS) :=
  F_X6_climb_2 P kN v1 0 mo
def F_X6_climb (P : Nat) (v1 : Int32) (mo : kS) : Option (kS) :=
  F_X6_climb_0 P v1 mo
-- X6_steps
def F_X6_steps_34 (c25 : Int32 → Int32 → kS → Option ((Int32 × kS))) (v3 : Int32) (v4 : Int32) (mo : kS) : Option ((Int32 × kS)) :=
  if (v4 < 0 ∨ 40 ≤ v4.toNatClampNeg) then none else if (v4 < 0 ∨ 40 ≤ v4.toNatClampNeg) then none else c25 (if ((mo 12 v4.toNatClampNeg) + (mo 13 v4.toNatClampNeg)) < v3 then ((mo 12 v4.toNatClampNeg) + (mo 13 v4.toNatClampNeg)) else v3) (v4 + 1) mo
def F_X6_steps_60 (v3 : Int32) (mo : kS) : Option ((Int32 × kS)) :=
  some (v3, mo)
def F_X6_steps_25 : Nat → Int32 → Int32 → kS → Option ((Int32 × kS))
  | 0, _, _, _ => none
  | n + 1, v3, v4, mo => if (mo 7 1) ≤ v4 then F_X6_steps_60 v3 mo else F_X6_steps_34 (F_X6_steps_25 n) v3 v4 mo
def F_X6_steps_0 (v1 : Int32) (v2 : Int32) (mo : kS) : Option ((Int32 × kS)) :=
  (F_X6_climb 12 v1 mo).bind fun x0_1 => (F_X6_climb 13 v2 x0_1).bind fun x0_2 => F_X6_steps_25 kN 999 0 x0_2
def F_X6_steps (v1 : Int32) (v2 : Int32) (mo : kS) : Option ((Int32 × kS)) :=
  F_X6_steps_0 v1 v2 mo
-- X6_isBefore
def F_X6_isBefore_40 (mo : kS) (s0 : Int32) : Option (Int32) :=
  if ¬ (s0 = 0 ∨ s0 = 1) then none else some s0
def F_X6_isBefore_35 (mo : kS) : Option (Int32) :=
  F_X6_isBefore_40 mo 1
def F_X6_isBefore_39 (mo : kS) : Option (Int32) :=
  F_X6_isBefore_40 mo 0
def F_X6_isBefore_30 (mo : kS) (v1 : Int32) (v2 : Int32) : Option (Int32) :=
  if v2 ≤ v1 then F_X6_isBefore_39 mo else F_X6_isBefore_35 mo
def F_X6_isBefore_15 (mo : kS) (v1 : Int32) (v2 : Int32) : Option (Int32) :=
  (F_X6_pe mo v1 1).bind fun x15_1 => (F_X6_pe mo v2 1).bind fun x15_2 => if x15_1 = x15_2 then F_X6_isBefore_30 mo v1 v2 else F_X6_isBefore_39 mo
def F_X6_isBefore_0 (mo : kS) (v1 : Int32) (v2 : Int32) : Option (Int32) :=
  (F_X6_pe mo v1 1).bind fun x0_1 => (F_X6_pe mo v2 1).bind fun x0_2 => if x0_1 < x0_2 then F_X6_isBefore_35 mo else F_X6_isBefore_15 mo v1 v2
def F_X6_isBefore (mo : kS) (v1 : Int32) (v2 : Int32) : Option (Int32) :=
  F_X6_isBefore_0 mo v1 v2
-- X6_isAhead
def F_X6_isAhead_34 (mo : kS) (s0 : Int32) : Option (Int32) :=
  if ¬ (s0 = 0 ∨ s0 = 1) then none else some s0
def F_X6_isAhead_29 (mo : kS) : Option (Int32) :=
  F_X6_isAhead_34 mo 1
def F_X6_isAhead_33 (mo : kS) : Option (Int32) :=
  F_X6_isAhead_34 mo 0
def F_X6_isAhead_19 (mo : kS) (v1 : Int32) : Option (Int32) :=
  (F_X6_pe mo v1 0).bind fun x19_1 => if x19_1 = 1 then F_X6_isAhead_29 mo else F_X6_isAhead_33 mo
def F_X6_isAhead_55 (mo : kS) (s0 : Int32) : Option (Int32) :=
  if ¬ (s0 = 0 ∨ s0 = 1) then none else some s0
def F_X6_isAhead_40 (mo : kS) (v1 : Int32) (v2 : Int32) : Option (Int32) :=
  (F_X6_isBefore mo v2 v1).bind fun x40_1 => F_X6_isAhead_55 mo x40_1
def F_X6_isAhead_49 (mo : kS) (v1 : Int32) (v2 : Int32) : Option (Int32) :=
  (F_X6_isBefore mo v1 v2).bind fun x49_1 => F_X6_isAhead_55 mo x49_1
def F_X6_isAhead_35 (mo : kS) (v1 : Int32) (v2 : Int32) (v3 : Int32) : Option (Int32) :=
  if v3 = 2 then F_X6_isAhead_40 mo v1 v2 else F_X6_isAhead_49 mo v1 v2
def F_X6_isAhead_4 (mo : kS) (v1 : Int32) (v2 : Int32) (v3 : Int32) : Option (Int32) :=
  (F_X6_pe mo v1 0).bind fun x4_1 => (F_X6_pe mo v2 0).bind fun x4_2 => if x4_1 = x4_2 then F_X6_isAhead_35 mo v1 v2 v3 else F_X6_isAhead_19 mo v1
def F_X6_isAhead_0 (mo : kS) (v1 : Int32) (v2 : Int32) (v3 : Int32) : Option (Int32) :=
  if v3 = 0 then F_X6_isAhead_4 mo v1 v2 v3 else F_X6_isAhead_35 mo v1 v2 v3
def F_X6_isAhead (mo : kS) (v1 : Int32) (v2 : Int32) (v3 : Int32) : Option (Int32) :=
  F_X6_isAhead_0 mo v1 v2 v3
-- X6_isChild
def F_X6_isChild_25 (mo : kS) (s0 : Int32) : Option (Int32) :=
  if ¬ (s0 = 0 ∨ s0 = 1) then none else some s0
def F_X6_isChild_20 (mo : kS) : Option (Int32) :=
  F_X6_isChild_25 mo 1
def F_X6_isChild_24 (mo : kS) : Option (Int32) :=
  F_X6_isChild_25 mo 0
def F_X6_isChild_10 (mo : kS) (v1 : Int32) (v2 : Int32) : Option (Int32) :=
  (F_X6_pe mo v1 4).bind fun x10_1 => if x10_1 = v2 then F_X6_isChild_20 mo else F_X6_isChild_24 mo
def F_X6_isChild_0 (mo : kS) (v1 : Int32) (v2 : Int32) : Option (Int32) :=
  (F_X6_pe mo v1 3).bind fun x0_1 => if x0_1 = v2 then F_X6_isChild_20 mo else F_X6_isChild_10 mo v1 v2
def F_X6_isChild (mo : kS) (v1 : Int32) (v2 : Int32) : Option (Int32) :=
  F_X6_isChild_0 mo v1 v2
-- X6_nextChild
def F_X6_nextChild_66 (mo : kS) (c6 : Int32 → Int32 → Int32 → Int32 → Int32 → Option (Int32)) (v1 : Int32) (v2 : Int32) (v3 : Int32) (v4 : Int32) (v5 : Int32) : Option (Int32) :=
  c6 v1 v2 v3 v4 (v5 + 1)
def F_X6_nextChild_41 (mo : kS) (c6 : Int32 → Int32 → Int32 → Int32 → Int32 → Option (Int32)) (v1 : Int32) (v2 : Int32) (v3 : Int32) (v4 : Int32) (v5 : Int32) : Option (Int32) :=
  F_X6_nextChild_66 mo c6 v1 v2 v3 v4 v5
def F_X6_nextChild_62 (mo : kS) (c6 : Int32 → Int32 → Int32 → Int32 → Int32 → Option (Int32)) (v1 : Int32) (v2 : Int32) (v3 : Int32) (v5 : Int32) : Option (Int32) :=
  F_X6_nextChild_66 mo c6 v1 v2 v3 v5 v5
def F_X6_nextChild_50 (mo : kS) (c6 : Int32 → Int32 → Int32 → Int32 → Int32 → Option (Int32)) (v1 : Int32) (v2 : Int32) (v3 : Int32) (v4 : Int32) (v5 : Int32) : Option (Int32) :=
  (F_X6_isAhead mo v5 v4 v3).bind fun x50_1 => if x50_1 = 0 then F_X6_nextChild_66 mo c6 v1 v2 v3 v4 v5 else F_X6_nextChild_62 mo c6 v1 v2 v3 v5
def F_X6_nextChild_44 (mo : kS) (c6 : Int32 → Int32 → Int32 → Int32 → Int32 → Option (Int32)) (v1 : Int32) (v2 : Int32) (v3 : Int32) (v4 : Int32) (v5 : Int32) : Option (Int32) :=
  if v4 = (-1) then F_X6_nextChild_62 mo c6 v1 v2 v3 v5 else F_X6_nextChild_50 mo c6 v1 v2 v3 v4 v5
def F_X6_nextChild_30 (mo : kS) (c6 : Int32 → Int32 → Int32 → Int32 → Int32 → Option (Int32)) (v1 : Int32) (v2 : Int32) (v3 : Int32) (v4 : Int32) (v5 : Int32) : Option (Int32) :=
  (F_X6_isAhead mo v2 v5 v3).bind fun x30_1 => if x30_1 = 0 then F_X6_nextChild_41 mo c6 v1 v2 v3 v4 v5 else F_X6_nextChild_44 mo c6 v1 v2 v3 v4 v5
def F_X6_nextChild_25 (mo : kS) (c6 : Int32 → Int32 → Int32 → Int32 → Int32 → Option (Int32)) (v1 : Int32) (v2 : Int32) (v3 : Int32) (v4 : Int32) (v5 : Int32) : Option (Int32) :=
  if v2 = (-1) then F_X6_nextChild_44 mo c6 v1 v2 v3 v4 v5 else F_X6_nextChild_30 mo c6 v1 v2 v3 v4 v5
def F_X6_nextChild_15 (mo : kS) (c6 : Int32 → Int32 → Int32 → Int32 → Int32 → Option (Int32)) (v1 : Int32) (v2 : Int32) (v3 : Int32) (v4 : Int32) (v5 : Int32) : Option (Int32) :=
  (F_X6_isChild mo v5 v1).bind fun x15_1 => if x15_1 = 0 then F_X6_nextChild_66 mo c6 v1 v2 v3 v4 v5 else F_X6_nextChild_25 mo c6 v1 v2 v3 v4 v5
def F_X6_nextChild_72 (mo : kS) (v4 : Int32) : Option (Int32) :=
  some v4
def F_X6_nextChild_6 (mo : kS) : Nat → Int32 → Int32 → Int32 → Int32 → Int32 → Option (Int32)
  | 0, _, _, _, _, _ => none
  | n + 1, v1, v2, v3, v4, v5 => if (mo 7 1) ≤ v5 then F_X6_nextChild_72 mo v4 else F_X6_nextChild_15 mo (F_X6_nextChild_6 mo n) v1 v2 v3 v4 v5
def F_X6_nextChild_0 (mo : kS) (v1 : Int32) (v2 : Int32) (v3 : Int32) : Option (Int32) :=
  F_X6_nextChild_6 mo kN v1 v2 v3 (-1) 0
def F_X6_nextChild (mo : kS) (v1 : Int32) (v2 : Int32) (v3 : Int32) : Option (Int32) :=
  F_X6_nextChild_0 mo v1 v2 v3
-- X6_first
def F_X6_first_30 (self : Int32 → Int32 → Int32 → Option Int32) (mo : kS) (v4 : Int32) : Option (Int32) :=
  some v4
def F_X6_first_49 (self : Int32 → Int32 → Int32 → Option Int32) (mo : kS) (v5 : Int32) : Option (Int32) :=
  some v5
def F_X6_first_52 (self : Int32 → Int32 → Int32 → Option Int32) (mo : kS) (c9 : Int32 → Int32 → Int32 → Int32 → Option (Int32)) (v1 : Int32) (v2 : Int32) (v3 : Int32) (v4 : Int32) : Option (Int32) :=
  (F_X6_nextChild mo v1 v4 v2).bind fun x52_1 => c9 v1 v2 v3 x52_1
def F_X6_first_33 (self : Int32 → Int32 → Int32 → Option Int32) (mo : kS) (c9 : Int32 → Int32 → Int32 → Int32 → Option (Int32)) (v1 : Int32) (v2 : Int32) (v3 : Int32) (v4 : Int32) : Option (Int32) :=
  (self v4 v2 v3).bind fun x33_1 => if x33_1 = (-1) then F_X6_first_52 self mo c9 v1 v2 v3 v4 else F_X6_first_49 self mo x33_1
def F_X6_first_24 (self : Int32 → Int32 → Int32 → Option Int32) (mo : kS) (c9 : Int32 → Int32 → Int32 → Int32 → Option (Int32)) (v1 : Int32) (v2 : Int32) (v3 : Int32) (v4 : Int32) : Option (Int32) :=
  if v4 = v3 then F_X6_first_33 self mo c9 v1 v2 v3 v4 else F_X6_first_30 self mo v4
def F_X6_first_15 (self : Int32 → Int32 → Int32 → Option Int32) (mo : kS) (c9 : Int32 → Int32 → Int32 → Int32 → Option (Int32)) (v1 : Int32) (v2 : Int32) (v3 : Int32) (v4 : Int32) : Option (Int32) :=
  (F_X6_lives mo v4).bind fun x15_1 => if x15_1 = 0 then F_X6_first_33 self mo c9 v1 v2 v3 v4 else F_X6_first_24 self mo c9 v1 v2 v3 v4
def F_X6_first_65 (self : Int32 → Int32 → Int32 → Option Int32) (mo : kS) : Option (Int32) :=
  some (-1)
def F_X6_first_9 (self : Int32 → Int32 → Int32 → Option Int32) (mo : kS) : Nat → Int32 → Int32 → Int32 → Int32 → Option (Int32)
  | 0, _, _, _, _ => none
  | n + 1, v1, v2, v3, v4 => if v4 = (-1) then F_X6_first_65 self mo else F_X6_first_15 self mo (F_X6_first_9 self mo n) v1 v2 v3 v4
def F_X6_first_0 (self : Int32 → Int32 → Int32 → Option Int32) (mo : kS) (v1 : Int32) (v2 : Int32) (v3 : Int32) : Option (Int32) :=
  (F_X6_nextChild mo v1 (-1) v2).bind fun x0_1 => F_X6_first_9 self mo kN v1 v2 v3 x0_1
def F_X6_first (mo : kS) : Nat → Int32 → Int32 → Int32 → Option Int32
  | 0, _, _, _ => none
  | d + 1, v1, v2, v3 => F_X6_first_0 (F_X6_first mo d) mo v1 v2 v3
-- X6_oldest
def F_X6_oldest_53 (c4 : Int32 → Int32 → Int32 → kS → Option ((Int32 × kS))) (v1 : Int32) (v2 : Int32) (v3 : Int32) (mo : kS) : Option ((Int32 × kS)) :=
  c4 v1 v2 (v3 + 1) mo
def F_X6_oldest_51 (c4 : Int32 → Int32 → Int32 → kS → Option ((Int32 × kS))) (v1 : Int32) (v3 : Int32) (mo : kS) : Option ((Int32 × kS)) :=
  F_X6_oldest_53 c4 v1 v3 v3 mo
def F_X6_oldest_42 (c4 : Int32 → Int32 → Int32 → kS → Option ((Int32 × kS))) (v1 : Int32) (v2 : Int32) (v3 : Int32) (mo : kS) : Option ((Int32 × kS)) :=
  (F_X6_isBefore mo v3 v2).bind fun x42_1 => if x42_1 = 0 then F_X6_oldest_53 c4 v1 v2 v3 mo else F_X6_oldest_51 c4 v1 v3 mo
def F_X6_oldest_37 (c4 : Int32 → Int32 → Int32 → kS → Option ((Int32 × kS))) (v1 : Int32) (v2 : Int32) (v3 : Int32) (mo : kS) : Option ((Int32 × kS)) :=
  if v2 = (-1) then F_X6_oldest_51 c4 v1 v3 mo else F_X6_oldest_42 c4 v1 v2 v3 mo
def F_X6_oldest_25 (c4 : Int32 → Int32 → Int32 → kS → Option ((Int32 × kS))) (v1 : Int32) (v2 : Int32) (v3 : Int32) (mo : kS) : Option ((Int32 × kS)) :=
  (F_X6_steps v3 v1 mo).bind fun x25_1 => if 999 ≤ x25_1.1 then F_X6_oldest_53 c4 v1 v2 v3 x25_1.2 else F_X6_oldest_37 c4 v1 v2 v3 x25_1.2
def F_X6_oldest_17 (c4 : Int32 → Int32 → Int32 → kS → Option ((Int32 × kS))) (v1 : Int32) (v2 : Int32) (v3 : Int32) (mo : kS) : Option ((Int32 × kS)) :=
  (F_X6_lives mo v3).bind fun x17_1 => if x17_1 = 0 then F_X6_oldest_53 c4 v1 v2 v3 mo else F_X6_oldest_25 c4 v1 v2 v3 mo
def F_X6_oldest_12 (c4 : Int32 → Int32 → Int32 → kS → Option ((Int32 × kS))) (v1 : Int32) (v2 : Int32) (v3 : Int32) (mo : kS) : Option ((Int32 × kS)) :=
  if v3 = v1 then F_X6_oldest_53 c4 v1 v2 v3 mo else F_X6_oldest_17 c4 v1 v2 v3 mo
def F_X6_oldest_59 (v2 : Int32) (mo : kS) : Option ((Int32 × kS)) :=
  some (v2, mo)
def F_X6_oldest_4 : Nat → Int32 → Int32 → Int32 → kS → Option ((Int32 × kS))
  | 0, _, _, _, _ => none
  | n + 1, v1, v2, v3, mo => if (mo 7 1) ≤ v3 then F_X6_oldest_59 v2 mo else F_X6_oldest_12 (F_X6_oldest_4 n) v1 v2 v3 mo
def F_X6_oldest_0 (v1 : Int32) (mo : kS) : Option ((Int32 × kS)) :=
  F_X6_oldest_4 kN v1 (-1) 0 mo
def F_X6_oldest (v1 : Int32) (mo : kS) : Option ((Int32 × kS)) :=
  F_X6_oldest_0 v1 mo
-- X6_heir
def F_X6_heir_5 (v1 : Int32) (mo : kS) : Option ((Int32 × kS)) :=
  (F_X6_oldest v1 mo).bind fun x5_1 => some (x5_1.1, x5_1.2)
def F_X6_heir_75 (v3 : Int32) (mo : kS) : Option ((Int32 × kS)) :=
  some (v3, mo)
def F_X6_heir_62 (v1 : Int32) (v2 : Int32) (mo : kS) : Option ((Int32 × kS)) :=
  (F_X6_pe mo v1 3).bind fun x62_1 => (F_X6_first mo kD x62_1 v2 v1).bind fun x62_2 => F_X6_heir_75 x62_2 mo
def F_X6_heir_52 (v1 : Int32) (v2 : Int32) (v3 : Int32) (mo : kS) : Option ((Int32 × kS)) :=
  (F_X6_pe mo v1 3).bind fun x52_1 => if x52_1 = (-1) then F_X6_heir_75 v3 mo else F_X6_heir_62 v1 v2 mo
def F_X6_heir_47 (v1 : Int32) (v2 : Int32) (v3 : Int32) (mo : kS) : Option ((Int32 × kS)) :=
  if v3 = (-1) then F_X6_heir_52 v1 v2 v3 mo else F_X6_heir_75 v3 mo
def F_X6_heir_34 (v1 : Int32) (v2 : Int32) (mo : kS) : Option ((Int32 × kS)) :=
  (F_X6_pe mo v1 4).bind fun x34_1 => (F_X6_first mo kD x34_1 v2 v1).bind fun x34_2 => F_X6_heir_47 v1 v2 x34_2 mo
def F_X6_heir_24 (v1 : Int32) (v2 : Int32) (v3 : Int32) (mo : kS) : Option ((Int32 × kS)) :=
  (F_X6_pe mo v1 4).bind fun x24_1 => if x24_1 = (-1) then F_X6_heir_47 v1 v2 v3 mo else F_X6_heir_34 v1 v2 mo
def F_X6_heir_11 (v1 : Int32) (v2 : Int32) (mo : kS) : Option ((Int32 × kS)) :=
  (F_X6_first mo kD v1 v2 v1).bind fun x11_1 => if x11_1 = (-1) then F_X6_heir_24 v1 v2 x11_1 mo else F_X6_heir_47 v1 v2 x11_1 mo
def F_X6_heir_0 (v1 : Int32) (v2 : Int32) (mo : kS) : Option ((Int32 × kS)) :=
  if v2 = 3 then F_X6_heir_5 v1 mo else F_X6_heir_11 v1 v2 mo
def F_X6_heir (v1 : Int32) (v2 : Int32) (mo : kS) : Option ((Int32 × kS)) :=
  F_X6_heir_0 v1 v2 mo
-- X6_regent
def F_X6_regent_15 (mo : kS) : Option ((Int32 × kS)) :=
  some ((-1), mo)
def F_X6_regent_44 (v2 : Int32) (mo : kS) : Option ((Int32 × kS)) :=
  some (v2, mo)
def F_X6_regent_59 (v3 : Int32) (mo : kS) : Option ((Int32 × kS)) :=
  some (v3, mo)
def F_X6_regent_164 (c67 : Int32 → Int32 → Int32 → kS → Option ((Int32 × kS))) (v1 : Int32) (v4 : Int32) (v5 : Int32) (mo : kS) : Option ((Int32 × kS)) :=
  c67 v1 v4 (v5 + 1) mo
def F_X6_regent_109 (c67 : Int32 → Int32 → Int32 → kS → Option ((Int32 × kS))) (v1 : Int32) (v4 : Int32) (v5 : Int32) (mo : kS) : Option ((Int32 × kS)) :=
  F_X6_regent_164 c67 v1 v4 v5 mo
def F_X6_regent_160 (c67 : Int32 → Int32 → Int32 → kS → Option ((Int32 × kS))) (v1 : Int32) (v5 : Int32) (mo : kS) : Option ((Int32 × kS)) :=
  F_X6_regent_164 c67 v1 v5 v5 mo
def F_X6_regent_149 (c67 : Int32 → Int32 → Int32 → kS → Option ((Int32 × kS))) (v1 : Int32) (v4 : Int32) (v5 : Int32) (mo : kS) : Option ((Int32 × kS)) :=
  (F_X6_isBefore mo v5 v4).bind fun x149_1 => if x149_1 = 0 then F_X6_regent_164 c67 v1 v4 v5 mo else F_X6_regent_160 c67 v1 v5 mo
def F_X6_regent_144 (c67 : Int32 → Int32 → Int32 → kS → Option ((Int32 × kS))) (v1 : Int32) (v4 : Int32) (v5 : Int32) (v6 : Int32) (mo : kS) : Option ((Int32 × kS)) :=
  if v6 = 0 then F_X6_regent_149 c67 v1 v4 v5 mo else F_X6_regent_164 c67 v1 v4 v5 mo
def F_X6_regent_137 (c67 : Int32 → Int32 → Int32 → kS → Option ((Int32 × kS))) (s0 : Int32) (v1 : Int32) (v4 : Int32) (v5 : Int32) (mo : kS) : Option ((Int32 × kS)) :=
  if s0 < 0 then F_X6_regent_160 c67 v1 v5 mo else F_X6_regent_144 c67 v1 v4 v5 s0 mo
def F_X6_regent_118 (c67 : Int32 → Int32 → Int32 → kS → Option ((Int32 × kS))) (v1 : Int32) (v4 : Int32) (v5 : Int32) (mo : kS) : Option ((Int32 × kS)) :=
  F_X6_regent_137 c67 (-1) v1 v4 v5 mo
def F_X6_regent_122 (c67 : Int32 → Int32 → Int32 → kS → Option ((Int32 × kS))) (v1 : Int32) (v4 : Int32) (v5 : Int32) (mo : kS) : Option ((Int32 × kS)) :=
  (F_X6_steps v5 v1 mo).bind fun x122_1 => (F_X6_steps v4 v1 x122_1.2).bind fun x122_2 => F_X6_regent_137 c67 (x122_1.1 - x122_2.1) v1 v4 v5 x122_2.2
def F_X6_regent_112 (c67 : Int32 → Int32 → Int32 → kS → Option ((Int32 × kS))) (v1 : Int32) (v4 : Int32) (v5 : Int32) (mo : kS) : Option ((Int32 × kS)) :=
  if v4 = (-1) then F_X6_regent_118 c67 v1 v4 v5 mo else F_X6_regent_122 c67 v1 v4 v5 mo
def F_X6_regent_96 (c67 : Int32 → Int32 → Int32 → kS → Option ((Int32 × kS))) (v1 : Int32) (v4 : Int32) (v5 : Int32) (mo : kS) : Option ((Int32 × kS)) :=
  (F_X6_steps v5 v1 mo).bind fun x96_1 => if x96_1.1 = 999 then F_X6_regent_109 c67 v1 v4 v5 x96_1.2 else F_X6_regent_112 c67 v1 v4 v5 x96_1.2
def F_X6_regent_85 (c67 : Int32 → Int32 → Int32 → kS → Option ((Int32 × kS))) (v1 : Int32) (v4 : Int32) (v5 : Int32) (mo : kS) : Option ((Int32 × kS)) :=
  (F_X6_age mo v5).bind fun x85_1 => if x85_1 < 16 then F_X6_regent_164 c67 v1 v4 v5 mo else F_X6_regent_96 c67 v1 v4 v5 mo
def F_X6_regent_76 (c67 : Int32 → Int32 → Int32 → kS → Option ((Int32 × kS))) (v1 : Int32) (v4 : Int32) (v5 : Int32) (mo : kS) : Option ((Int32 × kS)) :=
  (F_X6_lives mo v5).bind fun x76_1 => if x76_1 = 0 then F_X6_regent_164 c67 v1 v4 v5 mo else F_X6_regent_85 c67 v1 v4 v5 mo
def F_X6_regent_170 (v4 : Int32) (mo : kS) : Option ((Int32 × kS)) :=
  some (v4, mo)
def F_X6_regent_67 : Nat → Int32 → Int32 → Int32 → kS → Option ((Int32 × kS))
  | 0, _, _, _, _ => none
  | n + 1, v1, v4, v5, mo => if (mo 7 1) ≤ v5 then F_X6_regent_170 v4 mo else F_X6_regent_76 (F_X6_regent_67 n) v1 v4 v5 mo
def F_X6_regent_61 (v1 : Int32) (mo : kS) : Option ((Int32 × kS)) :=
  F_X6_regent_67 kN v1 (-1) 0 mo
def F_X6_regent_51 (v1 : Int32) (v3 : Int32) (mo : kS) : Option ((Int32 × kS)) :=
  (F_X6_lives mo v3).bind fun x51_1 => if x51_1 = 0 then F_X6_regent_61 v1 mo else F_X6_regent_59 v3 mo
def F_X6_regent_46 (v1 : Int32) (v3 : Int32) (mo : kS) : Option ((Int32 × kS)) :=
  if v3 = (-1) then F_X6_regent_61 v1 mo else F_X6_regent_51 v1 v3 mo
def F_X6_regent_36 (v1 : Int32) (v2 : Int32) (v3 : Int32) (mo : kS) : Option ((Int32 × kS)) :=
  (F_X6_lives mo v2).bind fun x36_1 => if x36_1 = 0 then F_X6_regent_46 v1 v3 mo else F_X6_regent_44 v2 mo
def F_X6_regent_17 (v1 : Int32) (mo : kS) : Option ((Int32 × kS)) :=
  (F_X6_pe mo v1 3).bind fun x17_1 => (F_X6_pe mo v1 4).bind fun x17_2 => if x17_1 = (-1) then F_X6_regent_46 v1 x17_2 mo else F_X6_regent_36 v1 x17_1 x17_2 mo
def F_X6_regent_5 (v1 : Int32) (mo : kS) : Option ((Int32 × kS)) :=
  (F_X6_age mo v1).bind fun x5_1 => if x5_1 < 16 then F_X6_regent_17 v1 mo else F_X6_regent_15 mo
def F_X6_regent_0 (v1 : Int32) (mo : kS) : Option ((Int32 × kS)) :=
  if v1 = (-1) then F_X6_regent_15 mo else F_X6_regent_5 v1 mo
def F_X6_regent (v1 : Int32) (mo : kS) : Option ((Int32 × kS)) :=
  F_X6_regent_0 v1 mo
-- X6_worthOf
def F_X6_worthOf_33 (mo : kS) (c4 : Int32 → Int32 → Int32 → Option (Int32)) (s0 : Int32) (s1 : Int32) (v1 : Int32) (v3 : Int32) : Option (Int32) :=
  c4 v1 (s0 + s1) (v3 + 1)
def F_X6_worthOf_23 (mo : kS) (c4 : Int32 → Int32 → Int32 → Option (Int32)) (s0 : Int32) (v1 : Int32) (v3 : Int32) : Option (Int32) :=
  (F_X6_la mo v3 0).bind fun x23_1 => F_X6_worthOf_33 mo c4 s0 x23_1 v1 v3
def F_X6_worthOf_32 (mo : kS) (c4 : Int32 → Int32 → Int32 → Option (Int32)) (s0 : Int32) (v1 : Int32) (v3 : Int32) : Option (Int32) :=
  F_X6_worthOf_33 mo c4 s0 0 v1 v3
def F_X6_worthOf_12 (mo : kS) (c4 : Int32 → Int32 → Int32 → Option (Int32)) (v1 : Int32) (v2 : Int32) (v3 : Int32) : Option (Int32) :=
  (F_X6_la mo v3 2).bind fun x12_1 => if x12_1 = v1 then F_X6_worthOf_23 mo c4 v2 v1 v3 else F_X6_worthOf_32 mo c4 v2 v1 v3
def F_X6_worthOf_41 (mo : kS) (v2 : Int32) : Option (Int32) :=
  some v2
def F_X6_worthOf_4 (mo : kS) : Nat → Int32 → Int32 → Int32 → Option (Int32)
  | 0, _, _, _ => none
  | n + 1, v1, v2, v3 => if (mo 7 2) ≤ v3 then F_X6_worthOf_41 mo v2 else F_X6_worthOf_12 mo (F_X6_worthOf_4 mo n) v1 v2 v3
def F_X6_worthOf_0 (mo : kS) (v1 : Int32) : Option (Int32) :=
  F_X6_worthOf_4 mo kN v1 0 0
def F_X6_worthOf (mo : kS) (v1 : Int32) : Option (Int32) :=
  F_X6_worthOf_0 mo v1
-- X6_isFree
def F_X6_isFree_33 (mo : kS) (s0 : Int32) : Option (Int32) :=
  if ¬ (s0 = 0 ∨ s0 = 1) then none else some s0
def F_X6_isFree_28 (mo : kS) : Option (Int32) :=
  F_X6_isFree_33 mo 1
def F_X6_isFree_32 (mo : kS) : Option (Int32) :=
  F_X6_isFree_33 mo 0
def F_X6_isFree_18 (mo : kS) (v1 : Int32) : Option (Int32) :=
  (F_X6_pe mo v1 5).bind fun x18_1 => if x18_1 = (-1) then F_X6_isFree_28 mo else F_X6_isFree_32 mo
def F_X6_isFree_8 (mo : kS) (v1 : Int32) : Option (Int32) :=
  (F_X6_age mo v1).bind fun x8_1 => if x8_1 < 16 then F_X6_isFree_32 mo else F_X6_isFree_18 mo v1
def F_X6_isFree_0 (mo : kS) (v1 : Int32) : Option (Int32) :=
  (F_X6_lives mo v1).bind fun x0_1 => if x0_1 = 0 then F_X6_isFree_32 mo else F_X6_isFree_8 mo v1
def F_X6_isFree (mo : kS) (v1 : Int32) : Option (Int32) :=
  F_X6_isFree_0 mo v1
-- X6_canMarry
def F_X6_canMarry_46 (s0 : Int32) (mo : kS) : Option ((Int32 × kS)) :=
  if ¬ (s0 = 0 ∨ s0 = 1) then none else some (s0, mo)
def F_X6_canMarry_41 (mo : kS) : Option ((Int32 × kS)) :=
  F_X6_canMarry_46 1 mo
def F_X6_canMarry_45 (mo : kS) : Option ((Int32 × kS)) :=
  F_X6_canMarry_46 0 mo
def F_X6_canMarry_31 (v1 : Int32) (v2 : Int32) (mo : kS) : Option ((Int32 × kS)) :=
  (F_X6_steps v1 v2 mo).bind fun x31_1 => if x31_1.1 < 3 then F_X6_canMarry_45 x31_1.2 else F_X6_canMarry_41 x31_1.2
def F_X6_canMarry_16 (v1 : Int32) (v2 : Int32) (mo : kS) : Option ((Int32 × kS)) :=
  (F_X6_pe mo v1 0).bind fun x16_1 => (F_X6_pe mo v2 0).bind fun x16_2 => if x16_1 = x16_2 then F_X6_canMarry_45 mo else F_X6_canMarry_31 v1 v2 mo
def F_X6_canMarry_8 (v1 : Int32) (v2 : Int32) (mo : kS) : Option ((Int32 × kS)) :=
  (F_X6_isFree mo v2).bind fun x8_1 => if x8_1 = 0 then F_X6_canMarry_45 mo else F_X6_canMarry_16 v1 v2 mo
def F_X6_canMarry_0 (v1 : Int32) (v2 : Int32) (mo : kS) : Option ((Int32 × kS)) :=
  (F_X6_isFree mo v1).bind fun x0_1 => if x0_1 = 0 then F_X6_canMarry_45 mo else F_X6_canMarry_8 v1 v2 mo
def F_X6_canMarry (v1 : Int32) (v2 : Int32) (mo : kS) : Option ((Int32 × kS)) :=
  F_X6_canMarry_0 v1 v2 mo
-- X6_marry
def F_X6_marry_34 (mo : kS) : Option ((Int32 × kS)) :=
  (F_X6_fail 1 mo).bind fun x34_1 => some (x34_1.1, x34_1.2)
def F_X6_marry_74 (mo : kS) : Option ((Int32 × kS)) :=
  (F_X6_fail 2 mo).bind fun x74_1 => some (x74_1.1, x74_1.2)
def F_X6_marry_161 (v1 : Int32) (v2 : Int32) (mo : kS) : Option ((Int32 × kS)) :=
  (F_X6_worthOf mo v1).bind fun x161_1 => (F_X6_worthOf mo v2).bind fun x161_2 => some ((x161_1 + x161_2), mo)
def F_X6_marry_150 (v1 : Int32) (v2 : Int32) (v3 : Int32) (v4 : Int32) (mo : kS) : Option ((Int32 × kS)) :=
  (F_X6_rule v3 ((v1 + v2) - v4) mo).bind fun x150_1 => F_X6_marry_161 v1 v2 x150_1
def F_X6_marry_109 (s0 : Int32) (v1 : Int32) (v2 : Int32) (v3 : Int32) (mo : kS) : Option ((Int32 × kS)) :=
  (F_X6_set v1 7 v3 mo).bind fun x109_1 => (F_X6_set v2 7 v3 x109_1).bind fun x109_2 => (F_X6_set v1 8 s0 x109_2).bind fun x109_3 => (F_X6_set v2 8 s0 x109_3).bind fun x109_4 => if v3 = (-1) then F_X6_marry_161 v1 v2 x109_4 else F_X6_marry_150 v1 v2 v3 s0 x109_4
def F_X6_marry_99 (v1 : Int32) (v2 : Int32) (v3 : Int32) (mo : kS) : Option ((Int32 × kS)) :=
  F_X6_marry_109 (-1) v1 v2 v3 mo
def F_X6_marry_103 (v1 : Int32) (v2 : Int32) (v3 : Int32) (mo : kS) : Option ((Int32 × kS)) :=
  (F_X6_la mo v3 2).bind fun x103_1 => F_X6_marry_109 x103_1 v1 v2 v3 mo
def F_X6_marry_80 (v1 : Int32) (v2 : Int32) (v3 : Int32) (mo : kS) : Option ((Int32 × kS)) :=
  (F_X6_set v1 5 v2 mo).bind fun x80_1 => (F_X6_set v2 5 v1 x80_1).bind fun x80_2 => if v3 = (-1) then F_X6_marry_99 v1 v2 v3 x80_2 else F_X6_marry_103 v1 v2 v3 x80_2
def F_X6_marry_64 (v1 : Int32) (v2 : Int32) (v3 : Int32) (mo : kS) : Option ((Int32 × kS)) :=
  (F_X6_la mo v3 2).bind fun x64_1 => if x64_1 = v2 then F_X6_marry_80 v1 v2 v3 mo else F_X6_marry_74 mo
def F_X6_marry_54 (v1 : Int32) (v2 : Int32) (v3 : Int32) (mo : kS) : Option ((Int32 × kS)) :=
  (F_X6_la mo v3 2).bind fun x54_1 => if x54_1 = v1 then F_X6_marry_80 v1 v2 v3 mo else F_X6_marry_64 v1 v2 v3 mo
def F_X6_marry_49 (v1 : Int32) (v2 : Int32) (v3 : Int32) (mo : kS) : Option ((Int32 × kS)) :=
  if v3 = (-1) then F_X6_marry_80 v1 v2 v3 mo else F_X6_marry_54 v1 v2 v3 mo
def F_X6_marry_40 (v1 : Int32) (v2 : Int32) (v3 : Int32) (mo : kS) : Option ((Int32 × kS)) :=
  (F_X6_canMarry v1 v2 mo).bind fun x40_1 => if x40_1.1 = 0 then F_X6_marry_74 x40_1.2 else F_X6_marry_49 v1 v2 v3 x40_1.2
def F_X6_marry_26 (v1 : Int32) (v2 : Int32) (v3 : Int32) (mo : kS) : Option ((Int32 × kS)) :=
  (F_X6_isLand mo v3).bind fun x26_1 => if x26_1 = 0 then F_X6_marry_34 mo else F_X6_marry_40 v1 v2 v3 mo
def F_X6_marry_21 (v1 : Int32) (v2 : Int32) (v3 : Int32) (mo : kS) : Option ((Int32 × kS)) :=
  if v3 = (-1) then F_X6_marry_40 v1 v2 v3 mo else F_X6_marry_26 v1 v2 v3 mo
def F_X6_marry_13 (v1 : Int32) (v2 : Int32) (v3 : Int32) (mo : kS) : Option ((Int32 × kS)) :=
  (F_X6_isPerson mo v2).bind fun x13_1 => if x13_1 = 0 then F_X6_marry_34 mo else F_X6_marry_21 v1 v2 v3 mo
def F_X6_marry_0 (v1 : Int32) (v2 : Int32) (v3 : Int32) (mo : kS) : Option ((Int32 × kS)) :=
  (F_X6_isPerson (kst mo 7 (upd (mo 7) 0 0)) v1).bind fun x0_1 => if x0_1 = 0 then F_X6_marry_34 (kst mo 7 (upd (mo 7) 0 0)) else F_X6_marry_13 v1 v2 v3 (kst mo 7 (upd (mo 7) 0 0))
def F_X6_marry (v1 : Int32) (v2 : Int32) (v3 : Int32) (mo : kS) : Option ((Int32 × kS)) :=
  F_X6_marry_0 v1 v2 v3 mo
-- X6_part
def F_X6_part_12 (mo : kS) : Option (kS × Nat × Nat) :=
  some (mo, 0, 0)
def F_X6_part_45 (c38 : Int32 → Int32 → Int32 → Int32 → (Nat → Int32) → kS → Option (kS × Nat × Nat)) (v1 : Int32) (v2 : Int32) (v4 : Int32) (v5 : Int32) (xf : (Nat → Int32)) (mo : kS) : Option (kS × Nat × Nat) :=
  if (v5 < 0 ∨ 3 ≤ v5.toNatClampNeg) then none else (F_X6_set v1 (xf v5.toNatClampNeg) (-1) mo).bind fun x45_2 => (F_X6_set v2 (xf v5.toNatClampNeg) (-1) x45_2).bind fun x45_3 => c38 v1 v2 v4 (v5 + 1) xf x45_3
def F_X6_part_73 (mo : kS) : Option (kS × Nat × Nat) :=
  some (mo, 0, 0)
def F_X6_part_38 : Nat → Int32 → Int32 → Int32 → Int32 → (Nat → Int32) → kS → Option (kS × Nat × Nat)
  | 0, _, _, _, _, _, _ => none
  | n + 1, v1, v2, v4, v5, xf, mo => if v4 ≤ v5 then F_X6_part_73 mo else F_X6_part_45 (F_X6_part_38 n) v1 v2 v4 v5 xf mo
def F_X6_part_13 (v1 : Int32) (v2 : Int32) (mo : kS) : Option (kS × Nat × Nat) :=
  kadd 1 3 (if ((0 : Int32) < 0 ∨ 3 ≤ (0 : Int32).toNatClampNeg) then none else if ((1 : Int32) < 0 ∨ 3 ≤ (1 : Int32).toNatClampNeg) then none else if ((2 : Int32) < 0 ∨ 3 ≤ (2 : Int32).toNatClampNeg) then none else F_X6_part_38 kN v1 v2 3 0 (upd (upd (upd (fun _ => 0) (0 : Int32).toNatClampNeg 5) (1 : Int32).toNatClampNeg 7) (2 : Int32).toNatClampNeg 8) mo)
def F_X6_part_0 (v1 : Int32) (mo : kS) : Option (kS × Nat × Nat) :=
  (F_X6_pe mo v1 5).bind fun x0_1 => if x0_1 = (-1) then F_X6_part_12 mo else F_X6_part_13 v1 x0_1 mo
def F_X6_part (v1 : Int32) (mo : kS) : Option (kS × Nat × Nat) :=
  F_X6_part_0 v1 mo
-- X6_annul
def F_X6_annul_13 (mo : kS) : Option ((Int32 × kS) × Nat × Nat) :=
  (F_X6_fail 1 mo).bind fun x13_1 => some ((x13_1.1, x13_1.2), 0, 0)
def F_X6_annul_31 (mo : kS) : Option ((Int32 × kS) × Nat × Nat) :=
  (F_X6_fail 2 mo).bind fun x31_1 => some ((x31_1.1, x31_1.2), 0, 0)
def F_X6_annul_79 (mo : kS) : Option ((Int32 × kS) × Nat × Nat) :=
  some (((-1), mo), 0, 0)
def F_X6_annul_81 (v3 : Int32) (v4 : Int32) (mo : kS) : Option ((Int32 × kS) × Nat × Nat) :=
  (F_X6_rule v3 v4 mo).bind fun x81_1 => some ((v3, x81_1), 0, 0)
def F_X6_annul_64 (v1 : Int32) (v2 : Int32) (v3 : Int32) (v4 : Int32) (mo : kS) : Option ((Int32 × kS) × Nat × Nat) :=
  (F_X6_la mo v3 2).bind fun x64_1 => if x64_1 = ((v1 + v2) - v4) then F_X6_annul_81 v3 v4 mo else F_X6_annul_79 mo
def F_X6_annul_37 (v1 : Int32) (v2 : Int32) (mo : kS) : Option ((Int32 × kS) × Nat × Nat) :=
  (F_X6_pe mo v1 7).bind fun x37_1 => (F_X6_pe mo v1 8).bind fun x37_2 => (F_X6_part v1 mo).bind fun x37_3 => kadd x37_3.2.1 x37_3.2.2 (if x37_1 = (-1) then F_X6_annul_79 x37_3.1 else F_X6_annul_64 v1 v2 x37_1 x37_2 x37_3.1)
def F_X6_annul_19 (v1 : Int32) (mo : kS) : Option ((Int32 × kS) × Nat × Nat) :=
  (F_X6_pe mo v1 5).bind fun x19_1 => if x19_1 = (-1) then F_X6_annul_31 mo else F_X6_annul_37 v1 x19_1 mo
def F_X6_annul_0 (v1 : Int32) (mo : kS) : Option ((Int32 × kS) × Nat × Nat) :=
  (F_X6_isPerson (kst mo 7 (upd (mo 7) 0 0)) v1).bind fun x0_1 => if x0_1 = 0 then F_X6_annul_13 (kst mo 7 (upd (mo 7) 0 0)) else F_X6_annul_19 v1 (kst mo 7 (upd (mo 7) 0 0))
def F_X6_annul (v1 : Int32) (mo : kS) : Option ((Int32 × kS) × Nat × Nat) :=
  F_X6_annul_0 v1 mo
-- X6_dies
def F_X6_dies_42 (c4 : Int32 → Int32 → Int32 → kS → Option ((Int32 × kS) × Nat × Nat)) (s1 : Int32) (s2 : Int32) (v1 : Int32) (v2 : Int32) (v3 : Int32) (mo : kS) : Option ((Int32 × kS) × Nat × Nat) :=
  if (s1 < 0 ∨ 12 ≤ s1.toNatClampNeg) then none else c4 v1 v2 (v3 + 1) (kst mo 14 (upd (mo 14) s1.toNatClampNeg s2))
def F_X6_dies_27 (c4 : Int32 → Int32 → Int32 → kS → Option ((Int32 × kS) × Nat × Nat)) (s1 : Int32) (v1 : Int32) (v2 : Int32) (v3 : Int32) (mo : kS) : Option ((Int32 × kS) × Nat × Nat) :=
  (F_X6_la mo v3 1).bind fun x27_1 => (F_X6_heir v1 x27_1 mo).bind fun x27_2 => F_X6_dies_42 c4 s1 x27_2.1 v1 v2 v3 x27_2.2
def F_X6_dies_41 (c4 : Int32 → Int32 → Int32 → kS → Option ((Int32 × kS) × Nat × Nat)) (s1 : Int32) (v1 : Int32) (v2 : Int32) (v3 : Int32) (mo : kS) : Option ((Int32 × kS) × Nat × Nat) :=
  F_X6_dies_42 c4 s1 (-1) v1 v2 v3 mo
def F_X6_dies_12 (c4 : Int32 → Int32 → Int32 → kS → Option ((Int32 × kS) × Nat × Nat)) (v1 : Int32) (v2 : Int32) (v3 : Int32) (mo : kS) : Option ((Int32 × kS) × Nat × Nat) :=
  (F_X6_la mo v3 2).bind fun x12_1 => if x12_1 = v1 then F_X6_dies_27 c4 v3 v1 v2 v3 mo else F_X6_dies_41 c4 v3 v1 v2 v3 mo
def F_X6_dies_106 (c71 : Int32 → Int32 → Int32 → kS → Option ((Int32 × kS) × Nat × Nat)) (v1 : Int32) (v2 : Int32) (v3 : Int32) (mo : kS) : Option ((Int32 × kS) × Nat × Nat) :=
  c71 v1 v2 (v3 + 1) mo
def F_X6_dies_89 (c71 : Int32 → Int32 → Int32 → kS → Option ((Int32 × kS) × Nat × Nat)) (v1 : Int32) (v2 : Int32) (v3 : Int32) (mo : kS) : Option ((Int32 × kS) × Nat × Nat) :=
  F_X6_dies_106 c71 v1 v2 v3 mo
def F_X6_dies_92 (c71 : Int32 → Int32 → Int32 → kS → Option ((Int32 × kS) × Nat × Nat)) (v1 : Int32) (v2 : Int32) (v3 : Int32) (mo : kS) : Option ((Int32 × kS) × Nat × Nat) :=
  if (v3 < 0 ∨ 12 ≤ v3.toNatClampNeg) then none else (F_X6_rule v3 (mo 14 v3.toNatClampNeg) mo).bind fun x92_2 => F_X6_dies_106 c71 v1 (v2 + 1) v3 x92_2
def F_X6_dies_79 (c71 : Int32 → Int32 → Int32 → kS → Option ((Int32 × kS) × Nat × Nat)) (v1 : Int32) (v2 : Int32) (v3 : Int32) (mo : kS) : Option ((Int32 × kS) × Nat × Nat) :=
  (F_X6_la mo v3 2).bind fun x79_1 => if x79_1 = v1 then F_X6_dies_92 c71 v1 v2 v3 mo else F_X6_dies_89 c71 v1 v2 v3 mo
def F_X6_dies_112 (v1 : Int32) (v2 : Int32) (mo : kS) : Option ((Int32 × kS) × Nat × Nat) :=
  (F_X6_part v1 mo).bind fun x112_1 => kadd x112_1.2.1 x112_1.2.2 (some ((v2, x112_1.1), 0, 0))
def F_X6_dies_71 : Nat → Int32 → Int32 → Int32 → kS → Option ((Int32 × kS) × Nat × Nat)
  | 0, _, _, _, _ => none
  | n + 1, v1, v2, v3, mo => if (mo 7 2) ≤ v3 then F_X6_dies_112 v1 v2 mo else F_X6_dies_79 (F_X6_dies_71 n) v1 v2 v3 mo
def F_X6_dies_49 (v1 : Int32) (v2 : Int32) (mo : kS) : Option ((Int32 × kS) × Nat × Nat) :=
  (F_X6_set v1 2 0 mo).bind fun x49_1 => if ((0 : Int32) < 0 ∨ 1 ≤ (0 : Int32).toNatClampNeg) then none else (F_X6_set v1 6 (x49_1 11 (0 : Int32).toNatClampNeg) x49_1).bind fun x49_3 => F_X6_dies_71 kN v1 v2 0 x49_3
def F_X6_dies_4 : Nat → Int32 → Int32 → Int32 → kS → Option ((Int32 × kS) × Nat × Nat)
  | 0, _, _, _, _ => none
  | n + 1, v1, v2, v3, mo => if (mo 7 2) ≤ v3 then F_X6_dies_49 v1 v2 mo else F_X6_dies_12 (F_X6_dies_4 n) v1 v2 v3 mo
def F_X6_dies_0 (v1 : Int32) (mo : kS) : Option ((Int32 × kS) × Nat × Nat) :=
  F_X6_dies_4 kN v1 0 0 mo
def F_X6_dies (v1 : Int32) (mo : kS) : Option ((Int32 × kS) × Nat × Nat) :=
  F_X6_dies_0 v1 mo
-- X6_die
def F_X6_die_13 (mo : kS) : Option ((Int32 × kS) × Nat × Nat) :=
  (F_X6_fail 1 mo).bind fun x13_1 => some ((x13_1.1, x13_1.2), 0, 0)
def F_X6_die_40 (s0 : Int32) (mo : kS) : Option ((Int32 × kS) × Nat × Nat) :=
  some ((s0, mo), 0, 0)
def F_X6_die_27 (v1 : Int32) (mo : kS) : Option ((Int32 × kS) × Nat × Nat) :=
  (F_X6_dies v1 mo).bind fun x27_1 => kadd x27_1.2.1 x27_1.2.2 (F_X6_die_40 x27_1.1.1 x27_1.1.2)
def F_X6_die_35 (mo : kS) : Option ((Int32 × kS) × Nat × Nat) :=
  (F_X6_fail 2 mo).bind fun x35_1 => F_X6_die_40 x35_1.1 x35_1.2
def F_X6_die_19 (v1 : Int32) (mo : kS) : Option ((Int32 × kS) × Nat × Nat) :=
  (F_X6_lives mo v1).bind fun x19_1 => if x19_1 = 0 then F_X6_die_35 mo else F_X6_die_27 v1 mo
def F_X6_die_0 (v1 : Int32) (mo : kS) : Option ((Int32 × kS) × Nat × Nat) :=
  (F_X6_isPerson (kst mo 7 (upd (mo 7) 0 0)) v1).bind fun x0_1 => if x0_1 = 0 then F_X6_die_13 (kst mo 7 (upd (mo 7) 0 0)) else F_X6_die_19 v1 (kst mo 7 (upd (mo 7) 0 0))
def F_X6_die (v1 : Int32) (mo : kS) : Option ((Int32 × kS) × Nat × Nat) :=
  F_X6_die_0 v1 mo
-- X6_personTold
def F_X6_personTold_56 (mo : kS) (v1 : Int32) : Option (Int32) :=
  (F_X6_pe mo v1 0).bind fun x56_1 => some x56_1
def F_X6_personTold_91 (mo : kS) (c66 : Int32 → Int32 → Int32 → Option (Int32)) (s0 : Int32) (s1 : Int32) (v1 : Int32) (v4 : Int32) : Option (Int32) :=
  c66 v1 (s0 + s1) (v4 + 1)
def F_X6_personTold_86 (mo : kS) (c66 : Int32 → Int32 → Int32 → Option (Int32)) (s0 : Int32) (v1 : Int32) (v4 : Int32) : Option (Int32) :=
  F_X6_personTold_91 mo c66 s0 1 v1 v4
def F_X6_personTold_90 (mo : kS) (c66 : Int32 → Int32 → Int32 → Option (Int32)) (s0 : Int32) (v1 : Int32) (v4 : Int32) : Option (Int32) :=
  F_X6_personTold_91 mo c66 s0 0 v1 v4
def F_X6_personTold_75 (mo : kS) (c66 : Int32 → Int32 → Int32 → Option (Int32)) (v1 : Int32) (v3 : Int32) (v4 : Int32) : Option (Int32) :=
  (F_X6_isChild mo v4 v1).bind fun x75_1 => if x75_1 = 0 then F_X6_personTold_90 mo c66 v3 v1 v4 else F_X6_personTold_86 mo c66 v3 v1 v4
def F_X6_personTold_99 (mo : kS) (v3 : Int32) : Option (Int32) :=
  some v3
def F_X6_personTold_66 (mo : kS) : Nat → Int32 → Int32 → Int32 → Option (Int32)
  | 0, _, _, _ => none
  | n + 1, v1, v3, v4 => if (mo 7 1) ≤ v4 then F_X6_personTold_99 mo v3 else F_X6_personTold_75 mo (F_X6_personTold_66 mo n) v1 v3 v4
def F_X6_personTold_63 (mo : kS) (v1 : Int32) (v3 : Int32) : Option (Int32) :=
  F_X6_personTold_66 mo kN v1 v3 0
def F_X6_personTold_130 (mo : kS) (c104 : Int32 → Int32 → Int32 → Option (Int32)) (s0 : Int32) (s1 : Int32) (v1 : Int32) (v4 : Int32) : Option (Int32) :=
  c104 v1 (s0 + s1) (v4 + 1)
def F_X6_personTold_125 (mo : kS) (c104 : Int32 → Int32 → Int32 → Option (Int32)) (s0 : Int32) (v1 : Int32) (v4 : Int32) : Option (Int32) :=
  F_X6_personTold_130 mo c104 s0 1 v1 v4
def F_X6_personTold_129 (mo : kS) (c104 : Int32 → Int32 → Int32 → Option (Int32)) (s0 : Int32) (v1 : Int32) (v4 : Int32) : Option (Int32) :=
  F_X6_personTold_130 mo c104 s0 0 v1 v4
def F_X6_personTold_113 (mo : kS) (c104 : Int32 → Int32 → Int32 → Option (Int32)) (v1 : Int32) (v3 : Int32) (v4 : Int32) : Option (Int32) :=
  (F_X6_la mo v4 2).bind fun x113_1 => if x113_1 = v1 then F_X6_personTold_125 mo c104 v3 v1 v4 else F_X6_personTold_129 mo c104 v3 v1 v4
def F_X6_personTold_138 (mo : kS) (v3 : Int32) : Option (Int32) :=
  some v3
def F_X6_personTold_104 (mo : kS) : Nat → Int32 → Int32 → Int32 → Option (Int32)
  | 0, _, _, _ => none
  | n + 1, v1, v3, v4 => if (mo 7 2) ≤ v4 then F_X6_personTold_138 mo v3 else F_X6_personTold_113 mo (F_X6_personTold_104 mo n) v1 v3 v4
def F_X6_personTold_101 (mo : kS) (v1 : Int32) (v3 : Int32) : Option (Int32) :=
  F_X6_personTold_104 mo kN v1 v3 0
def F_X6_personTold_140 (mo : kS) (v1 : Int32) : Option (Int32) :=
  (F_X6_worthOf mo v1).bind fun x140_1 => some x140_1
def F_X6_personTold_146 (mo : kS) (v1 : Int32) : Option (Int32) :=
  (F_X6_pe mo v1 6).bind fun x146_1 => some x146_1
def F_X6_personTold_154 (mo : kS) (v1 : Int32) (v2 : Int32) : Option (Int32) :=
  (F_X6_pe mo v1 v2).bind fun x154_1 => some x154_1
def F_X6_personTold_0 (mo : kS) (v1 : Int32) (v2 : Int32) : Option (Int32) :=
  if v2 = 0 then F_X6_personTold_56 mo v1 else if v2 = 1 then F_X6_personTold_154 mo v1 v2 else if v2 = 2 then F_X6_personTold_154 mo v1 v2 else if v2 = 3 then F_X6_personTold_154 mo v1 v2 else if v2 = 4 then F_X6_personTold_154 mo v1 v2 else if v2 = 5 then F_X6_personTold_154 mo v1 v2 else if v2 = 6 then F_X6_personTold_63 mo v1 0 else if v2 = 7 then F_X6_personTold_101 mo v1 0 else if v2 = 8 then F_X6_personTold_140 mo v1 else if v2 = 9 then F_X6_personTold_146 mo v1 else F_X6_personTold_154 mo v1 v2
def F_X6_personTold (mo : kS) (v1 : Int32) (v2 : Int32) : Option (Int32) :=
  F_X6_personTold_0 mo v1 v2
-- X6_person_
def F_X6_person__37 (s0 : Int32) (mo : kS) : Option ((Int32 × kS)) :=
  some (s0, mo)
def F_X6_person__23 (v1 : Int32) (v2 : Int32) (mo : kS) : Option ((Int32 × kS)) :=
  (F_X6_personTold mo v1 v2).bind fun x23_1 => F_X6_person__37 x23_1 mo
def F_X6_person__32 (mo : kS) : Option ((Int32 × kS)) :=
  (F_X6_fail 1 mo).bind fun x32_1 => F_X6_person__37 x32_1.1 x32_1.2
def F_X6_person__13 (v1 : Int32) (v2 : Int32) (mo : kS) : Option ((Int32 × kS)) :=
  (F_X6_isIn mo v2 0 9).bind fun x13_1 => if x13_1 = 0 then F_X6_person__32 mo else F_X6_person__23 v1 v2 mo
def F_X6_person__0 (v1 : Int32) (v2 : Int32) (mo : kS) : Option ((Int32 × kS)) :=
  (F_X6_isPerson (kst mo 7 (upd (mo 7) 0 0)) v1).bind fun x0_1 => if x0_1 = 0 then F_X6_person__32 (kst mo 7 (upd (mo 7) 0 0)) else F_X6_person__13 v1 v2 (kst mo 7 (upd (mo 7) 0 0))
def F_X6_person_ (v1 : Int32) (v2 : Int32) (mo : kS) : Option ((Int32 × kS)) :=
  F_X6_person__0 v1 v2 mo
-- X6_landTold
def F_X6_landTold_12 (v1 : Int32) (v2 : Int32) (mo : kS) : Option ((Int32 × kS)) :=
  (F_X6_la mo v1 v2).bind fun x12_1 => some (x12_1, mo)
def F_X6_landTold_66 (s0 : Int32) (mo : kS) : Option ((Int32 × kS)) :=
  some (s0, mo)
def F_X6_landTold_24 (v3 : Int32) (mo : kS) : Option ((Int32 × kS)) :=
  (F_X6_regent v3 mo).bind fun x24_1 => F_X6_landTold_66 x24_1.1 x24_1.2
def F_X6_landTold_37 (v1 : Int32) (mo : kS) : Option ((Int32 × kS)) :=
  (F_X6_la mo v1 3).bind fun x37_1 => F_X6_landTold_66 x37_1 mo
def F_X6_landTold_51 (mo : kS) : Option ((Int32 × kS)) :=
  F_X6_landTold_66 (-1) mo
def F_X6_landTold_55 (v1 : Int32) (v3 : Int32) (mo : kS) : Option ((Int32 × kS)) :=
  (F_X6_la mo v1 1).bind fun x55_1 => (F_X6_heir v3 x55_1 mo).bind fun x55_2 => F_X6_landTold_66 x55_2.1 x55_2.2
def F_X6_landTold_46 (v1 : Int32) (v3 : Int32) (mo : kS) : Option ((Int32 × kS)) :=
  if v3 = (-1) then F_X6_landTold_51 mo else F_X6_landTold_55 v1 v3 mo
def F_X6_landTold_32 (v1 : Int32) (v2 : Int32) (v3 : Int32) (mo : kS) : Option ((Int32 × kS)) :=
  if v2 = 5 then F_X6_landTold_37 v1 mo else F_X6_landTold_46 v1 v3 mo
def F_X6_landTold_19 (v1 : Int32) (v2 : Int32) (v3 : Int32) (mo : kS) : Option ((Int32 × kS)) :=
  if v2 = 3 then F_X6_landTold_24 v3 mo else F_X6_landTold_32 v1 v2 v3 mo
def F_X6_landTold_0 (v1 : Int32) (v2 : Int32) (mo : kS) : Option ((Int32 × kS)) :=
  (F_X6_la mo v1 2).bind fun x0_1 => if 3 ≤ v2 then F_X6_landTold_19 v1 v2 x0_1 mo else F_X6_landTold_12 v1 v2 mo
def F_X6_landTold (v1 : Int32) (v2 : Int32) (mo : kS) : Option ((Int32 × kS)) :=
  F_X6_landTold_0 v1 v2 mo
-- X6_land
def F_X6_land_36 (s0 : Int32) (mo : kS) : Option ((Int32 × kS)) :=
  some (s0, mo)
def F_X6_land_22 (v1 : Int32) (v2 : Int32) (mo : kS) : Option ((Int32 × kS)) :=
  (F_X6_landTold v1 v2 mo).bind fun x22_1 => F_X6_land_36 x22_1.1 x22_1.2
def F_X6_land_31 (mo : kS) : Option ((Int32 × kS)) :=
  (F_X6_fail 1 mo).bind fun x31_1 => F_X6_land_36 x31_1.1 x31_1.2
def F_X6_land_13 (v1 : Int32) (v2 : Int32) (mo : kS) : Option ((Int32 × kS)) :=
  (F_X6_isIn mo v2 0 5).bind fun x13_1 => if x13_1 = 0 then F_X6_land_31 mo else F_X6_land_22 v1 v2 mo
def F_X6_land_0 (v1 : Int32) (v2 : Int32) (mo : kS) : Option ((Int32 × kS)) :=
  (F_X6_isLand (kst mo 7 (upd (mo 7) 0 0)) v1).bind fun x0_1 => if x0_1 = 0 then F_X6_land_31 (kst mo 7 (upd (mo 7) 0 0)) else F_X6_land_13 v1 v2 (kst mo 7 (upd (mo 7) 0 0))
def F_X6_land (v1 : Int32) (v2 : Int32) (mo : kS) : Option ((Int32 × kS)) :=
  F_X6_land_0 v1 v2 mo
-- X6_kept
def F_X6_kept_0 (mo : kS) (v1 : Int32) : Option (Int32) :=
  (F_X6_la mo v1 3).bind fun x0_1 => some (if x0_1 < 15 then x0_1 else 15)
def F_X6_kept (mo : kS) (v1 : Int32) : Option (Int32) :=
  F_X6_kept_0 mo v1
-- X6_ruled
def F_X6_ruled_47 (s0 : Int32) (mo : kS) : Option ((Int32 × kS)) :=
  some (s0, mo)
def F_X6_ruled_28 (v1 : Int32) (v2 : Int32) (mo : kS) : Option ((Int32 × kS)) :=
  if (((15 * v1) + v2) < 0 ∨ 180 ≤ ((15 * v1) + v2).toNatClampNeg) then none else F_X6_ruled_47 (mo 10 ((15 * v1) + v2).toNatClampNeg) mo
def F_X6_ruled_42 (mo : kS) : Option ((Int32 × kS)) :=
  (F_X6_fail 1 mo).bind fun x42_1 => F_X6_ruled_47 x42_1.1 x42_1.2
def F_X6_ruled_13 (v1 : Int32) (v2 : Int32) (mo : kS) : Option ((Int32 × kS)) :=
  (F_X6_kept mo v1).bind fun x13_1 => (F_X6_isIn mo v2 0 (x13_1 - 1)).bind fun x13_2 => if x13_2 = 0 then F_X6_ruled_42 mo else F_X6_ruled_28 v1 v2 mo
def F_X6_ruled_0 (v1 : Int32) (v2 : Int32) (mo : kS) : Option ((Int32 × kS)) :=
  (F_X6_isLand (kst mo 7 (upd (mo 7) 0 0)) v1).bind fun x0_1 => if x0_1 = 0 then F_X6_ruled_42 (kst mo 7 (upd (mo 7) 0 0)) else F_X6_ruled_13 v1 v2 (kst mo 7 (upd (mo 7) 0 0))
def F_X6_ruled (v1 : Int32) (v2 : Int32) (mo : kS) : Option ((Int32 × kS)) :=
  F_X6_ruled_0 v1 v2 mo
-- X6_related
def F_X6_related_21 (mo : kS) : Option ((Int32 × kS)) :=
  (F_X6_fail 1 mo).bind fun x21_1 => some (x21_1.1, x21_1.2)
def F_X6_related_49 (s0 : Int32) (mo : kS) : Option ((Int32 × kS)) :=
  some (s0, mo)
def F_X6_related_39 (mo : kS) : Option ((Int32 × kS)) :=
  F_X6_related_49 (-1) mo
def F_X6_related_43 (v1 : Int32) (v2 : Int32) (mo : kS) : Option ((Int32 × kS)) :=
  (F_X6_steps v1 v2 mo).bind fun x43_1 => F_X6_related_49 x43_1.1 x43_1.2
def F_X6_related_27 (v1 : Int32) (v2 : Int32) (mo : kS) : Option ((Int32 × kS)) :=
  (F_X6_steps v1 v2 mo).bind fun x27_1 => if x27_1.1 = 999 then F_X6_related_39 x27_1.2 else F_X6_related_43 v1 v2 x27_1.2
def F_X6_related_13 (v1 : Int32) (v2 : Int32) (mo : kS) : Option ((Int32 × kS)) :=
  (F_X6_isPerson mo v2).bind fun x13_1 => if x13_1 = 0 then F_X6_related_21 mo else F_X6_related_27 v1 v2 mo
def F_X6_related_0 (v1 : Int32) (v2 : Int32) (mo : kS) : Option ((Int32 × kS)) :=
  (F_X6_isPerson (kst mo 7 (upd (mo 7) 0 0)) v1).bind fun x0_1 => if x0_1 = 0 then F_X6_related_21 (kst mo 7 (upd (mo 7) 0 0)) else F_X6_related_13 v1 v2 (kst mo 7 (upd (mo 7) 0 0))
def F_X6_related (v1 : Int32) (v2 : Int32) (mo : kS) : Option ((Int32 × kS)) :=
  F_X6_related_0 v1 v2 mo
-- X6_rulesNow
def F_X6_rulesNow_15 (mo : kS) (s0 : Int32) : Option (Int32) :=
  if ¬ (s0 = 0 ∨ s0 = 1) then none else some s0
def F_X6_rulesNow_10 (mo : kS) : Option (Int32) :=
  F_X6_rulesNow_15 mo 1
def F_X6_rulesNow_14 (mo : kS) : Option (Int32) :=
  F_X6_rulesNow_15 mo 0
def F_X6_rulesNow_0 (mo : kS) (v1 : Int32) : Option (Int32) :=
  (F_X6_personTold mo v1 7).bind fun x0_1 => if x0_1 ≤ 0 then F_X6_rulesNow_14 mo else F_X6_rulesNow_10 mo
def F_X6_rulesNow (mo : kS) (v1 : Int32) : Option (Int32) :=
  F_X6_rulesNow_0 mo v1
-- X6_counted
def F_X6_counted_40 (mo : kS) : Option (Int32) :=
  if ((0 : Int32) < 0 ∨ 1 ≤ (0 : Int32).toNatClampNeg) then none else some (mo 11 (0 : Int32).toNatClampNeg)
def F_X6_counted_47 (mo : kS) : Option (Int32) :=
  some (mo 7 1)
def F_X6_counted_62 (mo : kS) (c54 : Int32 → Int32 → Option (Int32)) (v2 : Int32) (v3 : Int32) : Option (Int32) :=
  (F_X6_pe mo v3 2).bind fun x62_1 => c54 (v2 + x62_1) (v3 + 1)
def F_X6_counted_77 (mo : kS) (v2 : Int32) : Option (Int32) :=
  some v2
def F_X6_counted_54 (mo : kS) : Nat → Int32 → Int32 → Option (Int32)
  | 0, _, _ => none
  | n + 1, v2, v3 => if (mo 7 1) ≤ v3 then F_X6_counted_77 mo v2 else F_X6_counted_62 mo (F_X6_counted_54 mo n) v2 v3
def F_X6_counted_52 (mo : kS) (v2 : Int32) : Option (Int32) :=
  F_X6_counted_54 mo kN v2 0
def F_X6_counted_105 (mo : kS) (c81 : Int32 → Int32 → Option (Int32)) (s0 : Int32) (s1 : Int32) (v3 : Int32) : Option (Int32) :=
  c81 (s0 + s1) (v3 + 1)
def F_X6_counted_100 (mo : kS) (c81 : Int32 → Int32 → Option (Int32)) (s0 : Int32) (v3 : Int32) : Option (Int32) :=
  F_X6_counted_105 mo c81 s0 1 v3
def F_X6_counted_104 (mo : kS) (c81 : Int32 → Int32 → Option (Int32)) (s0 : Int32) (v3 : Int32) : Option (Int32) :=
  F_X6_counted_105 mo c81 s0 0 v3
def F_X6_counted_89 (mo : kS) (c81 : Int32 → Int32 → Option (Int32)) (v2 : Int32) (v3 : Int32) : Option (Int32) :=
  (F_X6_pe mo v3 5).bind fun x89_1 => if x89_1 ≤ v3 then F_X6_counted_104 mo c81 v2 v3 else F_X6_counted_100 mo c81 v2 v3
def F_X6_counted_113 (mo : kS) (v2 : Int32) : Option (Int32) :=
  some v2
def F_X6_counted_81 (mo : kS) : Nat → Int32 → Int32 → Option (Int32)
  | 0, _, _ => none
  | n + 1, v2, v3 => if (mo 7 1) ≤ v3 then F_X6_counted_113 mo v2 else F_X6_counted_89 mo (F_X6_counted_81 mo n) v2 v3
def F_X6_counted_79 (mo : kS) (v2 : Int32) : Option (Int32) :=
  F_X6_counted_81 mo kN v2 0
def F_X6_counted_115 (mo : kS) : Option (Int32) :=
  some (mo 7 2)
def F_X6_counted_146 (mo : kS) (c122 : Int32 → Int32 → Option (Int32)) (s0 : Int32) (s1 : Int32) (v3 : Int32) : Option (Int32) :=
  c122 (s0 + s1) (v3 + 1)
def F_X6_counted_141 (mo : kS) (c122 : Int32 → Int32 → Option (Int32)) (s0 : Int32) (v3 : Int32) : Option (Int32) :=
  F_X6_counted_146 mo c122 s0 1 v3
def F_X6_counted_145 (mo : kS) (c122 : Int32 → Int32 → Option (Int32)) (s0 : Int32) (v3 : Int32) : Option (Int32) :=
  F_X6_counted_146 mo c122 s0 0 v3
def F_X6_counted_130 (mo : kS) (c122 : Int32 → Int32 → Option (Int32)) (v2 : Int32) (v3 : Int32) : Option (Int32) :=
  (F_X6_la mo v3 2).bind fun x130_1 => if x130_1 = (-1) then F_X6_counted_141 mo c122 v2 v3 else F_X6_counted_145 mo c122 v2 v3
def F_X6_counted_154 (mo : kS) (v2 : Int32) : Option (Int32) :=
  some v2
def F_X6_counted_122 (mo : kS) : Nat → Int32 → Int32 → Option (Int32)
  | 0, _, _ => none
  | n + 1, v2, v3 => if (mo 7 2) ≤ v3 then F_X6_counted_154 mo v2 else F_X6_counted_130 mo (F_X6_counted_122 mo n) v2 v3
def F_X6_counted_120 (mo : kS) (v2 : Int32) : Option (Int32) :=
  F_X6_counted_122 mo kN v2 0
def F_X6_counted_196 (mo : kS) (c158 : Int32 → Int32 → Int32 → Option (Int32)) (s0 : Int32) (s1 : Int32) (v1 : Int32) (v3 : Int32) : Option (Int32) :=
  c158 v1 (s0 + s1) (v3 + 1)
def F_X6_counted_191 (mo : kS) (c158 : Int32 → Int32 → Int32 → Option (Int32)) (s0 : Int32) (v1 : Int32) (v3 : Int32) : Option (Int32) :=
  F_X6_counted_196 mo c158 s0 1 v1 v3
def F_X6_counted_195 (mo : kS) (c158 : Int32 → Int32 → Int32 → Option (Int32)) (s0 : Int32) (v1 : Int32) (v3 : Int32) : Option (Int32) :=
  F_X6_counted_196 mo c158 s0 0 v1 v3
def F_X6_counted_181 (mo : kS) (c158 : Int32 → Int32 → Int32 → Option (Int32)) (s0 : Int32) (v1 : Int32) (v3 : Int32) : Option (Int32) :=
  (F_X6_age mo v3).bind fun x181_1 => if 16 ≤ x181_1 then F_X6_counted_195 mo c158 s0 v1 v3 else F_X6_counted_191 mo c158 s0 v1 v3
def F_X6_counted_175 (mo : kS) (c158 : Int32 → Int32 → Int32 → Option (Int32)) (s0 : Int32) (v1 : Int32) (v3 : Int32) : Option (Int32) :=
  if v1 = 6 then F_X6_counted_191 mo c158 s0 v1 v3 else F_X6_counted_181 mo c158 s0 v1 v3
def F_X6_counted_166 (mo : kS) (c158 : Int32 → Int32 → Int32 → Option (Int32)) (v1 : Int32) (v2 : Int32) (v3 : Int32) : Option (Int32) :=
  (F_X6_rulesNow mo v3).bind fun x166_1 => if x166_1 = 0 then F_X6_counted_195 mo c158 v2 v1 v3 else F_X6_counted_175 mo c158 v2 v1 v3
def F_X6_counted_204 (mo : kS) (v2 : Int32) : Option (Int32) :=
  some v2
def F_X6_counted_158 (mo : kS) : Nat → Int32 → Int32 → Int32 → Option (Int32)
  | 0, _, _, _ => none
  | n + 1, v1, v2, v3 => if (mo 7 1) ≤ v3 then F_X6_counted_204 mo v2 else F_X6_counted_166 mo (F_X6_counted_158 mo n) v1 v2 v3
def F_X6_counted_156 (mo : kS) (v1 : Int32) (v2 : Int32) : Option (Int32) :=
  F_X6_counted_158 mo kN v1 v2 0
def F_X6_counted_0 (mo : kS) (v1 : Int32) : Option (Int32) :=
  if v1 = 0 then F_X6_counted_40 mo else if v1 = 1 then F_X6_counted_47 mo else if v1 = 2 then F_X6_counted_52 mo 0 else if v1 = 3 then F_X6_counted_79 mo 0 else if v1 = 4 then F_X6_counted_115 mo else if v1 = 5 then F_X6_counted_120 mo 0 else F_X6_counted_156 mo v1 0
def F_X6_counted (mo : kS) (v1 : Int32) : Option (Int32) :=
  F_X6_counted_0 mo v1
-- X6_count
def F_X6_count_28 (s0 : Int32) (mo : kS) : Option ((Int32 × kS)) :=
  some (s0, mo)
def F_X6_count_15 (v1 : Int32) (mo : kS) : Option ((Int32 × kS)) :=
  (F_X6_counted mo v1).bind fun x15_1 => F_X6_count_28 x15_1 mo
def F_X6_count_23 (mo : kS) : Option ((Int32 × kS)) :=
  (F_X6_fail 1 mo).bind fun x23_1 => F_X6_count_28 x23_1.1 x23_1.2
def F_X6_count_0 (v1 : Int32) (mo : kS) : Option ((Int32 × kS)) :=
  (F_X6_isIn (kst mo 7 (upd (mo 7) 0 0)) v1 0 7).bind fun x0_1 => if x0_1 = 0 then F_X6_count_23 (kst mo 7 (upd (mo 7) 0 0)) else F_X6_count_15 v1 (kst mo 7 (upd (mo 7) 0 0))
def F_X6_count (v1 : Int32) (mo : kS) : Option ((Int32 × kS)) :=
  F_X6_count_0 v1 mo
-- X6_yearOn
def F_X6_yearOn_52 (c14 : Int32 → Int32 → kS → Option ((Int32 × kS) × Nat × Nat)) (v1 : Int32) (v2 : Int32) (mo : kS) : Option ((Int32 × kS) × Nat × Nat) :=
  c14 v1 (v2 + 1) mo
def F_X6_yearOn_40 (c14 : Int32 → Int32 → kS → Option ((Int32 × kS) × Nat × Nat)) (v1 : Int32) (v2 : Int32) (mo : kS) : Option ((Int32 × kS) × Nat × Nat) :=
  F_X6_yearOn_52 c14 v1 v2 mo
def F_X6_yearOn_43 (c14 : Int32 → Int32 → kS → Option ((Int32 × kS) × Nat × Nat)) (v1 : Int32) (v2 : Int32) (mo : kS) : Option ((Int32 × kS) × Nat × Nat) :=
  (F_X6_dies v2 mo).bind fun x43_1 => kadd x43_1.2.1 x43_1.2.2 (F_X6_yearOn_52 c14 (v1 + 1) v2 x43_1.1.2)
def F_X6_yearOn_30 (c14 : Int32 → Int32 → kS → Option ((Int32 × kS) × Nat × Nat)) (v1 : Int32) (v2 : Int32) (mo : kS) : Option ((Int32 × kS) × Nat × Nat) :=
  (F_X6_age mo v2).bind fun x30_1 => if 80 ≤ x30_1 then F_X6_yearOn_43 c14 v1 v2 mo else F_X6_yearOn_40 c14 v1 v2 mo
def F_X6_yearOn_22 (c14 : Int32 → Int32 → kS → Option ((Int32 × kS) × Nat × Nat)) (v1 : Int32) (v2 : Int32) (mo : kS) : Option ((Int32 × kS) × Nat × Nat) :=
  (F_X6_lives mo v2).bind fun x22_1 => if x22_1 = 0 then F_X6_yearOn_52 c14 v1 v2 mo else F_X6_yearOn_30 c14 v1 v2 mo
def F_X6_yearOn_58 (v1 : Int32) (mo : kS) : Option ((Int32 × kS) × Nat × Nat) :=
  some ((v1, mo), 0, 0)
def F_X6_yearOn_14 : Nat → Int32 → Int32 → kS → Option ((Int32 × kS) × Nat × Nat)
  | 0, _, _, _ => none
  | n + 1, v1, v2, mo => if (mo 7 1) ≤ v2 then F_X6_yearOn_58 v1 mo else F_X6_yearOn_22 (F_X6_yearOn_14 n) v1 v2 mo
def F_X6_yearOn_0 (mo : kS) : Option ((Int32 × kS) × Nat × Nat) :=
  if ((0 : Int32) < 0 ∨ 1 ≤ (0 : Int32).toNatClampNeg) then none else if ((0 : Int32) < 0 ∨ 1 ≤ (0 : Int32).toNatClampNeg) then none else F_X6_yearOn_14 kN 0 0 (kst mo 11 (upd (mo 11) (0 : Int32).toNatClampNeg ((mo 11 (0 : Int32).toNatClampNeg) + 1)))
def F_X6_yearOn (mo : kS) : Option ((Int32 × kS) × Nat × Nat) :=
  F_X6_yearOn_0 mo
-- X6_yearsOn
def F_X6_yearsOn_9 (c4 : Int32 → Int32 → Int32 → kS → Option ((Int32 × kS) × Nat × Nat)) (v1 : Int32) (v2 : Int32) (v3 : Int32) (mo : kS) : Option ((Int32 × kS) × Nat × Nat) :=
  (F_X6_yearOn mo).bind fun x9_1 => kadd x9_1.2.1 x9_1.2.2 (c4 v1 (v2 + x9_1.1.1) (v3 + 1) x9_1.1.2)
def F_X6_yearsOn_22 (v2 : Int32) (mo : kS) : Option ((Int32 × kS) × Nat × Nat) :=
  some ((v2, mo), 0, 0)
def F_X6_yearsOn_4 : Nat → Int32 → Int32 → Int32 → kS → Option ((Int32 × kS) × Nat × Nat)
  | 0, _, _, _, _ => none
  | n + 1, v1, v2, v3, mo => if v1 ≤ v3 then F_X6_yearsOn_22 v2 mo else F_X6_yearsOn_9 (F_X6_yearsOn_4 n) v1 v2 v3 mo
def F_X6_yearsOn_0 (v1 : Int32) (mo : kS) : Option ((Int32 × kS) × Nat × Nat) :=
  F_X6_yearsOn_4 kN v1 0 0 mo
def F_X6_yearsOn (v1 : Int32) (mo : kS) : Option ((Int32 × kS) × Nat × Nat) :=
  F_X6_yearsOn_0 v1 mo
-- X6_pass
def F_X6_pass_28 (s0 : Int32) (mo : kS) : Option ((Int32 × kS) × Nat × Nat) :=
  some ((s0, mo), 0, 0)
def F_X6_pass_15 (v1 : Int32) (mo : kS) : Option ((Int32 × kS) × Nat × Nat) :=
  (F_X6_yearsOn v1 mo).bind fun x15_1 => kadd x15_1.2.1 x15_1.2.2 (F_X6_pass_28 x15_1.1.1 x15_1.1.2)
def F_X6_pass_23 (mo : kS) : Option ((Int32 × kS) × Nat × Nat) :=
  (F_X6_fail 1 mo).bind fun x23_1 => F_X6_pass_28 x23_1.1 x23_1.2
def F_X6_pass_0 (v1 : Int32) (mo : kS) : Option ((Int32 × kS) × Nat × Nat) :=
  (F_X6_isIn (kst mo 7 (upd (mo 7) 0 0)) v1 1 100).bind fun x0_1 => if x0_1 = 0 then F_X6_pass_23 (kst mo 7 (upd (mo 7) 0 0)) else F_X6_pass_15 v1 (kst mo 7 (upd (mo 7) 0 0))
def F_X6_pass (v1 : Int32) (mo : kS) : Option ((Int32 × kS) × Nat × Nat) :=
  F_X6_pass_0 v1 mo
-- X6_best
def F_X6_best_13 (mo : kS) : Option ((Int32 × kS)) :=
  (F_X6_fail 1 mo).bind fun x13_1 => some (x13_1.1, x13_1.2)
def F_X6_best_60 (c23 : Int32 → Int32 → Int32 → kS → Option ((Int32 × kS))) (v1 : Int32) (v2 : Int32) (v3 : Int32) (mo : kS) : Option ((Int32 × kS)) :=
  c23 v1 v2 (v3 + 1) mo
def F_X6_best_58 (c23 : Int32 → Int32 → Int32 → kS → Option ((Int32 × kS))) (v1 : Int32) (v3 : Int32) (mo : kS) : Option ((Int32 × kS)) :=
  F_X6_best_60 c23 v1 v3 v3 mo
def F_X6_best_45 (c23 : Int32 → Int32 → Int32 → kS → Option ((Int32 × kS))) (v1 : Int32) (v2 : Int32) (v3 : Int32) (mo : kS) : Option ((Int32 × kS)) :=
  (F_X6_worthOf mo v3).bind fun x45_1 => (F_X6_worthOf mo v2).bind fun x45_2 => if x45_1 ≤ x45_2 then F_X6_best_60 c23 v1 v2 v3 mo else F_X6_best_58 c23 v1 v3 mo
def F_X6_best_40 (c23 : Int32 → Int32 → Int32 → kS → Option ((Int32 × kS))) (v1 : Int32) (v2 : Int32) (v3 : Int32) (mo : kS) : Option ((Int32 × kS)) :=
  if v2 = (-1) then F_X6_best_58 c23 v1 v3 mo else F_X6_best_45 c23 v1 v2 v3 mo
def F_X6_best_31 (c23 : Int32 → Int32 → Int32 → kS → Option ((Int32 × kS))) (v1 : Int32) (v2 : Int32) (v3 : Int32) (mo : kS) : Option ((Int32 × kS)) :=
  (F_X6_canMarry v1 v3 mo).bind fun x31_1 => if x31_1.1 = 0 then F_X6_best_60 c23 v1 v2 v3 x31_1.2 else F_X6_best_40 c23 v1 v2 v3 x31_1.2
def F_X6_best_66 (v2 : Int32) (mo : kS) : Option ((Int32 × kS)) :=
  some (v2, mo)
def F_X6_best_23 : Nat → Int32 → Int32 → Int32 → kS → Option ((Int32 × kS))
  | 0, _, _, _, _ => none
  | n + 1, v1, v2, v3, mo => if (mo 7 1) ≤ v3 then F_X6_best_66 v2 mo else F_X6_best_31 (F_X6_best_23 n) v1 v2 v3 mo
def F_X6_best_19 (v1 : Int32) (mo : kS) : Option ((Int32 × kS)) :=
  F_X6_best_23 kN v1 (-1) 0 mo
def F_X6_best_0 (v1 : Int32) (mo : kS) : Option ((Int32 × kS)) :=
  (F_X6_isPerson (kst mo 7 (upd (mo 7) 0 0)) v1).bind fun x0_1 => if x0_1 = 0 then F_X6_best_13 (kst mo 7 (upd (mo 7) 0 0)) else F_X6_best_19 v1 (kst mo 7 (upd (mo 7) 0 0))
def F_X6_best (v1 : Int32) (mo : kS) : Option ((Int32 × kS)) :=
  F_X6_best_0 v1 mo
-- X6_mean
def F_X6_mean_35 (c9 : Int32 → Int32 → kS → Option ((UInt64 × kS))) (s0 : Int32) (s1 : Int32) (v2 : Int32) (mo : kS) : Option ((UInt64 × kS)) :=
  c9 (s0 + s1) (v2 + 1) mo
def F_X6_mean_26 (c9 : Int32 → Int32 → kS → Option ((UInt64 × kS))) (s0 : Int32) (v2 : Int32) (mo : kS) : Option ((UInt64 × kS)) :=
  (F_X6_age mo v2).bind fun x26_1 => F_X6_mean_35 c9 s0 x26_1 v2 mo
def F_X6_mean_34 (c9 : Int32 → Int32 → kS → Option ((UInt64 × kS))) (s0 : Int32) (v2 : Int32) (mo : kS) : Option ((UInt64 × kS)) :=
  F_X6_mean_35 c9 s0 0 v2 mo
def F_X6_mean_17 (c9 : Int32 → Int32 → kS → Option ((UInt64 × kS))) (v1 : Int32) (v2 : Int32) (mo : kS) : Option ((UInt64 × kS)) :=
  (F_X6_lives mo v2).bind fun x17_1 => if x17_1 = 0 then F_X6_mean_34 c9 v1 v2 mo else F_X6_mean_26 c9 v1 v2 mo
def F_X6_mean_64 (s0 : UInt64) (mo : kS) : Option ((UInt64 × kS)) :=
  some (s0, mo)
def F_X6_mean_51 (mo : kS) : Option ((UInt64 × kS)) :=
  F_X6_mean_64 FP.dconst0 mo
def F_X6_mean_55 (v1 : Int32) (mo : kS) : Option ((UInt64 × kS)) :=
  (F_X6_counted mo 2).bind fun x55_1 => if ¬ ((FP.ddiv (FP.i2d v1) (FP.i2d x55_1)) &&& 9223372036854775807 ≤ 9218868437227405312) then none else F_X6_mean_64 (FP.ddiv (FP.i2d v1) (FP.i2d x55_1)) mo
def F_X6_mean_43 (v1 : Int32) (mo : kS) : Option ((UInt64 × kS)) :=
  (F_X6_counted mo 2).bind fun x43_1 => if x43_1 = 0 then F_X6_mean_51 mo else F_X6_mean_55 v1 mo
def F_X6_mean_9 : Nat → Int32 → Int32 → kS → Option ((UInt64 × kS))
  | 0, _, _, _ => none
  | n + 1, v1, v2, mo => if (mo 7 1) ≤ v2 then F_X6_mean_43 v1 mo else F_X6_mean_17 (F_X6_mean_9 n) v1 v2 mo
def F_X6_mean_0 (mo : kS) : Option ((UInt64 × kS)) :=
  F_X6_mean_9 kN 0 0 (kst mo 7 (upd (mo 7) 0 0))
def F_X6_mean (mo : kS) : Option ((UInt64 × kS)) :=
  F_X6_mean_0 mo
-- X6_digest
def F_X6_digest_17 (c11 : Int64 → Int32 → kS → Option ((Int64 × kS))) (v1 : Int64) (v3 : Int32) (mo : kS) : Option ((Int64 × kS)) :=
  (F_X6_counted mo v3).bind fun x17_1 => c11 ((v1 * 31) + x17_1.toInt64) (v3 + 1) mo
def F_X6_digest_56 (c38 : Int64 → Int32 → kS → Option ((Int64 × kS))) (c49 : Int64 → Int32 → Int32 → kS → Option ((Int64 × kS))) (v1 : Int64) (v3 : Int32) (v4 : Int32) (mo : kS) : Option ((Int64 × kS)) :=
  (F_X6_personTold mo v3 v4).bind fun x56_1 => c49 ((v1 * 31) + x56_1.toInt64) v3 (v4 + 1) mo
def F_X6_digest_77 (c38 : Int64 → Int32 → kS → Option ((Int64 × kS))) (v1 : Int64) (v3 : Int32) (mo : kS) : Option ((Int64 × kS)) :=
  c38 v1 (v3 + 1) mo
def F_X6_digest_49 (c38 : Int64 → Int32 → kS → Option ((Int64 × kS))) : Nat → Int64 → Int32 → Int32 → kS → Option ((Int64 × kS))
  | 0, _, _, _, _ => none
  | n + 1, v1, v3, v4, mo => if 10 ≤ v4 then F_X6_digest_77 c38 v1 v3 mo else F_X6_digest_56 c38 (F_X6_digest_49 c38 n) v1 v3 v4 mo
def F_X6_digest_46 (c38 : Int64 → Int32 → kS → Option ((Int64 × kS))) (v1 : Int64) (v3 : Int32) (mo : kS) : Option ((Int64 × kS)) :=
  F_X6_digest_49 c38 kN v1 v3 0 mo
def F_X6_digest_103 (c85 : Int64 → Int32 → kS → Option ((Int64 × kS))) (c96 : Int64 → Int32 → Int32 → kS → Option ((Int64 × kS))) (v1 : Int64) (v3 : Int32) (v4 : Int32) (mo : kS) : Option ((Int64 × kS)) :=
  (F_X6_landTold v3 v4 mo).bind fun x103_1 => c96 ((v1 * 31) + (x103_1.1).toInt64) v3 (v4 + 1) x103_1.2
def F_X6_digest_137 (c85 : Int64 → Int32 → kS → Option ((Int64 × kS))) (c127 : Int64 → Int32 → Int32 → kS → Option ((Int64 × kS))) (v1 : Int64) (v3 : Int32) (v4 : Int32) (mo : kS) : Option ((Int64 × kS)) :=
  if (((15 * v3) + v4) < 0 ∨ 180 ≤ ((15 * v3) + v4).toNatClampNeg) then none else c127 ((v1 * 31) + ((mo 10 ((15 * v3) + v4).toNatClampNeg)).toInt64) v3 (v4 + 1) mo
def F_X6_digest_163 (c85 : Int64 → Int32 → kS → Option ((Int64 × kS))) (v1 : Int64) (v3 : Int32) (mo : kS) : Option ((Int64 × kS)) :=
  c85 v1 (v3 + 1) mo
def F_X6_digest_127 (c85 : Int64 → Int32 → kS → Option ((Int64 × kS))) : Nat → Int64 → Int32 → Int32 → kS → Option ((Int64 × kS))
  | 0, _, _, _, _ => none
  | n + 1, v1, v3, v4, mo => (F_X6_kept mo v3).bind fun x127_1 => if x127_1 ≤ v4 then F_X6_digest_163 c85 v1 v3 mo else F_X6_digest_137 c85 (F_X6_digest_127 c85 n) v1 v3 v4 mo
def F_X6_digest_124 (c85 : Int64 → Int32 → kS → Option ((Int64 × kS))) (v1 : Int64) (v3 : Int32) (mo : kS) : Option ((Int64 × kS)) :=
  F_X6_digest_127 c85 kN v1 v3 0 mo
def F_X6_digest_96 (c85 : Int64 → Int32 → kS → Option ((Int64 × kS))) : Nat → Int64 → Int32 → Int32 → kS → Option ((Int64 × kS))
  | 0, _, _, _, _ => none
  | n + 1, v1, v3, v4, mo => if 6 ≤ v4 then F_X6_digest_124 c85 v1 v3 mo else F_X6_digest_103 c85 (F_X6_digest_96 c85 n) v1 v3 v4 mo
def F_X6_digest_93 (c85 : Int64 → Int32 → kS → Option ((Int64 × kS))) (v1 : Int64) (v3 : Int32) (mo : kS) : Option ((Int64 × kS)) :=
  F_X6_digest_96 c85 kN v1 v3 0 mo
def F_X6_digest_169 (v1 : Int64) (mo : kS) : Option ((Int64 × kS)) :=
  some (v1, mo)
def F_X6_digest_85 : Nat → Int64 → Int32 → kS → Option ((Int64 × kS))
  | 0, _, _, _ => none
  | n + 1, v1, v3, mo => if (mo 7 2) ≤ v3 then F_X6_digest_169 v1 mo else F_X6_digest_93 (F_X6_digest_85 n) v1 v3 mo
def F_X6_digest_83 (v1 : Int64) (mo : kS) : Option ((Int64 × kS)) :=
  F_X6_digest_85 kN v1 0 mo
def F_X6_digest_38 : Nat → Int64 → Int32 → kS → Option ((Int64 × kS))
  | 0, _, _, _ => none
  | n + 1, v1, v3, mo => if (mo 7 1) ≤ v3 then F_X6_digest_83 v1 mo else F_X6_digest_46 (F_X6_digest_38 n) v1 v3 mo
def F_X6_digest_36 (v1 : Int64) (mo : kS) : Option ((Int64 × kS)) :=
  F_X6_digest_38 kN v1 0 mo
def F_X6_digest_11 : Nat → Int64 → Int32 → kS → Option ((Int64 × kS))
  | 0, _, _, _ => none
  | n + 1, v1, v3, mo => if 8 ≤ v3 then F_X6_digest_36 v1 mo else F_X6_digest_17 (F_X6_digest_11 n) v1 v3 mo
def F_X6_digest_0 (mo : kS) : Option ((Int64 × kS)) :=
  F_X6_digest_11 kN 887 0 (kst mo 7 (upd (mo 7) 0 0))
def F_X6_digest (mo : kS) : Option ((Int64 × kS)) :=
  F_X6_digest_0 mo
