/-! BELOW -/
-- L_below
def F_L_below_0 (z : kS) (v0 : Int32) (v1 : Int32) : Option (Int32) :=
  if v1 = 0 then none else some ((v0 &&& 2147483647) - (v0 &&& 2147483647) / v1 * v1)
def F_L_below (z : kS) (v0 : Int32) (v1 : Int32) : Option (Int32) :=
  F_L_below_0 z v0 v1
