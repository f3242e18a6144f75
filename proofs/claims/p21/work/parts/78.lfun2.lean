/-! ACT AS A FUNCTION -/
-- L_act
noncomputable def F_L_act_166 (k : kS) (z : kS) : Option ((Int32 × kS × kS) × Nat × Nat) :=
  if ¬ ((1 : Int32) = 0 ∨ (1 : Int32) = 1) then none else some ((1, k, z), 0, 0)
noncomputable def F_L_act_227 (s0 : Int32) (k : kS) (z : kS) : Option ((Int32 × kS × kS) × Nat × Nat) :=
  if ¬ (s0 = 0 ∨ s0 = 1) then none else some ((s0, k, z), 0, 0)
noncomputable def F_L_act_222 (k : kS) (z : kS) : Option ((Int32 × kS × kS) × Nat × Nat) :=
  F_L_act_227 1 k z
noncomputable def F_L_act_226 (k : kS) (z : kS) : Option ((Int32 × kS × kS) × Nat × Nat) :=
  F_L_act_227 0 k z
noncomputable def F_L_act_211 (s0 : Int32) (s2 : Int32) (v8 : Int32) (k : kS) (z : kS) : Option ((Int32 × kS × kS) × Nat × Nat) :=
  (F_X8_come s2 v8 z).bind fun x211_1 => kadd x211_1.2.1 x211_1.2.2 (if (x211_1.1.1 < 0 ∨ jN x211_1.1.2 ≤ x211_1.1.1.toNatClampNeg) then none else if s0 = (x211_1.1.2 (4 * x211_1.1.1.toNatClampNeg + 1) 0) then F_L_act_222 k x211_1.1.2 else F_L_act_226 k x211_1.1.2)
noncomputable def F_L_act_206 (s0 : Int32) (v8 : Int32) (k : kS) (z : kS) : Option ((Int32 × kS × kS) × Nat × Nat) :=
  F_L_act_211 s0 1 v8 k z
noncomputable def F_L_act_210 (s0 : Int32) (v8 : Int32) (k : kS) (z : kS) : Option ((Int32 × kS × kS) × Nat × Nat) :=
  F_L_act_211 s0 0 v8 k z
noncomputable def F_L_act_192 (s1 : Int32) (v2 : Int32) (v8 : Int32) (k : kS) (z : kS) : Option ((Int32 × kS × kS) × Nat × Nat) :=
  (F_X5_come s1 v8 k).bind fun x192_1 => if ¬ (x192_1.1.1 = 0) then none else kadd 4 24 ((F_L_below z v2 2).bind fun x192_5 => if x192_5 = 0 then F_L_act_206 x192_1.1.2 v8 x192_1.2 z else F_L_act_210 x192_1.1.2 v8 x192_1.2 z)
noncomputable def F_L_act_187 (v2 : Int32) (v8 : Int32) (k : kS) (z : kS) : Option ((Int32 × kS × kS) × Nat × Nat) :=
  F_L_act_192 1 v2 v8 k z
noncomputable def F_L_act_191 (v2 : Int32) (v8 : Int32) (k : kS) (z : kS) : Option ((Int32 × kS × kS) × Nat × Nat) :=
  F_L_act_192 0 v2 v8 k z
noncomputable def F_L_act_168 (v2 : Int32) (k : kS) (z : kS) : Option ((Int32 × kS × kS) × Nat × Nat) :=
  (F_L_below z (v2 >>> (2 &&& 31)) 40).bind fun x168_1 => (F_L_below z v2 2).bind fun x168_2 => if x168_2 = 0 then F_L_act_187 v2 x168_1 k z else F_L_act_191 v2 x168_1 k z
noncomputable def F_L_act_160 (v2 : Int32) (v3 : Int32) (k : kS) (z : kS) : Option ((Int32 × kS × kS) × Nat × Nat) :=
  if v3 = 40 then F_L_act_166 k z else F_L_act_168 v2 k z
noncomputable def F_L_act_334 (c231 : Int32 → Int32 → Int32 → Int32 → kS → kS → Option ((Int32 × kS × kS) × Nat × Nat)) (v2 : Int32) (v3 : Int32) (v5 : Int32) (v9 : Int32) (k : kS) (z : kS) : Option ((Int32 × kS × kS) × Nat × Nat) :=
  c231 v2 v3 v5 (v9 + 1) k z
noncomputable def F_L_act_276 (c231 : Int32 → Int32 → Int32 → Int32 → kS → kS → Option ((Int32 × kS × kS) × Nat × Nat)) (v2 : Int32) (v3 : Int32) (v5 : Int32) (v9 : Int32) (k : kS) (z : kS) : Option ((Int32 × kS × kS) × Nat × Nat) :=
  F_L_act_334 c231 v2 v3 v5 v9 k z
noncomputable def F_L_act_333 (s0 : Int32) (k : kS) (z : kS) : Option ((Int32 × kS × kS) × Nat × Nat) :=
  if ¬ (s0 = 0 ∨ s0 = 1) then none else some ((s0, k, z), 0, 0)
noncomputable def F_L_act_328 (k : kS) (z : kS) : Option ((Int32 × kS × kS) × Nat × Nat) :=
  F_L_act_333 1 k z
noncomputable def F_L_act_332 (k : kS) (z : kS) : Option ((Int32 × kS × kS) × Nat × Nat) :=
  F_L_act_333 0 k z
noncomputable def F_L_act_321 (s1 : Int32) (s2 : Int32) (v3 : Int32) (k : kS) (z : kS) : Option ((Int32 × kS × kS) × Nat × Nat) :=
  (F_X5_bear s1 s2 k).bind fun x321_1 => if ¬ (x321_1.1.1 = 0) then none else kadd 4 24 (if x321_1.1.2 = v3 then F_L_act_328 x321_1.2 z else F_L_act_332 x321_1.2 z)
noncomputable def F_L_act_316 (s1 : Int32) (v3 : Int32) (k : kS) (z : kS) : Option ((Int32 × kS × kS) × Nat × Nat) :=
  F_L_act_321 s1 1 v3 k z
noncomputable def F_L_act_320 (s1 : Int32) (v3 : Int32) (k : kS) (z : kS) : Option ((Int32 × kS × kS) × Nat × Nat) :=
  F_L_act_321 s1 0 v3 k z
noncomputable def F_L_act_297 (s1 : Int32) (s2 : Int32) (v2 : Int32) (v3 : Int32) (v10 : Int32) (k : kS) (z : kS) : Option ((Int32 × kS × kS) × Nat × Nat) :=
  if jbad (jN z) v10 then none else (F_X8_bear s1 s2 z).bind fun x297_2 => kadd x297_2.2.1 x297_2.2.2 (if (v10 < 0 ∨ jN x297_2.1 ≤ v10.toNatClampNeg) then none else (F_L_below x297_2.1 (v2 >>> (2 &&& 31)) 2).bind fun x297_6 => if x297_6 = 0 then F_L_act_316 (x297_2.1 (4 * v10.toNatClampNeg + 1) 0) v3 k x297_2.1 else F_L_act_320 (x297_2.1 (4 * v10.toNatClampNeg + 1) 0) v3 k x297_2.1)
noncomputable def F_L_act_292 (s1 : Int32) (v2 : Int32) (v3 : Int32) (v10 : Int32) (k : kS) (z : kS) : Option ((Int32 × kS × kS) × Nat × Nat) :=
  F_L_act_297 s1 1 v2 v3 v10 k z
noncomputable def F_L_act_296 (s1 : Int32) (v2 : Int32) (v3 : Int32) (v10 : Int32) (k : kS) (z : kS) : Option ((Int32 × kS × kS) × Nat × Nat) :=
  F_L_act_297 s1 0 v2 v3 v10 k z
noncomputable def F_L_act_279 (v2 : Int32) (v3 : Int32) (v10 : Int32) (k : kS) (z : kS) : Option ((Int32 × kS × kS) × Nat × Nat) :=
  (F_L_below z (v2 >>> (2 &&& 31)) 2).bind fun x279_1 => if x279_1 = 0 then F_L_act_292 v10 v2 v3 v10 k z else F_L_act_296 v10 v2 v3 v10 k z
noncomputable def F_L_act_268 (c231 : Int32 → Int32 → Int32 → Int32 → kS → kS → Option ((Int32 × kS × kS) × Nat × Nat)) (v2 : Int32) (v3 : Int32) (v5 : Int32) (v9 : Int32) (v10 : Int32) (k : kS) (z : kS) : Option ((Int32 × kS × kS) × Nat × Nat) :=
  if (v10 < 0 ∨ jN z ≤ v10.toNatClampNeg) then none else if (z (4 * v10.toNatClampNeg + 1) 6) = (-1) then F_L_act_276 c231 v2 v3 v5 v9 k z else F_L_act_279 v2 v3 v10 k z
noncomputable def F_L_act_243 (c231 : Int32 → Int32 → Int32 → Int32 → kS → kS → Option ((Int32 × kS × kS) × Nat × Nat)) (v2 : Int32) (v3 : Int32) (v5 : Int32) (v9 : Int32) (k : kS) (z : kS) : Option ((Int32 × kS × kS) × Nat × Nat) :=
  if (v5 < 0 ∨ jN z ≤ v5.toNatClampNeg) then none else if v3 = 0 then none else if ((((z (4 * v5.toNatClampNeg + 1) 0) + v9) - ((z (4 * v5.toNatClampNeg + 1) 0) + v9) / v3 * v3) < 0 ∨ (z 12 0).toNatClampNeg ≤ (((z (4 * v5.toNatClampNeg + 1) 0) + v9) - ((z (4 * v5.toNatClampNeg + 1) 0) + v9) / v3 * v3).toNatClampNeg) then none else if ((z 4 (((z (4 * v5.toNatClampNeg + 1) 0) + v9) - ((z (4 * v5.toNatClampNeg + 1) 0) + v9) / v3 * v3).toNatClampNeg) < 0 ∨ jN z ≤ (z 4 (((z (4 * v5.toNatClampNeg + 1) 0) + v9) - ((z (4 * v5.toNatClampNeg + 1) 0) + v9) / v3 * v3).toNatClampNeg).toNatClampNeg) then none else if (z (4 * (z 4 (((z (4 * v5.toNatClampNeg + 1) 0) + v9) - ((z (4 * v5.toNatClampNeg + 1) 0) + v9) / v3 * v3).toNatClampNeg).toNatClampNeg + 1) 1) = 0 then F_L_act_268 c231 v2 v3 v5 v9 (z 4 (((z (4 * v5.toNatClampNeg + 1) 0) + v9) - ((z (4 * v5.toNatClampNeg + 1) 0) + v9) / v3 * v3).toNatClampNeg) k z else F_L_act_334 c231 v2 v3 v5 v9 k z
noncomputable def F_L_act_340 (k : kS) (z : kS) : Option ((Int32 × kS × kS) × Nat × Nat) :=
  if ¬ ((1 : Int32) = 0 ∨ (1 : Int32) = 1) then none else some ((1, k, z), 0, 0)
noncomputable def F_L_act_237 (c231 : Int32 → Int32 → Int32 → Int32 → kS → kS → Option ((Int32 × kS × kS) × Nat × Nat)) (v2 : Int32) (v3 : Int32) (v5 : Int32) (v9 : Int32) (k : kS) (z : kS) : Option ((Int32 × kS × kS) × Nat × Nat) :=
  if 40 ≤ v3 then F_L_act_340 k z else F_L_act_243 c231 v2 v3 v5 v9 k z
noncomputable def F_L_act_231 : Nat → Int32 → Int32 → Int32 → Int32 → kS → kS → Option ((Int32 × kS × kS) × Nat × Nat)
  | 0, _, _, _, _, _, _ => none
  | n + 1, v2, v3, v5, v9, k, z => if v3 ≤ v9 then F_L_act_340 k z else F_L_act_237 (F_L_act_231 n) v2 v3 v5 v9 k z
noncomputable def F_L_act_228 (v2 : Int32) (v3 : Int32) (v5 : Int32) (k : kS) (z : kS) : Option ((Int32 × kS × kS) × Nat × Nat) :=
  F_L_act_231 kN v2 v3 v5 0 k z
noncomputable def F_L_act_501 (c345 : Int32 → Int32 → Int32 → Int32 → Int32 → kS → kS → Option ((Int32 × kS × kS) × Nat × Nat)) (v3 : Int32) (v5 : Int32) (v6 : Int32) (v7 : Int32) (v9 : Int32) (k : kS) (z : kS) : Option ((Int32 × kS × kS) × Nat × Nat) :=
  c345 v3 v5 v6 v7 (v9 + 1) k z
noncomputable def F_L_act_379 (c345 : Int32 → Int32 → Int32 → Int32 → Int32 → kS → kS → Option ((Int32 × kS × kS) × Nat × Nat)) (v3 : Int32) (v5 : Int32) (v6 : Int32) (v7 : Int32) (v9 : Int32) (k : kS) (z : kS) : Option ((Int32 × kS × kS) × Nat × Nat) :=
  F_L_act_501 c345 v3 v5 v6 v7 v9 k z
noncomputable def F_L_act_447 (c421 : Int32 → Int32 → Int32 → Int32 → Int32 → kS → kS → Option ((Int32 × kS × kS) × Nat × Nat)) (v5 : Int32) (v10 : Int32) (v11 : Int32) (v12 : Int32) (v13 : Int32) (k : kS) (z : kS) : Option ((Int32 × kS × kS) × Nat × Nat) :=
  c421 v5 v10 v11 v12 (v13 + 1) k z
noncomputable def F_L_act_443 (c421 : Int32 → Int32 → Int32 → Int32 → Int32 → kS → kS → Option ((Int32 × kS × kS) × Nat × Nat)) (v5 : Int32) (v10 : Int32) (v11 : Int32) (v13 : Int32) (k : kS) (z : kS) : Option ((Int32 × kS × kS) × Nat × Nat) :=
  F_L_act_447 c421 v5 v10 v11 v13 v13 k z
noncomputable def F_L_act_431 (c421 : Int32 → Int32 → Int32 → Int32 → Int32 → kS → kS → Option ((Int32 × kS × kS) × Nat × Nat)) (v5 : Int32) (v10 : Int32) (v11 : Int32) (v12 : Int32) (v13 : Int32) (k : kS) (z : kS) : Option ((Int32 × kS × kS) × Nat × Nat) :=
  if (v13 < 0 ∨ (z 12 1).toNatClampNeg ≤ v13.toNatClampNeg) then none else if jbad (jM z) (z 8 v13.toNatClampNeg) then none else if jbad (jM z) v11 then none else if (z 8 v13.toNatClampNeg) = v11 then F_L_act_443 c421 v5 v10 v11 v13 k z else F_L_act_447 c421 v5 v10 v11 v12 v13 k z
noncomputable def F_L_act_500 (s0 : Int32) (k : kS) (z : kS) : Option ((Int32 × kS × kS) × Nat × Nat) :=
  if ¬ (s0 = 0 ∨ s0 = 1) then none else some ((s0, k, z), 0, 0)
noncomputable def F_L_act_495 (k : kS) (z : kS) : Option ((Int32 × kS × kS) × Nat × Nat) :=
  F_L_act_500 1 k z
noncomputable def F_L_act_499 (k : kS) (z : kS) : Option ((Int32 × kS × kS) × Nat × Nat) :=
  F_L_act_500 0 k z
noncomputable def F_L_act_453 (v5 : Int32) (v10 : Int32) (v11 : Int32) (v12 : Int32) (k : kS) (z : kS) : Option ((Int32 × kS × kS) × Nat × Nat) :=
  (F_X8_marry v5 v10 v11 z).bind fun x453_1 => kadd x453_1.2.1 x453_1.2.2 (if (v5 < 0 ∨ jN x453_1.1 ≤ v5.toNatClampNeg) then none else if (v10 < 0 ∨ jN x453_1.1 ≤ v10.toNatClampNeg) then none else (F_X5_marry (x453_1.1 (4 * v5.toNatClampNeg + 1) 0) (x453_1.1 (4 * v10.toNatClampNeg + 1) 0) v12 k).bind fun x453_6 => if ¬ (x453_6.1.1 = 0) then none else kadd 4 24 ((F_X8_worth x453_1.1 v5).bind fun x453_10 => (F_X8_worth x453_1.1 v10).bind fun x453_11 => if x453_6.1.2 = (x453_10 + x453_11) then F_L_act_495 x453_6.2 x453_1.1 else F_L_act_499 x453_6.2 x453_1.1))
noncomputable def F_L_act_421 : Nat → Int32 → Int32 → Int32 → Int32 → Int32 → kS → kS → Option ((Int32 × kS × kS) × Nat × Nat)
  | 0, _, _, _, _, _, _, _ => none
  | n + 1, v5, v10, v11, v12, v13, k, z => if (nI (z 12 1).toNatClampNeg) ≤ v13 then F_L_act_453 v5 v10 v11 v12 k z else F_L_act_431 (F_L_act_421 n) v5 v10 v11 v12 v13 k z
noncomputable def F_L_act_413 (s0 : Int32) (v5 : Int32) (v10 : Int32) (k : kS) (z : kS) : Option ((Int32 × kS × kS) × Nat × Nat) :=
  F_L_act_421 kN v5 v10 s0 (-1) 0 k z
noncomputable def F_L_act_407 (v5 : Int32) (v7 : Int32) (v10 : Int32) (k : kS) (z : kS) : Option ((Int32 × kS × kS) × Nat × Nat) :=
  F_L_act_413 v7 v5 v10 k z
noncomputable def F_L_act_412 (v5 : Int32) (v10 : Int32) (k : kS) (z : kS) : Option ((Int32 × kS × kS) × Nat × Nat) :=
  F_L_act_413 (-1) v5 v10 k z
noncomputable def F_L_act_397 (v5 : Int32) (v7 : Int32) (v10 : Int32) (k : kS) (z : kS) : Option ((Int32 × kS × kS) × Nat × Nat) :=
  if (v7 < 0 ∨ jM z ≤ v7.toNatClampNeg) then none else if jbad (jN z) (z (4 * v7.toNatClampNeg + 2) 2) then none else if jbad (jN z) v10 then none else if (z (4 * v7.toNatClampNeg + 2) 2) = v10 then F_L_act_407 v5 v7 v10 k z else F_L_act_412 v5 v10 k z
noncomputable def F_L_act_387 (v5 : Int32) (v7 : Int32) (v10 : Int32) (k : kS) (z : kS) : Option ((Int32 × kS × kS) × Nat × Nat) :=
  if (v7 < 0 ∨ jM z ≤ v7.toNatClampNeg) then none else if jbad (jN z) (z (4 * v7.toNatClampNeg + 2) 2) then none else if jbad (jN z) v5 then none else if (z (4 * v7.toNatClampNeg + 2) 2) = v5 then F_L_act_407 v5 v7 v10 k z else F_L_act_397 v5 v7 v10 k z
noncomputable def F_L_act_382 (v5 : Int32) (v7 : Int32) (v10 : Int32) (k : kS) (z : kS) : Option ((Int32 × kS × kS) × Nat × Nat) :=
  if v7 = (-1) then F_L_act_412 v5 v10 k z else F_L_act_387 v5 v7 v10 k z
noncomputable def F_L_act_351 (c345 : Int32 → Int32 → Int32 → Int32 → Int32 → kS → kS → Option ((Int32 × kS × kS) × Nat × Nat)) (v3 : Int32) (v5 : Int32) (v6 : Int32) (v7 : Int32) (v9 : Int32) (k : kS) (z : kS) : Option ((Int32 × kS × kS) × Nat × Nat) :=
  if (v6 < 0 ∨ jN z ≤ v6.toNatClampNeg) then none else if v3 = 0 then none else if ((((z (4 * v6.toNatClampNeg + 1) 0) + v9) - ((z (4 * v6.toNatClampNeg + 1) 0) + v9) / v3 * v3) < 0 ∨ (z 12 0).toNatClampNeg ≤ (((z (4 * v6.toNatClampNeg + 1) 0) + v9) - ((z (4 * v6.toNatClampNeg + 1) 0) + v9) / v3 * v3).toNatClampNeg) then none else (F_X8_can z v5 (z 4 (((z (4 * v6.toNatClampNeg + 1) 0) + v9) - ((z (4 * v6.toNatClampNeg + 1) 0) + v9) / v3 * v3).toNatClampNeg)).bind fun x351_4 => if x351_4 = 0 then F_L_act_379 c345 v3 v5 v6 v7 v9 k z else F_L_act_382 v5 v7 (z 4 (((z (4 * v6.toNatClampNeg + 1) 0) + v9) - ((z (4 * v6.toNatClampNeg + 1) 0) + v9) / v3 * v3).toNatClampNeg) k z
noncomputable def F_L_act_507 (k : kS) (z : kS) : Option ((Int32 × kS × kS) × Nat × Nat) :=
  if ¬ ((1 : Int32) = 0 ∨ (1 : Int32) = 1) then none else some ((1, k, z), 0, 0)
noncomputable def F_L_act_345 : Nat → Int32 → Int32 → Int32 → Int32 → Int32 → kS → kS → Option ((Int32 × kS × kS) × Nat × Nat)
  | 0, _, _, _, _, _, _, _ => none
  | n + 1, v3, v5, v6, v7, v9, k, z => if v3 ≤ v9 then F_L_act_507 k z else F_L_act_351 (F_L_act_345 n) v3 v5 v6 v7 v9 k z
noncomputable def F_L_act_342 (v3 : Int32) (v5 : Int32) (v6 : Int32) (v7 : Int32) (k : kS) (z : kS) : Option ((Int32 × kS × kS) × Nat × Nat) :=
  F_L_act_345 kN v3 v5 v6 v7 0 k z
noncomputable def F_L_act_519 (k : kS) (z : kS) : Option ((Int32 × kS × kS) × Nat × Nat) :=
  if ¬ ((1 : Int32) = 0 ∨ (1 : Int32) = 1) then none else some ((1, k, z), 0, 0)
noncomputable def F_L_act_613 (s0 : Int32) (k : kS) (z : kS) : Option ((Int32 × kS × kS) × Nat × Nat) :=
  if ¬ (s0 = 0 ∨ s0 = 1) then none else some ((s0, k, z), 0, 0)
noncomputable def F_L_act_608 (k : kS) (z : kS) : Option ((Int32 × kS × kS) × Nat × Nat) :=
  F_L_act_613 1 k z
noncomputable def F_L_act_612 (k : kS) (z : kS) : Option ((Int32 × kS × kS) × Nat × Nat) :=
  F_L_act_613 0 k z
noncomputable def F_L_act_545 (s0 : Int32) (v2 : Int32) (k : kS) (z : kS) : Option ((Int32 × kS × kS) × Nat × Nat) :=
  (F_L_below z (v2 >>> (2 &&& 31)) 50).bind fun x545_1 => (F_L_below z (v2 >>> (6 &&& 31)) 4).bind fun x545_2 => if jbad (jN z) s0 then none else (F_X8_found (1 + x545_1) x545_2 s0 z).bind fun x545_4 => kadd x545_4.2.1 x545_4.2.2 ((F_L_below x545_4.1 (v2 >>> (2 &&& 31)) 50).bind fun x545_7 => (F_L_below x545_4.1 (v2 >>> (6 &&& 31)) 4).bind fun x545_8 => (F_X8_number x545_4.1 s0).bind fun x545_9 => (F_X5_found (1 + x545_7) x545_8 x545_9 k).bind fun x545_10 => if ¬ (x545_10.1.1 = 0) then none else kadd 4 24 (if x545_10.1.2 = ((nI (x545_4.1 12 1).toNatClampNeg) - 1) then F_L_act_608 x545_10.2 x545_4.1 else F_L_act_612 x545_10.2 x545_4.1))
noncomputable def F_L_act_539 (v2 : Int32) (k : kS) (z : kS) : Option ((Int32 × kS × kS) × Nat × Nat) :=
  F_L_act_545 (-1) v2 k z
noncomputable def F_L_act_543 (v2 : Int32) (v5 : Int32) (k : kS) (z : kS) : Option ((Int32 × kS × kS) × Nat × Nat) :=
  F_L_act_545 v5 v2 k z
noncomputable def F_L_act_529 (v2 : Int32) (v5 : Int32) (k : kS) (z : kS) : Option ((Int32 × kS × kS) × Nat × Nat) :=
  (F_L_below z (v2 >>> (5 &&& 31)) 5).bind fun x529_1 => if x529_1 = 0 then F_L_act_539 v2 k z else F_L_act_543 v2 v5 k z
noncomputable def F_L_act_521 (v2 : Int32) (v5 : Int32) (k : kS) (z : kS) : Option ((Int32 × kS × kS) × Nat × Nat) :=
  if (v5 < 0 ∨ jN z ≤ v5.toNatClampNeg) then none else if 0 ≤ (z (4 * v5.toNatClampNeg + 1) 3) then F_L_act_539 v2 k z else F_L_act_529 v2 v5 k z
noncomputable def F_L_act_509 (v2 : Int32) (v5 : Int32) (k : kS) (z : kS) : Option ((Int32 × kS × kS) × Nat × Nat) :=
  if (nI (z 12 1).toNatClampNeg) = 12 then F_L_act_519 k z else F_L_act_521 v2 v5 k z
noncomputable def F_L_act_632 (k : kS) (z : kS) : Option ((Int32 × kS × kS) × Nat × Nat) :=
  if ¬ ((1 : Int32) = 0 ∨ (1 : Int32) = 1) then none else some ((1, k, z), 0, 0)
noncomputable def F_L_act_657 (s0 : Int32) (k : kS) (z : kS) : Option ((Int32 × kS × kS) × Nat × Nat) :=
  if ¬ (s0 = 0 ∨ s0 = 1) then none else some ((s0, k, z), 0, 0)
noncomputable def F_L_act_652 (k : kS) (z : kS) : Option ((Int32 × kS × kS) × Nat × Nat) :=
  F_L_act_657 1 k z
noncomputable def F_L_act_656 (k : kS) (z : kS) : Option ((Int32 × kS × kS) × Nat × Nat) :=
  F_L_act_657 0 k z
noncomputable def F_L_act_634 (v5 : Int32) (k : kS) (z : kS) : Option ((Int32 × kS × kS) × Nat × Nat) :=
  if (v5 < 0 ∨ jN z ≤ v5.toNatClampNeg) then none else (F_X5_annul (z (4 * v5.toNatClampNeg + 1) 0) k).bind fun x634_2 => if ¬ (x634_2.1.1 = 0) then none else kadd 4 24 ((F_X8_annul v5 z).bind fun x634_6 => kadd x634_6.2.1 x634_6.2.2 (if x634_2.1.2 = x634_6.1.1 then F_L_act_652 x634_2.2 x634_6.1.2 else F_L_act_656 x634_2.2 x634_6.1.2))
noncomputable def F_L_act_622 (v2 : Int32) (v5 : Int32) (k : kS) (z : kS) : Option ((Int32 × kS × kS) × Nat × Nat) :=
  (F_L_below z (v2 >>> (4 &&& 31)) 2).bind fun x622_1 => if x622_1 = 0 then F_L_act_632 k z else F_L_act_634 v5 k z
noncomputable def F_L_act_614 (v2 : Int32) (v5 : Int32) (k : kS) (z : kS) : Option ((Int32 × kS × kS) × Nat × Nat) :=
  if (v5 < 0 ∨ jN z ≤ v5.toNatClampNeg) then none else if (z (4 * v5.toNatClampNeg + 1) 6) = (-1) then F_L_act_632 k z else F_L_act_622 v2 v5 k z
noncomputable def F_L_act_676 (k : kS) (z : kS) : Option ((Int32 × kS × kS) × Nat × Nat) :=
  if ¬ ((1 : Int32) = 0 ∨ (1 : Int32) = 1) then none else some ((1, k, z), 0, 0)
noncomputable def F_L_act_701 (s0 : Int32) (k : kS) (z : kS) : Option ((Int32 × kS × kS) × Nat × Nat) :=
  if ¬ (s0 = 0 ∨ s0 = 1) then none else some ((s0, k, z), 0, 0)
noncomputable def F_L_act_696 (k : kS) (z : kS) : Option ((Int32 × kS × kS) × Nat × Nat) :=
  F_L_act_701 1 k z
noncomputable def F_L_act_700 (k : kS) (z : kS) : Option ((Int32 × kS × kS) × Nat × Nat) :=
  F_L_act_701 0 k z
noncomputable def F_L_act_678 (v5 : Int32) (k : kS) (z : kS) : Option ((Int32 × kS × kS) × Nat × Nat) :=
  if (v5 < 0 ∨ jN z ≤ v5.toNatClampNeg) then none else (F_X5_die (z (4 * v5.toNatClampNeg + 1) 0) k).bind fun x678_2 => if ¬ (x678_2.1.1 = 0) then none else kadd 4 24 ((F_X8_die v5 z).bind fun x678_6 => kadd x678_6.2.1 x678_6.2.2 (if x678_2.1.2 = x678_6.1.1 then F_L_act_696 x678_2.2 x678_6.1.2 else F_L_act_700 x678_2.2 x678_6.1.2))
noncomputable def F_L_act_666 (v2 : Int32) (v5 : Int32) (k : kS) (z : kS) : Option ((Int32 × kS × kS) × Nat × Nat) :=
  (F_L_below z (v2 >>> (4 &&& 31)) 2).bind fun x666_1 => if x666_1 = 0 then F_L_act_676 k z else F_L_act_678 v5 k z
noncomputable def F_L_act_658 (v2 : Int32) (v5 : Int32) (k : kS) (z : kS) : Option ((Int32 × kS × kS) × Nat × Nat) :=
  if (v5 < 0 ∨ jN z ≤ v5.toNatClampNeg) then none else if 0 ≤ (z (4 * v5.toNatClampNeg + 1) 3) then F_L_act_676 k z else F_L_act_666 v2 v5 k z
noncomputable def F_L_act_707 (k : kS) (z : kS) : Option ((Int32 × kS × kS) × Nat × Nat) :=
  if ¬ ((1 : Int32) = 0 ∨ (1 : Int32) = 1) then none else some ((1, k, z), 0, 0)
noncomputable def F_L_act_743 (c731 : Int32 → Int32 → Int32 → kS → kS → Option ((Int32 × kS × kS) × Nat × Nat)) (v7 : Int32) (v10 : Int32) (v11 : Int32) (k : kS) (z : kS) : Option ((Int32 × kS × kS) × Nat × Nat) :=
  c731 v7 v10 (v11 + 1) k z
noncomputable def F_L_act_770 (s0 : Int32) (k : kS) (z : kS) : Option ((Int32 × kS × kS) × Nat × Nat) :=
  if ¬ (s0 = 0 ∨ s0 = 1) then none else some ((s0, k, z), 0, 0)
noncomputable def F_L_act_765 (k : kS) (z : kS) : Option ((Int32 × kS × kS) × Nat × Nat) :=
  F_L_act_770 1 k z
noncomputable def F_L_act_769 (k : kS) (z : kS) : Option ((Int32 × kS × kS) × Nat × Nat) :=
  F_L_act_770 0 k z
noncomputable def F_L_act_749 (v7 : Int32) (v10 : Int32) (v11 : Int32) (k : kS) (z : kS) : Option ((Int32 × kS × kS) × Nat × Nat) :=
  if (v7 < 0 ∨ jM z ≤ v7.toNatClampNeg) then none else (F_X5_setLaw v11 (z (4 * v7.toNatClampNeg + 2) 1) k).bind fun x749_2 => if ¬ (x749_2.1.1 = 0) then none else kadd 4 24 (if x749_2.1.2 = v10 then F_L_act_765 x749_2.2 z else F_L_act_769 x749_2.2 z)
noncomputable def F_L_act_731 : Nat → Int32 → Int32 → Int32 → kS → kS → Option ((Int32 × kS × kS) × Nat × Nat)
  | 0, _, _, _, _, _ => none
  | n + 1, v7, v10, v11, k, z => if (v11 < 0 ∨ (z 12 1).toNatClampNeg ≤ v11.toNatClampNeg) then none else if jbad (jM z) (z 8 v11.toNatClampNeg) then none else if jbad (jM z) v7 then none else if (z 8 v11.toNatClampNeg) = v7 then F_L_act_749 v7 v10 v11 k z else F_L_act_743 (F_L_act_731 n) v7 v10 v11 k z
noncomputable def F_L_act_709 (v2 : Int32) (v7 : Int32) (k : kS) (z : kS) : Option ((Int32 × kS × kS) × Nat × Nat) :=
  if (v7 < 0 ∨ jM z ≤ v7.toNatClampNeg) then none else (F_L_below z (v2 >>> (2 &&& 31)) 4).bind fun x709_2 => if (v7 < 0 ∨ jM z ≤ v7.toNatClampNeg) then none else F_L_act_731 kN v7 (z (4 * v7.toNatClampNeg + 2) 1) 0 k (kput z (4 * v7.toNatClampNeg + 2) 1 x709_2)
noncomputable def F_L_act_702 (v2 : Int32) (v7 : Int32) (k : kS) (z : kS) : Option ((Int32 × kS × kS) × Nat × Nat) :=
  if v7 = (-1) then F_L_act_707 k z else F_L_act_709 v2 v7 k z
noncomputable def F_L_act_96 (s0 : Int32) (v2 : Int32) (v3 : Int32) (v4 : Int32) (v5 : Int32) (v6 : Int32) (k : kS) (z : kS) : Option ((Int32 × kS × kS) × Nat × Nat) :=
  if v4 = 0 then F_L_act_160 v2 v3 k z else if v4 = 1 then F_L_act_228 v2 v3 v5 k z else if v4 = 2 then F_L_act_228 v2 v3 v5 k z else if v4 = 3 then F_L_act_228 v2 v3 v5 k z else if v4 = 4 then F_L_act_228 v2 v3 v5 k z else if v4 = 5 then F_L_act_342 v3 v5 v6 s0 k z else if v4 = 6 then F_L_act_342 v3 v5 v6 s0 k z else if v4 = 7 then F_L_act_342 v3 v5 v6 s0 k z else if v4 = 8 then F_L_act_509 v2 v5 k z else if v4 = 9 then F_L_act_614 v2 v5 k z else if v4 = 10 then F_L_act_658 v2 v5 k z else F_L_act_702 v2 s0 k z
noncomputable def F_L_act_76 (v2 : Int32) (v3 : Int32) (v4 : Int32) (v5 : Int32) (v6 : Int32) (k : kS) (z : kS) : Option ((Int32 × kS × kS) × Nat × Nat) :=
  F_L_act_96 (-1) v2 v3 v4 v5 v6 k z
noncomputable def F_L_act_80 (v2 : Int32) (v3 : Int32) (v4 : Int32) (v5 : Int32) (v6 : Int32) (k : kS) (z : kS) : Option ((Int32 × kS × kS) × Nat × Nat) :=
  (F_L_below z (v2 >>> (4 &&& 31)) (nI (z 12 1).toNatClampNeg)).bind fun x80_1 => if (x80_1 < 0 ∨ (z 12 1).toNatClampNeg ≤ x80_1.toNatClampNeg) then none else F_L_act_96 (z 8 x80_1.toNatClampNeg) v2 v3 v4 v5 v6 k z
noncomputable def F_L_act_66 (s0 : Int32) (v2 : Int32) (v3 : Int32) (v4 : Int32) (v5 : Int32) (k : kS) (z : kS) : Option ((Int32 × kS × kS) × Nat × Nat) :=
  if (nI (z 12 1).toNatClampNeg) = 0 then F_L_act_76 v2 v3 v4 v5 s0 k z else F_L_act_80 v2 v3 v4 v5 s0 k z
noncomputable def F_L_act_50 (v2 : Int32) (v3 : Int32) (v4 : Int32) (v5 : Int32) (k : kS) (z : kS) : Option ((Int32 × kS × kS) × Nat × Nat) :=
  F_L_act_66 (-1) v2 v3 v4 v5 k z
noncomputable def F_L_act_54 (v2 : Int32) (v3 : Int32) (v4 : Int32) (v5 : Int32) (k : kS) (z : kS) : Option ((Int32 × kS × kS) × Nat × Nat) :=
  (F_L_below z (v2 >>> (3 &&& 31)) v3).bind fun x54_1 => if (x54_1 < 0 ∨ (z 12 0).toNatClampNeg ≤ x54_1.toNatClampNeg) then none else F_L_act_66 (z 4 x54_1.toNatClampNeg) v2 v3 v4 v5 k z
noncomputable def F_L_act_44 (s0 : Int32) (v2 : Int32) (v3 : Int32) (v4 : Int32) (k : kS) (z : kS) : Option ((Int32 × kS × kS) × Nat × Nat) :=
  if v3 = 0 then F_L_act_50 v2 v3 v4 s0 k z else F_L_act_54 v2 v3 v4 s0 k z
noncomputable def F_L_act_30 (v2 : Int32) (v3 : Int32) (v4 : Int32) (k : kS) (z : kS) : Option ((Int32 × kS × kS) × Nat × Nat) :=
  F_L_act_44 (-1) v2 v3 v4 k z
noncomputable def F_L_act_34 (v2 : Int32) (v3 : Int32) (v4 : Int32) (k : kS) (z : kS) : Option ((Int32 × kS × kS) × Nat × Nat) :=
  (F_L_below z v2 v3).bind fun x34_1 => if (x34_1 < 0 ∨ (z 12 0).toNatClampNeg ≤ x34_1.toNatClampNeg) then none else F_L_act_44 (z 4 x34_1.toNatClampNeg) v2 v3 v4 k z
noncomputable def F_L_act_24 (s0 : Int32) (v2 : Int32) (v3 : Int32) (k : kS) (z : kS) : Option ((Int32 × kS × kS) × Nat × Nat) :=
  if v3 = 0 then F_L_act_30 v2 v3 s0 k z else F_L_act_34 v2 v3 s0 k z
noncomputable def F_L_act_11 (v2 : Int32) (v3 : Int32) (k : kS) (z : kS) : Option ((Int32 × kS × kS) × Nat × Nat) :=
  F_L_act_24 0 v2 v3 k z
noncomputable def F_L_act_15 (v2 : Int32) (v3 : Int32) (k : kS) (z : kS) : Option ((Int32 × kS × kS) × Nat × Nat) :=
  (F_L_below z (v2 >>> (9 &&& 31)) 12).bind fun x15_1 => F_L_act_24 x15_1 v2 v3 k z
noncomputable def F_L_act_0 (v2 : Int32) (k : kS) (z : kS) : Option ((Int32 × kS × kS) × Nat × Nat) :=
  if 4 ≤ (nI (z 12 0).toNatClampNeg) then F_L_act_15 v2 (nI (z 12 0).toNatClampNeg) k z else F_L_act_11 v2 (nI (z 12 0).toNatClampNeg) k z
noncomputable def F_L_act (v2 : Int32) (k : kS) (z : kS) : Option ((Int32 × kS × kS) × Nat × Nat) :=
  F_L_act_0 v2 k z
