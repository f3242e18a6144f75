/-! THE LAW'S OWN WORLD: Sim (place 0), its arrays of Persons (4) and of Lands (8), each Person (4 i + 1), each Land (4 l + 2), the rulers that a Land has had (4 l + 3). A reference to a Person or Land is a number: -1 for none, else which. The moving part z is place -> index -> int; z 12: the arrays' lengths, z 16: how many rulers each land has had, z 20: how many Persons and Lands there are. -/
def jr (ad : Nat → Nat) (b : Nat) (c : Int32) : Option Nat := if c = -1 then none else some (ad (4 * c.toNatClampNeg + b))
abbrev jv (ad : Nat → Nat) (b : Nat) (c : Int32) : Value := va_rf (jr ad b c)
abbrev jRf (f : Nat → Option Nat) : (Nat → Int32) ⊕ (Nat → Int64) ⊕ (Nat → UInt32) ⊕ (Nat → UInt64) ⊕ (Nat → Option Nat) := .inr (.inr (.inr (.inr f)))
abbrev kput (z : kS) (p j : Nat) (x : Int32) : kS := kst z p (upd (z p) j x)
def jN (z : kS) : Nat := (z 20 0).toNatClampNeg
def jM (z : kS) : Nat := (z 20 1).toNatClampNeg
def jPf (ad : Nat → Nat) (f : Nat → Int32) : List Value := [.int (f 0), .int (f 1), .int (f 2), .int (f 3), jv ad 1 (f 4), jv ad 1 (f 5), jv ad 1 (f 6), jv ad 2 (f 7), jv ad 1 (f 8)]
def jLf (ad : Nat → Nat) (h : Nat) (f : Nat → Int32) : List Value := [.int (f 0), .int (f 1), jv ad 1 (f 2), .ref h]
def jE (g : Nat → ClassId) (ad : Nat → Nat) (z : kS) (p : Nat) : va_E :=
  if p = 0 then .inr (8, [.ref (ad 4), .ref (ad 8), .int (z 0 0)])
  else if p = 4 then .inl (g 3, (z 12 0).toNatClampNeg, jRf fun i => jr ad 1 (z 4 i))
  else if p = 8 then .inl (g 4, (z 12 1).toNatClampNeg, jRf fun i => jr ad 2 (z 8 i))
  else if p % 4 = 1 then .inr (7, jPf ad (z p))
  else if p % 4 = 2 then .inr (6, jLf ad (ad (p + 1)) (z p))
  else .inl (g 3, (z 16 (p / 4)).toNatClampNeg, jRf fun i => jr ad 1 (z p i))
section JE
variable {g : Nat → ClassId} {ad : Nat → Nat} {z : kS}
theorem jE_0 : jE g ad z 0 = .inr (8, [.ref (ad 4), .ref (ad 8), .int (z 0 0)]) := rfl
theorem jE_4 : jE g ad z 4 = .inl (g 3, (z 12 0).toNatClampNeg, jRf fun i => jr ad 1 (z 4 i)) := rfl
theorem jE_8 : jE g ad z 8 = .inl (g 4, (z 12 1).toNatClampNeg, jRf fun i => jr ad 2 (z 8 i)) := rfl
theorem jE_P (i : Nat) : jE g ad z (4 * i + 1) = .inr (7, jPf ad (z (4 * i + 1))) := by
  unfold jE
  rw [if_neg (by omega), if_neg (by omega), if_neg (by omega), if_pos (by omega)]
theorem jE_L (i : Nat) : jE g ad z (4 * i + 2) = .inr (6, jLf ad (ad (4 * i + 3)) (z (4 * i + 2))) := by
  unfold jE
  rw [if_neg (by omega), if_neg (by omega), if_neg (by omega), if_neg (by omega), if_pos (by omega)]
theorem jE_H (i : Nat) : jE g ad z (4 * i + 3) = .inl (g 3, (z 16 i).toNatClampNeg, jRf fun j => jr ad 1 (z (4 * i + 3) j)) := by
  unfold jE
  rw [if_neg (by omega), if_neg (by omega), if_neg (by omega), if_neg (by omega), if_neg (by omega), show (4 * i + 3) / 4 = i by omega]
/-- the places that there are -/
def jPl (z : kS) : List Nat := 0 :: 4 :: 8 :: ((List.range (jN z)).map (fun i => 4 * i + 1) ++ ((List.range (jM z)).map (fun i => 4 * i + 2) ++ (List.range (jM z)).map (fun i => 4 * i + 3)))
theorem jPl_mem {z : kS} {p : Nat} : p ∈ jPl z ↔ p = 0 ∨ p = 4 ∨ p = 8 ∨ (∃ i, i < jN z ∧ p = 4 * i + 1) ∨ (∃ i, i < jM z ∧ p = 4 * i + 2) ∨ (∃ i, i < jM z ∧ p = 4 * i + 3) := by
  unfold jPl
  simp only [List.mem_cons, List.mem_append, List.mem_map, List.mem_range]
  constructor
  · rintro (h | h | h | ⟨i, h1, h2⟩ | ⟨i, h1, h2⟩ | ⟨i, h1, h2⟩)
    · exact Or.inl h
    · exact Or.inr (Or.inl h)
    · exact Or.inr (Or.inr (Or.inl h))
    · exact Or.inr (Or.inr (Or.inr (Or.inl ⟨i, h1, h2.symm⟩)))
    · exact Or.inr (Or.inr (Or.inr (Or.inr (Or.inl ⟨i, h1, h2.symm⟩))))
    · exact Or.inr (Or.inr (Or.inr (Or.inr (Or.inr ⟨i, h1, h2.symm⟩))))
  · rintro (h | h | h | ⟨i, h1, h2⟩ | ⟨i, h1, h2⟩ | ⟨i, h1, h2⟩)
    · exact Or.inl h
    · exact Or.inr (Or.inl h)
    · exact Or.inr (Or.inr (Or.inl h))
    · exact Or.inr (Or.inr (Or.inr (Or.inl ⟨i, h1, h2.symm⟩)))
    · exact Or.inr (Or.inr (Or.inr (Or.inr (Or.inl ⟨i, h1, h2.symm⟩))))
    · exact Or.inr (Or.inr (Or.inr (Or.inr (Or.inr ⟨i, h1, h2.symm⟩))))
theorem jPl_0 {z : kS} : 0 ∈ jPl z := jPl_mem.mpr (Or.inl rfl)
theorem jPl_4 {z : kS} : 4 ∈ jPl z := jPl_mem.mpr (Or.inr (Or.inl rfl))
theorem jPl_8 {z : kS} : 8 ∈ jPl z := jPl_mem.mpr (Or.inr (Or.inr (Or.inl rfl)))
theorem jPl_P {z : kS} {i : Nat} (h : i < jN z) : 4 * i + 1 ∈ jPl z := jPl_mem.mpr (Or.inr (Or.inr (Or.inr (Or.inl ⟨i, h, rfl⟩))))
theorem jPl_L {z : kS} {i : Nat} (h : i < jM z) : 4 * i + 2 ∈ jPl z := jPl_mem.mpr (Or.inr (Or.inr (Or.inr (Or.inr (Or.inl ⟨i, h, rfl⟩)))))
theorem jPl_H {z : kS} {i : Nat} (h : i < jM z) : 4 * i + 3 ∈ jPl z := jPl_mem.mpr (Or.inr (Or.inr (Or.inr (Or.inr (Or.inr ⟨i, h, rfl⟩)))))
theorem jmap_nd {n b : Nat} : ((List.range n).map (fun i => 4 * i + b)).Nodup := List.pairwise_map.mpr (List.Pairwise.imp (fun h e => h (by omega)) (List.nodup_range (n := n)))
theorem jPl_nd (z : kS) : (jPl z).Nodup := by
  unfold jPl
  simp only [List.nodup_cons, List.nodup_append, List.mem_cons, List.mem_append, List.mem_map, List.mem_range]
  refine ⟨?_, ?_, ?_, jmap_nd, ⟨jmap_nd, jmap_nd, ?_⟩, ?_⟩
  · rintro (h | h | ⟨i, -, h⟩ | ⟨i, -, h⟩ | ⟨i, -, h⟩) <;> omega
  · rintro (h | ⟨i, -, h⟩ | ⟨i, -, h⟩ | ⟨i, -, h⟩) <;> omega
  · rintro (⟨i, -, h⟩ | ⟨i, -, h⟩ | ⟨i, -, h⟩) <;> omega
  · rintro a ⟨i, -, h⟩ b ⟨j, -, h2⟩ e
    omega
  · rintro a ⟨i, -, h⟩ b (⟨j, -, h2⟩ | ⟨j, -, h2⟩) e <;> omega
theorem jPl_cg {z z2 : kS} (h : z2 20 = z 20) : jPl z2 = jPl z := by unfold jPl jN jM; rw [h]
theorem jE_dep {z2 z3 : kS} {q : Nat} (hm : q ∈ jPl z3) (h0 : q = 0 → z2 0 0 = z 0 0) (h12 : z2 12 = z 12) (h16 : q % 4 = 3 → z2 16 (q / 4) = z 16 (q / 4)) (hq : q ≠ 0 → z2 q = z q) : jE g ad z2 q = jE g ad z q := by
  unfold jE
  by_cases a0 : q = 0
  · rw [if_pos a0, if_pos a0, h0 a0]
  · have h := hq a0
    rw [if_neg a0, if_neg a0]
    by_cases a4 : q = 4
    · subst a4; rw [if_pos rfl, if_pos rfl, h12, h]
    · rw [if_neg a4, if_neg a4]
      by_cases a8 : q = 8
      · subst a8; rw [if_pos rfl, if_pos rfl, h12, h]
      · rw [if_neg a8, if_neg a8, h]
        by_cases b1 : q % 4 = 1
        · rw [if_pos b1, if_pos b1]
        · rw [if_neg b1, if_neg b1]
          by_cases b2 : q % 4 = 2
          · rw [if_pos b2, if_pos b2]
          · rw [if_neg b2, if_neg b2]
            by_cases b3 : q % 4 = 3
            · rw [h16 b3]
            · exfalso
              rcases jPl_mem.mp hm with h | h | h | ⟨i, _, h⟩ | ⟨i, _, h⟩ | ⟨i, _, h⟩ <;> omega
theorem jE_4n : (4 : Nat) % 4 ≠ 3 := by decide
/-- the cells -/
def jC (g : Nat → ClassId) (ad : Nat → Nat) (z : kS) : va_W := (jPl z).map (fun p => (ad p, jE g ad z p))
theorem jm_get : ∀ {P : List Nat}, P.Nodup → ∀ {p : Nat}, p ∈ P → ∀ (f : Nat → Nat × va_E), ∃ i, i < P.length ∧ P[i]? = some p ∧ (P.map f)[i]? = some (f p) ∧ ∀ f2 : Nat → Nat × va_E, (∀ q ∈ P, q ≠ p → f2 q = f q) → (P.map f).set i (f2 p) = P.map f2
  | [], _, p, hp, _ => by cases hp
  | a :: P, hn, p, hp, f => by
    obtain ⟨h1, h2⟩ := List.nodup_cons.mp hn
    by_cases hpa : p = a
    · subst hpa
      refine ⟨0, by simp, rfl, rfl, fun f2 hf => ?_⟩
      show f2 p :: P.map f = f2 p :: P.map f2
      rw [List.map_congr_left (fun q hq => (hf q (List.mem_cons_of_mem _ hq) (fun e => h1 (by rw [← e]; exact hq))).symm)]
    · have hp2 : p ∈ P := (List.mem_cons.mp hp).resolve_left hpa
      obtain ⟨i, g1, g0, g2, g3⟩ := jm_get h2 hp2 f
      refine ⟨i + 1, by simp; omega, g0, g2, fun f2 hf => ?_⟩
      show f a :: (P.map f).set i (f2 p) = f2 a :: P.map f2
      rw [g3 f2 (fun q hq => hf q (List.mem_cons_of_mem _ hq)), hf a List.mem_cons_self (fun e => hpa e.symm)]
theorem jC_len : (jC g ad z).length = (jPl z).length := by simp [jC]
/-- a place's cell among all, and what it is to change it -/
theorem jC_at {p : Nat} (hp : p ∈ jPl z) (Y X : va_W) : ∃ i, (Y ++ (jC g ad z ++ X))[i]? = some (ad p, jE g ad z p) ∧ ∀ (z2 : kS) (e2 : va_E), jPl z2 = jPl z → jE g ad z2 p = e2 → (∀ q ∈ jPl z, q ≠ p → jE g ad z2 q = jE g ad z q) → (Y ++ (jC g ad z ++ X)).set i (ad p, e2) = Y ++ (jC g ad z2 ++ X) := by
  obtain ⟨i, h1, -, h2, h3⟩ := jm_get (jPl_nd z) hp (fun p => (ad p, jE g ad z p))
  have hl : i < (jC g ad z).length := by rw [jC_len]; exact h1
  refine ⟨Y.length + i, ?_, fun z2 e2 e he ho => ?_⟩
  · rw [List.getElem?_append_right (by omega), show Y.length + i - Y.length = i by omega, List.getElem?_append_left hl]
    exact h2
  · subst he
    rw [List.set_append_right _ _ (by omega), show Y.length + i - Y.length = i by omega, List.set_append_left _ _ hl]
    congr 2
    have h4 := h3 (fun p => (ad p, jE g ad z2 p)) (fun q hq hne => by rw [ho q hq hne])
    exact h4.trans (by unfold jC; rw [e])
/-- a cell beside the places -/
theorem jX_at {Y X : va_W} {j : Nat} {x : Nat × va_E} (h : X[j]? = some x) : (Y ++ (jC g ad z ++ X))[Y.length + ((jC g ad z).length + j)]? = some x := by
  rw [List.getElem?_append_right (by omega), show Y.length + ((jC g ad z).length + j) - Y.length = (jC g ad z).length + j by omega, List.getElem?_append_right (by omega), show (jC g ad z).length + j - (jC g ad z).length = j by omega]
  exact h
theorem jX_set {Y X : va_W} {j : Nat} {x : Nat × va_E} : (Y ++ (jC g ad z ++ X)).set (Y.length + ((jC g ad z).length + j)) x = Y ++ (jC g ad z ++ X.set j x) := by
  rw [List.set_append_right _ _ (by omega), show Y.length + ((jC g ad z).length + j) - Y.length = (jC g ad z).length + j by omega, List.set_append_right _ _ (by omega), show (jC g ad z).length + j - (jC g ad z).length = j by omega]
end JE
/-! worlds: order, and cells that take another's place -/
theorem va_P_perm {D : va_G} {cl : List vw_C} {ws ws' : va_W} {H : Heap} (h : va_P D cl ws H) (hp : ws.Perm ws') : va_P D cl ws' H := fun k q hk => by
  obtain ⟨i, hi⟩ := List.getElem?_of_mem (hp.mem_iff.mpr (List.mem_of_getElem? hk))
  exact h i q hi
theorem va_D_nd {A : Nat → Prop} {ws : va_W} : va_D A ws ↔ ((ws.map Prod.fst).Nodup ∧ ∀ q ∈ ws, A q.1) := by
  constructor
  · intro h
    refine ⟨?_, fun q hq => ?_⟩
    · unfold List.Nodup
      rw [List.pairwise_iff_getElem]
      intro i j hi hj hij e
      rw [List.length_map] at hi hj
      simp only [List.getElem_map] at e
      have := h.1 i j _ _ (List.getElem?_eq_getElem hi) (List.getElem?_eq_getElem hj) e
      omega
    · obtain ⟨i, hi⟩ := List.getElem?_of_mem hq
      exact h.2 i q hi
  · rintro ⟨h1, h2⟩
    refine ⟨fun i j x y hx hy hxy => ?_, fun k q hk => h2 q (List.mem_of_getElem? hk)⟩
    obtain ⟨hi, rfl⟩ := List.getElem?_eq_some_iff.mp hx
    obtain ⟨hj, rfl⟩ := List.getElem?_eq_some_iff.mp hy
    unfold List.Nodup at h1
    rw [List.pairwise_iff_getElem] at h1
    rcases Nat.lt_trichotomy i j with h | h | h
    · exact absurd (by rw [List.getElem_map, List.getElem_map]; exact hxy) (h1 i j (by rw [List.length_map]; exact hi) (by rw [List.length_map]; exact hj) h)
    · exact h
    · exact absurd (by rw [List.getElem_map, List.getElem_map]; exact hxy.symm) (h1 j i (by rw [List.length_map]; exact hj) (by rw [List.length_map]; exact hi) h)
theorem va_D_perm {A : Nat → Prop} {ws ws' : va_W} (h : va_D A ws) (hp : ws.Perm ws') : va_D A ws' := by
  obtain ⟨h1, h2⟩ := va_D_nd.mp h
  exact va_D_nd.mpr ⟨(hp.map Prod.fst).nodup_iff.mp h1, fun q hq => h2 q (hp.mem_iff.mpr hq)⟩
theorem va_P_take {D : va_G} {cl : List vw_C} {ws a b : va_W} {H : Heap} (h : va_P D cl ws H) (hp : ws.Perm (a ++ b)) : va_P D cl a H := fun k q hk => by
  obtain ⟨i, hi⟩ := List.getElem?_of_mem (hp.mem_iff.mpr (List.mem_append_left _ (List.mem_of_getElem? hk)))
  exact h i q hi
theorem va_D_take {A : Nat → Prop} {ws a b : va_W} (h : va_D A ws) (hp : ws.Perm (a ++ b)) : va_D A a := by
  obtain ⟨h1, h2⟩ := va_D_nd.mp h
  have h3 := (hp.map Prod.fst).nodup_iff.mp h1
  rw [List.map_append] at h3
  exact va_D_nd.mpr ⟨(List.nodup_append.mp h3).1, fun q hq => h2 q (hp.mem_iff.mpr (List.mem_append_left _ hq))⟩
/-- one cell of the middle gives way to the first one behind it -/
theorem jmv_perm {a c X : va_W} {t g0 : Nat × va_E} {i : Nat} (hi : c[i]? = some g0) : (a ++ (c ++ t :: X)).Perm ((a ++ (c.set i t ++ X)) ++ [g0]) := by
  have hl := (List.getElem?_eq_some_iff.mp hi).1
  have e1 : c = c.take i ++ g0 :: c.drop (i + 1) := by
    rw [List.getElem?_eq_some_iff] at hi
    obtain ⟨h1, h2⟩ := hi
    rw [← h2, List.getElem_cons_drop, List.take_append_drop]
  have e2 : c.set i t = c.take i ++ t :: c.drop (i + 1) := List.set_eq_take_append_cons_drop.trans (if_pos hl)
  rw [e2]
  have p1 : (a ++ (c ++ t :: X)).Perm (a ++ ((c.take i ++ g0 :: c.drop (i + 1)) ++ t :: X)) := by rw [← e1]
  refine p1.trans ?_
  have p2 : ((c.take i ++ g0 :: c.drop (i + 1)) ++ t :: X).Perm ((c.take i ++ t :: c.drop (i + 1)) ++ X ++ [g0]) := by
    have q1 : ((c.take i ++ g0 :: c.drop (i + 1)) ++ t :: X).Perm (g0 :: t :: (c.take i ++ c.drop (i + 1) ++ X)) := by
      refine (List.perm_middle (a := t) (l₁ := c.take i ++ g0 :: c.drop (i + 1)) (l₂ := X)).trans ?_
      refine (List.Perm.cons t ((List.Perm.append_right X (List.perm_middle (a := g0) (l₁ := c.take i) (l₂ := c.drop (i + 1)))))).trans ?_
      exact List.Perm.swap g0 t _
    have q2 : ((c.take i ++ t :: c.drop (i + 1)) ++ X ++ [g0]).Perm (g0 :: t :: (c.take i ++ c.drop (i + 1) ++ X)) := by
      refine (List.perm_append_comm (l₁ := (c.take i ++ t :: c.drop (i + 1)) ++ X) (l₂ := [g0])).trans ?_
      refine List.Perm.cons g0 ?_
      exact List.Perm.append_right X (List.perm_middle (a := t) (l₁ := c.take i) (l₂ := c.drop (i + 1)))
    exact q1.trans q2.symm
  refine (List.Perm.append_left a p2).trans ?_
  rw [← List.append_assoc, ← List.append_assoc, ← List.append_assoc]
