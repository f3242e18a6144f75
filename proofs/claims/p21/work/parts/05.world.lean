/-! THE WORLD: every cell of the class's object (places 0 to 6 and from 15 to 108), by places (7 to 14 stand for nothing here); ad tells a place's address, the moving part is a function place -> index -> int. -/
abbrev kS : Type := Nat → Nat → Int32
/-- the place f of the moving part, all else as it was -/
def kst (k : kS) (p : Nat) (f : Nat → Int32) : kS := fun q => if q = p then f else k q
theorem kst_eq (k : kS) (p : Nat) (f : Nat → Int32) : kst k p f p = f := if_pos rfl
theorem kst_ne (k : kS) {p q : Nat} (f : Nat → Int32) (h : q ≠ p) : kst k p f q = k q := if_neg h
/-- the rows of 'past' of the world B -/
def kpb (B : Nat) : Nat := if B < 30 then 45 else 57
def kEw (ad : Nat → Nat) (cI cO : ClassId) (k : kS) (B j : Nat) : va_E := match j with
  | 0 => .inr (4, [.ref (ad 1), .ref (ad (B + 1)), .ref (ad (B + 8)), .ref (ad (B + 11)), .ref (ad (B + 14)), .int (k B 0)])
  | 1 => .inr (1, [.int (k (B + 1) 0), .ref (ad (B + 2)), .ref (ad (B + 3)), .ref (ad (B + 4)), .ref (ad (B + 5)), .ref (ad (B + 6)), .ref (ad (B + 7))])
  | 2 => .inl (cI, 12, .inl (k (B + 2)))
  | 3 => .inl (cI, 12, .inl (k (B + 3)))
  | 4 => .inl (cI, 12, .inl (k (B + 4)))
  | 5 => .inl (cI, 12, .inl (k (B + 5)))
  | 6 => .inl (cI, 12, .inl (k (B + 6)))
  | 7 => .inl (cO, 12, .inr (.inr (.inr (.inr (fun i => if i < 12 then some (ad (kpb B + i)) else none)))))
  | 8 => .inr (3, [.ref (ad (B + 9)), .ref (ad (B + 10))])
  | 9 => .inl (cI, 40, .inl (k (B + 9)))
  | 10 => .inl (cI, 40, .inl (k (B + 10)))
  | 11 => .inr (2, [.ref (ad (B + 12)), .ref (ad (B + 13))])
  | 12 => .inl (cI, 40, .inl (k (B + 12)))
  | 13 => .inl (cI, 40, .inl (k (B + 13)))
  | _ => .inl (cI, 40, .inl (k (B + 14)))
/-- what the place p holds -/
def kE (ad : Nat → Nat) (cI cZ cO : ClassId) (k m : kS) (p : Nat) : va_E :=
  if p < 15 then match p with
    | 0 => .inr (5, [.ref (ad 1), .ref (ad 15), .ref (ad 30)])
    | 1 => .inr (0, [.int (k 1 0), .ref (ad 2), .ref (ad 3), .ref (ad 4), .ref (ad 5), .ref (ad 6)])
    | 2 => .inl (cZ, 40, .inl (k 2))
    | 3 => .inl (cI, 40, .inl (k 3))
    | 4 => .inl (cI, 40, .inl (k 4))
    | 5 => .inl (cI, 40, .inl (k 5))
    | 6 => .inl (cO, 40, .inr (.inr (.inr (.inr (fun i => if i < 40 then some (ad (69 + i)) else none)))))
    | 7 => .inr (6, [.int (m 7 0), .int (m 7 1), .int (m 7 2), .ref (ad 8), .ref (ad 9), .ref (ad 10), .ref (ad 11), .ref (ad 12), .ref (ad 13), .ref (ad 14)])
    | 8 => .inl (cI, 360, .inl (m 8))
    | 9 => .inl (cI, 48, .inl (m 9))
    | 10 => .inl (cI, 180, .inl (m 10))
    | 11 => .inl (cI, 1, .inl (m 11))
    | 12 => .inl (cI, 40, .inl (m 12))
    | 13 => .inl (cI, 40, .inl (m 13))
    | _ => .inl (cI, 12, .inl (m 14))
  else if p < 30 then kEw ad cI cO k 15 (p - 15)
  else if p < 45 then kEw ad cI cO k 30 (p - 30)
  else if p < 69 then .inl (cI, 15, .inl (k p))
  else .inl (cI, 40, .inl (k p))
/-- the two worlds -/
def kB (B : Nat) : Prop := B = 15 ∨ B = 30
section KE
variable {ad : Nat → Nat} {cI cZ cO : ClassId} {k m : kS}
theorem kE_0 : kE ad cI cZ cO k m 0 = .inr (5, [.ref (ad 1), .ref (ad 15), .ref (ad 30)]) := rfl
theorem kE_1 : kE ad cI cZ cO k m 1 = .inr (0, [.int (k 1 0), .ref (ad 2), .ref (ad 3), .ref (ad 4), .ref (ad 5), .ref (ad 6)]) := rfl
theorem kE_2 : kE ad cI cZ cO k m 2 = .inl (cZ, 40, .inl (k 2)) := rfl
theorem kE_3 : kE ad cI cZ cO k m 3 = .inl (cI, 40, .inl (k 3)) := rfl
theorem kE_4 : kE ad cI cZ cO k m 4 = .inl (cI, 40, .inl (k 4)) := rfl
theorem kE_5 : kE ad cI cZ cO k m 5 = .inl (cI, 40, .inl (k 5)) := rfl
theorem kE_6 : kE ad cI cZ cO k m 6 = .inl (cO, 40, .inr (.inr (.inr (.inr (fun i => if i < 40 then some (ad (69 + i)) else none))))) := rfl
theorem kE_7 : kE ad cI cZ cO k m 7 = .inr (6, [.int (m 7 0), .int (m 7 1), .int (m 7 2), .ref (ad 8), .ref (ad 9), .ref (ad 10), .ref (ad 11), .ref (ad 12), .ref (ad 13), .ref (ad 14)]) := rfl
theorem kE_8 : kE ad cI cZ cO k m 8 = .inl (cI, 360, .inl (m 8)) := rfl
theorem kE_9 : kE ad cI cZ cO k m 9 = .inl (cI, 48, .inl (m 9)) := rfl
theorem kE_10 : kE ad cI cZ cO k m 10 = .inl (cI, 180, .inl (m 10)) := rfl
theorem kE_11 : kE ad cI cZ cO k m 11 = .inl (cI, 1, .inl (m 11)) := rfl
theorem kE_12 : kE ad cI cZ cO k m 12 = .inl (cI, 40, .inl (m 12)) := rfl
theorem kE_13 : kE ad cI cZ cO k m 13 = .inl (cI, 40, .inl (m 13)) := rfl
theorem kE_14 : kE ad cI cZ cO k m 14 = .inl (cI, 12, .inl (m 14)) := rfl
theorem kE_w0 {B : Nat} (h : kB B) : kE ad cI cZ cO k m B = .inr (4, [.ref (ad 1), .ref (ad (B + 1)), .ref (ad (B + 8)), .ref (ad (B + 11)), .ref (ad (B + 14)), .int (k B 0)]) := by rcases h with rfl | rfl <;> rfl
theorem kE_w1 {B : Nat} (h : kB B) : kE ad cI cZ cO k m (B + 1) = .inr (1, [.int (k (B + 1) 0), .ref (ad (B + 2)), .ref (ad (B + 3)), .ref (ad (B + 4)), .ref (ad (B + 5)), .ref (ad (B + 6)), .ref (ad (B + 7))]) := by rcases h with rfl | rfl <;> rfl
theorem kE_w2 {B : Nat} (h : kB B) : kE ad cI cZ cO k m (B + 2) = .inl (cI, 12, .inl (k (B + 2))) := by rcases h with rfl | rfl <;> rfl
theorem kE_w3 {B : Nat} (h : kB B) : kE ad cI cZ cO k m (B + 3) = .inl (cI, 12, .inl (k (B + 3))) := by rcases h with rfl | rfl <;> rfl
theorem kE_w4 {B : Nat} (h : kB B) : kE ad cI cZ cO k m (B + 4) = .inl (cI, 12, .inl (k (B + 4))) := by rcases h with rfl | rfl <;> rfl
theorem kE_w5 {B : Nat} (h : kB B) : kE ad cI cZ cO k m (B + 5) = .inl (cI, 12, .inl (k (B + 5))) := by rcases h with rfl | rfl <;> rfl
theorem kE_w6 {B : Nat} (h : kB B) : kE ad cI cZ cO k m (B + 6) = .inl (cI, 12, .inl (k (B + 6))) := by rcases h with rfl | rfl <;> rfl
theorem kE_w7 {B : Nat} (h : kB B) : kE ad cI cZ cO k m (B + 7) = .inl (cO, 12, .inr (.inr (.inr (.inr (fun i => if i < 12 then some (ad (kpb B + i)) else none))))) := by rcases h with rfl | rfl <;> rfl
theorem kE_w8 {B : Nat} (h : kB B) : kE ad cI cZ cO k m (B + 8) = .inr (3, [.ref (ad (B + 9)), .ref (ad (B + 10))]) := by rcases h with rfl | rfl <;> rfl
theorem kE_w9 {B : Nat} (h : kB B) : kE ad cI cZ cO k m (B + 9) = .inl (cI, 40, .inl (k (B + 9))) := by rcases h with rfl | rfl <;> rfl
theorem kE_w10 {B : Nat} (h : kB B) : kE ad cI cZ cO k m (B + 10) = .inl (cI, 40, .inl (k (B + 10))) := by rcases h with rfl | rfl <;> rfl
theorem kE_w11 {B : Nat} (h : kB B) : kE ad cI cZ cO k m (B + 11) = .inr (2, [.ref (ad (B + 12)), .ref (ad (B + 13))]) := by rcases h with rfl | rfl <;> rfl
theorem kE_w12 {B : Nat} (h : kB B) : kE ad cI cZ cO k m (B + 12) = .inl (cI, 40, .inl (k (B + 12))) := by rcases h with rfl | rfl <;> rfl
theorem kE_w13 {B : Nat} (h : kB B) : kE ad cI cZ cO k m (B + 13) = .inl (cI, 40, .inl (k (B + 13))) := by rcases h with rfl | rfl <;> rfl
theorem kE_w14 {B : Nat} (h : kB B) : kE ad cI cZ cO k m (B + 14) = .inl (cI, 40, .inl (k (B + 14))) := by rcases h with rfl | rfl <;> rfl
theorem kE_past {p : Nat} (h1 : 45 ≤ p) (h2 : p < 69) : kE ad cI cZ cO k m p = .inl (cI, 15, .inl (k p)) := by
  unfold kE
  rw [if_neg (by omega), if_neg (by omega), if_neg (by omega), if_pos h2]
theorem kE_steps {p : Nat} (h1 : 69 ≤ p) : kE ad cI cZ cO k m p = .inl (cI, 40, .inl (k p)) := by
  unfold kE
  rw [if_neg (by omega), if_neg (by omega), if_neg (by omega), if_neg (by omega)]
theorem kEw_dep {B j : Nat} {k k' : kS} (hj : j < 15) (h : k (B + j) = k' (B + j)) : kEw ad cI cO k B j = kEw ad cI cO k' B j := by
  match j, hj, h with
  | 0, _, h => have h' : k B = k' B := h; simp [kEw, h']
  | 1, _, h => simp [kEw, h]
  | 2, _, h => simp [kEw, h]
  | 3, _, h => simp [kEw, h]
  | 4, _, h => simp [kEw, h]
  | 5, _, h => simp [kEw, h]
  | 6, _, h => simp [kEw, h]
  | 7, _, h => rfl
  | 8, _, h => rfl
  | 9, _, h => simp [kEw, h]
  | 10, _, h => simp [kEw, h]
  | 11, _, h => rfl
  | 12, _, h => simp [kEw, h]
  | 13, _, h => simp [kEw, h]
  | 14, _, h => simp [kEw, h]
theorem kE_dep {k k' m m' : kS} {q : Nat} (h : k q = k' q) (h2 : m q = m' q) : kE ad cI cZ cO k m q = kE ad cI cZ cO k' m' q := by
  by_cases h15 : q < 15
  · match q, h15, h, h2 with
    | 0, _, h, h2 => rfl
    | 1, _, h, h2 => rw [kE_1, kE_1, h]
    | 2, _, h, h2 => rw [kE_2, kE_2, h]
    | 3, _, h, h2 => rw [kE_3, kE_3, h]
    | 4, _, h, h2 => rw [kE_4, kE_4, h]
    | 5, _, h, h2 => rw [kE_5, kE_5, h]
    | 6, _, h, h2 => rfl
    | 7, _, h, h2 => rw [kE_7, kE_7, h2]
    | 8, _, h, h2 => rw [kE_8, kE_8, h2]
    | 9, _, h, h2 => rw [kE_9, kE_9, h2]
    | 10, _, h, h2 => rw [kE_10, kE_10, h2]
    | 11, _, h, h2 => rw [kE_11, kE_11, h2]
    | 12, _, h, h2 => rw [kE_12, kE_12, h2]
    | 13, _, h, h2 => rw [kE_13, kE_13, h2]
    | 14, _, h, h2 => rw [kE_14, kE_14, h2]
  · unfold kE
    rw [if_neg h15, if_neg h15]
    by_cases h30 : q < 30
    · rw [if_pos h30, if_pos h30]
      exact kEw_dep (by omega) (by rw [show 15 + (q - 15) = q by omega]; exact h)
    · rw [if_neg h30, if_neg h30]
      by_cases h45 : q < 45
      · rw [if_pos h45, if_pos h45]
        exact kEw_dep (by omega) (by rw [show 30 + (q - 30) = q by omega]; exact h)
      · rw [if_neg h45, if_neg h45, h]
end KE
/-- the places that there are -/
abbrev kOK (p : Nat) : Prop := p < 7 ∨ (15 ≤ p ∧ p < 109)
def kIx (p : Nat) : Nat := if p < 7 then p else p - 8
def kPl (i : Nat) : Nat := if i < 7 then i else i + 8
theorem kIx_lt {p : Nat} (h : kOK p) : kIx p < 101 := by unfold kIx; split <;> omega
theorem kPl_Ix {p : Nat} (h : kOK p) : kPl (kIx p) = p := by
  unfold kIx
  by_cases h7 : p < 7
  · rw [if_pos h7]; unfold kPl; rw [if_pos h7]
  · rw [if_neg h7]; unfold kPl; rw [if_neg (by omega)]; omega
theorem kIx_Pl {i : Nat} (h : i < 101) : kIx (kPl i) = i := by
  unfold kPl
  by_cases h7 : i < 7
  · rw [if_pos h7]; unfold kIx; rw [if_pos h7]
  · rw [if_neg h7]; unfold kIx; rw [if_neg (by omega)]; omega
theorem kPl_ok {i : Nat} (h : i < 101) : kOK (kPl i) := by unfold kPl; split <;> omega
theorem kIx_inj {p q : Nat} (h : kOK p) (h2 : kOK q) (e : kIx p = kIx q) : p = q := by rw [← kPl_Ix h, ← kPl_Ix h2, e]
/-- the cells of all places -/
def kC (ad : Nat → Nat) (e : Nat → va_E) : va_W := (List.range 101).map (fun i => (ad (kPl i), e (kPl i)))
theorem kC_len (ad : Nat → Nat) (e : Nat → va_E) : (kC ad e).length = 101 := by simp [kC]
theorem kC_getI {ad : Nat → Nat} {e : Nat → va_E} {X : va_W} {i : Nat} (hi : i < 101) : (kC ad e ++ X)[i]? = some (ad (kPl i), e (kPl i)) := by
  rw [List.getElem?_append_left (by rw [kC_len]; exact hi)]
  simp [kC, hi]
theorem kC_get {ad : Nat → Nat} {e : Nat → va_E} {X : va_W} {p : Nat} (hp : kOK p) : (kC ad e ++ X)[kIx p]? = some (ad p, e p) := by
  rw [kC_getI (kIx_lt hp), kPl_Ix hp]
theorem kC_inv {ad : Nat → Nat} {e : Nat → va_E} {i : Nat} {q : Nat × va_E} (h : (kC ad e)[i]? = some q) : i < 101 ∧ q = (ad (kPl i), e (kPl i)) := by
  have hp : i < 101 := by
    have := (List.getElem?_eq_some_iff.mp h).1
    rwa [kC_len] at this
  have h2 := kC_getI (ad := ad) (e := e) (X := []) hp
  rw [List.append_nil] at h2
  rw [h2] at h
  exact ⟨hp, (Option.some.inj h).symm⟩
theorem kC_set {ad : Nat → Nat} {e e' : Nat → va_E} {X : va_W} {p : Nat} (hp : kOK p) (ho : ∀ q, q ≠ p → e' q = e q) : (kC ad e ++ X).set (kIx p) (ad p, e' p) = kC ad e' ++ X := by
  have hx := kIx_lt hp
  rw [List.set_append_left _ _ (by rw [kC_len]; exact hx)]
  congr 1
  apply List.ext_getElem?
  intro i
  by_cases hi : i = kIx p
  · subst hi
    rw [List.getElem?_set_self (by rw [kC_len]; exact hx)]
    have h2 := kC_getI (ad := ad) (e := e') (X := []) hx
    rw [List.append_nil, kPl_Ix hp] at h2
    exact h2.symm
  · rw [List.getElem?_set_ne (fun h => hi h.symm)]
    by_cases hl : i < 101
    · have h1 := kC_getI (ad := ad) (e := e) (X := []) hl
      have h2 := kC_getI (ad := ad) (e := e') (X := []) hl
      rw [List.append_nil] at h1 h2
      rw [h1, h2, ho _ (fun h => hi (by rw [← h, kIx_Pl hl]))]
    · rw [List.getElem?_eq_none (by rw [kC_len]; omega), List.getElem?_eq_none (by rw [kC_len]; omega)]
/-- what a method may change -/
def fA (ad : Nat → Nat) (sz : Nat) : Nat → Prop := fun q => (∃ p, kOK p ∧ q = ad p) ∨ sz ≤ q
theorem fA_va (ad : Nat → Nat) (e : Nat → va_E) (sz q : Nat) : va_A (kC ad e) sz q ↔ fA ad sz q := by
  constructor
  · rintro (⟨i, x, h⟩ | h)
    · obtain ⟨h1, h2⟩ := kC_inv h
      exact Or.inl ⟨kPl i, kPl_ok h1, (Prod.ext_iff.mp h2).1⟩
    · exact Or.inr h
  · rintro (⟨p, h1, rfl⟩ | h)
    · have h2 := kC_get (ad := ad) (e := e) (X := []) h1
      rw [List.append_nil] at h2
      exact Or.inl ⟨kIx p, e p, h2⟩
    · exact Or.inr h
theorem fA_eq (ad : Nat → Nat) (e : Nat → va_E) (sz : Nat) : va_A (kC ad e) sz = fA ad sz := funext fun q => propext (fA_va ad e sz q)
theorem kC_is (ad : Nat → Nat) (e : Nat → va_E) (X : va_W) : (List.range 101).map (fun i => (kC ad e ++ X)[i]?) = (kC ad e).map some := by
  apply List.ext_getElem?
  intro i
  by_cases h : i < 101
  · have h2 := kC_getI (ad := ad) (e := e) (X := []) h
    rw [List.append_nil] at h2
    rw [List.getElem?_map, List.getElem?_range h, List.getElem?_map, h2]
    simp [kC_getI h]
  · rw [List.getElem?_eq_none (by simp; omega), List.getElem?_eq_none (by rw [List.length_map, kC_len]; omega)]
theorem kX_is (ad : Nat → Nat) (e : Nat → va_E) (X : va_W) : ((List.range X.length).map (101 + ·)).map (fun i => (kC ad e ++ X)[i]?) = X.map some := by
  apply List.ext_getElem?
  intro i
  by_cases h : i < X.length
  · rw [List.getElem?_map, List.getElem?_map, List.getElem?_range h, List.getElem?_map]
    simp only [Option.map_some]
    rw [List.getElem?_append_right (by rw [kC_len]; omega), kC_len, show 101 + i - 101 = i by omega, List.getElem?_eq_getElem h]
    rfl
  · rw [List.getElem?_eq_none (by simp; omega), List.getElem?_eq_none (by simp; omega)]
theorem va_nd_of : ∀ (l : List Nat), l.Nodup → va_nd l = true
  | [], _ => rfl
  | a :: l, h => by
    have h1 := List.nodup_cons.mp h
    simp only [va_nd, Bool.and_eq_true, decide_eq_true_eq]
    exact ⟨h1.1, va_nd_of l h1.2⟩
theorem kX_nd (n : Nat) : va_nd ((List.range n).map (101 + ·)) = true := va_nd_of _ (List.pairwise_map.mpr (List.Pairwise.imp (fun h e => h (Nat.add_left_cancel e)) (List.nodup_range (n := n))))
