/-! A MARRIAGE ENDS, on both sides -/
def zPart (p q : Nat) (f : Nat → Int32) : Nat → Int32 := upd (upd (upd (upd (upd (upd f (9 * p + 5) (-1)) (9 * q + 5) (-1)) (9 * p + 7) (-1)) (9 * q + 7) (-1)) (9 * p + 8) (-1)) (9 * q + 8) (-1)
def zMW (n : Nat) (m : kS) : Prop := ∀ p, p < n → m 8 (9 * p + 5) = -1 ∨ ∃ q, q < n ∧ m 8 (9 * p + 5) = nI q
section ZP
variable {n p q a b c d e j x r L w l : Nat} {k k1 m m' : kS} {v t : Int32} {B P : Nat} {f th : Nat → Int32}
theorem kst_kst {g : Nat → Int32} : kst (kst k P f) P g = kst k P g := funext fun y => by
  by_cases h : y = P
  · subst h; rw [kst_eq, kst_eq]
  · rw [kst_ne _ _ h, kst_ne _ _ h, kst_ne _ _ h]
theorem zPart_in (hx : x = p ∨ x = q) (hw : w = 5 ∨ w = 7 ∨ w = 8) : zPart p q f (9 * x + w) = -1 := by
  unfold zPart
  by_cases h1 : 9 * x + w = 9 * q + 8
  · rw [h1, pz_us]
  · rw [pz_un h1]
    by_cases h2 : 9 * x + w = 9 * p + 8
    · rw [h2, pz_us]
    · rw [pz_un h2]
      by_cases h3 : 9 * x + w = 9 * q + 7
      · rw [h3, pz_us]
      · rw [pz_un h3]
        by_cases h4 : 9 * x + w = 9 * p + 7
        · rw [h4, pz_us]
        · rw [pz_un h4]
          by_cases h5 : 9 * x + w = 9 * q + 5
          · rw [h5, pz_us]
          · rw [pz_un h5]
            by_cases h6 : 9 * x + w = 9 * p + 5
            · rw [h6, pz_us]
            · omega
theorem zPart_o1 (hx : x ≠ p ∧ x ≠ q) (hw : w < 9) : zPart p q f (9 * x + w) = f (9 * x + w) := by
  unfold zPart
  rw [pz_un (by omega), pz_un (by omega), pz_un (by omega), pz_un (by omega), pz_un (by omega), pz_un (by omega)]
theorem zPart_o2 (hw : w < 9 ∧ w ≠ 5 ∧ w ≠ 7 ∧ w ≠ 8) : zPart p q f (9 * x + w) = f (9 * x + w) := by
  unfold zPart
  rw [pz_un (by omega), pz_un (by omega), pz_un (by omega), pz_un (by omega), pz_un (by omega), pz_un (by omega)]
theorem p3_s (hp : p < 40) : F_X6_set (nI p) 5 v m = some (kst m 8 (upd (m 8) (9 * p + 5) v)) ∧ F_X6_set (nI p) 7 v m = some (kst m 8 (upd (m 8) (9 * p + 7) v)) ∧ F_X6_set (nI p) 8 v m = some (kst m 8 (upd (m 8) (9 * p + 8) v)) :=
  ⟨set_ (w := 5) hp (by decide), set_ (w := 7) hp (by decide), set_ (w := 8) hp (by decide)⟩
def zxf : Nat → Int32 := upd (upd (upd (fun _ => 0) (0 : Int32).toNatClampNeg 5) (1 : Int32).toNatClampNeg 7) (2 : Int32).toNatClampNeg 8
theorem zxf_0 : zxf 0 = 5 := rfl
theorem zxf_1 : zxf 1 = 7 := rfl
theorem zxf_2 : zxf 2 = 8 := rfl
theorem p38_s {g : Nat} {i : Int32} (hp : p < 40) (hq : q < 40) (h3 : ¬ 3 ≤ i) (hi : ¬ (i < 0 ∨ 3 ≤ i.toNatClampNeg)) : F_X6_part_38 (g + 1) (nI p) (nI q) 3 i zxf m = (F_X6_set (nI p) (zxf i.toNatClampNeg) (-1) m).bind fun m2 => (F_X6_set (nI q) (zxf i.toNatClampNeg) (-1) m2).bind fun m3 => F_X6_part_38 g (nI p) (nI q) 3 (i + 1) zxf m3 := by
  simp only [F_X6_part_38, if_neg h3, F_X6_part_45, if_neg hi]
theorem p38_e {g : Nat} {a b : Int32} {xf : Nat → Int32} : F_X6_part_38 (g + 1) a b 3 3 xf m = some (m, 0, 0) := by
  have h : (3 : Int32) ≤ 3 := by decide
  simp only [F_X6_part_38, if_pos h, F_X6_part_73]
theorem p13_x (hp : p < 40) (hq : q < 40) : F_X6_part_13 (nI p) (nI q) m = some (kst m 8 (zPart p q (m 8)), 1, 3) := by
  have c0 : (if ((0 : Int32) < 0 ∨ 3 ≤ (0 : Int32).toNatClampNeg) then none else if ((1 : Int32) < 0 ∨ 3 ≤ (1 : Int32).toNatClampNeg) then none else if ((2 : Int32) < 0 ∨ 3 ≤ (2 : Int32).toNatClampNeg) then none else F_X6_part_38 kN (nI p) (nI q) 3 0 zxf m) = F_X6_part_38 kN (nI p) (nI q) 3 0 zxf m := by
    rw [if_neg (by decide), if_neg (by decide), if_neg (by decide)]
  have run : F_X6_part_38 (4092 + 1 + 1 + 1 + 1) (nI p) (nI q) 3 0 zxf m = some (kst m 8 (zPart p q (m 8)), 0, 0) := by
    have i1 : (0 : Int32) + 1 = 1 := by decide
    have i2 : (1 : Int32) + 1 = 2 := by decide
    have i3 : (2 : Int32) + 1 = 3 := by decide
    have t0 : (0 : Int32).toNatClampNeg = 0 := rfl
    have t1 : (1 : Int32).toNatClampNeg = 1 := rfl
    have t2 : (2 : Int32).toNatClampNeg = 2 := rfl
    rw [p38_s hp hq (by decide) (by decide), t0, zxf_0, (p3_s hp).1, pz_bind, (p3_s hq).1, pz_bind, i1,
      p38_s hp hq (by decide) (by decide), t1, zxf_1, (p3_s hp).2.1, pz_bind, (p3_s hq).2.1, pz_bind, i2,
      p38_s hp hq (by decide) (by decide), t2, zxf_2, (p3_s hp).2.2, pz_bind, (p3_s hq).2.2, pz_bind, i3, p38_e]
    simp only [kst_kst, kst_eq]
    rfl
  have e : F_X6_part_13 (nI p) (nI q) m = kadd 1 3 (F_X6_part_38 kN (nI p) (nI q) 3 0 zxf m) := congrArg (kadd 1 3) c0
  have run' : F_X6_part_38 kN (nI p) (nI q) 3 0 zxf m = some (kst m 8 (zPart p q (m 8)), 0, 0) := run
  rw [e, run']
  rfl
def zcp (B p q : Nat) (k : kS) : kS := kst (kst k (B + 9) (upd (upd (k (B + 9)) p (-1)) q (-1))) (B + 10) (upd (upd (k (B + 10)) p (-1)) q (-1))
theorem cp_x (hp : p < 40) (hq : q < 40) : F_X3_part_21 B (nI p) (nI q) k = some (zcp B p q k) := by
  have n1 : B + 9 ≠ B + 10 := by omega
  have n2 : B + 10 ≠ B + 9 := by omega
  simp only [F_X3_part_21, pz_n0 (show p < 2 ^ 31 by omega), nI_clamp (show p < 2 ^ 31 by omega), pz_ge (show p < 40 by omega), or_self, false_or, if_false, pz_n0 (show q < 2 ^ 31 by omega), nI_clamp (show q < 2 ^ 31 by omega), pz_ge (show q < 40 by omega), or_self, false_or, if_false, kst_eq, kst_kst, kst_ne _ _ n2]
  rfl
/-- part on both sides -/
theorem pt_x (hB : kB B) (hn : n ≤ 40) (hr : r < n) (hW : zMW n m) (h15 : B = 15 → zXq n L k m) (h30 : B = 30 → ∀ p, p < 40 → k 39 p = -1) :
    ∃ k' m' uc us, F_X3_part B (nI r) k = some k' ∧ F_X6_part (nI r) m = some (m', uc, us) ∧ uc ≤ 1 ∧ us ≤ 3 ∧ (∀ q, q ≠ B + 9 → q ≠ B + 10 → k' q = k q) ∧ (∀ q, q ≠ 8 → m' q = m q) ∧ (∀ p w, w < 9 → w ≠ 5 → w ≠ 7 → w ≠ 8 → m' 8 (9 * p + w) = m 8 (9 * p + w)) ∧ zMW n m' ∧ (B = 15 → zXq n L k' m') ∧ (B = 30 → ∀ p, p < 40 → k' 39 p = -1) ∧ (B = 15 → (∀ p, k' 24 p = k 24 p ∨ k' 24 p = -1) ∧ k' 24 r = -1) := by
  have h40 : r < 40 := by omega
  have cls0 : k (B + 9) r = -1 → F_X3_part B (nI r) k = some k := fun h => by
    simp only [F_X3_part, F_X3_part_0, sp_1 h40, pz_bind, h, ft_1 h40, pz_10, if_false, F_X3_part_13, ft_m, pz_00, if_true, F_X3_part_20]
  have ref0 : m 8 (9 * r + 5) = -1 → F_X6_part (nI r) m = some (m, 0, 0) := fun h => by
    simp only [F_X6_part, F_X6_part_0, pe_5 h40, pz_bind, h, if_true, F_X6_part_12]
  have ref1 : ∀ q, q < 40 → m 8 (9 * r + 5) = nI q → F_X6_part (nI r) m = some (kst m 8 (zPart r q (m 8)), 1, 3) := fun q hq h => by
    simp only [F_X6_part, F_X6_part_0, pe_5 h40, pz_bind, h, pz_m1' (show q < 2 ^ 31 by omega), if_false, p13_x h40 hq]
  have mw1 : ∀ q, zMW n (kst m 8 (zPart r q (m 8))) := fun q p hp => by
    rw [kst_eq]
    by_cases g : p = r ∨ p = q
    · rw [zPart_in g (Or.inl rfl)]; exact Or.inl rfl
    · rw [zPart_o1 (by omega) (by decide)]; exact hW p hp
  rcases hB with rfl | rfl
  · have hX := h15 rfl
    obtain ⟨X1, X2, X3⟩ := hX
    have es : m 8 (9 * r + 5) = k 24 r := (X2 r hr).1
    rcases X3 r hr with ⟨s1, s2⟩ | ⟨q, q1, q2, q3, q4, q5⟩
    · exact ⟨k, m, 0, 0, cls0 s1, ref0 (es.trans s1), by omega, by omega, fun _ _ _ => rfl, fun _ _ => rfl, fun _ _ _ _ _ _ => rfl, hW, fun _ => ⟨X1, X2, X3⟩, fun h => absurd h (by decide), fun _ => ⟨fun _ => Or.inl rfl, s1⟩⟩
    · have k24 : zcp 15 r q k 24 = upd (upd (k 24) r (-1)) q (-1) := by
        show kst (kst k 24 _) 25 _ 24 = _
        rw [kst_ne _ _ (by decide), kst_eq]
      have k25 : zcp 15 r q k 25 = upd (upd (k 25) r (-1)) q (-1) := by
        show kst (kst k 24 _) 25 _ 25 = _
        rw [kst_eq]
      have kq : ∀ y, y ≠ 24 → y ≠ 25 → zcp 15 r q k y = k y := fun y y1 y2 => by
        show kst (kst k 24 _) 25 _ y = _
        rw [kst_ne _ _ y2, kst_ne _ _ y1]
      have at24 : ∀ p, (p = r ∨ p = q) → zcp 15 r q k 24 p = -1 := fun p hp => by
        rw [k24]
        by_cases g : p = q
        · subst g; exact pz_us
        · rw [pz_un g, hp.resolve_right g]; exact pz_us
      have at25 : ∀ p, (p = r ∨ p = q) → zcp 15 r q k 25 p = -1 := fun p hp => by
        rw [k25]
        by_cases g : p = q
        · subst g; exact pz_us
        · rw [pz_un g, hp.resolve_right g]; exact pz_us
      have o24 : ∀ p, ¬ (p = r ∨ p = q) → zcp 15 r q k 24 p = k 24 p := fun p hp => by
        rw [k24, pz_un (fun e => hp (Or.inr e)), pz_un (fun e => hp (Or.inl e))]
      have o25 : ∀ p, ¬ (p = r ∨ p = q) → zcp 15 r q k 25 p = k 25 p := fun p hp => by
        rw [k25, pz_un (fun e => hp (Or.inr e)), pz_un (fun e => hp (Or.inl e))]
      refine ⟨zcp 15 r q k, kst m 8 (zPart r q (m 8)), 1, 3, ?_, ref1 q (by omega) (es.trans q3), by omega, by omega, fun y y1 y2 => kq y y1 y2, fun y hy => kst_ne _ _ hy, fun p w hw w5 w7 w8 => ?_, mw1 q, fun _ => ⟨fun p hp hp2 => ?_, fun p hp => ?_, fun p hp => ?_⟩, fun h => absurd h (by decide), fun _ => ⟨fun p => ?_, at24 r (Or.inl rfl)⟩⟩
      · have e24 : k (15 + 9) r = nI q := q3
        simp only [F_X3_part, F_X3_part_0, sp_1 h40, pz_bind, e24, ft_1 h40, ft_1 (show q < 40 by omega), pz_10, if_false, F_X3_part_13, cp_x h40 (show q < 40 by omega)]
      · rw [kst_eq, zPart_o2 ⟨hw, w5, w7, w8⟩]
      · rw [o24 p (by omega), o25 p (by omega), kq 29 (by decide) (by decide)]
        exact X1 p hp hp2
      · rw [kst_eq, kq 29 (by decide) (by decide), zPart_o2 (x := p) (w := 6) (by decide)]
        refine ⟨?_, (X2 p hp).2⟩
        by_cases g : p = r ∨ p = q
        · rw [zPart_in g (Or.inl rfl), at24 p g]
        · rw [zPart_o1 (by omega) (by decide), o24 p g]; exact (X2 p hp).1
      · by_cases g : p = r ∨ p = q
        · exact Or.inl ⟨at24 p g, at25 p g⟩
        · rw [o24 p g, o25 p g]
          rcases X3 p hp with h | ⟨q', h1, h2, h3, h4, h5⟩
          · exact Or.inl h
          · have g' : ¬ (q' = r ∨ q' = q) := by
              rintro (rfl | rfl)
              · have := (nI_eq (by omega) (by omega)).mp (h4.symm.trans q3)
                omega
              · have := (nI_eq (by omega) (by omega)).mp (h4.symm.trans q4)
                omega
            refine Or.inr ⟨q', h1, h2, h3, by rw [o24 q' g']; exact h4, ?_⟩
            unfold zTr at *
            rw [o25 p g, o25 q' g', kst_eq, zPart_o1 (w := 7) (by omega) (by decide), zPart_o1 (w := 8) (by omega) (by decide)]
            exact h5
      · by_cases g : p = r ∨ p = q
        · exact Or.inr (at24 p g)
        · exact Or.inl (o24 p g)
  · have h0 : k (30 + 9) r = -1 := h30 rfl r h40
    rcases hW r hr with h | ⟨q, q1, q2⟩
    · exact ⟨k, m, 0, 0, cls0 h0, ref0 h, by omega, by omega, fun _ _ _ => rfl, fun _ _ => rfl, fun _ _ _ _ _ _ => rfl, hW, fun h => absurd h (by decide), fun _ => h30 rfl, fun h => absurd h (by decide)⟩
    · exact ⟨k, kst m 8 (zPart r q (m 8)), 1, 3, cls0 h0, ref1 q (by omega) q2, by omega, by omega, fun _ _ _ => rfl, fun y hy => kst_ne _ _ hy, fun p w hw w5 w7 w8 => by rw [kst_eq, zPart_o2 ⟨hw, w5, w7, w8⟩], mw1 q, fun h => absurd h (by decide), fun _ => h30 rfl, fun h => absurd h (by decide)⟩
end ZP
