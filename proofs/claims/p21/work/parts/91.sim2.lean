/-! SIM'S READING METHODS: up, related, children, rules, worth -/
def zws (m : kS) (v : Int32) : Nat → Nat
  | 0 => 0
  | n + 1 => zws m v n + (if m 9 (4 * n + 2) = v then (m 9 (4 * n)).toNatClampNeg else 0)
def jrl (k : kS) (a b : Nat) : Int32 := if k (69 + a) b = -1 then 1000 else k (69 + a) b
theorem jmin_x {s t : Nat} (hs : s ≤ 3000) (ht : t ≤ 3000) : (if nI t < nI s then nI t else nI s) = nI (min s t) := by
  by_cases h : t < s
  · rw [if_pos (nI_lt h (by omega)), Nat.min_eq_right (by omega)]
  · rw [if_neg (nI_nlt (by omega) (by omega)), Nat.min_eq_left (by omega)]
theorem jmin_y {s t : Nat} (hs : s ≤ 2000) (ht : t ≤ 2000) : (if 1 + (if nI t < nI s then nI t else nI s) < 1000 then 1 + (if nI t < nI s then nI t else nI s) else 1000) = nI (min 1000 (1 + min s t)) := by
  rw [jmin_x (by omega) (by omega), show (1 : Int32) + nI (min s t) = nI (1 + min s t) from nI_add 1 _]
  have h2 : min s t ≤ 2000 := by omega
  exact jmin_x (s := 1000) (t := 1 + min s t) (by omega) (by omega)
section ZS
variable {n L h0 a b p q w : Nat} {k m z : kS} {v : Int32}
theorem jR_k4 (R : jR n L h0 m z) (hE : zEq n k m) (h : p < n) : z (4 * p + 1) 4 = k 4 p := (jR_p R h).2.2.2.2.1.trans (hE p h).2.2.1
theorem jR_k5 (R : jR n L h0 m z) (hE : zEq n k m) (h : p < n) : z (4 * p + 1) 5 = k 5 p := (jR_p R h).2.2.2.2.2.1.trans (hE p h).2.2.2
theorem jup_m {d : Nat} : F_X8_up z (d + 1) (-1) v = some 1000 := by
  simp only [F_X8_up_4, F_X8_up_13, F_X8_up_15, F_X8_up_8, F_X8_up_0, F_X8_up, if_true]
theorem jup_x (R : jR n L h0 m z) (hE : zEq n k m) (hP : zPar n k) : ∀ d a, a < n → a + 2 ≤ d → ∀ q, q < n → ∃ t, F_X8_up z d (nI a) (nI q) = some (nI t) ∧ ((t = 1000 ∧ ∀ e, ¬ zPath k e a q) ∨ (t ≤ a ∧ zPath k t a q ∧ ∀ e, zPath k e a q → t ≤ e))
  | 0, a, _, h, q, _ => by omega
  | 1, a, _, h, q, _ => by omega
  | d + 2, a, ha, h, q, hq => by
    have hn := R.1
    have e4 := jR_k4 R hE ha
    have e5 := jR_k5 R hE ha
    show ∃ t, F_X8_up_0 (F_X8_up z (d + 1)) z (nI a) (nI q) = some (nI t) ∧ _
    simp only [F_X8_up_0, F_X8_up_8, F_X8_up_13, pz_m1' (show a < 2 ^ 31 by omega), if_false, jR_jN R, jR_b R (jk_n ha), jR_b R (jk_n hq), pz_eq (show a < 2 ^ 31 by omega) (show q < 2 ^ 31 by omega)]
    by_cases haq : a = q
    · rw [if_pos haq]
      subst haq
      exact ⟨0, rfl, Or.inr ⟨by omega, rfl, fun e _ => by omega⟩⟩
    · rw [if_neg haq]
      have fin : ∀ x y : Nat, x ≤ 1000 → y ≤ 1000 → F_X8_up z (d + 1) (k 4 a) (nI q) = some (nI x) → F_X8_up z (d + 1) (k 5 a) (nI q) = some (nI y) → F_X8_up_15 (F_X8_up z (d + 1)) z (nI a) (nI q) = some (nI (min 1000 (1 + min x y))) := by
        intro x y hx hy h1 h2
        simp only [F_X8_up_15, jR_jN R, jR_jM R, jR_ln R, jR_lL R, if_false, jR_ng R (ha), jR_cl R (ha), pz_ge (ha), or_self, if_false, e4, e5, h1, h2, pz_bind, jmin_y (show x ≤ 2000 by omega) (show y ≤ 2000 by omega)]
      rcases hP a ha with ⟨h4, h5⟩ | ⟨x, y, hx, hy, h4, h5⟩
      · refine ⟨1000, ?_, Or.inl ⟨rfl, fun e he => ?_⟩⟩
        · rw [fin 1000 1000 (by omega) (by omega) (by rw [h4]; exact jup_m) (by rw [h5]; exact jup_m)]
          rfl
        · cases e with
          | zero => exact haq he
          | succ e =>
            obtain ⟨b, hb, h | h, -⟩ := he
            · rw [h4] at h; exact pz_m1 (show b < 2 ^ 31 by omega) h.symm
            · rw [h5] at h; exact pz_m1 (show b < 2 ^ 31 by omega) h.symm
      · obtain ⟨s, hs, hs2⟩ := jup_x R hE hP (d + 1) x (by omega) (by omega) q hq
        obtain ⟨t, ht, ht2⟩ := jup_x R hE hP (d + 1) y (by omega) (by omega) q hq
        have hs9 : s ≤ 1000 := by rcases hs2 with h | h <;> omega
        have ht9 : t ≤ 1000 := by rcases ht2 with h | h <;> omega
        refine ⟨_, fin s t hs9 ht9 (by rw [h4]; exact hs) (by rw [h5]; exact ht), ?_⟩
        have up : ∀ e, zPath k e a q → ∃ f, e = f + 1 ∧ (zPath k f x q ∨ zPath k f y q) := by
          intro e he
          cases e with
          | zero => exact absurd he haq
          | succ e =>
            obtain ⟨b, hb, h | h, h9⟩ := he
            · rw [h4, nI_eq (by omega) (by omega)] at h; subst h; exact ⟨e, rfl, Or.inl h9⟩
            · rw [h5, nI_eq (by omega) (by omega)] at h; subst h; exact ⟨e, rfl, Or.inr h9⟩
        have px : zPath k s x q → zPath k (s + 1) a q := fun h => ⟨x, hx, Or.inl h4, h⟩
        have py : zPath k t y q → zPath k (t + 1) a q := fun h => ⟨y, hy, Or.inr h5, h⟩
        rcases hs2 with ⟨s1, s2⟩ | ⟨s1, s2, s3⟩ <;> rcases ht2 with ⟨t1, t2⟩ | ⟨t1, t2, t3⟩
        · refine Or.inl ⟨by omega, fun e he => ?_⟩
          obtain ⟨f, rfl, h | h⟩ := up e he
          · exact s2 f h
          · exact t2 f h
        · refine Or.inr ?_
          rw [show min 1000 (1 + min s t) = t + 1 by omega]
          refine ⟨by omega, py t2, fun e he => ?_⟩
          obtain ⟨f, rfl, h | h⟩ := up e he
          · exact absurd h (s2 f)
          · have := t3 f h; omega
        · refine Or.inr ?_
          rw [show min 1000 (1 + min s t) = s + 1 by omega]
          refine ⟨by omega, px s2, fun e he => ?_⟩
          obtain ⟨f, rfl, h | h⟩ := up e he
          · have := s3 f h; omega
          · exact absurd h (t2 f)
        · refine Or.inr ?_
          by_cases hst : s ≤ t
          · rw [show min 1000 (1 + min s t) = s + 1 by omega]
            refine ⟨by omega, px s2, fun e he => ?_⟩
            obtain ⟨f, rfl, h | h⟩ := up e he
            · have := s3 f h; omega
            · have := t3 f h; omega
          · rw [show min 1000 (1 + min s t) = t + 1 by omega]
            refine ⟨by omega, py t2, fun e he => ?_⟩
            obtain ⟨f, rfl, h | h⟩ := up e he
            · have := s3 f h; omega
            · have := t3 f h; omega
theorem jrel_x (R : jR n L h0 m z) (hK : zKin n k m) (ha : a < n) (hb : b < n) : F_X8_related z (nI a) (nI b) = some (jrl k a b) := by
  have hn := R.1
  have hE := hK.2.2.2.1
  have hP := hK.2.2.2.2.2.1
  have hS := hK.2.2.2.2.2.2
  obtain ⟨v, h1, s, rfl, hs, hlo, hhi⟩ := pz_loop10 (α := Int32) (fun g i v => F_X8_related_18 z g (nI a) (nI b) v (nI n) (nI i)) (fun v => some v) n (fun i v => ∃ s, v = nI s ∧ s ≤ 1000 ∧ (s = 1000 ∨ ∃ p d e, zPath k d a p ∧ zPath k e b p ∧ s = d + e) ∧ ∀ p, p < i → ∀ d e, zPath k d a p → zPath k e b p → s ≤ d + e)
    (fun v _ g => by
      simp only [F_X8_related_18, F_X8_related_56, pz_cT (show n < 2 ^ 31 by omega), if_true])
    (fun i v hi hI => by
      obtain ⟨s, rfl, h1, h2, h3⟩ := hI
      have c := pz_cF hi (show n < 2 ^ 31 by omega)
      obtain ⟨x, hx, hx2⟩ := jup_x R hE hP kD a ha (by show a + 2 ≤ 45; omega) i hi
      obtain ⟨y, hy, hy2⟩ := jup_x R hE hP kD b hb (by show b + 2 ≤ 45; omega) i hi
      have x9 : x ≤ 1000 := by rcases hx2 with h | h <;> omega
      have y9 : y ≤ 1000 := by rcases hy2 with h | h <;> omega
      refine ⟨nI (min s (x + y)), fun g => ?_, min s (x + y), rfl, by omega, ?_, ?_⟩
      · simp only [F_X8_related_18, F_X8_related_25, c, if_false, jR_jN R, jR_jM R, jR_ln R, jR_lL R, if_false, jR_ng R (hi), jR_cl R (hi), pz_ge (hi), or_self, if_false, jR_z4 R hi, hx, hy, pz_bind, nI_add, nI_1, jmin_x (show s ≤ 3000 by omega) (show x + y ≤ 3000 by omega)]
      · rcases hx2 with ⟨e1, -⟩ | ⟨e1, e2, -⟩
        · rw [show min s (x + y) = s by omega]; exact h2
        · rcases hy2 with ⟨f1, -⟩ | ⟨f1, f2, -⟩
          · rw [show min s (x + y) = s by omega]; exact h2
          · by_cases hm : s ≤ x + y
            · rw [Nat.min_eq_left hm]; exact h2
            · rw [Nat.min_eq_right (by omega)]; exact Or.inr ⟨i, x, y, e2, f2, rfl⟩
      · intro p hp d e hd he
        by_cases hpi : p < i
        · have := h3 p hpi d e hd he; omega
        · obtain rfl : p = i := by omega
          rcases hx2 with ⟨-, e1⟩ | ⟨-, -, e1⟩
          · exact absurd hd (e1 d)
          · rcases hy2 with ⟨-, f1⟩ | ⟨-, -, f1⟩
            · exact absurd he (f1 e)
            · have := e1 d hd; have := f1 e he; omega)
    (by omega) (a := 1000) ⟨1000, rfl, by omega, Or.inl rfl, fun p hp => by omega⟩
  have h9 : F_X8_related z (nI a) (nI b) = some (nI s) := by
    simp only [F_X8_related, F_X8_related_0, jR_ln R]
    exact h1
  rw [h9]
  congr 1
  unfold jrl
  rcases hS a b ha hb with ⟨e1, e2⟩ | ⟨p, d, e, p1, p2, p3, p4⟩
  · rw [if_pos e1]
    rcases hlo with h | ⟨p, d, e, p1, p2, -⟩
    · rw [h]; rfl
    · exact absurd p2 (e2 p d e p1)
  · have l1 := zPath_le p1
    have l2 := zPath_le p2
    have := hhi p (by omega) d e p1 p2
    rw [p3, if_neg (pz_m1 (by omega))]
    rcases hlo with h | ⟨p', d', e', q1, q2, q3⟩
    · omega
    · have := p4 p' d' e' q1 q2
      rw [show s = d + e by omega]
theorem jrl_v (hK : zKin n k m) (ha : a < n) (hb : b < n) : (k (69 + a) b = -1 ∧ jrl k a b = nI 1000) ∨ ∃ t, t ≤ 80 ∧ k (69 + a) b = nI t ∧ jrl k a b = nI t := by
  have hn := hK.1
  rcases hK.2.2.2.2.2.2 a b ha hb with ⟨e1, e2⟩ | ⟨p, d, e, p1, p2, p3, p4⟩
  · exact Or.inl ⟨e1, if_pos e1⟩
  · have l1 := zPath_le p1
    have l2 := zPath_le p2
    refine Or.inr ⟨d + e, by omega, p3, ?_⟩
    unfold jrl
    rw [p3, if_neg (pz_m1 (by omega))]
/-- children -/
theorem jch_x (R : jR n L h0 m z) (hE : zEq n k m) (hp : p < n) : F_X8_children z (nI p) = some (nI (zcnt (fun c => zCh k c p) n)) := by
  have hn := R.1
  obtain ⟨v, h1, rfl⟩ := pz_loop10 (α := Int32) (fun g i v => F_X8_children_14 z g (nI p) v (nI n) (nI i)) (fun v => some v) n (fun i v => v = nI (zcnt (fun c => zCh k c p) i))
    (fun v _ g => by
      simp only [F_X8_children_51, F_X8_children_46, F_X8_children_50, F_X8_children_37, F_X8_children_21, F_X8_children_59, F_X8_children_14, F_X8_children_0, F_X8_children, pz_cT (show n < 2 ^ 31 by omega), if_true])
    (fun i v hi hI => by
      subst hI
      have c := pz_cF hi (show n < 2 ^ 31 by omega)
      have e4 := jR_k4 R hE hi
      have e5 := jR_k5 R hE hi
      have b4 := (jR_c R).1 i hi
      rw [e4, e5] at b4
      by_cases h : zCh k i p
      · refine ⟨nI (zcnt (fun c => zCh k c p) i + 1), fun g => ?_, by rw [zcnt_s1 (A := fun c => zCh k c p) h]⟩
        simp only [F_X8_children_51, F_X8_children_46, F_X8_children_50, F_X8_children_37, F_X8_children_21, F_X8_children_59, F_X8_children_14, F_X8_children_0, F_X8_children, c, jR_jN R, jR_jM R, jR_ln R, jR_lL R, if_false, jR_ng R (hi), jR_cl R (hi), pz_ge (hi), or_self, if_false, jR_z4 R hi, e4, e5, jR_b R b4.1, jR_b R b4.2.1, jR_b R (jk_n hp), nI_1]
        by_cases h4 : k 4 i = nI p
        · rw [if_pos h4]
        · rw [if_neg h4, if_pos (h.resolve_left h4)]
      · refine ⟨nI (zcnt (fun c => zCh k c p) i), fun g => ?_, by rw [zcnt_s0 (A := fun c => zCh k c p) h]⟩
        simp only [F_X8_children_51, F_X8_children_46, F_X8_children_50, F_X8_children_37, F_X8_children_21, F_X8_children_59, F_X8_children_14, F_X8_children_0, F_X8_children, c, jR_jN R, jR_jM R, jR_ln R, jR_lL R, if_false, jR_ng R (hi), jR_cl R (hi), pz_ge (hi), or_self, if_false, jR_z4 R hi, e4, e5, jR_b R b4.1, jR_b R b4.2.1, jR_b R (jk_n hp), nI_1, Int32.add_zero]
        rw [if_neg (fun q => h (Or.inl q)), if_neg (fun q => h (Or.inr q))])
    (by omega) (a := 0) rfl
  simp only [F_X8_children, F_X8_children_0, jR_ln R]
  exact h1
/-- lands that one rules -/
theorem jru_x (R : jR n L h0 m z) (hv : jk n v) : F_X8_rules z v = some (nI (zcnt (fun l => m 9 (4 * l + 2) = v) L)) := by
  have hL := R.2.1
  obtain ⟨u, h1, rfl⟩ := pz_loop10 (α := Int32) (fun g i u => F_X8_rules_14 z g v u (nI L) (nI i)) (fun u => some u) L (fun i u => u = nI (zcnt (fun l => m 9 (4 * l + 2) = v) i))
    (fun u _ g => by
      simp only [F_X8_rules_42, F_X8_rules_37, F_X8_rules_41, F_X8_rules_21, F_X8_rules_50, F_X8_rules_14, F_X8_rules_0, F_X8_rules, pz_cT (show L < 2 ^ 31 by omega), if_true])
    (fun i u hi hI => by
      subst hI
      have c := pz_cF hi (show L < 2 ^ 31 by omega)
      have e := (jR_lr R hi).2.2.1
      have b := ((jR_c R).2 i hi).1
      rw [e] at b
      by_cases h : m 9 (4 * i + 2) = v
      · refine ⟨nI (zcnt (fun l => m 9 (4 * l + 2) = v) i + 1), fun g => ?_, by rw [zcnt_s1 (A := fun l => m 9 (4 * l + 2) = v) h]⟩
        simp only [F_X8_rules_42, F_X8_rules_37, F_X8_rules_41, F_X8_rules_21, F_X8_rules_50, F_X8_rules_14, F_X8_rules_0, F_X8_rules, c, jR_jN R, jR_jM R, jR_ln R, jR_lL R, if_false, jR_ngL R (hi), jR_clL R (hi), pz_ge (hi), or_self, if_false, jR_z8 R hi, e, jR_b R b, jR_b R hv, nI_1, if_pos h]
      · refine ⟨nI (zcnt (fun l => m 9 (4 * l + 2) = v) i), fun g => ?_, by rw [zcnt_s0 (A := fun l => m 9 (4 * l + 2) = v) h]⟩
        simp only [F_X8_rules_42, F_X8_rules_37, F_X8_rules_41, F_X8_rules_21, F_X8_rules_50, F_X8_rules_14, F_X8_rules_0, F_X8_rules, c, jR_jN R, jR_jM R, jR_ln R, jR_lL R, if_false, jR_ngL R (hi), jR_clL R (hi), pz_ge (hi), or_self, if_false, jR_z8 R hi, e, jR_b R b, jR_b R hv, nI_1, if_neg h, Int32.add_zero])
    (by omega) (a := 0) rfl
  simp only [F_X8_rules, F_X8_rules_0, jR_lL R]
  exact h1
/-- their worth -/
theorem jwo_x (R : jR n L h0 m z) (hv : jk n v) (hw : ∀ l, l < L → ∃ t, t ≤ 50 ∧ m 9 (4 * l) = nI t) : F_X8_worth z v = some (nI (zws m v L)) := by
  have hL := R.2.1
  obtain ⟨u, h1, rfl⟩ := pz_loop10 (α := Int32) (fun g i u => F_X8_worth_14 z g v u (nI L) (nI i)) (fun u => some u) L (fun i u => u = nI (zws m v i))
    (fun u _ g => by
      simp only [F_X8_worth_46, F_X8_worth_37, F_X8_worth_45, F_X8_worth_21, F_X8_worth_54, F_X8_worth_14, F_X8_worth_0, F_X8_worth, pz_cT (show L < 2 ^ 31 by omega), if_true])
    (fun i u hi hI => by
      subst hI
      have c := pz_cF hi (show L < 2 ^ 31 by omega)
      have e := (jR_lr R hi).2.2.1
      have e0 := (jR_lr R hi).1
      have b := ((jR_c R).2 i hi).1
      rw [e] at b
      obtain ⟨t, ht, et⟩ := hw i hi
      by_cases h : m 9 (4 * i + 2) = v
      · refine ⟨nI (zws m v (i + 1)), fun g => ?_, rfl⟩
        simp only [F_X8_worth_46, F_X8_worth_37, F_X8_worth_45, F_X8_worth_21, F_X8_worth_54, F_X8_worth_14, F_X8_worth_0, F_X8_worth, c, jR_jN R, jR_jM R, jR_ln R, jR_lL R, if_false, jR_ngL R (hi), jR_clL R (hi), pz_ge (hi), or_self, if_false, jR_z8 R hi, e, e0, jR_b R b, jR_b R hv, nI_1, if_pos h, et, nI_add, zws, nI_clamp (show t < 2 ^ 31 by omega)]
      · refine ⟨nI (zws m v (i + 1)), fun g => ?_, rfl⟩
        simp only [F_X8_worth_46, F_X8_worth_37, F_X8_worth_45, F_X8_worth_21, F_X8_worth_54, F_X8_worth_14, F_X8_worth_0, F_X8_worth, c, jR_jN R, jR_jM R, jR_ln R, jR_lL R, if_false, jR_ngL R (hi), jR_clL R (hi), pz_ge (hi), or_self, if_false, jR_z8 R hi, e, jR_b R b, jR_b R hv, nI_1, if_neg h, Int32.add_zero, zws, Nat.add_zero])
    (by omega) (a := 0) rfl
  simp only [F_X8_worth, F_X8_worth_0, jR_lL R]
  exact h1
end ZS
