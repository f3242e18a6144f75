/-! A PERSON MORE, on both sides -/
def zSt (k : kS) (a b : Nat) (t : Int32) : Prop := (t = -1 ∧ ∀ p d e, zPath k d a p → ¬ zPath k e b p) ∨ (∃ p d e, zPath k d a p ∧ zPath k e b p ∧ t = nI (d + e) ∧ ∀ p' d' e', zPath k d' a p' → zPath k e' b p' → d + e ≤ d' + e')
def zWay (s1 s2 : Int32) : Int32 := if s1 = -1 then (if s2 = -1 then -1 else s2 + 1) else (if s2 = -1 then s1 + 1 else (if s2 < s1 then s2 else s1) + 1)
def zSv (k : kS) (v : Int32) (x : Nat) : Int32 := if v = -1 then -1 else k (69 + v.toNatClampNeg) x
section ZA
variable {n p q a b c d e j x r L w l y Y : Nat} {k k1 k0 k' m m1 m' : kS} {v t v1 v2 v3 : Int32} {B P : Nat}
theorem zSt_sy (h : zSt k a b t) : zSt k b a t := by
  rcases h with ⟨h1, h2⟩ | ⟨p, d, e, h1, h2, h3, h4⟩
  · exact Or.inl ⟨h1, fun p d e g1 g2 => h2 p e d g2 g1⟩
  · exact Or.inr ⟨p, e, d, h2, h1, by rw [h3, Nat.add_comm], fun p' d' e' g1 g2 => by have := h4 p' e' d' g2 g1; omega⟩
theorem zPath_lt (h : ∀ p, p < n → k' 4 p = k 4 p ∧ k' 5 p = k 5 p) : ∀ {d a q : Nat}, a < n → (zPath k' d a q ↔ zPath k d a q)
  | 0, _, _, _ => Iff.rfl
  | d + 1, a, q, ha => by
    show (∃ b, b < a ∧ (k' 4 a = nI b ∨ k' 5 a = nI b) ∧ zPath k' d b q) ↔ ∃ b, b < a ∧ (k 4 a = nI b ∨ k 5 a = nI b) ∧ zPath k d b q
    rw [(h a ha).1, (h a ha).2]
    constructor
    · rintro ⟨b, h1, h2, h3⟩; exact ⟨b, h1, h2, (zPath_lt h (by omega)).mp h3⟩
    · rintro ⟨b, h1, h2, h3⟩; exact ⟨b, h1, h2, (zPath_lt h (by omega)).mpr h3⟩
/-- the new one's ways, out of its parents' -/
theorem zWay_x (hn : n < 2 ^ 30) (h : ∀ p, p < n → k' 4 p = k 4 p ∧ k' 5 p = k 5 p) (ha : a < n) (hb : b < n) (hx : x < n) (h4 : k' 4 n = nI a) (h5 : k' 5 n = nI b) {s1 s2 : Int32} (g1 : zSt k a x s1) (g2 : zSt k b x s2) : zSt k' n x (zWay s1 s2) := by
  have px : ∀ {e q : Nat}, zPath k' e x q ↔ zPath k e x q := zPath_lt h hx
  have viaA : ∀ {d q : Nat}, zPath k d a q → zPath k' (d + 1) n q := fun hd => ⟨a, ha, Or.inl h4, (zPath_lt h ha).mpr hd⟩
  have viaB : ∀ {d q : Nat}, zPath k d b q → zPath k' (d + 1) n q := fun hd => ⟨b, hb, Or.inr h5, (zPath_lt h hb).mpr hd⟩
  have from' : ∀ {d q e : Nat}, zPath k' d n q → zPath k' e x q → ∃ d', d = d' + 1 ∧ (zPath k d' a q ∨ zPath k d' b q) := by
    intro d q e hd he
    cases d with
    | zero =>
      have : n = q := hd
      subst this
      have := zPath_le he
      omega
    | succ d =>
      obtain ⟨z, hz, hp, hd⟩ := hd
      refine ⟨d, rfl, ?_⟩
      rcases hp with hp | hp
      · have : a = z := (nI_eq (by omega) (by omega)).mp (h4.symm.trans hp)
        subst this
        exact Or.inl ((zPath_lt h ha).mp hd)
      · have : b = z := (nI_eq (by omega) (by omega)).mp (h5.symm.trans hp)
        subst this
        exact Or.inr ((zPath_lt h hb).mp hd)
  unfold zWay
  rcases g1 with ⟨rfl, n1⟩ | ⟨p1, d1, e1, q1, q2, rfl, q3⟩
  · rw [if_pos rfl]
    rcases g2 with ⟨rfl, n2⟩ | ⟨p2, d2, e2, r1, r2, rfl, r3⟩
    · rw [if_pos rfl]
      refine Or.inl ⟨rfl, fun p d e hd he => ?_⟩
      obtain ⟨d', rfl, hd | hd⟩ := from' hd he
      · exact n1 p d' e hd (px.mp he)
      · exact n2 p d' e hd (px.mp he)
    · have l1 := zPath_le r1
      have l2 := zPath_le r2
      rw [if_neg (pz_m1 (by omega))]
      refine Or.inr ⟨p2, d2 + 1, e2, viaB r1, px.mpr r2, by rw [nI_1]; congr 1; omega, fun p' d' e' hd he => ?_⟩
      obtain ⟨d'', rfl, hd | hd⟩ := from' hd he
      · exact absurd (px.mp he) (n1 p' d'' e' hd)
      · have := r3 p' d'' e' hd (px.mp he)
        omega
  · have l1 := zPath_le q1
    have l2 := zPath_le q2
    rw [if_neg (pz_m1 (by omega))]
    rcases g2 with ⟨rfl, n2⟩ | ⟨p2, d2, e2, r1, r2, rfl, r3⟩
    · rw [if_pos rfl]
      refine Or.inr ⟨p1, d1 + 1, e1, viaA q1, px.mpr q2, by rw [nI_1]; congr 1; omega, fun p' d' e' hd he => ?_⟩
      obtain ⟨d'', rfl, hd | hd⟩ := from' hd he
      · have := q3 p' d'' e' hd (px.mp he)
        omega
      · exact absurd (px.mp he) (n2 p' d'' e' hd)
    · have l3 := zPath_le r1
      have l4 := zPath_le r2
      rw [if_neg (pz_m1 (by omega))]
      by_cases lt : d2 + e2 < d1 + e1
      · rw [if_pos ((nI_ltI (by omega) (by omega)).mpr lt)]
        refine Or.inr ⟨p2, d2 + 1, e2, viaB r1, px.mpr r2, by rw [nI_1]; congr 1; omega, fun p' d' e' hd he => ?_⟩
        obtain ⟨d'', rfl, hd | hd⟩ := from' hd he
        · have := q3 p' d'' e' hd (px.mp he)
          omega
        · have := r3 p' d'' e' hd (px.mp he)
          omega
      · rw [if_neg (fun q => lt ((nI_ltI (by omega) (by omega)).mp q))]
        refine Or.inr ⟨p1, d1 + 1, e1, viaA q1, px.mpr q2, by rw [nI_1]; congr 1; omega, fun p' d' e' hd he => ?_⟩
        obtain ⟨d'', rfl, hd | hd⟩ := from' hd he
        · have := q3 p' d'' e' hd (px.mp he)
          omega
        · have := r3 p' d'' e' hd (px.mp he)
          omega
theorem sb_m (hk : k 1 0 = nI n) : F_X0_stepsBetween k (-1) v = some (-1) := by
  simp only [F_X0_stepsBetween_28, F_X0_stepsBetween_16, F_X0_stepsBetween_27, F_X0_stepsBetween_8, F_X0_stepsBetween_0, F_X0_stepsBetween, kn_m hk, pz_bind, pz_00, if_true]
theorem sb_v (hn : n ≤ 40) (hk : k 1 0 = nI n) (hv : v = -1 ∨ ∃ a, a < n ∧ v = nI a) (hx : x < n) : F_X0_stepsBetween k v (nI x) = some (zSv k v x) := by
  rcases hv with rfl | ⟨a, ha, rfl⟩
  · rw [sb_m hk, zSv, if_pos rfl]
  · rw [sb_1 hn hk ha hx, zSv, if_neg (pz_m1 (by omega)), nI_clamp (by omega)]
theorem stp_x (hn : n ≤ 40) (hk : k 1 0 = nI n) (hv1 : v1 = -1 ∨ ∃ a, a < n ∧ v1 = nI a) (hv2 : v2 = -1 ∨ ∃ a, a < n ∧ v2 = nI a) (hx : x < n) : F_X0_stepsThroughParents k v1 v2 (nI x) = some (zWay (zSv k v1 x) (zSv k v2 x)) := by
  simp only [F_X0_stepsThroughParents, F_X0_stepsThroughParents_0, sb_v hn hk hv1 hx, sb_v hn hk hv2 hx, pz_bind, F_X0_stepsThroughParents_22, F_X0_stepsThroughParents_28, F_X0_stepsThroughParents_30, F_X0_stepsThroughParents_36, F_X0_stepsThroughParents_41, F_X0_stepsThroughParents_47, F_X0_stepsThroughParents_54, F_X0_stepsThroughParents_63, zWay]
  by_cases h1 : zSv k v1 x = -1
  · by_cases h2 : zSv k v2 x = -1
    · simp only [h1, h2, if_true]
    · simp only [h1, h2, if_true, if_false]
  · by_cases h2 : zSv k v2 x = -1
    · simp only [h1, h2, if_true, if_false]
    · simp only [h1, h2, if_false]
/-- add, by its places -/
theorem ad_x (hn : n < 40) (hk : k 1 0 = nI n) (hv : v = 0 ∨ v = 1) (hv1 : v1 = -1 ∨ ∃ a, a < n ∧ v1 = nI a) (hv2 : v2 = -1 ∨ ∃ a, a < n ∧ v2 = nI a) : ∃ k', F_X0_add v t v1 v2 k = some (nI n, k') ∧ k' 1 0 = nI (n + 1) ∧ k' 2 = upd (k 2) n v ∧ k' 3 = upd (k 3) n t ∧ k' 4 = upd (k 4) n v1 ∧ k' 5 = upd (k 5) n v2 ∧ (∀ q, 6 ≤ q → q < 69 → k' q = k q) ∧ k' (69 + n) n = 0 ∧ (∀ a b, a < n → b < n → k' (69 + a) b = k (69 + a) b) ∧ ∀ x, x < n → k' (69 + n) x = zWay (zSv k v1 x) (zSv k v2 x) ∧ k' (69 + x) n = zWay (zSv k v1 x) (zSv k v2 x) := by
  have nar : vp_nar .boolean v = v := by rcases hv with rfl | rfl <;> rfl
  obtain ⟨k5, h5⟩ : ∃ k5, k5 = kst (kst (kst (kst k 2 (upd (k 2) n v)) 3 (upd (k 3) n t)) 4 (upd (k 4) n v1)) 5 (upd (k 5) n v2) := ⟨_, rfl⟩
  have k5n : ∀ q, q ≠ 2 → q ≠ 3 → q ≠ 4 → q ≠ 5 → k5 q = k q := fun q h2 h3 h4 hq => by rw [h5, kst_ne _ _ hq, kst_ne _ _ h4, kst_ne _ _ h3, kst_ne _ _ h2]
  have k52 : k5 2 = upd (k 2) n v := by rw [h5, kst_ne _ _ (by decide), kst_ne _ _ (by decide), kst_ne _ _ (by decide), kst_eq]
  have k53 : k5 3 = upd (k 3) n t := by rw [h5, kst_ne _ _ (by decide), kst_ne _ _ (by decide), kst_eq]
  have k54 : k5 4 = upd (k 4) n v1 := by rw [h5, kst_ne _ _ (by decide), kst_eq]
  have k55 : k5 5 = upd (k 5) n v2 := by rw [h5, kst_eq]
  have full : F_X0_isFull k = some 0 := by
    have c : (nI n < 40) = True := eq_true ((nI_ltI (b := 40) (by omega) (by decide)).mpr hn)
    simp only [F_X0_isFull, F_X0_isFull_0, hk, c, if_true, F_X0_isFull_13, F_X0_isFull_14, pz_10, pz_01, pz_00, pz_11, or_true, true_or, not_true_eq_false, if_false, if_true]
  have start : F_X0_add v t v1 v2 k = F_X0_add_51 kN v1 v2 (nI n) (nI 0) k5 := by
    simp only [F_X0_add, F_X0_add_0, full, pz_bind, pz_00, if_true, F_X0_add_9, hk, pz_n0 (show n < 2 ^ 31 by omega), nI_clamp (show n < 2 ^ 31 by omega), pz_ge (show n < 40 by omega), or_self, false_or, if_false, nar, kst_ne _ _ (show (3 : Nat) ≠ 2 by decide), kst_ne _ _ (show (4 : Nat) ≠ 2 by decide), kst_ne _ _ (show (4 : Nat) ≠ 3 by decide), kst_ne _ _ (show (5 : Nat) ≠ 2 by decide), kst_ne _ _ (show (5 : Nat) ≠ 3 by decide), kst_ne _ _ (show (5 : Nat) ≠ 4 by decide), h5]
    rfl
  obtain ⟨k6, g1, g2, g3, g4⟩ := pz_loop10 (α := kS) (fun g i k1 => F_X0_add_51 g v1 v2 (nI n) (nI i) k1) (fun k1 => F_X0_add_99 (nI n) k1) n (fun i k1 => (∀ q, q < 69 → k1 q = k5 q) ∧ (∀ a b, a < n → b < n → k1 (69 + a) b = k (69 + a) b) ∧ ∀ x, x < i → k1 (69 + n) x = zWay (zSv k v1 x) (zSv k v2 x) ∧ k1 (69 + x) n = zWay (zSv k v1 x) (zSv k v2 x))
    (fun k1 _ g => by simp only [F_X0_add_51, pz_cT (show n < 2 ^ 31 by omega), if_true])
    (fun i k1 hi hI => by
      obtain ⟨i1, i2, i3⟩ := hI
      have c := pz_cF hi (show n < 2 ^ 31 by omega)
      have hk1 : k1 1 0 = nI n := by rw [i1 1 (by decide), k5n 1 (by decide) (by decide) (by decide) (by decide)]; exact hk
      have sv : ∀ v, (v = -1 ∨ ∃ a, a < n ∧ v = nI a) → zSv k1 v i = zSv k v i := by
        rintro v (rfl | ⟨a, ha, rfl⟩)
        · rfl
        · unfold zSv
          rw [if_neg (pz_m1 (by omega)), if_neg (pz_m1 (by omega)), nI_clamp (by omega), i2 a i ha hi]
      have st := stp_x (x := i) (by omega) hk1 hv1 hv2 hi
      rw [sv v1 hv1, sv v2 hv2] at st
      obtain ⟨u, hu⟩ : ∃ u, u = zWay (zSv k v1 i) (zSv k v2 i) := ⟨_, rfl⟩
      rw [← hu] at st
      have ne : 69 + i ≠ 69 + n := by omega
      refine ⟨kst (kst k1 (69 + n) (upd (k1 (69 + n)) i u)) (69 + i) (upd (k1 (69 + i)) n u), fun g => ?_, fun q hq => ?_, fun a b ha hb => ?_, fun x hx => ?_⟩
      · have i40 : i < 40 := by omega
        simp only [F_X0_add_51, c, if_false, F_X0_add_58, st, pz_bind, pz_n0 (show n < 2 ^ 31 by omega), nI_clamp (show n < 2 ^ 31 by omega), pz_ge (show n < 40 by omega), or_self, false_or, if_false, pz_n0 (show i < 2 ^ 31 by omega), nI_clamp (show i < 2 ^ 31 by omega), pz_ge (show i < 40 by omega), or_self, false_or, if_false, nI_1, kst_ne _ _ ne]
      · rw [kst_ne _ _ (by omega), kst_ne _ _ (by omega)]; exact i1 q hq
      · by_cases ga : a = i
        · subst ga; rw [kst_eq, pz_un (by omega)]; exact i2 a b ha hb
        · rw [kst_ne _ _ (by omega), kst_ne _ _ (by omega)]; exact i2 a b ha hb
      · by_cases gx : x = i
        · subst gx
          rw [kst_eq, pz_us, kst_ne _ _ (show 69 + n ≠ 69 + x by omega), kst_eq, pz_us]
          exact ⟨hu, hu⟩
        · rw [kst_ne _ _ (show 69 + n ≠ 69 + i by omega), kst_eq, pz_un gx, kst_ne _ _ (show 69 + x ≠ 69 + i by omega), kst_ne _ _ (show 69 + x ≠ 69 + n by omega)]
          exact i3 x (by omega))
    (by omega) (a := k5) ⟨fun _ _ => rfl, fun a b ha hb => by rw [k5n (69 + a) (by omega) (by omega) (by omega) (by omega)], fun x hx => absurd hx (Nat.not_lt_zero _)⟩
  obtain ⟨k7, h7⟩ : ∃ k7, k7 = kst (kst k6 (69 + n) (upd (k6 (69 + n)) n 0)) 1 (upd (k6 1) 0 (nI (n + 1))) := ⟨_, rfl⟩
  have k7n : ∀ q, q ≠ 1 → q ≠ 69 + n → k7 q = k6 q := fun q h1 h2 => by rw [h7, kst_ne _ _ h1, kst_ne _ _ h2]
  have k769 : k7 (69 + n) = upd (k6 (69 + n)) n 0 := by rw [h7, kst_ne _ _ (by omega), kst_eq]
  refine ⟨k7, ?_, ?_, ?_, ?_, ?_, ?_, fun q q1 q2 => ?_, ?_, fun a b ha hb => ?_, fun x hx => ?_⟩
  · rw [start]
    refine g1.trans ?_
    simp only [F_X0_add_99, pz_n0 (show n < 2 ^ 31 by omega), nI_clamp (show n < 2 ^ 31 by omega), pz_ge (show n < 40 by omega), or_self, false_or, if_false, kst_ne _ _ (show 1 ≠ 69 + n by omega), nI_1, h7]
  · rw [h7, kst_eq, pz_us]
  · rw [k7n 2 (by decide) (by omega), g2 2 (by decide)]; exact k52
  · rw [k7n 3 (by decide) (by omega), g2 3 (by decide)]; exact k53
  · rw [k7n 4 (by decide) (by omega), g2 4 (by decide)]; exact k54
  · rw [k7n 5 (by decide) (by omega), g2 5 (by decide)]; exact k55
  · rw [k7n q (by omega) (by omega), g2 q q2]; exact k5n q (by omega) (by omega) (by omega) (by omega)
  · rw [k769, pz_us]
  · rw [k7n (69 + a) (by omega) (by omega)]; exact g3 a b ha hb
  · rw [k769, pz_un (by omega), k7n (69 + x) (by omega) (by omega)]; exact g4 x hx
/-- what is said of a new person -/
def zSaid (v t v1 v2 : Int32) : Nat → Int32 := upd (upd (upd (upd (upd (upd (upd (upd (upd (fun _ => 0) 0 v) 1 t) 2 1) 3 v1) 4 v2) 5 (-1)) 6 (-1)) 7 (-1)) 8 (-1)
theorem pr_x (hn : n < 40) (hm : m 7 1 = nI n) : F_X6_person v t v1 v2 m = some ((nI n, kst (kst m 8 (va_cpy (zSaid v t v1 v2) (m 8) 0 (9 * n) 9)) 7 (upd (m 7) 1 (nI (n + 1)))), 1, 9) := by
  have c9 : 9 * nI n = nI (9 * n) := pk_mul 9 n
  have cc : (if ((0 : Int32) < 0 ∨ nI (9 * n) < 0 ∨ (9 : Int32) < 0 ∨ 9 < (0 : Int32).toNatClampNeg + (9 : Int32).toNatClampNeg ∨ 360 < (nI (9 * n)).toNatClampNeg + (9 : Int32).toNatClampNeg) then none else some (((nI n, kst (kst m 8 (va_cpy (zSaid v t v1 v2) (m 8) 0 (9 * n) 9)) 7 (upd (m 7) 1 (nI (n + 1)))), 0, 0) : (Int32 × kS) × Nat × Nat)) = some ((nI n, kst (kst m 8 (va_cpy (zSaid v t v1 v2) (m 8) 0 (9 * n) 9)) 7 (upd (m 7) 1 (nI (n + 1)))), 0, 0) := by
    refine if_neg ?_
    rw [nI_clamp (show 9 * n < 2 ^ 31 by omega)]
    rintro (h | h | h | h | h)
    · exact absurd h (by decide)
    · exact nI_pos (by omega) h
    · exact absurd h (by decide)
    · exact absurd h (by decide)
    · have : (9 : Int32).toNatClampNeg = 9 := rfl
      omega
  have e8 : ∀ f, (kst m 8 f) 7 = m 7 := fun f => kst_ne _ _ (by decide)
  have main : F_X6_person v t v1 v2 m = kadd 1 9 (if ((0 : Int32) < 0 ∨ nI (9 * n) < 0 ∨ (9 : Int32) < 0 ∨ 9 < (0 : Int32).toNatClampNeg + (9 : Int32).toNatClampNeg ∨ 360 < (nI (9 * n)).toNatClampNeg + (9 : Int32).toNatClampNeg) then none else some ((nI n, kst (kst m 8 (va_cpy (zSaid v t v1 v2) (m 8) 0 (9 * n) 9)) 7 (upd (m 7) 1 (nI (n + 1)))), 0, 0)) := by
    unfold F_X6_person F_X6_person_0
    rw [if_neg (by decide), if_neg (by decide), if_neg (by decide), if_neg (by decide), if_neg (by decide), if_neg (by decide), if_neg (by decide), if_neg (by decide), if_neg (by decide), hm, c9]
    have u1 : nI n + 1 = nI (n + 1) := nI_1 n
    have u2 : nI (n + 1) - 1 = nI n := nI_pred n
    simp only [e8, hm, kst_eq, pz_us, u1, u2, nI_clamp (show 9 * n < 2 ^ 31 by omega)]
    rfl
  rw [main, cc]
  rfl
/-- both sides with a person more -/
theorem ad_r (hR : zRel 15 n L k m) (hn : n < 40) (hv : v = 0 ∨ v = 1) (hpar : (v1 = -1 ∧ v2 = -1) ∨ ∃ a b, a < n ∧ b < n ∧ v1 = nI a ∧ v2 = nI b) : ∃ k' m', F_X0_add v t v1 v2 k = some (nI n, k') ∧ F_X6_person v t v1 v2 m = some ((nI n, m'), 1, 9) ∧ zRel 15 (n + 1) L k' m' ∧ (∀ q, 6 ≤ q → q < 69 → k' q = k q) ∧ m' 7 0 = m 7 0 ∧ ∀ q, q ≠ 7 → q ≠ 8 → m' q = m q := by
  obtain ⟨hK, hLv, ⟨w1, w2, w3, w4, w5⟩, hMW, hRu, h15, h30⟩ := hR
  obtain ⟨hn40, hk, hm, hE, hMl, hPar, hSt⟩ := hK
  obtain ⟨⟨X1, X2, X3⟩, X4⟩ := h15 rfl
  obtain ⟨k', a1, a2, a3, a4, a5, a6, a7, a8, a9, a10⟩ := ad_x (v := v) (t := t) (v1 := v1) (v2 := v2) hn hk hv (by rcases hpar with ⟨h, _⟩ | ⟨a, b, ha, _, h, _⟩; exact Or.inl h; exact Or.inr ⟨a, ha, h⟩) (by rcases hpar with ⟨_, h⟩ | ⟨a, b, _, hb, _, h⟩; exact Or.inl h; exact Or.inr ⟨b, hb, h⟩)
  obtain ⟨m', hm'⟩ : ∃ m', m' = kst (kst m 8 (va_cpy (zSaid v t v1 v2) (m 8) 0 (9 * n) 9)) 7 (upd (m 7) 1 (nI (n + 1))) := ⟨_, rfl⟩
  have mq : ∀ q, q ≠ 7 → q ≠ 8 → m' q = m q := fun q h7 h8 => by rw [hm', kst_ne _ _ h7, kst_ne _ _ h8]
  have m7 : m' 7 = upd (m 7) 1 (nI (n + 1)) := by rw [hm', kst_eq]
  have m8 : m' 8 = va_cpy (zSaid v t v1 v2) (m 8) 0 (9 * n) 9 := by rw [hm', kst_ne _ _ (by decide), kst_eq]
  have m8o : ∀ p w, p < n → w < 9 → m' 8 (9 * p + w) = m 8 (9 * p + w) := fun p w hp hw => by rw [m8, pk_cpy_out (by omega)]
  have m8n : ∀ w, w < 9 → m' 8 (9 * n + w) = zSaid v t v1 v2 w := fun w hw => by rw [m8, pk_cpy_in (by omega) (by omega)]; congr 1; omega
  have sp : ∀ p, p < n → k' 4 p = k 4 p ∧ k' 5 p = k 5 p := fun p hp => by rw [a5, a6, pz_un (by omega), pz_un (by omega)]; exact ⟨rfl, rfl⟩
  have q24 := a7 24 (by decide) (by decide)
  have q25 := a7 25 (by decide) (by decide)
  have q29 := a7 29 (by decide) (by decide)
  have newSt : ∀ x, x < n → zSt k' n x (zWay (zSv k v1 x) (zSv k v2 x)) := by
    intro x hx
    rcases hpar with ⟨rfl, rfl⟩ | ⟨a, b, ha, hb, rfl, rfl⟩
    · have e : zWay (zSv k (-1) x) (zSv k (-1) x) = -1 := rfl
      rw [e]
      refine Or.inl ⟨rfl, fun p d e hd he => ?_⟩
      cases d with
      | zero =>
        have : n = p := hd
        subst this
        have := zPath_le he
        omega
      | succ d =>
        obtain ⟨z, hz, hp, _⟩ := hd
        rw [a5, a6, pz_us, pz_us] at hp
        rcases hp with hp | hp
        · exact pz_m1 (show z < 2 ^ 31 by omega) hp.symm
        · exact pz_m1 (show z < 2 ^ 31 by omega) hp.symm
    · have e1 : zSv k (nI a) x = k (69 + a) x := by rw [zSv, if_neg (pz_m1 (by omega)), nI_clamp (by omega)]
      have e2 : zSv k (nI b) x = k (69 + b) x := by rw [zSv, if_neg (pz_m1 (by omega)), nI_clamp (by omega)]
      rw [e1, e2]
      exact zWay_x (by omega) sp ha hb hx (by rw [a5, pz_us]) (by rw [a6, pz_us]) (hSt a x ha hx) (hSt b x hb hx)
  refine ⟨k', m', a1, ?_, ⟨⟨by omega, a2, by rw [m7, pz_us], fun p hp => ?_, fun p hp => ?_, fun p hp => ?_, fun a b ha hb => ?_⟩, fun p hp => ?_, ⟨w1, ?_, ?_, ?_, fun l hl => ?_⟩, fun p hp => ?_, fun l hl => ?_, fun _ => ⟨⟨fun p hp hp2 => ?_, fun p hp => ?_, fun p hp => ?_⟩, fun p hp => ?_⟩, fun h => absurd h (by decide)⟩, a7, ?_, mq⟩
  · rw [pr_x hn hm, hm']
  · by_cases g : p = n
    · subst g
      have e0 := m8n 0 (by decide)
      rw [m8n 1 (by decide), m8n 3 (by decide), m8n 4 (by decide), a3, a4, a5, a6, pz_us, pz_us, pz_us, pz_us]
      exact ⟨e0, rfl, rfl, rfl⟩
    · have e0 := m8o p 0 (by omega) (by decide)
      rw [m8o p 1 (by omega) (by decide), m8o p 3 (by omega) (by decide), m8o p 4 (by omega) (by decide), a3, a4, a5, a6, pz_un g, pz_un g, pz_un g, pz_un g]
      obtain ⟨x1, x2, x3, x4⟩ := hE p (by omega)
      exact ⟨e0.trans x1, x2, x3, x4⟩
  · rw [a3]
    by_cases g : p = n
    · subst g; rw [pz_us]; exact hv
    · rw [pz_un g]; exact hMl p (by omega)
  · rw [a5, a6]
    by_cases g : p = n
    · subst g; rw [pz_us, pz_us]
      exact hpar
    · rw [pz_un g, pz_un g]; exact hPar p (by omega)
  · show zSt k' a b (k' (69 + a) b)
    by_cases ga : a = n
    · subst ga
      by_cases gb : b = a
      · subst gb
        rw [a8]
        exact Or.inr ⟨b, 0, 0, rfl, rfl, rfl, fun p' d' e' _ _ => by omega⟩
      · rw [(a10 b (by omega)).1]; exact newSt b (by omega)
    · by_cases gb : b = n
      · subst gb
        rw [(a10 a (by omega)).2]; exact zSt_sy (newSt a (by omega))
      · rw [a9 a b (by omega) (by omega)]
        rcases hSt a b (by omega) (by omega) with ⟨h1, h2⟩ | ⟨p, d, e, h1, h2, h3, h4⟩
        · exact Or.inl ⟨h1, fun p d e g1 g2 => h2 p d e ((zPath_lt sp (by omega)).mp g1) ((zPath_lt sp (by omega)).mp g2)⟩
        · exact Or.inr ⟨p, d, e, (zPath_lt sp (by omega)).mpr h1, (zPath_lt sp (by omega)).mpr h2, h3, fun p' d' e' g1 g2 => h4 p' d' e' ((zPath_lt sp (by omega)).mp g1) ((zPath_lt sp (by omega)).mp g2)⟩
  · rw [show 15 + 14 = 29 from rfl, q29]
    by_cases g : p = n
    · subst g
      rw [m8n 2 (by decide)]
      exact Or.inl ⟨(X1 p (Nat.le_refl _) (by omega)).2.2, rfl⟩
    · rw [m8o p 2 (by omega) (by decide)]; exact hLv p (by omega)
  · rw [a7 (15 + 1) (by decide) (by decide)]; exact w2
  · rw [m7, pz_un (by decide)]; exact w3
  · rw [a7 15 (by decide) (by decide), mq 11 (by decide) (by decide)]; exact w4
  · rw [mq 9 (by decide) (by decide), a7 (15 + 3) (by decide) (by decide), a7 (15 + 4) (by decide) (by decide)]; exact w5 l hl
  · by_cases g : p = n
    · subst g; rw [m8n 5 (by decide)]; exact Or.inl rfl
    · rw [m8o p 5 (by omega) (by decide)]
      rcases hMW p (by omega) with h | ⟨q, h1, h2⟩
      · exact Or.inl h
      · exact Or.inr ⟨q, by omega, h2⟩
  · rw [a7 (15 + 4) (by decide) (by decide), a7 (15 + 14) (by decide) (by decide)]
    rcases hRu l hl with h | ⟨p, h1, h2, h3⟩
    · exact Or.inl h
    · exact Or.inr ⟨p, by omega, h2, h3⟩
  · rw [q24, q25, q29]; exact X1 p (by omega) hp2
  · rw [q24, q29]
    by_cases g : p = n
    · subst g
      rw [m8n 5 (by decide), m8n 6 (by decide)]
      exact ⟨(X1 p (Nat.le_refl _) (by omega)).1.symm, (X1 p (Nat.le_refl _) (by omega)).2.2.symm⟩
    · rw [m8o p 5 (by omega) (by decide), m8o p 6 (by omega) (by decide)]; exact X2 p (by omega)
  · unfold zTr
    rw [q24, q25]
    by_cases g : p = n
    · subst g
      exact Or.inl ⟨(X1 p (Nat.le_refl _) (by omega)).1, (X1 p (Nat.le_refl _) (by omega)).2.1⟩
    · rw [m8o p 7 (by omega) (by decide), m8o p 8 (by omega) (by decide)]
      rcases X3 p (by omega) with h | ⟨q, h1, h2, h3, h4, h5⟩
      · exact Or.inl h
      · exact Or.inr ⟨q, by omega, h2, h3, h4, h5⟩
  · rw [q24, q29]
    intro hne
    by_cases g : p = n
    · subst g; exact (X1 p (Nat.le_refl _) (by omega)).2.2
    · exact X4 p (by omega) hne
  · rw [m7, pz_un (by decide)]
theorem fu_1 (hn : n < 40) (hk : k 1 0 = nI n) : F_X0_isFull k = some 0 := by
  have c : (nI n < 40) = True := eq_true ((nI_ltI (b := 40) (by omega) (by decide)).mpr hn)
  simp only [F_X0_isFull, F_X0_isFull_0, hk, c, if_true, F_X0_isFull_13, F_X0_isFull_14, pz_10, pz_01, pz_00, pz_11, or_true, true_or, not_true_eq_false, if_false, if_true]
theorem fu_0 (hk : k 1 0 = nI 40) : F_X0_isFull k = some 1 := by
  have c : (nI 40 < 40) = False := eq_false (by decide)
  simp only [F_X0_isFull, F_X0_isFull_0, hk, c, if_false, F_X0_isFull_9, F_X0_isFull_14, pz_10, pz_01, pz_00, pz_11, or_true, true_or, not_true_eq_false, if_false, if_true]
theorem zM_come (hA : zAll c k m) (hv : v1 = 0 ∨ v1 = 1) : ∃ code r k' b m' uc us, F_X5_come v1 v2 k = some ((code, r), k') ∧ F_X6_come v1 v2 m = some ((b, m'), uc, us) ∧ zOk 1 2 0 code r b (m' 7 0) ∧ zAll (c + 1) k' m' ∧ uc ≤ 50 ∧ us ≤ 800 := by
  have hA' := hA
  obtain ⟨n, L, y, hR, hX, hy, hy2, hAh⟩ := hA
  have hn := hR.1.1
  have hk := hR.1.2.1
  have hm : thr 0 m 7 1 = nI n := thr_1.trans hR.1.2.2.1
  by_cases hage : v2 < 0 ∨ 60 < v2
  · refine ⟨1, 0, k, 0, thr 1 (thr 0 m), 0, 0, ?_, ?_, by rw [thr_0]; exact zOk_1 (by decide), zAll_up (zAll_thr (zAll_thr hA')), by omega, by omega⟩
    · simp only [F_X5_come, F_X5_come_0, F_X5_come_4, F_X5_come_10]
      by_cases h1 : v2 < 0
      · rw [if_pos h1]
      · rw [if_neg h1, if_neg (Int32.not_le.mpr (hage.resolve_left h1))]
    · simp only [F_X6_come, F_X6_come_0, thr_e, isIn_0 (m := thr 0 m) (v1 := 0) (v2 := 60) hage, pz_bind, pz_00, if_true, F_X6_come_15, fail_x]
  · have h1 : ¬ v2 < 0 := fun h => hage (Or.inl h)
    have h2 : ¬ 60 < v2 := fun h => hage (Or.inr h)
    have h2' : v2 ≤ 60 := Int32.not_lt.mp h2
    by_cases h40 : n = 40
    · subst h40
      have c40 : (nI 40 = 40) = True := eq_true rfl
      refine ⟨2, 0, k, 0, thr 2 (thr 0 m), 0, 0, ?_, ?_, by rw [thr_0]; exact zOk_2 (by decide), zAll_up (zAll_thr (zAll_thr hA')), by omega, by omega⟩
      · simp only [F_X5_come, F_X5_come_0, F_X5_come_4, h1, h2', if_true, if_false, F_X5_come_20, fu_0 hk, pz_bind, pz_10, F_X5_come_30]
      · simp only [F_X6_come, F_X6_come_0, thr_e, isIn_1 (m := thr 0 m) h1 h2, pz_bind, pz_10, if_false, F_X6_come_21, hm, c40, if_true, F_X6_come_30, fail_x, F_X6_come_61]
    · have c40 : (nI n = 40) = False := by
        have : (nI n = nI 40) = False := by rw [pz_eq (by omega) (by decide)]; exact eq_false h40
        exact this
      have hR0 := zRel_thr (v := 0) hR
      have e11 : thr 0 m 11 0 = k 15 0 := hR0.2.2.1.2.2.2.1.symm
      obtain ⟨k', m', a1, a2, a3, a4, a5, a6⟩ := ad_r (v := v1) (t := k 15 0 - v2) (v1 := -1) (v2 := -1) hR0 (by omega) hv (Or.inl ⟨rfl, rfl⟩)
      refine ⟨0, nI n, k', nI n, m', 1, 9, ?_, ?_, by rw [a5, thr_0]; exact zOk_0, ⟨n + 1, L, y, a3, ?_, by rw [a4 15 (by decide) (by decide)]; exact hy, by omega, fun p hp => by rw [a4 39 (by decide) (by decide)]; exact hAh p hp⟩, by omega, by omega⟩
      · simp only [F_X5_come, F_X5_come_0, F_X5_come_4, h1, h2', if_true, if_false, F_X5_come_20, fu_1 (by omega) hk, pz_bind, pz_00, F_X5_come_40, a1]
      · have fin : F_X6_come_48 v1 v2 (thr 0 m) = some ((nI n, m'), 1, 9) := by
          simp only [F_X6_come_48, pz_0lt, pz_cl0, pz_1le0, or_self, if_false, e11, a2, pz_bind, F_X6_come_61, pz_kadds, Nat.add_zero]
        simp only [F_X6_come, F_X6_come_0, thr_e, isIn_1 (m := thr 0 m) h1 h2, pz_bind, pz_10, if_false, F_X6_come_21, hm, c40, F_X6_come_38, F_X6_come_43, F_X6_come_47]
        rcases hv with rfl | rfl
        · rw [if_pos rfl]; exact fin
        · rw [if_neg (by decide)]; exact fin
      · exact zXl_mono (zXl_cg hR.2.2.1.1 hX (a4 17 (by decide) (by decide)) (a4 20 (by decide) (by decide)) (a4 21 (by decide) (by decide)) (fun l hl => a4 _ (by omega) (by omega)) ((a6 9 (by decide) (by decide)).trans (thr_n (by decide))) ((a6 10 (by decide) (by decide)).trans (thr_n (by decide)))) (fun l hl => by omega)
theorem zM_bear (hA : zAll c k m) (hv : v2 = 0 ∨ v2 = 1) : ∃ code r k' b m' uc us, F_X5_bear v1 v2 k = some ((code, r), k') ∧ F_X6_bear v1 v2 m = some ((b, m'), uc, us) ∧ zOk 0 2 1 code r b (m' 7 0) ∧ zAll (c + 1) k' m' ∧ uc ≤ 50 ∧ us ≤ 800 := by
  have hA' := hA
  obtain ⟨n, L, y, hR, hX, hy, hy2, hAh⟩ := hA
  have hn := hR.1.1
  have hk := hR.1.2.1
  have hm : thr 0 m 7 1 = nI n := thr_1.trans hR.1.2.2.1
  rcases pk_ix v1 (n := n) (by omega) with h | h | ⟨p, hp, rfl⟩
  · exact ⟨3, 0, k, 0, thr 1 (thr 0 m), 0, 0, by simp only [F_X5_bear, F_X5_bear_0, np_0 hk (Or.inl h), pz_bind, pz_n3, if_false], by simp only [F_X6_bear, F_X6_bear_0, thr_e, ip_0 hn hm (Or.inl h), pz_bind, pz_00, if_true, F_X6_bear_13, fail_x], by rw [thr_0]; exact zOk_3 (by decide), zAll_up (zAll_thr (zAll_thr hA')), by omega, by omega⟩
  · exact ⟨3, 0, k, 0, thr 1 (thr 0 m), 0, 0, by simp only [F_X5_bear, F_X5_bear_0, np_0 hk (Or.inr h), pz_bind, pz_n3, if_false], by simp only [F_X6_bear, F_X6_bear_0, thr_e, ip_0 hn hm (Or.inr h), pz_bind, pz_00, if_true, F_X6_bear_13, fail_x], by rw [thr_0]; exact zOk_3 (by decide), zAll_up (zAll_thr (zAll_thr hA')), by omega, by omega⟩
  · have hR0 := zRel_thr (v := 0) hR
    have p40 : p < 40 := by omega
    obtain ⟨⟨X1, X2, X3⟩, X4⟩ := hR0.2.2.2.2.2.1 rfl
    have e0 : thr 0 m 8 (9 * p) = k 2 p := (hR0.1.2.2.2.1 p hp).1
    have e5 : thr 0 m 8 (9 * p + 5) = k 24 p := (X2 p hp).1
    have cls : F_X5_bear (nI p) v2 k = if k 2 p = 0 then F_X5_bear_29 (nI p) v2 (k 24 p) k else F_X5_bear_45 k := by
      simp only [F_X5_bear, F_X5_bear_0, np_1 hn hk hp, pz_bind, pz_nz, if_true, sp_1 (B := 15) (k := k) p40, pz_n0 (show p < 2 ^ 31 by omega), nI_clamp (show p < 2 ^ 31 by omega), pz_ge (show p < 40 by omega), or_self, false_or, if_false]
    have ref : F_X6_bear (nI p) v2 m = if k 2 p = 1 then F_X6_bear_56 (thr 0 m) else F_X6_bear_29 (nI p) v2 (thr 0 m) := by
      simp only [F_X6_bear, F_X6_bear_0, thr_e, ip_1 hn hm hp, pz_bind, pz_10, if_false, F_X6_bear_19, pe_0 p40, e0]
    have bad : F_X5_bear (nI p) v2 k = some ((2, 0), k) → F_X6_bear (nI p) v2 m = F_X6_bear_56 (thr 0 m) → ∃ code r k' b m' uc us, F_X5_bear (nI p) v2 k = some ((code, r), k') ∧ F_X6_bear (nI p) v2 m = some ((b, m'), uc, us) ∧ zOk 0 2 1 code r b (m' 7 0) ∧ zAll (c + 1) k' m' ∧ uc ≤ 50 ∧ us ≤ 800 := fun h1 h2 =>
      ⟨2, 0, k, 0, thr 2 (thr 0 m), 0, 0, h1, by rw [h2]; simp only [F_X6_bear_56, fail_x, pz_bind], by rw [thr_0]; exact zOk_2 (by decide), zAll_up (zAll_thr (zAll_thr hA')), by omega, by omega⟩
    rcases hR0.1.2.2.2.2.1 p hp with ml | ml
    · have c1 : ¬ k 2 p = 1 := by rw [ml]; decide
      rw [if_pos ml] at cls
      rw [if_neg c1] at ref
      by_cases h24 : k 24 p = -1
      · refine bad ?_ ?_
        · rw [cls]; simp only [F_X5_bear_29, h24, if_true, F_X5_bear_45]
        · rw [ref]; simp only [F_X6_bear_29, pe_5 p40, e5, pz_bind, h24, if_true]
      · have live := X4 p hp h24
        have l2 : thr 0 m 8 (9 * p + 2) = 1 := by
          rcases hR0.2.1 p hp with ⟨_, h⟩ | ⟨h, _⟩
          · exact h
          · exact absurd live h
        have lc := li_1 (B := 15) hn hk hp live
        by_cases h40 : n = 40
        · subst h40
          have c40 : (nI 40 = 40) = True := eq_true rfl
          refine bad ?_ ?_
          · rw [cls]; simp only [F_X5_bear_29, h24, if_false, F_X5_bear_34, lc, pz_bind, pz_10, F_X5_bear_55, fu_0 hk, F_X5_bear_65]
          · rw [ref]; simp only [F_X6_bear_29, pe_5 p40, e5, pz_bind, h24, if_false, F_X6_bear_39, ri_1 p40 l2, pz_10, F_X6_bear_47, hm, c40, if_true]
        · have c40 : (nI n = 40) = False := by
            have : (nI n = nI 40) = False := by rw [pz_eq (by omega) (by decide)]; exact eq_false h40
            exact this
          rcases X3 p hp with ⟨h, _⟩ | ⟨q, q1, q2, q3, q4, _⟩
          · exact absurd h h24
          · have e11 : thr 0 m 11 0 = k 15 0 := hR0.2.2.1.2.2.2.1.symm
            obtain ⟨k', m', a1, a2, a3, a4, a5, a6⟩ := ad_r (v := v2) (t := k 15 0) (v1 := nI p) (v2 := nI q) hR0 (by omega) hv (Or.inr ⟨p, q, hp, q1, rfl, rfl⟩)
            refine ⟨0, nI n, k', nI n, m', 1, 9, ?_, ?_, by rw [a5, thr_0]; exact zOk_0, ⟨n + 1, L, y, a3, ?_, by rw [a4 15 (by decide) (by decide)]; exact hy, by omega, fun p hp => by rw [a4 39 (by decide) (by decide)]; exact hAh p hp⟩, by omega, by omega⟩
            · rw [cls]; simp only [F_X5_bear_29, h24, if_false, F_X5_bear_34, lc, pz_bind, pz_10, F_X5_bear_55, fu_1 (by omega) hk, pz_00, if_true, F_X5_bear_75, q3, pz_m1' (show q < 2 ^ 31 by omega), a1]
            · rw [ref]
              have fin : F_X6_bear_72 v2 (nI p) (thr 0 m) = some ((nI n, m'), 1, 9) := by
                simp only [F_X6_bear_72, pz_0lt, pz_cl0, pz_1le0, or_self, if_false, e11, pe_5 p40, e5, q3, pz_bind, a2, pz_kadds, Nat.add_zero]
              simp only [F_X6_bear_29, pe_5 p40, e5, pz_bind, h24, if_false, F_X6_bear_39, ri_1 p40 l2, pz_10, F_X6_bear_47, hm, c40, F_X6_bear_62, F_X6_bear_67, F_X6_bear_71]
              rcases hv with rfl | rfl
              · rw [if_pos rfl]; exact fin
              · rw [if_neg (by decide)]; exact fin
            · exact zXl_mono (zXl_cg hR.2.2.1.1 hX (a4 17 (by decide) (by decide)) (a4 20 (by decide) (by decide)) (a4 21 (by decide) (by decide)) (fun l hl => a4 _ (by omega) (by omega)) ((a6 9 (by decide) (by decide)).trans (thr_n (by decide))) ((a6 10 (by decide) (by decide)).trans (thr_n (by decide)))) (fun l hl => by omega)
    · have c0 : ¬ k 2 p = 0 := by rw [ml]; decide
      rw [if_neg c0] at cls
      rw [if_pos ml] at ref
      exact bad (by rw [cls]; rfl) ref
end ZA
