/-! ROOM: the ways down from one are no more than the weights of all who are born here -/
def jAtt (f : Nat → Nat) (v : Int32) : Nat := if v = -1 then 0 else f v.toNatClampNeg
/-- the ways from p down to x, for x below q -/
def jPt (k : kS) (p : Nat) : Nat → Nat → Nat
  | 0 => fun _ => 0
  | q + 1 => fun x => if x = q then (if q = p then 1 else jAtt (jPt k p q) (k 4 q) + jAtt (jPt k p q) (k 5 q)) else jPt k p q x
abbrev jWy (k : kS) (p q : Nat) : Nat := jPt k p (q + 1) q
noncomputable abbrev jsT (f : Nat → Nat) (n : Nat) : Nat := jsm (fun _ => True) f n
theorem jsT_s {f : Nat → Nat} {n : Nat} : jsT f (n + 1) = jsT f n + f n := jsm_1 (A := fun _ => True) trivial
theorem jsm_z {A : Nat → Prop} {h : Nat → Nat} : ∀ n, (∀ c, c < n → A c → h c = 0) → jsm A h n = 0
  | 0, _ => rfl
  | n + 1, e => by
    have ih := jsm_z (A := A) (h := h) n (fun c hc => e c (by omega))
    by_cases q : A n
    · rw [jsm_1 q, ih, e n (by omega) q]
    · rw [jsm_0 q, ih]
theorem jsm_add2 {A : Nat → Prop} {f g : Nat → Nat} : ∀ n, jsm A (fun c => f c + g c) n = jsm A f n + jsm A g n
  | 0 => rfl
  | n + 1 => by
    have ih := jsm_add2 (A := A) (f := f) (g := g) n
    by_cases q : A n
    · rw [jsm_1 q, jsm_1 q, jsm_1 q]; omega
    · rw [jsm_0 q, jsm_0 q, jsm_0 q]; exact ih
theorem jsm_one {A : Nat → Prop} {x : Nat} : ∀ n, jsm A (fun c => if c = x then 1 else 0) n ≤ 1 ∧ (n ≤ x → jsm A (fun c => if c = x then 1 else 0) n = 0)
  | 0 => ⟨Nat.zero_le _, fun _ => rfl⟩
  | n + 1 => by
    obtain ⟨i1, i2⟩ := jsm_one (A := A) (x := x) n
    by_cases q : A n
    · rw [jsm_1 q]
      by_cases e : n = x
      · rw [if_pos e, i2 (by omega)]; exact ⟨by omega, fun h => by omega⟩
      · rw [if_neg e]; exact ⟨by omega, fun h => by rw [i2 (by omega)]⟩
    · rw [jsm_0 q]; exact ⟨i1, fun h => i2 (by omega)⟩
section ZS
variable {n L h0 H c p q w x r B y y' l ag Y s A U E : Nat} {k k' m m' z z' mc : kS} {v v1 v2 v3 h a b t gv : Int32} {f : Nat → Int32} {P : Nat → Int32}
theorem jPt_st : ∀ d, jPt k p (q + 1 + d) q = jWy k p q
  | 0 => rfl
  | d + 1 => by
    have e : jPt k p (q + 1 + (d + 1)) q = jPt k p (q + 1 + d) q := by
      show (if q = q + 1 + d then _ else jPt k p (q + 1 + d) q) = _
      rw [if_neg (by omega)]
    rw [e, jPt_st d]
theorem jPt_lt (h : q < x) : jPt k p x q = jWy k p q := by
  obtain ⟨d, rfl⟩ : ∃ d, x = q + 1 + d := ⟨x - (q + 1), by omega⟩
  exact jPt_st d
theorem jWy_e : jWy k p q = if q = p then 1 else jAtt (jPt k p q) (k 4 q) + jAtt (jPt k p q) (k 5 q) := by
  show (if q = q then _ else _) = _
  rw [if_pos rfl]
theorem jWy_s : jWy k p p = 1 := by rw [jWy_e, if_pos rfl]
theorem jWy_n (h : q ≠ p) (h4 : k 4 q = -1) (h5 : k 5 q = -1) : jWy k p q = 0 := by
  rw [jWy_e, if_neg h, h4, h5]; rfl
theorem jWy_p {a b : Nat} (h : q ≠ p) (hq : q < 2 ^ 31) (ha : a < q) (hb : b < q) (h4 : k 4 q = nI a) (h5 : k 5 q = nI b) : jWy k p q = jWy k p a + jWy k p b := by
  have e : ∀ x, x < q → jAtt (jPt k p q) (nI x) = jWy k p x := fun x hx => by
    unfold jAtt
    rw [if_neg (pz_m1 (by omega)), nI_clamp (by omega), jPt_lt hx]
  rw [jWy_e, if_neg h, h4, h5, e a ha, e b hb]
theorem jWy_lo (hP : zPar n k) (hn : n ≤ 40) : ∀ N q, q < N → q < n → q < p → jWy k p q = 0
  | 0, q, h, _, _ => by omega
  | N + 1, q, h, hq, hp => by
    rcases hP q hq with ⟨h4, h5⟩ | ⟨a, b, ha, hb, h4, h5⟩
    · exact jWy_n (by omega) h4 h5
    · rw [jWy_p (by omega) (by omega) ha hb h4 h5, jWy_lo hP hn N a (by omega) (by omega) (by omega), jWy_lo hP hn N b (by omega) (by omega) (by omega)]
theorem jWy_pt (hP : zPar n k) (hn : n ≤ 40) (hp : p < n) : ∀ N q, q < N → q < n → (if q = p then 1 else 0) + jsm (fun c => zCh k c p) (fun c => jWy k c q) n ≤ jWy k p q
  | 0, q, h, _ => by omega
  | N + 1, q, h, hq => by
    by_cases hqp : q = p
    · subst hqp
      rw [if_pos rfl, jWy_s, jsm_z n (fun c hc hcp => jWy_lo hP hn (q + 1) q (by omega) hq (zCh_lt hn hP hc hq hcp))]
      omega
    · rw [if_neg hqp]
      rcases hP q hq with ⟨h4, h5⟩ | ⟨a, b, ha, hb, h4, h5⟩
      · rw [jsm_z n (fun c hc hcp => jWy_n (fun e => by
          subst e
          rcases hcp with h | h
          · rw [h4] at h; exact absurd h.symm (pz_m1 (by omega))
          · rw [h5] at h; exact absurd h.symm (pz_m1 (by omega))) h4 h5)]
        exact Nat.zero_le _
      · have ia := jWy_pt hP hn hp N a (by omega) (by omega)
        have ib := jWy_pt hP hn hp N b (by omega) (by omega)
        rw [jWy_p hqp (by omega) ha hb h4 h5]
        have s1 : jsm (fun c => zCh k c p) (fun c => jWy k c q) n ≤ jsm (fun c => zCh k c p) (fun c => (jWy k c a + jWy k c b) + (if c = q then 1 else 0)) n := by
          refine jsm_mono n (fun c hc hcp => ?_)
          by_cases e : c = q
          · subst e
            show jWy k c c ≤ (jWy k c a + jWy k c b) + (if c = c then 1 else 0)
            rw [jWy_s, if_pos rfl]; omega
          · show jWy k c q ≤ (jWy k c a + jWy k c b) + (if c = q then 1 else 0)
            rw [jWy_p (fun e2 => e e2.symm) (by omega) ha hb h4 h5, if_neg e]; omega
        rw [jsm_add2, jsm_add2] at s1
        have s2 : jsm (fun c => zCh k c p) (fun c => if c = q then 1 else 0) n ≤ (if a = p then 1 else 0) + (if b = p then 1 else 0) := by
          by_cases hc : zCh k q p
          · have := (jsm_one (A := fun c => zCh k c p) (x := q) n).1
            rcases hc with h | h
            · rw [h4, nI_eq (by omega) (by omega)] at h
              rw [if_pos h]; omega
            · rw [h5, nI_eq (by omega) (by omega)] at h
              rw [if_pos h]; omega
          · rw [jsm_z n (fun c _ hcp => if_neg (fun e => by subst e; exact hc hcp))]
            exact Nat.zero_le _
        omega
theorem jWy_sum (hP : zPar n k) (hn : n ≤ 40) (hp : p < n) : ∀ x, x ≤ n → (if p < x then 1 else 0) + jsm (fun c => zCh k c p) (fun c => jsT (jWy k c) x) n ≤ jsT (jWy k p) x
  | 0, _ => by
    rw [if_neg (by omega), jsm_z (h := fun c => jsT (jWy k c) 0) n (fun c _ _ => rfl)]
    exact Nat.zero_le _
  | x + 1, hx => by
    have ih := jWy_sum hP hn hp x (by omega)
    have pt := jWy_pt hP hn hp (x + 1) x (by omega) (by omega)
    have e : jsm (fun c => zCh k c p) (fun c => jsT (jWy k c) (x + 1)) n = jsm (fun c => zCh k c p) (fun c => jsT (jWy k c) x) n + jsm (fun c => zCh k c p) (fun c => jWy k c x) n := by
      rw [← jsm_add2]
      exact jsm_cg n (fun _ _ => Iff.rfl) (fun c _ _ => jsT_s)
    rw [e, jsT_s]
    by_cases h1 : p < x
    · rw [if_pos h1] at ih
      rw [if_pos (by omega)]
      rw [if_neg (by omega)] at pt
      omega
    · rw [if_neg h1] at ih
      by_cases h2 : x = p
      · rw [if_pos h2] at pt
        rw [if_pos (by omega)]
        omega
      · rw [if_neg h2] at pt
        rw [if_neg (by omega)]
        omega
theorem jps_wy (hP : zPar n k) (hn : n ≤ 40) : ∀ d p, p < n → 1 + jps k n d p ≤ jsT (jWy k p) n
  | 0, p, hp => by
    have s := jWy_sum hP hn hp n (Nat.le_refl _)
    rw [if_pos hp] at s
    show 1 + 0 ≤ _
    omega
  | d + 1, p, hp => by
    have s := jWy_sum hP hn hp n (Nat.le_refl _)
    rw [if_pos hp] at s
    have t : jsm (fun c => zCh k c p) (fun c => 1 + jps k n d c) n ≤ jsm (fun c => zCh k c p) (fun c => jsT (jWy k c) n) n := jsm_mono n (fun c hc _ => jps_wy hP hn d c hc)
    show 1 + jsm (fun c => zCh k c p) (fun c => 1 + jps k n d c) n ≤ _
    omega
theorem jWy_path (hP : zPar n k) (hn : n ≤ 40) : ∀ N q, q < N → q < n → jWy k p q ≠ 0 → ∃ d, zPath k d q p
  | 0, q, h, _, _ => by omega
  | N + 1, q, h, hq, h0 => by
    by_cases hqp : q = p
    · exact ⟨0, hqp⟩
    · rcases hP q hq with ⟨h4, h5⟩ | ⟨a, b, ha, hb, h4, h5⟩
      · exact absurd (jWy_n hqp h4 h5) h0
      · rw [jWy_p hqp (by omega) ha hb h4 h5] at h0
        by_cases h1 : jWy k p a = 0
        · obtain ⟨d, hd⟩ := jWy_path hP hn N b (by omega) (by omega) (by omega)
          exact ⟨d + 1, b, hb, Or.inr h5, hd⟩
        · obtain ⟨d, hd⟩ := jWy_path hP hn N a (by omega) (by omega) h1
          exact ⟨d + 1, a, ha, Or.inl h4, hd⟩
/-- who has a grandparent here is born in the year 16 or later -/
theorem jWy_old {d a : Nat} (hK : zKin n k m) (hX : jEx n L y k m) (ha : a < n) (h : zPath k (d + 2) a p) : 16 ≤ (m 8 (9 * a + 1)).toInt := by
  have hE := hK.2.2.2.1
  obtain ⟨x, hx, hx1, u, hu, hu1, -⟩ := h
  have e1 : m 8 (9 * a + 3) = nI x ∨ m 8 (9 * a + 4) = nI x := hx1.imp (fun e => (hE a ha).2.2.1.trans e) (fun e => (hE a ha).2.2.2.trans e)
  have e2 : m 8 (9 * x + 3) = nI u ∨ m 8 (9 * x + 4) = nI u := hu1.imp (fun e => (hE x (by omega)).2.2.1.trans e) (fun e => (hE x (by omega)).2.2.2.trans e)
  have g1 := hX.2.1 a x ha (by omega) e1
  have g2 := hX.2.1 x u (by omega) (by omega) e2
  omega
/-- no more ways than the weight of the one below -/
theorem jWy_le (hK : zKin n k m) (hX : jEx n L y k m) (hPr : jPr n k) : ∀ N q, q < N → q < n → jWy k p q ≤ 2 ^ ((m 8 (9 * q + 1)).toInt.toNat / 16 - 1)
  | 0, q, h, _ => by omega
  | N + 1, q, h, hq => by
    have hn := hK.1
    have hE := hK.2.2.2.1
    have hP := hK.2.2.2.2.2.1
    have one : ∀ e : Nat, 1 ≤ 2 ^ e := fun e => Nat.one_le_two_pow
    by_cases hqp : q = p
    · subst hqp
      rw [jWy_s]
      exact one _
    · rcases hP q hq with ⟨h4, h5⟩ | ⟨a, b, ha, hb, h4, h5⟩
      · rw [jWy_n hqp h4 h5]; exact Nat.zero_le _
      · have m3 : m 8 (9 * q + 3) = nI a := (hE q hq).2.2.1.trans h4
        have m4 : m 8 (9 * q + 4) = nI b := (hE q hq).2.2.2.trans h5
        obtain ⟨ya, y0⟩ := hX.2.1 q a hq (by omega) (Or.inl m3)
        obtain ⟨yb, -⟩ := hX.2.1 q b hq (by omega) (Or.inr m4)
        have ia := jWy_le hK hX hPr N a (by omega) (by omega)
        have ib := jWy_le hK hX hPr N b (by omega) (by omega)
        rw [jWy_p hqp (by omega) ha hb h4 h5]
        by_cases h32 : (m 8 (9 * q + 1)).toInt < 32
        · have za : (m 8 (9 * a + 1)).toInt.toNat / 16 - 1 = 0 := by omega
          have zb : (m 8 (9 * b + 1)).toInt.toNat / 16 - 1 = 0 := by omega
          rw [za] at ia
          rw [zb] at ib
          have := one ((m 8 (9 * q + 1)).toInt.toNat / 16 - 1)
          by_cases e1 : jWy k p a = 0
          · omega
          · by_cases e2 : jWy k p b = 0
            · omega
            · exfalso
              obtain ⟨d1, p1⟩ := jWy_path hP hn (a + 1) a (by omega) (by omega) e1
              obtain ⟨d2, p2⟩ := jWy_path hP hn (b + 1) b (by omega) (by omega) e2
              have far : 3 ≤ d1 + d2 := by
                rcases hK.2.2.2.2.2.2 a b (by omega) (by omega) with ⟨-, s2⟩ | ⟨x, d, e, s1, s2, s3, s4⟩
                · exact absurd p2 (s2 p d1 d2 p1)
                · have := s4 p d1 d2 p1 p2
                  have hPr2 := hPr q a b hq (by omega) (by omega) h4 h5 (d + e)
                  rcases Nat.lt_or_ge 2 (d + e) with g | g
                  · omega
                  · exact absurd s3 (hPr2 g)
              rcases Nat.lt_or_ge 1 d1 with g | g
              · obtain ⟨d, rfl⟩ : ∃ d, d1 = d + 2 := ⟨d1 - 2, by omega⟩
                have := jWy_old hK hX (show a < n by omega) p1
                omega
              · obtain ⟨d, rfl⟩ : ∃ d, d2 = d + 2 := ⟨d2 - 2, by omega⟩
                have := jWy_old hK hX (show b < n by omega) p2
                omega
        · obtain ⟨e, he⟩ : ∃ e, (m 8 (9 * q + 1)).toInt.toNat / 16 - 1 = e + 1 := ⟨(m 8 (9 * q + 1)).toInt.toNat / 16 - 2, by omega⟩
          have pa : 2 ^ ((m 8 (9 * a + 1)).toInt.toNat / 16 - 1) ≤ 2 ^ e := Nat.pow_le_pow_right (by decide) (by omega)
          have pb : 2 ^ ((m 8 (9 * b + 1)).toInt.toNat / 16 - 1) ≤ 2 ^ e := Nat.pow_le_pow_right (by decide) (by omega)
          rw [he, Nat.pow_succ]
          omega
theorem jWy_all (hK : zKin n k m) (hX : jEx n L y k m) (hPr : jPr n k) : ∀ x, x ≤ n → jsT (jWy k p) x ≤ (if p < x then 1 else 0) + jWb x m
  | 0, _ => Nat.zero_le _
  | x + 1, hx => by
    have hn := hK.1
    have ih := jWy_all hK hX hPr x (by omega)
    have i1 := jWy_le (p := p) hK hX hPr (x + 1) x (by omega) (by omega)
    have wb : jWb x m ≤ jWb (x + 1) m := by
      show jsm _ _ x ≤ jsm _ _ x + _
      exact Nat.le_add_right _ _
    rw [jsT_s]
    by_cases hxp : x = p
    · subst hxp
      rw [jWy_s, if_pos (by omega)]
      rw [if_neg (by omega)] at ih
      omega
    · have e1 : (if p < x + 1 then 1 else 0) = (if p < x then 1 else 0) := by
        by_cases h : p < x
        · rw [if_pos h, if_pos (by omega)]
        · rw [if_neg h, if_neg (by omega)]
      rw [e1]
      rcases hK.2.2.2.2.2.1 x (by omega) with ⟨h4, h5⟩ | ⟨a, b, ha, hb, h4, h5⟩
      · rw [jWy_n hxp h4 h5]; omega
      · have m3 : m 8 (9 * x + 3) ≠ -1 := by
          rw [(hK.2.2.2.1 x (by omega)).2.2.1, h4]; exact pz_m1 (by omega)
        have e : jWb (x + 1) m = jWb x m + 2 ^ ((m 8 (9 * x + 1)).toInt.toNat / 16 - 1) := jsm_1 (A := fun q => m 8 (9 * q + 3) ≠ -1) m3
        rw [e]; omega
theorem jmx_w (S : jSt n L h0 H y k m z) (hPr : jPr n k) : jmx k n n ≤ jWb n m := by
  have hK := S.1.1
  have go : ∀ x, x ≤ n → jmx k n x ≤ jWb n m := by
    intro x
    induction x with
    | zero => intro _; exact Nat.zero_le _
    | succ x ih =>
      intro hx
      have h1 := jps_wy hK.2.2.2.2.2.1 hK.1 kD x (by omega)
      have h2 := jWy_all (p := x) hK S.2.2.2.2.2 hPr n (Nat.le_refl _)
      rw [if_pos (show x < n by omega)] at h2
      have h3 := ih (by omega)
      show max (jmx k n x) (jps k n kD x) ≤ _
      omega
  exact go n (Nat.le_refl _)
end ZS
