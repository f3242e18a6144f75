/-! SUMS over persons and lands: couples, worth -/
theorem jsT_swap {F : Nat → Nat → Nat} {b : Nat} : ∀ a, jsT (fun p => jsT (F p) b) a = jsT (fun q => jsT (fun p => F p q) a) b
  | 0 => (jsm_z (A := fun _ => True) (h := fun _ => 0) b (fun _ _ _ => rfl)).symm
  | a + 1 => by
    have ih := jsT_swap (F := F) (b := b) a
    rw [jsT_s, ih]
    have e : jsT (fun q => jsT (fun p => F p q) (a + 1)) b = jsT (fun q => jsT (fun p => F p q) a + F a q) b := jsm_cg b (fun _ _ => Iff.rfl) (fun q _ _ => jsT_s)
    rw [e]
    exact (jsm_add2 (A := fun _ => True) (f := fun q => jsT (fun p => F p q) a) (g := F a) b).symm
theorem jsT_one {x c : Nat} : ∀ n, jsT (fun q => if q = x then c else 0) n = if x < n then c else 0
  | 0 => (if_neg (Nat.not_lt_zero x)).symm
  | n + 1 => by
    have ih := jsT_one (x := x) (c := c) n
    rw [jsT_s, ih]
    by_cases h : n = x
    · rw [if_pos h, if_neg (by omega), if_pos (by omega), Nat.zero_add]
    · rw [if_neg h]
      by_cases h2 : x < n
      · rw [if_pos h2, if_pos (by omega), Nat.add_zero]
      · rw [if_neg h2, if_neg (by omega), Nat.add_zero]
theorem jsT_cg {f g : Nat → Nat} {n : Nat} (h : ∀ c, c < n → f c = g c) : jsT f n = jsT g n := jsm_cg n (fun _ _ => Iff.rfl) (fun c hc _ => h c hc)
theorem zcnt_T {A : Nat → Prop} {g : Nat → Nat} : ∀ n, (∀ c, c < n → (A c → g c = 1) ∧ (¬ A c → g c = 0)) → zcnt A n = jsT g n
  | 0, _ => rfl
  | n + 1, h => by
    have ih := zcnt_T (A := A) (g := g) n (fun c hc => h c (by omega))
    by_cases q : A n
    · rw [zcnt_s1 q, jsT_s, ih, (h n (by omega)).1 q]
    · rw [zcnt_s0 q, jsT_s, ih, (h n (by omega)).2 q]; rfl
theorem zcnt_split {A C : Nat → Prop} : ∀ n, zcnt A n = zcnt (fun c => A c ∧ C c) n + zcnt (fun c => A c ∧ ¬ C c) n
  | 0 => rfl
  | n + 1 => by
    have ih := zcnt_split (A := A) (C := C) n
    by_cases q : A n
    · by_cases g : C n
      · rw [zcnt_s1 q, zcnt_s1 (A := fun c => A c ∧ C c) ⟨q, g⟩, zcnt_s0 (A := fun c => A c ∧ ¬ C c) (fun r => r.2 g)]; omega
      · rw [zcnt_s1 q, zcnt_s0 (A := fun c => A c ∧ C c) (fun r => g r.2), zcnt_s1 (A := fun c => A c ∧ ¬ C c) ⟨q, g⟩]; omega
    · rw [zcnt_s0 q, zcnt_s0 (A := fun c => A c ∧ C c) (fun r => q r.1), zcnt_s0 (A := fun c => A c ∧ ¬ C c) (fun r => q r.1)]; exact ih
/-- how many are married -/
noncomputable def jMd (n : Nat) (m : kS) : Nat := zcnt (fun p => m 8 (9 * p + 5) ≠ -1) n
/-- the worth of the lands of all -/
noncomputable def jWs (x L : Nat) (m : kS) : Nat := jsT (fun p => zws m (nI p) L) x
noncomputable def jLw (x : Nat) (m : kS) : Nat := jsm (fun l => m 9 (4 * l + 2) ≠ -1) (fun l => (m 9 (4 * l)).toNatClampNeg) x
def jWd (m : kS) (p q : Nat) : Nat := if m 8 (9 * p + 5) = nI q ∧ p < q then 1 else 0
def jRw (m : kS) (p l : Nat) : Nat := if m 9 (4 * l + 2) = nI p then (m 9 (4 * l)).toNatClampNeg else 0
section ZS
variable {n L h0 H p q w x y : Nat} {k m z : kS} {v : Int32}
theorem jSt_wd (S : jSt n L h0 H y k m z) (hp : p < n) : m 8 (9 * p + 5) = -1 ∨ ∃ q, q < n ∧ q ≠ p ∧ m 8 (9 * p + 5) = nI q ∧ m 8 (9 * q + 5) = nI p := by
  rcases (S.1.2.2.2.2.2.1 rfl).1.2.2 p hp with ⟨h, -⟩ | ⟨q, g1, g2, g3, g4, -⟩
  · exact Or.inl ((jSt_k24 S hp).trans h)
  · exact Or.inr ⟨q, g1, g2, (jSt_k24 S hp).trans g3, (jSt_k24 S g1).trans g4⟩
theorem jMd_2 (S : jSt n L h0 H y k m z) : jMd n m = 2 * zcnt (fun p => nI p < m 8 (9 * p + 5)) n := by
  have hn := S.1.1.1
  have neg1 : ∀ p, p < n → ¬ nI p < -1 := fun p hp g => by
    rw [Int32.lt_iff_toInt_lt, nI_toInt (by omega), show (-1 : Int32).toInt = -1 from by decide] at g
    omega
  have inA : ∀ p, p < n → (nI p < m 8 (9 * p + 5) → jsT (jWd m p) n = 1) ∧ (¬ nI p < m 8 (9 * p + 5) → jsT (jWd m p) n = 0) := by
    intro p hp
    rcases jSt_wd S hp with h | ⟨x, hx, hxp, h, -⟩
    · rw [h]
      have z : jsT (jWd m p) n = 0 := jsm_z n (fun q hq _ => if_neg (fun g => by rw [h] at g; exact pz_m1 (show q < 2 ^ 31 by omega) g.1.symm))
      exact ⟨fun g => absurd g (neg1 p hp), fun _ => z⟩
    · have e : jsT (jWd m p) n = jsT (fun q => if q = x then (if p < x then 1 else 0) else 0) n := jsT_cg (fun q hq => by
        show (if m 8 (9 * p + 5) = nI q ∧ p < q then 1 else 0) = _
        by_cases hqx : q = x
        · rw [if_pos hqx]
          by_cases hpx : p < x
          · rw [if_pos hpx, if_pos ⟨by rw [h, hqx], by omega⟩]
          · rw [if_neg hpx, if_neg (fun g => by omega)]
        · rw [if_neg hqx, if_neg (fun g => by rw [h, nI_eq (by omega) (by omega)] at g; omega)])
      rw [e, jsT_one, if_pos hx, h, pz_lt (show p < 2 ^ 31 by omega) (show x < 2 ^ 31 by omega)]
      exact ⟨fun g => if_pos g, fun g => if_neg g⟩
  have inB : ∀ q, q < n → ((m 8 (9 * q + 5) ≠ -1 ∧ ¬ nI q < m 8 (9 * q + 5)) → jsT (fun p => jWd m p q) n = 1) ∧ (¬ (m 8 (9 * q + 5) ≠ -1 ∧ ¬ nI q < m 8 (9 * q + 5)) → jsT (fun p => jWd m p q) n = 0) := by
    intro q hq
    rcases jSt_wd S hq with h | ⟨x, hx, hxq, h, h'⟩
    · have z : jsT (fun p => jWd m p q) n = 0 := jsm_z n (fun p hp _ => if_neg (fun g => by
        rcases jSt_wd S hp with e | ⟨u, hu, -, e, e2⟩
        · rw [e] at g; exact pz_m1 (show q < 2 ^ 31 by omega) g.1.symm
        · rw [e, nI_eq (by omega) (by omega)] at g
          rw [g.1, h] at e2; exact pz_m1 (show p < 2 ^ 31 by omega) e2.symm))
      exact ⟨fun g => absurd h g.1, fun _ => z⟩
    · have e : jsT (fun p => jWd m p q) n = jsT (fun p => if p = x then (if x < q then 1 else 0) else 0) n := jsT_cg (fun p hp => by
        show (if m 8 (9 * p + 5) = nI q ∧ p < q then 1 else 0) = _
        by_cases hpx : p = x
        · rw [if_pos hpx]
          by_cases hxq2 : x < q
          · rw [if_pos hxq2, if_pos ⟨by rw [hpx, h'], by omega⟩]
          · rw [if_neg hxq2, if_neg (fun g => by omega)]
        · rw [if_neg hpx, if_neg (fun g => by
            rcases jSt_wd S hp with e | ⟨u, hu, -, e, e2⟩
            · rw [e] at g; exact pz_m1 (show q < 2 ^ 31 by omega) g.1.symm
            · rw [e, nI_eq (by omega) (by omega)] at g
              rw [g.1, h, nI_eq (by omega) (by omega)] at e2
              omega)])
      rw [e, jsT_one, if_pos hx, h, pz_lt (show q < 2 ^ 31 by omega) (show x < 2 ^ 31 by omega)]
      refine ⟨fun g => if_pos (by omega), fun g => if_neg (fun g2 => g ⟨pz_m1 (by omega), by omega⟩)⟩
  have a1 : zcnt (fun p => m 8 (9 * p + 5) ≠ -1 ∧ nI p < m 8 (9 * p + 5)) n = zcnt (fun p => nI p < m 8 (9 * p + 5)) n := zcnt_congr n (fun p hp => ⟨fun g => g.2, fun g => ⟨fun e => by rw [e] at g; exact neg1 p hp g, g⟩⟩)
  have a2 := zcnt_T (A := fun p => nI p < m 8 (9 * p + 5)) (g := fun p => jsT (jWd m p) n) n inA
  have a3 := zcnt_T (A := fun q => m 8 (9 * q + 5) ≠ -1 ∧ ¬ nI q < m 8 (9 * q + 5)) (g := fun q => jsT (fun p => jWd m p q) n) n inB
  have sw := jsT_swap (F := jWd m) (b := n) n
  have sp := zcnt_split (A := fun p => m 8 (9 * p + 5) ≠ -1) (C := fun p => nI p < m 8 (9 * p + 5)) n
  show zcnt (fun p => m 8 (9 * p + 5) ≠ -1) n = _
  rw [sp, a1, a3, ← sw, ← a2]
  omega
theorem zws_T (m : kS) (p : Nat) : ∀ x, zws m (nI p) x = jsT (jRw m p) x
  | 0 => rfl
  | x + 1 => by
    rw [jsT_s, ← zws_T m p x]
    rfl
theorem jWs_lw (S : jSt n L h0 H y k m z) : jWs n L m = jLw L m := by
  have hn := S.1.1.1
  have e1 : jWs n L m = jsT (fun p => jsT (jRw m p) L) n := jsT_cg (fun p _ => zws_T m p L)
  have row : ∀ l, l < L → (m 9 (4 * l + 2) ≠ -1 → jsT (fun p => jRw m p l) n = (m 9 (4 * l)).toNatClampNeg) ∧ (m 9 (4 * l + 2) = -1 → jsT (fun p => jRw m p l) n = 0) := by
    intro l hl
    rcases jSt_rl S hl with h | ⟨x, hx, h, -⟩
    · exact ⟨fun g => absurd h g, fun _ => jsm_z n (fun p hp _ => if_neg (fun g => by rw [h] at g; exact pz_m1 (show p < 2 ^ 31 by omega) g.symm))⟩
    · refine ⟨fun _ => ?_, fun g => by rw [h] at g; exact absurd g (pz_m1 (by omega))⟩
      have e : jsT (fun p => jRw m p l) n = jsT (fun p => if p = x then (m 9 (4 * l)).toNatClampNeg else 0) n := jsT_cg (fun p hp => by
        show (if m 9 (4 * l + 2) = nI p then _ else 0) = _
        by_cases hpx : p = x
        · rw [if_pos hpx, if_pos (by rw [h, hpx])]
        · rw [if_neg hpx, if_neg (fun g => by rw [h, nI_eq (by omega) (by omega)] at g; omega)])
      rw [e, jsT_one, if_pos hx]
  rw [e1, jsT_swap]
  have go : ∀ x, x ≤ L → jsT (fun l => jsT (fun p => jRw m p l) n) x = jLw x m := by
    intro x
    induction x with
    | zero => intro _; rfl
    | succ x ih =>
      intro hx
      rw [jsT_s, ih (by omega)]
      by_cases g : m 9 (4 * x + 2) = -1
      · rw [(row x (by omega)).2 g]
        exact (jsm_0 (A := fun l => m 9 (4 * l + 2) ≠ -1) (fun q => q g)).symm
      · rw [(row x (by omega)).1 g]
        exact (jsm_1 (A := fun l => m 9 (4 * l + 2) ≠ -1) g).symm
  exact go L (Nat.le_refl _)
theorem zws_le (hw : ∀ l, l < L → ∃ t, t ≤ 50 ∧ m 9 (4 * l) = nI t) : ∀ x, x ≤ L → zws m v x ≤ 50 * x
  | 0, _ => Nat.le_refl _
  | x + 1, hx => by
    have ih := zws_le hw x (by omega)
    obtain ⟨t, ht, e⟩ := hw x (by omega)
    show zws m v x + (if m 9 (4 * x + 2) = v then (m 9 (4 * x)).toNatClampNeg else 0) ≤ _
    rw [e, nI_clamp (by omega)]
    by_cases h : m 9 (4 * x + 2) = v
    · rw [if_pos h]; omega
    · rw [if_neg h]; omega
end ZS
