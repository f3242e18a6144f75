/-! PURE ROWS: ints as numbers, loops side by side -/
theorem pz_if {α : Type} {i N : Nat} {x : Option α} (h : i < N) (hN : N < 2 ^ 31) : (if (nI i < 0 ∨ N ≤ (nI i).toNatClampNeg) then none else x) = x := if_neg (nI_in h hN)
theorem pz_m1 {n : Nat} (h : n < 2 ^ 31) : nI n ≠ -1 := fun e => by
  have h2 := congrArg Int32.toInt e
  rw [nI_toInt h] at h2
  have h3 : (-1 : Int32).toInt = -1 := by decide
  omega
theorem pz_m1' {n : Nat} (h : n < 2 ^ 31) : (nI n = -1) = False := eq_false (pz_m1 h)
theorem pz_n0 {n : Nat} (h : n < 2 ^ 31) : (nI n < 0) = False := eq_false (nI_pos h)
theorem pz_le {a b : Nat} (ha : a < 2 ^ 31) (hb : b < 2 ^ 31) : (nI a ≤ nI b) = (a ≤ b) := propext (nI_leI ha hb)
theorem pz_lt {a b : Nat} (ha : a < 2 ^ 31) (hb : b < 2 ^ 31) : (nI a < nI b) = (a < b) := propext (nI_ltI ha hb)
theorem pz_eq {a b : Nat} (ha : a < 2 ^ 31) (hb : b < 2 ^ 31) : (nI a = nI b) = (a = b) := propext (nI_eq ha hb)
theorem pz_9 (p w : Nat) : 9 * nI p + nI w = nI (9 * p + w) := by
  show nI 9 * nI p + nI w = _
  rw [pk_mul, nI_add]
theorem pz_4 (p w : Nat) : 4 * nI p + nI w = nI (4 * p + w) := by
  show nI 4 * nI p + nI w = _
  rw [pk_mul, nI_add]
theorem pz_15 (p : Nat) : 15 * nI p = nI (15 * p) := by
  show nI 15 * nI p = _
  rw [pk_mul]
theorem pz_15w (p w : Nat) : 15 * nI p + nI w = nI (15 * p + w) := by
  show nI 15 * nI p + nI w = _
  rw [pk_mul, nI_add]
theorem pz_us {f : Nat → Int32} {k : Nat} {x : Int32} : upd f k x k = x := if_pos rfl
theorem pz_un {f : Nat → Int32} {k j : Nat} {x : Int32} (h : j ≠ k) : upd f k x j = f j := if_neg h
theorem pz_0 : (0 : Int32) = nI 0 := rfl
theorem pz_cl0 : (0 : Int32).toNatClampNeg = 0 := rfl
theorem pz_i0 {α : Type} {x : Option α} : (if ((0 : Int32) < 0 ∨ 1 ≤ (0 : Int32).toNatClampNeg) then none else x) = x := rfl
/-- two loops that go side by side from i to N -/
theorem pz_loop2 {α α' β β' : Type} (L : Nat → Nat → α → Option β) (L' : Nat → Nat → α' → Option β') (fin : α → Option β) (fin' : α' → Option β') (N : Nat) (I : Nat → α → α' → Prop)
    (he : ∀ a a', I N a a' → (∀ g, L (g + 1) N a = fin a) ∧ (∀ g, L' (g + 1) N a' = fin' a'))
    (hs : ∀ i a a', i < N → I i a a' → ∃ b b', (∀ g, L (g + 1) i a = L g (i + 1) b) ∧ (∀ g, L' (g + 1) i a' = L' g (i + 1) b') ∧ I (i + 1) b b') :
    ∀ (d i : Nat) (a : α) (a' : α') (g g' : Nat), i + d = N → I i a a' → d < g → d < g' → ∃ b b', L g i a = fin b ∧ L' g' i a' = fin' b' ∧ I N b b'
  | 0, i, a, a', g, g', hd, hI, hg, hg' => by
    obtain rfl : i = N := by omega
    obtain ⟨x, rfl⟩ : ∃ x, g = x + 1 := ⟨g - 1, by omega⟩
    obtain ⟨y, rfl⟩ : ∃ x, g' = x + 1 := ⟨g' - 1, by omega⟩
    exact ⟨a, a', (he a a' hI).1 x, (he a a' hI).2 y, hI⟩
  | d + 1, i, a, a', g, g', hd, hI, hg, hg' => by
    obtain ⟨x, rfl⟩ : ∃ x, g = x + 1 := ⟨g - 1, by omega⟩
    obtain ⟨y, rfl⟩ : ∃ x, g' = x + 1 := ⟨g' - 1, by omega⟩
    obtain ⟨b, b', h1, h2, h3⟩ := hs i a a' (by omega) hI
    rw [h1, h2]
    exact pz_loop2 L L' fin fin' N I he hs d (i + 1) b b' x y (by omega) h3 (by omega) (by omega)
/-- both loops from 0, at the fuel kN -/
theorem pz_loop20 {α α' β β' : Type} (L : Nat → Nat → α → Option β) (L' : Nat → Nat → α' → Option β') (fin : α → Option β) (fin' : α' → Option β') (N : Nat) (I : Nat → α → α' → Prop)
    (he : ∀ a a', I N a a' → (∀ g, L (g + 1) N a = fin a) ∧ (∀ g, L' (g + 1) N a' = fin' a'))
    (hs : ∀ i a a', i < N → I i a a' → ∃ b b', (∀ g, L (g + 1) i a = L g (i + 1) b) ∧ (∀ g, L' (g + 1) i a' = L' g (i + 1) b') ∧ I (i + 1) b b')
    (hN : N < 4096) {a : α} {a' : α'} (h0 : I 0 a a') : ∃ b b', L kN 0 a = fin b ∧ L' kN 0 a' = fin' b' ∧ I N b b' :=
  pz_loop2 L L' fin fin' N I he hs N 0 a a' kN kN (by omega) h0 hN hN
/-- one loop -/
theorem pz_loop1 {α β : Type} (L : Nat → Nat → α → Option β) (fin : α → Option β) (N : Nat) (I : Nat → α → Prop)
    (he : ∀ a, I N a → ∀ g, L (g + 1) N a = fin a)
    (hs : ∀ i a, i < N → I i a → ∃ b, (∀ g, L (g + 1) i a = L g (i + 1) b) ∧ I (i + 1) b) :
    ∀ (d i : Nat) (a : α) (g : Nat), i + d = N → I i a → d < g → ∃ b, L g i a = fin b ∧ I N b
  | 0, i, a, g, hd, hI, hg => by
    obtain rfl : i = N := by omega
    obtain ⟨x, rfl⟩ : ∃ x, g = x + 1 := ⟨g - 1, by omega⟩
    exact ⟨a, he a hI x, hI⟩
  | d + 1, i, a, g, hd, hI, hg => by
    obtain ⟨x, rfl⟩ : ∃ x, g = x + 1 := ⟨g - 1, by omega⟩
    obtain ⟨b, h1, h3⟩ := hs i a (by omega) hI
    rw [h1]
    exact pz_loop1 L fin N I he hs d (i + 1) b x (by omega) h3 (by omega)
theorem pz_loop10 {α β : Type} (L : Nat → Nat → α → Option β) (fin : α → Option β) (N : Nat) (I : Nat → α → Prop)
    (he : ∀ a, I N a → ∀ g, L (g + 1) N a = fin a)
    (hs : ∀ i a, i < N → I i a → ∃ b, (∀ g, L (g + 1) i a = L g (i + 1) b) ∧ I (i + 1) b)
    (hN : N < 4096) {a : α} (h0 : I 0 a) : ∃ b, L kN 0 a = fin b ∧ I N b :=
  pz_loop1 L fin N I he hs N 0 a kN (by omega) h0 hN
/-- a loop that counts down: L g i stands ahead of the index i - 1 -/
theorem pz_down {α β : Type} (L : Nat → Nat → α → Option β) (fin : α → Option β) (I : Nat → α → Prop)
    (he : ∀ a, I 0 a → ∀ g, L (g + 1) 0 a = fin a)
    (hs : ∀ i a, I (i + 1) a → ∃ b, (∀ g, L (g + 1) (i + 1) a = L g i b) ∧ I i b) :
    ∀ (i : Nat) (a : α) (g : Nat), I i a → i < g → ∃ b, L g i a = fin b ∧ I 0 b
  | 0, a, g, hI, hg => by
    obtain ⟨x, rfl⟩ : ∃ x, g = x + 1 := ⟨g - 1, by omega⟩
    exact ⟨a, he a hI x, hI⟩
  | i + 1, a, g, hI, hg => by
    obtain ⟨x, rfl⟩ : ∃ x, g = x + 1 := ⟨g - 1, by omega⟩
    obtain ⟨b, h1, h3⟩ := hs i a hI
    rw [h1]
    exact pz_down L fin I he hs i b x h3 (by omega)
theorem pz_kadd {α : Type} (a b c d : Nat) (o : Option (α × Nat × Nat)) : kadd a b (kadd c d o) = kadd (a + c) (b + d) o := by
  cases o with
  | none => rfl
  | some x => simp [kadd, Nat.add_assoc]
theorem pz_kadd0 {α : Type} (o : Option (α × Nat × Nat)) : kadd 0 0 o = o := by
  cases o with
  | none => rfl
  | some x => simp [kadd]
theorem pz_kadds {α : Type} (a b : Nat) (x : α) (c d : Nat) : kadd a b (some (x, c, d)) = some (x, a + c, b + d) := rfl
/-! how many numbers below n have a property -/
noncomputable def zcnt (A : Nat → Prop) : Nat → Nat
  | 0 => 0
  | n + 1 => zcnt A n + (@ite Nat (A n) (Classical.propDecidable _) 1 0)
theorem zcnt_le (A : Nat → Prop) (n : Nat) : zcnt A n ≤ n := by
  induction n with
  | zero => exact Nat.le_refl _
  | succ n ih =>
    show zcnt A n + _ ≤ n + 1
    have : @ite Nat (A n) (Classical.propDecidable _) 1 0 ≤ 1 := by split <;> omega
    omega
theorem zcnt_mono {A A' : Nat → Prop} (n : Nat) (h : ∀ c, c < n → A' c → A c) : zcnt A' n ≤ zcnt A n := by
  induction n with
  | zero => exact Nat.le_refl _
  | succ n ih =>
    have h1 := ih (fun c hc => h c (by omega))
    show zcnt A' n + _ ≤ zcnt A n + _
    have : @ite Nat (A' n) (Classical.propDecidable _) 1 0 ≤ @ite Nat (A n) (Classical.propDecidable _) 1 0 := by
      by_cases q : A' n
      · rw [if_pos q, if_pos (h n (by omega) q)]; omega
      · rw [if_neg q]; omega
    omega
theorem zcnt_lt {A A' : Nat → Prop} {n x : Nat} (h : ∀ c, c < n → A' c → A c) (hx : x < n) (hA : A x) (hn : ¬ A' x) : zcnt A' n + 1 ≤ zcnt A n := by
  induction n with
  | zero => omega
  | succ n ih =>
    show zcnt A' n + _ + 1 ≤ zcnt A n + _
    by_cases q : x = n
    · subst q
      have h1 := zcnt_mono x (fun c hc => h c (by omega))
      rw [if_neg hn, if_pos hA]
      omega
    · have h1 := ih (fun c hc => h c (by omega)) (by omega)
      have : @ite Nat (A' n) (Classical.propDecidable _) 1 0 ≤ @ite Nat (A n) (Classical.propDecidable _) 1 0 := by
        by_cases q : A' n
        · rw [if_pos q, if_pos (h n (by omega) q)]; omega
        · rw [if_neg q]; omega
      omega
theorem zcnt_congr {A A' : Nat → Prop} (n : Nat) (h : ∀ c, c < n → (A' c ↔ A c)) : zcnt A' n = zcnt A n :=
  Nat.le_antisymm (zcnt_mono n fun c hc => (h c hc).1) (zcnt_mono n fun c hc => (h c hc).2)
