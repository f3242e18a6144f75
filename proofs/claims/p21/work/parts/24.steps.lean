/-! STEPS: the reference's climb finds the least ways up, and so the class's table -/
section ZC
variable {n p q a b c d e j x L : Nat} {k m : kS} {v w : Int32} {B P : Nat}
theorem zPath_le : ∀ {d a q : Nat}, zPath k d a q → q + d ≤ a
  | 0, a, q, h => by have h : a = q := h; omega
  | d + 1, a, q, ⟨b, hb, _, h⟩ => by have := zPath_le h; omega
theorem zPath_snoc : ∀ {d a c q : Nat}, zPath k d a c → q < c → (k 4 c = nI q ∨ k 5 c = nI q) → zPath k (d + 1) a q
  | 0, a, c, q, h, hq, hp => by
    have h : a = c := h
    subst h
    exact ⟨q, hq, hp, rfl⟩
  | d + 1, a, c, q, ⟨b, hb, h1, h⟩, hq, hp => ⟨b, hb, h1, zPath_snoc h hq hp⟩
theorem zPath_last : ∀ {d a q : Nat}, zPath k (d + 1) a q → ∃ c, zPath k d a c ∧ q < c ∧ (k 4 c = nI q ∨ k 5 c = nI q)
  | 0, a, q, ⟨b, hb, h1, h⟩ => by
    have h : b = q := h
    subst h
    exact ⟨a, rfl, hb, h1⟩
  | d + 1, a, q, ⟨b, hb, h1, h⟩ => by
    obtain ⟨c, h2, h3, h4⟩ := zPath_last h
    exact ⟨c, ⟨b, hb, h1, h2⟩, h3, h4⟩
def zUp (n : Nat) (k : kS) (a : Nat) (f : Nat → Int32) : Prop := ∀ q, q < n → ∃ t, f q = nI t ∧ (t = 999 ∨ (t ≤ 40 ∧ zPath k t a q))
theorem zRelax {f : Nat → Int32} (hn : n ≤ 40) (ha : a < n) (h : zUp n k a f) (he : zPath k e a j) (hx : x < j) (hp : k 4 j = nI x ∨ k 5 j = nI x) (f' : Nat → Int32) (hf' : f' = upd f x (if nI (e + 1) < f x then nI (e + 1) else f x)) :
    zUp n k a f' ∧ (∃ t, f' x = nI t ∧ t ≤ e + 1) ∧ (∀ q t, q < n → f q = nI t → ∃ t', f' q = nI t' ∧ t' ≤ t) ∧ (∀ q, q ≠ x → f' q = f q) := by
  have l1 := zPath_le he
  have he2 := zPath_snoc he hx hp
  obtain ⟨t, h1, h2⟩ := h x (by omega)
  have ht : t ≤ 999 := by omega
  subst hf'
  have key : ∃ u, (if nI (e + 1) < f x then nI (e + 1) else f x) = nI u ∧ u ≤ e + 1 ∧ u ≤ t ∧ (u = 999 ∨ (u ≤ 40 ∧ zPath k u a x)) := by
    rw [h1]
    by_cases g : e + 1 < t
    · rw [if_pos ((nI_ltI (by omega) (by omega)).mpr g)]; exact ⟨e + 1, rfl, Nat.le_refl _, by omega, Or.inr ⟨by omega, he2⟩⟩
    · rw [if_neg (fun q => g ((nI_ltI (by omega) (by omega)).mp q))]; exact ⟨t, rfl, by omega, Nat.le_refl _, h2⟩
  obtain ⟨u, u1, u2, u3, u4⟩ := key
  rw [u1]
  refine ⟨fun q hq => ?_, ⟨u, pz_us, u2⟩, fun q s hq hs => ?_, fun q hq => pz_un hq⟩
  · by_cases g : q = x
    · subst g; exact ⟨u, pz_us, u4⟩
    · rw [pz_un g]; exact h q hq
  · by_cases g : q = x
    · subst g
      refine ⟨u, pz_us, ?_⟩
      obtain ⟨t2, h3, h4⟩ := h q hq
      have h5 : t2 ≤ 999 := by omega
      rw [h1] at h3
      have e1 := (nI_eq (show t < 2 ^ 31 by omega) (show t2 < 2 ^ 31 by omega)).mp h3
      rw [h1] at hs
      by_cases g2 : s < 2 ^ 31
      · have e2 := (nI_eq (show t < 2 ^ 31 by omega) g2).mp hs
        omega
      · omega
    · rw [pz_un g]; exact ⟨s, hs, Nat.le_refl _⟩
theorem pz_mP {x : Int32} : x + (-1) = x - 1 := (Int32.sub_eq_add_neg _ _).symm
theorem cl_x (hK : zKin n k m) (ha : a < n) (hP7 : P ≠ 7) (hP8 : P ≠ 8) : ∃ m', F_X6_climb P (nI a) m = some m' ∧ (∀ q, q ≠ P → m' q = m q) ∧ ∀ q, q < n → (m' P q = nI 999 ∧ ∀ d, ¬ zPath k d a q) ∨ (∃ d, d ≤ 40 ∧ zPath k d a q ∧ m' P q = nI d ∧ ∀ d', zPath k d' a q → d ≤ d') := by
  obtain ⟨hn, hk, hm, hE, hMl, hPar, hSt⟩ := hK
  obtain ⟨m1, h1, h2, h3⟩ := pz_loop10 (α := kS) (fun g i mo => F_X6_climb_2 P g (nI a) (nI i) mo) (fun mo => F_X6_climb_31 P (nI a) mo) n (fun i mo => (∀ q, q ≠ P → mo q = m q) ∧ ∀ q, q < i → mo P q = if q = a then nI 0 else nI 999)
    (fun mo hI g => by
      have e : mo 7 1 = nI n := by rw [hI.1 7 hP7.symm]; exact hm
      simp only [F_X6_climb_2, e, pz_cT (show n < 2 ^ 31 by omega), if_true])
    (fun i mo hi hI => by
      have e : mo 7 1 = nI n := by rw [hI.1 7 hP7.symm]; exact hm
      have c := pz_cF hi (show n < 2 ^ 31 by omega)
      by_cases h : i = a
      · subst h
        refine ⟨kst mo P (upd (mo P) i 0), fun g => ?_, fun q hq => ?_, fun q hq => ?_⟩
        · simp only [F_X6_climb_2, e, c, if_false, F_X6_climb_10, if_true, F_X6_climb_17, F_X6_climb_24, pz_n0 (show i < 2 ^ 31 by omega), nI_clamp (show i < 2 ^ 31 by omega), pz_ge (show i < 40 by omega), or_self, false_or, if_false, nI_1]
        · rw [kst_ne _ _ hq]; exact hI.1 q hq
        · rw [kst_eq]
          by_cases g : q = i
          · subst g; rw [pz_us, if_pos rfl]; rfl
          · rw [pz_un g]; exact hI.2 q (by omega)
      · have hne : (nI i = nI a) = False := by rw [pz_eq (by omega) (by omega)]; exact eq_false h
        refine ⟨kst mo P (upd (mo P) i 999), fun g => ?_, fun q hq => ?_, fun q hq => ?_⟩
        · simp only [F_X6_climb_2, e, c, if_false, F_X6_climb_10, hne, F_X6_climb_21, F_X6_climb_24, pz_n0 (show i < 2 ^ 31 by omega), nI_clamp (show i < 2 ^ 31 by omega), pz_ge (show i < 40 by omega), or_self, false_or, if_false, nI_1]
        · rw [kst_ne _ _ hq]; exact hI.1 q hq
        · rw [kst_eq]
          by_cases g : q = i
          · subst g; rw [pz_us, if_neg h]; rfl
          · rw [pz_un g]; exact hI.2 q (by omega))
    (by omega) (a := m) ⟨fun q _ => rfl, fun q hq => absurd hq (Nat.not_lt_zero _)⟩
  have I0 : (∀ q, q ≠ P → m1 q = m q) ∧ zUp n k a (m1 P) ∧ m1 P a = nI 0 ∧ (∀ c d q, a + 1 ≤ c → c < n → zPath k d a c → q < c → (k 4 c = nI q ∨ k 5 c = nI q) → ∃ d', m1 P q = nI d' ∧ d' ≤ d + 1) := by
    refine ⟨h2, fun q hq => ?_, by rw [h3 a ha, if_pos rfl], fun c d q hc _ h => ?_⟩
    · rw [h3 q hq]
      by_cases g : q = a
      · rw [if_pos g]; exact ⟨0, rfl, Or.inr ⟨by omega, g.symm⟩⟩
      · rw [if_neg g]; exact ⟨999, rfl, Or.inl rfl⟩
    · have := zPath_le h
      omega
  obtain ⟨m2, h4, -, h5, h6, h7, h8⟩ := pz_down (α := kS) (fun g j mo => F_X6_climb_33 P g (nI j - 1) mo) (fun mo => some mo) (fun j mo => j ≤ a + 1 ∧ (∀ q, q ≠ P → mo q = m q) ∧ zUp n k a (mo P) ∧ mo P a = nI 0 ∧ (∀ c d q, j ≤ c → c < n → zPath k d a c → q < c → (k 4 c = nI q ∨ k 5 c = nI q) → ∃ d', mo P q = nI d' ∧ d' ≤ d + 1))
    (fun mo hI g => by
      have c : ((nI 0 - 1) < 0) = True := eq_true (by decide)
      simp only [F_X6_climb_33, c, if_true, F_X6_climb_113])
    (fun j mo hI => by
      obtain ⟨i0, i1, i2, i3, i4⟩ := hI
      · have hj : j < n := by omega
        obtain ⟨t, t1, t2⟩ := i2 j hj
        have sub : ∀ d, zPath k d a j → ∃ d', mo P j = nI d' ∧ d' ≤ d := by
          intro d hd
          cases d with
          | zero =>
            have : a = j := hd
            subst this
            exact ⟨0, i3, Nat.le_refl _⟩
          | succ d =>
            obtain ⟨c, c1, c2, c3⟩ := zPath_last hd
            have := zPath_le c1
            exact i4 c d j (by omega) (by omega) c1 c2 c3
        have c0 : (nI j < 0) = False := pz_n0 (by omega)
        have e8 : mo 8 = m 8 := i1 8 hP8.symm
        rcases t2 with rfl | ⟨t2, t3⟩
        · refine ⟨mo, fun g => ?_, by omega, i1, i2, i3, fun c d q hc hc2 hd hq hp => ?_⟩
          · have c9 : (nI 999 = 999) = True := eq_true rfl
            simp only [F_X6_climb_33, nI_pred, c0, if_false, F_X6_climb_37, pz_n0 (show j < 2 ^ 31 by omega), nI_clamp (show j < 2 ^ 31 by omega), pz_ge (show j < 40 by omega), or_self, false_or, if_false, t1, c9, if_true, F_X6_climb_107, pz_mP]
          · by_cases g : c = j
            · subst g
              obtain ⟨d', g1, g2⟩ := sub d hd
              have := zPath_le hd
              rw [t1, nI_eq (by decide) (by omega)] at g1
              omega
            · exact i4 c d q (by omega) hc2 hd hq hp
        · have c9 : (nI t = 999) = False := eq_false (fun e => by have := (nI_eq (show t < 2 ^ 31 by omega) (show 999 < 2 ^ 31 by decide)).mp e; omega)
          obtain ⟨e1, e2, e3, e4⟩ := hE j hj
          rcases hPar j hj with ⟨p1, p2⟩ | ⟨x, y, hx, hy, p1, p2⟩
          · refine ⟨mo, fun g => ?_, by omega, i1, i2, i3, fun c d q hc hc2 hd hq hp => ?_⟩
            · simp only [F_X6_climb_33, nI_pred, c0, if_false, F_X6_climb_37, pz_n0 (show j < 2 ^ 31 by omega), nI_clamp (show j < 2 ^ 31 by omega), pz_ge (show j < 40 by omega), or_self, false_or, if_false, t1, c9, F_X6_climb_46, pe_3 (show j < 40 by omega), e8, e3, p1, pz_bind, if_true, F_X6_climb_56, F_X6_climb_107, pz_mP]
            · by_cases g : c = j
              · subst g
                rcases hp with hp | hp
                · exact absurd (hp.symm.trans p1) (pz_m1 (by omega))
                · exact absurd (hp.symm.trans p2) (pz_m1 (by omega))
              · exact i4 c d q (by omega) hc2 hd hq hp
          · obtain ⟨r1, r2, r3, r4⟩ := zRelax hn ha i2 t3 hx (Or.inl p1) _ rfl
            obtain ⟨s1, s2, s3, s4⟩ := zRelax hn ha r1 t3 hy (Or.inr p2) _ rfl
            refine ⟨kst (kst mo P (upd (mo P) x (if nI (t + 1) < mo P x then nI (t + 1) else mo P x))) P (upd (upd (mo P) x (if nI (t + 1) < mo P x then nI (t + 1) else mo P x)) y (if nI (t + 1) < upd (mo P) x (if nI (t + 1) < mo P x then nI (t + 1) else mo P x) y then nI (t + 1) else upd (mo P) x (if nI (t + 1) < mo P x then nI (t + 1) else mo P x) y)), fun g => ?_, by omega, fun q hq => ?_, ?_, ?_, ?_⟩
            · have m1' : (nI x = -1) = False := pz_m1' (by omega)
              have u1 : ∀ f, (kst mo P f) 8 = m 8 := fun f => by rw [kst_ne _ _ hP8.symm]; exact e8
              have u2 : upd (mo P) x (if nI (t + 1) < mo P x then nI (t + 1) else mo P x) j = nI t := by rw [pz_un (by omega)]; exact t1
              simp only [F_X6_climb_33, nI_pred, c0, if_false, F_X6_climb_37, pz_n0 (show j < 2 ^ 31 by omega), nI_clamp (show j < 2 ^ 31 by omega), pz_ge (show j < 40 by omega), or_self, false_or, if_false, pz_n0 (show x < 2 ^ 31 by omega), nI_clamp (show x < 2 ^ 31 by omega), pz_ge (show x < 40 by omega), or_self, false_or, if_false, pz_n0 (show y < 2 ^ 31 by omega), nI_clamp (show y < 2 ^ 31 by omega), pz_ge (show y < 40 by omega), or_self, false_or, if_false, c9, F_X6_climb_46, pe_3 (show j < 40 by omega), pe_4 (show j < 40 by omega), e8, e3, e4, p1, p2, pz_bind, m1', F_X6_climb_59, F_X6_climb_107, pz_mP, t1, nI_1, u1, kst_eq, u2]
            · rw [kst_ne _ _ hq, kst_ne _ _ hq]; exact i1 q hq
            · rw [kst_eq]; exact s1
            · rw [kst_eq, s4 a (by have := zPath_le t3; omega), r4 a (by have := zPath_le t3; omega)]; exact i3
            · intro c d q hc hc2 hd hq hp
              rw [kst_eq]
              by_cases g : c = j
              · subst g
                obtain ⟨d', g1, g2⟩ := sub d hd
                have := zPath_le hd
                rw [t1, nI_eq (by omega) (by omega)] at g1
                subst g1
                rcases hp with hp | hp
                · have : x = q := (nI_eq (by omega) (by omega)).mp (p1.symm.trans hp)
                  subst this
                  obtain ⟨w, w1, w2⟩ := r2
                  obtain ⟨w', w3, w4⟩ := s3 x w (by omega) w1
                  exact ⟨w', w3, by omega⟩
                · have : y = q := (nI_eq (by omega) (by omega)).mp (p2.symm.trans hp)
                  subst this
                  obtain ⟨w, w1, w2⟩ := s2
                  exact ⟨w, w1, by omega⟩
              · obtain ⟨d', g1, g2⟩ := i4 c d q (by omega) hc2 hd hq hp
                obtain ⟨w, w1, w2⟩ := r3 q d' (by omega) g1
                obtain ⟨w', w3, w4⟩ := s3 q w (by omega) w1
                exact ⟨w', w3, by omega⟩)
    (a + 1) m1 kN ⟨Nat.le_refl _, I0⟩ (by show a + 1 < 4096; omega)
  refine ⟨m2, ?_, h5, fun q hq => ?_⟩
  · have h1' : F_X6_climb P (nI a) m = F_X6_climb_31 P (nI a) m1 := h1
    rw [h1', F_X6_climb_31]
    have h4' : F_X6_climb_33 P kN (nI (a + 1) - 1) m1 = some m2 := h4
    rwa [nI_pred] at h4'
  · have low : ∀ d, zPath k d a q → ∃ d', m2 P q = nI d' ∧ d' ≤ d := by
      intro d hd
      cases d with
      | zero =>
        have : a = q := hd
        subst this
        exact ⟨0, h7, Nat.le_refl _⟩
      | succ d =>
        obtain ⟨c, c1, c2, c3⟩ := zPath_last hd
        have := zPath_le c1
        exact h8 c d q (Nat.zero_le _) (by omega) c1 c2 c3
    obtain ⟨t, t1, t2⟩ := h6 q hq
    rcases t2 with rfl | ⟨t2, t3⟩
    · refine Or.inl ⟨t1, fun d hd => ?_⟩
      obtain ⟨d', g1, g2⟩ := low d hd
      have := zPath_le hd
      rw [t1, nI_eq (by decide) (by omega)] at g1
      omega
    · refine Or.inr ⟨t, t2, t3, t1, fun d hd => ?_⟩
      obtain ⟨d', g1, g2⟩ := low d hd
      have := zPath_le hd
      rw [t1, nI_eq (by omega) (by omega)] at g1
      omega
end ZC
