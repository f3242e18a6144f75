/-! HEIRS, the reference's side, and both together -/
def zO : Option Nat → Int32
  | none => -1
  | some b => nI b
def zAft (k : kS) (w : Nat) : Option Nat → Nat → Prop
  | none, _ => True
  | some b, c => zAh k w b c
section ZI
variable {n p q a b c d e j x r L w : Nat} {k k1 m m' : kS} {v t : Int32} {B P : Nat} {f th : Nat → Int32}
theorem nc_x (hK : zKin n k m) (hw : w ≤ 2) (hp : p < n) (bh : Option Nat) (hb : ∀ b, bh = some b → b < n) : ∃ r, F_X6_nextChild m (nI p) (zO bh) (nI w) = some r ∧ ((r = -1 ∧ ∀ c, c < n → zCh k c p → ¬ zAft k w bh c) ∨ ∃ c, c < n ∧ r = nI c ∧ zCh k c p ∧ zAft k w bh c ∧ ∀ c', c' < n → zCh k c' p → zAft k w bh c' → c' ≠ c → zAh k w c c') := by
  obtain ⟨hn, hk, hm, hE, hMl, hPar, hSt⟩ := hK
  obtain ⟨r, h1, h2⟩ := pz_loop10 (α := Int32) (fun g i a => F_X6_nextChild_6 m g (nI p) (zO bh) (nI w) a (nI i)) (fun a => some a) n (fun i r => (r = -1 ∧ ∀ c, c < i → zCh k c p → ¬ zAft k w bh c) ∨ ∃ c, c < i ∧ r = nI c ∧ zCh k c p ∧ zAft k w bh c ∧ ∀ c', c' < i → zCh k c' p → zAft k w bh c' → c' ≠ c → zAh k w c c')
    (fun a hI g => by simp only [F_X6_nextChild_66, F_X6_nextChild_41, F_X6_nextChild_62, F_X6_nextChild_50, F_X6_nextChild_44, F_X6_nextChild_30, F_X6_nextChild_25, F_X6_nextChild_15, F_X6_nextChild_72, F_X6_nextChild_6, F_X6_nextChild_0, F_X6_nextChild, hm, pz_cT (show n < 2 ^ 31 by omega), if_true])
    (fun i a hi hI => by
      have c := pz_cF hi (show n < 2 ^ 31 by omega)
      obtain ⟨e1, e2, e3, e4⟩ := hE i hi
      -- nothing changes where i is no candidate
      have skip : ¬ (zCh k i p ∧ zAft k w bh i) → ((a = -1 ∧ ∀ c, c < i + 1 → zCh k c p → ¬ zAft k w bh c) ∨ ∃ c, c < i + 1 ∧ a = nI c ∧ zCh k c p ∧ zAft k w bh c ∧ ∀ c', c' < i + 1 → zCh k c' p → zAft k w bh c' → c' ≠ c → zAh k w c c') := by
        intro hno
        rcases hI with ⟨rfl, h⟩ | ⟨c, h1, h2, h3, h4, h5⟩
        · refine Or.inl ⟨rfl, fun c hc hch ha => ?_⟩
          by_cases g : c = i
          · subst g; exact hno ⟨hch, ha⟩
          · exact h c (by omega) hch ha
        · refine Or.inr ⟨c, by omega, h2, h3, h4, fun c' hc hch ha hne => ?_⟩
          by_cases g : c' = i
          · subst g; exact absurd ⟨hch, ha⟩ hno
          · exact h5 c' (by omega) hch ha hne
      by_cases hch : zCh k i p
      · have hch' : m 8 (9 * i + 3) = nI p ∨ m 8 (9 * i + 4) = nI p := by rw [e3, e4]; exact hch
        -- a candidate: the better of both
        have cand : zAft k w bh i → ∃ b, (∀ g, F_X6_nextChild_44 m (F_X6_nextChild_6 m g) (nI p) (zO bh) (nI w) a (nI i) = F_X6_nextChild_6 m g (nI p) (zO bh) (nI w) b (nI (i + 1))) ∧ ((b = -1 ∧ ∀ c, c < i + 1 → zCh k c p → ¬ zAft k w bh c) ∨ ∃ c, c < i + 1 ∧ b = nI c ∧ zCh k c p ∧ zAft k w bh c ∧ ∀ c', c' < i + 1 → zCh k c' p → zAft k w bh c' → c' ≠ c → zAh k w c c') := by
          intro haf
          rcases hI with ⟨rfl, h⟩ | ⟨c, h1, rfl, h3, h4, h5⟩
          · refine ⟨nI i, fun g => by simp only [F_X6_nextChild_44, if_true, F_X6_nextChild_62, F_X6_nextChild_66, nI_1], Or.inr ⟨i, by omega, rfl, hch, haf, fun c' hc hch' ha hne => ?_⟩⟩
            exact absurd ha (h c' (by omega) hch')
          · have cm : (nI c = -1) = False := pz_m1' (by omega)
            obtain ⟨y, y1, y2, y3⟩ := ah_x (m := m) (a := i) (b := c) hn hi (by omega) hE hMl hw
            rcases y3 with ⟨rfl, y3⟩ | ⟨rfl, y3⟩
            · refine ⟨nI i, fun g => by simp only [F_X6_nextChild_44, cm, if_false, F_X6_nextChild_50, y2, pz_bind, pz_10, F_X6_nextChild_62, F_X6_nextChild_66, nI_1], Or.inr ⟨i, by omega, rfl, hch, haf, fun c' hc hch' ha hne => ?_⟩⟩
              by_cases g : c' = c
              · subst g; exact y3
              · exact zAh_tr hMl hi (by omega) (by omega) y3 (h5 c' (by omega) hch' ha g)
            · refine ⟨nI c, fun g => by simp only [F_X6_nextChild_44, cm, if_false, F_X6_nextChild_50, y2, pz_bind, pz_00, if_true, F_X6_nextChild_66, nI_1], Or.inr ⟨c, by omega, rfl, h3, h4, fun c' hc hch' ha hne => ?_⟩⟩
              by_cases g : c' = i
              · subst g
                exact (zAh_tot hMl (by omega) hi (fun q => hne q.symm)).resolve_right y3
              · exact h5 c' (by omega) hch' ha hne
        cases bh with
        | none =>
          obtain ⟨b, b1, b2⟩ := cand trivial
          refine ⟨b, fun g => ?_, b2⟩
          rw [← b1 g]
          have z : (zO none = -1) = True := eq_true rfl
          simp only [F_X6_nextChild_6, hm, c, if_false, F_X6_nextChild_15, ic_1 (m := m) (v := nI p) (show i < 40 by omega) hch', pz_bind, pz_10, F_X6_nextChild_25, z, if_true]
        | some b0 =>
          have hb0 := hb b0 rfl
          have z : (zO (some b0) = -1) = False := pz_m1' (by omega)
          obtain ⟨y, y1, y2, y3⟩ := ah_x (m := m) (a := b0) (b := i) hn hb0 hi hE hMl hw
          have y2' : F_X6_isAhead m (zO (some b0)) (nI i) (nI w) = some y := y2
          rcases y3 with ⟨rfl, y3⟩ | ⟨rfl, y3⟩
          · obtain ⟨b, b1, b2⟩ := cand y3
            refine ⟨b, fun g => ?_, b2⟩
            rw [← b1 g]
            simp only [F_X6_nextChild_6, hm, c, if_false, F_X6_nextChild_15, ic_1 (m := m) (v := nI p) (show i < 40 by omega) hch', pz_bind, pz_10, F_X6_nextChild_25, z, F_X6_nextChild_30, y2']
          · refine ⟨a, fun g => ?_, skip (fun q => y3 q.2)⟩
            simp only [F_X6_nextChild_6, hm, c, if_false, F_X6_nextChild_15, ic_1 (m := m) (v := nI p) (show i < 40 by omega) hch', pz_bind, pz_10, F_X6_nextChild_25, z, F_X6_nextChild_30, y2', pz_00, if_true, F_X6_nextChild_41, F_X6_nextChild_66, nI_1]
      · refine ⟨a, fun g => ?_, skip (fun q => hch q.1)⟩
        simp only [F_X6_nextChild_6, hm, c, if_false, F_X6_nextChild_15, ic_0 (m := m) (v := nI p) (show i < 40 by omega) (by rw [e3, e4]; exact hch), pz_bind, pz_00, if_true, F_X6_nextChild_66, nI_1])
    (by omega) (a := (-1)) (Or.inl ⟨rfl, fun c hc => absurd hc (Nat.not_lt_zero _)⟩)
  exact ⟨r, h1, h2⟩
theorem ri_any (hp : p < 40) : F_X6_lives m (nI p) = some 1 ∨ F_X6_lives m (nI p) = some 0 := by
  simp only [F_X6_lives_15, F_X6_lives_10, F_X6_lives_14, F_X6_lives_0, F_X6_lives, pe_2 hp, pz_bind, pz_10, pz_01, pz_00, pz_11, or_true, true_or, not_true_eq_false, if_false, if_true]
  by_cases h : m 8 (9 * p + 2) = 1
  · rw [if_pos h]; exact Or.inl rfl
  · rw [if_neg h]; exact Or.inr rfl
theorem f9_m {self : Int32 → Int32 → Int32 → Option Int32} {g : Nat} {a b c : Int32} : F_X6_first_9 self m (g + 1) a b c (-1) = some (-1) := by
  simp only [F_X6_first_9, if_true, F_X6_first_65]
theorem fi_x (hK : zKin n k m) (hL : zLivX n B r k m) (hr : r < n) (hw : w ≤ 2) (hT : zTabF n k B r w f) : ∀ d p, p < n → n < d + p → F_X6_first m d (nI p) (nI w) (nI r) = some (f p)
  | 0, p, hp, hd => by omega
  | d + 1, p, hp, hd => by
    have hK' := hK
    obtain ⟨hn, hk, hm, hE, hMl, hPar, hSt⟩ := hK
    have par : ∀ c, c < n → zCh k c p → p < c := fun c hc h => by
      rcases hPar c hc with ⟨p1, p2⟩ | ⟨x, y, hx, hy, p1, p2⟩
      · rcases h with h | h
        · exact absurd (h.symm.trans p1) (pz_m1 (by omega))
        · exact absurd (h.symm.trans p2) (pz_m1 (by omega))
      · rcases h with h | h
        · have := (nI_eq (by omega) (by omega)).mp (h.symm.trans p1); omega
        · have := (nI_eq (by omega) (by omega)).mp (h.symm.trans p2); omega
    -- the walk over the children, one after the other
    have walk : ∀ (g c : Nat), c < n → zCh k c p → (∀ c', c' < n → zCh k c' p → zAh k w c' c → zTold k B r f c' = -1) → zcnt (fun c' => zCh k c' p ∧ zAh k w c c') n + 1 < g → F_X6_first_9 (F_X6_first m d) m g (nI p) (nI w) (nI r) (nI c) = some (f p) := by
      intro g
      induction g with
      | zero => intro c _ _ _ h; omega
      | succ g ih =>
        intro c hc hch hpre hg
        have cm : (nI c = -1) = False := pz_m1' (by omega)
        have hrec := fi_x hK' hL hr hw hT d c hc (by have := par c hc hch; omega)
        -- c tells
        have tells : zTold k B r f c ≠ -1 → f p = zTold k B r f c := by
          intro h
          rcases hT p hp with ⟨g1, g2⟩ | ⟨c0, g1, g2, g3, g4, g5⟩
          · exact absurd (g2 c hc hch) h
          · by_cases q : c0 = c
            · subst q; exact g4
            · exact absurd (hpre c0 g1 g2 (g5 c hc hch h (fun e => q e.symm))) g3
        by_cases al : k (B + 14) c = -1 ∧ c ≠ r
        · have et : zTold k B r f c = nI c := if_pos al
          have e := tells (by rw [et]; exact pz_m1 (by omega))
          have cr : (nI c = nI r) = False := by rw [pz_eq (by omega) (by omega)]; exact eq_false al.2
          have l1 : m 8 (9 * c + 2) = 1 := by
            rcases hL c hc al.2 with ⟨_, h⟩ | ⟨h, _⟩
            · exact h
            · exact absurd al.1 h
          simp only [F_X6_first_9, cm, if_false, F_X6_first_15, ri_1 (show c < 40 by omega) l1, pz_bind, pz_10, F_X6_first_24, cr, F_X6_first_30]
          rw [e, et]
        · have et : zTold k B r f c = f c := if_neg al
          have e33 : F_X6_first_9 (F_X6_first m d) m (g + 1) (nI p) (nI w) (nI r) (nI c) = F_X6_first_33 (F_X6_first m d) m (F_X6_first_9 (F_X6_first m d) m g) (nI p) (nI w) (nI r) (nI c) := by
            by_cases cr : c = r
            · subst cr
              rcases ri_any (m := m) (p := c) (by omega) with h | h
              · simp only [F_X6_first_9, cm, if_false, F_X6_first_15, h, pz_bind, pz_10, F_X6_first_24, if_true]
              · simp only [F_X6_first_9, cm, if_false, F_X6_first_15, h, pz_bind, pz_00, if_true]
            · have l0 : m 8 (9 * c + 2) = 0 := by
                rcases hL c hc cr with ⟨h, _⟩ | ⟨_, h⟩
                · exact absurd ⟨h, cr⟩ al
                · exact h
              simp only [F_X6_first_9, cm, if_false, F_X6_first_15, ri_0 (show c < 40 by omega) l0, pz_bind, pz_00, if_true]
          rw [e33]
          simp only [F_X6_first_33, hrec, pz_bind]
          by_cases hf : f c = -1
          · rw [if_pos hf]
            obtain ⟨nx, n1, n2⟩ := nc_x hK' hw hp (some c) (fun b hb => by cases hb; exact hc)
            have n1' : F_X6_nextChild m (nI p) (nI c) (nI w) = some nx := n1
            simp only [F_X6_first_52, n1', pz_bind]
            obtain ⟨y, rfl⟩ : ∃ y, g = y + 1 := ⟨g - 1, by omega⟩
            rcases n2 with ⟨rfl, n3⟩ | ⟨c1, c11, rfl, c12, c13, c14⟩
            · simp only [F_X6_first_9, if_true, F_X6_first_65]
              congr 1
              rcases hT p hp with ⟨g1, g2⟩ | ⟨c0, g1, g2, g3, g4, g5⟩
              · exact g1.symm
              · exfalso
                by_cases q : c0 = c
                · subst q; exact g3 (et.trans hf)
                · rcases zAh_tot (w := w) hMl g1 hc q with h | h
                  · exact g3 (hpre c0 g1 g2 h)
                  · exact n3 c0 g1 g2 h
            · have c13 : zAh k w c c1 := c13
              refine ih c1 c11 c12 (fun c' d1 d2 d3 => ?_) ?_
              · by_cases q : c' = c
                · subst q; exact et.trans hf
                · rcases zAh_tot (w := w) hMl d1 hc q with h | h
                  · exact hpre c' d1 d2 h
                  · by_cases q2 : c' = c1
                    · subst q2; exact absurd d3 (zAh_ir hMl d1)
                    · exact absurd d3 (zAh_as hMl c11 d1 (c14 c' d1 d2 h q2))
              · have := zcnt_lt (A := fun c' => zCh k c' p ∧ zAh k w c c') (A' := fun c' => zCh k c' p ∧ zAh k w c1 c') (n := n) (x := c1) (fun c' d1 d2 => ⟨d2.1, zAh_tr hMl hc c11 d1 c13 d2.2⟩) c11 ⟨c12, c13⟩ (fun q => zAh_ir hMl c11 q.2)
                omega
          · rw [if_neg hf]
            simp only [F_X6_first_49]
            rw [tells (by rw [et]; exact hf), et]
    show F_X6_first_0 (F_X6_first m d) m (nI p) (nI w) (nI r) = some (f p)
    obtain ⟨nx, n1, n2⟩ := nc_x hK' hw hp none (fun b hb => by cases hb)
    have n1' : F_X6_nextChild m (nI p) (-1) (nI w) = some nx := n1
    simp only [F_X6_first_0, n1', pz_bind]
    rcases n2 with ⟨rfl, n3⟩ | ⟨c1, c11, rfl, c12, c13, c14⟩
    · have : F_X6_first_9 (F_X6_first m d) m kN (nI p) (nI w) (nI r) (-1) = some (-1) := f9_m (g := 4095)
      rw [this]
      congr 1
      rcases hT p hp with ⟨g1, g2⟩ | ⟨c0, g1, g2, g3, g4, g5⟩
      · exact g1.symm
      · exact absurd trivial (n3 c0 g1 g2)
    · refine walk kN c1 c11 c12 (fun c' d1 d2 d3 => ?_) ?_
      · by_cases q2 : c' = c1
        · subst q2; exact absurd d3 (zAh_ir hMl d1)
        · exact absurd d3 (zAh_as hMl c11 d1 (c14 c' d1 d2 trivial q2))
      · have := zcnt_le (fun c' => zCh k c' p ∧ zAh k w c1 c') n
        show _ < 4096
        omega
theorem hr_x (hK : zKin n k m) (hL : zLivX n B r k m) (hr : r < n) (hw : w ≤ 2) (hT : zTabF n k B r w f) : F_X6_heir (nI r) (nI w) m = some (zComb k f r, m) := by
  have fi := fi_x hK hL hr hw hT
  obtain ⟨hn, hk, hm, hE, hMl, hPar, hSt⟩ := hK
  obtain ⟨e1, e2, e3, e4⟩ := hE r hr
  have h40 : r < 40 := by omega
  have c3 : (nI w = 3) = False := by rw [pz_e3 (by omega)]; exact eq_false (by omega)
  have fr := fi kD r hr (by show n < 45 + r; omega)
  simp only [F_X6_heir_5, F_X6_heir_75, F_X6_heir_62, F_X6_heir_52, F_X6_heir_47, F_X6_heir_34, F_X6_heir_24, F_X6_heir_11, F_X6_heir_0, F_X6_heir, c3, if_false, fr, pz_bind, pe_3 h40, pe_4 h40, e3, e4, zComb]
  rcases hPar r hr with ⟨p1, p2⟩ | ⟨x, y, hx, hy, p1, p2⟩
  · have z : zAt f (-1) = -1 := if_pos rfl
    rw [p1, p2]
    simp only [z, if_true]
    by_cases g : f r = -1
    · simp [g]
    · simp [g]
  · have cx : (nI x = -1) = False := pz_m1' (by omega)
    have cy : (nI y = -1) = False := pz_m1' (by omega)
    have zx : zAt f (nI x) = f x := by rw [zAt, if_neg (pz_m1 (by omega)), nI_clamp (by omega)]
    have zy : zAt f (nI y) = f y := by rw [zAt, if_neg (pz_m1 (by omega)), nI_clamp (by omega)]
    rw [p1, p2]
    simp only [cx, cy, if_false, zx, zy, fi kD x (by omega) (by show n < 45 + x; omega), fi kD y (by omega) (by show n < 45 + y; omega), pz_bind]
    by_cases g : f r = -1
    · by_cases g2 : f y = -1
      · simp [g, g2]
      · simp [g, g2]
    · simp [g]
/-- an heir, by any law, on both sides -/
theorem he_x (hB : kB B) (hK : zKin n k m) (hL : zLivX n B r k m) (hr : r < n) (hw : w ≤ 3) : ∃ h k' m', F_X4_heirOf B (nI r) (nI w) k = some (h, k') ∧ F_X6_heir (nI r) (nI w) m = some (h, m') ∧ zOffB B k k' ∧ zOff m m' ∧ zHeirOk n B r k h := by
  by_cases h3 : w = 3
  · subst h3
    obtain ⟨h, m', g1, g2, g3, g4⟩ := el_x hK hL hr
    have c3 : (nI 3 = 3) = True := eq_true rfl
    refine ⟨h, k, m', ?_, ?_, zOffB.rf B k, g3, g4⟩
    · simp only [F_X4_heirOf, F_X4_heirOf_0, F_X4_heirOf_13, F_X4_heirOf_18, kn_1 hK.1 hK.2.1 hr, pz_bind, pz_10, if_false, c3, if_true, g1]
    · simp only [F_X6_heir, F_X6_heir_0, F_X6_heir_5, c3, if_true, g2, pz_bind]
  · obtain ⟨k', g1, g2, g3, g4⟩ := hc_x hB hK hr (show w ≤ 2 by omega)
    refine ⟨_, k', m, g1, hr_x hK hL hr (by omega) g3, g2, zOff.rf m, ?_⟩
    have at_ok : ∀ v, (v = k 4 r ∨ v = k 5 r) → zHeirOk n B r k (zAt (k' (B + 12)) v) := by
      rintro v hv
      have : v = -1 ∨ ∃ x, x < n ∧ v = nI x := by
        rcases hK.2.2.2.2.2.1 r hr with ⟨p1, p2⟩ | ⟨x, y, hx, hy, p1, p2⟩
        · rcases hv with rfl | rfl
          · exact Or.inl p1
          · exact Or.inl p2
        · rcases hv with rfl | rfl
          · exact Or.inr ⟨x, by omega, p1⟩
          · exact Or.inr ⟨y, by omega, p2⟩
      rcases this with rfl | ⟨x, hx, rfl⟩
      · exact Or.inl rfl
      · have hn := hK.1
        rw [zAt, if_neg (pz_m1 (by omega)), nI_clamp (by omega)]
        exact g4 x hx
    unfold zComb
    split
    · split
      · exact at_ok _ (Or.inl rfl)
      · exact at_ok _ (Or.inr rfl)
    · exact g4 r hr
end ZI
