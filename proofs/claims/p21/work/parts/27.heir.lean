/-! HEIRS: the class's rows of first ones against the reference's recursion -/
def zOffB (B : Nat) (k k' : kS) : Prop := ∀ q, q ≠ B + 12 → q ≠ B + 13 → k' q = k q
theorem zOffB.rf (B : Nat) (k : kS) : zOffB B k k := fun _ _ _ => rfl
theorem zOffB.tr {B : Nat} {a b c : kS} (h : zOffB B a b) (g : zOffB B b c) : zOffB B a c := fun q h1 h2 => (g q h1 h2).trans (h q h1 h2)
def zCh (k : kS) (c p : Nat) : Prop := k 4 c = nI p ∨ k 5 c = nI p
def zTold (k : kS) (B r : Nat) (f : Nat → Int32) (c : Nat) : Int32 := if k (B + 14) c = -1 ∧ c ≠ r then nI c else f c
def zTab (Pr : Nat → Nat → Prop) (n : Nat) (k : kS) (B r w : Nat) (f th : Nat → Int32) : Prop := ∀ p, p < n → (f p = -1 ∧ th p = -1 ∧ ∀ c, c < n → Pr c p → zTold k B r f c = -1) ∨ (∃ c, c < n ∧ Pr c p ∧ th p = nI c ∧ zTold k B r f c ≠ -1 ∧ f p = zTold k B r f c ∧ ∀ c', c' < n → Pr c' p → zTold k B r f c' ≠ -1 → c' ≠ c → zAh k w c c')
def zVal (n : Nat) (k : kS) (B r : Nat) (f : Nat → Int32) : Prop := ∀ p, p < n → zHeirOk n B r k (f p)
theorem zTold_eq {k : kS} {B r : Nat} {f f' : Nat → Int32} {c : Nat} (h : f' c = f c) : zTold k B r f' c = zTold k B r f c := by unfold zTold; rw [h]
theorem zTab_congr {Pr Pr' : Nat → Nat → Prop} {n : Nat} {k : kS} {B r w : Nat} {f th : Nat → Int32} (h : zTab Pr n k B r w f th) (hc : ∀ c p, c < n → p < n → (Pr' c p ↔ Pr c p)) : zTab Pr' n k B r w f th := fun p hp => by
  rcases h p hp with ⟨h1, h2, h3⟩ | ⟨c, h1, h2, h3, h4, h5, h6⟩
  · exact Or.inl ⟨h1, h2, fun c c1 c2 => h3 c c1 ((hc c p c1 hp).mp c2)⟩
  · exact Or.inr ⟨c, h1, (hc c p h1 hp).mpr h2, h3, h4, h5, fun c' c1 c2 => h6 c' c1 ((hc c' p c1 hp).mp c2)⟩
section ZH
variable {n p q a b c d e j x r L w : Nat} {k k1 m m' : kS} {v t : Int32} {B P : Nat} {f th : Nat → Int32} {Pr : Nat → Nat → Prop}
theorem zB_ne (hB : kB B) {q i : Nat} (h : q < 15 ∨ 45 ≤ q) (hi : i < 15) : q ≠ B + i := by rcases hB with rfl | rfl <;> omega
theorem zOffB_lo (hB : kB B) (h : zOffB B k k1) {q : Nat} (hq : q < 15 ∨ 45 ≤ q) : k1 q = k q := h q (zB_ne hB hq (by omega)) (zB_ne hB hq (by omega))
theorem zOffB_14 (h : zOffB B k k1) : k1 (B + 14) = k (B + 14) := h _ (by omega) (by omega)
theorem zEq_off (hB : kB B) (h : zOffB B k k1) (hE : zEq n k m) : zEq n k1 m := fun p hp => by
  rw [zOffB_lo hB h (q := 2) (by omega), zOffB_lo hB h (q := 3) (by omega), zOffB_lo hB h (q := 4) (by omega), zOffB_lo hB h (q := 5) (by omega)]
  exact hE p hp
theorem zMl_off (hB : kB B) (h : zOffB B k k1) (hE : zMl n k) : zMl n k1 := fun p hp => by
  rw [zOffB_lo hB h (q := 2) (by omega)]
  exact hE p hp
theorem zAh_off (hB : kB B) (h : zOffB B k k1) : zAh k1 w a b ↔ zAh k w a b := by
  unfold zAh zBef
  rw [zOffB_lo hB h (q := 2) (by omega), zOffB_lo hB h (q := 3) (by omega)]
theorem tl_m (hk : k 1 0 = nI n) {a b c : Int32} : F_X2_tell B a (-1) b c k = some k := by
  simp only [F_X2_tell, F_X2_tell_0, kn_m hk, pz_bind, pz_00, if_true, F_X2_tell_8]
theorem tl_x (hB : kB B) (hn : n ≤ 40) (hk : k 1 0 = nI n) (hE : zEq n k m) (hMl : zMl n k) (hw : w ≤ 2) (ho : zOffB B k k1) (hj : j < n) (hx : x < j) (ht : t = zTold k B r (k1 (B + 12)) j) (ht1 : t ≠ -1)
    (hT : zTab Pr n k B r w (k1 (B + 12)) (k1 (B + 13))) (hPr : ∀ c p, Pr c p → j ≤ c) (hV : zVal n k B r (k1 (B + 12))) (hVt : zHeirOk n B r k t) :
    ∃ k2, F_X2_tell B (nI w) (nI x) (nI j) t k1 = some k2 ∧ zOffB B k k2 ∧ zTab (fun c p => Pr c p ∨ (c = j ∧ p = x)) n k B r w (k2 (B + 12)) (k2 (B + 13)) ∧ zVal n k B r (k2 (B + 12)) ∧ ∀ q, q ≠ x → k2 (B + 12) q = k1 (B + 12) q := by
  have hk1 : k1 1 0 = nI n := by rw [zOffB_lo hB ho (q := 1) (by omega)]; exact hk
  have set : ∀ (hmin : ∀ c', c' < n → Pr c' x → zTold k B r (k1 (B + 12)) c' ≠ -1 → c' ≠ j → zAh k w j c'), ∃ k2, F_X2_tell_38 B (nI x) (nI j) t k1 = some k2 ∧ zOffB B k k2 ∧ zTab (fun c p => Pr c p ∨ (c = j ∧ p = x)) n k B r w (k2 (B + 12)) (k2 (B + 13)) ∧ zVal n k B r (k2 (B + 12)) ∧ ∀ q, q ≠ x → k2 (B + 12) q = k1 (B + 12) q := by
    intro hmin
    refine ⟨kst (kst k1 (B + 13) (upd (k1 (B + 13)) x (nI j))) (B + 12) (upd (k1 (B + 12)) x t), ?_, ?_, ?_, ?_, ?_⟩
    · simp only [F_X2_tell_38, F_X2_tell_54, pz_n0 (show x < 2 ^ 31 by omega), nI_clamp (show x < 2 ^ 31 by omega), pz_ge (show x < 40 by omega), or_self, false_or, if_false, kst_ne k1 (upd (k1 (B + 13)) x (nI j)) (show B + 12 ≠ B + 13 by omega)]
    · intro q q1 q2
      rw [kst_ne _ _ q1, kst_ne _ _ q2]
      exact ho q q1 q2
    · rw [kst_eq, kst_ne _ _ (show B + 13 ≠ B + 12 by omega), kst_eq]
      have e : ∀ c, j ≤ c → zTold k B r (upd (k1 (B + 12)) x t) c = zTold k B r (k1 (B + 12)) c := fun c hc => zTold_eq (pz_un (by omega))
      intro p hp
      by_cases hpx : p = x
      · subst hpx
        refine Or.inr ⟨j, hj, Or.inr ⟨rfl, rfl⟩, pz_us, ?_, ?_, fun c' c1 c2 c3 c4 => ?_⟩
        · rw [e j (Nat.le_refl _), ← ht]; exact ht1
        · rw [e j (Nat.le_refl _), ← ht]; exact pz_us
        · rcases c2 with c2 | ⟨c2, _⟩
          · rw [e c' (hPr _ _ c2)] at c3
            exact hmin c' c1 c2 c3 c4
          · exact absurd c2 c4
      · rcases hT p hp with ⟨h1, h2, h3⟩ | ⟨c, h1, h2, h3, h4, h5, h6⟩
        · refine Or.inl ⟨by rw [pz_un hpx]; exact h1, by rw [pz_un hpx]; exact h2, fun c c1 c2 => ?_⟩
          rcases c2 with c2 | ⟨_, c2⟩
          · rw [e c (hPr _ _ c2)]; exact h3 c c1 c2
          · exact absurd c2 hpx
        · refine Or.inr ⟨c, h1, Or.inl h2, by rw [pz_un hpx]; exact h3, by rw [e c (hPr _ _ h2)]; exact h4, by rw [e c (hPr _ _ h2), pz_un hpx]; exact h5, fun c' c1 c2 c3 c4 => ?_⟩
          rcases c2 with c2 | ⟨_, c2⟩
          · rw [e c' (hPr _ _ c2)] at c3
            exact h6 c' c1 c2 c3 c4
          · exact absurd c2 hpx
    · rw [kst_eq]
      intro p hp
      by_cases hpx : p = x
      · subst hpx; rw [pz_us]; exact hVt
      · rw [pz_un hpx]; exact hV p hp
    · intro q hq
      rw [kst_eq, pz_un hq]
  rcases hT x (by omega) with ⟨h1, h2, h3⟩ | ⟨c, h1, h2, h3, h4, h5, h6⟩
  · obtain ⟨k2, g1, g2⟩ := set (fun c' c1 c2 c3 _ => absurd (h3 c' c1 c2) c3)
    exact ⟨k2, by simp only [F_X2_tell, F_X2_tell_0, F_X2_tell_9, kn_1 hn hk1 (show x < n by omega), pz_bind, pz_10, if_false, pz_n0 (show x < 2 ^ 31 by omega), nI_clamp (show x < 2 ^ 31 by omega), pz_ge (show x < 40 by omega), or_self, false_or, if_false, h2, kn_m hk1, pz_00, if_true]; exact g1, g2⟩
  · have hcx : x < c := by have := hPr _ _ h2; omega
    obtain ⟨y, y1, y2, y3⟩ := ah_x (m := m) hn hj h1 (zEq_off hB ho hE) (zMl_off hB ho hMl) hw
    rw [zAh_off hB ho] at y3
    rcases y3 with ⟨rfl, y3⟩ | ⟨rfl, y3⟩
    · obtain ⟨k2, g1, g2⟩ := set (fun c' c1 c2 c3 c4 => by
        by_cases g : c' = c
        · subst g; exact y3
        · exact zAh_tr hMl hj h1 c1 y3 (h6 c' c1 c2 c3 g))
      exact ⟨k2, by simp only [F_X2_tell, F_X2_tell_0, F_X2_tell_9, F_X2_tell_26, kn_1 hn hk1 (show x < n by omega), pz_bind, pz_10, if_false, pz_n0 (show x < 2 ^ 31 by omega), nI_clamp (show x < 2 ^ 31 by omega), pz_ge (show x < 40 by omega), or_self, false_or, if_false, h3, kn_1 hn hk1 h1, y1]; exact g1, g2⟩
    · refine ⟨k1, by simp only [F_X2_tell, F_X2_tell_0, F_X2_tell_9, F_X2_tell_26, F_X2_tell_54, kn_1 hn hk1 (show x < n by omega), pz_bind, pz_10, if_false, pz_n0 (show x < 2 ^ 31 by omega), nI_clamp (show x < 2 ^ 31 by omega), pz_ge (show x < 40 by omega), or_self, false_or, if_false, h3, kn_1 hn hk1 h1, y1, pz_00, if_true], ho, fun p hp => ?_, hV, fun q _ => rfl⟩
      rcases hT p hp with ⟨g1, g2, g3⟩ | ⟨c2, g1, g2, g3, g4, g5, g6⟩
      · refine Or.inl ⟨g1, g2, fun c' c1 c3 => ?_⟩
        rcases c3 with c3 | ⟨_, c3⟩
        · exact g3 c' c1 c3
        · subst c3; exact absurd (h3.symm.trans g2) (pz_m1 (by omega))
      · refine Or.inr ⟨c2, g1, Or.inl g2, g3, g4, g5, fun c' c1 c3 c4 c5 => ?_⟩
        rcases c3 with c3 | ⟨c3, c6⟩
        · exact g6 c' c1 c3 c4 c5
        · subst c3; subst c6
          have : c = c2 := (nI_eq (by omega) (by omega)).mp (h3.symm.trans g3)
          subst this
          exact (zAh_tot hMl h1 c1 (fun q => c5 q.symm)).resolve_right y3
def zTabF (n : Nat) (k : kS) (B r w : Nat) (f : Nat → Int32) : Prop := ∀ p, p < n → (f p = -1 ∧ ∀ c, c < n → zCh k c p → zTold k B r f c = -1) ∨ (∃ c, c < n ∧ zCh k c p ∧ zTold k B r f c ≠ -1 ∧ f p = zTold k B r f c ∧ ∀ c', c' < n → zCh k c' p → zTold k B r f c' ≠ -1 → c' ≠ c → zAh k w c c')
def zAt (f : Nat → Int32) (v : Int32) : Int32 := if v = -1 then -1 else f v.toNatClampNeg
def zComb (k : kS) (f : Nat → Int32) (r : Nat) : Int32 := if f r = -1 then (if zAt f (k 5 r) = -1 then zAt f (k 4 r) else zAt f (k 5 r)) else f r
theorem fo_at (h : v = -1 ∨ ∃ x, x < 40 ∧ v = nI x) : F_X2_firstOf B k v = some (zAt (k (B + 12)) v) := by
  rcases h with rfl | ⟨x, hx, rfl⟩
  · rw [fo_m]; rfl
  · rw [fo_1 hx, zAt, if_neg (pz_m1 (by omega)), nI_clamp (by omega)]
theorem hc_x (hB : kB B) (hK : zKin n k m) (hr : r < n) (hw : w ≤ 2) : ∃ k', F_X4_heirOf B (nI r) (nI w) k = some (zComb k (k' (B + 12)) r, k') ∧ zOffB B k k' ∧ zTabF n k B r w (k' (B + 12)) ∧ zVal n k B r (k' (B + 12)) := by
  obtain ⟨hn, hk, hm, hE, hMl, hPar, hSt⟩ := hK
  have I0 : ∃ k0, F_X2_clear B k = some k0 ∧ zOffB B k k0 ∧ (∀ p, p < n → k0 (B + 12) p = -1) ∧ (∀ p, p < n → k0 (B + 13) p = -1) := by
    refine ⟨_, rfl, fun q q1 q2 => ?_, fun p hp => ?_, fun p hp => ?_⟩
    · rw [kst_ne _ _ q2, kst_ne _ _ q1]
    · rw [kst_ne _ _ (show B + 12 ≠ B + 13 by omega), kst_eq]
      exact if_pos (show p < 40 by omega)
    · rw [kst_eq]
      exact if_pos (show p < 40 by omega)
  obtain ⟨k0, c1, c2, c3, c4⟩ := I0
  obtain ⟨k', h1, -, h2, h3, h4⟩ := pz_down (α := kS) (fun g j k1 => F_X4_heirOf_41 B g (nI r) (nI w) (nI j - 1) k1) (fun k1 => F_X4_heirOf_132 B (nI r) k1) (fun j k1 => j ≤ n ∧ zOffB B k k1 ∧ zTab (fun c p => j ≤ c ∧ zCh k c p) n k B r w (k1 (B + 12)) (k1 (B + 13)) ∧ zVal n k B r (k1 (B + 12)))
    (fun k1 hI g => by
      have c : ((nI 0 - 1) < 0) = True := eq_true (by decide)
      simp only [F_X4_heirOf_41, c, if_true])
    (fun j k1 hI => by
      obtain ⟨i0, i1, i2, i3⟩ := hI
      have hj : j < n := by omega
      have c0 : (nI j < 0) = False := pz_n0 (by omega)
      have hk1 : k1 1 0 = nI n := by rw [zOffB_lo hB i1 (q := 1) (by omega)]; exact hk
      have e4 : k1 4 = k 4 := zOffB_lo hB i1 (by omega)
      have e14 : k1 (B + 14) = k (B + 14) := zOffB_14 i1
      obtain ⟨t, ht⟩ : ∃ t, t = zTold k B r (k1 (B + 12)) j := ⟨_, rfl⟩
      have hVt : zHeirOk n B r k t := by
        rw [ht]
        unfold zTold
        by_cases g : k (B + 14) j = -1 ∧ j ≠ r
        · rw [if_pos g]; exact Or.inr ⟨j, hj, g.2, rfl, g.1⟩
        · rw [if_neg g]; exact i3 j hj
      have go : ∀ g, F_X4_heirOf_41 B (g + 1) (nI r) (nI w) (nI (j + 1) - 1) k1 = F_X4_heirOf_70 B (F_X4_heirOf_41 B g) t (nI r) (nI w) (nI j) k1 := by
        intro g
        by_cases l : k (B + 14) j = -1
        · by_cases jr : j = r
          · have : t = k1 (B + 12) j := by rw [ht, zTold, if_neg (fun q => q.2 jr)]
            subst jr
            simp only [F_X4_heirOf_41, nI_pred, c0, if_false, F_X4_heirOf_45, li_1 (B := B) hn hk1 hj (by rw [e14]; exact l), pz_bind, pz_10, F_X4_heirOf_53, if_true, F_X4_heirOf_62, fo_1 (show j < 40 by omega), this]
          · have : t = nI j := by rw [ht, zTold, if_pos ⟨l, jr⟩]
            have cr : (nI j = nI r) = False := by rw [pz_eq (by omega) (by omega)]; exact eq_false jr
            simp only [F_X4_heirOf_41, nI_pred, c0, if_false, F_X4_heirOf_45, li_1 (B := B) hn hk1 hj (by rw [e14]; exact l), pz_bind, pz_10, F_X4_heirOf_53, cr, F_X4_heirOf_58, this]
        · have : t = k1 (B + 12) j := by rw [ht, zTold, if_neg (fun q => l q.1)]
          simp only [F_X4_heirOf_41, nI_pred, c0, if_false, F_X4_heirOf_45, li_0 (B := B) hn hk1 hj (by rw [e14]; exact l), pz_bind, pz_00, if_true, F_X4_heirOf_62, fo_1 (show j < 40 by omega), this]
      by_cases t1 : t = -1
      · refine ⟨k1, fun g => ?_, by omega, i1, ?_, i3⟩
        · rw [go, t1]
          simp only [F_X4_heirOf_70, if_true, F_X4_heirOf_126, pz_mP]
        · intro p hp
          rcases i2 p hp with ⟨g1, g2, g3⟩ | ⟨c, g1, g2, g3, g4, g5, g6⟩
          · refine Or.inl ⟨g1, g2, fun c d1 d2 => ?_⟩
            by_cases g : c = j
            · subst g; exact ht.symm.trans t1
            · exact g3 c d1 ⟨by omega, d2.2⟩
          · refine Or.inr ⟨c, g1, ⟨by omega, g2.2⟩, g3, g4, g5, fun c' d1 d2 d3 d4 => ?_⟩
            by_cases g : c' = j
            · subst g; exact absurd (ht.symm.trans t1) d3
            · exact g6 c' d1 ⟨by omega, d2.2⟩ d3 d4
      · have e5 : k1 5 = k 5 := zOffB_lo hB i1 (by omega)
        rcases hPar j hj with ⟨p1, p2⟩ | ⟨x, y, hx, hy, p1, p2⟩
        · refine ⟨k1, fun g => ?_, by omega, i1, ?_, i3⟩
          · rw [go]
            simp only [F_X4_heirOf_70, t1, if_false, F_X4_heirOf_78, pz_n0 (show j < 2 ^ 31 by omega), nI_clamp (show j < 2 ^ 31 by omega), pz_ge (show j < 40 by omega), or_self, false_or, if_false, e4, e5, p1, p2, tl_m hk1, pz_bind, F_X4_heirOf_126, pz_mP]
          · refine zTab_congr i2 (fun c p hc hp => ⟨fun h => ⟨?_, h.2⟩, fun h => ⟨by omega, h.2⟩⟩)
            by_cases g : c = j
            · subst g
              rcases h.2 with h2 | h2
              · exact absurd (h2.symm.trans p1) (pz_m1 (by omega))
              · exact absurd (h2.symm.trans p2) (pz_m1 (by omega))
            · have := h.1; omega
        · obtain ⟨k2, a1, a2, a3, a4, a5⟩ := tl_x hB hn hk hE hMl hw i1 hj hx ht t1 i2 (fun c p h => by have := h.1; omega) i3 hVt
          have ht2 : t = zTold k B r (k2 (B + 12)) j := by rw [ht]; exact (zTold_eq (a5 j (by omega))).symm
          obtain ⟨k3, b1, b2, b3, b4, b5⟩ := tl_x hB hn hk hE hMl hw a2 hj hy ht2 t1 a3 (fun c p h => by rcases h with h | h <;> have := h.1 <;> omega) a4 hVt
          have e52 : k2 5 = k 5 := zOffB_lo hB a2 (by omega)
          refine ⟨k3, fun g => ?_, by omega, b2, ?_, b4⟩
          · rw [go]
            simp only [F_X4_heirOf_70, t1, if_false, F_X4_heirOf_78, pz_n0 (show j < 2 ^ 31 by omega), nI_clamp (show j < 2 ^ 31 by omega), pz_ge (show j < 40 by omega), or_self, false_or, if_false, e4, p1, a1, pz_bind, e52, p2, b1, F_X4_heirOf_126, pz_mP]
          · refine zTab_congr b3 (fun c p hc hp => ⟨fun h => ?_, fun h => ?_⟩)
            · by_cases g : c = j
              · subst g
                rcases h.2 with h2 | h2
                · exact Or.inl (Or.inr ⟨rfl, (nI_eq (by omega) (by omega)).mp (h2.symm.trans p1)⟩)
                · exact Or.inr ⟨rfl, (nI_eq (by omega) (by omega)).mp (h2.symm.trans p2)⟩
              · exact Or.inl (Or.inl ⟨by have := h.1; omega, h.2⟩)
            · rcases h with (h | ⟨rfl, rfl⟩) | ⟨rfl, rfl⟩
              · exact ⟨by have := h.1; omega, h.2⟩
              · exact ⟨Nat.le_refl _, Or.inl p1⟩
              · exact ⟨Nat.le_refl _, Or.inr p2⟩)
    n k0 kN ⟨Nat.le_refl _, c2, fun p hp => Or.inl ⟨c3 p hp, c4 p hp, fun c d1 d2 => absurd d2.1 (by omega)⟩, fun p hp => Or.inl (c3 p hp)⟩ (by show n < 4096; omega)
  have e3 : (nI w = 3) = False := by rw [pz_e3 (by omega)]; exact eq_false (by omega)
  have e1k : k0 1 0 = nI n := by rw [zOffB_lo hB c2 (q := 1) (by omega)]; exact hk
  have e4 : k' 4 = k 4 := zOffB_lo hB h2 (by omega)
  have e5 : k' 5 = k 5 := zOffB_lo hB h2 (by omega)
  have ok : ∀ v, (v = k 4 r ∨ v = k 5 r) → v = -1 ∨ ∃ x, x < 40 ∧ v = nI x := by
    rintro v hv
    rcases hPar r hr with ⟨p1, p2⟩ | ⟨x, y, hx, hy, p1, p2⟩
    · rcases hv with rfl | rfl
      · exact Or.inl p1
      · exact Or.inl p2
    · rcases hv with rfl | rfl
      · exact Or.inr ⟨x, by omega, p1⟩
      · exact Or.inr ⟨y, by omega, p2⟩
  refine ⟨k', ?_, h2, fun p hp => ?_, h4⟩
  · simp only [F_X4_heirOf, F_X4_heirOf_0, F_X4_heirOf_13, F_X4_heirOf_24, kn_1 hn hk hr, pz_bind, pz_10, if_false, e3, c1, e1k]
    refine h1.trans ?_
    simp only [F_X4_heirOf_132, F_X4_heirOf_146, F_X4_heirOf_163, F_X4_heirOf_168, F_X4_heirOf_187, F_X4_heirOf_188, fo_1 (show r < 40 by omega), pz_bind, pz_n0 (show r < 2 ^ 31 by omega), nI_clamp (show r < 2 ^ 31 by omega), pz_ge (show r < 40 by omega), or_self, false_or, if_false, e4, e5, fo_at (ok _ (Or.inl rfl)), fo_at (ok _ (Or.inr rfl)), zComb]
    by_cases g : k' (B + 12) r = -1
    · rw [if_pos g, if_pos g]
      by_cases g2 : zAt (k' (B + 12)) (k 5 r) = -1
      · rw [if_pos g2, if_pos g2]
      · rw [if_neg g2, if_neg g2]
    · rw [if_neg g, if_neg g, if_neg g]
  · rcases h3 p hp with ⟨g1, g2, g3⟩ | ⟨c, g1, g2, g3, g4, g5, g6⟩
    · exact Or.inl ⟨g1, fun c d1 d2 => g3 c d1 ⟨Nat.zero_le _, d2⟩⟩
    · exact Or.inr ⟨c, g1, g2.2, g4, g5, fun c' d1 d2 d3 d4 => g6 c' d1 ⟨Nat.zero_le _, d2⟩ d3 d4⟩
end ZH
