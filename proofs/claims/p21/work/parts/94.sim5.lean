/-! SIM'S REGENT, AND WHO CAN MARRY, beside the class's -/
def jCa (k : kS) (r p : Nat) : Prop := k 29 p = -1 ∧ ¬ (k 15 0 - k 3 p < 16) ∧ k (69 + p) r ≠ -1
def jBt (k : kS) (r q t p : Nat) : Prop := jCa k r p → p ≠ q → ∀ s, s ≤ 80 → k (69 + p) r = nI s → t < s ∨ (t = s ∧ zBef k q p)
def jNg (n : Nat) (k : kS) (r : Nat) (h : Int32) : Prop := (h = -1 ∧ ∀ p, p < n → ¬ jCa k r p) ∨ ∃ q t, q < n ∧ jCa k r q ∧ h = nI q ∧ t ≤ 80 ∧ k (69 + q) r = nI t ∧ ∀ p, p < n → jBt k r q t p
def jFr (k : kS) (p : Nat) : Prop := k 29 p = -1 ∧ k 24 p = -1 ∧ ¬ (k 15 0 - k 3 p < 16)
def jCan (k : kS) (a b : Nat) : Prop := jFr k a ∧ jFr k b ∧ k 2 a ≠ k 2 b ∧ (k (69 + a) b = -1 ∨ ∃ t, 3 ≤ t ∧ t ≤ 80 ∧ k (69 + a) b = nI t)
theorem jle15 (x : Int32) : (x ≤ 15) = (x < 16) := by
  rw [Int32.le_iff_toInt_le, Int32.lt_iff_toInt_lt, show (15 : Int32).toInt = 15 from rfl, show (16 : Int32).toInt = 16 from rfl]
  exact propext ⟨fun h => by omega, fun h => by omega⟩
section ZS
variable {n L h0 a b p q w r B y : Nat} {k m z : kS} {v h : Int32} {f : Nat → Int32}
theorem jNg_un (hn : n ≤ 40) {h2 : Int32} (h1 : jNg n k r h) (g1 : jNg n k r h2) : h = h2 := by
  rcases h1 with ⟨rfl, x⟩ | ⟨q, t, q1, q2, rfl, q3, q4, q5⟩
  · rcases g1 with ⟨rfl, -⟩ | ⟨q, t, q1, q2, -⟩
    · rfl
    · exact absurd q2 (x q q1)
  · rcases g1 with ⟨rfl, x⟩ | ⟨p, s, p1, p2, rfl, p3, p4, p5⟩
    · exact absurd q2 (x q q1)
    · by_cases e : p = q
      · rw [e]
      · exfalso
        rcases q5 p p1 p2 e s p3 p4 with h | ⟨h, h9⟩
        · rcases p5 q q1 q2 (fun h => e h.symm) t q3 q4 with g | ⟨g, -⟩ <;> omega
        · rcases p5 q q1 q2 (fun h => e h.symm) t q3 q4 with g | ⟨-, g9⟩
          · omega
          · exact zBef_as h9 g9
theorem jBt_self (k : kS) (r q t : Nat) : jBt k r q t q := fun _ h => absurd rfl h
/-- the class's nearest one -/
theorem jne_x (hK : zKin n k m) (hLi : ∀ c, c < n → k 29 c = -1 ∨ k 29 c ≠ -1) (hr : r < n) : ∃ h, F_X4_nearestGrown 15 k (nI r) = some h ∧ jNg n k r h := by
  have hK' := hK
  obtain ⟨hn, hk, hm, hE, hMl, hPar, hSt⟩ := hK
  obtain ⟨⟨b, b2⟩, h1, h3⟩ := pz_loop10 (α := Int32 × Int32) (fun g i a => F_X4_nearestGrown_7 15 k g (nI r) a.1 a.2 (nI i)) (fun a => some a.1) n (fun i a => (a.1 = -1 ∧ ∀ p, p < i → ¬ jCa k r p) ∨ ∃ q t, q < n ∧ jCa k r q ∧ a.1 = nI q ∧ a.2 = nI t ∧ t ≤ 80 ∧ k (69 + q) r = nI t ∧ ∀ p, p < i → jBt k r q t p)
    (fun a hI g => by
      simp only [F_X4_nearestGrown_93, F_X4_nearestGrown_87, F_X4_nearestGrown_74, F_X4_nearestGrown_68, F_X4_nearestGrown_62, F_X4_nearestGrown_57, F_X4_nearestGrown_46, F_X4_nearestGrown_37, F_X4_nearestGrown_19, F_X4_nearestGrown_99, F_X4_nearestGrown_7, F_X4_nearestGrown_0, F_X4_nearestGrown, hk, pz_cT (show n < 2 ^ 31 by omega), if_true])
    (fun i a hi hI => by
      obtain ⟨a, al⟩ := a
      have i3 : (a = -1 ∧ ∀ p, p < i → ¬ jCa k r p) ∨ ∃ q t, q < n ∧ jCa k r q ∧ a = nI q ∧ al = nI t ∧ t ≤ 80 ∧ k (69 + q) r = nI t ∧ ∀ p, p < i → jBt k r q t p := hI
      have c := pz_cF hi (show n < 2 ^ 31 by omega)
      have skip : ¬ jCa k r i → (a = -1 ∧ ∀ p, p < i + 1 → ¬ jCa k r p) ∨ ∃ q t, q < n ∧ jCa k r q ∧ a = nI q ∧ al = nI t ∧ t ≤ 80 ∧ k (69 + q) r = nI t ∧ ∀ p, p < i + 1 → jBt k r q t p := by
        intro hno
        rcases i3 with ⟨e1, e2⟩ | ⟨q, t, q1, q2, q3, q4, q5, q6, q7⟩
        · refine Or.inl ⟨e1, fun p hp => ?_⟩
          by_cases e : p = i
          · rw [e]; exact hno
          · exact e2 p (by omega)
        · refine Or.inr ⟨q, t, q1, q2, q3, q4, q5, q6, fun p hp => ?_⟩
          by_cases e : p = i
          · rw [e]; exact fun h => absurd h hno
          · exact q7 p (by omega)
      rcases jrl_v hK' hi hr with ⟨u1, -⟩ | ⟨t, ht, u1, -⟩
      · exact ⟨(a, al), fun g => by simp only [F_X4_nearestGrown_93, F_X4_nearestGrown_87, F_X4_nearestGrown_74, F_X4_nearestGrown_68, F_X4_nearestGrown_62, F_X4_nearestGrown_57, F_X4_nearestGrown_46, F_X4_nearestGrown_37, F_X4_nearestGrown_19, F_X4_nearestGrown_99, F_X4_nearestGrown_7, F_X4_nearestGrown_0, F_X4_nearestGrown, hk, c, if_false, sb_1 hn hk hi hr, u1, pz_bind, if_true, nI_1], skip (fun h => h.2.2 u1)⟩
      · have cm : (nI t = -1) = False := pz_m1' (by omega)
        have un : k (69 + i) r ≠ -1 := by rw [u1]; exact pz_m1 (by omega)
        by_cases l1 : k 29 i = -1
        · by_cases g16 : k 15 0 - k 3 i < 16
          · exact ⟨(a, al), fun g => by simp only [F_X4_nearestGrown_93, F_X4_nearestGrown_87, F_X4_nearestGrown_74, F_X4_nearestGrown_68, F_X4_nearestGrown_62, F_X4_nearestGrown_57, F_X4_nearestGrown_46, F_X4_nearestGrown_37, F_X4_nearestGrown_19, F_X4_nearestGrown_99, F_X4_nearestGrown_7, F_X4_nearestGrown_0, F_X4_nearestGrown, hk, c, if_false, sb_1 hn hk hi hr, u1, cm, li_1 (B := 15) hn hk hi l1, ag_1 (B := 15) hn hk hi, g16, pz_bind, pz_10, if_true, nI_1], skip (fun h => h.2.1 g16)⟩
          · have ca : jCa k r i := ⟨l1, g16, un⟩
            rcases i3 with ⟨rfl, e2⟩ | ⟨q, tq, q1, q2, rfl, rfl, q5, q6, q7⟩
            · refine ⟨(nI i, nI t), fun g => by simp only [F_X4_nearestGrown_93, F_X4_nearestGrown_87, F_X4_nearestGrown_74, F_X4_nearestGrown_68, F_X4_nearestGrown_62, F_X4_nearestGrown_57, F_X4_nearestGrown_46, F_X4_nearestGrown_37, F_X4_nearestGrown_19, F_X4_nearestGrown_99, F_X4_nearestGrown_7, F_X4_nearestGrown_0, F_X4_nearestGrown, hk, c, if_false, sb_1 hn hk hi hr, u1, cm, li_1 (B := 15) hn hk hi l1, ag_1 (B := 15) hn hk hi, g16, pz_bind, pz_10, if_true, nI_1], Or.inr ⟨i, t, hi, ca, rfl, rfl, ht, u1, fun p hp => ?_⟩⟩
              by_cases e : p = i
              · rw [e]; exact jBt_self k r i t
              · exact fun h => absurd h (e2 p (by omega))
            · have cq : (nI q = -1) = False := pz_m1' (by omega)
              /- the new one is nearer -/
              have new : (t < tq ∨ (t = tq ∧ zBef k i q)) → ∀ p, p < i + 1 → jBt k r i t p := by
                intro hb p hp
                by_cases e : p = i
                · rw [e]; exact jBt_self k r i t
                · intro hca hne s hs es
                  by_cases e2 : p = q
                  · subst e2
                    have : s = tq := (nI_eq (by omega) (by omega)).mp (es.symm.trans q6)
                    subst this
                    exact hb
                  · rcases q7 p (by omega) hca e2 s hs es with h | ⟨h, h9⟩
                    · rcases hb with g | ⟨g, -⟩ <;> exact Or.inl (by omega)
                    · rcases hb with g | ⟨g, g9⟩
                      · exact Or.inl (by omega)
                      · exact Or.inr ⟨by omega, zBef_tr g9 h9⟩
              have old : (tq < t ∨ (tq = t ∧ ¬ zBef k i q)) → i ≠ q → ∀ p, p < i + 1 → jBt k r q tq p := by
                intro hb hiq p hp
                by_cases e : p = i
                · subst e
                  intro hca hne s hs es
                  have : s = t := (nI_eq (by omega) (by omega)).mp (es.symm.trans u1)
                  subst this
                  rcases hb with g | ⟨g, g9⟩
                  · exact Or.inl g
                  · exact Or.inr ⟨g, (zBef_tot hiq).resolve_left g9⟩
                · exact q7 p (by omega)
              have hiq : i ≠ q ∨ (i = q ∧ t = tq) := by
                by_cases e : i = q
                · refine Or.inr ⟨e, ?_⟩
                  subst e
                  exact (nI_eq (by omega) (by omega)).mp (u1.symm.trans q6)
                · exact Or.inl e
              by_cases lt : t < tq
              · have d1 : (nI t < nI tq) = True := eq_true ((nI_ltI (by omega) (by omega)).mpr lt)
                exact ⟨(nI i, nI t), fun g => by simp only [F_X4_nearestGrown_93, F_X4_nearestGrown_87, F_X4_nearestGrown_74, F_X4_nearestGrown_68, F_X4_nearestGrown_62, F_X4_nearestGrown_57, F_X4_nearestGrown_46, F_X4_nearestGrown_37, F_X4_nearestGrown_19, F_X4_nearestGrown_99, F_X4_nearestGrown_7, F_X4_nearestGrown_0, F_X4_nearestGrown, hk, c, if_false, sb_1 hn hk hi hr, u1, cm, cq, li_1 (B := 15) hn hk hi l1, ag_1 (B := 15) hn hk hi, g16, pz_bind, pz_10, d1, if_true, nI_1], Or.inr ⟨i, t, hi, ca, rfl, rfl, ht, u1, new (Or.inl lt)⟩⟩
              · have d1 : (nI t < nI tq) = False := eq_false (fun h => lt ((nI_ltI (by omega) (by omega)).mp h))
                by_cases eqt : t = tq
                · subst eqt
                  obtain ⟨y, y1, -, y3⟩ := be_x (m := m) hn hi q1 hE
                  rcases y3 with ⟨rfl, y4⟩ | ⟨rfl, y4⟩
                  · exact ⟨(nI i, nI t), fun g => by simp only [F_X4_nearestGrown_93, F_X4_nearestGrown_87, F_X4_nearestGrown_74, F_X4_nearestGrown_68, F_X4_nearestGrown_62, F_X4_nearestGrown_57, F_X4_nearestGrown_46, F_X4_nearestGrown_37, F_X4_nearestGrown_19, F_X4_nearestGrown_99, F_X4_nearestGrown_7, F_X4_nearestGrown_0, F_X4_nearestGrown, hk, c, if_false, sb_1 hn hk hi hr, u1, cm, cq, li_1 (B := 15) hn hk hi l1, ag_1 (B := 15) hn hk hi, g16, pz_bind, pz_10, d1, y1, if_true, nI_1], Or.inr ⟨i, t, hi, ca, rfl, rfl, ht, u1, new (Or.inr ⟨rfl, y4⟩)⟩⟩
                  · refine ⟨(nI q, nI t), fun g => by simp only [F_X4_nearestGrown_93, F_X4_nearestGrown_87, F_X4_nearestGrown_74, F_X4_nearestGrown_68, F_X4_nearestGrown_62, F_X4_nearestGrown_57, F_X4_nearestGrown_46, F_X4_nearestGrown_37, F_X4_nearestGrown_19, F_X4_nearestGrown_99, F_X4_nearestGrown_7, F_X4_nearestGrown_0, F_X4_nearestGrown, hk, c, if_false, sb_1 hn hk hi hr, u1, cm, cq, li_1 (B := 15) hn hk hi l1, ag_1 (B := 15) hn hk hi, g16, pz_bind, pz_10, d1, y1, pz_00, if_true, nI_1], Or.inr ⟨q, t, q1, q2, rfl, rfl, q5, q6, fun p hp => ?_⟩⟩
                    by_cases e : i = q
                    · subst e
                      by_cases e2 : p = i
                      · rw [e2]; exact jBt_self k r i t
                      · exact q7 p (by omega)
                    · exact old (Or.inr ⟨rfl, y4⟩) e p hp
                · have d4 : (nI t = nI tq) = False := eq_false (fun h => eqt ((nI_eq (by omega) (by omega)).mp h))
                  have e : i ≠ q := hiq.elim id (fun h => absurd h.2 eqt)
                  exact ⟨(nI q, nI tq), fun g => by simp only [F_X4_nearestGrown_93, F_X4_nearestGrown_87, F_X4_nearestGrown_74, F_X4_nearestGrown_68, F_X4_nearestGrown_62, F_X4_nearestGrown_57, F_X4_nearestGrown_46, F_X4_nearestGrown_37, F_X4_nearestGrown_19, F_X4_nearestGrown_99, F_X4_nearestGrown_7, F_X4_nearestGrown_0, F_X4_nearestGrown, hk, c, if_false, sb_1 hn hk hi hr, u1, cm, cq, li_1 (B := 15) hn hk hi l1, ag_1 (B := 15) hn hk hi, g16, pz_bind, pz_10, d1, d4, nI_1], Or.inr ⟨q, tq, q1, q2, rfl, rfl, q5, q6, old (Or.inl (by omega)) e⟩⟩
        · exact ⟨(a, al), fun g => by simp only [F_X4_nearestGrown_93, F_X4_nearestGrown_87, F_X4_nearestGrown_74, F_X4_nearestGrown_68, F_X4_nearestGrown_62, F_X4_nearestGrown_57, F_X4_nearestGrown_46, F_X4_nearestGrown_37, F_X4_nearestGrown_19, F_X4_nearestGrown_99, F_X4_nearestGrown_7, F_X4_nearestGrown_0, F_X4_nearestGrown, hk, c, if_false, sb_1 hn hk hi hr, u1, cm, li_0 (B := 15) hn hk hi l1, pz_bind, pz_00, if_true, nI_1], skip (fun h => l1 h.1)⟩)
    (by omega) (a := ((-1), (-1))) (Or.inl ⟨rfl, fun p hp => by omega⟩)
  refine ⟨b, h1, ?_⟩
  rcases h3 with h | ⟨q, t, q1, q2, q3, -, q5, q6, q7⟩
  · exact Or.inl h
  · exact Or.inr ⟨q, t, q1, q2, q3, q5, q6, q7⟩
/-- Sim's nearest one -/
theorem jng_x (R : jR n L h0 m z) (hK : zKin n k m) (hLv : jLv n k z) (hy : z 0 0 = k 15 0) (hr : r < n) : ∃ h, F_X8_regent_64 z (nI r) = some h ∧ jNg n k r h := by
  have hK' := hK
  obtain ⟨hn, hk, hm, hE, hMl, hPar, hSt⟩ := hK
  obtain ⟨⟨b, b2⟩, h1, h3⟩ := pz_down (α := Int32 × Int32) (fun g i a => F_X8_regent_79 z g (nI r) a.1 a.2 (nI i - 1)) (fun a => some a.1) (fun i a => i ≤ n ∧ ((a.1 = -1 ∧ a.2 = 1000 ∧ ∀ p, i ≤ p → p < n → ¬ jCa k r p) ∨ ∃ q t, q < n ∧ jCa k r q ∧ a.1 = nI q ∧ a.2 = nI t ∧ t ≤ 80 ∧ k (69 + q) r = nI t ∧ i ≤ q ∧ ∀ p, i ≤ p → p < n → jBt k r q t p))
    (fun a hI g => by
      simp only [F_X8_regent_79, F_X8_regent_172, show (nI 0 - 1 < 0) = True from eq_true (by decide), if_true])
    (fun i a hI => by
      obtain ⟨a, al⟩ := a
      obtain ⟨hin, i3⟩ := hI
      have i3 : (a = -1 ∧ al = 1000 ∧ ∀ p, i + 1 ≤ p → p < n → ¬ jCa k r p) ∨ ∃ q t, q < n ∧ jCa k r q ∧ a = nI q ∧ al = nI t ∧ t ≤ 80 ∧ k (69 + q) r = nI t ∧ i + 1 ≤ q ∧ ∀ p, i + 1 ≤ p → p < n → jBt k r q t p := i3
      have hi : i < n := hin
      have ng : (nI i < 0) = False := pz_n0 (by omega)
      have eb : z (4 * i + 1) 2 = k 3 i := (jR_p R hi).2.2.1.trans (hE i hi).2.1
      have al9 : (∃ t, t ≤ 1000 ∧ al = nI t) := by
        rcases i3 with ⟨-, e, -⟩ | ⟨q, t, -, -, -, e, h, -⟩
        · exact ⟨1000, by omega, e⟩
        · exact ⟨t, by omega, e⟩
      have skip : ¬ jCa k r i → i ≤ n ∧ ((a = -1 ∧ al = 1000 ∧ ∀ p, i ≤ p → p < n → ¬ jCa k r p) ∨ ∃ q t, q < n ∧ jCa k r q ∧ a = nI q ∧ al = nI t ∧ t ≤ 80 ∧ k (69 + q) r = nI t ∧ i ≤ q ∧ ∀ p, i ≤ p → p < n → jBt k r q t p) := by
        intro hno
        refine ⟨by omega, ?_⟩
        rcases i3 with ⟨e1, e0, e2⟩ | ⟨q, t, q1, q2, q3, q4, q5, q6, q8, q7⟩
        · refine Or.inl ⟨e1, e0, fun p hp hpn => ?_⟩
          by_cases e : p = i
          · rw [e]; exact hno
          · exact e2 p (by omega) hpn
        · refine Or.inr ⟨q, t, q1, q2, q3, q4, q5, q6, by omega, fun p hp hpn => ?_⟩
          by_cases e : p = i
          · rw [e]; exact fun h => absurd h hno
          · exact q7 p (by omega) hpn
      rcases hLv i hi with ⟨l2, l1⟩ | ⟨⟨t9, ht9, l2⟩, l1⟩
      · by_cases g16 : k 15 0 - k 3 i < 16
        · exact ⟨(a, al), fun g => by simp only [F_X8_regent_79, F_X8_regent_84, F_X8_regent_110, F_X8_regent_166, nI_pred, ng, pz_ge hi, or_self, jR_jN R, jR_jM R, jR_ln R, jR_lL R, if_false, jR_ng R (hi), jR_cl R (hi), pz_ge (hi), or_self, if_false, jR_z4 R hi, jrel_x R hK' hi hr, pz_bind, jLv_m l2, hy, eb, g16, if_true, pz_mP], skip (fun h => h.2.1 g16)⟩
        · rcases jrl_v hK' hi hr with ⟨u1, u2⟩ | ⟨t, ht, u1, u2⟩
          · obtain ⟨s, hs, rfl⟩ := al9
            have no : ¬ jCa k r i := fun h => h.2.2 u1
            have c1000 : (nI 1000 = 1000) = True := eq_true rfl
            by_cases lt : nI s < nI 1000
            · exact ⟨(a, nI s), fun g => by simp only [F_X8_regent_79, F_X8_regent_84, F_X8_regent_110, F_X8_regent_125, F_X8_regent_166, nI_pred, ng, pz_ge hi, or_self, jR_jN R, jR_jM R, jR_ln R, jR_lL R, if_false, jR_ng R (hi), jR_cl R (hi), pz_ge (hi), or_self, if_false, jR_z4 R hi, jrel_x R hK' hi hr, pz_bind, jLv_m l2, hy, eb, g16, u2, lt, if_true, pz_mP], skip no⟩
            · exact ⟨(a, nI s), fun g => by simp only [F_X8_regent_79, F_X8_regent_84, F_X8_regent_110, F_X8_regent_125, F_X8_regent_131, F_X8_regent_139, F_X8_regent_166, nI_pred, ng, pz_ge hi, or_self, jR_jN R, jR_jM R, jR_ln R, jR_lL R, if_false, jR_ng R (hi), jR_cl R (hi), pz_ge (hi), or_self, if_false, jR_z4 R hi, jrel_x R hK' hi hr, pz_bind, jLv_m l2, hy, eb, g16, u2, lt, c1000, if_true, pz_mP], skip no⟩
          · have un : k (69 + i) r ≠ -1 := by rw [u1]; exact pz_m1 (by omega)
            have ca : jCa k r i := ⟨l1, g16, un⟩
            have c9 : (nI t = 1000) = False := eq_false (fun e => by have := (nI_eq (show t < 2 ^ 31 by omega) (show 1000 < 2 ^ 31 by decide)).mp e; omega)
            rcases i3 with ⟨rfl, rfl, e2⟩ | ⟨q, tq, q1, q2, rfl, rfl, q5, q6, q8, q7⟩
            · have d1 : ((1000 : Int32) < nI t) = False := eq_false (nI_nlt (a := 1000) (b := t) (by omega) (by decide))
              refine ⟨(nI i, nI t), fun g => by simp only [F_X8_regent_79, F_X8_regent_84, F_X8_regent_110, F_X8_regent_125, F_X8_regent_131, F_X8_regent_142, F_X8_regent_160, F_X8_regent_166, nI_pred, ng, pz_ge hi, or_self, jR_jN R, jR_jM R, jR_ln R, jR_lL R, if_false, jR_ng R (hi), jR_cl R (hi), pz_ge (hi), or_self, if_false, jR_z4 R hi, jrel_x R hK' hi hr, pz_bind, jLv_m l2, hy, eb, g16, u2, d1, c9, pz_mP], by show i ≤ n; omega, Or.inr ⟨i, t, hi, ca, rfl, rfl, ht, u1, Nat.le_refl _, fun p hp hpn => ?_⟩⟩
              by_cases e : p = i
              · rw [e]; exact jBt_self k r i t
              · exact fun h => absurd h (e2 p (by omega) hpn)
            · have hiq : i ≠ q := by omega
              have new : (t < tq ∨ (t = tq ∧ zBef k i q)) → ∀ p, i ≤ p → p < n → jBt k r i t p := by
                intro hb p hp hpn
                by_cases e : p = i
                · rw [e]; exact jBt_self k r i t
                · intro hca hne s hs es
                  by_cases e2 : p = q
                  · subst e2
                    have : s = tq := (nI_eq (by omega) (by omega)).mp (es.symm.trans q6)
                    subst this
                    exact hb
                  · rcases q7 p (by omega) hpn hca e2 s hs es with h | ⟨h, h9⟩
                    · rcases hb with g | ⟨g, -⟩ <;> exact Or.inl (by omega)
                    · rcases hb with g | ⟨g, g9⟩
                      · exact Or.inl (by omega)
                      · exact Or.inr ⟨by omega, zBef_tr g9 h9⟩
              have old : (tq < t ∨ (tq = t ∧ ¬ zBef k i q)) → ∀ p, i ≤ p → p < n → jBt k r q tq p := by
                intro hb p hp hpn
                by_cases e : p = i
                · subst e
                  intro hca hne s hs es
                  have : s = t := (nI_eq (by omega) (by omega)).mp (es.symm.trans u1)
                  subst this
                  rcases hb with g | ⟨g, g9⟩
                  · exact Or.inl g
                  · exact Or.inr ⟨g, (zBef_tot hiq).resolve_left g9⟩
                · exact q7 p (by omega) hpn
              by_cases lt : tq < t
              · have d1 : (nI tq < nI t) = True := eq_true ((nI_ltI (by omega) (by omega)).mpr lt)
                exact ⟨(nI q, nI tq), fun g => by simp only [F_X8_regent_79, F_X8_regent_84, F_X8_regent_110, F_X8_regent_125, F_X8_regent_166, nI_pred, ng, pz_ge hi, or_self, jR_jN R, jR_jM R, jR_ln R, jR_lL R, if_false, jR_ng R (hi), jR_cl R (hi), pz_ge (hi), or_self, if_false, jR_z4 R hi, jrel_x R hK' hi hr, pz_bind, jLv_m l2, hy, eb, g16, u2, d1, if_true, pz_mP], by show i ≤ n; omega, Or.inr ⟨q, tq, q1, q2, rfl, rfl, q5, q6, by omega, old (Or.inl lt)⟩⟩
              · have d1 : (nI tq < nI t) = False := eq_false (fun h => lt ((nI_ltI (by omega) (by omega)).mp h))
                by_cases eqt : t = tq
                · subst eqt
                  obtain ⟨x, x1, x3⟩ := jbe_x R hE hi q1
                  rcases x3 with ⟨rfl, y4⟩ | ⟨rfl, y4⟩
                  · exact ⟨(nI i, nI t), fun g => by simp only [F_X8_regent_79, F_X8_regent_84, F_X8_regent_110, F_X8_regent_125, F_X8_regent_131, F_X8_regent_142, F_X8_regent_148, F_X8_regent_160, F_X8_regent_166, nI_pred, ng, pz_ge hi, or_self, jR_jN R, jR_jM R, jR_ln R, jR_lL R, if_false, jR_ng R (hi), jR_cl R (hi), pz_ge (hi), or_self, if_false, jR_z4 R hi, jrel_x R hK' hi hr, pz_bind, jLv_m l2, hy, eb, g16, u2, d1, c9, x1, pz_10, if_true, pz_mP], by show i ≤ n; omega, Or.inr ⟨i, t, hi, ca, rfl, rfl, ht, u1, Nat.le_refl _, new (Or.inr ⟨rfl, y4⟩)⟩⟩
                  · exact ⟨(nI q, nI t), fun g => by simp only [F_X8_regent_79, F_X8_regent_84, F_X8_regent_110, F_X8_regent_125, F_X8_regent_131, F_X8_regent_142, F_X8_regent_148, F_X8_regent_157, F_X8_regent_166, nI_pred, ng, pz_ge hi, or_self, jR_jN R, jR_jM R, jR_ln R, jR_lL R, if_false, jR_ng R (hi), jR_cl R (hi), pz_ge (hi), or_self, if_false, jR_z4 R hi, jrel_x R hK' hi hr, pz_bind, jLv_m l2, hy, eb, g16, u2, d1, c9, x1, pz_00, if_true, pz_mP], by show i ≤ n; omega, Or.inr ⟨q, t, q1, q2, rfl, rfl, q5, q6, by omega, old (Or.inr ⟨rfl, y4⟩)⟩⟩
                · have d4 : (nI t = nI tq) = False := eq_false (fun h => eqt ((nI_eq (by omega) (by omega)).mp h))
                  exact ⟨(nI i, nI t), fun g => by simp only [F_X8_regent_79, F_X8_regent_84, F_X8_regent_110, F_X8_regent_125, F_X8_regent_131, F_X8_regent_142, F_X8_regent_160, F_X8_regent_166, nI_pred, ng, pz_ge hi, or_self, jR_jN R, jR_jM R, jR_ln R, jR_lL R, if_false, jR_ng R (hi), jR_cl R (hi), pz_ge (hi), or_self, if_false, jR_z4 R hi, jrel_x R hK' hi hr, pz_bind, jLv_m l2, hy, eb, g16, u2, d1, c9, d4, pz_mP], by show i ≤ n; omega, Or.inr ⟨i, t, hi, ca, rfl, rfl, ht, u1, Nat.le_refl _, new (Or.inl (by omega))⟩⟩
      · exact ⟨(a, al), fun g => by simp only [F_X8_regent_79, F_X8_regent_84, F_X8_regent_166, nI_pred, ng, pz_ge hi, or_self, jR_jN R, jR_jM R, jR_ln R, jR_lL R, if_false, jR_ng R (hi), jR_cl R (hi), pz_ge (hi), or_self, if_false, jR_z4 R hi, jrel_x R hK' hi hr, pz_bind, jLv_neg ht9 l2, if_true, pz_mP], skip (fun h => l1 h.1)⟩)
    n ((-1), 1000) kN ⟨Nat.le_refl _, Or.inl ⟨rfl, rfl, fun p h1 h2 => by omega⟩⟩ (by show n < 4096; omega)
  refine ⟨b, ?_, ?_⟩
  · simp only [F_X8_regent_64, jR_ln R]
    exact h1
  · rcases h3.2 with ⟨e1, -, e2⟩ | ⟨q, t, q1, q2, q3, -, q5, q6, -, q7⟩
    · exact Or.inl ⟨e1, fun p hp => e2 p (Nat.zero_le _) hp⟩
    · exact Or.inr ⟨q, t, q1, q2, q3, q5, q6, fun p hp => q7 p (Nat.zero_le _) hp⟩
/-- regent -/
theorem jrg_x (R : jR n L h0 m z) (hK : zKin n k m) (hLv : jLv n k z) (hy : z 0 0 = k 15 0) (hr : r < n) (hl : k 29 r = -1) : ∃ h, F_X4_regentOf 15 k (nI r) = some h ∧ F_X8_regent z (nI r) = some h ∧ (h = -1 ∨ ∃ q, q < n ∧ h = nI q ∧ k 29 q = -1 ∧ k 15 0 - k 3 r < 16) := by
  obtain ⟨h, n1, n2⟩ := jne_x hK (fun c _ => Classical.em _) hr
  obtain ⟨h', n3, n4⟩ := jng_x R hK hLv hy hr
  obtain ⟨hn, hk, hm, hE, hMl, hPar, hSt⟩ := hK
  obtain rfl := jNg_un hn n2 n4
  have h40 : r < 40 := by omega
  have cr : (nI r = -1) = False := pz_m1' (by omega)
  have eb : z (4 * r + 1) 2 = k 3 r := (jR_p R hr).2.2.1.trans (hE r hr).2.1
  have e4 := jR_k4 R hE hr
  have e5 := jR_k5 R hE hr
  by_cases g16 : k 15 0 - k 3 r < 16
  · have okh : h = -1 ∨ ∃ q, q < n ∧ h = nI q ∧ k 29 q = -1 ∧ k 15 0 - k 3 r < 16 := by
      rcases n2 with ⟨e, -⟩ | ⟨q, t, q1, q2, e, -⟩
      · exact Or.inl e
      · exact Or.inr ⟨q, q1, e, q2.1, g16⟩
    rcases hPar r hr with ⟨p1, p2⟩ | ⟨x, y, hx, hy2, p1, p2⟩
    · refine ⟨h, ?_, ?_, okh⟩
      · have lm := li_m (B := 15) (k := k) (n := n) (v := -1) hk (Or.inl (by decide))
        simp only [F_X4_regentOf, F_X4_regentOf_0, F_X4_regentOf_8, F_X4_regentOf_20, F_X4_regentOf_46, F_X4_regentOf_74, F_X4_regentOf_79, li_1 (B := 15) hn hk hr hl, ag_1 (B := 15) hn hk hr, g16, pz_n0 (show r < 2 ^ 31 by omega), nI_clamp (show r < 2 ^ 31 by omega), pz_ge (show r < 40 by omega), or_self, false_or, if_false, p1, p2, lm, n1, pz_bind, pz_10, pz_01, pz_00, pz_11, or_true, true_or, not_true_eq_false, if_false, if_true]
      · simp only [F_X8_regent, F_X8_regent_0, F_X8_regent_4, F_X8_regent_20, F_X8_regent_42, cr, jR_jN R, jR_jM R, jR_ln R, jR_lL R, if_false, jR_ng R (hr), jR_cl R (hr), pz_ge (hr), or_self, if_false, hy, eb, jle15, g16, e4, e5, p1, p2, n3, pz_10, pz_01, pz_00, pz_11, or_true, true_or, not_true_eq_false, if_false, if_true]
    · have cx : (nI x = -1) = False := pz_m1' (by omega)
      have cy : (nI y = -1) = False := pz_m1' (by omega)
      have hxn : x < n := by omega
      have hyn : y < n := by omega
      rcases hLv x hxn with ⟨lx2, lx⟩ | ⟨⟨tx, htx, lx2⟩, lx⟩
      · refine ⟨nI x, ?_, ?_, Or.inr ⟨x, hxn, rfl, lx, g16⟩⟩
        · simp only [F_X4_regentOf, F_X4_regentOf_0, F_X4_regentOf_8, F_X4_regentOf_20, F_X4_regentOf_36, li_1 (B := 15) hn hk hr hl, ag_1 (B := 15) hn hk hr, g16, pz_n0 (show r < 2 ^ 31 by omega), nI_clamp (show r < 2 ^ 31 by omega), pz_ge (show r < 40 by omega), or_self, false_or, if_false, p1, p2, li_1 (B := 15) hn hk hxn lx, pz_bind, pz_10, pz_01, pz_00, pz_11, or_true, true_or, not_true_eq_false, if_false, if_true]
        · simp only [F_X8_regent, F_X8_regent_0, F_X8_regent_4, F_X8_regent_20, F_X8_regent_27, F_X8_regent_37, cr, jR_jN R, jR_jM R, jR_ln R, jR_lL R, if_false, jR_ng R (hr), jR_cl R (hr), pz_ge (hr), or_self, if_false, jR_ng R (hxn), jR_cl R (hxn), pz_ge (hxn), or_self, if_false, hy, eb, jle15, g16, e4, e5, p1, p2, cx, jLv_m lx2, pz_10, pz_01, pz_00, pz_11, or_true, true_or, not_true_eq_false, if_false, if_true]
      · rcases hLv y hyn with ⟨ly2, ly⟩ | ⟨⟨ty, hty, ly2⟩, ly⟩
        · refine ⟨nI y, ?_, ?_, Or.inr ⟨y, hyn, rfl, ly, g16⟩⟩
          · simp only [F_X4_regentOf, F_X4_regentOf_0, F_X4_regentOf_8, F_X4_regentOf_20, F_X4_regentOf_46, F_X4_regentOf_62, F_X4_regentOf_79, li_1 (B := 15) hn hk hr hl, ag_1 (B := 15) hn hk hr, g16, pz_n0 (show r < 2 ^ 31 by omega), nI_clamp (show r < 2 ^ 31 by omega), pz_ge (show r < 40 by omega), or_self, false_or, if_false, p1, p2, li_0 (B := 15) hn hk hxn lx, li_1 (B := 15) hn hk hyn ly, pz_bind, pz_10, pz_01, pz_00, pz_11, or_true, true_or, not_true_eq_false, if_false, if_true]
          · simp only [F_X8_regent, F_X8_regent_0, F_X8_regent_4, F_X8_regent_20, F_X8_regent_27, F_X8_regent_42, F_X8_regent_49, F_X8_regent_59, cr, jR_jN R, jR_jM R, jR_ln R, jR_lL R, if_false, jR_ng R (hr), jR_cl R (hr), pz_ge (hr), or_self, if_false, jR_ng R (hxn), jR_cl R (hxn), pz_ge (hxn), or_self, if_false, jR_ng R (hyn), jR_cl R (hyn), pz_ge (hyn), or_self, if_false, hy, eb, jle15, g16, e4, e5, p1, p2, cx, cy, jLv_neg htx lx2, jLv_m ly2, pz_10, pz_01, pz_00, pz_11, or_true, true_or, not_true_eq_false, if_false, if_true]
        · refine ⟨h, ?_, ?_, okh⟩
          · simp only [F_X4_regentOf, F_X4_regentOf_0, F_X4_regentOf_8, F_X4_regentOf_20, F_X4_regentOf_46, F_X4_regentOf_74, F_X4_regentOf_79, li_1 (B := 15) hn hk hr hl, ag_1 (B := 15) hn hk hr, g16, pz_n0 (show r < 2 ^ 31 by omega), nI_clamp (show r < 2 ^ 31 by omega), pz_ge (show r < 40 by omega), or_self, false_or, if_false, p1, p2, li_0 (B := 15) hn hk hxn lx, li_0 (B := 15) hn hk hyn ly, n1, pz_bind, pz_10, pz_01, pz_00, pz_11, or_true, true_or, not_true_eq_false, if_false, if_true]
          · simp only [F_X8_regent, F_X8_regent_0, F_X8_regent_4, F_X8_regent_20, F_X8_regent_27, F_X8_regent_42, F_X8_regent_49, cr, jR_jN R, jR_jM R, jR_ln R, jR_lL R, if_false, jR_ng R (hr), jR_cl R (hr), pz_ge (hr), or_self, if_false, jR_ng R (hxn), jR_cl R (hxn), pz_ge (hxn), or_self, if_false, jR_ng R (hyn), jR_cl R (hyn), pz_ge (hyn), or_self, if_false, hy, eb, jle15, g16, e4, e5, p1, p2, cx, cy, jLv_neg htx lx2, jLv_neg hty ly2, n3, pz_10, pz_01, pz_00, pz_11, or_true, true_or, not_true_eq_false, if_false, if_true]
  · refine ⟨-1, ?_, ?_, Or.inl rfl⟩
    · simp only [F_X4_regentOf, F_X4_regentOf_0, F_X4_regentOf_8, F_X4_regentOf_18, li_1 (B := 15) hn hk hr hl, ag_1 (B := 15) hn hk hr, g16, pz_bind, pz_10, pz_01, pz_00, pz_11, or_true, true_or, not_true_eq_false, if_false, if_true]
    · simp only [F_X8_regent, F_X8_regent_0, F_X8_regent_4, F_X8_regent_18, cr, jR_jN R, jR_jM R, jR_ln R, jR_lL R, if_false, jR_ng R (hr), jR_cl R (hr), pz_ge (hr), or_self, if_false, hy, eb, jle15, g16]
theorem jrg_m : F_X8_regent z (-1) = some (-1) := by simp only [F_X8_regent, F_X8_regent_0, F_X8_regent_18, if_true]
/-- who is free -/
theorem jfr_x (R : jR n L h0 m z) (hK : zKin n k m) (hLv : jLv n k z) (hy : z 0 0 = k 15 0) (hS : ∀ p, p < n → z (4 * p + 1) 6 = k 24 p) (hp : p < n) : ∃ r, F_X4_isFree 15 k (nI p) = some r ∧ F_X8_isFree z (nI p) = some r ∧ ((r = 1 ∧ jFr k p) ∨ (r = 0 ∧ ¬ jFr k p)) := by
  obtain ⟨hn, hk, hm, hE, hMl, hPar, hSt⟩ := hK
  have h40 : p < 40 := by omega
  have eb : z (4 * p + 1) 2 = k 3 p := (jR_p R hp).2.2.1.trans (hE p hp).2.1
  rcases hLv p hp with ⟨l2, l1⟩ | ⟨⟨t, ht, l2⟩, l1⟩
  · simp only [F_X4_isFree_35, F_X4_isFree_30, F_X4_isFree_34, F_X4_isFree_18, F_X4_isFree_8, F_X4_isFree_0, F_X4_isFree, F_X8_isFree_33, F_X8_isFree_28, F_X8_isFree_32, F_X8_isFree_14, F_X8_isFree_7, F_X8_isFree_0, F_X8_isFree, li_1 (B := 15) hn hk hp l1, ag_1 (B := 15) hn hk hp, sp_1 (B := 15) h40, pz_bind, jR_jN R, jR_jM R, jR_ln R, jR_lL R, if_false, jR_ng R (hp), jR_cl R (hp), pz_ge (hp), or_self, if_false, jLv_m l2, hS p hp, hy, eb, jle15, pz_10, pz_01, pz_00, pz_11, or_true, true_or, not_true_eq_false, if_false, if_true]
    by_cases h1 : k 15 0 - k 3 p < 16
    · refine ⟨0, by rw [if_pos h1], ?_, Or.inr ⟨rfl, fun h => h.2.2 h1⟩⟩
      by_cases h2 : k 24 p = -1
      · rw [if_pos h2, if_pos h1]
      · rw [if_neg h2]
    · by_cases h2 : k 24 p = -1
      · exact ⟨1, by rw [if_neg h1, if_pos h2], by rw [if_pos h2, if_neg h1], Or.inl ⟨rfl, l1, h2, h1⟩⟩
      · exact ⟨0, by rw [if_neg h1, if_neg h2], by rw [if_neg h2], Or.inr ⟨rfl, fun h => h2 h.2.1⟩⟩
  · exact ⟨0, by simp only [F_X4_isFree_35, F_X4_isFree_30, F_X4_isFree_34, F_X4_isFree_18, F_X4_isFree_8, F_X4_isFree_0, F_X4_isFree, li_0 (B := 15) hn hk hp l1, pz_bind, pz_10, pz_01, pz_00, pz_11, or_true, true_or, not_true_eq_false, if_false, if_true], by simp only [F_X8_isFree_33, F_X8_isFree_28, F_X8_isFree_32, F_X8_isFree_14, F_X8_isFree_7, F_X8_isFree_0, F_X8_isFree, jR_jN R, jR_jM R, jR_ln R, jR_lL R, if_false, jR_ng R (hp), jR_cl R (hp), pz_ge (hp), or_self, if_false, jLv_neg ht l2, pz_10, pz_01, pz_00, pz_11, or_true, true_or, not_true_eq_false, if_false, if_true], Or.inr ⟨rfl, fun h => l1 h.1⟩⟩
theorem jcn_x (R : jR n L h0 m z) (hK : zKin n k m) (hLv : jLv n k z) (hy : z 0 0 = k 15 0) (hS : ∀ p, p < n → z (4 * p + 1) 6 = k 24 p) (ha : a < n) (hb : b < n) : ∃ r, F_X4_mayMarry 15 k (nI a) (nI b) = some r ∧ F_X8_can z (nI a) (nI b) = some r ∧ ((r = 1 ∧ jCan k a b) ∨ (r = 0 ∧ ¬ jCan k a b)) := by
  obtain ⟨r1, a1, a2, a3⟩ := jfr_x R hK hLv hy hS ha
  obtain ⟨r2, b1, b2, b3⟩ := jfr_x R hK hLv hy hS hb
  have hr := jrel_x R hK ha hb
  have hv := jrl_v hK ha hb
  obtain ⟨hn, hk, hm, hE, hMl, hPar, hSt⟩ := hK
  have ea : z (4 * a + 1) 1 = k 2 a := (jR_p R ha).2.1.trans (hE a ha).1
  have eb : z (4 * b + 1) 1 = k 2 b := (jR_p R hb).2.1.trans (hE b hb).1
  rcases a3 with ⟨rfl, a4⟩ | ⟨rfl, a4⟩
  · rcases b3 with ⟨rfl, b4⟩ | ⟨rfl, b4⟩
    · simp only [F_X4_mayMarry_37, F_X4_mayMarry_64, F_X4_mayMarry_59, F_X4_mayMarry_63, F_X4_mayMarry_54, F_X4_mayMarry_39, F_X4_mayMarry_16, F_X4_mayMarry_8, F_X4_mayMarry_0, F_X4_mayMarry, F_X8_can_42, F_X8_can_37, F_X8_can_41, F_X8_can_27, F_X8_can_16, F_X8_can_8, F_X8_can_0, F_X8_can, a1, a2, b1, b2, pz_bind, pz_10, pz_01, pz_00, pz_11, or_true, true_or, not_true_eq_false, if_false, if_true, pz_n0 (show a < 2 ^ 31 by omega), nI_clamp (show a < 2 ^ 31 by omega), pz_ge (show a < 40 by omega), or_self, false_or, if_false, pz_n0 (show b < 2 ^ 31 by omega), nI_clamp (show b < 2 ^ 31 by omega), pz_ge (show b < 40 by omega), or_self, false_or, if_false, sb_1 hn hk ha hb, jR_jN R, jR_jM R, jR_ln R, jR_lL R, if_false, jR_ng R (ha), jR_cl R (ha), pz_ge (ha), or_self, if_false, jR_ng R (hb), jR_cl R (hb), pz_ge (hb), or_self, if_false, ea, eb, hr]
      by_cases g : k 2 a = k 2 b
      · exact ⟨0, by rw [if_pos g], by rw [if_pos g], Or.inr ⟨rfl, fun h => h.2.2.1 g⟩⟩
      · rcases hv with ⟨u1, u2⟩ | ⟨t, ht, u1, u2⟩
        · have c : ¬ nI 1000 ≤ 2 := by decide
          exact ⟨1, by rw [if_neg g, if_pos u1], by rw [if_neg g, u2, if_neg c], Or.inl ⟨rfl, a4, b4, g, Or.inl u1⟩⟩
        · rw [u1, u2]
          by_cases g3 : t < 3
          · have c : nI t < 3 := (nI_ltI (b := 3) (by omega) (by decide)).mpr g3
            have c2 : nI t ≤ 2 := (nI_leI (b := 2) (by omega) (by decide)).mpr (by omega)
            refine ⟨0, by rw [if_neg g, if_neg (pz_m1 (by omega)), if_pos c], by rw [if_neg g, if_pos c2], Or.inr ⟨rfl, fun h => ?_⟩⟩
            rcases h.2.2.2 with h | ⟨s, s1, s2, s3⟩
            · rw [u1] at h; exact pz_m1 (show t < 2 ^ 31 by omega) h
            · rw [u1, nI_eq (by omega) (by omega)] at s3; omega
          · have c : ¬ nI t < 3 := fun q => g3 ((nI_ltI (b := 3) (by omega) (by decide)).mp q)
            have c2 : ¬ nI t ≤ 2 := fun q => by have := (nI_leI (b := 2) (show t < 2 ^ 31 by omega) (by decide)).mp q; omega
            exact ⟨1, by rw [if_neg g, if_neg (pz_m1 (by omega)), if_neg c], by rw [if_neg g, if_neg c2], Or.inl ⟨rfl, a4, b4, g, Or.inr ⟨t, by omega, ht, u1⟩⟩⟩
    · exact ⟨0, by simp only [F_X4_mayMarry_37, F_X4_mayMarry_64, F_X4_mayMarry_59, F_X4_mayMarry_63, F_X4_mayMarry_54, F_X4_mayMarry_39, F_X4_mayMarry_16, F_X4_mayMarry_8, F_X4_mayMarry_0, F_X4_mayMarry, a1, b1, pz_bind, pz_10, pz_01, pz_00, pz_11, or_true, true_or, not_true_eq_false, if_false, if_true], by simp only [F_X8_can_42, F_X8_can_37, F_X8_can_41, F_X8_can_27, F_X8_can_16, F_X8_can_8, F_X8_can_0, F_X8_can, a2, b2, pz_bind, pz_10, pz_01, pz_00, pz_11, or_true, true_or, not_true_eq_false, if_false, if_true], Or.inr ⟨rfl, fun h => b4 h.2.1⟩⟩
  · exact ⟨0, by simp only [F_X4_mayMarry_37, F_X4_mayMarry_64, F_X4_mayMarry_59, F_X4_mayMarry_63, F_X4_mayMarry_54, F_X4_mayMarry_39, F_X4_mayMarry_16, F_X4_mayMarry_8, F_X4_mayMarry_0, F_X4_mayMarry, a1, pz_bind, pz_10, pz_01, pz_00, pz_11, or_true, true_or, not_true_eq_false, if_false, if_true], by simp only [F_X8_can_42, F_X8_can_37, F_X8_can_41, F_X8_can_27, F_X8_can_16, F_X8_can_8, F_X8_can_0, F_X8_can, a2, pz_bind, pz_10, pz_01, pz_00, pz_11, or_true, true_or, not_true_eq_false, if_false, if_true], Or.inr ⟨rfl, fun h => a4 h.1⟩⟩
end ZS
