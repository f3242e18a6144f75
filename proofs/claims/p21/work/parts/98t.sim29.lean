/-! WHAT THE CLASS TELLS, in the reference's numbers -/
section ZS
variable {n L h0 H c p q w x r B y y' l ag Y s A U E : Nat} {k k1 k2 k' m m' z z' mc : kS} {v v1 v2 v3 h a b t gv : Int32} {f : Nat → Int32} {P : Nat → Int32}
theorem nu_v (hL : L ≤ 12) (hk : k (B + 1) 0 = nI L) : F_X1_numberUnder B k v = some (nI (zcnt (fun l => k (B + 4) l = v) L)) := by
  obtain ⟨u, h1, rfl⟩ := pz_loop10 (α := Int32) (fun g i u => F_X1_numberUnder_4 B k g v u (nI i)) (fun u => some u) L (fun i u => u = nI (zcnt (fun l => k (B + 4) l = v) i))
    (fun u _ g => by simp only [F_X1_numberUnder_4, F_X1_numberUnder_31, hk, pz_cT (show L < 2 ^ 31 by omega), if_true])
    (fun i u hi hI => by
      subst hI
      have c := pz_cF hi (show L < 2 ^ 31 by omega)
      by_cases h : k (B + 4) i = v
      · refine ⟨nI (zcnt (fun l => k (B + 4) l = v) i + 1), fun g => ?_, by rw [zcnt_s1 (A := fun l => k (B + 4) l = v) h]⟩
        simp only [F_X1_numberUnder_4, F_X1_numberUnder_12, F_X1_numberUnder_22, F_X1_numberUnder_25, hk, c, pz_n0 (show i < 2 ^ 31 by omega), nI_clamp (show i < 2 ^ 31 by omega), pz_ge (show i < 12 by omega), or_self, false_or, if_false, nI_1, if_pos h]
      · refine ⟨nI (zcnt (fun l => k (B + 4) l = v) i), fun g => ?_, by rw [zcnt_s0 (A := fun l => k (B + 4) l = v) h]⟩
        simp only [F_X1_numberUnder_4, F_X1_numberUnder_12, F_X1_numberUnder_25, hk, c, pz_n0 (show i < 2 ^ 31 by omega), nI_clamp (show i < 2 ^ 31 by omega), pz_ge (show i < 12 by omega), or_self, false_or, if_false, nI_1, if_neg h])
    (by omega) (a := 0) rfl
  exact h1
theorem ch_v (hn : n ≤ 40) (hk : k 1 0 = nI n) : F_X0_childrenOf k (nI p) = some (nI (zcnt (fun c => zCh k c p) n)) := by
  obtain ⟨u, h1, rfl⟩ := pz_loop10 (α := Int32) (fun g i u => F_X0_childrenOf_4 k g (nI p) u (nI i)) (fun u => some u) n (fun i u => u = nI (zcnt (fun c => zCh k c p) i))
    (fun u _ g => by simp only [F_X0_childrenOf_4, F_X0_childrenOf_41, hk, pz_cT (show n < 2 ^ 31 by omega), if_true])
    (fun i u hi hI => by
      subst hI
      have c := pz_cF hi (show n < 2 ^ 31 by omega)
      by_cases h : zCh k i p
      · refine ⟨nI (zcnt (fun c => zCh k c p) i + 1), fun g => ?_, by rw [zcnt_s1 (A := fun c => zCh k c p) h]⟩
        simp only [F_X0_childrenOf_4, F_X0_childrenOf_12, F_X0_childrenOf_22, F_X0_childrenOf_32, F_X0_childrenOf_35, hk, c, pz_n0 (show i < 2 ^ 31 by omega), nI_clamp (show i < 2 ^ 31 by omega), pz_ge (show i < 40 by omega), or_self, false_or, if_false, nI_1]
        by_cases h4 : k 4 i = nI p
        · rw [if_pos h4]
        · rw [if_neg h4, if_pos (h.resolve_left h4)]
      · refine ⟨nI (zcnt (fun c => zCh k c p) i), fun g => ?_, by rw [zcnt_s0 (A := fun c => zCh k c p) h]⟩
        simp only [F_X0_childrenOf_4, F_X0_childrenOf_12, F_X0_childrenOf_22, F_X0_childrenOf_32, F_X0_childrenOf_35, hk, c, pz_n0 (show i < 2 ^ 31 by omega), nI_clamp (show i < 2 ^ 31 by omega), pz_ge (show i < 40 by omega), or_self, false_or, if_false, nI_1]
        rw [if_neg (fun q => h (Or.inl q)), if_neg (fun q => h (Or.inr q))])
    (by omega) (a := 0) rfl
  exact h1
theorem co_v (h0 : ∀ p, n ≤ p → p < 40 → k (B + 9) p = -1) (hn : n ≤ 40) : F_X3_couples B k = some (nI (zcnt (fun p => nI p < k (B + 9) p) n)) := by
  obtain ⟨b, h1, rfl⟩ := pz_loop10 (α := Int32) (fun g i a => F_X3_couples_4 B k g a (nI i)) (fun a => some a) 40 (fun i a => a = nI (zcnt (fun p => nI p < k (B + 9) p) i))
    (fun a _ g => by
      have c : (40 ≤ nI 40) = True := eq_true (by decide)
      simp only [F_X3_couples_29, F_X3_couples_4, c, if_true])
    (fun i a hi e => by
      subst e
      have c : (40 ≤ nI i) = False := eq_false (nI_ge (b := 40) hi (by decide))
      by_cases h : k (B + 9) i ≤ nI i
      · have h' : ¬ nI i < k (B + 9) i := Int32.not_lt.mpr h
        refine ⟨_, fun g => ?_, by rw [zcnt_s0 (A := fun p => nI p < k (B + 9) p) h']⟩
        simp only [F_X3_couples_23, F_X3_couples_10, F_X3_couples_4, c, if_false, pz_n0 (show i < 2 ^ 31 by omega), nI_clamp (show i < 2 ^ 31 by omega), pz_ge (show i < 40 by omega), or_self, false_or, if_false, h, if_true, nI_1]
      · have h' : nI i < k (B + 9) i := Int32.not_le.mp h
        refine ⟨_, fun g => ?_, by rw [zcnt_s1 (A := fun p => nI p < k (B + 9) p) h']⟩
        simp only [F_X3_couples_23, F_X3_couples_20, F_X3_couples_10, F_X3_couples_4, c, if_false, pz_n0 (show i < 2 ^ 31 by omega), nI_clamp (show i < 2 ^ 31 by omega), pz_ge (show i < 40 by omega), or_self, false_or, if_false, h, nI_1])
    (by omega) (a := 0) rfl
  have e : zcnt (fun p => nI p < k (B + 9) p) 40 = zcnt (fun p => nI p < k (B + 9) p) n := by
    have := zcnt_ext (A := fun p => nI p < k (B + 9) p) (n := n) (40 - n) (fun c h1 h2 => by
      rw [h0 c h1 (by omega)]
      intro h
      have h3 := Int32.lt_iff_toInt_lt.mp h
      rw [nI_toInt (by omega)] at h3
      have h4 : (-1 : Int32).toInt = -1 := by decide
      omega)
    rwa [show n + (40 - n) = 40 by omega] at this
  rw [e] at h1
  exact h1
theorem zSame_of (h : zOffB 15 k k1) : zSame 15 k k1 := ⟨fun q hq => h q (by omega) (by omega), fun q hq => h q (by omega) (by omega), h _ (by decide) (by decide)⟩
theorem zSame_tr (h : zSame 15 k k1) (g : zSame 15 k1 k2) : zSame 15 k k2 := ⟨fun q hq => (g.1 q hq).trans (h.1 q hq), fun q hq => (g.2.1 q hq).trans (h.2.1 q hq), g.2.2.trans h.2.2⟩
/-- a look at heirs leaves all as it is -/
theorem jSt_off (S : jSt n L h0 H y k m z) (ho : zOffB 15 k k1) : jSt n L h0 H y k1 m z := by
  obtain ⟨s1, s2, s3, s4, s5, s6⟩ := S
  exact ⟨zRel_off k15 s1 ho (zOff.rf m), zXl_off s1.2.2.1.1 s2 ho (zOff.rf m), by rw [ho 15 (by decide) (by decide)]; exact s3, by rw [ho 39 (by decide) (by decide)]; exact s4, s5, jEx_cg s6 (fun q hq => ho q (by omega) (by omega)) (fun _ _ _ _ _ => rfl) (fun _ _ => jSm.rf rfl rfl)⟩
theorem jSt_x6 (S : jSt n L h0 H y k m z) (hp : p < n) : m 8 (9 * p + 6) = k 29 p := ((S.1.2.2.2.2.2.1 rfl).1.2.1 p hp).2
theorem jSt_ru (S : jSt n L h0 H y k m z) (hl : l < L) : m 9 (4 * l + 2) = k 19 l := (S.1.2.2.1.2.2.2.2 l hl).2.1
theorem jSt_la (S : jSt n L h0 H y k m z) (hl : l < L) : m 9 (4 * l + 1) = k 18 l := (S.1.2.2.1.2.2.2.2 l hl).1
/-- who rules lives -/
theorem jSt_rl (S : jSt n L h0 H y k m z) (hl : l < L) : m 9 (4 * l + 2) = -1 ∨ ∃ p, p < n ∧ m 9 (4 * l + 2) = nI p ∧ k 29 p = -1 := by
  rw [jSt_ru S hl]
  exact S.1.2.2.2.2.1 l hl
theorem rd_pw (S : jSt n L h0 H y k m z) (hp : p < n) (hw : w < 10) (h : F_X4_personFact 15 k (nI p) (nI w) = some v) : F_X5_person k (nI p) (nI w) = some (0, v) := by
  have nb : F_X5_needBelow k (nI w) 10 = some 0 := nb_1 (N := 10) (by decide) hw
  simp only [F_X5_person, F_X5_person_0, np_1 S.1.1.1 S.1.1.2.1 hp, pz_bind, pz_nz, if_true, nb, h]
theorem rd_p0 (S : jSt n L h0 H y k m z) (hp : p < n) : F_X5_person k (nI p) 0 = some (0, m 8 (9 * p)) := by
  have hn := S.1.1.1
  refine rd_pw (w := 0) S hp (by decide) ((pf_s (w := 0) (by decide)).trans ?_)
  show F_X4_personFact_52 15 k (nI p) = _
  rw [(S.1.1.2.2.2.1 p hp).1]
  simp only [F_X4_personFact_52, F_X4_personFact_68, F_X4_personFact_64, F_X4_personFact_69, pz_n0 (show p < 2 ^ 31 by omega), nI_clamp (show p < 2 ^ 31 by omega), pz_ge (show p < 40 by omega), or_self, false_or, if_false]
  rcases S.1.1.2.2.2.2.1 p hp with h | h
  · rw [if_pos h, h]
  · rw [if_neg (by rw [h]; decide), h]
theorem rd_p1 (S : jSt n L h0 H y k m z) (hp : p < n) : F_X5_person k (nI p) 1 = some (0, m 8 (9 * p + 1)) := by
  have hn := S.1.1.1
  refine rd_pw (w := 1) S hp (by decide) ((pf_s (w := 1) (by decide)).trans ?_)
  show F_X4_personFact_70 15 k (nI p) = _
  rw [(S.1.1.2.2.2.1 p hp).2.1]
  simp only [F_X4_personFact_70, pz_n0 (show p < 2 ^ 31 by omega), nI_clamp (show p < 2 ^ 31 by omega), pz_ge (show p < 40 by omega), or_self, false_or, if_false]
theorem rd_p2 (S : jSt n L h0 H y k m z) (hp : p < n) : F_X5_person k (nI p) 2 = some (0, m 8 (9 * p + 2)) := by
  have hn := S.1.1.1
  refine rd_pw (w := 2) S hp (by decide) ((pf_s (w := 2) (by decide)).trans ?_)
  show F_X4_personFact_80 15 k (nI p) = _
  rcases S.1.2.1 p hp with ⟨l1, l2⟩ | ⟨l1, l2⟩
  · rw [l2]; simp only [F_X4_personFact_80, li_1 hn S.1.1.2.1 hp l1, pz_bind, pz_10, if_false, F_X4_personFact_88, F_X4_personFact_93]
  · rw [l2]; simp only [F_X4_personFact_80, li_0 hn S.1.1.2.1 hp l1, pz_bind, pz_00, if_true, F_X4_personFact_92, F_X4_personFact_93]
theorem rd_p3 (S : jSt n L h0 H y k m z) (hp : p < n) : F_X5_person k (nI p) 3 = some (0, m 8 (9 * p + 3)) := by
  have hn := S.1.1.1
  refine rd_pw (w := 3) S hp (by decide) ((pf_s (w := 3) (by decide)).trans ?_)
  show F_X4_personFact_94 15 k (nI p) = _
  rw [(S.1.1.2.2.2.1 p hp).2.2.1]
  simp only [F_X4_personFact_94, pz_n0 (show p < 2 ^ 31 by omega), nI_clamp (show p < 2 ^ 31 by omega), pz_ge (show p < 40 by omega), or_self, false_or, if_false]
theorem rd_p4 (S : jSt n L h0 H y k m z) (hp : p < n) : F_X5_person k (nI p) 4 = some (0, m 8 (9 * p + 4)) := by
  have hn := S.1.1.1
  refine rd_pw (w := 4) S hp (by decide) ((pf_s (w := 4) (by decide)).trans ?_)
  show F_X4_personFact_104 15 k (nI p) = _
  rw [(S.1.1.2.2.2.1 p hp).2.2.2]
  simp only [F_X4_personFact_104, pz_n0 (show p < 2 ^ 31 by omega), nI_clamp (show p < 2 ^ 31 by omega), pz_ge (show p < 40 by omega), or_self, false_or, if_false]
theorem rd_p5 (S : jSt n L h0 H y k m z) (hp : p < n) : F_X5_person k (nI p) 5 = some (0, m 8 (9 * p + 5)) := by
  have hn := S.1.1.1
  refine rd_pw (w := 5) S hp (by decide) ((pf_s (w := 5) (by decide)).trans ?_)
  show F_X4_personFact_114 15 k (nI p) = _
  rw [jSt_k24 S hp]
  simp only [F_X4_personFact_114, sp_1 (show p < 40 by omega), pz_bind]
theorem rd_p6 (S : jSt n L h0 H y k m z) (hp : p < n) : F_X5_person k (nI p) 6 = some (0, nI (zcnt (fun c => zCh k c p) n)) := by
  refine rd_pw (w := 6) S hp (by decide) ((pf_s (w := 6) (by decide)).trans ?_)
  show F_X4_personFact_123 15 k (nI p) = _
  simp only [F_X4_personFact_123, ch_v S.1.1.1 S.1.1.2.1, pz_bind]
theorem jSt_nu (S : jSt n L h0 H y k m z) (v : Int32) : F_X1_numberUnder 15 k v = some (nI (zcnt (fun l => m 9 (4 * l + 2) = v) L)) := by
  have e : zcnt (fun l => m 9 (4 * l + 2) = v) L = zcnt (fun l => k 19 l = v) L := zcnt_congr L (fun l hl => by
    have := jSt_ru S hl
    exact ⟨fun q => this.symm.trans q, fun q => this.trans q⟩)
  rw [e]
  exact nu_v (B := 15) S.1.2.2.1.1 S.1.2.2.1.2.1
theorem rd_p7 (S : jSt n L h0 H y k m z) (hp : p < n) : F_X5_person k (nI p) 7 = some (0, nI (zcnt (fun l => m 9 (4 * l + 2) = nI p) L)) := by
  refine rd_pw (w := 7) S hp (by decide) ((pf_s (w := 7) (by decide)).trans ?_)
  show F_X4_personFact_132 15 k (nI p) = _
  simp only [F_X4_personFact_132, jSt_nu S, pz_bind]
theorem jSt_wu (S : jSt n L h0 H y k m z) (v : Int32) : F_X1_worthUnder 15 k v = some (nI (zws m v L)) := by
  obtain ⟨t, -, h1, h2⟩ := tw_worth S.1 S.2.1 v
  have h3 := jwo_r (m := m) (v := v) S.1.2.2.1.1 S.1.2.2.1.2.2.1 (jSt_wo S)
  rw [h1, ← h2, h3]
theorem rd_p8 (S : jSt n L h0 H y k m z) (hp : p < n) : F_X5_person k (nI p) 8 = some (0, nI (zws m (nI p) L)) := by
  refine rd_pw (w := 8) S hp (by decide) ((pf_s (w := 8) (by decide)).trans ?_)
  show F_X4_personFact_141 15 k (nI p) = _
  simp only [F_X4_personFact_141, jSt_wu S, pz_bind]
theorem rd_p9 (S : jSt n L h0 H y k m z) (hp : p < n) : F_X5_person k (nI p) 9 = some (0, m 8 (9 * p + 6)) := by
  have hn := S.1.1.1
  refine rd_pw (w := 9) S hp (by decide) ((pf_s (w := 9) (by decide)).trans ?_)
  show F_X4_personFact_150 15 k (nI p) = _
  rw [jSt_x6 S hp]
  simp only [F_X4_personFact_150, pz_n0 (show p < 2 ^ 31 by omega), nI_clamp (show p < 2 ^ 31 by omega), pz_ge (show p < 40 by omega), or_self, false_or, if_false]
theorem rd_re (S : jSt n L h0 H y k m z) (hp : p < n) (hq : q < n) : F_X5_related k (nI p) (nI q) = some (0, k (69 + p) q) := by
  have hn := S.1.1.1
  simp only [F_X5_related, F_X5_related_0, np_1 S.1.1.1 S.1.1.2.1 hp, np_1 S.1.1.1 S.1.1.2.1 hq, pz_bind, pz_nz, if_true, pz_n0 (show p < 2 ^ 31 by omega), nI_clamp (show p < 2 ^ 31 by omega), pz_ge (show p < 40 by omega), or_self, false_or, if_false, pz_n0 (show q < 2 ^ 31 by omega), nI_clamp (show q < 2 ^ 31 by omega), pz_ge (show q < 40 by omega), or_self, false_or, if_false]
theorem rd_lw (S : jSt n L h0 H y k m z) (hl : l < L) (hw : w < 6) (h : F_X4_landFact 15 (nI l) (nI w) k = some (v, k1)) : F_X5_land (nI l) (nI w) k = some ((0, v), k1) := by
  have nb : F_X5_needBelow k (nI w) 6 = some 0 := nb_1 (N := 6) (by decide) hw
  simp only [F_X5_land, F_X5_land_0, nl_1 S.1.2.2.1.1 S.1.2.2.1.2.1 hl, pz_bind, pz_nz, if_true, nb, h]
theorem lf_s (hl : l < 12) : F_X4_landFact 15 (nI l) v k = if v = 0 then F_X4_landFact_44 15 (nI l) k else if v = 1 then F_X4_landFact_54 15 (nI l) k else if v = 2 then F_X4_landFact_64 15 (k 19 l) k else if v = 3 then F_X4_landFact_66 15 (k 19 l) k else if v = 4 then F_X4_landFact_72 15 (nI l) (k 19 l) k else F_X4_landFact_87 15 (nI l) k := by
  simp only [F_X4_landFact, F_X4_landFact_0, pz_n0 (show l < 2 ^ 31 by omega), nI_clamp (show l < 2 ^ 31 by omega), pz_ge (show l < 12 by omega), or_self, false_or, if_false]
theorem rd_l0 (S : jSt n L h0 H y k m z) (hl : l < L) : F_X5_land (nI l) 0 k = some ((0, m 9 (4 * l)), k) := by
  have hL := S.1.2.2.1.1
  refine rd_lw (w := 0) S hl (by decide) ((lf_s (by omega)).trans ?_)
  show F_X4_landFact_44 15 (nI l) k = _
  rw [(S.2.1.1 l hl).1]
  simp only [F_X4_landFact_44, pz_n0 (show l < 2 ^ 31 by omega), nI_clamp (show l < 2 ^ 31 by omega), pz_ge (show l < 12 by omega), or_self, false_or, if_false]
theorem rd_l1 (S : jSt n L h0 H y k m z) (hl : l < L) : F_X5_land (nI l) 1 k = some ((0, m 9 (4 * l + 1)), k) := by
  have hL := S.1.2.2.1.1
  refine rd_lw (w := 1) S hl (by decide) ((lf_s (by omega)).trans ?_)
  show F_X4_landFact_54 15 (nI l) k = _
  rw [jSt_la S hl]
  simp only [F_X4_landFact_54, pz_n0 (show l < 2 ^ 31 by omega), nI_clamp (show l < 2 ^ 31 by omega), pz_ge (show l < 12 by omega), or_self, false_or, if_false]
theorem rd_l2 (S : jSt n L h0 H y k m z) (hl : l < L) : F_X5_land (nI l) 2 k = some ((0, m 9 (4 * l + 2)), k) := by
  have hL := S.1.2.2.1.1
  refine rd_lw (w := 2) S hl (by decide) ((lf_s (by omega)).trans ?_)
  show F_X4_landFact_64 15 (k 19 l) k = _
  rw [jSt_ru S hl]
  simp only [F_X4_landFact_64]
theorem rd_l5 (S : jSt n L h0 H y k m z) (hl : l < L) : F_X5_land (nI l) 5 k = some ((0, m 9 (4 * l + 3)), k) := by
  have hL := S.1.2.2.1.1
  obtain ⟨-, -, h, -, x4, x5, -⟩ := S.2.1.1 l hl
  refine rd_lw (w := 5) S hl (by decide) ((lf_s (by omega)).trans ?_)
  show F_X4_landFact_87 15 (nI l) k = _
  rw [x5]
  simp only [F_X4_landFact_87, pz_n0 (show l < 2 ^ 31 by omega), nI_clamp (show l < 2 ^ 31 by omega), pz_ge (show l < 12 by omega), or_self, false_or, if_false, show 15 + 5 = 20 from rfl, x4]
theorem rd_l3 (S : jSt n L h0 H y k m z) (hl : l < L) : (m 9 (4 * l + 2) = -1 ∧ F_X5_land (nI l) 3 k = some ((0, -1), k)) ∨ ∃ p, p < n ∧ m 9 (4 * l + 2) = nI p ∧ k 29 p = -1 ∧ ∀ g, F_X4_regentOf 15 k (nI p) = some g → F_X5_land (nI l) 3 k = some ((0, g), k) := by
  have hL := S.1.2.2.1.1
  rcases jSt_rl S hl with e | ⟨p, hp, e, e2⟩
  · refine Or.inl ⟨e, rd_lw (w := 3) S hl (by decide) ((lf_s (by omega)).trans ?_)⟩
    show F_X4_landFact_66 15 (k 19 l) k = _
    rw [← jSt_ru S hl, e]
    simp only [F_X4_landFact_66, (rg_m (B := 15) (m := m) S.1.1.2.1).1, pz_bind]
  · refine Or.inr ⟨p, hp, e, e2, fun g hg => rd_lw (w := 3) S hl (by decide) ((lf_s (by omega)).trans ?_)⟩
    show F_X4_landFact_66 15 (k 19 l) k = _
    rw [← jSt_ru S hl, e]
    simp only [F_X4_landFact_66, hg, pz_bind]
theorem rd_l4 (S : jSt n L h0 H y k m z) (hl : l < L) : (m 9 (4 * l + 2) = -1 ∧ F_X5_land (nI l) 4 k = some ((0, -1), k)) ∨ ∃ p w, p < n ∧ w ≤ 3 ∧ m 9 (4 * l + 2) = nI p ∧ m 9 (4 * l + 1) = nI w ∧ k 29 p = -1 ∧ ∀ g k1, F_X4_heirOf 15 (nI p) (nI w) k = some (g, k1) → F_X5_land (nI l) 4 k = some ((0, g), k1) := by
  have hL := S.1.2.2.1.1
  rcases jSt_rl S hl with e | ⟨p, hp, e, e2⟩
  · refine Or.inl ⟨e, rd_lw (w := 4) S hl (by decide) ((lf_s (by omega)).trans ?_)⟩
    show F_X4_landFact_72 15 (nI l) (k 19 l) k = _
    rw [← jSt_ru S hl, e]
    simp only [F_X4_landFact_72, pz_n0 (show l < 2 ^ 31 by omega), nI_clamp (show l < 2 ^ 31 by omega), pz_ge (show l < 12 by omega), or_self, false_or, if_false, F_X4_heirOf, F_X4_heirOf_0, kn_m S.1.1.2.1, pz_bind, pz_00, if_true, F_X4_heirOf_11]
  · obtain ⟨w, hw, e3⟩ := jSt_law S hl
    refine Or.inr ⟨p, w, hp, hw, e, e3, e2, fun g k1 hg => rd_lw (w := 4) S hl (by decide) ((lf_s (by omega)).trans ?_)⟩
    show F_X4_landFact_72 15 (nI l) (k 19 l) k = _
    have e4 : k (15 + 3) l = nI w := (jSt_la S hl).symm.trans e3
    rw [← jSt_ru S hl, e]
    simp only [F_X4_landFact_72, pz_n0 (show l < 2 ^ 31 by omega), nI_clamp (show l < 2 ^ 31 by omega), pz_ge (show l < 12 by omega), or_self, false_or, if_false, e4, hg, pz_bind]
theorem rd_ru (S : jSt n L h0 H y k m z) (hH : H < 2 ^ 30) (hl : l < L) {g : Nat} (hg : m 9 (4 * l + 3) = nI g) (hg9 : g < 2 ^ 31) (hw : w < min g 15) : F_X5_ruled k (nI l) (nI w) = some (0, m 10 (15 * l + w)) := by
  have hL := S.1.2.2.1.1
  obtain ⟨-, -, h, x3, x4, x5, x6, x7⟩ := S.2.1.1 l hl
  have x3 : h ≤ H := x3
  have hgh : g = h := by
    rw [hg, nI_eq (by omega) (by omega)] at x5
    exact x5
  subst hgh
  have nb : F_X5_needBelow k (nI w) (nI (min g 15)) = some 0 := nb_1 (by omega) hw
  have e21 : k (15 + 6) l = nI (min g 15) := x6
  have kp : kpb 15 = 45 := rfl
  rw [x7 w hw]
  simp only [F_X5_ruled, F_X5_ruled_0, nl_1 S.1.2.2.1.1 S.1.2.2.1.2.1 hl, pz_bind, pz_nz, if_true, pz_n0 (show l < 2 ^ 31 by omega), nI_clamp (show l < 2 ^ 31 by omega), pz_ge (show l < 12 by omega), or_self, false_or, if_false, e21, nb, pz_n0 (show w < 2 ^ 31 by omega), nI_clamp (show w < 2 ^ 31 by omega), pz_ge (show w < 15 by omega), or_self, false_or, if_false, kp]
/-! counts -/
theorem rd_cw (hw : w < 8) (h : F_X4_countFact 15 k (nI w) = some v) : F_X5_count k (nI w) = some (0, v) := by
  have nb : F_X5_needBelow k (nI w) 8 = some 0 := nb_1 (N := 8) (by decide) hw
  simp only [F_X5_count, F_X5_count_0, pz_bind, pz_nz, if_true, nb, h]
theorem rd_c0 (S : jSt n L h0 H y k m z) : F_X5_count k 0 = some (0, nI y) := by
  rw [← S.2.2.1]
  exact rd_cw (w := 0) (by decide) rfl
theorem rd_c1 (S : jSt n L h0 H y k m z) : F_X5_count k 1 = some (0, nI n) := by
  rw [← S.1.1.2.1]
  exact rd_cw (w := 1) (by decide) rfl
theorem rd_c2 (S : jSt n L h0 H y k m z) : F_X5_count k 2 = some (0, nI (jAl n m)) := by
  refine rd_cw (w := 2) (by decide) ?_
  show F_X4_countFact_57 15 k = _
  rw [← jSt_al S]
  simp only [F_X4_countFact_57, (lv_x S.1.1.1 S.1.1.2.1 S.1.1.2.2.1 S.1.2.1).1, pz_bind]
  rfl
theorem rd_c3 (S : jSt n L h0 H y k m z) : F_X5_count k 3 = some (0, nI (zcnt (fun p => nI p < m 8 (9 * p + 5)) n)) := by
  have e : zcnt (fun p => nI p < m 8 (9 * p + 5)) n = zcnt (fun p => nI p < k 24 p) n := zcnt_congr n (fun p hp => by
    have := jSt_k24 S hp
    exact ⟨fun q => by rw [← this]; exact q, fun q => by rw [this]; exact q⟩)
  rw [e]
  refine rd_cw (w := 3) (by decide) ?_
  show F_X4_countFact_62 15 k = _
  have := co_v (B := 15) (k := k) (n := n) (fun p h1 h2 => ((S.1.2.2.2.2.2.1 rfl).1.1 p h1 h2).1) S.1.1.1
  simp only [F_X4_countFact_62, this, pz_bind]
theorem rd_c4 (S : jSt n L h0 H y k m z) : F_X5_count k 4 = some (0, nI L) := by
  rw [← show k 16 0 = nI L from S.1.2.2.1.2.1]
  exact rd_cw (w := 4) (by decide) rfl
theorem rd_c5 (S : jSt n L h0 H y k m z) : F_X5_count k 5 = some (0, nI (zcnt (fun l => m 9 (4 * l + 2) = -1) L)) := by
  refine rd_cw (w := 5) (by decide) ?_
  show F_X4_countFact_78 15 k = _
  simp only [F_X4_countFact_78, jSt_nu S, pz_bind]
/-! whom one had best marry -/
theorem rd_be (S : jSt n L h0 H y k m z) (hy : y < 2 ^ 30) (hp : p < n) : ∃ g, F_X5_best k (nI p) = some (0, g) ∧ (g = -1 ∨ ∃ q, q < n ∧ g = nI q ∧ jCan k p q) := by
  have hn := S.1.1.1
  have hk := S.1.1.2.1
  obtain ⟨⟨g, u⟩, h1, h2⟩ := pz_loop10 (α := Int32 × Int32) (fun g i u => F_X5_best_12 k g (nI p) u.1 u.2 (nI i)) (fun u => some (0, u.1)) n (fun i u => u.1 = -1 ∨ ∃ q, q < n ∧ u.1 = nI q ∧ jCan k p q)
    (fun u _ g => by simp only [F_X5_best_12, F_X5_best_69, hk, pz_cT (show n < 2 ^ 31 by omega), if_true])
    (fun i u hi hI => by
      have c := pz_cF hi (show n < 2 ^ 31 by omega)
      obtain ⟨r, r1, -, r3⟩ := jcn_x S.2.2.2.2.1 S.1.1 (jSt_lv S hy) ((jSt_z0 S).trans S.2.2.1.symm) (fun p hp => (jR_p S.2.2.2.2.1 hp).2.2.2.2.2.2.1.trans (jSt_k24 S hp)) hp hi
      have wu := jSt_wu S (nI i)
      by_cases hw : nI (zws m (nI i) L) ≤ u.2
      · exact ⟨u, fun g => by simp only [F_X5_best_12, F_X5_best_24, F_X5_best_63, hk, c, if_false, wu, pz_bind, if_pos hw, nI_1], hI⟩
      · rcases r3 with ⟨rfl, hc⟩ | ⟨rfl, hc⟩
        · exact ⟨(nI i, nI (zws m (nI i) L)), fun g => by simp only [F_X5_best_12, F_X5_best_24, F_X5_best_44, F_X5_best_57, F_X5_best_63, hk, c, if_false, wu, pz_bind, if_neg hw, r1, pz_10, nI_1], Or.inr ⟨i, hi, rfl, hc⟩⟩
        · exact ⟨u, fun g => by simp only [F_X5_best_12, F_X5_best_24, F_X5_best_44, F_X5_best_63, hk, c, if_false, wu, pz_bind, if_neg hw, r1, pz_00, if_true, nI_1], hI⟩)
    (by omega) (a := (-1, -1)) (Or.inl rfl)
  refine ⟨g, ?_, h2⟩
  simp only [F_X5_best, F_X5_best_0, np_1 hn hk hp, pz_bind, pz_nz, if_true]
  exact h1
end ZS
