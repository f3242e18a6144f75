/-! A TURN OF THE LAW -/
theorem zcnt_one {A : Nat → Prop} {x : Nat} : ∀ n, (∀ c, c < n → A c → c = x) → zcnt A n ≤ 1 ∧ (n ≤ x → zcnt A n = 0)
  | 0, _ => ⟨Nat.zero_le _, fun _ => rfl⟩
  | n + 1, h => by
    obtain ⟨i1, i2⟩ := zcnt_one (A := A) (x := x) n (fun c hc => h c (by omega))
    by_cases q : A n
    · have e := h n (by omega) q
      rw [zcnt_s1 q, i2 (by omega)]
      exact ⟨by omega, fun g => by omega⟩
    · rw [zcnt_s0 q]; exact ⟨i1, fun g => i2 (by omega)⟩
/-- what was told of a land's heir -/
def jTd (n : Nat) (k0 m : kS) (l : Nat) (x : Int32) : Prop := ∀ r w, r < n → w ≤ 3 → m 9 (4 * l + 2) = nI r → m 9 (4 * l + 1) = nI w → zHV n 15 r k0 w x
noncomputable def jcg (m m' : kS) (l : Nat) : Int32 := if m' 9 (4 * l + 2) = m 9 (4 * l + 2) then 0 else 1
def jCf (m m' : kS) (f2 : Nat → Int32) (how l : Nat) : Prop := m' 9 (4 * l + 2) = m 9 (4 * l + 2) ∨ (m' 9 (4 * l + 2) ≠ m 9 (4 * l + 2) ∧ ((how = 10 ∧ m' 9 (4 * l + 2) = f2 l) ∨ how = 5 ∨ how = 6 ∨ how = 7 ∨ how = 9) ∧ jHd m m' l (m' 9 (4 * l + 2)))
section ZS
variable {i j n n' L L' h0 h1 H H' c p q w x r B B' y y' l ag Y s A U E N o how t : Nat} {k k0 k1 k2 k' m m' m2 z z' mc : kS} {v v1 v2 v3 h a b gv d a3 a4 a5 a10 a12 a13 a14 a15 a16 s0 : Int32} {f f1 f2 f3 xs xf : Nat → Int32} {P : Nat → Int32} {c22 : Int32 → kS → kS → Option (Unit × Nat × Nat)} {c160 : Int32 → Int32 → Int32 → Int32 → Int32 → Int32 → Int32 → (Nat → Int32) → Int32 → (Nat → Int32) → Int32 → (Nat → Int32) → kS → kS → Option (Unit × Nat × Nat)}
/-! ahead of an act: rulers, heirs, how many there were -/
theorem lb_68 (S0 : jSt n L h0 H y k0 m z) : ∀ (d i g : Nat) (k : kS) (f1 f2 f3 : Nat → Int32), i + d = L → d < g → jSt n L h0 H y k m z → zSame 15 k0 k → (∀ l, l < i → f1 l = m 9 (4 * l + 2) ∧ jTd n k0 m l (f2 l) ∧ f3 l = m 9 (4 * l + 3)) → ∃ k' g1 g2 g3, F_L_law_68 xs N c22 g a3 a4 (nI L) (nI i) (nI L) f1 (nI L) f2 (nI L) f3 k z = kadd (12 * d) (72 * d) (F_L_law_117 xs N c22 a3 a4 (nI L) (nI L) g1 (nI L) g2 (nI L) g3 k' z) ∧ jSt n L h0 H y k' m z ∧ zSame 15 k0 k' ∧ ∀ l, l < L → g1 l = m 9 (4 * l + 2) ∧ jTd n k0 m l (g2 l) ∧ g3 l = m 9 (4 * l + 3)
  | 0, i, g, k, f1, f2, f3, hd, hg, S, hs, hx => by
    have hL := S.2.2.2.2.1.2.1
    obtain ⟨g, rfl⟩ : ∃ x, g = x + 1 := ⟨g - 1, by omega⟩
    obtain rfl : i = L := by omega
    refine ⟨k, f1, f2, f3, ?_, S, hs, hx⟩
    show _ = kadd 0 0 _
    rw [pz_kadd0]
    simp only [F_L_law_68, pz_cT (show i < 2 ^ 31 by omega), if_true]
  | d + 1, i, g, k, f1, f2, f3, hd, hg, S, hs, hx => by
    have R := S.2.2.2.2.1
    have hL := R.2.1
    have hn := R.1
    obtain ⟨g, rfl⟩ : ∃ x, g = x + 1 := ⟨g - 1, by omega⟩
    have hi : i < L := by omega
    have cL : (nI L).toNatClampNeg = L := nI_clamp (by omega)
    obtain ⟨x, k1, r4, S1, hs1, hT⟩ : ∃ x k1, F_X5_land (nI i) 4 k = some ((0, x), k1) ∧ jSt n L h0 H y k1 m z ∧ zSame 15 k0 k1 ∧ jTd n k0 m i x := by
      rcases rd_l4 S hi with ⟨e, r4⟩ | ⟨p, w, hp, hw, e, e3, lp, r4⟩
      · exact ⟨-1, k, r4, S, hs, fun r w _ _ e2 _ => by rw [e] at e2; exact absurd e2.symm (pz_m1 (by omega))⟩
      · obtain ⟨x, mx, -, -, hv⟩ := hv_x (B := 15) k15 S0.1.1 (fun q hq _ => S0.1.2.1 q hq) hp hw
        obtain ⟨k1, g1, g2⟩ := hv.1 k hs
        refine ⟨x, k1, r4 _ _ g1, jSt_off S g2, zSame_tr hs (zSame_of g2), fun r w' hr hw' e4 e5 => ?_⟩
        rw [e, nI_eq (by omega) (by omega)] at e4
        rw [e3, nI_eq (by omega) (by omega)] at e5
        rw [← e4, ← e5]; exact hv
    obtain ⟨k', g1, g2, g3, e2, S2, hs2, hx2⟩ := lb_68 S0 d (i + 1) g k1 (upd f1 i (m 9 (4 * i + 2))) (upd f2 i x) (upd f3 i (m 9 (4 * i + 3))) (by omega) (by omega) S1 hs1 (fun l hl => by
      by_cases h : l = i
      · rw [h, pz_us, pz_us, pz_us]; exact ⟨rfl, hT, rfl⟩
      · rw [pz_un h, pz_un h, pz_un h]; exact hx l (by omega))
    refine ⟨k', g1, g2, g3, ?_, S2, hs2, hx2⟩
    have e0 : F_L_law_68 xs N c22 (g + 1) a3 a4 (nI L) (nI i) (nI L) f1 (nI L) f2 (nI L) f3 k z = kadd 4 24 (kadd 4 24 (kadd 4 24 (F_L_law_68 xs N c22 g a3 a4 (nI L) (nI (i + 1)) (nI L) (upd f1 i (m 9 (4 * i + 2))) (nI L) (upd f2 i x) (nI L) (upd f3 i (m 9 (4 * i + 3))) k1 z))) := by
      simp only [F_L_law_68, pz_cF hi (show L < 2 ^ 31 by omega), if_false, F_L_law_75, rd_l2 S hi, r4, rd_l5 S1 hi, pz_bind, pz_nz, not_true_eq_false, cL, jR_ngL R (hi), jR_clL R (hi), pz_ge (hi), or_self, if_false, nI_1]
    rw [e0, e2, pz_kadd, pz_kadd, pz_kadd]
    congr 1 <;> omega
/-! behind an act: which lands have another ruler -/
theorem lc_189 (R : jQ n L h0 P m z) (hl : l < L) (hc : (how = 10 ∧ v = f2 l) ∨ how = 5 ∨ how = 6 ∨ how = 7 ∨ how = 9) : F_L_law_189 xs N c22 c160 a3 a4 a5 (nI how) a10 (nI l) v (nI L) f1 (nI L) f2 (nI L) f3 k' z' = F_L_law_241 xs N c22 c160 a3 a4 a5 (nI how) (a10 + 1) (nI l) v (nI L) f1 (nI L) f2 (nI L) f3 k' z' := by
  have hL := R.2.1
  have cL : (nI L).toNatClampNeg = L := nI_clamp (by omega)
  rcases hc with ⟨rfl, e⟩ | rfl | rfl | rfl | rfl
  · have c1 : (nI 10 = 10) = True := eq_true rfl
    simp only [F_L_law_189, c1, if_true, F_L_law_199, cL, jR_ngL R (hl), jR_clL R (hl), pz_ge (hl), or_self, if_false, e]
  · have c1 : (nI 5 = 10) = False := eq_false (by decide)
    have c2 : (nI 5 = 5) = True := eq_true rfl
    simp only [F_L_law_189, c1, if_false, F_L_law_212, c2, if_true]
  · have c1 : (nI 6 = 10) = False := eq_false (by decide)
    have c2 : (nI 6 = 5) = False := eq_false (by decide)
    have c3 : (nI 6 = 6) = True := eq_true rfl
    simp only [F_L_law_189, c1, if_false, F_L_law_212, c2, F_L_law_218, c3, if_true]
  · have c1 : (nI 7 = 10) = False := eq_false (by decide)
    have c2 : (nI 7 = 5) = False := eq_false (by decide)
    have c3 : (nI 7 = 6) = False := eq_false (by decide)
    have c4 : (nI 7 = 7) = True := eq_true rfl
    simp only [F_L_law_189, c1, if_false, F_L_law_212, c2, F_L_law_218, c3, F_L_law_225, c4, if_true]
  · have c1 : (nI 9 = 10) = False := eq_false (by decide)
    have c2 : (nI 9 = 5) = False := eq_false (by decide)
    have c3 : (nI 9 = 6) = False := eq_false (by decide)
    have c4 : (nI 9 = 7) = False := eq_false (by decide)
    have c5 : (nI 9 = 9) = True := eq_true rfl
    simp only [F_L_law_189, c1, if_false, F_L_law_212, c2, F_L_law_218, c3, F_L_law_225, c4, F_L_law_232, c5, if_true]
theorem lc_167 (S : jSt n L h0 H y k m z) (S' : jSt n' L' h1 H' y' k' m' z') (hH : H < 2 ^ 29) (hH' : H' < 2 ^ 30) (hl : l < L) (hLL : L ≤ L') (e1 : f1 l = m 9 (4 * l + 2)) (e3 : f3 l = m 9 (4 * l + 3)) (hc : jCf m m' f2 how l) : ∃ c s, F_L_law_167 xs N c22 c160 a3 a4 (nI L) (nI how) a10 (nI l) (nI L) f1 (nI L) f2 (nI L) f3 k' z' = kadd c s (F_L_law_331 xs N c22 c160 a3 a4 (nI L) (nI how) (a10 + jcg m m' l) (nI l) (nI L) f1 (nI L) f2 (nI L) f3 k' z') ∧ c ≤ 16 ∧ s ≤ 96 := by
  have R := S.2.2.2.2.1
  have hL := R.2.1
  have hn := R.1
  have hl' : l < L' := by omega
  have cL : (nI L).toNatClampNeg = L := nI_clamp (by omega)
  have r2 := rd_l2 S' hl'
  by_cases same : m' 9 (4 * l + 2) = m 9 (4 * l + 2)
  · refine ⟨4, 24, ?_, by omega, by omega⟩
    have j0 : jcg m m' l = 0 := if_pos same
    rw [j0, Int32.add_zero]
    simp only [F_L_law_167, r2, pz_bind, pz_nz, not_true_eq_false, if_false, cL, jR_ngL R (hl), jR_clL R (hl), pz_ge (hl), or_self, if_false, e1, same, if_true, F_L_law_186]
  · obtain ⟨-, hok, d1, d2, d3, d4⟩ := hc.resolve_left same
    have j0 : jcg m m' l = 1 := if_neg same
    have ne : (m' 9 (4 * l + 2) = f1 l) = False := eq_false (by rw [e1]; exact same)
    rw [j0]
    have e0 : F_L_law_167 xs N c22 c160 a3 a4 (nI L) (nI how) a10 (nI l) (nI L) f1 (nI L) f2 (nI L) f3 k' z' = kadd 4 24 (F_L_law_241 xs N c22 c160 a3 a4 (nI L) (nI how) (a10 + 1) (nI l) (m' 9 (4 * l + 2)) (nI L) f1 (nI L) f2 (nI L) f3 k' z') := by
      simp only [F_L_law_167, r2, pz_bind, pz_nz, not_true_eq_false, if_false, cL, jR_ngL R (hl), jR_clL R (hl), pz_ge (hl), or_self, if_false, ne, lc_189 R hl hok]
    rw [e0]
    obtain ⟨-, -, g, x3, -, x5, -⟩ := S.2.1.1 l hl
    have x3 : g ≤ H := x3
    have r5 := rd_l5 S' hl'
    have c0 : ((0 : Int32) ≤ -1) = False := eq_false (by decide)
    rcases d4 with ⟨v1, v3, v10⟩ | ⟨v1, v3, v10, v11⟩
    · -- nobody rules it now
      obtain ⟨g', y1, y2, y3, y4⟩ := (S.2.2.2.2.2.2.2.2.2.2.1 l hl).resolve_left (fun e => same (v1.trans e.symm))
      have old : m' 10 (15 * l + 0) = m 9 (4 * l + 2) := (v10 0 (by decide)).trans y4
      have ru := rd_ru (w := 0) S' hH' hl' (v3.trans y3) (by omega) (by omega)
      have ru : F_X5_ruled k' (nI l) 0 = some (0, m' 10 (15 * l + 0)) := ru
      rw [old] at ru
      have s3 : (m' 9 (4 * l + 3) = f3 l + 0) = True := eq_true (by rw [Int32.add_zero, e3, v3])
      refine ⟨4 + (4 + 4), 24 + (24 + 24), ?_, by omega, by omega⟩
      rw [← pz_kadd, ← pz_kadd, v1]
      congr 1
      simp only [F_L_law_241, r5, pz_bind, pz_nz, not_true_eq_false, if_false, cL, jR_ngL R (hl), jR_clL R (hl), pz_ge (hl), or_self, if_false, c0, F_L_law_258, F_L_law_263, s3, if_true, F_L_law_267, pz_mn, F_L_law_309, F_L_law_314, ru, e1]
    · obtain ⟨q, hq, eq⟩ : ∃ q, q < n' ∧ m' 9 (4 * l + 2) = nI q := by
        rcases jSt_rl S' hl' with e | ⟨q, hq, e, -⟩
        · exact absurd e v1
        · exact ⟨q, hq, e⟩
      have hn' := S'.1.1.1
      have cq : ((0 : Int32) ≤ nI q) = True := eq_true (nI_pos' (by omega))
      have nq : (nI q < 0) = False := pz_n0 (by omega)
      have g1 : m' 9 (4 * l + 3) = nI (g + 1) := by rw [v3, x5, nI_1]
      have ru0 := rd_ru (w := 0) S' hH' hl' g1 (by omega) (by omega)
      have ru0 : F_X5_ruled k' (nI l) 0 = some (0, m' 10 (15 * l)) := ru0
      rw [v10, eq] at ru0
      have s3 : (m' 9 (4 * l + 3) = f3 l + 1) = True := eq_true (by rw [e3, v3])
      by_cases old : m 9 (4 * l + 2) = -1
      · refine ⟨4 + (4 + 4), 24 + (24 + 24), ?_, by omega, by omega⟩
        rw [← pz_kadd, ← pz_kadd, eq]
        congr 1
        simp only [F_L_law_241, r5, pz_bind, pz_nz, not_true_eq_false, if_false, cL, jR_ngL R (hl), jR_clL R (hl), pz_ge (hl), or_self, if_false, cq, if_true, F_L_law_262, F_L_law_263, s3, F_L_law_267, nq, F_L_law_272, ru0, F_L_law_284, e1, old, pz_mn, F_L_law_309]
      · obtain ⟨g', y1, y2, y3, y4⟩ := (S.2.2.2.2.2.2.2.2.2.2.1 l hl).resolve_left old
        have hgg : g = g' := by rw [y3, nI_eq (by omega) (by omega)] at x5; omega
        have ru1 := rd_ru (w := 1) S' hH' hl' g1 (by omega) (by omega)
        have ru1 : F_X5_ruled k' (nI l) 1 = some (0, m' 10 (15 * l + (0 + 1))) := ru1
        rw [v11 0 (by decide)] at ru1
        have ru1 : F_X5_ruled k' (nI l) 1 = some (0, m 10 (15 * l)) := ru1
        rw [y4] at ru1
        have no : (m 9 (4 * l + 2) < 0) = False := by
          rcases jSt_rl S hl with e | ⟨u, hu, e, -⟩
          · exact absurd e old
          · rw [e]; exact pz_n0 (by omega)
        refine ⟨4 + (4 + (4 + 4)), 24 + (24 + (24 + 24)), ?_, by omega, by omega⟩
        rw [← pz_kadd, ← pz_kadd, ← pz_kadd, eq]
        congr 1
        simp only [F_L_law_241, r5, pz_bind, pz_nz, not_true_eq_false, if_false, cL, jR_ngL R (hl), jR_clL R (hl), pz_ge (hl), or_self, if_false, cq, if_true, F_L_law_262, F_L_law_263, s3, F_L_law_267, nq, F_L_law_272, ru0, F_L_law_284, e1, no, F_L_law_292, ru1, F_L_law_309]
theorem lc_160 (S : jSt n L h0 H y k m z) (S' : jSt n' L' h1 H' y' k' m' z') (hH : H < 2 ^ 29) (hH' : H' < 2 ^ 30) (hLL : L ≤ L') (hf : ∀ l, l < L → f1 l = m 9 (4 * l + 2) ∧ f3 l = m 9 (4 * l + 3) ∧ jCf m m' f2 how l) : ∀ (d i g : Nat), i + d = L → d < g → ∃ c s, F_L_law_160 xs N c22 g a3 a4 (nI L) (nI how) (nI (zcnt (fun l => m' 9 (4 * l + 2) ≠ m 9 (4 * l + 2)) i)) (nI i) (nI L) f1 (nI L) f2 (nI L) f3 k' z' = kadd c s (F_L_law_337 xs N c22 a3 a4 (nI how) (nI (zcnt (fun l => m' 9 (4 * l + 2) ≠ m 9 (4 * l + 2)) L)) k' z') ∧ c ≤ 16 * d ∧ s ≤ 96 * d
  | 0, i, g, hd, hg => by
    have hL := S.2.2.2.2.1.2.1
    obtain ⟨g, rfl⟩ : ∃ x, g = x + 1 := ⟨g - 1, by omega⟩
    obtain rfl : i = L := by omega
    refine ⟨0, 0, ?_, by omega, by omega⟩
    rw [pz_kadd0]
    simp only [F_L_law_160, pz_cT (show i < 2 ^ 31 by omega), if_true]
  | d + 1, i, g, hd, hg => by
    have hL := S.2.2.2.2.1.2.1
    obtain ⟨g, rfl⟩ : ∃ x, g = x + 1 := ⟨g - 1, by omega⟩
    have hi : i < L := by omega
    obtain ⟨q1, q3, q4⟩ := hf i hi
    obtain ⟨c1, s1, e1, b1, b2⟩ := lc_167 (xs := xs) (N := N) (c22 := c22) (c160 := F_L_law_160 xs N c22 g) (a3 := a3) (a4 := a4) (a10 := nI (zcnt (fun l => m' 9 (4 * l + 2) ≠ m 9 (4 * l + 2)) i)) S S' hH hH' hi hLL q1 q3 q4
    obtain ⟨c2, s2, e2, b3, b4⟩ := lc_160 S S' hH hH' hLL hf d (i + 1) g (by omega) (by omega)
    refine ⟨c1 + c2, s1 + s2, ?_, by omega, by omega⟩
    have u1 : nI (zcnt (fun l => m' 9 (4 * l + 2) ≠ m 9 (4 * l + 2)) i) + jcg m m' i = nI (zcnt (fun l => m' 9 (4 * l + 2) ≠ m 9 (4 * l + 2)) (i + 1)) := by
      unfold jcg
      by_cases h5 : m' 9 (4 * i + 2) = m 9 (4 * i + 2)
      · rw [if_pos h5, Int32.add_zero, zcnt_s0 (A := fun l => m' 9 (4 * l + 2) ≠ m 9 (4 * l + 2)) (fun q => q h5)]
      · rw [if_neg h5, nI_1, zcnt_s1 (A := fun l => m' 9 (4 * l + 2) ≠ m 9 (4 * l + 2)) h5]
    rw [← pz_kadd, ← e2]
    have e0 : F_L_law_160 xs N c22 (g + 1) a3 a4 (nI L) (nI how) (nI (zcnt (fun l => m' 9 (4 * l + 2) ≠ m 9 (4 * l + 2)) i)) (nI i) (nI L) f1 (nI L) f2 (nI L) f3 k' z' = F_L_law_167 xs N c22 (F_L_law_160 xs N c22 g) a3 a4 (nI L) (nI how) (nI (zcnt (fun l => m' 9 (4 * l + 2) ≠ m 9 (4 * l + 2)) i)) (nI i) (nI L) f1 (nI L) f2 (nI L) f3 k' z' := by
      simp only [F_L_law_160, pz_cF hi (show L < 2 ^ 31 by omega), if_false]
    rw [e0, e1]
    show kadd c1 s1 (F_L_law_160 xs N c22 g a3 a4 (nI L) (nI how) (nI (zcnt (fun l => m' 9 (4 * l + 2) ≠ m 9 (4 * l + 2)) i) + jcg m m' i) (nI i + 1) (nI L) f1 (nI L) f2 (nI L) f3 k' z') = _
    rw [u1, nI_1]
end ZS
