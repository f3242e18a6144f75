/-! THE CALLS, on both sides: digest -/
section ZJ
variable {n p q a b c d e j x r L w l y Y : Nat} {k k1 k0 k' m m1 m' : kS} {v t v1 v2 v3 lv gv : Int32} {B P : Nat} {f : Nat → Int32}
theorem pz_litT {N : Nat} {M : Int32} (hM : M = nI N) (h : N < 2 ^ 31) : (M ≤ nI N) = True := by rw [hM]; exact pz_cT h
theorem pz_litF {N i : Nat} {M : Int32} (hM : M = nI N) (hi : i < N) (h : N < 2 ^ 31) : (M ≤ nI i) = False := by rw [hM]; exact pz_cF hi h
/-- the facts of one person -/
theorem dg_p {hf : Nat → Nat} (hR : zRel 15 n L k m) (hX : zXl L hf k m) (hp : p < n) (s : Int64) : ∃ s', (∀ c34, F_X5_digest_45 c34 s (nI p) k = c34 s' (nI (p + 1)) k) ∧ ∀ c38, F_X6_digest_46 c38 s (nI p) m = c38 s' (nI (p + 1)) m := by
  obtain ⟨b, b', g1, g2, rfl⟩ := pz_loop20g (α := Int64) (α' := Int64) (γ := (Int64 → Int32 → kS → Option (Int64 × kS)) → Option (Int64 × kS)) (γ' := (Int64 → Int32 → kS → Option (Int64 × kS)) → Option (Int64 × kS))
    (fun g i a c34 => F_X5_digest_48 c34 g a (nI p) (nI i) k) (fun g i a c38 => F_X6_digest_49 c38 g a (nI p) (nI i) m) (fun a c34 => c34 a (nI (p + 1)) k) (fun a c38 => c38 a (nI (p + 1)) m) 10 (fun _ a a' => a = a')
    (fun a a' _ => ⟨fun g => funext fun c34 => by simp only [F_X5_digest_48, pz_litT (M := 10) (N := 10) rfl (by decide), if_true, F_X5_digest_77, nI_1], fun g => funext fun c38 => by simp only [F_X6_digest_49, pz_litT (M := 10) (N := 10) rfl (by decide), if_true, F_X6_digest_77, nI_1]⟩)
    (fun i a a' hi e => by
      subst e
      have c := pz_litF (M := 10) (N := 10) rfl hi (by decide)
      obtain ⟨r, r1, r2⟩ := pf_x hR hX hp hi
      exact ⟨a * 31 + r.toInt64, a * 31 + r.toInt64, fun g => funext fun c34 => by simp only [F_X5_digest_48, c, if_false, F_X5_digest_55, r1, pz_bind, F_X5_digested, F_X5_digested_0, nI_1], fun g => funext fun c38 => by simp only [F_X6_digest_49, c, if_false, F_X6_digest_56, r2, pz_bind, nI_1], rfl⟩)
    (by decide) (a := s) (a' := s) rfl
  refine ⟨b, fun c34 => ?_, fun c38 => ?_⟩
  · simp only [F_X5_digest_45]
    exact congrFun g1 c34
  · simp only [F_X6_digest_46]
    exact congrFun g2 c38
/-- the facts of one land, and its rulers that were -/
theorem dg_l {hf : Nat → Nat} (hR : zRel 15 n L k m) (hX : zXl L hf k m) (hl : l < L) (hb : hf l < 2 ^ 31) (s : Int64) : ∃ s' k' m', F_X5_digestedLand s (nI l) k = some (s', k') ∧ (∀ c85, F_X6_digest_93 c85 s (nI l) m = c85 s' (nI (l + 1)) m') ∧ zOffB 15 k k' ∧ zOff m m' := by
  have hL := hR.2.2.1.1
  have l12 : l < 12 := by omega
  obtain ⟨⟨s1, k1⟩, ⟨s1', m1⟩, g1, g2, g3, g4, g5⟩ := pz_loop20g (α := Int64 × kS) (α' := Int64 × kS) (γ := Option (Int64 × kS)) (γ' := (Int64 → Int32 → kS → Option (Int64 × kS)) → Option (Int64 × kS))
    (fun g i a => F_X5_digestedLand_6 g (nI l) a.1 (nI i) a.2) (fun g i a c85 => F_X6_digest_96 c85 g a.1 (nI l) (nI i) a.2) (fun a => F_X5_digestedLand_37 (nI l) a.1 a.2) (fun a c85 => F_X6_digest_124 c85 a.1 (nI l) a.2) 6 (fun _ a a' => a.1 = a'.1 ∧ zOffB 15 k a.2 ∧ zOff m a'.2)
    (fun a a' _ => ⟨fun g => by simp only [F_X5_digestedLand_6, pz_litT (M := 6) (N := 6) rfl (by decide), if_true], fun g => funext fun c85 => by simp only [F_X6_digest_96, pz_litT (M := 6) (N := 6) rfl (by decide), if_true]⟩)
    (fun i a a' hi hI => by
      obtain ⟨a, k1⟩ := a
      obtain ⟨a', m1⟩ := a'
      obtain ⟨rfl, i2, i3⟩ := hI
      have i2 : zOffB 15 k k1 := i2
      have i3 : zOff m m1 := i3
      have c := pz_litF (M := 6) (N := 6) rfl hi (by decide)
      obtain ⟨r, k2, m2, r1, r2, r3, r4⟩ := lf_x (zRel_off k15 hR i2 i3) (zXl_off hL hX i2 i3) hl hi
      exact ⟨(a * 31 + r.toInt64, k2), (a * 31 + r.toInt64, m2), fun g => by simp only [F_X5_digestedLand_6, c, if_false, F_X5_digestedLand_13, r1, pz_bind, F_X5_digested, F_X5_digested_0, nI_1], fun g => funext fun c85 => by simp only [F_X6_digest_96, c, if_false, F_X6_digest_103, r2, pz_bind, nI_1], rfl, i2.tr r3, i3.tr r4⟩)
    (by decide) (a := (s, k)) (a' := (s, m)) ⟨rfl, zOffB.rf 15 k, zOff.rf m⟩
  have g3 : s1 = s1' := g3
  subst g3
  have g4 : zOffB 15 k k1 := g4
  have g5 : zOff m m1 := g5
  obtain ⟨h, e1, e2, e3⟩ := ke_x (zXl_off hL hX g4 g5) hL hl hb
  obtain ⟨z, hz⟩ : ∃ z, z = min h 15 := ⟨_, rfl⟩
  rw [← hz] at e1 e2 e3
  have e21 : k1 (15 + 6) l = nI z := e1
  obtain ⟨s2, s2', q1, q2, rfl⟩ := pz_loop20g (α := Int64) (α' := Int64) (γ := Option (Int64 × kS)) (γ' := (Int64 → Int32 → kS → Option (Int64 × kS)) → Option (Int64 × kS))
    (fun g i a => F_X5_digestedLand_40 g (nI l) a (nI i) k1) (fun g i a c85 => F_X6_digest_127 c85 g a (nI l) (nI i) m1) (fun a => some (a, k1)) (fun a c85 => c85 a (nI (l + 1)) m1) z (fun _ a a' => a = a')
    (fun a a' _ => ⟨fun g => by simp only [F_X5_digestedLand_40, pz_n0 (show l < 2 ^ 31 by omega), nI_clamp (show l < 2 ^ 31 by omega), pz_ge (show l < 12 by omega), or_self, false_or, if_false, e21, pz_cT (show z < 2 ^ 31 by omega), if_true, F_X5_digestedLand_86], fun g => funext fun c85 => by simp only [F_X6_digest_127, e2, pz_bind, pz_cT (show z < 2 ^ 31 by omega), if_true, F_X6_digest_163, nI_1]⟩)
    (fun i a a' hi e => by
      subst e
      have c := pz_cF hi (show z < 2 ^ 31 by omega)
      have i15 : i < 15 := by omega
      have kp : kpb 15 = 45 := rfl
      exact ⟨a * 31 + (k1 (45 + l) i).toInt64, a * 31 + (k1 (45 + l) i).toInt64, fun g => by simp only [F_X5_digestedLand_40, pz_n0 (show l < 2 ^ 31 by omega), nI_clamp (show l < 2 ^ 31 by omega), pz_ge (show l < 12 by omega), or_self, false_or, if_false, e21, c, if_false, F_X5_digestedLand_57, pz_n0 (show i < 2 ^ 31 by omega), nI_clamp (show i < 2 ^ 31 by omega), pz_ge (show i < 15 by omega), or_self, false_or, if_false, kp, pz_bind, F_X5_digested, F_X5_digested_0, nI_1], fun g => funext fun c85 => by simp only [F_X6_digest_127, e2, pz_bind, c, if_false, F_X6_digest_137, pz_15w, pz_n0 (show 15 * l + i < 2 ^ 31 by omega), nI_clamp (show 15 * l + i < 2 ^ 31 by omega), pz_ge (show 15 * l + i < 180 by omega), or_self, e3 i hi, nI_1], rfl⟩)
    (by omega) (a := s1) (a' := s1) rfl
  refine ⟨s2, k1, m1, ?_, fun c85 => ?_, g4, g5⟩
  · simp only [F_X5_digestedLand, F_X5_digestedLand_0]
    refine g1.trans ?_
    simp only [F_X5_digestedLand_37]
    exact q1
  · simp only [F_X6_digest_93]
    refine (congrFun g2 c85).trans ?_
    simp only [F_X6_digest_124]
    exact congrFun q2 c85
theorem zM_digest (hA : zAll c k m) (hc : c ≤ 600) : ∃ s k' m', F_X5_digest k = some (s, k') ∧ F_X6_digest m = some (s, m') ∧ zAll (c + 1) k' m' := by
  have hA' := hA
  obtain ⟨n, L, y, hR, hX, hy, hy2, hAh⟩ := hA
  have hR0 := zRel_thr (v := 0) hR
  have hX0 := zXl_thr (v := 0) hR.2.2.1.1 hX
  have hn := hR.1.1
  have hL := hR.2.2.1.1
  have hk := hR.1.2.1
  have hm : thr 0 m 7 1 = nI n := hR0.1.2.2.1
  obtain ⟨s1, s1', g1, g2, rfl⟩ := pz_loop20 (α := Int64) (α' := Int64) (β := Int64 × kS) (β' := Int64 × kS) (fun g i a => F_X5_digest_6 g a (nI i) k) (fun g i a => F_X6_digest_11 g a (nI i) (thr 0 m)) (fun a => F_X5_digest_32 a k) (fun a => F_X6_digest_36 a (thr 0 m)) 8 (fun _ a a' => a = a')
    (fun a a' _ => ⟨fun g => by simp only [F_X5_digest_6, pz_litT (M := 8) (N := 8) rfl (by decide), if_true], fun g => by simp only [F_X6_digest_11, pz_litT (M := 8) (N := 8) rfl (by decide), if_true]⟩)
    (fun i a a' hi e => by
      subst e
      have c := pz_litF (M := 8) (N := 8) rfl hi (by decide)
      obtain ⟨r, r1, r2⟩ := cf_x hR0 hi
      exact ⟨a * 31 + r.toInt64, a * 31 + r.toInt64, fun g => by simp only [F_X5_digest_6, c, if_false, F_X5_digest_12, r1, pz_bind, F_X5_digested, F_X5_digested_0, nI_1], fun g => by simp only [F_X6_digest_11, c, if_false, F_X6_digest_17, r2, pz_bind, nI_1], rfl⟩)
    (by decide) (a := 887) (a' := 887) rfl
  obtain ⟨s2, s2', g3, g4, rfl⟩ := pz_loop20 (α := Int64) (α' := Int64) (β := Int64 × kS) (β' := Int64 × kS) (fun g i a => F_X5_digest_34 g a (nI i) k) (fun g i a => F_X6_digest_38 g a (nI i) (thr 0 m)) (fun a => F_X5_digest_83 a k) (fun a => F_X6_digest_83 a (thr 0 m)) n (fun _ a a' => a = a')
    (fun a a' _ => ⟨fun g => by simp only [F_X5_digest_34, hk, pz_cT (show n < 2 ^ 31 by omega), if_true], fun g => by simp only [F_X6_digest_38, hm, pz_cT (show n < 2 ^ 31 by omega), if_true]⟩)
    (fun i a a' hi e => by
      subst e
      have c := pz_cF hi (show n < 2 ^ 31 by omega)
      obtain ⟨s', r1, r2⟩ := dg_p hR0 hX0 hi a
      exact ⟨s', s', fun g => by simp only [F_X5_digest_34, hk, c, if_false, r1], fun g => by simp only [F_X6_digest_38, hm, c, if_false, r2], rfl⟩)
    (by omega) (a := s1) (a' := s1) rfl
  obtain ⟨⟨s3, k3⟩, ⟨s3', m3⟩, g5, g6, g7, g8, g9⟩ := pz_loop20 (α := Int64 × kS) (α' := Int64 × kS) (β := Int64 × kS) (β' := Int64 × kS) (fun g i a => F_X5_digest_85 g a.1 (nI i) a.2) (fun g i a => F_X6_digest_85 g a.1 (nI i) a.2) (fun a => some a) (fun a => some a) L (fun _ a a' => a.1 = a'.1 ∧ zOffB 15 k a.2 ∧ zOff (thr 0 m) a'.2)
    (fun a a' hI => by
      have e1 : a.2 (15 + 1) 0 = nI L := by rw [hI.2.1 (15 + 1) (by decide) (by decide)]; exact hR.2.2.1.2.1
      have e2 : a'.2 7 2 = nI L := by rw [hI.2.2 7 (by decide) (by decide)]; exact hR0.2.2.1.2.2.1
      exact ⟨fun g => by simp only [F_X5_digest_85, e1, pz_cT (show L < 2 ^ 31 by omega), if_true, F_X5_digest_112], fun g => by simp only [F_X6_digest_85, e2, pz_cT (show L < 2 ^ 31 by omega), if_true, F_X6_digest_169]⟩)
    (fun i a a' hi hI => by
      obtain ⟨a, k1⟩ := a
      obtain ⟨a', m1⟩ := a'
      obtain ⟨rfl, i2, i3⟩ := hI
      have i2 : zOffB 15 k k1 := i2
      have i3 : zOff (thr 0 m) m1 := i3
      have e1 : k1 (15 + 1) 0 = nI L := by rw [i2 (15 + 1) (by decide) (by decide)]; exact hR.2.2.1.2.1
      have e2 : m1 7 2 = nI L := by rw [i3 7 (by decide) (by decide)]; exact hR0.2.2.1.2.2.1
      have c := pz_cF hi (show L < 2 ^ 31 by omega)
      obtain ⟨s', k2, m2, r1, r2, r3, r4⟩ := dg_l (zRel_off k15 hR0 i2 i3) (zXl_off hL hX0 i2 i3) hi (by omega) a
      exact ⟨(s', k2), (s', m2), fun g => by simp only [F_X5_digest_85, e1, c, if_false, F_X5_digest_99, r1, pz_bind, nI_1], fun g => by simp only [F_X6_digest_85, e2, c, if_false, r2], rfl, i2.tr r3, i3.tr r4⟩)
    (by omega) (a := (s2, k)) (a' := (s2, thr 0 m)) ⟨rfl, zOffB.rf 15 k, zOff.rf _⟩
  have g7 : s3 = s3' := g7
  subst g7
  refine ⟨s3, k3, m3, ?_, ?_, zAll_up (zAll_off (zAll_thr hA') g8 g9)⟩
  · have e0 : F_X5_digest k = F_X5_digest_32 s1 k := g1
    have e1 : F_X5_digest_32 s1 k = F_X5_digest_83 s2 k := g3
    have e2 : F_X5_digest_83 s2 k = some (s3, k3) := g5
    rw [e0, e1, e2]
  · have e0 : F_X6_digest m = F_X6_digest_36 s1 (thr 0 m) := g2
    have e1 : F_X6_digest_36 s1 (thr 0 m) = F_X6_digest_83 s2 (thr 0 m) := g4
    have e2 : F_X6_digest_83 s2 (thr 0 m) = some (s3, m3) := g6
    rw [e0, e1, e2]
end ZJ
