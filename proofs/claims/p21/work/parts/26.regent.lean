/-! REGENT AND BEST -/
section ZG
variable {n p q a b c d e j x r L : Nat} {k m m' : kS} {v w : Int32} {B P : Nat}
theorem pz_s0 {a b : Nat} (ha : a < 2 ^ 30) (hb : b < 2 ^ 30) (h : b < a) : ¬ nI a - nI b < 0 ∧ ¬ nI a - nI b = 0 := by
  have e := pk_sub_toInt ha hb
  have z : (0 : Int32).toInt = 0 := rfl
  constructor
  · rw [Int32.lt_iff_toInt_lt, e, z]; omega
  · intro h2
    rw [h2, z] at e
    omega
theorem pz_sx {a : Nat} : ¬ nI a - nI a < 0 ∧ nI a - nI a = 0 := by
  have e : nI a - nI a = 0 := Int32.sub_self _
  rw [e]
  exact ⟨by decide, rfl⟩
theorem ne_x (hK : zKin n k m) (hL : zLiv n B k m) (hy : k B 0 = m 11 0) (hr : r < n) : ∃ h m', F_X4_nearestGrown B k (nI r) = some h ∧ F_X6_regent_61 (nI r) m = some (h, m') ∧ zOff m m' := by
  have hK' := hK
  obtain ⟨hn, hk, hm, hE, hMl, hPar, hSt⟩ := hK
  obtain ⟨⟨b, b2⟩, ⟨b', m'⟩, h1, h2, h3, h4, -⟩ := pz_loop20 (α := Int32 × Int32) (α' := Int32 × kS) (fun g i a => F_X4_nearestGrown_7 B k g (nI r) a.1 a.2 (nI i)) (fun g i a => F_X6_regent_67 g (nI r) a.1 (nI i) a.2) (fun a => some a.1) (fun a => some a) n (fun i a a' => a.1 = a'.1 ∧ zOff m a'.2 ∧ (a.1 = -1 ∨ ∃ q t, q < n ∧ a.1 = nI q ∧ t ≤ 80 ∧ k (69 + q) r = nI t ∧ a.2 = nI t))
    (fun a a' hI => ⟨fun g => by
      simp only [F_X4_nearestGrown_93, F_X4_nearestGrown_87, F_X4_nearestGrown_74, F_X4_nearestGrown_68, F_X4_nearestGrown_62, F_X4_nearestGrown_57, F_X4_nearestGrown_46, F_X4_nearestGrown_37, F_X4_nearestGrown_19, F_X4_nearestGrown_99, F_X4_nearestGrown_7, F_X4_nearestGrown_0, F_X4_nearestGrown, hk, pz_cT (show n < 2 ^ 31 by omega), if_true], fun g => by
      have e : a'.2 7 1 = nI n := by rw [hI.2.1 7 (by decide) (by decide)]; exact hm
      simp only [F_X6_regent_15, F_X6_regent_44, F_X6_regent_59, F_X6_regent_164, F_X6_regent_109, F_X6_regent_160, F_X6_regent_149, F_X6_regent_144, F_X6_regent_137, F_X6_regent_118, F_X6_regent_122, F_X6_regent_112, F_X6_regent_96, F_X6_regent_85, F_X6_regent_76, F_X6_regent_170, F_X6_regent_67, F_X6_regent_61, F_X6_regent_51, F_X6_regent_46, F_X6_regent_36, F_X6_regent_17, F_X6_regent_5, F_X6_regent_0, F_X6_regent, e, pz_cT (show n < 2 ^ 31 by omega), if_true]⟩)
    (fun i a a' hi hI => by
      obtain ⟨a', m1⟩ := a'
      obtain ⟨a, al⟩ := a
      obtain ⟨rfl, i2, i3⟩ := hI
      have i2 : zOff m m1 := i2
      have i3 : a = -1 ∨ ∃ q t, q < n ∧ a = nI q ∧ t ≤ 80 ∧ k (69 + q) r = nI t ∧ al = nI t := i3
      have e : m1 7 1 = nI n := by rw [i2 7 (by decide) (by decide)]; exact hm
      have c := pz_cF hi (show n < 2 ^ 31 by omega)
      have hK1 := zKin_off hK' i2
      have h40 : i < 40 := by omega
      have e8 : m1 8 (9 * i + 2) = m 8 (9 * i + 2) := by rw [i2 8 (by decide) (by decide)]
      have ea : m1 11 0 - m1 8 (9 * i + 1) = k B 0 - k 3 i := by rw [(hK1.2.2.2.1 i hi).2.1, hy, i2 11 (by decide) (by decide)]
      obtain ⟨t, m2, s1, s2, s3⟩ := st_x hK1 hi hr
      have hK2 := zKin_off hK1 s2
      rcases hL i hi with ⟨l1, l2⟩ | ⟨l1, l2⟩
      · by_cases g16 : k B 0 - k 3 i < 16
        · rcases s3 with ⟨u1, u2⟩ | ⟨t, u1, u2, rfl⟩
          · exact ⟨(a, al), (a, m1), fun g => by simp only [F_X4_nearestGrown_93, F_X4_nearestGrown_87, F_X4_nearestGrown_74, F_X4_nearestGrown_68, F_X4_nearestGrown_62, F_X4_nearestGrown_57, F_X4_nearestGrown_46, F_X4_nearestGrown_37, F_X4_nearestGrown_19, F_X4_nearestGrown_99, F_X4_nearestGrown_7, F_X4_nearestGrown_0, F_X4_nearestGrown, hk, c, if_false, sb_1 hn hk hi hr, u1, pz_bind, if_true, nI_1], fun g => by simp only [F_X6_regent_15, F_X6_regent_44, F_X6_regent_59, F_X6_regent_164, F_X6_regent_109, F_X6_regent_160, F_X6_regent_149, F_X6_regent_144, F_X6_regent_137, F_X6_regent_118, F_X6_regent_122, F_X6_regent_112, F_X6_regent_96, F_X6_regent_85, F_X6_regent_76, F_X6_regent_170, F_X6_regent_67, F_X6_regent_61, F_X6_regent_51, F_X6_regent_46, F_X6_regent_36, F_X6_regent_17, F_X6_regent_5, F_X6_regent_0, F_X6_regent, e, c, if_false, ri_1 h40 (e8.trans l2), ra_1 h40, ea, g16, pz_bind, pz_10, if_true, nI_1], rfl, i2, i3⟩
          · have cm : (nI t = -1) = False := pz_m1' (by omega)
            exact ⟨(a, al), (a, m1), fun g => by simp only [F_X4_nearestGrown_93, F_X4_nearestGrown_87, F_X4_nearestGrown_74, F_X4_nearestGrown_68, F_X4_nearestGrown_62, F_X4_nearestGrown_57, F_X4_nearestGrown_46, F_X4_nearestGrown_37, F_X4_nearestGrown_19, F_X4_nearestGrown_99, F_X4_nearestGrown_7, F_X4_nearestGrown_0, F_X4_nearestGrown, hk, c, if_false, sb_1 hn hk hi hr, u2, cm, li_1 hn hk hi l1, ag_1 hn hk hi, g16, pz_bind, pz_10, if_true, nI_1], fun g => by simp only [F_X6_regent_15, F_X6_regent_44, F_X6_regent_59, F_X6_regent_164, F_X6_regent_109, F_X6_regent_160, F_X6_regent_149, F_X6_regent_144, F_X6_regent_137, F_X6_regent_118, F_X6_regent_122, F_X6_regent_112, F_X6_regent_96, F_X6_regent_85, F_X6_regent_76, F_X6_regent_170, F_X6_regent_67, F_X6_regent_61, F_X6_regent_51, F_X6_regent_46, F_X6_regent_36, F_X6_regent_17, F_X6_regent_5, F_X6_regent_0, F_X6_regent, e, c, if_false, ri_1 h40 (e8.trans l2), ra_1 h40, ea, g16, pz_bind, pz_10, if_true, nI_1], rfl, i2, i3⟩
        · rcases s3 with ⟨u1, rfl⟩ | ⟨t, u1, u2, rfl⟩
          · have c9 : (nI 999 = 999) = True := eq_true rfl
            exact ⟨(a, al), (a, m2), fun g => by simp only [F_X4_nearestGrown_93, F_X4_nearestGrown_87, F_X4_nearestGrown_74, F_X4_nearestGrown_68, F_X4_nearestGrown_62, F_X4_nearestGrown_57, F_X4_nearestGrown_46, F_X4_nearestGrown_37, F_X4_nearestGrown_19, F_X4_nearestGrown_99, F_X4_nearestGrown_7, F_X4_nearestGrown_0, F_X4_nearestGrown, hk, c, if_false, sb_1 hn hk hi hr, u1, pz_bind, if_true, nI_1], fun g => by simp only [F_X6_regent_15, F_X6_regent_44, F_X6_regent_59, F_X6_regent_164, F_X6_regent_109, F_X6_regent_160, F_X6_regent_149, F_X6_regent_144, F_X6_regent_137, F_X6_regent_118, F_X6_regent_122, F_X6_regent_112, F_X6_regent_96, F_X6_regent_85, F_X6_regent_76, F_X6_regent_170, F_X6_regent_67, F_X6_regent_61, F_X6_regent_51, F_X6_regent_46, F_X6_regent_36, F_X6_regent_17, F_X6_regent_5, F_X6_regent_0, F_X6_regent, e, c, if_false, ri_1 h40 (e8.trans l2), ra_1 h40, ea, g16, pz_bind, pz_10, s1, c9, if_true, nI_1], rfl, i2.tr s2, i3⟩
          · have cm : (nI t = -1) = False := pz_m1' (by omega)
            have c9 : (nI t = 999) = False := eq_false (fun e => by have := (nI_eq (show t < 2 ^ 31 by omega) (show 999 < 2 ^ 31 by decide)).mp e; omega)
            have ok : (nI i = -1 ∨ ∃ q t', q < n ∧ nI i = nI q ∧ t' ≤ 80 ∧ k (69 + q) r = nI t' ∧ nI t = nI t') := Or.inr ⟨i, t, hi, rfl, u1, u2, rfl⟩
            rcases i3 with rfl | ⟨q, tq, q1, rfl, q2, q3, rfl⟩
            · exact ⟨(nI i, nI t), (nI i, m2), fun g => by simp only [F_X4_nearestGrown_93, F_X4_nearestGrown_87, F_X4_nearestGrown_74, F_X4_nearestGrown_68, F_X4_nearestGrown_62, F_X4_nearestGrown_57, F_X4_nearestGrown_46, F_X4_nearestGrown_37, F_X4_nearestGrown_19, F_X4_nearestGrown_99, F_X4_nearestGrown_7, F_X4_nearestGrown_0, F_X4_nearestGrown, hk, c, if_false, sb_1 hn hk hi hr, u2, cm, li_1 hn hk hi l1, ag_1 hn hk hi, g16, pz_bind, pz_10, if_true, nI_1], fun g => by simp only [F_X6_regent_15, F_X6_regent_44, F_X6_regent_59, F_X6_regent_164, F_X6_regent_109, F_X6_regent_160, F_X6_regent_149, F_X6_regent_144, F_X6_regent_137, F_X6_regent_118, F_X6_regent_122, F_X6_regent_112, F_X6_regent_96, F_X6_regent_85, F_X6_regent_76, F_X6_regent_170, F_X6_regent_67, F_X6_regent_61, F_X6_regent_51, F_X6_regent_46, F_X6_regent_36, F_X6_regent_17, F_X6_regent_5, F_X6_regent_0, F_X6_regent, e, c, if_false, ri_1 h40 (e8.trans l2), ra_1 h40, ea, g16, pz_bind, pz_10, s1, c9, if_true, pz_mn, nI_1], rfl, i2.tr s2, ok⟩
            · have cq : (nI q = -1) = False := pz_m1' (by omega)
              obtain ⟨t3, m3, v1, v2, v3⟩ := st_x hK2 hi hr
              obtain ⟨t4, m4, v4, v5, v6⟩ := st_x (zKin_off hK2 v2) q1 hr
              have o4 := ((i2.tr s2).tr v2).tr v5
              have t3e : t3 = nI t := by
                rcases v3 with ⟨w1, _⟩ | ⟨w, w1, w2, rfl⟩
                · exact absurd (u2.symm.trans w1) (pz_m1 (by omega))
                · exact w2.symm.trans u2
              have t4e : t4 = nI tq := by
                rcases v6 with ⟨w1, _⟩ | ⟨w, w1, w2, rfl⟩
                · exact absurd (q3.symm.trans w1) (pz_m1 (by omega))
                · exact w2.symm.trans q3
              subst t3e
              subst t4e
              have ok2 : (nI q = -1 ∨ ∃ q' t', q' < n ∧ nI q = nI q' ∧ t' ≤ 80 ∧ k (69 + q') r = nI t' ∧ nI tq = nI t') := Or.inr ⟨q, tq, q1, rfl, q2, q3, rfl⟩
              by_cases lt : t < tq
              · have d1 : (nI t < nI tq) = True := eq_true ((nI_ltI (by omega) (by omega)).mpr lt)
                have d2 : (nI t - nI tq < 0) = True := eq_true (pk_sneg (by omega) lt)
                exact ⟨(nI i, nI t), (nI i, m4), fun g => by simp only [F_X4_nearestGrown_93, F_X4_nearestGrown_87, F_X4_nearestGrown_74, F_X4_nearestGrown_68, F_X4_nearestGrown_62, F_X4_nearestGrown_57, F_X4_nearestGrown_46, F_X4_nearestGrown_37, F_X4_nearestGrown_19, F_X4_nearestGrown_99, F_X4_nearestGrown_7, F_X4_nearestGrown_0, F_X4_nearestGrown, hk, c, if_false, sb_1 hn hk hi hr, u2, cm, cq, li_1 hn hk hi l1, ag_1 hn hk hi, g16, pz_bind, pz_10, d1, if_true, nI_1], fun g => by simp only [F_X6_regent_15, F_X6_regent_44, F_X6_regent_59, F_X6_regent_164, F_X6_regent_109, F_X6_regent_160, F_X6_regent_149, F_X6_regent_144, F_X6_regent_137, F_X6_regent_118, F_X6_regent_122, F_X6_regent_112, F_X6_regent_96, F_X6_regent_85, F_X6_regent_76, F_X6_regent_170, F_X6_regent_67, F_X6_regent_61, F_X6_regent_51, F_X6_regent_46, F_X6_regent_36, F_X6_regent_17, F_X6_regent_5, F_X6_regent_0, F_X6_regent, e, c, if_false, ri_1 h40 (e8.trans l2), ra_1 h40, ea, g16, pz_bind, pz_10, s1, c9, cq, v1, v4, d2, if_true, nI_1], rfl, o4, ok⟩
              · have d1 : (nI t < nI tq) = False := eq_false (fun h => lt ((nI_ltI (by omega) (by omega)).mp h))
                by_cases eqt : t = tq
                · subst eqt
                  have d2 : (nI t - nI t < 0) = False := eq_false pz_sx.1
                  have d3 : (nI t - nI t = 0) = True := eq_true pz_sx.2
                  obtain ⟨y, y1, y2, y3⟩ := be_x (m := m4) hn hi q1 (zKin_off hK' o4).2.2.2.1
                  rcases y3 with ⟨rfl, _⟩ | ⟨rfl, _⟩
                  · exact ⟨(nI i, nI t), (nI i, m4), fun g => by simp only [F_X4_nearestGrown_93, F_X4_nearestGrown_87, F_X4_nearestGrown_74, F_X4_nearestGrown_68, F_X4_nearestGrown_62, F_X4_nearestGrown_57, F_X4_nearestGrown_46, F_X4_nearestGrown_37, F_X4_nearestGrown_19, F_X4_nearestGrown_99, F_X4_nearestGrown_7, F_X4_nearestGrown_0, F_X4_nearestGrown, hk, c, if_false, sb_1 hn hk hi hr, u2, cm, cq, li_1 hn hk hi l1, ag_1 hn hk hi, g16, pz_bind, pz_10, d1, y1, if_true, nI_1], fun g => by simp only [F_X6_regent_15, F_X6_regent_44, F_X6_regent_59, F_X6_regent_164, F_X6_regent_109, F_X6_regent_160, F_X6_regent_149, F_X6_regent_144, F_X6_regent_137, F_X6_regent_118, F_X6_regent_122, F_X6_regent_112, F_X6_regent_96, F_X6_regent_85, F_X6_regent_76, F_X6_regent_170, F_X6_regent_67, F_X6_regent_61, F_X6_regent_51, F_X6_regent_46, F_X6_regent_36, F_X6_regent_17, F_X6_regent_5, F_X6_regent_0, F_X6_regent, e, c, if_false, ri_1 h40 (e8.trans l2), ra_1 h40, ea, g16, pz_bind, pz_10, s1, c9, cq, v1, v4, d2, d3, y2, if_true, nI_1], rfl, o4, ok⟩
                  · exact ⟨(nI q, nI t), (nI q, m4), fun g => by simp only [F_X4_nearestGrown_93, F_X4_nearestGrown_87, F_X4_nearestGrown_74, F_X4_nearestGrown_68, F_X4_nearestGrown_62, F_X4_nearestGrown_57, F_X4_nearestGrown_46, F_X4_nearestGrown_37, F_X4_nearestGrown_19, F_X4_nearestGrown_99, F_X4_nearestGrown_7, F_X4_nearestGrown_0, F_X4_nearestGrown, hk, c, if_false, sb_1 hn hk hi hr, u2, cm, cq, li_1 hn hk hi l1, ag_1 hn hk hi, g16, pz_bind, pz_10, d1, y1, pz_00, if_true, nI_1], fun g => by simp only [F_X6_regent_15, F_X6_regent_44, F_X6_regent_59, F_X6_regent_164, F_X6_regent_109, F_X6_regent_160, F_X6_regent_149, F_X6_regent_144, F_X6_regent_137, F_X6_regent_118, F_X6_regent_122, F_X6_regent_112, F_X6_regent_96, F_X6_regent_85, F_X6_regent_76, F_X6_regent_170, F_X6_regent_67, F_X6_regent_61, F_X6_regent_51, F_X6_regent_46, F_X6_regent_36, F_X6_regent_17, F_X6_regent_5, F_X6_regent_0, F_X6_regent, e, c, if_false, ri_1 h40 (e8.trans l2), ra_1 h40, ea, g16, pz_bind, pz_10, s1, c9, cq, v1, v4, d2, d3, y2, pz_00, if_true, nI_1], rfl, o4, ok2⟩
                · have d0 := pz_s0 (show t < 2 ^ 30 by omega) (show tq < 2 ^ 30 by omega) (show tq < t by omega)
                  have d2 : (nI t - nI tq < 0) = False := eq_false d0.1
                  have d3 : (nI t - nI tq = 0) = False := eq_false d0.2
                  have d4 : (nI t = nI tq) = False := eq_false (fun h => eqt ((nI_eq (by omega) (by omega)).mp h))
                  exact ⟨(nI q, nI tq), (nI q, m4), fun g => by simp only [F_X4_nearestGrown_93, F_X4_nearestGrown_87, F_X4_nearestGrown_74, F_X4_nearestGrown_68, F_X4_nearestGrown_62, F_X4_nearestGrown_57, F_X4_nearestGrown_46, F_X4_nearestGrown_37, F_X4_nearestGrown_19, F_X4_nearestGrown_99, F_X4_nearestGrown_7, F_X4_nearestGrown_0, F_X4_nearestGrown, hk, c, if_false, sb_1 hn hk hi hr, u2, cm, cq, li_1 hn hk hi l1, ag_1 hn hk hi, g16, pz_bind, pz_10, d1, d4, nI_1], fun g => by simp only [F_X6_regent_15, F_X6_regent_44, F_X6_regent_59, F_X6_regent_164, F_X6_regent_109, F_X6_regent_160, F_X6_regent_149, F_X6_regent_144, F_X6_regent_137, F_X6_regent_118, F_X6_regent_122, F_X6_regent_112, F_X6_regent_96, F_X6_regent_85, F_X6_regent_76, F_X6_regent_170, F_X6_regent_67, F_X6_regent_61, F_X6_regent_51, F_X6_regent_46, F_X6_regent_36, F_X6_regent_17, F_X6_regent_5, F_X6_regent_0, F_X6_regent, e, c, if_false, ri_1 h40 (e8.trans l2), ra_1 h40, ea, g16, pz_bind, pz_10, s1, c9, cq, v1, v4, d2, d3, nI_1], rfl, o4, ok2⟩
      · rcases s3 with ⟨u1, u2⟩ | ⟨t, u1, u2, rfl⟩
        · exact ⟨(a, al), (a, m1), fun g => by simp only [F_X4_nearestGrown_93, F_X4_nearestGrown_87, F_X4_nearestGrown_74, F_X4_nearestGrown_68, F_X4_nearestGrown_62, F_X4_nearestGrown_57, F_X4_nearestGrown_46, F_X4_nearestGrown_37, F_X4_nearestGrown_19, F_X4_nearestGrown_99, F_X4_nearestGrown_7, F_X4_nearestGrown_0, F_X4_nearestGrown, hk, c, if_false, sb_1 hn hk hi hr, u1, pz_bind, if_true, nI_1], fun g => by simp only [F_X6_regent_15, F_X6_regent_44, F_X6_regent_59, F_X6_regent_164, F_X6_regent_109, F_X6_regent_160, F_X6_regent_149, F_X6_regent_144, F_X6_regent_137, F_X6_regent_118, F_X6_regent_122, F_X6_regent_112, F_X6_regent_96, F_X6_regent_85, F_X6_regent_76, F_X6_regent_170, F_X6_regent_67, F_X6_regent_61, F_X6_regent_51, F_X6_regent_46, F_X6_regent_36, F_X6_regent_17, F_X6_regent_5, F_X6_regent_0, F_X6_regent, e, c, if_false, ri_0 h40 (e8.trans l2), pz_bind, pz_00, if_true, nI_1], rfl, i2, i3⟩
        · have cm : (nI t = -1) = False := pz_m1' (by omega)
          exact ⟨(a, al), (a, m1), fun g => by simp only [F_X4_nearestGrown_93, F_X4_nearestGrown_87, F_X4_nearestGrown_74, F_X4_nearestGrown_68, F_X4_nearestGrown_62, F_X4_nearestGrown_57, F_X4_nearestGrown_46, F_X4_nearestGrown_37, F_X4_nearestGrown_19, F_X4_nearestGrown_99, F_X4_nearestGrown_7, F_X4_nearestGrown_0, F_X4_nearestGrown, hk, c, if_false, sb_1 hn hk hi hr, u2, cm, li_0 hn hk hi l1, pz_bind, pz_00, if_true, nI_1], fun g => by simp only [F_X6_regent_15, F_X6_regent_44, F_X6_regent_59, F_X6_regent_164, F_X6_regent_109, F_X6_regent_160, F_X6_regent_149, F_X6_regent_144, F_X6_regent_137, F_X6_regent_118, F_X6_regent_122, F_X6_regent_112, F_X6_regent_96, F_X6_regent_85, F_X6_regent_76, F_X6_regent_170, F_X6_regent_67, F_X6_regent_61, F_X6_regent_51, F_X6_regent_46, F_X6_regent_36, F_X6_regent_17, F_X6_regent_5, F_X6_regent_0, F_X6_regent, e, c, if_false, ri_0 h40 (e8.trans l2), pz_bind, pz_00, if_true, nI_1], rfl, i2, i3⟩)
    (by omega) (a := ((-1), (-1))) (a' := ((-1), m)) ⟨rfl, zOff.rf m, Or.inl rfl⟩
  have h3 : b = b' := h3
  subst h3
  exact ⟨b, m', h1, h2, h4⟩
theorem rg_x (hK : zKin n k m) (hL : zLiv n B k m) (hy : k B 0 = m 11 0) (hr : r < n) (hl : k (B + 14) r = -1) : ∃ h m', F_X4_regentOf B k (nI r) = some h ∧ F_X6_regent (nI r) m = some (h, m') ∧ zOff m m' := by
  obtain ⟨h, m1, n1, n2, n3⟩ := ne_x hK hL hy hr
  obtain ⟨hn, hk, hm, hE, hMl, hPar, hSt⟩ := hK
  have h40 : r < 40 := by omega
  have ea := pz_sub16 (B := B) r hE hr hy
  have cr : (nI r = -1) = False := pz_m1' (by omega)
  obtain ⟨e1, e2, e3, e4⟩ := hE r hr
  by_cases g16 : k B 0 - k 3 r < 16
  · rcases hPar r hr with ⟨p1, p2⟩ | ⟨x, y, hx, hy2, p1, p2⟩
    · refine ⟨h, m1, ?_, ?_, n3⟩
      · have lm := li_m (B := B) (k := k) (n := n) (v := -1) hk (Or.inl (by decide))
        simp only [F_X4_regentOf, F_X4_regentOf_0, F_X4_regentOf_8, F_X4_regentOf_20, F_X4_regentOf_46, F_X4_regentOf_74, F_X4_regentOf_79, li_1 hn hk hr hl, ag_1 hn hk hr, g16, pz_n0 (show r < 2 ^ 31 by omega), nI_clamp (show r < 2 ^ 31 by omega), pz_ge (show r < 40 by omega), or_self, false_or, if_false, p1, p2, lm, n1, pz_bind, pz_10, pz_01, pz_00, pz_11, or_true, true_or, not_true_eq_false, if_false, if_true]
      · simp only [F_X6_regent, F_X6_regent_0, F_X6_regent_5, F_X6_regent_17, F_X6_regent_46, cr, ra_1 h40, ea, g16, pe_3 h40, pe_4 h40, e3, e4, p1, p2, n2, pz_bind, pz_10, pz_01, pz_00, pz_11, or_true, true_or, not_true_eq_false, if_false, if_true]
    · have cx : (nI x = -1) = False := pz_m1' (by omega)
      have cy : (nI y = -1) = False := pz_m1' (by omega)
      rcases hL x (by omega) with ⟨lx, lx2⟩ | ⟨lx, lx2⟩
      · refine ⟨nI x, m, ?_, ?_, zOff.rf m⟩
        · simp only [F_X4_regentOf, F_X4_regentOf_0, F_X4_regentOf_8, F_X4_regentOf_20, F_X4_regentOf_36, li_1 hn hk hr hl, ag_1 hn hk hr, g16, pz_n0 (show r < 2 ^ 31 by omega), nI_clamp (show r < 2 ^ 31 by omega), pz_ge (show r < 40 by omega), or_self, false_or, if_false, p1, p2, li_1 hn hk (show x < n by omega) lx, pz_bind, pz_10, pz_01, pz_00, pz_11, or_true, true_or, not_true_eq_false, if_false, if_true]
        · simp only [F_X6_regent, F_X6_regent_0, F_X6_regent_5, F_X6_regent_17, F_X6_regent_36, F_X6_regent_44, cr, cx, ra_1 h40, ea, g16, pe_3 h40, pe_4 h40, e3, e4, p1, p2, ri_1 (show x < 40 by omega) lx2, pz_bind, pz_10, pz_01, pz_00, pz_11, or_true, true_or, not_true_eq_false, if_false, if_true]
      · rcases hL y (by omega) with ⟨ly, ly2⟩ | ⟨ly, ly2⟩
        · refine ⟨nI y, m, ?_, ?_, zOff.rf m⟩
          · simp only [F_X4_regentOf, F_X4_regentOf_0, F_X4_regentOf_8, F_X4_regentOf_20, F_X4_regentOf_46, F_X4_regentOf_62, F_X4_regentOf_79, li_1 hn hk hr hl, ag_1 hn hk hr, g16, pz_n0 (show r < 2 ^ 31 by omega), nI_clamp (show r < 2 ^ 31 by omega), pz_ge (show r < 40 by omega), or_self, false_or, if_false, p1, p2, li_0 hn hk (show x < n by omega) lx, li_1 hn hk (show y < n by omega) ly, pz_bind, pz_10, pz_01, pz_00, pz_11, or_true, true_or, not_true_eq_false, if_false, if_true]
          · simp only [F_X6_regent, F_X6_regent_0, F_X6_regent_5, F_X6_regent_17, F_X6_regent_36, F_X6_regent_46, F_X6_regent_51, F_X6_regent_59, cr, cx, cy, ra_1 h40, ea, g16, pe_3 h40, pe_4 h40, e3, e4, p1, p2, ri_0 (show x < 40 by omega) lx2, ri_1 (show y < 40 by omega) ly2, pz_bind, pz_10, pz_01, pz_00, pz_11, or_true, true_or, not_true_eq_false, if_false, if_true]
        · refine ⟨h, m1, ?_, ?_, n3⟩
          · simp only [F_X4_regentOf, F_X4_regentOf_0, F_X4_regentOf_8, F_X4_regentOf_20, F_X4_regentOf_46, F_X4_regentOf_74, F_X4_regentOf_79, li_1 hn hk hr hl, ag_1 hn hk hr, g16, pz_n0 (show r < 2 ^ 31 by omega), nI_clamp (show r < 2 ^ 31 by omega), pz_ge (show r < 40 by omega), or_self, false_or, if_false, p1, p2, li_0 hn hk (show x < n by omega) lx, li_0 hn hk (show y < n by omega) ly, n1, pz_bind, pz_10, pz_01, pz_00, pz_11, or_true, true_or, not_true_eq_false, if_false, if_true]
          · simp only [F_X6_regent, F_X6_regent_0, F_X6_regent_5, F_X6_regent_17, F_X6_regent_36, F_X6_regent_46, F_X6_regent_51, cr, cx, cy, ra_1 h40, ea, g16, pe_3 h40, pe_4 h40, e3, e4, p1, p2, ri_0 (show x < 40 by omega) lx2, ri_0 (show y < 40 by omega) ly2, n2, pz_bind, pz_10, pz_01, pz_00, pz_11, or_true, true_or, not_true_eq_false, if_false, if_true]
  · refine ⟨-1, m, ?_, ?_, zOff.rf m⟩
    · simp only [F_X4_regentOf, F_X4_regentOf_0, F_X4_regentOf_8, F_X4_regentOf_18, li_1 hn hk hr hl, ag_1 hn hk hr, g16, pz_bind, pz_10, pz_01, pz_00, pz_11, or_true, true_or, not_true_eq_false, if_false, if_true]
    · simp only [F_X6_regent, F_X6_regent_0, F_X6_regent_5, F_X6_regent_15, cr, ra_1 h40, ea, g16, pz_bind, pz_10, pz_01, pz_00, pz_11, or_true, true_or, not_true_eq_false, if_false, if_true]
theorem rg_m (hk : k 1 0 = nI n) : F_X4_regentOf B k (-1) = some (-1) ∧ F_X6_regent (-1) m = some ((-1), m) := by
  constructor
  · simp only [F_X4_regentOf, F_X4_regentOf_0, F_X4_regentOf_18, li_m (B := B) (k := k) (n := n) (v := -1) hk (Or.inl (by decide)), pz_bind, pz_10, pz_01, pz_00, pz_11, or_true, true_or, not_true_eq_false, if_false, if_true]
  · simp only [F_X6_regent, F_X6_regent_0, F_X6_regent_15, if_true]
/-- best -/
theorem bt_x (hK : zKin n k m) (hL : zLiv n B k m) (hB : B = 15) (hy : k B 0 = m 11 0) (hS : ∀ p, p < n → m 8 (9 * p + 5) = k (B + 9) p) (hL12 : L ≤ 12) (hkL : k (B + 1) 0 = nI L) (hmL : m 7 2 = nI L) (hrl : ∀ l, l < L → m 9 (4 * l + 2) = k (B + 4) l) (hw : ∀ l, l < L → m 9 (4 * l) = k (B + 2) l ∧ ∃ t, t ≤ 50 ∧ k (B + 2) l = nI t) (hr : r < n) :
    ∃ h m', F_X5_best_12 k kN (nI r) (-1) (-1) 0 = some (0, h) ∧ F_X6_best_19 (nI r) m = some (h, m') ∧ zOff m m' := by
  subst hB
  have hK' := hK
  obtain ⟨hn, hk, hm, hE, hMl, hPar, hSt⟩ := hK
  obtain ⟨⟨b, b2⟩, ⟨b', m'⟩, h1, h2, h3, h4, -⟩ := pz_loop20 (α := Int32 × Int32) (α' := Int32 × kS) (β := Nat × Int32) (fun g i a => F_X5_best_12 k g (nI r) a.1 a.2 (nI i)) (fun g i a => F_X6_best_23 g (nI r) a.1 (nI i) a.2) (fun a => some (0, a.1)) (fun a => some a) n (fun i a a' => a.1 = a'.1 ∧ zOff m a'.2 ∧ ((a.1 = -1 ∧ a.2 = -1) ∨ ∃ q t, q < n ∧ a.1 = nI q ∧ t ≤ 600 ∧ F_X1_worthUnder 15 k (nI q) = some (nI t) ∧ a.2 = nI t))
    (fun a a' hI => ⟨fun g => by
      simp only [F_X5_best_63, F_X5_best_57, F_X5_best_44, F_X5_best_24, F_X5_best_69, F_X5_best_12, F_X5_best_0, F_X5_best, hk, pz_cT (show n < 2 ^ 31 by omega), if_true], fun g => by
      have e : a'.2 7 1 = nI n := by rw [hI.2.1 7 (by decide) (by decide)]; exact hm
      simp only [F_X6_best_13, F_X6_best_60, F_X6_best_58, F_X6_best_45, F_X6_best_40, F_X6_best_31, F_X6_best_66, F_X6_best_23, F_X6_best_19, F_X6_best_0, F_X6_best, e, pz_cT (show n < 2 ^ 31 by omega), if_true]⟩)
    (fun i a a' hi hI => by
      obtain ⟨a', m1⟩ := a'
      obtain ⟨a, al⟩ := a
      obtain ⟨rfl, i2, i3⟩ := hI
      have i2 : zOff m m1 := i2
      have i3 : (a = -1 ∧ al = -1) ∨ ∃ q t, q < n ∧ a = nI q ∧ t ≤ 600 ∧ F_X1_worthUnder 15 k (nI q) = some (nI t) ∧ al = nI t := i3
      have e : m1 7 1 = nI n := by rw [i2 7 (by decide) (by decide)]; exact hm
      have c := pz_cF hi (show n < 2 ^ 31 by omega)
      have hK1 := zKin_off hK' i2
      have x8 : m1 8 = m 8 := i2 8 (by decide) (by decide)
      obtain ⟨y, m2, s1, s2, s3, s4⟩ := mm_x hK1 (zLiv_off hL i2) (by rw [i2 11 (by decide) (by decide)]; exact hy) (by rw [x8]; exact hS) hr hi
      have o2 := i2.tr s3
      have wo : ∀ v, ∃ t, t ≤ 600 ∧ F_X1_worthUnder 15 k v = some (nI t) ∧ F_X6_worthOf m2 v = some (nI t) := fun v => wo_x hL12 hkL (by rw [o2 7 (by decide) (by decide)]; exact hmL) (by rw [o2 9 (by decide) (by decide)]; exact hrl) (by rw [o2 9 (by decide) (by decide)]; exact hw)
      obtain ⟨t, t1, t2, t3⟩ := wo (nI i)
      have ok : ((nI i = -1 ∧ nI t = -1) ∨ ∃ q t', q < n ∧ nI i = nI q ∧ t' ≤ 600 ∧ F_X1_worthUnder 15 k (nI q) = some (nI t') ∧ nI t = nI t') := Or.inr ⟨i, t, hi, rfl, t1, t2, rfl⟩
      rcases s4 with ⟨rfl, _⟩ | rfl
      · rcases i3 with ⟨rfl, rfl⟩ | ⟨q, tq, q1, rfl, q2, q3, rfl⟩
        · have cw : (nI t ≤ -1) = False := eq_false (fun h => by
            have h3 := Int32.le_iff_toInt_le.mp h
            rw [nI_toInt (by omega)] at h3
            have h4 : (-1 : Int32).toInt = -1 := by decide
            omega)
          exact ⟨(nI i, nI t), (nI i, m2), fun g => by simp only [F_X5_best_63, F_X5_best_57, F_X5_best_44, F_X5_best_24, F_X5_best_69, F_X5_best_12, F_X5_best_0, F_X5_best, hk, c, if_false, t2, cw, s1, pz_bind, pz_10, nI_1], fun g => by simp only [F_X6_best_13, F_X6_best_60, F_X6_best_58, F_X6_best_45, F_X6_best_40, F_X6_best_31, F_X6_best_66, F_X6_best_23, F_X6_best_19, F_X6_best_0, F_X6_best, e, c, if_false, s2, pz_bind, pz_10, if_true, nI_1], rfl, o2, ok⟩
        · have cq : (nI q = -1) = False := pz_m1' (by omega)
          obtain ⟨u, u1, u2, u3⟩ := wo (nI q)
          have eu : nI u = nI tq := Option.some.inj (u2.symm.trans q3)
          rw [eu] at u3
          by_cases g : nI t ≤ nI tq
          · exact ⟨(nI q, nI tq), (nI q, m2), fun g' => by simp only [F_X5_best_63, F_X5_best_57, F_X5_best_44, F_X5_best_24, F_X5_best_69, F_X5_best_12, F_X5_best_0, F_X5_best, hk, c, if_false, t2, g, pz_bind, if_true, nI_1], fun g' => by simp only [F_X6_best_13, F_X6_best_60, F_X6_best_58, F_X6_best_45, F_X6_best_40, F_X6_best_31, F_X6_best_66, F_X6_best_23, F_X6_best_19, F_X6_best_0, F_X6_best, e, c, if_false, s2, pz_bind, pz_10, cq, t3, u3, g, if_true, nI_1], rfl, o2, Or.inr ⟨q, tq, q1, rfl, q2, q3, rfl⟩⟩
          · exact ⟨(nI i, nI t), (nI i, m2), fun g' => by simp only [F_X5_best_63, F_X5_best_57, F_X5_best_44, F_X5_best_24, F_X5_best_69, F_X5_best_12, F_X5_best_0, F_X5_best, hk, c, if_false, t2, g, s1, pz_bind, pz_10, nI_1], fun g' => by simp only [F_X6_best_13, F_X6_best_60, F_X6_best_58, F_X6_best_45, F_X6_best_40, F_X6_best_31, F_X6_best_66, F_X6_best_23, F_X6_best_19, F_X6_best_0, F_X6_best, e, c, if_false, s2, pz_bind, pz_10, cq, t3, u3, g, nI_1], rfl, o2, ok⟩
      · refine ⟨(a, al), (a, m2), fun g' => ?_, fun g' => by simp only [F_X6_best_13, F_X6_best_60, F_X6_best_58, F_X6_best_45, F_X6_best_40, F_X6_best_31, F_X6_best_66, F_X6_best_23, F_X6_best_19, F_X6_best_0, F_X6_best, e, c, if_false, s2, pz_bind, pz_00, if_true, nI_1], rfl, o2, i3⟩
        by_cases g : nI t ≤ al
        · simp only [F_X5_best_63, F_X5_best_57, F_X5_best_44, F_X5_best_24, F_X5_best_69, F_X5_best_12, F_X5_best_0, F_X5_best, hk, c, if_false, t2, g, pz_bind, if_true, nI_1]
        · simp only [F_X5_best_63, F_X5_best_57, F_X5_best_44, F_X5_best_24, F_X5_best_69, F_X5_best_12, F_X5_best_0, F_X5_best, hk, c, if_false, t2, g, s1, pz_bind, pz_00, if_true, nI_1])
    (by omega) (a := ((-1), (-1))) (a' := ((-1), m)) ⟨rfl, zOff.rf m, Or.inl ⟨rfl, rfl⟩⟩
  have h3 : b = b' := h3
  subst h3
  exact ⟨b, m', h1, h2, h4⟩
end ZG
