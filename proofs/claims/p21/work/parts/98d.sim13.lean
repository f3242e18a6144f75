/-! SETLAW, in all three -/
section ZS
variable {n L h0 H c p q w r B y y' l ag : Nat} {k k' m m' z z' : kS} {v v1 v2 h a b t : Int32} {f : Nat → Int32} {P : Nat → Int32}
theorem jAll_of (S : jSt n L h0 (4100 * c) y k m z) (hy : y ≤ 100 * c) : zAll c k m := ⟨n, L, y, S.1, S.2.1, S.2.2.1, hy, S.2.2.2.1⟩
theorem jSt_of {n' L' y' h1 : Nat} (hA : zAll c k' m') (h1n : m' 7 1 = nI n') (h1L : m' 7 2 = nI L') (h1y : m' 11 0 = nI y') (hn : n' ≤ 40) (hL : L' ≤ 12) (hy : y' < 2 ^ 30) (hc : c ≤ 600) (R : jR n' L' h1 m' z') (hE : jEx n' L' y' k' m') : jSt n' L' h1 (4100 * c) y' k' m' z' := by
  obtain ⟨n, L, y, a1, a2, a3, a4, a5⟩ := hA
  have e1 : n = n' := (nI_eq (by have := a1.1.1; omega) (by omega)).mp (a1.1.2.2.1.symm.trans h1n)
  have e2 : L = L' := (nI_eq (by have := a1.2.2.1.1; omega) (by omega)).mp (a1.2.2.1.2.2.1.symm.trans h1L)
  have e3 : y = y' := (nI_eq (by omega) (by omega)).mp ((a3.symm.trans a1.2.2.1.2.2.2.1).trans h1y)
  subst e1; subst e2; subst e3
  exact ⟨a1, a2, a3, a5, R, hE⟩
theorem jlaw_st (S : jSt n L h0 (4100 * c) y k m z) (hy : y ≤ 100 * c) (hc : c < 600) (hl : l < L) (hw : w ≤ 3) : ∃ k' m', F_X5_setLaw (nI l) (nI w) k = some ((0, m 9 (4 * l + 1)), k') ∧ jSt n L h0 (4100 * (c + 1)) y k' m' (kst z (4 * l + 2) (upd (z (4 * l + 2)) 1 (nI w))) ∧ (∀ q, q ≠ 7 → q ≠ 9 → m' q = m q) ∧ (∀ l', m' 9 (4 * l') = m 9 (4 * l') ∧ m' 9 (4 * l' + 2) = m 9 (4 * l' + 2) ∧ m' 9 (4 * l' + 3) = m 9 (4 * l' + 3)) ∧ k' 4 = k 4 ∧ k' 5 = k 5 := by
  obtain ⟨code, r, k', b, m', z1, z2, z3, z4⟩ := zM_setLaw (v1 := nI l) (v2 := nI w) (jAll_of S hy)
  have R := S.2.2.2.2.1
  have hn := R.1
  have hL := R.2.1
  have l12 : l < 12 := by omega
  have hm : thr 0 m 7 2 = nI L := thr_2.trans S.1.2.2.1.2.2.1
  have b1 : ¬ nI w < 0 := nI_pos (by omega)
  have b2 : ¬ (3 : Int32) < nI w := nI_nlt (b := w) (a := 3) (by omega) (by decide)
  have i4 : 4 * nI l + 1 = nI (4 * l + 1) := pz_4 l 1
  have e9 : thr 0 m 9 = m 9 := thr_n (by decide)
  have g : F_X6_setLaw (nI l) (nI w) m = some (m 9 (4 * l + 1), kst (thr 0 m) 9 (upd (thr 0 m 9) (4 * l + 1) (nI w))) := by
    simp only [F_X6_setLaw, F_X6_setLaw_0, thr_e, il_1 hL hm hl, pz_bind, pz_10, if_false, F_X6_setLaw_19, isIn_1 (m := thr 0 m) b1 b2, F_X6_setLaw_34, la_1 l12, i4, pz_n0 (show 4 * l + 1 < 2 ^ 31 by omega), nI_clamp (show 4 * l + 1 < 2 ^ 31 by omega), pz_ge (show 4 * l + 1 < 48 by omega), or_self, e9]
  rw [z2] at g
  have g := Option.some.inj g
  have eb : b = m 9 (4 * l + 1) := congrArg (fun o => o.1) g
  have em : m' = kst (thr 0 m) 9 (upd (thr 0 m 9) (4 * l + 1) (nI w)) := congrArg (fun o => o.2) g
  have e7 : m' 7 0 = 0 := by rw [em, kst_ne _ _ (by decide), thr_0]
  have cls : F_X5_setLaw (nI l) (nI w) k = some ((0, k 18 l), kst k 18 (upd (k 18) l (nI w))) := by
    simp only [F_X5_setLaw, F_X5_setLaw_0, nl_1 hL S.1.2.2.1.2.1 hl, pz_bind, pz_nz, if_true, nw_1 (k := k) hw, pz_n0 (show l < 2 ^ 31 by omega), nI_clamp (show l < 2 ^ 31 by omega), pz_ge (show l < 12 by omega), or_self, false_or, if_false]
  rw [z1] at cls
  have cls := Option.some.inj cls
  have ec : code = 0 := congrArg (fun o => o.1.1) cls
  have ek : k' = kst k 18 (upd (k 18) l (nI w)) := congrArg (fun o => o.2) cls
  have er : r = m 9 (4 * l + 1) := by
    rcases z3 with ⟨-, h, -⟩ | ⟨h, -⟩ | ⟨h, -⟩ | ⟨h, -⟩
    · exact h.trans eb
    · rw [ec] at h; omega
    · rw [ec] at h; omega
    · rw [ec] at h; omega
  subst ec
  subst er
  have mq : ∀ q, q ≠ 7 → q ≠ 9 → m' q = m q := fun q h7 h9 => by rw [em, kst_ne _ _ h9, thr_n h7]
  have m9 : m' 9 = upd (m 9) (4 * l + 1) (nI w) := by rw [em, kst_eq, e9]
  have m9o : ∀ j, j ≠ 4 * l + 1 → m' 9 j = m 9 j := fun j hj => by rw [m9, pz_un hj]
  have zo : ∀ q, q ≠ 4 * l + 2 → (kst z (4 * l + 2) (upd (z (4 * l + 2)) 1 (nI w))) q = z q := fun q hq => kst_ne _ _ hq
  refine ⟨k', m', z1, jSt_of z4 ?_ ?_ ?_ hn hL (by omega) (by omega) ⟨hn, hL, R.2.2.1, jRa_cg (jR_a R) (zo 4 (by omega)) (zo 8 (by omega)) (zo 12 (by omega)) (zo 20 (by omega)), ?_, fun p hp => jRp_cg (jR_p R hp) (zo _ (by omega)) (fun _ _ => by rw [mq 8 (by decide) (by decide)]), fun l' hl' => ?_, ⟨fun p hp => ?_, fun l' hl' => ?_⟩, fun l' hl' => ?_⟩ ?_, mq, fun l' => ⟨m9o _ (by omega), m9o _ (by omega), m9o _ (by omega)⟩, ?_, ?_⟩
  · rw [em, kst_ne _ _ (by decide)]; exact thr_1.trans S.1.1.2.2.1
  · rw [em, kst_ne _ _ (by decide)]; exact hm
  · rw [mq 11 (by decide) (by decide)]; exact jSt_ye S
  · rw [zo 0 (by omega), mq 11 (by decide) (by decide)]; exact jR_y R
  · obtain ⟨a0, a1, a2, a3, a4⟩ := jR_lr R hl'
    by_cases e : l' = l
    · subst e
      refine ⟨?_, ?_, ?_, ?_, ?_⟩
      · rw [kst_eq, pz_un (by decide), m9o _ (by omega)]; exact a0
      · rw [kst_eq, pz_us, m9, pz_us]
      · rw [kst_eq, pz_un (by decide), m9o _ (by omega)]; exact a2
      · rw [zo 16 (by omega), m9o _ (by omega)]; exact a3
      · rw [zo 16 (by omega), zo _ (by omega), mq 10 (by decide) (by decide)]; exact a4
    · exact jRl_cg (jR_lr R hl') (zo _ (by omega)) (zo _ (by omega)) (by rw [zo 16 (by omega)]) (fun w hw => m9o _ (by omega)) (fun i _ => by rw [mq 10 (by decide) (by decide)])
  · rw [zo _ (by omega)]; exact (jR_c R).1 p hp
  · rw [zo (4 * l' + 3) (by omega)]
    by_cases e : l' = l
    · subst e; rw [kst_eq, pz_un (by decide)]; exact (jR_c R).2 l' hl'
    · rw [zo _ (by omega)]; exact (jR_c R).2 l' hl'
  · rw [zo 16 (by omega)]; exact jR_h R l' hl'
  · obtain ⟨x1, x2, x3, x4, x5, x6, x7⟩ := S.2.2.2.2.2
    have h8 : m' 8 = m 8 := mq 8 (by decide) (by decide)
    unfold jEx
    rw [h8]
    refine ⟨x1, x2, x3, fun p q hp hq e => ?_, x5, fun l' hl' => ?_, x7⟩
    · rw [ek, kst_ne _ _ (by omega)]; exact x4 p q hp hq e
    · rw [m9o _ (by omega), m9o _ (by omega), mq 10 (by decide) (by decide)]; exact x6 l' hl'
  · rw [ek]; exact kst_ne _ _ (by decide)
  · rw [ek]; exact kst_ne _ _ (by decide)
end ZS
