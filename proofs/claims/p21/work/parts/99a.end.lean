/-! THE PURE THEOREM, AND THE START -/
theorem jG_0 : jG 0 0 0 0 0 zk0 zm0 jS0 := by
  have k24 : zk0 24 = fm := if_pos (by omega)
  have k25 : zk0 25 = fm := if_pos (by omega)
  have k29 : zk0 29 = fm := if_pos (by omega)
  have k39 : zk0 39 = fm := if_pos (by omega)
  have k20 : zk0 20 = fun _ => 0 := if_neg (by omega)
  have k21 : zk0 21 = fun _ => 0 := if_neg (by omega)
  have no : ∀ {p : Nat}, ¬ p < 0 := fun h => absurd h (Nat.not_lt_zero _)
  refine ⟨⟨⟨⟨by decide, rfl, rfl, fun p h => absurd h no, fun p h => absurd h no, fun p h => absurd h no, fun a b h => absurd h no⟩, fun p h => absurd h no, ⟨by decide, rfl, rfl, rfl, fun l h => absurd h no⟩, fun p h => absurd h no, fun l h => absurd h no, fun _ => ⟨⟨fun p _ hp => ⟨by rw [k24]; exact if_pos hp, by rw [k25]; exact if_pos hp, by rw [k29]; exact if_pos hp⟩, fun p h => absurd h no, fun p h => absurd h no⟩, fun p h => absurd h no⟩, fun h => absurd h (by decide)⟩, ⟨fun l h => absurd h no, fun l _ _ => ⟨by rw [k20], by rw [k21]⟩⟩, rfl, fun p hp => by rw [k39]; exact if_pos hp, ⟨by decide, by decide, by decide, ⟨rfl, rfl, rfl, rfl, fun i h => absurd h no, fun i _ => rfl, fun l h => absurd h no, fun l _ => rfl⟩, rfl, fun p h => absurd h no, fun l h => absurd h no, ⟨fun p h => absurd h no, fun l h => absurd h no⟩, fun l h => absurd h no⟩, ⟨fun p h => absurd h no, fun p x h => absurd h no, fun p x h => absurd h no, fun p q h => absurd h no, fun p h => absurd h no, fun l h => absurd h no, fun p h => absurd h no⟩⟩, Nat.zero_le _, Nat.le_refl _, fun _ => rfl, fun h => absurd h (by decide), Nat.le_refl _, Nat.le_refl _, fun q a b h => absurd h no⟩
theorem jsum {n L A : Nat} (h : n + L ≤ 40) (hL : L ≤ 12) (hA : A ≤ n) : A * jDc L 369 + 41 * n + L * (90 + 3 * 369) ≤ 389000 ∧ A * jDs L 369 + 250 * n + L * (512 + 3 * 369) ≤ 1800000 := by
  have h1 : A * jDc L 369 ≤ n * jDc L 369 := Nat.mul_le_mul_right _ hA
  have h2 : A * jDs L 369 ≤ n * jDs L 369 := Nat.mul_le_mul_right _ hA
  have e1 : jDc L 369 = 1 + L * 1111 := rfl
  have e2 : jDs L 369 = L + L * 1107 + L * 4000 := rfl
  rw [e1] at h1 ⊢
  rw [e2] at h2 ⊢
  have : L = 0 ∨ L = 1 ∨ L = 2 ∨ L = 3 ∨ L = 4 ∨ L = 5 ∨ L = 6 ∨ L = 7 ∨ L = 8 ∨ L = 9 ∨ L = 10 ∨ L = 11 ∨ L = 12 := by omega
  rcases this with rfl | rfl | rfl | rfl | rfl | rfl | rfl | rfl | rfl | rfl | rfl | rfl | rfl <;> omega
/-- on every script the world is built, the law's checks hold, and all of it takes no more than this -/
theorem jpure (xs : Nat → Int32) (N : Nat) : ∃ (k z : kS) (mc ms uc us : Nat), F_L_build xs N zk0 = some ((k, z), mc, ms) ∧ F_L_law_20 xs N k z = some ((), uc, us) ∧ mc + uc ≤ 474000 ∧ ms + us ≤ 2400000 := by
  obtain ⟨k, z, m, n, L, h, y, c1, s1, e1, G1, p1, p2⟩ := jbuild_l xs N 26 0 kN 0 0 0 0 zk0 zm0 jS0 (by decide) (by decide) jG_0
  obtain ⟨k2, z2, m2, n2, L2, h2, y2, c2, s2, e2, G2, p3, p4⟩ := lloop xs N 14 0 kN n L h y k m z (by decide) (by decide) G1
  have yr := jYr_le 40 (by decide)
  obtain ⟨S, g1, g2, g3, g4, g5, g6, g7⟩ := G2
  have hL := S.2.2.2.2.1.2.1
  obtain ⟨k3, c3, s3, e3, p5, p6⟩ := is_x S (by omega) (by decide) (J := 369) (fun k' S' => Nat.le_trans (Nat.le_trans (jmx_w S' (jPr_cg S.1.1 S'.1.1 (fun _ _ => rfl) (fun _ _ => rfl) g7)) g5) (jWm_le 40 (by decide)))
  have fin : F_L_law_1217 xs N k2 z2 = some ((), c3, s3) := by
    simp only [F_L_law_1217, e3, pz_bind, not_true_eq_false, if_false, pz_kadds, Nat.add_zero]
  obtain ⟨q1, q2⟩ := jsum (A := n2 - jAl n2 m2) g2 hL (Nat.sub_le _ _)
  have z1 : jPc 0 0 zm0 = 0 := Nat.zero_mul _
  have z2 : jPs 0 0 zm0 = 0 := Nat.zero_mul _
  have d1 : jPc n2 L2 m2 = (n2 - jAl n2 m2) * jDc L2 369 := rfl
  have d2 : jPs n2 L2 m2 = (n2 - jAl n2 m2) * jDs L2 369 := rfl
  refine ⟨k, z, 3 + c1, 3 + s1, c2 + c3, s2 + s3, ?_, ?_, by omega, by omega⟩
  · have e1 : F_L_build_10 xs N kN 0 zk0 jS0 = _ := e1
    simp only [F_L_build, F_L_build_0, e1, pz_kadds]
  · have e2 : F_L_law_22 xs N kN 0 k z = _ := e2
    simp only [F_L_law_20, e2, fin, pz_kadds]
theorem whole_start {p : Program} {e : Env} {s : State} {m : MethodId} {below : List Frame} {meth : Method} {c : Code} (l : Launch) (hflags : l.flags = flags0) {b L : Nat} {xs : Nat → Int32} (hL : L ≤ 260) (C0 : lw_At p s m meth c b L xs) : W p l e room_1 s m #[Value.ref b] below meth c s.heap [] 0 0 (lw_Z below #[Value.ref b] s) (entryFrame m ([Value.ref b] : List Value).toArray 24) := by
  obtain ⟨k, z, mc, ms, uc, us, h1, h2, h3, h4⟩ := jpure xs L
  exact whole_start_of l hflags hL C0 ⟨k, z, mc, ms, uc, us, h1, h2, by omega, by omega⟩
