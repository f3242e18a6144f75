set_option maxHeartbeats 8000000 in
set_option maxRecDepth 100000 in
/-- THE LAW, from its entry -/
theorem whole_start {p : Program} {e : Env} {s : State} {m : MethodId} {below : List Frame} {meth : Method} {c : Code} (l : Launch) (hflags : l.flags = flags0) {b L : Nat} {xs : Nat → Int32} (hL : L ≤ 2048) (C0 : lw_At p s m meth c b L xs) : W p l e room_1 s m #[Value.ref b] below meth c s.heap [] 0 0 (lw_Z below #[Value.ref b] s) (entryFrame m ([Value.ref b] : List Value).toArray 9) := by
  obtain ⟨hx, hb, hr, hml, hown, hts, hX, hbl, hlocks, hgv⟩ := id C0
  have hstf : l.stackTraces = false := by
    unfold Launch.stackTraces
    rw [hflags]
    decide +kernel
  obtain ⟨D, cI, cZ, cO, cL, hKL⟩ := st_K hts
  have hK : va_K D vwCl (kT cI cZ cO) s := hKL.sub [0, 1, 2] rfl
  have hts' : ∀ w ∈ kWA, w.before #[Value.ref b] s = true := fun w hw => hts w (kWA_tbl w hw)
  have V : kV p s m #[Value.ref b] meth c cL_law RL 9 (some .boolean) D cI cZ cO := ⟨hx, hb, hml, hown, hts', hr, hlocks, hK⟩
  have hO := st_iX hts
  have h : iH (aL s) s s.heap [] D [] := ⟨fun k q h => by simp at h, ⟨fun i j p q h => by simp at h, fun k q h => by simp at h⟩, va_S.rf, aL_new⟩
  have hl := lv_entry ([.ref b]) (n := 9) (Nat.le_of_ble_eq_true rfl)
  rw [lg_entry_eq]
  generalize (lg_sl ([.ref b]) ++ List.replicate (9 - (lg_sl ([.ref b])).length) Slot.unset).toArray = ls at hl ⊢
  have hl : lv_has ls 9 [(0, .ref b)] := hl
  refine jr_new V h (ci := 5) (fs := [.null, .null, .null]) rfl kX5 tyX5 tyX5_ok kc_L_8 ki_X5 kz_X5 (fun j hj => by rcases (show j = 0 ∨ j = 1 ∨ j = 2 by omega) with rfl | rfl | rfl <;> rfl) (Nat.le_of_ble_eq_true rfl) (Nat.le_of_ble_eq_true rfl) dL_law_0 (fun q0 H h => ?_)
  refine lv_dup hx hb dL_law_3 rfl ?_
  refine jr_init (Wn := allW cI cZ cO) (ok := fun u => u 0 = q0) (rest := [.ref q0]) (as := []) (n := 0) V hO h (c_X5_init l q0 H.size) kd_yX5_init rfl rfl kz_X5 kl_L_68 kinst_yX5_init rfl (by decide +kernel) ⟨Nat.le_of_ble_eq_true rfl, Nat.le_of_ble_eq_true rfl⟩ rfl hl.1 (Nat.le_of_ble_eq_true rfl) ⟨Nat.le_of_ble_eq_true rfl, Nat.le_of_ble_eq_true rfl⟩ rfl dL_law_4 (fun u H locs hu h9 => ?_)
  subst hu
  have h := h9
  refine lv_astore_n (lv' := [(1, .ref (u 0)), (0, .ref b)]) hx hb dL_law_7 rfl hl (by decide) rfl (fun ls hl => ?_)
  refine jr_new V h (ci := 6) (fs := [.int 0, .int 0, .int 0, .null, .null, .null, .null, .null, .null, .null]) rfl kX6 tyX6 tyX6_ok kc_L_69 ki_X6 kz_X6 (fun j hj => by rcases (show j = 0 ∨ j = 1 ∨ j = 2 ∨ j = 3 ∨ j = 4 ∨ j = 5 ∨ j = 6 ∨ j = 7 ∨ j = 8 ∨ j = 9 by omega) with rfl | rfl | rfl | rfl | rfl | rfl | rfl | rfl | rfl | rfl <;> rfl) (Nat.le_of_ble_eq_true rfl) (Nat.le_of_ble_eq_true rfl) dL_law_8 (fun q1 H h => ?_)
  refine lv_dup hx hb dL_law_11 rfl ?_
  refine jr_init (Wn := modelW cI) (ok := fun v => v 0 = q1) (rest := [.ref q1]) (as := []) (n := 0) V hO h (c_X6_init l q1 H.size) kd_yX6_init rfl rfl kz_X6 kl_L_71 kinst_yX6_init rfl (by decide +kernel) ⟨Nat.le_of_ble_eq_true rfl, Nat.le_of_ble_eq_true rfl⟩ rfl hl.1 (Nat.le_of_ble_eq_true rfl) ⟨Nat.le_of_ble_eq_true rfl, Nat.le_of_ble_eq_true rfl⟩ rfl dL_law_12 (fun v H locs hv h9 => ?_)
  subst hv
  have h := h9
  refine lv_astore_n (lv' := [(2, .ref (v 0)), (1, .ref (u 0)), (0, .ref b)]) hx hb dL_law_15 rfl hl (by decide) rfl (fun ls hl => ?_)
  refine lv_iconst (v := 1) hx hb dL_law_16 (by decide) ?_
  refine va_newa (atype := .long) (ty := .long) (D := D) hx hb (hts' _ kA_long) rfl hK h.1 h.2.1 h.2.2.1 h.2.2.2 (a0 := (1, .inr (.inl (fun _ => 0)))) (fun cA => rfl) (by decide) rfl (Nat.le_of_ble_eq_true rfl) (Nat.le_of_ble_eq_true rfl) (Nat.le_of_ble_eq_true rfl) dL_law_17 (fun xo cA H1 hK1 hP hD hS => ?_)
  have e1 : s.vm.findClass ("[" ++ (FieldType.long).toString) = some cL := (hKL.2 3 _ rfl).2
  have e2 : s.vm.findClass ("[" ++ (FieldType.long).toString) = some cA := (hK1.2 3 _ rfl).2
  have e3 : cA = cL := by
    rw [e1] at e2
    exact (Option.some.inj e2).symm
  subst e3
  refine lv_astore_n (lv' := [(3, .ref xo), (2, .ref (v 0)), (1, .ref (u 0)), (0, .ref b)]) hx hb dL_law_19 rfl hl (by decide) rfl (fun ls hl => ?_)
  refine lv_iconst (v := 0) hx hb dL_law_20 (by decide) ?_
  refine lv_istore (lv' := [(4, .int 0), (3, .ref xo), (2, .ref (v 0)), (1, .ref (u 0)), (0, .ref b)]) hx hb dL_law_21 hl (by decide) rfl (fun ls hl => ?_)
  have hP1 : va_P D vwCl ((allW cI cZ cO u ++ modelW cI v) ++ xL cA xo (fun _ => 0)) H1 := hP
  have hD1 : va_D (aL s) ((allW cI cZ cO u ++ modelW cI v) ++ xL cA xo (fun _ => 0)) := hD
  have hg : lH s H1 locs D cI cZ cO cA (adF u v) zk0 zm0 xo (fun _ => 0) := ⟨va_P_perm hP1 all_kC, va_D_perm hD1 all_kC, hS⟩
  have hl2 : lv_has ls 9 (lvB b (adF u v) xo 0) := hl
  have VV : lV p l s m b meth c L xs D cI cZ cO cA := ⟨V, hstf, st_kXA hts hgv, st_kNc hgv, st_kXM hts, hKL, hX, hbl, hL⟩
  refine W.widen (k := 110 + 58 * 0) (n := 3439 + 848 * 0) (Nat.le_of_ble_eq_true rfl) (Nat.le_of_ble_eq_true rfl) ?_
  exact lw_loop VV 513 0 (by omega) (by omega) zk0 zm0 _ H1 locs ls hg zAll_0 hl2
