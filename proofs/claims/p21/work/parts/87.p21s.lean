set_option maxHeartbeats 8000000 in
set_option maxRecDepth 100000 in
/-- THE LAW, from its entry -/
theorem whole_start_of {p : Program} {e : Env} {s : State} {m : MethodId} {below : List Frame} {meth : Method} {c : Code} (l : Launch) (hflags : l.flags = flags0) {b L : Nat} {xs : Nat → Int32} (hL : L ≤ 260) (C0 : lw_At p s m meth c b L xs)
    (hp : ∃ (k z : kS) (mc ms uc us : Nat), F_L_build xs L zk0 = some ((k, z), mc, ms) ∧ F_L_law_20 xs L k z = some ((), uc, us) ∧ 101 + mc + uc ≤ 600130 ∧ 2747 + ms + us ≤ 7301080) : W p l e room_1 s m #[Value.ref b] below meth c s.heap [] 0 0 (lw_Z below #[Value.ref b] s) (entryFrame m ([Value.ref b] : List Value).toArray 24) := by
  obtain ⟨hx, hb, hr, hml, hown, hts, hX, hbl, hlocks, hgv⟩ := id C0
  have hstf : l.stackTraces = false := by
    unfold Launch.stackTraces
    rw [hflags]
    decide +kernel
  obtain ⟨k, z, mc, ms, uc, us, hfb, hfl, hcc, hss⟩ := hp
  obtain ⟨D, g, hJK⟩ := st_K hts
  have hK : va_K D vwCl (kT (g 0) (g 1) (g 2)) s := hJK.sub [0, 1, 2] rfl
  have hts' : ∀ w ∈ kWA, w.before #[Value.ref b] s = true := fun w hw => hts w (kWA_tbl w hw)
  have hd0 := Drawn.sameBut.refl s.drawn lw_cs
  have V : kV p s m #[Value.ref b] meth c cL_law RL 24 (some .boolean) D (g 0) (g 1) (g 2) := ⟨hx, hb, hml, hown, hts', hr, hlocks, hK⟩
  have VJ : jV p s m #[Value.ref b] meth c cL_law RL 24 (some .boolean) D g := ⟨hx, hb, hml, hown, hts', hr, hlocks, hJK, st_jX hts⟩
  have hO := st_iX hts
  have LX : jLX l (aL s) s := ⟨hstf, st_kXA hts hgv⟩
  have SX : jSX (aL s) s b L xs := ⟨hX, hbl, fun h => by have h2 : s.heap.size ≤ b := h; omega, by omega⟩
  have h : iH (aL s) s s.heap [] D [] := ⟨fun k q h => by simp at h, ⟨fun i j p q h => by simp at h, fun k q h => by simp at h⟩, va_S.rf, aL_new⟩
  have hl := lv_entry ([.ref b]) (n := 24) (Nat.le_of_ble_eq_true rfl)
  rw [lg_entry_eq]
  generalize (lg_sl ([.ref b]) ++ List.replicate (24 - (lg_sl ([.ref b])).length) Slot.unset).toArray = ls at hl ⊢
  have hl : lv_has ls 24 [(0, .ref b)] := hl
  refine jr_new V h (ci := 5) (fs := [.null, .null, .null]) rfl kX5 tyX5 tyX5_ok kc_L_26 ki_X5 kz_X5 (fun j hj => by rcases (show j = 0 ∨ j = 1 ∨ j = 2 by omega) with rfl | rfl | rfl <;> rfl) (Nat.le_of_ble_eq_true rfl) (Nat.le_of_ble_eq_true rfl) dL_law_0 (fun q0 H h => ?_)
  refine lv_dup hx hb dL_law_3 rfl ?_
  refine jr_init (Wn := allW (g 0) (g 1) (g 2)) (ok := fun u => u 0 = q0) (rest := [.ref q0]) (as := []) (n := 0) V hO h (c_X5_init l q0 H.size) kd_yX5_init rfl rfl kz_X5 kl_L_118 kinst_yX5_init rfl (by decide +kernel) ⟨Nat.le_of_ble_eq_true rfl, Nat.le_of_ble_eq_true rfl⟩ rfl hl.1 (Nat.le_of_ble_eq_true rfl) ⟨Nat.le_of_ble_eq_true rfl, Nat.le_of_ble_eq_true rfl⟩ rfl dL_law_4 (fun u H locs hu h9 => ?_)
  subst hu
  have h := h9
  refine lv_astore_n (lv' := [(1, .ref (u 0)), (0, .ref b)]) hx hb dL_law_7 rfl hl (by decide) rfl (fun ls hl => ?_)
  have hP1 : va_P D vwCl (allW (g 0) (g 1) (g 2) u) H := h.1
  have hD1 : va_D (aL s) (allW (g 0) (g 1) (g 2) u) := h.2.1
  have hW0 : jW (aL s) s H locs D (jY (adF u (fun _ => 0)) g zk0 zm0) := ⟨va_P_perm hP1 all_kC, va_D_perm hD1 all_kC, h.2.2.1⟩
  refine lv_aload_n hx hb dL_law_8 rfl (lv_at hl 0 rfl) ?_
  refine lv_aload_n hx hb dL_law_9 rfl (lv_at hl 1 rfl) ?_
  refine jl_build (adk := adF u (fun _ => 0)) VJ aL_new LX SX hW0 hfb ⟨Nat.le_of_ble_eq_true rfl, Nat.le_of_ble_eq_true rfl⟩ hl.1 (Nat.le_of_ble_eq_true rfl) dL_law_10 ⟨?_, ?_⟩ (fun ad H locs hH => ?_)
  · show 0 + 1 + 100 + mc ≤ 600130
    omega
  · show 0 + 3 + 2744 + ms ≤ 7301080
    omega
  have hl : lv_has ls 24 [(1, .ref (u 0)), (0, .ref b)] := hl
  refine lv_astore_n (lv' := [(2, .ref (ad 0)), (1, .ref (u 0)), (0, .ref b)]) hx hb dL_law_13 rfl hl (by decide) rfl (fun ls hl => ?_)
  refine lv_aload_n hx hb dL_law_14 rfl (lv_at hl 0 rfl) ?_
  refine lv_ifnonnull (x := ad 0) (tgt := 20) hx hb dL_law_15 (by decide) ?_
  refine w_L_law_20 VJ aL_new LX SX (fun hS hc1 hs1 => ?_) trivial hH ⟨lv_sub hl [2, 1, 0] rfl, ?_⟩ hfl ?_ ?_
  · refine va_forget (fun q hq => hS.2.2 q hq) ?_
    refine W.widen (k := 600130) (n := 7301080) hc1 hs1 ?_
    exact lw_ret (d0 := s.drawn) hd0 hx hb hr hlocks dL_law_1222
  · intro q hq
    simp at hq
    rcases hq with rfl | rfl | rfl <;> rfl
  · show 0 + 1 + 100 + mc + uc ≤ 600130
    omega
  · show 0 + 3 + 2744 + ms + us ≤ 7301080
    omega
