set_option maxHeartbeats 4000000 in
set_option maxRecDepth 100000 in
/-- World(kin) -/
theorem c_X4_init (l : Launch) {D : va_G} {cI cZ cO : ClassId} (h0 : Nat) (kin : Nat) (sz : Nat) : Met l yX4_init (Cond.code yX4_init cX4_init 2 none :: kWA) { frames := 2, cells := 26, slots := 463, locals := 60 } (iP [.ref h0, .ref kin] D cI cZ cO [(h0, .inr (4, [.null, .null, .null, .null, .null, .int 0]))] sz) (iQ D cI cZ cO (worldW cI cO kin) (fun u => u 0 = h0) [(h0, .inr (4, [.null, .null, .null, .null, .null, .int 0]))] sz) 26 463 (va_A [(h0, .inr (4, [.null, .null, .null, .null, .null, .int 0]))] sz) := by
  refine ir_met (as := [.ref h0, .ref kin]) (bytes := cX4_init) (maxL := 2) (Qc := fun sz => iQ D cI cZ cO (worldW cI cO kin) (fun u => u 0 = h0) [(h0, .inr (4, [.null, .null, .null, .null, .null, .int 0]))] sz) (lv := [(0, .ref h0), (1, .ref kin)]) (by decide +kernel) rfl (Nat.le_of_ble_eq_true rfl) rfl (fun p e s m below meth c ls V h hl => ?_) sz
  obtain ⟨⟨hx, hb, -⟩, -⟩ := id V
  refine lv_aload_n hx hb dX4_init_0 rfl (lv_at hl 0 rfl) ?_
  refine ir_obj V hl.1 kl_X4_3 (Nat.le_of_ble_eq_true rfl) (Nat.le_of_ble_eq_true rfl) dX4_init_1 ?_
  refine lv_aload_n hx hb dX4_init_4 rfl (lv_at hl 0 rfl) ?_
  refine ir_new V h (ci := 1) (fs := [.int 0, .null, .null, .null, .null, .null, .null]) rfl kX1 tyX1 tyX1_ok kc_X4_9 ki_X1 kz_X1 (fun j hj => by rcases (show j = 0 ∨ j = 1 ∨ j = 2 ∨ j = 3 ∨ j = 4 ∨ j = 5 ∨ j = 6 by omega) with rfl | rfl | rfl | rfl | rfl | rfl | rfl <;> rfl) (Nat.le_of_ble_eq_true rfl) (Nat.le_of_ble_eq_true rfl) dX4_init_5 (fun q1 H h => ?_)
  have h : iH _ s H _ D ([(h0, .inr (4, [.null, .null, .null, .null, .null, .int 0]))] ++ [(q1, .inr (1, [.int 0, .null, .null, .null, .null, .null, .null]))]) := h
  refine lv_dup hx hb dX4_init_8 rfl ?_
  refine ir_initN (Wn := (landsW cI cO)) (ok := (fun u => u 1 = q1)) (rest := [.ref q1, .ref h0]) (as := []) (n := 0) V h (c_X1_init l q1 H.size) kd_yX1_init rfl rfl kz_X1 V.2.1.2.1 kinst_yX1_init rfl (by decide +kernel) ⟨(Nat.le_of_ble_eq_true rfl), (Nat.le_of_ble_eq_true rfl)⟩ rfl hl.1 (Nat.le_of_ble_eq_true rfl) ⟨(Nat.le_of_ble_eq_true rfl), (Nat.le_of_ble_eq_true rfl)⟩ rfl dX4_init_9 (fun u1 H locs hu h9 => ?_)
  subst hu
  have h := h9
  have h : iH _ s H _ D ([(h0, .inr (4, [.null, .null, .null, .null, .null, .int 0]))] ++ landsW cI cO u1) := h
  refine ir_putF V h 0 rfl rfl kX4 tyX4 tyX4_ok nmX4 1 (by decide) kf_X4_12 rfl rfl (tyX4_ok 1 (by decide)) rfl rfl (Nat.le_of_ble_eq_true rfl) dX4_init_12 (fun H locs h => ?_)
  have h : iH _ s H _ D ([(h0, .inr (4, [.null, .ref (u1 1), .null, .null, .null, .int 0]))] ++ landsW cI cO u1) := h
  refine lv_aload_n hx hb dX4_init_15 rfl (lv_at hl 0 rfl) ?_
  refine ir_new V h (ci := 3) (fs := [.null, .null]) rfl kX3 tyX3 tyX3_ok kc_X4_18 ki_X3 kz_X3 (fun j hj => by rcases (show j = 0 ∨ j = 1 by omega) with rfl | rfl <;> rfl) (Nat.le_of_ble_eq_true rfl) (Nat.le_of_ble_eq_true rfl) dX4_init_16 (fun q2 H h => ?_)
  have h : iH _ s H _ D ([(h0, .inr (4, [.null, .ref (u1 1), .null, .null, .null, .int 0]))] ++ landsW cI cO u1 ++ [(q2, .inr (3, [.null, .null]))]) := h
  refine lv_dup hx hb dX4_init_19 rfl ?_
  refine ir_init (Wn := (tiesW cI)) (ok := (fun u => u 8 = q2)) (rest := [.ref q2, .ref h0]) (as := []) (n := 0) V h (c_X3_init l q2 H.size) kd_yX3_init rfl rfl kz_X3 kl_X4_20 kinst_yX3_init rfl (by decide +kernel) ⟨(Nat.le_of_ble_eq_true rfl), (Nat.le_of_ble_eq_true rfl)⟩ rfl hl.1 (Nat.le_of_ble_eq_true rfl) ⟨(Nat.le_of_ble_eq_true rfl), (Nat.le_of_ble_eq_true rfl)⟩ rfl dX4_init_20 (fun u2 H locs hu h9 => ?_)
  subst hu
  have h := h9
  have h : iH _ s H _ D ([(h0, .inr (4, [.null, .ref (u1 1), .null, .null, .null, .int 0]))] ++ landsW cI cO u1 ++ tiesW cI u2) := h
  refine ir_putF V h 0 rfl rfl kX4 tyX4 tyX4_ok nmX4 2 (by decide) kf_X4_21 rfl rfl (tyX4_ok 2 (by decide)) rfl rfl (Nat.le_of_ble_eq_true rfl) dX4_init_23 (fun H locs h => ?_)
  have h : iH _ s H _ D ([(h0, .inr (4, [.null, .ref (u1 1), .ref (u2 8), .null, .null, .int 0]))] ++ landsW cI cO u1 ++ tiesW cI u2) := h
  refine lv_aload_n hx hb dX4_init_26 rfl (lv_at hl 0 rfl) ?_
  refine ir_new V h (ci := 2) (fs := [.null, .null]) rfl kX2 tyX2 tyX2_ok kc_X4_25 ki_X2 kz_X2 (fun j hj => by rcases (show j = 0 ∨ j = 1 by omega) with rfl | rfl <;> rfl) (Nat.le_of_ble_eq_true rfl) (Nat.le_of_ble_eq_true rfl) dX4_init_27 (fun q3 H h => ?_)
  have h : iH _ s H _ D ([(h0, .inr (4, [.null, .ref (u1 1), .ref (u2 8), .null, .null, .int 0]))] ++ landsW cI cO u1 ++ tiesW cI u2 ++ [(q3, .inr (2, [.null, .null]))]) := h
  refine lv_dup hx hb dX4_init_30 rfl ?_
  refine ir_initN (Wn := (linesW cI)) (ok := (fun u => u 11 = q3)) (rest := [.ref q3, .ref h0]) (as := []) (n := 0) V h (c_X2_init l q3 H.size) kd_yX2_init rfl rfl kz_X2 V.2.1.2.2.1 kinst_yX2_init rfl (by decide +kernel) ⟨(Nat.le_of_ble_eq_true rfl), (Nat.le_of_ble_eq_true rfl)⟩ rfl hl.1 (Nat.le_of_ble_eq_true rfl) ⟨(Nat.le_of_ble_eq_true rfl), (Nat.le_of_ble_eq_true rfl)⟩ rfl dX4_init_31 (fun u3 H locs hu h9 => ?_)
  subst hu
  have h := h9
  have h : iH _ s H _ D ([(h0, .inr (4, [.null, .ref (u1 1), .ref (u2 8), .null, .null, .int 0]))] ++ landsW cI cO u1 ++ tiesW cI u2 ++ linesW cI u3) := h
  refine ir_putF V h 0 rfl rfl kX4 tyX4 tyX4_ok nmX4 3 (by decide) kf_X4_28 rfl rfl (tyX4_ok 3 (by decide)) rfl rfl (Nat.le_of_ble_eq_true rfl) dX4_init_34 (fun H locs h => ?_)
  have h : iH _ s H _ D ([(h0, .inr (4, [.null, .ref (u1 1), .ref (u2 8), .ref (u3 11), .null, .int 0]))] ++ landsW cI cO u1 ++ tiesW cI u2 ++ linesW cI u3) := h
  refine lv_aload_n hx hb dX4_init_37 rfl (lv_at hl 0 rfl) ?_
  refine lv_bipush (v := 40) hx hb dX4_init_38 (by decide) ?_
  refine ir_newa V h (by decide) rfl (Nat.le_of_ble_eq_true rfl) (Nat.le_of_ble_eq_true rfl) (Nat.le_of_ble_eq_true rfl) dX4_init_40 (fun q4 H h => ?_)
  have h : iH _ s H _ D ([(h0, .inr (4, [.null, .ref (u1 1), .ref (u2 8), .ref (u3 11), .null, .int 0]))] ++ landsW cI cO u1 ++ tiesW cI u2 ++ linesW cI u3 ++ [(q4, .inl (cI, 40, .inl (fun _ => 0)))]) := h
  refine ir_putF V h 0 rfl rfl kX4 tyX4 tyX4_ok nmX4 4 (by decide) kf_X4_32 rfl rfl (tyX4_ok 4 (by decide)) rfl rfl (Nat.le_of_ble_eq_true rfl) dX4_init_42 (fun H locs h => ?_)
  have h : iH _ s H _ D ([(h0, .inr (4, [.null, .ref (u1 1), .ref (u2 8), .ref (u3 11), .ref q4, .int 0]))] ++ landsW cI cO u1 ++ tiesW cI u2 ++ linesW cI u3 ++ [(q4, .inl (cI, 40, .inl (fun _ => 0)))]) := h
  refine lv_aload_n hx hb dX4_init_45 rfl (lv_at hl 0 rfl) ?_
  refine lv_iconst (v := 0) hx hb dX4_init_46 (by decide) ?_
  refine ir_put V h 0 rfl rfl kX4 tyX4 tyX4_ok nmX4 5 (by decide) kf_X4_36 rfl (tyX4_ok 5 (by decide)) rfl rfl (Nat.le_of_ble_eq_true rfl) dX4_init_47 (fun H locs h => ?_)
  have h : iH _ s H _ D ([(h0, .inr (4, [.null, .ref (u1 1), .ref (u2 8), .ref (u3 11), .ref q4, .int 0]))] ++ landsW cI cO u1 ++ tiesW cI u2 ++ linesW cI u3 ++ [(q4, .inl (cI, 40, .inl (fun _ => 0)))]) := h
  refine lv_aload_n hx hb dX4_init_50 rfl (lv_at hl 0 rfl) ?_
  refine lv_aload_n hx hb dX4_init_51 rfl (lv_at hl 1 rfl) ?_
  refine ir_putF V h 0 rfl rfl kX4 tyX4 tyX4_ok nmX4 0 (by decide) kf_X4_40 rfl rfl (tyX4_ok 0 (by decide)) rfl rfl (Nat.le_of_ble_eq_true rfl) dX4_init_52 (fun H locs h => ?_)
  have h : iH _ s H _ D ([(h0, .inr (4, [.ref kin, .ref (u1 1), .ref (u2 8), .ref (u3 11), .ref q4, .int 0]))] ++ landsW cI cO u1 ++ tiesW cI u2 ++ linesW cI u3 ++ [(q4, .inl (cI, 40, .inl (fun _ => 0)))]) := h
  refine lv_aload_n hx hb dX4_init_55 rfl (lv_at hl 0 rfl) ?_
  refine ir_get V h 0 rfl rfl kX4 4 (by decide) kf_X4_32 rfl dX4_init_56 ?_
  refine lv_iconst (v := -1) hx hb dX4_init_59 (by decide) ?_
  refine ir_fill (N := 40) (f := fun _ => 0) V h hl.1 kl_X4_44 (List.length ([(h0, .inr (4, [.ref kin, .ref (u1 1), .ref (u2 8), .ref (u3 11), .ref q4, .int 0]))] ++ landsW cI cO u1 ++ tiesW cI u2 ++ linesW cI u3)) (by rw [List.getElem?_append_right (Nat.le_refl _), Nat.sub_self]; rfl) (by decide) (Nat.le_of_ble_eq_true rfl) ⟨(Nat.le_of_ble_eq_true rfl), (Nat.le_of_ble_eq_true rfl)⟩ ⟨(Nat.le_of_ble_eq_true rfl), (Nat.le_of_ble_eq_true rfl)⟩ dX4_init_60 (fun H locs h => ?_)
  rw [List.set_append_right _ _ (Nat.le_refl _), Nat.sub_self] at h
  have h : iH _ s H _ D ([(h0, .inr (4, [.ref kin, .ref (u1 1), .ref (u2 8), .ref (u3 11), .ref q4, .int 0]))] ++ landsW cI cO u1 ++ tiesW cI u2 ++ linesW cI u3 ++ [(q4, .inl (cI, 40, .inl fm))]) := h
  have e : worldW cI cO kin (iU [h0, u1 1, u1 2, u1 3, u1 4, u1 5, u1 6, u1 7, u2 8, u2 9, u2 10, u3 11, u3 12, u3 13, q4] (fun i => u1 (i + 20))) = [(h0, .inr (4, [.ref kin, .ref (u1 1), .ref (u2 8), .ref (u3 11), .ref q4, .int 0]))] ++ landsW cI cO u1 ++ tiesW cI u2 ++ linesW cI u3 ++ [(q4, .inl (cI, 40, .inl fm))] := by
    unfold worldW landsW
    rw [iO_U, iRows_U]
    rfl
  rw [← e] at h
  exact ir_vret (u := iU [h0, u1 1, u1 2, u1 3, u1 4, u1 5, u1 6, u1 7, u2 8, u2 9, u2 10, u3 11, u3 12, u3 13, q4] (fun i => u1 (i + 20))) (Wn := worldW cI cO kin) (ok := fun u => u 0 = h0) (ws0 := [(h0, .inr (4, [.null, .null, .null, .null, .null, .int 0]))]) V h rfl rfl rfl dX4_init_63
