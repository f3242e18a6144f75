/-- the class's cells: its object, Kin's, now's, ahead's; u: four families of addresses -/
def allW (cI cZ cO : ClassId) (u : Nat → Nat) : va_W := [(u 0, .inr (5, [.ref (u 5), .ref (u 2), .ref (u 3)]))] ++ kinW cI cZ cO (fun j => u (4 * j + 1)) ++ worldW cI cO (u 5) (fun j => u (4 * j + 2)) ++ worldW cI cO (u 5) (fun j => u (4 * j + 3))
def iT (h : Nat) (a b c : Nat → Nat) : Nat → Nat := fun j => if j % 4 = 0 then h else if j % 4 = 1 then a (j / 4) else if j % 4 = 2 then b (j / 4) else c (j / 4)
theorem iT_1 (h : Nat) (a b c : Nat → Nat) : (fun j => iT h a b c (4 * j + 1)) = a := funext fun j => by
  unfold iT
  rw [if_neg (by omega), if_pos (by omega), show (4 * j + 1) / 4 = j by omega]
theorem iT_2 (h : Nat) (a b c : Nat → Nat) : (fun j => iT h a b c (4 * j + 2)) = b := funext fun j => by
  unfold iT
  rw [if_neg (by omega), if_neg (by omega), if_pos (by omega), show (4 * j + 2) / 4 = j by omega]
theorem iT_3 (h : Nat) (a b c : Nat → Nat) : (fun j => iT h a b c (4 * j + 3)) = c := funext fun j => by
  unfold iT
  rw [if_neg (by omega), if_neg (by omega), if_neg (by omega), show (4 * j + 3) / 4 = j by omega]
set_option maxHeartbeats 4000000 in
set_option maxRecDepth 100000 in
/-- KingTies() -/
theorem c_X5_init (l : Launch) {D : va_G} {cI cZ cO : ClassId} (h0 : Nat) (sz : Nat) : Met l yX5_init (Cond.code yX5_init cX5_init 1 none :: kWA) { frames := 3, cells := 100, slots := 2744, locals := 90 } (iP [.ref h0] D cI cZ cO [(h0, .inr (5, [.null, .null, .null]))] sz) (iQ D cI cZ cO (allW cI cZ cO) (fun u => u 0 = h0) [(h0, .inr (5, [.null, .null, .null]))] sz) 100 2744 (va_A [(h0, .inr (5, [.null, .null, .null]))] sz) := by
  refine ir_met (as := [.ref h0]) (bytes := cX5_init) (maxL := 1) (Qc := fun sz => iQ D cI cZ cO (allW cI cZ cO) (fun u => u 0 = h0) [(h0, .inr (5, [.null, .null, .null]))] sz) (lv := [(0, .ref h0)]) (by decide +kernel) rfl (Nat.le_of_ble_eq_true rfl) rfl (fun p e s m below meth c ls V h hl => ?_) sz
  obtain ⟨⟨hx, hb, -⟩, -⟩ := id V
  refine lv_aload_n hx hb dX5_init_0 rfl (lv_at hl 0 rfl) ?_
  refine ir_obj V hl.1 kl_X5_1 (Nat.le_of_ble_eq_true rfl) (Nat.le_of_ble_eq_true rfl) dX5_init_1 ?_
  refine lv_aload_n hx hb dX5_init_4 rfl (lv_at hl 0 rfl) ?_
  refine ir_new V h (ci := 0) (fs := [.int 0, .null, .null, .null, .null, .null]) rfl kX0 tyX0 tyX0_ok kc_X5_7 ki_X0 kz_X0 (fun j hj => by rcases (show j = 0 ∨ j = 1 ∨ j = 2 ∨ j = 3 ∨ j = 4 ∨ j = 5 by omega) with rfl | rfl | rfl | rfl | rfl | rfl <;> rfl) (Nat.le_of_ble_eq_true rfl) (Nat.le_of_ble_eq_true rfl) dX5_init_5 (fun q1 H h => ?_)
  have h : iH _ s H _ D ([(h0, .inr (5, [.null, .null, .null]))] ++ [(q1, .inr (0, [.int 0, .null, .null, .null, .null, .null]))]) := h
  refine lv_dup hx hb dX5_init_8 rfl ?_
  refine ir_initN (Wn := (kinW cI cZ cO)) (ok := (fun u => u 1 = q1)) (rest := [.ref q1, .ref h0]) (as := []) (n := 0) V h (c_X0_init l q1 H.size) kd_yX0_init rfl rfl kz_X0 V.2.1.2.2.2 kinst_yX0_init rfl (by decide +kernel) ⟨(Nat.le_of_ble_eq_true rfl), (Nat.le_of_ble_eq_true rfl)⟩ rfl hl.1 (Nat.le_of_ble_eq_true rfl) ⟨(Nat.le_of_ble_eq_true rfl), (Nat.le_of_ble_eq_true rfl)⟩ rfl dX5_init_9 (fun u1 H locs hu h9 => ?_)
  subst hu
  have h := h9
  have h : iH _ s H _ D ([(h0, .inr (5, [.null, .null, .null]))] ++ kinW cI cZ cO u1) := h
  refine ir_putF V h 0 rfl rfl kX5 tyX5 tyX5_ok nmX5 0 (by decide) kf_X5_10 rfl rfl (tyX5_ok 0 (by decide)) rfl rfl (Nat.le_of_ble_eq_true rfl) dX5_init_12 (fun H locs h => ?_)
  have h : iH _ s H _ D ([(h0, .inr (5, [.ref (u1 1), .null, .null]))] ++ kinW cI cZ cO u1) := h
  refine lv_aload_n hx hb dX5_init_15 rfl (lv_at hl 0 rfl) ?_
  refine ir_new V h (ci := 4) (fs := [.null, .null, .null, .null, .null, .int 0]) rfl kX4 tyX4 tyX4_ok kc_X5_16 ki_X4 kz_X4 (fun j hj => by rcases (show j = 0 ∨ j = 1 ∨ j = 2 ∨ j = 3 ∨ j = 4 ∨ j = 5 by omega) with rfl | rfl | rfl | rfl | rfl | rfl <;> rfl) (Nat.le_of_ble_eq_true rfl) (Nat.le_of_ble_eq_true rfl) dX5_init_16 (fun q2 H h => ?_)
  have h : iH _ s H _ D ([(h0, .inr (5, [.ref (u1 1), .null, .null]))] ++ kinW cI cZ cO u1 ++ [(q2, .inr (4, [.null, .null, .null, .null, .null, .int 0]))]) := h
  refine lv_dup hx hb dX5_init_19 rfl ?_
  refine lv_aload_n hx hb dX5_init_20 rfl (lv_at hl 0 rfl) ?_
  refine ir_get V h 0 rfl rfl kX5 0 (by decide) kf_X5_10 rfl dX5_init_21 ?_
  refine ir_init (Wn := (worldW cI cO (u1 1))) (ok := (fun u => u 0 = q2)) (rest := [.ref q2, .ref h0]) (as := [.ref (u1 1)]) (n := 1) V h (c_X4_init l q2 (u1 1) H.size) kd_yX4_init rfl rfl kz_X4 kl_X5_18 kinst_yX4_init rfl (by decide +kernel) ⟨(Nat.le_of_ble_eq_true rfl), (Nat.le_of_ble_eq_true rfl)⟩ rfl hl.1 (Nat.le_of_ble_eq_true rfl) ⟨(Nat.le_of_ble_eq_true rfl), (Nat.le_of_ble_eq_true rfl)⟩ rfl dX5_init_24 (fun u2 H locs hu h9 => ?_)
  subst hu
  have h := h9
  have h : iH _ s H _ D ([(h0, .inr (5, [.ref (u1 1), .null, .null]))] ++ kinW cI cZ cO u1 ++ worldW cI cO (u1 1) u2) := h
  refine ir_putF V h 0 rfl rfl kX5 tyX5 tyX5_ok nmX5 1 (by decide) kf_X5_21 rfl rfl (tyX5_ok 1 (by decide)) rfl rfl (Nat.le_of_ble_eq_true rfl) dX5_init_27 (fun H locs h => ?_)
  have h : iH _ s H _ D ([(h0, .inr (5, [.ref (u1 1), .ref (u2 0), .null]))] ++ kinW cI cZ cO u1 ++ worldW cI cO (u1 1) u2) := h
  refine lv_aload_n hx hb dX5_init_30 rfl (lv_at hl 0 rfl) ?_
  refine ir_new V h (ci := 4) (fs := [.null, .null, .null, .null, .null, .int 0]) rfl kX4 tyX4 tyX4_ok kc_X5_16 ki_X4 kz_X4 (fun j hj => by rcases (show j = 0 ∨ j = 1 ∨ j = 2 ∨ j = 3 ∨ j = 4 ∨ j = 5 by omega) with rfl | rfl | rfl | rfl | rfl | rfl <;> rfl) (Nat.le_of_ble_eq_true rfl) (Nat.le_of_ble_eq_true rfl) dX5_init_31 (fun q3 H h => ?_)
  have h : iH _ s H _ D ([(h0, .inr (5, [.ref (u1 1), .ref (u2 0), .null]))] ++ kinW cI cZ cO u1 ++ worldW cI cO (u1 1) u2 ++ [(q3, .inr (4, [.null, .null, .null, .null, .null, .int 0]))]) := h
  refine lv_dup hx hb dX5_init_34 rfl ?_
  refine lv_aload_n hx hb dX5_init_35 rfl (lv_at hl 0 rfl) ?_
  refine ir_get V h 0 rfl rfl kX5 0 (by decide) kf_X5_10 rfl dX5_init_36 ?_
  refine ir_init (Wn := (worldW cI cO (u1 1))) (ok := (fun u => u 0 = q3)) (rest := [.ref q3, .ref h0]) (as := [.ref (u1 1)]) (n := 1) V h (c_X4_init l q3 (u1 1) H.size) kd_yX4_init rfl rfl kz_X4 kl_X5_18 kinst_yX4_init rfl (by decide +kernel) ⟨(Nat.le_of_ble_eq_true rfl), (Nat.le_of_ble_eq_true rfl)⟩ rfl hl.1 (Nat.le_of_ble_eq_true rfl) ⟨(Nat.le_of_ble_eq_true rfl), (Nat.le_of_ble_eq_true rfl)⟩ rfl dX5_init_39 (fun u3 H locs hu h9 => ?_)
  subst hu
  have h := h9
  have h : iH _ s H _ D ([(h0, .inr (5, [.ref (u1 1), .ref (u2 0), .null]))] ++ kinW cI cZ cO u1 ++ worldW cI cO (u1 1) u2 ++ worldW cI cO (u1 1) u3) := h
  refine ir_putF V h 0 rfl rfl kX5 tyX5 tyX5_ok nmX5 2 (by decide) kf_X5_25 rfl rfl (tyX5_ok 2 (by decide)) rfl rfl (Nat.le_of_ble_eq_true rfl) dX5_init_42 (fun H locs h => ?_)
  have h : iH _ s H _ D ([(h0, .inr (5, [.ref (u1 1), .ref (u2 0), .ref (u3 0)]))] ++ kinW cI cZ cO u1 ++ worldW cI cO (u1 1) u2 ++ worldW cI cO (u1 1) u3) := h
  have e : allW cI cZ cO (iT h0 u1 u2 u3) = [(h0, .inr (5, [.ref (u1 1), .ref (u2 0), .ref (u3 0)]))] ++ kinW cI cZ cO u1 ++ worldW cI cO (u1 1) u2 ++ worldW cI cO (u1 1) u3 := by
    unfold allW
    rw [iT_1, iT_2, iT_3]
    rfl
  rw [← e] at h
  exact ir_vret (u := iT h0 u1 u2 u3) (Wn := allW cI cZ cO) (ok := fun u => u 0 = h0) (ws0 := [(h0, .inr (5, [.null, .null, .null]))]) V h rfl rfl rfl dX5_init_45
