/-! CONSTRUCTORS -/
abbrev fm : Nat → Int32 := kfill 40 (-1) (fun _ => 0)
def iU (l : List Nat) (r : Nat → Nat) : Nat → Nat := fun j => if j < 20 then l.getD j 0 else r (j - 20)
theorem iU_row (l : List Nat) (r : Nat → Nat) (i : Nat) : iU l r (i + 20) = r i := by
  unfold iU
  rw [if_neg (by omega), Nat.add_sub_cancel]
def iO (u : Nat → Nat) (N : Nat) : Nat → Option Nat := fun i => if i < N then some (u (i + 20)) else none
def iRows (cI : ClassId) (u : Nat → Nat) (N K : Nat) : va_W := (List.range N).map (fun i => (u (i + 20), .inl (cI, K, .inl (fun _ => 0))))
theorem iO_U (l : List Nat) (r : Nat → Nat) (N : Nat) : iO (iU l r) N = fun i => if i < N then some (r i) else none := funext fun i => by unfold iO; rw [iU_row]
theorem iRows_U (cI : ClassId) (l : List Nat) (r : Nat → Nat) (N K : Nat) : iRows cI (iU l r) N K = (List.range N).map (fun i => (r i, .inl (cI, K, .inl (fun _ => 0)))) := by
  unfold iRows
  exact List.map_congr_left (fun i _ => by rw [iU_row])
def kinW (cI cZ cO : ClassId) (u : Nat → Nat) : va_W := [(u 1, .inr (0, [.int 0, .ref (u 2), .ref (u 3), .ref (u 4), .ref (u 5), .ref (u 6)])), (u 2, .inl (cZ, 40, .inl (fun _ => 0))), (u 3, .inl (cI, 40, .inl (fun _ => 0))), (u 4, .inl (cI, 40, .inl (fun _ => 0))), (u 5, .inl (cI, 40, .inl (fun _ => 0))), (u 6, .inl (cO, 40, .inr (.inr (.inr (.inr (iO u 40))))))] ++ iRows cI u 40 40
def landsW (cI cO : ClassId) (u : Nat → Nat) : va_W := [(u 1, .inr (1, [.int 0, .ref (u 2), .ref (u 3), .ref (u 4), .ref (u 5), .ref (u 6), .ref (u 7)])), (u 2, .inl (cI, 12, .inl (fun _ => 0))), (u 3, .inl (cI, 12, .inl (fun _ => 0))), (u 4, .inl (cI, 12, .inl (fun _ => 0))), (u 5, .inl (cI, 12, .inl (fun _ => 0))), (u 6, .inl (cI, 12, .inl (fun _ => 0))), (u 7, .inl (cO, 12, .inr (.inr (.inr (.inr (iO u 12))))))] ++ iRows cI u 12 15
def tiesW (cI : ClassId) (u : Nat → Nat) : va_W := [(u 8, .inr (3, [.ref (u 9), .ref (u 10)])), (u 9, .inl (cI, 40, .inl fm)), (u 10, .inl (cI, 40, .inl fm))]
def linesW (cI : ClassId) (u : Nat → Nat) : va_W := [(u 11, .inr (2, [.ref (u 12), .ref (u 13)])), (u 12, .inl (cI, 40, .inl (fun _ => 0))), (u 13, .inl (cI, 40, .inl (fun _ => 0)))]
def worldW (cI cO : ClassId) (kin : Nat) (u : Nat → Nat) : va_W := [(u 0, .inr (4, [.ref kin, .ref (u 1), .ref (u 8), .ref (u 11), .ref (u 14), .int 0]))] ++ landsW cI cO u ++ tiesW cI u ++ linesW cI u ++ [(u 14, .inl (cI, 40, .inl fm))]
set_option maxHeartbeats 4000000 in
set_option maxRecDepth 100000 in
/-- Kin(): its arrays, all 0 -/
theorem c_X0_init (l : Launch) {D : va_G} {cI cZ cO : ClassId} (h0 : Nat) (sz : Nat) : Met l yX0_init (Cond.code yX0_init cX0_init 1 none :: kWA) { frames := 1, cells := 45, slots := 1800, locals := 32 } (iP [.ref h0] D cI cZ cO [(h0, .inr (0, [.int 0, .null, .null, .null, .null, .null]))] sz) (iQ D cI cZ cO (kinW cI cZ cO) (fun u => u 1 = h0) [(h0, .inr (0, [.int 0, .null, .null, .null, .null, .null]))] sz) 45 1800 (va_A [(h0, .inr (0, [.int 0, .null, .null, .null, .null, .null]))] sz) := by
  refine ir_met (as := [.ref h0]) (bytes := cX0_init) (maxL := 1) (Qc := fun sz => iQ D cI cZ cO (kinW cI cZ cO) (fun u => u 1 = h0) [(h0, .inr (0, [.int 0, .null, .null, .null, .null, .null]))] sz) (lv := [(0, .ref h0)]) (by decide +kernel) rfl (Nat.le_of_ble_eq_true rfl) rfl (fun p e s m below meth c ls V h hl => ?_) sz
  obtain ⟨⟨hx, hb, -⟩, -⟩ := id V
  refine lv_aload_n hx hb dX0_init_0 rfl (lv_at hl 0 rfl) ?_
  refine ir_obj V hl.1 kl_X0_3 (Nat.le_of_ble_eq_true rfl) (Nat.le_of_ble_eq_true rfl) dX0_init_1 ?_
  refine lv_aload_n hx hb dX0_init_4 rfl (lv_at hl 0 rfl) ?_
  refine lv_iconst (v := 0) hx hb dX0_init_5 (by decide) ?_
  refine ir_put V h 0 rfl rfl kX0 tyX0 tyX0_ok nmX0 0 (by decide) kf_X0_9 rfl (tyX0_ok 0 (by decide)) rfl rfl (Nat.le_of_ble_eq_true rfl) dX0_init_6 (fun H locs h => ?_)
  have h : iH _ s H _ D ([(h0, .inr (0, [.int 0, .null, .null, .null, .null, .null]))]) := h
  refine lv_aload_n hx hb dX0_init_9 rfl (lv_at hl 0 rfl) ?_
  refine lv_bipush (v := 40) hx hb dX0_init_10 (by decide) ?_
  refine ir_newz V h (by decide) rfl (Nat.le_of_ble_eq_true rfl) (Nat.le_of_ble_eq_true rfl) (Nat.le_of_ble_eq_true rfl) dX0_init_12 (fun q2 H h => ?_)
  have h : iH _ s H _ D ([(h0, .inr (0, [.int 0, .null, .null, .null, .null, .null])), (q2, .inl (cZ, 40, .inl (fun _ => 0)))]) := h
  refine ir_putF V h 0 rfl rfl kX0 tyX0 tyX0_ok nmX0 1 (by decide) kf_X0_15 rfl rfl (tyX0_ok 1 (by decide)) rfl rfl (Nat.le_of_ble_eq_true rfl) dX0_init_14 (fun H locs h => ?_)
  have h : iH _ s H _ D ([(h0, .inr (0, [.int 0, .ref q2, .null, .null, .null, .null])), (q2, .inl (cZ, 40, .inl (fun _ => 0)))]) := h
  refine lv_aload_n hx hb dX0_init_17 rfl (lv_at hl 0 rfl) ?_
  refine lv_bipush (v := 40) hx hb dX0_init_18 (by decide) ?_
  refine ir_newa V h (by decide) rfl (Nat.le_of_ble_eq_true rfl) (Nat.le_of_ble_eq_true rfl) (Nat.le_of_ble_eq_true rfl) dX0_init_20 (fun q3 H h => ?_)
  have h : iH _ s H _ D ([(h0, .inr (0, [.int 0, .ref q2, .null, .null, .null, .null])), (q2, .inl (cZ, 40, .inl (fun _ => 0))), (q3, .inl (cI, 40, .inl (fun _ => 0)))]) := h
  refine ir_putF V h 0 rfl rfl kX0 tyX0 tyX0_ok nmX0 2 (by decide) kf_X0_19 rfl rfl (tyX0_ok 2 (by decide)) rfl rfl (Nat.le_of_ble_eq_true rfl) dX0_init_22 (fun H locs h => ?_)
  have h : iH _ s H _ D ([(h0, .inr (0, [.int 0, .ref q2, .ref q3, .null, .null, .null])), (q2, .inl (cZ, 40, .inl (fun _ => 0))), (q3, .inl (cI, 40, .inl (fun _ => 0)))]) := h
  refine lv_aload_n hx hb dX0_init_25 rfl (lv_at hl 0 rfl) ?_
  refine lv_bipush (v := 40) hx hb dX0_init_26 (by decide) ?_
  refine ir_newa V h (by decide) rfl (Nat.le_of_ble_eq_true rfl) (Nat.le_of_ble_eq_true rfl) (Nat.le_of_ble_eq_true rfl) dX0_init_28 (fun q4 H h => ?_)
  have h : iH _ s H _ D ([(h0, .inr (0, [.int 0, .ref q2, .ref q3, .null, .null, .null])), (q2, .inl (cZ, 40, .inl (fun _ => 0))), (q3, .inl (cI, 40, .inl (fun _ => 0))), (q4, .inl (cI, 40, .inl (fun _ => 0)))]) := h
  refine ir_putF V h 0 rfl rfl kX0 tyX0 tyX0_ok nmX0 3 (by decide) kf_X0_23 rfl rfl (tyX0_ok 3 (by decide)) rfl rfl (Nat.le_of_ble_eq_true rfl) dX0_init_30 (fun H locs h => ?_)
  have h : iH _ s H _ D ([(h0, .inr (0, [.int 0, .ref q2, .ref q3, .ref q4, .null, .null])), (q2, .inl (cZ, 40, .inl (fun _ => 0))), (q3, .inl (cI, 40, .inl (fun _ => 0))), (q4, .inl (cI, 40, .inl (fun _ => 0)))]) := h
  refine lv_aload_n hx hb dX0_init_33 rfl (lv_at hl 0 rfl) ?_
  refine lv_bipush (v := 40) hx hb dX0_init_34 (by decide) ?_
  refine ir_newa V h (by decide) rfl (Nat.le_of_ble_eq_true rfl) (Nat.le_of_ble_eq_true rfl) (Nat.le_of_ble_eq_true rfl) dX0_init_36 (fun q5 H h => ?_)
  have h : iH _ s H _ D ([(h0, .inr (0, [.int 0, .ref q2, .ref q3, .ref q4, .null, .null])), (q2, .inl (cZ, 40, .inl (fun _ => 0))), (q3, .inl (cI, 40, .inl (fun _ => 0))), (q4, .inl (cI, 40, .inl (fun _ => 0))), (q5, .inl (cI, 40, .inl (fun _ => 0)))]) := h
  refine ir_putF V h 0 rfl rfl kX0 tyX0 tyX0_ok nmX0 4 (by decide) kf_X0_26 rfl rfl (tyX0_ok 4 (by decide)) rfl rfl (Nat.le_of_ble_eq_true rfl) dX0_init_38 (fun H locs h => ?_)
  have h : iH _ s H _ D ([(h0, .inr (0, [.int 0, .ref q2, .ref q3, .ref q4, .ref q5, .null])), (q2, .inl (cZ, 40, .inl (fun _ => 0))), (q3, .inl (cI, 40, .inl (fun _ => 0))), (q4, .inl (cI, 40, .inl (fun _ => 0))), (q5, .inl (cI, 40, .inl (fun _ => 0)))]) := h
  refine lv_aload_n hx hb dX0_init_41 rfl (lv_at hl 0 rfl) ?_
  refine lv_bipush (v := 40) hx hb dX0_init_42 (by decide) ?_
  refine lv_bipush (v := 40) hx hb dX0_init_44 (by decide) ?_
  refine ir_mna V h kc_X0_29 (by decide) (by decide) rfl rfl (Nat.le_of_ble_eq_true rfl) (Nat.le_of_ble_eq_true rfl) (Nat.le_of_ble_eq_true rfl) (Nat.le_of_ble_eq_true rfl) (Nat.le_of_ble_eq_true rfl) dX0_init_46 (fun q6 r H h => ?_)
  have h : iH _ s H _ D ([(h0, .inr (0, [.int 0, .ref q2, .ref q3, .ref q4, .ref q5, .null])), (q2, .inl (cZ, 40, .inl (fun _ => 0))), (q3, .inl (cI, 40, .inl (fun _ => 0))), (q4, .inl (cI, 40, .inl (fun _ => 0))), (q5, .inl (cI, 40, .inl (fun _ => 0))), (q6, .inl (cO, 40, .inr (.inr (.inr (.inr (fun i => if i < 40 then some (r i) else none))))))] ++ (List.range 40).map (fun i => (r i, .inl (cI, 40, .inl (fun _ => 0))))) := h
  refine ir_putF V h 0 rfl rfl kX0 tyX0 tyX0_ok nmX0 5 (by decide) kf_X0_31 rfl rfl (tyX0_ok 5 (by decide)) rfl rfl (Nat.le_of_ble_eq_true rfl) dX0_init_50 (fun H locs h => ?_)
  have h : iH _ s H _ D ([(h0, .inr (0, [.int 0, .ref q2, .ref q3, .ref q4, .ref q5, .ref q6])), (q2, .inl (cZ, 40, .inl (fun _ => 0))), (q3, .inl (cI, 40, .inl (fun _ => 0))), (q4, .inl (cI, 40, .inl (fun _ => 0))), (q5, .inl (cI, 40, .inl (fun _ => 0))), (q6, .inl (cO, 40, .inr (.inr (.inr (.inr (fun i => if i < 40 then some (r i) else none))))))] ++ (List.range 40).map (fun i => (r i, .inl (cI, 40, .inl (fun _ => 0))))) := h
  have e : kinW cI cZ cO (iU [0, h0, q2, q3, q4, q5, q6] r) = [(h0, .inr (0, [.int 0, .ref q2, .ref q3, .ref q4, .ref q5, .ref q6])), (q2, .inl (cZ, 40, .inl (fun _ => 0))), (q3, .inl (cI, 40, .inl (fun _ => 0))), (q4, .inl (cI, 40, .inl (fun _ => 0))), (q5, .inl (cI, 40, .inl (fun _ => 0))), (q6, .inl (cO, 40, .inr (.inr (.inr (.inr (fun i => if i < 40 then some (r i) else none))))))] ++ (List.range 40).map (fun i => (r i, .inl (cI, 40, .inl (fun _ => 0)))) := by
    unfold kinW
    rw [iO_U, iRows_U]
    rfl
  rw [← e] at h
  exact ir_vret (u := iU [0, h0, q2, q3, q4, q5, q6] r) (Wn := kinW cI cZ cO) (ok := fun u => u 1 = h0) (ws0 := [(h0, .inr (0, [.int 0, .null, .null, .null, .null, .null]))]) V h rfl rfl rfl dX0_init_53
set_option maxHeartbeats 4000000 in
set_option maxRecDepth 100000 in
/-- Lands(): its arrays, all 0 -/
theorem c_X1_init (l : Launch) {D : va_G} {cI cZ cO : ClassId} (h0 : Nat) (sz : Nat) : Met l yX1_init (Cond.code yX1_init cX1_init 1 none :: kWA) { frames := 1, cells := 18, slots := 252, locals := 32 } (iP [.ref h0] D cI cZ cO [(h0, .inr (1, [.int 0, .null, .null, .null, .null, .null, .null]))] sz) (iQ D cI cZ cO (landsW cI cO) (fun u => u 1 = h0) [(h0, .inr (1, [.int 0, .null, .null, .null, .null, .null, .null]))] sz) 18 252 (va_A [(h0, .inr (1, [.int 0, .null, .null, .null, .null, .null, .null]))] sz) := by
  refine ir_met (as := [.ref h0]) (bytes := cX1_init) (maxL := 1) (Qc := fun sz => iQ D cI cZ cO (landsW cI cO) (fun u => u 1 = h0) [(h0, .inr (1, [.int 0, .null, .null, .null, .null, .null, .null]))] sz) (lv := [(0, .ref h0)]) (by decide +kernel) rfl (Nat.le_of_ble_eq_true rfl) rfl (fun p e s m below meth c ls V h hl => ?_) sz
  obtain ⟨⟨hx, hb, -⟩, -⟩ := id V
  refine lv_aload_n hx hb dX1_init_0 rfl (lv_at hl 0 rfl) ?_
  refine ir_obj V hl.1 kl_X1_3 (Nat.le_of_ble_eq_true rfl) (Nat.le_of_ble_eq_true rfl) dX1_init_1 ?_
  refine lv_aload_n hx hb dX1_init_4 rfl (lv_at hl 0 rfl) ?_
  refine lv_iconst (v := 0) hx hb dX1_init_5 (by decide) ?_
  refine ir_put V h 0 rfl rfl kX1 tyX1 tyX1_ok nmX1 0 (by decide) kf_X1_9 rfl (tyX1_ok 0 (by decide)) rfl rfl (Nat.le_of_ble_eq_true rfl) dX1_init_6 (fun H locs h => ?_)
  have h : iH _ s H _ D ([(h0, .inr (1, [.int 0, .null, .null, .null, .null, .null, .null]))]) := h
  refine lv_aload_n hx hb dX1_init_9 rfl (lv_at hl 0 rfl) ?_
  refine lv_bipush (v := 12) hx hb dX1_init_10 (by decide) ?_
  refine ir_newa V h (by decide) rfl (Nat.le_of_ble_eq_true rfl) (Nat.le_of_ble_eq_true rfl) (Nat.le_of_ble_eq_true rfl) dX1_init_12 (fun q2 H h => ?_)
  have h : iH _ s H _ D ([(h0, .inr (1, [.int 0, .null, .null, .null, .null, .null, .null])), (q2, .inl (cI, 12, .inl (fun _ => 0)))]) := h
  refine ir_putF V h 0 rfl rfl kX1 tyX1 tyX1_ok nmX1 1 (by decide) kf_X1_15 rfl rfl (tyX1_ok 1 (by decide)) rfl rfl (Nat.le_of_ble_eq_true rfl) dX1_init_14 (fun H locs h => ?_)
  have h : iH _ s H _ D ([(h0, .inr (1, [.int 0, .ref q2, .null, .null, .null, .null, .null])), (q2, .inl (cI, 12, .inl (fun _ => 0)))]) := h
  refine lv_aload_n hx hb dX1_init_17 rfl (lv_at hl 0 rfl) ?_
  refine lv_bipush (v := 12) hx hb dX1_init_18 (by decide) ?_
  refine ir_newa V h (by decide) rfl (Nat.le_of_ble_eq_true rfl) (Nat.le_of_ble_eq_true rfl) (Nat.le_of_ble_eq_true rfl) dX1_init_20 (fun q3 H h => ?_)
  have h : iH _ s H _ D ([(h0, .inr (1, [.int 0, .ref q2, .null, .null, .null, .null, .null])), (q2, .inl (cI, 12, .inl (fun _ => 0))), (q3, .inl (cI, 12, .inl (fun _ => 0)))]) := h
  refine ir_putF V h 0 rfl rfl kX1 tyX1 tyX1_ok nmX1 2 (by decide) kf_X1_19 rfl rfl (tyX1_ok 2 (by decide)) rfl rfl (Nat.le_of_ble_eq_true rfl) dX1_init_22 (fun H locs h => ?_)
  have h : iH _ s H _ D ([(h0, .inr (1, [.int 0, .ref q2, .ref q3, .null, .null, .null, .null])), (q2, .inl (cI, 12, .inl (fun _ => 0))), (q3, .inl (cI, 12, .inl (fun _ => 0)))]) := h
  refine lv_aload_n hx hb dX1_init_25 rfl (lv_at hl 0 rfl) ?_
  refine lv_bipush (v := 12) hx hb dX1_init_26 (by decide) ?_
  refine ir_newa V h (by decide) rfl (Nat.le_of_ble_eq_true rfl) (Nat.le_of_ble_eq_true rfl) (Nat.le_of_ble_eq_true rfl) dX1_init_28 (fun q4 H h => ?_)
  have h : iH _ s H _ D ([(h0, .inr (1, [.int 0, .ref q2, .ref q3, .null, .null, .null, .null])), (q2, .inl (cI, 12, .inl (fun _ => 0))), (q3, .inl (cI, 12, .inl (fun _ => 0))), (q4, .inl (cI, 12, .inl (fun _ => 0)))]) := h
  refine ir_putF V h 0 rfl rfl kX1 tyX1 tyX1_ok nmX1 3 (by decide) kf_X1_22 rfl rfl (tyX1_ok 3 (by decide)) rfl rfl (Nat.le_of_ble_eq_true rfl) dX1_init_30 (fun H locs h => ?_)
  have h : iH _ s H _ D ([(h0, .inr (1, [.int 0, .ref q2, .ref q3, .ref q4, .null, .null, .null])), (q2, .inl (cI, 12, .inl (fun _ => 0))), (q3, .inl (cI, 12, .inl (fun _ => 0))), (q4, .inl (cI, 12, .inl (fun _ => 0)))]) := h
  refine lv_aload_n hx hb dX1_init_33 rfl (lv_at hl 0 rfl) ?_
  refine lv_bipush (v := 12) hx hb dX1_init_34 (by decide) ?_
  refine ir_newa V h (by decide) rfl (Nat.le_of_ble_eq_true rfl) (Nat.le_of_ble_eq_true rfl) (Nat.le_of_ble_eq_true rfl) dX1_init_36 (fun q5 H h => ?_)
  have h : iH _ s H _ D ([(h0, .inr (1, [.int 0, .ref q2, .ref q3, .ref q4, .null, .null, .null])), (q2, .inl (cI, 12, .inl (fun _ => 0))), (q3, .inl (cI, 12, .inl (fun _ => 0))), (q4, .inl (cI, 12, .inl (fun _ => 0))), (q5, .inl (cI, 12, .inl (fun _ => 0)))]) := h
  refine ir_putF V h 0 rfl rfl kX1 tyX1 tyX1_ok nmX1 4 (by decide) kf_X1_25 rfl rfl (tyX1_ok 4 (by decide)) rfl rfl (Nat.le_of_ble_eq_true rfl) dX1_init_38 (fun H locs h => ?_)
  have h : iH _ s H _ D ([(h0, .inr (1, [.int 0, .ref q2, .ref q3, .ref q4, .ref q5, .null, .null])), (q2, .inl (cI, 12, .inl (fun _ => 0))), (q3, .inl (cI, 12, .inl (fun _ => 0))), (q4, .inl (cI, 12, .inl (fun _ => 0))), (q5, .inl (cI, 12, .inl (fun _ => 0)))]) := h
  refine lv_aload_n hx hb dX1_init_41 rfl (lv_at hl 0 rfl) ?_
  refine lv_bipush (v := 12) hx hb dX1_init_42 (by decide) ?_
  refine ir_newa V h (by decide) rfl (Nat.le_of_ble_eq_true rfl) (Nat.le_of_ble_eq_true rfl) (Nat.le_of_ble_eq_true rfl) dX1_init_44 (fun q6 H h => ?_)
  have h : iH _ s H _ D ([(h0, .inr (1, [.int 0, .ref q2, .ref q3, .ref q4, .ref q5, .null, .null])), (q2, .inl (cI, 12, .inl (fun _ => 0))), (q3, .inl (cI, 12, .inl (fun _ => 0))), (q4, .inl (cI, 12, .inl (fun _ => 0))), (q5, .inl (cI, 12, .inl (fun _ => 0))), (q6, .inl (cI, 12, .inl (fun _ => 0)))]) := h
  refine ir_putF V h 0 rfl rfl kX1 tyX1 tyX1_ok nmX1 5 (by decide) kf_X1_28 rfl rfl (tyX1_ok 5 (by decide)) rfl rfl (Nat.le_of_ble_eq_true rfl) dX1_init_46 (fun H locs h => ?_)
  have h : iH _ s H _ D ([(h0, .inr (1, [.int 0, .ref q2, .ref q3, .ref q4, .ref q5, .ref q6, .null])), (q2, .inl (cI, 12, .inl (fun _ => 0))), (q3, .inl (cI, 12, .inl (fun _ => 0))), (q4, .inl (cI, 12, .inl (fun _ => 0))), (q5, .inl (cI, 12, .inl (fun _ => 0))), (q6, .inl (cI, 12, .inl (fun _ => 0)))]) := h
  refine lv_aload_n hx hb dX1_init_49 rfl (lv_at hl 0 rfl) ?_
  refine lv_bipush (v := 12) hx hb dX1_init_50 (by decide) ?_
  refine lv_bipush (v := 15) hx hb dX1_init_52 (by decide) ?_
  refine ir_mna V h kc_X1_31 (by decide) (by decide) rfl rfl (Nat.le_of_ble_eq_true rfl) (Nat.le_of_ble_eq_true rfl) (Nat.le_of_ble_eq_true rfl) (Nat.le_of_ble_eq_true rfl) (Nat.le_of_ble_eq_true rfl) dX1_init_54 (fun q7 r H h => ?_)
  have h : iH _ s H _ D ([(h0, .inr (1, [.int 0, .ref q2, .ref q3, .ref q4, .ref q5, .ref q6, .null])), (q2, .inl (cI, 12, .inl (fun _ => 0))), (q3, .inl (cI, 12, .inl (fun _ => 0))), (q4, .inl (cI, 12, .inl (fun _ => 0))), (q5, .inl (cI, 12, .inl (fun _ => 0))), (q6, .inl (cI, 12, .inl (fun _ => 0))), (q7, .inl (cO, 12, .inr (.inr (.inr (.inr (fun i => if i < 12 then some (r i) else none))))))] ++ (List.range 12).map (fun i => (r i, .inl (cI, 15, .inl (fun _ => 0))))) := h
  refine ir_putF V h 0 rfl rfl kX1 tyX1 tyX1_ok nmX1 6 (by decide) kf_X1_33 rfl rfl (tyX1_ok 6 (by decide)) rfl rfl (Nat.le_of_ble_eq_true rfl) dX1_init_58 (fun H locs h => ?_)
  have h : iH _ s H _ D ([(h0, .inr (1, [.int 0, .ref q2, .ref q3, .ref q4, .ref q5, .ref q6, .ref q7])), (q2, .inl (cI, 12, .inl (fun _ => 0))), (q3, .inl (cI, 12, .inl (fun _ => 0))), (q4, .inl (cI, 12, .inl (fun _ => 0))), (q5, .inl (cI, 12, .inl (fun _ => 0))), (q6, .inl (cI, 12, .inl (fun _ => 0))), (q7, .inl (cO, 12, .inr (.inr (.inr (.inr (fun i => if i < 12 then some (r i) else none))))))] ++ (List.range 12).map (fun i => (r i, .inl (cI, 15, .inl (fun _ => 0))))) := h
  have e : landsW cI cO (iU [0, h0, q2, q3, q4, q5, q6, q7] r) = [(h0, .inr (1, [.int 0, .ref q2, .ref q3, .ref q4, .ref q5, .ref q6, .ref q7])), (q2, .inl (cI, 12, .inl (fun _ => 0))), (q3, .inl (cI, 12, .inl (fun _ => 0))), (q4, .inl (cI, 12, .inl (fun _ => 0))), (q5, .inl (cI, 12, .inl (fun _ => 0))), (q6, .inl (cI, 12, .inl (fun _ => 0))), (q7, .inl (cO, 12, .inr (.inr (.inr (.inr (fun i => if i < 12 then some (r i) else none))))))] ++ (List.range 12).map (fun i => (r i, .inl (cI, 15, .inl (fun _ => 0)))) := by
    unfold landsW
    rw [iO_U, iRows_U]
    rfl
  rw [← e] at h
  exact ir_vret (u := iU [0, h0, q2, q3, q4, q5, q6, q7] r) (Wn := landsW cI cO) (ok := fun u => u 1 = h0) (ws0 := [(h0, .inr (1, [.int 0, .null, .null, .null, .null, .null, .null]))]) V h rfl rfl rfl dX1_init_61
set_option maxHeartbeats 4000000 in
set_option maxRecDepth 100000 in
/-- Lines() -/
theorem c_X2_init (l : Launch) {D : va_G} {cI cZ cO : ClassId} (h0 : Nat) (sz : Nat) : Met l yX2_init (Cond.code yX2_init cX2_init 1 none :: kWA) { frames := 1, cells := 2, slots := 80, locals := 32 } (iP [.ref h0] D cI cZ cO [(h0, .inr (2, [.null, .null]))] sz) (iQ D cI cZ cO (linesW cI) (fun u => u 11 = h0) [(h0, .inr (2, [.null, .null]))] sz) 2 80 (va_A [(h0, .inr (2, [.null, .null]))] sz) := by
  refine ir_met (as := [.ref h0]) (bytes := cX2_init) (maxL := 1) (Qc := fun sz => iQ D cI cZ cO (linesW cI) (fun u => u 11 = h0) [(h0, .inr (2, [.null, .null]))] sz) (lv := [(0, .ref h0)]) (by decide +kernel) rfl (Nat.le_of_ble_eq_true rfl) rfl (fun p e s m below meth c ls V h hl => ?_) sz
  obtain ⟨⟨hx, hb, -⟩, -⟩ := id V
  refine lv_aload_n hx hb dX2_init_0 rfl (lv_at hl 0 rfl) ?_
  refine ir_obj V hl.1 kl_X2_3 (Nat.le_of_ble_eq_true rfl) (Nat.le_of_ble_eq_true rfl) dX2_init_1 ?_
  refine lv_aload_n hx hb dX2_init_4 rfl (lv_at hl 0 rfl) ?_
  refine lv_bipush (v := 40) hx hb dX2_init_5 (by decide) ?_
  refine ir_newa V h (by decide) rfl (Nat.le_of_ble_eq_true rfl) (Nat.le_of_ble_eq_true rfl) (Nat.le_of_ble_eq_true rfl) dX2_init_7 (fun q1 H h => ?_)
  have h : iH _ s H _ D ([(h0, .inr (2, [.null, .null])), (q1, .inl (cI, 40, .inl (fun _ => 0)))]) := h
  refine ir_putF V h 0 rfl rfl kX2 tyX2 tyX2_ok nmX2 0 (by decide) kf_X2_9 rfl rfl (tyX2_ok 0 (by decide)) rfl rfl (Nat.le_of_ble_eq_true rfl) dX2_init_9 (fun H locs h => ?_)
  have h : iH _ s H _ D ([(h0, .inr (2, [.ref q1, .null])), (q1, .inl (cI, 40, .inl (fun _ => 0)))]) := h
  refine lv_aload_n hx hb dX2_init_12 rfl (lv_at hl 0 rfl) ?_
  refine lv_bipush (v := 40) hx hb dX2_init_13 (by decide) ?_
  refine ir_newa V h (by decide) rfl (Nat.le_of_ble_eq_true rfl) (Nat.le_of_ble_eq_true rfl) (Nat.le_of_ble_eq_true rfl) dX2_init_15 (fun q2 H h => ?_)
  have h : iH _ s H _ D ([(h0, .inr (2, [.ref q1, .null])), (q1, .inl (cI, 40, .inl (fun _ => 0))), (q2, .inl (cI, 40, .inl (fun _ => 0)))]) := h
  refine ir_putF V h 0 rfl rfl kX2 tyX2 tyX2_ok nmX2 1 (by decide) kf_X2_15 rfl rfl (tyX2_ok 1 (by decide)) rfl rfl (Nat.le_of_ble_eq_true rfl) dX2_init_17 (fun H locs h => ?_)
  have h : iH _ s H _ D ([(h0, .inr (2, [.ref q1, .ref q2])), (q1, .inl (cI, 40, .inl (fun _ => 0))), (q2, .inl (cI, 40, .inl (fun _ => 0)))]) := h
  exact ir_vret (u := iU [0, 0, 0, 0, 0, 0, 0, 0, 0, 0, 0, h0, q1, q2] (fun _ => 0)) (Wn := linesW cI) (ok := fun u => u 11 = h0) (ws0 := [(h0, .inr (2, [.null, .null]))]) V h rfl rfl rfl dX2_init_20
set_option maxHeartbeats 4000000 in
set_option maxRecDepth 100000 in
/-- Ties(): nobody is married -/
theorem c_X3_init (l : Launch) {D : va_G} {cI cZ cO : ClassId} (h0 : Nat) (sz : Nat) : Met l yX3_init (Cond.code yX3_init cX3_init 1 none :: kWA) { frames := 1, cells := 2, slots := 80, locals := 32 } (iP [.ref h0] D cI cZ cO [(h0, .inr (3, [.null, .null]))] sz) (iQ D cI cZ cO (tiesW cI) (fun u => u 8 = h0) [(h0, .inr (3, [.null, .null]))] sz) 2 80 (va_A [(h0, .inr (3, [.null, .null]))] sz) := by
  refine ir_met (as := [.ref h0]) (bytes := cX3_init) (maxL := 1) (Qc := fun sz => iQ D cI cZ cO (tiesW cI) (fun u => u 8 = h0) [(h0, .inr (3, [.null, .null]))] sz) (lv := [(0, .ref h0)]) (by decide +kernel) rfl (Nat.le_of_ble_eq_true rfl) rfl (fun p e s m below meth c ls V h hl => ?_) sz
  obtain ⟨⟨hx, hb, -⟩, -⟩ := id V
  refine lv_aload_n hx hb dX3_init_0 rfl (lv_at hl 0 rfl) ?_
  refine ir_obj V hl.1 kl_X3_3 (Nat.le_of_ble_eq_true rfl) (Nat.le_of_ble_eq_true rfl) dX3_init_1 ?_
  refine lv_aload_n hx hb dX3_init_4 rfl (lv_at hl 0 rfl) ?_
  refine lv_bipush (v := 40) hx hb dX3_init_5 (by decide) ?_
  refine ir_newa V h (by decide) rfl (Nat.le_of_ble_eq_true rfl) (Nat.le_of_ble_eq_true rfl) (Nat.le_of_ble_eq_true rfl) dX3_init_7 (fun q1 H h => ?_)
  have h : iH _ s H _ D ([(h0, .inr (3, [.null, .null])), (q1, .inl (cI, 40, .inl (fun _ => 0)))]) := h
  refine ir_putF V h 0 rfl rfl kX3 tyX3 tyX3_ok nmX3 0 (by decide) kf_X3_9 rfl rfl (tyX3_ok 0 (by decide)) rfl rfl (Nat.le_of_ble_eq_true rfl) dX3_init_9 (fun H locs h => ?_)
  have h : iH _ s H _ D ([(h0, .inr (3, [.ref q1, .null])), (q1, .inl (cI, 40, .inl (fun _ => 0)))]) := h
  refine lv_aload_n hx hb dX3_init_12 rfl (lv_at hl 0 rfl) ?_
  refine lv_bipush (v := 40) hx hb dX3_init_13 (by decide) ?_
  refine ir_newa V h (by decide) rfl (Nat.le_of_ble_eq_true rfl) (Nat.le_of_ble_eq_true rfl) (Nat.le_of_ble_eq_true rfl) dX3_init_15 (fun q2 H h => ?_)
  have h : iH _ s H _ D ([(h0, .inr (3, [.ref q1, .null])), (q1, .inl (cI, 40, .inl (fun _ => 0))), (q2, .inl (cI, 40, .inl (fun _ => 0)))]) := h
  refine ir_putF V h 0 rfl rfl kX3 tyX3 tyX3_ok nmX3 1 (by decide) kf_X3_15 rfl rfl (tyX3_ok 1 (by decide)) rfl rfl (Nat.le_of_ble_eq_true rfl) dX3_init_17 (fun H locs h => ?_)
  have h : iH _ s H _ D ([(h0, .inr (3, [.ref q1, .ref q2])), (q1, .inl (cI, 40, .inl (fun _ => 0))), (q2, .inl (cI, 40, .inl (fun _ => 0)))]) := h
  refine lv_aload_n hx hb dX3_init_20 rfl (lv_at hl 0 rfl) ?_
  refine ir_get V h 0 rfl rfl kX3 0 (by decide) kf_X3_9 rfl dX3_init_21 ?_
  refine lv_iconst (v := -1) hx hb dX3_init_24 (by decide) ?_
  refine ir_fill V h hl.1 kl_X3_18 1 rfl (by decide) (Nat.le_of_ble_eq_true rfl) (by decide) ⟨(Nat.le_of_ble_eq_true rfl), (Nat.le_of_ble_eq_true rfl)⟩ dX3_init_25 (fun H locs h => ?_)
  have h : iH _ s H _ D ([(h0, .inr (3, [.ref q1, .ref q2])), (q1, .inl (cI, 40, .inl fm)), (q2, .inl (cI, 40, .inl (fun _ => 0)))]) := h
  refine lv_aload_n hx hb dX3_init_28 rfl (lv_at hl 0 rfl) ?_
  refine ir_get V h 0 rfl rfl kX3 1 (by decide) kf_X3_15 rfl dX3_init_29 ?_
  refine lv_iconst (v := -1) hx hb dX3_init_32 (by decide) ?_
  refine ir_fill V h hl.1 kl_X3_18 2 rfl (by decide) (Nat.le_of_ble_eq_true rfl) (by decide) ⟨(Nat.le_of_ble_eq_true rfl), (Nat.le_of_ble_eq_true rfl)⟩ dX3_init_33 (fun H locs h => ?_)
  have h : iH _ s H _ D ([(h0, .inr (3, [.ref q1, .ref q2])), (q1, .inl (cI, 40, .inl fm)), (q2, .inl (cI, 40, .inl fm))]) := h
  exact ir_vret (u := iU [0, 0, 0, 0, 0, 0, 0, 0, h0, q1, q2] (fun _ => 0)) (Wn := tiesW cI) (ok := fun u => u 8 = h0) (ws0 := [(h0, .inr (3, [.null, .null]))]) V h rfl rfl rfl dX3_init_36
