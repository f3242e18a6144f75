/-! THE LAW'S WRAPPERS -/
abbrev rm_L : Room := { frames := 8, cells := 8, slots := 48, locals := 170 }
set_option maxHeartbeats 4000000 in
set_option maxRecDepth 100000 in
theorem c_L_come (l : Launch) (hst : l.stackTraces = false) {D : va_G} {cI cZ cO cL : ClassId} {ad : Nat → Nat} {k mo : kS} {xo : Nat} {f : Nat → Int64} (v1 : Int32) (v2 : Int32) {out : ((Nat × Int32) × kS)} (hf : F_X5_come v1 v2 k = some out) (hcode : lC 1 2 0 out.1.1) (sz : Nat) : vx_Met l yL_come (Cond.codeWith yL_come cL_come 5 (some .int) [(0, 10, 13, 13), (0, 10, 17, 15)] :: kWA) rm_L (lP [.ref (ad 0), .int v1, .int v2, .ref xo] D cI cZ cO cL ad (kE ad cI cZ cO k mo) xo f sz) (lQ (lW 1 2 0 out.1.1) out.1.1 out.1.2 D cI cZ cO cL ad (kE ad cI cZ cO out.2 mo) xo sz) lNo 8 48 (fL ad xo sz) := by
  refine lr_met (as := [.ref (ad 0), .int v1, .int v2, .ref xo]) (bytes := cL_come) (maxL := 5) (rt := some .int) (hh := [(0, 10, 13, 13), (0, 10, 17, 15)]) (Qc := fun sz => lQ (lW 1 2 0 out.1.1) out.1.1 out.1.2 D cI cZ cO cL ad (kE ad cI cZ cO out.2 mo) xo sz) (lv := [(0, .ref (ad 0)), (1, .int v1), (2, .int v2), (3, .ref xo)]) hst (by decide +kernel) (Nat.le_of_ble_eq_true rfl) rfl (fun p e s m below meth c ls V XV ht h hl => ?_) sz
  obtain ⟨hx, hb, hml, hown, hts, hr, hlk, hK⟩ := id V
  refine lv_aload_n hx hb dL_come_0 rfl (lv_at hl 3 rfl) ?_
  refine lv_iconst (v := 0) hx hb dL_come_1 (by decide) ?_
  refine lv_aload_n hx hb dL_come_2 rfl (lv_at hl 0 rfl) ?_
  refine lv_iload_n hx hb dL_come_3 rfl (lv_at hl 1 rfl) ?_
  refine lv_iload_n hx hb dL_come_4 rfl (lv_at hl 2 rfl) ?_
  refine lr_callx h fL_new (lr_runX (pl := 0) (ci := 5) (as := [.int v1, .int v2]) (rest := [.int 0, .ref xo]) V h kYX5_come kl_L_7 (c_X5_come l hst v1 v2 hf s.heap.size) kPX_blind (lr_preX h hK XV) rfl rfl ⟨(Nat.le_of_ble_eq_true rfl), (Nat.le_of_ble_eq_true rfl)⟩ (by decide) kE_0 rfl rfl hl.1 (Nat.le_of_ble_eq_true rfl) dL_come_5 ⟨(Nat.le_of_ble_eq_true rfl), (Nat.le_of_ble_eq_true rfl)⟩ rfl) (fun h0 En ce q9 H1 locs1 hE h hcell hv hcl => ?_) (fun h0 H1 locs1 h => ?_)
  · subst hE
    rcases hcode with h9 | ⟨h9, h8⟩ | ⟨h9, h8⟩ | ⟨h9, h8⟩
    · exact absurd h9 h0
    · rw [h9] at hcl
      refine vx_catch hown (name := kEx 1) (E := kEx 1) [] ⟨0, 10, 13, 13⟩ [⟨0, 10, 17, 15⟩] ht (fun z hz => by cases hz) rfl (by decide) (hts _ kc_L_13) (lr_cast hts XV 1 (by decide)) hcell hv hcl ?_
      rw [show lW 1 2 0 out.1.1 = 1 from by rw [h9]; rfl]
      exact lr_h2 (v9 := 4) V XV.2.2.2 h hl (by decide) h0 (Nat.le_of_ble_eq_true rfl) (Nat.le_of_ble_eq_true rfl) (by decide) dL_come_13 dL_come_15 dL_come_16
    · rw [h9] at hcl
      refine vx_catch hown (name := kEx 2) (E := kEx 2) [⟨0, 10, 13, 13⟩] ⟨0, 10, 17, 15⟩ [] ht (fun z hz => by
        simp only [List.mem_cons, List.not_mem_nil, or_false] at hz
        rcases hz with rfl
        · exact Or.inr ⟨by decide, "java/lang/IllegalArgumentException", hts _ kc_L_13, XV.2.2.1.1⟩) rfl (by decide) (hts _ kc_L_15) (lr_cast hts XV 2 (by decide)) hcell hv hcl ?_
      rw [show lW 1 2 0 out.1.1 = 2 from by rw [h9]; rfl]
      exact lr_h2 (v9 := 4) V XV.2.2.2 h hl (by decide) h0 (Nat.le_of_ble_eq_true rfl) (Nat.le_of_ble_eq_true rfl) (by decide) dL_come_17 dL_come_19 dL_come_20
    · exact absurd rfl h8
  · rw [show lW 1 2 0 out.1.1 = 0 from by rw [h0]; rfl]
    exact lr_ok (tgt := 21) V XV.2.2.2 h (Nat.le_of_ble_eq_true rfl) (Nat.le_of_ble_eq_true rfl) dL_come_8 dL_come_9 dL_come_10 (by decide) dL_come_21 dL_come_22
set_option maxHeartbeats 4000000 in
set_option maxRecDepth 100000 in
theorem c_L_bear (l : Launch) (hst : l.stackTraces = false) {D : va_G} {cI cZ cO cL : ClassId} {ad : Nat → Nat} {k mo : kS} {xo : Nat} {f : Nat → Int64} (v1 : Int32) (v2 : Int32) {out : ((Nat × Int32) × kS)} (hf : F_X5_bear v1 v2 k = some out) (hcode : lC 0 2 1 out.1.1) (sz : Nat) : vx_Met l yL_bear (Cond.codeWith yL_bear cL_bear 5 (some .int) [(0, 10, 13, 21), (0, 10, 17, 15)] :: kWA) rm_L (lP [.ref (ad 0), .int v1, .int v2, .ref xo] D cI cZ cO cL ad (kE ad cI cZ cO k mo) xo f sz) (lQ (lW 0 2 1 out.1.1) out.1.1 out.1.2 D cI cZ cO cL ad (kE ad cI cZ cO out.2 mo) xo sz) lNo 8 48 (fL ad xo sz) := by
  refine lr_met (as := [.ref (ad 0), .int v1, .int v2, .ref xo]) (bytes := cL_bear) (maxL := 5) (rt := some .int) (hh := [(0, 10, 13, 21), (0, 10, 17, 15)]) (Qc := fun sz => lQ (lW 0 2 1 out.1.1) out.1.1 out.1.2 D cI cZ cO cL ad (kE ad cI cZ cO out.2 mo) xo sz) (lv := [(0, .ref (ad 0)), (1, .int v1), (2, .int v2), (3, .ref xo)]) hst (by decide +kernel) (Nat.le_of_ble_eq_true rfl) rfl (fun p e s m below meth c ls V XV ht h hl => ?_) sz
  obtain ⟨hx, hb, hml, hown, hts, hr, hlk, hK⟩ := id V
  refine lv_aload_n hx hb dL_bear_0 rfl (lv_at hl 3 rfl) ?_
  refine lv_iconst (v := 0) hx hb dL_bear_1 (by decide) ?_
  refine lv_aload_n hx hb dL_bear_2 rfl (lv_at hl 0 rfl) ?_
  refine lv_iload_n hx hb dL_bear_3 rfl (lv_at hl 1 rfl) ?_
  refine lv_iload_n hx hb dL_bear_4 rfl (lv_at hl 2 rfl) ?_
  refine lr_callx h fL_new (lr_runX (pl := 0) (ci := 5) (as := [.int v1, .int v2]) (rest := [.int 0, .ref xo]) V h kYX5_bear kl_L_17 (c_X5_bear l hst v1 v2 hf s.heap.size) kPX_blind (lr_preX h hK XV) rfl rfl ⟨(Nat.le_of_ble_eq_true rfl), (Nat.le_of_ble_eq_true rfl)⟩ (by decide) kE_0 rfl rfl hl.1 (Nat.le_of_ble_eq_true rfl) dL_bear_5 ⟨(Nat.le_of_ble_eq_true rfl), (Nat.le_of_ble_eq_true rfl)⟩ rfl) (fun h0 En ce q9 H1 locs1 hE h hcell hv hcl => ?_) (fun h0 H1 locs1 h => ?_)
  · subst hE
    rcases hcode with h9 | ⟨h9, h8⟩ | ⟨h9, h8⟩ | ⟨h9, h8⟩
    · exact absurd h9 h0
    · exact absurd rfl h8
    · rw [h9] at hcl
      refine vx_catch hown (name := kEx 2) (E := kEx 2) [⟨0, 10, 13, 21⟩] ⟨0, 10, 17, 15⟩ [] ht (fun z hz => by
        simp only [List.mem_cons, List.not_mem_nil, or_false] at hz
        rcases hz with rfl
        · exact Or.inr ⟨by decide, "java/lang/IndexOutOfBoundsException", hts _ kc_L_21, XV.2.2.1.2.1⟩) rfl (by decide) (hts _ kc_L_15) (lr_cast hts XV 2 (by decide)) hcell hv hcl ?_
      rw [show lW 0 2 1 out.1.1 = 2 from by rw [h9]; rfl]
      exact lr_h2 (v9 := 4) V XV.2.2.2 h hl (by decide) h0 (Nat.le_of_ble_eq_true rfl) (Nat.le_of_ble_eq_true rfl) (by decide) dL_bear_17 dL_bear_19 dL_bear_20
    · rw [h9] at hcl
      refine vx_catch hown (name := kEx 3) (E := kEx 3) [] ⟨0, 10, 13, 21⟩ [⟨0, 10, 17, 15⟩] ht (fun z hz => by cases hz) rfl (by decide) (hts _ kc_L_21) (lr_cast hts XV 3 (by decide)) hcell hv hcl ?_
      rw [show lW 0 2 1 out.1.1 = 1 from by rw [h9]; rfl]
      exact lr_h2 (v9 := 4) V XV.2.2.2 h hl (by decide) h0 (Nat.le_of_ble_eq_true rfl) (Nat.le_of_ble_eq_true rfl) (by decide) dL_bear_13 dL_bear_15 dL_bear_16
  · rw [show lW 0 2 1 out.1.1 = 0 from by rw [h0]; rfl]
    exact lr_ok (tgt := 21) V XV.2.2.2 h (Nat.le_of_ble_eq_true rfl) (Nat.le_of_ble_eq_true rfl) dL_bear_8 dL_bear_9 dL_bear_10 (by decide) dL_bear_21 dL_bear_22
set_option maxHeartbeats 4000000 in
set_option maxRecDepth 100000 in
theorem c_L_found (l : Launch) (hst : l.stackTraces = false) {D : va_G} {cI cZ cO cL : ClassId} {ad : Nat → Nat} {k mo : kS} {xo : Nat} {f : Nat → Int64} (v1 : Int32) (v2 : Int32) (v3 : Int32) {out : ((Nat × Int32) × kS)} (hf : F_X5_found v1 v2 v3 k = some out) (hcode : lC 1 3 2 out.1.1) (sz : Nat) : vx_Met l yL_found (Cond.codeWith yL_found cL_found 6 (some .int) [(0, 12, 15, 13), (0, 12, 19, 21), (0, 12, 23, 15)] :: kWA) rm_L (lP [.ref (ad 0), .int v1, .int v2, .int v3, .ref xo] D cI cZ cO cL ad (kE ad cI cZ cO k mo) xo f sz) (lQ (lW 1 3 2 out.1.1) out.1.1 out.1.2 D cI cZ cO cL ad (kE ad cI cZ cO out.2 mo) xo sz) lNo 8 48 (fL ad xo sz) := by
  refine lr_met (as := [.ref (ad 0), .int v1, .int v2, .int v3, .ref xo]) (bytes := cL_found) (maxL := 6) (rt := some .int) (hh := [(0, 12, 15, 13), (0, 12, 19, 21), (0, 12, 23, 15)]) (Qc := fun sz => lQ (lW 1 3 2 out.1.1) out.1.1 out.1.2 D cI cZ cO cL ad (kE ad cI cZ cO out.2 mo) xo sz) (lv := [(0, .ref (ad 0)), (1, .int v1), (2, .int v2), (3, .int v3), (4, .ref xo)]) hst (by decide +kernel) (Nat.le_of_ble_eq_true rfl) rfl (fun p e s m below meth c ls V XV ht h hl => ?_) sz
  obtain ⟨hx, hb, hml, hown, hts, hr, hlk, hK⟩ := id V
  refine lv_aload hx hb dL_found_0 (lv_at hl 4 rfl) ?_
  refine lv_iconst (v := 0) hx hb dL_found_2 (by decide) ?_
  refine lv_aload_n hx hb dL_found_3 rfl (lv_at hl 0 rfl) ?_
  refine lv_iload_n hx hb dL_found_4 rfl (lv_at hl 1 rfl) ?_
  refine lv_iload_n hx hb dL_found_5 rfl (lv_at hl 2 rfl) ?_
  refine lv_iload_n hx hb dL_found_6 rfl (lv_at hl 3 rfl) ?_
  refine lr_callx h fL_new (lr_runX (pl := 0) (ci := 5) (as := [.int v1, .int v2, .int v3]) (rest := [.int 0, .ref xo]) V h kYX5_found kl_L_23 (c_X5_found l hst v1 v2 v3 hf s.heap.size) kPX_blind (lr_preX h hK XV) rfl rfl ⟨(Nat.le_of_ble_eq_true rfl), (Nat.le_of_ble_eq_true rfl)⟩ (by decide) kE_0 rfl rfl hl.1 (Nat.le_of_ble_eq_true rfl) dL_found_7 ⟨(Nat.le_of_ble_eq_true rfl), (Nat.le_of_ble_eq_true rfl)⟩ rfl) (fun h0 En ce q9 H1 locs1 hE h hcell hv hcl => ?_) (fun h0 H1 locs1 h => ?_)
  · subst hE
    rcases hcode with h9 | ⟨h9, h8⟩ | ⟨h9, h8⟩ | ⟨h9, h8⟩
    · exact absurd h9 h0
    · rw [h9] at hcl
      refine vx_catch hown (name := kEx 1) (E := kEx 1) [] ⟨0, 12, 15, 13⟩ [⟨0, 12, 19, 21⟩, ⟨0, 12, 23, 15⟩] ht (fun z hz => by cases hz) rfl (by decide) (hts _ kc_L_13) (lr_cast hts XV 1 (by decide)) hcell hv hcl ?_
      rw [show lW 1 3 2 out.1.1 = 1 from by rw [h9]; rfl]
      exact lr_h2 (v9 := 5) V XV.2.2.2 h hl (by decide) h0 (Nat.le_of_ble_eq_true rfl) (Nat.le_of_ble_eq_true rfl) (by decide) dL_found_15 dL_found_17 dL_found_18
    · rw [h9] at hcl
      refine vx_catch hown (name := kEx 2) (E := kEx 2) [⟨0, 12, 15, 13⟩, ⟨0, 12, 19, 21⟩] ⟨0, 12, 23, 15⟩ [] ht (fun z hz => by
        simp only [List.mem_cons, List.not_mem_nil, or_false] at hz
        rcases hz with rfl | rfl
        · exact Or.inr ⟨by decide, "java/lang/IllegalArgumentException", hts _ kc_L_13, XV.2.2.1.1⟩
        · exact Or.inr ⟨by decide, "java/lang/IndexOutOfBoundsException", hts _ kc_L_21, XV.2.2.1.2.1⟩) rfl (by decide) (hts _ kc_L_15) (lr_cast hts XV 2 (by decide)) hcell hv hcl ?_
      rw [show lW 1 3 2 out.1.1 = 3 from by rw [h9]; rfl]
      exact lr_h2 (v9 := 5) V XV.2.2.2 h hl (by decide) h0 (Nat.le_of_ble_eq_true rfl) (Nat.le_of_ble_eq_true rfl) (by decide) dL_found_23 dL_found_25 dL_found_26
    · rw [h9] at hcl
      refine vx_catch hown (name := kEx 3) (E := kEx 3) [⟨0, 12, 15, 13⟩] ⟨0, 12, 19, 21⟩ [⟨0, 12, 23, 15⟩] ht (fun z hz => by
        simp only [List.mem_cons, List.not_mem_nil, or_false] at hz
        rcases hz with rfl
        · exact Or.inr ⟨by decide, "java/lang/IllegalArgumentException", hts _ kc_L_13, XV.2.2.1.2.2.1⟩) rfl (by decide) (hts _ kc_L_21) (lr_cast hts XV 3 (by decide)) hcell hv hcl ?_
      rw [show lW 1 3 2 out.1.1 = 2 from by rw [h9]; rfl]
      exact lr_h2 (v9 := 5) V XV.2.2.2 h hl (by decide) h0 (Nat.le_of_ble_eq_true rfl) (Nat.le_of_ble_eq_true rfl) (by decide) dL_found_19 dL_found_21 dL_found_22
  · rw [show lW 1 3 2 out.1.1 = 0 from by rw [h0]; rfl]
    exact lr_ok (tgt := 27) V XV.2.2.2 h (Nat.le_of_ble_eq_true rfl) (Nat.le_of_ble_eq_true rfl) dL_found_10 dL_found_11 dL_found_12 (by decide) dL_found_27 dL_found_28
set_option maxHeartbeats 4000000 in
set_option maxRecDepth 100000 in
theorem c_L_setLaw (l : Launch) (hst : l.stackTraces = false) {D : va_G} {cI cZ cO cL : ClassId} {ad : Nat → Nat} {k mo : kS} {xo : Nat} {f : Nat → Int64} (v1 : Int32) (v2 : Int32) {out : ((Nat × Int32) × kS)} (hf : F_X5_setLaw v1 v2 k = some out) (hcode : lC 2 0 1 out.1.1) (sz : Nat) : vx_Met l yL_setLaw (Cond.codeWith yL_setLaw cL_setLaw 5 (some .int) [(0, 10, 13, 21), (0, 10, 17, 13)] :: kWA) rm_L (lP [.ref (ad 0), .int v1, .int v2, .ref xo] D cI cZ cO cL ad (kE ad cI cZ cO k mo) xo f sz) (lQ (lW 2 0 1 out.1.1) out.1.1 out.1.2 D cI cZ cO cL ad (kE ad cI cZ cO out.2 mo) xo sz) lNo 8 48 (fL ad xo sz) := by
  refine lr_met (as := [.ref (ad 0), .int v1, .int v2, .ref xo]) (bytes := cL_setLaw) (maxL := 5) (rt := some .int) (hh := [(0, 10, 13, 21), (0, 10, 17, 13)]) (Qc := fun sz => lQ (lW 2 0 1 out.1.1) out.1.1 out.1.2 D cI cZ cO cL ad (kE ad cI cZ cO out.2 mo) xo sz) (lv := [(0, .ref (ad 0)), (1, .int v1), (2, .int v2), (3, .ref xo)]) hst (by decide +kernel) (Nat.le_of_ble_eq_true rfl) rfl (fun p e s m below meth c ls V XV ht h hl => ?_) sz
  obtain ⟨hx, hb, hml, hown, hts, hr, hlk, hK⟩ := id V
  refine lv_aload_n hx hb dL_setLaw_0 rfl (lv_at hl 3 rfl) ?_
  refine lv_iconst (v := 0) hx hb dL_setLaw_1 (by decide) ?_
  refine lv_aload_n hx hb dL_setLaw_2 rfl (lv_at hl 0 rfl) ?_
  refine lv_iload_n hx hb dL_setLaw_3 rfl (lv_at hl 1 rfl) ?_
  refine lv_iload_n hx hb dL_setLaw_4 rfl (lv_at hl 2 rfl) ?_
  refine lr_callx h fL_new (lr_runX (pl := 0) (ci := 5) (as := [.int v1, .int v2]) (rest := [.int 0, .ref xo]) V h kYX5_setLaw kl_L_27 (c_X5_setLaw l hst v1 v2 hf s.heap.size) kPX_blind (lr_preX h hK XV) rfl rfl ⟨(Nat.le_of_ble_eq_true rfl), (Nat.le_of_ble_eq_true rfl)⟩ (by decide) kE_0 rfl rfl hl.1 (Nat.le_of_ble_eq_true rfl) dL_setLaw_5 ⟨(Nat.le_of_ble_eq_true rfl), (Nat.le_of_ble_eq_true rfl)⟩ rfl) (fun h0 En ce q9 H1 locs1 hE h hcell hv hcl => ?_) (fun h0 H1 locs1 h => ?_)
  · subst hE
    rcases hcode with h9 | ⟨h9, h8⟩ | ⟨h9, h8⟩ | ⟨h9, h8⟩
    · exact absurd h9 h0
    · rw [h9] at hcl
      refine vx_catch hown (name := kEx 1) (E := kEx 1) [⟨0, 10, 13, 21⟩] ⟨0, 10, 17, 13⟩ [] ht (fun z hz => by
        simp only [List.mem_cons, List.not_mem_nil, or_false] at hz
        rcases hz with rfl
        · exact Or.inr ⟨by decide, "java/lang/IndexOutOfBoundsException", hts _ kc_L_21, XV.2.2.1.2.2.2⟩) rfl (by decide) (hts _ kc_L_13) (lr_cast hts XV 1 (by decide)) hcell hv hcl ?_
      rw [show lW 2 0 1 out.1.1 = 2 from by rw [h9]; rfl]
      exact lr_h2 (v9 := 4) V XV.2.2.2 h hl (by decide) h0 (Nat.le_of_ble_eq_true rfl) (Nat.le_of_ble_eq_true rfl) (by decide) dL_setLaw_17 dL_setLaw_19 dL_setLaw_20
    · exact absurd rfl h8
    · rw [h9] at hcl
      refine vx_catch hown (name := kEx 3) (E := kEx 3) [] ⟨0, 10, 13, 21⟩ [⟨0, 10, 17, 13⟩] ht (fun z hz => by cases hz) rfl (by decide) (hts _ kc_L_21) (lr_cast hts XV 3 (by decide)) hcell hv hcl ?_
      rw [show lW 2 0 1 out.1.1 = 1 from by rw [h9]; rfl]
      exact lr_h2 (v9 := 4) V XV.2.2.2 h hl (by decide) h0 (Nat.le_of_ble_eq_true rfl) (Nat.le_of_ble_eq_true rfl) (by decide) dL_setLaw_13 dL_setLaw_15 dL_setLaw_16
  · rw [show lW 2 0 1 out.1.1 = 0 from by rw [h0]; rfl]
    exact lr_ok (tgt := 21) V XV.2.2.2 h (Nat.le_of_ble_eq_true rfl) (Nat.le_of_ble_eq_true rfl) dL_setLaw_8 dL_setLaw_9 dL_setLaw_10 (by decide) dL_setLaw_21 dL_setLaw_22
set_option maxHeartbeats 4000000 in
set_option maxRecDepth 100000 in
theorem c_L_marry (l : Launch) (hst : l.stackTraces = false) {D : va_G} {cI cZ cO cL : ClassId} {ad : Nat → Nat} {k mo : kS} {xo : Nat} {f : Nat → Int64} (v1 : Int32) (v2 : Int32) (v3 : Int32) {out : ((Nat × Int32) × kS)} (hf : F_X5_marry v1 v2 v3 k = some out) (hcode : lC 0 2 1 out.1.1) (sz : Nat) : vx_Met l yL_marry (Cond.codeWith yL_marry cL_marry 6 (some .int) [(0, 12, 15, 21), (0, 12, 19, 15)] :: kWA) rm_L (lP [.ref (ad 0), .int v1, .int v2, .int v3, .ref xo] D cI cZ cO cL ad (kE ad cI cZ cO k mo) xo f sz) (lQ (lW 0 2 1 out.1.1) out.1.1 out.1.2 D cI cZ cO cL ad (kE ad cI cZ cO out.2 mo) xo sz) lNo 8 48 (fL ad xo sz) := by
  refine lr_met (as := [.ref (ad 0), .int v1, .int v2, .int v3, .ref xo]) (bytes := cL_marry) (maxL := 6) (rt := some .int) (hh := [(0, 12, 15, 21), (0, 12, 19, 15)]) (Qc := fun sz => lQ (lW 0 2 1 out.1.1) out.1.1 out.1.2 D cI cZ cO cL ad (kE ad cI cZ cO out.2 mo) xo sz) (lv := [(0, .ref (ad 0)), (1, .int v1), (2, .int v2), (3, .int v3), (4, .ref xo)]) hst (by decide +kernel) (Nat.le_of_ble_eq_true rfl) rfl (fun p e s m below meth c ls V XV ht h hl => ?_) sz
  obtain ⟨hx, hb, hml, hown, hts, hr, hlk, hK⟩ := id V
  refine lv_aload hx hb dL_marry_0 (lv_at hl 4 rfl) ?_
  refine lv_iconst (v := 0) hx hb dL_marry_2 (by decide) ?_
  refine lv_aload_n hx hb dL_marry_3 rfl (lv_at hl 0 rfl) ?_
  refine lv_iload_n hx hb dL_marry_4 rfl (lv_at hl 1 rfl) ?_
  refine lv_iload_n hx hb dL_marry_5 rfl (lv_at hl 2 rfl) ?_
  refine lv_iload_n hx hb dL_marry_6 rfl (lv_at hl 3 rfl) ?_
  refine lr_callx h fL_new (lr_runX (pl := 0) (ci := 5) (as := [.int v1, .int v2, .int v3]) (rest := [.int 0, .ref xo]) V h kYX5_marry kl_L_31 (c_X5_marry l hst v1 v2 v3 hf s.heap.size) kPX_blind (lr_preX h hK XV) rfl rfl ⟨(Nat.le_of_ble_eq_true rfl), (Nat.le_of_ble_eq_true rfl)⟩ (by decide) kE_0 rfl rfl hl.1 (Nat.le_of_ble_eq_true rfl) dL_marry_7 ⟨(Nat.le_of_ble_eq_true rfl), (Nat.le_of_ble_eq_true rfl)⟩ rfl) (fun h0 En ce q9 H1 locs1 hE h hcell hv hcl => ?_) (fun h0 H1 locs1 h => ?_)
  · subst hE
    rcases hcode with h9 | ⟨h9, h8⟩ | ⟨h9, h8⟩ | ⟨h9, h8⟩
    · exact absurd h9 h0
    · exact absurd rfl h8
    · rw [h9] at hcl
      refine vx_catch hown (name := kEx 2) (E := kEx 2) [⟨0, 12, 15, 21⟩] ⟨0, 12, 19, 15⟩ [] ht (fun z hz => by
        simp only [List.mem_cons, List.not_mem_nil, or_false] at hz
        rcases hz with rfl
        · exact Or.inr ⟨by decide, "java/lang/IndexOutOfBoundsException", hts _ kc_L_21, XV.2.2.1.2.1⟩) rfl (by decide) (hts _ kc_L_15) (lr_cast hts XV 2 (by decide)) hcell hv hcl ?_
      rw [show lW 0 2 1 out.1.1 = 2 from by rw [h9]; rfl]
      exact lr_h2 (v9 := 5) V XV.2.2.2 h hl (by decide) h0 (Nat.le_of_ble_eq_true rfl) (Nat.le_of_ble_eq_true rfl) (by decide) dL_marry_19 dL_marry_21 dL_marry_22
    · rw [h9] at hcl
      refine vx_catch hown (name := kEx 3) (E := kEx 3) [] ⟨0, 12, 15, 21⟩ [⟨0, 12, 19, 15⟩] ht (fun z hz => by cases hz) rfl (by decide) (hts _ kc_L_21) (lr_cast hts XV 3 (by decide)) hcell hv hcl ?_
      rw [show lW 0 2 1 out.1.1 = 1 from by rw [h9]; rfl]
      exact lr_h2 (v9 := 5) V XV.2.2.2 h hl (by decide) h0 (Nat.le_of_ble_eq_true rfl) (Nat.le_of_ble_eq_true rfl) (by decide) dL_marry_15 dL_marry_17 dL_marry_18
  · rw [show lW 0 2 1 out.1.1 = 0 from by rw [h0]; rfl]
    exact lr_ok (tgt := 23) V XV.2.2.2 h (Nat.le_of_ble_eq_true rfl) (Nat.le_of_ble_eq_true rfl) dL_marry_10 dL_marry_11 dL_marry_12 (by decide) dL_marry_23 dL_marry_24
set_option maxHeartbeats 4000000 in
set_option maxRecDepth 100000 in
theorem c_L_annul (l : Launch) (hst : l.stackTraces = false) {D : va_G} {cI cZ cO cL : ClassId} {ad : Nat → Nat} {k mo : kS} {xo : Nat} {f : Nat → Int64} (v1 : Int32) {out : ((Nat × Int32) × kS)} (hf : F_X5_annul v1 k = some out) (hcode : lC 0 2 1 out.1.1) (sz : Nat) : vx_Met l yL_annul (Cond.codeWith yL_annul cL_annul 4 (some .int) [(0, 9, 12, 21), (0, 9, 15, 15)] :: kWA) rm_L (lP [.ref (ad 0), .int v1, .ref xo] D cI cZ cO cL ad (kE ad cI cZ cO k mo) xo f sz) (lQ (lW 0 2 1 out.1.1) out.1.1 out.1.2 D cI cZ cO cL ad (kE ad cI cZ cO out.2 mo) xo sz) lNo 8 48 (fL ad xo sz) := by
  refine lr_met (as := [.ref (ad 0), .int v1, .ref xo]) (bytes := cL_annul) (maxL := 4) (rt := some .int) (hh := [(0, 9, 12, 21), (0, 9, 15, 15)]) (Qc := fun sz => lQ (lW 0 2 1 out.1.1) out.1.1 out.1.2 D cI cZ cO cL ad (kE ad cI cZ cO out.2 mo) xo sz) (lv := [(0, .ref (ad 0)), (1, .int v1), (2, .ref xo)]) hst (by decide +kernel) (Nat.le_of_ble_eq_true rfl) rfl (fun p e s m below meth c ls V XV ht h hl => ?_) sz
  obtain ⟨hx, hb, hml, hown, hts, hr, hlk, hK⟩ := id V
  refine lv_aload_n hx hb dL_annul_0 rfl (lv_at hl 2 rfl) ?_
  refine lv_iconst (v := 0) hx hb dL_annul_1 (by decide) ?_
  refine lv_aload_n hx hb dL_annul_2 rfl (lv_at hl 0 rfl) ?_
  refine lv_iload_n hx hb dL_annul_3 rfl (lv_at hl 1 rfl) ?_
  refine lr_callx h fL_new (lr_runX (pl := 0) (ci := 5) (as := [.int v1]) (rest := [.int 0, .ref xo]) V h kYX5_annul kl_L_34 (c_X5_annul l hst v1 hf s.heap.size) kPX_blind (lr_preX h hK XV) rfl rfl ⟨(Nat.le_of_ble_eq_true rfl), (Nat.le_of_ble_eq_true rfl)⟩ (by decide) kE_0 rfl rfl hl.1 (Nat.le_of_ble_eq_true rfl) dL_annul_4 ⟨(Nat.le_of_ble_eq_true rfl), (Nat.le_of_ble_eq_true rfl)⟩ rfl) (fun h0 En ce q9 H1 locs1 hE h hcell hv hcl => ?_) (fun h0 H1 locs1 h => ?_)
  · subst hE
    rcases hcode with h9 | ⟨h9, h8⟩ | ⟨h9, h8⟩ | ⟨h9, h8⟩
    · exact absurd h9 h0
    · exact absurd rfl h8
    · rw [h9] at hcl
      refine vx_catch hown (name := kEx 2) (E := kEx 2) [⟨0, 9, 12, 21⟩] ⟨0, 9, 15, 15⟩ [] ht (fun z hz => by
        simp only [List.mem_cons, List.not_mem_nil, or_false] at hz
        rcases hz with rfl
        · exact Or.inr ⟨by decide, "java/lang/IndexOutOfBoundsException", hts _ kc_L_21, XV.2.2.1.2.1⟩) rfl (by decide) (hts _ kc_L_15) (lr_cast hts XV 2 (by decide)) hcell hv hcl ?_
      rw [show lW 0 2 1 out.1.1 = 2 from by rw [h9]; rfl]
      exact lr_h1 (k9 := 3) V XV.2.2.2 h hl (by decide) h0 (Nat.le_of_ble_eq_true rfl) (Nat.le_of_ble_eq_true rfl) (by decide) dL_annul_15 dL_annul_16 dL_annul_17
    · rw [h9] at hcl
      refine vx_catch hown (name := kEx 3) (E := kEx 3) [] ⟨0, 9, 12, 21⟩ [⟨0, 9, 15, 15⟩] ht (fun z hz => by cases hz) rfl (by decide) (hts _ kc_L_21) (lr_cast hts XV 3 (by decide)) hcell hv hcl ?_
      rw [show lW 0 2 1 out.1.1 = 1 from by rw [h9]; rfl]
      exact lr_h1 (k9 := 3) V XV.2.2.2 h hl (by decide) h0 (Nat.le_of_ble_eq_true rfl) (Nat.le_of_ble_eq_true rfl) (by decide) dL_annul_12 dL_annul_13 dL_annul_14
  · rw [show lW 0 2 1 out.1.1 = 0 from by rw [h0]; rfl]
    exact lr_ok (tgt := 18) V XV.2.2.2 h (Nat.le_of_ble_eq_true rfl) (Nat.le_of_ble_eq_true rfl) dL_annul_7 dL_annul_8 dL_annul_9 (by decide) dL_annul_18 dL_annul_19
set_option maxHeartbeats 4000000 in
set_option maxRecDepth 100000 in
theorem c_L_die (l : Launch) (hst : l.stackTraces = false) {D : va_G} {cI cZ cO cL : ClassId} {ad : Nat → Nat} {k mo : kS} {xo : Nat} {f : Nat → Int64} (v1 : Int32) {out : ((Nat × Int32) × kS)} (hf : F_X5_die v1 k = some out) (hcode : lC 0 2 1 out.1.1) (sz : Nat) : vx_Met l yL_die (Cond.codeWith yL_die cL_die 4 (some .int) [(0, 9, 12, 21), (0, 9, 15, 15)] :: kWA) rm_L (lP [.ref (ad 0), .int v1, .ref xo] D cI cZ cO cL ad (kE ad cI cZ cO k mo) xo f sz) (lQ (lW 0 2 1 out.1.1) out.1.1 out.1.2 D cI cZ cO cL ad (kE ad cI cZ cO out.2 mo) xo sz) lNo 8 48 (fL ad xo sz) := by
  refine lr_met (as := [.ref (ad 0), .int v1, .ref xo]) (bytes := cL_die) (maxL := 4) (rt := some .int) (hh := [(0, 9, 12, 21), (0, 9, 15, 15)]) (Qc := fun sz => lQ (lW 0 2 1 out.1.1) out.1.1 out.1.2 D cI cZ cO cL ad (kE ad cI cZ cO out.2 mo) xo sz) (lv := [(0, .ref (ad 0)), (1, .int v1), (2, .ref xo)]) hst (by decide +kernel) (Nat.le_of_ble_eq_true rfl) rfl (fun p e s m below meth c ls V XV ht h hl => ?_) sz
  obtain ⟨hx, hb, hml, hown, hts, hr, hlk, hK⟩ := id V
  refine lv_aload_n hx hb dL_die_0 rfl (lv_at hl 2 rfl) ?_
  refine lv_iconst (v := 0) hx hb dL_die_1 (by decide) ?_
  refine lv_aload_n hx hb dL_die_2 rfl (lv_at hl 0 rfl) ?_
  refine lv_iload_n hx hb dL_die_3 rfl (lv_at hl 1 rfl) ?_
  refine lr_callx h fL_new (lr_runX (pl := 0) (ci := 5) (as := [.int v1]) (rest := [.int 0, .ref xo]) V h kYX5_die kl_L_38 (c_X5_die l hst v1 hf s.heap.size) kPX_blind (lr_preX h hK XV) rfl rfl ⟨(Nat.le_of_ble_eq_true rfl), (Nat.le_of_ble_eq_true rfl)⟩ (by decide) kE_0 rfl rfl hl.1 (Nat.le_of_ble_eq_true rfl) dL_die_4 ⟨(Nat.le_of_ble_eq_true rfl), (Nat.le_of_ble_eq_true rfl)⟩ rfl) (fun h0 En ce q9 H1 locs1 hE h hcell hv hcl => ?_) (fun h0 H1 locs1 h => ?_)
  · subst hE
    rcases hcode with h9 | ⟨h9, h8⟩ | ⟨h9, h8⟩ | ⟨h9, h8⟩
    · exact absurd h9 h0
    · exact absurd rfl h8
    · rw [h9] at hcl
      refine vx_catch hown (name := kEx 2) (E := kEx 2) [⟨0, 9, 12, 21⟩] ⟨0, 9, 15, 15⟩ [] ht (fun z hz => by
        simp only [List.mem_cons, List.not_mem_nil, or_false] at hz
        rcases hz with rfl
        · exact Or.inr ⟨by decide, "java/lang/IndexOutOfBoundsException", hts _ kc_L_21, XV.2.2.1.2.1⟩) rfl (by decide) (hts _ kc_L_15) (lr_cast hts XV 2 (by decide)) hcell hv hcl ?_
      rw [show lW 0 2 1 out.1.1 = 2 from by rw [h9]; rfl]
      exact lr_h1 (k9 := 3) V XV.2.2.2 h hl (by decide) h0 (Nat.le_of_ble_eq_true rfl) (Nat.le_of_ble_eq_true rfl) (by decide) dL_die_15 dL_die_16 dL_die_17
    · rw [h9] at hcl
      refine vx_catch hown (name := kEx 3) (E := kEx 3) [] ⟨0, 9, 12, 21⟩ [⟨0, 9, 15, 15⟩] ht (fun z hz => by cases hz) rfl (by decide) (hts _ kc_L_21) (lr_cast hts XV 3 (by decide)) hcell hv hcl ?_
      rw [show lW 0 2 1 out.1.1 = 1 from by rw [h9]; rfl]
      exact lr_h1 (k9 := 3) V XV.2.2.2 h hl (by decide) h0 (Nat.le_of_ble_eq_true rfl) (Nat.le_of_ble_eq_true rfl) (by decide) dL_die_12 dL_die_13 dL_die_14
  · rw [show lW 0 2 1 out.1.1 = 0 from by rw [h0]; rfl]
    exact lr_ok (tgt := 18) V XV.2.2.2 h (Nat.le_of_ble_eq_true rfl) (Nat.le_of_ble_eq_true rfl) dL_die_7 dL_die_8 dL_die_9 (by decide) dL_die_18 dL_die_19
set_option maxHeartbeats 4000000 in
set_option maxRecDepth 100000 in
theorem c_L_person (l : Launch) (hst : l.stackTraces = false) {D : va_G} {cI cZ cO cL : ClassId} {ad : Nat → Nat} {k mo : kS} {xo : Nat} {f : Nat → Int64} (v1 : Int32) (v2 : Int32) {out : (Nat × Int32)} (hf : F_X5_person k v1 v2 = some out) (hcode : lC 0 0 1 out.1) (sz : Nat) : vx_Met l yL_person (Cond.codeWith yL_person cL_person 5 (some .int) [(0, 10, 13, 21)] :: kWA) rm_L (lP [.ref (ad 0), .int v1, .int v2, .ref xo] D cI cZ cO cL ad (kE ad cI cZ cO k mo) xo f sz) (lQ (lW 0 0 1 out.1) out.1 out.2 D cI cZ cO cL ad (kE ad cI cZ cO k mo) xo sz) lNo 8 48 (fL ad xo sz) := by
  refine lr_met (as := [.ref (ad 0), .int v1, .int v2, .ref xo]) (bytes := cL_person) (maxL := 5) (rt := some .int) (hh := [(0, 10, 13, 21)]) (Qc := fun sz => lQ (lW 0 0 1 out.1) out.1 out.2 D cI cZ cO cL ad (kE ad cI cZ cO k mo) xo sz) (lv := [(0, .ref (ad 0)), (1, .int v1), (2, .int v2), (3, .ref xo)]) hst (by decide +kernel) (Nat.le_of_ble_eq_true rfl) rfl (fun p e s m below meth c ls V XV ht h hl => ?_) sz
  obtain ⟨hx, hb, hml, hown, hts, hr, hlk, hK⟩ := id V
  refine lv_aload_n hx hb dL_person_0 rfl (lv_at hl 3 rfl) ?_
  refine lv_iconst (v := 0) hx hb dL_person_1 (by decide) ?_
  refine lv_aload_n hx hb dL_person_2 rfl (lv_at hl 0 rfl) ?_
  refine lv_iload_n hx hb dL_person_3 rfl (lv_at hl 1 rfl) ?_
  refine lv_iload_n hx hb dL_person_4 rfl (lv_at hl 2 rfl) ?_
  refine lr_callx h fL_new (lr_runX (pl := 0) (ci := 5) (as := [.int v1, .int v2]) (rest := [.int 0, .ref xo]) V h kYX5_person kl_L_41 (c_X5_person l hst v1 v2 hf s.heap.size) kPX_blind (lr_preX h hK XV) rfl rfl ⟨(Nat.le_of_ble_eq_true rfl), (Nat.le_of_ble_eq_true rfl)⟩ (by decide) kE_0 rfl rfl hl.1 (Nat.le_of_ble_eq_true rfl) dL_person_5 ⟨(Nat.le_of_ble_eq_true rfl), (Nat.le_of_ble_eq_true rfl)⟩ rfl) (fun h0 En ce q9 H1 locs1 hE h hcell hv hcl => ?_) (fun h0 H1 locs1 h => ?_)
  · subst hE
    rcases hcode with h9 | ⟨h9, h8⟩ | ⟨h9, h8⟩ | ⟨h9, h8⟩
    · exact absurd h9 h0
    · exact absurd rfl h8
    · exact absurd rfl h8
    · rw [h9] at hcl
      refine vx_catch hown (name := kEx 3) (E := kEx 3) [] ⟨0, 10, 13, 21⟩ [] ht (fun z hz => by cases hz) rfl (by decide) (hts _ kc_L_21) (lr_cast hts XV 3 (by decide)) hcell hv hcl ?_
      rw [show lW 0 0 1 out.1 = 1 from by rw [h9]; rfl]
      exact lr_h2 (v9 := 4) V XV.2.2.2 h hl (by decide) h0 (Nat.le_of_ble_eq_true rfl) (Nat.le_of_ble_eq_true rfl) (by decide) dL_person_13 dL_person_15 dL_person_16
  · rw [show lW 0 0 1 out.1 = 0 from by rw [h0]; rfl]
    exact lr_ok (tgt := 17) V XV.2.2.2 h (Nat.le_of_ble_eq_true rfl) (Nat.le_of_ble_eq_true rfl) dL_person_8 dL_person_9 dL_person_10 (by decide) dL_person_17 dL_person_18
set_option maxHeartbeats 4000000 in
set_option maxRecDepth 100000 in
theorem c_L_land (l : Launch) (hst : l.stackTraces = false) {D : va_G} {cI cZ cO cL : ClassId} {ad : Nat → Nat} {k mo : kS} {xo : Nat} {f : Nat → Int64} (v1 : Int32) (v2 : Int32) {out : ((Nat × Int32) × kS)} (hf : F_X5_land v1 v2 k = some out) (hcode : lC 0 0 1 out.1.1) (sz : Nat) : vx_Met l yL_land (Cond.codeWith yL_land cL_land 5 (some .int) [(0, 10, 13, 21)] :: kWA) rm_L (lP [.ref (ad 0), .int v1, .int v2, .ref xo] D cI cZ cO cL ad (kE ad cI cZ cO k mo) xo f sz) (lQ (lW 0 0 1 out.1.1) out.1.1 out.1.2 D cI cZ cO cL ad (kE ad cI cZ cO out.2 mo) xo sz) lNo 8 48 (fL ad xo sz) := by
  refine lr_met (as := [.ref (ad 0), .int v1, .int v2, .ref xo]) (bytes := cL_land) (maxL := 5) (rt := some .int) (hh := [(0, 10, 13, 21)]) (Qc := fun sz => lQ (lW 0 0 1 out.1.1) out.1.1 out.1.2 D cI cZ cO cL ad (kE ad cI cZ cO out.2 mo) xo sz) (lv := [(0, .ref (ad 0)), (1, .int v1), (2, .int v2), (3, .ref xo)]) hst (by decide +kernel) (Nat.le_of_ble_eq_true rfl) rfl (fun p e s m below meth c ls V XV ht h hl => ?_) sz
  obtain ⟨hx, hb, hml, hown, hts, hr, hlk, hK⟩ := id V
  refine lv_aload_n hx hb dL_land_0 rfl (lv_at hl 3 rfl) ?_
  refine lv_iconst (v := 0) hx hb dL_land_1 (by decide) ?_
  refine lv_aload_n hx hb dL_land_2 rfl (lv_at hl 0 rfl) ?_
  refine lv_iload_n hx hb dL_land_3 rfl (lv_at hl 1 rfl) ?_
  refine lv_iload_n hx hb dL_land_4 rfl (lv_at hl 2 rfl) ?_
  refine lr_callx h fL_new (lr_runX (pl := 0) (ci := 5) (as := [.int v1, .int v2]) (rest := [.int 0, .ref xo]) V h kYX5_land kl_L_44 (c_X5_land l hst v1 v2 hf s.heap.size) kPX_blind (lr_preX h hK XV) rfl rfl ⟨(Nat.le_of_ble_eq_true rfl), (Nat.le_of_ble_eq_true rfl)⟩ (by decide) kE_0 rfl rfl hl.1 (Nat.le_of_ble_eq_true rfl) dL_land_5 ⟨(Nat.le_of_ble_eq_true rfl), (Nat.le_of_ble_eq_true rfl)⟩ rfl) (fun h0 En ce q9 H1 locs1 hE h hcell hv hcl => ?_) (fun h0 H1 locs1 h => ?_)
  · subst hE
    rcases hcode with h9 | ⟨h9, h8⟩ | ⟨h9, h8⟩ | ⟨h9, h8⟩
    · exact absurd h9 h0
    · exact absurd rfl h8
    · exact absurd rfl h8
    · rw [h9] at hcl
      refine vx_catch hown (name := kEx 3) (E := kEx 3) [] ⟨0, 10, 13, 21⟩ [] ht (fun z hz => by cases hz) rfl (by decide) (hts _ kc_L_21) (lr_cast hts XV 3 (by decide)) hcell hv hcl ?_
      rw [show lW 0 0 1 out.1.1 = 1 from by rw [h9]; rfl]
      exact lr_h2 (v9 := 4) V XV.2.2.2 h hl (by decide) h0 (Nat.le_of_ble_eq_true rfl) (Nat.le_of_ble_eq_true rfl) (by decide) dL_land_13 dL_land_15 dL_land_16
  · rw [show lW 0 0 1 out.1.1 = 0 from by rw [h0]; rfl]
    exact lr_ok (tgt := 17) V XV.2.2.2 h (Nat.le_of_ble_eq_true rfl) (Nat.le_of_ble_eq_true rfl) dL_land_8 dL_land_9 dL_land_10 (by decide) dL_land_17 dL_land_18
set_option maxHeartbeats 4000000 in
set_option maxRecDepth 100000 in
theorem c_L_ruled (l : Launch) (hst : l.stackTraces = false) {D : va_G} {cI cZ cO cL : ClassId} {ad : Nat → Nat} {k mo : kS} {xo : Nat} {f : Nat → Int64} (v1 : Int32) (v2 : Int32) {out : (Nat × Int32)} (hf : F_X5_ruled k v1 v2 = some out) (hcode : lC 0 0 1 out.1) (sz : Nat) : vx_Met l yL_ruled (Cond.codeWith yL_ruled cL_ruled 5 (some .int) [(0, 10, 13, 21)] :: kWA) rm_L (lP [.ref (ad 0), .int v1, .int v2, .ref xo] D cI cZ cO cL ad (kE ad cI cZ cO k mo) xo f sz) (lQ (lW 0 0 1 out.1) out.1 out.2 D cI cZ cO cL ad (kE ad cI cZ cO k mo) xo sz) lNo 8 48 (fL ad xo sz) := by
  refine lr_met (as := [.ref (ad 0), .int v1, .int v2, .ref xo]) (bytes := cL_ruled) (maxL := 5) (rt := some .int) (hh := [(0, 10, 13, 21)]) (Qc := fun sz => lQ (lW 0 0 1 out.1) out.1 out.2 D cI cZ cO cL ad (kE ad cI cZ cO k mo) xo sz) (lv := [(0, .ref (ad 0)), (1, .int v1), (2, .int v2), (3, .ref xo)]) hst (by decide +kernel) (Nat.le_of_ble_eq_true rfl) rfl (fun p e s m below meth c ls V XV ht h hl => ?_) sz
  obtain ⟨hx, hb, hml, hown, hts, hr, hlk, hK⟩ := id V
  refine lv_aload_n hx hb dL_ruled_0 rfl (lv_at hl 3 rfl) ?_
  refine lv_iconst (v := 0) hx hb dL_ruled_1 (by decide) ?_
  refine lv_aload_n hx hb dL_ruled_2 rfl (lv_at hl 0 rfl) ?_
  refine lv_iload_n hx hb dL_ruled_3 rfl (lv_at hl 1 rfl) ?_
  refine lv_iload_n hx hb dL_ruled_4 rfl (lv_at hl 2 rfl) ?_
  refine lr_callx h fL_new (lr_runX (pl := 0) (ci := 5) (as := [.int v1, .int v2]) (rest := [.int 0, .ref xo]) V h kYX5_ruled kl_L_47 (c_X5_ruled l hst v1 v2 hf s.heap.size) kPX_blind (lr_preX h hK XV) rfl rfl ⟨(Nat.le_of_ble_eq_true rfl), (Nat.le_of_ble_eq_true rfl)⟩ (by decide) kE_0 rfl rfl hl.1 (Nat.le_of_ble_eq_true rfl) dL_ruled_5 ⟨(Nat.le_of_ble_eq_true rfl), (Nat.le_of_ble_eq_true rfl)⟩ rfl) (fun h0 En ce q9 H1 locs1 hE h hcell hv hcl => ?_) (fun h0 H1 locs1 h => ?_)
  · subst hE
    rcases hcode with h9 | ⟨h9, h8⟩ | ⟨h9, h8⟩ | ⟨h9, h8⟩
    · exact absurd h9 h0
    · exact absurd rfl h8
    · exact absurd rfl h8
    · rw [h9] at hcl
      refine vx_catch hown (name := kEx 3) (E := kEx 3) [] ⟨0, 10, 13, 21⟩ [] ht (fun z hz => by cases hz) rfl (by decide) (hts _ kc_L_21) (lr_cast hts XV 3 (by decide)) hcell hv hcl ?_
      rw [show lW 0 0 1 out.1 = 1 from by rw [h9]; rfl]
      exact lr_h2 (v9 := 4) V XV.2.2.2 h hl (by decide) h0 (Nat.le_of_ble_eq_true rfl) (Nat.le_of_ble_eq_true rfl) (by decide) dL_ruled_13 dL_ruled_15 dL_ruled_16
  · rw [show lW 0 0 1 out.1 = 0 from by rw [h0]; rfl]
    exact lr_ok (tgt := 17) V XV.2.2.2 h (Nat.le_of_ble_eq_true rfl) (Nat.le_of_ble_eq_true rfl) dL_ruled_8 dL_ruled_9 dL_ruled_10 (by decide) dL_ruled_17 dL_ruled_18
set_option maxHeartbeats 4000000 in
set_option maxRecDepth 100000 in
theorem c_L_related (l : Launch) (hst : l.stackTraces = false) {D : va_G} {cI cZ cO cL : ClassId} {ad : Nat → Nat} {k mo : kS} {xo : Nat} {f : Nat → Int64} (v1 : Int32) (v2 : Int32) {out : (Nat × Int32)} (hf : F_X5_related k v1 v2 = some out) (hcode : lC 0 0 1 out.1) (sz : Nat) : vx_Met l yL_related (Cond.codeWith yL_related cL_related 5 (some .int) [(0, 10, 13, 21)] :: kWA) rm_L (lP [.ref (ad 0), .int v1, .int v2, .ref xo] D cI cZ cO cL ad (kE ad cI cZ cO k mo) xo f sz) (lQ (lW 0 0 1 out.1) out.1 out.2 D cI cZ cO cL ad (kE ad cI cZ cO k mo) xo sz) lNo 8 48 (fL ad xo sz) := by
  refine lr_met (as := [.ref (ad 0), .int v1, .int v2, .ref xo]) (bytes := cL_related) (maxL := 5) (rt := some .int) (hh := [(0, 10, 13, 21)]) (Qc := fun sz => lQ (lW 0 0 1 out.1) out.1 out.2 D cI cZ cO cL ad (kE ad cI cZ cO k mo) xo sz) (lv := [(0, .ref (ad 0)), (1, .int v1), (2, .int v2), (3, .ref xo)]) hst (by decide +kernel) (Nat.le_of_ble_eq_true rfl) rfl (fun p e s m below meth c ls V XV ht h hl => ?_) sz
  obtain ⟨hx, hb, hml, hown, hts, hr, hlk, hK⟩ := id V
  refine lv_aload_n hx hb dL_related_0 rfl (lv_at hl 3 rfl) ?_
  refine lv_iconst (v := 0) hx hb dL_related_1 (by decide) ?_
  refine lv_aload_n hx hb dL_related_2 rfl (lv_at hl 0 rfl) ?_
  refine lv_iload_n hx hb dL_related_3 rfl (lv_at hl 1 rfl) ?_
  refine lv_iload_n hx hb dL_related_4 rfl (lv_at hl 2 rfl) ?_
  refine lr_callx h fL_new (lr_runX (pl := 0) (ci := 5) (as := [.int v1, .int v2]) (rest := [.int 0, .ref xo]) V h kYX5_related kl_L_50 (c_X5_related l hst v1 v2 hf s.heap.size) kPX_blind (lr_preX h hK XV) rfl rfl ⟨(Nat.le_of_ble_eq_true rfl), (Nat.le_of_ble_eq_true rfl)⟩ (by decide) kE_0 rfl rfl hl.1 (Nat.le_of_ble_eq_true rfl) dL_related_5 ⟨(Nat.le_of_ble_eq_true rfl), (Nat.le_of_ble_eq_true rfl)⟩ rfl) (fun h0 En ce q9 H1 locs1 hE h hcell hv hcl => ?_) (fun h0 H1 locs1 h => ?_)
  · subst hE
    rcases hcode with h9 | ⟨h9, h8⟩ | ⟨h9, h8⟩ | ⟨h9, h8⟩
    · exact absurd h9 h0
    · exact absurd rfl h8
    · exact absurd rfl h8
    · rw [h9] at hcl
      refine vx_catch hown (name := kEx 3) (E := kEx 3) [] ⟨0, 10, 13, 21⟩ [] ht (fun z hz => by cases hz) rfl (by decide) (hts _ kc_L_21) (lr_cast hts XV 3 (by decide)) hcell hv hcl ?_
      rw [show lW 0 0 1 out.1 = 1 from by rw [h9]; rfl]
      exact lr_h2 (v9 := 4) V XV.2.2.2 h hl (by decide) h0 (Nat.le_of_ble_eq_true rfl) (Nat.le_of_ble_eq_true rfl) (by decide) dL_related_13 dL_related_15 dL_related_16
  · rw [show lW 0 0 1 out.1 = 0 from by rw [h0]; rfl]
    exact lr_ok (tgt := 17) V XV.2.2.2 h (Nat.le_of_ble_eq_true rfl) (Nat.le_of_ble_eq_true rfl) dL_related_8 dL_related_9 dL_related_10 (by decide) dL_related_17 dL_related_18
set_option maxHeartbeats 4000000 in
set_option maxRecDepth 100000 in
theorem c_L_count (l : Launch) (hst : l.stackTraces = false) {D : va_G} {cI cZ cO cL : ClassId} {ad : Nat → Nat} {k mo : kS} {xo : Nat} {f : Nat → Int64} (v1 : Int32) {out : (Nat × Int32)} (hf : F_X5_count k v1 = some out) (hcode : lC 0 0 1 out.1) (sz : Nat) : vx_Met l yL_count (Cond.codeWith yL_count cL_count 4 (some .int) [(0, 9, 12, 21)] :: kWA) rm_L (lP [.ref (ad 0), .int v1, .ref xo] D cI cZ cO cL ad (kE ad cI cZ cO k mo) xo f sz) (lQ (lW 0 0 1 out.1) out.1 out.2 D cI cZ cO cL ad (kE ad cI cZ cO k mo) xo sz) lNo 8 48 (fL ad xo sz) := by
  refine lr_met (as := [.ref (ad 0), .int v1, .ref xo]) (bytes := cL_count) (maxL := 4) (rt := some .int) (hh := [(0, 9, 12, 21)]) (Qc := fun sz => lQ (lW 0 0 1 out.1) out.1 out.2 D cI cZ cO cL ad (kE ad cI cZ cO k mo) xo sz) (lv := [(0, .ref (ad 0)), (1, .int v1), (2, .ref xo)]) hst (by decide +kernel) (Nat.le_of_ble_eq_true rfl) rfl (fun p e s m below meth c ls V XV ht h hl => ?_) sz
  obtain ⟨hx, hb, hml, hown, hts, hr, hlk, hK⟩ := id V
  refine lv_aload_n hx hb dL_count_0 rfl (lv_at hl 2 rfl) ?_
  refine lv_iconst (v := 0) hx hb dL_count_1 (by decide) ?_
  refine lv_aload_n hx hb dL_count_2 rfl (lv_at hl 0 rfl) ?_
  refine lv_iload_n hx hb dL_count_3 rfl (lv_at hl 1 rfl) ?_
  refine lr_callx h fL_new (lr_runX (pl := 0) (ci := 5) (as := [.int v1]) (rest := [.int 0, .ref xo]) V h kYX5_count kl_L_53 (c_X5_count l hst v1 hf s.heap.size) kPX_blind (lr_preX h hK XV) rfl rfl ⟨(Nat.le_of_ble_eq_true rfl), (Nat.le_of_ble_eq_true rfl)⟩ (by decide) kE_0 rfl rfl hl.1 (Nat.le_of_ble_eq_true rfl) dL_count_4 ⟨(Nat.le_of_ble_eq_true rfl), (Nat.le_of_ble_eq_true rfl)⟩ rfl) (fun h0 En ce q9 H1 locs1 hE h hcell hv hcl => ?_) (fun h0 H1 locs1 h => ?_)
  · subst hE
    rcases hcode with h9 | ⟨h9, h8⟩ | ⟨h9, h8⟩ | ⟨h9, h8⟩
    · exact absurd h9 h0
    · exact absurd rfl h8
    · exact absurd rfl h8
    · rw [h9] at hcl
      refine vx_catch hown (name := kEx 3) (E := kEx 3) [] ⟨0, 9, 12, 21⟩ [] ht (fun z hz => by cases hz) rfl (by decide) (hts _ kc_L_21) (lr_cast hts XV 3 (by decide)) hcell hv hcl ?_
      rw [show lW 0 0 1 out.1 = 1 from by rw [h9]; rfl]
      exact lr_h1 (k9 := 3) V XV.2.2.2 h hl (by decide) h0 (Nat.le_of_ble_eq_true rfl) (Nat.le_of_ble_eq_true rfl) (by decide) dL_count_12 dL_count_13 dL_count_14
  · rw [show lW 0 0 1 out.1 = 0 from by rw [h0]; rfl]
    exact lr_ok (tgt := 15) V XV.2.2.2 h (Nat.le_of_ble_eq_true rfl) (Nat.le_of_ble_eq_true rfl) dL_count_7 dL_count_8 dL_count_9 (by decide) dL_count_15 dL_count_16
set_option maxHeartbeats 4000000 in
set_option maxRecDepth 100000 in
theorem c_L_pass (l : Launch) (hst : l.stackTraces = false) {D : va_G} {cI cZ cO cL : ClassId} {ad : Nat → Nat} {k mo : kS} {xo : Nat} {f : Nat → Int64} (v1 : Int32) {out : ((Nat × Int32) × kS)} (hf : F_X5_pass v1 k = some out) (hcode : lC 1 0 0 out.1.1) (sz : Nat) : vx_Met l yL_pass (Cond.codeWith yL_pass cL_pass 4 (some .int) [(0, 9, 12, 13)] :: kWA) rm_L (lP [.ref (ad 0), .int v1, .ref xo] D cI cZ cO cL ad (kE ad cI cZ cO k mo) xo f sz) (lQ (lW 1 0 0 out.1.1) out.1.1 out.1.2 D cI cZ cO cL ad (kE ad cI cZ cO out.2 mo) xo sz) lNo 8 48 (fL ad xo sz) := by
  refine lr_met (as := [.ref (ad 0), .int v1, .ref xo]) (bytes := cL_pass) (maxL := 4) (rt := some .int) (hh := [(0, 9, 12, 13)]) (Qc := fun sz => lQ (lW 1 0 0 out.1.1) out.1.1 out.1.2 D cI cZ cO cL ad (kE ad cI cZ cO out.2 mo) xo sz) (lv := [(0, .ref (ad 0)), (1, .int v1), (2, .ref xo)]) hst (by decide +kernel) (Nat.le_of_ble_eq_true rfl) rfl (fun p e s m below meth c ls V XV ht h hl => ?_) sz
  obtain ⟨hx, hb, hml, hown, hts, hr, hlk, hK⟩ := id V
  refine lv_aload_n hx hb dL_pass_0 rfl (lv_at hl 2 rfl) ?_
  refine lv_iconst (v := 0) hx hb dL_pass_1 (by decide) ?_
  refine lv_aload_n hx hb dL_pass_2 rfl (lv_at hl 0 rfl) ?_
  refine lv_iload_n hx hb dL_pass_3 rfl (lv_at hl 1 rfl) ?_
  refine lr_callx h fL_new (lr_runX (pl := 0) (ci := 5) (as := [.int v1]) (rest := [.int 0, .ref xo]) V h kYX5_pass kl_L_56 (c_X5_pass l hst v1 hf s.heap.size) kPX_blind (lr_preX h hK XV) rfl rfl ⟨(Nat.le_of_ble_eq_true rfl), (Nat.le_of_ble_eq_true rfl)⟩ (by decide) kE_0 rfl rfl hl.1 (Nat.le_of_ble_eq_true rfl) dL_pass_4 ⟨(Nat.le_of_ble_eq_true rfl), (Nat.le_of_ble_eq_true rfl)⟩ rfl) (fun h0 En ce q9 H1 locs1 hE h hcell hv hcl => ?_) (fun h0 H1 locs1 h => ?_)
  · subst hE
    rcases hcode with h9 | ⟨h9, h8⟩ | ⟨h9, h8⟩ | ⟨h9, h8⟩
    · exact absurd h9 h0
    · rw [h9] at hcl
      refine vx_catch hown (name := kEx 1) (E := kEx 1) [] ⟨0, 9, 12, 13⟩ [] ht (fun z hz => by cases hz) rfl (by decide) (hts _ kc_L_13) (lr_cast hts XV 1 (by decide)) hcell hv hcl ?_
      rw [show lW 1 0 0 out.1.1 = 1 from by rw [h9]; rfl]
      exact lr_h1 (k9 := 3) V XV.2.2.2 h hl (by decide) h0 (Nat.le_of_ble_eq_true rfl) (Nat.le_of_ble_eq_true rfl) (by decide) dL_pass_12 dL_pass_13 dL_pass_14
    · exact absurd rfl h8
    · exact absurd rfl h8
  · rw [show lW 1 0 0 out.1.1 = 0 from by rw [h0]; rfl]
    exact lr_ok (tgt := 15) V XV.2.2.2 h (Nat.le_of_ble_eq_true rfl) (Nat.le_of_ble_eq_true rfl) dL_pass_7 dL_pass_8 dL_pass_9 (by decide) dL_pass_15 dL_pass_16
set_option maxHeartbeats 4000000 in
set_option maxRecDepth 100000 in
theorem c_L_rules (l : Launch) (hst : l.stackTraces = false) {D : va_G} {cI cZ cO cL : ClassId} {ad : Nat → Nat} {k mo : kS} {xo : Nat} {f : Nat → Int64} (v1 : Int32) {out : ((Nat × Int32) × kS)} (hf : F_X5_rules v1 k = some out) (hcode : lC 0 0 1 out.1.1) (sz : Nat) : vx_Met l yL_rules (Cond.codeWith yL_rules cL_rules 4 (some .int) [(0, 9, 12, 21)] :: kWA) rm_L (lP [.ref (ad 0), .int v1, .ref xo] D cI cZ cO cL ad (kE ad cI cZ cO k mo) xo f sz) (lQ (lW 0 0 1 out.1.1) out.1.1 out.1.2 D cI cZ cO cL ad (kE ad cI cZ cO out.2 mo) xo sz) lNo 8 48 (fL ad xo sz) := by
  refine lr_met (as := [.ref (ad 0), .int v1, .ref xo]) (bytes := cL_rules) (maxL := 4) (rt := some .int) (hh := [(0, 9, 12, 21)]) (Qc := fun sz => lQ (lW 0 0 1 out.1.1) out.1.1 out.1.2 D cI cZ cO cL ad (kE ad cI cZ cO out.2 mo) xo sz) (lv := [(0, .ref (ad 0)), (1, .int v1), (2, .ref xo)]) hst (by decide +kernel) (Nat.le_of_ble_eq_true rfl) rfl (fun p e s m below meth c ls V XV ht h hl => ?_) sz
  obtain ⟨hx, hb, hml, hown, hts, hr, hlk, hK⟩ := id V
  refine lv_aload_n hx hb dL_rules_0 rfl (lv_at hl 2 rfl) ?_
  refine lv_iconst (v := 0) hx hb dL_rules_1 (by decide) ?_
  refine lv_aload_n hx hb dL_rules_2 rfl (lv_at hl 0 rfl) ?_
  refine lv_iload_n hx hb dL_rules_3 rfl (lv_at hl 1 rfl) ?_
  refine lr_callx h fL_new (lr_runX (pl := 0) (ci := 5) (as := [.int v1]) (rest := [.int 0, .ref xo]) V h kYX5_rules kl_L_59 (c_X5_rules l hst v1 hf s.heap.size) kPX_blind (lr_preX h hK XV) rfl rfl ⟨(Nat.le_of_ble_eq_true rfl), (Nat.le_of_ble_eq_true rfl)⟩ (by decide) kE_0 rfl rfl hl.1 (Nat.le_of_ble_eq_true rfl) dL_rules_4 ⟨(Nat.le_of_ble_eq_true rfl), (Nat.le_of_ble_eq_true rfl)⟩ rfl) (fun h0 En ce q9 H1 locs1 hE h hcell hv hcl => ?_) (fun h0 H1 locs1 h => ?_)
  · subst hE
    rcases hcode with h9 | ⟨h9, h8⟩ | ⟨h9, h8⟩ | ⟨h9, h8⟩
    · exact absurd h9 h0
    · exact absurd rfl h8
    · exact absurd rfl h8
    · rw [h9] at hcl
      refine vx_catch hown (name := kEx 3) (E := kEx 3) [] ⟨0, 9, 12, 21⟩ [] ht (fun z hz => by cases hz) rfl (by decide) (hts _ kc_L_21) (lr_cast hts XV 3 (by decide)) hcell hv hcl ?_
      rw [show lW 0 0 1 out.1.1 = 1 from by rw [h9]; rfl]
      exact lr_h1 (k9 := 3) V XV.2.2.2 h hl (by decide) h0 (Nat.le_of_ble_eq_true rfl) (Nat.le_of_ble_eq_true rfl) (by decide) dL_rules_12 dL_rules_13 dL_rules_14
  · rw [show lW 0 0 1 out.1.1 = 0 from by rw [h0]; rfl]
    exact lr_ok (tgt := 15) V XV.2.2.2 h (Nat.le_of_ble_eq_true rfl) (Nat.le_of_ble_eq_true rfl) dL_rules_7 dL_rules_8 dL_rules_9 (by decide) dL_rules_15 dL_rules_16
set_option maxHeartbeats 4000000 in
set_option maxRecDepth 100000 in
theorem c_L_foresee (l : Launch) (hst : l.stackTraces = false) {D : va_G} {cI cZ cO cL : ClassId} {ad : Nat → Nat} {k mo : kS} {xo : Nat} {f : Nat → Int64} (v1 : Int32) (v2 : Int32) {out : ((Nat × Int32) × kS)} (hf : F_X5_foresee v1 v2 k = some out) (hcode : lC 1 0 2 out.1.1) (sz : Nat) : vx_Met l yL_foresee (Cond.codeWith yL_foresee cL_foresee 5 (some .int) [(0, 10, 13, 13), (0, 10, 17, 21)] :: kWA) rm_L (lP [.ref (ad 0), .int v1, .int v2, .ref xo] D cI cZ cO cL ad (kE ad cI cZ cO k mo) xo f sz) (lQ (lW 1 0 2 out.1.1) out.1.1 out.1.2 D cI cZ cO cL ad (kE ad cI cZ cO out.2 mo) xo sz) lNo 8 48 (fL ad xo sz) := by
  refine lr_met (as := [.ref (ad 0), .int v1, .int v2, .ref xo]) (bytes := cL_foresee) (maxL := 5) (rt := some .int) (hh := [(0, 10, 13, 13), (0, 10, 17, 21)]) (Qc := fun sz => lQ (lW 1 0 2 out.1.1) out.1.1 out.1.2 D cI cZ cO cL ad (kE ad cI cZ cO out.2 mo) xo sz) (lv := [(0, .ref (ad 0)), (1, .int v1), (2, .int v2), (3, .ref xo)]) hst (by decide +kernel) (Nat.le_of_ble_eq_true rfl) rfl (fun p e s m below meth c ls V XV ht h hl => ?_) sz
  obtain ⟨hx, hb, hml, hown, hts, hr, hlk, hK⟩ := id V
  refine lv_aload_n hx hb dL_foresee_0 rfl (lv_at hl 3 rfl) ?_
  refine lv_iconst (v := 0) hx hb dL_foresee_1 (by decide) ?_
  refine lv_aload_n hx hb dL_foresee_2 rfl (lv_at hl 0 rfl) ?_
  refine lv_iload_n hx hb dL_foresee_3 rfl (lv_at hl 1 rfl) ?_
  refine lv_iload_n hx hb dL_foresee_4 rfl (lv_at hl 2 rfl) ?_
  refine lr_callx h fL_new (lr_runX (pl := 0) (ci := 5) (as := [.int v1, .int v2]) (rest := [.int 0, .ref xo]) V h kYX5_foresee kl_L_62 (c_X5_foresee l hst v1 v2 hf s.heap.size) kPX_blind (lr_preX h hK XV) rfl rfl ⟨(Nat.le_of_ble_eq_true rfl), (Nat.le_of_ble_eq_true rfl)⟩ (by decide) kE_0 rfl rfl hl.1 (Nat.le_of_ble_eq_true rfl) dL_foresee_5 ⟨(Nat.le_of_ble_eq_true rfl), (Nat.le_of_ble_eq_true rfl)⟩ rfl) (fun h0 En ce q9 H1 locs1 hE h hcell hv hcl => ?_) (fun h0 H1 locs1 h => ?_)
  · subst hE
    rcases hcode with h9 | ⟨h9, h8⟩ | ⟨h9, h8⟩ | ⟨h9, h8⟩
    · exact absurd h9 h0
    · rw [h9] at hcl
      refine vx_catch hown (name := kEx 1) (E := kEx 1) [] ⟨0, 10, 13, 13⟩ [⟨0, 10, 17, 21⟩] ht (fun z hz => by cases hz) rfl (by decide) (hts _ kc_L_13) (lr_cast hts XV 1 (by decide)) hcell hv hcl ?_
      rw [show lW 1 0 2 out.1.1 = 1 from by rw [h9]; rfl]
      exact lr_h2 (v9 := 4) V XV.2.2.2 h hl (by decide) h0 (Nat.le_of_ble_eq_true rfl) (Nat.le_of_ble_eq_true rfl) (by decide) dL_foresee_13 dL_foresee_15 dL_foresee_16
    · exact absurd rfl h8
    · rw [h9] at hcl
      refine vx_catch hown (name := kEx 3) (E := kEx 3) [⟨0, 10, 13, 13⟩] ⟨0, 10, 17, 21⟩ [] ht (fun z hz => by
        simp only [List.mem_cons, List.not_mem_nil, or_false] at hz
        rcases hz with rfl
        · exact Or.inr ⟨by decide, "java/lang/IllegalArgumentException", hts _ kc_L_13, XV.2.2.1.2.2.1⟩) rfl (by decide) (hts _ kc_L_21) (lr_cast hts XV 3 (by decide)) hcell hv hcl ?_
      rw [show lW 1 0 2 out.1.1 = 2 from by rw [h9]; rfl]
      exact lr_h2 (v9 := 4) V XV.2.2.2 h hl (by decide) h0 (Nat.le_of_ble_eq_true rfl) (Nat.le_of_ble_eq_true rfl) (by decide) dL_foresee_17 dL_foresee_19 dL_foresee_20
  · rw [show lW 1 0 2 out.1.1 = 0 from by rw [h0]; rfl]
    exact lr_ok (tgt := 21) V XV.2.2.2 h (Nat.le_of_ble_eq_true rfl) (Nat.le_of_ble_eq_true rfl) dL_foresee_8 dL_foresee_9 dL_foresee_10 (by decide) dL_foresee_21 dL_foresee_22
set_option maxHeartbeats 4000000 in
set_option maxRecDepth 100000 in
theorem c_L_best (l : Launch) (hst : l.stackTraces = false) {D : va_G} {cI cZ cO cL : ClassId} {ad : Nat → Nat} {k mo : kS} {xo : Nat} {f : Nat → Int64} (v1 : Int32) {out : (Nat × Int32)} (hf : F_X5_best k v1 = some out) (hcode : lC 0 0 1 out.1) (sz : Nat) : vx_Met l yL_best (Cond.codeWith yL_best cL_best 4 (some .int) [(0, 9, 12, 21)] :: kWA) rm_L (lP [.ref (ad 0), .int v1, .ref xo] D cI cZ cO cL ad (kE ad cI cZ cO k mo) xo f sz) (lQ (lW 0 0 1 out.1) out.1 out.2 D cI cZ cO cL ad (kE ad cI cZ cO k mo) xo sz) lNo 8 48 (fL ad xo sz) := by
  refine lr_met (as := [.ref (ad 0), .int v1, .ref xo]) (bytes := cL_best) (maxL := 4) (rt := some .int) (hh := [(0, 9, 12, 21)]) (Qc := fun sz => lQ (lW 0 0 1 out.1) out.1 out.2 D cI cZ cO cL ad (kE ad cI cZ cO k mo) xo sz) (lv := [(0, .ref (ad 0)), (1, .int v1), (2, .ref xo)]) hst (by decide +kernel) (Nat.le_of_ble_eq_true rfl) rfl (fun p e s m below meth c ls V XV ht h hl => ?_) sz
  obtain ⟨hx, hb, hml, hown, hts, hr, hlk, hK⟩ := id V
  refine lv_aload_n hx hb dL_best_0 rfl (lv_at hl 2 rfl) ?_
  refine lv_iconst (v := 0) hx hb dL_best_1 (by decide) ?_
  refine lv_aload_n hx hb dL_best_2 rfl (lv_at hl 0 rfl) ?_
  refine lv_iload_n hx hb dL_best_3 rfl (lv_at hl 1 rfl) ?_
  refine lr_callx h fL_new (lr_runX (pl := 0) (ci := 5) (as := [.int v1]) (rest := [.int 0, .ref xo]) V h kYX5_best kl_L_65 (c_X5_best l hst v1 hf s.heap.size) kPX_blind (lr_preX h hK XV) rfl rfl ⟨(Nat.le_of_ble_eq_true rfl), (Nat.le_of_ble_eq_true rfl)⟩ (by decide) kE_0 rfl rfl hl.1 (Nat.le_of_ble_eq_true rfl) dL_best_4 ⟨(Nat.le_of_ble_eq_true rfl), (Nat.le_of_ble_eq_true rfl)⟩ rfl) (fun h0 En ce q9 H1 locs1 hE h hcell hv hcl => ?_) (fun h0 H1 locs1 h => ?_)
  · subst hE
    rcases hcode with h9 | ⟨h9, h8⟩ | ⟨h9, h8⟩ | ⟨h9, h8⟩
    · exact absurd h9 h0
    · exact absurd rfl h8
    · exact absurd rfl h8
    · rw [h9] at hcl
      refine vx_catch hown (name := kEx 3) (E := kEx 3) [] ⟨0, 9, 12, 21⟩ [] ht (fun z hz => by cases hz) rfl (by decide) (hts _ kc_L_21) (lr_cast hts XV 3 (by decide)) hcell hv hcl ?_
      rw [show lW 0 0 1 out.1 = 1 from by rw [h9]; rfl]
      exact lr_h1 (k9 := 3) V XV.2.2.2 h hl (by decide) h0 (Nat.le_of_ble_eq_true rfl) (Nat.le_of_ble_eq_true rfl) (by decide) dL_best_12 dL_best_13 dL_best_14
  · rw [show lW 0 0 1 out.1 = 0 from by rw [h0]; rfl]
    exact lr_ok (tgt := 15) V XV.2.2.2 h (Nat.le_of_ble_eq_true rfl) (Nat.le_of_ble_eq_true rfl) dL_best_7 dL_best_8 dL_best_9 (by decide) dL_best_15 dL_best_16
