/-! BELOW -/
section
variable {p : Program} {l : Launch} {e : Env} {s : State} {mm : MethodId} {args : Array Value} {below : List Frame} {meth : Method} {c : Code} {D : va_G} {g : Nat → ClassId} {A : Nat → Prop}
variable {ad : Nat → Nat}
variable {z : kS}
abbrev rm_L_below : Room := { frames := 0, cells := 0, slots := 0, locals := 0 }
set_option maxHeartbeats 4000000 in
set_option maxRecDepth 100000 in
theorem w_L_below_0 (V : jV p s mm args meth c cL_below RL 2 (some .int) D g) (hA : ∀ q, s.heap.size ≤ q → A q) {v0 : Int32} {v1 : Int32} {H : Heap} {locs : List Loc} {ls : Array Slot} {out : Int32} (hH : jH A s H locs D g ad z [] []) (hl : jl_has ls 2 [(0, .int v0), (1, .int v1)]) (hf : F_L_below_0 z v0 v1 = some out) : W p l e rm_L_below s mm args below meth c H locs 0 0 (jGi below args s D g A (fun a => a = ad) out z 0 0) (F0 mm 0 ls []) := by
  have hx := V.1
  have hb := V.2.1
  refine lv_iload_n hx hb dL_below_0 rfl (lv_at hl.1 0 rfl) ?_
  refine lv_ldc (v := 2147483647) hx hb V.2.2.2.1 (V.2.2.2.2.1 _ ki4_L_7) dL_below_1 ?_
  refine lv_iand hx hb dL_below_3 ?_
  refine lv_iload_n hx hb dL_below_4 rfl (lv_at hl.1 1 rfl) ?_
  obtain ⟨h0_1, hf⟩ := kif hf
  refine lv_irem hx hb dL_below_5 h0_1 ?_
  cases hf
  exact je_iret (G := fun a => a = ad) V rfl hH dL_below_6
set_option maxHeartbeats 4000000 in
set_option maxRecDepth 100000 in
theorem c_L_below (l : Launch) {D : va_G} {g : Nat → ClassId} {ad : Nat → Nat} {z : kS} (v0 : Int32) (v1 : Int32) {out : Int32} (hf : F_L_below z v0 v1 = some out) (sz : Nat) : Met l yL_below (Cond.code yL_below cL_below 2 (some .int) :: kWA) rm_L_below (jP [.int v0, .int v1] D g ad z sz) (jQi out (fun a => a = ad) D g (va_A (jC g ad z) sz) z) 0 0 (va_A (jC g ad z) sz) := by
  refine j_met (as := [.int v0, .int v1]) (bytes := cL_below) (maxL := 2) (rt := (some .int)) (lv := [(0, .int v0), (1, .int v1)]) (by decide +kernel) (by simp [lg_sl, jcatv, jcati, jcatr]) (by simp [lv_args, jcatv, jcati, jcatr]) (by simp [jcatv, jcati, jcatr]) (fun p e s mm below meth c ls hsz V hA hH hl => ?_)
  exact w_L_below_0 V hA hH (jl_sub hl [0, 1] rfl) hf
end
