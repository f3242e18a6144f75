/-! NEW PERSONS, LANDS, SIM -/
def jiP (as : List Value) (D : va_G) (g : Nat → ClassId) (ws : va_W) (sz : Nat) : Array Value → State → Prop :=
  va_Pc as (fun U => (U.heap.size = sz ∧ va_P D vwCl ws U.heap ∧ va_K D vwCl (jT g) U ∧ va_D (fun _ => True) ws) ∧ jX U)
theorem jiP_blind {as : List Value} {D : va_G} {g : Nat → ClassId} {ws : va_W} {sz : Nat} : FrameBlind (jiP as D g ws sz) := fun a U g2 mk q => by
  obtain ⟨q0, ⟨q1, qP, qK, qD⟩, qX⟩ := q
  exact ⟨q0, ⟨q1, qP, va_K.moved (u := U) (U := U.calling g2 mk a) (Vm.Alike.refl U.vm) qK, qD⟩, qX.calling⟩
abbrev jiQ (D : va_G) (g : Nat → ClassId) (Wn : (Nat → Nat) → va_W) (ws : va_W) (sz : Nat) := va_Qv (fun _ : Nat → Nat => True) (fun u t => va_P D vwCl (Wn u) t.heap ∧ va_K D vwCl (jT g) t ∧ va_D (va_A ws sz) (Wn u)) (va_A ws sz)
section JN
variable {p : Program} {l : Launch} {e : Env} {R : Room} {s : State} {m : MethodId} {args : Array Value} {below : List Frame} {meth : Method} {c : Code} {H : Heap} {locs : List Loc} {cells slots : Nat} {Q : State → Prop} {A : Nat → Prop}
variable {cc : ByteArray} {own : String} {nL : Nat} {ret : Option FieldType} {D : va_G} {g : Nat → ClassId} {ad : Nat → Nat} {z z2 : kS} {Y X ws : va_W} {pc : Nat} {ls : Array Slot} {rest : List Value} {mc ms : Nat}
/-- a world as a list -/
def jW (A : Nat → Prop) (s : State) (H : Heap) (locs : List Loc) (D : va_G) (ws : va_W) : Prop := va_P D vwCl ws H ∧ va_D A ws ∧ va_S A s.heap H locs
theorem ji_obj (V : jV p s m args meth c cc own nL ret D g) (hsz : ls.size = nL) {a index : Nat} (hl : Cond.methodLink own index objectInit ∈ kWA) (hfr : 1 ≤ R.frames) (hlo : 20 ≤ R.locals) (hdg : decode cc pc = .ok (.invokespecial index, 3))
    (kk : W p l e R s m args below meth c H locs cells slots Q (F0 m (pc + 3) ls [])) : W p l e R s m args below meth c H locs cells slots Q (F0 m pc ls [.ref a]) := by
  obtain ⟨hx, hbb, hml, hown, hts, hr, hlk, hK, -⟩ := V
  exact W.objInit hx hbb hown (hts _ hl) (hts _ kinst_objectInit) (hts _ kd_objectInit) rfl (hsz.trans hml.symm) rfl hdg hfr (Nat.le_trans (Nat.le_of_ble_eq_true rfl) hlo) kk
theorem ji_newp (V : jV p s m args meth c cc own nL ret D g) (hA : ∀ q, s.heap.size ≤ q → A q) (h : jW A s H locs D ws) {index : Nat} (hcl : Cond.classLink own index "KingTiesLaw$Person" ∈ kWA) (hc : cells + 1 ≤ R.cells) (hs : slots + 0 ≤ R.slots) (hdg : decode cc pc = .ok (.anewarray index, 3))
    (kk : ∀ (q : Nat) (H1 : Heap), jW A s H1 locs D (ws ++ [(q, .inl (g 3, 0, jRf fun _ => none))]) → W p l e R s m args below meth c H1 locs (cells + 1) (slots + 0) Q (F0 m (pc + 3) ls (.ref q :: rest))) : W p l e R s m args below meth c H locs cells slots Q (F0 m pc ls (.int 0 :: rest)) := by
  obtain ⟨hx, hb, hml, hown, hts, hr, hlk, hK, hJ⟩ := V
  refine va_newq (C := "KingTiesLaw$Person") (D := D) (N' := 0) hx hb hown (hts _ hcl) hJ.1 hK h.1 h.2.1 h.2.2 hA (by decide) rfl (by decide) hc hs hdg (fun q cA H1 hK1 hP hD hS => ?_)
  have e := jcls (i := 3) hK1 rfl jclsO
  subst e
  exact kk q H1 ⟨hP, hD, hS⟩
theorem ji_newl (V : jV p s m args meth c cc own nL ret D g) (hA : ∀ q, s.heap.size ≤ q → A q) (h : jW A s H locs D ws) {index : Nat} (hcl : Cond.classLink own index "KingTiesLaw$Land" ∈ kWA) (hc : cells + 1 ≤ R.cells) (hs : slots + 0 ≤ R.slots) (hdg : decode cc pc = .ok (.anewarray index, 3))
    (kk : ∀ (q : Nat) (H1 : Heap), jW A s H1 locs D (ws ++ [(q, .inl (g 4, 0, jRf fun _ => none))]) → W p l e R s m args below meth c H1 locs (cells + 1) (slots + 0) Q (F0 m (pc + 3) ls (.ref q :: rest))) : W p l e R s m args below meth c H locs cells slots Q (F0 m pc ls (.int 0 :: rest)) := by
  obtain ⟨hx, hb, hml, hown, hts, hr, hlk, hK, hJ⟩ := V
  refine va_newq (C := "KingTiesLaw$Land") (D := D) (N' := 0) hx hb hown (hts _ hcl) hJ.2.1 hK h.1 h.2.1 h.2.2 hA (by decide) rfl (by decide) hc hs hdg (fun q cA H1 hK1 hP hD hS => ?_)
  have e := jcls (i := 4) hK1 rfl jclsO
  subst e
  exact kk q H1 ⟨hP, hD, hS⟩
theorem ji_put (V : jV p s m args meth c cc own nL ret D g) (h : jW A s H locs D ws) (q0 : Nat) {a ci : Nat} {fs : List Value} (he : ws[q0]? = some (a, .inr (ci, fs))) {C : String} {T : u_T} {N : Nat} (hc : vwCl[ci]? = some (C, T, N)) (hin : ∀ w ∈ u_ws C T N, w ∈ kWA) (ty0 : Nat → FieldType) (hty : ∀ k, k < N → parseFieldDescriptor (T k).2.2.1 = some (ty0 k)) (hnm : ∀ a, a < N → ∀ b, b < N → a ≠ b → (T a).2.1 ≠ (T b).2.1) (j : Nat) (hj : j < N) {index : Nat} (hl : Cond.fieldLink own index (T j).1 (T j).2.1 (T j).2.2.1 ∈ kWA) (hfin : (T j).2.2.2 = false) {ty : FieldType} {v : Value} (hd : parseFieldDescriptor (T j).2.2.1 = some ty) (hnv : narrow ty v = v) (hfit : fits ty v = true) (hlen : j < fs.length) (hdg : decode cc pc = .ok (.putfield index, 3))
    (kk : ∀ (H1 : Heap) (locs1 : List Loc), jW A s H1 locs1 D (ws.set q0 (a, .inr (ci, fs.set j v))) → W p l e R s m args below meth c H1 locs1 cells slots Q (F0 m (pc + 3) ls rest)) : W p l e R s m args below meth c H locs cells slots Q (F0 m pc ls (v :: .ref a :: rest)) := by
  obtain ⟨hx, hbb, hml, hown, hts, hr, hlk, hK, -⟩ := V
  exact va_put (D := D) (ci := ci) (fs := fs) (v := v) (ty := ty) (C := C) (T := T) (N := N) hx hbb hts hin ty0 hty hnm hown hK h.1 h.2.1 h.2.2 q0 he hc j hj (hts _ hl) (fun _ h9 => h9) hfin hd hnv hfit hlen hdg (fun H1 locs1 hP hD hS => kk H1 locs1 ⟨hP, hD, hS⟩)
theorem ji_vret {u : Nat → Nat} {Wn : (Nat → Nat) → va_W} (V : jV p s m args meth c cc own nL none D g) (h : jW A s H locs D (Wn u)) (hdg : decode cc pc = .ok (.return_, 1)) : W p l e R s m args below meth c H locs cells slots (MQ below (va_Qv (fun _ : Nat → Nat => True) (fun u t => va_P D vwCl (Wn u) t.heap ∧ va_K D vwCl (jT g) t ∧ va_D A (Wn u)) A) args s cells slots A) (F0 m pc ls []) :=
  W.vret V.1 V.2.1 V.2.2.2.2.2.1 (fun t ht hW => ⟨⟨u, rfl, trivial, by rw [ht]; exact h.1, va_K.moved hW.alike V.2.2.2.2.2.2.2.1, h.2.1⟩, h.2.2.F ht⟩) h.2.2.2.2 hdg V.2.2.2.2.2.2.1
variable {y : MethodName} {bytes : ByteArray} {maxL n index : Nat} {rm : Room} {as : List Value}
theorem ji_met {Qc : Nat → Array Value → State → Outcome → State → Prop} {lv : List (Nat × Value)} (hy : plainName y.cls = true) (hlen : (lg_sl as).length ≤ maxL) (hlv : lv_args 0 as = lv) (hcat : ∀ q ∈ lv, q.2.category = 1)
    (body : ∀ (p : Program) (e : Env) (s : State) (m : MethodId) (below : List Frame) (meth : Method) (c : Code) (ls : Array Slot), jV p s m as.toArray meth c bytes y.cls maxL none D g → (∀ q, s.heap.size ≤ q → va_A ws s.heap.size q) → jW (va_A ws s.heap.size) s s.heap [] D ws → jl_has ls maxL lv → W p l e rm s m as.toArray below meth c s.heap [] 0 0 (MQ below (Qc s.heap.size) as.toArray s mc ms (va_A ws s.heap.size)) (F0 m 0 ls [])) (sz : Nat) :
    Met l y (Cond.code y bytes maxL none :: kWA) rm (jiP as D g ws sz) (Qc sz) mc ms (va_A ws sz) := by
  refine Met.ofW (cc := bytes) (maxL := maxL) (ret := none) hy rfl ?_
  intro p e s m args below meth c s₁ B hml hv
  obtain ⟨rfl, ⟨hsz, hP, hK, hD0⟩, hJ⟩ := hv
  have hts := atoms_spec (ws := Cond.code y bytes maxL none :: kWA) B.pre
  have hown : s.vm.findClass y.cls = some m.cls := findClass_of_methodNamed B.named
  subst hsz
  have hl := lv_entry as (n := maxL) hlen
  rw [lg_entry_eq]
  rw [hlv] at hl
  exact body p e s m below meth c _ ⟨B.exec, B.bytes, hml, hown, fun w hw => hts w (List.mem_cons_of_mem _ hw), B.returns, B.notSynchronized, hK, hJ⟩ (fun q hq => Or.inr hq) ⟨hP, hD0.self, va_S.rf⟩ ⟨hl, hcat⟩
/-- a call of a nest mate's constructor: the object stands behind all else -/
theorem jr_initN {x : Nat × va_E} {Wn : (Nat → Nat) → va_W} (V : jV p s m args meth c cc own nL ret D g) (hA : ∀ q, s.heap.size ≤ q → A q) (h : jW A s H locs D (ws ++ [x])) (hM : Met l y (Cond.code y bytes maxL none :: kWA) rm (jiP [.ref x.1] D g [x] H.size) (jiQ D g Wn [x] H.size) mc ms (va_A [x] H.size)) (hcd : Cond.code y bytes maxL none ∈ kWA) (hrc : rm.cells = mc) (hrs : rm.slots = ms) (hini : Cond.initialized y.cls ∈ kWA) {host : String} (hl : va_Nw (.methodLinkNest own index y host) s) (hinst : Cond.instanceMethod y ∈ kWA) (hnm : y.name = "<init>") (hd : y.cls ≠ "java/lang/invoke/MethodHandle" ∧ y.cls ≠ "java/lang/invoke/VarHandle" ∧ (parseMethodDescriptor y.desc).map (fun d => d.parameters.length) = some 0) (hR : rm.frames + 1 ≤ R.frames ∧ 8 + (maxL + 11) + rm.locals ≤ R.locals) (hsz : ls.size = nL) (hroom : rest.length ≤ 4) (hf : cells + mc ≤ R.cells ∧ slots + ms ≤ R.slots) (hdg : decode cc pc = .ok (.invokespecial index, 3))
    (kk : ∀ (u : Nat → Nat) (H1 : Heap) (locs1 : List Loc), jW A s H1 locs1 D (ws ++ Wn u) → W p l e R s m args below meth c H1 locs1 (cells + mc) (slots + ms) Q (F0 m (pc + 3) ls rest)) : W p l e R s m args below meth c H locs cells slots Q (F0 m pc ls (.ref x.1 :: rest)) := by
  obtain ⟨hx, hbb, hml, hown, hts, hr, hlk, hK, hJ⟩ := V
  obtain ⟨hP, hD, hS⟩ := h
  have hC : [ws.length].map (fun i => (ws ++ [x])[i]?) = [x].map some := by simp
  have hRr : (List.range ws.length).map (fun i => (ws ++ [x])[i]?) = ws.map some := jis_l ws [x]
  have hPc : va_P D vwCl [x] H := hP.sub [ws.length] (by simp)
  have hDc : va_D A [x] := hD.sub [ws.length] (by simp [va_nd]) (by simp)
  have hFc : ∀ a, va_A [x] H.size a → A a := va_free hD hS hA [ws.length] hC
  refine va_callv (va_runIN (b := x.1) (As := []) (rest := rest) (nL := nL) ⟨hx, hbb, hml, hown, hts⟩ hM ⟨va_cnB 0 hts (fun w hw => (List.mem_cons.mp hw).elim (fun e => by rw [e]; exact ⟨hcd, kWA_good _ hcd⟩) (fun h2 => ⟨h2, kWA_good w h2⟩)) rfl hrc hrs hl (hts _ hini) hd hR, hnm, hts _ hinst⟩ ⟨jiP_blind, fun U hU hW => ⟨rfl, ⟨by rw [hU], by rw [hU]; exact hPc, va_K.moved hW.alike hK, hDc.weaken (fun _ _ _ _ => trivial)⟩, hJ.warm hW⟩⟩ rfl rfl hsz rfl (lv_room (jroom hroom)) hdg hf) hS (fun q _ h => hFc q h) hFc (fun u t H1 locs1 ht hvm hw hB hz1 hk1 hS => ?_)
  obtain ⟨hP1, hK1, hD1⟩ := hB
  rw [ht] at hP1
  obtain ⟨hP, hD⟩ := va_join (wc := [x]) (wr := ws) (w1 := Wn u) hP hD [ws.length] (List.range ws.length) hC hRr (va_nd_of _ List.nodup_range) (fun i hi hi2 => by
    have h8 := List.mem_range.mp hi
    simp only [List.mem_cons, List.not_mem_nil, or_false] at hi2
    omega) hk1 hFc hP1 hD1
  exact kk u H1 locs1 ⟨hP, hD, hS⟩
end JN
abbrev jp0 : List Value := [.int 0, .int 0, .int 0, .int 0, .null, .null, .null, .null, .null]
abbrev jp1 : List Value := [.int 0, .int 0, .int 0, .int (-1), .null, .null, .null, .null, .null]
set_option maxHeartbeats 4000000 in
set_option maxRecDepth 100000 in
theorem c_X7_init (l : Launch) {D : va_G} {g : Nat → ClassId} (h0 : Nat) (sz : Nat) : Met l yX7_init (Cond.code yX7_init cX7_init 1 none :: kWA) { frames := 1, cells := 0, slots := 0, locals := 20 } (jiP [.ref h0] D g [(h0, .inr (7, jp0))] sz) (jiQ D g (fun _ => [(h0, .inr (7, jp1))]) [(h0, .inr (7, jp0))] sz) 0 0 (va_A [(h0, .inr (7, jp0))] sz) := by
  refine ji_met (as := [.ref h0]) (bytes := cX7_init) (maxL := 1) (ws := [(h0, .inr (7, jp0))]) (lv := [(0, .ref h0)]) (Qc := fun sz => jiQ D g (fun _ => [(h0, .inr (7, jp1))]) [(h0, .inr (7, jp0))] sz) (by decide +kernel) (by simp [lg_sl, jcatr]) (by simp [lv_args]) (by simp [jcatr]) (fun p e s m below meth c ls V hA hH hl => ?_) sz
  have hx := V.1
  have hb := V.2.1
  refine lv_aload_n hx hb dX7_init_0 rfl (lv_at hl.1 0 rfl) ?_
  refine ji_obj V hl.1.1 kl_X7_1 (by decide) (by decide) dX7_init_1 ?_
  refine lv_aload_n hx hb dX7_init_4 rfl (lv_at hl.1 0 rfl) ?_
  refine lv_iconst (v := -1) hx hb dX7_init_5 (by decide) ?_
  refine ji_put V hH 0 rfl rfl kX7 tyX7 tyX7_ok nmX7 3 (by decide) kf_X7_7 rfl rfl rfl rfl (by decide) dX7_init_6 (fun H locs hH => ?_)
  exact ji_vret (u := fun _ => 0) (Wn := fun _ => [(h0, .inr (7, jp1))]) V hH dX7_init_9
abbrev jl0 : List Value := [.int 0, .int 0, .null, .null]
abbrev jl1 (h : Nat) : List Value := [.int 0, .int 0, .null, .ref h]
set_option maxHeartbeats 4000000 in
set_option maxRecDepth 100000 in
theorem c_X6_init (l : Launch) {D : va_G} {g : Nat → ClassId} (h0 : Nat) (sz : Nat) : Met l yX6_init (Cond.code yX6_init cX6_init 1 none :: kWA) { frames := 1, cells := 1, slots := 0, locals := 20 } (jiP [.ref h0] D g [(h0, .inr (6, jl0))] sz) (jiQ D g (fun u => [(h0, .inr (6, jl1 (u 0))), (u 0, .inl (g 3, 0, jRf fun _ => none))]) [(h0, .inr (6, jl0))] sz) 1 0 (va_A [(h0, .inr (6, jl0))] sz) := by
  refine ji_met (as := [.ref h0]) (bytes := cX6_init) (maxL := 1) (ws := [(h0, .inr (6, jl0))]) (lv := [(0, .ref h0)]) (Qc := fun sz => jiQ D g (fun u => [(h0, .inr (6, jl1 (u 0))), (u 0, .inl (g 3, 0, jRf fun _ => none))]) [(h0, .inr (6, jl0))] sz) (by decide +kernel) (by simp [lg_sl, jcatr]) (by simp [lv_args]) (by simp [jcatr]) (fun p e s m below meth c ls V hA hH hl => ?_) sz
  have hx := V.1
  have hb := V.2.1
  refine lv_aload_n hx hb dX6_init_0 rfl (lv_at hl.1 0 rfl) ?_
  refine ji_obj V hl.1.1 kl_X6_1 (by decide) (by decide) dX6_init_1 ?_
  refine lv_aload_n hx hb dX6_init_4 rfl (lv_at hl.1 0 rfl) ?_
  refine lv_iconst (v := 0) hx hb dX6_init_5 (by decide) ?_
  refine ji_newp V hA hH kc_X6_7 (by decide) (by decide) dX6_init_6 (fun q H hH => ?_)
  refine ji_put V hH 0 rfl rfl kX6 tyX6 tyX6_ok nmX6 3 (by decide) kf_X6_9 rfl rfl rfl rfl (by decide) dX6_init_9 (fun H locs hH => ?_)
  exact ji_vret (u := fun _ => q) (Wn := fun u => [(h0, .inr (6, jl1 (u 0))), (u 0, .inl (g 3, 0, jRf fun _ => none))]) V hH dX6_init_12
abbrev js0 : List Value := [.null, .null, .int 0]
set_option maxHeartbeats 4000000 in
set_option maxRecDepth 100000 in
theorem c_X8_init (l : Launch) {D : va_G} {g : Nat → ClassId} (h0 : Nat) (sz : Nat) : Met l yX8_init (Cond.code yX8_init cX8_init 1 none :: kWA) { frames := 1, cells := 2, slots := 0, locals := 20 } (jiP [.ref h0] D g [(h0, .inr (8, js0))] sz) (jiQ D g (fun u => [(h0, .inr (8, [.ref (u 0), .ref (u 1), .int 0])), (u 0, .inl (g 3, 0, jRf fun _ => none)), (u 1, .inl (g 4, 0, jRf fun _ => none))]) [(h0, .inr (8, js0))] sz) 2 0 (va_A [(h0, .inr (8, js0))] sz) := by
  refine ji_met (as := [.ref h0]) (bytes := cX8_init) (maxL := 1) (ws := [(h0, .inr (8, js0))]) (lv := [(0, .ref h0)]) (Qc := fun sz => jiQ D g (fun u => [(h0, .inr (8, [.ref (u 0), .ref (u 1), .int 0])), (u 0, .inl (g 3, 0, jRf fun _ => none)), (u 1, .inl (g 4, 0, jRf fun _ => none))]) [(h0, .inr (8, js0))] sz) (by decide +kernel) (by simp [lg_sl, jcatr]) (by simp [lv_args]) (by simp [jcatr]) (fun p e s m below meth c ls V hA hH hl => ?_) sz
  have hx := V.1
  have hb := V.2.1
  refine lv_aload_n hx hb dX8_init_0 rfl (lv_at hl.1 0 rfl) ?_
  refine ji_obj V hl.1.1 kl_X8_1 (by decide) (by decide) dX8_init_1 ?_
  refine lv_aload_n hx hb dX8_init_4 rfl (lv_at hl.1 0 rfl) ?_
  refine lv_iconst (v := 0) hx hb dX8_init_5 (by decide) ?_
  refine ji_newp V hA hH kc_X8_7 (by decide) (by decide) dX8_init_6 (fun q H hH => ?_)
  refine ji_put V hH 0 rfl rfl kX8 tyX8 tyX8_ok nmX8 0 (by decide) kf_X8_9 rfl rfl rfl rfl (by decide) dX8_init_9 (fun H locs hH => ?_)
  refine lv_aload_n hx hb dX8_init_12 rfl (lv_at hl.1 0 rfl) ?_
  refine lv_iconst (v := 0) hx hb dX8_init_13 (by decide) ?_
  refine ji_newl V hA hH kc_X8_15 (by decide) (by decide) dX8_init_14 (fun q2 H hH => ?_)
  refine ji_put V hH 0 rfl rfl kX8 tyX8 tyX8_ok nmX8 1 (by decide) kf_X8_17 rfl rfl rfl rfl (Nat.le_of_ble_eq_true rfl) dX8_init_17 (fun H locs hH => ?_)
  exact ji_vret (u := fun i => if i = 0 then q else q2) (Wn := fun u => [(h0, .inr (8, [.ref (u 0), .ref (u 1), .int 0])), (u 0, .inl (g 3, 0, jRf fun _ => none)), (u 1, .inl (g 4, 0, jRf fun _ => none))]) V hH dX8_init_20
