/-! ROWS OF CONSTRUCTORS: worlds as lists -/
theorem va_AOA.moved {t : FieldType} {u U : State} (hvm : u.vm.Alike U.vm) (h : va_AOA t u) : va_AOA t U := by
  obtain ⟨comp, c, k, h1, h2, h3, h4, h5⟩ := arrayOverA_spec h
  obtain ⟨k', hk', he⟩ := hvm.2.2 _ _ h3
  have hi : (U.vm.classes.findIdx? fun (x : Class) => match x.kind with | .array component _ => component == comp | _ => false) = some c := by
    rw [hvm.findIdx?_eq _ (fun _ => rfl)]
    exact h2
  have hkind : k'.kind = .array comp (.array t) := by rw [he]; exact h4
  have f1 : U.vm.findClass (FieldType.array t).toString = some comp := by rw [hvm.findClass]; exact h1
  have f2 : U.vm.findClass ("[" ++ (FieldType.array t).toString) = some c := by rw [hvm.findClass]; exact h5
  unfold va_AOA Cond.before Cond.holds
  simp only [Cond.value]
  rw [f1, Option.bind_some]
  refine (congrArg (fun o : Option Nat => (o.bind (fun c => (U.vm.classes[c]?).map fun (k : Class) => match k.kind with | .array _ ty => decide (ty = FieldType.array t) && decide (U.vm.findClass ("[" ++ (FieldType.array t).toString) = some c) | _ => false) == some true)) hi).trans ?_
  simp [hk', hkind, f2]
/-- words that a constructor wants, that aren't good ones -/
def iX (U : State) : Prop := va_AOA .int U ∧ va_Nw (.methodLinkNest RX4 11 yX1_init RX5) U ∧ va_Nw (.methodLinkNest RX4 27 yX2_init RX5) U ∧ va_Nw (.methodLinkNest RX5 9 yX0_init RX5) U
theorem iX.warm {s U : State} (hW : s.WarmedH U.vm) (h : iX s) : iX U := ⟨va_AOA.moved hW.alike h.1, va_Nw.warmM hW h.2.1, va_Nw.warmM hW h.2.2.1, va_Nw.warmM hW h.2.2.2⟩
theorem iX.calling {U : State} {g : JFrame} {mk : MethodId} {a : Array Value} (h : iX U) : iX (U.calling g mk a) := ⟨va_AOA.moved (u := U) (U := U.calling g mk a) (Vm.Alike.refl U.vm) h.1, va_Nw.same (u := U) (U := U.calling g mk a) rfl rfl h.2.1, va_Nw.same (u := U) (U := U.calling g mk a) rfl rfl h.2.2.1, va_Nw.same (u := U) (U := U.calling g mk a) rfl rfl h.2.2.2⟩
/-- what stays while a constructor runs -/
def iV (p : Program) (s : State) (m : MethodId) (args : Array Value) (meth : Method) (c : Code) (cc : ByteArray) (own : String) (nL : Nat) (D : va_G) (cI cZ cO : ClassId) : Prop :=
  kV p s m args meth c cc own nL none D cI cZ cO ∧ iX s ∧ meth.name = "<init>"
/-- the heap -/
def iH (A : Nat → Prop) (s : State) (H : Heap) (locs : List Loc) (D : va_G) (ws : va_W) : Prop := va_P D vwCl ws H ∧ va_D A ws ∧ va_S A s.heap H locs ∧ ∀ q, s.heap.size ≤ q → A q
def iP (as : List Value) (D : va_G) (cI cZ cO : ClassId) (ws : va_W) (sz : Nat) : Array Value → State → Prop :=
  va_Pc as (fun U => (U.heap.size = sz ∧ va_P D vwCl ws U.heap ∧ va_K D vwCl (kT cI cZ cO) U ∧ va_D (fun _ => True) ws) ∧ iX U)
theorem iP_blind {as : List Value} {D : va_G} {cI cZ cO : ClassId} {ws : va_W} {sz : Nat} : FrameBlind (iP as D cI cZ cO ws sz) := fun a U g mk q => by
  obtain ⟨q0, ⟨q1, qP, qK, qD⟩, qX⟩ := q
  exact ⟨q0, ⟨q1, qP, va_K.moved (u := U) (U := U.calling g mk a) (Vm.Alike.refl U.vm) qK, qD⟩, qX.calling⟩
abbrev iQ (D : va_G) (cI cZ cO : ClassId) (Wn : (Nat → Nat) → va_W) (ok : (Nat → Nat) → Prop) (ws : va_W) (sz : Nat) := va_Qv ok (fun u t => va_P D vwCl (Wn u) t.heap ∧ va_K D vwCl (kT cI cZ cO) t ∧ va_D (va_A ws sz) (Wn u)) (va_A ws sz)
theorem va_A_app {X : va_W} {x : Nat × va_E} {sz q : Nat} (h : va_A [x] sz q) : va_A (X ++ [x]) sz q := by
  rcases h with ⟨k, e, h⟩ | h
  · exact Or.inl ⟨X.length + k, e, by rw [List.getElem?_append_right (by omega), show X.length + k - X.length = k by omega]; exact h⟩
  · exact Or.inr h
section IR
variable {p : Program} {l : Launch} {e : Env} {R : Room} {s : State} {m : MethodId} {args : Array Value} {below : List Frame} {meth : Method} {c : Code} {H : Heap} {locs : List Loc} {cells slots : Nat} {Q : State → Prop} {A : Nat → Prop}
variable {cc : ByteArray} {own : String} {nL : Nat} {D : va_G} {cI cZ cO : ClassId} {ws : va_W} {pc : Nat} {ls : Array Slot} {rest : List Value} {N : Nat}
theorem kcO {cA : ClassId} (h : va_K D vwCl (kT cI cZ cO) s) (h2 : s.vm.findClass ("[" ++ (FieldType.array .int).toString) = some cA) : cA = cO := by
  have h3 : s.vm.findClass ("[" ++ (FieldType.array .int).toString) = some cO := (h.2 2 _ rfl).2
  rw [h3] at h2
  exact (Option.some.inj h2).symm
theorem kcZ {cA : ClassId} {ty : FieldType} (h : va_K D vwCl (kT cI cZ cO ++ [(cA, .boolean)]) s) : cA = cZ := by
  have h1 := (h.2 1 _ rfl).2
  have h2 := (h.2 3 _ rfl).2
  have h3 : s.vm.findClass ("[" ++ (FieldType.boolean).toString) = some cZ := h1
  have h4 : s.vm.findClass ("[" ++ (FieldType.boolean).toString) = some cA := h2
  rw [h3] at h4
  exact (Option.some.inj h4).symm
theorem ir_newa (V : iV p s m args meth c cc own nL D cI cZ cO) (h : iH A s H locs D ws) {n : Int32} (hn : ¬ n < 0) (hN : n.toNatClampNeg = N) (hb : N * componentBytes .int ≤ 536870912) (hc : cells + 1 ≤ R.cells) (hs : slots + N ≤ R.slots) (hdg : decode cc pc = .ok (.newarray .int, 2))
    (kk : ∀ (q : Nat) (H1 : Heap), iH A s H1 locs D (ws ++ [(q, .inl (cI, N, .inl (fun _ => 0)))]) → W p l e R s m args below meth c H1 locs (cells + 1) (slots + N) Q (F0 m (pc + 2) ls (.ref q :: rest))) : W p l e R s m args below meth c H locs cells slots Q (F0 m pc ls (.int n :: rest)) := by
  obtain ⟨⟨hx, hbb, hml, hown, hts, hr, hlk, hK⟩, -, -⟩ := V
  obtain ⟨hP, hD, hS, hA⟩ := h
  refine va_newa (atype := .int) (ty := .int) (D := D) hx hbb (hts _ kA_int) rfl hK hP hD hS hA (a0 := (N, .inl (fun _ => 0))) (fun cA => rfl) hn hN hb hc hs hdg (fun q cA H1 hK1 hP hD hS => ?_)
  have e := kcI (ty := .int) hK1
  subst e
  exact kk q H1 ⟨hP, hD, hS, hA⟩
theorem ir_newz (V : iV p s m args meth c cc own nL D cI cZ cO) (h : iH A s H locs D ws) {n : Int32} (hn : ¬ n < 0) (hN : n.toNatClampNeg = N) (hb : N * componentBytes .boolean ≤ 536870912) (hc : cells + 1 ≤ R.cells) (hs : slots + N ≤ R.slots) (hdg : decode cc pc = .ok (.newarray .boolean, 2))
    (kk : ∀ (q : Nat) (H1 : Heap), iH A s H1 locs D (ws ++ [(q, .inl (cZ, N, .inl (fun _ => 0)))]) → W p l e R s m args below meth c H1 locs (cells + 1) (slots + N) Q (F0 m (pc + 2) ls (.ref q :: rest))) : W p l e R s m args below meth c H locs cells slots Q (F0 m pc ls (.int n :: rest)) := by
  obtain ⟨⟨hx, hbb, hml, hown, hts, hr, hlk, hK⟩, -, -⟩ := V
  obtain ⟨hP, hD, hS, hA⟩ := h
  refine va_newa (atype := .boolean) (ty := .boolean) (D := D) hx hbb (hts _ kA_boolean) rfl hK hP hD hS hA (a0 := (N, .inl (fun _ => 0))) (fun cA => rfl) hn hN hb hc hs hdg (fun q cA H1 hK1 hP hD hS => ?_)
  have e := kcZ (ty := .boolean) hK1
  subst e
  exact kk q H1 ⟨hP, hD, hS, hA⟩
/-- new int[N][K] -/
theorem ir_mna (V : iV p s m args meth c cc own nL D cI cZ cO) (h : iH A s H locs D ws) {n k : Int32} {K index : Nat} (hcl : Cond.classLink own index "[[I" ∈ kWA) (hn : ¬ n < 0) (hk : ¬ k < 0) (hN : n.toNatClampNeg = N) (hM : k.toNatClampNeg = K) (hb1 : N * 4 ≤ 536870912) (hb2 : K * componentBytes .int ≤ 536870912) (hb3 : K ≤ 536870912) (hc : cells + (1 + N) ≤ R.cells) (hs : slots + (N + N * K) ≤ R.slots) (hdg : decode cc pc = .ok (.multianewarray index 2, 4))
    (kk : ∀ (q : Nat) (r : Nat → Nat) (H1 : Heap), iH A s H1 locs D ((ws ++ [(q, .inl (cO, N, .inr (.inr (.inr (.inr (fun i => if i < N then some (r i) else none))))))]) ++ (List.range N).map (fun i => (r i, .inl (cI, K, .inl (fun _ => 0))))) → W p l e R s m args below meth c H1 locs (cells + 1 + N) (slots + N + N * K) Q (F0 m (pc + 4) ls (.ref q :: rest))) : W p l e R s m args below meth c H locs cells slots Q (F0 m pc ls (.int k :: .int n :: rest)) := by
  obtain ⟨⟨hx, hbb, hml, hown, hts, hr, hlk, hK⟩, hO, -⟩ := V
  obtain ⟨hP, hD, hS, hA⟩ := h
  have hcI : s.vm.findClass (FieldType.array .int).toString = some cI := (hK.2 0 _ rfl).2
  refine va_mna (X := ws) (L := []) (f := fun _ => .inl (cI, K, .inl (fun _ => 0))) (D := D) (ty := .int) hx hbb hown (hts _ hcl) hO.1 (hts _ kA_int) hcI hK (by rw [show va_pl [] (fun _ => (.inl (cI, K, .inl (fun _ => 0)) : va_E)) = [] from rfl, List.append_nil]; exact hP) (by rw [show va_pl [] (fun _ => (.inl (cI, K, .inl (fun _ => 0)) : va_E)) = [] from rfl, List.append_nil]; exact hD) hS hA hn hk hN hM hb1 hb2 hb3 rfl rfl hc hs (z := (K, .inl (fun _ => 0))) (fun c => ?_) hdg (fun q r cA H1 hri hrn hK1 hP hD hS => ?_)
  · show ({ cls := c, slots := Array.replicate K (.int 0), vm := .none } : Cell) = arrV c K (fun _ => .int 0)
    rw [arrV_new]
  · have h4 : s.vm.findClass ("[" ++ (FieldType.array .int).toString) = some cA := (hK1.2 3 _ rfl).2
    have e := kcO hK h4
    subst e
    have er : va_pl ([] ++ (List.range N).map r) (vr_up (fun _ => (.inl (cI, K, .inl (fun _ => 0)) : va_E)) ((List.range N).map r) (.inl (cI, (K, .inl (fun _ => 0))))) = (List.range N).map (fun i => (r i, .inl (cI, K, .inl (fun _ => 0)))) := by
      unfold va_pl
      rw [List.nil_append, List.map_map]
      refine List.map_congr_left (fun i hi => ?_)
      show (r i, vr_up _ _ _ (r i)) = _
      rw [vr_up_in (List.mem_map.mpr ⟨i, hi, rfl⟩)]
    rw [er] at hP hD
    exact kk q r H1 ⟨hP, hD, hS, hA⟩
/-- putfield in a constructor -/
theorem ir_putF (V : iV p s m args meth c cc own nL D cI cZ cO) (h : iH A s H locs D ws) (q0 : Nat) {a ci : Nat} {fs : List Value} (he : ws[q0]? = some (a, .inr (ci, fs))) {C : String} {T : u_T} {N : Nat} (hc : vwCl[ci]? = some (C, T, N)) (hin : ∀ w ∈ u_ws C T N, w ∈ kWA) (ty0 : Nat → FieldType) (hty : ∀ k, k < N → parseFieldDescriptor (T k).2.2.1 = some (ty0 k)) (hnm : ∀ a, a < N → ∀ b, b < N → a ≠ b → (T a).2.1 ≠ (T b).2.1) (j : Nat) (hj : j < N) {index : Nat} (hl : Cond.fieldLink own index (T j).1 (T j).2.1 (T j).2.2.1 ∈ kWA) (hdecl : (T j).1 = own) (hfin : (T j).2.2.2 = true) {ty : FieldType} {v : Value} (hd : parseFieldDescriptor (T j).2.2.1 = some ty) (hnv : narrow ty v = v) (hfit : fits ty v = true) (hlen : j < fs.length) (hdg : decode cc pc = .ok (.putfield index, 3))
    (kk : ∀ (H1 : Heap) (locs1 : List Loc), iH A s H1 locs1 D (ws.set q0 (a, .inr (ci, fs.set j v))) → W p l e R s m args below meth c H1 locs1 cells slots Q (F0 m (pc + 3) ls rest)) : W p l e R s m args below meth c H locs cells slots Q (F0 m pc ls (v :: .ref a :: rest)) := by
  obtain ⟨⟨hx, hbb, hml, hown, hts, hr, hlk, hK⟩, -, hi⟩ := V
  obtain ⟨hP, hD, hS, hA⟩ := h
  exact va_putF (D := D) (ci := ci) (fs := fs) (v := v) (ty := ty) (C := C) (T := T) (N := N) hx hbb hts hin ty0 hty hnm hown hK hP hD hS q0 he hc j hj (hts _ hl) (fun _ h9 => h9) hfin hi hdecl hd hnv hfit hlen hdg (fun H1 locs1 hP hD hS => kk H1 locs1 ⟨hP, hD, hS, hA⟩)
theorem ir_put (V : iV p s m args meth c cc own nL D cI cZ cO) (h : iH A s H locs D ws) (q0 : Nat) {a ci : Nat} {fs : List Value} (he : ws[q0]? = some (a, .inr (ci, fs))) {C : String} {T : u_T} {N : Nat} (hc : vwCl[ci]? = some (C, T, N)) (hin : ∀ w ∈ u_ws C T N, w ∈ kWA) (ty0 : Nat → FieldType) (hty : ∀ k, k < N → parseFieldDescriptor (T k).2.2.1 = some (ty0 k)) (hnm : ∀ a, a < N → ∀ b, b < N → a ≠ b → (T a).2.1 ≠ (T b).2.1) (j : Nat) (hj : j < N) {index : Nat} (hl : Cond.fieldLink own index (T j).1 (T j).2.1 (T j).2.2.1 ∈ kWA) (hfin : (T j).2.2.2 = false) {ty : FieldType} {v : Value} (hd : parseFieldDescriptor (T j).2.2.1 = some ty) (hnv : narrow ty v = v) (hfit : fits ty v = true) (hlen : j < fs.length) (hdg : decode cc pc = .ok (.putfield index, 3))
    (kk : ∀ (H1 : Heap) (locs1 : List Loc), iH A s H1 locs1 D (ws.set q0 (a, .inr (ci, fs.set j v))) → W p l e R s m args below meth c H1 locs1 cells slots Q (F0 m (pc + 3) ls rest)) : W p l e R s m args below meth c H locs cells slots Q (F0 m pc ls (v :: .ref a :: rest)) := by
  obtain ⟨⟨hx, hbb, hml, hown, hts, hr, hlk, hK⟩, -, hi⟩ := V
  obtain ⟨hP, hD, hS, hA⟩ := h
  exact va_put (D := D) (ci := ci) (fs := fs) (v := v) (ty := ty) (C := C) (T := T) (N := N) hx hbb hts hin ty0 hty hnm hown hK hP hD hS q0 he hc j hj (hts _ hl) (fun _ h9 => h9) hfin hd hnv hfit hlen hdg (fun H1 locs1 hP hD hS => kk H1 locs1 ⟨hP, hD, hS, hA⟩)
theorem ir_get (V : iV p s m args meth c cc own nL D cI cZ cO) (h : iH A s H locs D ws) (q0 : Nat) {a ci : Nat} {fs : List Value} (he : ws[q0]? = some (a, .inr (ci, fs))) {C : String} {T : u_T} {N : Nat} (hc : vwCl[ci]? = some (C, T, N)) (hin : ∀ w ∈ u_ws C T N, w ∈ kWA) (j : Nat) (hj : j < N) {index : Nat} (hl : Cond.fieldLink own index (T j).1 (T j).2.1 (T j).2.2.1 ∈ kWA) {v : Value} (hv : fs[j]? = some v) (hdg : decode cc pc = .ok (.getfield index, 3))
    (kk : W p l e R s m args below meth c H locs cells slots Q (F0 m (pc + 3) ls (v :: rest))) : W p l e R s m args below meth c H locs cells slots Q (F0 m pc ls (.ref a :: rest)) := by
  obtain ⟨⟨hx, hbb, hml, hown, hts, hr, hlk, hK⟩, -, hi⟩ := V
  obtain ⟨hP, hD, hS, hA⟩ := h
  exact va_get (D := D) (ci := ci) (fs := fs) (v := v) (C := C) (T := T) (N := N) hx hbb hts hin hown hK hP q0 he hc j hj (hts _ hl) (fun _ h9 => h9) hv hdg kk
/-- Object's constructor, at the start -/
theorem ir_obj (V : iV p s m args meth c cc own nL D cI cZ cO) (hsz : ls.size = nL) {a index : Nat} (hl : Cond.methodLink own index objectInit ∈ kWA) (hfr : 1 ≤ R.frames) (hlo : 20 ≤ R.locals) (hdg : decode cc pc = .ok (.invokespecial index, 3))
    (kk : W p l e R s m args below meth c H locs cells slots Q (F0 m (pc + 3) ls [])) : W p l e R s m args below meth c H locs cells slots Q (F0 m pc ls [.ref a]) := by
  obtain ⟨⟨hx, hbb, hml, hown, hts, hr, hlk, hK⟩, -, hi⟩ := V
  exact W.objInit hx hbb hown (hts _ hl) (hts _ kinst_objectInit) (hts _ kd_objectInit) rfl (hsz.trans hml.symm) rfl hdg hfr (Nat.le_trans (Nat.le_of_ble_eq_true rfl) hlo) kk
/-- new -/
theorem ir_new (V : iV p s m args meth c cc own nL D cI cZ cO) (h : iH A s H locs D ws) {ci : Nat} {C : String} {T : u_T} {N : Nat} (hc : vwCl[ci]? = some (C, T, N)) (hin : ∀ w ∈ u_ws C T N, w ∈ kWA) (ty0 : Nat → FieldType) (hty : ∀ k, k < N → parseFieldDescriptor (T k).2.2.1 = some (ty0 k)) {index : Nat} (hcl : Cond.classLink own index C ∈ kWA) (hinst : Cond.instantiable C N ∈ kWA) (hini : Cond.initialized C ∈ kWA) {fs : List Value} (hfs : ∀ j, j < N → defaultValue (ty0 j) = vp_V fs j) (hcells : cells + 1 ≤ R.cells) (hslots : slots + N ≤ R.slots) (hdg : decode cc pc = .ok (.new index, 3))
    (kk : ∀ (q : Nat) (H1 : Heap), iH A s H1 locs D (ws ++ [(q, .inr (ci, fs))]) → W p l e R s m args below meth c H1 locs (cells + 1) (slots + N) Q (F0 m (pc + 3) ls (.ref q :: rest))) : W p l e R s m args below meth c H locs cells slots Q (F0 m pc ls rest) := by
  obtain ⟨⟨hx, hbb, hml, hown, hts, hr, hlk, hK⟩, -, hi⟩ := V
  obtain ⟨hP, hD, hS, hA⟩ := h
  exact va_new (D := D) (ci := ci) (fs := fs) (C := C) (T := T) (N := N) hx hbb hts hin ty0 hty hown (hts _ hcl) (hts _ hinst) (hts _ hini) hK hP hD hS hA hc hfs hcells hslots hdg (fun q H1 hP hD hS => kk q H1 ⟨hP, hD, hS, hA⟩)
/-- the end -/
theorem ir_vret {u : Nat → Nat} {Wn : (Nat → Nat) → va_W} {ok : (Nat → Nat) → Prop} {ws0 : va_W} (V : iV p s m args meth c cc own nL D cI cZ cO) (h : iH (va_A ws0 s.heap.size) s H locs D (Wn u)) (hok : ok u) {mc ms : Nat} (hc : cells = mc) (hs : slots = ms) (hdg : decode cc pc = .ok (.return_, 1)) : W p l e R s m args below meth c H locs cells slots (MQ below (iQ D cI cZ cO Wn ok ws0 s.heap.size) args s mc ms (va_A ws0 s.heap.size)) (F0 m pc ls []) := by
  obtain ⟨⟨hx, hbb, hml, hown, hts, hr, hlk, hK⟩, -, hi⟩ := V
  obtain ⟨hP, hD, hS, hA⟩ := h
  subst hc
  subst hs
  exact W.vret hx hbb hr (fun t ht hW => ⟨⟨u, rfl, hok, by rw [ht]; exact hP, va_K.moved hW.alike hK, hD⟩, hS.F ht⟩) hS.2.2 hdg hlk
variable {y : MethodName} {bytes : ByteArray} {maxL n index mc ms : Nat} {rm : Room} {as : List Value}
/-- a constructor of the newest cell -/
theorem ir_init {x : Nat × va_E} {Wn : (Nat → Nat) → va_W} {ok : (Nat → Nat) → Prop} (V : iV p s m args meth c cc own nL D cI cZ cO) (h : iH A s H locs D (ws ++ [x])) (hM : Met l y (Cond.code y bytes maxL none :: kWA) rm (iP (.ref x.1 :: as) D cI cZ cO [x] H.size) (iQ D cI cZ cO Wn ok [x] H.size) mc ms (va_A [x] H.size)) (hcd : Cond.code y bytes maxL none ∈ kWA) (hrc : rm.cells = mc) (hrs : rm.slots = ms) (hini : Cond.initialized y.cls ∈ kWA) (hl : Cond.methodLink own index y ∈ kWA) (hinst : Cond.instanceMethod y ∈ kWA) (hnm : y.name = "<init>") (hd : y.cls ≠ "java/lang/invoke/MethodHandle" ∧ y.cls ≠ "java/lang/invoke/VarHandle" ∧ (parseMethodDescriptor y.desc).map (fun d => d.parameters.length) = some n) (hR : rm.frames + 1 ≤ R.frames ∧ 8 + (maxL + 11) + rm.locals ≤ R.locals) (hn : as.length = n) (hsz : ls.size = nL) (hroom : (rest.map fun v => v.category).sum ≤ 8) (hf : cells + mc ≤ R.cells ∧ slots + ms ≤ R.slots) {st : List Value} (hst : st = as.reverse ++ .ref x.1 :: rest) (hdg : decode cc pc = .ok (.invokespecial index, 3))
    (kk : ∀ (u : Nat → Nat) (H1 : Heap) (locs1 : List Loc), ok u → iH A s H1 locs1 D (ws ++ Wn u) → W p l e R s m args below meth c H1 locs1 (cells + mc) (slots + ms) Q (F0 m (pc + 3) ls rest)) : W p l e R s m args below meth c H locs cells slots Q (F0 m pc ls st) := by
  obtain ⟨⟨hx, hbb, hml, hown, hts, hr, hlk, hK⟩, hO, hi⟩ := V
  obtain ⟨hP, hD, hS, hA⟩ := h
  have hx1 : (ws ++ [x])[ws.length]? = some x := by rw [List.getElem?_append_right (Nat.le_refl _), Nat.sub_self]; rfl
  have hC : [ws.length].map (fun i => (ws ++ [x])[i]?) = [x].map some := by simp
  have hRr : (List.range ws.length).map (fun i => (ws ++ [x])[i]?) = ws.map some := by
    apply List.ext_getElem?
    intro i
    by_cases h9 : i < ws.length
    · rw [List.getElem?_map, List.getElem?_range h9, List.getElem?_map]
      show some ((ws ++ [x])[i]?) = _
      rw [List.getElem?_append_left h9, List.getElem?_eq_getElem h9]
      rfl
    · rw [List.getElem?_eq_none (by simp; omega), List.getElem?_eq_none (by simp; omega)]
  have hPc : va_P D vwCl [x] H := hP.sub [ws.length] (by simp)
  have hDc : va_D A [x] := hD.sub [ws.length] (by simp [va_nd]) (by simp)
  have hFc : ∀ a, va_A [x] H.size a → A a := va_free hD hS hA [ws.length] hC
  refine va_callv (va_runI (b := x.1) (As := as) (rest := rest) (nL := nL) ⟨hx, hbb, hml, hown, hts⟩ hM (cwI n hts (fun w hw => (List.mem_cons.mp hw).elim (fun e => by rw [e]; exact ⟨hcd, kWA_good _ hcd⟩) (fun h2 => ⟨h2, kWA_good w h2⟩)) rfl hrc hrs (hts _ hini) (hts _ hl) (hts _ hinst) hnm hd hR) ⟨iP_blind, fun U hU hW => ⟨rfl, ⟨by rw [hU], by rw [hU]; exact hPc, va_K.moved hW.alike hK, hDc.weaken (fun _ _ _ _ => trivial)⟩, hO.warm hW⟩⟩ rfl hn hsz hst (lv_room hroom) hdg hf) hS (fun q _ h => hFc q h) hFc (fun u t H1 locs1 ht hvm hw hB hz1 hk1 hS => ?_)
  obtain ⟨hP1, hK1, hD1⟩ := hB
  rw [ht] at hP1
  obtain ⟨hP, hD⟩ := va_join (wc := [x]) (wr := ws) (w1 := Wn u) hP hD [ws.length] (List.range ws.length) hC hRr (va_nd_of _ List.nodup_range) (fun i hi hi2 => by
    have h8 := List.mem_range.mp hi
    simp only [List.mem_cons, List.not_mem_nil, or_false] at hi2
    omega) hk1 hFc hP1 hD1
  exact kk u H1 locs1 hw ⟨hP, hD, hS, hA⟩
/-- a nest mate's -/
theorem ir_initN {x : Nat × va_E} {Wn : (Nat → Nat) → va_W} {ok : (Nat → Nat) → Prop} (V : iV p s m args meth c cc own nL D cI cZ cO) (h : iH A s H locs D (ws ++ [x])) (hM : Met l y (Cond.code y bytes maxL none :: kWA) rm (iP (.ref x.1 :: as) D cI cZ cO [x] H.size) (iQ D cI cZ cO Wn ok [x] H.size) mc ms (va_A [x] H.size)) (hcd : Cond.code y bytes maxL none ∈ kWA) (hrc : rm.cells = mc) (hrs : rm.slots = ms) (hini : Cond.initialized y.cls ∈ kWA) {host : String} (hl : va_Nw (.methodLinkNest own index y host) s) (hinst : Cond.instanceMethod y ∈ kWA) (hnm : y.name = "<init>") (hd : y.cls ≠ "java/lang/invoke/MethodHandle" ∧ y.cls ≠ "java/lang/invoke/VarHandle" ∧ (parseMethodDescriptor y.desc).map (fun d => d.parameters.length) = some n) (hR : rm.frames + 1 ≤ R.frames ∧ 8 + (maxL + 11) + rm.locals ≤ R.locals) (hn : as.length = n) (hsz : ls.size = nL) (hroom : (rest.map fun v => v.category).sum ≤ 8) (hf : cells + mc ≤ R.cells ∧ slots + ms ≤ R.slots) {st : List Value} (hst : st = as.reverse ++ .ref x.1 :: rest) (hdg : decode cc pc = .ok (.invokespecial index, 3))
    (kk : ∀ (u : Nat → Nat) (H1 : Heap) (locs1 : List Loc), ok u → iH A s H1 locs1 D (ws ++ Wn u) → W p l e R s m args below meth c H1 locs1 (cells + mc) (slots + ms) Q (F0 m (pc + 3) ls rest)) : W p l e R s m args below meth c H locs cells slots Q (F0 m pc ls st) := by
  obtain ⟨⟨hx, hbb, hml, hown, hts, hr, hlk, hK⟩, hO, hi⟩ := V
  obtain ⟨hP, hD, hS, hA⟩ := h
  have hx1 : (ws ++ [x])[ws.length]? = some x := by rw [List.getElem?_append_right (Nat.le_refl _), Nat.sub_self]; rfl
  have hC : [ws.length].map (fun i => (ws ++ [x])[i]?) = [x].map some := by simp
  have hRr : (List.range ws.length).map (fun i => (ws ++ [x])[i]?) = ws.map some := by
    apply List.ext_getElem?
    intro i
    by_cases h9 : i < ws.length
    · rw [List.getElem?_map, List.getElem?_range h9, List.getElem?_map]
      show some ((ws ++ [x])[i]?) = _
      rw [List.getElem?_append_left h9, List.getElem?_eq_getElem h9]
      rfl
    · rw [List.getElem?_eq_none (by simp; omega), List.getElem?_eq_none (by simp; omega)]
  have hPc : va_P D vwCl [x] H := hP.sub [ws.length] (by simp)
  have hDc : va_D A [x] := hD.sub [ws.length] (by simp [va_nd]) (by simp)
  have hFc : ∀ a, va_A [x] H.size a → A a := va_free hD hS hA [ws.length] hC
  refine va_callv (va_runIN (b := x.1) (As := as) (rest := rest) (nL := nL) ⟨hx, hbb, hml, hown, hts⟩ hM ⟨va_cnB n hts (fun w hw => (List.mem_cons.mp hw).elim (fun e => by rw [e]; exact ⟨hcd, kWA_good _ hcd⟩) (fun h2 => ⟨h2, kWA_good w h2⟩)) rfl hrc hrs hl (hts _ hini) hd hR, hnm, hts _ hinst⟩ ⟨iP_blind, fun U hU hW => ⟨rfl, ⟨by rw [hU], by rw [hU]; exact hPc, va_K.moved hW.alike hK, hDc.weaken (fun _ _ _ _ => trivial)⟩, hO.warm hW⟩⟩ rfl hn hsz hst (lv_room hroom) hdg hf) hS (fun q _ h => hFc q h) hFc (fun u t H1 locs1 ht hvm hw hB hz1 hk1 hS => ?_)
  obtain ⟨hP1, hK1, hD1⟩ := hB
  rw [ht] at hP1
  obtain ⟨hP, hD⟩ := va_join (wc := [x]) (wr := ws) (w1 := Wn u) hP hD [ws.length] (List.range ws.length) hC hRr (va_nd_of _ List.nodup_range) (fun i hi hi2 => by
    have h8 := List.mem_range.mp hi
    simp only [List.mem_cons, List.not_mem_nil, or_false] at hi2
    omega) hk1 hFc hP1 hD1
  exact kk u H1 locs1 hw ⟨hP, hD, hS, hA⟩
/-- Arrays.fill of one of the cells -/
theorem ir_fill (V : iV p s m args meth c cc own nL D cI cZ cO) (h : iH A s H locs D ws) (hsz : ls.size = nL) {index : Nat} (w1 : Cond.methodLink own index yJ7_fill_53178 ∈ kWA) (j : Nat) {a : Nat} {f : Nat → Int32} (hj : ws[j]? = some (a, .inl (cI, N, .inl f))) (hN : N < 2 ^ 31) {v : Int32} (hroom : (rest.map fun v => v.category).sum ≤ 8) (hR : rm_fill.frames + 1 ≤ R.frames ∧ 8 + (4 + 11) + rm_fill.locals ≤ R.locals) (hcs : cells + 0 ≤ R.cells ∧ slots + 0 ≤ R.slots) (hdg : decode cc pc = .ok (.invokestatic index, 3))
    (kk : ∀ (H1 : Heap) (locs1 : List Loc), iH A s H1 locs1 D (ws.set j (a, .inl (cI, N, .inl (kfill N v f)))) → W p l e R s m args below meth c H1 locs1 cells slots Q (F0 m (pc + 3) ls rest)) : W p l e R s m args below meth c H locs cells slots Q (F0 m pc ls (.int v :: .ref a :: rest)) := by
  obtain ⟨⟨hx, hb, hml, hown, hts, hr, hlk, hK⟩, hO, hi⟩ := V
  obtain ⟨hP, hD, hS, hA⟩ := h
  obtain ⟨y1, y2, y3, y4⟩ := kYJ7_fill
  have hC : [j].map (fun i => ws[i]?) = (kfW a cI N f).map some := by simp [hj]
  have hPc : va_P D vwCl (kfW a cI N f) H := hP.sub [j] (by simp [hj])
  have hDc : va_D A (kfW a cI N f) := hD.sub [j] (by simp [va_nd]) (by simp [hj])
  have hKc : va_K D vwCl [(cI, .int)] s := hK.sub [0] rfl
  have hFc : ∀ x, va_A (kfW a cI N f) H.size x → A x := va_free hD hS hA [j] hC
  refine va_callv (va_runS (As := [.ref a, .int v]) (rest := rest) (nL := nL) ⟨hx, hb, hml, hown, hts⟩ (c_fill l D cI a H.size N hN f v) (va_cwS 2 hts (fun w hw => ?_) rfl rfl rfl y4 hR) ⟨fun a U g mk q => by obtain ⟨q0, q1, qP, qK, qD⟩ := q; exact ⟨q0, q1, qP, va_K.moved (u := U) (U := U.calling g mk a) (Vm.Alike.refl U.vm) qK, qD⟩, fun U hU hW => ⟨rfl, by rw [hU], by rw [hU]; exact hPc, va_K.moved hW.alike hKc, hDc.weaken (fun _ _ _ _ => trivial)⟩⟩ rfl rfl hsz rfl (lv_room hroom) hdg hcs) hS (fun q _ h => hFc q h) hFc (fun u t H1 locs1 ht hvm hw hB hz1 hk1 hS => ?_)
  · rcases List.mem_append.mp hw with hw | hw
    · simp only [List.mem_cons, List.not_mem_nil, or_false] at hw
      rcases hw with rfl | rfl | rfl
      · exact ⟨w1, kWA_good _ w1⟩
      · exact ⟨y1, kWA_good _ y1⟩
      · exact ⟨y2, kWA_good _ y2⟩
    · exact kY_good y3 w hw
  · obtain ⟨hP1, hK1, hD1⟩ := hB
    rw [ht] at hP1
    refine kk H1 locs1 ⟨?_, hD.set hj, hS, hA⟩
    intro i x hix
    by_cases hij : i = j
    · subst hij
      have hl : i < ws.length := (List.getElem?_eq_some_iff.mp hj).1
      rw [List.getElem?_set_self hl] at hix
      cases hix
      exact hP1 0 _ rfl
    · rw [List.getElem?_set_ne (fun e => hij e.symm)] at hix
      have hat := hP i x hix
      refine hat.kept (hk1 x.1 hat.lt ?_)
      rintro (⟨k, y, hk⟩ | hk)
      · cases k with
        | zero =>
          have hj2 : (a : Nat) = x.1 := (Prod.ext_iff.mp (Option.some.inj hk)).1
          exact hij (hD.1 i j _ _ hix hj hj2.symm)
        | succ k => simp at hk
      · exact absurd hat.lt (Nat.not_lt.mpr hk)
/-- a constructor's contract -/
theorem ir_met {Qc : Nat → Array Value → State → Outcome → State → Prop} {lv : List (Nat × Value)} (hy : plainName y.cls = true) (hnm : y.name = "<init>") (hlen : (lg_sl as).length ≤ maxL) (hlv : lv_args 0 as = lv)
    (body : ∀ (p : Program) (e : Env) (s : State) (m : MethodId) (below : List Frame) (meth : Method) (c : Code) (ls : Array Slot), iV p s m as.toArray meth c bytes y.cls maxL D cI cZ cO → iH (va_A ws s.heap.size) s s.heap [] D ws → lv_has ls maxL lv → W p l e rm s m as.toArray below meth c s.heap [] 0 0 (MQ below (Qc s.heap.size) as.toArray s mc ms (va_A ws s.heap.size)) (F0 m 0 ls [])) (sz : Nat) :
    Met l y (Cond.code y bytes maxL none :: kWA) rm (iP as D cI cZ cO ws sz) (Qc sz) mc ms (va_A ws sz) := by
  refine Met.ofW (cc := bytes) (maxL := maxL) (ret := none) hy rfl ?_
  intro p e s m args below meth c s₁ B hml hv
  obtain ⟨rfl, ⟨hsz, hP, hK, hD0⟩, hO⟩ := hv
  have hx := B.exec
  have hb := B.bytes
  have hr := B.returns
  have hts := atoms_spec (ws := Cond.code y bytes maxL none :: kWA) B.pre
  have hown : s.vm.findClass y.cls = some m.cls := findClass_of_methodNamed B.named
  have hlocks := B.notSynchronized
  have hin : meth.name = "<init>" := ((name_of_methodNamed B.named B.method).1).trans hnm
  subst hsz
  have hl := lv_entry as (n := maxL) hlen
  rw [lg_entry_eq]
  rw [hlv] at hl
  exact body p e s m below meth c _ ⟨⟨hx, hb, hml, hown, fun w hw => hts w (List.mem_cons_of_mem _ hw), hr, hlocks, hK⟩, hO, hin⟩ ⟨hP, hD0.self, va_S.rf, fun q h => Or.inr h⟩ hl
end IR
