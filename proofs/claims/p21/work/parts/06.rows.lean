/-! ROWS OVER THE WORLD: a row an instruction that touches the heap -/
abbrev kT (cI cZ cO : ClassId) : List (ClassId × FieldType) := [(cI, .int), (cZ, .boolean), (cO, .array .int)]
/-- what stays while a method runs -/
def kV (p : Program) (s : State) (m : MethodId) (args : Array Value) (meth : Method) (c : Code) (cc : ByteArray) (own : String) (nL : Nat) (ret : Option FieldType) (D : va_G) (cI cZ cO : ClassId) : Prop :=
  p.tables.exec = Jvm.exec ∧ c.code = cc ∧ c.maxLocals = nL ∧ s.vm.findClass own = some m.cls ∧ (∀ w ∈ kWA, w.before args s = true) ∧ meth.sig.returnType = ret ∧ meth.locks = false ∧ va_K D vwCl (kT cI cZ cO) s
/-- the heap: the places hold e, beside them lies X; nothing else that is old has changed -/
def kH (s : State) (H : Heap) (locs : List Loc) (D : va_G) (ad : Nat → Nat) (e : Nat → va_E) (X : va_W) : Prop :=
  va_P D vwCl (kC ad e ++ X) H ∧ va_D (fA ad s.heap.size) (kC ad e ++ X) ∧ va_S (fA ad s.heap.size) s.heap H locs
theorem fA_new {ad : Nat → Nat} {sz : Nat} : ∀ q, sz ≤ q → fA ad sz q := fun _ h => Or.inr h
/-- a start -/
def kP (as : List Value) (D : va_G) (cI cZ cO : ClassId) (ad : Nat → Nat) (e : Nat → va_E) (sz : Nat) : Array Value → State → Prop :=
  va_Pc as (fun U => U.heap.size = sz ∧ va_P D vwCl (kC ad e) U.heap ∧ va_K D vwCl (kT cI cZ cO) U ∧ va_D (fun _ => True) (kC ad e))
def kEnd (D : va_G) (cI cZ cO : ClassId) (ad : Nat → Nat) (e : Nat → va_E) (sz : Nat) : Unit → State → Prop := fun _ t =>
  va_P D vwCl (kC ad e) t.heap ∧ va_K D vwCl (kT cI cZ cO) t ∧ va_D (fA ad sz) (kC ad e)
abbrev kQi (r : Int32) (D : va_G) (cI cZ cO : ClassId) (ad : Nat → Nat) (e : Nat → va_E) (sz : Nat) := va_Qi (fun (r' : Int32) (_ : Unit) => r' = r) (kEnd D cI cZ cO ad e sz) (fA ad sz)
abbrev kQl (r : Int64) (D : va_G) (cI cZ cO : ClassId) (ad : Nat → Nat) (e : Nat → va_E) (sz : Nat) := va_Ql (fun (r' : Int64) (_ : Unit) => r' = r) (kEnd D cI cZ cO ad e sz) (fA ad sz)
abbrev kQd (r : UInt64) (D : va_G) (cI cZ cO : ClassId) (ad : Nat → Nat) (e : Nat → va_E) (sz : Nat) := va_Qd (fun (r' : UInt64) (_ : Unit) => r' = r) (kEnd D cI cZ cO ad e sz) (fA ad sz)
abbrev kQv (D : va_G) (cI cZ cO : ClassId) (ad : Nat → Nat) (e : Nat → va_E) (sz : Nat) := va_Qv (fun (_ : Unit) => True) (kEnd D cI cZ cO ad e sz) (fA ad sz)
theorem kP_blind {as : List Value} {D : va_G} {cI cZ cO : ClassId} {ad : Nat → Nat} {e : Nat → va_E} {sz : Nat} : FrameBlind (kP as D cI cZ cO ad e sz) := fun a U g mk q => by
  obtain ⟨q0, q1, qP, qK, qD⟩ := q
  exact ⟨q0, q1, qP, va_K.moved (u := U) (U := U.calling g mk a) (Vm.Alike.refl U.vm) qK, qD⟩
section KR
variable {p : Program} {l : Launch} {e : Env} {R : Room} {s : State} {m : MethodId} {args : Array Value} {below : List Frame} {meth : Method} {c : Code} {H : Heap} {locs : List Loc} {cells slots : Nat} {Q : State → Prop}
variable {cc : ByteArray} {own : String} {nL : Nat} {ret : Option FieldType} {D : va_G} {cI cZ cO : ClassId} {ad : Nat → Nat} {E E' : Nat → va_E} {X : va_W} {pc : Nat} {ls : Array Slot} {rest : List Value}
theorem kC_left {k : Nat} {q : Nat × va_E} (h : (kC ad E)[k]? = some q) : (kC ad E ++ X)[k]? = some q := by
  rw [List.getElem?_append_left (List.getElem?_eq_some_iff.mp h).1]
  exact h
theorem kH_pre (h : kH s H locs D ad E X) (V : kV p s m args meth c cc own nL ret D cI cZ cO) {as : List Value} : ∀ U : State, U.heap = H → s.WarmedH U.vm → kP as D cI cZ cO ad E H.size as.toArray U := by
  intro U hU hW
  refine ⟨rfl, by rw [hU], ?_, va_K.moved hW.alike V.2.2.2.2.2.2.2, ?_⟩
  · rw [hU]
    exact h.1.by id (fun k q hk => kC_left hk)
  · exact (h.2.1.by id (fun k q hk => kC_left hk) (fun i j _ _ e => e)).weaken (fun _ _ _ _ => trivial)
theorem fA_mono {a b q : Nat} (h : a ≤ b) (hq : fA ad b q) : fA ad a q := hq.elim Or.inl (fun h2 => Or.inr (Nat.le_trans h h2))
theorem kH_join (h : kH s H locs D ad E X) {H1 : Heap} {locs1 : List Loc} (hP1 : va_P D vwCl (kC ad E') H1) (hD1 : va_D (fA ad H.size) (kC ad E')) (hk : ∀ q : Nat, q < H.size → ¬ fA ad H.size q → H1[q]? = H[q]?) (hS : va_S (fA ad s.heap.size) s.heap H1 locs1) : kH s H1 locs1 D ad E' X := by
  obtain ⟨hP, hD⟩ := va_join (ws := kC ad E ++ X) (wc := kC ad E) (wr := X) (w1 := kC ad E') h.1 h.2.1 (List.range 101) ((List.range X.length).map (101 + ·)) (kC_is ad E X) (kX_is ad E X) (kX_nd _) (fun i hi hi2 => by
      obtain ⟨j, -, rfl⟩ := List.mem_map.mp hi
      have := List.mem_range.mp hi2
      omega)
    (fun q h1 h2 => hk q h1 (fun h3 => h2 ((fA_va ad E H.size q).mpr h3))) (fun q hq => fA_mono h.2.2.1 ((fA_va ad E H.size q).mp hq)) hP1 (by rw [fA_eq]; exact hD1)
  have hP2 := va_P.swap (a := []) (b := X) (c := kC ad E') hP
  have hD2 := va_D.swap (a := []) (b := X) (c := kC ad E') hD
  exact ⟨hP2, hD2, hS⟩
/-- getfield of a place's object -/
theorem kr_get (V : kV p s m args meth c cc own nL ret D cI cZ cO) (h : kH s H locs D ad E X) {q : Nat} (hq : kOK q) {ci : Nat} {fs : List Value} (he : E q = .inr (ci, fs)) {C : String} {T : u_T} {N : Nat} (hc : vwCl[ci]? = some (C, T, N)) (hin : ∀ w ∈ u_ws C T N, w ∈ kWA) (j : Nat) (hj : j < N) {index : Nat} (hl : Cond.fieldLink own index (T j).1 (T j).2.1 (T j).2.2.1 ∈ kWA) {v : Value} (hv : fs[j]? = some v) (hdg : decode cc pc = .ok (.getfield index, 3))
    (kk : W p l e R s m args below meth c H locs cells slots Q (F0 m (pc + 3) ls (v :: rest))) : W p l e R s m args below meth c H locs cells slots Q (F0 m pc ls (.ref (ad q) :: rest)) := by
  obtain ⟨hx, hb, hml, hown, hts, hr, hlk, hK⟩ := V
  exact va_get (D := D) (ci := ci) (fs := fs) (v := v) (C := C) (T := T) (N := N) hx hb hts hin hown hK h.1 (kIx q) (by rw [kC_get hq, he]) hc j hj (hts _ hl) (fun _ h9 => h9) hv hdg kk
/-- putfield of a place's object, a field that isn't final -/
theorem kr_put (V : kV p s m args meth c cc own nL ret D cI cZ cO) (h : kH s H locs D ad E X) {q : Nat} (hq : kOK q) {ci : Nat} {fs : List Value} (he : E q = .inr (ci, fs)) {C : String} {T : u_T} {N : Nat} (hc : vwCl[ci]? = some (C, T, N)) (hin : ∀ w ∈ u_ws C T N, w ∈ kWA) (ty0 : Nat → FieldType) (hty : ∀ k, k < N → parseFieldDescriptor (T k).2.2.1 = some (ty0 k)) (hnm : ∀ a, a < N → ∀ b, b < N → a ≠ b → (T a).2.1 ≠ (T b).2.1) (j : Nat) (hj : j < N) {index : Nat} (hl : Cond.fieldLink own index (T j).1 (T j).2.1 (T j).2.2.1 ∈ kWA) (hfin : (T j).2.2.2 = false) (hd : parseFieldDescriptor (T j).2.2.1 = some .int) (hlen : j < fs.length) {x : Int32} (he' : E' q = .inr (ci, fs.set j (.int x))) (ho : ∀ a, a ≠ q → E' a = E a) (hdg : decode cc pc = .ok (.putfield index, 3))
    (kk : ∀ (H1 : Heap) (locs1 : List Loc), kH s H1 locs1 D ad E' X → W p l e R s m args below meth c H1 locs1 cells slots Q (F0 m (pc + 3) ls rest)) : W p l e R s m args below meth c H locs cells slots Q (F0 m pc ls (.int x :: .ref (ad q) :: rest)) := by
  obtain ⟨hx, hb, hml, hown, hts, hr, hlk, hK⟩ := V
  refine va_put (D := D) (ci := ci) (fs := fs) (v := .int x) (ty := .int) (C := C) (T := T) (N := N) hx hb hts hin ty0 hty hnm hown hK h.1 h.2.1 h.2.2 (kIx q) (by rw [kC_get hq, he]) hc j hj (hts _ hl) (fun _ h9 => h9) hfin hd rfl rfl hlen hdg (fun H1 locs1 hP hD hS => ?_)
  rw [← he', kC_set hq ho] at hP hD
  exact kk H1 locs1 ⟨hP, hD, hS⟩
/-- iaload of a place's array -/
theorem kr_iald (V : kV p s m args meth c cc own nL ret D cI cZ cO) (h : kH s H locs D ad E X) {q : Nat} (hq : kOK q) {n : Nat} {f : Nat → Int32} (he : E q = .inl (cI, n, .inl f)) {i : Int32} (hi : ¬ (i < 0 ∨ n ≤ i.toNatClampNeg)) (hdg : decode cc pc = .ok (.iaload, 1))
    (kk : W p l e R s m args below meth c H locs cells slots Q (F0 m (pc + 1) ls (.int (f i.toNatClampNeg) :: rest))) : W p l e R s m args below meth c H locs cells slots Q (F0 m pc ls (.int i :: .ref (ad q) :: rest)) := by
  obtain ⟨hx, hb, hml, hown, hts, hr, hlk, hK⟩ := V
  exact va_iald (D := D) (cA := cI) (n := n) (f := f) hx hb hK h.1 (kIx q) 0 (by rw [kC_get hq, he]) rfl hi hdg kk
theorem kr_zald (V : kV p s m args meth c cc own nL ret D cI cZ cO) (h : kH s H locs D ad E X) {q : Nat} (hq : kOK q) {n : Nat} {f : Nat → Int32} (he : E q = .inl (cZ, n, .inl f)) {i : Int32} (hi : ¬ (i < 0 ∨ n ≤ i.toNatClampNeg)) (hdg : decode cc pc = .ok (.baload, 1))
    (kk : W p l e R s m args below meth c H locs cells slots Q (F0 m (pc + 1) ls (.int (f i.toNatClampNeg) :: rest))) : W p l e R s m args below meth c H locs cells slots Q (F0 m pc ls (.int i :: .ref (ad q) :: rest)) := by
  obtain ⟨hx, hb, hml, hown, hts, hr, hlk, hK⟩ := V
  exact va_zald (D := D) (cA := cZ) (n := n) (f := f) hx hb hK h.1 (kIx q) 1 (by rw [kC_get hq, he]) rfl hi hdg kk
/-- aaload of a place that holds rows: another place's address -/
theorem kr_aald (V : kV p s m args meth c cc own nL ret D cI cZ cO) (h : kH s H locs D ad E X) {q : Nat} (hq : kOK q) {n b : Nat} (he : E q = .inl (cO, n, .inr (.inr (.inr (.inr (fun i => if i < n then some (ad (b + i)) else none)))))) {i : Int32} (hi : ¬ (i < 0 ∨ n ≤ i.toNatClampNeg)) (hdg : decode cc pc = .ok (.aaload, 1))
    (kk : W p l e R s m args below meth c H locs cells slots Q (F0 m (pc + 1) ls (.ref (ad (b + i.toNatClampNeg)) :: rest))) : W p l e R s m args below meth c H locs cells slots Q (F0 m pc ls (.int i :: .ref (ad q) :: rest)) := by
  obtain ⟨hx, hb, hml, hown, hts, hr, hlk, hK⟩ := V
  have hlt : i.toNatClampNeg < n := Nat.not_le.mp fun q => hi (Or.inr q)
  have hP := h.1 (kIx q) _ (kC_get (X := X) hq)
  rw [he] at hP
  exact W.aald (v := .ref (ad (b + i.toNatClampNeg))) (ty := .array .int) hx hb hP ((hK.2 2 _ rfl).1 n (fun j => va_rf (if j < n then some (ad (b + j)) else none))) rfl (fun q => by cases q) (by show ¬ (i < 0 ∨ (arrV _ _ _).slots.size ≤ _); rw [arrV_size]; exact hi) (by show (arrV _ _ _).slots[_]? = _; rw [arrV_read _ _ hlt]; simp [hlt, va_rf]) rfl rfl hdg kk
/-- iastore into a place's array -/
theorem kr_iast (V : kV p s m args meth c cc own nL ret D cI cZ cO) (h : kH s H locs D ad E X) {q : Nat} (hq : kOK q) {n : Nat} {f : Nat → Int32} (he : E q = .inl (cI, n, .inl f)) {i x : Int32} (hi : ¬ (i < 0 ∨ n ≤ i.toNatClampNeg)) (he' : E' q = .inl (cI, n, .inl (upd f i.toNatClampNeg x))) (ho : ∀ a, a ≠ q → E' a = E a) (hdg : decode cc pc = .ok (.iastore, 1))
    (kk : ∀ (H1 : Heap) (locs1 : List Loc), kH s H1 locs1 D ad E' X → W p l e R s m args below meth c H1 locs1 cells slots Q (F0 m (pc + 1) ls rest)) : W p l e R s m args below meth c H locs cells slots Q (F0 m pc ls (.int x :: .int i :: .ref (ad q) :: rest)) := by
  obtain ⟨hx, hb, hml, hown, hts, hr, hlk, hK⟩ := V
  refine va_iast (D := D) (cA := cI) (n := n) (f := f) hx hb hK h.1 h.2.1 h.2.2 (kIx q) 0 (by rw [kC_get hq, he]) rfl hi hdg (fun H1 locs1 hP hD hS => ?_)
  rw [← he', kC_set hq ho] at hP hD
  exact kk H1 locs1 ⟨hP, hD, hS⟩
theorem kr_zast (V : kV p s m args meth c cc own nL ret D cI cZ cO) (h : kH s H locs D ad E X) {q : Nat} (hq : kOK q) {n : Nat} {f : Nat → Int32} (he : E q = .inl (cZ, n, .inl f)) {i x : Int32} (hi : ¬ (i < 0 ∨ n ≤ i.toNatClampNeg)) (he' : E' q = .inl (cZ, n, .inl (upd f i.toNatClampNeg (vp_nar .boolean x)))) (ho : ∀ a, a ≠ q → E' a = E a) (hdg : decode cc pc = .ok (.bastore, 1))
    (kk : ∀ (H1 : Heap) (locs1 : List Loc), kH s H1 locs1 D ad E' X → W p l e R s m args below meth c H1 locs1 cells slots Q (F0 m (pc + 1) ls rest)) : W p l e R s m args below meth c H locs cells slots Q (F0 m pc ls (.int x :: .int i :: .ref (ad q) :: rest)) := by
  obtain ⟨hx, hb, hml, hown, hts, hr, hlk, hK⟩ := V
  refine va_zast (D := D) (cA := cZ) (n := n) (f := f) hx hb hK h.1 h.2.1 h.2.2 (kIx q) 1 (by rw [kC_get hq, he]) rfl hi hdg (fun H1 locs1 hP hD hS => ?_)
  rw [← he', kC_set hq ho] at hP hD
  exact kk H1 locs1 ⟨hP, hD, hS⟩
/-- System.arraycopy between two places' int arrays -/
theorem kr_copy (V : kV p s m args meth c cc own nL ret D cI cZ cO) (h : kH s H locs D ad E X) (hsz : ls.size = nL) {index : Nat} (w1 : Cond.methodLink own index arraycopyName ∈ kWA) (w2 : Cond.native arraycopyName ∈ kWA) (w3 : Cond.static arraycopyName ∈ kWA) (w4 : Cond.initialized "java/lang/System" ∈ kWA) {q0 q : Nat} (hq0 : kOK q0) (hq : kOK q) {n0 n1 : Nat} {f g : Nat → Int32} (he0 : E q0 = .inl (cI, n0, .inl f)) (he : E q = .inl (cI, n1, .inl g)) {sp dp n : Int32} (h1 : ¬ sp < 0) (h2 : ¬ dp < 0) (h3 : ¬ n < 0) (h4 : sp.toNatClampNeg + n.toNatClampNeg ≤ n0) (h5 : dp.toNatClampNeg + n.toNatClampNeg ≤ n1)
    (hfr : 1 ≤ R.frames) (hlo : (rest.map fun v => v.category).sum + (nativeFrameWords "java/lang/System" "arraycopy" 5 + 11) ≤ R.locals) (he' : E' q = .inl (cI, n1, .inl (va_cpy f g sp.toNatClampNeg dp.toNatClampNeg n.toNatClampNeg))) (ho : ∀ a, a ≠ q → E' a = E a) (hdg : decode cc pc = .ok (.invokestatic index, 3))
    (kk : ∀ (H1 : Heap) (locs1 : List Loc), kH s H1 locs1 D ad E' X → W p l e R s m args below meth c H1 locs1 cells slots Q (F0 m (pc + 3) ls rest)) : W p l e R s m args below meth c H locs cells slots Q (F0 m pc ls (.int n :: .int dp :: .ref (ad q) :: .int sp :: .ref (ad q0) :: rest)) := by
  obtain ⟨hx, hb, hml, hown, hts, hr, hlk, hK⟩ := V
  refine va_copyi (D := D) (c0 := cI) (c1 := cI) (n0 := n0) (n1 := n1) (f := f) (g := g) (ty := .int) hx hb (hml.trans hsz.symm) hown (hts _ w1) (hts _ w2) (hts _ w3) (hts _ w4) hK h.1 h.2.1 h.2.2 (kIx q0) (kIx q) 0 0 (by rw [kC_get hq0, he0]) (by rw [kC_get hq, he]) rfl rfl rfl h1 h2 h3 h4 h5 (fun i hi => rfl) hfr hlo hdg (fun H1 locs1 hP hD hS => ?_)
  rw [← he', kC_set hq ho] at hP hD
  exact kk H1 locs1 ⟨hP, hD, hS⟩
/-- Math.min -/
theorem kr_min (V : kV p s m args meth c cc own nL ret D cI cZ cO) (hsz : ls.size = nL) {index : Nat} (w1 : Cond.methodLink own index Lib.Math.min.name ∈ kWA) (w2 : Cond.static Lib.Math.min.name ∈ kWA) (w3 : Cond.initialized "java/lang/Math" ∈ kWA) (w4 : Cond.code Lib.Math.min.name Lib.Math.min.code 2 (some .int) ∈ kWA) (hfr : 1 ≤ R.frames) (hlo : (rest.map fun v => v.category).sum + 13 ≤ R.locals) (hc : cells ≤ R.cells) (hs : slots ≤ R.slots) {x y : Int32} (hdg : decode cc pc = .ok (.invokestatic index, 3))
    (kk : W p l e R s m args below meth c H locs cells slots Q (F0 m (pc + 3) ls (.int (if y < x then y else x) :: rest))) : W p l e R s m args below meth c H locs cells slots Q (F0 m pc ls (.int y :: .int x :: rest)) := by
  obtain ⟨hx, hb, hml, hown, hts, hr, hlk, hK⟩ := V
  exact va_mmin hx hb (hml.trans hsz.symm) hown (hts _ w1) (hts _ w2) (hts _ w3) (hts _ w4) hfr hlo hc hs hdg kk
/-! ends -/
theorem kEnd_of (V : kV p s m args meth c cc own nL ret D cI cZ cO) (h : kH s H locs D ad E X) {t : State} (ht : t.heap = H) (hW : s.WarmedH t.vm) : kEnd D cI cZ cO ad E s.heap.size () t := by
  refine ⟨?_, va_K.moved hW.alike V.2.2.2.2.2.2.2, ?_⟩
  · rw [ht]
    exact h.1.by id (fun k q hk => kC_left hk)
  · exact h.2.1.by id (fun k q hk => kC_left hk) (fun i j _ _ e => e)
theorem kr_iret (V : kV p s m args meth c cc own nL (some .int) D cI cZ cO) (h : kH s H locs D ad E X) {r : Int32} (hdg : decode cc pc = .ok (.ireturn, 1)) : W p l e R s m args below meth c H locs cells slots (MQ below (kQi r D cI cZ cO ad E s.heap.size) args s cells slots (fA ad s.heap.size)) (F0 m pc ls [.int r]) :=
  W.iret (v := r) V.1 V.2.1 V.2.2.2.2.2.1 (fun t ht hW => ⟨⟨r, (), rfl, rfl, kEnd_of V h ht hW⟩, h.2.2.F ht⟩) h.2.2.2.2 hdg V.2.2.2.2.2.2.1
theorem kr_zret (V : kV p s m args meth c cc own nL (some .boolean) D cI cZ cO) (h : kH s H locs D ad E X) {r : Int32} (hr : r = 0 ∨ r = 1) (hdg : decode cc pc = .ok (.ireturn, 1)) : W p l e R s m args below meth c H locs cells slots (MQ below (kQi r D cI cZ cO ad E s.heap.size) args s cells slots (fA ad s.heap.size)) (F0 m pc ls [.int r]) :=
  W.zret (v := r) V.1 V.2.1 V.2.2.2.2.2.1 (by rcases hr with rfl | rfl <;> rfl) (fun t ht hW => ⟨⟨r, (), rfl, rfl, kEnd_of V h ht hW⟩, h.2.2.F ht⟩) h.2.2.2.2 hdg V.2.2.2.2.2.2.1
theorem kr_lret (V : kV p s m args meth c cc own nL (some .long) D cI cZ cO) (h : kH s H locs D ad E X) {r : Int64} (hdg : decode cc pc = .ok (.lreturn, 1)) : W p l e R s m args below meth c H locs cells slots (MQ below (kQl r D cI cZ cO ad E s.heap.size) args s cells slots (fA ad s.heap.size)) (F0 m pc ls [.long r]) :=
  W.lret (v := r) V.1 V.2.1 V.2.2.2.2.2.1 (fun t ht hW => ⟨⟨r, (), rfl, rfl, kEnd_of V h ht hW⟩, h.2.2.F ht⟩) h.2.2.2.2 hdg V.2.2.2.2.2.2.1
theorem kr_dret (V : kV p s m args meth c cc own nL (some .double) D cI cZ cO) (h : kH s H locs D ad E X) {r : UInt64} (hdg : decode cc pc = .ok (.dreturn, 1)) : W p l e R s m args below meth c H locs cells slots (MQ below (kQd r D cI cZ cO ad E s.heap.size) args s cells slots (fA ad s.heap.size)) (F0 m pc ls [.double r]) :=
  W.dret (v := r) V.1 V.2.1 V.2.2.2.2.2.1 (fun t ht hW => ⟨⟨r, (), rfl, rfl, kEnd_of V h ht hW⟩, h.2.2.F ht⟩) h.2.2.2.2 hdg V.2.2.2.2.2.2.1
theorem kr_vret (V : kV p s m args meth c cc own nL none D cI cZ cO) (h : kH s H locs D ad E X) (hdg : decode cc pc = .ok (.return_, 1)) : W p l e R s m args below meth c H locs cells slots (MQ below (kQv D cI cZ cO ad E s.heap.size) args s cells slots (fA ad s.heap.size)) (F0 m pc ls []) :=
  W.vret V.1 V.2.1 V.2.2.2.2.2.1 (fun t ht hW => ⟨⟨(), rfl, trivial, kEnd_of V h ht hW⟩, h.2.2.F ht⟩) h.2.2.2.2 hdg V.2.2.2.2.2.2.1
/-! calls -/
/-- what the tables say of an own instance method -/
def kY (C : String) (y : MethodName) (bytes : ByteArray) (maxL : Nat) (rt : Option FieldType) (n : Nat) : Prop := Cond.instanceMethod y ∈ kWA ∧ Cond.selects C y y ∈ kWA ∧ Cond.initialized C ∈ kWA ∧ Cond.code y bytes maxL rt ∈ kWA ∧ y.cls = C ∧ y.cls ≠ "java/lang/invoke/MethodHandle" ∧ y.cls ≠ "java/lang/invoke/VarHandle" ∧ (parseMethodDescriptor y.desc).map (fun d => d.parameters.length) = some n
/-- of a static one -/
def kYs (y : MethodName) (bytes : ByteArray) (maxL : Nat) (rt : Option FieldType) (n : Nat) : Prop := Cond.static y ∈ kWA ∧ Cond.initialized y.cls ∈ kWA ∧ Cond.code y bytes maxL rt ∈ kWA ∧ y.cls ≠ "java/lang/invoke/MethodHandle" ∧ y.cls ≠ "java/lang/invoke/VarHandle" ∧ (parseMethodDescriptor y.desc).map (fun d => d.parameters.length) = some n
theorem kY_good {y : MethodName} {bytes : ByteArray} {maxL : Nat} {rt : Option FieldType} (h : Cond.code y bytes maxL rt ∈ kWA) : GoodIn kWA (Cond.code y bytes maxL rt :: kWA) := fun w hw => (List.mem_cons.mp hw).elim (fun e => by rw [e]; exact ⟨h, kWA_good _ h⟩) (fun h2 => ⟨h2, kWA_good w h2⟩)
variable {y : MethodName} {bytes : ByteArray} {maxL n mc ms index : Nat} {rt : Option FieldType} {rm : Room} {as : List Value} {C : String}
theorem kr_runV {Qc : Array Value → State → Outcome → State → Prop} {pl : Nat} (V : kV p s m args meth c cc own nL ret D cI cZ cO) (h : kH s H locs D ad E X) (hY : kY C y bytes maxL rt n) (w1 : Cond.methodLink own index y ∈ kWA)
    (hM : Met l y (Cond.code y bytes maxL rt :: kWA) rm (kP (.ref (ad pl) :: as) D cI cZ cO ad E H.size) Qc mc ms (fA ad H.size))
    (hrc : rm.cells = mc) (hrs : rm.slots = ms) (hR : rm.frames + 1 ≤ R.frames ∧ 8 + (maxL + 11) + rm.locals ≤ R.locals) (hpl : kOK pl) {ci : Nat} {fs : List Value} (he : E pl = .inr (ci, fs)) {T : u_T} {N : Nat} (hc : vwCl[ci]? = some (C, T, N)) (hn : as.length = n) (hsz : ls.size = nL) (hroom : (rest.map fun v => v.category).sum ≤ 8) (hdg : decode cc pc = .ok (.invokevirtual index, 3)) (hf : cells + mc ≤ R.cells ∧ slots + ms ≤ R.slots) {st : List Value} (hst : st = as.reverse ++ .ref (ad pl) :: rest) :
    va_Run p l e R s m args below meth c H locs cells slots mc ms (F0 m pc ls st) rest (Qc (Value.ref (ad pl) :: as).toArray) (fA ad H.size) := by
  have V' := V
  obtain ⟨hx, hb, hml, hown, hts, hr, hlk, hK⟩ := V
  obtain ⟨y1, y2, y3, y4, y5⟩ := hY
  refine va_runV (As := as) (rest := rest) (C := C) (b := ad pl) (nL := nL) ⟨hx, hb, hml, hown, hts⟩ hM (cwV n hts (fun w hw => ?_) rfl hrc hrs y5 hR) ⟨kP_blind, va_recv hK h.1 (ci := ci) (q0 := kIx pl) hc (by rw [kC_get hpl, he]), fun U hU hW => kH_pre h V' U hU hW⟩ rfl hn hsz hst (lv_room hroom) hdg hf
  rcases List.mem_append.mp hw with hw | hw
  · simp only [List.mem_cons, List.not_mem_nil, or_false] at hw
    rcases hw with rfl | rfl | rfl | rfl
    · exact ⟨w1, kWA_good _ w1⟩
    · exact ⟨y1, kWA_good _ y1⟩
    · exact ⟨y2, kWA_good _ y2⟩
    · exact ⟨y3, kWA_good _ y3⟩
  · exact kY_good y4 w hw
theorem kr_runS {Qc : Array Value → State → Outcome → State → Prop} (V : kV p s m args meth c cc own nL ret D cI cZ cO) (h : kH s H locs D ad E X) (hY : kYs y bytes maxL rt n) (w1 : Cond.methodLink own index y ∈ kWA)
    (hM : Met l y (Cond.code y bytes maxL rt :: kWA) rm (kP as D cI cZ cO ad E H.size) Qc mc ms (fA ad H.size))
    (hrc : rm.cells = mc) (hrs : rm.slots = ms) (hR : rm.frames + 1 ≤ R.frames ∧ 8 + (maxL + 11) + rm.locals ≤ R.locals) (hn : as.length = n) (hsz : ls.size = nL) (hroom : (rest.map fun v => v.category).sum ≤ 8) (hdg : decode cc pc = .ok (.invokestatic index, 3)) (hf : cells + mc ≤ R.cells ∧ slots + ms ≤ R.slots) {st : List Value} (hst : st = as.reverse ++ rest) :
    va_Run p l e R s m args below meth c H locs cells slots mc ms (F0 m pc ls st) rest (Qc as.toArray) (fA ad H.size) := by
  have V' := V
  obtain ⟨hx, hb, hml, hown, hts, hr, hlk, hK⟩ := V
  obtain ⟨y1, y2, y3, y4⟩ := hY
  refine va_runS (As := as) (rest := rest) (nL := nL) ⟨hx, hb, hml, hown, hts⟩ hM (va_cwS n hts (fun w hw => ?_) rfl hrc hrs y4 hR) ⟨kP_blind, fun U hU hW => kH_pre h V' U hU hW⟩ rfl hn hsz hst (lv_room hroom) hdg hf
  rcases List.mem_append.mp hw with hw | hw
  · simp only [List.mem_cons, List.not_mem_nil, or_false] at hw
    rcases hw with rfl | rfl | rfl
    · exact ⟨w1, kWA_good _ w1⟩
    · exact ⟨y1, kWA_good _ y1⟩
    · exact ⟨y2, kWA_good _ y2⟩
  · exact kY_good y3 w hw
theorem kr_calli {r : Int32} {a : Array Value} {st : List Value} (h : kH s H locs D ad E X) (hr : va_Run p l e R s m args below meth c H locs cells slots mc ms (F0 m pc ls st) rest (kQi r D cI cZ cO ad E' H.size a) (fA ad H.size)) (kk : ∀ (H1 : Heap) (locs1 : List Loc), kH s H1 locs1 D ad E' X → W p l e R s m args below meth c H1 locs1 (cells + mc) (slots + ms) Q (F0 m (pc + 3) ls (.int r :: rest))) : W p l e R s m args below meth c H locs cells slots Q (F0 m pc ls st) := by
  refine va_calli hr h.2.2 (fun q _ h2 => fA_mono h.2.2.1 h2) (fun q h2 => fA_mono h.2.2.1 h2) (fun r' u t H1 locs1 ht hvm hp hB hz hk hS => ?_)
  subst hp
  rw [← ht] at hk hS ⊢
  exact kk _ _ (kH_join h hB.1 hB.2.2 hk hS)
theorem kr_calll {r : Int64} {a : Array Value} {st : List Value} (h : kH s H locs D ad E X) (hr : va_Run p l e R s m args below meth c H locs cells slots mc ms (F0 m pc ls st) rest (kQl r D cI cZ cO ad E' H.size a) (fA ad H.size)) (kk : ∀ (H1 : Heap) (locs1 : List Loc), kH s H1 locs1 D ad E' X → W p l e R s m args below meth c H1 locs1 (cells + mc) (slots + ms) Q (F0 m (pc + 3) ls (.long r :: rest))) : W p l e R s m args below meth c H locs cells slots Q (F0 m pc ls st) := by
  refine va_calll hr h.2.2 (fun q _ h2 => fA_mono h.2.2.1 h2) (fun q h2 => fA_mono h.2.2.1 h2) (fun r' u t H1 locs1 ht hvm hp hB hz hk hS => ?_)
  subst hp
  rw [← ht] at hk hS ⊢
  exact kk _ _ (kH_join h hB.1 hB.2.2 hk hS)
theorem kr_calld {r : UInt64} {a : Array Value} {st : List Value} (h : kH s H locs D ad E X) (hr : va_Run p l e R s m args below meth c H locs cells slots mc ms (F0 m pc ls st) rest (kQd r D cI cZ cO ad E' H.size a) (fA ad H.size)) (kk : ∀ (H1 : Heap) (locs1 : List Loc), kH s H1 locs1 D ad E' X → W p l e R s m args below meth c H1 locs1 (cells + mc) (slots + ms) Q (F0 m (pc + 3) ls (.double r :: rest))) : W p l e R s m args below meth c H locs cells slots Q (F0 m pc ls st) := by
  refine va_calld hr h.2.2 (fun q _ h2 => fA_mono h.2.2.1 h2) (fun q h2 => fA_mono h.2.2.1 h2) (fun r' u t H1 locs1 ht hvm hp hB hz hk hS => ?_)
  subst hp
  rw [← ht] at hk hS ⊢
  exact kk _ _ (kH_join h hB.1 hB.2.2 hk hS)
theorem kr_callv {a : Array Value} {st : List Value} (h : kH s H locs D ad E X) (hr : va_Run p l e R s m args below meth c H locs cells slots mc ms (F0 m pc ls st) rest (kQv D cI cZ cO ad E' H.size a) (fA ad H.size)) (kk : ∀ (H1 : Heap) (locs1 : List Loc), kH s H1 locs1 D ad E' X → W p l e R s m args below meth c H1 locs1 (cells + mc) (slots + ms) Q (F0 m (pc + 3) ls rest)) : W p l e R s m args below meth c H locs cells slots Q (F0 m pc ls st) := by
  refine va_callv hr h.2.2 (fun q _ h2 => fA_mono h.2.2.1 h2) (fun q h2 => fA_mono h.2.2.1 h2) (fun u t H1 locs1 ht hvm hp hB hz hk hS => ?_)
  rw [← ht] at hk hS ⊢
  exact kk _ _ (kH_join h hB.1 hB.2.2 hk hS)
/-- a method's contract out of its walk -/
theorem kr_met {Qc : Nat → Array Value → State → Outcome → State → Prop} {lv : List (Nat × Value)} (hy : plainName y.cls = true) (hlen : (lg_sl as).length ≤ maxL) (hlv : lv_args 0 as = lv)
    (body : ∀ (p : Program) (e : Env) (s : State) (m : MethodId) (below : List Frame) (meth : Method) (c : Code) (ls : Array Slot), kV p s m as.toArray meth c bytes y.cls maxL rt D cI cZ cO → kH s s.heap [] D ad E [] → lv_has ls maxL lv → W p l e rm s m as.toArray below meth c s.heap [] 0 0 (MQ below (Qc s.heap.size) as.toArray s mc ms (fA ad s.heap.size)) (F0 m 0 ls [])) (sz : Nat) :
    Met l y (Cond.code y bytes maxL rt :: kWA) rm (kP as D cI cZ cO ad E sz) (Qc sz) mc ms (fA ad sz) := by
  refine Met.ofW (cc := bytes) (maxL := maxL) (ret := rt) hy rfl ?_
  intro p e s m args below meth c s₁ B hml hv
  obtain ⟨rfl, hsz, hP, hK, hD0⟩ := hv
  have hx := B.exec
  have hb := B.bytes
  have hr := B.returns
  have hts := atoms_spec (ws := Cond.code y bytes maxL rt :: kWA) B.pre
  have hown : s.vm.findClass y.cls = some m.cls := findClass_of_methodNamed B.named
  have hlocks := B.notSynchronized
  subst hsz
  have hl := lv_entry as (n := maxL) hlen
  rw [lg_entry_eq]
  rw [hlv] at hl
  have hD := hD0.self (sz := s.heap.size)
  rw [fA_eq] at hD
  refine body p e s m below meth c _ ⟨hx, hb, hml, hown, fun w hw => hts w (List.mem_cons_of_mem _ hw), hr, hlocks, hK⟩ ⟨?_, ?_, va_S.rf⟩ hl
  · rw [List.append_nil]; exact hP
  · rw [List.append_nil]; exact hD
end KR
