/-! THE REFERENCE'S SNAPSHOT: kept() and bringBack() -/
abbrev yClone : MethodName := ⟨"[I", "clone", "()Ljava/lang/Object;"⟩
abbrev yCloneO : MethodName := ⟨"java/lang/Object", "clone", "()Ljava/lang/Object;"⟩
theorem kl_X6_164 : Cond.methodLink RX6 164 yClone ∈ kWA := kmem 907 (by decide +kernel) (by decide +kernel)
theorem kcl_same : Cond.sameMethod "[I" "java/lang/Object" "clone" "()Ljava/lang/Object;" ∈ kWA := kmem 908 (by decide +kernel) (by decide +kernel)
theorem kcl_nat : Cond.native yCloneO ∈ kWA := kmem 909 (by decide +kernel) (by decide +kernel)
theorem kcl_inst : Cond.instanceMethod yCloneO ∈ kWA := kmem 910 (by decide +kernel) (by decide +kernel)
theorem kcl_sel : Cond.selects "[I" yClone yCloneO ∈ kWA := kmem 911 (by decide +kernel) (by decide +kernel)
theorem va_AOA.moved {t : FieldType} {u U : State} (hvm : u.vm.Alike U.vm) (h : va_AOA t u) : va_AOA t U := by
  obtain ⟨comp, c, k, h1, h2, h3, h4, h5⟩ := arrayOverA_spec h
  obtain ⟨k', hk', he⟩ := hvm.2.2 _ _ h3
  have hi : (U.vm.classes.findIdx? fun (x : Class) => match x.kind with | .array component _ => component == comp | _ => false) = some c := by
    rw [hvm.findIdx?_eq _ (fun _ => rfl)]
    exact h2
  have hkind : k'.kind = .array comp (.array t) := by rw [he]; exact h4
  have f1 : U.vm.findClass (FieldType.array t).toString = some comp := by rw [hvm.findClass]; exact h1
  have f2 : U.vm.findClass ("[" ++ (FieldType.array t).toString) = some c := by rw [hvm.findClass]; exact h5
  unfold va_AOA Cond.before Cond.holds
  simp only [Cond.value]
  rw [f1, Option.bind_some]
  refine (congrArg (fun o : Option Nat => (o.bind (fun c => (U.vm.classes[c]?).map fun (k : Class) => match k.kind with | .array _ ty => decide (ty = FieldType.array t) && decide (U.vm.findClass ("[" ++ (FieldType.array t).toString) = some c) | _ => false) == some true)) hi).trans ?_
  simp [hk', hkind, f2]
theorem kAssign (vm : Vm) (c : ClassId) : vm.assignable c c = true := by
  show vm.assignableAux (255 + 1) c c = true
  rw [Vm.assignableAux]
  simp only [beq_self_eq_true, Bool.true_or]
/-- what new int[][] and clone want of a state -/
def kXM (U : State) : Prop := va_AOA .int U ∧ va_Nw (.castable "[I" "java/lang/Cloneable") U
theorem kXM_warm {s U : State} (hW : s.WarmedH U.vm) (h : kXM s) : kXM U := ⟨va_AOA.moved hW.alike h.1, va_Nw.warmC hW h.2⟩
theorem kXM_calling {U : State} {g : JFrame} {mk : MethodId} {a : Array Value} (h : kXM U) : kXM (U.calling g mk a) := ⟨va_AOA.moved (u := U) (U := U.calling g mk a) (Vm.Alike.refl U.vm) h.1, va_Nw.same (u := U) (U := U.calling g mk a) rfl rfl h.2⟩
/-- outer arrays -/
abbrev kO4 (a b c d : Nat) : Nat → Option Nat := va_up (va_up (va_up (va_up (fun _ => none) 0 (some a)) 1 (some b)) 2 (some c)) 3 (some d)
abbrev kXk (cI cO : ClassId) (xq x1 x2 x3 x4 : Nat) (m0 : kS) : va_W := [(xq, .inl (cO, 4, .inr (.inr (.inr (.inr (kO4 x1 x2 x3 x4)))))), (x1, .inl (cI, 360, .inl (m0 8))), (x2, .inl (cI, 48, .inl (m0 9))), (x3, .inl (cI, 180, .inl (m0 10))), (x4, .inl (cI, 1, .inl (m0 11)))]
def kBack (mo m0 : kS) : kS := kst (kst (kst (kst mo 8 (va_cpy (m0 8) (mo 8) 0 0 360)) 9 (va_cpy (m0 9) (mo 9) 0 0 48)) 10 (va_cpy (m0 10) (mo 10) 0 0 180)) 11 (va_cpy (m0 11) (mo 11) 0 0 1)
/-- the heap over any set of free cells -/
def kHA (A : Nat → Prop) (s : State) (H : Heap) (locs : List Loc) (D : va_G) (ad : Nat → Nat) (e : Nat → va_E) (X : va_W) : Prop := va_P D vwCl (kC ad e ++ X) H ∧ va_D A (kC ad e ++ X) ∧ va_S A s.heap H locs
section KZ
variable {p : Program} {l : Launch} {e : Env} {R : Room} {s : State} {mm : MethodId} {args : Array Value} {below : List Frame} {meth : Method} {c : Code} {H : Heap} {locs : List Loc} {cells slots : Nat} {Q : State → Prop} {A : Nat → Prop}
variable {cc : ByteArray} {nL : Nat} {ret : Option FieldType} {D : va_G} {cI cZ cO : ClassId} {ad : Nat → Nat} {E E' : Nat → va_E} {k mo : kS} {X : va_W} {pc : Nat} {ls : Array Slot} {rest : List Value} {N : Nat}
theorem kC_xg {j : Nat} {x : Nat × va_E} (h : X[j]? = some x) : (kC ad E ++ X)[109 + j]? = some x := by
  rw [List.getElem?_append_right (by rw [kC_len]; omega), kC_len, show 109 + j - 109 = j by omega]
  exact h
theorem kC_xs {j : Nat} {y : Nat × va_E} : (kC ad E ++ X).set (109 + j) y = kC ad E ++ X.set j y := by
  rw [List.set_append_right _ _ (by rw [kC_len]; omega), kC_len, show 109 + j - 109 = j by omega]
theorem kcO {cA : ClassId} (h : va_K D vwCl (kT cI cZ cO) s) (h2 : s.vm.findClass ("[" ++ (FieldType.array .int).toString) = some cA) : cA = cO := by
  have h3 : s.vm.findClass ("[" ++ (FieldType.array .int).toString) = some cO := (h.2 2 _ rfl).2
  rw [h3] at h2
  exact (Option.some.inj h2).symm
theorem kz_anew (V : kV p s mm args meth c cc RX6 nL ret D cI cZ cO) (XM : kXM s) (h : kHA A s H locs D ad E X) (hA : ∀ q, s.heap.size ≤ q → A q) {n : Int32} (hn : ¬ n < 0) (hN : n.toNatClampNeg = N) (hb : N * 4 ≤ 536870912) (hc : cells + 1 ≤ R.cells) (hs : slots + N ≤ R.slots) (hdg : decode cc pc = .ok (.anewarray 163, 3))
    (kk : ∀ (xq : Nat) (H1 : Heap), kHA A s H1 locs D ad E (X ++ [(xq, .inl (cO, N, .inr (.inr (.inr (.inr (fun _ => none))))))]) → W p l e R s mm args below meth c H1 locs (cells + 1) (slots + N) Q (F0 mm (pc + 3) ls (.ref xq :: rest))) : W p l e R s mm args below meth c H locs cells slots Q (F0 mm pc ls (.int n :: rest)) := by
  obtain ⟨hx, hbb, hml, hown, hts, hr, hlk, hK⟩ := V
  obtain ⟨hP, hD, hS⟩ := h
  subst hN
  refine W.anewA (t := .int) hx hbb hown (hts _ kc_X6_163) (va_AOA.use XM.1) rfl hdg rfl hn hb hc hs fun cA kA comp f1 f2 f3 f4 => ?_
  have e := kcO hK f1
  subst e
  generalize hH1 : H.push ({ cls := cA, slots := Array.replicate n.toNatClampNeg .null, vm := .none } : Cell) = H1
  have z1 : H1.size = H.size + 1 := by rw [← hH1, Array.size_push]
  have e1 : H1[H.size]? = some (arrV cA n.toNatClampNeg (fun _ => .null)) := by rw [← hH1, Array.getElem?_push_size, ← arrV_new]
  have o1 : ∀ q : Nat, q < H.size → H1[q]? = H[q]? := fun q hq => by rw [← hH1, Array.getElem?_push, if_neg (Nat.ne_of_lt hq)]
  have hk : ∀ (k : Nat) (x : Nat × va_E), (kC ad E ++ X)[k]? = some x → H1[x.1]? = H[x.1]? := fun k x hx => o1 x.1 ((hP k x hx).lt)
  refine kk H.size H1 ⟨?_, ?_, ⟨Nat.le_trans hS.1 (by omega), fun x h1 h2 => (o1 x (Nat.lt_of_lt_of_le h1 hS.1)).trans (hS.2.1 x h1 h2), hS.2.2⟩⟩
  · rw [← List.append_assoc]
    refine (hP.kept hk).app (fun k x hx => ?_)
    have hz : k < 1 := (List.getElem?_eq_some_iff.mp hx).1
    rw [show k = 0 by omega] at hx
    cases hx
    exact e1
  · rw [← List.append_assoc]
    exact hD.push hP rfl (hA _ hS.1)
theorem kz_get (V : kV p s mm args meth c cc RX6 nL ret D cI cZ cO) (h : kHA A s H locs D ad E X) {fs : List Value} (he : E 7 = .inr (6, fs)) (j : Nat) (hj : j < 10) {index : Nat} (hl : Cond.fieldLink RX6 index (TX6 j).1 (TX6 j).2.1 (TX6 j).2.2.1 ∈ kWA) {v : Value} (hv : fs[j]? = some v) (hdg : decode cc pc = .ok (.getfield index, 3))
    (kk : W p l e R s mm args below meth c H locs cells slots Q (F0 mm (pc + 3) ls (v :: rest))) : W p l e R s mm args below meth c H locs cells slots Q (F0 mm pc ls (.ref (ad 7) :: rest)) := by
  obtain ⟨hx, hb, hml, hown, hts, hr, hlk, hK⟩ := V
  exact va_get (D := D) (ci := 6) (fs := fs) (v := v) (C := RX6) (T := TX6) (N := 10) hx hb hts kX6 hown hK h.1 7 (by rw [kC_get (by decide), he]) rfl j hj (hts _ hl) (fun _ h9 => h9) hv hdg kk
theorem kz_clone (V : kV p s mm args meth c cc RX6 nL ret D cI cZ cO) (XM : kXM s) (h : kHA A s H locs D ad E X) (hA : ∀ q, s.heap.size ≤ q → A q) (hsz : ls.size = nL) {q : Nat} (hq : q < 109) {f : Nat → Int32} (he : E q = .inl (cI, N, .inl f)) (hfr : 1 ≤ R.frames) (hlo : (rest.map fun v => v.category).sum + 14 ≤ R.locals) (hc : cells + 1 ≤ R.cells) (hs : slots + N ≤ R.slots) (hdg : decode cc pc = .ok (.invokevirtual 164, 3))
    (kk : ∀ (xq : Nat) (H1 : Heap), kHA A s H1 locs D ad E (X ++ [(xq, .inl (cI, N, .inl f))]) → W p l e R s mm args below meth c H1 locs (cells + 1) (slots + N) Q (F0 mm (pc + 3) ls (.ref xq :: rest))) : W p l e R s mm args below meth c H locs cells slots Q (F0 mm pc ls (.ref (ad q) :: rest)) := by
  obtain ⟨hx, hb, hml, hown, hts, hr, hlk, hK⟩ := V
  have hcI : s.vm.findClass "[I" = some cI := (hK.2 0 _ rfl).2
  refine va_clone (D := D) (ad := "[I") (cA := cI) (x := (N, .inl f)) (ty := .int) hx hb (hml.trans hsz.symm) hown (hts _ kl_X6_164) (hts _ kcl_same) (hts _ kcl_nat) (hts _ kcl_inst) (hts _ kcl_sel) XM.2 hK h.1 h.2.1 h.2.2 hA q 0 (by rw [kC_get hq, he]) rfl hcI (fun i v hv => ?_) hfr hlo hc hs hdg (fun xq H1 hK1 hP hD hS => ?_)
  · have hv2 : (arrV cI N (fun j => .int (f j))).slots[i]? = some v := hv
    by_cases hi : i < N
    · rw [arrV_read _ _ hi] at hv2
      cases hv2
      rfl
    · have hlen := (Array.getElem?_eq_some_iff.mp hv2).1
      rw [arrV_size] at hlen
      exact absurd hlen hi
  · rw [List.append_assoc] at hP hD
    exact kk xq H1 ⟨hP, hD, hS⟩
theorem kz_cast (V : kV p s mm args meth c cc RX6 nL ret D cI cZ cO) (h : kHA A s H locs D ad E X) (j : Nat) {a : Nat} {f : Nat → Int32} (hX : X[j]? = some (a, .inl (cI, N, .inl f))) (hdg : decode cc pc = .ok (.checkcast 163, 3))
    (kk : W p l e R s mm args below meth c H locs cells slots Q (F0 mm (pc + 3) ls (.ref a :: rest))) : W p l e R s mm args below meth c H locs cells slots Q (F0 mm pc ls (.ref a :: rest)) := by
  obtain ⟨hx, hb, hml, hown, hts, hr, hlk, hK⟩ := V
  have hcI : s.vm.findClass "[I" = some cI := (hK.2 0 _ rfl).2
  exact va_castA hx hb hown (hts _ kc_X6_163) h.1 (109 + j) (kC_xg hX) hcI hdg kk
/-- an int array, anywhere in the world, into an outer array beside it -/
theorem kz_aast (V : kV p s mm args meth c cc RX6 nL ret D cI cZ cO) (XM : kXM s) (h : kHA A s H locs D ad E X) (j : Nat) {a v : Nat} {g : Nat → Option Nat} (hX : X[j]? = some (a, .inl (cO, N, .inr (.inr (.inr (.inr g)))))) (q : Nat) {M : Nat} {f : Nat → Int32} (hv : (kC ad E ++ X)[q]? = some (v, .inl (cI, M, .inl f))) {i : Int32} (hi : ¬ (i < 0 ∨ N ≤ i.toNatClampNeg)) (hdg : decode cc pc = .ok (.aastore, 1))
    (kk : ∀ (H1 : Heap) (locs1 : List Loc), kHA A s H1 locs1 D ad E (X.set j (a, .inl (cO, N, .inr (.inr (.inr (.inr (va_up g i.toNatClampNeg (some v)))))))) → W p l e R s mm args below meth c H1 locs1 cells slots Q (F0 mm (pc + 1) ls rest)) : W p l e R s mm args below meth c H locs cells slots Q (F0 mm pc ls (.ref v :: .int i :: .ref a :: rest)) := by
  obtain ⟨hx, hb, hml, hown, hts, hr, hlk, hK⟩ := V
  obtain ⟨hP, hD, hS⟩ := h
  have hlt : i.toNatClampNeg < N := kidx hi
  have h0 : ¬ i < 0 := fun q => hi (Or.inl q)
  have ha := kC_xg (ad := ad) (E := E) hX
  obtain ⟨comp, cA, kA, f1, -, f3, f4, f5⟩ := arrayOverA_spec XM.1
  have e := kcO hK f5
  subst e
  have hcI : s.vm.findClass "[I" = some cI := (hK.2 0 _ rfl).2
  have f1' : s.vm.findClass "[I" = some comp := f1
  have ec : comp = cI := Option.some.inj (f1'.symm.trans hcI)
  subst ec
  obtain ⟨kI, hkI, hself⟩ := Vm.findClass_spec f1
  refine W.aast (t := .array .int) hx hb (hP (109 + j) _ ha) (fun q h => by cases h) (fun h => by cases h) f3 f4 rfl hkI ⟨h0, by show _ < (arrV _ _ _).slots.size; rw [arrV_size]; exact hlt⟩ (hP q _ hv) (fun q h => by cases h) hkI (kAssign _ _) rfl rfl hdg fun H1 e z oq => ?_
  have hE : va_at D vwCl (a, .inl (cA, N, .inr (.inr (.inr (.inr (va_up g i.toNatClampNeg (some v))))))) H1 := by
    show H1[a]? = some (vp_cell _ _)
    rw [e]
    show some (Cell.setSlot (vp_cell _ _) _ _) = _
    rw [vp_cell_q, vp_cell_q, arrV_store]
    congr 2
    funext q
    by_cases hq : q = i.toNatClampNeg
    · subst hq
      simp [updV, va_up, va_rf]
    · simp [updV, va_up, hq]
  have hP1 := hP.set hD ha hE oq
  have hD1 := hD.set (e := .inl (cA, N, .inr (.inr (.inr (.inr (va_up g i.toNatClampNeg (some v))))))) ha
  rw [kC_xs] at hP1 hD1
  exact kk H1 _ ⟨hP1, hD1, hS.put z oq (hD.2 _ _ ha)⟩
end KZ

