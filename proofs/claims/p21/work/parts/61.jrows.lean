/-! ROWS OVER THE LAW'S WORLD -/
abbrev jT (g : Nat → ClassId) : List (ClassId × FieldType) := [(g 0, .int), (g 1, .boolean), (g 2, .array .int), (g 3, .object "KingTiesLaw$Person"), (g 4, .object "KingTiesLaw$Land")]
def jX (U : State) : Prop := va_AO "KingTiesLaw$Person" U ∧ va_AO "KingTiesLaw$Land" U ∧ va_Nw (.methodLinkNest RX8 21 yX7_init RL) U ∧ va_Nw (.methodLinkNest RX8 56 yX6_init RL) U ∧ va_Nw (.methodLinkNest RL 103 yX8_init RL) U
theorem jX.warm {s U : State} (hW : s.WarmedH U.vm) (h : jX s) : jX U := ⟨va_AO.moved hW.alike h.1, va_AO.moved hW.alike h.2.1, va_Nw.warmM hW h.2.2.1, va_Nw.warmM hW h.2.2.2.1, va_Nw.warmM hW h.2.2.2.2⟩
theorem jX.calling {U : State} {g : JFrame} {mk : MethodId} {a : Array Value} (h : jX U) : jX (U.calling g mk a) := ⟨va_AO.moved (u := U) (U := U.calling g mk a) (Vm.Alike.refl U.vm) h.1, va_AO.moved (u := U) (U := U.calling g mk a) (Vm.Alike.refl U.vm) h.2.1, va_Nw.same (u := U) (U := U.calling g mk a) rfl rfl h.2.2.1, va_Nw.same (u := U) (U := U.calling g mk a) rfl rfl h.2.2.2.1, va_Nw.same (u := U) (U := U.calling g mk a) rfl rfl h.2.2.2.2⟩
/-- what stays while a method runs -/
def jV (p : Program) (s : State) (m : MethodId) (args : Array Value) (meth : Method) (c : Code) (cc : ByteArray) (own : String) (nL : Nat) (ret : Option FieldType) (D : va_G) (g : Nat → ClassId) : Prop :=
  p.tables.exec = Jvm.exec ∧ c.code = cc ∧ c.maxLocals = nL ∧ s.vm.findClass own = some m.cls ∧ (∀ w ∈ kWA, w.before args s = true) ∧ meth.sig.returnType = ret ∧ meth.locks = false ∧ va_K D vwCl (jT g) s ∧ jX s
/-- the heap: Y, the places, X; nothing else that is old has changed -/
def jH (A : Nat → Prop) (s : State) (H : Heap) (locs : List Loc) (D : va_G) (g : Nat → ClassId) (ad : Nat → Nat) (z : kS) (Y X : va_W) : Prop :=
  va_P D vwCl (Y ++ (jC g ad z ++ X)) H ∧ va_D A (Y ++ (jC g ad z ++ X)) ∧ va_S A s.heap H locs
abbrev jTi (g : Nat → ClassId) (xq : Nat) (xl : Int32) (xf : Nat → Int32) : Nat × va_E := (xq, .inl (g 0, xl.toNatClampNeg, .inl xf))
abbrev jTp (g : Nat → ClassId) (ad : Nat → Nat) (xq : Nat) (xl : Int32) (xf : Nat → Int32) : Nat × va_E := (xq, .inl (g 3, xl.toNatClampNeg, jRf fun i => jr ad 1 (xf i)))
abbrev jTq (g : Nat → ClassId) (ad : Nat → Nat) (xq : Nat) (xl : Int32) (xf : Nat → Int32) : Nat × va_E := (xq, .inl (g 4, xl.toNatClampNeg, jRf fun i => jr ad 2 (xf i)))
/-- a number that is no reference -/
abbrev jbad (n : Nat) (c : Int32) : Prop := c ≠ -1 ∧ (c < 0 ∨ n ≤ c.toNatClampNeg)
def jup (ad : Nat → Nat) (p q : Nat) : Nat → Nat := fun r => if r = p then q else ad r
theorem jup_eq {ad : Nat → Nat} {p q : Nat} : jup ad p q p = q := if_pos rfl
theorem jup_ne {ad : Nat → Nat} {p q r : Nat} (h : r ≠ p) : jup ad p q r = ad r := if_neg h
theorem jr_in {ad : Nat → Nat} {b N : Nat} {c : Int32} (hc : ¬ (c < 0 ∨ N ≤ c.toNatClampNeg)) : jr ad b c = some (ad (4 * c.toNatClampNeg + b)) := if_neg (fun e => hc (Or.inl (by rw [e]; decide)))
theorem jr_m {ad : Nat → Nat} {b : Nat} : jr ad b (-1) = none := if_pos rfl
theorem jok {N : Nat} {c : Int32} (hc : ¬ (c < 0 ∨ N ≤ c.toNatClampNeg)) : c.toNatClampNeg < N := Nat.not_le.mp fun q => hc (Or.inr q)
theorem jbad_or {n : Nat} {c : Int32} (h : ¬ jbad n c) : c = -1 ∨ ¬ (c < 0 ∨ n ≤ c.toNatClampNeg) := by
  by_cases e : c = -1
  · exact Or.inl e
  · exact Or.inr (fun q => h ⟨e, q⟩)
theorem jcat (o : Option Nat) : (va_rf o).category = 1 := by cases o <;> rfl
theorem jcat_le (v : Value) : v.category ≤ 2 := by cases v <;> exact Nat.le_of_ble_eq_true rfl
theorem jroom : ∀ {l : List Value}, l.length ≤ 4 → (l.map fun v => v.category).sum ≤ 8 := by
  intro l h
  have key : ∀ l : List Value, (l.map fun v => v.category).sum ≤ 2 * l.length := by
    intro l
    induction l with
    | nil => exact Nat.le_refl _
    | cons v l ih =>
      have := jcat_le v
      simp only [List.map_cons, List.sum_cons, List.length_cons]
      omega
  have := key l
  omega
/-- a method's locals: none is of two words -/
def jl_has (ls : Array Slot) (n : Nat) (lv : List (Nat × Value)) : Prop := lv_has ls n lv ∧ ∀ q ∈ lv, q.2.category = 1
theorem jl_sub {ls : Array Slot} {n : Nat} {lv lv' : List (Nat × Value)} (h : jl_has ls n lv) (ks : List Nat) (hl : lv_pick lv ks = lv') : jl_has ls n lv' := ⟨lv_sub h.1 ks hl, fun q hq => by
  rw [← hl] at hq
  obtain ⟨k, -, hk⟩ := List.mem_filterMap.mp hq
  exact h.2 q (List.mem_of_getElem? hk)⟩
theorem jfil {lv : List (Nat × Value)} (h : ∀ q ∈ lv, q.2.category = 1) (i : Nat) : lv.filter (fun q => !(q.1 == i) && !(q.1 + 1 == i && q.2.category == 2)) = lv.filter (fun q => !(q.1 == i)) := List.filter_congr (fun q hq => by simp [h q hq])
theorem jl_set {ls : Array Slot} {n i : Nat} {v : Value} {lv lv' : List (Nat × Value)} (hc : ∀ q ∈ lv, q.2.category = 1) (hv : v.category = 1) (hl : (i, v) :: lv.filter (fun q => !(q.1 == i)) = lv') (h : lv_has ls n lv') : jl_has ls n lv' := ⟨h, fun q hq => by
  rw [← hl] at hq
  rcases List.mem_cons.mp hq with rfl | hq
  · exact hv
  · exact hc q (List.mem_filter.mp hq).1⟩
section JR
variable {p : Program} {l : Launch} {e : Env} {R : Room} {s : State} {m : MethodId} {args : Array Value} {below : List Frame} {meth : Method} {c : Code} {H : Heap} {locs : List Loc} {cells slots : Nat} {Q : State → Prop} {A : Nat → Prop}
variable {cc : ByteArray} {own : String} {nL : Nat} {ret : Option FieldType} {D : va_G} {g : Nat → ClassId} {ad : Nat → Nat} {z : kS} {Y X : va_W} {pc : Nat} {ls : Array Slot} {rest : List Value} {lv lv' : List (Nat × Value)}
theorem jl_aload (hx : p.tables.exec = Jvm.exec) (hb : c.code = cc) {i : Nat} {o : Option Nat} (hdg : decode cc pc = .ok (.aload i, 2)) (hl : ls[i]? = some (.val (va_rf o))) (kk : W p l e R s m args below meth c H locs cells slots Q (F0 m (pc + 2) ls (va_rf o :: rest))) : W p l e R s m args below meth c H locs cells slots Q (F0 m pc ls rest) := by
  cases o with
  | none => exact lv_aloadN hx hb hdg hl kk
  | some a => exact lv_aload hx hb hdg hl kk
theorem jl_aload_n (hx : p.tables.exec = Jvm.exec) (hb : c.code = cc) {k : Fin 4} {i : Nat} {o : Option Nat} (hdg : decode cc pc = .ok (.aload_n k, 1)) (hi : (k : Nat) = i) (hl : ls[i]? = some (.val (va_rf o))) (kk : W p l e R s m args below meth c H locs cells slots Q (F0 m (pc + 1) ls (va_rf o :: rest))) : W p l e R s m args below meth c H locs cells slots Q (F0 m pc ls rest) := by
  cases o with
  | none => exact lv_aload_nN hx hb hdg hi hl kk
  | some a => exact lv_aload_n hx hb hdg hi hl kk
theorem jl_astore (hx : p.tables.exec = Jvm.exec) (hb : c.code = cc) {i : Nat} {o : Option Nat} (hdg : decode cc pc = .ok (.astore i, 2)) (hl : jl_has ls nL lv) (hn : i < nL) (he : (i, va_rf o) :: lv.filter (fun q => !(q.1 == i)) = lv') (kk : ∀ ls' : Array Slot, jl_has ls' nL lv' → W p l e R s m args below meth c H locs cells slots Q (F0 m (pc + 2) ls' rest)) : W p l e R s m args below meth c H locs cells slots Q (F0 m pc ls (va_rf o :: rest)) := by
  cases o with
  | none => exact lv_astoreN hx hb hdg hl.1 hn ((congrArg _ (jfil hl.2 i)).trans he) (fun ls' h' => kk ls' (jl_set (v := .null) hl.2 rfl he h'))
  | some a => exact lv_astore hx hb hdg hl.1 hn ((congrArg _ (jfil hl.2 i)).trans he) (fun ls' h' => kk ls' (jl_set (v := .ref a) hl.2 rfl he h'))
theorem jl_astore_n (hx : p.tables.exec = Jvm.exec) (hb : c.code = cc) {k : Fin 4} {i : Nat} {o : Option Nat} (hdg : decode cc pc = .ok (.astore_n k, 1)) (hi : (k : Nat) = i) (hl : jl_has ls nL lv) (hn : i < nL) (he : (i, va_rf o) :: lv.filter (fun q => !(q.1 == i)) = lv') (kk : ∀ ls' : Array Slot, jl_has ls' nL lv' → W p l e R s m args below meth c H locs cells slots Q (F0 m (pc + 1) ls' rest)) : W p l e R s m args below meth c H locs cells slots Q (F0 m pc ls (va_rf o :: rest)) := by
  cases o with
  | none => exact lv_astore_nN hx hb hdg hi hl.1 hn ((congrArg _ (jfil hl.2 i)).trans he) (fun ls' h' => kk ls' (jl_set (v := .null) hl.2 rfl he h'))
  | some a => exact lv_astore_n hx hb hdg hi hl.1 hn ((congrArg _ (jfil hl.2 i)).trans he) (fun ls' h' => kk ls' (jl_set (v := .ref a) hl.2 rfl he h'))
theorem jl_istore (hx : p.tables.exec = Jvm.exec) (hb : c.code = cc) {i : Nat} {x : Int32} (hdg : decode cc pc = .ok (.istore i, 2)) (hl : jl_has ls nL lv) (hn : i < nL) (he : (i, Value.int x) :: lv.filter (fun q => !(q.1 == i)) = lv') (kk : ∀ ls' : Array Slot, jl_has ls' nL lv' → W p l e R s m args below meth c H locs cells slots Q (F0 m (pc + 2) ls' rest)) : W p l e R s m args below meth c H locs cells slots Q (F0 m pc ls (.int x :: rest)) :=
  lv_istore hx hb hdg hl.1 hn ((congrArg _ (jfil hl.2 i)).trans he) (fun ls' h' => kk ls' (jl_set (v := .int x) hl.2 rfl he h'))
theorem jl_istore_n (hx : p.tables.exec = Jvm.exec) (hb : c.code = cc) {k : Fin 4} {i : Nat} {x : Int32} (hdg : decode cc pc = .ok (.istore_n k, 1)) (hi : (k : Nat) = i) (hl : jl_has ls nL lv) (hn : i < nL) (he : (i, Value.int x) :: lv.filter (fun q => !(q.1 == i)) = lv') (kk : ∀ ls' : Array Slot, jl_has ls' nL lv' → W p l e R s m args below meth c H locs cells slots Q (F0 m (pc + 1) ls' rest)) : W p l e R s m args below meth c H locs cells slots Q (F0 m pc ls (.int x :: rest)) :=
  lv_istore_n hx hb hdg hi hl.1 hn ((congrArg _ (jfil hl.2 i)).trans he) (fun ls' h' => kk ls' (jl_set (v := .int x) hl.2 rfl he h'))
theorem jl_iinc (hx : p.tables.exec = Jvm.exec) (hb : c.code = cc) {i k : Nat} {n : Int} {x v : Int32} (hdg : decode cc pc = .ok (.iinc i n, 3)) (hl : jl_has ls nL lv) (hk : lv[k]? = some (i, .int x)) (hv : x + Int32.ofInt n = v) (hn : i < nL) (he : (i, Value.int v) :: lv.filter (fun q => !(q.1 == i)) = lv') (kk : ∀ ls' : Array Slot, jl_has ls' nL lv' → W p l e R s m args below meth c H locs cells slots Q (F0 m (pc + 3) ls' rest)) : W p l e R s m args below meth c H locs cells slots Q (F0 m pc ls rest) :=
  lv_iinc hx hb hdg hl.1 hk hv hn ((congrArg _ (jfil hl.2 i)).trans he) (fun ls' h' => kk ls' (jl_set (v := .int v) hl.2 rfl he h'))
theorem jl_null (hx : p.tables.exec = Jvm.exec) (hb : c.code = cc) (b : Nat) (hdg : decode cc pc = .ok (.aconst_null, 1)) (kk : W p l e R s m args below meth c H locs cells slots Q (F0 m (pc + 1) ls (jv ad b (-1) :: rest))) : W p l e R s m args below meth c H locs cells slots Q (F0 m pc ls rest) :=
  lv_null hx hb hdg (by rw [show (Value.null) = jv ad b (-1) by show _ = va_rf (jr ad b (-1)); rw [jr_m]; rfl]; exact kk)
theorem jl_ifnull (hx : p.tables.exec = Jvm.exec) (hb : c.code = cc) {b : Nat} {v : Int32} {off : Int} {tgt : Nat} (hdg : decode cc pc = .ok (.ifnull off, 3)) (ht : (pc : Int) + off = (tgt : Int)) (kt : v = -1 → W p l e R s m args below meth c H locs cells slots Q (F0 m tgt ls rest)) (kf : ¬ v = -1 → W p l e R s m args below meth c H locs cells slots Q (F0 m (pc + 3) ls rest)) : W p l e R s m args below meth c H locs cells slots Q (F0 m pc ls (jv ad b v :: rest)) := by
  by_cases hv : v = -1
  · subst hv
    show W p l e R s m args below meth c H locs cells slots Q (F0 m pc ls (va_rf (jr ad b (-1)) :: rest))
    rw [jr_m]
    exact lv_ifnullN hx hb hdg ht (kt rfl)
  · show W p l e R s m args below meth c H locs cells slots Q (F0 m pc ls (va_rf (jr ad b v) :: rest))
    rw [show jr ad b v = some (ad (4 * v.toNatClampNeg + b)) from if_neg hv]
    exact lv_ifnull hx hb hdg (kf hv)
theorem jl_ifnonnull (hx : p.tables.exec = Jvm.exec) (hb : c.code = cc) {b : Nat} {v : Int32} {off : Int} {tgt : Nat} (hdg : decode cc pc = .ok (.ifnonnull off, 3)) (ht : (pc : Int) + off = (tgt : Int)) (kt : ¬ v = -1 → W p l e R s m args below meth c H locs cells slots Q (F0 m tgt ls rest)) (kf : v = -1 → W p l e R s m args below meth c H locs cells slots Q (F0 m (pc + 3) ls rest)) : W p l e R s m args below meth c H locs cells slots Q (F0 m pc ls (jv ad b v :: rest)) := by
  by_cases hv : v = -1
  · subst hv
    show W p l e R s m args below meth c H locs cells slots Q (F0 m pc ls (va_rf (jr ad b (-1)) :: rest))
    rw [jr_m]
    exact lv_ifnonnullN hx hb hdg (kf rfl)
  · show W p l e R s m args below meth c H locs cells slots Q (F0 m pc ls (va_rf (jr ad b v) :: rest))
    rw [show jr ad b v = some (ad (4 * v.toNatClampNeg + b)) from if_neg hv]
    exact lv_ifnonnull hx hb hdg ht (kt hv)
theorem jad_inj (h : jH A s H locs D g ad z Y X) {x y : Nat} (hx : x ∈ jPl z) (hy : y ∈ jPl z) (he : ad x = ad y) : x = y := by
  obtain ⟨i, -, hi, h1, -⟩ := jm_get (jPl_nd z) hx (fun p => (ad p, jE g ad z p))
  obtain ⟨j, -, hj, h2, -⟩ := jm_get (jPl_nd z) hy (fun p => (ad p, jE g ad z p))
  have e1 : (Y ++ (jC g ad z ++ X))[Y.length + i]? = some (ad x, jE g ad z x) := by
    rw [List.getElem?_append_right (by omega), show Y.length + i - Y.length = i by omega]
    unfold jC
    rw [List.getElem?_append_left (List.getElem?_eq_some_iff.mp h1).1]
    exact h1
  have e2 : (Y ++ (jC g ad z ++ X))[Y.length + j]? = some (ad y, jE g ad z y) := by
    rw [List.getElem?_append_right (by omega), show Y.length + j - Y.length = j by omega]
    unfold jC
    rw [List.getElem?_append_left (List.getElem?_eq_some_iff.mp h2).1]
    exact h2
  have := h.2.1.1 _ _ _ _ e1 e2 he
  have hij : i = j := by omega
  subst hij
  exact Option.some.inj (hi.symm.trans hj)
theorem jr_inj1 (h : jH A s H locs D g ad z Y X) {a v : Int32} (ha : ¬ jbad (jN z) a) (hv : ¬ jbad (jN z) v) : (jr ad 1 a = jr ad 1 v) ↔ a = v := by
  constructor
  · intro he
    rcases jbad_or ha with rfl | ha <;> rcases jbad_or hv with rfl | hv
    · rfl
    · rw [jr_m, jr_in hv] at he; cases he
    · rw [jr_m, jr_in ha] at he; cases he
    · rw [jr_in ha, jr_in hv] at he
      have h1 := jad_inj h (jPl_P (jok ha)) (jPl_P (jok hv)) (Option.some.inj he)
      have h2 : a.toNatClampNeg = v.toNatClampNeg := by omega
      have a0 : ¬ a.toInt < 0 := fun q => ha (Or.inl (Int32.lt_iff_toInt_lt.mpr q))
      have v0 : ¬ v.toInt < 0 := fun q => hv (Or.inl (Int32.lt_iff_toInt_lt.mpr q))
      have h3 : a.toInt.toNat = v.toInt.toNat := h2
      exact Int32.toInt_inj.mp (by omega)
  · rintro rfl; rfl
theorem jl_acmp_eq1 (V : jV p s m args meth c cc own nL ret D g) (h : jH A s H locs D g ad z Y X) {a v : Int32} (ha : ¬ jbad (jN z) a) (hv : ¬ jbad (jN z) v) {off : Int} {tgt : Nat} (hdg : decode cc pc = .ok (.if_acmp .eq off, 3)) (ht : (pc : Int) + off = (tgt : Int)) (kt : a = v → W p l e R s m args below meth c H locs cells slots Q (F0 m tgt ls rest)) (kf : ¬ a = v → W p l e R s m args below meth c H locs cells slots Q (F0 m (pc + 3) ls rest)) : W p l e R s m args below meth c H locs cells slots Q (F0 m pc ls (jv ad 1 v :: jv ad 1 a :: rest)) :=
  lv_acmp_eq V.1 V.2.1 hdg ht (fun q => kt ((jr_inj1 h ha hv).mp q)) (fun q => kf (fun e => q ((jr_inj1 h ha hv).mpr e)))
theorem jl_acmp_ne1 (V : jV p s m args meth c cc own nL ret D g) (h : jH A s H locs D g ad z Y X) {a v : Int32} (ha : ¬ jbad (jN z) a) (hv : ¬ jbad (jN z) v) {off : Int} {tgt : Nat} (hdg : decode cc pc = .ok (.if_acmp .ne off, 3)) (ht : (pc : Int) + off = (tgt : Int)) (kt : ¬ a = v → W p l e R s m args below meth c H locs cells slots Q (F0 m tgt ls rest)) (kf : a = v → W p l e R s m args below meth c H locs cells slots Q (F0 m (pc + 3) ls rest)) : W p l e R s m args below meth c H locs cells slots Q (F0 m pc ls (jv ad 1 v :: jv ad 1 a :: rest)) :=
  lv_acmp_ne V.1 V.2.1 hdg ht (fun q => kt (fun e => q ((jr_inj1 h ha hv).mpr e))) (fun q => kf ((jr_inj1 h ha hv).mp q))
theorem jr_inj2 (h : jH A s H locs D g ad z Y X) {a v : Int32} (ha : ¬ jbad (jM z) a) (hv : ¬ jbad (jM z) v) : (jr ad 2 a = jr ad 2 v) ↔ a = v := by
  constructor
  · intro he
    rcases jbad_or ha with rfl | ha <;> rcases jbad_or hv with rfl | hv
    · rfl
    · rw [jr_m, jr_in hv] at he; cases he
    · rw [jr_m, jr_in ha] at he; cases he
    · rw [jr_in ha, jr_in hv] at he
      have h1 := jad_inj h (jPl_L (jok ha)) (jPl_L (jok hv)) (Option.some.inj he)
      have h2 : a.toNatClampNeg = v.toNatClampNeg := by omega
      have a0 : ¬ a.toInt < 0 := fun q => ha (Or.inl (Int32.lt_iff_toInt_lt.mpr q))
      have v0 : ¬ v.toInt < 0 := fun q => hv (Or.inl (Int32.lt_iff_toInt_lt.mpr q))
      have h3 : a.toInt.toNat = v.toInt.toNat := h2
      exact Int32.toInt_inj.mp (by omega)
  · rintro rfl; rfl
theorem jl_acmp_eq2 (V : jV p s m args meth c cc own nL ret D g) (h : jH A s H locs D g ad z Y X) {a v : Int32} (ha : ¬ jbad (jM z) a) (hv : ¬ jbad (jM z) v) {off : Int} {tgt : Nat} (hdg : decode cc pc = .ok (.if_acmp .eq off, 3)) (ht : (pc : Int) + off = (tgt : Int)) (kt : a = v → W p l e R s m args below meth c H locs cells slots Q (F0 m tgt ls rest)) (kf : ¬ a = v → W p l e R s m args below meth c H locs cells slots Q (F0 m (pc + 3) ls rest)) : W p l e R s m args below meth c H locs cells slots Q (F0 m pc ls (jv ad 2 v :: jv ad 2 a :: rest)) :=
  lv_acmp_eq V.1 V.2.1 hdg ht (fun q => kt ((jr_inj2 h ha hv).mp q)) (fun q => kf (fun e => q ((jr_inj2 h ha hv).mpr e)))
theorem jl_acmp_ne2 (V : jV p s m args meth c cc own nL ret D g) (h : jH A s H locs D g ad z Y X) {a v : Int32} (ha : ¬ jbad (jM z) a) (hv : ¬ jbad (jM z) v) {off : Int} {tgt : Nat} (hdg : decode cc pc = .ok (.if_acmp .ne off, 3)) (ht : (pc : Int) + off = (tgt : Int)) (kt : ¬ a = v → W p l e R s m args below meth c H locs cells slots Q (F0 m tgt ls rest)) (kf : a = v → W p l e R s m args below meth c H locs cells slots Q (F0 m (pc + 3) ls rest)) : W p l e R s m args below meth c H locs cells slots Q (F0 m pc ls (jv ad 2 v :: jv ad 2 a :: rest)) :=
  lv_acmp_ne V.1 V.2.1 hdg ht (fun q => kt (fun e => q ((jr_inj2 h ha hv).mpr e))) (fun q => kf ((jr_inj2 h ha hv).mp q))
theorem jg_P (V : jV p s m args meth c cc own nL ret D g) (h : jH A s H locs D g ad z Y X) {v : Int32} (hc : ¬ (v < 0 ∨ jN z ≤ v.toNatClampNeg)) (j : Nat) (hj : j < 9) {index : Nat} (hl : Cond.fieldLink own index (TX7 j).1 (TX7 j).2.1 (TX7 j).2.2.1 ∈ kWA) {y : Value} (hv : (jPf ad (z (4 * v.toNatClampNeg + 1)))[j]? = some y) (hdg : decode cc pc = .ok (.getfield index, 3)) (kk : W p l e R s m args below meth c H locs cells slots Q (F0 m (pc + 3) ls (y :: rest))) : W p l e R s m args below meth c H locs cells slots Q (F0 m pc ls (jv ad 1 v :: rest)) := by
  obtain ⟨hx, hb, hml, hown, hts, hr, hlk, hK, -⟩ := V
  obtain ⟨i, hi, -⟩ := jC_at (g := g) (ad := ad) (jPl_P (jok hc)) Y X
  rw [jE_P] at hi
  show W p l e R s m args below meth c H locs cells slots Q (F0 m pc ls (va_rf (jr ad 1 v) :: rest))
  rw [jr_in hc]
  exact va_get (D := D) (ci := 7) (fs := _) (v := y) (C := RX7) (T := TX7) (N := 9) hx hb hts kX7 hown hK h.1 i hi rfl j hj (hts _ hl) (fun _ h9 => h9) hv hdg kk
theorem jp_P (V : jV p s m args meth c cc own nL ret D g) (h : jH A s H locs D g ad z Y X) {v : Int32} (hc : ¬ (v < 0 ∨ jN z ≤ v.toNatClampNeg)) (j : Nat) (hj : j < 9) {index : Nat} (hl : Cond.fieldLink own index (TX7 j).1 (TX7 j).2.1 (TX7 j).2.2.1 ∈ kWA) {ty : FieldType} {y : Value} {x : Int32} (hd : parseFieldDescriptor (TX7 j).2.2.1 = some ty) (hn : narrow ty y = y) (hfit : fits ty y = true) (he : (jPf ad (z (4 * v.toNatClampNeg + 1))).set j y = jPf ad (upd (z (4 * v.toNatClampNeg + 1)) j x)) (hdg : decode cc pc = .ok (.putfield index, 3)) (kk : ∀ (H1 : Heap) (locs1 : List Loc), jH A s H1 locs1 D g ad (kput z (4 * v.toNatClampNeg + 1) j x) Y X → W p l e R s m args below meth c H1 locs1 cells slots Q (F0 m (pc + 3) ls rest)) : W p l e R s m args below meth c H locs cells slots Q (F0 m pc ls (y :: jv ad 1 v :: rest)) := by
  obtain ⟨hx, hb, hml, hown, hts, hr, hlk, hK, -⟩ := V
  have hpl := jPl_P (jok hc)
  obtain ⟨i, hi, hset⟩ := jC_at (g := g) (ad := ad) hpl Y X
  rw [jE_P] at hi
  show W p l e R s m args below meth c H locs cells slots Q (F0 m pc ls (y :: va_rf (jr ad 1 v) :: rest))
  rw [jr_in hc]
  refine va_put (D := D) (ci := 7) (fs := _) (v := y) (ty := ty) (C := RX7) (T := TX7) (N := 9) hx hb hts kX7 tyX7 tyX7_ok nmX7 hown hK h.1 h.2.1 h.2.2 i hi rfl j hj (hts _ hl) (fun _ h9 => h9) ((show ∀ j, j < 9 → (TX7 j).2.2.2 = false by decide) j hj) hd hn hfit (by show j < 9; exact hj) hdg (fun H1 locs1 hP hD hS => ?_)
  rw [hset (kst z (4 * v.toNatClampNeg + 1) (upd (z (4 * v.toNatClampNeg + 1)) j x)) _ (jPl_cg (kst_ne _ _ (by omega))) (by rw [jE_P, kst_eq, ← he]) (fun q hq hne => jE_dep hq (fun _ => by rw [kst_ne _ _ (by omega)]) (kst_ne _ _ (by omega)) (fun _ => by rw [kst_ne _ _ (by omega)]) (fun _ => kst_ne _ _ hne))] at hP hD
  exact kk H1 locs1 ⟨hP, hD, hS⟩
theorem jg_L (V : jV p s m args meth c cc own nL ret D g) (h : jH A s H locs D g ad z Y X) {v : Int32} (hc : ¬ (v < 0 ∨ jM z ≤ v.toNatClampNeg)) (j : Nat) (hj : j < 4) {index : Nat} (hl : Cond.fieldLink own index (TX6 j).1 (TX6 j).2.1 (TX6 j).2.2.1 ∈ kWA) {y : Value} (hv : (jLf ad (ad (4 * v.toNatClampNeg + 3)) (z (4 * v.toNatClampNeg + 2)))[j]? = some y) (hdg : decode cc pc = .ok (.getfield index, 3)) (kk : W p l e R s m args below meth c H locs cells slots Q (F0 m (pc + 3) ls (y :: rest))) : W p l e R s m args below meth c H locs cells slots Q (F0 m pc ls (jv ad 2 v :: rest)) := by
  obtain ⟨hx, hb, hml, hown, hts, hr, hlk, hK, -⟩ := V
  obtain ⟨i, hi, -⟩ := jC_at (g := g) (ad := ad) (jPl_L (jok hc)) Y X
  rw [jE_L] at hi
  show W p l e R s m args below meth c H locs cells slots Q (F0 m pc ls (va_rf (jr ad 2 v) :: rest))
  rw [jr_in hc]
  exact va_get (D := D) (ci := 6) (fs := _) (v := y) (C := RX6) (T := TX6) (N := 4) hx hb hts kX6 hown hK h.1 i hi rfl j hj (hts _ hl) (fun _ h9 => h9) hv hdg kk
theorem jp_L (V : jV p s m args meth c cc own nL ret D g) (h : jH A s H locs D g ad z Y X) {v : Int32} (hc : ¬ (v < 0 ∨ jM z ≤ v.toNatClampNeg)) (j : Nat) (hj : j < 4) {index : Nat} (hl : Cond.fieldLink own index (TX6 j).1 (TX6 j).2.1 (TX6 j).2.2.1 ∈ kWA) {ty : FieldType} {y : Value} {x : Int32} (hd : parseFieldDescriptor (TX6 j).2.2.1 = some ty) (hn : narrow ty y = y) (hfit : fits ty y = true) (he : (jLf ad (ad (4 * v.toNatClampNeg + 3)) (z (4 * v.toNatClampNeg + 2))).set j y = jLf ad (ad (4 * v.toNatClampNeg + 3)) (upd (z (4 * v.toNatClampNeg + 2)) j x)) (hdg : decode cc pc = .ok (.putfield index, 3)) (kk : ∀ (H1 : Heap) (locs1 : List Loc), jH A s H1 locs1 D g ad (kput z (4 * v.toNatClampNeg + 2) j x) Y X → W p l e R s m args below meth c H1 locs1 cells slots Q (F0 m (pc + 3) ls rest)) : W p l e R s m args below meth c H locs cells slots Q (F0 m pc ls (y :: jv ad 2 v :: rest)) := by
  obtain ⟨hx, hb, hml, hown, hts, hr, hlk, hK, -⟩ := V
  have hpl := jPl_L (jok hc)
  obtain ⟨i, hi, hset⟩ := jC_at (g := g) (ad := ad) hpl Y X
  rw [jE_L] at hi
  show W p l e R s m args below meth c H locs cells slots Q (F0 m pc ls (y :: va_rf (jr ad 2 v) :: rest))
  rw [jr_in hc]
  refine va_put (D := D) (ci := 6) (fs := _) (v := y) (ty := ty) (C := RX6) (T := TX6) (N := 4) hx hb hts kX6 tyX6 tyX6_ok nmX6 hown hK h.1 h.2.1 h.2.2 i hi rfl j hj (hts _ hl) (fun _ h9 => h9) ((show ∀ j, j < 4 → (TX6 j).2.2.2 = false by decide) j hj) hd hn hfit (by show j < 4; exact hj) hdg (fun H1 locs1 hP hD hS => ?_)
  rw [hset (kst z (4 * v.toNatClampNeg + 2) (upd (z (4 * v.toNatClampNeg + 2)) j x)) _ (jPl_cg (kst_ne _ _ (by omega))) (by rw [jE_L, kst_eq, ← he]) (fun q hq hne => jE_dep hq (fun _ => by rw [kst_ne _ _ (by omega)]) (kst_ne _ _ (by omega)) (fun _ => by rw [kst_ne _ _ (by omega)]) (fun _ => kst_ne _ _ hne))] at hP hD
  exact kk H1 locs1 ⟨hP, hD, hS⟩
theorem jnar {o : Option Nat} {n : String} : narrow (.object n) (va_rf o) = va_rf o := by cases o <;> rfl
theorem jfit {o : Option Nat} {n : String} : fits (.object n) (va_rf o) = true := by cases o <;> rfl
theorem jfz {x : Int32} (h : x = 0 ∨ x = 1) : fits .boolean (.int x) = true := by rcases h with rfl | rfl <;> rfl
theorem jnz {x : Int32} (h : x = 0 ∨ x = 1) : narrow .boolean (.int x) = .int x := by rcases h with rfl | rfl <;> rfl
theorem jp_P0 (V : jV p s m args meth c cc own nL ret D g) (h : jH A s H locs D g ad z Y X) {v x : Int32} (hc : ¬ (v < 0 ∨ jN z ≤ v.toNatClampNeg)) {index : Nat} (hl : Cond.fieldLink own index (TX7 0).1 (TX7 0).2.1 (TX7 0).2.2.1 ∈ kWA) (hdg : decode cc pc = .ok (.putfield index, 3)) (kk : ∀ (H1 : Heap) (locs1 : List Loc), jH A s H1 locs1 D g ad (kput z (4 * v.toNatClampNeg + 1) 0 x) Y X → W p l e R s m args below meth c H1 locs1 cells slots Q (F0 m (pc + 3) ls rest)) : W p l e R s m args below meth c H locs cells slots Q (F0 m pc ls (.int x :: jv ad 1 v :: rest)) :=
  jp_P V h hc 0 (by decide) hl (y := .int x) (x := x) rfl rfl rfl (by simp [jPf, upd]) hdg kk
theorem jp_P1 (V : jV p s m args meth c cc own nL ret D g) (h : jH A s H locs D g ad z Y X) {v x : Int32} (hc : ¬ (v < 0 ∨ jN z ≤ v.toNatClampNeg)) (hz : x = 0 ∨ x = 1) {index : Nat} (hl : Cond.fieldLink own index (TX7 1).1 (TX7 1).2.1 (TX7 1).2.2.1 ∈ kWA) (hdg : decode cc pc = .ok (.putfield index, 3)) (kk : ∀ (H1 : Heap) (locs1 : List Loc), jH A s H1 locs1 D g ad (kput z (4 * v.toNatClampNeg + 1) 1 x) Y X → W p l e R s m args below meth c H1 locs1 cells slots Q (F0 m (pc + 3) ls rest)) : W p l e R s m args below meth c H locs cells slots Q (F0 m pc ls (.int x :: jv ad 1 v :: rest)) :=
  jp_P V h hc 1 (by decide) hl (y := .int x) (x := x) rfl (jnz hz) (jfz hz) (by simp [jPf, upd]) hdg kk
theorem jp_P2 (V : jV p s m args meth c cc own nL ret D g) (h : jH A s H locs D g ad z Y X) {v x : Int32} (hc : ¬ (v < 0 ∨ jN z ≤ v.toNatClampNeg)) {index : Nat} (hl : Cond.fieldLink own index (TX7 2).1 (TX7 2).2.1 (TX7 2).2.2.1 ∈ kWA) (hdg : decode cc pc = .ok (.putfield index, 3)) (kk : ∀ (H1 : Heap) (locs1 : List Loc), jH A s H1 locs1 D g ad (kput z (4 * v.toNatClampNeg + 1) 2 x) Y X → W p l e R s m args below meth c H1 locs1 cells slots Q (F0 m (pc + 3) ls rest)) : W p l e R s m args below meth c H locs cells slots Q (F0 m pc ls (.int x :: jv ad 1 v :: rest)) :=
  jp_P V h hc 2 (by decide) hl (y := .int x) (x := x) rfl rfl rfl (by simp [jPf, upd]) hdg kk
theorem jp_P3 (V : jV p s m args meth c cc own nL ret D g) (h : jH A s H locs D g ad z Y X) {v x : Int32} (hc : ¬ (v < 0 ∨ jN z ≤ v.toNatClampNeg)) {index : Nat} (hl : Cond.fieldLink own index (TX7 3).1 (TX7 3).2.1 (TX7 3).2.2.1 ∈ kWA) (hdg : decode cc pc = .ok (.putfield index, 3)) (kk : ∀ (H1 : Heap) (locs1 : List Loc), jH A s H1 locs1 D g ad (kput z (4 * v.toNatClampNeg + 1) 3 x) Y X → W p l e R s m args below meth c H1 locs1 cells slots Q (F0 m (pc + 3) ls rest)) : W p l e R s m args below meth c H locs cells slots Q (F0 m pc ls (.int x :: jv ad 1 v :: rest)) :=
  jp_P V h hc 3 (by decide) hl (y := .int x) (x := x) rfl rfl rfl (by simp [jPf, upd]) hdg kk
theorem jp_P4 (V : jV p s m args meth c cc own nL ret D g) (h : jH A s H locs D g ad z Y X) {v x : Int32} (hc : ¬ (v < 0 ∨ jN z ≤ v.toNatClampNeg)) {index : Nat} (hl : Cond.fieldLink own index (TX7 4).1 (TX7 4).2.1 (TX7 4).2.2.1 ∈ kWA) (hdg : decode cc pc = .ok (.putfield index, 3)) (kk : ∀ (H1 : Heap) (locs1 : List Loc), jH A s H1 locs1 D g ad (kput z (4 * v.toNatClampNeg + 1) 4 x) Y X → W p l e R s m args below meth c H1 locs1 cells slots Q (F0 m (pc + 3) ls rest)) : W p l e R s m args below meth c H locs cells slots Q (F0 m pc ls (jv ad 1 x :: jv ad 1 v :: rest)) :=
  jp_P V h hc 4 (by decide) hl (y := jv ad 1 x) (x := x) rfl jnar jfit (by simp [jPf, upd]) hdg kk
theorem jp_P5 (V : jV p s m args meth c cc own nL ret D g) (h : jH A s H locs D g ad z Y X) {v x : Int32} (hc : ¬ (v < 0 ∨ jN z ≤ v.toNatClampNeg)) {index : Nat} (hl : Cond.fieldLink own index (TX7 5).1 (TX7 5).2.1 (TX7 5).2.2.1 ∈ kWA) (hdg : decode cc pc = .ok (.putfield index, 3)) (kk : ∀ (H1 : Heap) (locs1 : List Loc), jH A s H1 locs1 D g ad (kput z (4 * v.toNatClampNeg + 1) 5 x) Y X → W p l e R s m args below meth c H1 locs1 cells slots Q (F0 m (pc + 3) ls rest)) : W p l e R s m args below meth c H locs cells slots Q (F0 m pc ls (jv ad 1 x :: jv ad 1 v :: rest)) :=
  jp_P V h hc 5 (by decide) hl (y := jv ad 1 x) (x := x) rfl jnar jfit (by simp [jPf, upd]) hdg kk
theorem jp_P6 (V : jV p s m args meth c cc own nL ret D g) (h : jH A s H locs D g ad z Y X) {v x : Int32} (hc : ¬ (v < 0 ∨ jN z ≤ v.toNatClampNeg)) {index : Nat} (hl : Cond.fieldLink own index (TX7 6).1 (TX7 6).2.1 (TX7 6).2.2.1 ∈ kWA) (hdg : decode cc pc = .ok (.putfield index, 3)) (kk : ∀ (H1 : Heap) (locs1 : List Loc), jH A s H1 locs1 D g ad (kput z (4 * v.toNatClampNeg + 1) 6 x) Y X → W p l e R s m args below meth c H1 locs1 cells slots Q (F0 m (pc + 3) ls rest)) : W p l e R s m args below meth c H locs cells slots Q (F0 m pc ls (jv ad 1 x :: jv ad 1 v :: rest)) :=
  jp_P V h hc 6 (by decide) hl (y := jv ad 1 x) (x := x) rfl jnar jfit (by simp [jPf, upd]) hdg kk
theorem jp_P7 (V : jV p s m args meth c cc own nL ret D g) (h : jH A s H locs D g ad z Y X) {v x : Int32} (hc : ¬ (v < 0 ∨ jN z ≤ v.toNatClampNeg)) {index : Nat} (hl : Cond.fieldLink own index (TX7 7).1 (TX7 7).2.1 (TX7 7).2.2.1 ∈ kWA) (hdg : decode cc pc = .ok (.putfield index, 3)) (kk : ∀ (H1 : Heap) (locs1 : List Loc), jH A s H1 locs1 D g ad (kput z (4 * v.toNatClampNeg + 1) 7 x) Y X → W p l e R s m args below meth c H1 locs1 cells slots Q (F0 m (pc + 3) ls rest)) : W p l e R s m args below meth c H locs cells slots Q (F0 m pc ls (jv ad 2 x :: jv ad 1 v :: rest)) :=
  jp_P V h hc 7 (by decide) hl (y := jv ad 2 x) (x := x) rfl jnar jfit (by simp [jPf, upd]) hdg kk
theorem jp_P8 (V : jV p s m args meth c cc own nL ret D g) (h : jH A s H locs D g ad z Y X) {v x : Int32} (hc : ¬ (v < 0 ∨ jN z ≤ v.toNatClampNeg)) {index : Nat} (hl : Cond.fieldLink own index (TX7 8).1 (TX7 8).2.1 (TX7 8).2.2.1 ∈ kWA) (hdg : decode cc pc = .ok (.putfield index, 3)) (kk : ∀ (H1 : Heap) (locs1 : List Loc), jH A s H1 locs1 D g ad (kput z (4 * v.toNatClampNeg + 1) 8 x) Y X → W p l e R s m args below meth c H1 locs1 cells slots Q (F0 m (pc + 3) ls rest)) : W p l e R s m args below meth c H locs cells slots Q (F0 m pc ls (jv ad 1 x :: jv ad 1 v :: rest)) :=
  jp_P V h hc 8 (by decide) hl (y := jv ad 1 x) (x := x) rfl jnar jfit (by simp [jPf, upd]) hdg kk
theorem jp_L0 (V : jV p s m args meth c cc own nL ret D g) (h : jH A s H locs D g ad z Y X) {v x : Int32} (hc : ¬ (v < 0 ∨ jM z ≤ v.toNatClampNeg)) {index : Nat} (hl : Cond.fieldLink own index (TX6 0).1 (TX6 0).2.1 (TX6 0).2.2.1 ∈ kWA) (hdg : decode cc pc = .ok (.putfield index, 3)) (kk : ∀ (H1 : Heap) (locs1 : List Loc), jH A s H1 locs1 D g ad (kput z (4 * v.toNatClampNeg + 2) 0 x) Y X → W p l e R s m args below meth c H1 locs1 cells slots Q (F0 m (pc + 3) ls rest)) : W p l e R s m args below meth c H locs cells slots Q (F0 m pc ls (.int x :: jv ad 2 v :: rest)) :=
  jp_L V h hc 0 (by decide) hl (y := .int x) (x := x) rfl rfl rfl (by simp [jLf, upd]) hdg kk
theorem jp_L1 (V : jV p s m args meth c cc own nL ret D g) (h : jH A s H locs D g ad z Y X) {v x : Int32} (hc : ¬ (v < 0 ∨ jM z ≤ v.toNatClampNeg)) {index : Nat} (hl : Cond.fieldLink own index (TX6 1).1 (TX6 1).2.1 (TX6 1).2.2.1 ∈ kWA) (hdg : decode cc pc = .ok (.putfield index, 3)) (kk : ∀ (H1 : Heap) (locs1 : List Loc), jH A s H1 locs1 D g ad (kput z (4 * v.toNatClampNeg + 2) 1 x) Y X → W p l e R s m args below meth c H1 locs1 cells slots Q (F0 m (pc + 3) ls rest)) : W p l e R s m args below meth c H locs cells slots Q (F0 m pc ls (.int x :: jv ad 2 v :: rest)) :=
  jp_L V h hc 1 (by decide) hl (y := .int x) (x := x) rfl rfl rfl (by simp [jLf, upd]) hdg kk
theorem jp_L2 (V : jV p s m args meth c cc own nL ret D g) (h : jH A s H locs D g ad z Y X) {v x : Int32} (hc : ¬ (v < 0 ∨ jM z ≤ v.toNatClampNeg)) {index : Nat} (hl : Cond.fieldLink own index (TX6 2).1 (TX6 2).2.1 (TX6 2).2.2.1 ∈ kWA) (hdg : decode cc pc = .ok (.putfield index, 3)) (kk : ∀ (H1 : Heap) (locs1 : List Loc), jH A s H1 locs1 D g ad (kput z (4 * v.toNatClampNeg + 2) 2 x) Y X → W p l e R s m args below meth c H1 locs1 cells slots Q (F0 m (pc + 3) ls rest)) : W p l e R s m args below meth c H locs cells slots Q (F0 m pc ls (jv ad 1 x :: jv ad 2 v :: rest)) :=
  jp_L V h hc 2 (by decide) hl (y := jv ad 1 x) (x := x) rfl jnar jfit (by simp [jLf, upd]) hdg kk
theorem jg_S (V : jV p s m args meth c cc own nL ret D g) (h : jH A s H locs D g ad z Y X) (j : Nat) (hj : j < 3) {index : Nat} (hl : Cond.fieldLink own index (TX8 j).1 (TX8 j).2.1 (TX8 j).2.2.1 ∈ kWA) {y : Value} (hv : ([.ref (ad 4), .ref (ad 8), .int (z 0 0)] : List Value)[j]? = some y) (hdg : decode cc pc = .ok (.getfield index, 3)) (kk : W p l e R s m args below meth c H locs cells slots Q (F0 m (pc + 3) ls (y :: rest))) : W p l e R s m args below meth c H locs cells slots Q (F0 m pc ls (.ref (ad 0) :: rest)) := by
  obtain ⟨hx, hb, hml, hown, hts, hr, hlk, hK, -⟩ := V
  obtain ⟨i, hi, -⟩ := jC_at (g := g) (ad := ad) (jPl_0 (z := z)) Y X
  rw [jE_0] at hi
  exact va_get (D := D) (ci := 8) (fs := _) (v := y) (C := RX8) (T := TX8) (N := 3) hx hb hts kX8 hown hK h.1 i hi rfl j hj (hts _ hl) (fun _ h9 => h9) hv hdg kk
theorem jp_Sy (V : jV p s m args meth c cc own nL ret D g) (h : jH A s H locs D g ad z Y X) {x : Int32} {index : Nat} (hl : Cond.fieldLink own index (TX8 2).1 (TX8 2).2.1 (TX8 2).2.2.1 ∈ kWA) (hdg : decode cc pc = .ok (.putfield index, 3)) (kk : ∀ (H1 : Heap) (locs1 : List Loc), jH A s H1 locs1 D g ad (kput z 0 0 x) Y X → W p l e R s m args below meth c H1 locs1 cells slots Q (F0 m (pc + 3) ls rest)) : W p l e R s m args below meth c H locs cells slots Q (F0 m pc ls (.int x :: .ref (ad 0) :: rest)) := by
  obtain ⟨hx, hb, hml, hown, hts, hr, hlk, hK, -⟩ := V
  obtain ⟨i, hi, hset⟩ := jC_at (g := g) (ad := ad) (jPl_0 (z := z)) Y X
  rw [jE_0] at hi
  refine va_put (D := D) (ci := 8) (fs := _) (v := .int x) (ty := .int) (C := RX8) (T := TX8) (N := 3) hx hb hts kX8 tyX8 tyX8_ok nmX8 hown hK h.1 h.2.1 h.2.2 i hi rfl 2 (by decide) (hts _ hl) (fun _ h9 => h9) rfl rfl rfl rfl (Nat.le_of_ble_eq_true rfl) hdg (fun H1 locs1 hP hD hS => ?_)
  rw [hset (kst z 0 (upd (z 0) 0 x)) _ (jPl_cg (kst_ne _ _ (by decide))) (by rw [jE_0, kst_eq]; rfl) (fun q hq hne => jE_dep hq (fun e => absurd e hne) (kst_ne _ _ (by decide)) (fun _ => by rw [kst_ne _ _ (by decide)]) (fun _ => kst_ne _ _ hne))] at hP hD
  exact kk H1 locs1 ⟨hP, hD, hS⟩
theorem jald_4 (V : jV p s m args meth c cc own nL ret D g) (h : jH A s H locs D g ad z Y X) {i : Int32} (hi : ¬ (i < 0 ∨ (z 12 0).toNatClampNeg ≤ i.toNatClampNeg)) (hdg : decode cc pc = .ok (.aaload, 1)) (kk : W p l e R s m args below meth c H locs cells slots Q (F0 m (pc + 1) ls (jv ad 1 (z 4 i.toNatClampNeg) :: rest))) : W p l e R s m args below meth c H locs cells slots Q (F0 m pc ls (.int i :: .ref (ad 4) :: rest)) := by
  obtain ⟨hx, hb, hml, hown, hts, hr, hlk, hK, -⟩ := V
  obtain ⟨k, hk, -⟩ := jC_at (g := g) (ad := ad) (z := z) jPl_4 Y X
  rw [jE_4] at hk
  exact va_aldq (D := D) (C := "KingTiesLaw$Person") hx hb hK h.1 k 3 hk rfl hi hdg kk
theorem jalen_4 (V : jV p s m args meth c cc own nL ret D g) (h : jH A s H locs D g ad z Y X) (hdg : decode cc pc = .ok (.arraylength, 1)) (kk : W p l e R s m args below meth c H locs cells slots Q (F0 m (pc + 1) ls (.int (nI (z 12 0).toNatClampNeg) :: rest))) : W p l e R s m args below meth c H locs cells slots Q (F0 m pc ls (.ref (ad 4) :: rest)) := by
  obtain ⟨hx, hb, hml, hown, hts, hr, hlk, hK, -⟩ := V
  obtain ⟨k, hk, -⟩ := jC_at (g := g) (ad := ad) (z := z) jPl_4 Y X
  rw [jE_4] at hk
  exact va_alen (D := D) (ty := .object "KingTiesLaw$Person") hx hb hK h.1 k 3 hk rfl rfl hdg kk
theorem jald_8 (V : jV p s m args meth c cc own nL ret D g) (h : jH A s H locs D g ad z Y X) {i : Int32} (hi : ¬ (i < 0 ∨ (z 12 1).toNatClampNeg ≤ i.toNatClampNeg)) (hdg : decode cc pc = .ok (.aaload, 1)) (kk : W p l e R s m args below meth c H locs cells slots Q (F0 m (pc + 1) ls (jv ad 2 (z 8 i.toNatClampNeg) :: rest))) : W p l e R s m args below meth c H locs cells slots Q (F0 m pc ls (.int i :: .ref (ad 8) :: rest)) := by
  obtain ⟨hx, hb, hml, hown, hts, hr, hlk, hK, -⟩ := V
  obtain ⟨k, hk, -⟩ := jC_at (g := g) (ad := ad) (z := z) jPl_8 Y X
  rw [jE_8] at hk
  exact va_aldq (D := D) (C := "KingTiesLaw$Land") hx hb hK h.1 k 4 hk rfl hi hdg kk
theorem jalen_8 (V : jV p s m args meth c cc own nL ret D g) (h : jH A s H locs D g ad z Y X) (hdg : decode cc pc = .ok (.arraylength, 1)) (kk : W p l e R s m args below meth c H locs cells slots Q (F0 m (pc + 1) ls (.int (nI (z 12 1).toNatClampNeg) :: rest))) : W p l e R s m args below meth c H locs cells slots Q (F0 m pc ls (.ref (ad 8) :: rest)) := by
  obtain ⟨hx, hb, hml, hown, hts, hr, hlk, hK, -⟩ := V
  obtain ⟨k, hk, -⟩ := jC_at (g := g) (ad := ad) (z := z) jPl_8 Y X
  rw [jE_8] at hk
  exact va_alen (D := D) (ty := .object "KingTiesLaw$Land") hx hb hK h.1 k 4 hk rfl rfl hdg kk
theorem jald_H (V : jV p s m args meth c cc own nL ret D g) (h : jH A s H locs D g ad z Y X) {v : Int32} (hc : ¬ (v < 0 ∨ jM z ≤ v.toNatClampNeg)) {i : Int32} (hi : ¬ (i < 0 ∨ (z 16 v.toNatClampNeg).toNatClampNeg ≤ i.toNatClampNeg)) (hdg : decode cc pc = .ok (.aaload, 1)) (kk : W p l e R s m args below meth c H locs cells slots Q (F0 m (pc + 1) ls (jv ad 1 (z (4 * v.toNatClampNeg + 3) i.toNatClampNeg) :: rest))) : W p l e R s m args below meth c H locs cells slots Q (F0 m pc ls (.int i :: .ref (ad (4 * v.toNatClampNeg + 3)) :: rest)) := by
  obtain ⟨hx, hb, hml, hown, hts, hr, hlk, hK, -⟩ := V
  obtain ⟨k, hk, -⟩ := jC_at (g := g) (ad := ad) (z := z) (jPl_H (jok hc)) Y X
  rw [jE_H] at hk
  exact va_aldq (D := D) (C := "KingTiesLaw$Person") hx hb hK h.1 k 3 hk rfl hi hdg kk
theorem jalen_H (V : jV p s m args meth c cc own nL ret D g) (h : jH A s H locs D g ad z Y X) {v : Int32} (hc : ¬ (v < 0 ∨ jM z ≤ v.toNatClampNeg)) (hdg : decode cc pc = .ok (.arraylength, 1)) (kk : W p l e R s m args below meth c H locs cells slots Q (F0 m (pc + 1) ls (.int (nI (z 16 v.toNatClampNeg).toNatClampNeg) :: rest))) : W p l e R s m args below meth c H locs cells slots Q (F0 m pc ls (.ref (ad (4 * v.toNatClampNeg + 3)) :: rest)) := by
  obtain ⟨hx, hb, hml, hown, hts, hr, hlk, hK, -⟩ := V
  obtain ⟨k, hk, -⟩ := jC_at (g := g) (ad := ad) (z := z) (jPl_H (jok hc)) Y X
  rw [jE_H] at hk
  exact va_alen (D := D) (ty := .object "KingTiesLaw$Person") hx hb hK h.1 k 3 hk rfl rfl hdg kk
theorem jcls {cA : ClassId} {ty : FieldType} {i : Nat} (h : va_K D vwCl (jT g ++ [(cA, ty)]) s) (hi : (jT g)[i]? = some (g i, ty)) (hn : ∀ U cA, va_RA U cA ty → U.vm.findClass ("[" ++ ty.toString) = some cA) : cA = g i := by
  have hl := (List.getElem?_eq_some_iff.mp hi).1
  have h1 := hn _ _ (h.2 i _ (by rw [List.getElem?_append_left hl]; exact hi)).2
  have h2 := hn _ _ (h.2 5 (cA, ty) rfl).2
  rw [h1] at h2
  exact (Option.some.inj h2).symm
theorem jclsO {n : String} : ∀ (U : State) (cA : ClassId), va_RA U cA (.object n) → U.vm.findClass ("[" ++ (FieldType.object n).toString) = some cA := fun U cA h => by
  obtain ⟨kA, comp, -, -, -, h4⟩ := h
  exact h4
theorem jt_new (V : jV p s m args meth c cc own nL ret D g) (hA : ∀ q, s.heap.size ≤ q → A q) (h : jH A s H locs D g ad z Y X) {n : Int32} (hn : ¬ n < 0) (hbn : n.toNatClampNeg ≤ 100000000) (hc : cells + 1 ≤ R.cells) (hs : slots + n.toNatClampNeg ≤ R.slots) (hdg : decode cc pc = .ok (.newarray .int, 2)) (kk : ∀ (xq : Nat) (H1 : Heap), jH A s H1 locs D g ad z Y (X ++ [jTi g xq n (fun _ => 0)]) → W p l e R s m args below meth c H1 locs (cells + 1) (slots + n.toNatClampNeg) Q (F0 m (pc + 2) ls (.ref xq :: rest))) : W p l e R s m args below meth c H locs cells slots Q (F0 m pc ls (.int n :: rest)) := by
  obtain ⟨hx, hb, hml, hown, hts, hr, hlk, hK, -⟩ := V
  refine va_newa (atype := .int) (ty := .int) (D := D) hx hb (hts _ kA_int) rfl hK h.1 h.2.1 h.2.2 hA (a0 := (n.toNatClampNeg, .inl (fun _ => 0))) (fun cA => rfl) hn rfl (by show n.toNatClampNeg * 4 ≤ 536870912; omega) hc hs hdg (fun q cA H1 hK1 hP hD hS => ?_)
  have e := jcls (i := 0) hK1 rfl (fun U cA h => h)
  subst e
  rw [List.append_assoc, List.append_assoc] at hP hD
  exact kk q H1 ⟨hP, hD, hS⟩
theorem jt_newp (V : jV p s m args meth c cc own nL ret D g) (hA : ∀ q, s.heap.size ≤ q → A q) (h : jH A s H locs D g ad z Y X) {n : Int32} (hn : ¬ n < 0) (hbn : n.toNatClampNeg ≤ 100000000) {index : Nat} (hcl : Cond.classLink own index "KingTiesLaw$Person" ∈ kWA) (hc : cells + 1 ≤ R.cells) (hs : slots + n.toNatClampNeg ≤ R.slots) (hdg : decode cc pc = .ok (.anewarray index, 3)) (kk : ∀ (xq : Nat) (H1 : Heap), jH A s H1 locs D g ad z Y (X ++ [jTp g ad xq n (fun _ => -1)]) → W p l e R s m args below meth c H1 locs (cells + 1) (slots + n.toNatClampNeg) Q (F0 m (pc + 3) ls (.ref xq :: rest))) : W p l e R s m args below meth c H locs cells slots Q (F0 m pc ls (.int n :: rest)) := by
  obtain ⟨hx, hb, hml, hown, hts, hr, hlk, hK, hJ⟩ := V
  refine va_newq (C := "KingTiesLaw$Person") (D := D) hx hb hown (hts _ hcl) hJ.1 hK h.1 h.2.1 h.2.2 hA hn rfl (by omega) hc hs hdg (fun q cA H1 hK1 hP hD hS => ?_)
  have e := jcls (i := 3) hK1 rfl jclsO
  subst e
  rw [List.append_assoc, List.append_assoc] at hP hD
  exact kk q H1 ⟨hP, hD, hS⟩
theorem jt_newq (V : jV p s m args meth c cc own nL ret D g) (hA : ∀ q, s.heap.size ≤ q → A q) (h : jH A s H locs D g ad z Y X) {n : Int32} (hn : ¬ n < 0) (hbn : n.toNatClampNeg ≤ 100000000) {index : Nat} (hcl : Cond.classLink own index "KingTiesLaw$Land" ∈ kWA) (hc : cells + 1 ≤ R.cells) (hs : slots + n.toNatClampNeg ≤ R.slots) (hdg : decode cc pc = .ok (.anewarray index, 3)) (kk : ∀ (xq : Nat) (H1 : Heap), jH A s H1 locs D g ad z Y (X ++ [jTq g ad xq n (fun _ => -1)]) → W p l e R s m args below meth c H1 locs (cells + 1) (slots + n.toNatClampNeg) Q (F0 m (pc + 3) ls (.ref xq :: rest))) : W p l e R s m args below meth c H locs cells slots Q (F0 m pc ls (.int n :: rest)) := by
  obtain ⟨hx, hb, hml, hown, hts, hr, hlk, hK, hJ⟩ := V
  refine va_newq (C := "KingTiesLaw$Land") (D := D) hx hb hown (hts _ hcl) hJ.2.1 hK h.1 h.2.1 h.2.2 hA hn rfl (by omega) hc hs hdg (fun q cA H1 hK1 hP hD hS => ?_)
  have e := jcls (i := 4) hK1 rfl jclsO
  subst e
  rw [List.append_assoc, List.append_assoc] at hP hD
  exact kk q H1 ⟨hP, hD, hS⟩
theorem jt_ast (V : jV p s m args meth c cc own nL ret D g) (h : jH A s H locs D g ad z Y X) (j : Nat) {xq : Nat} {xl : Int32} {xf : Nat → Int32} (hj : X[j]? = some (jTi g xq xl xf)) {i x : Int32} (hi : ¬ (i < 0 ∨ xl.toNatClampNeg ≤ i.toNatClampNeg)) {X' : va_W} (hX' : X.set j (jTi g xq xl (upd xf i.toNatClampNeg x)) = X') (hdg : decode cc pc = .ok (.iastore, 1)) (kk : ∀ (H1 : Heap) (locs1 : List Loc), jH A s H1 locs1 D g ad z Y X' → W p l e R s m args below meth c H1 locs1 cells slots Q (F0 m (pc + 1) ls rest)) : W p l e R s m args below meth c H locs cells slots Q (F0 m pc ls (.int x :: .int i :: .ref xq :: rest)) := by
  obtain ⟨hx, hb, hml, hown, hts, hr, hlk, hK, -⟩ := V
  refine va_iast (D := D) (cA := g 0) (n := xl.toNatClampNeg) (f := xf) hx hb hK h.1 h.2.1 h.2.2 _ 0 (jX_at hj) rfl hi hdg (fun H1 locs1 hP hD hS => ?_)
  rw [jX_set, hX'] at hP hD
  exact kk H1 locs1 ⟨hP, hD, hS⟩
theorem jt_ald (V : jV p s m args meth c cc own nL ret D g) (h : jH A s H locs D g ad z Y X) (j : Nat) {xq : Nat} {xl : Int32} {xf : Nat → Int32} (hj : X[j]? = some (jTi g xq xl xf)) {i : Int32} (hi : ¬ (i < 0 ∨ xl.toNatClampNeg ≤ i.toNatClampNeg)) (hdg : decode cc pc = .ok (.iaload, 1)) (kk : W p l e R s m args below meth c H locs cells slots Q (F0 m (pc + 1) ls (.int (xf i.toNatClampNeg) :: rest))) : W p l e R s m args below meth c H locs cells slots Q (F0 m pc ls (.int i :: .ref xq :: rest)) := by
  obtain ⟨hx, hb, hml, hown, hts, hr, hlk, hK, -⟩ := V
  exact va_iald (D := D) (cA := g 0) (n := xl.toNatClampNeg) (f := xf) hx hb hK h.1 _ 0 (jX_at hj) rfl hi hdg kk
theorem jt_aldp (V : jV p s m args meth c cc own nL ret D g) (h : jH A s H locs D g ad z Y X) (j : Nat) {xq : Nat} {xl : Int32} {xf : Nat → Int32} (hj : X[j]? = some (jTp g ad xq xl xf)) {i : Int32} (hi : ¬ (i < 0 ∨ xl.toNatClampNeg ≤ i.toNatClampNeg)) (hdg : decode cc pc = .ok (.aaload, 1)) (kk : W p l e R s m args below meth c H locs cells slots Q (F0 m (pc + 1) ls (jv ad 1 (xf i.toNatClampNeg) :: rest))) : W p l e R s m args below meth c H locs cells slots Q (F0 m pc ls (.int i :: .ref xq :: rest)) := by
  obtain ⟨hx, hb, hml, hown, hts, hr, hlk, hK, -⟩ := V
  exact va_aldq (D := D) (C := "KingTiesLaw$Person") hx hb hK h.1 _ 3 (jX_at hj) rfl hi hdg kk
theorem jt_alenp (V : jV p s m args meth c cc own nL ret D g) (h : jH A s H locs D g ad z Y X) (j : Nat) {xq : Nat} {xl : Int32} {xf : Nat → Int32} (hj : X[j]? = some (jTp g ad xq xl xf)) (hdg : decode cc pc = .ok (.arraylength, 1)) (kk : W p l e R s m args below meth c H locs cells slots Q (F0 m (pc + 1) ls (.int (nI xl.toNatClampNeg) :: rest))) : W p l e R s m args below meth c H locs cells slots Q (F0 m pc ls (.ref xq :: rest)) := by
  obtain ⟨hx, hb, hml, hown, hts, hr, hlk, hK, -⟩ := V
  exact va_alen (D := D) (ty := .object "KingTiesLaw$Person") hx hb hK h.1 _ 3 (jX_at hj) rfl rfl hdg kk
theorem jt_astp (V : jV p s m args meth c cc own nL ret D g) (h : jH A s H locs D g ad z Y X) (j : Nat) {xq : Nat} {xl : Int32} {xf : Nat → Int32} (hj : X[j]? = some (jTp g ad xq xl xf)) {i x : Int32} (hi : ¬ (i < 0 ∨ xl.toNatClampNeg ≤ i.toNatClampNeg)) (hv : ¬ jbad (jN z) x) {X' : va_W} (hX' : X.set j (jTp g ad xq xl (upd xf i.toNatClampNeg x)) = X') (hdg : decode cc pc = .ok (.aastore, 1)) (kk : ∀ (H1 : Heap) (locs1 : List Loc), jH A s H1 locs1 D g ad z Y X' → W p l e R s m args below meth c H1 locs1 cells slots Q (F0 m (pc + 1) ls rest)) : W p l e R s m args below meth c H locs cells slots Q (F0 m pc ls (jv ad 1 x :: .int i :: .ref xq :: rest)) := by
  obtain ⟨hx, hb, hml, hown, hts, hr, hlk, hK, -⟩ := V
  have key : ∀ o : Option Nat, jr ad 1 x = o → va_up (fun q => jr ad 1 (xf q)) i.toNatClampNeg o = fun q => jr ad 1 (upd xf i.toNatClampNeg x q) := fun o ho => funext fun q => by
    by_cases hq : q = i.toNatClampNeg
    · subst hq; rw [va_up_self, pz_us, ho]
    · rw [va_up_ne _ _ hq, pz_un hq]
  rcases jbad_or hv with rfl | hv
  · show W p l e R s m args below meth c H locs cells slots Q (F0 m pc ls (va_rf (jr ad 1 (-1)) :: .int i :: .ref xq :: rest))
    rw [jr_m]
    refine va_astqN (D := D) (C := "KingTiesLaw$Person") hx hb hK h.1 h.2.1 h.2.2 _ 3 (jX_at hj) rfl hi hdg (fun H1 locs1 hP hD hS => ?_)
    rw [key none jr_m] at hP hD
    rw [jX_set, hX'] at hP hD
    exact kk H1 locs1 ⟨hP, hD, hS⟩
  · obtain ⟨k, hk, -⟩ := jC_at (g := g) (ad := ad) (jPl_P (jok hv)) Y X
    rw [jE_P] at hk
    show W p l e R s m args below meth c H locs cells slots Q (F0 m pc ls (va_rf (jr ad 1 x) :: .int i :: .ref xq :: rest))
    rw [jr_in hv]
    refine va_astq (D := D) (r := (RX7, TX7, 9)) hx hb hK h.1 h.2.1 h.2.2 _ 3 k 7 (jX_at hj) rfl hk rfl hi hdg (fun H1 locs1 hP hD hS => ?_)
    rw [key _ (jr_in hv)] at hP hD
    rw [jX_set, hX'] at hP hD
    exact kk H1 locs1 ⟨hP, hD, hS⟩
theorem jt_aldq (V : jV p s m args meth c cc own nL ret D g) (h : jH A s H locs D g ad z Y X) (j : Nat) {xq : Nat} {xl : Int32} {xf : Nat → Int32} (hj : X[j]? = some (jTq g ad xq xl xf)) {i : Int32} (hi : ¬ (i < 0 ∨ xl.toNatClampNeg ≤ i.toNatClampNeg)) (hdg : decode cc pc = .ok (.aaload, 1)) (kk : W p l e R s m args below meth c H locs cells slots Q (F0 m (pc + 1) ls (jv ad 2 (xf i.toNatClampNeg) :: rest))) : W p l e R s m args below meth c H locs cells slots Q (F0 m pc ls (.int i :: .ref xq :: rest)) := by
  obtain ⟨hx, hb, hml, hown, hts, hr, hlk, hK, -⟩ := V
  exact va_aldq (D := D) (C := "KingTiesLaw$Land") hx hb hK h.1 _ 4 (jX_at hj) rfl hi hdg kk
theorem jt_alenq (V : jV p s m args meth c cc own nL ret D g) (h : jH A s H locs D g ad z Y X) (j : Nat) {xq : Nat} {xl : Int32} {xf : Nat → Int32} (hj : X[j]? = some (jTq g ad xq xl xf)) (hdg : decode cc pc = .ok (.arraylength, 1)) (kk : W p l e R s m args below meth c H locs cells slots Q (F0 m (pc + 1) ls (.int (nI xl.toNatClampNeg) :: rest))) : W p l e R s m args below meth c H locs cells slots Q (F0 m pc ls (.ref xq :: rest)) := by
  obtain ⟨hx, hb, hml, hown, hts, hr, hlk, hK, -⟩ := V
  exact va_alen (D := D) (ty := .object "KingTiesLaw$Land") hx hb hK h.1 _ 4 (jX_at hj) rfl rfl hdg kk
theorem jt_astq (V : jV p s m args meth c cc own nL ret D g) (h : jH A s H locs D g ad z Y X) (j : Nat) {xq : Nat} {xl : Int32} {xf : Nat → Int32} (hj : X[j]? = some (jTq g ad xq xl xf)) {i x : Int32} (hi : ¬ (i < 0 ∨ xl.toNatClampNeg ≤ i.toNatClampNeg)) (hv : ¬ jbad (jM z) x) {X' : va_W} (hX' : X.set j (jTq g ad xq xl (upd xf i.toNatClampNeg x)) = X') (hdg : decode cc pc = .ok (.aastore, 1)) (kk : ∀ (H1 : Heap) (locs1 : List Loc), jH A s H1 locs1 D g ad z Y X' → W p l e R s m args below meth c H1 locs1 cells slots Q (F0 m (pc + 1) ls rest)) : W p l e R s m args below meth c H locs cells slots Q (F0 m pc ls (jv ad 2 x :: .int i :: .ref xq :: rest)) := by
  obtain ⟨hx, hb, hml, hown, hts, hr, hlk, hK, -⟩ := V
  have key : ∀ o : Option Nat, jr ad 2 x = o → va_up (fun q => jr ad 2 (xf q)) i.toNatClampNeg o = fun q => jr ad 2 (upd xf i.toNatClampNeg x q) := fun o ho => funext fun q => by
    by_cases hq : q = i.toNatClampNeg
    · subst hq; rw [va_up_self, pz_us, ho]
    · rw [va_up_ne _ _ hq, pz_un hq]
  rcases jbad_or hv with rfl | hv
  · show W p l e R s m args below meth c H locs cells slots Q (F0 m pc ls (va_rf (jr ad 2 (-1)) :: .int i :: .ref xq :: rest))
    rw [jr_m]
    refine va_astqN (D := D) (C := "KingTiesLaw$Land") hx hb hK h.1 h.2.1 h.2.2 _ 4 (jX_at hj) rfl hi hdg (fun H1 locs1 hP hD hS => ?_)
    rw [key none jr_m] at hP hD
    rw [jX_set, hX'] at hP hD
    exact kk H1 locs1 ⟨hP, hD, hS⟩
  · obtain ⟨k, hk, -⟩ := jC_at (g := g) (ad := ad) (jPl_L (jok hv)) Y X
    rw [jE_L] at hk
    show W p l e R s m args below meth c H locs cells slots Q (F0 m pc ls (va_rf (jr ad 2 x) :: .int i :: .ref xq :: rest))
    rw [jr_in hv]
    refine va_astq (D := D) (r := (RX6, TX6, 4)) hx hb hK h.1 h.2.1 h.2.2 _ 4 k 6 (jX_at hj) rfl hk rfl hi hdg (fun H1 locs1 hP hD hS => ?_)
    rw [key _ (jr_in hv)] at hP hD
    rw [jX_set, hX'] at hP hD
    exact kk H1 locs1 ⟨hP, hD, hS⟩
end JR
