/-! THE LAW'S OWN METHODS: the world, and beside it long[1] -/
def fL (ad : Nat → Nat) (xo sz : Nat) : Nat → Prop := fun q => fA ad sz q ∨ q = xo
abbrev kL (cI cZ cO cL : ClassId) : List (ClassId × FieldType) := [(cI, .int), (cZ, .boolean), (cO, .array .int), (cL, .long)]
abbrev xL (cL : ClassId) (xo : Nat) (f : Nat → Int64) : va_W := [(xo, .inl (cL, 1, .inr (.inl f)))]
/-- exceptions that aren't each other -/
def kNc (U : State) : Prop := va_Nc (kEx 2) (kEx 1) U ∧ va_Nc (kEx 2) (kEx 3) U ∧ va_Nc (kEx 3) (kEx 1) U ∧ va_Nc (kEx 1) (kEx 3) U
theorem kNc.moved {u U : State} (hvm : u.vm.Alike U.vm) (h : kNc u) : kNc U := ⟨h.1.moved hvm, h.2.1.moved hvm, h.2.2.1.moved hvm, h.2.2.2.moved hvm⟩
theorem kXA_next {A B : Nat → Prop} {s U : State} {H : Heap} {locs : List Loc} (h : kXA A s s.heap) (hS : va_S A s.heap H locs) (hU : U.heap = H) (hW : s.WarmedH U.vm) (hBA : ∀ q, B q → A q) : kXA B U U.heap := by
  obtain ⟨h1, h2, h3, h4⟩ := h
  subst hU
  refine ⟨kNw_warm hW h1, fun q hq => ?_, (vx_Zq.moved hW.alike (h3.kept hS.2.1)).narrow hBA, (vx_Zq.moved hW.alike (h4.kept hS.2.1)).narrow hBA⟩
  obtain ⟨sa, hs⟩ := h2 q hq
  exact ⟨sa, hs.warm hW⟩
theorem kXA_calling {A : Nat → Prop} {U : State} {g : JFrame} {mk : MethodId} {a : Array Value} (h : kXA A U U.heap) : kXA A (U.calling g mk a) (U.calling g mk a).heap := by
  obtain ⟨h1, h2, h3, h4⟩ := h
  refine ⟨fun w hw => va_Nw.same (u := U) (U := U.calling g mk a) (kNw_tabs w hw) rfl (h1 w hw), fun q hq => ?_, ?_, ?_⟩
  · obtain ⟨sa, hs⟩ := h2 q hq
    exact ⟨sa, vk_R.same (u := U) (U := U.calling g mk a) rfl hs⟩
  · exact vx_Zq.moved (U := U.calling g mk a) (Vm.Alike.refl U.vm) h3
  · exact vx_Zq.moved (U := U.calling g mk a) (Vm.Alike.refl U.vm) h4
def lP (as : List Value) (D : va_G) (cI cZ cO cL : ClassId) (ad : Nat → Nat) (e : Nat → va_E) (xo : Nat) (f : Nat → Int64) (sz : Nat) : Array Value → State → Prop :=
  va_Pc as (fun U => (U.heap.size = sz ∧ va_P D vwCl (kC ad e ++ xL cL xo f) U.heap ∧ va_K D vwCl (kL cI cZ cO cL) U ∧ va_D (fun _ => True) (kC ad e ++ xL cL xo f)) ∧ kXA (fL ad xo U.heap.size) U U.heap ∧ kNc U)
theorem lP_blind {as : List Value} {D : va_G} {cI cZ cO cL : ClassId} {ad : Nat → Nat} {e : Nat → va_E} {xo : Nat} {f : Nat → Int64} {sz : Nat} : FrameBlind (lP as D cI cZ cO cL ad e xo f sz) := fun a U g mk q => by
  obtain ⟨q0, ⟨q1, qP, qK, qD⟩, qX, qN⟩ := q
  exact ⟨q0, ⟨q1, qP, va_K.moved (u := U) (U := U.calling g mk a) (Vm.Alike.refl U.vm) qK, qD⟩, kXA_calling qX, kNc.moved (u := U) (U := U.calling g mk a) (Vm.Alike.refl U.vm) qN⟩
/-- what a wrapper answers -/
def lW (a b d : Nat) (code : Nat) : Int32 := if code = 0 then 0 else if code = 1 then nI a else if code = 2 then nI b else nI d
def lC (a b d : Nat) (code : Nat) : Prop := code = 0 ∨ (code = 1 ∧ a ≠ 0) ∨ (code = 2 ∧ b ≠ 0) ∨ (code = 3 ∧ d ≠ 0)
theorem lC_of {a b d code : Nat} {r b' t : Int32} (h : zOk a b d code r b' t) : lC a b d code ∧ t = lW a b d code ∧ (code = 0 → r = b') ∧ (lW a b d code = 0 → a < 5 → b < 5 → d < 5 → code = 0) := by
  have nz : ∀ x : Nat, x ≠ 0 → x < 5 → ¬ nI x = 0 := fun x h1 h2 => nI_ne0 (by omega) (by omega)
  rcases h with ⟨rfl, h1, h2⟩ | ⟨rfl, h1, h2⟩ | ⟨rfl, h1, h2⟩ | ⟨rfl, h1, h2⟩
  · exact ⟨Or.inl rfl, h2, fun _ => h1, fun _ _ _ _ => rfl⟩
  · exact ⟨Or.inr (Or.inl ⟨rfl, h1⟩), h2, fun e => absurd e (by decide), fun e l1 l2 l3 => absurd e (nz a h1 l1)⟩
  · exact ⟨Or.inr (Or.inr (Or.inl ⟨rfl, h1⟩)), h2, fun e => absurd e (by decide), fun e l1 l2 l3 => absurd e (nz b h1 l2)⟩
  · exact ⟨Or.inr (Or.inr (Or.inr ⟨rfl, h1⟩)), h2, fun e => absurd e (by decide), fun e l1 l2 l3 => absurd e (nz d h1 l3)⟩
abbrev lQ (w : Int32) (code : Nat) (r : Int32) (D : va_G) (cI cZ cO cL : ClassId) (ad : Nat → Nat) (e : Nat → va_E) (xo sz : Nat) := va_Qi (fun (r' : Int32) (f : Nat → Int64) => r' = w ∧ (code = 0 → f 0 = r.toInt64)) (fun f t => va_P D vwCl (kC ad e ++ xL cL xo f) t.heap ∧ va_K D vwCl (kL cI cZ cO cL) t ∧ va_D (fL ad xo sz) (kC ad e ++ xL cL xo f)) (fL ad xo sz)
abbrev lNo : String → State → State → Prop := vx_X (fun (_ : Unit) => False) (fun _ _ _ => True) (fun _ => False)
section LR
variable {p : Program} {l : Launch} {e : Env} {R : Room} {s : State} {m : MethodId} {args : Array Value} {below : List Frame} {meth : Method} {c : Code} {H : Heap} {locs : List Loc} {cells slots : Nat} {Q : State → Prop} {A : Nat → Prop}
variable {cc : ByteArray} {own : String} {nL : Nat} {ret : Option FieldType} {D : va_G} {cI cZ cO cL : ClassId} {ad : Nat → Nat} {E E' : Nat → va_E} {X : va_W} {pc xo : Nat} {ls : Array Slot} {rest : List Value} {mc ms : Nat} {f : Nat → Int64}
theorem kHA_fA (h : kHA A s H locs D ad E X) (hA : ∀ q, s.heap.size ≤ q → A q) : ∀ q, fA ad H.size q → A q := by
  rintro q (⟨pl, hp, rfl⟩ | hq)
  · exact h.2.1.2 pl (ad pl, E pl) (kC_get hp)
  · exact hA q (Nat.le_trans h.2.2.1 hq)
theorem kHA_join (h : kHA A s H locs D ad E X) (hA : ∀ q, s.heap.size ≤ q → A q) {H1 : Heap} {locs1 : List Loc} (hP1 : va_P D vwCl (kC ad E') H1) (hD1 : va_D (fA ad H.size) (kC ad E')) (hk : ∀ q : Nat, q < H.size → ¬ fA ad H.size q → H1[q]? = H[q]?) (hS : va_S A s.heap H1 locs1) : kHA A s H1 locs1 D ad E' X := by
  obtain ⟨hP, hD⟩ := va_join (ws := kC ad E ++ X) (wc := kC ad E) (wr := X) (w1 := kC ad E') h.1 h.2.1 (List.range 109) ((List.range X.length).map (109 + ·)) (kC_is ad E X) (kX_is ad E X) (kX_nd _) (fun i hi hi2 => by
      obtain ⟨j, -, rfl⟩ := List.mem_map.mp hi
      have := List.mem_range.mp hi2
      omega)
    (fun q h1 h2 => hk q h1 (fun h3 => h2 ((fA_va ad E H.size q).mpr h3))) (fun q hq => kHA_fA h hA q ((fA_va ad E H.size q).mp hq)) hP1 (by rw [fA_eq]; exact hD1)
  have hP2 := va_P.swap (a := []) (b := X) (c := kC ad E') hP
  have hD2 := va_D.swap (a := []) (b := X) (c := kC ad E') hD
  exact ⟨hP2, hD2, hS⟩
theorem kHA_pre (h : kHA A s H locs D ad E X) (hK : va_K D vwCl (kT cI cZ cO) s) {as : List Value} : ∀ U : State, U.heap = H → s.WarmedH U.vm → kP as D cI cZ cO ad E H.size as.toArray U := by
  intro U hU hW
  refine ⟨rfl, by rw [hU], ?_, va_K.moved hW.alike hK, ?_⟩
  · rw [hU]
    exact h.1.by id (fun k q hk => kC_left hk)
  · exact (h.2.1.by id (fun k q hk => kC_left hk) (fun i j _ _ e => e)).weaken (fun _ _ _ _ => trivial)
variable {y : MethodName} {bytes : ByteArray} {maxL n index : Nat} {rt : Option FieldType} {rm : Room} {as : List Value} {C : String}
/-- a call of a method of the class or of the reference, out of the law's own methods: one that can't throw -/
theorem lr_runV {Pc : Array Value → State → Prop} {Qc : Array Value → State → Outcome → State → Prop} {pl : Nat} (V : kV p s m args meth c cc own nL ret D cI cZ cO) (h : kHA A s H locs D ad E X) (hY : kY C y bytes maxL rt n) (w1 : Cond.methodLink own index y ∈ kWA)
    (hM : Met l y (Cond.code y bytes maxL rt :: kWA) rm Pc Qc mc ms (fA ad H.size)) (hbl : FrameBlind Pc) (hpre : ∀ U : State, U.heap = H → s.WarmedH U.vm → Pc (Value.ref (ad pl) :: as).toArray U)
    (hrc : rm.cells = mc) (hrs : rm.slots = ms) (hR : rm.frames + 1 ≤ R.frames ∧ 8 + (maxL + 11) + rm.locals ≤ R.locals) (hpl : pl < 109) {ci : Nat} {fs : List Value} (he : E pl = .inr (ci, fs)) {T : u_T} {N : Nat} (hc : vwCl[ci]? = some (C, T, N)) (hn : as.length = n) (hsz : ls.size = nL) (hroom : (rest.map fun v => v.category).sum ≤ 8) (hdg : decode cc pc = .ok (.invokevirtual index, 3)) (hf : cells + mc ≤ R.cells ∧ slots + ms ≤ R.slots) {st : List Value} (hst : st = as.reverse ++ .ref (ad pl) :: rest) :
    va_Run p l e R s m args below meth c H locs cells slots mc ms (F0 m pc ls st) rest (Qc (Value.ref (ad pl) :: as).toArray) (fA ad H.size) := by
  obtain ⟨hx, hb, hml, hown, hts, hr, hlk, hK⟩ := V
  obtain ⟨y1, y2, y3, y4, y5⟩ := hY
  refine va_runV (As := as) (rest := rest) (C := C) (b := ad pl) (nL := nL) ⟨hx, hb, hml, hown, hts⟩ hM (cwV n hts (fun w hw => ?_) rfl hrc hrs y5 hR) ⟨hbl, va_recv hK h.1 (ci := ci) (q0 := pl) hc (by rw [kC_get hpl, he]), hpre⟩ rfl hn hsz hst (lv_room hroom) hdg hf
  rcases List.mem_append.mp hw with hw | hw
  · simp only [List.mem_cons, List.not_mem_nil, or_false] at hw
    rcases hw with rfl | rfl | rfl | rfl
    · exact ⟨w1, kWA_good _ w1⟩
    · exact ⟨y1, kWA_good _ y1⟩
    · exact ⟨y2, kWA_good _ y2⟩
    · exact ⟨y3, kWA_good _ y3⟩
  · exact kY_good y4 w hw
/-- one that may throw -/
theorem lr_runX {Pc : Array Value → State → Prop} {Qc : Array Value → State → Outcome → State → Prop} {XC : String → State → State → Prop} {pl : Nat} (V : kV p s m args meth c cc own nL ret D cI cZ cO) (h : kHA A s H locs D ad E X) (hY : kY C y bytes maxL rt n) (w1 : Cond.methodLink own index y ∈ kWA)
    (hM : vx_Met l y (Cond.code y bytes maxL rt :: kWA) rm Pc Qc XC mc ms (fA ad H.size)) (hbl : FrameBlind Pc) (hpre : ∀ U : State, U.heap = H → s.WarmedH U.vm → Pc (Value.ref (ad pl) :: as).toArray U)
    (hrc : rm.cells = mc) (hrs : rm.slots = ms) (hR : rm.frames + 1 ≤ R.frames ∧ 8 + (maxL + 11) + rm.locals ≤ R.locals) (hpl : pl < 109) {ci : Nat} {fs : List Value} (he : E pl = .inr (ci, fs)) {T : u_T} {N : Nat} (hc : vwCl[ci]? = some (C, T, N)) (hn : as.length = n) (hsz : ls.size = nL) (hroom : (rest.map fun v => v.category).sum ≤ 8) (hdg : decode cc pc = .ok (.invokevirtual index, 3)) (hf : cells + mc ≤ R.cells ∧ slots + ms ≤ R.slots) {st : List Value} (hst : st = as.reverse ++ .ref (ad pl) :: rest) :
    vx_Run p l e R s m args below meth c H locs cells slots mc ms (F0 m pc ls st) rest (Qc (Value.ref (ad pl) :: as).toArray) XC (fA ad H.size) := by
  obtain ⟨hx, hb, hml, hown, hts, hr, hlk, hK⟩ := V
  obtain ⟨y1, y2, y3, y4, y5⟩ := hY
  refine vx_runV (As := as) (rest := rest) (C := C) (b := ad pl) (nL := nL) ⟨hx, hb, hml, hown, hts⟩ hM (cwV n hts (fun w hw => ?_) rfl hrc hrs y5 hR) ⟨hbl, va_recv hK h.1 (ci := ci) (q0 := pl) hc (by rw [kC_get hpl, he]), hpre⟩ rfl hn hsz hst (lv_room hroom) hdg hf
  rcases List.mem_append.mp hw with hw | hw
  · simp only [List.mem_cons, List.not_mem_nil, or_false] at hw
    rcases hw with rfl | rfl | rfl | rfl
    · exact ⟨w1, kWA_good _ w1⟩
    · exact ⟨y1, kWA_good _ y1⟩
    · exact ⟨y2, kWA_good _ y2⟩
    · exact ⟨y3, kWA_good _ y3⟩
  · exact kY_good y4 w hw
theorem lr_calli {r : Int32} {a : Array Value} {st : List Value} (h : kHA A s H locs D ad E X) (hA : ∀ q, s.heap.size ≤ q → A q) (hr : va_Run p l e R s m args below meth c H locs cells slots mc ms (F0 m pc ls st) rest (kQi r D cI cZ cO ad E' H.size a) (fA ad H.size)) (kk : ∀ (H1 : Heap) (locs1 : List Loc), kHA A s H1 locs1 D ad E' X → W p l e R s m args below meth c H1 locs1 (cells + mc) (slots + ms) Q (F0 m (pc + 3) ls (.int r :: rest))) : W p l e R s m args below meth c H locs cells slots Q (F0 m pc ls st) := by
  refine va_calli hr h.2.2 (fun q _ h2 => kHA_fA h hA q h2) (kHA_fA h hA) (fun r' u t H1 locs1 ht hvm hp hB hz hk hS => ?_)
  subst hp
  rw [← ht] at hk hS ⊢
  exact kk _ _ (kHA_join h hA hB.1 hB.2.2 hk hS)
theorem lr_calll {r : Int64} {a : Array Value} {st : List Value} (h : kHA A s H locs D ad E X) (hA : ∀ q, s.heap.size ≤ q → A q) (hr : va_Run p l e R s m args below meth c H locs cells slots mc ms (F0 m pc ls st) rest (kQl r D cI cZ cO ad E' H.size a) (fA ad H.size)) (kk : ∀ (H1 : Heap) (locs1 : List Loc), kHA A s H1 locs1 D ad E' X → W p l e R s m args below meth c H1 locs1 (cells + mc) (slots + ms) Q (F0 m (pc + 3) ls (.long r :: rest))) : W p l e R s m args below meth c H locs cells slots Q (F0 m pc ls st) := by
  refine va_calll hr h.2.2 (fun q _ h2 => kHA_fA h hA q h2) (kHA_fA h hA) (fun r' u t H1 locs1 ht hvm hp hB hz hk hS => ?_)
  subst hp
  rw [← ht] at hk hS ⊢
  exact kk _ _ (kHA_join h hA hB.1 hB.2.2 hk hS)
theorem lr_calld {r : UInt64} {a : Array Value} {st : List Value} (h : kHA A s H locs D ad E X) (hA : ∀ q, s.heap.size ≤ q → A q) (hr : va_Run p l e R s m args below meth c H locs cells slots mc ms (F0 m pc ls st) rest (kQd r D cI cZ cO ad E' H.size a) (fA ad H.size)) (kk : ∀ (H1 : Heap) (locs1 : List Loc), kHA A s H1 locs1 D ad E' X → W p l e R s m args below meth c H1 locs1 (cells + mc) (slots + ms) Q (F0 m (pc + 3) ls (.double r :: rest))) : W p l e R s m args below meth c H locs cells slots Q (F0 m pc ls st) := by
  refine va_calld hr h.2.2 (fun q _ h2 => kHA_fA h hA q h2) (kHA_fA h hA) (fun r' u t H1 locs1 ht hvm hp hB hz hk hS => ?_)
  subst hp
  rw [← ht] at hk hS ⊢
  exact kk _ _ (kHA_join h hA hB.1 hB.2.2 hk hS)
theorem lr_callx {code : Nat} {r : Int32} {a : Array Value} {st : List Value} (h : kHA A s H locs D ad E X) (hA : ∀ q, s.heap.size ≤ q → A q) (hr : vx_Run p l e R s m args below meth c H locs cells slots mc ms (F0 m pc ls st) rest (kXi code r D cI cZ cO ad E' H.size a) (kXC code D cI cZ cO ad E' H.size) (fA ad H.size))
    (kx : code ≠ 0 → ∀ (En : String) (ce : Cell) (q9 : Addr) (H1 : Heap) (locs1 : List Loc), En = kEx code → kHA A s H1 locs1 D ad E' X → H1[q9]? = some ce → ce.vm = .none → s.vm.findClass En = some ce.cls → vx_W p l e R s m args below meth c H1 locs1 (cells + mc) (slots + ms) Q (F0 m pc ls rest) q9)
    (kk : code = 0 → ∀ (H1 : Heap) (locs1 : List Loc), kHA A s H1 locs1 D ad E' X → W p l e R s m args below meth c H1 locs1 (cells + mc) (slots + ms) Q (F0 m (pc + 3) ls (.int r :: rest))) : W p l e R s m args below meth c H locs cells slots Q (F0 m pc ls st) := by
  refine vx_calli hr h.2.2 (fun q _ h2 => kHA_fA h hA q h2) (kHA_fA h hA) (fun q _ h2 => kHA_fA h hA q h2) (fun En ce q9 u t H1 locs1 ht hvm hp hB hz hk hS hcell hv hcl => ?_) (fun r' u t H1 locs1 ht hvm hp hB hz hk hS => ?_)
  · subst ht
    exact kx hp En ce q9 _ _ hB.1 (kHA_join h hA hB.2.1 hB.2.2.2 hk hS) hcell hv hcl
  · subst ht
    obtain ⟨h0, rfl⟩ := hp
    exact kk h0 _ _ (kHA_join h hA hB.1 hB.2.2 hk hS)
theorem fL_new : ∀ q, s.heap.size ≤ q → fL ad xo s.heap.size q := fun _ h => Or.inl (Or.inr h)
/-- a wrapper's end behind what is caught -/
theorem lr_h0 {w : Int32} {code : Nat} {r : Int32} {w0 : Int} (V : kV p s m args meth c cc own nL (some .int) D cI cZ cO) (hKL : va_K D vwCl (kL cI cZ cO cL) s) (h : kHA (fL ad xo s.heap.size) s H locs D ad E' (xL cL xo f)) (h0 : code ≠ 0) (hc : cells ≤ mc) (hs : slots ≤ ms) (d2 : decode cc pc = .ok (.iconst w0, 1)) (hw : Int32.ofInt w0 = w) (d3 : decode cc (pc + 1) = .ok (.ireturn, 1)) :
    W p l e R s m args below meth c H locs cells slots (vx_MQ below (lQ w code r D cI cZ cO cL ad E' xo s.heap.size) lNo args s mc ms (fL ad xo s.heap.size)) (F0 m pc ls []) := by
  obtain ⟨hx, hb, hml, hown, hts, hr, hlk, hK⟩ := V
  refine lv_iconst (v := w) hx hb d2 hw ?_
  exact W.widen hc hs (vx_ret (W.iret (v := w) hx hb hr (fun t ht hW => ⟨⟨w, f, rfl, ⟨rfl, fun e => absurd e h0⟩, by rw [ht]; exact h.1, va_K.moved hW.alike hKL, h.2.1⟩, h.2.2.F ht⟩) h.2.2.2.2 d3 hlk))
theorem lr_h2 {w : Int32} {code : Nat} {r : Int32} {q9 : Addr} {v9 : Nat} {w0 : Int} (V : kV p s m args meth c cc own nL (some .int) D cI cZ cO) (hKL : va_K D vwCl (kL cI cZ cO cL) s) (h : kHA (fL ad xo s.heap.size) s H locs D ad E' (xL cL xo f)) {lv : List (Nat × Value)} (hl : lv_has ls nL lv) (hv9 : v9 < nL) (h0 : code ≠ 0) (hc : cells ≤ mc) (hs : slots ≤ ms) (hw : Int32.ofInt w0 = w) (d0 : decode cc pc = .ok (.astore v9, 2)) (d2 : decode cc (pc + 2) = .ok (.iconst w0, 1)) (d3 : decode cc (pc + 2 + 1) = .ok (.ireturn, 1)) :
    W p l e R s m args below meth c H locs cells slots (vx_MQ below (lQ w code r D cI cZ cO cL ad E' xo s.heap.size) lNo args s mc ms (fL ad xo s.heap.size)) (F0 m pc ls [.ref q9]) := by
  have V' := V
  obtain ⟨hx, hb, hml, hown, hts, hr, hlk, hK⟩ := V
  exact lv_astore hx hb d0 hl hv9 rfl (fun ls hl => lr_h0 V' hKL h h0 hc hs d2 hw d3)
theorem lr_h1 {w : Int32} {code : Nat} {r : Int32} {q9 : Addr} {k9 : Fin 4} {w0 : Int} (V : kV p s m args meth c cc own nL (some .int) D cI cZ cO) (hKL : va_K D vwCl (kL cI cZ cO cL) s) (h : kHA (fL ad xo s.heap.size) s H locs D ad E' (xL cL xo f)) {lv : List (Nat × Value)} (hl : lv_has ls nL lv) (hv9 : (k9 : Nat) < nL) (h0 : code ≠ 0) (hc : cells ≤ mc) (hs : slots ≤ ms) (hw : Int32.ofInt w0 = w) (d0 : decode cc pc = .ok (.astore_n k9, 1)) (d2 : decode cc (pc + 1) = .ok (.iconst w0, 1)) (d3 : decode cc (pc + 1 + 1) = .ok (.ireturn, 1)) :
    W p l e R s m args below meth c H locs cells slots (vx_MQ below (lQ w code r D cI cZ cO cL ad E' xo s.heap.size) lNo args s mc ms (fL ad xo s.heap.size)) (F0 m pc ls [.ref q9]) := by
  have V' := V
  obtain ⟨hx, hb, hml, hown, hts, hr, hlk, hK⟩ := V
  exact lv_astore_n hx hb d0 rfl hl hv9 rfl (fun ls hl => lr_h0 V' hKL h h0 hc hs d2 hw d3)
/-- its end behind an answer -/
theorem lr_ok {code : Nat} {r : Int32} {off : Int} {tgt : Nat} (V : kV p s m args meth c cc own nL (some .int) D cI cZ cO) (hKL : va_K D vwCl (kL cI cZ cO cL) s) (h : kHA (fL ad xo s.heap.size) s H locs D ad E' (xL cL xo f)) (hc : cells ≤ mc) (hs : slots ≤ ms) (d0 : decode cc pc = .ok (.i2l, 1)) (d1 : decode cc (pc + 1) = .ok (.lastore, 1)) (d2 : decode cc (pc + 1 + 1) = .ok (.goto off, 3)) (ht : ((pc + 1 + 1 : Nat) : Int) + off = (tgt : Int)) (d3 : decode cc tgt = .ok (.iconst 0, 1)) (d4 : decode cc (tgt + 1) = .ok (.ireturn, 1)) :
    W p l e R s m args below meth c H locs cells slots (vx_MQ below (lQ 0 code r D cI cZ cO cL ad E' xo s.heap.size) lNo args s mc ms (fL ad xo s.heap.size)) (F0 m pc ls [.int r, .int 0, .ref xo]) := by
  obtain ⟨hx, hb, hml, hown, hts, hr, hlk, hK⟩ := V
  refine lv_i2l (v := r.toInt64) hx hb d0 rfl ?_
  refine va_last (D := D) (cA := cL) (n := 1) (f := f) hx hb hKL h.1 h.2.1 h.2.2 109 3 (kC_xg (j := 0) rfl) rfl (show ¬ ((0 : Int32) < 0 ∨ 1 ≤ (0 : Int32).toNatClampNeg) by decide) d1 (fun H1 locs1 hP hD hS => ?_)
  rw [show (109 : Nat) = 109 + 0 from rfl, kC_xs] at hP hD
  refine lv_goto (tgt := tgt) hx hb d2 ht ?_
  refine lv_iconst (v := 0) hx hb d3 (by decide) ?_
  exact W.widen hc hs (vx_ret (W.iret (v := 0) hx hb hr (fun t ht hW => ⟨⟨0, vp_updL f (0 : Int32).toNatClampNeg r.toInt64, rfl, ⟨rfl, fun _ => rfl⟩, by rw [ht]; exact hP, va_K.moved hW.alike hKL, hD⟩, hS.F ht⟩) hS.2.2 d4 hlk))
/-- what else a wrapper's start gives -/
def lX (l : Launch) (s : State) (ad : Nat → Nat) (xo : Nat) (D : va_G) (cI cZ cO cL : ClassId) : Prop := l.stackTraces = false ∧ kXA (fL ad xo s.heap.size) s s.heap ∧ kNc s ∧ va_K D vwCl (kL cI cZ cO cL) s
/-- a wrapper's contract -/
theorem lr_met {hh : List (Nat × Nat × Nat × Nat)} {Qc : Nat → Array Value → State → Outcome → State → Prop} {lv : List (Nat × Value)} (hst : l.stackTraces = false) (hy : plainName y.cls = true) (hlen : (lg_sl as).length ≤ maxL) (hlv : lv_args 0 as = lv)
    (body : ∀ (p : Program) (e : Env) (s : State) (m : MethodId) (below : List Frame) (meth : Method) (c : Code) (ls : Array Slot), kV p s m as.toArray meth c bytes y.cls maxL rt D cI cZ cO → lX l s ad xo D cI cZ cO cL → c.exceptionTable.toList = tableOf hh → kHA (fL ad xo s.heap.size) s s.heap [] D ad E (xL cL xo f) → lv_has ls maxL lv → W p l e rm s m as.toArray below meth c s.heap [] 0 0 (vx_MQ below (Qc s.heap.size) lNo as.toArray s mc ms (fL ad xo s.heap.size)) (F0 m 0 ls [])) (sz : Nat) :
    vx_Met l y (Cond.codeWith y bytes maxL rt hh :: kWA) rm (lP as D cI cZ cO cL ad E xo f sz) (Qc sz) lNo mc ms (fL ad xo sz) := by
  refine vx_ofWH (cc := bytes) (maxL := maxL) (ret := rt) hy rfl ?_
  intro p e s m args below meth c s₁ B hml hv
  obtain ⟨rfl, ⟨hsz, hP, hK, hD0⟩, hX, hN⟩ := hv
  have hx := B.exec
  have hb := B.bytes
  have hr := B.returns
  have hts := atoms_spec (ws := Cond.codeWith y bytes maxL rt hh :: kWA) B.pre
  have hown : s.vm.findClass y.cls = some m.cls := findClass_of_methodNamed B.named
  have hlocks := B.notSynchronized
  subst hsz
  have hl := lv_entry as (n := maxL) hlen
  rw [lg_entry_eq]
  rw [hlv] at hl
  have hD : va_D (fL ad xo s.heap.size) (kC ad E ++ xL cL xo f) := ⟨hD0.1, fun k q hk => by
    by_cases h9 : k < 109
    · have h8 := kC_get (ad := ad) (e := E) (X := xL cL xo f) h9
      rw [h8] at hk
      cases hk
      exact Or.inl (Or.inl ⟨k, h9, rfl⟩)
    · rw [List.getElem?_append_right (by rw [kC_len]; omega), kC_len] at hk
      have h7 := List.mem_of_getElem? hk
      simp only [xL, List.mem_cons, List.not_mem_nil, or_false] at h7
      subst h7
      exact Or.inr rfl⟩
  exact body p e s m below meth c _ ⟨hx, hb, hml, hown, fun w hw => hts w (List.mem_cons_of_mem _ hw), hr, hlocks, hK.sub [0, 1, 2] rfl⟩ ⟨hst, hX, hN, hK⟩ (vx_table (x := y) B (hts _ List.mem_cons_self)) ⟨hP, hD, va_S.rf⟩ hl
/-- the class's call out of a wrapper: its start -/
theorem lr_preX {as : List Value} (h : kHA (fL ad xo s.heap.size) s s.heap [] D ad E X) (hK : va_K D vwCl (kT cI cZ cO) s) (XV : lX l s ad xo D cI cZ cO cL) : ∀ U : State, U.heap = s.heap → s.WarmedH U.vm → kPX as D cI cZ cO ad E s.heap.size as.toArray U := by
  intro U hU hW
  refine ⟨rfl, (kHA_pre h hK (as := as) U hU hW).2, ?_⟩
  exact kXA_next XV.2.1 va_S.rf hU hW (fun q hq => Or.inl (by rw [← hU]; exact hq))
theorem lr_cast (hts : ∀ w ∈ kWA, w.before args s = true) (XV : lX l s ad xo D cI cZ cO cL) (i : Nat) (hi : i = 1 ∨ i = 2 ∨ i = 3) : (Cond.castable (kEx i) (kEx i)).before args s = true := by
  have h := XV.2.1.1
  rcases hi with rfl | rfl | rfl
  · exact (h (Cond.castable (kEx 1) (kEx 1)) (by decide +kernel)).use rfl
  · exact (h (Cond.castable (kEx 2) (kEx 2)) (by decide +kernel)).use rfl
  · exact (h (Cond.castable (kEx 3) (kEx 3)) (by decide +kernel)).use rfl
end LR
