/-! METHODS THAT THROW -/
/-- the exceptions by numbers -/
def kEx : Nat → String
  | 1 => "java/lang/IllegalArgumentException"
  | 2 => "java/lang/IllegalStateException"
  | _ => "java/lang/IndexOutOfBoundsException"
abbrev kSup : List String := ["java/lang/RuntimeException", "java/lang/Exception"]
abbrev kInitS (n : String) : MethodName := ⟨n, "<init>", "(Ljava/lang/String;)V"⟩
abbrev kInit0 (n : String) : MethodName := ⟨n, "<init>", "()V"⟩
/-- words that aren't good ones, but stay -/
def kNw1 : List (String × String) := [("java/lang/IllegalArgumentException", "java/lang/IllegalArgumentException"), ("java/lang/IllegalStateException", "java/lang/IllegalStateException"), ("java/lang/IndexOutOfBoundsException", "java/lang/IndexOutOfBoundsException")]
def kNw2 : List MethodName := [kInit0 "java/lang/RuntimeException", kInitS "java/lang/RuntimeException", kInit0 "java/lang/Exception", kInitS "java/lang/Exception", kInit0 "java/lang/Throwable", kInitS "java/lang/Throwable"]
def kNw : List Cond := kNw1.map (fun q => Cond.castable q.1 q.2) ++ kNw2.map Cond.declares
def kStr : List (Nat × String) := [(30, "the age is not 0 to 60"), (41, "there are 40 persons"), (193, "there is no such person"), (74, "the mother is no living married woman"), (76, "the worth is not 1 to 50"), (201, "the law is not 0 to 3"), (88, "there are 12 lands"), (90, "the ruler has died"), (197, "there is no such land"), (106, "these two can't marry"), (111, "neither rules the land"), (120, "this one is not married"), (125, "this one has died already"), (199, "there is nothing of that number"), (203, "the years are not 1 to 100")]
/-- what a throw wants of a state; A: what isn't old and foreign -/
def kXA (A : Nat → Prop) (U : State) (H : Heap) : Prop :=
  (∀ w ∈ kNw, va_Nw w U) ∧ (∀ q ∈ kStr, ∃ sa, vk_R RX5 q.1 q.2 sa U) ∧ vx_Zq Bundle.tN "UNASSIGNED_STACK" Bundle.steD A U H ∧ vx_Zq Bundle.tN "SUPPRESSED_SENTINEL" Bundle.listD A U H
def kX (ad : Nat → Nat) (U : State) : Prop := kXA (fA ad U.heap.size) U U.heap
theorem kNw_tabs : ∀ w ∈ kNw, w.onTables = true := by decide +kernel
theorem kNw_warm {s U : State} (hW : s.WarmedH U.vm) (h : ∀ w ∈ kNw, va_Nw w s) : ∀ w ∈ kNw, va_Nw w U := by
  intro w hw
  rcases List.mem_append.mp hw with h1 | h1
  · obtain ⟨q, hq, rfl⟩ := List.mem_map.mp h1
    exact va_Nw.warmC hW (h _ hw)
  · obtain ⟨q, hq, rfl⟩ := List.mem_map.mp h1
    exact va_Nw.warmD hW (h _ hw)
theorem kX_next {ad : Nat → Nat} {s U : State} {H : Heap} {locs : List Loc} {D : va_G} {E : Nat → va_E} {X : va_W} (h : kX ad s) (hH : kH s H locs D ad E X) (hU : U.heap = H) (hW : s.WarmedH U.vm) : kX ad U := by
  obtain ⟨h1, h2, h3, h4⟩ := h
  refine ⟨kNw_warm hW h1, fun q hq => ?_, ?_, ?_⟩
  · obtain ⟨sa, hs⟩ := h2 q hq
    exact ⟨sa, hs.warm hW⟩
  · subst hU
    exact (vx_Zq.moved hW.alike (h3.kept hH.2.2.2.1)).narrow (fun q hq => fA_mono hH.2.2.1 hq)
  · subst hU
    exact (vx_Zq.moved hW.alike (h4.kept hH.2.2.2.1)).narrow (fun q hq => fA_mono hH.2.2.1 hq)
theorem kX_calling {ad : Nat → Nat} {U : State} {g : JFrame} {mk : MethodId} {a : Array Value} (h : kX ad U) : kX ad (U.calling g mk a) := by
  obtain ⟨h1, h2, h3, h4⟩ := h
  refine ⟨fun w hw => va_Nw.same (u := U) (U := U.calling g mk a) (kNw_tabs w hw) rfl (h1 w hw), fun q hq => ?_, ?_, ?_⟩
  · obtain ⟨sa, hs⟩ := h2 q hq
    exact ⟨sa, vk_R.same (u := U) (U := U.calling g mk a) rfl hs⟩
  · exact vx_Zq.moved (U := U.calling g mk a) (Vm.Alike.refl U.vm) h3
  · exact vx_Zq.moved (U := U.calling g mk a) (Vm.Alike.refl U.vm) h4
def kPX (as : List Value) (D : va_G) (cI cZ cO : ClassId) (ad : Nat → Nat) (e : Nat → va_E) (sz : Nat) : Array Value → State → Prop :=
  va_Pc as (fun U => (U.heap.size = sz ∧ va_P D vwCl (kC ad e) U.heap ∧ va_K D vwCl (kT cI cZ cO) U ∧ va_D (fun _ => True) (kC ad e)) ∧ kX ad U)
theorem kPX_blind {as : List Value} {D : va_G} {cI cZ cO : ClassId} {ad : Nat → Nat} {e : Nat → va_E} {sz : Nat} : FrameBlind (kPX as D cI cZ cO ad e sz) := fun a U g mk q => by
  obtain ⟨q0, ⟨q1, qP, qK, qD⟩, qX⟩ := q
  exact ⟨q0, ⟨q1, qP, va_K.moved (u := U) (U := U.calling g mk a) (Vm.Alike.refl U.vm) qK, qD⟩, kX_calling qX⟩
/-- the end of a method that returns (code 0) or throws -/
abbrev kXi (code : Nat) (r : Int32) (D : va_G) (cI cZ cO : ClassId) (ad : Nat → Nat) (e : Nat → va_E) (sz : Nat) := va_Qi (fun (r' : Int32) (_ : Unit) => code = 0 ∧ r' = r) (kEnd D cI cZ cO ad e sz) (fA ad sz)
abbrev kXv (code : Nat) (D : va_G) (cI cZ cO : ClassId) (ad : Nat → Nat) (e : Nat → va_E) (sz : Nat) := va_Qv (fun (_ : Unit) => code = 0) (kEnd D cI cZ cO ad e sz) (fA ad sz)
abbrev kXC (code : Nat) (D : va_G) (cI cZ cO : ClassId) (ad : Nat → Nat) (e : Nat → va_E) (sz : Nat) : String → State → State → Prop := vx_X (fun (_ : Unit) => code ≠ 0) (fun E (_ : Unit) t => E = kEx code ∧ kEnd D cI cZ cO ad e sz () t) (fA ad sz)
abbrev kGXi (below : List Frame) (args : Array Value) (s : State) (D : va_G) (cI cZ cO : ClassId) (ad : Nat → Nat) (code : Nat) (r : Int32) (k mo : kS) (mc ms : Nat) : State → Prop := vx_MQ below (kXi code r D cI cZ cO ad (kE ad cI cZ cO k mo) s.heap.size) (kXC code D cI cZ cO ad (kE ad cI cZ cO k mo) s.heap.size) args s mc ms (fA ad s.heap.size)
abbrev kGXv (below : List Frame) (args : Array Value) (s : State) (D : va_G) (cI cZ cO : ClassId) (ad : Nat → Nat) (code : Nat) (k mo : kS) (mc ms : Nat) : State → Prop := vx_MQ below (kXv code D cI cZ cO ad (kE ad cI cZ cO k mo) s.heap.size) (kXC code D cI cZ cO ad (kE ad cI cZ cO k mo) s.heap.size) args s mc ms (fA ad s.heap.size)
/-- what stays while a method that throws runs -/
def kVX (l : Launch) (s : State) (ad : Nat → Nat) (c : Code) : Prop := l.stackTraces = false ∧ kX ad s ∧ ∀ x ∈ c.exceptionTable.toList, False
theorem kXg1 : ∀ w ∈ (vx_atS RX5 32 "java/lang/IllegalArgumentException" kSup).filter goodWord, w ∈ lw_tbl := by decide +kernel
theorem kXg2 : ∀ w ∈ (vx_atS RX5 43 "java/lang/IllegalStateException" kSup).filter goodWord, w ∈ lw_tbl := by decide +kernel
theorem kXg3 : ∀ w ∈ (vx_atS RX5 195 "java/lang/IndexOutOfBoundsException" kSup).filter goodWord, w ∈ lw_tbl := by decide +kernel
theorem kXn1 : ∀ w ∈ (vx_atS RX5 32 "java/lang/IllegalArgumentException" kSup).filter (fun w => !goodWord w), w ∈ kNw := by decide +kernel
theorem kXn2 : ∀ w ∈ (vx_atS RX5 43 "java/lang/IllegalStateException" kSup).filter (fun w => !goodWord w), w ∈ kNw := by decide +kernel
theorem kXn3 : ∀ w ∈ (vx_atS RX5 195 "java/lang/IndexOutOfBoundsException" kSup).filter (fun w => !goodWord w), w ∈ kNw := by decide +kernel
theorem kXo1 : ∀ w ∈ Cond.classLink RX5 28 "java/lang/IllegalArgumentException" :: Cond.initialized "java/lang/IllegalArgumentException" :: vx_atS RX5 32 "java/lang/IllegalArgumentException" kSup, vx_ot w = true := by decide +kernel
theorem kXo2 : ∀ w ∈ Cond.classLink RX5 39 "java/lang/IllegalStateException" :: Cond.initialized "java/lang/IllegalStateException" :: vx_atS RX5 43 "java/lang/IllegalStateException" kSup, vx_ot w = true := by decide +kernel
theorem kXo3 : ∀ w ∈ Cond.classLink RX5 191 "java/lang/IndexOutOfBoundsException" :: Cond.initialized "java/lang/IndexOutOfBoundsException" :: vx_atS RX5 195 "java/lang/IndexOutOfBoundsException" kSup, vx_ot w = true := by decide +kernel
theorem kX_hat {s : State} {args : Array Value} {L : List Cond} (hts : ∀ w ∈ kWA, w.before args s = true) (hn : ∀ w ∈ kNw, va_Nw w s) (h1 : ∀ w ∈ L.filter goodWord, w ∈ lw_tbl) (h2 : ∀ w ∈ L.filter (fun w => !goodWord w), w ∈ kNw) : ∀ w ∈ L, w.before args s = true :=
  vx_hat (fun w hw => hts w (List.mem_filter.mpr ⟨h1 w hw, (List.mem_filter.mp hw).2⟩)) h2 (fun w hw => (hn w hw).use (kNw_tabs w hw))
section KXR
variable {p : Program} {l : Launch} {e : Env} {R : Room} {s : State} {mm : MethodId} {args : Array Value} {below : List Frame} {meth : Method} {c : Code} {H : Heap} {locs : List Loc} {cells slots : Nat} {Q : State → Prop}
variable {cc : ByteArray} {own : String} {nL : Nat} {ret : Option FieldType} {D : va_G} {cI cZ cO : ClassId} {ad : Nat → Nat} {E : Nat → va_E} {k mo : kS} {X : va_W} {pc : Nat} {ls : Array Slot} {rest : List Value} {mc ms : Nat}
theorem kx_iret (V : kV p s mm args meth c cc own nL (some .int) D cI cZ cO) (h : kHE s H locs D ad cI cZ cO k mo X) {r : Int32} (hc : cells ≤ mc) (hs : slots ≤ ms) (hdg : decode cc pc = .ok (.ireturn, 1)) : W p l e R s mm args below meth c H locs cells slots (kGXi below args s D cI cZ cO ad 0 r k mo mc ms) (F0 mm pc ls [.int r]) :=
  W.widen hc hs (vx_ret (W.iret (v := r) V.1 V.2.1 V.2.2.2.2.2.1 (fun t ht hW => ⟨⟨r, (), rfl, ⟨rfl, rfl⟩, kEnd_of V h ht hW⟩, h.2.2.F ht⟩) h.2.2.2.2 hdg V.2.2.2.2.2.2.1))
theorem kx_vret (V : kV p s mm args meth c cc own nL none D cI cZ cO) (h : kHE s H locs D ad cI cZ cO k mo X) (hc : cells ≤ mc) (hs : slots ≤ ms) (hdg : decode cc pc = .ok (.return_, 1)) : W p l e R s mm args below meth c H locs cells slots (kGXv below args s D cI cZ cO ad 0 k mo mc ms) (F0 mm pc ls []) :=
  W.widen hc hs (vx_ret (W.vret V.1 V.2.1 V.2.2.2.2.2.1 (fun t ht hW => ⟨⟨(), rfl, rfl, kEnd_of V h ht hW⟩, h.2.2.F ht⟩) h.2.2.2.2 hdg V.2.2.2.2.2.2.1))
/-- throw new E(text) -/
theorem kx_throw {Qc : Array Value → State → Outcome → State → Prop} (V : kV p s mm args meth c cc RX5 nL ret D cI cZ cO) (XV : kVX l s ad c) (h : kHE s H locs D ad cI cZ cO k mo X) (hsz : ls.size = nL) {code ik is ic : Nat} {text : String} (h0 : code ≠ 0) (hfit : Bundle.fit (kEx code) = true) (w1 : Cond.classLink RX5 ik (kEx code) ∈ kWA) (w2 : Cond.initialized (kEx code) ∈ kWA) (hg : ∀ w ∈ (vx_atS RX5 ic (kEx code) kSup).filter goodWord, w ∈ lw_tbl) (hn : ∀ w ∈ (vx_atS RX5 ic (kEx code) kSup).filter (fun w => !goodWord w), w ∈ kNw) (ho : ∀ w ∈ Cond.classLink RX5 ik (kEx code) :: Cond.initialized (kEx code) :: vx_atS RX5 ic (kEx code) kSup, vx_ot w = true) (hstr : (is, text) ∈ kStr)
    (d0 : decode cc pc = .ok (.new ik, 3)) (d3 : decode cc (pc + 3) = .ok (.dup, 1)) (d4 : decode cc (pc + 4) = .ok (.ldc is, 2)) (d6 : decode cc (pc + 6) = .ok (.invokespecial ic, 3)) (d9 : decode cc (pc + 9) = .ok (.athrow, 1))
    (hR1 : 5 < R.frames) (hR2 : (rest.map fun v => v.category).sum + 82 ≤ R.locals) (hR3 : cells + 1 ≤ R.cells) (hR4 : slots + 6 ≤ R.slots) (hc : cells + 1 ≤ mc) (hs : slots + 6 ≤ ms) :
    W p l e R s mm args below meth c H locs cells slots (vx_MQ below Qc (kXC code D cI cZ cO ad (kE ad cI cZ cO k mo) s.heap.size) args s mc ms (fA ad s.heap.size)) (F0 mm pc ls rest) := by
  have V' := V
  obtain ⟨hx, hb, hml, hown, hts, hr, hlk, hK⟩ := V
  obtain ⟨hst, ⟨n1, n2, n3, n4⟩, hnt⟩ := XV
  obtain ⟨sa, hsa⟩ := n2 _ hstr
  refine vx_throwS (A := fA ad s.heap.size) (names := kSup) hx hb hst hown hfit (by decide +kernel) (hts _ w1) (hts _ w2) hsa (kX_hat hts n1 hg hn) ho n3 n4 h.2.2 (hsz.trans hml.symm) d0 d3 d4 d6 d9 (fun x hx => (hnt x hx).elim) hR1 hR2 hR3 hR4 hlk (fun t hal hsz2 hkeep => ?_) h.2.2.2.2 hc hs
  refine ⟨(), h0, ⟨rfl, ?_, ?_, ?_⟩, ?_, ?_⟩
  · exact (h.1.by id (fun k q hk => kC_left hk)).kept (fun k q hk => hkeep q.1 (h.1 k q (kC_left hk)).lt)
  · exact va_K.moved hal hK
  · exact h.2.1.by id (fun k q hk => kC_left hk) (fun i j _ _ e => e)
  · exact Nat.le_trans h.2.2.1 hsz2
  · intro q hq hA
    rw [hkeep q (Nat.lt_of_lt_of_le hq h.2.2.1)]
    exact h.2.2.2.1 q hq hA
/-- what a callee has thrown goes on to the caller -/
theorem kx_prop {Qc : Array Value → State → Outcome → State → Prop} (V : kV p s mm args meth c cc own nL ret D cI cZ cO) (XV : kVX l s ad c) (h : kHE s H locs D ad cI cZ cO k mo X) {code : Nat} (h0 : code ≠ 0) {ce : Cell} {q9 : Addr} {En : String} (hE : En = kEx code) (hcell : H[q9]? = some ce) (hv : ce.vm = .none) (hcl : s.vm.findClass En = some ce.cls) (hc : cells ≤ mc) (hs : slots ≤ ms) :
    vx_W p l e R s mm args below meth c H locs cells slots (vx_MQ below Qc (kXC code D cI cZ cO ad (kE ad cI cZ cO k mo) s.heap.size) args s mc ms (fA ad s.heap.size)) (F0 mm pc ls rest) q9 := by
  obtain ⟨hx, hb, hml, hown, hts, hr, hlk, hK⟩ := V
  refine vx_outP hown hlk (fun z hz => (XV.2.2 z hz).elim) hcell hv hcl (fun t ht hal => ?_) h.2.2.2.2 hc hs
  refine ⟨(), h0, ⟨hE, ?_, ?_, ?_⟩, h.2.2.F ht⟩
  · rw [ht]; exact h.1.by id (fun k q hk => kC_left hk)
  · exact va_K.moved hal hK
  · exact h.2.1.by id (fun k q hk => kC_left hk) (fun i j _ _ e => e)
variable {y : MethodName} {bytes : ByteArray} {maxL n index : Nat} {rt : Option FieldType} {rm : Room} {as : List Value} {C : String}
theorem kx_runV {Qc : Array Value → State → Outcome → State → Prop} {XC : String → State → State → Prop} {pl : Nat} (V : kV p s mm args meth c cc own nL ret D cI cZ cO) (hX : kX ad s) (h : kH s H locs D ad E X) (hY : kY C y bytes maxL rt n) (w1 : Cond.methodLink own index y ∈ kWA)
    (hM : vx_Met l y (Cond.code y bytes maxL rt :: kWA) rm (kPX (.ref (ad pl) :: as) D cI cZ cO ad E H.size) Qc XC mc ms (fA ad H.size))
    (hrc : rm.cells = mc) (hrs : rm.slots = ms) (hR : rm.frames + 1 ≤ R.frames ∧ 8 + (maxL + 11) + rm.locals ≤ R.locals) (hpl : kOK pl) {ci : Nat} {fs : List Value} (he : E pl = .inr (ci, fs)) {T : u_T} {N : Nat} (hc : vwCl[ci]? = some (C, T, N)) (hn : as.length = n) (hsz : ls.size = nL) (hroom : (rest.map fun v => v.category).sum ≤ 8) (hdg : decode cc pc = .ok (.invokevirtual index, 3)) (hf : cells + mc ≤ R.cells ∧ slots + ms ≤ R.slots) {st : List Value} (hst : st = as.reverse ++ .ref (ad pl) :: rest) :
    vx_Run p l e R s mm args below meth c H locs cells slots mc ms (F0 mm pc ls st) rest (Qc (Value.ref (ad pl) :: as).toArray) XC (fA ad H.size) := by
  have V' := V
  obtain ⟨hx, hb, hml, hown, hts, hr, hlk, hK⟩ := V
  obtain ⟨y1, y2, y3, y4, y5⟩ := hY
  refine vx_runV (As := as) (rest := rest) (C := C) (b := ad pl) (nL := nL) ⟨hx, hb, hml, hown, hts⟩ hM (cwV n hts (fun w hw => ?_) rfl hrc hrs y5 hR) ⟨kPX_blind, va_recv hK h.1 (ci := ci) (q0 := kIx pl) hc (by rw [kC_get hpl, he]), fun U hU hW => ⟨rfl, (kH_pre (as := []) h V' U hU hW).2, kX_next hX h hU hW⟩⟩ rfl hn hsz hst (lv_room hroom) hdg hf
  rcases List.mem_append.mp hw with hw | hw
  · simp only [List.mem_cons, List.not_mem_nil, or_false] at hw
    rcases hw with rfl | rfl | rfl | rfl
    · exact ⟨w1, kWA_good _ w1⟩
    · exact ⟨y1, kWA_good _ y1⟩
    · exact ⟨y2, kWA_good _ y2⟩
    · exact ⟨y3, kWA_good _ y3⟩
  · exact kY_good y4 w hw
theorem kx_runS {Qc : Array Value → State → Outcome → State → Prop} {XC : String → State → State → Prop} (V : kV p s mm args meth c cc own nL ret D cI cZ cO) (hX : kX ad s) (h : kH s H locs D ad E X) (hY : kYs y bytes maxL rt n) (w1 : Cond.methodLink own index y ∈ kWA)
    (hM : vx_Met l y (Cond.code y bytes maxL rt :: kWA) rm (kPX as D cI cZ cO ad E H.size) Qc XC mc ms (fA ad H.size))
    (hrc : rm.cells = mc) (hrs : rm.slots = ms) (hR : rm.frames + 1 ≤ R.frames ∧ 8 + (maxL + 11) + rm.locals ≤ R.locals) (hn : as.length = n) (hsz : ls.size = nL) (hroom : (rest.map fun v => v.category).sum ≤ 8) (hdg : decode cc pc = .ok (.invokestatic index, 3)) (hf : cells + mc ≤ R.cells ∧ slots + ms ≤ R.slots) {st : List Value} (hst : st = as.reverse ++ rest) :
    vx_Run p l e R s mm args below meth c H locs cells slots mc ms (F0 mm pc ls st) rest (Qc as.toArray) XC (fA ad H.size) := by
  have V' := V
  obtain ⟨hx, hb, hml, hown, hts, hr, hlk, hK⟩ := V
  obtain ⟨y1, y2, y3, y4⟩ := hY
  refine vx_runS (As := as) (rest := rest) (nL := nL) ⟨hx, hb, hml, hown, hts⟩ hM (va_cwS n hts (fun w hw => ?_) rfl hrc hrs y4 hR) ⟨kPX_blind, fun U hU hW => ⟨rfl, (kH_pre (as := []) h V' U hU hW).2, kX_next hX h hU hW⟩⟩ rfl hn hsz hst (lv_room hroom) hdg hf
  rcases List.mem_append.mp hw with hw | hw
  · simp only [List.mem_cons, List.not_mem_nil, or_false] at hw
    rcases hw with rfl | rfl | rfl
    · exact ⟨w1, kWA_good _ w1⟩
    · exact ⟨y1, kWA_good _ y1⟩
    · exact ⟨y2, kWA_good _ y2⟩
  · exact kY_good y3 w hw
/-- a call of a void method that throws: on, or out -/
theorem kx_callv {E' : Nat → va_E} {code : Nat} {a : Array Value} {st : List Value} (h : kH s H locs D ad E X) (hr : vx_Run p l e R s mm args below meth c H locs cells slots mc ms (F0 mm pc ls st) rest (kXv code D cI cZ cO ad E' H.size a) (kXC code D cI cZ cO ad E' H.size) (fA ad H.size))
    (kx : code ≠ 0 → ∀ (En : String) (ce : Cell) (q9 : Addr) (H1 : Heap) (locs1 : List Loc), En = kEx code → kH s H1 locs1 D ad E' X → H1[q9]? = some ce → ce.vm = .none → s.vm.findClass En = some ce.cls → vx_W p l e R s mm args below meth c H1 locs1 (cells + mc) (slots + ms) Q (F0 mm pc ls rest) q9)
    (kk : code = 0 → ∀ (H1 : Heap) (locs1 : List Loc), kH s H1 locs1 D ad E' X → W p l e R s mm args below meth c H1 locs1 (cells + mc) (slots + ms) Q (F0 mm (pc + 3) ls rest)) : W p l e R s mm args below meth c H locs cells slots Q (F0 mm pc ls st) := by
  refine vx_callv hr h.2.2 (fun q _ h2 => fA_mono h.2.2.1 h2) (fun q h2 => fA_mono h.2.2.1 h2) (fun q _ h2 => fA_mono h.2.2.1 h2) (fun En ce q9 u t H1 locs1 ht hvm hp hB hz hk hS hcell hv hcl => ?_) (fun u t H1 locs1 ht hvm hp hB hz hk hS => ?_)
  · subst ht
    exact kx hp En ce q9 _ _ hB.1 (kH_join h hB.2.1 hB.2.2.2 hk hS) hcell hv hcl
  · subst ht
    exact kk hp _ _ (kH_join h hB.1 hB.2.2 hk hS)
theorem kx_calli {E' : Nat → va_E} {code : Nat} {r : Int32} {a : Array Value} {st : List Value} (h : kH s H locs D ad E X) (hr : vx_Run p l e R s mm args below meth c H locs cells slots mc ms (F0 mm pc ls st) rest (kXi code r D cI cZ cO ad E' H.size a) (kXC code D cI cZ cO ad E' H.size) (fA ad H.size))
    (kx : code ≠ 0 → ∀ (En : String) (ce : Cell) (q9 : Addr) (H1 : Heap) (locs1 : List Loc), En = kEx code → kH s H1 locs1 D ad E' X → H1[q9]? = some ce → ce.vm = .none → s.vm.findClass En = some ce.cls → vx_W p l e R s mm args below meth c H1 locs1 (cells + mc) (slots + ms) Q (F0 mm pc ls rest) q9)
    (kk : code = 0 → ∀ (H1 : Heap) (locs1 : List Loc), kH s H1 locs1 D ad E' X → W p l e R s mm args below meth c H1 locs1 (cells + mc) (slots + ms) Q (F0 mm (pc + 3) ls (.int r :: rest))) : W p l e R s mm args below meth c H locs cells slots Q (F0 mm pc ls st) := by
  refine vx_calli hr h.2.2 (fun q _ h2 => fA_mono h.2.2.1 h2) (fun q h2 => fA_mono h.2.2.1 h2) (fun q _ h2 => fA_mono h.2.2.1 h2) (fun En ce q9 u t H1 locs1 ht hvm hp hB hz hk hS hcell hv hcl => ?_) (fun r' u t H1 locs1 ht hvm hp hB hz hk hS => ?_)
  · subst ht
    exact kx hp En ce q9 _ _ hB.1 (kH_join h hB.2.1 hB.2.2.2 hk hS) hcell hv hcl
  · subst ht
    obtain ⟨h0, rfl⟩ := hp
    exact kk h0 _ _ (kH_join h hB.1 hB.2.2 hk hS)
/-- the contract of a method that throws, out of its walk -/
theorem kx_met {Qc : Nat → Array Value → State → Outcome → State → Prop} {XC : Nat → String → State → State → Prop} {lv : List (Nat × Value)} (hst : l.stackTraces = false) (hy : plainName y.cls = true) (hlen : (lg_sl as).length ≤ maxL) (hlv : lv_args 0 as = lv)
    (body : ∀ (p : Program) (e : Env) (s : State) (m : MethodId) (below : List Frame) (meth : Method) (c : Code) (ls : Array Slot), kV p s m as.toArray meth c bytes y.cls maxL rt D cI cZ cO → kVX l s ad c → kH s s.heap [] D ad E [] → lv_has ls maxL lv → W p l e rm s m as.toArray below meth c s.heap [] 0 0 (vx_MQ below (Qc s.heap.size) (XC s.heap.size) as.toArray s mc ms (fA ad s.heap.size)) (F0 m 0 ls [])) (sz : Nat) :
    vx_Met l y (Cond.code y bytes maxL rt :: kWA) rm (kPX as D cI cZ cO ad E sz) (Qc sz) (XC sz) mc ms (fA ad sz) := by
  refine vx_ofW (cc := bytes) (maxL := maxL) (ret := rt) hy rfl ?_
  intro p e s m args below meth c s₁ B hml hnt hv
  obtain ⟨rfl, ⟨hsz, hP, hK, hD0⟩, hX⟩ := hv
  have hx := B.exec
  have hb := B.bytes
  have hr := B.returns
  have hts := atoms_spec (ws := Cond.code y bytes maxL rt :: kWA) B.pre
  have hown : s.vm.findClass y.cls = some m.cls := findClass_of_methodNamed B.named
  have hlocks := B.notSynchronized
  subst hsz
  have hl := lv_entry as (n := maxL) hlen
  rw [lg_entry_eq]
  rw [hlv] at hl
  have hD := hD0.self (sz := s.heap.size)
  rw [fA_eq] at hD
  refine body p e s m below meth c _ ⟨hx, hb, hml, hown, fun w hw => hts w (List.mem_cons_of_mem _ hw), hr, hlocks, hK⟩ ⟨hst, hX, hnt⟩ ⟨?_, ?_, va_S.rf⟩ hl
  · rw [List.append_nil]; exact hP
  · rw [List.append_nil]; exact hD
end KXR
