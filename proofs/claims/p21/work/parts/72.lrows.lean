/-! THE LAW'S METHODS: the class's object and the law's own world, side by side -/
def kHA (A : Nat → Prop) (s : State) (H : Heap) (locs : List Loc) (D : va_G) (ad : Nat → Nat) (e : Nat → va_E) (X : va_W) : Prop := va_P D vwCl (kC ad e ++ X) H ∧ va_D A (kC ad e ++ X) ∧ va_S A s.heap H locs
theorem kXA_next {A B : Nat → Prop} {s U : State} {H : Heap} {locs : List Loc} (h : kXA A s s.heap) (hS : va_S A s.heap H locs) (hU : U.heap = H) (hW : s.WarmedH U.vm) (hBA : ∀ q, B q → A q) : kXA B U U.heap := by
  obtain ⟨h1, h2, h3, h4⟩ := h
  subst hU
  refine ⟨kNw_warm hW h1, fun q hq => ?_, (vx_Zq.moved hW.alike (h3.kept hS.2.1)).narrow hBA, (vx_Zq.moved hW.alike (h4.kept hS.2.1)).narrow hBA⟩
  obtain ⟨sa, hs⟩ := h2 q hq
  exact ⟨sa, hs.warm hW⟩
theorem kXA_calling {A : Nat → Prop} {U : State} {g : JFrame} {mk : MethodId} {a : Array Value} (h : kXA A U U.heap) : kXA A (U.calling g mk a) (U.calling g mk a).heap := by
  obtain ⟨h1, h2, h3, h4⟩ := h
  refine ⟨fun w hw => va_Nw.same (u := U) (U := U.calling g mk a) (kNw_tabs w hw) rfl (h1 w hw), fun q hq => ?_, ?_, ?_⟩
  · obtain ⟨sa, hs⟩ := h2 q hq
    exact ⟨sa, vk_R.same (u := U) (U := U.calling g mk a) rfl hs⟩
  · exact vx_Zq.moved (U := U.calling g mk a) (Vm.Alike.refl U.vm) h3
  · exact vx_Zq.moved (U := U.calling g mk a) (Vm.Alike.refl U.vm) h4
section LR
variable {p : Program} {l : Launch} {e : Env} {R : Room} {s : State} {m : MethodId} {args : Array Value} {below : List Frame} {meth : Method} {c : Code} {H : Heap} {locs : List Loc} {cells slots : Nat} {Q : State → Prop} {A : Nat → Prop}
variable {cc : ByteArray} {own : String} {nL : Nat} {ret : Option FieldType} {D : va_G} {cI cZ cO cL : ClassId} {ad : Nat → Nat} {E E' : Nat → va_E} {X : va_W} {pc xo : Nat} {ls : Array Slot} {rest : List Value} {mc ms : Nat} {f : Nat → Int64}
theorem kHA_fA (h : kHA A s H locs D ad E X) (hA : ∀ q, s.heap.size ≤ q → A q) : ∀ q, fA ad H.size q → A q := by
  rintro q (⟨pl, hp, rfl⟩ | hq)
  · exact h.2.1.2 (kIx pl) (ad pl, E pl) (kC_get hp)
  · exact hA q (Nat.le_trans h.2.2.1 hq)
theorem kHA_join (h : kHA A s H locs D ad E X) (hA : ∀ q, s.heap.size ≤ q → A q) {H1 : Heap} {locs1 : List Loc} (hP1 : va_P D vwCl (kC ad E') H1) (hD1 : va_D (fA ad H.size) (kC ad E')) (hk : ∀ q : Nat, q < H.size → ¬ fA ad H.size q → H1[q]? = H[q]?) (hS : va_S A s.heap H1 locs1) : kHA A s H1 locs1 D ad E' X := by
  obtain ⟨hP, hD⟩ := va_join (ws := kC ad E ++ X) (wc := kC ad E) (wr := X) (w1 := kC ad E') h.1 h.2.1 (List.range 101) ((List.range X.length).map (101 + ·)) (kC_is ad E X) (kX_is ad E X) (kX_nd _) (fun i hi hi2 => by
      obtain ⟨j, -, rfl⟩ := List.mem_map.mp hi
      have := List.mem_range.mp hi2
      omega)
    (fun q h1 h2 => hk q h1 (fun h3 => h2 ((fA_va ad E H.size q).mpr h3))) (fun q hq => kHA_fA h hA q ((fA_va ad E H.size q).mp hq)) hP1 (by rw [fA_eq]; exact hD1)
  have hP2 := va_P.swap (a := []) (b := X) (c := kC ad E') hP
  have hD2 := va_D.swap (a := []) (b := X) (c := kC ad E') hD
  exact ⟨hP2, hD2, hS⟩
theorem kHA_pre (h : kHA A s H locs D ad E X) (hK : va_K D vwCl (kT cI cZ cO) s) {as : List Value} : ∀ U : State, U.heap = H → s.WarmedH U.vm → kP as D cI cZ cO ad E H.size as.toArray U := by
  intro U hU hW
  refine ⟨rfl, by rw [hU], ?_, va_K.moved hW.alike hK, ?_⟩
  · rw [hU]
    exact h.1.by id (fun k q hk => kC_left hk)
  · exact (h.2.1.by id (fun k q hk => kC_left hk) (fun i j _ _ e => e)).weaken (fun _ _ _ _ => trivial)
variable {y : MethodName} {bytes : ByteArray} {maxL n index : Nat} {rt : Option FieldType} {rm : Room} {as : List Value} {C : String}
theorem lr_runV {Pc : Array Value → State → Prop} {Qc : Array Value → State → Outcome → State → Prop} {pl : Nat} (V : kV p s m args meth c cc own nL ret D cI cZ cO) (h : kHA A s H locs D ad E X) (hY : kY C y bytes maxL rt n) (w1 : Cond.methodLink own index y ∈ kWA)
    (hM : Met l y (Cond.code y bytes maxL rt :: kWA) rm Pc Qc mc ms (fA ad H.size)) (hbl : FrameBlind Pc) (hpre : ∀ U : State, U.heap = H → s.WarmedH U.vm → Pc (Value.ref (ad pl) :: as).toArray U)
    (hrc : rm.cells = mc) (hrs : rm.slots = ms) (hR : rm.frames + 1 ≤ R.frames ∧ 8 + (maxL + 11) + rm.locals ≤ R.locals) (hpl : kOK pl) {ci : Nat} {fs : List Value} (he : E pl = .inr (ci, fs)) {T : u_T} {N : Nat} (hc : vwCl[ci]? = some (C, T, N)) (hn : as.length = n) (hsz : ls.size = nL) (hroom : (rest.map fun v => v.category).sum ≤ 8) (hdg : decode cc pc = .ok (.invokevirtual index, 3)) (hf : cells + mc ≤ R.cells ∧ slots + ms ≤ R.slots) {st : List Value} (hst : st = as.reverse ++ .ref (ad pl) :: rest) :
    va_Run p l e R s m args below meth c H locs cells slots mc ms (F0 m pc ls st) rest (Qc (Value.ref (ad pl) :: as).toArray) (fA ad H.size) := by
  obtain ⟨hx, hb, hml, hown, hts, hr, hlk, hK⟩ := V
  obtain ⟨y1, y2, y3, y4, y5⟩ := hY
  refine va_runV (As := as) (rest := rest) (C := C) (b := ad pl) (nL := nL) ⟨hx, hb, hml, hown, hts⟩ hM (cwV n hts (fun w hw => ?_) rfl hrc hrs y5 hR) ⟨hbl, va_recv hK h.1 (ci := ci) (q0 := kIx pl) hc (by rw [kC_get hpl, he]), hpre⟩ rfl hn hsz hst (lv_room hroom) hdg hf
  rcases List.mem_append.mp hw with hw | hw
  · simp only [List.mem_cons, List.not_mem_nil, or_false] at hw
    rcases hw with rfl | rfl | rfl | rfl
    · exact ⟨w1, kWA_good _ w1⟩
    · exact ⟨y1, kWA_good _ y1⟩
    · exact ⟨y2, kWA_good _ y2⟩
    · exact ⟨y3, kWA_good _ y3⟩
  · exact kY_good y4 w hw
theorem lr_runX {Pc : Array Value → State → Prop} {Qc : Array Value → State → Outcome → State → Prop} {XC : String → State → State → Prop} {pl : Nat} (V : kV p s m args meth c cc own nL ret D cI cZ cO) (h : kHA A s H locs D ad E X) (hY : kY C y bytes maxL rt n) (w1 : Cond.methodLink own index y ∈ kWA)
    (hM : vx_Met l y (Cond.code y bytes maxL rt :: kWA) rm Pc Qc XC mc ms (fA ad H.size)) (hbl : FrameBlind Pc) (hpre : ∀ U : State, U.heap = H → s.WarmedH U.vm → Pc (Value.ref (ad pl) :: as).toArray U)
    (hrc : rm.cells = mc) (hrs : rm.slots = ms) (hR : rm.frames + 1 ≤ R.frames ∧ 8 + (maxL + 11) + rm.locals ≤ R.locals) (hpl : kOK pl) {ci : Nat} {fs : List Value} (he : E pl = .inr (ci, fs)) {T : u_T} {N : Nat} (hc : vwCl[ci]? = some (C, T, N)) (hn : as.length = n) (hsz : ls.size = nL) (hroom : (rest.map fun v => v.category).sum ≤ 8) (hdg : decode cc pc = .ok (.invokevirtual index, 3)) (hf : cells + mc ≤ R.cells ∧ slots + ms ≤ R.slots) {st : List Value} (hst : st = as.reverse ++ .ref (ad pl) :: rest) :
    vx_Run p l e R s m args below meth c H locs cells slots mc ms (F0 m pc ls st) rest (Qc (Value.ref (ad pl) :: as).toArray) XC (fA ad H.size) := by
  obtain ⟨hx, hb, hml, hown, hts, hr, hlk, hK⟩ := V
  obtain ⟨y1, y2, y3, y4, y5⟩ := hY
  refine vx_runV (As := as) (rest := rest) (C := C) (b := ad pl) (nL := nL) ⟨hx, hb, hml, hown, hts⟩ hM (cwV n hts (fun w hw => ?_) rfl hrc hrs y5 hR) ⟨hbl, va_recv hK h.1 (ci := ci) (q0 := kIx pl) hc (by rw [kC_get hpl, he]), hpre⟩ rfl hn hsz hst (lv_room hroom) hdg hf
  rcases List.mem_append.mp hw with hw | hw
  · simp only [List.mem_cons, List.not_mem_nil, or_false] at hw
    rcases hw with rfl | rfl | rfl | rfl
    · exact ⟨w1, kWA_good _ w1⟩
    · exact ⟨y1, kWA_good _ y1⟩
    · exact ⟨y2, kWA_good _ y2⟩
    · exact ⟨y3, kWA_good _ y3⟩
  · exact kY_good y4 w hw
theorem lr_calli {r : Int32} {a : Array Value} {st : List Value} (h : kHA A s H locs D ad E X) (hA : ∀ q, s.heap.size ≤ q → A q) (hr : va_Run p l e R s m args below meth c H locs cells slots mc ms (F0 m pc ls st) rest (kQi r D cI cZ cO ad E' H.size a) (fA ad H.size)) (kk : ∀ (H1 : Heap) (locs1 : List Loc), kHA A s H1 locs1 D ad E' X → W p l e R s m args below meth c H1 locs1 (cells + mc) (slots + ms) Q (F0 m (pc + 3) ls (.int r :: rest))) : W p l e R s m args below meth c H locs cells slots Q (F0 m pc ls st) := by
  refine va_calli hr h.2.2 (fun q _ h2 => kHA_fA h hA q h2) (kHA_fA h hA) (fun r' u t H1 locs1 ht hvm hp hB hz hk hS => ?_)
  subst hp
  rw [← ht] at hk hS ⊢
  exact kk _ _ (kHA_join h hA hB.1 hB.2.2 hk hS)
theorem lr_calld {r : UInt64} {a : Array Value} {st : List Value} (h : kHA A s H locs D ad E X) (hA : ∀ q, s.heap.size ≤ q → A q) (hr : va_Run p l e R s m args below meth c H locs cells slots mc ms (F0 m pc ls st) rest (kQd r D cI cZ cO ad E' H.size a) (fA ad H.size)) (kk : ∀ (H1 : Heap) (locs1 : List Loc), kHA A s H1 locs1 D ad E' X → W p l e R s m args below meth c H1 locs1 (cells + mc) (slots + ms) Q (F0 m (pc + 3) ls (.double r :: rest))) : W p l e R s m args below meth c H locs cells slots Q (F0 m pc ls st) := by
  refine va_calld hr h.2.2 (fun q _ h2 => kHA_fA h hA q h2) (kHA_fA h hA) (fun r' u t H1 locs1 ht hvm hp hB hz hk hS => ?_)
  subst hp
  rw [← ht] at hk hS ⊢
  exact kk _ _ (kHA_join h hA hB.1 hB.2.2 hk hS)
theorem lr_callx {code : Nat} {r : Int32} {a : Array Value} {st : List Value} (h : kHA A s H locs D ad E X) (hA : ∀ q, s.heap.size ≤ q → A q) (hr : vx_Run p l e R s m args below meth c H locs cells slots mc ms (F0 m pc ls st) rest (kXi code r D cI cZ cO ad E' H.size a) (kXC code D cI cZ cO ad E' H.size) (fA ad H.size))
    (kx : code ≠ 0 → ∀ (En : String) (ce : Cell) (q9 : Addr) (H1 : Heap) (locs1 : List Loc), En = kEx code → kHA A s H1 locs1 D ad E' X → H1[q9]? = some ce → ce.vm = .none → s.vm.findClass En = some ce.cls → vx_W p l e R s m args below meth c H1 locs1 (cells + mc) (slots + ms) Q (F0 m pc ls rest) q9)
    (kk : code = 0 → ∀ (H1 : Heap) (locs1 : List Loc), kHA A s H1 locs1 D ad E' X → W p l e R s m args below meth c H1 locs1 (cells + mc) (slots + ms) Q (F0 m (pc + 3) ls (.int r :: rest))) : W p l e R s m args below meth c H locs cells slots Q (F0 m pc ls st) := by
  refine vx_calli hr h.2.2 (fun q _ h2 => kHA_fA h hA q h2) (kHA_fA h hA) (fun q _ h2 => kHA_fA h hA q h2) (fun En ce q9 u t H1 locs1 ht hvm hp hB hz hk hS hcell hv hcl => ?_) (fun r' u t H1 locs1 ht hvm hp hB hz hk hS => ?_)
  · subst ht
    exact kx hp En ce q9 _ _ hB.1 (kHA_join h hA hB.2.1 hB.2.2.2 hk hS) hcell hv hcl
  · subst ht
    obtain ⟨h0, rfl⟩ := hp
    exact kk h0 _ _ (kHA_join h hA hB.1 hB.2.2 hk hS)
end LR
abbrev jY (adk : Nat → Nat) (g : Nat → ClassId) (k mo : kS) : va_W := kC adk (kE adk (g 0) (g 1) (g 2) k mo)
/-- what else stays while one of the law's methods runs -/
def jLX (l : Launch) (A : Nat → Prop) (s : State) : Prop := l.stackTraces = false ∧ kXA A s s.heap
def jLP (as : List Value) (D : va_G) (g : Nat → ClassId) (adk : Nat → Nat) (k mo : kS) (ad : Nat → Nat) (z : kS) (sz : Nat) : Array Value → State → Prop :=
  va_Pc as (fun U => (U.heap.size = sz ∧ va_P D vwCl (jY adk g k mo ++ jC g ad z) U.heap ∧ va_K D vwCl (jT g) U ∧ va_D (fun _ => True) (jY adk g k mo ++ jC g ad z)) ∧ jX U ∧ kXA (va_A (jY adk g k mo ++ jC g ad z) U.heap.size) U U.heap)
theorem jLP_blind {as : List Value} {D : va_G} {g : Nat → ClassId} {adk : Nat → Nat} {k mo : kS} {ad : Nat → Nat} {z : kS} {sz : Nat} : FrameBlind (jLP as D g adk k mo ad z sz) := fun a U g2 mk q => by
  obtain ⟨q0, ⟨q1, qP, qK, qD⟩, qX, qN⟩ := q
  exact ⟨q0, ⟨q1, qP, va_K.moved (u := U) (U := U.calling g2 mk a) (Vm.Alike.refl U.vm) qK, qD⟩, qX.calling, kXA_calling qN⟩
def jLEnd (D : va_G) (g : Nat → ClassId) (A : Nat → Prop) (adk : Nat → Nat) (k mo z : kS) : (Nat → Nat) → State → Prop := fun ad t =>
  va_P D vwCl (jY adk g k mo ++ jC g ad z) t.heap ∧ va_K D vwCl (jT g) t ∧ va_D A (jY adk g k mo ++ jC g ad z)
abbrev jLQi (r : Int32) (G : (Nat → Nat) → Prop) (D : va_G) (g : Nat → ClassId) (A : Nat → Prop) (adk : Nat → Nat) (k mo z : kS) := va_Qi (fun (r' : Int32) (ad : Nat → Nat) => r' = r ∧ G ad) (jLEnd D g A adk k mo z) A
/-- the answer is Sim -/
abbrev jLQs (D : va_G) (g : Nat → ClassId) (A : Nat → Prop) (adk : Nat → Nat) (k mo z : kS) := va_Qr (fun (_ : Nat → Nat) => True) (fun (ad : Nat → Nat) (a : Nat) (t : State) => a = ad 0 ∧ jLEnd D g A adk k mo z ad t) A
abbrev jLGi (below : List Frame) (args : Array Value) (s : State) (D : va_G) (g : Nat → ClassId) (A : Nat → Prop) (G : (Nat → Nat) → Prop) (r : Int32) (adk : Nat → Nat) (k mo z : kS) (mc ms : Nat) : State → Prop := MQ below (jLQi r G D g A adk k mo z) args s mc ms A
abbrev jLGs (below : List Frame) (args : Array Value) (s : State) (D : va_G) (g : Nat → ClassId) (A : Nat → Prop) (adk : Nat → Nat) (k mo z : kS) (mc ms : Nat) : State → Prop := MQ below (jLQs D g A adk k mo z) args s mc ms A
section JL
variable {p : Program} {l : Launch} {e : Env} {R : Room} {s : State} {m : MethodId} {args : Array Value} {below : List Frame} {meth : Method} {c : Code} {H : Heap} {locs : List Loc} {cells slots : Nat} {Q : State → Prop} {A : Nat → Prop}
variable {cc : ByteArray} {own : String} {nL : Nat} {ret : Option FieldType} {D : va_G} {g : Nat → ClassId} {adk ad : Nat → Nat} {k k2 mo z z2 : kS} {X : va_W} {pc : Nat} {ls : Array Slot} {rest : List Value} {mc ms : Nat} {G : (Nat → Nat) → Prop}
theorem jl_perm {x : va_W} : (jY adk g k mo ++ (jC g ad z ++ x)).Perm ((jY adk g k mo ++ jC g ad z) ++ x) := by rw [List.append_assoc]
theorem jl_preX (h : jH A s H locs D g ad z (jY adk g k mo) X) (hA : ∀ q, s.heap.size ≤ q → A q) (hK : va_K D vwCl (kT (g 0) (g 1) (g 2)) s) (LX : jLX l A s) {as : List Value} : ∀ U : State, U.heap = H → s.WarmedH U.vm → kPX as D (g 0) (g 1) (g 2) adk (kE adk (g 0) (g 1) (g 2) k mo) H.size as.toArray U := by
  intro U hU hW
  have h2 : kHA A s H locs D adk (kE adk (g 0) (g 1) (g 2) k mo) (jC g ad z ++ X) := h
  refine ⟨rfl, (kHA_pre h2 hK (as := as) U hU hW).2, ?_⟩
  exact kXA_next LX.2 h.2.2 hU hW (fun q hq => kHA_fA h2 hA q (by rw [← hU]; exact hq))
variable {y : MethodName} {bytes : ByteArray} {maxL n index : Nat} {rt : Option FieldType} {rm : Room} {as : List Value}
/-- a call of the class that may throw, but doesn't -/
theorem jc_callx {code : Nat} {r : Int32} {st : List Value} (V : jV p s m args meth c cc own nL ret D g) (hA : ∀ q, s.heap.size ≤ q → A q) (LX : jLX l A s) (h : jH A s H locs D g ad z (jY adk g k mo) X) (hY : kY RX5 y bytes maxL rt n) (w1 : Cond.methodLink own index y ∈ kWA)
    (hM : vx_Met l y (Cond.code y bytes maxL rt :: kWA) rm (kPX (.ref (adk 0) :: as) D (g 0) (g 1) (g 2) adk (kE adk (g 0) (g 1) (g 2) k mo) H.size) (kXi code r D (g 0) (g 1) (g 2) adk (kE adk (g 0) (g 1) (g 2) k2 mo) H.size) (kXC code D (g 0) (g 1) (g 2) adk (kE adk (g 0) (g 1) (g 2) k2 mo) H.size) mc ms (fA adk H.size)) (h0 : code = 0)
    (hrc : rm.cells = mc) (hrs : rm.slots = ms) (hR : rm.frames + 1 ≤ R.frames ∧ 8 + (maxL + 11) + rm.locals ≤ R.locals) (hn : as.length = n) (hsz : ls.size = nL) (hroom : rest.length ≤ 4) (hdg : decode cc pc = .ok (.invokevirtual index, 3)) (hf : cells + mc ≤ R.cells ∧ slots + ms ≤ R.slots) (hst : st = as.reverse ++ .ref (adk 0) :: rest)
    (kk : ∀ (H1 : Heap) (locs1 : List Loc), jH A s H1 locs1 D g ad z (jY adk g k2 mo) X → W p l e R s m args below meth c H1 locs1 (cells + mc) (slots + ms) Q (F0 m (pc + 3) ls (.int r :: rest))) : W p l e R s m args below meth c H locs cells slots Q (F0 m pc ls st) := by
  have h2 : kHA A s H locs D adk (kE adk (g 0) (g 1) (g 2) k mo) (jC g ad z ++ X) := h
  have hK := V.k.2.2.2.2.2.2.2
  refine lr_callx h2 hA (lr_runX (pl := 0) V.k h2 hY w1 hM kPX_blind (jl_preX h hA hK LX) hrc hrs hR (by decide) (ci := 5) kE_0 rfl hn hsz (jroom hroom) hdg hf hst) (fun hc => absurd h0 hc) (fun _ H1 locs1 h3 => kk H1 locs1 h3)
/-- mean -/
theorem jc_calld {r : UInt64} {st : List Value} (V : jV p s m args meth c cc own nL ret D g) (hA : ∀ q, s.heap.size ≤ q → A q) (h : jH A s H locs D g ad z (jY adk g k mo) X) (hY : kY RX5 y bytes maxL rt n) (w1 : Cond.methodLink own index y ∈ kWA)
    (hM : Met l y (Cond.code y bytes maxL rt :: kWA) rm (kP (.ref (adk 0) :: as) D (g 0) (g 1) (g 2) adk (kE adk (g 0) (g 1) (g 2) k mo) H.size) (kQd r D (g 0) (g 1) (g 2) adk (kE adk (g 0) (g 1) (g 2) k2 mo) H.size) mc ms (fA adk H.size))
    (hrc : rm.cells = mc) (hrs : rm.slots = ms) (hR : rm.frames + 1 ≤ R.frames ∧ 8 + (maxL + 11) + rm.locals ≤ R.locals) (hn : as.length = n) (hsz : ls.size = nL) (hroom : rest.length ≤ 4) (hdg : decode cc pc = .ok (.invokevirtual index, 3)) (hf : cells + mc ≤ R.cells ∧ slots + ms ≤ R.slots) (hst : st = as.reverse ++ .ref (adk 0) :: rest)
    (kk : ∀ (H1 : Heap) (locs1 : List Loc), jH A s H1 locs1 D g ad z (jY adk g k2 mo) X → W p l e R s m args below meth c H1 locs1 (cells + mc) (slots + ms) Q (F0 m (pc + 3) ls (.double r :: rest))) : W p l e R s m args below meth c H locs cells slots Q (F0 m pc ls st) := by
  have h2 : kHA A s H locs D adk (kE adk (g 0) (g 1) (g 2) k mo) (jC g ad z ++ X) := h
  have hK := V.k.2.2.2.2.2.2.2
  exact lr_calld h2 hA (lr_runV (pl := 0) V.k h2 hY w1 hM kP_blind (kHA_pre h2 hK) hrc hrs hR (by decide) (ci := 5) kE_0 rfl hn hsz (jroom hroom) hdg hf hst) (fun H1 locs1 h3 => kk H1 locs1 h3)
/-! calls of the law's own methods -/
theorem jLP_pre (h : jH A s H locs D g ad z (jY adk g k mo) X) (hA : ∀ q, s.heap.size ≤ q → A q) (V : jV p s m args meth c cc own nL ret D g) (LX : jLX l A s) {as : List Value} : ∀ U : State, U.heap = H → s.WarmedH U.vm → jLP as D g adk k mo ad z H.size as.toArray U := by
  intro U hU hW
  obtain ⟨hx, hb, hml, hown, hts, hr, hlk, hK, hJ⟩ := V
  refine ⟨rfl, ⟨by rw [hU], ?_, va_K.moved hW.alike hK, ?_⟩, hJ.warm hW, ?_⟩
  · rw [hU]
    exact va_P_take h.1 jl_perm
  · exact (va_D_take h.2.1 jl_perm).weaken (fun _ _ _ _ => trivial)
  · refine kXA_next LX.2 h.2.2 hU hW (fun q hq => ?_)
    rcases hq with ⟨i, x, hi⟩ | hq
    · exact (va_D_take h.2.1 jl_perm).2 i (q, x) hi
    · exact hA q (by rw [hU] at hq; exact Nat.le_trans h.2.2.1 hq)
theorem jl_free (h : jH A s H locs D g ad z (jY adk g k mo) X) (hA : ∀ q, s.heap.size ≤ q → A q) : ∀ q, va_A (jY adk g k mo ++ jC g ad z) H.size q → A q := by
  rintro q (⟨i, x, hi⟩ | hq)
  · exact (va_D_take h.2.1 jl_perm).2 i (q, x) hi
  · exact hA q (Nat.le_trans h.2.2.1 hq)
theorem jl_back (h : jH A s H locs D g ad z (jY adk g k mo) X) (hA : ∀ q, s.heap.size ≤ q → A q) {ad2 : Nat → Nat} {H1 : Heap} {locs1 : List Loc} (hP1 : va_P D vwCl (jY adk g k2 mo ++ jC g ad2 z2) H1) (hD1 : va_D (va_A (jY adk g k mo ++ jC g ad z) H.size) (jY adk g k2 mo ++ jC g ad2 z2)) (hk : ∀ q : Nat, q < H.size → ¬ va_A (jY adk g k mo ++ jC g ad z) H.size q → H1[q]? = H[q]?) (hS : va_S A s.heap H1 locs1) : jH A s H1 locs1 D g ad2 z2 (jY adk g k2 mo) X := by
  obtain ⟨hP, hD⟩ := va_join (ws := (jY adk g k mo ++ jC g ad z) ++ X) (wc := jY adk g k mo ++ jC g ad z) (wr := X) (w1 := jY adk g k2 mo ++ jC g ad2 z2) (va_P_perm h.1 jl_perm) (va_D_perm h.2.1 jl_perm) (List.range (jY adk g k mo ++ jC g ad z).length) ((List.range X.length).map ((jY adk g k mo ++ jC g ad z).length + ·)) (jis_l _ _) (jis_r _ _) (jis_nd _ _) (fun i hi hi2 => by
      obtain ⟨j, -, rfl⟩ := List.mem_map.mp hi
      have := List.mem_range.mp hi2
      omega) hk (jl_free h hA) hP1 hD1
  have pp : (X ++ (jY adk g k2 mo ++ jC g ad2 z2)).Perm (jY adk g k2 mo ++ (jC g ad2 z2 ++ X)) := by
    rw [← List.append_assoc (as := jY adk g k2 mo)]
    exact List.perm_append_comm
  exact ⟨va_P_perm hP pp, va_D_perm hD pp, hS⟩
theorem jl_runS {Qc : Array Value → State → Outcome → State → Prop} (V : jV p s m args meth c cc own nL ret D g) (hA : ∀ q, s.heap.size ≤ q → A q) (LX : jLX l A s) (h : jH A s H locs D g ad z (jY adk g k mo) X) (hY : kYs y bytes maxL rt n) (w1 : Cond.methodLink own index y ∈ kWA)
    (hM : Met l y (Cond.code y bytes maxL rt :: kWA) rm (jLP as D g adk k mo ad z H.size) Qc mc ms (va_A (jY adk g k mo ++ jC g ad z) H.size))
    (hrc : rm.cells = mc) (hrs : rm.slots = ms) (hR : rm.frames + 1 ≤ R.frames ∧ 8 + (maxL + 11) + rm.locals ≤ R.locals) (hn : as.length = n) (hsz : ls.size = nL) (hroom : rest.length ≤ 4) (hdg : decode cc pc = .ok (.invokestatic index, 3)) (hf : cells + mc ≤ R.cells ∧ slots + ms ≤ R.slots) {st : List Value} (hst : st = as.reverse ++ rest) :
    va_Run p l e R s m args below meth c H locs cells slots mc ms (F0 m pc ls st) rest (Qc as.toArray) (va_A (jY adk g k mo ++ jC g ad z) H.size) := by
  have V' := V
  obtain ⟨hx, hb, hml, hown, hts, hr, hlk, hK, hJ⟩ := V
  obtain ⟨y1, y2, y3, y4⟩ := hY
  refine va_runS (As := as) (rest := rest) (nL := nL) ⟨hx, hb, hml, hown, hts⟩ hM (va_cwS n hts (fun w hw => ?_) rfl hrc hrs y4 hR) ⟨jLP_blind, fun U hU hW => jLP_pre h hA V' LX U hU hW⟩ rfl hn hsz hst (lv_room (jroom hroom)) hdg hf
  rcases List.mem_append.mp hw with hw | hw
  · simp only [List.mem_cons, List.not_mem_nil, or_false] at hw
    rcases hw with rfl | rfl | rfl
    · exact ⟨w1, kWA_good _ w1⟩
    · exact ⟨y1, kWA_good _ y1⟩
    · exact ⟨y2, kWA_good _ y2⟩
  · exact kY_good y3 w hw
theorem jl_runV {Qc : Array Value → State → Outcome → State → Prop} (V : jV p s m args meth c cc own nL ret D g) (hA : ∀ q, s.heap.size ≤ q → A q) (LX : jLX l A s) (h : jH A s H locs D g ad z (jY adk g k mo) X) (hY : kY RX8 y bytes maxL rt n) (w1 : Cond.methodLink own index y ∈ kWA)
    (hM : Met l y (Cond.code y bytes maxL rt :: kWA) rm (jLP (.ref (ad 0) :: as) D g adk k mo ad z H.size) Qc mc ms (va_A (jY adk g k mo ++ jC g ad z) H.size))
    (hrc : rm.cells = mc) (hrs : rm.slots = ms) (hR : rm.frames + 1 ≤ R.frames ∧ 8 + (maxL + 11) + rm.locals ≤ R.locals) (hn : as.length = n) (hsz : ls.size = nL) (hroom : rest.length ≤ 4) (hdg : decode cc pc = .ok (.invokevirtual index, 3)) (hf : cells + mc ≤ R.cells ∧ slots + ms ≤ R.slots) {st : List Value} (hst : st = as.reverse ++ .ref (ad 0) :: rest) :
    va_Run p l e R s m args below meth c H locs cells slots mc ms (F0 m pc ls st) rest (Qc (Value.ref (ad 0) :: as).toArray) (va_A (jY adk g k mo ++ jC g ad z) H.size) := by
  have V' := V
  obtain ⟨hx, hb, hml, hown, hts, hr, hlk, hK, hJ⟩ := V
  obtain ⟨y1, y2, y3, y4, y5⟩ := hY
  obtain ⟨i, hi, -⟩ := jC_at (g := g) (ad := ad) (jPl_0 (z := z)) (jY adk g k mo) X
  rw [jE_0] at hi
  refine va_runV (As := as) (rest := rest) (C := RX8) (b := ad 0) (nL := nL) ⟨hx, hb, hml, hown, hts⟩ hM (cwV n hts (fun w hw => ?_) rfl hrc hrs y5 hR) ⟨jLP_blind, va_recv (q := (RX8, TX8, 3)) hK h.1 (ci := 8) (q0 := i) rfl hi, fun U hU hW => jLP_pre h hA V' LX U hU hW⟩ rfl hn hsz hst (lv_room (jroom hroom)) hdg hf
  rcases List.mem_append.mp hw with hw | hw
  · simp only [List.mem_cons, List.not_mem_nil, or_false] at hw
    rcases hw with rfl | rfl | rfl | rfl
    · exact ⟨w1, kWA_good _ w1⟩
    · exact ⟨y1, kWA_good _ y1⟩
    · exact ⟨y2, kWA_good _ y2⟩
    · exact ⟨y3, kWA_good _ y3⟩
  · exact kY_good y4 w hw
theorem jl_calli {r : Int32} {a : Array Value} {st : List Value} (hA : ∀ q, s.heap.size ≤ q → A q) (h : jH A s H locs D g ad z (jY adk g k mo) X) (hr : va_Run p l e R s m args below meth c H locs cells slots mc ms (F0 m pc ls st) rest (jLQi r G D g (va_A (jY adk g k mo ++ jC g ad z) H.size) adk k2 mo z2 a) (va_A (jY adk g k mo ++ jC g ad z) H.size)) (kk : ∀ (ad2 : Nat → Nat) (H1 : Heap) (locs1 : List Loc), G ad2 → jH A s H1 locs1 D g ad2 z2 (jY adk g k2 mo) X → W p l e R s m args below meth c H1 locs1 (cells + mc) (slots + ms) Q (F0 m (pc + 3) ls (.int r :: rest))) : W p l e R s m args below meth c H locs cells slots Q (F0 m pc ls st) := by
  refine va_calli hr h.2.2 (fun q _ h2 => jl_free h hA q h2) (jl_free h hA) (fun r' u t H1 locs1 ht hvm hp hB hz hk hS => ?_)
  obtain ⟨rfl, hG⟩ := hp
  obtain ⟨h1, h2, h3⟩ := hB
  rw [ht] at h1
  exact kk u _ _ hG (jl_back h hA h1 h3 hk hS)
theorem jl_calliR {r : Int32} {a : Array Value} {st : List Value} (hA : ∀ q, s.heap.size ≤ q → A q) (h : jH A s H locs D g ad z (jY adk g k mo) X) (hr : va_Run p l e R s m args below meth c H locs cells slots mc ms (F0 m pc ls st) rest (jLQi r (fun a => a = ad) D g (va_A (jY adk g k mo ++ jC g ad z) H.size) adk k2 mo z2 a) (va_A (jY adk g k mo ++ jC g ad z) H.size)) (kk : ∀ (H1 : Heap) (locs1 : List Loc), jH A s H1 locs1 D g ad z2 (jY adk g k2 mo) X → W p l e R s m args below meth c H1 locs1 (cells + mc) (slots + ms) Q (F0 m (pc + 3) ls (.int r :: rest))) : W p l e R s m args below meth c H locs cells slots Q (F0 m pc ls st) :=
  jl_calli hA h hr (fun ad2 H1 locs1 hG h2 => kk H1 locs1 (by rw [hG] at h2; exact h2))
/-! ends -/
theorem jLEnd_of (V : jV p s m args meth c cc own nL ret D g) (h : jH A s H locs D g ad z (jY adk g k mo) X) {t : State} (ht : t.heap = H) (hW : s.WarmedH t.vm) : jLEnd D g A adk k mo z ad t := by
  refine ⟨?_, va_K.moved hW.alike V.2.2.2.2.2.2.2.1, ?_⟩
  · rw [ht]
    exact va_P_take h.1 jl_perm
  · exact va_D_take h.2.1 jl_perm
theorem jl_zret (V : jV p s m args meth c cc own nL (some .boolean) D g) (hG : G ad) (h : jH A s H locs D g ad z (jY adk g k mo) X) {r : Int32} (hr : r = 0 ∨ r = 1) (hdg : decode cc pc = .ok (.ireturn, 1)) : W p l e R s m args below meth c H locs cells slots (MQ below (jLQi r G D g A adk k mo z) args s cells slots A) (F0 m pc ls [.int r]) :=
  W.zret (v := r) V.1 V.2.1 V.2.2.2.2.2.1 (by rcases hr with rfl | rfl <;> rfl) (fun t ht hW => ⟨⟨r, ad, rfl, ⟨rfl, hG⟩, jLEnd_of V h ht hW⟩, h.2.2.F ht⟩) h.2.2.2.2 hdg V.2.2.2.2.2.2.1
theorem jl_sret {n : String} (V : jV p s m args meth c cc own nL (some (.object n)) D g) (h : jH A s H locs D g ad z (jY adk g k mo) X) (hdg : decode cc pc = .ok (.areturn, 1)) : W p l e R s m args below meth c H locs cells slots (MQ below (jLQs D g A adk k mo z) args s cells slots A) (F0 m pc ls [.ref (ad 0)]) :=
  W.aret (v := .ref (ad 0)) V.1 V.2.1 V.2.2.2.2.2.1 (Or.inl ⟨n, rfl⟩) (Or.inr ⟨ad 0, rfl⟩) (fun t ht hW => ⟨⟨ad, ad 0, rfl, trivial, rfl, jLEnd_of V h ht hW⟩, h.2.2.F ht⟩) h.2.2.2.2 hdg V.2.2.2.2.2.2.1
/-- a contract out of its walk -/
theorem jl_met {Qc : Array Value → State → Outcome → State → Prop} {sz : Nat} {lv : List (Nat × Value)} (hst : l.stackTraces = false) (hy : plainName y.cls = true) (hlen : (lg_sl as).length ≤ maxL) (hlv : lv_args 0 as = lv) (hcat : ∀ q ∈ lv, q.2.category = 1)
    (body : ∀ (p : Program) (e : Env) (s : State) (m : MethodId) (below : List Frame) (meth : Method) (c : Code) (ls : Array Slot), s.heap.size = sz → jV p s m as.toArray meth c bytes y.cls maxL rt D g → jLX l (va_A (jY adk g k mo ++ jC g ad z) sz) s → (∀ q, s.heap.size ≤ q → va_A (jY adk g k mo ++ jC g ad z) sz q) → jH (va_A (jY adk g k mo ++ jC g ad z) sz) s s.heap [] D g ad z (jY adk g k mo) [] → jl_has ls maxL lv → W p l e rm s m as.toArray below meth c s.heap [] 0 0 (MQ below Qc as.toArray s mc ms (va_A (jY adk g k mo ++ jC g ad z) sz)) (F0 m 0 ls [])) :
    Met l y (Cond.code y bytes maxL rt :: kWA) rm (jLP as D g adk k mo ad z sz) Qc mc ms (va_A (jY adk g k mo ++ jC g ad z) sz) := by
  refine Met.ofW (cc := bytes) (maxL := maxL) (ret := rt) hy rfl ?_
  intro p e s m args below meth c s₁ B hml hv
  obtain ⟨rfl, ⟨hsz, hP, hK, hD0⟩, hJ, hXA⟩ := hv
  have hts := atoms_spec (ws := Cond.code y bytes maxL rt :: kWA) B.pre
  have hown : s.vm.findClass y.cls = some m.cls := findClass_of_methodNamed B.named
  subst hsz
  have hl := lv_entry as (n := maxL) hlen
  rw [lg_entry_eq]
  rw [hlv] at hl
  have hD := hD0.self (sz := s.heap.size)
  refine body p e s m below meth c _ rfl ⟨B.exec, B.bytes, hml, hown, fun w hw => hts w (List.mem_cons_of_mem _ hw), B.returns, B.notSynchronized, hK, hJ⟩ ⟨hst, hXA⟩ (fun q hq => Or.inr hq) ⟨?_, ?_, va_S.rf⟩ ⟨hl, hcat⟩
  · rw [List.append_nil]; exact hP
  · rw [List.append_nil]; exact hD
end JL
