section KZ3
variable {p : Program} {l : Launch} {e : Env} {R : Room} {s : State} {mm : MethodId} {args : Array Value} {below : List Frame} {meth : Method} {c : Code} {H : Heap} {locs : List Loc} {cells slots : Nat} {Q : State → Prop} {A : Nat → Prop}
variable {cc : ByteArray} {own : String} {nL : Nat} {ret : Option FieldType} {D : va_G} {cI cZ cO : ClassId} {ad : Nat → Nat} {E E' : Nat → va_E} {k mo m0 : kS} {X : va_W} {pc : Nat} {ls : Array Slot} {rest : List Value} {xq x1 x2 x3 x4 : Nat}
theorem kYg {C : String} {y : MethodName} {bytes : ByteArray} {maxL : Nat} {rt : Option FieldType} {n index : Nat} (hY : kY C y bytes maxL rt n) (w1 : Cond.methodLink own index y ∈ kWA) : GoodIn kWA (wsV own index C y (Cond.code y bytes maxL rt :: kWA)) := by
  obtain ⟨y1, y2, y3, y4, y5⟩ := hY
  intro w hw
  rcases List.mem_append.mp hw with hw | hw
  · simp only [List.mem_cons, List.not_mem_nil, or_false] at hw
    rcases hw with rfl | rfl | rfl | rfl
    · exact ⟨w1, kWA_good _ w1⟩
    · exact ⟨y1, kWA_good _ y1⟩
    · exact ⟨y2, kWA_good _ y2⟩
    · exact ⟨y3, kWA_good _ y3⟩
  · exact kY_good y4 w hw
theorem kr_kept (V : kV p s mm args meth c cc own nL ret D cI cZ cO) (XM : kXM s) (h : kHE s H locs D ad cI cZ cO k mo []) (hsz : ls.size = nL) {index : Nat} (w1 : Cond.methodLink own index yX6_kept_ ∈ kWA) (hR : rm_kept.frames + 1 ≤ R.frames ∧ 8 + (1 + 11) + rm_kept.locals ≤ R.locals) (hroom : (rest.map fun v => v.category).sum ≤ 8) (hf : cells + 5 ≤ R.cells ∧ slots + 593 ≤ R.slots) (hdg : decode cc pc = .ok (.invokevirtual index, 3))
    (kk : ∀ (xq x1 x2 x3 x4 : Nat) (H1 : Heap) (locs1 : List Loc), kHE s H1 locs1 D ad cI cZ cO k mo (kXk cI cO xq x1 x2 x3 x4 mo) → W p l e R s mm args below meth c H1 locs1 (cells + 5) (slots + 593) Q (F0 mm (pc + 3) ls (.ref xq :: rest))) : W p l e R s mm args below meth c H locs cells slots Q (F0 mm pc ls (.ref (ad 7) :: rest)) := by
  have V' := V
  obtain ⟨hx, hb, hml, hown, hts, hr, hlk, hK⟩ := V
  refine va_callr (va_runV (As := []) (rest := rest) (C := RX6) (b := ad 7) (nL := nL) ⟨hx, hb, hml, hown, hts⟩ (c_X6_kept_ l (D := D) (cI := cI) (cZ := cZ) (cO := cO) (ad := ad) (k := k) (mo := mo) H.size) (cwV 0 hts (kYg kYX6_kept_ w1) rfl rfl rfl kYX6_kept_.2.2.2.2 hR) ⟨kPM_blind, va_recv hK h.1 (ci := 6) (q0 := 7) rfl (by rw [kC_get (by decide), kE_7]), fun U hU hW => ⟨rfl, ?_, kXM_warm hW XM⟩⟩ rfl rfl hsz rfl (lv_room hroom) hdg hf) h.2.2 (fun q _ h2 => fA_mono h.2.2.1 h2) (fun q h2 => fA_mono h.2.2.1 h2) (fun u ra t H1 locs1 ht hvm hp hB hz hk hS => ?_)
  · have q := (kH_pre (as := []) h V' U hU hW).2
    rw [List.append_nil]
    exact q
  · subst ht
    exact kk ra u.1 u.2.1 u.2.2.1 u.2.2.2 _ _ ⟨hB.1, hB.2.2.weaken (fun _ _ _ h2 => fA_mono h.2.2.1 h2), hS⟩
theorem kr_back (V : kV p s mm args meth c cc own nL ret D cI cZ cO) (XM : kXM s) (h : kHE s H locs D ad cI cZ cO k mo (kXk cI cO xq x1 x2 x3 x4 m0)) (hsz : ls.size = nL) {index : Nat} (hY : kY RX6 yX6_bringBack cX6_bringBack 4 none 1) (w1 : Cond.methodLink own index yX6_bringBack ∈ kWA) (hR : rm_back.frames + 1 ≤ R.frames ∧ 8 + (4 + 11) + rm_back.locals ≤ R.locals) (hroom : (rest.map fun v => v.category).sum ≤ 8) (hf : cells + 1 ≤ R.cells ∧ slots + 4 ≤ R.slots) (hdg : decode cc pc = .ok (.invokevirtual index, 3))
    (kk : ∀ (H1 : Heap) (locs1 : List Loc), kHE s H1 locs1 D ad cI cZ cO k (kBack mo m0) (kXk cI cO xq x1 x2 x3 x4 m0) → W p l e R s mm args below meth c H1 locs1 (cells + 1) (slots + 4) Q (F0 mm (pc + 3) ls rest)) : W p l e R s mm args below meth c H locs cells slots Q (F0 mm pc ls (.ref xq :: .ref (ad 7) :: rest)) := by
  have V' := V
  obtain ⟨hx, hb, hml, hown, hts, hr, hlk, hK⟩ := V
  have hF : ∀ q, va_A (kC ad (kE ad cI cZ cO k mo) ++ kXk cI cO xq x1 x2 x3 x4 m0) H.size q → fA ad s.heap.size q := by
    rintro q (⟨i, x, hi⟩ | hq)
    · exact h.2.1.2 i (q, x) hi
    · exact Or.inr (Nat.le_trans h.2.2.1 hq)
  refine va_callv (va_runV (As := [.ref xq]) (rest := rest) (C := RX6) (b := ad 7) (nL := nL) ⟨hx, hb, hml, hown, hts⟩ (c_X6_bringBack l (D := D) (cI := cI) (cZ := cZ) (cO := cO) (ad := ad) (k := k) (mo := mo) (m0 := m0) (xq := xq) (x1 := x1) (x2 := x2) (x3 := x3) (x4 := x4) H.size) (cwV 1 hts (kYg hY w1) rfl rfl rfl hY.2.2.2.2 hR) ⟨kPM_blind, va_recv hK h.1 (ci := 6) (q0 := 7) rfl (by rw [kC_get (by decide), kE_7]), fun U hU hW => ⟨rfl, ⟨by rw [hU], by rw [hU]; exact h.1, va_K.moved hW.alike hK, h.2.1.weaken (fun _ _ _ _ => trivial)⟩, kXM_warm hW XM⟩⟩ rfl rfl hsz rfl (lv_room hroom) hdg hf) h.2.2 (fun q _ h2 => hF q h2) hF (fun u t H1 locs1 ht hvm hp hB hz hk hS => ?_)
  subst ht
  exact kk _ _ ⟨hB.1, hB.2.2.weaken (fun _ _ _ h2 => hF _ h2), hS⟩
variable {y : MethodName} {bytes : ByteArray} {maxL n index mc ms : Nat} {rt : Option FieldType} {rm : Room} {as : List Value} {C : String}
theorem km_runV {Qc : Array Value → State → Outcome → State → Prop} {pl : Nat} (V : kV p s mm args meth c cc own nL ret D cI cZ cO) (XM : kXM s) (h : kH s H locs D ad E X) (hY : kY C y bytes maxL rt n) (w1 : Cond.methodLink own index y ∈ kWA)
    (hM : Met l y (Cond.code y bytes maxL rt :: kWA) rm (kPM (.ref (ad pl) :: as) D cI cZ cO ad E [] H.size) Qc mc ms (fA ad H.size))
    (hrc : rm.cells = mc) (hrs : rm.slots = ms) (hR : rm.frames + 1 ≤ R.frames ∧ 8 + (maxL + 11) + rm.locals ≤ R.locals) (hpl : pl < 109) {ci : Nat} {fs : List Value} (he : E pl = .inr (ci, fs)) {T : u_T} {N : Nat} (hc : vwCl[ci]? = some (C, T, N)) (hn : as.length = n) (hsz : ls.size = nL) (hroom : (rest.map fun v => v.category).sum ≤ 8) (hdg : decode cc pc = .ok (.invokevirtual index, 3)) (hf : cells + mc ≤ R.cells ∧ slots + ms ≤ R.slots) {st : List Value} (hst : st = as.reverse ++ .ref (ad pl) :: rest) :
    va_Run p l e R s mm args below meth c H locs cells slots mc ms (F0 mm pc ls st) rest (Qc (Value.ref (ad pl) :: as).toArray) (fA ad H.size) := by
  have V' := V
  obtain ⟨hx, hb, hml, hown, hts, hr, hlk, hK⟩ := V
  refine va_runV (As := as) (rest := rest) (C := C) (b := ad pl) (nL := nL) ⟨hx, hb, hml, hown, hts⟩ hM (cwV n hts (kYg hY w1) rfl hrc hrs hY.2.2.2.2 hR) ⟨kPM_blind, va_recv hK h.1 (ci := ci) (q0 := pl) hc (by rw [kC_get hpl, he]), fun U hU hW => ⟨rfl, ?_, kXM_warm hW XM⟩⟩ rfl hn hsz hst (lv_room hroom) hdg hf
  have q := (kH_pre (as := []) h V' U hU hW).2
  rw [List.append_nil]
  exact q
theorem km_met {Qc : Nat → Array Value → State → Outcome → State → Prop} {lv : List (Nat × Value)} (hy : plainName y.cls = true) (hlen : (lg_sl as).length ≤ maxL) (hlv : lv_args 0 as = lv)
    (body : ∀ (p : Program) (e : Env) (s : State) (m : MethodId) (below : List Frame) (meth : Method) (c : Code) (ls : Array Slot), kV p s m as.toArray meth c bytes y.cls maxL rt D cI cZ cO → kXM s → kH s s.heap [] D ad E [] → lv_has ls maxL lv → W p l e rm s m as.toArray below meth c s.heap [] 0 0 (MQ below (Qc s.heap.size) as.toArray s mc ms (fA ad s.heap.size)) (F0 m 0 ls [])) (sz : Nat) :
    Met l y (Cond.code y bytes maxL rt :: kWA) rm (kPM as D cI cZ cO ad E [] sz) (Qc sz) mc ms (fA ad sz) := by
  refine Met.ofW (cc := bytes) (maxL := maxL) (ret := rt) hy rfl ?_
  intro p e s m args below meth c s₁ B hml hv
  obtain ⟨rfl, ⟨hsz, hP, hK, hD0⟩, XM⟩ := hv
  have hx := B.exec
  have hb := B.bytes
  have hr := B.returns
  have hts := atoms_spec (ws := Cond.code y bytes maxL rt :: kWA) B.pre
  have hown : s.vm.findClass y.cls = some m.cls := findClass_of_methodNamed B.named
  have hlocks := B.notSynchronized
  subst hsz
  have hl := lv_entry as (n := maxL) hlen
  rw [lg_entry_eq]
  rw [hlv] at hl
  have hD := hD0.self (sz := s.heap.size)
  rw [List.append_nil, fA_eq] at hD
  exact body p e s m below meth c _ ⟨hx, hb, hml, hown, fun w hw => hts w (List.mem_cons_of_mem _ hw), hr, hlocks, hK⟩ XM ⟨hP, by rw [List.append_nil]; exact hD, va_S.rf⟩ hl
end KZ3
