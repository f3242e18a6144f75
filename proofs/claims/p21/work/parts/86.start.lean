/-! THE START: the world of a fresh system, in the order of its places -/
def zk0 : kS := fun p => if p = 24 ∨ p = 25 ∨ p = 29 ∨ p = 39 ∨ p = 40 ∨ p = 44 then fm else fun _ => 0
def zm0 : kS := fun _ _ => 0
def adF (u v : Nat → Nat) : Nat → Nat := fun p => if p < 1 then u 0 else if p < 7 then u (4 * p + 1) else if p < 15 then v (p - 7) else if p < 30 then u (4 * (p - 15) + 2) else if p < 45 then u (4 * (p - 30) + 3) else if p < 57 then u (4 * (p - 45 + 20) + 2) else if p < 69 then u (4 * (p - 57 + 20) + 3) else u (4 * (p - 69 + 20) + 1)
section ST
variable {cI cZ cO : ClassId} {u v : Nat → Nat}
theorem adF_s (i : Nat) : adF u v (69 + i) = u (4 * (i + 20) + 1) := by
  unfold adF
  rw [if_neg (by omega), if_neg (by omega), if_neg (by omega), if_neg (by omega), if_neg (by omega), if_neg (by omega), if_neg (by omega), show 69 + i - 69 = i by omega]
theorem adF_p {i : Nat} (h : i < 12) : adF u v (45 + i) = u (4 * (i + 20) + 2) := by
  unfold adF
  rw [if_neg (by omega), if_neg (by omega), if_neg (by omega), if_neg (by omega), if_neg (by omega), if_pos (by omega), show 45 + i - 45 = i by omega]
theorem adF_q {i : Nat} (h : i < 12) : adF u v (57 + i) = u (4 * (i + 20) + 3) := by
  unfold adF
  rw [if_neg (by omega), if_neg (by omega), if_neg (by omega), if_neg (by omega), if_neg (by omega), if_neg (by omega), if_pos (by omega), show 57 + i - 57 = i by omega]
theorem zk0_o {p : Nat} (h : 45 ≤ p) : zk0 p = fun _ => 0 := by
  unfold zk0
  exact if_neg (by omega)
theorem iO_s : iO (fun j => u (4 * j + 1)) 40 = fun i => if i < 40 then some (adF u v (69 + i)) else none := funext fun i => by unfold iO; rw [adF_s]
theorem iO_p : iO (fun j => u (4 * j + 2)) 12 = fun i => if i < 12 then some (adF u v (kpb 15 + i)) else none := funext fun i => by
  unfold iO
  by_cases h : i < 12
  · rw [if_pos h, if_pos h]
    exact congrArg some (adF_p h).symm
  · rw [if_neg h, if_neg h]
theorem iO_q : iO (fun j => u (4 * j + 3)) 12 = fun i => if i < 12 then some (adF u v (kpb 30 + i)) else none := funext fun i => by
  unfold iO
  by_cases h : i < 12
  · rw [if_pos h, if_pos h]
    exact congrArg some (adF_q h).symm
  · rw [if_neg h, if_neg h]
def pW (ad : Nat → Nat) (e : Nat → va_E) (ps : List Nat) : va_W := ps.map (fun p => (ad p, e p))
theorem pW_app (ad : Nat → Nat) (e : Nat → va_E) (a b : List Nat) : pW ad e (a ++ b) = pW ad e a ++ pW ad e b := List.map_append
abbrev eS (cI cZ cO : ClassId) (u v : Nat → Nat) : Nat → va_E := kE (adF u v) cI cZ cO zk0 zm0
theorem kin_p : kinW cI cZ cO (fun j => u (4 * j + 1)) = pW (adF u v) (eS cI cZ cO u v) ([1, 2, 3, 4, 5, 6] ++ (List.range 40).map (69 + ·)) := by
  rw [pW_app]
  unfold kinW
  rw [iO_s (v := v)]
  congr 1
theorem lands_p : landsW cI cO (fun j => u (4 * j + 2)) = pW (adF u v) (eS cI cZ cO u v) ([16, 17, 18, 19, 20, 21, 22] ++ (List.range 12).map (45 + ·)) := by
  rw [pW_app]
  unfold landsW
  rw [iO_p (v := v)]
  congr 1
theorem lands_q : landsW cI cO (fun j => u (4 * j + 3)) = pW (adF u v) (eS cI cZ cO u v) ([31, 32, 33, 34, 35, 36, 37] ++ (List.range 12).map (57 + ·)) := by
  rw [pW_app]
  unfold landsW
  rw [iO_q (v := v)]
  congr 1
theorem world_p : worldW cI cO (u 5) (fun j => u (4 * j + 2)) = pW (adF u v) (eS cI cZ cO u v) ([15] ++ ([16, 17, 18, 19, 20, 21, 22] ++ (List.range 12).map (45 + ·)) ++ [23, 24, 25] ++ [26, 27, 28] ++ [29]) := by
  unfold worldW
  rw [lands_p (v := v) (cZ := cZ), pW_app, pW_app, pW_app, pW_app]
  rfl
theorem world_q : worldW cI cO (u 5) (fun j => u (4 * j + 3)) = pW (adF u v) (eS cI cZ cO u v) ([30] ++ ([31, 32, 33, 34, 35, 36, 37] ++ (List.range 12).map (57 + ·)) ++ [38, 39, 40] ++ [41, 42, 43] ++ [44]) := by
  unfold worldW
  rw [lands_q (v := v) (cZ := cZ), pW_app, pW_app, pW_app, pW_app]
  rfl
def allP : List Nat := [0] ++ ([1, 2, 3, 4, 5, 6] ++ (List.range 40).map (69 + ·)) ++ ([15] ++ ([16, 17, 18, 19, 20, 21, 22] ++ (List.range 12).map (45 + ·)) ++ [23, 24, 25] ++ [26, 27, 28] ++ [29]) ++ ([30] ++ ([31, 32, 33, 34, 35, 36, 37] ++ (List.range 12).map (57 + ·)) ++ [38, 39, 40] ++ [41, 42, 43] ++ [44])
theorem allP_perm : allP.Perm ((List.range 101).map kPl) := by decide +kernel
theorem all_p : allW cI cZ cO u = pW (adF u v) (eS cI cZ cO u v) allP := by
  unfold allW allP
  rw [kin_p (v := v), world_p (v := v) (cZ := cZ), world_q (v := v) (cZ := cZ), pW_app, pW_app, pW_app]
  rfl
theorem all_kC : (allW cI cZ cO u).Perm (kC (adF u v) (eS cI cZ cO u v)) := by
  rw [all_p (v := v)]
  have e : kC (adF u v) (eS cI cZ cO u v) = pW (adF u v) (eS cI cZ cO u v) ((List.range 101).map kPl) := by
    unfold kC pW
    rw [List.map_map]
    rfl
  rw [e]
  exact allP_perm.map _
end ST
/-! THE START: what the tables give -/
theorem kNw_in : ∀ w ∈ kNw, w ∈ lw_tbl := by decide +kernel
theorem kStr_in : ∀ q ∈ kStr, Cond.stringRef RX5 q.1 q.2 ∈ lw_tbl := by decide +kernel
theorem kAO_in : Cond.arrayOver (.array .int) ∈ lw_tbl := by decide +kernel
theorem kAP_in : Cond.arrayOver (.object "KingTiesLaw$Person") ∈ lw_tbl := by decide +kernel
theorem kAL_in : Cond.arrayOver (.object "KingTiesLaw$Land") ∈ lw_tbl := by decide +kernel
theorem kN7_in : Cond.methodLinkNest RX8 21 yX7_init RL ∈ lw_tbl := by decide +kernel
theorem kN6_in : Cond.methodLinkNest RX8 56 yX6_init RL ∈ lw_tbl := by decide +kernel
theorem kN8_in : Cond.methodLinkNest RL 103 yX8_init RL ∈ lw_tbl := by decide +kernel
theorem kN1_in : Cond.methodLinkNest RX4 11 yX1_init RX5 ∈ lw_tbl := by decide +kernel
theorem kN2_in : Cond.methodLinkNest RX4 27 yX2_init RX5 ∈ lw_tbl := by decide +kernel
theorem kN3_in : Cond.methodLinkNest RX5 9 yX0_init RX5 ∈ lw_tbl := by decide +kernel
theorem kLa_in : Cond.laysStatic Bundle.tN "UNASSIGNED_STACK" Bundle.steD ∈ lw_tbl := by decide +kernel
theorem kLb_in : Cond.laysStatic Bundle.tN "SUPPRESSED_SENTINEL" Bundle.listD ∈ lw_tbl := by decide +kernel
theorem kF_in : ∀ w ∈ [Cond.isRef (.static Bundle.tN "UNASSIGNED_STACK" Bundle.steD), Cond.isRef (.static Bundle.tN "SUPPRESSED_SENTINEL" Bundle.listD)], w ∈ flatC (Jvm.Cond.and given_1 narrow_1) := by decide +kernel
def aL (s : State) : Nat → Prop := fun q => s.heap.size ≤ q
theorem aL_new {s : State} : ∀ q, s.heap.size ≤ q → aL s q := fun _ h => h
section STF
variable {s : State} {a : Array Value}
theorem st_K (hts : ∀ w ∈ lw_tbl, w.before a s = true) : ∃ (D : va_G) (g : Nat → ClassId), va_K D vwCl (jT g) s := by
  have hts' : ∀ w ∈ kWA, w.before a s = true := fun w hw => hts w (kWA_tbl w hw)
  obtain ⟨c0, i0, k0⟩ := u_known (C := RX0) (T := TX0) (N := 6) (n := 6) hts' kX0 (hts' _ ki_X0)
  obtain ⟨c1, i1, k1⟩ := u_known (C := RX1) (T := TX1) (N := 7) (n := 7) hts' kX1 (hts' _ ki_X1)
  obtain ⟨c2, i2, k2⟩ := u_known (C := RX2) (T := TX2) (N := 2) (n := 2) hts' kX2 (hts' _ ki_X2)
  obtain ⟨c3, i3, k3⟩ := u_known (C := RX3) (T := TX3) (N := 2) (n := 2) hts' kX3 (hts' _ ki_X3)
  obtain ⟨c4, i4, k4⟩ := u_known (C := RX4) (T := TX4) (N := 6) (n := 6) hts' kX4 (hts' _ ki_X4)
  obtain ⟨c5, i5, k5⟩ := u_known (C := RX5) (T := TX5) (N := 3) (n := 3) hts' kX5 (hts' _ ki_X5)
  obtain ⟨c6, i6, k6⟩ := u_known (C := RX6) (T := TX6) (N := 4) (n := 4) hts' kX6 (hts' _ ki_X6)
  obtain ⟨c7, i7, k7⟩ := u_known (C := RX7) (T := TX7) (N := 9) (n := 9) hts' kX7 (hts' _ ki_X7)
  obtain ⟨c8, i8, k8⟩ := u_known (C := RX8) (T := TX8) (N := 3) (n := 3) hts' kX8 (hts' _ ki_X8)
  obtain ⟨cI, kI, pI, a1, a2, a3⟩ := Cond.arrayClass_spec (hts' _ kA_int)
  obtain ⟨cZ, kZ, pZ, b1, b2, b3⟩ := Cond.arrayClass_spec (hts' _ kA_boolean)
  obtain ⟨pO, cO, kO, e1, e2, e3, e4, e5⟩ := arrayOverA_spec (va_AOA.use (t := .int) (A := #[]) (hts _ kAO_in))
  obtain ⟨pP, cP, kP, f1, f2, f3, f4, f5⟩ := Cond.arrayOver_spec (va_AO.use (A := #[]) (C := "KingTiesLaw$Person") (hts _ kAP_in))
  obtain ⟨pL, cL, kL, g1, g2, g3, g4, g5⟩ := Cond.arrayOver_spec (va_AO.use (A := #[]) (C := "KingTiesLaw$Land") (hts _ kAL_in))
  refine ⟨(fun k => match k with | 0 => c0 | 1 => c1 | 2 => c2 | 3 => c3 | 4 => c4 | 5 => c5 | 6 => c6 | 7 => c7 | _ => c8, fun k => match k with | 0 => i0 | 1 => i1 | 2 => i2 | 3 => i3 | 4 => i4 | 5 => i5 | 6 => i6 | 7 => i7 | _ => i8), fun k => match k with | 0 => cI | 1 => cZ | 2 => cO | 3 => cP | _ => cL, ?_, ?_⟩
  · intro k q hq
    match k, hq with
    | 0, hq => cases hq; exact k0
    | 1, hq => cases hq; exact k1
    | 2, hq => cases hq; exact k2
    | 3, hq => cases hq; exact k3
    | 4, hq => cases hq; exact k4
    | 5, hq => cases hq; exact k5
    | 6, hq => cases hq; exact k6
    | 7, hq => cases hq; exact k7
    | 8, hq => cases hq; exact k8
    | k + 9, hq => simp [vwCl] at hq
  · intro k q hq
    match k, hq with
    | 0, hq => cases hq; exact ⟨fun n z => ⟨fun q h => (by cases h), kI, a2, pI, a3⟩, a1⟩
    | 1, hq => cases hq; exact ⟨fun n z => ⟨fun q h => (by cases h), kZ, b2, pZ, b3⟩, b1⟩
    | 2, hq => cases hq; exact ⟨fun n z => ⟨fun q h => (by cases h), kO, e3, pO, e4⟩, e5⟩
    | 3, hq => cases hq; exact ⟨fun n z => ⟨fun q h => (by cases h), kP, f3, pP, f4⟩, ⟨kP, pP, f3, f4, f1, f5⟩⟩
    | 4, hq => cases hq; exact ⟨fun n z => ⟨fun q h => (by cases h), kL, g3, pL, g4⟩, ⟨kL, pL, g3, g4, g1, g5⟩⟩
    | k + 5, hq => simp [jT] at hq
theorem st_iX (hts : ∀ w ∈ lw_tbl, w.before a s = true) : iX s := ⟨hts _ kAO_in, va_Nw.of rfl (hts _ kN1_in), va_Nw.of rfl (hts _ kN2_in), va_Nw.of rfl (hts _ kN3_in)⟩
theorem st_jX (hts : ∀ w ∈ lw_tbl, w.before a s = true) : jX s := ⟨hts _ kAP_in, hts _ kAL_in, va_Nw.of rfl (hts _ kN7_in), va_Nw.of rfl (hts _ kN6_in), va_Nw.of rfl (hts _ kN8_in)⟩
theorem st_kXA (hts : ∀ w ∈ lw_tbl, w.before a s = true) (hgv : (Jvm.Cond.and given_1 narrow_1).before a s = true) : kXA (aL s) s s.heap := by
  have hs := flat_of_before _ hgv
  have hA : ∀ q : Nat, q < s.heap.size → ¬ aL s q := fun q h1 h2 => by
    have h3 : s.heap.size ≤ q := h2
    omega
  refine ⟨fun w hw => va_Nw.of (kNw_tabs w hw) (hts w (kNw_in w hw)), fun q hq => ?_, vx_Zqof (hts _ kLa_in) (hts _ (kWA_tbl _ kz_Throwable)) (hs _ (kF_in _ (by simp))) hA, vx_Zqof (hts _ kLb_in) (hts _ (kWA_tbl _ kz_Throwable)) (hs _ (kF_in _ (by simp))) hA⟩
  have h1 := hts _ (kStr_in q hq)
  have hcur : ∃ cur, s.vm.findClass RX5 = some cur := by
    simp only [Cond.before, Cond.holds, Cond.value] at h1
    cases hc : s.vm.findClass RX5 with
    | none => simp [hc] at h1
    | some cur => exact ⟨cur, rfl⟩
  obtain ⟨cur, hc⟩ := hcur
  obtain ⟨k, cf, i, sa, -, -, -, -, -, hev⟩ := Cond.stringRef_spec hc h1
  exact ⟨sa, vk_R.of h1 hev⟩
end STF
section JR
variable {p : Program} {l : Launch} {e : Env} {R : Room} {s : State} {m : MethodId} {args : Array Value} {below : List Frame} {meth : Method} {c : Code} {H : Heap} {locs : List Loc} {cells slots : Nat} {Q : State → Prop} {A : Nat → Prop}
variable {cc : ByteArray} {own : String} {nL : Nat} {ret : Option FieldType} {D : va_G} {cI cZ cO : ClassId} {ws : va_W} {pc : Nat} {ls : Array Slot} {rest : List Value} {N : Nat}
/-- new -/
theorem jr_new (V : kV p s m args meth c cc own nL ret D cI cZ cO) (h : iH A s H locs D ws) {ci : Nat} {C : String} {T : u_T} {N : Nat} (hc : vwCl[ci]? = some (C, T, N)) (hin : ∀ w ∈ u_ws C T N, w ∈ kWA) (ty0 : Nat → FieldType) (hty : ∀ k, k < N → parseFieldDescriptor (T k).2.2.1 = some (ty0 k)) {index : Nat} (hcl : Cond.classLink own index C ∈ kWA) (hinst : Cond.instantiable C N ∈ kWA) (hini : Cond.initialized C ∈ kWA) {fs : List Value} (hfs : ∀ j, j < N → defaultValue (ty0 j) = vp_V fs j) (hcells : cells + 1 ≤ R.cells) (hslots : slots + N ≤ R.slots) (hdg : decode cc pc = .ok (.new index, 3))
    (kk : ∀ (q : Nat) (H1 : Heap), iH A s H1 locs D (ws ++ [(q, .inr (ci, fs))]) → W p l e R s m args below meth c H1 locs (cells + 1) (slots + N) Q (F0 m (pc + 3) ls (.ref q :: rest))) : W p l e R s m args below meth c H locs cells slots Q (F0 m pc ls rest) := by
  obtain ⟨hx, hbb, hml, hown, hts, hr, hlk, hK⟩ := V
  obtain ⟨hP, hD, hS, hA⟩ := h
  exact va_new (D := D) (ci := ci) (fs := fs) (C := C) (T := T) (N := N) hx hbb hts hin ty0 hty hown (hts _ hcl) (hts _ hinst) (hts _ hini) hK hP hD hS hA hc hfs hcells hslots hdg (fun q H1 hP hD hS => kk q H1 ⟨hP, hD, hS, hA⟩)
variable {y : MethodName} {bytes : ByteArray} {maxL n index mc ms : Nat} {rm : Room} {as : List Value}
/-- a constructor of the newest cell -/
theorem jr_init {x : Nat × va_E} {Wn : (Nat → Nat) → va_W} {ok : (Nat → Nat) → Prop} (V : kV p s m args meth c cc own nL ret D cI cZ cO) (hO : iX s) (h : iH A s H locs D (ws ++ [x])) (hM : Met l y (Cond.code y bytes maxL none :: kWA) rm (iP (.ref x.1 :: as) D cI cZ cO [x] H.size) (iQ D cI cZ cO Wn ok [x] H.size) mc ms (va_A [x] H.size)) (hcd : Cond.code y bytes maxL none ∈ kWA) (hrc : rm.cells = mc) (hrs : rm.slots = ms) (hini : Cond.initialized y.cls ∈ kWA) (hl : Cond.methodLink own index y ∈ kWA) (hinst : Cond.instanceMethod y ∈ kWA) (hnm : y.name = "<init>") (hd : y.cls ≠ "java/lang/invoke/MethodHandle" ∧ y.cls ≠ "java/lang/invoke/VarHandle" ∧ (parseMethodDescriptor y.desc).map (fun d => d.parameters.length) = some n) (hR : rm.frames + 1 ≤ R.frames ∧ 8 + (maxL + 11) + rm.locals ≤ R.locals) (hn : as.length = n) (hsz : ls.size = nL) (hroom : (rest.map fun v => v.category).sum ≤ 8) (hf : cells + mc ≤ R.cells ∧ slots + ms ≤ R.slots) {st : List Value} (hst : st = as.reverse ++ .ref x.1 :: rest) (hdg : decode cc pc = .ok (.invokespecial index, 3))
    (kk : ∀ (u : Nat → Nat) (H1 : Heap) (locs1 : List Loc), ok u → iH A s H1 locs1 D (ws ++ Wn u) → W p l e R s m args below meth c H1 locs1 (cells + mc) (slots + ms) Q (F0 m (pc + 3) ls rest)) : W p l e R s m args below meth c H locs cells slots Q (F0 m pc ls st) := by
  obtain ⟨hx, hbb, hml, hown, hts, hr, hlk, hK⟩ := V
  obtain ⟨hP, hD, hS, hA⟩ := h
  have hx1 : (ws ++ [x])[ws.length]? = some x := by rw [List.getElem?_append_right (Nat.le_refl _), Nat.sub_self]; rfl
  have hC : [ws.length].map (fun i => (ws ++ [x])[i]?) = [x].map some := by simp
  have hRr : (List.range ws.length).map (fun i => (ws ++ [x])[i]?) = ws.map some := by
    apply List.ext_getElem?
    intro i
    by_cases h9 : i < ws.length
    · rw [List.getElem?_map, List.getElem?_range h9, List.getElem?_map]
      show some ((ws ++ [x])[i]?) = _
      rw [List.getElem?_append_left h9, List.getElem?_eq_getElem h9]
      rfl
    · rw [List.getElem?_eq_none (by simp; omega), List.getElem?_eq_none (by simp; omega)]
  have hPc : va_P D vwCl [x] H := hP.sub [ws.length] (by simp)
  have hDc : va_D A [x] := hD.sub [ws.length] (by simp [va_nd]) (by simp)
  have hFc : ∀ a, va_A [x] H.size a → A a := va_free hD hS hA [ws.length] hC
  refine va_callv (va_runI (b := x.1) (As := as) (rest := rest) (nL := nL) ⟨hx, hbb, hml, hown, hts⟩ hM (cwI n hts (fun w hw => (List.mem_cons.mp hw).elim (fun e => by rw [e]; exact ⟨hcd, kWA_good _ hcd⟩) (fun h2 => ⟨h2, kWA_good w h2⟩)) rfl hrc hrs (hts _ hini) (hts _ hl) (hts _ hinst) hnm hd hR) ⟨iP_blind, fun U hU hW => ⟨rfl, ⟨by rw [hU], by rw [hU]; exact hPc, va_K.moved hW.alike hK, hDc.weaken (fun _ _ _ _ => trivial)⟩, hO.warm hW⟩⟩ rfl hn hsz hst (lv_room hroom) hdg hf) hS (fun q _ h => hFc q h) hFc (fun u t H1 locs1 ht hvm hw hB hz1 hk1 hS => ?_)
  obtain ⟨hP1, hK1, hD1⟩ := hB
  rw [ht] at hP1
  obtain ⟨hP, hD⟩ := va_join (wc := [x]) (wr := ws) (w1 := Wn u) hP hD [ws.length] (List.range ws.length) hC hRr (va_nd_of _ List.nodup_range) (fun i hi hi2 => by
    have h8 := List.mem_range.mp hi
    simp only [List.mem_cons, List.not_mem_nil, or_false] at hi2
    omega) hk1 hFc hP1 hD1
  exact kk u H1 locs1 hw ⟨hP, hD, hS, hA⟩
end JR
