section KZ2
variable {p : Program} {l : Launch} {e : Env} {R : Room} {s : State} {mm : MethodId} {args : Array Value} {below : List Frame} {meth : Method} {c : Code} {H : Heap} {locs : List Loc} {cells slots : Nat} {Q : State → Prop} {A : Nat → Prop}
variable {cc : ByteArray} {nL : Nat} {ret : Option FieldType} {D : va_G} {cI cZ cO : ClassId} {ad : Nat → Nat} {E E' : Nat → va_E} {k mo : kS} {X : va_W} {pc : Nat} {ls : Array Slot} {rest : List Value} {N : Nat}
theorem kz_aald (V : kV p s mm args meth c cc RX6 nL ret D cI cZ cO) (h : kHA A s H locs D ad E X) (j : Nat) {a : Nat} {g : Nat → Option Nat} (hX : X[j]? = some (a, .inl (cO, N, .inr (.inr (.inr (.inr g)))))) {i : Int32} (hi : ¬ (i < 0 ∨ N ≤ i.toNatClampNeg)) {v : Value} (hv : va_rf (g i.toNatClampNeg) = v) (hdg : decode cc pc = .ok (.aaload, 1))
    (kk : W p l e R s mm args below meth c H locs cells slots Q (F0 mm (pc + 1) ls (v :: rest))) : W p l e R s mm args below meth c H locs cells slots Q (F0 mm pc ls (.int i :: .ref a :: rest)) := by
  obtain ⟨hx, hb, hml, hown, hts, hr, hlk, hK⟩ := V
  have hlt : i.toNatClampNeg < N := kidx hi
  have hP := h.1 _ _ (kC_xg (ad := ad) (E := E) hX)
  exact W.aald (v := v) (ty := .array .int) hx hb hP ((hK.2 2 _ rfl).1 N (fun j => va_rf (g j))) rfl (fun q => by cases q) (by show ¬ (i < 0 ∨ (arrV _ _ _).slots.size ≤ _); rw [arrV_size]; exact hi) (by show (arrV _ _ _).slots[_]? = _; rw [arrV_read _ _ hlt, hv]) rfl rfl hdg kk
theorem kz_alenX (V : kV p s mm args meth c cc RX6 nL ret D cI cZ cO) (h : kHA A s H locs D ad E X) (j : Nat) {a : Nat} {g : Nat → Option Nat} (hX : X[j]? = some (a, .inl (cO, N, .inr (.inr (.inr (.inr g)))))) {v : Int32} (hv : Int32.ofNat N = v) (hdg : decode cc pc = .ok (.arraylength, 1))
    (kk : W p l e R s mm args below meth c H locs cells slots Q (F0 mm (pc + 1) ls (.int v :: rest))) : W p l e R s mm args below meth c H locs cells slots Q (F0 mm pc ls (.ref a :: rest)) := by
  obtain ⟨hx, hb, hml, hown, hts, hr, hlk, hK⟩ := V
  exact va_alen (D := D) (cA := cO) (ty := .array .int) hx hb hK h.1 _ 2 (kC_xg hX) rfl hv hdg kk
theorem kz_alenP (V : kV p s mm args meth c cc RX6 nL ret D cI cZ cO) (h : kHA A s H locs D ad E X) {q : Nat} (hq : q < 109) {f : Nat → Int32} (he : E q = .inl (cI, N, .inl f)) {v : Int32} (hv : Int32.ofNat N = v) (hdg : decode cc pc = .ok (.arraylength, 1))
    (kk : W p l e R s mm args below meth c H locs cells slots Q (F0 mm (pc + 1) ls (.int v :: rest))) : W p l e R s mm args below meth c H locs cells slots Q (F0 mm pc ls (.ref (ad q) :: rest)) := by
  obtain ⟨hx, hb, hml, hown, hts, hr, hlk, hK⟩ := V
  exact va_alen (D := D) (cA := cI) (x := (N, .inl f)) (ty := .int) hx hb hK h.1 q 0 (by rw [kC_get hq, he]) rfl hv hdg kk
theorem kz_copy (V : kV p s mm args meth c cc RX6 nL ret D cI cZ cO) (h : kHA A s H locs D ad (kE ad cI cZ cO k mo) X) (hsz : ls.size = nL) (j : Nat) {a : Nat} {xf : Nat → Int32} (hX : X[j]? = some (a, .inl (cI, N, .inl xf))) {q : Nat} (hq : q < 109) (hf : ∀ mo : kS, kE ad cI cZ cO k mo q = .inl (cI, N, .inl (mo q))) {n : Int32} (hn : ¬ n < 0) (hN : n.toNatClampNeg = N)
    (hfr : 1 ≤ R.frames) (hlo : (rest.map fun v => v.category).sum + 18 ≤ R.locals) (hdg : decode cc pc = .ok (.invokestatic 49, 3))
    (kk : ∀ (H1 : Heap) (locs1 : List Loc), kHA A s H1 locs1 D ad (kE ad cI cZ cO k (kst mo q (va_cpy xf (mo q) 0 0 N))) X → W p l e R s mm args below meth c H1 locs1 cells slots Q (F0 mm (pc + 3) ls rest)) : W p l e R s mm args below meth c H locs cells slots Q (F0 mm pc ls (.int n :: .int 0 :: .ref (ad q) :: .int 0 :: .ref a :: rest)) := by
  obtain ⟨hx, hb, hml, hown, hts, hr, hlk, hK⟩ := V
  obtain ⟨hP, hD, hS⟩ := h
  have z0 : (0 : Int32).toNatClampNeg = 0 := rfl
  refine va_copyi (D := D) (c0 := cI) (c1 := cI) (n0 := N) (n1 := N) (f := xf) (g := mo q) (ty := .int) hx hb (hml.trans hsz.symm) hown (hts _ kl_X6_49) (hts _ knative_arraycopyName) (hts _ kstatic_arraycopyName) (hts _ kz_System) hK hP hD hS (109 + j) q 0 0 (kC_xg hX) (by rw [kC_get hq, hf]) rfl rfl rfl (by decide) (by decide) hn (by rw [z0, hN]; omega) (by rw [z0, hN]; omega) (fun i hi => rfl) hfr hlo hdg (fun H1 locs1 hP hD hS => ?_)
  rw [hN, z0] at hP hD
  have e : (.inl (cI, N, .inl (va_cpy xf (mo q) 0 0 N)) : va_E) = kE ad cI cZ cO k (kst mo q (va_cpy xf (mo q) 0 0 N)) q := by rw [hf, kst_eq]
  rw [e, kC_set (e' := kE ad cI cZ cO k (kst mo q (va_cpy xf (mo q) 0 0 N))) hq (fun a ha => kst_oM ha)] at hP hD
  exact kk H1 locs1 ⟨hP, hD, hS⟩
end KZ2
def kPM (as : List Value) (D : va_G) (cI cZ cO : ClassId) (ad : Nat → Nat) (e : Nat → va_E) (X : va_W) (sz : Nat) : Array Value → State → Prop :=
  va_Pc as (fun U => (U.heap.size = sz ∧ va_P D vwCl (kC ad e ++ X) U.heap ∧ va_K D vwCl (kT cI cZ cO) U ∧ va_D (fun _ => True) (kC ad e ++ X)) ∧ kXM U)
theorem kPM_blind {as : List Value} {D : va_G} {cI cZ cO : ClassId} {ad : Nat → Nat} {e : Nat → va_E} {X : va_W} {sz : Nat} : FrameBlind (kPM as D cI cZ cO ad e X sz) := fun a U g mk q => by
  obtain ⟨q0, ⟨q1, qP, qK, qD⟩, qX⟩ := q
  exact ⟨q0, ⟨q1, qP, va_K.moved (u := U) (U := U.calling g mk a) (Vm.Alike.refl U.vm) qK, qD⟩, kXM_calling qX⟩
abbrev kQk (D : va_G) (cI cZ cO : ClassId) (ad : Nat → Nat) (e : Nat → va_E) (mo : kS) (sz : Nat) := va_Qr (fun (_ : Nat × Nat × Nat × Nat) => True) (fun u q t => va_P D vwCl (kC ad e ++ kXk cI cO q u.1 u.2.1 u.2.2.1 u.2.2.2 mo) t.heap ∧ va_K D vwCl (kT cI cZ cO) t ∧ va_D (fA ad sz) (kC ad e ++ kXk cI cO q u.1 u.2.1 u.2.2.1 u.2.2.2 mo)) (fA ad sz)
abbrev kQb (A : Nat → Prop) (D : va_G) (cI cZ cO : ClassId) (ad : Nat → Nat) (e : Nat → va_E) (X : va_W) := va_Qv (fun (_ : Unit) => True) (fun _ t => va_P D vwCl (kC ad e ++ X) t.heap ∧ va_K D vwCl (kT cI cZ cO) t ∧ va_D A (kC ad e ++ X)) A
abbrev rm_kept : Room := { frames := 2, cells := 5, slots := 593, locals := 60 }
abbrev rm_back : Room := { frames := 2, cells := 1, slots := 4, locals := 60 }

set_option maxHeartbeats 4000000 in
set_option maxRecDepth 100000 in
theorem c_X6_kept_ (l : Launch) {D : va_G} {cI cZ cO : ClassId} {ad : Nat → Nat} {k mo : kS} (sz : Nat) : Met l yX6_kept_ (Cond.code yX6_kept_ cX6_kept_ 1 (some (.array (.array .int))) :: kWA) rm_kept (kPM [.ref (ad 7)] D cI cZ cO ad (kE ad cI cZ cO k mo) [] sz) (kQk D cI cZ cO ad (kE ad cI cZ cO k mo) mo sz) 5 593 (fA ad sz) := by
  refine Met.ofW (cc := cX6_kept_) (maxL := 1) (ret := some (.array (.array .int))) (by decide +kernel) rfl ?_
  intro p e s mm args below meth c s₁ B hml hv
  obtain ⟨rfl, ⟨hsz, hP, hK, hD0⟩, XM⟩ := hv
  have hx := B.exec
  have hb := B.bytes
  have hr := B.returns
  have hts := atoms_spec (ws := Cond.code yX6_kept_ cX6_kept_ 1 (some (.array (.array .int))) :: kWA) B.pre
  have hown : s.vm.findClass RX6 = some mm.cls := findClass_of_methodNamed B.named
  have hlocks := B.notSynchronized
  subst hsz
  have hl := lv_entry [.ref (ad 7)] (n := 1) (Nat.le_of_ble_eq_true rfl)
  rw [lg_entry_eq]
  generalize (lg_sl [Value.ref (ad 7)] ++ List.replicate (1 - (lg_sl [Value.ref (ad 7)]).length) Slot.unset).toArray = ls at hl ⊢
  have hl : lv_has ls 1 [(0, .ref (ad 7))] := hl
  have V : kV p s mm ([Value.ref (ad 7)] : List Value).toArray meth c cX6_kept_ RX6 1 (some (.array (.array .int))) D cI cZ cO := ⟨hx, hb, hml, hown, fun w hw => hts w (List.mem_cons_of_mem _ hw), hr, hlocks, hK⟩
  have hD := hD0.self (sz := s.heap.size)
  rw [List.append_nil, fA_eq] at hD
  have hH : kHA (fA ad s.heap.size) s s.heap [] D ad (kE ad cI cZ cO k mo) [] := ⟨hP, by rw [List.append_nil]; exact hD, va_S.rf⟩
  refine lv_iconst (v := 4) hx hb dX6_kept__0 (by decide) ?_
  refine kz_anew V XM hH fA_new (N := 4) (by decide) (by decide) (by decide) (Nat.le_of_ble_eq_true rfl) (Nat.le_of_ble_eq_true rfl) dX6_kept__1 (fun xq H hH => ?_)
  refine W.widen (k := 1) (n := 4) (Nat.le_of_ble_eq_true rfl) (Nat.le_of_ble_eq_true rfl) ?_
  refine lv_dup hx hb dX6_kept__4 rfl ?_
  refine lv_iconst (v := 0) hx hb dX6_kept__5 (by decide) ?_
  refine lv_aload_n hx hb dX6_kept__6 rfl (lv_at hl 0 rfl) ?_
  refine kz_get V hH kE_7 3 (by decide) kf_X6_9 rfl dX6_kept__7 ?_
  refine kz_clone V XM hH fA_new hl.1 (q := 8) (by decide) kE_8 (Nat.le_of_ble_eq_true rfl) (Nat.le_of_ble_eq_true rfl) (Nat.le_of_ble_eq_true rfl) (Nat.le_of_ble_eq_true rfl) dX6_kept__10 (fun x1 H hH => ?_)
  refine W.widen (k := 2) (n := 364) (Nat.le_of_ble_eq_true rfl) (Nat.le_of_ble_eq_true rfl) ?_
  refine kz_cast V hH 1 rfl dX6_kept__13 ?_
  refine kz_aast V XM hH 0 rfl (109 + 1) (kC_xg rfl) (by decide) dX6_kept__16 (fun H locs hH => ?_)
  refine lv_dup hx hb dX6_kept__17 rfl ?_
  refine lv_iconst (v := 1) hx hb dX6_kept__18 (by decide) ?_
  refine lv_aload_n hx hb dX6_kept__19 rfl (lv_at hl 0 rfl) ?_
  refine kz_get V hH kE_7 4 (by decide) kf_X6_13 rfl dX6_kept__20 ?_
  refine kz_clone V XM hH fA_new hl.1 (q := 9) (by decide) kE_9 (Nat.le_of_ble_eq_true rfl) (Nat.le_of_ble_eq_true rfl) (Nat.le_of_ble_eq_true rfl) (Nat.le_of_ble_eq_true rfl) dX6_kept__23 (fun x2 H hH => ?_)
  refine W.widen (k := 3) (n := 412) (Nat.le_of_ble_eq_true rfl) (Nat.le_of_ble_eq_true rfl) ?_
  refine kz_cast V hH 2 rfl dX6_kept__26 ?_
  refine kz_aast V XM hH 0 rfl (109 + 2) (kC_xg rfl) (by decide) dX6_kept__29 (fun H locs hH => ?_)
  refine lv_dup hx hb dX6_kept__30 rfl ?_
  refine lv_iconst (v := 2) hx hb dX6_kept__31 (by decide) ?_
  refine lv_aload_n hx hb dX6_kept__32 rfl (lv_at hl 0 rfl) ?_
  refine kz_get V hH kE_7 5 (by decide) kf_X6_16 rfl dX6_kept__33 ?_
  refine kz_clone V XM hH fA_new hl.1 (q := 10) (by decide) kE_10 (Nat.le_of_ble_eq_true rfl) (Nat.le_of_ble_eq_true rfl) (Nat.le_of_ble_eq_true rfl) (Nat.le_of_ble_eq_true rfl) dX6_kept__36 (fun x3 H hH => ?_)
  refine W.widen (k := 4) (n := 592) (Nat.le_of_ble_eq_true rfl) (Nat.le_of_ble_eq_true rfl) ?_
  refine kz_cast V hH 3 rfl dX6_kept__39 ?_
  refine kz_aast V XM hH 0 rfl (109 + 3) (kC_xg rfl) (by decide) dX6_kept__42 (fun H locs hH => ?_)
  refine lv_dup hx hb dX6_kept__43 rfl ?_
  refine lv_iconst (v := 3) hx hb dX6_kept__44 (by decide) ?_
  refine lv_aload_n hx hb dX6_kept__45 rfl (lv_at hl 0 rfl) ?_
  refine kz_get V hH kE_7 6 (by decide) kf_X6_19 rfl dX6_kept__46 ?_
  refine kz_clone V XM hH fA_new hl.1 (q := 11) (by decide) kE_11 (Nat.le_of_ble_eq_true rfl) (Nat.le_of_ble_eq_true rfl) (Nat.le_of_ble_eq_true rfl) (Nat.le_of_ble_eq_true rfl) dX6_kept__49 (fun x4 H hH => ?_)
  refine W.widen (k := 5) (n := 593) (Nat.le_of_ble_eq_true rfl) (Nat.le_of_ble_eq_true rfl) ?_
  refine kz_cast V hH 4 rfl dX6_kept__52 ?_
  refine kz_aast V XM hH 0 rfl (109 + 4) (kC_xg rfl) (by decide) dX6_kept__55 (fun H locs hH => ?_)
  have hH : kHA (fA ad s.heap.size) s H locs D ad (kE ad cI cZ cO k mo) (kXk cI cO xq x1 x2 x3 x4 mo) := hH
  exact W.aret (v := .ref xq) hx hb hr (Or.inr ⟨_, rfl⟩) (Or.inr ⟨_, rfl⟩) (fun t ht hW => ⟨⟨(x1, x2, x3, x4), xq, rfl, trivial, by rw [ht]; exact hH.1, va_K.moved hW.alike hK, hH.2.1⟩, hH.2.2.F ht⟩) hH.2.2.2.2 dX6_kept__56 hlocks
set_option maxHeartbeats 4000000 in
set_option maxRecDepth 100000 in
theorem c_X6_bringBack (l : Launch) {D : va_G} {cI cZ cO : ClassId} {ad : Nat → Nat} {k mo m0 : kS} {xq x1 x2 x3 x4 : Nat} (sz : Nat) : Met l yX6_bringBack (Cond.code yX6_bringBack cX6_bringBack 4 none :: kWA) rm_back (kPM [.ref (ad 7), .ref xq] D cI cZ cO ad (kE ad cI cZ cO k mo) (kXk cI cO xq x1 x2 x3 x4 m0) sz) (kQb (va_A (kC ad (kE ad cI cZ cO k mo) ++ kXk cI cO xq x1 x2 x3 x4 m0) sz) D cI cZ cO ad (kE ad cI cZ cO k (kBack mo m0)) (kXk cI cO xq x1 x2 x3 x4 m0)) 1 4 (va_A (kC ad (kE ad cI cZ cO k mo) ++ kXk cI cO xq x1 x2 x3 x4 m0) sz) := by
  refine Met.ofW (cc := cX6_bringBack) (maxL := 4) (ret := none) (by decide +kernel) rfl ?_
  intro p e s mm args below meth c s₁ B hml hv
  obtain ⟨rfl, ⟨hsz, hP, hK, hD0⟩, XM⟩ := hv
  have hx := B.exec
  have hb := B.bytes
  have hr := B.returns
  have hts := atoms_spec (ws := Cond.code yX6_bringBack cX6_bringBack 4 none :: kWA) B.pre
  have hown : s.vm.findClass RX6 = some mm.cls := findClass_of_methodNamed B.named
  have hlocks := B.notSynchronized
  subst hsz
  have hl := lv_entry [.ref (ad 7), .ref xq] (n := 4) (Nat.le_of_ble_eq_true rfl)
  rw [lg_entry_eq]
  generalize (lg_sl [Value.ref (ad 7), .ref xq] ++ List.replicate (4 - (lg_sl [Value.ref (ad 7), .ref xq]).length) Slot.unset).toArray = ls at hl ⊢
  have hl : lv_has ls 4 [(0, .ref (ad 7)), (1, .ref xq)] := hl
  have V : kV p s mm ([Value.ref (ad 7), .ref xq] : List Value).toArray meth c cX6_bringBack RX6 4 none D cI cZ cO := ⟨hx, hb, hml, hown, fun w hw => hts w (List.mem_cons_of_mem _ hw), hr, hlocks, hK⟩
  have hD := hD0.self (sz := s.heap.size)
  generalize hAe : va_A (kC ad (kE ad cI cZ cO k mo) ++ kXk cI cO xq x1 x2 x3 x4 m0) s.heap.size = A at hD ⊢
  have hA : ∀ q : Nat, s.heap.size ≤ q → A q := fun q h => by rw [← hAe]; exact Or.inr h
  have hH : kHA A s s.heap [] D ad (kE ad cI cZ cO k mo) (kXk cI cO xq x1 x2 x3 x4 m0) := ⟨hP, hD, va_S.rf⟩
  refine lv_iconst (v := 4) hx hb dX6_bringBack_0 (by decide) ?_
  refine kz_anew V XM hH hA (N := 4) (by decide) (by decide) (by decide) (Nat.le_of_ble_eq_true rfl) (Nat.le_of_ble_eq_true rfl) dX6_bringBack_1 (fun yq H hH => ?_)
  refine W.widen (k := 1) (n := 4) (Nat.le_of_ble_eq_true rfl) (Nat.le_of_ble_eq_true rfl) ?_
  refine lv_dup hx hb dX6_bringBack_4 rfl ?_
  refine lv_iconst (v := 0) hx hb dX6_bringBack_5 (by decide) ?_
  refine lv_aload_n hx hb dX6_bringBack_6 rfl (lv_at hl 0 rfl) ?_
  refine kz_get V hH kE_7 3 (by decide) kf_X6_9 rfl dX6_bringBack_7 ?_
  refine kz_aast V XM hH 5 rfl 8 (by rw [kC_get (by decide), kE_8]) (by decide) dX6_bringBack_10 (fun H locs hH => ?_)
  refine lv_dup hx hb dX6_bringBack_11 rfl ?_
  refine lv_iconst (v := 1) hx hb dX6_bringBack_12 (by decide) ?_
  refine lv_aload_n hx hb dX6_bringBack_13 rfl (lv_at hl 0 rfl) ?_
  refine kz_get V hH kE_7 4 (by decide) kf_X6_13 rfl dX6_bringBack_14 ?_
  refine kz_aast V XM hH 5 rfl 9 (by rw [kC_get (by decide), kE_9]) (by decide) dX6_bringBack_17 (fun H locs hH => ?_)
  refine lv_dup hx hb dX6_bringBack_18 rfl ?_
  refine lv_iconst (v := 2) hx hb dX6_bringBack_19 (by decide) ?_
  refine lv_aload_n hx hb dX6_bringBack_20 rfl (lv_at hl 0 rfl) ?_
  refine kz_get V hH kE_7 5 (by decide) kf_X6_16 rfl dX6_bringBack_21 ?_
  refine kz_aast V XM hH 5 rfl 10 (by rw [kC_get (by decide), kE_10]) (by decide) dX6_bringBack_24 (fun H locs hH => ?_)
  refine lv_dup hx hb dX6_bringBack_25 rfl ?_
  refine lv_iconst (v := 3) hx hb dX6_bringBack_26 (by decide) ?_
  refine lv_aload_n hx hb dX6_bringBack_27 rfl (lv_at hl 0 rfl) ?_
  refine kz_get V hH kE_7 6 (by decide) kf_X6_19 rfl dX6_bringBack_28 ?_
  refine kz_aast V XM hH 5 rfl 11 (by rw [kC_get (by decide), kE_11]) (by decide) dX6_bringBack_31 (fun H locs hH => ?_)
  refine lv_astore_n (lv' := [(2, .ref yq), (0, .ref (ad 7)), (1, .ref xq)]) hx hb dX6_bringBack_32 rfl hl (by decide) rfl (fun ls hl => ?_)
  refine lv_iconst (v := 0) hx hb dX6_bringBack_33 (by decide) ?_
  refine lv_istore_n (lv' := [(3, .int 0), (2, .ref yq), (0, .ref (ad 7)), (1, .ref xq)]) hx hb dX6_bringBack_34 rfl hl (by decide) rfl (fun ls hl => ?_)
  refine lv_iload_n hx hb dX6_bringBack_35 rfl (lv_at hl 0 rfl) ?_
  refine lv_aload_n hx hb dX6_bringBack_36 rfl (lv_at hl 1 rfl) ?_
  refine kz_alenX V hH 5 rfl (v := 4) rfl dX6_bringBack_37 ?_
  refine lv_icmp_ge (tgt := 62) hx hb dX6_bringBack_38 (by decide) (fun hq => absurd hq (by decide)) (fun _ => ?_)
  refine lv_aload_n hx hb dX6_bringBack_41 rfl (lv_at hl 3 rfl) ?_
  refine lv_iload_n hx hb dX6_bringBack_42 rfl (lv_at hl 0 rfl) ?_
  refine kz_aald V hH 0 rfl (by decide) (v := .ref x1) rfl dX6_bringBack_43 ?_
  refine lv_iconst (v := 0) hx hb dX6_bringBack_44 (by decide) ?_
  refine lv_aload_n hx hb dX6_bringBack_45 rfl (lv_at hl 1 rfl) ?_
  refine lv_iload_n hx hb dX6_bringBack_46 rfl (lv_at hl 0 rfl) ?_
  refine kz_aald V hH 5 rfl (by decide) (v := .ref (ad 8)) rfl dX6_bringBack_47 ?_
  refine lv_iconst (v := 0) hx hb dX6_bringBack_48 (by decide) ?_
  refine lv_aload_n hx hb dX6_bringBack_49 rfl (lv_at hl 1 rfl) ?_
  refine lv_iload_n hx hb dX6_bringBack_50 rfl (lv_at hl 0 rfl) ?_
  refine kz_aald V hH 5 rfl (by decide) (v := .ref (ad 8)) rfl dX6_bringBack_51 ?_
  refine kz_alenP V hH (q := 8) (by decide) kE_8 (v := 360) rfl dX6_bringBack_52 ?_
  refine kz_copy V hH hl.1 1 rfl (q := 8) (by decide) (fun _ => kE_8) (by decide) (by decide) (Nat.le_of_ble_eq_true rfl) (Nat.le_of_ble_eq_true rfl) dX6_bringBack_53 (fun H locs hH => ?_)
  refine lv_iinc (v := 1) (lv' := [(3, .int 1), (2, .ref yq), (0, .ref (ad 7)), (1, .ref xq)]) hx hb dX6_bringBack_56 hl (k := 0) rfl (by decide) (by decide) rfl (fun ls hl => ?_)
  refine lv_goto (tgt := 35) hx hb dX6_bringBack_59 (by decide) ?_
  refine lv_iload_n hx hb dX6_bringBack_35 rfl (lv_at hl 0 rfl) ?_
  refine lv_aload_n hx hb dX6_bringBack_36 rfl (lv_at hl 1 rfl) ?_
  refine kz_alenX V hH 5 rfl (v := 4) rfl dX6_bringBack_37 ?_
  refine lv_icmp_ge (tgt := 62) hx hb dX6_bringBack_38 (by decide) (fun hq => absurd hq (by decide)) (fun _ => ?_)
  refine lv_aload_n hx hb dX6_bringBack_41 rfl (lv_at hl 3 rfl) ?_
  refine lv_iload_n hx hb dX6_bringBack_42 rfl (lv_at hl 0 rfl) ?_
  refine kz_aald V hH 0 rfl (by decide) (v := .ref x2) rfl dX6_bringBack_43 ?_
  refine lv_iconst (v := 0) hx hb dX6_bringBack_44 (by decide) ?_
  refine lv_aload_n hx hb dX6_bringBack_45 rfl (lv_at hl 1 rfl) ?_
  refine lv_iload_n hx hb dX6_bringBack_46 rfl (lv_at hl 0 rfl) ?_
  refine kz_aald V hH 5 rfl (by decide) (v := .ref (ad 9)) rfl dX6_bringBack_47 ?_
  refine lv_iconst (v := 0) hx hb dX6_bringBack_48 (by decide) ?_
  refine lv_aload_n hx hb dX6_bringBack_49 rfl (lv_at hl 1 rfl) ?_
  refine lv_iload_n hx hb dX6_bringBack_50 rfl (lv_at hl 0 rfl) ?_
  refine kz_aald V hH 5 rfl (by decide) (v := .ref (ad 9)) rfl dX6_bringBack_51 ?_
  refine kz_alenP V hH (q := 9) (by decide) kE_9 (v := 48) rfl dX6_bringBack_52 ?_
  refine kz_copy V hH hl.1 2 rfl (q := 9) (by decide) (fun _ => kE_9) (by decide) (by decide) (Nat.le_of_ble_eq_true rfl) (Nat.le_of_ble_eq_true rfl) dX6_bringBack_53 (fun H locs hH => ?_)
  refine lv_iinc (v := 2) (lv' := [(3, .int 2), (2, .ref yq), (0, .ref (ad 7)), (1, .ref xq)]) hx hb dX6_bringBack_56 hl (k := 0) rfl (by decide) (by decide) rfl (fun ls hl => ?_)
  refine lv_goto (tgt := 35) hx hb dX6_bringBack_59 (by decide) ?_
  refine lv_iload_n hx hb dX6_bringBack_35 rfl (lv_at hl 0 rfl) ?_
  refine lv_aload_n hx hb dX6_bringBack_36 rfl (lv_at hl 1 rfl) ?_
  refine kz_alenX V hH 5 rfl (v := 4) rfl dX6_bringBack_37 ?_
  refine lv_icmp_ge (tgt := 62) hx hb dX6_bringBack_38 (by decide) (fun hq => absurd hq (by decide)) (fun _ => ?_)
  refine lv_aload_n hx hb dX6_bringBack_41 rfl (lv_at hl 3 rfl) ?_
  refine lv_iload_n hx hb dX6_bringBack_42 rfl (lv_at hl 0 rfl) ?_
  refine kz_aald V hH 0 rfl (by decide) (v := .ref x3) rfl dX6_bringBack_43 ?_
  refine lv_iconst (v := 0) hx hb dX6_bringBack_44 (by decide) ?_
  refine lv_aload_n hx hb dX6_bringBack_45 rfl (lv_at hl 1 rfl) ?_
  refine lv_iload_n hx hb dX6_bringBack_46 rfl (lv_at hl 0 rfl) ?_
  refine kz_aald V hH 5 rfl (by decide) (v := .ref (ad 10)) rfl dX6_bringBack_47 ?_
  refine lv_iconst (v := 0) hx hb dX6_bringBack_48 (by decide) ?_
  refine lv_aload_n hx hb dX6_bringBack_49 rfl (lv_at hl 1 rfl) ?_
  refine lv_iload_n hx hb dX6_bringBack_50 rfl (lv_at hl 0 rfl) ?_
  refine kz_aald V hH 5 rfl (by decide) (v := .ref (ad 10)) rfl dX6_bringBack_51 ?_
  refine kz_alenP V hH (q := 10) (by decide) kE_10 (v := 180) rfl dX6_bringBack_52 ?_
  refine kz_copy V hH hl.1 3 rfl (q := 10) (by decide) (fun _ => kE_10) (by decide) (by decide) (Nat.le_of_ble_eq_true rfl) (Nat.le_of_ble_eq_true rfl) dX6_bringBack_53 (fun H locs hH => ?_)
  refine lv_iinc (v := 3) (lv' := [(3, .int 3), (2, .ref yq), (0, .ref (ad 7)), (1, .ref xq)]) hx hb dX6_bringBack_56 hl (k := 0) rfl (by decide) (by decide) rfl (fun ls hl => ?_)
  refine lv_goto (tgt := 35) hx hb dX6_bringBack_59 (by decide) ?_
  refine lv_iload_n hx hb dX6_bringBack_35 rfl (lv_at hl 0 rfl) ?_
  refine lv_aload_n hx hb dX6_bringBack_36 rfl (lv_at hl 1 rfl) ?_
  refine kz_alenX V hH 5 rfl (v := 4) rfl dX6_bringBack_37 ?_
  refine lv_icmp_ge (tgt := 62) hx hb dX6_bringBack_38 (by decide) (fun hq => absurd hq (by decide)) (fun _ => ?_)
  refine lv_aload_n hx hb dX6_bringBack_41 rfl (lv_at hl 3 rfl) ?_
  refine lv_iload_n hx hb dX6_bringBack_42 rfl (lv_at hl 0 rfl) ?_
  refine kz_aald V hH 0 rfl (by decide) (v := .ref x4) rfl dX6_bringBack_43 ?_
  refine lv_iconst (v := 0) hx hb dX6_bringBack_44 (by decide) ?_
  refine lv_aload_n hx hb dX6_bringBack_45 rfl (lv_at hl 1 rfl) ?_
  refine lv_iload_n hx hb dX6_bringBack_46 rfl (lv_at hl 0 rfl) ?_
  refine kz_aald V hH 5 rfl (by decide) (v := .ref (ad 11)) rfl dX6_bringBack_47 ?_
  refine lv_iconst (v := 0) hx hb dX6_bringBack_48 (by decide) ?_
  refine lv_aload_n hx hb dX6_bringBack_49 rfl (lv_at hl 1 rfl) ?_
  refine lv_iload_n hx hb dX6_bringBack_50 rfl (lv_at hl 0 rfl) ?_
  refine kz_aald V hH 5 rfl (by decide) (v := .ref (ad 11)) rfl dX6_bringBack_51 ?_
  refine kz_alenP V hH (q := 11) (by decide) kE_11 (v := 1) rfl dX6_bringBack_52 ?_
  refine kz_copy V hH hl.1 4 rfl (q := 11) (by decide) (fun _ => kE_11) (by decide) (by decide) (Nat.le_of_ble_eq_true rfl) (Nat.le_of_ble_eq_true rfl) dX6_bringBack_53 (fun H locs hH => ?_)
  refine lv_iinc (v := 4) (lv' := [(3, .int 4), (2, .ref yq), (0, .ref (ad 7)), (1, .ref xq)]) hx hb dX6_bringBack_56 hl (k := 0) rfl (by decide) (by decide) rfl (fun ls hl => ?_)
  refine lv_goto (tgt := 35) hx hb dX6_bringBack_59 (by decide) ?_
  refine lv_iload_n hx hb dX6_bringBack_35 rfl (lv_at hl 0 rfl) ?_
  refine lv_aload_n hx hb dX6_bringBack_36 rfl (lv_at hl 1 rfl) ?_
  refine kz_alenX V hH 5 rfl (v := 4) rfl dX6_bringBack_37 ?_
  refine lv_icmp_ge (tgt := 62) hx hb dX6_bringBack_38 (by decide) (fun _ => ?_) (fun hq => absurd (by decide) hq)
  have hP9 : va_P D vwCl (kC ad (kE ad cI cZ cO k (kBack mo m0)) ++ kXk cI cO xq x1 x2 x3 x4 m0) H := hH.1.by id (fun i x hi => by
    have hi' : (kC ad (kE ad cI cZ cO k (kBack mo m0)) ++ kXk cI cO xq x1 x2 x3 x4 m0)[i]? = some x := hi
    show ((kC ad (kE ad cI cZ cO k (kBack mo m0)) ++ (kXk cI cO xq x1 x2 x3 x4 m0 ++ [_])))[i]? = some x
    rw [← List.append_assoc, List.getElem?_append_left (List.getElem?_eq_some_iff.mp hi').1]
    exact hi')
  have hD9 : va_D A (kC ad (kE ad cI cZ cO k (kBack mo m0)) ++ kXk cI cO xq x1 x2 x3 x4 m0) := hH.2.1.by id (fun i x hi => by
    have hi' : (kC ad (kE ad cI cZ cO k (kBack mo m0)) ++ kXk cI cO xq x1 x2 x3 x4 m0)[i]? = some x := hi
    show ((kC ad (kE ad cI cZ cO k (kBack mo m0)) ++ (kXk cI cO xq x1 x2 x3 x4 m0 ++ [_])))[i]? = some x
    rw [← List.append_assoc, List.getElem?_append_left (List.getElem?_eq_some_iff.mp hi').1]
    exact hi') (fun i j _ _ e => e)
  exact W.vret hx hb hr (fun t ht hW => ⟨⟨(), rfl, trivial, by rw [ht]; exact hP9, va_K.moved hW.alike hK, hD9⟩, hH.2.2.F ht⟩) hH.2.2.2.2 dX6_bringBack_62 hlocks
