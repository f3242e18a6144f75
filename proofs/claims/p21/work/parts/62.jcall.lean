/-! CONTRACTS OVER THE LAW'S WORLD -/
theorem jis_l (a b : va_W) : (List.range a.length).map (fun i => (a ++ b)[i]?) = a.map some := by
  apply List.ext_getElem?
  intro i
  by_cases h : i < a.length
  · rw [List.getElem?_map, List.getElem?_range h, List.getElem?_map]
    simp only [Option.map_some]
    rw [List.getElem?_append_left h, List.getElem?_eq_getElem h]
    rfl
  · rw [List.getElem?_eq_none (by simp; omega), List.getElem?_eq_none (by simp; omega)]
theorem jis_r (a b : va_W) : ((List.range b.length).map (a.length + ·)).map (fun i => (a ++ b)[i]?) = b.map some := by
  apply List.ext_getElem?
  intro i
  by_cases h : i < b.length
  · rw [List.getElem?_map, List.getElem?_map, List.getElem?_range h, List.getElem?_map]
    simp only [Option.map_some]
    rw [List.getElem?_append_right (by omega), show a.length + i - a.length = i by omega, List.getElem?_eq_getElem h]
    rfl
  · rw [List.getElem?_eq_none (by simp; omega), List.getElem?_eq_none (by simp; omega)]
theorem jis_nd (k n : Nat) : va_nd ((List.range n).map (k + ·)) = true := va_nd_of _ (List.pairwise_map.mpr (List.Pairwise.imp (fun h e => h (Nat.add_left_cancel e)) (List.nodup_range (n := n))))
def jP (as : List Value) (D : va_G) (g : Nat → ClassId) (ad : Nat → Nat) (z : kS) (sz : Nat) : Array Value → State → Prop :=
  va_Pc as (fun U => (U.heap.size = sz ∧ va_P D vwCl (jC g ad z) U.heap ∧ va_K D vwCl (jT g) U ∧ va_D (fun _ => True) (jC g ad z)) ∧ jX U)
theorem jP_blind {as : List Value} {D : va_G} {g : Nat → ClassId} {ad : Nat → Nat} {z : kS} {sz : Nat} : FrameBlind (jP as D g ad z sz) := fun a U g mk q => by
  obtain ⟨q0, ⟨q1, qP, qK, qD⟩, qX⟩ := q
  exact ⟨q0, ⟨q1, qP, va_K.moved (u := U) (U := U.calling g mk a) (Vm.Alike.refl U.vm) qK, qD⟩, qX.calling⟩
def jEnd (D : va_G) (g : Nat → ClassId) (A : Nat → Prop) (z : kS) (T : va_W) : (Nat → Nat) → State → Prop := fun ad t =>
  va_P D vwCl (jC g ad z ++ T) t.heap ∧ va_K D vwCl (jT g) t ∧ va_D A (jC g ad z ++ T)
abbrev jQi (r : Int32) (G : (Nat → Nat) → Prop) (D : va_G) (g : Nat → ClassId) (A : Nat → Prop) (z : kS) := va_Qi (fun (r' : Int32) (ad : Nat → Nat) => r' = r ∧ G ad) (jEnd D g A z []) A
abbrev jQv (G : (Nat → Nat) → Prop) (D : va_G) (g : Nat → ClassId) (A : Nat → Prop) (z : kS) := va_Qv (fun (ad : Nat → Nat) => G ad) (jEnd D g A z []) A
abbrev jQq (b : Nat) (r : Int32) (G : (Nat → Nat) → Prop) (D : va_G) (g : Nat → ClassId) (A : Nat → Prop) (z : kS) := va_Qq (fun (o : Option Nat) (ad : Nat → Nat) => o = jr ad b r ∧ G ad) (jEnd D g A z []) A
/-- the answer is a new array of Persons -/
abbrev jQr (xl : Int32) (xf : Nat → Int32) (ad : Nat → Nat) (D : va_G) (g : Nat → ClassId) (A : Nat → Prop) (z : kS) := va_Qr (fun (_ : Unit) => True) (fun (_ : Unit) (a : Nat) (t : State) => jEnd D g A z [jTp g ad a xl xf] ad t) A
/-- all but the arrays of rulers stand where they stood -/
def jH3 (ad : Nat → Nat) : (Nat → Nat) → Prop := fun a => ∀ p, p % 4 ≠ 3 → a p = ad p
theorem jH3.rf {ad : Nat → Nat} : jH3 ad ad := fun _ _ => rfl
theorem jH3.tr {a b c : Nat → Nat} (h : jH3 a b) (h2 : jH3 b c) : jH3 a c := fun p hp => (h2 p hp).trans (h p hp)
theorem jH3.r1 {a b : Nat → Nat} (h : jH3 a b) (c : Int32) : jr b 1 c = jr a 1 c := by unfold jr; rw [h _ (by omega)]
theorem jH3.r2 {a b : Nat → Nat} (h : jH3 a b) (c : Int32) : jr b 2 c = jr a 2 c := by unfold jr; rw [h _ (by omega)]
section JC
variable {p : Program} {l : Launch} {e : Env} {R : Room} {s : State} {m : MethodId} {args : Array Value} {below : List Frame} {meth : Method} {c : Code} {H : Heap} {locs : List Loc} {cells slots : Nat} {Q : State → Prop} {A : Nat → Prop}
variable {cc : ByteArray} {own : String} {nL : Nat} {ret : Option FieldType} {D : va_G} {g : Nat → ClassId} {ad : Nat → Nat} {z z2 : kS} {Y X : va_W} {pc : Nat} {ls : Array Slot} {rest : List Value} {lv lv' : List (Nat × Value)} {G : (Nat → Nat) → Prop}
theorem jperm {a b c : va_W} : (a ++ (b ++ c)).Perm (b ++ (a ++ c)) := by
  rw [← List.append_assoc, ← List.append_assoc]
  exact List.Perm.append_right c List.perm_append_comm
theorem jH_pre (h : jH A s H locs D g ad z Y X) (V : jV p s m args meth c cc own nL ret D g) {as : List Value} : ∀ U : State, U.heap = H → s.WarmedH U.vm → jP as D g ad z H.size as.toArray U := by
  intro U hU hW
  obtain ⟨hx, hb, hml, hown, hts, hr, hlk, hK, hJ⟩ := V
  refine ⟨rfl, ⟨by rw [hU], ?_, va_K.moved hW.alike hK, ?_⟩, hJ.warm hW⟩
  · rw [hU]
    exact va_P_take h.1 jperm
  · exact (va_D_take h.2.1 jperm).weaken (fun _ _ _ _ => trivial)
theorem jH_free (h : jH A s H locs D g ad z Y X) (hA : ∀ q, s.heap.size ≤ q → A q) : ∀ q, va_A (jC g ad z) H.size q → A q := by
  rintro q (⟨k, x, hk⟩ | hq)
  · have h2 := va_D_take h.2.1 jperm
    exact h2.2 k (q, x) hk
  · exact hA q (Nat.le_trans h.2.2.1 hq)
theorem jH_join (h : jH A s H locs D g ad z Y X) (hA : ∀ q, s.heap.size ≤ q → A q) {w1 : va_W} {H1 : Heap} {locs1 : List Loc} (hP1 : va_P D vwCl w1 H1) (hD1 : va_D (va_A (jC g ad z) H.size) w1) (hk : ∀ q : Nat, q < H.size → ¬ va_A (jC g ad z) H.size q → H1[q]? = H[q]?) : va_P D vwCl ((Y ++ X) ++ w1) H1 ∧ va_D A ((Y ++ X) ++ w1) :=
  va_join (ws := jC g ad z ++ (Y ++ X)) (wc := jC g ad z) (wr := Y ++ X) (w1 := w1) (va_P_perm h.1 jperm) (va_D_perm h.2.1 jperm) (List.range (jC g ad z).length) ((List.range (Y ++ X).length).map ((jC g ad z).length + ·)) (jis_l _ _) (jis_r _ _) (jis_nd _ _) (fun i hi hi2 => by
      obtain ⟨j, -, rfl⟩ := List.mem_map.mp hi
      have := List.mem_range.mp hi2
      omega) hk (jH_free h hA) hP1 hD1
theorem jperm2 {y x w t : va_W} : ((y ++ x) ++ (w ++ t)).Perm (y ++ (w ++ (x ++ t))) := by
  rw [List.append_assoc]
  refine List.Perm.append_left y ?_
  exact jperm
theorem jH_back (h : jH A s H locs D g ad z Y X) (hA : ∀ q, s.heap.size ≤ q → A q) {ad2 : Nat → Nat} {T : va_W} {H1 : Heap} {locs1 : List Loc} (hP1 : va_P D vwCl (jC g ad2 z2 ++ T) H1) (hD1 : va_D (va_A (jC g ad z) H.size) (jC g ad2 z2 ++ T)) (hk : ∀ q : Nat, q < H.size → ¬ va_A (jC g ad z) H.size q → H1[q]? = H[q]?) (hS : va_S A s.heap H1 locs1) : jH A s H1 locs1 D g ad2 z2 Y (X ++ T) := by
  obtain ⟨hP, hD⟩ := jH_join h hA hP1 hD1 hk (locs1 := locs1)
  exact ⟨va_P_perm hP jperm2, va_D_perm hD jperm2, hS⟩
theorem jH_back0 (h : jH A s H locs D g ad z Y X) (hA : ∀ q, s.heap.size ≤ q → A q) {ad2 : Nat → Nat} {H1 : Heap} {locs1 : List Loc} (hP1 : va_P D vwCl (jC g ad2 z2 ++ []) H1) (hD1 : va_D (va_A (jC g ad z) H.size) (jC g ad2 z2 ++ [])) (hk : ∀ q : Nat, q < H.size → ¬ va_A (jC g ad z) H.size q → H1[q]? = H[q]?) (hS : va_S A s.heap H1 locs1) : jH A s H1 locs1 D g ad2 z2 Y X := by
  have := jH_back h hA hP1 hD1 hk hS
  rwa [List.append_nil] at this
/-- fewer cells beside the places -/
theorem jH_sub (h : jH A s H locs D g ad z Y X) (is : List Nat) (hn : va_nd is = true) {X' : va_W} (hs : is.map (fun i => X[i]?) = X'.map some) : jH A s H locs D g ad z Y X' := by
  have hD0 := va_D_perm h.2.1 (ws' := X ++ (Y ++ jC g ad z)) (by rw [← List.append_assoc]; exact List.perm_append_comm)
  have hP0 := va_P_perm h.1 (ws' := X ++ (Y ++ jC g ad z)) (by rw [← List.append_assoc]; exact List.perm_append_comm)
  have hP1 : va_P D vwCl (X' ++ (Y ++ jC g ad z)) H := by
    refine va_P.app ?_ (fun k q hk => hP0 (X.length + k) q (by rw [List.getElem?_append_right (by omega), show X.length + k - X.length = k by omega]; exact hk))
    intro k q hk
    have h1 : (is.map (fun i => X[i]?))[k]? = some (some q) := by rw [hs, List.getElem?_map, hk]; rfl
    rw [List.getElem?_map] at h1
    cases hi : is[k]? with
    | none => rw [hi] at h1; cases h1
    | some i =>
      rw [hi] at h1
      have h2 : X[i]? = some q := Option.some.inj h1
      exact hP0 i q (by rw [List.getElem?_append_left (List.getElem?_eq_some_iff.mp h2).1]; exact h2)
  have hD1 : va_D A (X' ++ (Y ++ jC g ad z)) := by
    refine va_D.app (va_D.sub (va_D_take hD0 (List.Perm.refl _)) is hn hs) (va_D_take (b := X) hD0 List.perm_append_comm) (fun i j x y hx hy hxy => ?_)
    have h1 : (is.map (fun i => X[i]?))[i]? = some (some x) := by rw [hs, List.getElem?_map, hx]; rfl
    rw [List.getElem?_map] at h1
    cases hi : is[i]? with
    | none => rw [hi] at h1; cases h1
    | some k =>
      rw [hi] at h1
      have h2 : X[k]? = some x := Option.some.inj h1
      have hl := (List.getElem?_eq_some_iff.mp h2).1
      have := hD0.1 k (X.length + j) x y (by rw [List.getElem?_append_left hl]; exact h2) (by rw [List.getElem?_append_right (by omega), show X.length + j - X.length = j by omega]; exact hy) hxy
      omega
  have pp : (X' ++ (Y ++ jC g ad z)).Perm (Y ++ (jC g ad z ++ X')) := by
    rw [← List.append_assoc (as := Y)]
    exact List.perm_append_comm
  exact ⟨va_P_perm hP1 pp, va_D_perm hD1 pp, h.2.2⟩
/-! ends -/
theorem jEnd_of (V : jV p s m args meth c cc own nL ret D g) {T X' : va_W} (h : jH A s H locs D g ad z [] (T ++ X')) {t : State} (ht : t.heap = H) (hW : s.WarmedH t.vm) : jEnd D g A z T ad t := by
  refine ⟨?_, va_K.moved hW.alike V.2.2.2.2.2.2.2.1, ?_⟩
  · rw [ht]
    refine va_P_take (b := X') h.1 ?_
    rw [List.nil_append, List.append_assoc]
  · refine va_D_take (b := X') h.2.1 ?_
    rw [List.nil_append, List.append_assoc]
theorem je_iret (V : jV p s m args meth c cc own nL (some .int) D g) (hG : G ad) (h : jH A s H locs D g ad z [] X) {r : Int32} (hdg : decode cc pc = .ok (.ireturn, 1)) : W p l e R s m args below meth c H locs cells slots (MQ below (jQi r G D g A z) args s cells slots A) (F0 m pc ls [.int r]) :=
  W.iret (v := r) V.1 V.2.1 V.2.2.2.2.2.1 (fun t ht hW => ⟨⟨r, ad, rfl, ⟨rfl, hG⟩, jEnd_of V (T := []) h ht hW⟩, h.2.2.F ht⟩) h.2.2.2.2 hdg V.2.2.2.2.2.2.1
theorem je_zret (V : jV p s m args meth c cc own nL (some .boolean) D g) (hG : G ad) (h : jH A s H locs D g ad z [] X) {r : Int32} (hr : r = 0 ∨ r = 1) (hdg : decode cc pc = .ok (.ireturn, 1)) : W p l e R s m args below meth c H locs cells slots (MQ below (jQi r G D g A z) args s cells slots A) (F0 m pc ls [.int r]) :=
  W.zret (v := r) V.1 V.2.1 V.2.2.2.2.2.1 (by rcases hr with rfl | rfl <;> rfl) (fun t ht hW => ⟨⟨r, ad, rfl, ⟨rfl, hG⟩, jEnd_of V (T := []) h ht hW⟩, h.2.2.F ht⟩) h.2.2.2.2 hdg V.2.2.2.2.2.2.1
theorem je_vret (V : jV p s m args meth c cc own nL none D g) (hG : G ad) (h : jH A s H locs D g ad z [] X) (hdg : decode cc pc = .ok (.return_, 1)) : W p l e R s m args below meth c H locs cells slots (MQ below (jQv G D g A z) args s cells slots A) (F0 m pc ls []) :=
  W.vret V.1 V.2.1 V.2.2.2.2.2.1 (fun t ht hW => ⟨⟨ad, rfl, hG, jEnd_of V (T := []) h ht hW⟩, h.2.2.F ht⟩) h.2.2.2.2 hdg V.2.2.2.2.2.2.1
theorem je_qret {n : String} (V : jV p s m args meth c cc own nL (some (.object n)) D g) (hG : G ad) (h : jH A s H locs D g ad z [] X) {b : Nat} {r : Int32} (hdg : decode cc pc = .ok (.areturn, 1)) : W p l e R s m args below meth c H locs cells slots (MQ below (jQq b r G D g A z) args s cells slots A) (F0 m pc ls [jv ad b r]) :=
  W.aret (v := jv ad b r) V.1 V.2.1 V.2.2.2.2.2.1 (Or.inl ⟨n, rfl⟩) (va_rf_or _) (fun t ht hW => ⟨⟨jr ad b r, ad, rfl, ⟨rfl, hG⟩, jEnd_of V (T := []) h ht hW⟩, h.2.2.F ht⟩) h.2.2.2.2 hdg V.2.2.2.2.2.2.1
theorem je_rret {ty : FieldType} (V : jV p s m args meth c cc own nL (some (.array ty)) D g) {xq : Nat} {xl : Int32} {xf : Nat → Int32} (h : jH A s H locs D g ad z [] [jTp g ad xq xl xf]) (hdg : decode cc pc = .ok (.areturn, 1)) : W p l e R s m args below meth c H locs cells slots (MQ below (jQr xl xf ad D g A z) args s cells slots A) (F0 m pc ls [.ref xq]) :=
  W.aret (v := .ref xq) V.1 V.2.1 V.2.2.2.2.2.1 (Or.inr ⟨ty, rfl⟩) (Or.inr ⟨xq, rfl⟩) (fun t ht hW => ⟨⟨(), xq, rfl, trivial, jEnd_of V (X' := []) (by rw [List.append_nil]; exact h) ht hW⟩, h.2.2.F ht⟩) h.2.2.2.2 hdg V.2.2.2.2.2.2.1
/-! calls -/
variable {y : MethodName} {bytes : ByteArray} {maxL n mc ms index : Nat} {rt : Option FieldType} {rm : Room} {as : List Value}
theorem jr_runV {Qc : Array Value → State → Outcome → State → Prop} (V : jV p s m args meth c cc own nL ret D g) (h : jH A s H locs D g ad z Y X) (hY : kY RX8 y bytes maxL rt n) (w1 : Cond.methodLink own index y ∈ kWA)
    (hM : Met l y (Cond.code y bytes maxL rt :: kWA) rm (jP (.ref (ad 0) :: as) D g ad z H.size) Qc mc ms (va_A (jC g ad z) H.size))
    (hrc : rm.cells = mc) (hrs : rm.slots = ms) (hR : rm.frames + 1 ≤ R.frames ∧ 8 + (maxL + 11) + rm.locals ≤ R.locals) (hn : as.length = n) (hsz : ls.size = nL) (hroom : rest.length ≤ 4) (hdg : decode cc pc = .ok (.invokevirtual index, 3)) (hf : cells + mc ≤ R.cells ∧ slots + ms ≤ R.slots) {st : List Value} (hst : st = as.reverse ++ .ref (ad 0) :: rest) :
    va_Run p l e R s m args below meth c H locs cells slots mc ms (F0 m pc ls st) rest (Qc (Value.ref (ad 0) :: as).toArray) (va_A (jC g ad z) H.size) := by
  have V' := V
  obtain ⟨hx, hb, hml, hown, hts, hr, hlk, hK, hJ⟩ := V
  obtain ⟨y1, y2, y3, y4, y5⟩ := hY
  obtain ⟨i, hi, -⟩ := jC_at (g := g) (ad := ad) (jPl_0 (z := z)) Y X
  rw [jE_0] at hi
  refine va_runV (As := as) (rest := rest) (C := RX8) (b := ad 0) (nL := nL) ⟨hx, hb, hml, hown, hts⟩ hM (cwV n hts (fun w hw => ?_) rfl hrc hrs y5 hR) ⟨jP_blind, va_recv (q := (RX8, TX8, 3)) hK h.1 (ci := 8) (q0 := i) rfl hi, fun U hU hW => jH_pre h V' U hU hW⟩ rfl hn hsz hst (lv_room (jroom hroom)) hdg hf
  rcases List.mem_append.mp hw with hw | hw
  · simp only [List.mem_cons, List.not_mem_nil, or_false] at hw
    rcases hw with rfl | rfl | rfl | rfl
    · exact ⟨w1, kWA_good _ w1⟩
    · exact ⟨y1, kWA_good _ y1⟩
    · exact ⟨y2, kWA_good _ y2⟩
    · exact ⟨y3, kWA_good _ y3⟩
  · exact kY_good y4 w hw
theorem jr_runS {Qc : Array Value → State → Outcome → State → Prop} (V : jV p s m args meth c cc own nL ret D g) (h : jH A s H locs D g ad z Y X) (hY : kYs y bytes maxL rt n) (w1 : Cond.methodLink own index y ∈ kWA)
    (hM : Met l y (Cond.code y bytes maxL rt :: kWA) rm (jP as D g ad z H.size) Qc mc ms (va_A (jC g ad z) H.size))
    (hrc : rm.cells = mc) (hrs : rm.slots = ms) (hR : rm.frames + 1 ≤ R.frames ∧ 8 + (maxL + 11) + rm.locals ≤ R.locals) (hn : as.length = n) (hsz : ls.size = nL) (hroom : rest.length ≤ 4) (hdg : decode cc pc = .ok (.invokestatic index, 3)) (hf : cells + mc ≤ R.cells ∧ slots + ms ≤ R.slots) {st : List Value} (hst : st = as.reverse ++ rest) :
    va_Run p l e R s m args below meth c H locs cells slots mc ms (F0 m pc ls st) rest (Qc as.toArray) (va_A (jC g ad z) H.size) := by
  have V' := V
  obtain ⟨hx, hb, hml, hown, hts, hr, hlk, hK, hJ⟩ := V
  obtain ⟨y1, y2, y3, y4⟩ := hY
  refine va_runS (As := as) (rest := rest) (nL := nL) ⟨hx, hb, hml, hown, hts⟩ hM (va_cwS n hts (fun w hw => ?_) rfl hrc hrs y4 hR) ⟨jP_blind, fun U hU hW => jH_pre h V' U hU hW⟩ rfl hn hsz hst (lv_room (jroom hroom)) hdg hf
  rcases List.mem_append.mp hw with hw | hw
  · simp only [List.mem_cons, List.not_mem_nil, or_false] at hw
    rcases hw with rfl | rfl | rfl
    · exact ⟨w1, kWA_good _ w1⟩
    · exact ⟨y1, kWA_good _ y1⟩
    · exact ⟨y2, kWA_good _ y2⟩
  · exact kY_good y3 w hw
theorem jr_calli {r : Int32} {a : Array Value} {st : List Value} (hA : ∀ q, s.heap.size ≤ q → A q) (h : jH A s H locs D g ad z Y X) (hr : va_Run p l e R s m args below meth c H locs cells slots mc ms (F0 m pc ls st) rest (jQi r G D g (va_A (jC g ad z) H.size) z2 a) (va_A (jC g ad z) H.size)) (kk : ∀ (ad2 : Nat → Nat) (H1 : Heap) (locs1 : List Loc), G ad2 → jH A s H1 locs1 D g ad2 z2 Y X → W p l e R s m args below meth c H1 locs1 (cells + mc) (slots + ms) Q (F0 m (pc + 3) ls (.int r :: rest))) : W p l e R s m args below meth c H locs cells slots Q (F0 m pc ls st) := by
  refine va_calli hr h.2.2 (fun q _ h2 => jH_free h hA q h2) (jH_free h hA) (fun r' u t H1 locs1 ht hvm hp hB hz hk hS => ?_)
  obtain ⟨rfl, hG⟩ := hp
  obtain ⟨h1, h2, h3⟩ := hB
  rw [ht] at h1
  exact kk u _ _ hG (jH_back0 h hA h1 h3 hk hS)
theorem jr_callv {a : Array Value} {st : List Value} (hA : ∀ q, s.heap.size ≤ q → A q) (h : jH A s H locs D g ad z Y X) (hr : va_Run p l e R s m args below meth c H locs cells slots mc ms (F0 m pc ls st) rest (jQv G D g (va_A (jC g ad z) H.size) z2 a) (va_A (jC g ad z) H.size)) (kk : ∀ (ad2 : Nat → Nat) (H1 : Heap) (locs1 : List Loc), G ad2 → jH A s H1 locs1 D g ad2 z2 Y X → W p l e R s m args below meth c H1 locs1 (cells + mc) (slots + ms) Q (F0 m (pc + 3) ls rest)) : W p l e R s m args below meth c H locs cells slots Q (F0 m pc ls st) := by
  refine va_callv hr h.2.2 (fun q _ h2 => jH_free h hA q h2) (jH_free h hA) (fun u t H1 locs1 ht hvm hp hB hz hk hS => ?_)
  obtain ⟨h1, h2, h3⟩ := hB
  rw [ht] at h1
  exact kk u _ _ hp (jH_back0 h hA h1 h3 hk hS)
theorem jr_callq {b : Nat} {r : Int32} {a : Array Value} {st : List Value} (hA : ∀ q, s.heap.size ≤ q → A q) (h : jH A s H locs D g ad z Y X) (hr : va_Run p l e R s m args below meth c H locs cells slots mc ms (F0 m pc ls st) rest (jQq b r G D g (va_A (jC g ad z) H.size) z2 a) (va_A (jC g ad z) H.size)) (kk : ∀ (ad2 : Nat → Nat) (H1 : Heap) (locs1 : List Loc), G ad2 → jH A s H1 locs1 D g ad2 z2 Y X → W p l e R s m args below meth c H1 locs1 (cells + mc) (slots + ms) Q (F0 m (pc + 3) ls (jv ad2 b r :: rest))) : W p l e R s m args below meth c H locs cells slots Q (F0 m pc ls st) := by
  refine va_callq hr h.2.2 (fun q _ h2 => jH_free h hA q h2) (jH_free h hA) (fun r' u t H1 locs1 ht hvm hp hB hz hk hS => ?_)
  obtain ⟨rfl, hG⟩ := hp
  obtain ⟨h1, h2, h3⟩ := hB
  rw [ht] at h1
  exact kk u _ _ hG (jH_back0 h hA h1 h3 hk hS)
theorem jr_callr {xl : Int32} {xf : Nat → Int32} {a : Array Value} {st : List Value} (hA : ∀ q, s.heap.size ≤ q → A q) (h : jH A s H locs D g ad z Y X) (hr : va_Run p l e R s m args below meth c H locs cells slots mc ms (F0 m pc ls st) rest (jQr xl xf ad D g (va_A (jC g ad z) H.size) z2 a) (va_A (jC g ad z) H.size)) (kk : ∀ (xq : Nat) (H1 : Heap) (locs1 : List Loc), jH A s H1 locs1 D g ad z2 Y (X ++ [jTp g ad xq xl xf]) → W p l e R s m args below meth c H1 locs1 (cells + mc) (slots + ms) Q (F0 m (pc + 3) ls (.ref xq :: rest))) : W p l e R s m args below meth c H locs cells slots Q (F0 m pc ls st) := by
  refine va_callr hr h.2.2 (fun q _ h2 => jH_free h hA q h2) (jH_free h hA) (fun u ra t H1 locs1 ht hvm hp hB hz hk hS => ?_)
  obtain ⟨h1, h2, h3⟩ := hB
  rw [ht] at h1
  exact kk ra _ _ (jH_back h hA h1 h3 hk hS)
/-- a method's contract out of its walk -/
theorem j_met {Qc : Array Value → State → Outcome → State → Prop} {sz : Nat} {lv : List (Nat × Value)} (hy : plainName y.cls = true) (hlen : (lg_sl as).length ≤ maxL) (hlv : lv_args 0 as = lv) (hcat : ∀ q ∈ lv, q.2.category = 1)
    (body : ∀ (p : Program) (e : Env) (s : State) (m : MethodId) (below : List Frame) (meth : Method) (c : Code) (ls : Array Slot), s.heap.size = sz → jV p s m as.toArray meth c bytes y.cls maxL rt D g → (∀ q, s.heap.size ≤ q → va_A (jC g ad z) sz q) → jH (va_A (jC g ad z) sz) s s.heap [] D g ad z [] [] → jl_has ls maxL lv → W p l e rm s m as.toArray below meth c s.heap [] 0 0 (MQ below Qc as.toArray s mc ms (va_A (jC g ad z) sz)) (F0 m 0 ls [])) :
    Met l y (Cond.code y bytes maxL rt :: kWA) rm (jP as D g ad z sz) Qc mc ms (va_A (jC g ad z) sz) := by
  refine Met.ofW (cc := bytes) (maxL := maxL) (ret := rt) hy rfl ?_
  intro p e s m args below meth c s₁ B hml hv
  obtain ⟨rfl, ⟨hsz, hP, hK, hD0⟩, hJ⟩ := hv
  have hx := B.exec
  have hb := B.bytes
  have hr := B.returns
  have hts := atoms_spec (ws := Cond.code y bytes maxL rt :: kWA) B.pre
  have hown : s.vm.findClass y.cls = some m.cls := findClass_of_methodNamed B.named
  have hlocks := B.notSynchronized
  subst hsz
  have hl := lv_entry as (n := maxL) hlen
  rw [lg_entry_eq]
  rw [hlv] at hl
  have hD := hD0.self (sz := s.heap.size)
  refine body p e s m below meth c _ rfl ⟨hx, hb, hml, hown, fun w hw => hts w (List.mem_cons_of_mem _ hw), hr, hlocks, hK, hJ⟩ (fun q hq => Or.inr hq) ⟨?_, ?_, va_S.rf⟩ ⟨hl, hcat⟩
  · rw [List.nil_append, List.append_nil]; exact hP
  · rw [List.nil_append, List.append_nil]; exact hD
end JC
