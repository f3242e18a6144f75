/-! MORE ROWS OVER THE LAW'S WORLD: calls that leave the places, arrays that take another's place -/
abbrev jGi (below : List Frame) (args : Array Value) (s : State) (D : va_G) (g : Nat → ClassId) (A : Nat → Prop) (G : (Nat → Nat) → Prop) (r : Int32) (z : kS) (mc ms : Nat) : State → Prop := MQ below (jQi r G D g A z) args s mc ms A
abbrev jGv (below : List Frame) (args : Array Value) (s : State) (D : va_G) (g : Nat → ClassId) (A : Nat → Prop) (G : (Nat → Nat) → Prop) (z : kS) (mc ms : Nat) : State → Prop := MQ below (jQv G D g A z) args s mc ms A
abbrev jGq (below : List Frame) (args : Array Value) (s : State) (D : va_G) (g : Nat → ClassId) (A : Nat → Prop) (G : (Nat → Nat) → Prop) (b : Nat) (r : Int32) (z : kS) (mc ms : Nat) : State → Prop := MQ below (jQq b r G D g A z) args s mc ms A
abbrev jGr (below : List Frame) (args : Array Value) (s : State) (D : va_G) (g : Nat → ClassId) (A : Nat → Prop) (ad : Nat → Nat) (xl : Int32) (xf : Nat → Int32) (z : kS) (mc ms : Nat) : State → Prop := MQ below (jQr xl xf ad D g A z) args s mc ms A
theorem jcatv {ad : Nat → Nat} {b : Nat} {c : Int32} : (jv ad b c).category = 1 := jcat _
theorem jcati {x : Int32} : (Value.int x).category = 1 := rfl
theorem jcatr {a : Nat} : (Value.ref a).category = 1 := rfl
section JM
variable {p : Program} {l : Launch} {e : Env} {R : Room} {s : State} {m : MethodId} {args : Array Value} {below : List Frame} {meth : Method} {c : Code} {H : Heap} {locs : List Loc} {cells slots : Nat} {Q : State → Prop} {A : Nat → Prop}
variable {cc : ByteArray} {own : String} {nL : Nat} {ret : Option FieldType} {D : va_G} {g : Nat → ClassId} {ad : Nat → Nat} {z z2 : kS} {Y X : va_W} {pc : Nat} {ls : Array Slot} {rest : List Value} {lv lv' : List (Nat × Value)} {mc ms : Nat}
theorem jV.k (V : jV p s m args meth c cc own nL ret D g) : kV p s m args meth c cc own nL ret D (g 0) (g 1) (g 2) := by
  obtain ⟨hx, hb, hml, hown, hts, hr, hlk, hK, hJ⟩ := V
  exact ⟨hx, hb, hml, hown, hts, hr, hlk, hK.sub [0, 1, 2] rfl⟩
theorem jr_calliR {r : Int32} {a : Array Value} {st : List Value} (hA : ∀ q, s.heap.size ≤ q → A q) (h : jH A s H locs D g ad z Y X) (hr : va_Run p l e R s m args below meth c H locs cells slots mc ms (F0 m pc ls st) rest (jQi r (fun a => a = ad) D g (va_A (jC g ad z) H.size) z2 a) (va_A (jC g ad z) H.size)) (kk : ∀ (H1 : Heap) (locs1 : List Loc), jH A s H1 locs1 D g ad z2 Y X → W p l e R s m args below meth c H1 locs1 (cells + mc) (slots + ms) Q (F0 m (pc + 3) ls (.int r :: rest))) : W p l e R s m args below meth c H locs cells slots Q (F0 m pc ls st) :=
  jr_calli hA h hr (fun ad2 H1 locs1 hG h2 => kk H1 locs1 (by rw [hG] at h2; exact h2))
theorem jr_callvR {a : Array Value} {st : List Value} (hA : ∀ q, s.heap.size ≤ q → A q) (h : jH A s H locs D g ad z Y X) (hr : va_Run p l e R s m args below meth c H locs cells slots mc ms (F0 m pc ls st) rest (jQv (fun a => a = ad) D g (va_A (jC g ad z) H.size) z2 a) (va_A (jC g ad z) H.size)) (kk : ∀ (H1 : Heap) (locs1 : List Loc), jH A s H1 locs1 D g ad z2 Y X → W p l e R s m args below meth c H1 locs1 (cells + mc) (slots + ms) Q (F0 m (pc + 3) ls rest)) : W p l e R s m args below meth c H locs cells slots Q (F0 m pc ls st) :=
  jr_callv hA h hr (fun ad2 H1 locs1 hG h2 => kk H1 locs1 (by rw [hG] at h2; exact h2))
theorem jr_callqR {b : Nat} {r : Int32} {a : Array Value} {st : List Value} (hA : ∀ q, s.heap.size ≤ q → A q) (h : jH A s H locs D g ad z Y X) (hr : va_Run p l e R s m args below meth c H locs cells slots mc ms (F0 m pc ls st) rest (jQq b r (fun a => a = ad) D g (va_A (jC g ad z) H.size) z2 a) (va_A (jC g ad z) H.size)) (kk : ∀ (H1 : Heap) (locs1 : List Loc), jH A s H1 locs1 D g ad z2 Y X → W p l e R s m args below meth c H1 locs1 (cells + mc) (slots + ms) Q (F0 m (pc + 3) ls (jv ad b r :: rest))) : W p l e R s m args below meth c H locs cells slots Q (F0 m pc ls st) :=
  jr_callq hA h hr (fun ad2 H1 locs1 hG h2 => by rw [show ad2 = ad from hG] at h2 ⊢; exact kk H1 locs1 h2)
theorem jr_calliR0 {r : Int32} {a : Array Value} {st : List Value} (hA : ∀ q, s.heap.size ≤ q → A q) (h : jH A s H locs D g ad z Y X) (hr : va_Run p l e R s m args below meth c H locs cells slots 0 0 (F0 m pc ls st) rest (jQi r (fun a => a = ad) D g (va_A (jC g ad z) H.size) z2 a) (va_A (jC g ad z) H.size)) (kk : ∀ (H1 : Heap) (locs1 : List Loc), jH A s H1 locs1 D g ad z2 Y X → W p l e R s m args below meth c H1 locs1 cells slots Q (F0 m (pc + 3) ls (.int r :: rest))) : W p l e R s m args below meth c H locs cells slots Q (F0 m pc ls st) := jr_calliR hA h hr kk
theorem jr_callvR0 {a : Array Value} {st : List Value} (hA : ∀ q, s.heap.size ≤ q → A q) (h : jH A s H locs D g ad z Y X) (hr : va_Run p l e R s m args below meth c H locs cells slots 0 0 (F0 m pc ls st) rest (jQv (fun a => a = ad) D g (va_A (jC g ad z) H.size) z2 a) (va_A (jC g ad z) H.size)) (kk : ∀ (H1 : Heap) (locs1 : List Loc), jH A s H1 locs1 D g ad z2 Y X → W p l e R s m args below meth c H1 locs1 cells slots Q (F0 m (pc + 3) ls rest)) : W p l e R s m args below meth c H locs cells slots Q (F0 m pc ls st) := jr_callvR hA h hr kk
theorem jr_callqR0 {b : Nat} {r : Int32} {a : Array Value} {st : List Value} (hA : ∀ q, s.heap.size ≤ q → A q) (h : jH A s H locs D g ad z Y X) (hr : va_Run p l e R s m args below meth c H locs cells slots 0 0 (F0 m pc ls st) rest (jQq b r (fun a => a = ad) D g (va_A (jC g ad z) H.size) z2 a) (va_A (jC g ad z) H.size)) (kk : ∀ (H1 : Heap) (locs1 : List Loc), jH A s H1 locs1 D g ad z2 Y X → W p l e R s m args below meth c H1 locs1 cells slots Q (F0 m (pc + 3) ls (jv ad b r :: rest))) : W p l e R s m args below meth c H locs cells slots Q (F0 m pc ls st) := jr_callqR hA h hr kk
theorem jr_mn (V : jV p s m args meth c cc own nL ret D g) (hsz : ls.size = nL) {index : Nat} (w1 : Cond.methodLink own index Lib.Math.min.name ∈ kWA) (hfr : 1 ≤ R.frames) (hlo : 21 ≤ R.locals) (hc : cells ≤ R.cells) (hs : slots ≤ R.slots) {x y : Int32} (hr : rest.length ≤ 4) (hdg : decode cc pc = .ok (.invokestatic index, 3))
    (kk : W p l e R s m args below meth c H locs cells slots Q (F0 m (pc + 3) ls (.int (if y < x then y else x) :: rest))) : W p l e R s m args below meth c H locs cells slots Q (F0 m pc ls (.int y :: .int x :: rest)) :=
  kr_mn V.k hsz w1 hfr (by have := jroom hr; omega) hc hs hdg kk
/-! addresses -/
theorem jE_ad {ad2 : Nat → Nat} {q : Nat} (h12 : ∀ r, r % 4 = 1 ∨ r % 4 = 2 → ad2 r = ad r) (h0 : q = 0 → ad2 4 = ad 4 ∧ ad2 8 = ad 8) (hL : q % 4 = 2 → ad2 (q + 1) = ad (q + 1)) : jE g ad2 z q = jE g ad z q := by
  have r1 : ∀ c, jr ad2 1 c = jr ad 1 c := fun c => by unfold jr; rw [h12 _ (by omega)]
  have r2 : ∀ c, jr ad2 2 c = jr ad 2 c := fun c => by unfold jr; rw [h12 _ (by omega)]
  unfold jE
  by_cases a0 : q = 0
  · rw [if_pos a0, if_pos a0, (h0 a0).1, (h0 a0).2]
  · rw [if_neg a0, if_neg a0]
    simp only [r1, r2, jPf, jLf, jv]
    by_cases b2 : q % 4 = 2
    · rw [hL b2]
    · by_cases a4 : q = 4
      · rw [if_pos a4, if_pos a4]
      · rw [if_neg a4, if_neg a4]
        by_cases a8 : q = 8
        · rw [if_pos a8, if_pos a8]
        · rw [if_neg a8, if_neg a8, if_neg b2, if_neg b2]
theorem jr_upH1 {l q : Nat} {c : Int32} : jr (jup ad (4 * l + 3) q) 1 c = jr ad 1 c := by unfold jr; rw [jup_ne (by omega)]
theorem jr_upH2 {l q : Nat} {c : Int32} : jr (jup ad (4 * l + 3) q) 2 c = jr ad 2 c := by unfold jr; rw [jup_ne (by omega)]
theorem jup_0_H {l q : Nat} : jup ad (4 * l + 3) q 0 = ad 0 := jup_ne (by omega)
theorem jr_up4a {q : Nat} {c : Int32} : jr (jup ad 4 q) 1 c = jr ad 1 c := by unfold jr; rw [jup_ne (by omega)]
theorem jr_up4b {q : Nat} {c : Int32} : jr (jup ad 4 q) 2 c = jr ad 2 c := by unfold jr; rw [jup_ne (by omega)]
theorem jr_up8a {q : Nat} {c : Int32} : jr (jup ad 8 q) 1 c = jr ad 1 c := by unfold jr; rw [jup_ne (by omega)]
theorem jr_up8b {q : Nat} {c : Int32} : jr (jup ad 8 q) 2 c = jr ad 2 c := by unfold jr; rw [jup_ne (by omega)]
theorem jup_0_4 {q : Nat} : jup ad 4 q 0 = ad 0 := jup_ne (by decide)
theorem jup_0_8 {q : Nat} : jup ad 8 q 0 = ad 0 := jup_ne (by decide)
theorem jH3_up {l q : Nat} : jH3 ad (jup ad (4 * l + 3) q) := fun p hp => jup_ne (by omega)
/-- a place's cell is written, and the cell behind the places becomes another's -/
theorem jmv_gen {p1 p2 : Nat} (h1 : p1 ∈ jPl z) (h2 : p2 ∈ jPl z) (hne : p1 ≠ p2) {e1 : va_E} {t : Nat × va_E} {ad2 : Nat → Nat} (hpl : jPl z2 = jPl z) (he1 : (ad2 p1, jE g ad2 z2 p1) = (ad p1, e1)) (ht : (ad2 p2, jE g ad2 z2 p2) = t) (ho : ∀ q ∈ jPl z, q ≠ p1 → q ≠ p2 → (ad2 q, jE g ad2 z2 q) = (ad q, jE g ad z q)) : ∃ i, (Y ++ (jC g ad z ++ t :: X))[i]? = some (ad p1, jE g ad z p1) ∧ ∃ gb, ((Y ++ (jC g ad z ++ t :: X)).set i (ad p1, e1)).Perm ((Y ++ (jC g ad2 z2 ++ X)) ++ [gb]) := by
  obtain ⟨i, hi, -, h3, hs⟩ := jm_get (jPl_nd z) h1 (fun p => (ad p, jE g ad z p))
  have hl : i < (jC g ad z).length := by rw [jC_len]; exact hi
  refine ⟨Y.length + i, ?_, ?_⟩
  · rw [List.getElem?_append_right (by omega), show Y.length + i - Y.length = i by omega, List.getElem?_append_left hl]
    exact h3
  · obtain ⟨f1, hf1⟩ : ∃ f1 : Nat → Nat × va_E, f1 = fun p => if p = p1 then (ad p1, e1) else (ad p, jE g ad z p) := ⟨_, rfl⟩
    have a1 : f1 p1 = (ad p1, e1) := by rw [hf1]; exact if_pos rfl
    have a2 : ∀ q, q ≠ p1 → f1 q = (ad q, jE g ad z q) := fun q hq => by rw [hf1]; exact if_neg hq
    have s1 : (jC g ad z).set i (ad p1, e1) = (jPl z).map f1 := by
      rw [← a1]
      exact hs f1 (fun q _ hq => a2 q hq)
    obtain ⟨j, hj, -, h4, hs2⟩ := jm_get (jPl_nd z) h2 f1
    have s2 : ((jPl z).map f1).set j t = jC g ad2 z2 := by
      have := hs2 (fun p => (ad2 p, jE g ad2 z2 p)) (fun q hq hq2 => by
        by_cases q1 : q = p1
        · subst q1; rw [a1]; exact he1
        · rw [a2 q q1]; exact ho q hq q1 hq2)
      rw [ht] at this
      rw [this]
      unfold jC
      rw [hpl]
    refine ⟨f1 p2, ?_⟩
    rw [List.set_append_right _ _ (by omega), show Y.length + i - Y.length = i by omega, List.set_append_left _ _ hl, s1, ← s2]
    exact jmv_perm h4
theorem jset12 {z : kS} {i : Nat} {x : Int32} {p : Nat} {f : Nat → Int32} (hp : p ≠ 12) : kst (kst z p f) 12 (upd (z 12) i x) p = f := by rw [kst_ne _ _ hp, kst_eq]
/-- persons = .. -/
theorem jmv_4 (V : jV p s m args meth c cc own nL ret D g) {xq : Nat} {xl : Int32} {xf : Nat → Int32} (h : jH A s H locs D g ad z Y (jTp g ad xq xl xf :: X)) {index : Nat} (hl : Cond.fieldLink own index (TX8 0).1 (TX8 0).2.1 (TX8 0).2.2.1 ∈ kWA) (hdg : decode cc pc = .ok (.putfield index, 3)) (kk : ∀ (H1 : Heap) (locs1 : List Loc), jH A s H1 locs1 D g (jup ad 4 xq) (kst (kst z 4 xf) 12 (upd (z 12) 0 xl)) Y X → W p l e R s m args below meth c H1 locs1 cells slots Q (F0 m (pc + 3) ls rest)) : W p l e R s m args below meth c H locs cells slots Q (F0 m pc ls (.ref xq :: .ref (ad 0) :: rest)) := by
  obtain ⟨hx, hb, hml, hown, hts, hr, hlk, hK, -⟩ := V
  obtain ⟨z2, hz2⟩ : ∃ z2, z2 = kst (kst z 4 xf) 12 (upd (z 12) 0 xl) := ⟨_, rfl⟩
  have e12 : z2 12 = upd (z 12) 0 xl := by rw [hz2, kst_eq]
  have eo : ∀ q, q ≠ 4 → q ≠ 12 → z2 q = z q := fun q h1 h2 => by rw [hz2, kst_ne _ _ h2, kst_ne _ _ h1]
  have e4 : z2 4 = xf := by rw [hz2]; exact jset12 (by decide)
  rw [← hz2] at kk
  obtain ⟨i, hi, gb, hpm⟩ := jmv_gen (g := g) (ad := ad) (ad2 := jup ad 4 xq) (z := z) (z2 := z2) (p1 := 0) (p2 := 4) (Y := Y) (X := X) (e1 := .inr (8, [.ref xq, .ref (ad 8), .int (z 0 0)])) (t := jTp g ad xq xl xf) jPl_0 jPl_4 (by decide) (jPl_cg (eo 20 (by decide) (by decide)))
    (by rw [jE_0, jup_0_4, jup_eq, jup_ne (by decide), eo 0 (by decide) (by decide)])
    (by rw [jE_4, jup_eq, e12, e4, pz_us]; simp only [jr_up4a, jr_up4b])
    (fun q hq q0 q4 => by
      rw [jup_ne q4, jE_ad (ad := ad) (fun r hr => jup_ne (by omega)) (fun e => absurd e q0) (fun e => jup_ne (by omega))]
      by_cases q8 : q = 8
      · subst q8
        rw [jE_8, jE_8, e12, pz_un (by decide), eo 8 (by decide) (by decide)]
      · have h8 : q % 4 ≠ 0 := by rcases jPl_mem.mp hq with e | e | e | ⟨i, _, e⟩ | ⟨i, _, e⟩ | ⟨i, _, e⟩ <;> omega
        have : jE g ad z2 q = jE g ad z q := by
          unfold jE
          rw [if_neg q0, if_neg q0, if_neg q4, if_neg q4, if_neg q8, if_neg q8, eo q q4 (by omega), eo 16 (by decide) (by decide)]
        rw [this])
  rw [jE_0] at hi
  refine va_put (D := D) (ci := 8) (fs := _) (v := .ref xq) (ty := .array (.object "KingTiesLaw$Person")) (C := RX8) (T := TX8) (N := 3) hx hb hts kX8 tyX8 tyX8_ok nmX8 hown hK h.1 h.2.1 h.2.2 i hi rfl 0 (by decide) (hts _ hl) (fun _ h9 => h9) rfl rfl rfl rfl (Nat.le_of_ble_eq_true rfl) hdg (fun H1 locs1 hP hD hS => ?_)
  exact kk H1 locs1 ⟨va_P_take hP hpm, va_D_take hD hpm, hS⟩
/-- lands = .. -/
theorem jmv_8 (V : jV p s m args meth c cc own nL ret D g) {xq : Nat} {xl : Int32} {xf : Nat → Int32} (h : jH A s H locs D g ad z Y (jTq g ad xq xl xf :: X)) {index : Nat} (hl : Cond.fieldLink own index (TX8 1).1 (TX8 1).2.1 (TX8 1).2.2.1 ∈ kWA) (hdg : decode cc pc = .ok (.putfield index, 3)) (kk : ∀ (H1 : Heap) (locs1 : List Loc), jH A s H1 locs1 D g (jup ad 8 xq) (kst (kst z 8 xf) 12 (upd (z 12) 1 xl)) Y X → W p l e R s m args below meth c H1 locs1 cells slots Q (F0 m (pc + 3) ls rest)) : W p l e R s m args below meth c H locs cells slots Q (F0 m pc ls (.ref xq :: .ref (ad 0) :: rest)) := by
  obtain ⟨hx, hb, hml, hown, hts, hr, hlk, hK, -⟩ := V
  obtain ⟨z2, hz2⟩ : ∃ z2, z2 = kst (kst z 8 xf) 12 (upd (z 12) 1 xl) := ⟨_, rfl⟩
  have e12 : z2 12 = upd (z 12) 1 xl := by rw [hz2, kst_eq]
  have eo : ∀ q, q ≠ 8 → q ≠ 12 → z2 q = z q := fun q h1 h2 => by rw [hz2, kst_ne _ _ h2, kst_ne _ _ h1]
  have e8 : z2 8 = xf := by rw [hz2]; exact jset12 (by decide)
  rw [← hz2] at kk
  obtain ⟨i, hi, gb, hpm⟩ := jmv_gen (g := g) (ad := ad) (ad2 := jup ad 8 xq) (z := z) (z2 := z2) (p1 := 0) (p2 := 8) (Y := Y) (X := X) (e1 := .inr (8, [.ref (ad 4), .ref xq, .int (z 0 0)])) (t := jTq g ad xq xl xf) jPl_0 jPl_8 (by decide) (jPl_cg (eo 20 (by decide) (by decide)))
    (by rw [jE_0, jup_0_8, jup_eq, jup_ne (by decide), eo 0 (by decide) (by decide)])
    (by rw [jE_8, jup_eq, e12, e8, pz_us]; simp only [jr_up8a, jr_up8b])
    (fun q hq q0 q8 => by
      rw [jup_ne q8, jE_ad (ad := ad) (fun r hr => jup_ne (by omega)) (fun e => absurd e q0) (fun e => jup_ne (by omega))]
      by_cases q4 : q = 4
      · subst q4
        rw [jE_4, jE_4, e12, pz_un (by decide), eo 4 (by decide) (by decide)]
      · have h8 : q % 4 ≠ 0 := by rcases jPl_mem.mp hq with e | e | e | ⟨i, _, e⟩ | ⟨i, _, e⟩ | ⟨i, _, e⟩ <;> omega
        have : jE g ad z2 q = jE g ad z q := by
          unfold jE
          rw [if_neg q0, if_neg q0, if_neg q4, if_neg q4, if_neg q8, if_neg q8, eo q q8 (by omega), eo 16 (by decide) (by decide)]
        rw [this])
  rw [jE_0] at hi
  refine va_put (D := D) (ci := 8) (fs := _) (v := .ref xq) (ty := .array (.object "KingTiesLaw$Land")) (C := RX8) (T := TX8) (N := 3) hx hb hts kX8 tyX8 tyX8_ok nmX8 hown hK h.1 h.2.1 h.2.2 i hi rfl 1 (by decide) (hts _ hl) (fun _ h9 => h9) rfl rfl rfl rfl (Nat.le_of_ble_eq_true rfl) hdg (fun H1 locs1 hP hD hS => ?_)
  exact kk H1 locs1 ⟨va_P_take hP hpm, va_D_take hD hpm, hS⟩
/-- a land's had = .. -/
theorem jmv_H (V : jV p s m args meth c cc own nL ret D g) {xq : Nat} {xl : Int32} {xf : Nat → Int32} (h : jH A s H locs D g ad z Y (jTp g ad xq xl xf :: X)) {v : Int32} (hc : ¬ (v < 0 ∨ jM z ≤ v.toNatClampNeg)) {index : Nat} (hl : Cond.fieldLink own index (TX6 3).1 (TX6 3).2.1 (TX6 3).2.2.1 ∈ kWA) (hdg : decode cc pc = .ok (.putfield index, 3)) (kk : ∀ (H1 : Heap) (locs1 : List Loc), jH A s H1 locs1 D g (jup ad (4 * v.toNatClampNeg + 3) xq) (kst (kst z (4 * v.toNatClampNeg + 3) xf) 16 (upd (z 16) v.toNatClampNeg xl)) Y X → W p l e R s m args below meth c H1 locs1 cells slots Q (F0 m (pc + 3) ls rest)) : W p l e R s m args below meth c H locs cells slots Q (F0 m pc ls (.ref xq :: jv ad 2 v :: rest)) := by
  obtain ⟨hx, hb, hml, hown, hts, hr, hlk, hK, -⟩ := V
  have hv := jok hc
  show W p l e R s m args below meth c H locs cells slots Q (F0 m pc ls (.ref xq :: va_rf (jr ad 2 v) :: rest))
  rw [jr_in hc]
  generalize v.toNatClampNeg = w at *
  obtain ⟨z2, hz2⟩ : ∃ z2, z2 = kst (kst z (4 * w + 3) xf) 16 (upd (z 16) w xl) := ⟨_, rfl⟩
  have e16 : z2 16 = upd (z 16) w xl := by rw [hz2, kst_eq]
  have eo : ∀ q, q ≠ 4 * w + 3 → q ≠ 16 → z2 q = z q := fun q h1 h2 => by rw [hz2, kst_ne _ _ h2, kst_ne _ _ h1]
  have eH : z2 (4 * w + 3) = xf := by rw [hz2, kst_ne _ _ (by omega), kst_eq]
  rw [← hz2] at kk
  obtain ⟨i, hi, gb, hpm⟩ := jmv_gen (g := g) (ad := ad) (ad2 := jup ad (4 * w + 3) xq) (z := z) (z2 := z2) (p1 := 4 * w + 2) (p2 := 4 * w + 3) (Y := Y) (X := X) (e1 := .inr (6, jLf ad xq (z (4 * w + 2)))) (t := jTp g ad xq xl xf) (jPl_L hv) (jPl_H hv) (by omega) (jPl_cg (eo 20 (by omega) (by decide)))
    (by rw [jE_L, jup_eq, jup_ne (by omega), eo _ (by omega) (by omega)]; simp only [jLf, jv, jr_upH1])
    (by rw [jE_H, jup_eq, e16, eH, pz_us]; simp only [jr_upH1])
    (fun q hq q0 q8 => by
      rw [jup_ne q8, jE_ad (ad := ad) (fun r hr => jup_ne (by omega)) (fun e => ⟨jup_ne (by omega), jup_ne (by omega)⟩) (fun e => jup_ne (by omega))]
      have : jE g ad z2 q = jE g ad z q := jE_dep hq (fun _ => by rw [eo 0 (by omega) (by decide)]) (eo 12 (by omega) (by decide)) (fun e => by rw [e16, pz_un (by omega)]) (fun h0 => eo q q8 (by rcases jPl_mem.mp hq with e | e | e | ⟨i, _, e⟩ | ⟨i, _, e⟩ | ⟨i, _, e⟩ <;> omega))
      rw [this])
  rw [jE_L] at hi
  refine va_put (D := D) (ci := 6) (fs := _) (v := .ref xq) (ty := .array (.object "KingTiesLaw$Person")) (C := RX6) (T := TX6) (N := 4) hx hb hts kX6 tyX6 tyX6_ok nmX6 hown hK h.1 h.2.1 h.2.2 i hi rfl 3 (by decide) (hts _ hl) (fun _ h9 => h9) rfl rfl rfl rfl (Nat.le_of_ble_eq_true rfl) hdg (fun H1 locs1 hP hD hS => ?_)
  exact kk H1 locs1 ⟨va_P_take hP hpm, va_D_take hD hpm, hS⟩
end JM
