/-! A NEW PERSON, A NEW LAND, AMONG THE PLACES -/
noncomputable def kchk {α : Type} (P : Prop) (x : Option α) : Option α := @ite (Option α) P (Classical.propDecidable P) x none
theorem kchk_some {α : Type} {P : Prop} {x : Option α} {o : α} (h : kchk P x = some o) : P ∧ x = some o := by
  unfold kchk at h
  by_cases hp : P
  · rw [if_pos hp] at h; exact ⟨hp, h⟩
  · rw [if_neg hp] at h; cases h
theorem kchk_pos {α : Type} {P : Prop} {x : Option α} (h : P) : kchk P x = x := if_pos h
/-- a number that is not that one's -/
def jno (n : Nat) (c : Int32) : Prop := c = -1 ∨ c.toNatClampNeg ≠ n
def jNoP (z : kS) (n : Nat) : Prop := n < 1000000 ∧ (∀ i, jno n (z 4 i)) ∧ (∀ p, p < jN z → jno n (z (4 * p + 1) 4) ∧ jno n (z (4 * p + 1) 5) ∧ jno n (z (4 * p + 1) 6) ∧ jno n (z (4 * p + 1) 8)) ∧ ∀ l, l < jM z → jno n (z (4 * l + 2) 2) ∧ ∀ i, jno n (z (4 * l + 3) i)
def jNoL (z : kS) (n : Nat) : Prop := n < 1000000 ∧ (∀ i, jno n (z 8 i)) ∧ ∀ p, p < jN z → jno n (z (4 * p + 1) 7)
def jNewP (z : kS) : kS := kst (kst z (4 * jN z + 1) (fun i => if i < 3 then 0 else -1)) 20 (upd (z 20) 0 (nI (jN z + 1)))
def jNewL (z : kS) : kS := kst (kst (kst (kst z (4 * jM z + 2) (fun i => if i < 2 then 0 else -1)) (4 * jM z + 3) (fun _ => -1)) 16 (upd (z 16) (jM z) 0)) 20 (upd (z 20) 1 (nI (jM z + 1)))
theorem jr_no {ad : Nat → Nat} {n b q : Nat} {c : Int32} (h : jno n c) : jr (jup ad (4 * n + b) q) b c = jr ad b c := by
  unfold jr
  rcases h with h | h
  · rw [if_pos h, if_pos h]
  · rw [jup_ne (by omega)]
theorem jr_ot {ad : Nat → Nat} {n b b' q : Nat} {c : Int32} (h : ∀ k : Nat, 4 * k + b' ≠ 4 * n + b) : jr (jup ad (4 * n + b) q) b' c = jr ad b' c := by
  unfold jr
  rw [jup_ne (h _)]
section JA
variable {p : Program} {l : Launch} {e : Env} {R : Room} {s : State} {m : MethodId} {args : Array Value} {below : List Frame} {meth : Method} {c : Code} {H : Heap} {locs : List Loc} {cells slots : Nat} {Q : State → Prop} {A : Nat → Prop}
variable {cc : ByteArray} {own : String} {nL : Nat} {ret : Option FieldType} {D : va_G} {g : Nat → ClassId} {ad : Nat → Nat} {z z2 : kS} {Y X ws : va_W} {pc : Nat} {ls : Array Slot} {rest : List Value} {mc ms q : Nat}
theorem jperm3 {y a r x : va_W} {t : Nat × va_E} : ((y ++ ((a ++ r) ++ x)) ++ [t]).Perm (y ++ ((a ++ t :: r) ++ x)) := by
  refine (List.perm_append_comm (l₁ := y ++ ((a ++ r) ++ x)) (l₂ := [t])).trans ?_
  have e : y ++ ((a ++ t :: r) ++ x) = (y ++ a) ++ t :: (r ++ x) := by simp [List.append_assoc]
  rw [e]
  refine List.Perm.trans ?_ (List.perm_middle (a := t) (l₁ := y ++ a) (l₂ := r ++ x)).symm
  have e2 : y ++ ((a ++ r) ++ x) = (y ++ a) ++ (r ++ x) := by simp [List.append_assoc]
  rw [← e2]
  exact List.Perm.refl _
theorem jN_newP (h : jN z < 1000000) : jN (jNewP z) = jN z + 1 := by
  unfold jNewP
  show (kst _ 20 _ 20 0).toNatClampNeg = _
  rw [kst_eq, pz_us, nI_clamp (by omega)]
theorem jM_newP : jM (jNewP z) = jM z := by
  unfold jNewP
  show (kst _ 20 _ 20 1).toNatClampNeg = _
  rw [kst_eq, pz_un (by decide)]
  rfl
theorem jM_newL (h : jM z < 1000000) : jM (jNewL z) = jM z + 1 := by
  unfold jNewL
  show (kst _ 20 _ 20 1).toNatClampNeg = _
  rw [kst_eq, pz_us, nI_clamp (by omega)]
theorem jN_newL : jN (jNewL z) = jN z := by
  unfold jNewL
  show (kst _ 20 _ 20 0).toNatClampNeg = _
  rw [kst_eq, pz_un (by decide)]
  rfl
theorem jabs_P (hno : jNoP z (jN z)) : ((Y ++ (jC g ad z ++ X)) ++ ([(q, .inr (7, jp1))] : va_W)).Perm (Y ++ (jC g (jup ad (4 * jN z + 1) q) (jNewP z) ++ X)) := by
  obtain ⟨hn, h4, hP, hL⟩ := hno
  obtain ⟨n, hn'⟩ : ∃ n, n = jN z := ⟨_, rfl⟩
  obtain ⟨ad2, had⟩ : ∃ ad2, ad2 = jup ad (4 * n + 1) q := ⟨_, rfl⟩
  obtain ⟨z2, hz2⟩ : ∃ z2, z2 = jNewP z := ⟨_, rfl⟩
  have e1 : ∀ c, jno n c → jr ad2 1 c = jr ad 1 c := fun c h => by rw [had]; exact jr_no h
  have e2 : ∀ c, jr ad2 2 c = jr ad 2 c := fun c => by rw [had]; exact jr_ot (fun k => by omega)
  have ea : ∀ r, r ≠ 4 * n + 1 → ad2 r = ad r := fun r h => by rw [had, jup_ne h]
  have ez : ∀ r, r ≠ 4 * n + 1 → r ≠ 20 → z2 r = z r := fun r h h2 => by rw [hz2]; unfold jNewP; rw [← hn', kst_ne _ _ h2, kst_ne _ _ h]
  rw [← hn', ← had, ← hz2]
  rw [← hn'] at hn h4 hP hL
  have hag : ∀ r ∈ jPl z, (ad2 r, jE g ad2 z2 r) = (ad r, jE g ad z r) := by
    intro r hr
    rcases jPl_mem.mp hr with rfl | rfl | rfl | ⟨i, hi, rfl⟩ | ⟨i, hi, rfl⟩ | ⟨i, hi, rfl⟩
    · rw [jE_0, jE_0, ea 0 (by omega), ea 4 (by omega), ea 8 (by omega), ez 0 (by omega) (by omega)]
    · rw [jE_4, jE_4, ea 4 (by omega), ez 4 (by omega) (by omega), ez 12 (by omega) (by omega)]
      simp only [e1 _ (h4 _)]
    · rw [jE_8, jE_8, ea 8 (by omega), ez 8 (by omega) (by omega), ez 12 (by omega) (by omega)]
      simp only [e2]
    · obtain ⟨q1, q2, q3, q4⟩ := hP i (by omega)
      rw [jE_P, jE_P, ea _ (by omega), ez _ (by omega) (by omega)]
      simp only [jPf, jv, e2, e1 _ q1, e1 _ q2, e1 _ q3, e1 _ q4]
    · rw [jE_L, jE_L, ea _ (by omega), ez _ (by omega) (by omega), ea _ (by omega)]
      simp only [jLf, jv, e1 _ (hL i hi).1]
    · rw [jE_H, jE_H, ea _ (by omega), ez (4 * i + 3) (by omega) (by omega), ez 16 (by omega) (by omega)]
      simp only [e1 _ ((hL i hi).2 _)]
  obtain ⟨U, hU⟩ : ∃ U, U = 0 :: 4 :: 8 :: (List.range n).map (fun i => 4 * i + 1) := ⟨_, rfl⟩
  obtain ⟨V, hV⟩ : ∃ V, V = (List.range (jM z)).map (fun i => 4 * i + 2) ++ (List.range (jM z)).map (fun i => 4 * i + 3) := ⟨_, rfl⟩
  have hpl : jPl z2 = U ++ (4 * n + 1) :: V := by
    unfold jPl
    rw [hz2, jN_newP (by omega), jM_newP, ← hn', List.range_succ, List.map_append, hU, hV]
    simp
  have hpl0 : jPl z = U ++ V := by
    unfold jPl
    rw [← hn', hU, hV]
    simp
  have ht : (ad2 (4 * n + 1), jE g ad2 z2 (4 * n + 1)) = (q, .inr (7, jp1)) := by
    rw [jE_P, had, jup_eq, hz2]
    unfold jNewP
    rw [← hn', kst_ne _ _ (by omega), kst_eq]
    rfl
  have c0 : jC g ad z = U.map (fun p => (ad p, jE g ad z p)) ++ V.map (fun p => (ad p, jE g ad z p)) := by
    unfold jC
    rw [hpl0, List.map_append]
  have c2 : jC g ad2 z2 = U.map (fun p => (ad p, jE g ad z p)) ++ (q, .inr (7, jp1)) :: V.map (fun p => (ad p, jE g ad z p)) := by
    unfold jC
    rw [hpl, List.map_append, List.map_cons, ht]
    congr 1
    · exact List.map_congr_left (fun r hr => hag r (by rw [hpl0]; exact List.mem_append_left _ hr))
    · congr 1
      exact List.map_congr_left (fun r hr => hag r (by rw [hpl0]; exact List.mem_append_right _ hr))
  rw [c0, c2]
  exact jperm3
theorem jabs_L {q2 : Nat} (hno : jNoL z (jM z)) : ((Y ++ (jC g ad z ++ X)) ++ ([(q, .inr (6, jl1 q2)), (q2, .inl (g 3, 0, jRf fun _ => none))] : va_W)).Perm (Y ++ (jC g (jup (jup ad (4 * jM z + 2) q) (4 * jM z + 3) q2) (jNewL z) ++ X)) := by
  obtain ⟨hn, h8, hP⟩ := hno
  obtain ⟨n, hn'⟩ : ∃ n, n = jM z := ⟨_, rfl⟩
  obtain ⟨ad2, had⟩ : ∃ ad2, ad2 = jup (jup ad (4 * n + 2) q) (4 * n + 3) q2 := ⟨_, rfl⟩
  obtain ⟨z2, hz2⟩ : ∃ z2, z2 = jNewL z := ⟨_, rfl⟩
  have e2 : ∀ c, jno n c → jr ad2 2 c = jr ad 2 c := fun c h => by rw [had, jr_ot (fun k => by omega)]; exact jr_no h
  have e1 : ∀ c, jr ad2 1 c = jr ad 1 c := fun c => by rw [had, jr_ot (fun k => by omega), jr_ot (fun k => by omega)]
  have ea : ∀ r, r ≠ 4 * n + 2 → r ≠ 4 * n + 3 → ad2 r = ad r := fun r h h2 => by rw [had, jup_ne h2, jup_ne h]
  have ez : ∀ r, r ≠ 4 * n + 2 → r ≠ 4 * n + 3 → r ≠ 16 → r ≠ 20 → z2 r = z r := fun r h h1 h2 h3 => by rw [hz2]; unfold jNewL; rw [← hn', kst_ne _ _ h3, kst_ne _ _ h2, kst_ne _ _ h1, kst_ne _ _ h]
  have e16 : ∀ i, i ≠ n → z2 16 i = z 16 i := fun i h => by rw [hz2]; unfold jNewL; rw [← hn', kst_ne _ _ (by decide), kst_eq, pz_un h]
  have e16n : z2 16 n = 0 := by rw [hz2]; unfold jNewL; rw [← hn', kst_ne _ _ (by decide), kst_eq, pz_us]
  have eLn : z2 (4 * n + 2) = fun i => if i < 2 then 0 else -1 := by rw [hz2]; unfold jNewL; rw [← hn', kst_ne _ _ (by omega), kst_ne _ _ (by omega), kst_ne _ _ (by omega), kst_eq]
  have eHn : z2 (4 * n + 3) = fun _ => -1 := by rw [hz2]; unfold jNewL; rw [← hn', kst_ne _ _ (by omega), kst_ne _ _ (by omega), kst_eq]
  rw [← hn', ← had, ← hz2]
  rw [← hn'] at hn h8 hP
  have hag : ∀ r ∈ jPl z, (ad2 r, jE g ad2 z2 r) = (ad r, jE g ad z r) := by
    intro r hr
    rcases jPl_mem.mp hr with rfl | rfl | rfl | ⟨i, hi, rfl⟩ | ⟨i, hi, rfl⟩ | ⟨i, hi, rfl⟩
    · rw [jE_0, jE_0, ea 0 (by omega) (by omega), ea 4 (by omega) (by omega), ea 8 (by omega) (by omega), ez 0 (by omega) (by omega) (by omega) (by omega)]
    · rw [jE_4, jE_4, ea 4 (by omega) (by omega), ez 4 (by omega) (by omega) (by omega) (by omega), ez 12 (by omega) (by omega) (by omega) (by omega)]
      simp only [e1]
    · rw [jE_8, jE_8, ea 8 (by omega) (by omega), ez 8 (by omega) (by omega) (by omega) (by omega), ez 12 (by omega) (by omega) (by omega) (by omega)]
      simp only [e2 _ (h8 _)]
    · rw [jE_P, jE_P, ea _ (by omega) (by omega), ez _ (by omega) (by omega) (by omega) (by omega)]
      simp only [jPf, jv, e1, e2 _ (hP i hi)]
    · rw [jE_L, jE_L, ea _ (by omega) (by omega), ez _ (by omega) (by omega) (by omega) (by omega), ea _ (by omega) (by omega)]
      simp only [jLf, jv, e1]
    · rw [jE_H, jE_H, ea _ (by omega) (by omega), ez (4 * i + 3) (by omega) (by omega) (by omega) (by omega), e16 i (by omega)]
      simp only [e1]
  obtain ⟨U, hU⟩ : ∃ U, U = 0 :: 4 :: 8 :: (List.range (jN z)).map (fun i => 4 * i + 1) := ⟨_, rfl⟩
  obtain ⟨Ls, hLs⟩ : ∃ Ls, Ls = (List.range n).map (fun i => 4 * i + 2) := ⟨_, rfl⟩
  obtain ⟨Hs, hHs⟩ : ∃ Hs, Hs = (List.range n).map (fun i => 4 * i + 3) := ⟨_, rfl⟩
  have hpl : jPl z2 = (U ++ Ls) ++ (4 * n + 2) :: (Hs ++ [4 * n + 3]) := by
    unfold jPl
    rw [hz2, jM_newL (by omega), jN_newL, ← hn', List.range_succ, List.map_append, List.map_append, hU, hLs, hHs]
    simp
  have hpl0 : jPl z = (U ++ Ls) ++ Hs := by
    unfold jPl
    rw [← hn', hU, hLs, hHs]
    simp
  have ht : (ad2 (4 * n + 2), jE g ad2 z2 (4 * n + 2)) = (q, .inr (6, jl1 q2)) := by
    rw [jE_L, eLn, had, jup_ne (by omega), jup_eq, jup_eq]
    rfl
  have ht2 : (ad2 (4 * n + 3), jE g ad2 z2 (4 * n + 3)) = (q2, .inl (g 3, 0, jRf fun _ => none)) := by
    rw [jE_H, eHn, e16n, had, jup_eq]
    simp only [jr_m]
    rfl
  clear hLs hU
  generalize U ++ Ls = UL at hpl hpl0 ⊢
  have c0 : jC g ad z = UL.map (fun p => (ad p, jE g ad z p)) ++ Hs.map (fun p => (ad p, jE g ad z p)) := by
    unfold jC
    rw [hpl0, List.map_append]
  have c2 : jC g ad2 z2 = (UL.map (fun p => (ad p, jE g ad z p)) ++ (q, .inr (6, jl1 q2)) :: Hs.map (fun p => (ad p, jE g ad z p))) ++ [(q2, .inl (g 3, 0, jRf fun _ => none))] := by
    unfold jC
    rw [hpl, List.map_append, List.map_cons, List.map_append, ht]
    show _ ++ (_ :: (_ ++ [(ad2 (4 * n + 3), jE g ad2 z2 (4 * n + 3))])) = _
    rw [ht2, List.append_assoc, List.cons_append]
    congr 1
    · exact List.map_congr_left (fun r hr => hag r (by rw [hpl0]; exact List.mem_append_left _ hr))
    · congr 2
      exact List.map_congr_left (fun r hr => hag r (by rw [hpl0]; exact List.mem_append_right _ hr))
  rw [c2, c0]
  have s1 : ((Y ++ ((UL.map (fun p => (ad p, jE g ad z p)) ++ Hs.map (fun p => (ad p, jE g ad z p))) ++ X)) ++ ([(q, .inr (6, jl1 q2)), (q2, .inl (g 3, 0, jRf fun _ => none))] : va_W)).Perm ((Y ++ ((UL.map (fun p => (ad p, jE g ad z p)) ++ (q, .inr (6, jl1 q2)) :: Hs.map (fun p => (ad p, jE g ad z p))) ++ X)) ++ ([(q2, .inl (g 3, 0, jRf fun _ => none))] : va_W)) := by
    rw [show ([(q, .inr (6, jl1 q2)), (q2, .inl (g 3, 0, jRf fun _ => none))] : va_W) = [(q, .inr (6, jl1 q2))] ++ [(q2, .inl (g 3, 0, jRf fun _ => none))] from rfl, ← List.append_assoc]
    exact List.Perm.append_right _ jperm3
  refine s1.trans ?_
  have s2 := jperm3 (y := Y) (a := UL.map (fun p => (ad p, jE g ad z p)) ++ (q, .inr (6, jl1 q2)) :: Hs.map (fun p => (ad p, jE g ad z p))) (r := []) (x := X) (t := (q2, .inl (g 3, 0, jRf fun _ => none)))
  rwa [List.append_nil] at s2
/-- new Person() -/
theorem jnew_P (V : jV p s m args meth c cc RX8 nL ret D g) (hA : ∀ q, s.heap.size ≤ q → A q) (h : jH A s H locs D g ad z Y X) (hsz : ls.size = nL) (hno : jNoP z (jN z)) (hr : rest.length ≤ 3) (hfr : 2 ≤ R.frames) (hlo : 40 ≤ R.locals) (hc : cells + 1 ≤ R.cells) (hs : slots + 9 ≤ R.slots) (d0 : decode cc pc = .ok (.new 7, 3)) (d3 : decode cc (pc + 3) = .ok (.dup, 1)) (d4 : decode cc (pc + 4) = .ok (.invokespecial 21, 3))
    (kk : ∀ (q : Nat) (H1 : Heap) (locs1 : List Loc), jH A s H1 locs1 D g (jup ad (4 * jN z + 1) q) (jNewP z) Y X → W p l e R s m args below meth c H1 locs1 (cells + 1) (slots + 9) Q (F0 m (pc + 7) ls (jv (jup ad (4 * jN z + 1) q) 1 (nI (jN z)) :: rest))) : W p l e R s m args below meth c H locs cells slots Q (F0 m pc ls rest) := by
  have V' := V
  obtain ⟨hx, hb, hml, hown, hts, hr2, hlk, hK, hJ⟩ := V
  refine va_new (D := D) (ci := 7) (fs := jp0) (C := RX7) (T := TX7) (N := 9) hx hb hts kX7 tyX7 tyX7_ok hown (hts _ kc_X8_7) (hts _ ki_X7) (hts _ kz_X7) hK h.1 h.2.1 h.2.2 hA rfl (fun j hj => match j, hj with
    | 0, _ => rfl | 1, _ => rfl | 2, _ => rfl | 3, _ => rfl | 4, _ => rfl | 5, _ => rfl | 6, _ => rfl | 7, _ => rfl | 8, _ => rfl
    | n + 9, h => absurd h (by omega)) hc hs d0 (fun q H1 hP hD hS => ?_)
  refine lv_dup hx hb d3 rfl ?_
  refine jr_initN (x := (q, .inr (7, jp0))) (Wn := fun _ => [(q, .inr (7, jp1))]) (host := RL) V' hA ⟨hP, hD, hS⟩ (c_X7_init l q H1.size) kd_yX7_init rfl rfl kz_X7 hJ.2.2.1 kinst_yX7_init rfl (by decide +kernel) ⟨hfr, Nat.le_trans (by decide) hlo⟩ hsz (by show rest.length + 1 ≤ 4; omega) ⟨hc, hs⟩ d4 (fun u H2 locs2 hW => ?_)
  have hp := jabs_P (g := g) (ad := ad) (Y := Y) (X := X) (q := q) hno
  have := kk q H2 locs2 ⟨va_P_perm hW.1 hp, va_D_perm hW.2.1 hp, hW.2.2⟩
  rw [show jv (jup ad (4 * jN z + 1) q) 1 (nI (jN z)) = .ref q from by
    have h1 := hno.1
    show va_rf (jr _ _ _) = _
    unfold jr
    rw [if_neg (pz_m1 (by omega)), nI_clamp (by omega), jup_eq]
    rfl] at this
  exact this
/-- new Land() -/
theorem jnew_L (V : jV p s m args meth c cc RX8 nL ret D g) (hA : ∀ q, s.heap.size ≤ q → A q) (h : jH A s H locs D g ad z Y X) (hsz : ls.size = nL) (hno : jNoL z (jM z)) (hr : rest.length ≤ 3) (hfr : 2 ≤ R.frames) (hlo : 40 ≤ R.locals) (hc : cells + 2 ≤ R.cells) (hs : slots + 4 ≤ R.slots) (d0 : decode cc pc = .ok (.new 15, 3)) (d3 : decode cc (pc + 3) = .ok (.dup, 1)) (d4 : decode cc (pc + 4) = .ok (.invokespecial 56, 3))
    (kk : ∀ (q q2 : Nat) (H1 : Heap) (locs1 : List Loc), jH A s H1 locs1 D g (jup (jup ad (4 * jM z + 2) q) (4 * jM z + 3) q2) (jNewL z) Y X → W p l e R s m args below meth c H1 locs1 (cells + 2) (slots + 4) Q (F0 m (pc + 7) ls (jv (jup (jup ad (4 * jM z + 2) q) (4 * jM z + 3) q2) 2 (nI (jM z)) :: rest))) : W p l e R s m args below meth c H locs cells slots Q (F0 m pc ls rest) := by
  have V' := V
  obtain ⟨hx, hb, hml, hown, hts, hr2, hlk, hK, hJ⟩ := V
  refine va_new (D := D) (ci := 6) (fs := jl0) (C := RX6) (T := TX6) (N := 4) hx hb hts kX6 tyX6 tyX6_ok hown (hts _ kc_X8_15) (hts _ ki_X6) (hts _ kz_X6) hK h.1 h.2.1 h.2.2 hA rfl (fun j hj => match j, hj with
    | 0, _ => rfl | 1, _ => rfl | 2, _ => rfl | 3, _ => rfl
    | n + 4, h => absurd h (by omega)) (by omega) hs d0 (fun q H1 hP hD hS => ?_)
  refine lv_dup hx hb d3 rfl ?_
  refine jr_initN (x := (q, .inr (6, jl0))) (Wn := fun u => [(q, .inr (6, jl1 (u 0))), (u 0, .inl (g 3, 0, jRf fun _ => none))]) (host := RL) V' hA ⟨hP, hD, hS⟩ (c_X6_init l q H1.size) kd_yX6_init rfl rfl kz_X6 hJ.2.2.2.1 kinst_yX6_init rfl (by decide +kernel) ⟨hfr, Nat.le_trans (by decide) hlo⟩ hsz (by show rest.length + 1 ≤ 4; omega) ⟨by omega, hs⟩ d4 (fun u H2 locs2 hW => ?_)
  have hp := jabs_L (g := g) (ad := ad) (Y := Y) (X := X) (q := q) (q2 := u 0) hno
  have := kk q (u 0) H2 locs2 ⟨va_P_perm hW.1 hp, va_D_perm hW.2.1 hp, hW.2.2⟩
  rw [show jv (jup (jup ad (4 * jM z + 2) q) (4 * jM z + 3) (u 0)) 2 (nI (jM z)) = .ref q from by
    have h1 := hno.1
    show va_rf (jr _ _ _) = _
    unfold jr
    rw [if_neg (pz_m1 (by omega)), nI_clamp (by omega), jup_ne (by omega), jup_eq]
    rfl] at this
  exact this
end JA
/-! methods that make Persons or Lands: all that was there stands where it stood, but the arrays -/
def jGc (ad0 : Nat → Nat) (z0 : kS) : (Nat → Nat) → Prop := fun a => ∀ p ∈ jPl z0, p ≠ 4 → p ≠ 8 → p % 4 ≠ 3 → a p = ad0 p
def jLe (z0 z : kS) : Prop := jN z0 ≤ jN z ∧ jM z0 ≤ jM z
theorem jLe.rf {z : kS} : jLe z z := ⟨Nat.le_refl _, Nat.le_refl _⟩
theorem jLe.put {z0 z : kS} {p : Nat} {f : Nat → Int32} (h : jLe z0 z) (hp : p ≠ 20) : jLe z0 (kst z p f) := by
  have e : kst z p f 20 = z 20 := kst_ne _ _ (fun h => hp h.symm)
  unfold jLe jN jM at *
  rw [e]
  exact h
theorem jLe.newP {z0 z : kS} (h : jLe z0 z) (hn : jN z < 1000000) : jLe z0 (jNewP z) := ⟨by rw [jN_newP hn]; have := h.1; omega, by rw [jM_newP]; exact h.2⟩
theorem jLe.newL {z0 z : kS} (h : jLe z0 z) (hn : jM z < 1000000) : jLe z0 (jNewL z) := ⟨by rw [jN_newL]; exact h.1, by rw [jM_newL hn]; have := h.2; omega⟩
theorem jLe.sub {z0 z : kS} (h : jLe z0 z) {p : Nat} (hp : p ∈ jPl z0) : p ∈ jPl z := by
  obtain ⟨h1, h2⟩ := h
  rcases jPl_mem.mp hp with e | e | e | ⟨i, hi, e⟩ | ⟨i, hi, e⟩ | ⟨i, hi, e⟩
  · rw [e]; exact jPl_0
  · rw [e]; exact jPl_4
  · rw [e]; exact jPl_8
  · rw [e]; exact jPl_P (by omega)
  · rw [e]; exact jPl_L (by omega)
  · rw [e]; exact jPl_H (by omega)
section JG
variable {ad0 a b : Nat → Nat} {z0 z : kS} {q q2 l : Nat}
theorem jGc.rf : jGc a z a := fun _ _ _ _ _ => rfl
theorem jGc.p0 (h : jGc ad0 z0 a) : a 0 = ad0 0 := h 0 jPl_0 (by decide) (by decide) (by decide)
theorem jGc.r1 (h : jGc ad0 z0 a) {c : Int32} (hc : ¬ jbad (jN z0) c) : jr a 1 c = jr ad0 1 c := by
  rcases jbad_or hc with rfl | hc
  · rw [jr_m, jr_m]
  · rw [jr_in hc, jr_in hc, h _ (jPl_P (jok hc)) (by omega) (by omega) (by omega)]
theorem jGc.r2 (h : jGc ad0 z0 a) {c : Int32} (hc : ¬ jbad (jM z0) c) : jr a 2 c = jr ad0 2 c := by
  rcases jbad_or hc with rfl | hc
  · rw [jr_m, jr_m]
  · rw [jr_in hc, jr_in hc, h _ (jPl_L (jok hc)) (by omega) (by omega) (by omega)]
theorem jGc.up4 (h : jGc ad0 z0 a) : jGc ad0 z0 (jup a 4 q) := fun p hp h4 h8 h3 => by rw [jup_ne h4]; exact h p hp h4 h8 h3
theorem jGc.up8 (h : jGc ad0 z0 a) : jGc ad0 z0 (jup a 8 q) := fun p hp h4 h8 h3 => by rw [jup_ne h8]; exact h p hp h4 h8 h3
theorem jGc.upH (h : jGc ad0 z0 a) : jGc ad0 z0 (jup a (4 * l + 3) q) := fun p hp h4 h8 h3 => by rw [jup_ne (by omega)]; exact h p hp h4 h8 h3
theorem jGc.newP (h : jGc ad0 z0 a) (hz : jLe z0 z) : jGc ad0 z0 (jup a (4 * jN z + 1) q) := fun p hp h4 h8 h3 => by
  have := hz.1
  rw [jup_ne (by rcases jPl_mem.mp hp with e | e | e | ⟨i, hi, e⟩ | ⟨i, hi, e⟩ | ⟨i, hi, e⟩ <;> omega)]
  exact h p hp h4 h8 h3
theorem jGc.newL (h : jGc ad0 z0 a) (hz : jLe z0 z) : jGc ad0 z0 (jup (jup a (4 * jM z + 2) q) (4 * jM z + 3) q2) := fun p hp h4 h8 h3 => by
  have := hz.2
  rw [jup_ne (by omega), jup_ne (by rcases jPl_mem.mp hp with e | e | e | ⟨i, hi, e⟩ | ⟨i, hi, e⟩ | ⟨i, hi, e⟩ <;> omega)]
  exact h p hp h4 h8 h3
theorem jGc.h3 (h : jGc ad0 z0 a) (h2 : jH3 a b) : jGc ad0 z0 b := fun p hp h4 h8 h3 => (h2 p h3).trans (h p hp h4 h8 h3)
theorem jGc.tr (h : jGc ad0 z0 a) (hz : jLe z0 z) (h2 : jGc a z b) : jGc ad0 z0 b := fun p hp h4 h8 h3 => (h2 p (hz.sub hp) h4 h8 h3).trans (h p hp h4 h8 h3)
theorem jup_0_P : jup a (4 * l + 1) q 0 = a 0 := jup_ne (by omega)
theorem jup_0_L : jup a (4 * l + 2) q 0 = a 0 := jup_ne (by omega)
theorem jr_upL1 {c : Int32} : jr (jup a (4 * l + 2) q) 1 c = jr a 1 c := jr_ot (fun k => by omega)
theorem jr_upP2 {c : Int32} : jr (jup a (4 * l + 1) q) 2 c = jr a 2 c := jr_ot (fun k => by omega)
end JG
