/-! THE LAW: its rows -/
def aL (s : State) : Nat → Prop := fun q => s.heap.size ≤ q
theorem aL_new {s : State} : ∀ q, s.heap.size ≤ q → aL s q := fun _ h => h
/-- what stays while the law runs -/
def lV (p : Program) (l : Launch) (s : State) (m : MethodId) (b : Nat) (meth : Method) (c : Code) (L : Nat) (xs : Nat → Int32) (D : va_G) (cI cZ cO cL : ClassId) : Prop :=
  kV p s m #[Value.ref b] meth c cL_law RL 9 (some .boolean) D cI cZ cO ∧ l.stackTraces = false ∧ kXA (aL s) s s.heap ∧ kNc s ∧ kXM s ∧ va_K D vwCl (kL cI cZ cO cL) s ∧ va_X b L xs s s.heap ∧ b < s.heap.size ∧ L ≤ 2048
abbrev lH (s : State) (H : Heap) (locs : List Loc) (D : va_G) (cI cZ cO cL : ClassId) (ad : Nat → Nat) (k mo : kS) (xo : Nat) (f : Nat → Int64) : Prop := kHA (aL s) s H locs D ad (kE ad cI cZ cO k mo) (xL cL xo f)
def lB (x : Int32) : Int32 := if x = 0 then 0 else 1
theorem lB_01 (x : Int32) : lB x = 0 ∨ lB x = 1 := by
  unfold lB
  split
  · exact Or.inl rfl
  · exact Or.inr rfl
abbrev lvB (b : Nat) (ad : Nat → Nat) (xo n : Nat) : List (Nat × Value) := [(4, .int (nI (4 * n))), (3, .ref xo), (2, .ref (ad 7)), (1, .ref (ad 0)), (0, .ref b)]
section LB
variable {p : Program} {l : Launch} {e : Env} {s : State} {m : MethodId} {b : Nat} {below : List Frame} {meth : Method} {c : Code} {H : Heap} {locs : List Loc} {cells slots : Nat} {Q : State → Prop}
variable {D : va_G} {cI cZ cO cL : ClassId} {ad : Nat → Nat} {k mo k' mo' : kS} {pc xo n L : Nat} {xs : Nat → Int32} {ls : Array Slot} {rest : List Value} {f : Nat → Int64} {lv : List (Nat × Value)}
/-- script[i + j] -/
theorem lw_arg (j : Nat) (V : lV p l s m b meth c L xs D cI cZ cO cL) (h : lH s H locs D cI cZ cO cL ad k mo xo f) (h0 : ls[0]? = some (.val (.ref b))) (h4 : ls[4]? = some (.val (.int (nI (4 * n))))) (hj : 4 * n + j < L) {J : Int} (hJ : Int32.ofInt J = nI j) (d0 : decode cL_law pc = .ok (.aload_n 0, 1)) (d1 : decode cL_law (pc + 1) = .ok (.iload 4, 2)) (d3 : decode cL_law (pc + 1 + 2) = .ok (.iconst J, 1)) (d4 : decode cL_law (pc + 1 + 2 + 1) = .ok (.iadd, 1)) (d5 : decode cL_law (pc + 1 + 2 + 1 + 1) = .ok (.iaload, 1))
    (kk : W p l e room_1 s m #[Value.ref b] below meth c H locs cells slots Q (F0 m (pc + 1 + 2 + 1 + 1 + 1) ls (.int (xs (4 * n + j)) :: rest))) : W p l e room_1 s m #[Value.ref b] below meth c H locs cells slots Q (F0 m pc ls rest) := by
  obtain ⟨⟨hx, hb, hml, hown, hts, hr, hlk, hK⟩, -, -, -, -, -, hX, hbl, hL⟩ := V
  refine lv_aload_n hx hb d0 rfl h0 ?_
  refine lv_iload hx hb d1 h4 ?_
  refine lv_iconst (v := nI j) hx hb d3 hJ ?_
  refine lv_iadd hx hb d4 ?_
  rw [nI_add]
  refine va_sld (A := aL s) (b := b) (L := L) (xs := xs) hx hb hX hbl (Nat.not_le.mpr hbl) h.2.2 ?_ d5 ?_
  · rintro (q | q)
    · rw [pz_n0 (show 4 * n + j < 2 ^ 31 by omega)] at q
      exact q.elim
    · rw [nI_clamp (show 4 * n + j < 2 ^ 31 by omega)] at q
      omega
  · rw [nI_clamp (show 4 * n + j < 2 ^ 31 by omega)]
    exact kk
/-- x != 0 as a boolean -/
theorem lw_bool {x : Int32} {o1 o2 : Int} (V : lV p l s m b meth c L xs D cI cZ cO cL) (d0 : decode cL_law pc = .ok (.ifCond .eq o1, 3)) (t1 : (pc : Int) + o1 = ((pc + 7 : Nat) : Int)) (d3 : decode cL_law (pc + 3) = .ok (.iconst 1, 1)) (d4 : decode cL_law (pc + 3 + 1) = .ok (.goto o2, 3)) (t2 : ((pc + 3 + 1 : Nat) : Int) + o2 = ((pc + 7 + 1 : Nat) : Int)) (d7 : decode cL_law (pc + 7) = .ok (.iconst 0, 1))
    (kk : W p l e room_1 s m #[Value.ref b] below meth c H locs cells slots Q (F0 m (pc + 7 + 1) ls (.int (lB x) :: rest))) : W p l e room_1 s m #[Value.ref b] below meth c H locs cells slots Q (F0 m pc ls (.int x :: rest)) := by
  obtain ⟨⟨hx, hb, hml, hown, hts, hr, hlk, hK⟩, -⟩ := V
  refine lv_if_eq (tgt := pc + 7) hx hb d0 t1 (fun q => ?_) (fun q => ?_)
  · refine lv_iconst (v := 0) hx hb d7 (by decide) ?_
    rw [show lB x = 0 from if_pos q] at kk
    exact kk
  · refine lv_iconst (v := 1) hx hb d3 (by decide) ?_
    refine lv_goto (tgt := pc + 7 + 1) hx hb d4 t2 ?_
    rw [show lB x = 1 from if_neg q] at kk
    exact kk
/-- a wrapper's call -/
theorem lw_callW {y : MethodName} {bytes : ByteArray} {maxL na index code : Nat} {hh : List (Nat × Nat × Nat × Nat)} {as : List Value} {w r : Int32} {st : List Value} (V : lV p l s m b meth c L xs D cI cZ cO cL) (h : lH s H locs D cI cZ cO cL ad k mo xo f) (hM : vx_Met l y (Cond.codeWith y bytes maxL (some .int) hh :: kWA) rm_L (lP as D cI cZ cO cL ad (kE ad cI cZ cO k mo) xo f H.size) (lQ w code r D cI cZ cO cL ad (kE ad cI cZ cO k' mo) xo H.size) lNo 8 48 (fL ad xo H.size)) (hst : Cond.static y ∈ kWA) (w1 : Cond.methodLink RL index y ∈ kWA) (hcd : Cond.codeWith y bytes maxL (some .int) hh ∈ kWA) (hcls : y.cls = RL)
    (hd : y.cls ≠ "java/lang/invoke/MethodHandle" ∧ y.cls ≠ "java/lang/invoke/VarHandle" ∧ (parseMethodDescriptor y.desc).map (fun d => d.parameters.length) = some na) (hml : maxL ≤ 10) (hn : as.length = na) (hsz : ls.size = 9) (hf : cells + 8 ≤ room_1.cells ∧ slots + 48 ≤ room_1.slots) (hdg : decode cL_law pc = .ok (.invokestatic index, 3)) (hstk : st = as.reverse)
    (kk : ∀ (f' : Nat → Int64) (H1 : Heap) (locs1 : List Loc), (code = 0 → f' 0 = r.toInt64) → lH s H1 locs1 D cI cZ cO cL ad k' mo xo f' → W p l e room_1 s m #[Value.ref b] below meth c H1 locs1 (cells + 8) (slots + 48) Q (F0 m (pc + 3) ls [.int w])) : W p l e room_1 s m #[Value.ref b] below meth c H locs cells slots Q (F0 m pc ls st) := by
  obtain ⟨⟨hx, hb, hml9, hown, hts, hr, hlk, hK⟩, hstf, hX, hNc, hXM, hKL, -, -, -⟩ := V
  have hfL : ∀ q, fL ad xo H.size q → aL s q := by
    rintro q (h9 | rfl)
    · exact kHA_fA h aL_new q h9
    · exact h.2.1.2 109 (q, .inl (cL, 1, .inr (.inl f))) (kC_xg (j := 0) rfl)
  have hG : GoodIn kWA (va_wsS RL index y (Cond.codeWith y bytes maxL (some .int) hh :: kWA)) := fun w hw => by
    rcases List.mem_append.mp hw with hw | hw
    · simp only [List.mem_cons, List.not_mem_nil, or_false] at hw
      rcases hw with rfl | rfl | rfl
      · exact ⟨w1, kWA_good _ w1⟩
      · exact ⟨hst, kWA_good _ hst⟩
      · rw [hcls]; exact ⟨kz_L, kWA_good _ kz_L⟩
    · exact (List.mem_cons.mp hw).elim (fun e => by rw [e]; exact ⟨hcd, kWA_good _ hcd⟩) (fun h2 => ⟨h2, kWA_good w h2⟩)
  have hrun := vx_runSX (rest := []) (g := F0 m pc ls st) (l := l) (e := e) (below := below) (meth := meth) (locs := locs) (cells := cells) (slots := slots) ⟨hx, hb, hml9, hown, hts⟩ hM (vx_cwSW (R := room_1) na hts hG rfl rfl rfl hd ⟨Nat.le_of_ble_eq_true rfl, by show 8 + (maxL + 11) + 170 ≤ 84000; omega⟩) ⟨lP_blind, fun U hU hW => ⟨rfl, ⟨by rw [hU], by rw [hU]; exact h.1, va_K.moved hW.alike hKL, h.2.1.weaken (fun _ _ _ _ => trivial)⟩, by
    have := kXA_next hX h.2.2 hU hW (B := fL ad xo H.size) hfL
    rw [show U.heap.size = H.size by rw [hU]]
    exact this, hNc.moved hW.alike⟩⟩ rfl hn hsz (by rw [List.append_nil]; exact hstk) (lv_room (Nat.le_of_ble_eq_true rfl)) hdg hf
  refine vx_calli hrun h.2.2 (fun q _ h2 => hfL q h2) hfL (fun q _ h2 => h2.elim) (fun En ce q9 u t H1 locs1 ht hvm hp hB hz hk hS hcell hv hcl => hp.elim) (fun r' u t H1 locs1 ht hvm hp hB hz hk hS => ?_)
  · subst ht
    obtain ⟨rfl, hp2⟩ := hp
    exact kk u _ _ hp2 ⟨hB.1, ⟨hB.2.2.1, fun k q hk => hfL _ (hB.2.2.2 k q hk)⟩, hS⟩
/-- behind the reference's call: it says what the wrapper said, and the same answer -/
theorem lw_tail {a1 a2 a3 code : Nat} {r b1 : Int32} {S : Nat} {off : Int} (V : lV p l s m b meth c L xs D cI cZ cO cL) (h : lH s H locs D cI cZ cO cL ad k mo xo f) (ok : zOk a1 a2 a3 code r b1 (mo 7 0)) (h5 : a1 < 5 ∧ a2 < 5 ∧ a3 < 5) (hf1 : code = 0 → f 0 = r.toInt64) (hl : lv_has ls 9 ((5, .int (lW a1 a2 a3 code)) :: lvB b ad xo n)) (hR : cells ≤ room_1.cells ∧ slots ≤ room_1.slots)
    (d0 : decode cL_law S = .ok (.istore 6, 2)) (d2 : decode cL_law (S + 2) = .ok (.aload_n 2, 1)) (d3 : decode cL_law (S + 3) = .ok (.invokevirtual 78, 3)) (d6 : decode cL_law (S + 6) = .ok (.iload 5, 2)) (d8 : decode cL_law (S + 8) = .ok (.if_icmp .eq 5, 3)) (d13 : decode cL_law (S + 13) = .ok (.iload 5, 2)) (d15 : decode cL_law (S + 15) = .ok (.ifCond .ne 15, 3)) (d18 : decode cL_law (S + 18) = .ok (.aload_n 3, 1)) (d19 : decode cL_law (S + 19) = .ok (.iconst 0, 1)) (d20 : decode cL_law (S + 20) = .ok (.laload, 1)) (d21 : decode cL_law (S + 21) = .ok (.iload 6, 2)) (d23 : decode cL_law (S + 23) = .ok (.i2l, 1)) (d24 : decode cL_law (S + 24) = .ok (.lcmp, 1)) (d25 : decode cL_law (S + 25) = .ok (.ifCond .eq 5, 3)) (d30 : decode cL_law (S + 30) = .ok (.goto off, 3)) (ht : ((S + 30 : Nat) : Int) + off = ((1251 : Nat) : Int))
    (K : ∀ (H1 : Heap) (locs1 : List Loc) (ls1 : Array Slot), lH s H1 locs1 D cI cZ cO cL ad k mo xo f → lv_has ls1 9 (lvB b ad xo n) → W p l e room_1 s m #[Value.ref b] below meth c H1 locs1 cells slots Q (F0 m 1251 ls1 [])) : W p l e room_1 s m #[Value.ref b] below meth c H locs cells slots Q (F0 m S ls [.int b1]) := by
  obtain ⟨⟨hx, hb, hml9, hown, hts, hr, hlk, hK⟩, hstf, hX, hNc, hXM, hKL, -, -, -⟩ := id V
  obtain ⟨o1, o2, o3, o4⟩ := lC_of ok
  refine lv_istore (lv' := (6, .int b1) :: (5, .int (lW a1 a2 a3 code)) :: lvB b ad xo n) hx hb d0 hl (by decide) rfl (fun ls hl => ?_)
  refine lv_aload_n hx hb d2 rfl (lv_at hl 4 rfl) ?_
  refine lr_calli (mc := 0) (ms := 0) (E' := kE ad cI cZ cO k mo) (r := mo 7 0) h aL_new (lr_runV (pl := 7) (ci := 6) (as := []) (rest := []) V.1 h kYX6_thrown kl_L_78 (c_X6_thrown l (k := k) (mo := mo) rfl H.size) kP_blind (kHA_pre h hK) rfl rfl ⟨Nat.le_of_ble_eq_true rfl, Nat.le_of_ble_eq_true rfl⟩ (by decide) kE_7 rfl rfl hl.1 (Nat.le_of_ble_eq_true rfl) d3 hR rfl) (fun H1 locs1 h => ?_)
  refine lv_iload hx hb d6 (lv_at hl 1 rfl) ?_
  refine lv_icmp_eq (tgt := S + 13) hx hb d8 (by omega) (fun _ => ?_) (fun q => absurd o2 q)
  refine lv_iload hx hb d13 (lv_at hl 1 rfl) ?_
  have gt : ∀ (ls1 : Array Slot), lv_has ls1 9 ((6, .int b1) :: (5, .int (lW a1 a2 a3 code)) :: lvB b ad xo n) → W p l e room_1 s m #[Value.ref b] below meth c H1 locs1 (cells + 0) (slots + 0) Q (F0 m (S + 30) ls1 []) := fun ls1 hl1 =>
    lv_goto (tgt := 1251) hx hb d30 ht (K H1 locs1 ls1 h (lv_sub hl1 [2, 3, 4, 5, 6] rfl))
  refine lv_if_ne (tgt := S + 30) hx hb d15 (by omega) (fun _ => gt ls hl) (fun q => ?_)
  have hc0 := o4 q h5.1 h5.2.1 h5.2.2
  refine lv_aload_n hx hb d18 rfl (lv_at hl 3 rfl) ?_
  refine lv_iconst (v := 0) hx hb d19 (by decide) ?_
  refine va_lald (D := D) (cA := cL) (n := 1) (f := f) hx hb hKL h.1 109 3 (kC_xg (j := 0) rfl) rfl (show ¬ ((0 : Int32) < 0 ∨ 1 ≤ (0 : Int32).toNatClampNeg) by decide) d20 ?_
  rw [show f (0 : Int32).toNatClampNeg = b1.toInt64 from (hf1 hc0).trans (by rw [o3 hc0])]
  refine lv_iload hx hb d21 (lv_at hl 0 rfl) ?_
  refine lv_i2l (v := b1.toInt64) hx hb d23 rfl ?_
  refine W.lcmp hx hb d24 ?_
  rw [show lg_cmp b1.toInt64 b1.toInt64 = 0 from by unfold lg_cmp; rw [if_neg (by simp), if_pos rfl]]
  exact lv_if_eq (tgt := S + 30) hx hb d25 (by omega) (fun _ => gt ls hl) (fun q => absurd rfl q)
end LB
