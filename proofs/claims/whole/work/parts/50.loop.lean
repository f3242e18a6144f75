/-! THE LAW: its loop -/
section LLP
variable {p : Program} {l : Launch} {e : Env} {s : State} {m : MethodId} {b : Nat} {below : List Frame} {meth : Method} {c : Code} {H : Heap} {locs : List Loc} {cells slots : Nat} {Q : State → Prop}
variable {D : va_G} {cI cZ cO cL : ClassId} {ad : Nat → Nat} {k mo : kS} {xo n L : Nat} {xs : Nat → Int32} {ls : Array Slot} {f : Nat → Int64}
theorem lw_31 (x : Int32) : ∃ j : Nat, j < 32 ∧ x &&& 31 = nI j := by
  refine ⟨(x.toBitVec &&& 31#32).toNat, ?_, ?_⟩
  · rw [BitVec.toNat_and]
    exact Nat.lt_of_le_of_lt Nat.and_le_right (by decide)
  · apply Int32.toBitVec_inj.mp
    rw [Int32.toBitVec_and]
    show x.toBitVec &&& 31#32 = BitVec.ofNat 32 (x.toBitVec &&& 31#32).toNat
    rw [BitVec.ofNat_toNat, BitVec.setWidth_eq]
theorem lw_end (hL : L ≤ 2048) (hn : n ≤ 512) (h : ¬ Int32.ofNat L - 4 < nI (4 * n)) : 4 * n + 4 ≤ L := by
  rw [Int32.lt_iff_toInt_lt, Int32.toInt_sub, show Int32.ofNat L = nI L from rfl, nI_toInt (show L < 2 ^ 31 by omega), nI_toInt (show 4 * n < 2 ^ 31 by omega), show (4 : Int32).toInt = 4 from by decide] at h
  rw [Int.bmod_eq_of_le (by omega) (by omega)] at h
  omega
set_option maxHeartbeats 8000000 in
set_option maxRecDepth 100000 in
/-- one turn, behind the head's test: to 1251 -/
theorem lw_turn (V : lV p l s m b meth c L xs D cI cZ cO cL) (h : lH s H locs D cI cZ cO cL ad k mo xo f) (hz : zAll n k mo) (hn : n ≤ 512) (hL : 4 * n + 4 ≤ L) (hcs : cells + 58 ≤ room_1.cells ∧ slots + 848 ≤ room_1.slots) (hl : lv_has ls 9 (lvB b ad xo n)) (K : lK p l e s m b below meth c cells slots Q D cI cZ cO cL ad xo n) : W p l e room_1 s m #[Value.ref b] below meth c H locs cells slots Q (F0 m 32 ls []) := by
  obtain ⟨⟨hx, hb, hml9, hown, hts, hr, hlk, hK⟩, hstf, hX, hNc, hXM, hKL, hXs, hbl, hL2⟩ := id V
  have hn6 : n ≤ 600 := by omega
  refine lv_aload_n hx hb dL_law_32 rfl (lv_at hl 4 rfl) ?_
  refine lv_iload hx hb dL_law_33 (lv_at hl 0 rfl) ?_
  refine va_sld (A := aL s) (b := b) (L := L) (xs := xs) hx hb hXs hbl (Nat.not_le.mpr hbl) h.2.2 ?_ dL_law_35 ?_
  · rintro (q | q)
    · rw [pz_n0 (show 4 * n < 2 ^ 31 by omega)] at q
      exact q.elim
    · rw [nI_clamp (show 4 * n < 2 ^ 31 by omega)] at q
      omega
  refine lv_bipush (v := 31) hx hb dL_law_36 (by decide) ?_
  refine lv_iand hx hb dL_law_38 ?_
  obtain ⟨j, hj, hy⟩ := lw_31 (xs (nI (4 * n)).toNatClampNeg)
  rw [hy]
  by_cases hj2 : j < 18
  · have hj3 : j = 0 ∨ j = 1 ∨ j = 2 ∨ j = 3 ∨ j = 4 ∨ j = 5 ∨ j = 6 ∨ j = 7 ∨ j = 8 ∨ j = 9 ∨ j = 10 ∨ j = 11 ∨ j = 12 ∨ j = 13 ∨ j = 14 ∨ j = 15 ∨ j = 16 ∨ j = 17 := by omega
    rcases hj3 with rfl | rfl | rfl | rfl | rfl | rfl | rfl | rfl | rfl | rfl | rfl | rfl | rfl | rfl | rfl | rfl | rfl | rfl
    · exact lv_tableIn (off := 85) (tgt := 124) hx hb dL_law_39 (by decide) (by decide) (by decide) (by decide) (lw_b_come V h hz hn6 hL hcs hl K)
    · exact lv_tableIn (off := 169) (tgt := 208) hx hb dL_law_39 (by decide) (by decide) (by decide) (by decide) (lw_b_bear V h hz hn6 hL hcs hl K)
    · exact lv_tableIn (off := 253) (tgt := 292) hx hb dL_law_39 (by decide) (by decide) (by decide) (by decide) (lw_b_found V h hz hn6 hL hcs hl K)
    · exact lv_tableIn (off := 333) (tgt := 372) hx hb dL_law_39 (by decide) (by decide) (by decide) (by decide) (lw_b_setLaw V h hz hn6 hL hcs hl K)
    · exact lv_tableIn (off := 401) (tgt := 440) hx hb dL_law_39 (by decide) (by decide) (by decide) (by decide) (lw_b_marry V h hz hn6 hL hcs hl K)
    · exact lv_tableIn (off := 481) (tgt := 520) hx hb dL_law_39 (by decide) (by decide) (by decide) (by decide) (lw_b_annul V h hz hn6 hL hcs hl K)
    · exact lv_tableIn (off := 537) (tgt := 576) hx hb dL_law_39 (by decide) (by decide) (by decide) (by decide) (lw_b_die V h hz hn6 hL hcs hl K)
    · exact lv_tableIn (off := 593) (tgt := 632) hx hb dL_law_39 (by decide) (by decide) (by decide) (by decide) (lw_b_person V h hz hn6 hL hcs hl K)
    · exact lv_tableIn (off := 661) (tgt := 700) hx hb dL_law_39 (by decide) (by decide) (by decide) (by decide) (lw_b_land V h hz hn6 hL hcs hl K)
    · exact lv_tableIn (off := 729) (tgt := 768) hx hb dL_law_39 (by decide) (by decide) (by decide) (by decide) (lw_b_ruled V h hz hn6 hL hcs hl K)
    · exact lv_tableIn (off := 797) (tgt := 836) hx hb dL_law_39 (by decide) (by decide) (by decide) (by decide) (lw_b_related V h hz hn6 hL hcs hl K)
    · exact lv_tableIn (off := 865) (tgt := 904) hx hb dL_law_39 (by decide) (by decide) (by decide) (by decide) (lw_b_count V h hz hn6 hL hcs hl K)
    · exact lv_tableIn (off := 921) (tgt := 960) hx hb dL_law_39 (by decide) (by decide) (by decide) (by decide) (lw_b_pass V h hz hn6 hL hcs hl K)
    · exact lv_tableIn (off := 977) (tgt := 1016) hx hb dL_law_39 (by decide) (by decide) (by decide) (by decide) (lw_b_rules V h hz hn6 hL hcs hl K)
    · exact lv_tableIn (off := 1033) (tgt := 1072) hx hb dL_law_39 (by decide) (by decide) (by decide) (by decide) (lw_b_foresee V h hz hn6 hL hcs hl K)
    · exact lv_tableIn (off := 1101) (tgt := 1140) hx hb dL_law_39 (by decide) (by decide) (by decide) (by decide) (lw_b_best V h hz hn6 hL hcs hl K)
    · exact lv_tableIn (off := 1157) (tgt := 1196) hx hb dL_law_39 (by decide) (by decide) (by decide) (by decide) (lw_b_mean V h hz hn6 hL hcs hl K)
    · exact lv_tableIn (off := 1198) (tgt := 1237) hx hb dL_law_39 (by decide) (by decide) (by decide) (by decide) (lw_b_digest V h hz hn6 hL hcs hl K)
  · refine lv_tableOut (tgt := 1251) hx hb dL_law_39 (Or.inr ?_) (by decide) ?_
    · rw [nI_toInt (show j < 2 ^ 31 by omega)]
      omega
    · refine W.widen (k := cells + 58) (n := slots + 848) (by omega) (by omega) (K k mo f _ _ _ ?_ h hl)
      obtain ⟨n', L', y, a1, a2, a3, a4, a5⟩ := hz
      exact ⟨n', L', y, a1, zXl_mono a2 (fun _ _ => by omega), a3, by omega, a5⟩
set_option maxHeartbeats 4000000 in
/-- the loop -/
theorem lw_loop (V : lV p l s m b meth c L xs D cI cZ cO cL) : ∀ (dd n : Nat), 513 - n ≤ dd → n ≤ 512 → ∀ (k mo : kS) (f : Nat → Int64) (H : Heap) (locs : List Loc) (ls : Array Slot), lH s H locs D cI cZ cO cL ad k mo xo f → zAll n k mo → lv_has ls 9 (lvB b ad xo n) → W p l e room_1 s m #[Value.ref b] below meth c H locs (110 + 58 * n) (3439 + 848 * n) (lw_Z below #[Value.ref b] s) (F0 m 23 ls []) := by
  intro dd
  induction dd with
  | zero => intro n h1 h2; omega
  | succ dd ih =>
    intro n h1 h2 k mo f H locs ls h hz hl
    obtain ⟨⟨hx, hb, hml9, hown, hts, hr, hlk, hK⟩, hstf, hX, hNc, hXM, hKL, hXs, hbl, hL2⟩ := id V
    refine lv_iload hx hb dL_law_23 (lv_at hl 0 rfl) ?_
    refine lv_aload_n hx hb dL_law_25 rfl (lv_at hl 4 rfl) ?_
    refine va_slen (A := aL s) (b := b) (L := L) (xs := xs) hx hb hXs hbl (Nat.not_le.mpr hbl) h.2.2 dL_law_26 ?_
    refine lv_iconst (v := 4) hx hb dL_law_27 (by decide) ?_
    refine lv_isub hx hb dL_law_28 ?_
    refine lv_icmp_gt (tgt := 1257) hx hb dL_law_29 (by decide) (fun q => ?_) (fun q => ?_)
    · refine lv_iconst (v := 1) hx hb dL_law_1257 (by decide) ?_
      refine va_forget (fun q hq => h.2.2.2.2 q hq) ?_
      refine W.widen (k := 601024) (n := 7293034) (by omega) (by omega) ?_
      refine W.base ?_
      exact lw_ret (Drawn.sameBut.refl s.drawn lw_cs) hx hb hr hlk dL_law_1258
    · have hL := lw_end hL2 h2 q
      refine lw_turn V h hz h2 hL ⟨by show 110 + 58 * n + 58 ≤ 601024; omega, by show 3439 + 848 * n + 848 ≤ 7293034; omega⟩ hl (fun k' mo' f' H1 locs1 ls1 hz1 h1' hl1 => ?_)
      refine lv_iinc (v := nI (4 * n) + 4) (lv' := lvB b ad xo (n + 1)) hx hb dL_law_1251 hl1 (k := 0) rfl rfl (by decide) (by
        rw [show nI (4 * n) + 4 = nI (4 * (n + 1)) from by rw [show (4 : Int32) = nI 4 from rfl, nI_add]; exact congrArg nI (by omega)]
        rfl) (fun ls hl => ?_)
      refine lv_goto (tgt := 23) hx hb dL_law_1254 (by decide) ?_
      have hnext := ih (n + 1) (by omega) (by omega) k' mo' f' H1 locs1 ls h1' hz1 hl
      rw [show 110 + 58 * (n + 1) = 110 + 58 * n + 58 by omega, show 3439 + 848 * (n + 1) = 3439 + 848 * n + 848 by omega] at hnext
      exact hnext
end LLP
