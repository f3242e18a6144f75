/-! THE LAW: a block a call -/
theorem kd_yL_come : Cond.codeWith yL_come cL_come 5 (some .int) [(0, 10, 13, 13), (0, 10, 17, 15)] ∈ kWA := kmem 334 (by decide +kernel) (by decide +kernel)
theorem kd_yL_bear : Cond.codeWith yL_bear cL_bear 5 (some .int) [(0, 10, 13, 21), (0, 10, 17, 15)] ∈ kWA := kmem 444 (by decide +kernel) (by decide +kernel)
theorem kd_yL_found : Cond.codeWith yL_found cL_found 6 (some .int) [(0, 12, 15, 13), (0, 12, 19, 21), (0, 12, 23, 15)] ∈ kWA := kmem 475 (by decide +kernel) (by decide +kernel)
theorem kd_yL_setLaw : Cond.codeWith yL_setLaw cL_setLaw 5 (some .int) [(0, 10, 13, 21), (0, 10, 17, 13)] ∈ kWA := kmem 506 (by decide +kernel) (by decide +kernel)
theorem kd_yL_marry : Cond.codeWith yL_marry cL_marry 6 (some .int) [(0, 12, 15, 21), (0, 12, 19, 15)] ∈ kWA := kmem 522 (by decide +kernel) (by decide +kernel)
theorem kd_yL_annul : Cond.codeWith yL_annul cL_annul 4 (some .int) [(0, 9, 12, 21), (0, 9, 15, 15)] ∈ kWA := kmem 555 (by decide +kernel) (by decide +kernel)
theorem kd_yL_die : Cond.codeWith yL_die cL_die 4 (some .int) [(0, 9, 12, 21), (0, 9, 15, 15)] ∈ kWA := kmem 576 (by decide +kernel) (by decide +kernel)
theorem kd_yL_person : Cond.codeWith yL_person cL_person 5 (some .int) [(0, 10, 13, 21)] ∈ kWA := kmem 588 (by decide +kernel) (by decide +kernel)
theorem kd_yL_land : Cond.codeWith yL_land cL_land 5 (some .int) [(0, 10, 13, 21)] ∈ kWA := kmem 599 (by decide +kernel) (by decide +kernel)
theorem kd_yL_ruled : Cond.codeWith yL_ruled cL_ruled 5 (some .int) [(0, 10, 13, 21)] ∈ kWA := kmem 606 (by decide +kernel) (by decide +kernel)
theorem kd_yL_related : Cond.codeWith yL_related cL_related 5 (some .int) [(0, 10, 13, 21)] ∈ kWA := kmem 613 (by decide +kernel) (by decide +kernel)
theorem kd_yL_count : Cond.codeWith yL_count cL_count 4 (some .int) [(0, 9, 12, 21)] ∈ kWA := kmem 620 (by decide +kernel) (by decide +kernel)
theorem kd_yL_pass : Cond.codeWith yL_pass cL_pass 4 (some .int) [(0, 9, 12, 13)] ∈ kWA := kmem 627 (by decide +kernel) (by decide +kernel)
theorem kd_yL_rules : Cond.codeWith yL_rules cL_rules 4 (some .int) [(0, 9, 12, 21)] ∈ kWA := kmem 643 (by decide +kernel) (by decide +kernel)
theorem kd_yL_foresee : Cond.codeWith yL_foresee cL_foresee 5 (some .int) [(0, 10, 13, 13), (0, 10, 17, 21)] ∈ kWA := kmem 660 (by decide +kernel) (by decide +kernel)
theorem kd_yL_best : Cond.codeWith yL_best cL_best 4 (some .int) [(0, 9, 12, 21)] ∈ kWA := kmem 667 (by decide +kernel) (by decide +kernel)
section LBL
variable {p : Program} {l : Launch} {e : Env} {s : State} {m : MethodId} {b : Nat} {below : List Frame} {meth : Method} {c : Code} {H : Heap} {locs : List Loc} {cells slots : Nat} {Q : State → Prop}
variable {D : va_G} {cI cZ cO cL : ClassId} {ad : Nat → Nat} {k mo : kS} {xo n L : Nat} {xs : Nat → Int32} {ls : Array Slot} {f : Nat → Int64}
theorem lw_preM {E : Nat → va_E} {X : va_W} {A : Nat → Prop} (h : kHA A s H locs D ad E X) (hK : va_K D vwCl (kT cI cZ cO) s) (hM : kXM s) {as : List Value} : ∀ U : State, U.heap = H → s.WarmedH U.vm → kPM as D cI cZ cO ad E [] H.size as.toArray U := by
  intro U hU hW
  obtain ⟨q0, q1, q2, q3, q4⟩ := kHA_pre h hK (as := as) U hU hW
  exact ⟨rfl, ⟨q1, by rw [List.append_nil]; exact q2, q3, by rw [List.append_nil]; exact q4⟩, kXM_warm hW hM⟩
/-- what a block owes: on to 1251 -/
def lK (p : Program) (l : Launch) (e : Env) (s : State) (m : MethodId) (b : Nat) (below : List Frame) (meth : Method) (c : Code) (cells slots : Nat) (Q : State → Prop) (D : va_G) (cI cZ cO cL : ClassId) (ad : Nat → Nat) (xo n : Nat) : Prop :=
  ∀ (k' mo' : kS) (f' : Nat → Int64) (H1 : Heap) (locs1 : List Loc) (ls1 : Array Slot), zAll (n + 1) k' mo' → lH s H1 locs1 D cI cZ cO cL ad k' mo' xo f' → lv_has ls1 9 (lvB b ad xo n) → W p l e room_1 s m #[Value.ref b] below meth c H1 locs1 (cells + 58) (slots + 848) Q (F0 m 1251 ls1 [])
set_option maxHeartbeats 4000000 in
set_option maxRecDepth 100000 in
theorem lw_b_come (V : lV p l s m b meth c L xs D cI cZ cO cL) (h : lH s H locs D cI cZ cO cL ad k mo xo f) (hz : zAll n k mo) (hn : n ≤ 600) (hL : 4 * n + 4 ≤ L) (hcs : cells + 58 ≤ room_1.cells ∧ slots + 848 ≤ room_1.slots) (hl : lv_has ls 9 (lvB b ad xo n)) (K : lK p l e s m b below meth c cells slots Q D cI cZ cO cL ad xo n) : W p l e room_1 s m #[Value.ref b] below meth c H locs cells slots Q (F0 m 124 ls []) := by
  obtain ⟨code, r, k', b', m', uc, us, f5, f6, ok, hz1, huc, hus⟩ := zM_come (v1 := lB (xs (4 * n + 1))) (v2 := xs (4 * n + 2)) hz (lB_01 _)
  obtain ⟨hcd, -⟩ := lC_of ok
  obtain ⟨⟨hx, hb, hml9, hown, hts, hr, hlk, hK⟩, hstf, hX, hNc, hXM, hKL, -, -, -⟩ := id V
  obtain ⟨hc1, hc2⟩ := hcs
  refine lv_aload_n hx hb dL_law_124 rfl (lv_at hl 3 rfl) ?_
  refine lw_arg 1 V h (lv_at hl 4 rfl) (lv_at hl 0 rfl) (by omega) (by decide) dL_law_125 dL_law_126 dL_law_128 dL_law_129 dL_law_130 ?_
  refine lw_bool V dL_law_131 (by decide) dL_law_134 dL_law_135 (by decide) dL_law_138 ?_
  refine lw_arg 2 V h (lv_at hl 4 rfl) (lv_at hl 0 rfl) (by omega) (by decide) dL_law_139 dL_law_140 dL_law_142 dL_law_143 dL_law_144 ?_
  refine lv_aload_n hx hb dL_law_145 rfl (lv_at hl 1 rfl) ?_
  refine lw_callW (k' := k') (code := code) (r := r) (w := lW 1 2 0 code) (na := 4) (as := [.ref (ad 0), .int (lB (xs (4 * n + 1))), .int (xs (4 * n + 2)), .ref xo]) V h (c_L_come l hstf (k := k) (mo := mo) (f := f) (ad := ad) (lB (xs (4 * n + 1))) (xs (4 * n + 2)) f5 hcd H.size) kstatic_yL_come kl_L_72 kd_yL_come rfl (by decide +kernel) (by decide) rfl hl.1 ⟨by omega, by omega⟩ dL_law_146 rfl (fun f' H locs hf1 h => ?_)
  refine lv_istore (lv' := (5, .int (lW 1 2 0 code)) :: lvB b ad xo n) hx hb dL_law_149 hl (by decide) rfl (fun ls hl => ?_)
  refine lv_aload_n hx hb dL_law_151 rfl (lv_at hl 3 rfl) ?_
  refine lw_arg 1 V h (lv_at hl 5 rfl) (lv_at hl 1 rfl) (by omega) (by decide) dL_law_152 dL_law_153 dL_law_155 dL_law_156 dL_law_157 ?_
  refine lw_bool V dL_law_158 (by decide) dL_law_161 dL_law_162 (by decide) dL_law_165 ?_
  refine lw_arg 2 V h (lv_at hl 5 rfl) (lv_at hl 1 rfl) (by omega) (by decide) dL_law_166 dL_law_167 dL_law_169 dL_law_170 dL_law_171 ?_
  refine lr_calli (mc := uc) (ms := us) (E' := kE ad cI cZ cO k' m') (r := b') h aL_new (lr_runV (pl := 7) (ci := 6) (as := [.int (lB (xs (4 * n + 1))), .int (xs (4 * n + 2))]) (rest := []) V.1 h kYX6_come kl_L_77 (c_X6_come l (k := k') (ad := ad) (lB (xs (4 * n + 1))) (xs (4 * n + 2)) f6 H.size) kP_blind (kHA_pre h hK) rfl rfl ⟨(Nat.le_of_ble_eq_true rfl), (Nat.le_of_ble_eq_true rfl)⟩ (by decide) kE_7 rfl rfl hl.1 (Nat.le_of_ble_eq_true rfl) dL_law_172 ⟨by omega, by omega⟩ rfl) (fun H locs h => ?_)
  exact lw_tail (S := 175) V h ok (by decide) hf1 hl ⟨by omega, by omega⟩ dL_law_175 dL_law_177 dL_law_178 dL_law_181 dL_law_183 dL_law_188 dL_law_190 dL_law_193 dL_law_194 dL_law_195 dL_law_196 dL_law_198 dL_law_199 dL_law_200 dL_law_205 (by decide) (fun H1 locs1 ls1 h hl => W.widen (k := cells + 58) (n := slots + 848) (by omega) (by omega) (K k' m' f' H1 locs1 ls1 hz1 h hl))
set_option maxHeartbeats 4000000 in
set_option maxRecDepth 100000 in
theorem lw_b_bear (V : lV p l s m b meth c L xs D cI cZ cO cL) (h : lH s H locs D cI cZ cO cL ad k mo xo f) (hz : zAll n k mo) (hn : n ≤ 600) (hL : 4 * n + 4 ≤ L) (hcs : cells + 58 ≤ room_1.cells ∧ slots + 848 ≤ room_1.slots) (hl : lv_has ls 9 (lvB b ad xo n)) (K : lK p l e s m b below meth c cells slots Q D cI cZ cO cL ad xo n) : W p l e room_1 s m #[Value.ref b] below meth c H locs cells slots Q (F0 m 208 ls []) := by
  obtain ⟨code, r, k', b', m', uc, us, f5, f6, ok, hz1, huc, hus⟩ := zM_bear (v1 := xs (4 * n + 1)) (v2 := lB (xs (4 * n + 2))) hz (lB_01 _)
  obtain ⟨hcd, -⟩ := lC_of ok
  obtain ⟨⟨hx, hb, hml9, hown, hts, hr, hlk, hK⟩, hstf, hX, hNc, hXM, hKL, -, -, -⟩ := id V
  obtain ⟨hc1, hc2⟩ := hcs
  refine lv_aload_n hx hb dL_law_208 rfl (lv_at hl 3 rfl) ?_
  refine lw_arg 1 V h (lv_at hl 4 rfl) (lv_at hl 0 rfl) (by omega) (by decide) dL_law_209 dL_law_210 dL_law_212 dL_law_213 dL_law_214 ?_
  refine lw_arg 2 V h (lv_at hl 4 rfl) (lv_at hl 0 rfl) (by omega) (by decide) dL_law_215 dL_law_216 dL_law_218 dL_law_219 dL_law_220 ?_
  refine lw_bool V dL_law_221 (by decide) dL_law_224 dL_law_225 (by decide) dL_law_228 ?_
  refine lv_aload_n hx hb dL_law_229 rfl (lv_at hl 1 rfl) ?_
  refine lw_callW (k' := k') (code := code) (r := r) (w := lW 0 2 1 code) (na := 4) (as := [.ref (ad 0), .int (xs (4 * n + 1)), .int (lB (xs (4 * n + 2))), .ref xo]) V h (c_L_bear l hstf (k := k) (mo := mo) (f := f) (ad := ad) (xs (4 * n + 1)) (lB (xs (4 * n + 2))) f5 hcd H.size) kstatic_yL_bear kl_L_82 kd_yL_bear rfl (by decide +kernel) (by decide) rfl hl.1 ⟨by omega, by omega⟩ dL_law_230 rfl (fun f' H locs hf1 h => ?_)
  refine lv_istore (lv' := (5, .int (lW 0 2 1 code)) :: lvB b ad xo n) hx hb dL_law_233 hl (by decide) rfl (fun ls hl => ?_)
  refine lv_aload_n hx hb dL_law_235 rfl (lv_at hl 3 rfl) ?_
  refine lw_arg 1 V h (lv_at hl 5 rfl) (lv_at hl 1 rfl) (by omega) (by decide) dL_law_236 dL_law_237 dL_law_239 dL_law_240 dL_law_241 ?_
  refine lw_arg 2 V h (lv_at hl 5 rfl) (lv_at hl 1 rfl) (by omega) (by decide) dL_law_242 dL_law_243 dL_law_245 dL_law_246 dL_law_247 ?_
  refine lw_bool V dL_law_248 (by decide) dL_law_251 dL_law_252 (by decide) dL_law_255 ?_
  refine lr_calli (mc := uc) (ms := us) (E' := kE ad cI cZ cO k' m') (r := b') h aL_new (lr_runV (pl := 7) (ci := 6) (as := [.int (xs (4 * n + 1)), .int (lB (xs (4 * n + 2)))]) (rest := []) V.1 h kYX6_bear kl_L_85 (c_X6_bear l (k := k') (ad := ad) (xs (4 * n + 1)) (lB (xs (4 * n + 2))) f6 H.size) kP_blind (kHA_pre h hK) rfl rfl ⟨(Nat.le_of_ble_eq_true rfl), (Nat.le_of_ble_eq_true rfl)⟩ (by decide) kE_7 rfl rfl hl.1 (Nat.le_of_ble_eq_true rfl) dL_law_256 ⟨by omega, by omega⟩ rfl) (fun H locs h => ?_)
  exact lw_tail (S := 259) V h ok (by decide) hf1 hl ⟨by omega, by omega⟩ dL_law_259 dL_law_261 dL_law_262 dL_law_265 dL_law_267 dL_law_272 dL_law_274 dL_law_277 dL_law_278 dL_law_279 dL_law_280 dL_law_282 dL_law_283 dL_law_284 dL_law_289 (by decide) (fun H1 locs1 ls1 h hl => W.widen (k := cells + 58) (n := slots + 848) (by omega) (by omega) (K k' m' f' H1 locs1 ls1 hz1 h hl))
set_option maxHeartbeats 4000000 in
set_option maxRecDepth 100000 in
theorem lw_b_found (V : lV p l s m b meth c L xs D cI cZ cO cL) (h : lH s H locs D cI cZ cO cL ad k mo xo f) (hz : zAll n k mo) (hn : n ≤ 600) (hL : 4 * n + 4 ≤ L) (hcs : cells + 58 ≤ room_1.cells ∧ slots + 848 ≤ room_1.slots) (hl : lv_has ls 9 (lvB b ad xo n)) (K : lK p l e s m b below meth c cells slots Q D cI cZ cO cL ad xo n) : W p l e room_1 s m #[Value.ref b] below meth c H locs cells slots Q (F0 m 292 ls []) := by
  obtain ⟨code, r, k', b', m', uc, us, f5, f6, ok, hz1, huc, hus⟩ := zM_found (v1 := xs (4 * n + 1)) (v2 := xs (4 * n + 2)) (v3 := xs (4 * n + 3)) hz hn
  obtain ⟨hcd, -⟩ := lC_of ok
  obtain ⟨⟨hx, hb, hml9, hown, hts, hr, hlk, hK⟩, hstf, hX, hNc, hXM, hKL, -, -, -⟩ := id V
  obtain ⟨hc1, hc2⟩ := hcs
  refine lv_aload_n hx hb dL_law_292 rfl (lv_at hl 3 rfl) ?_
  refine lw_arg 1 V h (lv_at hl 4 rfl) (lv_at hl 0 rfl) (by omega) (by decide) dL_law_293 dL_law_294 dL_law_296 dL_law_297 dL_law_298 ?_
  refine lw_arg 2 V h (lv_at hl 4 rfl) (lv_at hl 0 rfl) (by omega) (by decide) dL_law_299 dL_law_300 dL_law_302 dL_law_303 dL_law_304 ?_
  refine lw_arg 3 V h (lv_at hl 4 rfl) (lv_at hl 0 rfl) (by omega) (by decide) dL_law_305 dL_law_306 dL_law_308 dL_law_309 dL_law_310 ?_
  refine lv_aload_n hx hb dL_law_311 rfl (lv_at hl 1 rfl) ?_
  refine lw_callW (k' := k') (code := code) (r := r) (w := lW 1 3 2 code) (na := 5) (as := [.ref (ad 0), .int (xs (4 * n + 1)), .int (xs (4 * n + 2)), .int (xs (4 * n + 3)), .ref xo]) V h (c_L_found l hstf (k := k) (mo := mo) (f := f) (ad := ad) (xs (4 * n + 1)) (xs (4 * n + 2)) (xs (4 * n + 3)) f5 hcd H.size) kstatic_yL_found kl_L_86 kd_yL_found rfl (by decide +kernel) (by decide) rfl hl.1 ⟨by omega, by omega⟩ dL_law_312 rfl (fun f' H locs hf1 h => ?_)
  refine lv_istore (lv' := (5, .int (lW 1 3 2 code)) :: lvB b ad xo n) hx hb dL_law_315 hl (by decide) rfl (fun ls hl => ?_)
  refine lv_aload_n hx hb dL_law_317 rfl (lv_at hl 3 rfl) ?_
  refine lw_arg 1 V h (lv_at hl 5 rfl) (lv_at hl 1 rfl) (by omega) (by decide) dL_law_318 dL_law_319 dL_law_321 dL_law_322 dL_law_323 ?_
  refine lw_arg 2 V h (lv_at hl 5 rfl) (lv_at hl 1 rfl) (by omega) (by decide) dL_law_324 dL_law_325 dL_law_327 dL_law_328 dL_law_329 ?_
  refine lw_arg 3 V h (lv_at hl 5 rfl) (lv_at hl 1 rfl) (by omega) (by decide) dL_law_330 dL_law_331 dL_law_333 dL_law_334 dL_law_335 ?_
  refine lr_calli (mc := uc) (ms := us) (E' := kE ad cI cZ cO k' m') (r := b') h aL_new (lr_runV (pl := 7) (ci := 6) (as := [.int (xs (4 * n + 1)), .int (xs (4 * n + 2)), .int (xs (4 * n + 3))]) (rest := []) V.1 h kYX6_found kl_L_89 (c_X6_found l (k := k') (ad := ad) (xs (4 * n + 1)) (xs (4 * n + 2)) (xs (4 * n + 3)) f6 H.size) kP_blind (kHA_pre h hK) rfl rfl ⟨(Nat.le_of_ble_eq_true rfl), (Nat.le_of_ble_eq_true rfl)⟩ (by decide) kE_7 rfl rfl hl.1 (Nat.le_of_ble_eq_true rfl) dL_law_336 ⟨by omega, by omega⟩ rfl) (fun H locs h => ?_)
  exact lw_tail (S := 339) V h ok (by decide) hf1 hl ⟨by omega, by omega⟩ dL_law_339 dL_law_341 dL_law_342 dL_law_345 dL_law_347 dL_law_352 dL_law_354 dL_law_357 dL_law_358 dL_law_359 dL_law_360 dL_law_362 dL_law_363 dL_law_364 dL_law_369 (by decide) (fun H1 locs1 ls1 h hl => W.widen (k := cells + 58) (n := slots + 848) (by omega) (by omega) (K k' m' f' H1 locs1 ls1 hz1 h hl))
set_option maxHeartbeats 4000000 in
set_option maxRecDepth 100000 in
theorem lw_b_setLaw (V : lV p l s m b meth c L xs D cI cZ cO cL) (h : lH s H locs D cI cZ cO cL ad k mo xo f) (hz : zAll n k mo) (hn : n ≤ 600) (hL : 4 * n + 4 ≤ L) (hcs : cells + 58 ≤ room_1.cells ∧ slots + 848 ≤ room_1.slots) (hl : lv_has ls 9 (lvB b ad xo n)) (K : lK p l e s m b below meth c cells slots Q D cI cZ cO cL ad xo n) : W p l e room_1 s m #[Value.ref b] below meth c H locs cells slots Q (F0 m 372 ls []) := by
  obtain ⟨code, r, k', b', m', f5, f6, ok, hz1⟩ := zM_setLaw (v1 := xs (4 * n + 1)) (v2 := xs (4 * n + 2)) hz
  obtain ⟨hcd, -⟩ := lC_of ok
  obtain ⟨⟨hx, hb, hml9, hown, hts, hr, hlk, hK⟩, hstf, hX, hNc, hXM, hKL, -, -, -⟩ := id V
  obtain ⟨hc1, hc2⟩ := hcs
  refine lv_aload_n hx hb dL_law_372 rfl (lv_at hl 3 rfl) ?_
  refine lw_arg 1 V h (lv_at hl 4 rfl) (lv_at hl 0 rfl) (by omega) (by decide) dL_law_373 dL_law_374 dL_law_376 dL_law_377 dL_law_378 ?_
  refine lw_arg 2 V h (lv_at hl 4 rfl) (lv_at hl 0 rfl) (by omega) (by decide) dL_law_379 dL_law_380 dL_law_382 dL_law_383 dL_law_384 ?_
  refine lv_aload_n hx hb dL_law_385 rfl (lv_at hl 1 rfl) ?_
  refine lw_callW (k' := k') (code := code) (r := r) (w := lW 2 0 1 code) (na := 4) (as := [.ref (ad 0), .int (xs (4 * n + 1)), .int (xs (4 * n + 2)), .ref xo]) V h (c_L_setLaw l hstf (k := k) (mo := mo) (f := f) (ad := ad) (xs (4 * n + 1)) (xs (4 * n + 2)) f5 hcd H.size) kstatic_yL_setLaw kl_L_90 kd_yL_setLaw rfl (by decide +kernel) (by decide) rfl hl.1 ⟨by omega, by omega⟩ dL_law_386 rfl (fun f' H locs hf1 h => ?_)
  refine lv_istore (lv' := (5, .int (lW 2 0 1 code)) :: lvB b ad xo n) hx hb dL_law_389 hl (by decide) rfl (fun ls hl => ?_)
  refine lv_aload_n hx hb dL_law_391 rfl (lv_at hl 3 rfl) ?_
  refine lw_arg 1 V h (lv_at hl 5 rfl) (lv_at hl 1 rfl) (by omega) (by decide) dL_law_392 dL_law_393 dL_law_395 dL_law_396 dL_law_397 ?_
  refine lw_arg 2 V h (lv_at hl 5 rfl) (lv_at hl 1 rfl) (by omega) (by decide) dL_law_398 dL_law_399 dL_law_401 dL_law_402 dL_law_403 ?_
  refine lr_calli (mc := 0) (ms := 0) (E' := kE ad cI cZ cO k' m') (r := b') h aL_new (lr_runV (pl := 7) (ci := 6) (as := [.int (xs (4 * n + 1)), .int (xs (4 * n + 2))]) (rest := []) V.1 h kYX6_setLaw kl_L_93 (c_X6_setLaw l (k := k') (ad := ad) (xs (4 * n + 1)) (xs (4 * n + 2)) f6 H.size) kP_blind (kHA_pre h hK) rfl rfl ⟨(Nat.le_of_ble_eq_true rfl), (Nat.le_of_ble_eq_true rfl)⟩ (by decide) kE_7 rfl rfl hl.1 (Nat.le_of_ble_eq_true rfl) dL_law_404 ⟨by omega, by omega⟩ rfl) (fun H locs h => ?_)
  exact lw_tail (S := 407) V h ok (by decide) hf1 hl ⟨by omega, by omega⟩ dL_law_407 dL_law_409 dL_law_410 dL_law_413 dL_law_415 dL_law_420 dL_law_422 dL_law_425 dL_law_426 dL_law_427 dL_law_428 dL_law_430 dL_law_431 dL_law_432 dL_law_437 (by decide) (fun H1 locs1 ls1 h hl => W.widen (k := cells + 58) (n := slots + 848) (by omega) (by omega) (K k' m' f' H1 locs1 ls1 hz1 h hl))
set_option maxHeartbeats 4000000 in
set_option maxRecDepth 100000 in
theorem lw_b_marry (V : lV p l s m b meth c L xs D cI cZ cO cL) (h : lH s H locs D cI cZ cO cL ad k mo xo f) (hz : zAll n k mo) (hn : n ≤ 600) (hL : 4 * n + 4 ≤ L) (hcs : cells + 58 ≤ room_1.cells ∧ slots + 848 ≤ room_1.slots) (hl : lv_has ls 9 (lvB b ad xo n)) (K : lK p l e s m b below meth c cells slots Q D cI cZ cO cL ad xo n) : W p l e room_1 s m #[Value.ref b] below meth c H locs cells slots Q (F0 m 440 ls []) := by
  obtain ⟨code, r, k', b', m', f5, f6, ok, hz1⟩ := zM_marry (v1 := xs (4 * n + 1)) (v2 := xs (4 * n + 2)) (v3 := xs (4 * n + 3)) hz hn
  obtain ⟨hcd, -⟩ := lC_of ok
  obtain ⟨⟨hx, hb, hml9, hown, hts, hr, hlk, hK⟩, hstf, hX, hNc, hXM, hKL, -, -, -⟩ := id V
  obtain ⟨hc1, hc2⟩ := hcs
  refine lv_aload_n hx hb dL_law_440 rfl (lv_at hl 3 rfl) ?_
  refine lw_arg 1 V h (lv_at hl 4 rfl) (lv_at hl 0 rfl) (by omega) (by decide) dL_law_441 dL_law_442 dL_law_444 dL_law_445 dL_law_446 ?_
  refine lw_arg 2 V h (lv_at hl 4 rfl) (lv_at hl 0 rfl) (by omega) (by decide) dL_law_447 dL_law_448 dL_law_450 dL_law_451 dL_law_452 ?_
  refine lw_arg 3 V h (lv_at hl 4 rfl) (lv_at hl 0 rfl) (by omega) (by decide) dL_law_453 dL_law_454 dL_law_456 dL_law_457 dL_law_458 ?_
  refine lv_aload_n hx hb dL_law_459 rfl (lv_at hl 1 rfl) ?_
  refine lw_callW (k' := k') (code := code) (r := r) (w := lW 0 2 1 code) (na := 5) (as := [.ref (ad 0), .int (xs (4 * n + 1)), .int (xs (4 * n + 2)), .int (xs (4 * n + 3)), .ref xo]) V h (c_L_marry l hstf (k := k) (mo := mo) (f := f) (ad := ad) (xs (4 * n + 1)) (xs (4 * n + 2)) (xs (4 * n + 3)) f5 hcd H.size) kstatic_yL_marry kl_L_94 kd_yL_marry rfl (by decide +kernel) (by decide) rfl hl.1 ⟨by omega, by omega⟩ dL_law_460 rfl (fun f' H locs hf1 h => ?_)
  refine lv_istore (lv' := (5, .int (lW 0 2 1 code)) :: lvB b ad xo n) hx hb dL_law_463 hl (by decide) rfl (fun ls hl => ?_)
  refine lv_aload_n hx hb dL_law_465 rfl (lv_at hl 3 rfl) ?_
  refine lw_arg 1 V h (lv_at hl 5 rfl) (lv_at hl 1 rfl) (by omega) (by decide) dL_law_466 dL_law_467 dL_law_469 dL_law_470 dL_law_471 ?_
  refine lw_arg 2 V h (lv_at hl 5 rfl) (lv_at hl 1 rfl) (by omega) (by decide) dL_law_472 dL_law_473 dL_law_475 dL_law_476 dL_law_477 ?_
  refine lw_arg 3 V h (lv_at hl 5 rfl) (lv_at hl 1 rfl) (by omega) (by decide) dL_law_478 dL_law_479 dL_law_481 dL_law_482 dL_law_483 ?_
  refine lr_calli (mc := 0) (ms := 0) (E' := kE ad cI cZ cO k' m') (r := b') h aL_new (lr_runV (pl := 7) (ci := 6) (as := [.int (xs (4 * n + 1)), .int (xs (4 * n + 2)), .int (xs (4 * n + 3))]) (rest := []) V.1 h kYX6_marry kl_L_96 (c_X6_marry l (k := k') (ad := ad) (xs (4 * n + 1)) (xs (4 * n + 2)) (xs (4 * n + 3)) f6 H.size) kP_blind (kHA_pre h hK) rfl rfl ⟨(Nat.le_of_ble_eq_true rfl), (Nat.le_of_ble_eq_true rfl)⟩ (by decide) kE_7 rfl rfl hl.1 (Nat.le_of_ble_eq_true rfl) dL_law_484 ⟨by omega, by omega⟩ rfl) (fun H locs h => ?_)
  exact lw_tail (S := 487) V h ok (by decide) hf1 hl ⟨by omega, by omega⟩ dL_law_487 dL_law_489 dL_law_490 dL_law_493 dL_law_495 dL_law_500 dL_law_502 dL_law_505 dL_law_506 dL_law_507 dL_law_508 dL_law_510 dL_law_511 dL_law_512 dL_law_517 (by decide) (fun H1 locs1 ls1 h hl => W.widen (k := cells + 58) (n := slots + 848) (by omega) (by omega) (K k' m' f' H1 locs1 ls1 hz1 h hl))
set_option maxHeartbeats 4000000 in
set_option maxRecDepth 100000 in
theorem lw_b_annul (V : lV p l s m b meth c L xs D cI cZ cO cL) (h : lH s H locs D cI cZ cO cL ad k mo xo f) (hz : zAll n k mo) (hn : n ≤ 600) (hL : 4 * n + 4 ≤ L) (hcs : cells + 58 ≤ room_1.cells ∧ slots + 848 ≤ room_1.slots) (hl : lv_has ls 9 (lvB b ad xo n)) (K : lK p l e s m b below meth c cells slots Q D cI cZ cO cL ad xo n) : W p l e room_1 s m #[Value.ref b] below meth c H locs cells slots Q (F0 m 520 ls []) := by
  obtain ⟨code, r, k', b', m', uc, us, f5, f6, ok, hz1, huc, hus⟩ := zM_annul (v1 := xs (4 * n + 1)) hz hn
  obtain ⟨hcd, -⟩ := lC_of ok
  obtain ⟨⟨hx, hb, hml9, hown, hts, hr, hlk, hK⟩, hstf, hX, hNc, hXM, hKL, -, -, -⟩ := id V
  obtain ⟨hc1, hc2⟩ := hcs
  refine lv_aload_n hx hb dL_law_520 rfl (lv_at hl 3 rfl) ?_
  refine lw_arg 1 V h (lv_at hl 4 rfl) (lv_at hl 0 rfl) (by omega) (by decide) dL_law_521 dL_law_522 dL_law_524 dL_law_525 dL_law_526 ?_
  refine lv_aload_n hx hb dL_law_527 rfl (lv_at hl 1 rfl) ?_
  refine lw_callW (k' := k') (code := code) (r := r) (w := lW 0 2 1 code) (na := 3) (as := [.ref (ad 0), .int (xs (4 * n + 1)), .ref xo]) V h (c_L_annul l hstf (k := k) (mo := mo) (f := f) (ad := ad) (xs (4 * n + 1)) f5 hcd H.size) kstatic_yL_annul kl_L_97 kd_yL_annul rfl (by decide +kernel) (by decide) rfl hl.1 ⟨by omega, by omega⟩ dL_law_528 rfl (fun f' H locs hf1 h => ?_)
  refine lv_istore (lv' := (5, .int (lW 0 2 1 code)) :: lvB b ad xo n) hx hb dL_law_531 hl (by decide) rfl (fun ls hl => ?_)
  refine lv_aload_n hx hb dL_law_533 rfl (lv_at hl 3 rfl) ?_
  refine lw_arg 1 V h (lv_at hl 5 rfl) (lv_at hl 1 rfl) (by omega) (by decide) dL_law_534 dL_law_535 dL_law_537 dL_law_538 dL_law_539 ?_
  refine lr_calli (mc := uc) (ms := us) (E' := kE ad cI cZ cO k' m') (r := b') h aL_new (lr_runV (pl := 7) (ci := 6) (as := [.int (xs (4 * n + 1))]) (rest := []) V.1 h kYX6_annul kl_L_100 (c_X6_annul l (k := k') (ad := ad) (xs (4 * n + 1)) f6 H.size) kP_blind (kHA_pre h hK) rfl rfl ⟨(Nat.le_of_ble_eq_true rfl), (Nat.le_of_ble_eq_true rfl)⟩ (by decide) kE_7 rfl rfl hl.1 (Nat.le_of_ble_eq_true rfl) dL_law_540 ⟨by omega, by omega⟩ rfl) (fun H locs h => ?_)
  exact lw_tail (S := 543) V h ok (by decide) hf1 hl ⟨by omega, by omega⟩ dL_law_543 dL_law_545 dL_law_546 dL_law_549 dL_law_551 dL_law_556 dL_law_558 dL_law_561 dL_law_562 dL_law_563 dL_law_564 dL_law_566 dL_law_567 dL_law_568 dL_law_573 (by decide) (fun H1 locs1 ls1 h hl => W.widen (k := cells + 58) (n := slots + 848) (by omega) (by omega) (K k' m' f' H1 locs1 ls1 hz1 h hl))
set_option maxHeartbeats 4000000 in
set_option maxRecDepth 100000 in
theorem lw_b_die (V : lV p l s m b meth c L xs D cI cZ cO cL) (h : lH s H locs D cI cZ cO cL ad k mo xo f) (hz : zAll n k mo) (hn : n ≤ 600) (hL : 4 * n + 4 ≤ L) (hcs : cells + 58 ≤ room_1.cells ∧ slots + 848 ≤ room_1.slots) (hl : lv_has ls 9 (lvB b ad xo n)) (K : lK p l e s m b below meth c cells slots Q D cI cZ cO cL ad xo n) : W p l e room_1 s m #[Value.ref b] below meth c H locs cells slots Q (F0 m 576 ls []) := by
  obtain ⟨code, r, k', b', m', uc, us, f5, f6, ok, hz1, huc, hus⟩ := zM_die (v1 := xs (4 * n + 1)) hz hn
  obtain ⟨hcd, -⟩ := lC_of ok
  obtain ⟨⟨hx, hb, hml9, hown, hts, hr, hlk, hK⟩, hstf, hX, hNc, hXM, hKL, -, -, -⟩ := id V
  obtain ⟨hc1, hc2⟩ := hcs
  refine lv_aload_n hx hb dL_law_576 rfl (lv_at hl 3 rfl) ?_
  refine lw_arg 1 V h (lv_at hl 4 rfl) (lv_at hl 0 rfl) (by omega) (by decide) dL_law_577 dL_law_578 dL_law_580 dL_law_581 dL_law_582 ?_
  refine lv_aload_n hx hb dL_law_583 rfl (lv_at hl 1 rfl) ?_
  refine lw_callW (k' := k') (code := code) (r := r) (w := lW 0 2 1 code) (na := 3) (as := [.ref (ad 0), .int (xs (4 * n + 1)), .ref xo]) V h (c_L_die l hstf (k := k) (mo := mo) (f := f) (ad := ad) (xs (4 * n + 1)) f5 hcd H.size) kstatic_yL_die kl_L_101 kd_yL_die rfl (by decide +kernel) (by decide) rfl hl.1 ⟨by omega, by omega⟩ dL_law_584 rfl (fun f' H locs hf1 h => ?_)
  refine lv_istore (lv' := (5, .int (lW 0 2 1 code)) :: lvB b ad xo n) hx hb dL_law_587 hl (by decide) rfl (fun ls hl => ?_)
  refine lv_aload_n hx hb dL_law_589 rfl (lv_at hl 3 rfl) ?_
  refine lw_arg 1 V h (lv_at hl 5 rfl) (lv_at hl 1 rfl) (by omega) (by decide) dL_law_590 dL_law_591 dL_law_593 dL_law_594 dL_law_595 ?_
  refine lr_calli (mc := uc) (ms := us) (E' := kE ad cI cZ cO k' m') (r := b') h aL_new (lr_runV (pl := 7) (ci := 6) (as := [.int (xs (4 * n + 1))]) (rest := []) V.1 h kYX6_die kl_L_103 (c_X6_die l (k := k') (ad := ad) (xs (4 * n + 1)) f6 H.size) kP_blind (kHA_pre h hK) rfl rfl ⟨(Nat.le_of_ble_eq_true rfl), (Nat.le_of_ble_eq_true rfl)⟩ (by decide) kE_7 rfl rfl hl.1 (Nat.le_of_ble_eq_true rfl) dL_law_596 ⟨by omega, by omega⟩ rfl) (fun H locs h => ?_)
  exact lw_tail (S := 599) V h ok (by decide) hf1 hl ⟨by omega, by omega⟩ dL_law_599 dL_law_601 dL_law_602 dL_law_605 dL_law_607 dL_law_612 dL_law_614 dL_law_617 dL_law_618 dL_law_619 dL_law_620 dL_law_622 dL_law_623 dL_law_624 dL_law_629 (by decide) (fun H1 locs1 ls1 h hl => W.widen (k := cells + 58) (n := slots + 848) (by omega) (by omega) (K k' m' f' H1 locs1 ls1 hz1 h hl))
set_option maxHeartbeats 4000000 in
set_option maxRecDepth 100000 in
theorem lw_b_person (V : lV p l s m b meth c L xs D cI cZ cO cL) (h : lH s H locs D cI cZ cO cL ad k mo xo f) (hz : zAll n k mo) (hn : n ≤ 600) (hL : 4 * n + 4 ≤ L) (hcs : cells + 58 ≤ room_1.cells ∧ slots + 848 ≤ room_1.slots) (hl : lv_has ls 9 (lvB b ad xo n)) (K : lK p l e s m b below meth c cells slots Q D cI cZ cO cL ad xo n) : W p l e room_1 s m #[Value.ref b] below meth c H locs cells slots Q (F0 m 632 ls []) := by
  obtain ⟨code, r, b', m', f5, f6, ok, hz1⟩ := zM_person (v1 := xs (4 * n + 1)) (v2 := xs (4 * n + 2)) hz
  obtain ⟨hcd, -⟩ := lC_of ok
  obtain ⟨⟨hx, hb, hml9, hown, hts, hr, hlk, hK⟩, hstf, hX, hNc, hXM, hKL, -, -, -⟩ := id V
  obtain ⟨hc1, hc2⟩ := hcs
  refine lv_aload_n hx hb dL_law_632 rfl (lv_at hl 3 rfl) ?_
  refine lw_arg 1 V h (lv_at hl 4 rfl) (lv_at hl 0 rfl) (by omega) (by decide) dL_law_633 dL_law_634 dL_law_636 dL_law_637 dL_law_638 ?_
  refine lw_arg 2 V h (lv_at hl 4 rfl) (lv_at hl 0 rfl) (by omega) (by decide) dL_law_639 dL_law_640 dL_law_642 dL_law_643 dL_law_644 ?_
  refine lv_aload_n hx hb dL_law_645 rfl (lv_at hl 1 rfl) ?_
  refine lw_callW (k' := k) (code := code) (r := r) (w := lW 0 0 1 code) (na := 4) (as := [.ref (ad 0), .int (xs (4 * n + 1)), .int (xs (4 * n + 2)), .ref xo]) V h (c_L_person l hstf (k := k) (mo := mo) (f := f) (ad := ad) (xs (4 * n + 1)) (xs (4 * n + 2)) f5 hcd H.size) kstatic_yL_person kl_L_104 kd_yL_person rfl (by decide +kernel) (by decide) rfl hl.1 ⟨by omega, by omega⟩ dL_law_646 rfl (fun f' H locs hf1 h => ?_)
  refine lv_istore (lv' := (5, .int (lW 0 0 1 code)) :: lvB b ad xo n) hx hb dL_law_649 hl (by decide) rfl (fun ls hl => ?_)
  refine lv_aload_n hx hb dL_law_651 rfl (lv_at hl 3 rfl) ?_
  refine lw_arg 1 V h (lv_at hl 5 rfl) (lv_at hl 1 rfl) (by omega) (by decide) dL_law_652 dL_law_653 dL_law_655 dL_law_656 dL_law_657 ?_
  refine lw_arg 2 V h (lv_at hl 5 rfl) (lv_at hl 1 rfl) (by omega) (by decide) dL_law_658 dL_law_659 dL_law_661 dL_law_662 dL_law_663 ?_
  refine lr_calli (mc := 0) (ms := 0) (E' := kE ad cI cZ cO k m') (r := b') h aL_new (lr_runV (pl := 7) (ci := 6) (as := [.int (xs (4 * n + 1)), .int (xs (4 * n + 2))]) (rest := []) V.1 h kYX6_person_ kl_L_106 (c_X6_person_ l (k := k) (ad := ad) (xs (4 * n + 1)) (xs (4 * n + 2)) f6 H.size) kP_blind (kHA_pre h hK) rfl rfl ⟨(Nat.le_of_ble_eq_true rfl), (Nat.le_of_ble_eq_true rfl)⟩ (by decide) kE_7 rfl rfl hl.1 (Nat.le_of_ble_eq_true rfl) dL_law_664 ⟨by omega, by omega⟩ rfl) (fun H locs h => ?_)
  exact lw_tail (S := 667) V h ok (by decide) hf1 hl ⟨by omega, by omega⟩ dL_law_667 dL_law_669 dL_law_670 dL_law_673 dL_law_675 dL_law_680 dL_law_682 dL_law_685 dL_law_686 dL_law_687 dL_law_688 dL_law_690 dL_law_691 dL_law_692 dL_law_697 (by decide) (fun H1 locs1 ls1 h hl => W.widen (k := cells + 58) (n := slots + 848) (by omega) (by omega) (K k m' f' H1 locs1 ls1 hz1 h hl))
set_option maxHeartbeats 4000000 in
set_option maxRecDepth 100000 in
theorem lw_b_land (V : lV p l s m b meth c L xs D cI cZ cO cL) (h : lH s H locs D cI cZ cO cL ad k mo xo f) (hz : zAll n k mo) (hn : n ≤ 600) (hL : 4 * n + 4 ≤ L) (hcs : cells + 58 ≤ room_1.cells ∧ slots + 848 ≤ room_1.slots) (hl : lv_has ls 9 (lvB b ad xo n)) (K : lK p l e s m b below meth c cells slots Q D cI cZ cO cL ad xo n) : W p l e room_1 s m #[Value.ref b] below meth c H locs cells slots Q (F0 m 700 ls []) := by
  obtain ⟨code, r, k', b', m', f5, f6, ok, hz1⟩ := zM_land (v1 := xs (4 * n + 1)) (v2 := xs (4 * n + 2)) hz
  obtain ⟨hcd, -⟩ := lC_of ok
  obtain ⟨⟨hx, hb, hml9, hown, hts, hr, hlk, hK⟩, hstf, hX, hNc, hXM, hKL, -, -, -⟩ := id V
  obtain ⟨hc1, hc2⟩ := hcs
  refine lv_aload_n hx hb dL_law_700 rfl (lv_at hl 3 rfl) ?_
  refine lw_arg 1 V h (lv_at hl 4 rfl) (lv_at hl 0 rfl) (by omega) (by decide) dL_law_701 dL_law_702 dL_law_704 dL_law_705 dL_law_706 ?_
  refine lw_arg 2 V h (lv_at hl 4 rfl) (lv_at hl 0 rfl) (by omega) (by decide) dL_law_707 dL_law_708 dL_law_710 dL_law_711 dL_law_712 ?_
  refine lv_aload_n hx hb dL_law_713 rfl (lv_at hl 1 rfl) ?_
  refine lw_callW (k' := k') (code := code) (r := r) (w := lW 0 0 1 code) (na := 4) (as := [.ref (ad 0), .int (xs (4 * n + 1)), .int (xs (4 * n + 2)), .ref xo]) V h (c_L_land l hstf (k := k) (mo := mo) (f := f) (ad := ad) (xs (4 * n + 1)) (xs (4 * n + 2)) f5 hcd H.size) kstatic_yL_land kl_L_107 kd_yL_land rfl (by decide +kernel) (by decide) rfl hl.1 ⟨by omega, by omega⟩ dL_law_714 rfl (fun f' H locs hf1 h => ?_)
  refine lv_istore (lv' := (5, .int (lW 0 0 1 code)) :: lvB b ad xo n) hx hb dL_law_717 hl (by decide) rfl (fun ls hl => ?_)
  refine lv_aload_n hx hb dL_law_719 rfl (lv_at hl 3 rfl) ?_
  refine lw_arg 1 V h (lv_at hl 5 rfl) (lv_at hl 1 rfl) (by omega) (by decide) dL_law_720 dL_law_721 dL_law_723 dL_law_724 dL_law_725 ?_
  refine lw_arg 2 V h (lv_at hl 5 rfl) (lv_at hl 1 rfl) (by omega) (by decide) dL_law_726 dL_law_727 dL_law_729 dL_law_730 dL_law_731 ?_
  refine lr_calli (mc := 0) (ms := 0) (E' := kE ad cI cZ cO k' m') (r := b') h aL_new (lr_runV (pl := 7) (ci := 6) (as := [.int (xs (4 * n + 1)), .int (xs (4 * n + 2))]) (rest := []) V.1 h kYX6_land kl_L_109 (c_X6_land l (k := k') (ad := ad) (xs (4 * n + 1)) (xs (4 * n + 2)) f6 H.size) kP_blind (kHA_pre h hK) rfl rfl ⟨(Nat.le_of_ble_eq_true rfl), (Nat.le_of_ble_eq_true rfl)⟩ (by decide) kE_7 rfl rfl hl.1 (Nat.le_of_ble_eq_true rfl) dL_law_732 ⟨by omega, by omega⟩ rfl) (fun H locs h => ?_)
  exact lw_tail (S := 735) V h ok (by decide) hf1 hl ⟨by omega, by omega⟩ dL_law_735 dL_law_737 dL_law_738 dL_law_741 dL_law_743 dL_law_748 dL_law_750 dL_law_753 dL_law_754 dL_law_755 dL_law_756 dL_law_758 dL_law_759 dL_law_760 dL_law_765 (by decide) (fun H1 locs1 ls1 h hl => W.widen (k := cells + 58) (n := slots + 848) (by omega) (by omega) (K k' m' f' H1 locs1 ls1 hz1 h hl))
set_option maxHeartbeats 4000000 in
set_option maxRecDepth 100000 in
theorem lw_b_ruled (V : lV p l s m b meth c L xs D cI cZ cO cL) (h : lH s H locs D cI cZ cO cL ad k mo xo f) (hz : zAll n k mo) (hn : n ≤ 600) (hL : 4 * n + 4 ≤ L) (hcs : cells + 58 ≤ room_1.cells ∧ slots + 848 ≤ room_1.slots) (hl : lv_has ls 9 (lvB b ad xo n)) (K : lK p l e s m b below meth c cells slots Q D cI cZ cO cL ad xo n) : W p l e room_1 s m #[Value.ref b] below meth c H locs cells slots Q (F0 m 768 ls []) := by
  obtain ⟨code, r, b', m', f5, f6, ok, hz1⟩ := zM_ruled (v1 := xs (4 * n + 1)) (v2 := xs (4 * n + 2)) hz hn
  obtain ⟨hcd, -⟩ := lC_of ok
  obtain ⟨⟨hx, hb, hml9, hown, hts, hr, hlk, hK⟩, hstf, hX, hNc, hXM, hKL, -, -, -⟩ := id V
  obtain ⟨hc1, hc2⟩ := hcs
  refine lv_aload_n hx hb dL_law_768 rfl (lv_at hl 3 rfl) ?_
  refine lw_arg 1 V h (lv_at hl 4 rfl) (lv_at hl 0 rfl) (by omega) (by decide) dL_law_769 dL_law_770 dL_law_772 dL_law_773 dL_law_774 ?_
  refine lw_arg 2 V h (lv_at hl 4 rfl) (lv_at hl 0 rfl) (by omega) (by decide) dL_law_775 dL_law_776 dL_law_778 dL_law_779 dL_law_780 ?_
  refine lv_aload_n hx hb dL_law_781 rfl (lv_at hl 1 rfl) ?_
  refine lw_callW (k' := k) (code := code) (r := r) (w := lW 0 0 1 code) (na := 4) (as := [.ref (ad 0), .int (xs (4 * n + 1)), .int (xs (4 * n + 2)), .ref xo]) V h (c_L_ruled l hstf (k := k) (mo := mo) (f := f) (ad := ad) (xs (4 * n + 1)) (xs (4 * n + 2)) f5 hcd H.size) kstatic_yL_ruled kl_L_110 kd_yL_ruled rfl (by decide +kernel) (by decide) rfl hl.1 ⟨by omega, by omega⟩ dL_law_782 rfl (fun f' H locs hf1 h => ?_)
  refine lv_istore (lv' := (5, .int (lW 0 0 1 code)) :: lvB b ad xo n) hx hb dL_law_785 hl (by decide) rfl (fun ls hl => ?_)
  refine lv_aload_n hx hb dL_law_787 rfl (lv_at hl 3 rfl) ?_
  refine lw_arg 1 V h (lv_at hl 5 rfl) (lv_at hl 1 rfl) (by omega) (by decide) dL_law_788 dL_law_789 dL_law_791 dL_law_792 dL_law_793 ?_
  refine lw_arg 2 V h (lv_at hl 5 rfl) (lv_at hl 1 rfl) (by omega) (by decide) dL_law_794 dL_law_795 dL_law_797 dL_law_798 dL_law_799 ?_
  refine lr_calli (mc := 0) (ms := 0) (E' := kE ad cI cZ cO k m') (r := b') h aL_new (lr_runV (pl := 7) (ci := 6) (as := [.int (xs (4 * n + 1)), .int (xs (4 * n + 2))]) (rest := []) V.1 h kYX6_ruled kl_L_112 (c_X6_ruled l (k := k) (ad := ad) (xs (4 * n + 1)) (xs (4 * n + 2)) f6 H.size) kP_blind (kHA_pre h hK) rfl rfl ⟨(Nat.le_of_ble_eq_true rfl), (Nat.le_of_ble_eq_true rfl)⟩ (by decide) kE_7 rfl rfl hl.1 (Nat.le_of_ble_eq_true rfl) dL_law_800 ⟨by omega, by omega⟩ rfl) (fun H locs h => ?_)
  exact lw_tail (S := 803) V h ok (by decide) hf1 hl ⟨by omega, by omega⟩ dL_law_803 dL_law_805 dL_law_806 dL_law_809 dL_law_811 dL_law_816 dL_law_818 dL_law_821 dL_law_822 dL_law_823 dL_law_824 dL_law_826 dL_law_827 dL_law_828 dL_law_833 (by decide) (fun H1 locs1 ls1 h hl => W.widen (k := cells + 58) (n := slots + 848) (by omega) (by omega) (K k m' f' H1 locs1 ls1 hz1 h hl))
set_option maxHeartbeats 4000000 in
set_option maxRecDepth 100000 in
theorem lw_b_related (V : lV p l s m b meth c L xs D cI cZ cO cL) (h : lH s H locs D cI cZ cO cL ad k mo xo f) (hz : zAll n k mo) (hn : n ≤ 600) (hL : 4 * n + 4 ≤ L) (hcs : cells + 58 ≤ room_1.cells ∧ slots + 848 ≤ room_1.slots) (hl : lv_has ls 9 (lvB b ad xo n)) (K : lK p l e s m b below meth c cells slots Q D cI cZ cO cL ad xo n) : W p l e room_1 s m #[Value.ref b] below meth c H locs cells slots Q (F0 m 836 ls []) := by
  obtain ⟨code, r, b', m', f5, f6, ok, hz1⟩ := zM_related (v1 := xs (4 * n + 1)) (v2 := xs (4 * n + 2)) hz
  obtain ⟨hcd, -⟩ := lC_of ok
  obtain ⟨⟨hx, hb, hml9, hown, hts, hr, hlk, hK⟩, hstf, hX, hNc, hXM, hKL, -, -, -⟩ := id V
  obtain ⟨hc1, hc2⟩ := hcs
  refine lv_aload_n hx hb dL_law_836 rfl (lv_at hl 3 rfl) ?_
  refine lw_arg 1 V h (lv_at hl 4 rfl) (lv_at hl 0 rfl) (by omega) (by decide) dL_law_837 dL_law_838 dL_law_840 dL_law_841 dL_law_842 ?_
  refine lw_arg 2 V h (lv_at hl 4 rfl) (lv_at hl 0 rfl) (by omega) (by decide) dL_law_843 dL_law_844 dL_law_846 dL_law_847 dL_law_848 ?_
  refine lv_aload_n hx hb dL_law_849 rfl (lv_at hl 1 rfl) ?_
  refine lw_callW (k' := k) (code := code) (r := r) (w := lW 0 0 1 code) (na := 4) (as := [.ref (ad 0), .int (xs (4 * n + 1)), .int (xs (4 * n + 2)), .ref xo]) V h (c_L_related l hstf (k := k) (mo := mo) (f := f) (ad := ad) (xs (4 * n + 1)) (xs (4 * n + 2)) f5 hcd H.size) kstatic_yL_related kl_L_113 kd_yL_related rfl (by decide +kernel) (by decide) rfl hl.1 ⟨by omega, by omega⟩ dL_law_850 rfl (fun f' H locs hf1 h => ?_)
  refine lv_istore (lv' := (5, .int (lW 0 0 1 code)) :: lvB b ad xo n) hx hb dL_law_853 hl (by decide) rfl (fun ls hl => ?_)
  refine lv_aload_n hx hb dL_law_855 rfl (lv_at hl 3 rfl) ?_
  refine lw_arg 1 V h (lv_at hl 5 rfl) (lv_at hl 1 rfl) (by omega) (by decide) dL_law_856 dL_law_857 dL_law_859 dL_law_860 dL_law_861 ?_
  refine lw_arg 2 V h (lv_at hl 5 rfl) (lv_at hl 1 rfl) (by omega) (by decide) dL_law_862 dL_law_863 dL_law_865 dL_law_866 dL_law_867 ?_
  refine lr_calli (mc := 0) (ms := 0) (E' := kE ad cI cZ cO k m') (r := b') h aL_new (lr_runV (pl := 7) (ci := 6) (as := [.int (xs (4 * n + 1)), .int (xs (4 * n + 2))]) (rest := []) V.1 h kYX6_related kl_L_115 (c_X6_related l (k := k) (ad := ad) (xs (4 * n + 1)) (xs (4 * n + 2)) f6 H.size) kP_blind (kHA_pre h hK) rfl rfl ⟨(Nat.le_of_ble_eq_true rfl), (Nat.le_of_ble_eq_true rfl)⟩ (by decide) kE_7 rfl rfl hl.1 (Nat.le_of_ble_eq_true rfl) dL_law_868 ⟨by omega, by omega⟩ rfl) (fun H locs h => ?_)
  exact lw_tail (S := 871) V h ok (by decide) hf1 hl ⟨by omega, by omega⟩ dL_law_871 dL_law_873 dL_law_874 dL_law_877 dL_law_879 dL_law_884 dL_law_886 dL_law_889 dL_law_890 dL_law_891 dL_law_892 dL_law_894 dL_law_895 dL_law_896 dL_law_901 (by decide) (fun H1 locs1 ls1 h hl => W.widen (k := cells + 58) (n := slots + 848) (by omega) (by omega) (K k m' f' H1 locs1 ls1 hz1 h hl))
set_option maxHeartbeats 4000000 in
set_option maxRecDepth 100000 in
theorem lw_b_count (V : lV p l s m b meth c L xs D cI cZ cO cL) (h : lH s H locs D cI cZ cO cL ad k mo xo f) (hz : zAll n k mo) (hn : n ≤ 600) (hL : 4 * n + 4 ≤ L) (hcs : cells + 58 ≤ room_1.cells ∧ slots + 848 ≤ room_1.slots) (hl : lv_has ls 9 (lvB b ad xo n)) (K : lK p l e s m b below meth c cells slots Q D cI cZ cO cL ad xo n) : W p l e room_1 s m #[Value.ref b] below meth c H locs cells slots Q (F0 m 904 ls []) := by
  obtain ⟨code, r, b', m', f5, f6, ok, hz1⟩ := zM_count (v1 := xs (4 * n + 1)) hz
  obtain ⟨hcd, -⟩ := lC_of ok
  obtain ⟨⟨hx, hb, hml9, hown, hts, hr, hlk, hK⟩, hstf, hX, hNc, hXM, hKL, -, -, -⟩ := id V
  obtain ⟨hc1, hc2⟩ := hcs
  refine lv_aload_n hx hb dL_law_904 rfl (lv_at hl 3 rfl) ?_
  refine lw_arg 1 V h (lv_at hl 4 rfl) (lv_at hl 0 rfl) (by omega) (by decide) dL_law_905 dL_law_906 dL_law_908 dL_law_909 dL_law_910 ?_
  refine lv_aload_n hx hb dL_law_911 rfl (lv_at hl 1 rfl) ?_
  refine lw_callW (k' := k) (code := code) (r := r) (w := lW 0 0 1 code) (na := 3) (as := [.ref (ad 0), .int (xs (4 * n + 1)), .ref xo]) V h (c_L_count l hstf (k := k) (mo := mo) (f := f) (ad := ad) (xs (4 * n + 1)) f5 hcd H.size) kstatic_yL_count kl_L_116 kd_yL_count rfl (by decide +kernel) (by decide) rfl hl.1 ⟨by omega, by omega⟩ dL_law_912 rfl (fun f' H locs hf1 h => ?_)
  refine lv_istore (lv' := (5, .int (lW 0 0 1 code)) :: lvB b ad xo n) hx hb dL_law_915 hl (by decide) rfl (fun ls hl => ?_)
  refine lv_aload_n hx hb dL_law_917 rfl (lv_at hl 3 rfl) ?_
  refine lw_arg 1 V h (lv_at hl 5 rfl) (lv_at hl 1 rfl) (by omega) (by decide) dL_law_918 dL_law_919 dL_law_921 dL_law_922 dL_law_923 ?_
  refine lr_calli (mc := 0) (ms := 0) (E' := kE ad cI cZ cO k m') (r := b') h aL_new (lr_runV (pl := 7) (ci := 6) (as := [.int (xs (4 * n + 1))]) (rest := []) V.1 h kYX6_count kl_L_118 (c_X6_count l (k := k) (ad := ad) (xs (4 * n + 1)) f6 H.size) kP_blind (kHA_pre h hK) rfl rfl ⟨(Nat.le_of_ble_eq_true rfl), (Nat.le_of_ble_eq_true rfl)⟩ (by decide) kE_7 rfl rfl hl.1 (Nat.le_of_ble_eq_true rfl) dL_law_924 ⟨by omega, by omega⟩ rfl) (fun H locs h => ?_)
  exact lw_tail (S := 927) V h ok (by decide) hf1 hl ⟨by omega, by omega⟩ dL_law_927 dL_law_929 dL_law_930 dL_law_933 dL_law_935 dL_law_940 dL_law_942 dL_law_945 dL_law_946 dL_law_947 dL_law_948 dL_law_950 dL_law_951 dL_law_952 dL_law_957 (by decide) (fun H1 locs1 ls1 h hl => W.widen (k := cells + 58) (n := slots + 848) (by omega) (by omega) (K k m' f' H1 locs1 ls1 hz1 h hl))
set_option maxHeartbeats 4000000 in
set_option maxRecDepth 100000 in
theorem lw_b_pass (V : lV p l s m b meth c L xs D cI cZ cO cL) (h : lH s H locs D cI cZ cO cL ad k mo xo f) (hz : zAll n k mo) (hn : n ≤ 600) (hL : 4 * n + 4 ≤ L) (hcs : cells + 58 ≤ room_1.cells ∧ slots + 848 ≤ room_1.slots) (hl : lv_has ls 9 (lvB b ad xo n)) (K : lK p l e s m b below meth c cells slots Q D cI cZ cO cL ad xo n) : W p l e room_1 s m #[Value.ref b] below meth c H locs cells slots Q (F0 m 960 ls []) := by
  obtain ⟨code, r, k', b', m', uc, us, f5, f6, ok, hz1, huc, hus⟩ := zM_pass (v1 := xs (4 * n + 1)) hz hn
  obtain ⟨hcd, -⟩ := lC_of ok
  obtain ⟨⟨hx, hb, hml9, hown, hts, hr, hlk, hK⟩, hstf, hX, hNc, hXM, hKL, -, -, -⟩ := id V
  obtain ⟨hc1, hc2⟩ := hcs
  refine lv_aload_n hx hb dL_law_960 rfl (lv_at hl 3 rfl) ?_
  refine lw_arg 1 V h (lv_at hl 4 rfl) (lv_at hl 0 rfl) (by omega) (by decide) dL_law_961 dL_law_962 dL_law_964 dL_law_965 dL_law_966 ?_
  refine lv_aload_n hx hb dL_law_967 rfl (lv_at hl 1 rfl) ?_
  refine lw_callW (k' := k') (code := code) (r := r) (w := lW 1 0 0 code) (na := 3) (as := [.ref (ad 0), .int (xs (4 * n + 1)), .ref xo]) V h (c_L_pass l hstf (k := k) (mo := mo) (f := f) (ad := ad) (xs (4 * n + 1)) f5 hcd H.size) kstatic_yL_pass kl_L_119 kd_yL_pass rfl (by decide +kernel) (by decide) rfl hl.1 ⟨by omega, by omega⟩ dL_law_968 rfl (fun f' H locs hf1 h => ?_)
  refine lv_istore (lv' := (5, .int (lW 1 0 0 code)) :: lvB b ad xo n) hx hb dL_law_971 hl (by decide) rfl (fun ls hl => ?_)
  refine lv_aload_n hx hb dL_law_973 rfl (lv_at hl 3 rfl) ?_
  refine lw_arg 1 V h (lv_at hl 5 rfl) (lv_at hl 1 rfl) (by omega) (by decide) dL_law_974 dL_law_975 dL_law_977 dL_law_978 dL_law_979 ?_
  refine lr_calli (mc := uc) (ms := us) (E' := kE ad cI cZ cO k' m') (r := b') h aL_new (lr_runV (pl := 7) (ci := 6) (as := [.int (xs (4 * n + 1))]) (rest := []) V.1 h kYX6_pass kl_L_121 (c_X6_pass l (k := k') (ad := ad) (xs (4 * n + 1)) f6 H.size) kP_blind (kHA_pre h hK) rfl rfl ⟨(Nat.le_of_ble_eq_true rfl), (Nat.le_of_ble_eq_true rfl)⟩ (by decide) kE_7 rfl rfl hl.1 (Nat.le_of_ble_eq_true rfl) dL_law_980 ⟨by omega, by omega⟩ rfl) (fun H locs h => ?_)
  exact lw_tail (S := 983) V h ok (by decide) hf1 hl ⟨by omega, by omega⟩ dL_law_983 dL_law_985 dL_law_986 dL_law_989 dL_law_991 dL_law_996 dL_law_998 dL_law_1001 dL_law_1002 dL_law_1003 dL_law_1004 dL_law_1006 dL_law_1007 dL_law_1008 dL_law_1013 (by decide) (fun H1 locs1 ls1 h hl => W.widen (k := cells + 58) (n := slots + 848) (by omega) (by omega) (K k' m' f' H1 locs1 ls1 hz1 h hl))
set_option maxHeartbeats 4000000 in
set_option maxRecDepth 100000 in
theorem lw_b_rules (V : lV p l s m b meth c L xs D cI cZ cO cL) (h : lH s H locs D cI cZ cO cL ad k mo xo f) (hz : zAll n k mo) (hn : n ≤ 600) (hL : 4 * n + 4 ≤ L) (hcs : cells + 58 ≤ room_1.cells ∧ slots + 848 ≤ room_1.slots) (hl : lv_has ls 9 (lvB b ad xo n)) (K : lK p l e s m b below meth c cells slots Q D cI cZ cO cL ad xo n) : W p l e room_1 s m #[Value.ref b] below meth c H locs cells slots Q (F0 m 1016 ls []) := by
  obtain ⟨code, r, k', b', m', uc, us, f5, f6, ok, hz1, huc, hus⟩ := zM_rules (v1 := xs (4 * n + 1)) hz hn
  obtain ⟨hcd, -⟩ := lC_of ok
  obtain ⟨⟨hx, hb, hml9, hown, hts, hr, hlk, hK⟩, hstf, hX, hNc, hXM, hKL, -, -, -⟩ := id V
  obtain ⟨hc1, hc2⟩ := hcs
  refine lv_aload_n hx hb dL_law_1016 rfl (lv_at hl 3 rfl) ?_
  refine lw_arg 1 V h (lv_at hl 4 rfl) (lv_at hl 0 rfl) (by omega) (by decide) dL_law_1017 dL_law_1018 dL_law_1020 dL_law_1021 dL_law_1022 ?_
  refine lv_aload_n hx hb dL_law_1023 rfl (lv_at hl 1 rfl) ?_
  refine lw_callW (k' := k') (code := code) (r := r) (w := lW 0 0 1 code) (na := 3) (as := [.ref (ad 0), .int (xs (4 * n + 1)), .ref xo]) V h (c_L_rules l hstf (k := k) (mo := mo) (f := f) (ad := ad) (xs (4 * n + 1)) f5 hcd H.size) kstatic_yL_rules kl_L_122 kd_yL_rules rfl (by decide +kernel) (by decide) rfl hl.1 ⟨by omega, by omega⟩ dL_law_1024 rfl (fun f' H locs hf1 h => ?_)
  refine lv_istore (lv' := (5, .int (lW 0 0 1 code)) :: lvB b ad xo n) hx hb dL_law_1027 hl (by decide) rfl (fun ls hl => ?_)
  refine lv_aload_n hx hb dL_law_1029 rfl (lv_at hl 3 rfl) ?_
  refine lw_arg 1 V h (lv_at hl 5 rfl) (lv_at hl 1 rfl) (by omega) (by decide) dL_law_1030 dL_law_1031 dL_law_1033 dL_law_1034 dL_law_1035 ?_
  refine lr_calli (mc := uc) (ms := us) (E' := kE ad cI cZ cO k' m') (r := b') h aL_new (lr_runV (pl := 7) (ci := 6) (as := [.int (xs (4 * n + 1))]) (rest := []) V.1 h kYX6_rules kl_L_124 (c_X6_rules l (k := k') (ad := ad) (xs (4 * n + 1)) f6 H.size) kPM_blind (lw_preM h hK hXM) rfl rfl ⟨(Nat.le_of_ble_eq_true rfl), (Nat.le_of_ble_eq_true rfl)⟩ (by decide) kE_7 rfl rfl hl.1 (Nat.le_of_ble_eq_true rfl) dL_law_1036 ⟨by omega, by omega⟩ rfl) (fun H locs h => ?_)
  exact lw_tail (S := 1039) V h ok (by decide) hf1 hl ⟨by omega, by omega⟩ dL_law_1039 dL_law_1041 dL_law_1042 dL_law_1045 dL_law_1047 dL_law_1052 dL_law_1054 dL_law_1057 dL_law_1058 dL_law_1059 dL_law_1060 dL_law_1062 dL_law_1063 dL_law_1064 dL_law_1069 (by decide) (fun H1 locs1 ls1 h hl => W.widen (k := cells + 58) (n := slots + 848) (by omega) (by omega) (K k' m' f' H1 locs1 ls1 hz1 h hl))
set_option maxHeartbeats 4000000 in
set_option maxRecDepth 100000 in
theorem lw_b_foresee (V : lV p l s m b meth c L xs D cI cZ cO cL) (h : lH s H locs D cI cZ cO cL ad k mo xo f) (hz : zAll n k mo) (hn : n ≤ 600) (hL : 4 * n + 4 ≤ L) (hcs : cells + 58 ≤ room_1.cells ∧ slots + 848 ≤ room_1.slots) (hl : lv_has ls 9 (lvB b ad xo n)) (K : lK p l e s m b below meth c cells slots Q D cI cZ cO cL ad xo n) : W p l e room_1 s m #[Value.ref b] below meth c H locs cells slots Q (F0 m 1072 ls []) := by
  obtain ⟨code, r, k', b', m', uc, us, f5, f6, ok, hz1, huc, hus⟩ := zM_foresee (v1 := xs (4 * n + 1)) (v2 := xs (4 * n + 2)) hz hn
  obtain ⟨hcd, -⟩ := lC_of ok
  obtain ⟨⟨hx, hb, hml9, hown, hts, hr, hlk, hK⟩, hstf, hX, hNc, hXM, hKL, -, -, -⟩ := id V
  obtain ⟨hc1, hc2⟩ := hcs
  refine lv_aload_n hx hb dL_law_1072 rfl (lv_at hl 3 rfl) ?_
  refine lw_arg 1 V h (lv_at hl 4 rfl) (lv_at hl 0 rfl) (by omega) (by decide) dL_law_1073 dL_law_1074 dL_law_1076 dL_law_1077 dL_law_1078 ?_
  refine lw_arg 2 V h (lv_at hl 4 rfl) (lv_at hl 0 rfl) (by omega) (by decide) dL_law_1079 dL_law_1080 dL_law_1082 dL_law_1083 dL_law_1084 ?_
  refine lv_aload_n hx hb dL_law_1085 rfl (lv_at hl 1 rfl) ?_
  refine lw_callW (k' := k') (code := code) (r := r) (w := lW 1 0 2 code) (na := 4) (as := [.ref (ad 0), .int (xs (4 * n + 1)), .int (xs (4 * n + 2)), .ref xo]) V h (c_L_foresee l hstf (k := k) (mo := mo) (f := f) (ad := ad) (xs (4 * n + 1)) (xs (4 * n + 2)) f5 hcd H.size) kstatic_yL_foresee kl_L_125 kd_yL_foresee rfl (by decide +kernel) (by decide) rfl hl.1 ⟨by omega, by omega⟩ dL_law_1086 rfl (fun f' H locs hf1 h => ?_)
  refine lv_istore (lv' := (5, .int (lW 1 0 2 code)) :: lvB b ad xo n) hx hb dL_law_1089 hl (by decide) rfl (fun ls hl => ?_)
  refine lv_aload_n hx hb dL_law_1091 rfl (lv_at hl 3 rfl) ?_
  refine lw_arg 1 V h (lv_at hl 5 rfl) (lv_at hl 1 rfl) (by omega) (by decide) dL_law_1092 dL_law_1093 dL_law_1095 dL_law_1096 dL_law_1097 ?_
  refine lw_arg 2 V h (lv_at hl 5 rfl) (lv_at hl 1 rfl) (by omega) (by decide) dL_law_1098 dL_law_1099 dL_law_1101 dL_law_1102 dL_law_1103 ?_
  refine lr_calli (mc := uc) (ms := us) (E' := kE ad cI cZ cO k' m') (r := b') h aL_new (lr_runV (pl := 7) (ci := 6) (as := [.int (xs (4 * n + 1)), .int (xs (4 * n + 2))]) (rest := []) V.1 h kYX6_foresee kl_L_127 (c_X6_foresee l (k := k') (ad := ad) (xs (4 * n + 1)) (xs (4 * n + 2)) f6 H.size) kPM_blind (lw_preM h hK hXM) rfl rfl ⟨(Nat.le_of_ble_eq_true rfl), (Nat.le_of_ble_eq_true rfl)⟩ (by decide) kE_7 rfl rfl hl.1 (Nat.le_of_ble_eq_true rfl) dL_law_1104 ⟨by omega, by omega⟩ rfl) (fun H locs h => ?_)
  exact lw_tail (S := 1107) V h ok (by decide) hf1 hl ⟨by omega, by omega⟩ dL_law_1107 dL_law_1109 dL_law_1110 dL_law_1113 dL_law_1115 dL_law_1120 dL_law_1122 dL_law_1125 dL_law_1126 dL_law_1127 dL_law_1128 dL_law_1130 dL_law_1131 dL_law_1132 dL_law_1137 (by decide) (fun H1 locs1 ls1 h hl => W.widen (k := cells + 58) (n := slots + 848) (by omega) (by omega) (K k' m' f' H1 locs1 ls1 hz1 h hl))
set_option maxHeartbeats 4000000 in
set_option maxRecDepth 100000 in
theorem lw_b_best (V : lV p l s m b meth c L xs D cI cZ cO cL) (h : lH s H locs D cI cZ cO cL ad k mo xo f) (hz : zAll n k mo) (hn : n ≤ 600) (hL : 4 * n + 4 ≤ L) (hcs : cells + 58 ≤ room_1.cells ∧ slots + 848 ≤ room_1.slots) (hl : lv_has ls 9 (lvB b ad xo n)) (K : lK p l e s m b below meth c cells slots Q D cI cZ cO cL ad xo n) : W p l e room_1 s m #[Value.ref b] below meth c H locs cells slots Q (F0 m 1140 ls []) := by
  obtain ⟨code, r, b', m', f5, f6, ok, hz1⟩ := zM_best (v1 := xs (4 * n + 1)) hz
  obtain ⟨hcd, -⟩ := lC_of ok
  obtain ⟨⟨hx, hb, hml9, hown, hts, hr, hlk, hK⟩, hstf, hX, hNc, hXM, hKL, -, -, -⟩ := id V
  obtain ⟨hc1, hc2⟩ := hcs
  refine lv_aload_n hx hb dL_law_1140 rfl (lv_at hl 3 rfl) ?_
  refine lw_arg 1 V h (lv_at hl 4 rfl) (lv_at hl 0 rfl) (by omega) (by decide) dL_law_1141 dL_law_1142 dL_law_1144 dL_law_1145 dL_law_1146 ?_
  refine lv_aload_n hx hb dL_law_1147 rfl (lv_at hl 1 rfl) ?_
  refine lw_callW (k' := k) (code := code) (r := r) (w := lW 0 0 1 code) (na := 3) (as := [.ref (ad 0), .int (xs (4 * n + 1)), .ref xo]) V h (c_L_best l hstf (k := k) (mo := mo) (f := f) (ad := ad) (xs (4 * n + 1)) f5 hcd H.size) kstatic_yL_best kl_L_128 kd_yL_best rfl (by decide +kernel) (by decide) rfl hl.1 ⟨by omega, by omega⟩ dL_law_1148 rfl (fun f' H locs hf1 h => ?_)
  refine lv_istore (lv' := (5, .int (lW 0 0 1 code)) :: lvB b ad xo n) hx hb dL_law_1151 hl (by decide) rfl (fun ls hl => ?_)
  refine lv_aload_n hx hb dL_law_1153 rfl (lv_at hl 3 rfl) ?_
  refine lw_arg 1 V h (lv_at hl 5 rfl) (lv_at hl 1 rfl) (by omega) (by decide) dL_law_1154 dL_law_1155 dL_law_1157 dL_law_1158 dL_law_1159 ?_
  refine lr_calli (mc := 0) (ms := 0) (E' := kE ad cI cZ cO k m') (r := b') h aL_new (lr_runV (pl := 7) (ci := 6) (as := [.int (xs (4 * n + 1))]) (rest := []) V.1 h kYX6_best kl_L_130 (c_X6_best l (k := k) (ad := ad) (xs (4 * n + 1)) f6 H.size) kP_blind (kHA_pre h hK) rfl rfl ⟨(Nat.le_of_ble_eq_true rfl), (Nat.le_of_ble_eq_true rfl)⟩ (by decide) kE_7 rfl rfl hl.1 (Nat.le_of_ble_eq_true rfl) dL_law_1160 ⟨by omega, by omega⟩ rfl) (fun H locs h => ?_)
  exact lw_tail (S := 1163) V h ok (by decide) hf1 hl ⟨by omega, by omega⟩ dL_law_1163 dL_law_1165 dL_law_1166 dL_law_1169 dL_law_1171 dL_law_1176 dL_law_1178 dL_law_1181 dL_law_1182 dL_law_1183 dL_law_1184 dL_law_1186 dL_law_1187 dL_law_1188 dL_law_1193 (by decide) (fun H1 locs1 ls1 h hl => W.widen (k := cells + 58) (n := slots + 848) (by omega) (by omega) (K k m' f' H1 locs1 ls1 hz1 h hl))
set_option maxHeartbeats 4000000 in
theorem lw_b_mean (V : lV p l s m b meth c L xs D cI cZ cO cL) (h : lH s H locs D cI cZ cO cL ad k mo xo f) (hz : zAll n k mo) (hn : n ≤ 600) (hL : 4 * n + 4 ≤ L) (hcs : cells + 58 ≤ room_1.cells ∧ slots + 848 ≤ room_1.slots) (hl : lv_has ls 9 (lvB b ad xo n)) (K : lK p l e s m b below meth c cells slots Q D cI cZ cO cL ad xo n) : W p l e room_1 s m #[Value.ref b] below meth c H locs cells slots Q (F0 m 1196 ls []) := by
  obtain ⟨d, m', f5, f6, nn, hz1⟩ := zM_mean hz
  obtain ⟨⟨hx, hb, hml9, hown, hts, hr, hlk, hK⟩, hstf, hX, hNc, hXM, hKL, -, -, -⟩ := id V
  obtain ⟨hc1, hc2⟩ := hcs
  refine lv_aload_n hx hb dL_law_1196 rfl (lv_at hl 3 rfl) ?_
  refine lr_calld (mc := 0) (ms := 0) (E' := kE ad cI cZ cO k mo) (r := d) h aL_new (lr_runV (pl := 0) (ci := 5) (as := []) (rest := []) V.1 h kYX5_mean kl_L_131 (c_X5_mean l (k := k) (mo := mo) (ad := ad) f5 H.size) kP_blind (kHA_pre h hK) rfl rfl ⟨(Nat.le_of_ble_eq_true rfl), (Nat.le_of_ble_eq_true rfl)⟩ (by decide) kE_0 rfl rfl hl.1 (Nat.le_of_ble_eq_true rfl) dL_law_1197 ⟨by omega, by omega⟩ rfl) (fun H locs h => ?_)
  refine lv_dstore (lv' := (5, .double d) :: lvB b ad xo n) hx hb dL_law_1200 hl (by decide) rfl (fun ls hl => ?_)
  refine lv_aload_n hx hb dL_law_1202 rfl (lv_at hl 3 rfl) ?_
  refine lr_calld (mc := 0) (ms := 0) (E' := kE ad cI cZ cO k m') (r := d) h aL_new (lr_runV (pl := 7) (ci := 6) (as := []) (rest := []) V.1 h kYX6_mean kl_L_135 (c_X6_mean l (k := k) (ad := ad) f6 H.size) kP_blind (kHA_pre h hK) rfl rfl ⟨(Nat.le_of_ble_eq_true rfl), (Nat.le_of_ble_eq_true rfl)⟩ (by decide) kE_7 rfl rfl hl.1 (Nat.le_of_ble_eq_true rfl) dL_law_1203 ⟨by omega, by omega⟩ rfl) (fun H locs h => ?_)
  refine lv_dstore (lv' := (7, .double d) :: (5, .double d) :: lvB b ad xo n) hx hb dL_law_1206 hl (by decide) rfl (fun ls hl => ?_)
  refine lv_dload hx hb dL_law_1208 (lv_at hl 1 rfl) ?_
  refine lv_dload hx hb dL_law_1210 (lv_at hl 0 rfl) ?_
  refine lv_dcmp hx hb dL_law_1212 ?_
  have hnn : FP.Core.dIsNaN d = false := by
    rw [← Bool.not_eq_true, FP.Core.isNaN_bits]
    rw [UInt64.le_iff_toNat_le] at nn
    have e1 : (d &&& 9223372036854775807).toNat = d.toNat % 2 ^ 63 := FP.Core.mask_toNat _
    have e2 : (9218868437227405312 : UInt64).toNat = 9218868437227405312 := rfl
    omega
  rw [show FP.dcmp d d = some .eq from FP.Core.dcmp_refl hnn]
  refine lv_if_eq (tgt := 1234) hx hb dL_law_1213 (by decide) (fun _ => ?_) (fun q => absurd rfl q)
  refine lv_goto (tgt := 1251) hx hb dL_law_1234 (by decide) ?_
  exact W.widen (k := cells + 58) (n := slots + 848) (by omega) (by omega) (K k m' f _ _ _ hz1 h (lv_sub hl [2, 3, 4, 5, 6] rfl))
set_option maxHeartbeats 4000000 in
theorem lw_b_digest (V : lV p l s m b meth c L xs D cI cZ cO cL) (h : lH s H locs D cI cZ cO cL ad k mo xo f) (hz : zAll n k mo) (hn : n ≤ 600) (hL : 4 * n + 4 ≤ L) (hcs : cells + 58 ≤ room_1.cells ∧ slots + 848 ≤ room_1.slots) (hl : lv_has ls 9 (lvB b ad xo n)) (K : lK p l e s m b below meth c cells slots Q D cI cZ cO cL ad xo n) : W p l e room_1 s m #[Value.ref b] below meth c H locs cells slots Q (F0 m 1237 ls []) := by
  obtain ⟨d, k', m', f5, f6, hz1⟩ := zM_digest hz hn
  obtain ⟨⟨hx, hb, hml9, hown, hts, hr, hlk, hK⟩, hstf, hX, hNc, hXM, hKL, -, -, -⟩ := id V
  obtain ⟨hc1, hc2⟩ := hcs
  refine lv_aload_n hx hb dL_law_1237 rfl (lv_at hl 3 rfl) ?_
  refine lr_calll (mc := 0) (ms := 0) (E' := kE ad cI cZ cO k' mo) (r := d) h aL_new (lr_runV (pl := 0) (ci := 5) (as := []) (rest := []) V.1 h kYX5_digest kl_L_136 (c_X5_digest l (k := k) (mo := mo) (ad := ad) f5 H.size) kP_blind (kHA_pre h hK) rfl rfl ⟨(Nat.le_of_ble_eq_true rfl), (Nat.le_of_ble_eq_true rfl)⟩ (by decide) kE_0 rfl rfl hl.1 (Nat.le_of_ble_eq_true rfl) dL_law_1238 ⟨by omega, by omega⟩ rfl) (fun H locs h => ?_)
  refine lv_aload_n hx hb dL_law_1241 rfl (lv_at hl 2 rfl) ?_
  refine lr_calll (mc := 0) (ms := 0) (E' := kE ad cI cZ cO k' m') (r := d) h aL_new (lr_runV (pl := 7) (ci := 6) (as := []) (rest := [.long d]) V.1 h kYX6_digest kl_L_140 (c_X6_digest l (k := k') (ad := ad) f6 H.size) kP_blind (kHA_pre h hK) rfl rfl ⟨(Nat.le_of_ble_eq_true rfl), (Nat.le_of_ble_eq_true rfl)⟩ (by decide) kE_7 rfl rfl hl.1 (Nat.le_of_ble_eq_true rfl) dL_law_1242 ⟨by omega, by omega⟩ rfl) (fun H locs h => ?_)
  refine W.lcmp hx hb dL_law_1245 ?_
  rw [show lg_cmp d d = 0 from by unfold lg_cmp; rw [if_neg (by simp), if_pos rfl]]
  refine lv_if_eq (tgt := 1251) hx hb dL_law_1246 (by decide) (fun _ => ?_) (fun q => absurd rfl q)
  exact W.widen (k := cells + 58) (n := slots + 848) (by omega) (by omega) (K k' m' f _ _ _ hz1 h hl)
end LBL
