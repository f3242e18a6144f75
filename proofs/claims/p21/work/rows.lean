section
-- ===== PART A: goes FIRST, ahead of the names: the tables' words, and 'selects' of the private methods out of them =====
/-- a private method of a class that the tables say can be made, by its rows of tables_1 -/
def lw_okq (q : MethodName × Nat) : Prop := (q.1.cls ≠ "java/lang/invoke/MethodHandle" ∧ q.1.cls ≠ "java/lang/invoke/VarHandle") ∧ Cond.instantiable q.1.cls q.2 ∈ tables_1 ∧ Cond.privateMethod q.1 ∈ tables_1 ∧ Cond.instanceMethod q.1 ∈ tables_1
theorem lw_p0 : lw_okq (⟨"KingTies", "needPerson", "(I)V"⟩, 3) := ⟨⟨by decide +kernel, by decide +kernel⟩, List.mem_of_getElem? (i := 20) (by decide +kernel), List.mem_of_getElem? (i := 175) (by decide +kernel), List.mem_of_getElem? (i := 176) (by decide +kernel)⟩
theorem lw_p1 : lw_okq (⟨"java/lang/Throwable", "fillInStackTrace", "(I)Ljava/lang/Throwable;"⟩, 6) := ⟨⟨by decide +kernel, by decide +kernel⟩, List.mem_of_getElem? (i := 221) (by decide +kernel), List.mem_of_getElem? (i := 219) (by decide +kernel), List.mem_of_getElem? (i := 220) (by decide +kernel)⟩
theorem lw_p2 : lw_okq (⟨"KingTies", "needLand", "(I)V"⟩, 3) := ⟨⟨by decide +kernel, by decide +kernel⟩, List.mem_of_getElem? (i := 20) (by decide +kernel), List.mem_of_getElem? (i := 287) (by decide +kernel), List.mem_of_getElem? (i := 288) (by decide +kernel)⟩
theorem lw_p3 : lw_okq (⟨"KingTies$World", "regentOf", "(I)I"⟩, 6) := ⟨⟨by decide +kernel, by decide +kernel⟩, List.mem_of_getElem? (i := 65) (by decide +kernel), List.mem_of_getElem? (i := 300) (by decide +kernel), List.mem_of_getElem? (i := 301) (by decide +kernel)⟩
theorem lw_p4 : lw_okq (⟨"KingTies$World", "nearestGrown", "(I)I"⟩, 6) := ⟨⟨by decide +kernel, by decide +kernel⟩, List.mem_of_getElem? (i := 65) (by decide +kernel), List.mem_of_getElem? (i := 308) (by decide +kernel), List.mem_of_getElem? (i := 309) (by decide +kernel)⟩
theorem lw_p5 : lw_okq (⟨"KingTies$World", "eldestOfKin", "(I)I"⟩, 6) := ⟨⟨by decide +kernel, by decide +kernel⟩, List.mem_of_getElem? (i := 65) (by decide +kernel), List.mem_of_getElem? (i := 325) (by decide +kernel), List.mem_of_getElem? (i := 326) (by decide +kernel)⟩
theorem lw_p6 : lw_okq (⟨"KingTies$World", "living", "()I"⟩, 6) := ⟨⟨by decide +kernel, by decide +kernel⟩, List.mem_of_getElem? (i := 65) (by decide +kernel), List.mem_of_getElem? (i := 364) (by decide +kernel), List.mem_of_getElem? (i := 365) (by decide +kernel)⟩
theorem lw_p7 : lw_okq (⟨"KingTies$World", "rulers", "(Z)I"⟩, 6) := ⟨⟨by decide +kernel, by decide +kernel⟩, List.mem_of_getElem? (i := 65) (by decide +kernel), List.mem_of_getElem? (i := 372) (by decide +kernel), List.mem_of_getElem? (i := 373) (by decide +kernel)⟩
theorem lw_p8 : lw_okq (⟨"KingTies$World", "isFree", "(I)Z"⟩, 6) := ⟨⟨by decide +kernel, by decide +kernel⟩, List.mem_of_getElem? (i := 65) (by decide +kernel), List.mem_of_getElem? (i := 454) (by decide +kernel), List.mem_of_getElem? (i := 455) (by decide +kernel)⟩
theorem lw_p9 : lw_okq (⟨"KingTies$Kin", "stepsThroughParents", "(III)I"⟩, 6) := ⟨⟨by decide +kernel, by decide +kernel⟩, List.mem_of_getElem? (i := 28) (by decide +kernel), List.mem_of_getElem? (i := 576) (by decide +kernel), List.mem_of_getElem? (i := 577) (by decide +kernel)⟩
def lw_privs_1 : List (MethodName × Nat) := [(⟨"KingTies", "needPerson", "(I)V"⟩, 3), (⟨"java/lang/Throwable", "fillInStackTrace", "(I)Ljava/lang/Throwable;"⟩, 6), (⟨"KingTies", "needLand", "(I)V"⟩, 3), (⟨"KingTies$World", "regentOf", "(I)I"⟩, 6), (⟨"KingTies$World", "nearestGrown", "(I)I"⟩, 6), (⟨"KingTies$World", "eldestOfKin", "(I)I"⟩, 6), (⟨"KingTies$World", "living", "()I"⟩, 6), (⟨"KingTies$World", "rulers", "(Z)I"⟩, 6), (⟨"KingTies$World", "isFree", "(I)Z"⟩, 6), (⟨"KingTies$Kin", "stepsThroughParents", "(III)I"⟩, 6)]
theorem lw_r1 : ∀ q ∈ lw_privs_1, lw_okq q := List.forall_mem_cons.mpr ⟨lw_p0, List.forall_mem_cons.mpr ⟨lw_p1, List.forall_mem_cons.mpr ⟨lw_p2, List.forall_mem_cons.mpr ⟨lw_p3, List.forall_mem_cons.mpr ⟨lw_p4, List.forall_mem_cons.mpr ⟨lw_p5, List.forall_mem_cons.mpr ⟨lw_p6, List.forall_mem_cons.mpr ⟨lw_p7, List.forall_mem_cons.mpr ⟨lw_p8, List.forall_mem_cons.mpr ⟨lw_p9, fun _ h => absurd h List.not_mem_nil⟩⟩⟩⟩⟩⟩⟩⟩⟩⟩
def lw_privs : List (MethodName × Nat) := lw_privs_1
def lw_tbl : List Cond := k2_sels lw_privs ++ tables_1
theorem lw_privs_ok : ∀ q ∈ lw_privs, lw_okq q := lw_r1
/-- the streams that the claim lets the run draw from -/
abbrev lw_cs : List Choice := [Jvm.Choice.named "NaN.bits"]
theorem lw_bits : nanBits ∈ lw_cs := by first | decide | exact List.mem_cons_self | simp [lw_cs, nanBits]
end
section
/-! ===== BEGIN words of one list among another's, by their places ===== -/
theorem goodIn_r {big : List Cond} (ws : List Cond) (ps : List Nat) (hp : ws = ps.filterMap (fun i => big[i]?)) (h : ws.all goodWord = true) : GoodIn big ws := by
  intro w hw
  have h1 := List.all_eq_true.mp h w hw
  rw [hp] at hw
  obtain ⟨i, -, hi⟩ := List.mem_filterMap.mp hw
  have hm : w ∈ big := by first | exact List.mem_of_getElem? hi | exact List.getElem?_mem hi
  exact ⟨hm, good_of_word h1⟩
theorem goodIn_app {big a b : List Cond} (ha : GoodIn big a) (hb : GoodIn big b) : GoodIn big (a ++ b) := fun w h => (List.mem_append.mp h).elim (ha w) (hb w)
theorem goodIn_ca {big a b : List Cond} {c : Cond} (ha : GoodIn big (c :: a)) (hb : GoodIn big b) : GoodIn big (c :: (a ++ b)) := fun w h => (List.mem_cons.mp h).elim (fun e => ha w (List.mem_cons.mpr (Or.inl e))) (fun h => (List.mem_append.mp h).elim (fun h => ha w (List.mem_cons.mpr (Or.inr h))) (hb w))
theorem goodIn_sub {big ws : List Cond} (hm : ∀ w ∈ ws, w ∈ big) (h : ws.all goodWord = true) : GoodIn big ws := fun w hw => ⟨hm w hw, good_of_word (List.all_eq_true.mp h w hw)⟩
/-! ===== END ===== -/

/-- what the tables say of arrays over arrays of t -/
def va_AOA (t : FieldType) (U : State) : Prop := (Cond.arrayOver (.array t)).before #[] U = true
theorem va_AOA.use {t : FieldType} {A : Array Value} {U : State} (h : va_AOA t U) : (Cond.arrayOver (.array t)).before A U = true := h
/-! ===== BEGIN new T[n][m]: the outer array a place, the inner ones among the pooled ===== -/
/-- f, but v at every address of l -/
def vr_up {α : Type} (f : Nat → α) (l : List Nat) (v : α) : Nat → α := fun a => if a ∈ l then v else f a
theorem vr_up_in {α : Type} {f : Nat → α} {l : List Nat} {v : α} {a : Nat} (h : a ∈ l) : vr_up f l v a = v := if_pos h
theorem vr_up_ne {α : Type} {f : Nat → α} {l : List Nat} {v : α} {a : Nat} (h : a ∉ l) : vr_up f l v a = f a := if_neg h
theorem vr_rows {L l : List Nat} {f : Nat → va_E} {e : va_E} (h : ∀ a, a ∈ l → a ∉ L) : va_pl L f ++ l.map (fun a => (a, e)) = va_pl (L ++ l) (vr_up f l e) := by
  unfold va_pl
  rw [List.map_append]
  congr 1
  · apply List.map_congr_left
    intro a ha
    rw [vr_up_ne (fun q => h a q ha)]
  · apply List.map_congr_left
    intro a ha
    rw [vr_up_in ha]
theorem vr_lay {X rows : va_W} {x : Nat × va_E} {pl : va_W} {D : va_G} {cl : List vw_C} {H : Heap} (hP : va_P D cl (((X ++ pl) ++ [x]) ++ rows) H) : va_P D cl ((X ++ [x]) ++ (pl ++ rows)) H := by
  rw [List.append_assoc (X ++ pl)] at hP
  have h := va_P.swap hP
  rw [← List.append_assoc X] at h
  have h2 := va_P.swap h
  rw [List.append_assoc (X ++ [x])] at h2
  exact h2
theorem vr_layD {X rows : va_W} {x : Nat × va_E} {pl : va_W} {A : Nat → Prop} (hD : va_D A (((X ++ pl) ++ [x]) ++ rows)) : va_D A ((X ++ [x]) ++ (pl ++ rows)) := by
  rw [List.append_assoc (X ++ pl)] at hD
  have h := va_D.swap hD
  rw [← List.append_assoc X] at h
  have h2 := va_D.swap h
  rw [List.append_assoc (X ++ [x])] at h2
  exact h2
theorem vr_outer (c : ClassId) (N h0 : Nat) : ∀ i : Nat, Jvm.Free.Multi.outerC c N h0 i = arrV c N (fun j => va_rf (if j < i then some (h0 + 1 + j) else none))
  | 0 => by
    show ({ cls := c, slots := Array.replicate N .null, vm := .none } : Cell) = _
    rw [arrV_new]
    refine congrArg (arrV c N) (funext fun j => ?_)
    simp [va_rf]
  | i + 1 => by
    show (Jvm.Free.Multi.outerC c N h0 i).setSlot i (.ref (h0 + 1 + i)) = _
    rw [vr_outer c N h0 i, arrV_store]
    refine congrArg (arrV c N) (funext fun j => ?_)
    by_cases e : j = i
    · subst e
      simp [updV, va_rf]
    · by_cases h : j < i
      · simp [updV, e, h, Nat.lt_succ_of_lt h]
      · simp [updV, e, h, show ¬ j < i + 1 by omega]
section VGM
variable {p : Program} {l : Launch} {e : Env} {R : Room} {s : State} {m : MethodId} {args : Array Value} {below : List Frame} {meth : Method} {c : Code} {H : Heap} {locs : List Loc} {cells slots : Nat} {Q : State → Prop}
variable {cc : ByteArray} {pc : Nat} {ls : Array Slot} {rest : List Value} {D : va_G} {cl : List vw_C} {A : Nat → Prop} {a : Nat} {tys : List (ClassId × FieldType)} {ws : va_W} {H0 : Heap}
theorem va_mna {X : va_W} {L : List Nat} {f : Nat → va_E} {cc : ByteArray} (hexec : p.tables.exec = Jvm.exec) (hb : c.code = cc) {own : String} {index : Nat} {ty : FieldType} {cy : ClassId} (hown : s.vm.findClass own = some m.cls) (hclink : (Cond.classLink own index ("[" ++ (FieldType.array ty).toString)).before args s = true) (hover : va_AOA ty s) (harr : (Cond.arrayClass ty).before args s = true) (hcy : s.vm.findClass (FieldType.array ty).toString = some cy)
    (hK : va_K D cl tys s) (hP : va_P D cl (X ++ va_pl L f) H) (hD : va_D A (X ++ va_pl L f)) (hS : va_S A H0 H locs) (hA : ∀ q, H0.size ≤ q → A q) {n k : Int32} {N' K' : Nat} {z : vp_A} (hn : ¬ n < 0) (hk : ¬ k < 0) (hN : n.toNatClampNeg = N') (hM : k.toNatClampNeg = K')
    (hb1 : N' * 4 ≤ 536870912) (hb2 : K' * componentBytes ty ≤ 536870912) (hb3 : K' ≤ 536870912) (hdf : fits ty (defaultValue ty) = true) (hdd : (defaultValue ty).isDefault = true) (hcells : cells + (1 + N') ≤ R.cells) (hslots : slots + (N' + N' * K') ≤ R.slots) (hz : ∀ c : ClassId, Jvm.Free.Multi.innerC c K' (defaultValue ty) = vp_cell c z) (hdg : decode cc pc = .ok (.multianewarray index 2, 4))
    (kk : ∀ (q : Nat) (r : Nat → Nat) (cA : ClassId) (H1 : Heap), (∀ i j : Nat, i < N' → j < N' → r i = r j → i = j) → (∀ i : Nat, i < N' → r i ∉ L) → va_K D cl (tys ++ [(cA, .array ty)]) s →
      va_P D cl ((X ++ [(q, .inl (cA, N', .inr (.inr (.inr (.inr (fun i => if i < N' then some (r i) else none))))))]) ++ va_pl (L ++ (List.range N').map r) (vr_up f ((List.range N').map r) (.inl (cy, z)))) H1 → va_D A ((X ++ [(q, .inl (cA, N', .inr (.inr (.inr (.inr (fun i => if i < N' then some (r i) else none))))))]) ++ va_pl (L ++ (List.range N').map r) (vr_up f ((List.range N').map r) (.inl (cy, z)))) → va_S A H0 H1 locs →
      W p l e R s m args below meth c H1 locs (cells + 1 + N') (slots + N' + N' * K') Q (F0 m (pc + 4) ls (.ref q :: rest))) : W p l e R s m args below meth c H locs cells slots Q (F0 m pc ls (.int k :: .int n :: rest)) := by
  subst hN
  subst hM
  intro T hT Xs
  obtain ⟨vm₁, cA, comp, -, fA, fC, hO, -, X', step⟩ := Xs.multianewarray2F hexec hown hclink (va_AOA.use hover) harr (g := F0 m pc ls (.int k :: .int n :: rest)) rfl (by rw [hb]; exact hdg) rfl hn hk hb1 hb2 hb3 hdf hdd hcells hslots
  have ec : some cy = some comp := hcy.symm.trans fC
  cases ec
  generalize hF : Jvm.Free.Multi.fill (T.setVm vm₁) cA cy n.toNatClampNeg k.toNatClampNeg (defaultValue ty) n.toNatClampNeg = F at X' step
  have hTh : (T.setVm vm₁).heap = H := hT
  obtain ⟨f1, f2, -, -⟩ := Jvm.Free.Multi.fill_facts (T.setVm vm₁) cA cy n.toNatClampNeg k.toNatClampNeg (defaultValue ty) n.toNatClampNeg
  rw [hF, hTh] at f1 f2
  have hold : ∀ x : Nat, x < H.size → F.heap[x]? = H[x]? := fun x hx => by
    have := Jvm.Free.Multi.fill_old (T.setVm vm₁) cA cy n.toNatClampNeg k.toNatClampNeg (defaultValue ty) (a := x) (by rw [hTh]; exact hx) n.toNatClampNeg
    rw [hF, hTh] at this
    exact this
  have hrow : ∀ j : Nat, j < n.toNatClampNeg → F.heap[H.size + 1 + j]? = some (vp_cell cy z) := fun j hj => by
    have := Jvm.Free.Multi.fill_inner (T.setVm vm₁) cA cy n.toNatClampNeg k.toNatClampNeg (defaultValue ty) n.toNatClampNeg j hj
    rw [hF, hTh, hz] at this
    exact this
  have hout : Jvm.Free.Multi.outerC cA n.toNatClampNeg H.size n.toNatClampNeg = vp_cell cA (n.toNatClampNeg, .inr (.inr (.inr (.inr (fun i => if i < n.toNatClampNeg then some (H.size + 1 + i) else none))))) := by
    rw [vp_cell_q]
    exact vr_outer cA n.toNatClampNeg H.size n.toNatClampNeg
  rw [hout] at f2
  have hlt : ∀ a, a ∈ L → a < H.size := fun a ha => by
    obtain ⟨k9, hk9⟩ := va_pl_get (X := X) (f := f) ha
    exact (hP k9 _ hk9).lt
  have hnl : ∀ i : Nat, i < n.toNatClampNeg → H.size + 1 + i ∉ L := fun i _ h => by
    have := hlt _ h
    omega
  have hnm : ∀ a, a ∈ (List.range n.toNatClampNeg).map (fun i => H.size + 1 + i) → a ∉ L := fun a ha h => by
    obtain ⟨i, -, rfl⟩ := List.mem_map.mp ha
    have := hlt _ h
    omega
  have hP0 : va_P D cl (X ++ va_pl L f) F.heap := hP.kept (fun k9 x hx => hold x.1 ((hP k9 x hx).lt))
  have hP1 : va_P D cl ((X ++ va_pl L f) ++ [(H.size, .inl (cA, n.toNatClampNeg, .inr (.inr (.inr (.inr (fun i => if i < n.toNatClampNeg then some (H.size + 1 + i) else none))))))]) F.heap := hP0.app (fun k9 x hx => by
    have h0 : k9 < 1 := (List.getElem?_eq_some_iff.mp hx).1
    rw [show k9 = 0 by omega] at hx
    cases hx
    exact f2)
  have hP2 : va_P D cl (((X ++ va_pl L f) ++ [(H.size, .inl (cA, n.toNatClampNeg, .inr (.inr (.inr (.inr (fun i => if i < n.toNatClampNeg then some (H.size + 1 + i) else none))))))]) ++ ((List.range n.toNatClampNeg).map (fun i => H.size + 1 + i)).map (fun a => (a, .inl (cy, z)))) F.heap := hP1.app (fun k9 x hx => by
    obtain ⟨a, ha, rfl⟩ := List.mem_map.mp (List.mem_of_getElem? hx)
    obtain ⟨i, hi, rfl⟩ := List.mem_map.mp ha
    exact hrow i (List.mem_range.mp hi))
  have hD2 : va_D A (((X ++ va_pl L f) ++ [(H.size, .inl (cA, n.toNatClampNeg, .inr (.inr (.inr (.inr (fun i => if i < n.toNatClampNeg then some (H.size + 1 + i) else none))))))]) ++ ((List.range n.toNatClampNeg).map (fun i => H.size + 1 + i)).map (fun a => (a, .inl (cy, z)))) := by
    have hD1 := hD.push (e := .inl (cA, n.toNatClampNeg, .inr (.inr (.inr (.inr (fun i => if i < n.toNatClampNeg then some (H.size + 1 + i) else none)))))) hP rfl (hA _ hS.1)
    generalize hW1 : (X ++ va_pl L f) ++ [(H.size, .inl (cA, n.toNatClampNeg, .inr (.inr (.inr (.inr (fun i => if i < n.toNatClampNeg then some (H.size + 1 + i) else none))))))] = W1 at hD1 hP1 ⊢
    have hle : ∀ (k9 : Nat) (x : Nat × va_E), W1[k9]? = some x → x.1 ≤ H.size := fun k9 x hx => by
      rw [← hW1] at hx
      by_cases hl : k9 < (X ++ va_pl L f).length
      · rw [List.getElem?_append_left hl] at hx
        exact Nat.le_of_lt ((hP k9 x hx).lt)
      · rw [List.getElem?_append_right (by omega)] at hx
        have h0 : k9 - (X ++ va_pl L f).length < 1 := (List.getElem?_eq_some_iff.mp hx).1
        rw [show k9 - (X ++ va_pl L f).length = 0 by omega] at hx
        cases hx
        exact Nat.le_refl _
    have hr : ∀ (k9 : Nat) (x : Nat × va_E), (((List.range n.toNatClampNeg).map (fun i => H.size + 1 + i)).map (fun a => ((a, .inl (cy, z)) : Nat × va_E)))[k9]? = some x → x.1 = H.size + 1 + k9 := fun k9 x hx => by
      rw [List.getElem?_map, List.getElem?_map] at hx
      by_cases h9 : k9 < n.toNatClampNeg
      · rw [List.getElem?_range h9] at hx
        cases hx
        rfl
      · have hn0 : (List.range n.toNatClampNeg)[k9]? = none := List.getElem?_eq_none (by rw [List.length_range]; omega)
        rw [hn0] at hx
        cases hx
    refine ⟨fun i j x y hi hj hxy => ?_, fun k9 x hx => ?_⟩
    · by_cases h1 : i < W1.length <;> by_cases h2 : j < W1.length
      · rw [List.getElem?_append_left h1] at hi
        rw [List.getElem?_append_left h2] at hj
        exact hD1.1 i j x y hi hj hxy
      · rw [List.getElem?_append_left h1] at hi
        rw [List.getElem?_append_right (by omega)] at hj
        have := hle _ _ hi
        have := hr _ _ hj
        omega
      · rw [List.getElem?_append_right (by omega)] at hi
        rw [List.getElem?_append_left h2] at hj
        have := hle _ _ hj
        have := hr _ _ hi
        omega
      · rw [List.getElem?_append_right (by omega)] at hi hj
        have := hr _ _ hi
        have := hr _ _ hj
        omega
    · by_cases h1 : k9 < W1.length
      · rw [List.getElem?_append_left h1] at hx
        exact hD1.2 k9 x hx
      · rw [List.getElem?_append_right (by omega)] at hx
        have := hr _ _ hx
        exact hA _ (by have := hS.1; omega)
  have hAr : ArrOfT s cA (.array ty) := fun N9 z9 => by
    obtain ⟨-, k9, hk9, cm9, hkk9⟩ := (hO 0 0 0).1
    exact ⟨(fun q hq => by cases hq), k9, hk9, cm9, hkk9⟩
  have hK2 : va_K D cl (tys ++ [(cA, .array ty)]) s := ⟨hK.1, fun k9 x hx => by
    by_cases hl : k9 < tys.length
    · rw [List.getElem?_append_left hl] at hx
      exact hK.2 k9 x hx
    · rw [List.getElem?_append_right (by omega)] at hx
      have h0 : k9 - tys.length < 1 := (List.getElem?_eq_some_iff.mp hx).1
      rw [show k9 - tys.length = 0 by omega] at hx
      cases hx
      exact ⟨hAr, fA⟩⟩
  obtain ⟨t, a1, b1⟩ := kk H.size (fun i => H.size + 1 + i) cA F.heap (fun i j _ _ h => by have h9 : H.size + 1 + i = H.size + 1 + j := h; omega) hnl hK2 (by rw [← vr_rows hnm]; exact vr_lay hP2) (by rw [← vr_rows hnm]; exact vr_layD hD2) ⟨by rw [f1]; have := hS.1; omega, fun x h1 h2 => (hold x (Nat.lt_of_lt_of_le h1 hS.1)).trans (hS.2.1 x h1 h2), hS.2.2⟩ F rfl X'
  refine ⟨t, step t ?_, b1⟩
  have e : T.heap.size = H.size := by rw [hT]
  rw [e]
  exact a1
end VGM
/-! ===== END ===== -/

/-! ===== BEGIN exceptions that leave a method, and their catching by the caller (launches without stack traces) ===== -/
section VXA
/-! The laws vx_back, vx_callV, vx_callS, vx_callSW, vx_throw0, vx_throwS follow proofs of the library, with one case more: JvmDerived/Free/Laws.lean (Back.of_free), Shelf42/LK1.lean (callV, callS), Shelf/KitTraced.lean (throwNew0V, throwNewS). -/
/-- where a method has thrown q: the class by its name, the cell, what was written, the world -/
def vx_T (XC : String → State → State → Prop) (st : State) (q : Addr) (t : State) (mc ms : Nat) (free : Addr → Prop) : Prop :=
  ∃ (E : String) (ce : Cell) (L : List Loc), XC E st t ∧ t.heap[q]? = some ce ∧ ce.vm = .none ∧ st.vm.findClass E = some ce.cls ∧ st.WarmedH t.vm ∧ st.sameButNew ({ t with vm := st.vm } : State) L mc ms ∧ ∀ z ∈ L, free z.base
def vx_Q (Qc : Array Value → State → Outcome → State → Prop) (XC : String → State → State → Prop) (mc ms : Nat) (free : Addr → Prop) : Array Value → State → Outcome → State → Prop := fun a st o t =>
  (Qc a st o t ∧ ∃ L, FrameEnd st o t L mc ms ∧ ∀ q ∈ L, free q.base) ∨ ∃ q, o = .threw q ∧ vx_T XC st q t mc ms free
/-- a callee that returns or throws -/
def vx_Met (l : Launch) (y : MethodName) (ws : List Cond) (rm : Room) (Pc : Array Value → State → Prop) (Qc : Array Value → State → Outcome → State → Prop) (XC : String → State → State → Prop) (mc ms : Nat) (free : Addr → Prop) : Prop :=
  MetFree l y (headSpec ws rm) Pc (fun _ _ _ _ _ => True) (vx_Q Qc XC mc ms free)
def vx_Post (XC : String → State → State → Prop) (mc ms : Nat) (free : Addr → Prop) : Pt → Array Value → Addr → Pt → Prop := fun A a q B =>
  ∃ (g : JFrame) (mk : MethodId) (t : State) (L : List Loc) (E : String) (ce : Cell), B.U.heap = t.heap ∧ B.U.vm = t.vm ∧ XC E (A.U.calling g mk a) t ∧ t.heap[q]? = some ce ∧ ce.vm = .none ∧ A.U.vm.findClass E = some ce.cls ∧ B.locs = A.locs ++ L ∧ (∀ z ∈ L, free z.base) ∧ B.cells = A.cells + mc ∧ B.slots = A.slots + ms
def vx_Back (l : Launch) (R : Room) (p : Program) (e : Env) (below : List Frame) (s : State) (sargs : Array Value) (y : MethodName) (len W9 : Nat)
    (Pre : Pt → Array Value → Prop) (Post : Pt → Array Value → Option Value → Pt → Prop) (PostX : Pt → Array Value → Addr → Pt → Prop) : Prop :=
  ∀ (m : MethodId) (meth : Method) (c : Code) (A : Pt) (g : JFrame) (ig : Instr) (mk : MethodId) (a : Array Value),
    Stand p l e R s m sargs below meth c A.U A.locs A.cells A.slots → g.method = m → g.locals.size = c.maxLocals → decode c.code g.pc = .ok (ig, len) →
    2 * g.monitorRoom + (g.stack.map fun v => v.category).sum ≤ W9 → A.U.methodNamed? y = some mk → Pre A a →
    (∃ (v : Option Value) (B : Pt), Stand p l e R s m sargs below meth c B.U B.locs B.cells B.slots ∧ Post A a v B ∧
      Steps p.tables e below (doInvoke e (A.U.setTop g) [] mk a).1 (B.U.setTop { g with pc := g.pc + len, stack := v.toList ++ g.stack })) ∨
    (∃ (q : Addr) (B : Pt), Stand p l e R s m sargs below meth c B.U B.locs B.cells B.slots ∧ PostX A a q B ∧
      Steps p.tables e below (doInvoke e (A.U.setTop g) [] mk a).1 ((B.U.setTop g).pushFrame (.throwing q)))
section Payer
variable {l : Launch} {R : Room} {p : Program} {e : Env} {below : List Frame} {s : State} {sargs : Array Value} {y : MethodName} {len W9 : Nat}
theorem vx_back {ws : List Cond} {rm : Room} {Pc : Array Value → State → Prop} {Qc : Array Value → State → Outcome → State → Prop} {XC : String → State → State → Prop} {mc ms : Nat} {free : Addr → Prop} {bytes : ByteArray} {maxL : Nat} {ret : Option FieldType}
    (hM : vx_Met l y ws rm Pc Qc XC mc ms free) (hblind : FrameBlind Pc) (hrc : rm.cells = mc) (hrs : rm.slots = ms)
    (hframes : rm.frames + 1 ≤ R.frames) (hlocals : W9 + (maxL + 11) + rm.locals ≤ R.locals)
    (hws : ∀ w ∈ ws, ∀ a' U, s.WarmedH U.vm → w.before a' U = true) (hcode : Cond.code y bytes maxL ret ∈ ws) (hinit : ∀ a' U, s.WarmedH U.vm → (Cond.initialized y.cls).before a' U = true) :
    vx_Back l R p e below s sargs y len W9 (PreOf R mc ms Pc) (PostOf Qc mc ms free) (vx_Post XC mc ms free) := by
  intro m meth c A g ig mk a X hg hsize hdg hW hn hp
  have h1 : (headSpec ws rm).pre.before a A.U = true := atoms_intro fun w hw => hws w hw _ _ X.warmed
  have h2 : (Cond.code y bytes maxL ret).before a A.U = true := hws _ hcode _ _ X.warmed
  have h3 : (Cond.initialized y.cls).before a A.U = true := hinit _ _ X.warmed
  have h4 : A.cells + (headSpec ws rm).room.cells ≤ R.cells := by rw [show (headSpec ws rm).room.cells = mc from hrc]; exact hp.1
  have h5 : A.slots + (headSpec ws rm).room.slots ≤ R.slots := by rw [show (headSpec ws rm).room.slots = ms from hrs]; exact hp.2.1
  have hPc : Pc a (A.U.calling g mk a) := hblind _ _ _ _ hp.2.2
  obtain ⟨U, Ls, c0, s0⟩ := A
  dsimp only [Pt.U, Pt.locs, Pt.cells, Pt.slots] at h1 h2 h3 h4 h5 X hn hPc ⊢
  obtain ⟨methY, cY, hmY, hcY, -, hlY, -, -, -, -⟩ := Cond.code_spec hn h2
  obtain ⟨kY, hkY, -⟩ := className_of_methodNamed hn
  have hinitY : kY.init = .initialized := Cond.initialized_spec (findClass_of_methodNamed hn) hkY h3
  have h : At U g.method c below := by rw [hg]; exact X.here
  have hlocals9 : W9 + (maxL + 11) + (headSpec ws rm).room.locals ≤ R.locals := hlocals
  have happ : (headSpec ws rm).appliesLoose y e.platform (U.calling g mk a) = true :=
    Spec.appliesLoose_calling (g := g) h hdg hn hkY hinitY
      (X.room_calling (g := g) (R' := (headSpec ws rm).room) hsize hmY hcY hframes (by rw [hlY]; omega) h4 h5) h1
  obtain ⟨mid, hmid⟩ := h.above
  have hfr : (U.setTop g).frames = (.java g :: mid) ++ below := by rw [State.frames_setTop' g h.top, hmid]; rfl
  obtain ⟨o, s₂, hsteps, -, hend, hq⟩ := Steps.callFree hM p X.admits X.cas X.clock (acts := []) hfr happ hPc trivial
  have hq' : vx_Q Qc XC mc ms free a (U.calling g mk a) o s₂ := hq
  rw [State.frames_setTop' g h.top] at hend
  obtain ⟨g₀, hg0⟩ := Option.isSome_iff_exists.mp h.top
  obtain ⟨r, hr⟩ := State.topJava?_eq_some.mp hg0
  have hr' : (({ U with heap := s₂.heap, slotsUsed := s₂.slotsUsed } : State).setVm s₂.vm).frames = .java g₀ :: r := hr
  rcases hq' with ⟨hqc, L, hfe, hL⟩ | ⟨q, rfl, E, ce, L, hx, hce, hcv, hcl, hW₂, hsm, hL⟩
  · obtain ⟨⟨v, rfl⟩, hW₂, e2, q2, q3, q4, q5, q6⟩ := id hfe
    have e3 : s₂ = ({ (U.calling g mk a).setFrames s₂.frames with heap := s₂.heap, slotsUsed := s₂.slotsUsed } : State).setVm s₂.vm := by
      have : s₂ = ({ s₂ with vm := (U.calling g mk a).vm } : State).setVm s₂.vm := rfl
      rw [e2] at this
      exact this
    obtain ⟨c₂, i₂, len₂, hc₂, hd₂, hf₂⟩ := hend
    have hW' : U.WarmedH s₂.vm := hW₂
    have hcc : c₂ = c := by
      have h1 : s₂.code? g.method = U.code? g.method := by
        rw [State.code?_eq, State.code?_eq, hW'.alike.method?]
      exact Option.some.inj (hc₂.symm.trans (h1.trans h.code))
    subst hcc
    have hlen : len₂ = len := by rw [hdg] at hd₂; cases hd₂; rfl
    subst hlen
    have hs₂ : s₂ = (({ U with heap := s₂.heap, slotsUsed := s₂.slotsUsed } : State).setVm s₂.vm).setTop { g with pc := g.pc + len₂, stack := v.toList ++ g.stack } := by
      refine e3.trans ?_
      rw [hf₂, State.calling_eq h.top, State.setFrames_setFrames, State.setTop_of_frames _ hr', hr]
      rfl
    have hsame : U.sameButNew ({ U with heap := s₂.heap, slotsUsed := s₂.slotsUsed } : State) L mc ms := by
      refine ⟨?_, q2, q3, q4, q5, q6⟩
      obtain ⟨t, ht, -⟩ := State.frames_cons hr
      show ({ U with heap := s₂.heap, slotsUsed := s₂.slotsUsed } : State) = { U.setFrames U.frames with heap := s₂.heap, slotsUsed := s₂.slotsUsed }
      rw [State.setFrames_self ht]
    subst hg
    refine Or.inl ⟨v, ⟨(({ U with heap := s₂.heap, slotsUsed := s₂.slotsUsed } : State).setVm s₂.vm), Ls ++ L, c0 + mc, s0 + ms⟩,
      ⟨X.admits, X.cas, X.clock, X.frames, X.room, X.hears, X.method, X.code, (X.here.setHeapUsed s₂.heap s₂.slotsUsed).setVm hW'.alike, X.tail, State.WarmedH.trans X.warmed hW', X.limits, X.bytes, X.same.trans (hsame.setVm s.vm)⟩,
      ⟨g, mk, s₂, L, rfl, rfl, hqc, rfl, hL, rfl, rfl⟩, ?_⟩
    show Steps p.tables e below _ ((({ U with heap := s₂.heap, slotsUsed := s₂.slotsUsed } : State).setVm s₂.vm).setTop { g with pc := g.pc + len₂, stack := v.toList ++ g.stack })
    rw [← hs₂]
    exact hsteps
  · obtain ⟨e2, q2, q3, q4, q5, q6⟩ := id hsm
    have e3 : s₂ = ({ (U.calling g mk a).setFrames s₂.frames with heap := s₂.heap, slotsUsed := s₂.slotsUsed } : State).setVm s₂.vm := by
      have : s₂ = ({ s₂ with vm := (U.calling g mk a).vm } : State).setVm s₂.vm := rfl
      rw [e2] at this
      exact this
    have hf₂ : s₂.frames = .throwing q :: .java g :: U.frames.tail := hend
    have hW' : U.WarmedH s₂.vm := hW₂
    have hs₂ : s₂ = ((({ U with heap := s₂.heap, slotsUsed := s₂.slotsUsed } : State).setVm s₂.vm).setTop g).pushFrame (.throwing q) := by
      refine e3.trans ?_
      rw [hf₂, State.calling_eq h.top, State.setFrames_setFrames, State.pushFrame, State.frames_setTop _ hr', State.setTop_of_frames _ hr', State.setFrames_setFrames, hr]
      rfl
    have hsame : U.sameButNew ({ U with heap := s₂.heap, slotsUsed := s₂.slotsUsed } : State) L mc ms := by
      refine ⟨?_, q2, q3, q4, q5, q6⟩
      obtain ⟨t, ht, -⟩ := State.frames_cons hr
      show ({ U with heap := s₂.heap, slotsUsed := s₂.slotsUsed } : State) = { U.setFrames U.frames with heap := s₂.heap, slotsUsed := s₂.slotsUsed }
      rw [State.setFrames_self ht]
    subst hg
    refine Or.inr ⟨q, ⟨(({ U with heap := s₂.heap, slotsUsed := s₂.slotsUsed } : State).setVm s₂.vm), Ls ++ L, c0 + mc, s0 + ms⟩,
      ⟨X.admits, X.cas, X.clock, X.frames, X.room, X.hears, X.method, X.code, (X.here.setHeapUsed s₂.heap s₂.slotsUsed).setVm hW'.alike, X.tail, State.WarmedH.trans X.warmed hW', X.limits, X.bytes, X.same.trans (hsame.setVm s.vm)⟩,
      ⟨g, mk, s₂, L, E, ce, rfl, rfl, hx, hce, hcv, hcl, rfl, hL, rfl, rfl⟩, ?_⟩
    show Steps p.tables e below _ (((({ U with heap := s₂.heap, slotsUsed := s₂.slotsUsed } : State).setVm s₂.vm).setTop g).pushFrame (.throwing q))
    rw [← hs₂]
    exact hsteps
end Payer
section Calls
variable {p : Program} {l : Launch} {e : Env} {R : Room} {s : State} {m : MethodId} {args : Array Value} {below : List Frame} {meth : Method} {c : Code} {T : State} {locs : List Loc} {cells slots : Nat}
theorem vx_callV (X : Stand p l e R s m args below meth c T locs cells slots) (hexec : p.tables.exec = Jvm.exec) {own C : String} {index : Nat} {y : MethodName} {bytes : ByteArray} {maxL : Nat} {ret : Option FieldType}
    (hown : s.vm.findClass own = some m.cls) (hlink : (Cond.methodLink own index y).before args s = true) (hinst : (Cond.instanceMethod y).before args s = true) (hsel : (Cond.selects C y y).before args s = true)
    (hcode : (Cond.code y bytes maxL ret).before args s = true) (hy : y.cls ≠ "java/lang/invoke/MethodHandle" ∧ y.cls ≠ "java/lang/invoke/VarHandle")
    {W9 : Nat} {Pre : Pt → Array Value → Prop} {Post : Pt → Array Value → Option Value → Pt → Prop} {PostX : Pt → Array Value → Addr → Pt → Prop} (hK : vx_Back l R p e below s args y 3 W9 Pre Post PostX)
    {b : Addr} {cellB : Cell} (hcell : T.heap[b]? = some cellB) (hobj : cellB.vm.isStatics = false) (hcls : s.vm.findClass C = some cellB.cls)
    {g : JFrame} (hg : g.method = m) (hsize : g.locals.size = c.maxLocals) {argsL rest : List Value} (hlen : ∀ sig, parseMethodDescriptor y.desc = some sig → argsL.length = sig.parameters.length)
    (hstack : g.stack = argsL.reverse ++ .ref b :: rest) (hW : 2 * g.monitorRoom + (rest.map fun v => v.category).sum ≤ W9) (hdg : decode c.code g.pc = .ok (.invokevirtual index, 3))
    (hpre : ∀ vm₁, s.WarmedH vm₁ → Pre ⟨T.setVm vm₁, locs, cells, slots⟩ (Value.ref b :: argsL).toArray) :
    (∃ (v : Option Value) (vm₁ : Vm) (B : Pt), s.WarmedH vm₁ ∧ Stand p l e R s m args below meth c B.U B.locs B.cells B.slots ∧ Post ⟨T.setVm vm₁, locs, cells, slots⟩ (Value.ref b :: argsL).toArray v B ∧
      ∀ target, Steps p.tables e below (B.U.setTop { g with pc := g.pc + 3, stack := v.toList ++ rest }) target → Steps p.tables e below (T.setTop g) target) ∨
    (∃ (q : Addr) (vm₁ : Vm) (B : Pt), s.WarmedH vm₁ ∧ Stand p l e R s m args below meth c B.U B.locs B.cells B.slots ∧ PostX ⟨T.setVm vm₁, locs, cells, slots⟩ (Value.ref b :: argsL).toArray q B ∧
      Steps p.tables e below (T.setTop g) ((B.U.setTop { g with stack := rest }).pushFrame (.throwing q))) := by
  obtain ⟨mk, methM, hnamed, hmethM, hstM, habM⟩ := Cond.instanceMethod_spec hinst
  obtain ⟨methM', cM, hmethM', -, -, -, -, -, -, hsigM⟩ := Cond.code_spec hnamed hcode
  cases hmethM.symm.trans hmethM'
  obtain ⟨c2, r2, m2, q1, q2, q3, q4, kP, hkP, hkPi⟩ := Cond.selects_spec hsel
  cases hcls.symm.trans q1
  cases (State.methodFound?_of_named hnamed hy).symm.trans q2
  cases hnamed.symm.trans q3
  have hselP : selectMethod e.platform s.vm cellB.cls mk = .method mk := by rw [Launch.admits_selectMethod X.admits]; exact q4
  obtain ⟨vm₁, X₁, hstep₁⟩ := X.invokevirtual hexec hown hlink hnamed hmethM hstM hkP hkPi hy (a := b) (cell := cellB) hcell
    (fun z h => by rw [h] at hobj; cases hobj) hselP hmethM habM hkP hkPi (g := g) hg (argsL := argsL) (rest := rest) (hlen _ hsigM) hstack hdg
  rcases hK m meth c ⟨T.setVm vm₁, locs, cells, slots⟩ { g with stack := rest } (.invokevirtual index) mk (Value.ref b :: argsL).toArray X₁ hg hsize hdg hW (X₁.named hnamed) (hpre vm₁ X₁.warmed) with ⟨v, B, X', hpost, hsteps⟩ | ⟨q, B, X', hpost, hsteps⟩
  · exact Or.inl ⟨v, vm₁, B, X₁.warmed, X', hpost, fun target h => hstep₁ _ fun acts => by rw [doInvoke_state]; exact hsteps.trans h⟩
  · exact Or.inr ⟨q, vm₁, B, X₁.warmed, X', hpost, hstep₁ _ fun acts => by rw [doInvoke_state]; exact hsteps⟩
theorem vx_callS (X : Stand p l e R s m args below meth c T locs cells slots) (hexec : p.tables.exec = Jvm.exec) {own : String} {index : Nat} {y : MethodName} {bytes : ByteArray} {maxL : Nat} {ret : Option FieldType}
    (hown : s.vm.findClass own = some m.cls) (hlink : (Cond.methodLink own index y).before args s = true) (hstat : (Cond.static y).before args s = true) (hinit : (Cond.initialized y.cls).before args s = true)
    (hcode : (Cond.code y bytes maxL ret).before args s = true) (hy : y.cls ≠ "java/lang/invoke/MethodHandle" ∧ y.cls ≠ "java/lang/invoke/VarHandle")
    {W9 : Nat} {Pre : Pt → Array Value → Prop} {Post : Pt → Array Value → Option Value → Pt → Prop} {PostX : Pt → Array Value → Addr → Pt → Prop} (hK : vx_Back l R p e below s args y 3 W9 Pre Post PostX)
    {g : JFrame} (hg : g.method = m) (hsize : g.locals.size = c.maxLocals) {argsL rest : List Value} (hlen : ∀ sig, parseMethodDescriptor y.desc = some sig → argsL.length = sig.parameters.length)
    (hstack : g.stack = argsL.reverse ++ rest) (hW : 2 * g.monitorRoom + (rest.map fun v => v.category).sum ≤ W9) (hdg : decode c.code g.pc = .ok (.invokestatic index, 3))
    (hpre : ∀ vm₁, s.WarmedH vm₁ → Pre ⟨T.setVm vm₁, locs, cells, slots⟩ argsL.toArray) :
    (∃ (v : Option Value) (vm₁ : Vm) (B : Pt), s.WarmedH vm₁ ∧ Stand p l e R s m args below meth c B.U B.locs B.cells B.slots ∧ Post ⟨T.setVm vm₁, locs, cells, slots⟩ argsL.toArray v B ∧
      ∀ target, Steps p.tables e below (B.U.setTop { g with pc := g.pc + 3, stack := v.toList ++ rest }) target → Steps p.tables e below (T.setTop g) target) ∨
    (∃ (q : Addr) (vm₁ : Vm) (B : Pt), s.WarmedH vm₁ ∧ Stand p l e R s m args below meth c B.U B.locs B.cells B.slots ∧ PostX ⟨T.setVm vm₁, locs, cells, slots⟩ argsL.toArray q B ∧
      Steps p.tables e below (T.setTop g) ((B.U.setTop { g with stack := rest }).pushFrame (.throwing q))) := by
  obtain ⟨mk, hnamed⟩ := Cond.code_named hcode
  obtain ⟨methM, cM, hmethM, -, -, -, -, -, -, hsigM⟩ := Cond.code_spec hnamed hcode
  have hstatic : methM.isStatic = true := Cond.static_spec hnamed hmethM hstat
  obtain ⟨kP, hkP, -⟩ := className_of_methodNamed hnamed
  have hinitP : kP.init = .initialized := Cond.initialized_spec (findClass_of_methodNamed hnamed) hkP hinit
  obtain ⟨vm₁, X₁, hstep₁⟩ := X.invokestatic hexec hown hlink hnamed hmethM hstatic hkP hinitP hy (g := g) hg (argsL := argsL) (rest := rest) (hlen _ hsigM) hstack hdg
  rcases hK m meth c ⟨T.setVm vm₁, locs, cells, slots⟩ { g with stack := rest } (.invokestatic index) mk argsL.toArray X₁ hg hsize hdg hW (X₁.named hnamed) (hpre vm₁ X₁.warmed) with ⟨v, B, X', hpost, hsteps⟩ | ⟨q, B, X', hpost, hsteps⟩
  · exact Or.inl ⟨v, vm₁, B, X₁.warmed, X', hpost, fun target h => hstep₁ _ fun acts => by rw [doInvoke_state]; exact hsteps.trans h⟩
  · exact Or.inr ⟨q, vm₁, B, X₁.warmed, X', hpost, hstep₁ _ fun acts => by rw [doInvoke_state]; exact hsteps⟩
end Calls
theorem vx_cls {s : State} {T : State} {vm₁ : Vm} {E : String} {k : ClassId} (hW : s.WarmedH vm₁) (h : (T.setVm vm₁).vm.findClass E = some k) : s.vm.findClass E = some k := by
  have h1 : vm₁.findClass E = some k := h
  rw [hW.alike.findClass] at h1
  exact h1
/-- the method's frame g, with q thrown over it -/
def vx_W (p : Program) (l : Launch) (e : Env) (R : Room) (s : State) (m : MethodId) (args : Array Value) (below : List Frame) (meth : Method) (c : Code) (H : Heap) (locs : List Loc) (cells slots : Nat) (Q : State → Prop) (g : JFrame) (q : Addr) : Prop :=
  ∀ T : State, T.heap = H → Stand p l e R s m args below meth c T locs cells slots → ∃ t, Steps p.tables e below ((T.setTop g).pushFrame (.throwing q)) t ∧ Q t
def vx_Run (p : Program) (l : Launch) (e : Env) (R : Room) (s : State) (m : MethodId) (args : Array Value) (below : List Frame) (meth : Method) (c : Code) (H : Heap) (locs : List Loc) (cells slots mc ms : Nat) (g : JFrame) (rest : List Value) (Qa : State → Outcome → State → Prop) (XC : String → State → State → Prop) (free : Addr → Prop) : Prop :=
  ∀ T : State, T.heap = H → Stand p l e R s m args below meth c T locs cells slots →
    (∃ (v : Option Value) (st₀ t T' : State) (L : List Loc), st₀.heap = H ∧ Stand p l e R s m args below meth c T' (locs ++ L) (cells + mc) (slots + ms) ∧ (∀ q ∈ L, free q.base) ∧ T'.heap = t.heap ∧ T'.vm = t.vm ∧ Qa st₀ (.returned v) t ∧
      Goes p e below T g T' { g with pc := g.pc + 3, stack := v.toList ++ rest }) ∨
    (∃ (q : Addr) (st₀ t T' : State) (L : List Loc) (E : String) (ce : Cell), st₀.heap = H ∧ Stand p l e R s m args below meth c T' (locs ++ L) (cells + mc) (slots + ms) ∧ (∀ z ∈ L, free z.base) ∧ T'.heap = t.heap ∧ T'.vm = t.vm ∧ XC E st₀ t ∧ t.heap[q]? = some ce ∧ ce.vm = .none ∧ s.vm.findClass E = some ce.cls ∧
      Steps p.tables e below (T.setTop g) ((T'.setTop { g with stack := rest }).pushFrame (.throwing q)))
def vx_X {S : Type} (px : S → Prop) (B : String → S → State → Prop) (A : Nat → Prop) : String → State → State → Prop := fun E st t => ∃ u : S, px u ∧ B E u t ∧ va_F A st t
section Runs
variable {p : Program} {l : Launch} {e : Env} {R : Room} {s : State} {m : MethodId} {args : Array Value} {below : List Frame} {meth : Method} {c : Code} {H : Heap} {locs : List Loc} {cells slots : Nat}
variable {y : MethodName} {bytes cc : ByteArray} {maxL nL mc ms n index : Nat} {ret : Option FieldType} {ws : List Cond} {rm : Room} {Pc : Array Value → State → Prop} {Qc : Array Value → State → Outcome → State → Prop} {XC : String → State → State → Prop} {free : Addr → Prop} {Ts : List Cond} {own C : String} {b : Addr} {As rest : List Value} {g : JFrame}
theorem vx_callBack (cb : CallB R s args own index y bytes maxL ret ws rm mc ms n) (hM : vx_Met l y ws rm Pc Qc XC mc ms free) (hbl : FrameBlind Pc) : vx_Back l R p e below s args y 3 8 (PreOf R mc ms Pc) (PostOf Qc mc ms free) (vx_Post XC mc ms free) := by
  obtain ⟨hrc, hrs, hfr, hlo, hws, hcw, -, hini, -⟩ := cb
  exact vx_back (bytes := bytes) (maxL := maxL) (ret := ret) hM hbl hrc hrs hfr hlo hws hcw (fun a' U hW => word_at hW (Or.inl (by first | rfl | simp [Cond.onTables, Cond.keeps, Cond.steady])) hini)
theorem vx_runV (S : CallFix p m c cc nL s args Ts own) (hM : vx_Met l y ws rm Pc Qc XC mc ms free) (cw : CallW R s args own C index y bytes maxL ret ws rm mc ms n) (hp : PreV s H C b Pc As)
    (hg : g.method = m) (hn : As.length = n) (hsize : g.locals.size = nL) (hstack : g.stack = As.reverse ++ .ref b :: rest) (hW : 2 * g.monitorRoom + (rest.map fun v => v.category).sum ≤ 8) (hdg : decode cc g.pc = .ok (.invokevirtual index, 3)) (hf : cells + mc ≤ R.cells ∧ slots + ms ≤ R.slots) :
    vx_Run p l e R s m args below meth c H locs cells slots mc ms g rest (Qc (Value.ref b :: As).toArray) XC free := by
  have hK : vx_Back l R p e below s args y 3 8 (PreOf R mc ms Pc) (PostOf Qc mc ms free) (vx_Post XC mc ms free) := vx_callBack cw.1 hM hp.1
  obtain ⟨⟨-, -, -, -, -, -, hcode, -, hy, hlen, hl⟩, hin, hse⟩ := cw
  obtain ⟨hx, hb, hml, ho, -⟩ := S
  obtain ⟨-, ⟨cellB, hcB, hoB, hclB⟩, hPc⟩ := hp
  intro T hT X
  rcases vx_callV X hx (C := C) (bytes := bytes) (maxL := maxL) (ret := ret) ho hl hin hse hcode hy hK (by rw [hT]; exact hcB) hoB hclB hg (hsize.trans hml.symm) (argsL := As) (rest := rest) (fun sig h => hn.trans (hlen sig h)) hstack hW (by rw [hb]; exact hdg)
    (fun vm₁ hW₁ => ⟨hf.1, hf.2, hPc (T.setVm vm₁) hT hW₁⟩) with ⟨v, vm₁, ⟨U', l2, c2, s2⟩, hW₁, X', ⟨g', mk, t, L, e1, e2, hq, h1, hL, h2, h3⟩, st⟩ | ⟨q, vm₁, ⟨U', l2, c2, s2⟩, hW₁, X', ⟨g', mk, t, L, E, ce, e1, e2, hq, hce, hcv, hcl, h1, hL, h2, h3⟩, st⟩
  · dsimp only [Pt.U, Pt.locs, Pt.cells, Pt.slots] at X' e1 e2 h1 h2 h3 st
    subst h1; subst h2; subst h3
    exact Or.inl ⟨v, (T.setVm vm₁).calling g' mk (Value.ref b :: As).toArray, t, U', L, hT, X', hL, e1, e2, hq, st⟩
  · dsimp only [Pt.U, Pt.locs, Pt.cells, Pt.slots] at X' e1 e2 h1 h2 h3 st hcl
    subst h1; subst h2; subst h3
    exact Or.inr ⟨q, (T.setVm vm₁).calling g' mk (Value.ref b :: As).toArray, t, U', L, E, ce, hT, X', hL, e1, e2, hq, hce, hcv, vx_cls hW₁ hcl, st⟩
theorem vx_runS (S : CallFix p m c cc nL s args Ts own) (hM : vx_Met l y ws rm Pc Qc XC mc ms free) (cw : CallB R s args own index y bytes maxL ret ws rm mc ms n ∧ (Cond.static y).before args s = true) (hp : PreS s H Pc As)
    (hg : g.method = m) (hn : As.length = n) (hsize : g.locals.size = nL) (hstack : g.stack = As.reverse ++ rest) (hW : 2 * g.monitorRoom + (rest.map fun v => v.category).sum ≤ 8) (hdg : decode cc g.pc = .ok (.invokestatic index, 3)) (hf : cells + mc ≤ R.cells ∧ slots + ms ≤ R.slots) :
    vx_Run p l e R s m args below meth c H locs cells slots mc ms g rest (Qc As.toArray) XC free := by
  have hK : vx_Back l R p e below s args y 3 8 (PreOf R mc ms Pc) (PostOf Qc mc ms free) (vx_Post XC mc ms free) := vx_callBack cw.1 hM hp.1
  obtain ⟨⟨-, -, -, -, -, -, hcode, hini, hy, hlen, hl⟩, hstt⟩ := cw
  obtain ⟨hx, hb, hml, ho, -⟩ := S
  intro T hT X
  rcases vx_callS X hx (bytes := bytes) (maxL := maxL) (ret := ret) ho hl hstt hini hcode hy hK hg (hsize.trans hml.symm) (argsL := As) (rest := rest) (fun sig h => hn.trans (hlen sig h)) hstack hW (by rw [hb]; exact hdg)
    (fun vm₁ hW₁ => ⟨hf.1, hf.2, hp.2 (T.setVm vm₁) hT hW₁⟩) with ⟨v, vm₁, ⟨U', l2, c2, s2⟩, hW₁, X', ⟨g', mk, t, L, e1, e2, hq, h1, hL, h2, h3⟩, st⟩ | ⟨q, vm₁, ⟨U', l2, c2, s2⟩, hW₁, X', ⟨g', mk, t, L, E, ce, e1, e2, hq, hce, hcv, hcl, h1, hL, h2, h3⟩, st⟩
  · dsimp only [Pt.U, Pt.locs, Pt.cells, Pt.slots] at X' e1 e2 h1 h2 h3 st
    subst h1; subst h2; subst h3
    exact Or.inl ⟨v, (T.setVm vm₁).calling g' mk As.toArray, t, U', L, hT, X', hL, e1, e2, hq, st⟩
  · dsimp only [Pt.U, Pt.locs, Pt.cells, Pt.slots] at X' e1 e2 h1 h2 h3 st hcl
    subst h1; subst h2; subst h3
    exact Or.inr ⟨q, (T.setVm vm₁).calling g' mk As.toArray, t, U', L, E, ce, hT, X', hL, e1, e2, hq, hce, hcv, vx_cls hW₁ hcl, st⟩
end Runs
section Rows
variable {p : Program} {l : Launch} {e : Env} {R : Room} {s : State} {m : MethodId} {args : Array Value} {below : List Frame} {meth : Method} {c : Code} {H : Heap} {locs : List Loc} {cells slots : Nat} {Q : State → Prop}
variable {mc ms : Nat} {free : Addr → Prop} {A0 A1 : Nat → Prop} {H0 : Heap} {a : Array Value} {pc : Nat} {ls : Array Slot} {st0 rest : List Value}
theorem vx_keep {st₀ t T' : State} {L : List Loc} (h0 : st₀.heap = H) (e1 : T'.heap = t.heap) (hS : va_S A0 H0 H locs) (hA : ∀ q, q < H.size → A1 q → A0 q) (hf : ∀ q, free q → A0 q) (hL : ∀ q ∈ L, free q.base) (hF : va_F A1 st₀ t) :
    H.size ≤ T'.heap.size ∧ (∀ q : Nat, q < H.size → ¬ A1 q → T'.heap[q]? = H[q]?) ∧ va_S A0 H0 T'.heap (locs ++ L) := by
  obtain ⟨hz, hk⟩ := hF
  rw [h0] at hz hk
  exact ⟨by rw [e1]; exact hz, fun q h1 h2 => by rw [e1]; exact hk q h1 h2,
    ⟨Nat.le_trans hS.1 (by rw [e1]; exact hz), fun q h1 h2 => by rw [e1, hk q (Nat.lt_of_lt_of_le h1 hS.1) (fun z => h2 (hA q (Nat.lt_of_lt_of_le h1 hS.1) z))]; exact hS.2.1 q h1 h2, fun q hq => by
      rcases List.mem_append.mp hq with h | h
      · exact hS.2.2 q h
      · exact hf _ (hL q h)⟩⟩
theorem vx_calli {S SX : Type} {post : Int32 → S → Prop} {px : SX → Prop} {B : S → State → Prop} {BX : String → SX → State → Prop} {AX : Nat → Prop} (hr : vx_Run p l e R s m args below meth c H locs cells slots mc ms (F0 m pc ls st0) rest (va_Qi post B A1 a) (vx_X px BX AX) free) (hS : va_S A0 H0 H locs) (hA : ∀ q, q < H.size → A1 q → A0 q) (hf : ∀ q, free q → A0 q) (hAX : ∀ q, q < H.size → AX q → A0 q)
    (kx : ∀ (E : String) (ce : Cell) (q9 : Addr) (u : SX) (t : State) (H1 : Heap) (locs1 : List Loc), t.heap = H1 → s.vm.Alike t.vm → px u → BX E u t → H.size ≤ H1.size → (∀ q : Nat, q < H.size → ¬ AX q → H1[q]? = H[q]?) → va_S A0 H0 H1 locs1 → H1[q9]? = some ce → ce.vm = .none → s.vm.findClass E = some ce.cls → vx_W p l e R s m args below meth c H1 locs1 (cells + mc) (slots + ms) Q (F0 m pc ls rest) q9)
    (kk : ∀ (r : Int32) (u : S) (t : State) (H1 : Heap) (locs1 : List Loc), t.heap = H1 → s.vm.Alike t.vm → post r u → B u t → H.size ≤ H1.size → (∀ q : Nat, q < H.size → ¬ A1 q → H1[q]? = H[q]?) → va_S A0 H0 H1 locs1 → W p l e R s m args below meth c H1 locs1 (cells + mc) (slots + ms) Q (F0 m (pc + 3) ls (.int r :: rest))) : W p l e R s m args below meth c H locs cells slots Q (F0 m pc ls st0) := by
  intro T hT X
  rcases hr T hT X with ⟨v, st₀, t, T', L, h0, X', hL, e1, e2, ⟨⟨r, u, hv, hp, hb⟩, hF⟩, st⟩ | ⟨q, st₀, t, T', L, E, ce, h0, X', hL, e1, e2, ⟨u, hp, hb, hF⟩, hce, hcv, hcl, st⟩
  · cases hv
    obtain ⟨k1, k2, k3⟩ := vx_keep h0 e1 hS hA hf hL hF
    obtain ⟨t2, a1, b1⟩ := kk r u t T'.heap (locs ++ L) e1.symm (by rw [← e2]; exact X'.warmed.alike) hp hb k1 k2 k3 T' rfl X'
    exact ⟨t2, st t2 a1, b1⟩
  · obtain ⟨k1, k2, k3⟩ := vx_keep h0 e1 hS hAX hf hL hF
    obtain ⟨t2, a1, b1⟩ := kx E ce q u t T'.heap (locs ++ L) e1.symm (by rw [← e2]; exact X'.warmed.alike) hp hb k1 k2 k3 (by rw [e1]; exact hce) hcv hcl T' rfl X'
    exact ⟨t2, st.trans a1, b1⟩
theorem vx_calll {S SX : Type} {post : Int64 → S → Prop} {px : SX → Prop} {B : S → State → Prop} {BX : String → SX → State → Prop} {AX : Nat → Prop} (hr : vx_Run p l e R s m args below meth c H locs cells slots mc ms (F0 m pc ls st0) rest (va_Ql post B A1 a) (vx_X px BX AX) free) (hS : va_S A0 H0 H locs) (hA : ∀ q, q < H.size → A1 q → A0 q) (hf : ∀ q, free q → A0 q) (hAX : ∀ q, q < H.size → AX q → A0 q)
    (kx : ∀ (E : String) (ce : Cell) (q9 : Addr) (u : SX) (t : State) (H1 : Heap) (locs1 : List Loc), t.heap = H1 → s.vm.Alike t.vm → px u → BX E u t → H.size ≤ H1.size → (∀ q : Nat, q < H.size → ¬ AX q → H1[q]? = H[q]?) → va_S A0 H0 H1 locs1 → H1[q9]? = some ce → ce.vm = .none → s.vm.findClass E = some ce.cls → vx_W p l e R s m args below meth c H1 locs1 (cells + mc) (slots + ms) Q (F0 m pc ls rest) q9)
    (kk : ∀ (r : Int64) (u : S) (t : State) (H1 : Heap) (locs1 : List Loc), t.heap = H1 → s.vm.Alike t.vm → post r u → B u t → H.size ≤ H1.size → (∀ q : Nat, q < H.size → ¬ A1 q → H1[q]? = H[q]?) → va_S A0 H0 H1 locs1 → W p l e R s m args below meth c H1 locs1 (cells + mc) (slots + ms) Q (F0 m (pc + 3) ls (.long r :: rest))) : W p l e R s m args below meth c H locs cells slots Q (F0 m pc ls st0) := by
  intro T hT X
  rcases hr T hT X with ⟨v, st₀, t, T', L, h0, X', hL, e1, e2, ⟨⟨r, u, hv, hp, hb⟩, hF⟩, st⟩ | ⟨q, st₀, t, T', L, E, ce, h0, X', hL, e1, e2, ⟨u, hp, hb, hF⟩, hce, hcv, hcl, st⟩
  · cases hv
    obtain ⟨k1, k2, k3⟩ := vx_keep h0 e1 hS hA hf hL hF
    obtain ⟨t2, a1, b1⟩ := kk r u t T'.heap (locs ++ L) e1.symm (by rw [← e2]; exact X'.warmed.alike) hp hb k1 k2 k3 T' rfl X'
    exact ⟨t2, st t2 a1, b1⟩
  · obtain ⟨k1, k2, k3⟩ := vx_keep h0 e1 hS hAX hf hL hF
    obtain ⟨t2, a1, b1⟩ := kx E ce q u t T'.heap (locs ++ L) e1.symm (by rw [← e2]; exact X'.warmed.alike) hp hb k1 k2 k3 (by rw [e1]; exact hce) hcv hcl T' rfl X'
    exact ⟨t2, st.trans a1, b1⟩
theorem vx_callf {S SX : Type} {post : UInt32 → S → Prop} {px : SX → Prop} {B : S → State → Prop} {BX : String → SX → State → Prop} {AX : Nat → Prop} (hr : vx_Run p l e R s m args below meth c H locs cells slots mc ms (F0 m pc ls st0) rest (va_Qf post B A1 a) (vx_X px BX AX) free) (hS : va_S A0 H0 H locs) (hA : ∀ q, q < H.size → A1 q → A0 q) (hf : ∀ q, free q → A0 q) (hAX : ∀ q, q < H.size → AX q → A0 q)
    (kx : ∀ (E : String) (ce : Cell) (q9 : Addr) (u : SX) (t : State) (H1 : Heap) (locs1 : List Loc), t.heap = H1 → s.vm.Alike t.vm → px u → BX E u t → H.size ≤ H1.size → (∀ q : Nat, q < H.size → ¬ AX q → H1[q]? = H[q]?) → va_S A0 H0 H1 locs1 → H1[q9]? = some ce → ce.vm = .none → s.vm.findClass E = some ce.cls → vx_W p l e R s m args below meth c H1 locs1 (cells + mc) (slots + ms) Q (F0 m pc ls rest) q9)
    (kk : ∀ (r : UInt32) (u : S) (t : State) (H1 : Heap) (locs1 : List Loc), t.heap = H1 → s.vm.Alike t.vm → post r u → B u t → H.size ≤ H1.size → (∀ q : Nat, q < H.size → ¬ A1 q → H1[q]? = H[q]?) → va_S A0 H0 H1 locs1 → W p l e R s m args below meth c H1 locs1 (cells + mc) (slots + ms) Q (F0 m (pc + 3) ls (.float r :: rest))) : W p l e R s m args below meth c H locs cells slots Q (F0 m pc ls st0) := by
  intro T hT X
  rcases hr T hT X with ⟨v, st₀, t, T', L, h0, X', hL, e1, e2, ⟨⟨r, u, hv, hp, hb⟩, hF⟩, st⟩ | ⟨q, st₀, t, T', L, E, ce, h0, X', hL, e1, e2, ⟨u, hp, hb, hF⟩, hce, hcv, hcl, st⟩
  · cases hv
    obtain ⟨k1, k2, k3⟩ := vx_keep h0 e1 hS hA hf hL hF
    obtain ⟨t2, a1, b1⟩ := kk r u t T'.heap (locs ++ L) e1.symm (by rw [← e2]; exact X'.warmed.alike) hp hb k1 k2 k3 T' rfl X'
    exact ⟨t2, st t2 a1, b1⟩
  · obtain ⟨k1, k2, k3⟩ := vx_keep h0 e1 hS hAX hf hL hF
    obtain ⟨t2, a1, b1⟩ := kx E ce q u t T'.heap (locs ++ L) e1.symm (by rw [← e2]; exact X'.warmed.alike) hp hb k1 k2 k3 (by rw [e1]; exact hce) hcv hcl T' rfl X'
    exact ⟨t2, st.trans a1, b1⟩
theorem vx_calld {S SX : Type} {post : UInt64 → S → Prop} {px : SX → Prop} {B : S → State → Prop} {BX : String → SX → State → Prop} {AX : Nat → Prop} (hr : vx_Run p l e R s m args below meth c H locs cells slots mc ms (F0 m pc ls st0) rest (va_Qd post B A1 a) (vx_X px BX AX) free) (hS : va_S A0 H0 H locs) (hA : ∀ q, q < H.size → A1 q → A0 q) (hf : ∀ q, free q → A0 q) (hAX : ∀ q, q < H.size → AX q → A0 q)
    (kx : ∀ (E : String) (ce : Cell) (q9 : Addr) (u : SX) (t : State) (H1 : Heap) (locs1 : List Loc), t.heap = H1 → s.vm.Alike t.vm → px u → BX E u t → H.size ≤ H1.size → (∀ q : Nat, q < H.size → ¬ AX q → H1[q]? = H[q]?) → va_S A0 H0 H1 locs1 → H1[q9]? = some ce → ce.vm = .none → s.vm.findClass E = some ce.cls → vx_W p l e R s m args below meth c H1 locs1 (cells + mc) (slots + ms) Q (F0 m pc ls rest) q9)
    (kk : ∀ (r : UInt64) (u : S) (t : State) (H1 : Heap) (locs1 : List Loc), t.heap = H1 → s.vm.Alike t.vm → post r u → B u t → H.size ≤ H1.size → (∀ q : Nat, q < H.size → ¬ A1 q → H1[q]? = H[q]?) → va_S A0 H0 H1 locs1 → W p l e R s m args below meth c H1 locs1 (cells + mc) (slots + ms) Q (F0 m (pc + 3) ls (.double r :: rest))) : W p l e R s m args below meth c H locs cells slots Q (F0 m pc ls st0) := by
  intro T hT X
  rcases hr T hT X with ⟨v, st₀, t, T', L, h0, X', hL, e1, e2, ⟨⟨r, u, hv, hp, hb⟩, hF⟩, st⟩ | ⟨q, st₀, t, T', L, E, ce, h0, X', hL, e1, e2, ⟨u, hp, hb, hF⟩, hce, hcv, hcl, st⟩
  · cases hv
    obtain ⟨k1, k2, k3⟩ := vx_keep h0 e1 hS hA hf hL hF
    obtain ⟨t2, a1, b1⟩ := kk r u t T'.heap (locs ++ L) e1.symm (by rw [← e2]; exact X'.warmed.alike) hp hb k1 k2 k3 T' rfl X'
    exact ⟨t2, st t2 a1, b1⟩
  · obtain ⟨k1, k2, k3⟩ := vx_keep h0 e1 hS hAX hf hL hF
    obtain ⟨t2, a1, b1⟩ := kx E ce q u t T'.heap (locs ++ L) e1.symm (by rw [← e2]; exact X'.warmed.alike) hp hb k1 k2 k3 (by rw [e1]; exact hce) hcv hcl T' rfl X'
    exact ⟨t2, st.trans a1, b1⟩
theorem vx_callv {S SX : Type} {post : S → Prop} {px : SX → Prop} {B : S → State → Prop} {BX : String → SX → State → Prop} {AX : Nat → Prop} (hr : vx_Run p l e R s m args below meth c H locs cells slots mc ms (F0 m pc ls st0) rest (va_Qv post B A1 a) (vx_X px BX AX) free) (hS : va_S A0 H0 H locs) (hA : ∀ q, q < H.size → A1 q → A0 q) (hf : ∀ q, free q → A0 q) (hAX : ∀ q, q < H.size → AX q → A0 q)
    (kx : ∀ (E : String) (ce : Cell) (q9 : Addr) (u : SX) (t : State) (H1 : Heap) (locs1 : List Loc), t.heap = H1 → s.vm.Alike t.vm → px u → BX E u t → H.size ≤ H1.size → (∀ q : Nat, q < H.size → ¬ AX q → H1[q]? = H[q]?) → va_S A0 H0 H1 locs1 → H1[q9]? = some ce → ce.vm = .none → s.vm.findClass E = some ce.cls → vx_W p l e R s m args below meth c H1 locs1 (cells + mc) (slots + ms) Q (F0 m pc ls rest) q9)
    (kk : ∀ (u : S) (t : State) (H1 : Heap) (locs1 : List Loc), t.heap = H1 → s.vm.Alike t.vm → post u → B u t → H.size ≤ H1.size → (∀ q : Nat, q < H.size → ¬ A1 q → H1[q]? = H[q]?) → va_S A0 H0 H1 locs1 → W p l e R s m args below meth c H1 locs1 (cells + mc) (slots + ms) Q (F0 m (pc + 3) ls (rest))) : W p l e R s m args below meth c H locs cells slots Q (F0 m pc ls st0) := by
  intro T hT X
  rcases hr T hT X with ⟨v, st₀, t, T', L, h0, X', hL, e1, e2, ⟨⟨u, hv, hp, hb⟩, hF⟩, st⟩ | ⟨q, st₀, t, T', L, E, ce, h0, X', hL, e1, e2, ⟨u, hp, hb, hF⟩, hce, hcv, hcl, st⟩
  · cases hv
    obtain ⟨k1, k2, k3⟩ := vx_keep h0 e1 hS hA hf hL hF
    obtain ⟨t2, a1, b1⟩ := kk u t T'.heap (locs ++ L) e1.symm (by rw [← e2]; exact X'.warmed.alike) hp hb k1 k2 k3 T' rfl X'
    exact ⟨t2, st t2 a1, b1⟩
  · obtain ⟨k1, k2, k3⟩ := vx_keep h0 e1 hS hAX hf hL hF
    obtain ⟨t2, a1, b1⟩ := kx E ce q u t T'.heap (locs ++ L) e1.symm (by rw [← e2]; exact X'.warmed.alike) hp hb k1 k2 k3 (by rw [e1]; exact hce) hcv hcl T' rfl X'
    exact ⟨t2, st.trans a1, b1⟩
/-- caught by the row x of this method's table; the rows ahead don't take it -/
theorem vx_catch {own name : String} {E : String} {ce : Cell} {q : Addr} (hown : s.vm.findClass own = some m.cls) (pre : List ExceptionTableEntry) (x : ExceptionTableEntry) (suf : List ExceptionTableEntry) (hsplit : c.exceptionTable.toList = pre ++ x :: suf)
    (hpass : ∀ z ∈ pre, covers z pc = false ∨ (z.catchType ≠ 0 ∧ ∃ nm : String, (Cond.classLink own z.catchType nm).before args s = true ∧ va_Nc E nm s)) (hx : covers x pc = true) (h0 : x.catchType ≠ 0)
    (hlink : (Cond.classLink own x.catchType name).before args s = true) (hcast : (Cond.castable E name).before args s = true) (hcell : H[q]? = some ce) (hv : ce.vm = .none) (hcl : s.vm.findClass E = some ce.cls)
    (kk : W p l e R s m args below meth c H locs cells slots Q (F0 m x.handlerPc ls [.ref q])) : vx_W p l e R s m args below meth c H locs cells slots Q (F0 m pc ls rest) q := by
  intro T hT X
  have hpl : e.platform.magicAccessors = ({} : Platform).magicAccessors := by rw [X.admits.platform]
  obtain ⟨c3, c4, hc3, hc4, hasg⟩ := Cond.castable_spec hcast
  cases Option.some.inj (hc3.symm.trans hcl)
  obtain ⟨c5, hc5, hcl5⟩ := Cond.classLink_spec hown hlink e.platform hpl
  cases Option.some.inj (hc4.symm.trans hc5)
  obtain ⟨vm', X', st⟩ := X.thenCaughtThrough q (g := F0 m pc ls rest) rfl (Steps.refl _) (by rw [hT]; exact hcell) (by rw [hv]; rfl) (by obtain ⟨k9, h9, -⟩ := Vm.findClass_spec hcl; exact ⟨k9, h9⟩) pre x suf hsplit
    (fun z hz => by
      rcases hpass z hz with h | ⟨hz0, nm, hl1, hn1⟩
      · exact Or.inl h
      · obtain ⟨c6, hc6, hcl6⟩ := Cond.classLink_spec hown hl1 e.platform hpl
        obtain ⟨a8, b8, h1, h2, h3⟩ := hn1
        cases Option.some.inj (h1.symm.trans hcl)
        cases Option.some.inj (h2.symm.trans hc6)
        exact Or.inr ⟨hz0, _, hcl6, h3⟩) hx (Or.inr ⟨h0, c4, hcl5, hasg⟩)
  obtain ⟨t, a1, b1⟩ := kk (T.setVm vm') hT X'
  exact ⟨t, st.trans a1, b1⟩
end Rows
section Ends
variable {p : Program} {l : Launch} {e : Env} {R : Room} {s : State} {m : MethodId} {args : Array Value} {below : List Frame} {meth : Method} {c : Code} {H : Heap} {locs : List Loc} {cells slots : Nat} {Q : State → Prop}
variable {mc ms : Nat} {free : Addr → Prop} {A0 A1 : Nat → Prop} {H0 : Heap} {a : Array Value} {ls : Array Slot} {st0 rest : List Value}
variable {Qc : Array Value → State → Outcome → State → Prop} {XC : String → State → State → Prop}
/-- what a body that may throw owes at its end -/
def vx_MQ (below : List Frame) (Qc : Array Value → State → Outcome → State → Prop) (XC : String → State → State → Prop) (a : Array Value) (s : State) (mc ms : Nat) (free : Addr → Prop) : State → Prop := fun t =>
  ∃ o, t.status = .running ∧ Ended t below o ∧ vx_Q Qc XC mc ms free a s o t
theorem vx_ret {g : JFrame} {mc ms : Nat} (k : W p l e R s m args below meth c H locs cells slots (MQ below Qc args s mc ms free) g) : W p l e R s m args below meth c H locs cells slots (vx_MQ below Qc XC args s mc ms free) g := by
  intro T hT X
  obtain ⟨t, a1, o, b1, b2, b3, b4⟩ := k T hT X
  exact ⟨t, a1, o, b1, b2, Or.inl ⟨b3, b4⟩⟩
/-- not caught here: it goes on to the caller -/
theorem vx_widen {g : JFrame} {q : Addr} {k n : Nat} (h1 : cells ≤ k) (h2 : slots ≤ n) (kk : vx_W p l e R s m args below meth c H locs k n Q g q) : vx_W p l e R s m args below meth c H locs cells slots Q g q := fun T hT X => kk T hT (stand_widen X h1 h2)
theorem vx_out {pc : Nat} {E : String} {ce : Cell} {q : Addr} {mc ms : Nat} (hout : ∀ x ∈ c.exceptionTable.toList, covers x pc = false) (hlocks : meth.locks = false) (hcell : H[q]? = some ce) (hv : ce.vm = .none) (hcl : s.vm.findClass E = some ce.cls)
    (hx : ∀ t : State, t.heap = H → s.vm.Alike t.vm → XC E s t) (hf : ∀ z ∈ locs, free z.base) (hc : cells ≤ mc) (hs : slots ≤ ms) :
    vx_W p l e R s m args below meth c H locs cells slots (vx_MQ below Qc XC args s mc ms free) (F0 m pc ls rest) q := by
  intro T hT X
  obtain ⟨st1, hrun, hend, hW, hsm⟩ := X.leaveThrown q (g := F0 m pc ls rest) rfl rfl rfl hout hlocks
  have hcell9 : (T.setFrames (.throwing q :: below)).heap[q]? = some ce := by
    show T.heap[q]? = some ce
    rw [hT]; exact hcell
  exact ⟨_, st1, .threw q, hrun, hend, Or.inr ⟨q, rfl, E, ce, locs, hx _ hT hW.alike, hcell9, hv, hcl, hW, hsm.mono hc hs, hf⟩⟩
theorem vx_frame {U : State} {k n : Nat} (h : s.sameButNew ({ U with vm := s.vm } : State) locs k n) : s.heap.size ≤ U.heap.size ∧ ∀ q : Nat, q < s.heap.size → (∀ z ∈ locs, z.base ≠ q) → U.heap[q]? = s.heap[q]? := by
  obtain ⟨-, h2, -, -, -, h6⟩ := h
  refine ⟨h2, fun q hq hz => ?_⟩
  obtain ⟨c9, e1, e2, e3, e4⟩ := h6 q _ (Array.getElem?_eq_getElem hq)
  have hs : c9.slots = (s.heap[q]).slots := Array.ext_getElem? fun i => e4 i fun hm => hz _ hm rfl
  have h9 : c9 = s.heap[q] := by
    rw [hs] at e2
    exact e2
  have e5 : U.heap[q]? = some c9 := e1
  rw [e5, h9, Array.getElem?_eq_getElem hq]
/-- the words of a throw but the four that speak of the heap -/
def vx_no (w : Cond) : Bool := decide (w ≠ .isRef (.static Bundle.tN "UNASSIGNED_STACK" Bundle.steD)) && decide (w ≠ .isRef (.static Bundle.tN "SUPPRESSED_SENTINEL" Bundle.listD)) && decide (w ≠ .laysStatic Bundle.tN "UNASSIGNED_STACK" Bundle.steD) && decide (w ≠ .laysStatic Bundle.tN "SUPPRESSED_SENTINEL" Bundle.listD)
def vx_at0 (own : String) (ic : Nat) (X : String) (names : List String) : List Cond := (Bundle.ownAtoms0 own ic X names).filter vx_no
def vx_atS (own : String) (ic : Nat) (X : String) (names : List String) : List Cond := (Bundle.ownAtoms own ic X names).filter vx_no
/-- a word that the tables alone decide, or a good one -/
def vx_ot (w : Cond) : Bool := w.onTables || goodWord w
theorem vx_ot_at {args a' : Array Value} {s U : State} {w : Cond} (hW : s.WarmedH U.vm) (hvm : s.vm = U.vm) (hg : vx_ot w = true) (h : w.before args s = true) : w.before a' U = true := by
  simp only [vx_ot, Bool.or_eq_true] at hg
  rcases hg with hg | hg
  · exact va_tabs hg hvm h
  · exact word_at hW (good_of_word hg) h
/-- a list's words: the good ones out of the method's own list, the others by premises of their own -/
theorem vx_hat {args : Array Value} {s : State} {L B : List Cond} (h1 : ∀ w ∈ L.filter goodWord, w.before args s = true) (h2 : ∀ w ∈ L.filter (fun w => !goodWord w), w ∈ B) (h3 : ∀ w ∈ B, w.before args s = true) : ∀ w ∈ L, w.before args s = true := by
  intro w hw
  by_cases g : goodWord w = true
  · exact h1 w (List.mem_filter.mpr ⟨hw, g⟩)
  · refine h3 w (h2 w (List.mem_filter.mpr ⟨hw, ?_⟩))
    show (!goodWord w) = true
    cases hgw : goodWord w
    · rfl
    · exact absurd hgw g
theorem vx_c {args : Array Value} {s : State} {w : Cond} {B : List Cond} (h : w.before args s = true) (t : ∀ w ∈ B, w.before args s = true) : ∀ w' ∈ w :: B, w'.before args s = true := fun w' h' => (List.mem_cons.mp h').elim (fun e => by rw [e]; exact h) (t w')
theorem vx_n {args : Array Value} {s : State} : ∀ w ∈ ([] : List Cond), w.before args s = true := fun _ h => nomatch h
theorem vx_own {args : Array Value} {s : State} {L : List Cond} (h1 : ∀ w ∈ L.filter vx_no, w.before args s = true)
    (hU : (Cond.isRef (.static Bundle.tN "UNASSIGNED_STACK" Bundle.steD)).before args s = true) (hN : (Cond.isRef (.static Bundle.tN "SUPPRESSED_SENTINEL" Bundle.listD)).before args s = true)
    (lU : (Cond.laysStatic Bundle.tN "UNASSIGNED_STACK" Bundle.steD).before args s = true) (lN : (Cond.laysStatic Bundle.tN "SUPPRESSED_SENTINEL" Bundle.listD).before args s = true) : ∀ w ∈ L, w.before args s = true := by
  intro w hw
  by_cases e1 : w = .isRef (.static Bundle.tN "UNASSIGNED_STACK" Bundle.steD)
  · rw [e1]; exact hU
  · by_cases e2 : w = .isRef (.static Bundle.tN "SUPPRESSED_SENTINEL" Bundle.listD)
    · rw [e2]; exact hN
    · by_cases e3 : w = .laysStatic Bundle.tN "UNASSIGNED_STACK" Bundle.steD
      · rw [e3]; exact lU
      · by_cases e4 : w = .laysStatic Bundle.tN "SUPPRESSED_SENTINEL" Bundle.listD
        · rw [e4]; exact lN
        · exact h1 w (List.mem_filter.mpr ⟨hw, by unfold vx_no; rw [decide_eq_true e1, decide_eq_true e2, decide_eq_true e3, decide_eq_true e4]; rfl⟩)
/-- where a static field lies, its class's statics cell in H -/
def vx_L (C n d : String) (A : Nat → Prop) (U : State) (H : Heap) : Prop := ∃ (c : ClassId) (k : Class) (i : Nat) (f : Field) (a : Nat) (cell : Cell), U.vm.findClass C = some c ∧ U.fieldFound? C n d = some (c, k, i, f) ∧ f.isStatic = true ∧ k.statics = some a ∧ H[a]? = some cell ∧ cell.vm.isStatics = true ∧ cell.cls = c ∧ f.slot < cell.slots.size ∧ k.staticTypes[f.slot]? = some f.type ∧ ¬ A a
theorem vx_L.moved {C n d : String} {A : Nat → Prop} {u U : State} {H : Heap} (hvm : u.vm.Alike U.vm) (h : vx_L C n d A u H) : vx_L C n d A U H := by
  obtain ⟨c, k, i, f, a, cell, h1, h2, h3, h4, h5, h6, h7, h8, h9, h10⟩ := h
  obtain ⟨k', hi', he⟩ := State.fieldFound?_setVm hvm h2
  exact ⟨c, k', i, f, a, cell, by rw [hvm.findClass]; exact h1, hi', h3, by rw [he]; exact h4, h5, h6, h7, h8, by rw [he]; exact h9, h10⟩
theorem vx_L.kept {C n d : String} {A : Nat → Prop} {U : State} {H H1 : Heap} (h : vx_L C n d A U H) (hq : ∀ a : Nat, a < H.size → ¬ A a → H1[a]? = H[a]?) : vx_L C n d A U H1 := by
  obtain ⟨c, k, i, f, a, cell, h1, h2, h3, h4, h5, h6, h7, h8, h9, h10⟩ := h
  exact ⟨c, k, i, f, a, cell, h1, h2, h3, h4, by rw [hq a (Array.getElem?_eq_some_iff.mp h5).1 h10]; exact h5, h6, h7, h8, h9, h10⟩
theorem vx_L.narrow {C n d : String} {A B : Nat → Prop} {U : State} {H : Heap} (h : vx_L C n d A U H) (hAB : ∀ q, B q → A q) : vx_L C n d B U H := by
  obtain ⟨c, k, i, f, a, cell, h1, h2, h3, h4, h5, h6, h7, h8, h9, h10⟩ := h
  exact ⟨c, k, i, f, a, cell, h1, h2, h3, h4, h5, h6, h7, h8, h9, fun z => h10 (hAB _ z)⟩
theorem vx_L.word {C n d : String} {A : Nat → Prop} {s : State} {args : Array Value} (h : vx_L C n d A s s.heap) : (Cond.laysStatic C n d).before args s = true := by
  obtain ⟨c, k, i, f, a, cell, h1, h2, h3, h4, h5, h6, h7, h8, h9, -⟩ := h
  show (Cond.laysStatic C n d).holds args s none s [] = true
  exact Cond.laysStatic_of h1 h2 h3 h4 h5 h6 h7 h8 h9
/-- .. and what it holds: null or some reference -/
def vx_Zq (C n d : String) (A : Nat → Prop) (U : State) (H : Heap) : Prop := va_Zq C n d A U H ∧ vx_L C n d A U H
theorem vx_Zq.moved {C n d : String} {A : Nat → Prop} {u U : State} {H : Heap} (hvm : u.vm.Alike U.vm) (h : vx_Zq C n d A u H) : vx_Zq C n d A U H := ⟨va_Zq.moved hvm h.1, vx_L.moved hvm h.2⟩
theorem vx_Zq.kept {C n d : String} {A : Nat → Prop} {U : State} {H H1 : Heap} (h : vx_Zq C n d A U H) (hq : ∀ a : Nat, a < H.size → ¬ A a → H1[a]? = H[a]?) : vx_Zq C n d A U H1 := ⟨va_Zq.kept h.1 hq, vx_L.kept h.2 hq⟩
theorem vx_Zq.narrow {C n d : String} {A B : Nat → Prop} {U : State} {H : Heap} (h : vx_Zq C n d A U H) (hAB : ∀ q, B q → A q) : vx_Zq C n d B U H := ⟨va_Zq.narrow h.1 hAB, vx_L.narrow h.2 hAB⟩
theorem vx_Zqof {args : Array Value} {s : State} {C n d : String} {A : Nat → Prop} (hl : (Cond.laysStatic C n d).before args s = true) (hini : (Cond.initialized C).before args s = true) (h : (Cond.isRef (.static C n d)).before args s = true) (hA : ∀ a : Nat, a < s.heap.size → ¬ A a) : vx_Zq C n d A s s.heap := by
  refine ⟨va_Zqof hl hini h hA, ?_⟩
  obtain ⟨c, k, i, f, a, cell, h1, h2, h3, h4, h5, h6, h7, h8, h9⟩ := Cond.laysStatic_spec hl
  exact ⟨c, k, i, f, a, cell, h1, h2, h3, h4, h5, h6, h7, h8, h9, hA a (Array.getElem?_eq_some_iff.mp h5).1⟩
theorem vx_isRef {C n d : String} {v : Value} {A : Nat → Prop} {s : State} {args : Array Value} (h : va_Z C n d v A s s.heap) (hv : v.isRef = true) : (Cond.isRef (.static C n d)).before args s = true := by
  obtain ⟨cf, kf, fi, f, a, cell, h1, h2, h3, h4, h5, h6, h7, -⟩ := h
  have he : (Term.static C n d).eval args s none [] s = some v := by
    simp [Term.eval, State.fieldNamed?, h1, h2, h4, h5, h6, h7]
  simp only [Cond.before, Cond.holds, Cond.value, he]
  cases v <;> simp_all [Value.isRef]
theorem vx_isRefq {C n d : String} {A : Nat → Prop} {s : State} {args : Array Value} (h : va_Zq C n d A s s.heap) : (Cond.isRef (.static C n d)).before args s = true := by
  rcases h with h | ⟨t, h⟩
  · exact vx_isRef h rfl
  · exact vx_isRef h rfl
/-- the same frame, seen from here: as if the method were called anew in this heap -/
theorem vx_rebase {T : State} (X : Stand p l e R s m args below meth c T locs cells slots) {R' : Room} (hf : R'.frames ≤ R.frames) (hl : R'.locals ≤ R.locals) (hc : cells + R'.cells ≤ R.cells) (hs : slots + R'.slots ≤ R.slots) :
    Stand p l e R' ((T.setVm s.vm).setFrames (.invoking m args :: below)) m args below meth c T [] 0 0 := by
  have htop : (T.setVm s.vm).topJava?.isSome := X.here.top
  have hF : ((T.setVm s.vm).setFrames (.invoking m args :: below)).frames = .invoking m args :: below := State.frames_setFrames _ (State.cur_lt_of_top htop)
  obtain ⟨g₀, hg0⟩ := Option.isSome_iff_exists.mp htop
  obtain ⟨r, hr⟩ := State.topJava?_eq_some.mp hg0
  have hl9 : e.platform.stackLimits (T.setVm s.vm).me = e.platform.stackLimits s.me := X.limits
  have hb9 : (T.setVm s.vm).me.stackBytes = s.me.stackBytes := X.bytes
  refine ⟨X.admits, X.cas, X.clock, hF, ?_, X.hears, X.method, X.code, X.here, X.tail, X.warmed, ?_, ?_, ?_⟩
  · have h := X.room
    have hU : ((T.setVm s.vm).setFrames (.invoking m args :: below)).localsInUse = s.localsInUse := by
      rw [State.localsInUse_invoking hF (meth := meth) (c := c) X.method X.code, State.localsInUse_invoking X.frames X.method X.code]
    simp only [State.hasRoom, Bool.and_eq_true, decide_eq_true_eq] at h ⊢
    obtain ⟨⟨⟨⟨h1, h2, h3, h4, h5, h6⟩, h7⟩, h8⟩, h9⟩ := h
    rw [X.frames, List.length_cons] at h2 h3
    have q1 := X.heapSize
    have q2 := X.used
    simp only [hF, hU, List.length_cons, State.stackLimits_setFrames, State.stackBytes_setFrames, hl9, hb9]
    refine ⟨⟨⟨⟨by omega, by omega, by omega, by omega, by omega, h6⟩, ?_⟩, ?_⟩, X.book⟩
    · show T.heap.size + R'.cells ≤ e.platform.maxCells
      omega
    · show T.slotsUsed + R'.slots ≤ e.platform.maxSlots
      omega
  · rw [State.stackLimits_setFrames]; rfl
  · rw [State.stackBytes_setFrames]; rfl
  · refine ⟨?_, Nat.le_refl _, Nat.le_refl _, ?_, ?_, fun a c9 h9 => ⟨c9, h9, rfl, rfl, fun _ _ => rfl⟩⟩
    · obtain ⟨t, ht, -⟩ := State.frames_cons hr
      show T.setVm s.vm = { ((T.setVm s.vm).setFrames (.invoking m args :: below)).setFrames (T.setVm s.vm).frames with heap := T.heap, slotsUsed := T.slotsUsed }
      rw [State.setFrames_setFrames, State.setFrames_self ht]
      rfl
    · show T.slotsUsed = T.slotsUsed + ((T.heap.toList.drop T.heap.size).map (·.slots.size)).sum
      rw [List.drop_eq_nil_of_le (Nat.le_of_eq Array.length_toList)]
      rfl
    · show ((T.heap.toList.drop T.heap.size).map (·.slots.size)).sum ≤ 0
      rw [List.drop_eq_nil_of_le (Nat.le_of_eq Array.length_toList)]
      exact Nat.le_refl _
/-- 'throw new E()': new; dup; invokespecial; athrow -/
theorem vx_throw0 {cc : ByteArray} {pc : Nat} (hexec : p.tables.exec = Jvm.exec) (hb : c.code = cc) (hl : l.stackTraces = false) {own cls : String} {names : List String} {ik ic mc ms : Nat} {A : Nat → Prop}
    (hown : s.vm.findClass own = some m.cls) (hcls : Bundle.fit cls = true) (hnames : ∀ n ∈ names, Bundle.fit n = true)
    (hk : (Cond.classLink own ik cls).before args s = true) (hini : (Cond.initialized cls).before args s = true) (hat : ∀ w ∈ vx_at0 own ic cls names, w.before args s = true)
    (hgood : ∀ w ∈ Cond.classLink own ik cls :: Cond.initialized cls :: vx_at0 own ic cls names, vx_ot w = true)
    (hU : vx_Zq Bundle.tN "UNASSIGNED_STACK" Bundle.steD A s s.heap) (hN : vx_Zq Bundle.tN "SUPPRESSED_SENTINEL" Bundle.listD A s s.heap) (hS : va_S A s.heap H locs) (hsize : ls.size = c.maxLocals)
    (d0 : decode cc pc = .ok (.new ik, 3)) (d3 : decode cc (pc + 3) = .ok (.dup, 1)) (d4 : decode cc (pc + 4) = .ok (.invokespecial ic, 3)) (d7 : decode cc (pc + 7) = .ok (.athrow, 1))
    (hout : ∀ x ∈ c.exceptionTable.toList, covers x (pc + 7) = false)
    (hRframes : names.length + 3 < R.frames) (hRlocals : (rest.map fun v => v.category).sum + (13 * (names.length + 1) + 42) ≤ R.locals) (hRcells : cells + 1 ≤ R.cells) (hRslots : slots + 6 ≤ R.slots) (hlocks : meth.locks = false)
    (hx : ∀ t : State, s.vm.Alike t.vm → H.size ≤ t.heap.size → (∀ q : Nat, q < H.size → t.heap[q]? = H[q]?) → XC cls s t)
    (hf : ∀ z ∈ locs, free z.base) (hc : cells + 1 ≤ mc) (hs : slots + 6 ≤ ms) :
    W p l e R s m args below meth c H locs cells slots (vx_MQ below Qc XC args s mc ms free) (F0 m pc ls rest) := by
  intro T hT X
  have htr : e.platform.stackTraces = false := (show e.platform.stackTraces = l.stackTraces by rw [X.admits.platform]).trans hl
  have Y := vx_rebase X (R' := { frames := R.frames, locals := R.locals, cells := 1, slots := 6 }) (Nat.le_refl _) (Nat.le_refl _) hRcells hRslots
  obtain ⟨s', hA⟩ : ∃ z, z = (T.setVm s.vm).setFrames (.invoking m args :: below) := ⟨_, rfl⟩
  rw [← hA] at Y
  have hvm : s'.vm = s.vm := by rw [hA]; rfl
  have hhp : s'.heap = H := by rw [hA]; exact hT
  have hW0 : s.WarmedH s'.vm := by rw [hvm]; exact State.WarmedH.refl s
  have hat' : ∀ w ∈ vx_at0 own ic cls names, w.before args s' = true := fun w hw => vx_ot_at hW0 hvm.symm (hgood w (List.mem_cons_of_mem _ (List.mem_cons_of_mem _ hw))) (hat w hw)
  have hk' : (Cond.classLink own ik cls).before args s' = true := vx_ot_at hW0 hvm.symm (hgood _ List.mem_cons_self) hk
  have hini' : (Cond.initialized cls).before args s' = true := vx_ot_at hW0 hvm.symm (hgood _ (List.mem_cons_of_mem _ List.mem_cons_self)) hini
  have hU' : vx_Zq Bundle.tN "UNASSIGNED_STACK" Bundle.steD A s' s'.heap := by rw [hhp]; exact vx_Zq.moved hW0.alike (hU.kept hS.2.1)
  have hN' : vx_Zq Bundle.tN "SUPPRESSED_SENTINEL" Bundle.listD A s' s'.heap := by rw [hhp]; exact vx_Zq.moved hW0.alike (hN.kept hS.2.1)
  have h : ∀ w ∈ Bundle.ownAtoms0 own ic cls names, w.before args s' = true := vx_own hat' (vx_isRefq hU'.1) (vx_isRefq hN'.1) hU'.2.word hN'.2.word
  have hown' : s'.vm.findClass own = some m.cls := by rw [hvm]; exact hown
  have hins : (Cond.instantiable cls 6).before args s' = true := h _ (by simp [Bundle.ownAtoms0])
  obtain ⟨vm₁, cX, kX, hfX, hkX, -, -, X₁, st1⟩ := Y.newCold hexec (own := own) (C := cls) (index := ik) (n := 6) hown' hk' hins hini'
    (g := F0 m pc ls rest) rfl (by rw [hb]; exact d0) (Nat.le_refl _) (Nat.le_refl _)
  generalize hT1 : (T.setVm vm₁).pushCell { cls := cX, slots := kX.instanceTypes.map defaultValue, vm := .none } = T1 at X₁ st1
  have hcat : (Value.ref T.heap.size).category = 1 := rfl
  have hcellA : T1.heap[T.heap.size]? = some (freshCell cX kX) := by rw [← hT1]; exact State.heap_pushCell_size _ _
  have d3' : decode c.code (pc + 3) = .ok (.dup, 1) := by rw [hb]; exact d3
  obtain ⟨U, hsteps, hrun, hend, hW, hsame, ce, hce, hO⟩ := X₁.ctorThrow0 hexec htr (own := own) (cls := cls) (names := names) (ic := ic) hown' hcls hnames h (fun x hx => nomatch hx) hfX hkX hcellA (by rw [hhp, hT]; exact Nat.le_refl _)
    (g := { method := m, pc := pc + 4, locals := ls, stack := .ref T.heap.size :: .ref T.heap.size :: rest, locked := none }) rfl hsize rfl rfl (rest := rest) rfl
    (by rw [hb]; exact d4) (by rw [hb]; exact d7) hout hRframes (by simp only [List.map_cons, List.sum_cons, hcat]; omega) hlocks
  obtain ⟨f1, f2⟩ := vx_frame hsame
  rw [hhp] at f1 f2
  have hWs : s.WarmedH U.vm := State.WarmedH.trans hW0 hW
  have hcl : s.vm.findClass cls = some ce.cls := by
    have h9 := hO.cls
    rw [hvm] at h9
    exact h9
  have hall : s.sameButNew ({ U with vm := s.vm } : State) locs mc ms := by
    subst hA
    obtain ⟨e1, e2⟩ := hsame
    rw [State.setFrames_setFrames] at e1
    have h2 : (T.setVm s.vm).sameButNew ({ U with vm := s.vm } : State) [] (0 + 1) (0 + 6) := ⟨e1, e2⟩
    have h3 := X.same.trans h2
    rw [List.append_nil] at h3
    exact h3.mono hc hs
  refine ⟨U, ?_, .threw T.heap.size, hrun, hend, Or.inr ⟨T.heap.size, rfl, cls, ce, locs, hx U hWs.alike f1 (fun q hq => f2 q hq (fun z hz => nomatch hz)), hce, hO.vm, hcl, hWs, hall, hf⟩⟩
  refine st1 _ ?_
  show Steps p.tables e below (T1.setTop { method := m, pc := pc + 3, locals := ls, stack := .ref T.heap.size :: rest, locked := none }) _
  jvm_step X₁.here [X₁.here.top, hexec, d3', Value.category]
  exact hsteps
/-- 'throw new E("text")': new; dup; ldc; invokespecial; athrow -/
theorem vx_throwS {cc : ByteArray} {pc : Nat} (hexec : p.tables.exec = Jvm.exec) (hb : c.code = cc) (hl : l.stackTraces = false) {own cls text : String} {names : List String} {ik is ic mc ms sa : Nat} {A : Nat → Prop}
    (hown : s.vm.findClass own = some m.cls) (hcls : Bundle.fit cls = true) (hnames : ∀ n ∈ names, Bundle.fit n = true)
    (hk : (Cond.classLink own ik cls).before args s = true) (hini : (Cond.initialized cls).before args s = true) (hstr : vk_R own is text sa s) (hat : ∀ w ∈ vx_atS own ic cls names, w.before args s = true)
    (hgood : ∀ w ∈ Cond.classLink own ik cls :: Cond.initialized cls :: vx_atS own ic cls names, vx_ot w = true)
    (hU : vx_Zq Bundle.tN "UNASSIGNED_STACK" Bundle.steD A s s.heap) (hN : vx_Zq Bundle.tN "SUPPRESSED_SENTINEL" Bundle.listD A s s.heap) (hS : va_S A s.heap H locs) (hsize : ls.size = c.maxLocals)
    (d0 : decode cc pc = .ok (.new ik, 3)) (d3 : decode cc (pc + 3) = .ok (.dup, 1)) (d4 : decode cc (pc + 4) = .ok (.ldc is, 2)) (d6 : decode cc (pc + 6) = .ok (.invokespecial ic, 3)) (d9 : decode cc (pc + 9) = .ok (.athrow, 1))
    (hout : ∀ x ∈ c.exceptionTable.toList, covers x (pc + 9) = false)
    (hRframes : names.length + 3 < R.frames) (hRlocals : (rest.map fun v => v.category).sum + (13 * (names.length + 1) + 43) ≤ R.locals) (hRcells : cells + 1 ≤ R.cells) (hRslots : slots + 6 ≤ R.slots) (hlocks : meth.locks = false)
    (hx : ∀ t : State, s.vm.Alike t.vm → H.size ≤ t.heap.size → (∀ q : Nat, q < H.size → t.heap[q]? = H[q]?) → XC cls s t)
    (hf : ∀ z ∈ locs, free z.base) (hc : cells + 1 ≤ mc) (hs : slots + 6 ≤ ms) :
    W p l e R s m args below meth c H locs cells slots (vx_MQ below Qc XC args s mc ms free) (F0 m pc ls rest) := by
  intro T hT X
  have htr : e.platform.stackTraces = false := (show e.platform.stackTraces = l.stackTraces by rw [X.admits.platform]).trans hl
  have Y := vx_rebase X (R' := { frames := R.frames, locals := R.locals, cells := 1, slots := 6 }) (Nat.le_refl _) (Nat.le_refl _) hRcells hRslots
  obtain ⟨s', hA⟩ : ∃ z, z = (T.setVm s.vm).setFrames (.invoking m args :: below) := ⟨_, rfl⟩
  rw [← hA] at Y
  have hvm : s'.vm = s.vm := by rw [hA]; rfl
  have hhp : s'.heap = H := by rw [hA]; exact hT
  have hW0 : s.WarmedH s'.vm := by rw [hvm]; exact State.WarmedH.refl s
  have hat' : ∀ w ∈ vx_atS own ic cls names, w.before args s' = true := fun w hw => vx_ot_at hW0 hvm.symm (hgood w (List.mem_cons_of_mem _ (List.mem_cons_of_mem _ hw))) (hat w hw)
  have hk' : (Cond.classLink own ik cls).before args s' = true := vx_ot_at hW0 hvm.symm (hgood _ List.mem_cons_self) hk
  have hini' : (Cond.initialized cls).before args s' = true := vx_ot_at hW0 hvm.symm (hgood _ (List.mem_cons_of_mem _ List.mem_cons_self)) hini
  have hU' : vx_Zq Bundle.tN "UNASSIGNED_STACK" Bundle.steD A s' s'.heap := by rw [hhp]; exact vx_Zq.moved hW0.alike (hU.kept hS.2.1)
  have hN' : vx_Zq Bundle.tN "SUPPRESSED_SENTINEL" Bundle.listD A s' s'.heap := by rw [hhp]; exact vx_Zq.moved hW0.alike (hN.kept hS.2.1)
  have h : ∀ w ∈ Bundle.ownAtoms own ic cls names, w.before args s' = true := vx_own hat' (vx_isRefq hU'.1) (vx_isRefq hN'.1) hU'.2.word hN'.2.word
  have hown' : s'.vm.findClass own = some m.cls := by rw [hvm]; exact hown
  have hins : (Cond.instantiable cls 6).before args s' = true := h _ (by simp [Bundle.ownAtoms])
  obtain ⟨vm₁, cX, kX, hfX, hkX, -, -, X₁, st1⟩ := Y.newCold hexec (own := own) (C := cls) (index := ik) (n := 6) hown' hk' hins hini'
    (g := F0 m pc ls rest) rfl (by rw [hb]; exact d0) (Nat.le_refl _) (Nat.le_refl _)
  generalize hT1 : (T.setVm vm₁).pushCell { cls := cX, slots := kX.instanceTypes.map defaultValue, vm := .none } = T1 at X₁ st1
  have hcat : (Value.ref T.heap.size).category = 1 := rfl
  have hcellA : T1.heap[T.heap.size]? = some (freshCell cX kX) := by rw [← hT1]; exact State.heap_pushCell_size _ _
  have d3' : decode c.code (pc + 3) = .ok (.dup, 1) := by rw [hb]; exact d3
  have d4' : decode c.code (pc + 4) = .ok (.ldc is, 2) := by rw [hb]; exact d4
  have hstr' : vk_R own is text sa s' := vk_R.warm hW0 hstr
  obtain ⟨U, hsteps, hrun, hend, hW, hsame, ce, hce, hO⟩ := X₁.ctorThrowS hexec htr (own := own) (cls := cls) (names := names) (ic := ic) hown' hcls hnames h (fun x hx => nomatch hx) hfX hkX hcellA (by rw [hhp, hT]; exact Nat.le_refl _) (msg := .ref sa) rfl
    (g := { method := m, pc := pc + 6, locals := ls, stack := .ref sa :: .ref T.heap.size :: .ref T.heap.size :: rest, locked := none }) rfl hsize rfl rfl (rest := rest) rfl
    (by rw [hb]; exact d6) (by rw [hb]; exact d9) hout hRframes (by simp only [List.map_cons, List.sum_cons, hcat]; omega) hlocks
  obtain ⟨f1, f2⟩ := vx_frame hsame
  rw [hhp] at f1 f2
  have hWs : s.WarmedH U.vm := State.WarmedH.trans hW0 hW
  have hcl : s.vm.findClass cls = some ce.cls := by
    have h9 := hO.cls
    rw [hvm] at h9
    exact h9
  have hall : s.sameButNew ({ U with vm := s.vm } : State) locs mc ms := by
    subst hA
    obtain ⟨e1, e2⟩ := hsame
    rw [State.setFrames_setFrames] at e1
    have h2 : (T.setVm s.vm).sameButNew ({ U with vm := s.vm } : State) [] (0 + 1) (0 + 6) := ⟨e1, e2⟩
    have h3 := X.same.trans h2
    rw [List.append_nil] at h3
    exact h3.mono hc hs
  refine ⟨U, ?_, .threw T.heap.size, hrun, hend, Or.inr ⟨T.heap.size, rfl, cls, ce, locs, hx U hWs.alike f1 (fun q hq => f2 q hq (fun z hz => nomatch hz)), hce, hO.vm, hcl, hWs, hall, hf⟩⟩
  refine st1 _ ?_
  show Steps p.tables e below (T1.setTop { method := m, pc := pc + 3, locals := ls, stack := .ref T.heap.size :: rest, locked := none }) _
  jvm_step X₁.here [X₁.here.top, hexec, d3', Value.category]
  exact X₁.ldcString hexec (own := own) (text := text) (index := is) (a := sa) hown' hstr'.1 hstr'.2
    (g := { method := m, pc := pc + 4, locals := ls, stack := .ref T.heap.size :: .ref T.heap.size :: rest, locked := none }) rfl d4' _ hsteps
/-- 'throw new E("text")', the text by a wide index -/
theorem vx_throwSW {cc : ByteArray} {pc : Nat} (hexec : p.tables.exec = Jvm.exec) (hb : c.code = cc) (hl : l.stackTraces = false) {own cls text : String} {names : List String} {ik is ic mc ms sa : Nat} {A : Nat → Prop}
    (hown : s.vm.findClass own = some m.cls) (hcls : Bundle.fit cls = true) (hnames : ∀ n ∈ names, Bundle.fit n = true)
    (hk : (Cond.classLink own ik cls).before args s = true) (hini : (Cond.initialized cls).before args s = true) (hstr : vk_R own is text sa s) (hat : ∀ w ∈ vx_atS own ic cls names, w.before args s = true)
    (hgood : ∀ w ∈ Cond.classLink own ik cls :: Cond.initialized cls :: vx_atS own ic cls names, vx_ot w = true)
    (hU : vx_Zq Bundle.tN "UNASSIGNED_STACK" Bundle.steD A s s.heap) (hN : vx_Zq Bundle.tN "SUPPRESSED_SENTINEL" Bundle.listD A s s.heap) (hS : va_S A s.heap H locs) (hsize : ls.size = c.maxLocals)
    (d0 : decode cc pc = .ok (.new ik, 3)) (d3 : decode cc (pc + 3) = .ok (.dup, 1)) (d4 : decode cc (pc + 4) = .ok (.ldc_w is, 3)) (d7 : decode cc (pc + 7) = .ok (.invokespecial ic, 3)) (d10 : decode cc (pc + 10) = .ok (.athrow, 1))
    (hout : ∀ x ∈ c.exceptionTable.toList, covers x (pc + 10) = false)
    (hRframes : names.length + 3 < R.frames) (hRlocals : (rest.map fun v => v.category).sum + (13 * (names.length + 1) + 43) ≤ R.locals) (hRcells : cells + 1 ≤ R.cells) (hRslots : slots + 6 ≤ R.slots) (hlocks : meth.locks = false)
    (hx : ∀ t : State, s.vm.Alike t.vm → H.size ≤ t.heap.size → (∀ q : Nat, q < H.size → t.heap[q]? = H[q]?) → XC cls s t)
    (hf : ∀ z ∈ locs, free z.base) (hc : cells + 1 ≤ mc) (hs : slots + 6 ≤ ms) :
    W p l e R s m args below meth c H locs cells slots (vx_MQ below Qc XC args s mc ms free) (F0 m pc ls rest) := by
  intro T hT X
  have htr : e.platform.stackTraces = false := (show e.platform.stackTraces = l.stackTraces by rw [X.admits.platform]).trans hl
  have Y := vx_rebase X (R' := { frames := R.frames, locals := R.locals, cells := 1, slots := 6 }) (Nat.le_refl _) (Nat.le_refl _) hRcells hRslots
  obtain ⟨s', hA⟩ : ∃ z, z = (T.setVm s.vm).setFrames (.invoking m args :: below) := ⟨_, rfl⟩
  rw [← hA] at Y
  have hvm : s'.vm = s.vm := by rw [hA]; rfl
  have hhp : s'.heap = H := by rw [hA]; exact hT
  have hW0 : s.WarmedH s'.vm := by rw [hvm]; exact State.WarmedH.refl s
  have hat' : ∀ w ∈ vx_atS own ic cls names, w.before args s' = true := fun w hw => vx_ot_at hW0 hvm.symm (hgood w (List.mem_cons_of_mem _ (List.mem_cons_of_mem _ hw))) (hat w hw)
  have hk' : (Cond.classLink own ik cls).before args s' = true := vx_ot_at hW0 hvm.symm (hgood _ List.mem_cons_self) hk
  have hini' : (Cond.initialized cls).before args s' = true := vx_ot_at hW0 hvm.symm (hgood _ (List.mem_cons_of_mem _ List.mem_cons_self)) hini
  have hU' : vx_Zq Bundle.tN "UNASSIGNED_STACK" Bundle.steD A s' s'.heap := by rw [hhp]; exact vx_Zq.moved hW0.alike (hU.kept hS.2.1)
  have hN' : vx_Zq Bundle.tN "SUPPRESSED_SENTINEL" Bundle.listD A s' s'.heap := by rw [hhp]; exact vx_Zq.moved hW0.alike (hN.kept hS.2.1)
  have h : ∀ w ∈ Bundle.ownAtoms own ic cls names, w.before args s' = true := vx_own hat' (vx_isRefq hU'.1) (vx_isRefq hN'.1) hU'.2.word hN'.2.word
  have hown' : s'.vm.findClass own = some m.cls := by rw [hvm]; exact hown
  have hins : (Cond.instantiable cls 6).before args s' = true := h _ (by simp [Bundle.ownAtoms])
  obtain ⟨vm₁, cX, kX, hfX, hkX, -, -, X₁, st1⟩ := Y.newCold hexec (own := own) (C := cls) (index := ik) (n := 6) hown' hk' hins hini'
    (g := F0 m pc ls rest) rfl (by rw [hb]; exact d0) (Nat.le_refl _) (Nat.le_refl _)
  generalize hT1 : (T.setVm vm₁).pushCell { cls := cX, slots := kX.instanceTypes.map defaultValue, vm := .none } = T1 at X₁ st1
  have hcat : (Value.ref T.heap.size).category = 1 := rfl
  have hcellA : T1.heap[T.heap.size]? = some (freshCell cX kX) := by rw [← hT1]; exact State.heap_pushCell_size _ _
  have d3' : decode c.code (pc + 3) = .ok (.dup, 1) := by rw [hb]; exact d3
  have d4' : decode c.code (pc + 4) = .ok (.ldc_w is, 3) := by rw [hb]; exact d4
  have hstr' : vk_R own is text sa s' := vk_R.warm hW0 hstr
  obtain ⟨U, hsteps, hrun, hend, hW, hsame, ce, hce, hO⟩ := X₁.ctorThrowS hexec htr (own := own) (cls := cls) (names := names) (ic := ic) hown' hcls hnames h (fun x hx => nomatch hx) hfX hkX hcellA (by rw [hhp, hT]; exact Nat.le_refl _) (msg := .ref sa) rfl
    (g := { method := m, pc := pc + 7, locals := ls, stack := .ref sa :: .ref T.heap.size :: .ref T.heap.size :: rest, locked := none }) rfl hsize rfl rfl (rest := rest) rfl
    (by rw [hb]; exact d7) (by rw [hb]; exact d10) hout hRframes (by simp only [List.map_cons, List.sum_cons, hcat]; omega) hlocks
  obtain ⟨f1, f2⟩ := vx_frame hsame
  rw [hhp] at f1 f2
  have hWs : s.WarmedH U.vm := State.WarmedH.trans hW0 hW
  have hcl : s.vm.findClass cls = some ce.cls := by
    have h9 := hO.cls
    rw [hvm] at h9
    exact h9
  have hall : s.sameButNew ({ U with vm := s.vm } : State) locs mc ms := by
    subst hA
    obtain ⟨e1, e2⟩ := hsame
    rw [State.setFrames_setFrames] at e1
    have h2 : (T.setVm s.vm).sameButNew ({ U with vm := s.vm } : State) [] (0 + 1) (0 + 6) := ⟨e1, e2⟩
    have h3 := X.same.trans h2
    rw [List.append_nil] at h3
    exact h3.mono hc hs
  refine ⟨U, ?_, .threw T.heap.size, hrun, hend, Or.inr ⟨T.heap.size, rfl, cls, ce, locs, hx U hWs.alike f1 (fun q hq => f2 q hq (fun z hz => nomatch hz)), hce, hO.vm, hcl, hWs, hall, hf⟩⟩
  refine st1 _ ?_
  show Steps p.tables e below (T1.setTop { method := m, pc := pc + 3, locals := ls, stack := .ref T.heap.size :: rest, locked := none }) _
  jvm_step X₁.here [X₁.here.top, hexec, d3', Value.category]
  exact X₁.ldcStringW hexec (own := own) (text := text) (index := is) (a := sa) hown' hstr'.1 hstr'.2
    (g := { method := m, pc := pc + 4, locals := ls, stack := .ref T.heap.size :: .ref T.heap.size :: rest, locked := none }) rfl d4' _ hsteps
end Ends
section Bodies
variable {l : Launch}
theorem vx_ofW {y : MethodName} {ws ws' : List Cond} {rm : Room} {Pc : Array Value → State → Prop} {Qc : Array Value → State → Outcome → State → Prop} {XC : String → State → State → Prop} {mc ms : Nat} {free : Addr → Prop} {cc : ByteArray} {maxL : Nat} {ret : Option FieldType}
    (hy : plainName y.cls = true) (hw : ws = Cond.code y cc maxL ret :: ws')
    (body : ∀ p e s m args below meth c s₁, BodyLoose p l y (headSpec ws rm) cc maxL ret e s m args below meth c s₁ → c.maxLocals = maxL → (∀ x ∈ c.exceptionTable.toList, False) → Pc args s →
      W p l e (headSpec ws rm).room s m args below meth c s.heap [] 0 0 (vx_MQ below Qc XC args s mc ms free) (entryFrame m args maxL)) : vx_Met l y ws rm Pc Qc XC mc ms free := by
  refine MetFree.of_bodyS (code := cc) (maxLocals := maxL) (ret := ret) hy ?_ ?_
  · intro args s m h hn
    obtain ⟨meth, c, h1, h2, h3, h4, h5, h6, -, -⟩ := Cond.code_spec hn (atoms_spec (ws := ws) h _ (by rw [hw]; exact List.mem_cons_self))
    exact ⟨meth, c, h1, h2, h3, h4, h5, h6⟩
  · intro p e s m args below meth c s₁ B hml hP _
    have hh0 : s₁.heap = s.heap := by rw [B.state]; rfl
    have ht : ∀ x ∈ c.exceptionTable.toList, False := by
      obtain ⟨meth9, c9, h1, h2, -, -, -, -, h7, -⟩ := Cond.code_spec B.named (atoms_spec (ws := ws) B.pre _ (by rw [hw]; exact List.mem_cons_self))
      cases Option.some.inj (h1.symm.trans B.method)
      cases Option.some.inj (h2.symm.trans (Stand.of_body B).code)
      intro x hx
      rw [Array.isEmpty_iff.mp h7] at hx
      cases hx
    obtain ⟨t, a1, o, b1, b2, b3⟩ := body p e s m args below meth c s₁ B hml ht hP s₁ hh0 (Stand.of_body B)
    exact ⟨t, o, a1, b1, b2, b3⟩
/-- the table of a body with handlers -/
theorem vx_table {p : Program} {x y : MethodName} {S : Spec} {cc bytes : ByteArray} {maxL maxL' : Nat} {ret ret' : Option FieldType} {e : Env} {s s₁ : State} {m : MethodId} {args : Array Value} {below : List Frame} {meth : Method} {c : Code} {hh : List (Nat × Nat × Nat × Nat)}
    (B : BodyLoose p l y S cc maxL ret e s m args below meth c s₁) (h : (Cond.codeWith y bytes maxL' ret' hh).before args s = true) : c.exceptionTable.toList = tableOf hh := by
  obtain ⟨m9, meth9, c9, hn9, h1, h2, -, -, h6, -⟩ := Cond.codeWith_spec h
  cases Option.some.inj (hn9.symm.trans B.named)
  cases Option.some.inj (h1.symm.trans B.method)
  cases Option.some.inj (h2.symm.trans (Stand.of_body B).code)
  rw [← h6, table_eq]
end Bodies
end VXA
/-! ===== END ===== -/
/-! ===== BEGIN a static call of a method with an exception table ===== -/
section VXS
variable {p : Program} {l : Launch} {e : Env} {R : Room} {s : State} {m : MethodId} {args : Array Value} {below : List Frame} {meth : Method} {c : Code} {T : State} {H : Heap} {locs : List Loc} {cells slots : Nat}
abbrev vx_CSW (R : Room) (s : State) (args : Array Value) (own : String) (index : Nat) (y : MethodName) (bytes : ByteArray) (maxL : Nat) (ret : Option FieldType) (hh : List (Nat × Nat × Nat × Nat)) (ws : List Cond) (rm : Room) (mc ms n : Nat) : Prop :=
  (rm.cells = mc ∧ rm.slots = ms ∧ rm.frames + 1 ≤ R.frames ∧ 8 + (maxL + 11) + rm.locals ≤ R.locals ∧ (∀ w ∈ ws, ∀ (a' : Array Value) (U : State), s.WarmedH U.vm → w.before a' U = true) ∧ Cond.codeWith y bytes maxL ret hh ∈ ws) ∧
  (Cond.codeWith y bytes maxL ret hh).before args s = true ∧ (Cond.initialized y.cls).before args s = true ∧ (y.cls ≠ "java/lang/invoke/MethodHandle" ∧ y.cls ≠ "java/lang/invoke/VarHandle") ∧
  (∀ sig, parseMethodDescriptor y.desc = some sig → n = sig.parameters.length) ∧ (Cond.methodLink own index y).before args s = true ∧ (Cond.static y).before args s = true
theorem vx_cwSW {own : String} {index maxL mc ms : Nat} {y : MethodName} {bytes : ByteArray} {ret : Option FieldType} {hh : List (Nat × Nat × Nat × Nat)} {Ts ws ws' : List Cond} {rm : Room} (n : Nat) (ht : ∀ w ∈ Ts, w.before args s = true) (hT : GoodIn Ts (va_wsS own index y ws)) (hw : ws = Cond.codeWith y bytes maxL ret hh :: ws') (hrc : rm.cells = mc) (hrs : rm.slots = ms)
    (hd : y.cls ≠ "java/lang/invoke/MethodHandle" ∧ y.cls ≠ "java/lang/invoke/VarHandle" ∧ (parseMethodDescriptor y.desc).map (fun d => d.parameters.length) = some n) (hR : rm.frames + 1 ≤ R.frames ∧ 8 + (maxL + 11) + rm.locals ≤ R.locals) :
    vx_CSW R s args own index y bytes maxL ret hh ws rm mc ms n := by
  have ok : ∀ w ∈ va_wsS own index y ws, w.before args s = true := fun w h => ht w (hT w h).1
  have hG : GoodIn Ts ws := fun w h => hT w (by unfold va_wsS; exact List.mem_append_right _ h)
  have hc : Cond.codeWith y bytes maxL ret hh ∈ ws := by rw [hw]; exact List.mem_cons_self
  refine ⟨⟨hrc, hrs, hR.1, hR.2, pay_in ht hG, hc⟩, ht _ (hG _ hc).1, ok _ (by simp [va_wsS]), ⟨hd.1, hd.2.1⟩, fun sig h => ?_, ok _ (by simp [va_wsS]), ok _ (by simp [va_wsS])⟩
  have h2 := hd.2.2
  rw [h] at h2
  exact (Option.some.inj h2).symm
theorem vx_callSW (X : Stand p l e R s m args below meth c T locs cells slots) (hexec : p.tables.exec = Jvm.exec) {own : String} {index : Nat} {y : MethodName} {bytes : ByteArray} {maxL : Nat} {ret : Option FieldType} {hh : List (Nat × Nat × Nat × Nat)}
    (hown : s.vm.findClass own = some m.cls) (hlink : (Cond.methodLink own index y).before args s = true) (hstat : (Cond.static y).before args s = true) (hinit : (Cond.initialized y.cls).before args s = true)
    (hcode : (Cond.codeWith y bytes maxL ret hh).before args s = true) (hy : y.cls ≠ "java/lang/invoke/MethodHandle" ∧ y.cls ≠ "java/lang/invoke/VarHandle")
    {W9 : Nat} {Pre : Pt → Array Value → Prop} {Post : Pt → Array Value → Option Value → Pt → Prop} (hK : Back l R p e below s args y 3 W9 Pre Post)
    {g : JFrame} (hg : g.method = m) (hsize : g.locals.size = c.maxLocals) {argsL rest : List Value} (hlen : ∀ sig, parseMethodDescriptor y.desc = some sig → argsL.length = sig.parameters.length)
    (hstack : g.stack = argsL.reverse ++ rest) (hW : 2 * g.monitorRoom + (rest.map fun v => v.category).sum ≤ W9) (hdg : decode c.code g.pc = .ok (.invokestatic index, 3))
    (hpre : ∀ vm₁, s.WarmedH vm₁ → Pre ⟨T.setVm vm₁, locs, cells, slots⟩ argsL.toArray) :
    ∃ (v : Option Value) (vm₁ : Vm) (B : Pt), s.WarmedH vm₁ ∧ Stand p l e R s m args below meth c B.U B.locs B.cells B.slots ∧ Post ⟨T.setVm vm₁, locs, cells, slots⟩ argsL.toArray v B ∧
      ∀ target, Steps p.tables e below (B.U.setTop { g with pc := g.pc + 3, stack := v.toList ++ rest }) target → Steps p.tables e below (T.setTop g) target := by
  obtain ⟨mk, methM, cM, hnamed, hmethM, -, -, -, -, -, -, hsigM⟩ := Cond.codeWith_spec hcode
  have hstatic : methM.isStatic = true := Cond.static_spec hnamed hmethM hstat
  obtain ⟨kP, hkP, -⟩ := className_of_methodNamed hnamed
  have hinitP : kP.init = .initialized := Cond.initialized_spec (findClass_of_methodNamed hnamed) hkP hinit
  obtain ⟨vm₁, X₁, hstep₁⟩ := X.invokestatic hexec hown hlink hnamed hmethM hstatic hkP hinitP hy (g := g) hg (argsL := argsL) (rest := rest) (hlen _ hsigM) hstack hdg
  obtain ⟨v, B, X', hpost, hsteps⟩ := hK m meth c ⟨T.setVm vm₁, locs, cells, slots⟩ { g with stack := rest } (.invokestatic index) mk argsL.toArray X₁ hg hsize hdg hW (X₁.named hnamed) (hpre vm₁ X₁.warmed)
  exact ⟨v, vm₁, B, X₁.warmed, X', hpost, fun target h => hstep₁ _ fun acts => by rw [doInvoke_state]; exact hsteps.trans h⟩
theorem vx_runSW {y : MethodName} {bytes cc : ByteArray} {maxL nL mc ms n index : Nat} {ret : Option FieldType} {hh : List (Nat × Nat × Nat × Nat)} {ws : List Cond} {rm : Room} {Pc : Array Value → State → Prop} {Qc : Array Value → State → Outcome → State → Prop} {free : Addr → Prop} {Ts : List Cond} {own : String} {As rest : List Value} {g : JFrame}
    (S : CallFix p m c cc nL s args Ts own) (hM : Met l y ws rm Pc Qc mc ms free) (cw : vx_CSW R s args own index y bytes maxL ret hh ws rm mc ms n) (hp : PreS s H Pc As)
    (hg : g.method = m) (hn : As.length = n) (hsize : g.locals.size = nL) (hstack : g.stack = As.reverse ++ rest) (hW : 2 * g.monitorRoom + (rest.map fun v => v.category).sum ≤ 8) (hdg : decode cc g.pc = .ok (.invokestatic index, 3)) (hf : cells + mc ≤ R.cells ∧ slots + ms ≤ R.slots) :
    va_Run p l e R s m args below meth c H locs cells slots mc ms g rest (Qc As.toArray) (free) := by
  obtain ⟨⟨hrc, hrs, hfr, hlo, hws, hcw⟩, hcode, hini, hy, hlen, hl, hstt⟩ := cw
  have hK : Back l R p e below s args y 3 8 (PreOf R mc ms Pc) (PostOf Qc mc ms free) := va_backW (hh := hh) (bytes := bytes) (maxL := maxL) (ret := ret) hM hp.1 hrc hrs hfr hlo hws hcw (fun a' U hW => word_at hW (Or.inl (by first | rfl | simp [Cond.onTables, Cond.keeps, Cond.steady])) hini)
  obtain ⟨hx, hb, hml, ho, -⟩ := S
  intro T hT X
  obtain ⟨v, vm₁, ⟨U', l2, c2, s2⟩, hW₁, X', ⟨g', mk, t, L, e1, e2, hq, h1, hL, h2, h3⟩, st⟩ := vx_callSW X hx (hh := hh) (bytes := bytes) (maxL := maxL) (ret := ret) ho hl hstt hini hcode hy hK hg (hsize.trans hml.symm) (argsL := As) (rest := rest) (fun sig h => hn.trans (hlen sig h)) hstack hW (by rw [hb]; exact hdg)
    (fun vm₁ hW₁ => ⟨hf.1, hf.2, hp.2 (T.setVm vm₁) hT hW₁⟩)
  dsimp only [Pt.U, Pt.locs, Pt.cells, Pt.slots] at X' e1 e2 h1 h2 h3 st
  subst h1; subst h2; subst h3
  exact ⟨v, (T.setVm vm₁).calling g' mk As.toArray, t, U', L, hT, X', hL, e1, e2, hq, st⟩
/-- not caught here, past rows that name other classes: it goes on to the caller -/
theorem vx_outP {p : Program} {l : Launch} {e : Env} {R : Room} {s : State} {m : MethodId} {args : Array Value} {below : List Frame} {meth : Method} {c : Code} {H : Heap} {locs : List Loc} {cells slots : Nat} {free : Addr → Prop} {ls : Array Slot} {rest : List Value} {Qc : Array Value → State → Outcome → State → Prop} {XC : String → State → State → Prop}
    {pc : Nat} {own E : String} {ce : Cell} {q : Addr} {mc ms : Nat} (hown : s.vm.findClass own = some m.cls) (hlocks : meth.locks = false)
    (hpass : ∀ z ∈ c.exceptionTable.toList, covers z pc = false ∨ (z.catchType ≠ 0 ∧ ∃ nm : String, (Cond.classLink own z.catchType nm).before args s = true ∧ va_Nc E nm s)) (hcell : H[q]? = some ce) (hv : ce.vm = .none) (hcl : s.vm.findClass E = some ce.cls)
    (hx : ∀ t : State, t.heap = H → s.vm.Alike t.vm → XC E s t) (hf : ∀ z ∈ locs, free z.base) (hc : cells ≤ mc) (hs : slots ≤ ms) :
    vx_W p l e R s m args below meth c H locs cells slots (vx_MQ below Qc XC args s mc ms free) (F0 m pc ls rest) q := by
  intro T hT X
  have hpl : e.platform.magicAccessors = ({} : Platform).magicAccessors := by rw [X.admits.platform]
  obtain ⟨vm', hW', X', st⟩ := X.outThrough hlocks q (g := F0 m pc ls rest) rfl rfl rfl (cell := ce) (by rw [hT]; exact hcell) (by rw [hv]; rfl)
    (by obtain ⟨k9, h9, -⟩ := Vm.findClass_spec hcl; exact ⟨k9, h9⟩) (fun z hz => by
      rcases hpass z hz with h | ⟨hz0, nm, hl1, hn1⟩
      · exact Or.inl h
      · obtain ⟨c6, hc6, hcl6⟩ := Cond.classLink_spec hown hl1 e.platform hpl
        obtain ⟨a8, b8, h1, h2, h3⟩ := hn1
        cases Option.some.inj (h1.symm.trans hcl)
        cases Option.some.inj (h2.symm.trans hc6)
        exact Or.inr ⟨hz0, _, hcl6, h3⟩)
  obtain ⟨g₀, hfr⟩ := X'.frames_eq
  have hcell9 : ((T.setVm vm').setFrames (.throwing q :: below)).heap[q]? = some ce := by
    show T.heap[q]? = some ce
    rw [hT]; exact hcell
  have hend : Ended ((T.setVm vm').setFrames (.throwing q :: below)) below (.threw q) := State.frames_setFrames _ (State.cur_lt_of_frames hfr)
  refine ⟨(T.setVm vm').setFrames (.throwing q :: below), ?_, .threw q, X'.here.running, hend, Or.inr ⟨q, rfl, E, ce, locs, hx _ hT (X'.ends _).1.alike, hcell9, hv, hcl, (X'.ends _).1, (X'.ends _).2.mono hc hs, hf⟩⟩
  rw [X.pushThrowing_eq]
  exact st
/-- a thing of a world lies in the heap -/
theorem vx_lt {D : va_G} {cl : List vw_C} {ws : va_W} {H1 : Heap} (h : va_P D cl ws H1) {k : Nat} {q : Nat × va_E} (hk : ws[k]? = some q) : q.1 < H1.size := (h k q hk).lt
end VXS
/-! ===== END ===== -/
/-! ===== BEGIN methods with a table of their own: called by a name, returning or throwing ===== -/
section VXH
/-! vx_backW, vx_callVX, vx_callSX, vx_callVW, vx_runVW, vx_runVX, vx_runSX, vx_ofWH follow the same proofs as their sisters above (Free/Laws.lean, Shelf42/LK1.lean); vx_outP calls Shelf42/NT130.lean (outThrough). -/
section
variable {l : Launch} {R : Room} {p : Program} {e : Env} {below : List Frame} {s : State} {sargs : Array Value} {y : MethodName} {len W9 : Nat}
theorem vx_backW {ws : List Cond} {rm : Room} {Pc : Array Value → State → Prop} {Qc : Array Value → State → Outcome → State → Prop} {XC : String → State → State → Prop} {mc ms : Nat} {free : Addr → Prop} {bytes : ByteArray} {maxL : Nat} {ret : Option FieldType} {hh : List (Nat × Nat × Nat × Nat)}
    (hM : vx_Met l y ws rm Pc Qc XC mc ms free) (hblind : FrameBlind Pc) (hrc : rm.cells = mc) (hrs : rm.slots = ms)
    (hframes : rm.frames + 1 ≤ R.frames) (hlocals : W9 + (maxL + 11) + rm.locals ≤ R.locals)
    (hws : ∀ w ∈ ws, ∀ a' U, s.WarmedH U.vm → w.before a' U = true) (hcode : Cond.codeWith y bytes maxL ret hh ∈ ws) (hinit : ∀ a' U, s.WarmedH U.vm → (Cond.initialized y.cls).before a' U = true) :
    vx_Back l R p e below s sargs y len W9 (PreOf R mc ms Pc) (PostOf Qc mc ms free) (vx_Post XC mc ms free) := by
  intro m meth c A g ig mk a X hg hsize hdg hW hn hp
  have h1 : (headSpec ws rm).pre.before a A.U = true := atoms_intro fun w hw => hws w hw _ _ X.warmed
  have h2 : (Cond.codeWith y bytes maxL ret hh).before a A.U = true := hws _ hcode _ _ X.warmed
  have h3 : (Cond.initialized y.cls).before a A.U = true := hinit _ _ X.warmed
  have h4 : A.cells + (headSpec ws rm).room.cells ≤ R.cells := by rw [show (headSpec ws rm).room.cells = mc from hrc]; exact hp.1
  have h5 : A.slots + (headSpec ws rm).room.slots ≤ R.slots := by rw [show (headSpec ws rm).room.slots = ms from hrs]; exact hp.2.1
  have hPc : Pc a (A.U.calling g mk a) := hblind _ _ _ _ hp.2.2
  obtain ⟨U, Ls, c0, s0⟩ := A
  dsimp only [Pt.U, Pt.locs, Pt.cells, Pt.slots] at h1 h2 h3 h4 h5 X hn hPc ⊢
  obtain ⟨m9, methY, cY, hn9, hmY, hcY, -, hlY, -⟩ := Cond.codeWith_spec h2
  cases Option.some.inj (hn9.symm.trans hn)
  obtain ⟨kY, hkY, -⟩ := className_of_methodNamed hn
  have hinitY : kY.init = .initialized := Cond.initialized_spec (findClass_of_methodNamed hn) hkY h3
  have h : At U g.method c below := by rw [hg]; exact X.here
  have hlocals9 : W9 + (maxL + 11) + (headSpec ws rm).room.locals ≤ R.locals := hlocals
  have happ : (headSpec ws rm).appliesLoose y e.platform (U.calling g mk a) = true :=
    Spec.appliesLoose_calling (g := g) h hdg hn hkY hinitY
      (X.room_calling (g := g) (R' := (headSpec ws rm).room) hsize hmY hcY hframes (by rw [hlY]; omega) h4 h5) h1
  obtain ⟨mid, hmid⟩ := h.above
  have hfr : (U.setTop g).frames = (.java g :: mid) ++ below := by rw [State.frames_setTop' g h.top, hmid]; rfl
  obtain ⟨o, s₂, hsteps, -, hend, hq⟩ := Steps.callFree hM p X.admits X.cas X.clock (acts := []) hfr happ hPc trivial
  have hq' : vx_Q Qc XC mc ms free a (U.calling g mk a) o s₂ := hq
  rw [State.frames_setTop' g h.top] at hend
  obtain ⟨g₀, hg0⟩ := Option.isSome_iff_exists.mp h.top
  obtain ⟨r, hr⟩ := State.topJava?_eq_some.mp hg0
  have hr' : (({ U with heap := s₂.heap, slotsUsed := s₂.slotsUsed } : State).setVm s₂.vm).frames = .java g₀ :: r := hr
  rcases hq' with ⟨hqc, L, hfe, hL⟩ | ⟨q, rfl, E, ce, L, hx, hce, hcv, hcl, hW₂, hsm, hL⟩
  · obtain ⟨⟨v, rfl⟩, hW₂, e2, q2, q3, q4, q5, q6⟩ := id hfe
    have e3 : s₂ = ({ (U.calling g mk a).setFrames s₂.frames with heap := s₂.heap, slotsUsed := s₂.slotsUsed } : State).setVm s₂.vm := by
      have : s₂ = ({ s₂ with vm := (U.calling g mk a).vm } : State).setVm s₂.vm := rfl
      rw [e2] at this
      exact this
    obtain ⟨c₂, i₂, len₂, hc₂, hd₂, hf₂⟩ := hend
    have hW' : U.WarmedH s₂.vm := hW₂
    have hcc : c₂ = c := by
      have h1 : s₂.code? g.method = U.code? g.method := by
        rw [State.code?_eq, State.code?_eq, hW'.alike.method?]
      exact Option.some.inj (hc₂.symm.trans (h1.trans h.code))
    subst hcc
    have hlen : len₂ = len := by rw [hdg] at hd₂; cases hd₂; rfl
    subst hlen
    have hs₂ : s₂ = (({ U with heap := s₂.heap, slotsUsed := s₂.slotsUsed } : State).setVm s₂.vm).setTop { g with pc := g.pc + len₂, stack := v.toList ++ g.stack } := by
      refine e3.trans ?_
      rw [hf₂, State.calling_eq h.top, State.setFrames_setFrames, State.setTop_of_frames _ hr', hr]
      rfl
    have hsame : U.sameButNew ({ U with heap := s₂.heap, slotsUsed := s₂.slotsUsed } : State) L mc ms := by
      refine ⟨?_, q2, q3, q4, q5, q6⟩
      obtain ⟨t, ht, -⟩ := State.frames_cons hr
      show ({ U with heap := s₂.heap, slotsUsed := s₂.slotsUsed } : State) = { U.setFrames U.frames with heap := s₂.heap, slotsUsed := s₂.slotsUsed }
      rw [State.setFrames_self ht]
    subst hg
    refine Or.inl ⟨v, ⟨(({ U with heap := s₂.heap, slotsUsed := s₂.slotsUsed } : State).setVm s₂.vm), Ls ++ L, c0 + mc, s0 + ms⟩,
      ⟨X.admits, X.cas, X.clock, X.frames, X.room, X.hears, X.method, X.code, (X.here.setHeapUsed s₂.heap s₂.slotsUsed).setVm hW'.alike, X.tail, State.WarmedH.trans X.warmed hW', X.limits, X.bytes, X.same.trans (hsame.setVm s.vm)⟩,
      ⟨g, mk, s₂, L, rfl, rfl, hqc, rfl, hL, rfl, rfl⟩, ?_⟩
    show Steps p.tables e below _ ((({ U with heap := s₂.heap, slotsUsed := s₂.slotsUsed } : State).setVm s₂.vm).setTop { g with pc := g.pc + len₂, stack := v.toList ++ g.stack })
    rw [← hs₂]
    exact hsteps
  · obtain ⟨e2, q2, q3, q4, q5, q6⟩ := id hsm
    have e3 : s₂ = ({ (U.calling g mk a).setFrames s₂.frames with heap := s₂.heap, slotsUsed := s₂.slotsUsed } : State).setVm s₂.vm := by
      have : s₂ = ({ s₂ with vm := (U.calling g mk a).vm } : State).setVm s₂.vm := rfl
      rw [e2] at this
      exact this
    have hf₂ : s₂.frames = .throwing q :: .java g :: U.frames.tail := hend
    have hW' : U.WarmedH s₂.vm := hW₂
    have hs₂ : s₂ = ((({ U with heap := s₂.heap, slotsUsed := s₂.slotsUsed } : State).setVm s₂.vm).setTop g).pushFrame (.throwing q) := by
      refine e3.trans ?_
      rw [hf₂, State.calling_eq h.top, State.setFrames_setFrames, State.pushFrame, State.frames_setTop _ hr', State.setTop_of_frames _ hr', State.setFrames_setFrames, hr]
      rfl
    have hsame : U.sameButNew ({ U with heap := s₂.heap, slotsUsed := s₂.slotsUsed } : State) L mc ms := by
      refine ⟨?_, q2, q3, q4, q5, q6⟩
      obtain ⟨t, ht, -⟩ := State.frames_cons hr
      show ({ U with heap := s₂.heap, slotsUsed := s₂.slotsUsed } : State) = { U.setFrames U.frames with heap := s₂.heap, slotsUsed := s₂.slotsUsed }
      rw [State.setFrames_self ht]
    subst hg
    refine Or.inr ⟨q, ⟨(({ U with heap := s₂.heap, slotsUsed := s₂.slotsUsed } : State).setVm s₂.vm), Ls ++ L, c0 + mc, s0 + ms⟩,
      ⟨X.admits, X.cas, X.clock, X.frames, X.room, X.hears, X.method, X.code, (X.here.setHeapUsed s₂.heap s₂.slotsUsed).setVm hW'.alike, X.tail, State.WarmedH.trans X.warmed hW', X.limits, X.bytes, X.same.trans (hsame.setVm s.vm)⟩,
      ⟨g, mk, s₂, L, E, ce, rfl, rfl, hx, hce, hcv, hcl, rfl, hL, rfl, rfl⟩, ?_⟩
    show Steps p.tables e below _ (((({ U with heap := s₂.heap, slotsUsed := s₂.slotsUsed } : State).setVm s₂.vm).setTop g).pushFrame (.throwing q))
    rw [← hs₂]
    exact hsteps
end
variable {p : Program} {l : Launch} {e : Env} {R : Room} {s : State} {m : MethodId} {args : Array Value} {below : List Frame} {meth : Method} {c : Code} {T : State} {H : Heap} {locs : List Loc} {cells slots : Nat}
theorem vx_callVX (X : Stand p l e R s m args below meth c T locs cells slots) (hexec : p.tables.exec = Jvm.exec) {own C : String} {index : Nat} {y : MethodName} {bytes : ByteArray} {maxL : Nat} {ret : Option FieldType} {hh : List (Nat × Nat × Nat × Nat)}
    (hown : s.vm.findClass own = some m.cls) (hlink : (Cond.methodLink own index y).before args s = true) (hinst : (Cond.instanceMethod y).before args s = true) (hsel : (Cond.selects C y y).before args s = true)
    (hcode : (Cond.codeWith y bytes maxL ret hh).before args s = true) (hy : y.cls ≠ "java/lang/invoke/MethodHandle" ∧ y.cls ≠ "java/lang/invoke/VarHandle")
    {W9 : Nat} {Pre : Pt → Array Value → Prop} {Post : Pt → Array Value → Option Value → Pt → Prop} {PostX : Pt → Array Value → Addr → Pt → Prop} (hK : vx_Back l R p e below s args y 3 W9 Pre Post PostX)
    {b : Addr} {cellB : Cell} (hcell : T.heap[b]? = some cellB) (hobj : cellB.vm.isStatics = false) (hcls : s.vm.findClass C = some cellB.cls)
    {g : JFrame} (hg : g.method = m) (hsize : g.locals.size = c.maxLocals) {argsL rest : List Value} (hlen : ∀ sig, parseMethodDescriptor y.desc = some sig → argsL.length = sig.parameters.length)
    (hstack : g.stack = argsL.reverse ++ .ref b :: rest) (hW : 2 * g.monitorRoom + (rest.map fun v => v.category).sum ≤ W9) (hdg : decode c.code g.pc = .ok (.invokevirtual index, 3))
    (hpre : ∀ vm₁, s.WarmedH vm₁ → Pre ⟨T.setVm vm₁, locs, cells, slots⟩ (Value.ref b :: argsL).toArray) :
    (∃ (v : Option Value) (vm₁ : Vm) (B : Pt), s.WarmedH vm₁ ∧ Stand p l e R s m args below meth c B.U B.locs B.cells B.slots ∧ Post ⟨T.setVm vm₁, locs, cells, slots⟩ (Value.ref b :: argsL).toArray v B ∧
      ∀ target, Steps p.tables e below (B.U.setTop { g with pc := g.pc + 3, stack := v.toList ++ rest }) target → Steps p.tables e below (T.setTop g) target) ∨
    (∃ (q : Addr) (vm₁ : Vm) (B : Pt), s.WarmedH vm₁ ∧ Stand p l e R s m args below meth c B.U B.locs B.cells B.slots ∧ PostX ⟨T.setVm vm₁, locs, cells, slots⟩ (Value.ref b :: argsL).toArray q B ∧
      Steps p.tables e below (T.setTop g) ((B.U.setTop { g with stack := rest }).pushFrame (.throwing q))) := by
  obtain ⟨mk, methM, hnamed, hmethM, hstM, habM⟩ := Cond.instanceMethod_spec hinst
  obtain ⟨m8, methM', cM, hn8, hmethM', -, -, -, -, -, -, hsigM⟩ := Cond.codeWith_spec hcode
  cases Option.some.inj (hn8.symm.trans hnamed)
  cases hmethM.symm.trans hmethM'
  obtain ⟨c2, r2, m2, q1, q2, q3, q4, kP, hkP, hkPi⟩ := Cond.selects_spec hsel
  cases hcls.symm.trans q1
  cases (State.methodFound?_of_named hnamed hy).symm.trans q2
  cases hnamed.symm.trans q3
  have hselP : selectMethod e.platform s.vm cellB.cls mk = .method mk := by rw [Launch.admits_selectMethod X.admits]; exact q4
  obtain ⟨vm₁, X₁, hstep₁⟩ := X.invokevirtual hexec hown hlink hnamed hmethM hstM hkP hkPi hy (a := b) (cell := cellB) hcell
    (fun z h => by rw [h] at hobj; cases hobj) hselP hmethM habM hkP hkPi (g := g) hg (argsL := argsL) (rest := rest) (hlen _ hsigM) hstack hdg
  rcases hK m meth c ⟨T.setVm vm₁, locs, cells, slots⟩ { g with stack := rest } (.invokevirtual index) mk (Value.ref b :: argsL).toArray X₁ hg hsize hdg hW (X₁.named hnamed) (hpre vm₁ X₁.warmed) with ⟨v, B, X', hpost, hsteps⟩ | ⟨q, B, X', hpost, hsteps⟩
  · exact Or.inl ⟨v, vm₁, B, X₁.warmed, X', hpost, fun target h => hstep₁ _ fun acts => by rw [doInvoke_state]; exact hsteps.trans h⟩
  · exact Or.inr ⟨q, vm₁, B, X₁.warmed, X', hpost, hstep₁ _ fun acts => by rw [doInvoke_state]; exact hsteps⟩
theorem vx_callSX (X : Stand p l e R s m args below meth c T locs cells slots) (hexec : p.tables.exec = Jvm.exec) {own : String} {index : Nat} {y : MethodName} {bytes : ByteArray} {maxL : Nat} {ret : Option FieldType} {hh : List (Nat × Nat × Nat × Nat)}
    (hown : s.vm.findClass own = some m.cls) (hlink : (Cond.methodLink own index y).before args s = true) (hstat : (Cond.static y).before args s = true) (hinit : (Cond.initialized y.cls).before args s = true)
    (hcode : (Cond.codeWith y bytes maxL ret hh).before args s = true) (hy : y.cls ≠ "java/lang/invoke/MethodHandle" ∧ y.cls ≠ "java/lang/invoke/VarHandle")
    {W9 : Nat} {Pre : Pt → Array Value → Prop} {Post : Pt → Array Value → Option Value → Pt → Prop} {PostX : Pt → Array Value → Addr → Pt → Prop} (hK : vx_Back l R p e below s args y 3 W9 Pre Post PostX)
    {g : JFrame} (hg : g.method = m) (hsize : g.locals.size = c.maxLocals) {argsL rest : List Value} (hlen : ∀ sig, parseMethodDescriptor y.desc = some sig → argsL.length = sig.parameters.length)
    (hstack : g.stack = argsL.reverse ++ rest) (hW : 2 * g.monitorRoom + (rest.map fun v => v.category).sum ≤ W9) (hdg : decode c.code g.pc = .ok (.invokestatic index, 3))
    (hpre : ∀ vm₁, s.WarmedH vm₁ → Pre ⟨T.setVm vm₁, locs, cells, slots⟩ argsL.toArray) :
    (∃ (v : Option Value) (vm₁ : Vm) (B : Pt), s.WarmedH vm₁ ∧ Stand p l e R s m args below meth c B.U B.locs B.cells B.slots ∧ Post ⟨T.setVm vm₁, locs, cells, slots⟩ argsL.toArray v B ∧
      ∀ target, Steps p.tables e below (B.U.setTop { g with pc := g.pc + 3, stack := v.toList ++ rest }) target → Steps p.tables e below (T.setTop g) target) ∨
    (∃ (q : Addr) (vm₁ : Vm) (B : Pt), s.WarmedH vm₁ ∧ Stand p l e R s m args below meth c B.U B.locs B.cells B.slots ∧ PostX ⟨T.setVm vm₁, locs, cells, slots⟩ argsL.toArray q B ∧
      Steps p.tables e below (T.setTop g) ((B.U.setTop { g with stack := rest }).pushFrame (.throwing q))) := by
  obtain ⟨mk, methM, cM, hnamed, hmethM, -, -, -, -, -, -, hsigM⟩ := Cond.codeWith_spec hcode
  have hstatic : methM.isStatic = true := Cond.static_spec hnamed hmethM hstat
  obtain ⟨kP, hkP, -⟩ := className_of_methodNamed hnamed
  have hinitP : kP.init = .initialized := Cond.initialized_spec (findClass_of_methodNamed hnamed) hkP hinit
  obtain ⟨vm₁, X₁, hstep₁⟩ := X.invokestatic hexec hown hlink hnamed hmethM hstatic hkP hinitP hy (g := g) hg (argsL := argsL) (rest := rest) (hlen _ hsigM) hstack hdg
  rcases hK m meth c ⟨T.setVm vm₁, locs, cells, slots⟩ { g with stack := rest } (.invokestatic index) mk argsL.toArray X₁ hg hsize hdg hW (X₁.named hnamed) (hpre vm₁ X₁.warmed) with ⟨v, B, X', hpost, hsteps⟩ | ⟨q, B, X', hpost, hsteps⟩
  · exact Or.inl ⟨v, vm₁, B, X₁.warmed, X', hpost, fun target h => hstep₁ _ fun acts => by rw [doInvoke_state]; exact hsteps.trans h⟩
  · exact Or.inr ⟨q, vm₁, B, X₁.warmed, X', hpost, hstep₁ _ fun acts => by rw [doInvoke_state]; exact hsteps⟩
theorem vx_callVW (X : Stand p l e R s m args below meth c T locs cells slots) (hexec : p.tables.exec = Jvm.exec) {own C : String} {index : Nat} {y : MethodName} {bytes : ByteArray} {maxL : Nat} {ret : Option FieldType} {hh : List (Nat × Nat × Nat × Nat)}
    (hown : s.vm.findClass own = some m.cls) (hlink : (Cond.methodLink own index y).before args s = true) (hinst : (Cond.instanceMethod y).before args s = true) (hsel : (Cond.selects C y y).before args s = true)
    (hcode : (Cond.codeWith y bytes maxL ret hh).before args s = true) (hy : y.cls ≠ "java/lang/invoke/MethodHandle" ∧ y.cls ≠ "java/lang/invoke/VarHandle")
    {W9 : Nat} {Pre : Pt → Array Value → Prop} {Post : Pt → Array Value → Option Value → Pt → Prop} (hK : Back l R p e below s args y 3 W9 Pre Post)
    {b : Addr} {cellB : Cell} (hcell : T.heap[b]? = some cellB) (hobj : cellB.vm.isStatics = false) (hcls : s.vm.findClass C = some cellB.cls)
    {g : JFrame} (hg : g.method = m) (hsize : g.locals.size = c.maxLocals) {argsL rest : List Value} (hlen : ∀ sig, parseMethodDescriptor y.desc = some sig → argsL.length = sig.parameters.length)
    (hstack : g.stack = argsL.reverse ++ .ref b :: rest) (hW : 2 * g.monitorRoom + (rest.map fun v => v.category).sum ≤ W9) (hdg : decode c.code g.pc = .ok (.invokevirtual index, 3))
    (hpre : ∀ vm₁, s.WarmedH vm₁ → Pre ⟨T.setVm vm₁, locs, cells, slots⟩ (Value.ref b :: argsL).toArray) :
    ∃ (v : Option Value) (vm₁ : Vm) (B : Pt), s.WarmedH vm₁ ∧ Stand p l e R s m args below meth c B.U B.locs B.cells B.slots ∧ Post ⟨T.setVm vm₁, locs, cells, slots⟩ (Value.ref b :: argsL).toArray v B ∧
      ∀ target, Steps p.tables e below (B.U.setTop { g with pc := g.pc + 3, stack := v.toList ++ rest }) target → Steps p.tables e below (T.setTop g) target := by
  obtain ⟨mk, methM, hnamed, hmethM, hstM, habM⟩ := Cond.instanceMethod_spec hinst
  obtain ⟨m8, methM', cM, hn8, hmethM', -, -, -, -, -, -, hsigM⟩ := Cond.codeWith_spec hcode
  cases Option.some.inj (hn8.symm.trans hnamed)
  cases hmethM.symm.trans hmethM'
  obtain ⟨c2, r2, m2, q1, q2, q3, q4, kP, hkP, hkPi⟩ := Cond.selects_spec hsel
  cases hcls.symm.trans q1
  cases (State.methodFound?_of_named hnamed hy).symm.trans q2
  cases hnamed.symm.trans q3
  have hselP : selectMethod e.platform s.vm cellB.cls mk = .method mk := by rw [Launch.admits_selectMethod X.admits]; exact q4
  obtain ⟨vm₁, X₁, hstep₁⟩ := X.invokevirtual hexec hown hlink hnamed hmethM hstM hkP hkPi hy (a := b) (cell := cellB) hcell
    (fun z h => by rw [h] at hobj; cases hobj) hselP hmethM habM hkP hkPi (g := g) hg (argsL := argsL) (rest := rest) (hlen _ hsigM) hstack hdg
  obtain ⟨v, B, X', hpost, hsteps⟩ := hK m meth c ⟨T.setVm vm₁, locs, cells, slots⟩ { g with stack := rest } (.invokevirtual index) mk (Value.ref b :: argsL).toArray X₁ hg hsize hdg hW (X₁.named hnamed) (hpre vm₁ X₁.warmed)
  exact ⟨v, vm₁, B, X₁.warmed, X', hpost, fun target h => hstep₁ _ fun acts => by rw [doInvoke_state]; exact hsteps.trans h⟩
abbrev vx_CVW (R : Room) (s : State) (args : Array Value) (own C : String) (index : Nat) (y : MethodName) (bytes : ByteArray) (maxL : Nat) (ret : Option FieldType) (hh : List (Nat × Nat × Nat × Nat)) (ws : List Cond) (rm : Room) (mc ms n : Nat) : Prop :=
  (rm.cells = mc ∧ rm.slots = ms ∧ rm.frames + 1 ≤ R.frames ∧ 8 + (maxL + 11) + rm.locals ≤ R.locals ∧ (∀ w ∈ ws, ∀ (a' : Array Value) (U : State), s.WarmedH U.vm → w.before a' U = true) ∧ Cond.codeWith y bytes maxL ret hh ∈ ws) ∧
  (Cond.codeWith y bytes maxL ret hh).before args s = true ∧ (Cond.initialized y.cls).before args s = true ∧ (y.cls ≠ "java/lang/invoke/MethodHandle" ∧ y.cls ≠ "java/lang/invoke/VarHandle") ∧
  (∀ sig, parseMethodDescriptor y.desc = some sig → n = sig.parameters.length) ∧ (Cond.methodLink own index y).before args s = true ∧ (Cond.instanceMethod y).before args s = true ∧ (Cond.selects C y y).before args s = true
theorem vx_cwVW {own C : String} {index maxL mc ms : Nat} {y : MethodName} {bytes : ByteArray} {ret : Option FieldType} {hh : List (Nat × Nat × Nat × Nat)} {Ts ws ws' : List Cond} {rm : Room} (n : Nat) (ht : ∀ w ∈ Ts, w.before args s = true) (hT : GoodIn Ts (wsV own index C y ws)) (hw : ws = Cond.codeWith y bytes maxL ret hh :: ws') (hrc : rm.cells = mc) (hrs : rm.slots = ms)
    (hd : y.cls = C ∧ y.cls ≠ "java/lang/invoke/MethodHandle" ∧ y.cls ≠ "java/lang/invoke/VarHandle" ∧ (parseMethodDescriptor y.desc).map (fun d => d.parameters.length) = some n) (hR : rm.frames + 1 ≤ R.frames ∧ 8 + (maxL + 11) + rm.locals ≤ R.locals) :
    vx_CVW R s args own C index y bytes maxL ret hh ws rm mc ms n := by
  obtain ⟨hC, hd⟩ := hd
  subst hC
  have ok : ∀ w ∈ wsV own index y.cls y ws, w.before args s = true := fun w h => ht w (hT w h).1
  have hG : GoodIn Ts ws := fun w h => hT w (by unfold wsV; exact List.mem_append_right _ h)
  have hc : Cond.codeWith y bytes maxL ret hh ∈ ws := by rw [hw]; exact List.mem_cons_self
  refine ⟨⟨hrc, hrs, hR.1, hR.2, pay_in ht hG, hc⟩, ht _ (hG _ hc).1, ok _ (by simp [wsV]), ⟨hd.1, hd.2.1⟩, fun sig h => ?_, ok _ (by simp [wsV]), ok _ (by simp [wsV]), ok _ (by simp [wsV])⟩
  have h2 := hd.2.2
  rw [h] at h2
  exact (Option.some.inj h2).symm
theorem vx_runVW {y : MethodName} {bytes cc : ByteArray} {maxL nL mc ms n index : Nat} {ret : Option FieldType} {hh : List (Nat × Nat × Nat × Nat)} {ws : List Cond} {rm : Room} {Pc : Array Value → State → Prop} {Qc : Array Value → State → Outcome → State → Prop} {free : Addr → Prop} {Ts : List Cond} {own C : String} {b : Addr} {As rest : List Value} {g : JFrame}
    (S : CallFix p m c cc nL s args Ts own) (hM : Met l y ws rm Pc Qc mc ms free) (cw : vx_CVW R s args own C index y bytes maxL ret hh ws rm mc ms n) (hp : PreV s H C b Pc As)
    (hg : g.method = m) (hn : As.length = n) (hsize : g.locals.size = nL) (hstack : g.stack = As.reverse ++ .ref b :: rest) (hW : 2 * g.monitorRoom + (rest.map fun v => v.category).sum ≤ 8) (hdg : decode cc g.pc = .ok (.invokevirtual index, 3)) (hf : cells + mc ≤ R.cells ∧ slots + ms ≤ R.slots) :
    va_Run p l e R s m args below meth c H locs cells slots mc ms g rest (Qc (Value.ref b :: As).toArray) free := by
  obtain ⟨⟨hrc, hrs, hfr, hlo, hws, hcw⟩, hcode, hini, hy, hlen, hl, hin, hse⟩ := cw
  have hK : Back l R p e below s args y 3 8 (PreOf R mc ms Pc) (PostOf Qc mc ms free) := va_backW (hh := hh) (bytes := bytes) (maxL := maxL) (ret := ret) hM hp.1 hrc hrs hfr hlo hws hcw (fun a' U hW => word_at hW (Or.inl (by first | rfl | simp [Cond.onTables, Cond.keeps, Cond.steady])) hini)
  obtain ⟨hx, hb, hml, ho, -⟩ := S
  obtain ⟨-, ⟨cellB, hcB, hoB, hclB⟩, hPc⟩ := hp
  intro T hT X
  obtain ⟨v, vm₁, ⟨U', l2, c2, s2⟩, hW₁, X', ⟨g', mk, t, L, e1, e2, hq, h1, hL, h2, h3⟩, st⟩ := vx_callVW X hx (C := C) (hh := hh) (bytes := bytes) (maxL := maxL) (ret := ret) ho hl hin hse hcode hy hK (by rw [hT]; exact hcB) hoB hclB hg (hsize.trans hml.symm) (argsL := As) (rest := rest) (fun sig h => hn.trans (hlen sig h)) hstack hW (by rw [hb]; exact hdg)
    (fun vm₁ hW₁ => ⟨hf.1, hf.2, hPc (T.setVm vm₁) hT hW₁⟩)
  dsimp only [Pt.U, Pt.locs, Pt.cells, Pt.slots] at X' e1 e2 h1 h2 h3 st
  subst h1; subst h2; subst h3
  exact ⟨v, (T.setVm vm₁).calling g' mk (Value.ref b :: As).toArray, t, U', L, hT, X', hL, e1, e2, hq, st⟩
section
variable {y : MethodName} {bytes cc : ByteArray} {maxL nL mc ms n index : Nat} {ret : Option FieldType} {ws : List Cond} {rm : Room} {Pc : Array Value → State → Prop} {Qc : Array Value → State → Outcome → State → Prop} {XC : String → State → State → Prop} {free : Addr → Prop} {Ts : List Cond} {own C : String} {b : Addr} {As rest : List Value} {g : JFrame}
theorem vx_runVX {hh : List (Nat × Nat × Nat × Nat)} (S : CallFix p m c cc nL s args Ts own) (hM : vx_Met l y ws rm Pc Qc XC mc ms free) (cw : vx_CVW R s args own C index y bytes maxL ret hh ws rm mc ms n) (hp : PreV s H C b Pc As)
    (hg : g.method = m) (hn : As.length = n) (hsize : g.locals.size = nL) (hstack : g.stack = As.reverse ++ .ref b :: rest) (hW : 2 * g.monitorRoom + (rest.map fun v => v.category).sum ≤ 8) (hdg : decode cc g.pc = .ok (.invokevirtual index, 3)) (hf : cells + mc ≤ R.cells ∧ slots + ms ≤ R.slots) :
    vx_Run p l e R s m args below meth c H locs cells slots mc ms g rest (Qc (Value.ref b :: As).toArray) XC free := by
  obtain ⟨⟨hrc, hrs, hfr, hlo, hws, hcw⟩, hcode, hini, hy, hlen, hl, hin, hse⟩ := cw
  have hK : vx_Back l R p e below s args y 3 8 (PreOf R mc ms Pc) (PostOf Qc mc ms free) (vx_Post XC mc ms free) := vx_backW (hh := hh) (bytes := bytes) (maxL := maxL) (ret := ret) hM hp.1 hrc hrs hfr hlo hws hcw (fun a' U hW => word_at hW (Or.inl (by first | rfl | simp [Cond.onTables, Cond.keeps, Cond.steady])) hini)
  obtain ⟨hx, hb, hml, ho, -⟩ := S
  obtain ⟨-, ⟨cellB, hcB, hoB, hclB⟩, hPc⟩ := hp
  intro T hT X
  rcases vx_callVX X hx (C := C) (hh := hh) (bytes := bytes) (maxL := maxL) (ret := ret) ho hl hin hse hcode hy hK (by rw [hT]; exact hcB) hoB hclB hg (hsize.trans hml.symm) (argsL := As) (rest := rest) (fun sig h => hn.trans (hlen sig h)) hstack hW (by rw [hb]; exact hdg)
    (fun vm₁ hW₁ => ⟨hf.1, hf.2, hPc (T.setVm vm₁) hT hW₁⟩) with ⟨v, vm₁, ⟨U', l2, c2, s2⟩, hW₁, X', ⟨g', mk, t, L, e1, e2, hq, h1, hL, h2, h3⟩, st⟩ | ⟨q, vm₁, ⟨U', l2, c2, s2⟩, hW₁, X', ⟨g', mk, t, L, E, ce, e1, e2, hq, hce, hcv, hcl, h1, hL, h2, h3⟩, st⟩
  · dsimp only [Pt.U, Pt.locs, Pt.cells, Pt.slots] at X' e1 e2 h1 h2 h3 st
    subst h1; subst h2; subst h3
    exact Or.inl ⟨v, (T.setVm vm₁).calling g' mk (Value.ref b :: As).toArray, t, U', L, hT, X', hL, e1, e2, hq, st⟩
  · dsimp only [Pt.U, Pt.locs, Pt.cells, Pt.slots] at X' e1 e2 h1 h2 h3 st hcl
    subst h1; subst h2; subst h3
    exact Or.inr ⟨q, (T.setVm vm₁).calling g' mk (Value.ref b :: As).toArray, t, U', L, E, ce, hT, X', hL, e1, e2, hq, hce, hcv, vx_cls hW₁ hcl, st⟩
theorem vx_runSX {hh : List (Nat × Nat × Nat × Nat)} (S : CallFix p m c cc nL s args Ts own) (hM : vx_Met l y ws rm Pc Qc XC mc ms free) (cw : vx_CSW R s args own index y bytes maxL ret hh ws rm mc ms n) (hp : PreS s H Pc As)
    (hg : g.method = m) (hn : As.length = n) (hsize : g.locals.size = nL) (hstack : g.stack = As.reverse ++ rest) (hW : 2 * g.monitorRoom + (rest.map fun v => v.category).sum ≤ 8) (hdg : decode cc g.pc = .ok (.invokestatic index, 3)) (hf : cells + mc ≤ R.cells ∧ slots + ms ≤ R.slots) :
    vx_Run p l e R s m args below meth c H locs cells slots mc ms g rest (Qc As.toArray) XC free := by
  obtain ⟨⟨hrc, hrs, hfr, hlo, hws, hcw⟩, hcode, hini, hy, hlen, hl, hstt⟩ := cw
  have hK : vx_Back l R p e below s args y 3 8 (PreOf R mc ms Pc) (PostOf Qc mc ms free) (vx_Post XC mc ms free) := vx_backW (hh := hh) (bytes := bytes) (maxL := maxL) (ret := ret) hM hp.1 hrc hrs hfr hlo hws hcw (fun a' U hW => word_at hW (Or.inl (by first | rfl | simp [Cond.onTables, Cond.keeps, Cond.steady])) hini)
  obtain ⟨hx, hb, hml, ho, -⟩ := S
  intro T hT X
  rcases vx_callSX X hx (hh := hh) (bytes := bytes) (maxL := maxL) (ret := ret) ho hl hstt hini hcode hy hK hg (hsize.trans hml.symm) (argsL := As) (rest := rest) (fun sig h => hn.trans (hlen sig h)) hstack hW (by rw [hb]; exact hdg)
    (fun vm₁ hW₁ => ⟨hf.1, hf.2, hp.2 (T.setVm vm₁) hT hW₁⟩) with ⟨v, vm₁, ⟨U', l2, c2, s2⟩, hW₁, X', ⟨g', mk, t, L, e1, e2, hq, h1, hL, h2, h3⟩, st⟩ | ⟨q, vm₁, ⟨U', l2, c2, s2⟩, hW₁, X', ⟨g', mk, t, L, E, ce, e1, e2, hq, hce, hcv, hcl, h1, hL, h2, h3⟩, st⟩
  · dsimp only [Pt.U, Pt.locs, Pt.cells, Pt.slots] at X' e1 e2 h1 h2 h3 st
    subst h1; subst h2; subst h3
    exact Or.inl ⟨v, (T.setVm vm₁).calling g' mk As.toArray, t, U', L, hT, X', hL, e1, e2, hq, st⟩
  · dsimp only [Pt.U, Pt.locs, Pt.cells, Pt.slots] at X' e1 e2 h1 h2 h3 st hcl
    subst h1; subst h2; subst h3
    exact Or.inr ⟨q, (T.setVm vm₁).calling g' mk As.toArray, t, U', L, E, ce, hT, X', hL, e1, e2, hq, hce, hcv, vx_cls hW₁ hcl, st⟩
end
end VXH
theorem vx_ofWH {l : Launch} {y : MethodName} {ws ws' : List Cond} {rm : Room} {Pc : Array Value → State → Prop} {Qc : Array Value → State → Outcome → State → Prop} {XC : String → State → State → Prop} {mc ms : Nat} {free : Addr → Prop} {cc : ByteArray} {maxL : Nat} {ret : Option FieldType} {hh : List (Nat × Nat × Nat × Nat)}
    (hy : plainName y.cls = true) (hw : ws = Cond.codeWith y cc maxL ret hh :: ws')
    (body : ∀ p e s m args below meth c s₁, BodyLoose p l y (headSpec ws rm) cc maxL ret e s m args below meth c s₁ → c.maxLocals = maxL → Pc args s →
      W p l e (headSpec ws rm).room s m args below meth c s.heap [] 0 0 (vx_MQ below Qc XC args s mc ms free) (entryFrame m args maxL)) : vx_Met l y ws rm Pc Qc XC mc ms free := by
  refine MetFree.of_bodyS (code := cc) (maxLocals := maxL) (ret := ret) hy ?_ ?_
  · intro args s m h hn
    obtain ⟨m9, meth, c, hn9, h1, h2, h3, h4, -, h5, h6, -⟩ := Cond.codeWith_spec (atoms_spec (ws := ws) h _ (by rw [hw]; exact List.mem_cons_self))
    cases hn.symm.trans hn9
    exact ⟨meth, c, h1, h2, h3, h4, h5, h6⟩
  · intro p e s m args below meth c s₁ B hml hP _
    have hh0 : s₁.heap = s.heap := by rw [B.state]; rfl
    obtain ⟨t, a1, o, b1, b2, b3⟩ := body p e s m args below meth c s₁ B hml hP s₁ hh0 (Stand.of_body B)
    exact ⟨t, o, a1, b1, b2, b3⟩
/-! ===== END ===== -/
end
section
/-! ===== BEGIN printed: names, fields, word lists, decode rows ===== -/
def RX0 : String := "KingTies$Kin"
def TX0 : u_T := fun k => match k with
  | 0 => ("KingTies$Kin", "persons", "I", false)
  | 1 => ("KingTies$Kin", "male", "[Z", true)
  | 2 => ("KingTies$Kin", "birth", "[I", true)
  | 3 => ("KingTies$Kin", "mother", "[I", true)
  | 4 => ("KingTies$Kin", "father", "[I", true)
  | _ => ("KingTies$Kin", "steps", "[[I", true)
def tyX0 : Nat → FieldType := fun k => match k with
  | 0 => .int
  | 1 => .array .boolean
  | 2 => .array .int
  | 3 => .array .int
  | 4 => .array .int
  | _ => .array (.array .int)
abbrev wsX00 : List Cond := u_ws RX0 TX0 6
theorem nmX0 : ∀ a, a < 6 → ∀ b, b < 6 → a ≠ b → (TX0 a).2.1 ≠ (TX0 b).2.1 := by decide +kernel
theorem tyX0_ok : ∀ k, k < 6 → parseFieldDescriptor (TX0 k).2.2.1 = some (tyX0 k) := by decide +kernel
abbrev cX0_init : ByteArray := prog_2_method_1_code
def yX0_init : MethodName := ⟨RX0, "<init>", "()V"⟩
abbrev cX0_knows : ByteArray := prog_2_method_2_code
def yX0_knows : MethodName := ⟨RX0, "knows", "(I)Z"⟩
abbrev cX0_isFull : ByteArray := prog_2_method_3_code
def yX0_isFull : MethodName := ⟨RX0, "isFull", "()Z"⟩
abbrev cX0_add : ByteArray := prog_2_method_4_code
def yX0_add : MethodName := ⟨RX0, "add", "(ZIII)I"⟩
abbrev cX0_stepsThroughParents : ByteArray := prog_2_method_5_code
def yX0_stepsThroughParents : MethodName := ⟨RX0, "stepsThroughParents", "(III)I"⟩
abbrev cX0_stepsBetween : ByteArray := prog_2_method_6_code
def yX0_stepsBetween : MethodName := ⟨RX0, "stepsBetween", "(II)I"⟩
abbrev cX0_isBefore : ByteArray := prog_2_method_7_code
def yX0_isBefore : MethodName := ⟨RX0, "isBefore", "(II)Z"⟩
abbrev cX0_isAhead : ByteArray := prog_2_method_8_code
def yX0_isAhead : MethodName := ⟨RX0, "isAhead", "(III)Z"⟩
abbrev cX0_childrenOf : ByteArray := prog_2_method_9_code
def yX0_childrenOf : MethodName := ⟨RX0, "childrenOf", "(I)I"⟩
def RX1 : String := "KingTies$Lands"
def TX1 : u_T := fun k => match k with
  | 0 => ("KingTies$Lands", "number", "I", false)
  | 1 => ("KingTies$Lands", "worth", "[I", true)
  | 2 => ("KingTies$Lands", "law", "[I", true)
  | 3 => ("KingTies$Lands", "ruler", "[I", true)
  | 4 => ("KingTies$Lands", "changes", "[I", true)
  | 5 => ("KingTies$Lands", "kept", "[I", true)
  | _ => ("KingTies$Lands", "past", "[[I", true)
def tyX1 : Nat → FieldType := fun k => match k with
  | 0 => .int
  | 1 => .array .int
  | 2 => .array .int
  | 3 => .array .int
  | 4 => .array .int
  | 5 => .array .int
  | _ => .array (.array .int)
abbrev wsX10 : List Cond := u_ws RX1 TX1 7
theorem nmX1 : ∀ a, a < 7 → ∀ b, b < 7 → a ≠ b → (TX1 a).2.1 ≠ (TX1 b).2.1 := by decide +kernel
theorem tyX1_ok : ∀ k, k < 7 → parseFieldDescriptor (TX1 k).2.2.1 = some (tyX1 k) := by decide +kernel
abbrev cX1_init : ByteArray := prog_3_method_1_code
def yX1_init : MethodName := ⟨RX1, "<init>", "()V"⟩
abbrev cX1_knows : ByteArray := prog_3_method_2_code
def yX1_knows : MethodName := ⟨RX1, "knows", "(I)Z"⟩
abbrev cX1_isFull : ByteArray := prog_3_method_3_code
def yX1_isFull : MethodName := ⟨RX1, "isFull", "()Z"⟩
abbrev cX1_add : ByteArray := prog_3_method_4_code
def yX1_add : MethodName := ⟨RX1, "add", "(III)I"⟩
abbrev cX1_handTo : ByteArray := prog_3_method_5_code
def yX1_handTo : MethodName := ⟨RX1, "handTo", "(II)V"⟩
abbrev cX1_rulerOf : ByteArray := prog_3_method_6_code
def yX1_rulerOf : MethodName := ⟨RX1, "rulerOf", "(I)I"⟩
abbrev cX1_numberUnder : ByteArray := prog_3_method_7_code
def yX1_numberUnder : MethodName := ⟨RX1, "numberUnder", "(I)I"⟩
abbrev cX1_worthUnder : ByteArray := prog_3_method_8_code
def yX1_worthUnder : MethodName := ⟨RX1, "worthUnder", "(I)I"⟩
abbrev cX1_takeRulers : ByteArray := prog_3_method_9_code
def yX1_takeRulers : MethodName := ⟨RX1, "takeRulers", "(LKingTies$Lands;)V"⟩
def RX2 : String := "KingTies$Lines"
def TX2 : u_T := fun k => match k with
  | 0 => ("KingTies$Lines", "first", "[I", true)
  | _ => ("KingTies$Lines", "through", "[I", true)
def tyX2 : Nat → FieldType := fun k => match k with
  | 0 => .array .int
  | _ => .array .int
abbrev wsX20 : List Cond := u_ws RX2 TX2 2
theorem nmX2 : ∀ a, a < 2 → ∀ b, b < 2 → a ≠ b → (TX2 a).2.1 ≠ (TX2 b).2.1 := by decide +kernel
theorem tyX2_ok : ∀ k, k < 2 → parseFieldDescriptor (TX2 k).2.2.1 = some (tyX2 k) := by decide +kernel
abbrev cX2_init : ByteArray := prog_4_method_1_code
def yX2_init : MethodName := ⟨RX2, "<init>", "()V"⟩
abbrev cX2_clear : ByteArray := prog_4_method_2_code
def yX2_clear : MethodName := ⟨RX2, "clear", "()V"⟩
abbrev cX2_firstOf : ByteArray := prog_4_method_3_code
def yX2_firstOf : MethodName := ⟨RX2, "firstOf", "(I)I"⟩
abbrev cX2_tell : ByteArray := prog_4_method_4_code
def yX2_tell : MethodName := ⟨RX2, "tell", "(LKingTies$Kin;IIII)V"⟩
def RX3 : String := "KingTies$Ties"
def TX3 : u_T := fun k => match k with
  | 0 => ("KingTies$Ties", "spouse", "[I", true)
  | _ => ("KingTies$Ties", "given", "[I", true)
def tyX3 : Nat → FieldType := fun k => match k with
  | 0 => .array .int
  | _ => .array .int
abbrev wsX30 : List Cond := u_ws RX3 TX3 2
theorem nmX3 : ∀ a, a < 2 → ∀ b, b < 2 → a ≠ b → (TX3 a).2.1 ≠ (TX3 b).2.1 := by decide +kernel
theorem tyX3_ok : ∀ k, k < 2 → parseFieldDescriptor (TX3 k).2.2.1 = some (tyX3 k) := by decide +kernel
abbrev cX3_init : ByteArray := prog_5_method_1_code
def yX3_init : MethodName := ⟨RX3, "<init>", "()V"⟩
abbrev cX3_fits : ByteArray := prog_5_method_2_code
def yX3_fits : MethodName := ⟨RX3, "fits", "(I)Z"⟩
abbrev cX3_spouseOf : ByteArray := prog_5_method_3_code
def yX3_spouseOf : MethodName := ⟨RX3, "spouseOf", "(I)I"⟩
abbrev cX3_givenBy : ByteArray := prog_5_method_4_code
def yX3_givenBy : MethodName := ⟨RX3, "givenBy", "(I)I"⟩
abbrev cX3_bind : ByteArray := prog_5_method_5_code
def yX3_bind : MethodName := ⟨RX3, "bind", "(II)V"⟩
abbrev cX3_part : ByteArray := prog_5_method_6_code
def yX3_part : MethodName := ⟨RX3, "part", "(I)V"⟩
abbrev cX3_couples : ByteArray := prog_5_method_7_code
def yX3_couples : MethodName := ⟨RX3, "couples", "()I"⟩
def RX4 : String := "KingTies$World"
def TX4 : u_T := fun k => match k with
  | 0 => ("KingTies$World", "kin", "LKingTies$Kin;", true)
  | 1 => ("KingTies$World", "lands", "LKingTies$Lands;", true)
  | 2 => ("KingTies$World", "ties", "LKingTies$Ties;", true)
  | 3 => ("KingTies$World", "lines", "LKingTies$Lines;", true)
  | 4 => ("KingTies$World", "death", "[I", true)
  | _ => ("KingTies$World", "year", "I", false)
def tyX4 : Nat → FieldType := fun k => match k with
  | 0 => .object "KingTies$Kin"
  | 1 => .object "KingTies$Lands"
  | 2 => .object "KingTies$Ties"
  | 3 => .object "KingTies$Lines"
  | 4 => .array .int
  | _ => .int
abbrev wsX40 : List Cond := u_ws RX4 TX4 6
theorem nmX4 : ∀ a, a < 6 → ∀ b, b < 6 → a ≠ b → (TX4 a).2.1 ≠ (TX4 b).2.1 := by decide +kernel
theorem tyX4_ok : ∀ k, k < 6 → parseFieldDescriptor (TX4 k).2.2.1 = some (tyX4 k) := by decide +kernel
abbrev cX4_init : ByteArray := prog_6_method_1_code
def yX4_init : MethodName := ⟨RX4, "<init>", "(LKingTies$Kin;)V"⟩
abbrev cX4_startFrom : ByteArray := prog_6_method_2_code
def yX4_startFrom : MethodName := ⟨RX4, "startFrom", "(LKingTies$World;)V"⟩
abbrev cX4_lives : ByteArray := prog_6_method_3_code
def yX4_lives : MethodName := ⟨RX4, "lives", "(I)Z"⟩
abbrev cX4_age : ByteArray := prog_6_method_4_code
def yX4_age : MethodName := ⟨RX4, "age", "(I)I"⟩
abbrev cX4_isFree : ByteArray := prog_6_method_5_code
def yX4_isFree : MethodName := ⟨RX4, "isFree", "(I)Z"⟩
abbrev cX4_mayMarry : ByteArray := prog_6_method_6_code
def yX4_mayMarry : MethodName := ⟨RX4, "mayMarry", "(II)Z"⟩
abbrev cX4_wed : ByteArray := prog_6_method_7_code
def yX4_wed : MethodName := ⟨RX4, "wed", "(III)V"⟩
abbrev cX4_separate : ByteArray := prog_6_method_8_code
def yX4_separate : MethodName := ⟨RX4, "separate", "(I)I"⟩
abbrev cX4_bury : ByteArray := prog_6_method_9_code
def yX4_bury : MethodName := ⟨RX4, "bury", "(I)I"⟩
abbrev cX4_letPass : ByteArray := prog_6_method_10_code
def yX4_letPass : MethodName := ⟨RX4, "letPass", "(I)I"⟩
abbrev cX4_heirOf : ByteArray := prog_6_method_11_code
def yX4_heirOf : MethodName := ⟨RX4, "heirOf", "(II)I"⟩
abbrev cX4_eldestOfKin : ByteArray := prog_6_method_12_code
def yX4_eldestOfKin : MethodName := ⟨RX4, "eldestOfKin", "(I)I"⟩
abbrev cX4_regentOf : ByteArray := prog_6_method_13_code
def yX4_regentOf : MethodName := ⟨RX4, "regentOf", "(I)I"⟩
abbrev cX4_nearestGrown : ByteArray := prog_6_method_14_code
def yX4_nearestGrown : MethodName := ⟨RX4, "nearestGrown", "(I)I"⟩
abbrev cX4_personFact : ByteArray := prog_6_method_15_code
def yX4_personFact : MethodName := ⟨RX4, "personFact", "(II)I"⟩
abbrev cX4_landFact : ByteArray := prog_6_method_16_code
def yX4_landFact : MethodName := ⟨RX4, "landFact", "(II)I"⟩
abbrev cX4_countFact : ByteArray := prog_6_method_17_code
def yX4_countFact : MethodName := ⟨RX4, "countFact", "(I)I"⟩
abbrev cX4_living : ByteArray := prog_6_method_18_code
def yX4_living : MethodName := ⟨RX4, "living", "()I"⟩
abbrev cX4_rulers : ByteArray := prog_6_method_19_code
def yX4_rulers : MethodName := ⟨RX4, "rulers", "(Z)I"⟩
def RX5 : String := "KingTies"
def TX5 : u_T := fun k => match k with
  | 0 => ("KingTies", "kin", "LKingTies$Kin;", true)
  | 1 => ("KingTies", "now", "LKingTies$World;", true)
  | _ => ("KingTies", "ahead", "LKingTies$World;", true)
def tyX5 : Nat → FieldType := fun k => match k with
  | 0 => .object "KingTies$Kin"
  | 1 => .object "KingTies$World"
  | _ => .object "KingTies$World"
abbrev wsX50 : List Cond := u_ws RX5 TX5 3
theorem nmX5 : ∀ a, a < 3 → ∀ b, b < 3 → a ≠ b → (TX5 a).2.1 ≠ (TX5 b).2.1 := by decide +kernel
theorem tyX5_ok : ∀ k, k < 3 → parseFieldDescriptor (TX5 k).2.2.1 = some (tyX5 k) := by decide +kernel
abbrev cX5_init : ByteArray := prog_1_method_1_code
def yX5_init : MethodName := ⟨RX5, "<init>", "()V"⟩
abbrev cX5_come : ByteArray := prog_1_method_2_code
def yX5_come : MethodName := ⟨RX5, "come", "(ZI)I"⟩
abbrev cX5_bear : ByteArray := prog_1_method_3_code
def yX5_bear : MethodName := ⟨RX5, "bear", "(IZ)I"⟩
abbrev cX5_found : ByteArray := prog_1_method_4_code
def yX5_found : MethodName := ⟨RX5, "found", "(III)I"⟩
abbrev cX5_setLaw : ByteArray := prog_1_method_5_code
def yX5_setLaw : MethodName := ⟨RX5, "setLaw", "(II)I"⟩
abbrev cX5_marry : ByteArray := prog_1_method_6_code
def yX5_marry : MethodName := ⟨RX5, "marry", "(III)I"⟩
abbrev cX5_annul : ByteArray := prog_1_method_7_code
def yX5_annul : MethodName := ⟨RX5, "annul", "(I)I"⟩
abbrev cX5_die : ByteArray := prog_1_method_8_code
def yX5_die : MethodName := ⟨RX5, "die", "(I)I"⟩
abbrev cX5_person : ByteArray := prog_1_method_9_code
def yX5_person : MethodName := ⟨RX5, "person", "(II)I"⟩
abbrev cX5_land : ByteArray := prog_1_method_10_code
def yX5_land : MethodName := ⟨RX5, "land", "(II)I"⟩
abbrev cX5_ruled : ByteArray := prog_1_method_11_code
def yX5_ruled : MethodName := ⟨RX5, "ruled", "(II)I"⟩
abbrev cX5_related : ByteArray := prog_1_method_12_code
def yX5_related : MethodName := ⟨RX5, "related", "(II)I"⟩
abbrev cX5_count : ByteArray := prog_1_method_13_code
def yX5_count : MethodName := ⟨RX5, "count", "(I)I"⟩
abbrev cX5_pass : ByteArray := prog_1_method_14_code
def yX5_pass : MethodName := ⟨RX5, "pass", "(I)I"⟩
abbrev cX5_rules : ByteArray := prog_1_method_15_code
def yX5_rules : MethodName := ⟨RX5, "rules", "(I)I"⟩
abbrev cX5_foresee : ByteArray := prog_1_method_16_code
def yX5_foresee : MethodName := ⟨RX5, "foresee", "(II)I"⟩
abbrev cX5_best : ByteArray := prog_1_method_17_code
def yX5_best : MethodName := ⟨RX5, "best", "(I)I"⟩
abbrev cX5_mean : ByteArray := prog_1_method_18_code
def yX5_mean : MethodName := ⟨RX5, "mean", "()D"⟩
abbrev cX5_needPerson : ByteArray := prog_1_method_22_code
def yX5_needPerson : MethodName := ⟨RX5, "needPerson", "(I)V"⟩
abbrev cX5_needLand : ByteArray := prog_1_method_23_code
def yX5_needLand : MethodName := ⟨RX5, "needLand", "(I)V"⟩
abbrev cX5_needBelow : ByteArray := prog_1_method_24_code
def yX5_needBelow : MethodName := ⟨RX5, "needBelow", "(II)V"⟩
abbrev cX5_needLaw : ByteArray := prog_1_method_25_code
def yX5_needLaw : MethodName := ⟨RX5, "needLaw", "(I)V"⟩
abbrev cX5_needYears : ByteArray := prog_1_method_26_code
def yX5_needYears : MethodName := ⟨RX5, "needYears", "(I)V"⟩
def RX6 : String := "KingTiesLaw$Land"
def TX6 : u_T := fun k => match k with
  | 0 => ("KingTiesLaw$Land", "worth", "I", false)
  | 1 => ("KingTiesLaw$Land", "law", "I", false)
  | 2 => ("KingTiesLaw$Land", "ruler", "LKingTiesLaw$Person;", false)
  | _ => ("KingTiesLaw$Land", "had", "[LKingTiesLaw$Person;", false)
def tyX6 : Nat → FieldType := fun k => match k with
  | 0 => .int
  | 1 => .int
  | 2 => .object "KingTiesLaw$Person"
  | _ => .array (.object "KingTiesLaw$Person")
abbrev wsX60 : List Cond := u_ws RX6 TX6 4
theorem nmX6 : ∀ a, a < 4 → ∀ b, b < 4 → a ≠ b → (TX6 a).2.1 ≠ (TX6 b).2.1 := by decide +kernel
theorem tyX6_ok : ∀ k, k < 4 → parseFieldDescriptor (TX6 k).2.2.1 = some (tyX6 k) := by decide +kernel
abbrev cX6_init : ByteArray := prog_8_method_1_code
def yX6_init : MethodName := ⟨RX6, "<init>", "()V"⟩
def RX7 : String := "KingTiesLaw$Person"
def TX7 : u_T := fun k => match k with
  | 0 => ("KingTiesLaw$Person", "number", "I", false)
  | 1 => ("KingTiesLaw$Person", "male", "Z", false)
  | 2 => ("KingTiesLaw$Person", "born", "I", false)
  | 3 => ("KingTiesLaw$Person", "died", "I", false)
  | 4 => ("KingTiesLaw$Person", "mother", "LKingTiesLaw$Person;", false)
  | 5 => ("KingTiesLaw$Person", "father", "LKingTiesLaw$Person;", false)
  | 6 => ("KingTiesLaw$Person", "with", "LKingTiesLaw$Person;", false)
  | 7 => ("KingTiesLaw$Person", "given", "LKingTiesLaw$Land;", false)
  | _ => ("KingTiesLaw$Person", "giver", "LKingTiesLaw$Person;", false)
def tyX7 : Nat → FieldType := fun k => match k with
  | 0 => .int
  | 1 => .boolean
  | 2 => .int
  | 3 => .int
  | 4 => .object "KingTiesLaw$Person"
  | 5 => .object "KingTiesLaw$Person"
  | 6 => .object "KingTiesLaw$Person"
  | 7 => .object "KingTiesLaw$Land"
  | _ => .object "KingTiesLaw$Person"
abbrev wsX70 : List Cond := u_ws RX7 TX7 9
theorem nmX7 : ∀ a, a < 9 → ∀ b, b < 9 → a ≠ b → (TX7 a).2.1 ≠ (TX7 b).2.1 := by decide +kernel
theorem tyX7_ok : ∀ k, k < 9 → parseFieldDescriptor (TX7 k).2.2.1 = some (tyX7 k) := by decide +kernel
abbrev cX7_init : ByteArray := prog_9_method_1_code
def yX7_init : MethodName := ⟨RX7, "<init>", "()V"⟩
def RX8 : String := "KingTiesLaw$Sim"
def TX8 : u_T := fun k => match k with
  | 0 => ("KingTiesLaw$Sim", "persons", "[LKingTiesLaw$Person;", false)
  | 1 => ("KingTiesLaw$Sim", "lands", "[LKingTiesLaw$Land;", false)
  | _ => ("KingTiesLaw$Sim", "year", "I", false)
def tyX8 : Nat → FieldType := fun k => match k with
  | 0 => .array (.object "KingTiesLaw$Person")
  | 1 => .array (.object "KingTiesLaw$Land")
  | _ => .int
abbrev wsX80 : List Cond := u_ws RX8 TX8 3
theorem nmX8 : ∀ a, a < 3 → ∀ b, b < 3 → a ≠ b → (TX8 a).2.1 ≠ (TX8 b).2.1 := by decide +kernel
theorem tyX8_ok : ∀ k, k < 3 → parseFieldDescriptor (TX8 k).2.2.1 = some (tyX8 k) := by decide +kernel
abbrev cX8_init : ByteArray := prog_10_method_1_code
def yX8_init : MethodName := ⟨RX8, "<init>", "()V"⟩
abbrev cX8_come : ByteArray := prog_10_method_2_code
def yX8_come : MethodName := ⟨RX8, "come", "(ZI)LKingTiesLaw$Person;"⟩
abbrev cX8_bear : ByteArray := prog_10_method_3_code
def yX8_bear : MethodName := ⟨RX8, "bear", "(LKingTiesLaw$Person;Z)V"⟩
abbrev cX8_rule : ByteArray := prog_10_method_4_code
def yX8_rule : MethodName := ⟨RX8, "rule", "(LKingTiesLaw$Land;LKingTiesLaw$Person;)V"⟩
abbrev cX8_found : ByteArray := prog_10_method_5_code
def yX8_found : MethodName := ⟨RX8, "found", "(IILKingTiesLaw$Person;)V"⟩
abbrev cX8_isBefore : ByteArray := prog_10_method_6_code
def yX8_isBefore : MethodName := ⟨RX8, "isBefore", "(LKingTiesLaw$Person;LKingTiesLaw$Person;)Z"⟩
abbrev cX8_up : ByteArray := prog_10_method_7_code
def yX8_up : MethodName := ⟨RX8, "up", "(LKingTiesLaw$Person;LKingTiesLaw$Person;)I"⟩
abbrev cX8_related : ByteArray := prog_10_method_8_code
def yX8_related : MethodName := ⟨RX8, "related", "(LKingTiesLaw$Person;LKingTiesLaw$Person;)I"⟩
abbrev cX8_children : ByteArray := prog_10_method_9_code
def yX8_children : MethodName := ⟨RX8, "children", "(LKingTiesLaw$Person;)I"⟩
abbrev cX8_row : ByteArray := prog_10_method_10_code
def yX8_row : MethodName := ⟨RX8, "row", "(LKingTiesLaw$Person;I)[LKingTiesLaw$Person;"⟩
abbrev cX8_isAhead : ByteArray := prog_10_method_11_code
def yX8_isAhead : MethodName := ⟨RX8, "isAhead", "(LKingTiesLaw$Person;LKingTiesLaw$Person;I)Z"⟩
abbrev cX8_first : ByteArray := prog_10_method_12_code
def yX8_first : MethodName := ⟨RX8, "first", "(LKingTiesLaw$Person;ILKingTiesLaw$Person;)LKingTiesLaw$Person;"⟩
abbrev cX8_heir : ByteArray := prog_10_method_13_code
def yX8_heir : MethodName := ⟨RX8, "heir", "(LKingTiesLaw$Person;I)LKingTiesLaw$Person;"⟩
abbrev cX8_regent : ByteArray := prog_10_method_14_code
def yX8_regent : MethodName := ⟨RX8, "regent", "(LKingTiesLaw$Person;)LKingTiesLaw$Person;"⟩
abbrev cX8_worth : ByteArray := prog_10_method_15_code
def yX8_worth : MethodName := ⟨RX8, "worth", "(LKingTiesLaw$Person;)I"⟩
abbrev cX8_rules : ByteArray := prog_10_method_16_code
def yX8_rules : MethodName := ⟨RX8, "rules", "(LKingTiesLaw$Person;)I"⟩
abbrev cX8_isFree : ByteArray := prog_10_method_17_code
def yX8_isFree : MethodName := ⟨RX8, "isFree", "(LKingTiesLaw$Person;)Z"⟩
abbrev cX8_can : ByteArray := prog_10_method_18_code
def yX8_can : MethodName := ⟨RX8, "can", "(LKingTiesLaw$Person;LKingTiesLaw$Person;)Z"⟩
abbrev cX8_marry : ByteArray := prog_10_method_19_code
def yX8_marry : MethodName := ⟨RX8, "marry", "(LKingTiesLaw$Person;LKingTiesLaw$Person;LKingTiesLaw$Land;)V"⟩
abbrev cX8_part : ByteArray := prog_10_method_20_code
def yX8_part : MethodName := ⟨RX8, "part", "(LKingTiesLaw$Person;)V"⟩
abbrev cX8_annul : ByteArray := prog_10_method_21_code
def yX8_annul : MethodName := ⟨RX8, "annul", "(LKingTiesLaw$Person;)I"⟩
abbrev cX8_die : ByteArray := prog_10_method_22_code
def yX8_die : MethodName := ⟨RX8, "die", "(LKingTiesLaw$Person;)I"⟩
abbrev cX8_pass : ByteArray := prog_10_method_23_code
def yX8_pass : MethodName := ⟨RX8, "pass", "()I"⟩
abbrev cX8_number : ByteArray := prog_10_method_24_code
def yX8_number : MethodName := ⟨RX8, "number", "(LKingTiesLaw$Person;)I"⟩
abbrev cX8_isSame : ByteArray := prog_10_method_25_code
def yX8_isSame : MethodName := ⟨RX8, "isSame", "(LKingTies;)Z"⟩
def RX9 : String := "KingTiesModel"
def TX9 : u_T := fun k => match k with
  | _ => ("", "", "", false)
def tyX9 : Nat → FieldType := fun k => match k with
  | _ => .int
abbrev wsX90 : List Cond := u_ws RX9 TX9 0
theorem nmX9 : ∀ a, a < 0 → ∀ b, b < 0 → a ≠ b → (TX9 a).2.1 ≠ (TX9 b).2.1 := by decide +kernel
theorem tyX9_ok : ∀ k, k < 0 → parseFieldDescriptor (TX9 k).2.2.1 = some (tyX9 k) := by decide +kernel
def RJx145de : String := "java/io/Serializable"
def TJx145de : u_T := fun k => match k with
  | _ => ("", "", "", false)
def tyJx145de : Nat → FieldType := fun k => match k with
  | _ => .int
abbrev wsJx145de0 : List Cond := u_ws RJx145de TJx145de 0
theorem nmJx145de : ∀ a, a < 0 → ∀ b, b < 0 → a ≠ b → (TJx145de a).2.1 ≠ (TJx145de b).2.1 := by decide +kernel
theorem tyJx145de_ok : ∀ k, k < 0 → parseFieldDescriptor (TJx145de k).2.2.1 = some (tyJx145de k) := by decide +kernel
def RJ9 : String := "java/lang/Math"
def TJ9 : u_T := fun k => match k with
  | _ => ("", "", "", false)
def tyJ9 : Nat → FieldType := fun k => match k with
  | _ => .int
abbrev wsJ90 : List Cond := u_ws RJ9 TJ9 0
theorem nmJ9 : ∀ a, a < 0 → ∀ b, b < 0 → a ≠ b → (TJ9 a).2.1 ≠ (TJ9 b).2.1 := by decide +kernel
theorem tyJ9_ok : ∀ k, k < 0 → parseFieldDescriptor (TJ9 k).2.2.1 = some (tyJ9 k) := by decide +kernel
abbrev cJ9_min_7cf53 : ByteArray := prog_16_method_69_code
def yJ9_min_7cf53 : MethodName := ⟨RJ9, "min", "(II)I"⟩
def RJ0 : String := "java/lang/String"
def TJ0 : u_T := fun k => match k with
  | _ => ("", "", "", false)
def tyJ0 : Nat → FieldType := fun k => match k with
  | _ => .int
abbrev wsJ00 : List Cond := u_ws RJ0 TJ0 0
theorem nmJ0 : ∀ a, a < 0 → ∀ b, b < 0 → a ≠ b → (TJ0 a).2.1 ≠ (TJ0 b).2.1 := by decide +kernel
theorem tyJ0_ok : ∀ k, k < 0 → parseFieldDescriptor (TJ0 k).2.2.1 = some (tyJ0 k) := by decide +kernel
def RJ10 : String := "java/lang/System"
def TJ10 : u_T := fun k => match k with
  | _ => ("", "", "", false)
def tyJ10 : Nat → FieldType := fun k => match k with
  | _ => .int
abbrev wsJ100 : List Cond := u_ws RJ10 TJ10 0
theorem nmJ10 : ∀ a, a < 0 → ∀ b, b < 0 → a ≠ b → (TJ10 a).2.1 ≠ (TJ10 b).2.1 := by decide +kernel
theorem tyJ10_ok : ∀ k, k < 0 → parseFieldDescriptor (TJ10 k).2.2.1 = some (tyJ10 k) := by decide +kernel
def RJ7 : String := "java/util/Arrays"
def TJ7 : u_T := fun k => match k with
  | _ => ("", "", "", false)
def tyJ7 : Nat → FieldType := fun k => match k with
  | _ => .int
abbrev wsJ70 : List Cond := u_ws RJ7 TJ7 0
theorem nmJ7 : ∀ a, a < 0 → ∀ b, b < 0 → a ≠ b → (TJ7 a).2.1 ≠ (TJ7 b).2.1 := by decide +kernel
theorem tyJ7_ok : ∀ k, k < 0 → parseFieldDescriptor (TJ7 k).2.2.1 = some (tyJ7 k) := by decide +kernel
abbrev cJ7_fill_53178 : ByteArray := prog_21_method_103_code
def yJ7_fill_53178 : MethodName := ⟨RJ7, "fill", "([II)V"⟩
def RL : String := "KingTiesLaw"
abbrev cL_below : ByteArray := method_2_code
def yL_below : MethodName := ⟨RL, "below", "(II)I"⟩
abbrev cL_cell : ByteArray := method_3_code
def yL_cell : MethodName := ⟨RL, "cell", "([II)I"⟩
abbrev cL_act : ByteArray := method_4_code
def yL_act : MethodName := ⟨RL, "act", "(LKingTies;LKingTiesLaw$Sim;I)Z"⟩
abbrev cL_build : ByteArray := method_5_code
def yL_build : MethodName := ⟨RL, "build", "(LKingTies;[I)LKingTiesLaw$Sim;"⟩
abbrev cL_law : ByteArray := code
def yL_law : MethodName := ⟨RL, "law", "([I)Z"⟩
abbrev vwCl : List vw_C := [(RX0, TX0, 6), (RX1, TX1, 7), (RX2, TX2, 2), (RX3, TX3, 2), (RX4, TX4, 6), (RX5, TX5, 3), (RX6, TX6, 4), (RX7, TX7, 9), (RX8, TX8, 3)]
end
section
/-! WORDS OF THE TABLES: the good ones of lw_tbl; each that is used, by its place (written by a program out of the tables) -/
def kWA : List Cond := lw_tbl.filter goodWord
theorem kmem {w : Cond} (i : Nat) (h : lw_tbl[i]? = some w) (g : goodWord w = true) : w ∈ kWA := List.mem_filter.mpr ⟨List.mem_of_getElem? h, g⟩
theorem kWA_tbl : ∀ w ∈ kWA, w ∈ lw_tbl := fun _ h => (List.mem_filter.mp h).1
theorem kWA_good : ∀ w ∈ kWA, (w.onTables && w.keeps) = true ∨ ∃ ty, w = .arrayClass ty := fun _ h => good_of_word (List.mem_filter.mp h).2
theorem kc_L_26 : Cond.classLink RL 26 "KingTies" ∈ kWA := kmem 29 (by decide +kernel) (by decide +kernel)
theorem ki_X5 : Cond.instantiable RX5 3 ∈ kWA := kmem 30 (by decide +kernel) (by decide +kernel)
theorem kl_L_118 : Cond.methodLink RL 118 yX5_init ∈ kWA := kmem 31 (by decide +kernel) (by decide +kernel)
theorem kl_X5_1 : Cond.methodLink RX5 1 objectInit ∈ kWA := kmem 34 (by decide +kernel) (by decide +kernel)
theorem kc_X5_7 : Cond.classLink RX5 7 "KingTies$Kin" ∈ kWA := kmem 37 (by decide +kernel) (by decide +kernel)
theorem ki_X0 : Cond.instantiable RX0 6 ∈ kWA := kmem 38 (by decide +kernel) (by decide +kernel)
theorem kl_X0_3 : Cond.methodLink RX0 3 objectInit ∈ kWA := kmem 42 (by decide +kernel) (by decide +kernel)
theorem kc_X0_29 : Cond.classLink RX0 29 "[[I" ∈ kWA := kmem 43 (by decide +kernel) (by decide +kernel)
theorem kf_X0_9 : Cond.fieldLink RX0 9 "KingTies$Kin" "persons" "I" ∈ kWA := kmem 45 (by decide +kernel) (by decide +kernel)
theorem kf_X4_122 : Cond.fieldLink RX4 122 "KingTies$Kin" "persons" "I" ∈ kWA := kmem 46 (by decide +kernel) (by decide +kernel)
theorem kf_X5_167 : Cond.fieldLink RX5 167 "KingTies$Kin" "persons" "I" ∈ kWA := kmem 47 (by decide +kernel) (by decide +kernel)
theorem kf_X0_15 : Cond.fieldLink RX0 15 "KingTies$Kin" "male" "[Z" ∈ kWA := kmem 48 (by decide +kernel) (by decide +kernel)
theorem kf_X5_66 : Cond.fieldLink RX5 66 "KingTies$Kin" "male" "[Z" ∈ kWA := kmem 49 (by decide +kernel) (by decide +kernel)
theorem kf_X4_82 : Cond.fieldLink RX4 82 "KingTies$Kin" "male" "[Z" ∈ kWA := kmem 50 (by decide +kernel) (by decide +kernel)
theorem kf_X0_19 : Cond.fieldLink RX0 19 "KingTies$Kin" "birth" "[I" ∈ kWA := kmem 51 (by decide +kernel) (by decide +kernel)
theorem kf_X4_66 : Cond.fieldLink RX4 66 "KingTies$Kin" "birth" "[I" ∈ kWA := kmem 52 (by decide +kernel) (by decide +kernel)
theorem kf_X0_23 : Cond.fieldLink RX0 23 "KingTies$Kin" "mother" "[I" ∈ kWA := kmem 53 (by decide +kernel) (by decide +kernel)
theorem kf_X4_137 : Cond.fieldLink RX4 137 "KingTies$Kin" "mother" "[I" ∈ kWA := kmem 54 (by decide +kernel) (by decide +kernel)
theorem kf_X0_26 : Cond.fieldLink RX0 26 "KingTies$Kin" "father" "[I" ∈ kWA := kmem 55 (by decide +kernel) (by decide +kernel)
theorem kf_X4_144 : Cond.fieldLink RX4 144 "KingTies$Kin" "father" "[I" ∈ kWA := kmem 56 (by decide +kernel) (by decide +kernel)
theorem kf_X0_31 : Cond.fieldLink RX0 31 "KingTies$Kin" "steps" "[[I" ∈ kWA := kmem 57 (by decide +kernel) (by decide +kernel)
theorem kf_X5_148 : Cond.fieldLink RX5 148 "KingTies$Kin" "steps" "[[I" ∈ kWA := kmem 58 (by decide +kernel) (by decide +kernel)
theorem kc_X5_16 : Cond.classLink RX5 16 "KingTies$World" ∈ kWA := kmem 74 (by decide +kernel) (by decide +kernel)
theorem ki_X4 : Cond.instantiable RX4 6 ∈ kWA := kmem 75 (by decide +kernel) (by decide +kernel)
theorem kl_X5_18 : Cond.methodLink RX5 18 yX4_init ∈ kWA := kmem 76 (by decide +kernel) (by decide +kernel)
theorem kl_X4_3 : Cond.methodLink RX4 3 objectInit ∈ kWA := kmem 79 (by decide +kernel) (by decide +kernel)
theorem kc_X4_9 : Cond.classLink RX4 9 "KingTies$Lands" ∈ kWA := kmem 80 (by decide +kernel) (by decide +kernel)
theorem ki_X1 : Cond.instantiable RX1 7 ∈ kWA := kmem 81 (by decide +kernel) (by decide +kernel)
theorem kl_X1_3 : Cond.methodLink RX1 3 objectInit ∈ kWA := kmem 85 (by decide +kernel) (by decide +kernel)
theorem kc_X1_31 : Cond.classLink RX1 31 "[[I" ∈ kWA := kmem 86 (by decide +kernel) (by decide +kernel)
theorem kf_X1_9 : Cond.fieldLink RX1 9 "KingTies$Lands" "number" "I" ∈ kWA := kmem 87 (by decide +kernel) (by decide +kernel)
theorem kf_X4_110 : Cond.fieldLink RX4 110 "KingTies$Lands" "number" "I" ∈ kWA := kmem 88 (by decide +kernel) (by decide +kernel)
theorem kf_X1_15 : Cond.fieldLink RX1 15 "KingTies$Lands" "worth" "[I" ∈ kWA := kmem 89 (by decide +kernel) (by decide +kernel)
theorem kf_X4_163 : Cond.fieldLink RX4 163 "KingTies$Lands" "worth" "[I" ∈ kWA := kmem 90 (by decide +kernel) (by decide +kernel)
theorem kf_X1_19 : Cond.fieldLink RX1 19 "KingTies$Lands" "law" "[I" ∈ kWA := kmem 91 (by decide +kernel) (by decide +kernel)
theorem kf_X5_98 : Cond.fieldLink RX5 98 "KingTies$Lands" "law" "[I" ∈ kWA := kmem 92 (by decide +kernel) (by decide +kernel)
theorem kf_X4_116 : Cond.fieldLink RX4 116 "KingTies$Lands" "law" "[I" ∈ kWA := kmem 93 (by decide +kernel) (by decide +kernel)
theorem kf_X1_22 : Cond.fieldLink RX1 22 "KingTies$Lands" "ruler" "[I" ∈ kWA := kmem 94 (by decide +kernel) (by decide +kernel)
theorem kf_X4_113 : Cond.fieldLink RX4 113 "KingTies$Lands" "ruler" "[I" ∈ kWA := kmem 95 (by decide +kernel) (by decide +kernel)
theorem kf_X1_25 : Cond.fieldLink RX1 25 "KingTies$Lands" "changes" "[I" ∈ kWA := kmem 96 (by decide +kernel) (by decide +kernel)
theorem kf_X4_169 : Cond.fieldLink RX4 169 "KingTies$Lands" "changes" "[I" ∈ kWA := kmem 97 (by decide +kernel) (by decide +kernel)
theorem kf_X1_28 : Cond.fieldLink RX1 28 "KingTies$Lands" "kept" "[I" ∈ kWA := kmem 98 (by decide +kernel) (by decide +kernel)
theorem kf_X5_141 : Cond.fieldLink RX5 141 "KingTies$Lands" "kept" "[I" ∈ kWA := kmem 99 (by decide +kernel) (by decide +kernel)
theorem kf_X1_33 : Cond.fieldLink RX1 33 "KingTies$Lands" "past" "[[I" ∈ kWA := kmem 100 (by decide +kernel) (by decide +kernel)
theorem kf_X5_144 : Cond.fieldLink RX5 144 "KingTies$Lands" "past" "[[I" ∈ kWA := kmem 101 (by decide +kernel) (by decide +kernel)
theorem kc_X4_18 : Cond.classLink RX4 18 "KingTies$Ties" ∈ kWA := kmem 117 (by decide +kernel) (by decide +kernel)
theorem ki_X3 : Cond.instantiable RX3 2 ∈ kWA := kmem 118 (by decide +kernel) (by decide +kernel)
theorem kl_X4_20 : Cond.methodLink RX4 20 yX3_init ∈ kWA := kmem 119 (by decide +kernel) (by decide +kernel)
theorem kl_X3_3 : Cond.methodLink RX3 3 objectInit ∈ kWA := kmem 122 (by decide +kernel) (by decide +kernel)
theorem kl_X3_18 : Cond.methodLink RX3 18 yJ7_fill_53178 ∈ kWA := kmem 123 (by decide +kernel) (by decide +kernel)
theorem kf_X3_9 : Cond.fieldLink RX3 9 "KingTies$Ties" "spouse" "[I" ∈ kWA := kmem 126 (by decide +kernel) (by decide +kernel)
theorem kf_X3_15 : Cond.fieldLink RX3 15 "KingTies$Ties" "given" "[I" ∈ kWA := kmem 127 (by decide +kernel) (by decide +kernel)
theorem kf_X4_97 : Cond.fieldLink RX4 97 "KingTies$Ties" "given" "[I" ∈ kWA := kmem 128 (by decide +kernel) (by decide +kernel)
theorem kc_X4_25 : Cond.classLink RX4 25 "KingTies$Lines" ∈ kWA := kmem 134 (by decide +kernel) (by decide +kernel)
theorem ki_X2 : Cond.instantiable RX2 2 ∈ kWA := kmem 135 (by decide +kernel) (by decide +kernel)
theorem kl_X2_3 : Cond.methodLink RX2 3 objectInit ∈ kWA := kmem 139 (by decide +kernel) (by decide +kernel)
theorem kf_X2_9 : Cond.fieldLink RX2 9 "KingTies$Lines" "first" "[I" ∈ kWA := kmem 140 (by decide +kernel) (by decide +kernel)
theorem kf_X2_15 : Cond.fieldLink RX2 15 "KingTies$Lines" "through" "[I" ∈ kWA := kmem 141 (by decide +kernel) (by decide +kernel)
theorem kl_X4_44 : Cond.methodLink RX4 44 yJ7_fill_53178 ∈ kWA := kmem 147 (by decide +kernel) (by decide +kernel)
theorem kf_X4_40 : Cond.fieldLink RX4 40 "KingTies$World" "kin" "LKingTies$Kin;" ∈ kWA := kmem 148 (by decide +kernel) (by decide +kernel)
theorem kf_X4_12 : Cond.fieldLink RX4 12 "KingTies$World" "lands" "LKingTies$Lands;" ∈ kWA := kmem 149 (by decide +kernel) (by decide +kernel)
theorem kf_X5_81 : Cond.fieldLink RX5 81 "KingTies$World" "lands" "LKingTies$Lands;" ∈ kWA := kmem 150 (by decide +kernel) (by decide +kernel)
theorem kf_X4_21 : Cond.fieldLink RX4 21 "KingTies$World" "ties" "LKingTies$Ties;" ∈ kWA := kmem 151 (by decide +kernel) (by decide +kernel)
theorem kf_X5_56 : Cond.fieldLink RX5 56 "KingTies$World" "ties" "LKingTies$Ties;" ∈ kWA := kmem 152 (by decide +kernel) (by decide +kernel)
theorem kf_X4_28 : Cond.fieldLink RX4 28 "KingTies$World" "lines" "LKingTies$Lines;" ∈ kWA := kmem 153 (by decide +kernel) (by decide +kernel)
theorem kf_X4_32 : Cond.fieldLink RX4 32 "KingTies$World" "death" "[I" ∈ kWA := kmem 154 (by decide +kernel) (by decide +kernel)
theorem kf_X4_36 : Cond.fieldLink RX4 36 "KingTies$World" "year" "I" ∈ kWA := kmem 155 (by decide +kernel) (by decide +kernel)
theorem kf_X5_44 : Cond.fieldLink RX5 44 "KingTies$World" "year" "I" ∈ kWA := kmem 156 (by decide +kernel) (by decide +kernel)
theorem kf_X5_10 : Cond.fieldLink RX5 10 "KingTies" "kin" "LKingTies$Kin;" ∈ kWA := kmem 170 (by decide +kernel) (by decide +kernel)
theorem kf_X5_21 : Cond.fieldLink RX5 21 "KingTies" "now" "LKingTies$World;" ∈ kWA := kmem 171 (by decide +kernel) (by decide +kernel)
theorem kf_X5_25 : Cond.fieldLink RX5 25 "KingTies" "ahead" "LKingTies$World;" ∈ kWA := kmem 172 (by decide +kernel) (by decide +kernel)
theorem kl_L_132 : Cond.methodLink RL 132 yX5_person ∈ kWA := kmem 180 (by decide +kernel) (by decide +kernel)
theorem kl_X5_52 : Cond.methodLink RX5 52 yX5_needPerson ∈ kWA := kmem 184 (by decide +kernel) (by decide +kernel)
theorem kl_X5_188 : Cond.methodLink RX5 188 yX0_knows ∈ kWA := kmem 188 (by decide +kernel) (by decide +kernel)
theorem kc_X5_191 : Cond.classLink RX5 191 "java/lang/IndexOutOfBoundsException" ∈ kWA := kmem 192 (by decide +kernel) (by decide +kernel)
theorem kl_X5_130 : Cond.methodLink RX5 130 yX5_needBelow ∈ kWA := kmem 260 (by decide +kernel) (by decide +kernel)
theorem kl_X5_134 : Cond.methodLink RX5 134 yX4_personFact ∈ kWA := kmem 264 (by decide +kernel) (by decide +kernel)
theorem kl_X4_69 : Cond.methodLink RX4 69 yX4_lives ∈ kWA := kmem 268 (by decide +kernel) (by decide +kernel)
theorem kl_X4_60 : Cond.methodLink RX4 60 yX0_knows ∈ kWA := kmem 272 (by decide +kernel) (by decide +kernel)
theorem kl_X4_76 : Cond.methodLink RX4 76 yX3_spouseOf ∈ kWA := kmem 273 (by decide +kernel) (by decide +kernel)
theorem kl_X3_24 : Cond.methodLink RX3 24 yX3_fits ∈ kWA := kmem 277 (by decide +kernel) (by decide +kernel)
theorem kl_X4_154 : Cond.methodLink RX4 154 yX0_childrenOf ∈ kWA := kmem 280 (by decide +kernel) (by decide +kernel)
theorem kl_X4_157 : Cond.methodLink RX4 157 yX1_numberUnder ∈ kWA := kmem 284 (by decide +kernel) (by decide +kernel)
theorem kl_X4_160 : Cond.methodLink RX4 160 yX1_worthUnder ∈ kWA := kmem 288 (by decide +kernel) (by decide +kernel)
theorem kl_L_126 : Cond.methodLink RL 126 yX5_land ∈ kWA := kmem 292 (by decide +kernel) (by decide +kernel)
theorem kl_X5_95 : Cond.methodLink RX5 95 yX5_needLand ∈ kWA := kmem 296 (by decide +kernel) (by decide +kernel)
theorem kl_X5_196 : Cond.methodLink RX5 196 yX1_knows ∈ kWA := kmem 300 (by decide +kernel) (by decide +kernel)
theorem kl_X5_138 : Cond.methodLink RX5 138 yX4_landFact ∈ kWA := kmem 305 (by decide +kernel) (by decide +kernel)
theorem kl_X4_166 : Cond.methodLink RX4 166 yX4_regentOf ∈ kWA := kmem 309 (by decide +kernel) (by decide +kernel)
theorem kl_X4_72 : Cond.methodLink RX4 72 yX4_age ∈ kWA := kmem 313 (by decide +kernel) (by decide +kernel)
theorem kl_X4_151 : Cond.methodLink RX4 151 yX4_nearestGrown ∈ kWA := kmem 317 (by decide +kernel) (by decide +kernel)
theorem kl_X4_86 : Cond.methodLink RX4 86 yX0_stepsBetween ∈ kWA := kmem 321 (by decide +kernel) (by decide +kernel)
theorem kl_X0_51 : Cond.methodLink RX0 51 yX0_knows ∈ kWA := kmem 325 (by decide +kernel) (by decide +kernel)
theorem kl_X4_147 : Cond.methodLink RX4 147 yX0_isBefore ∈ kWA := kmem 326 (by decide +kernel) (by decide +kernel)
theorem kl_X4_119 : Cond.methodLink RX4 119 yX4_heirOf ∈ kWA := kmem 330 (by decide +kernel) (by decide +kernel)
theorem kl_X4_128 : Cond.methodLink RX4 128 yX4_eldestOfKin ∈ kWA := kmem 334 (by decide +kernel) (by decide +kernel)
theorem kl_X4_131 : Cond.methodLink RX4 131 yX2_clear ∈ kWA := kmem 338 (by decide +kernel) (by decide +kernel)
theorem kl_X2_18 : Cond.methodLink RX2 18 yJ7_fill_53178 ∈ kWA := kmem 342 (by decide +kernel) (by decide +kernel)
theorem kl_X4_134 : Cond.methodLink RX4 134 yX2_firstOf ∈ kWA := kmem 343 (by decide +kernel) (by decide +kernel)
theorem kl_X4_140 : Cond.methodLink RX4 140 yX2_tell ∈ kWA := kmem 347 (by decide +kernel) (by decide +kernel)
theorem kl_X2_24 : Cond.methodLink RX2 24 yX0_knows ∈ kWA := kmem 351 (by decide +kernel) (by decide +kernel)
theorem kl_X2_30 : Cond.methodLink RX2 30 yX0_isAhead ∈ kWA := kmem 352 (by decide +kernel) (by decide +kernel)
theorem kl_X0_55 : Cond.methodLink RX0 55 yX0_isBefore ∈ kWA := kmem 356 (by decide +kernel) (by decide +kernel)
theorem kl_L_129 : Cond.methodLink RL 129 yX5_ruled ∈ kWA := kmem 357 (by decide +kernel) (by decide +kernel)
theorem kl_L_135 : Cond.methodLink RL 135 yX5_related ∈ kWA := kmem 361 (by decide +kernel) (by decide +kernel)
theorem kl_L_123 : Cond.methodLink RL 123 yX5_count ∈ kWA := kmem 365 (by decide +kernel) (by decide +kernel)
theorem kl_X5_151 : Cond.methodLink RX5 151 yX4_countFact ∈ kWA := kmem 369 (by decide +kernel) (by decide +kernel)
theorem kl_X4_172 : Cond.methodLink RX4 172 yX4_living ∈ kWA := kmem 373 (by decide +kernel) (by decide +kernel)
theorem kl_X4_176 : Cond.methodLink RX4 176 yX3_couples ∈ kWA := kmem 377 (by decide +kernel) (by decide +kernel)
theorem kl_X4_179 : Cond.methodLink RX4 179 yX4_rulers ∈ kWA := kmem 381 (by decide +kernel) (by decide +kernel)
theorem kl_L_116 : Cond.methodLink RL 116 yX5_pass ∈ kWA := kmem 385 (by decide +kernel) (by decide +kernel)
theorem kl_X5_154 : Cond.methodLink RX5 154 yX5_needYears ∈ kWA := kmem 389 (by decide +kernel) (by decide +kernel)
theorem kc_X5_28 : Cond.classLink RX5 28 "java/lang/IllegalArgumentException" ∈ kWA := kmem 392 (by decide +kernel) (by decide +kernel)
theorem kl_X5_157 : Cond.methodLink RX5 157 yX4_letPass ∈ kWA := kmem 408 (by decide +kernel) (by decide +kernel)
theorem kl_X4_125 : Cond.methodLink RX4 125 yX4_bury ∈ kWA := kmem 412 (by decide +kernel) (by decide +kernel)
theorem kl_X4_100 : Cond.methodLink RX4 100 yX1_handTo ∈ kWA := kmem 416 (by decide +kernel) (by decide +kernel)
theorem kl_X1_44 : Cond.methodLink RX1 44 arraycopyName ∈ kWA := kmem 420 (by decide +kernel) (by decide +kernel)
theorem kl_X1_50 : Cond.methodLink RX1 50 yJ9_min_7cf53 ∈ kWA := kmem 423 (by decide +kernel) (by decide +kernel)
theorem kl_X4_106 : Cond.methodLink RX4 106 yX3_part ∈ kWA := kmem 426 (by decide +kernel) (by decide +kernel)
theorem kl_X3_28 : Cond.methodLink RX3 28 yX3_spouseOf ∈ kWA := kmem 430 (by decide +kernel) (by decide +kernel)
theorem kl_L_141 : Cond.methodLink RL 141 yX5_rules ∈ kWA := kmem 431 (by decide +kernel) (by decide +kernel)
theorem kl_X5_160 : Cond.methodLink RX5 160 yX4_startFrom ∈ kWA := kmem 435 (by decide +kernel) (by decide +kernel)
theorem kl_X4_50 : Cond.methodLink RX4 50 arraycopyName ∈ kWA := kmem 439 (by decide +kernel) (by decide +kernel)
theorem kl_X4_56 : Cond.methodLink RX4 56 yX1_takeRulers ∈ kWA := kmem 440 (by decide +kernel) (by decide +kernel)
theorem kl_X5_164 : Cond.methodLink RX5 164 yX1_numberUnder ∈ kWA := kmem 444 (by decide +kernel) (by decide +kernel)
theorem kl_L_144 : Cond.methodLink RL 144 yX5_foresee ∈ kWA := kmem 445 (by decide +kernel) (by decide +kernel)
theorem kl_X5_108 : Cond.methodLink RX5 108 yX1_rulerOf ∈ kWA := kmem 449 (by decide +kernel) (by decide +kernel)
theorem kl_X1_56 : Cond.methodLink RX1 56 yX1_knows ∈ kWA := kmem 453 (by decide +kernel) (by decide +kernel)
theorem kl_L_138 : Cond.methodLink RL 138 yX5_best ∈ kWA := kmem 454 (by decide +kernel) (by decide +kernel)
theorem kl_X5_117 : Cond.methodLink RX5 117 yX1_worthUnder ∈ kWA := kmem 458 (by decide +kernel) (by decide +kernel)
theorem kl_X5_102 : Cond.methodLink RX5 102 yX4_mayMarry ∈ kWA := kmem 459 (by decide +kernel) (by decide +kernel)
theorem kl_X4_79 : Cond.methodLink RX4 79 yX4_isFree ∈ kWA := kmem 463 (by decide +kernel) (by decide +kernel)
theorem kl_L_112 : Cond.methodLink RL 112 yX8_pass ∈ kWA := kmem 467 (by decide +kernel) (by decide +kernel)
theorem kl_X8_122 : Cond.methodLink RX8 122 yX8_die ∈ kWA := kmem 471 (by decide +kernel) (by decide +kernel)
theorem kc_X8_7 : Cond.classLink RX8 7 "KingTiesLaw$Person" ∈ kWA := kmem 475 (by decide +kernel) (by decide +kernel)
theorem kl_X8_118 : Cond.methodLink RX8 118 yX8_heir ∈ kWA := kmem 477 (by decide +kernel) (by decide +kernel)
theorem kl_X8_100 : Cond.methodLink RX8 100 yX8_related ∈ kWA := kmem 481 (by decide +kernel) (by decide +kernel)
theorem kl_X8_67 : Cond.methodLink RX8 67 yX8_up ∈ kWA := kmem 485 (by decide +kernel) (by decide +kernel)
theorem kl_X8_71 : Cond.methodLink RX8 71 yJ9_min_7cf53 ∈ kWA := kmem 488 (by decide +kernel) (by decide +kernel)
theorem kl_X8_85 : Cond.methodLink RX8 85 yX8_isBefore ∈ kWA := kmem 489 (by decide +kernel) (by decide +kernel)
theorem kl_X8_96 : Cond.methodLink RX8 96 yX8_first ∈ kWA := kmem 492 (by decide +kernel) (by decide +kernel)
theorem kl_X8_89 : Cond.methodLink RX8 89 yX8_row ∈ kWA := kmem 496 (by decide +kernel) (by decide +kernel)
theorem kl_X8_77 : Cond.methodLink RX8 77 yX8_children ∈ kWA := kmem 500 (by decide +kernel) (by decide +kernel)
theorem kl_X8_81 : Cond.methodLink RX8 81 yX8_isAhead ∈ kWA := kmem 504 (by decide +kernel) (by decide +kernel)
theorem kl_X8_63 : Cond.methodLink RX8 63 yX8_rule ∈ kWA := kmem 507 (by decide +kernel) (by decide +kernel)
theorem kl_X8_114 : Cond.methodLink RX8 114 yX8_part ∈ kWA := kmem 511 (by decide +kernel) (by decide +kernel)
theorem kl_L_147 : Cond.methodLink RL 147 yX8_isSame ∈ kWA := kmem 515 (by decide +kernel) (by decide +kernel)
theorem kl_X8_125 : Cond.methodLink RX8 125 yX8_number ∈ kWA := kmem 519 (by decide +kernel) (by decide +kernel)
theorem kl_X8_127 : Cond.methodLink RX8 127 yX8_rules ∈ kWA := kmem 522 (by decide +kernel) (by decide +kernel)
theorem kl_X8_130 : Cond.methodLink RX8 130 yX8_worth ∈ kWA := kmem 526 (by decide +kernel) (by decide +kernel)
theorem kl_X8_132 : Cond.methodLink RX8 132 yX5_person ∈ kWA := kmem 530 (by decide +kernel) (by decide +kernel)
theorem kl_X8_137 : Cond.methodLink RX8 137 yX8_regent ∈ kWA := kmem 531 (by decide +kernel) (by decide +kernel)
theorem kl_X8_141 : Cond.methodLink RX8 141 yX5_land ∈ kWA := kmem 535 (by decide +kernel) (by decide +kernel)
theorem kl_X8_144 : Cond.methodLink RX8 144 yX5_ruled ∈ kWA := kmem 536 (by decide +kernel) (by decide +kernel)
theorem kl_X8_147 : Cond.methodLink RX8 147 yX5_count ∈ kWA := kmem 537 (by decide +kernel) (by decide +kernel)
theorem kl_X8_151 : Cond.methodLink RX8 151 yX5_mean ∈ kWA := kmem 538 (by decide +kernel) (by decide +kernel)
theorem kl_X5_70 : Cond.methodLink RX5 70 yX4_lives ∈ kWA := kmem 542 (by decide +kernel) (by decide +kernel)
theorem kl_X5_170 : Cond.methodLink RX5 170 yX4_age ∈ kWA := kmem 543 (by decide +kernel) (by decide +kernel)
theorem kl_L_15 : Cond.methodLink RL 15 yL_below ∈ kWA := kmem 544 (by decide +kernel) (by decide +kernel)
theorem kl_L_104 : Cond.methodLink RL 104 yL_cell ∈ kWA := kmem 548 (by decide +kernel) (by decide +kernel)
theorem kl_L_108 : Cond.methodLink RL 108 yL_act ∈ kWA := kmem 552 (by decide +kernel) (by decide +kernel)
theorem kl_L_25 : Cond.methodLink RL 25 yX5_come ∈ kWA := kmem 555 (by decide +kernel) (by decide +kernel)
theorem kl_X5_35 : Cond.methodLink RX5 35 yX0_isFull ∈ kWA := kmem 560 (by decide +kernel) (by decide +kernel)
theorem kc_X5_39 : Cond.classLink RX5 39 "java/lang/IllegalStateException" ∈ kWA := kmem 564 (by decide +kernel) (by decide +kernel)
theorem kl_X5_48 : Cond.methodLink RX5 48 yX0_add ∈ kWA := kmem 580 (by decide +kernel) (by decide +kernel)
theorem kl_X0_34 : Cond.methodLink RX0 34 yX0_isFull ∈ kWA := kmem 584 (by decide +kernel) (by decide +kernel)
theorem kl_X0_38 : Cond.methodLink RX0 38 yX0_stepsThroughParents ∈ kWA := kmem 585 (by decide +kernel) (by decide +kernel)
theorem kl_X0_42 : Cond.methodLink RX0 42 yX0_stepsBetween ∈ kWA := kmem 589 (by decide +kernel) (by decide +kernel)
theorem kl_X0_46 : Cond.methodLink RX0 46 yJ9_min_7cf53 ∈ kWA := kmem 590 (by decide +kernel) (by decide +kernel)
theorem kl_L_31 : Cond.methodLink RL 31 yX8_come ∈ kWA := kmem 591 (by decide +kernel) (by decide +kernel)
theorem ki_X7 : Cond.instantiable RX7 9 ∈ kWA := kmem 595 (by decide +kernel) (by decide +kernel)
theorem kl_X7_1 : Cond.methodLink RX7 1 objectInit ∈ kWA := kmem 599 (by decide +kernel) (by decide +kernel)
theorem kf_X8_22 : Cond.fieldLink RX8 22 "KingTiesLaw$Person" "number" "I" ∈ kWA := kmem 600 (by decide +kernel) (by decide +kernel)
theorem kf_L_34 : Cond.fieldLink RL 34 "KingTiesLaw$Person" "number" "I" ∈ kWA := kmem 601 (by decide +kernel) (by decide +kernel)
theorem kf_X8_26 : Cond.fieldLink RX8 26 "KingTiesLaw$Person" "male" "Z" ∈ kWA := kmem 602 (by decide +kernel) (by decide +kernel)
theorem kf_L_40 : Cond.fieldLink RL 40 "KingTiesLaw$Person" "male" "Z" ∈ kWA := kmem 603 (by decide +kernel) (by decide +kernel)
theorem kf_X8_33 : Cond.fieldLink RX8 33 "KingTiesLaw$Person" "born" "I" ∈ kWA := kmem 604 (by decide +kernel) (by decide +kernel)
theorem kf_X7_7 : Cond.fieldLink RX7 7 "KingTiesLaw$Person" "died" "I" ∈ kWA := kmem 605 (by decide +kernel) (by decide +kernel)
theorem kf_L_75 : Cond.fieldLink RL 75 "KingTiesLaw$Person" "died" "I" ∈ kWA := kmem 606 (by decide +kernel) (by decide +kernel)
theorem kf_X8_93 : Cond.fieldLink RX8 93 "KingTiesLaw$Person" "died" "I" ∈ kWA := kmem 607 (by decide +kernel) (by decide +kernel)
theorem kf_X8_40 : Cond.fieldLink RX8 40 "KingTiesLaw$Person" "mother" "LKingTiesLaw$Person;" ∈ kWA := kmem 608 (by decide +kernel) (by decide +kernel)
theorem kf_X8_47 : Cond.fieldLink RX8 47 "KingTiesLaw$Person" "father" "LKingTiesLaw$Person;" ∈ kWA := kmem 609 (by decide +kernel) (by decide +kernel)
theorem kf_X8_44 : Cond.fieldLink RX8 44 "KingTiesLaw$Person" "with" "LKingTiesLaw$Person;" ∈ kWA := kmem 610 (by decide +kernel) (by decide +kernel)
theorem kf_L_44 : Cond.fieldLink RL 44 "KingTiesLaw$Person" "with" "LKingTiesLaw$Person;" ∈ kWA := kmem 611 (by decide +kernel) (by decide +kernel)
theorem kf_X8_107 : Cond.fieldLink RX8 107 "KingTiesLaw$Person" "given" "LKingTiesLaw$Land;" ∈ kWA := kmem 612 (by decide +kernel) (by decide +kernel)
theorem kf_X8_111 : Cond.fieldLink RX8 111 "KingTiesLaw$Person" "giver" "LKingTiesLaw$Person;" ∈ kWA := kmem 613 (by decide +kernel) (by decide +kernel)
theorem kl_L_48 : Cond.methodLink RL 48 yX8_bear ∈ kWA := kmem 633 (by decide +kernel) (by decide +kernel)
theorem kl_X8_36 : Cond.methodLink RX8 36 yX8_come ∈ kWA := kmem 637 (by decide +kernel) (by decide +kernel)
theorem kl_L_52 : Cond.methodLink RL 52 yX5_bear ∈ kWA := kmem 638 (by decide +kernel) (by decide +kernel)
theorem kl_X5_60 : Cond.methodLink RX5 60 yX3_spouseOf ∈ kWA := kmem 642 (by decide +kernel) (by decide +kernel)
theorem kl_L_55 : Cond.methodLink RL 55 yX8_can ∈ kWA := kmem 644 (by decide +kernel) (by decide +kernel)
theorem kl_X8_103 : Cond.methodLink RX8 103 yX8_isFree ∈ kWA := kmem 648 (by decide +kernel) (by decide +kernel)
theorem kl_L_64 : Cond.methodLink RL 64 yX8_marry ∈ kWA := kmem 652 (by decide +kernel) (by decide +kernel)
theorem kl_L_68 : Cond.methodLink RL 68 yX5_marry ∈ kWA := kmem 656 (by decide +kernel) (by decide +kernel)
theorem kl_X5_113 : Cond.methodLink RX5 113 yX4_wed ∈ kWA := kmem 662 (by decide +kernel) (by decide +kernel)
theorem kl_X4_90 : Cond.methodLink RX4 90 yX3_bind ∈ kWA := kmem 666 (by decide +kernel) (by decide +kernel)
theorem kl_X4_94 : Cond.methodLink RX4 94 yX1_rulerOf ∈ kWA := kmem 670 (by decide +kernel) (by decide +kernel)
theorem kl_L_71 : Cond.methodLink RL 71 yX8_worth ∈ kWA := kmem 671 (by decide +kernel) (by decide +kernel)
theorem kl_L_78 : Cond.methodLink RL 78 yX8_found ∈ kWA := kmem 672 (by decide +kernel) (by decide +kernel)
theorem kc_X8_15 : Cond.classLink RX8 15 "KingTiesLaw$Land" ∈ kWA := kmem 676 (by decide +kernel) (by decide +kernel)
theorem ki_X6 : Cond.instantiable RX6 4 ∈ kWA := kmem 678 (by decide +kernel) (by decide +kernel)
theorem kl_X6_1 : Cond.methodLink RX6 1 objectInit ∈ kWA := kmem 682 (by decide +kernel) (by decide +kernel)
theorem kc_X6_7 : Cond.classLink RX6 7 "KingTiesLaw$Person" ∈ kWA := kmem 683 (by decide +kernel) (by decide +kernel)
theorem kf_X8_57 : Cond.fieldLink RX8 57 "KingTiesLaw$Land" "worth" "I" ∈ kWA := kmem 684 (by decide +kernel) (by decide +kernel)
theorem kf_L_97 : Cond.fieldLink RL 97 "KingTiesLaw$Land" "law" "I" ∈ kWA := kmem 685 (by decide +kernel) (by decide +kernel)
theorem kf_X8_60 : Cond.fieldLink RX8 60 "KingTiesLaw$Land" "law" "I" ∈ kWA := kmem 686 (by decide +kernel) (by decide +kernel)
theorem kf_X8_50 : Cond.fieldLink RX8 50 "KingTiesLaw$Land" "ruler" "LKingTiesLaw$Person;" ∈ kWA := kmem 687 (by decide +kernel) (by decide +kernel)
theorem kf_L_59 : Cond.fieldLink RL 59 "KingTiesLaw$Land" "ruler" "LKingTiesLaw$Person;" ∈ kWA := kmem 688 (by decide +kernel) (by decide +kernel)
theorem kf_X6_9 : Cond.fieldLink RX6 9 "KingTiesLaw$Land" "had" "[LKingTiesLaw$Person;" ∈ kWA := kmem 689 (by decide +kernel) (by decide +kernel)
theorem kf_X8_53 : Cond.fieldLink RX8 53 "KingTiesLaw$Land" "had" "[LKingTiesLaw$Person;" ∈ kWA := kmem 690 (by decide +kernel) (by decide +kernel)
theorem kl_L_82 : Cond.methodLink RL 82 yX8_number ∈ kWA := kmem 700 (by decide +kernel) (by decide +kernel)
theorem kl_L_84 : Cond.methodLink RL 84 yX5_found ∈ kWA := kmem 701 (by decide +kernel) (by decide +kernel)
theorem kl_X5_78 : Cond.methodLink RX5 78 yX5_needLaw ∈ kWA := kmem 706 (by decide +kernel) (by decide +kernel)
theorem kl_X5_85 : Cond.methodLink RX5 85 yX1_isFull ∈ kWA := kmem 710 (by decide +kernel) (by decide +kernel)
theorem kl_X5_92 : Cond.methodLink RX5 92 yX1_add ∈ kWA := kmem 716 (by decide +kernel) (by decide +kernel)
theorem kl_X1_36 : Cond.methodLink RX1 36 yX1_isFull ∈ kWA := kmem 720 (by decide +kernel) (by decide +kernel)
theorem kl_X1_40 : Cond.methodLink RX1 40 yX1_handTo ∈ kWA := kmem 721 (by decide +kernel) (by decide +kernel)
theorem kl_L_86 : Cond.methodLink RL 86 yX5_annul ∈ kWA := kmem 722 (by decide +kernel) (by decide +kernel)
theorem kl_X5_122 : Cond.methodLink RX5 122 yX4_separate ∈ kWA := kmem 727 (by decide +kernel) (by decide +kernel)
theorem kl_X4_103 : Cond.methodLink RX4 103 yX3_givenBy ∈ kWA := kmem 731 (by decide +kernel) (by decide +kernel)
theorem kl_L_90 : Cond.methodLink RL 90 yX8_annul ∈ kWA := kmem 735 (by decide +kernel) (by decide +kernel)
theorem kl_L_92 : Cond.methodLink RL 92 yX5_die ∈ kWA := kmem 739 (by decide +kernel) (by decide +kernel)
theorem kl_X5_127 : Cond.methodLink RX5 127 yX4_bury ∈ kWA := kmem 744 (by decide +kernel) (by decide +kernel)
theorem kl_L_95 : Cond.methodLink RL 95 yX8_die ∈ kWA := kmem 745 (by decide +kernel) (by decide +kernel)
theorem kl_L_100 : Cond.methodLink RL 100 yX5_setLaw ∈ kWA := kmem 746 (by decide +kernel) (by decide +kernel)
theorem kl_L_119 : Cond.methodLink RL 119 yL_build ∈ kWA := kmem 750 (by decide +kernel) (by decide +kernel)
theorem kc_L_10 : Cond.classLink RL 10 "KingTiesLaw$Sim" ∈ kWA := kmem 753 (by decide +kernel) (by decide +kernel)
theorem ki_X8 : Cond.instantiable RX8 3 ∈ kWA := kmem 754 (by decide +kernel) (by decide +kernel)
theorem kl_X8_1 : Cond.methodLink RX8 1 objectInit ∈ kWA := kmem 758 (by decide +kernel) (by decide +kernel)
theorem kf_X8_9 : Cond.fieldLink RX8 9 "KingTiesLaw$Sim" "persons" "[LKingTiesLaw$Person;" ∈ kWA := kmem 759 (by decide +kernel) (by decide +kernel)
theorem kf_L_9 : Cond.fieldLink RL 9 "KingTiesLaw$Sim" "persons" "[LKingTiesLaw$Person;" ∈ kWA := kmem 760 (by decide +kernel) (by decide +kernel)
theorem kf_X8_17 : Cond.fieldLink RX8 17 "KingTiesLaw$Sim" "lands" "[LKingTiesLaw$Land;" ∈ kWA := kmem 761 (by decide +kernel) (by decide +kernel)
theorem kf_L_21 : Cond.fieldLink RL 21 "KingTiesLaw$Sim" "lands" "[LKingTiesLaw$Land;" ∈ kWA := kmem 762 (by decide +kernel) (by decide +kernel)
theorem kf_X8_30 : Cond.fieldLink RX8 30 "KingTiesLaw$Sim" "year" "I" ∈ kWA := kmem 763 (by decide +kernel) (by decide +kernel)
theorem kz_L : Cond.initialized RL ∈ kWA := kmem 10 (by decide +kernel) (by decide +kernel)
theorem kz_X5 : Cond.initialized RX5 ∈ kWA := kmem 11 (by decide +kernel) (by decide +kernel)
theorem kz_X0 : Cond.initialized RX0 ∈ kWA := kmem 12 (by decide +kernel) (by decide +kernel)
theorem kz_X4 : Cond.initialized RX4 ∈ kWA := kmem 13 (by decide +kernel) (by decide +kernel)
theorem kz_X1 : Cond.initialized RX1 ∈ kWA := kmem 14 (by decide +kernel) (by decide +kernel)
theorem kz_X3 : Cond.initialized RX3 ∈ kWA := kmem 15 (by decide +kernel) (by decide +kernel)
theorem kz_J7 : Cond.initialized RJ7 ∈ kWA := kmem 16 (by decide +kernel) (by decide +kernel)
theorem kz_X2 : Cond.initialized RX2 ∈ kWA := kmem 17 (by decide +kernel) (by decide +kernel)
theorem kz_X8 : Cond.initialized RX8 ∈ kWA := kmem 18 (by decide +kernel) (by decide +kernel)
theorem kz_Throwable : Cond.initialized "java/lang/Throwable" ∈ kWA := kmem 19 (by decide +kernel) (by decide +kernel)
theorem kz_Exception : Cond.initialized "java/lang/Exception" ∈ kWA := kmem 20 (by decide +kernel) (by decide +kernel)
theorem kz_RuntimeException : Cond.initialized "java/lang/RuntimeException" ∈ kWA := kmem 21 (by decide +kernel) (by decide +kernel)
theorem kz_IllegalArgumentException : Cond.initialized "java/lang/IllegalArgumentException" ∈ kWA := kmem 22 (by decide +kernel) (by decide +kernel)
theorem kz_IllegalStateException : Cond.initialized "java/lang/IllegalStateException" ∈ kWA := kmem 23 (by decide +kernel) (by decide +kernel)
theorem kz_Math : Cond.initialized "java/lang/Math" ∈ kWA := kmem 24 (by decide +kernel) (by decide +kernel)
theorem kz_X7 : Cond.initialized RX7 ∈ kWA := kmem 25 (by decide +kernel) (by decide +kernel)
theorem kz_IndexOutOfBoundsException : Cond.initialized "java/lang/IndexOutOfBoundsException" ∈ kWA := kmem 26 (by decide +kernel) (by decide +kernel)
theorem kz_System : Cond.initialized "java/lang/System" ∈ kWA := kmem 27 (by decide +kernel) (by decide +kernel)
theorem kz_X6 : Cond.initialized RX6 ∈ kWA := kmem 28 (by decide +kernel) (by decide +kernel)
theorem kA_boolean : Cond.arrayClass .boolean ∈ kWA := kmem 72 (by decide +kernel) (by decide +kernel)
theorem kA_int : Cond.arrayClass .int ∈ kWA := kmem 73 (by decide +kernel) (by decide +kernel)
theorem kA_byte : Cond.arrayClass .byte ∈ kWA := kmem 259 (by decide +kernel) (by decide +kernel)
theorem kd_yX5_needPerson : Cond.code yX5_needPerson cX5_needPerson 2 none ∈ kWA := kmem 187 (by decide +kernel) (by decide +kernel)
theorem kinst_yX5_needPerson : Cond.instanceMethod yX5_needPerson ∈ kWA := kmem 186 (by decide +kernel) (by decide +kernel)
theorem ksel_yX5_needPerson : Cond.selects RX5 yX5_needPerson yX5_needPerson ∈ kWA := kmem 0 (by decide +kernel) (by decide +kernel)
theorem kd_yX5_needLand : Cond.code yX5_needLand cX5_needLand 2 none ∈ kWA := kmem 299 (by decide +kernel) (by decide +kernel)
theorem kinst_yX5_needLand : Cond.instanceMethod yX5_needLand ∈ kWA := kmem 298 (by decide +kernel) (by decide +kernel)
theorem ksel_yX5_needLand : Cond.selects RX5 yX5_needLand yX5_needLand ∈ kWA := kmem 2 (by decide +kernel) (by decide +kernel)
theorem kd_yX4_regentOf : Cond.code yX4_regentOf cX4_regentOf 2 (some .int) ∈ kWA := kmem 312 (by decide +kernel) (by decide +kernel)
theorem kinst_yX4_regentOf : Cond.instanceMethod yX4_regentOf ∈ kWA := kmem 311 (by decide +kernel) (by decide +kernel)
theorem ksel_yX4_regentOf : Cond.selects RX4 yX4_regentOf yX4_regentOf ∈ kWA := kmem 3 (by decide +kernel) (by decide +kernel)
theorem kd_yX4_nearestGrown : Cond.code yX4_nearestGrown cX4_nearestGrown 6 (some .int) ∈ kWA := kmem 320 (by decide +kernel) (by decide +kernel)
theorem kinst_yX4_nearestGrown : Cond.instanceMethod yX4_nearestGrown ∈ kWA := kmem 319 (by decide +kernel) (by decide +kernel)
theorem ksel_yX4_nearestGrown : Cond.selects RX4 yX4_nearestGrown yX4_nearestGrown ∈ kWA := kmem 4 (by decide +kernel) (by decide +kernel)
theorem kd_yX4_eldestOfKin : Cond.code yX4_eldestOfKin cX4_eldestOfKin 4 (some .int) ∈ kWA := kmem 337 (by decide +kernel) (by decide +kernel)
theorem kinst_yX4_eldestOfKin : Cond.instanceMethod yX4_eldestOfKin ∈ kWA := kmem 336 (by decide +kernel) (by decide +kernel)
theorem ksel_yX4_eldestOfKin : Cond.selects RX4 yX4_eldestOfKin yX4_eldestOfKin ∈ kWA := kmem 5 (by decide +kernel) (by decide +kernel)
theorem kd_yX4_living : Cond.code yX4_living cX4_living 3 (some .int) ∈ kWA := kmem 376 (by decide +kernel) (by decide +kernel)
theorem kinst_yX4_living : Cond.instanceMethod yX4_living ∈ kWA := kmem 375 (by decide +kernel) (by decide +kernel)
theorem ksel_yX4_living : Cond.selects RX4 yX4_living yX4_living ∈ kWA := kmem 6 (by decide +kernel) (by decide +kernel)
theorem kd_yX4_rulers : Cond.code yX4_rulers cX4_rulers 4 (some .int) ∈ kWA := kmem 384 (by decide +kernel) (by decide +kernel)
theorem kinst_yX4_rulers : Cond.instanceMethod yX4_rulers ∈ kWA := kmem 383 (by decide +kernel) (by decide +kernel)
theorem ksel_yX4_rulers : Cond.selects RX4 yX4_rulers yX4_rulers ∈ kWA := kmem 7 (by decide +kernel) (by decide +kernel)
theorem kd_yX4_isFree : Cond.code yX4_isFree cX4_isFree 2 (some .boolean) ∈ kWA := kmem 466 (by decide +kernel) (by decide +kernel)
theorem kinst_yX4_isFree : Cond.instanceMethod yX4_isFree ∈ kWA := kmem 465 (by decide +kernel) (by decide +kernel)
theorem ksel_yX4_isFree : Cond.selects RX4 yX4_isFree yX4_isFree ∈ kWA := kmem 8 (by decide +kernel) (by decide +kernel)
theorem kd_yX0_stepsThroughParents : Cond.code yX0_stepsThroughParents cX0_stepsThroughParents 6 (some .int) ∈ kWA := kmem 588 (by decide +kernel) (by decide +kernel)
theorem kinst_yX0_stepsThroughParents : Cond.instanceMethod yX0_stepsThroughParents ∈ kWA := kmem 587 (by decide +kernel) (by decide +kernel)
theorem ksel_yX0_stepsThroughParents : Cond.selects RX0 yX0_stepsThroughParents yX0_stepsThroughParents ∈ kWA := kmem 9 (by decide +kernel) (by decide +kernel)
theorem kd_yX5_init : Cond.code yX5_init cX5_init 1 none ∈ kWA := kmem 33 (by decide +kernel) (by decide +kernel)
theorem kinst_yX5_init : Cond.instanceMethod yX5_init ∈ kWA := kmem 32 (by decide +kernel) (by decide +kernel)
theorem kd_objectInit : Cond.code objectInit ⟨#[0xb1]⟩ 1 none ∈ kWA := kmem 36 (by decide +kernel) (by decide +kernel)
theorem kinst_objectInit : Cond.instanceMethod objectInit ∈ kWA := kmem 35 (by decide +kernel) (by decide +kernel)
theorem kd_yX0_init : Cond.code yX0_init cX0_init 1 none ∈ kWA := kmem 41 (by decide +kernel) (by decide +kernel)
theorem kinst_yX0_init : Cond.instanceMethod yX0_init ∈ kWA := kmem 40 (by decide +kernel) (by decide +kernel)
theorem kd_yX4_init : Cond.code yX4_init cX4_init 2 none ∈ kWA := kmem 78 (by decide +kernel) (by decide +kernel)
theorem kinst_yX4_init : Cond.instanceMethod yX4_init ∈ kWA := kmem 77 (by decide +kernel) (by decide +kernel)
theorem kd_yX1_init : Cond.code yX1_init cX1_init 1 none ∈ kWA := kmem 84 (by decide +kernel) (by decide +kernel)
theorem kinst_yX1_init : Cond.instanceMethod yX1_init ∈ kWA := kmem 83 (by decide +kernel) (by decide +kernel)
theorem kd_yX3_init : Cond.code yX3_init cX3_init 1 none ∈ kWA := kmem 121 (by decide +kernel) (by decide +kernel)
theorem kinst_yX3_init : Cond.instanceMethod yX3_init ∈ kWA := kmem 120 (by decide +kernel) (by decide +kernel)
theorem kd_yJ7_fill_53178 : Cond.code yJ7_fill_53178 cJ7_fill_53178 4 none ∈ kWA := kmem 125 (by decide +kernel) (by decide +kernel)
theorem kstatic_yJ7_fill_53178 : Cond.static yJ7_fill_53178 ∈ kWA := kmem 124 (by decide +kernel) (by decide +kernel)
theorem kd_yX2_init : Cond.code yX2_init cX2_init 1 none ∈ kWA := kmem 138 (by decide +kernel) (by decide +kernel)
theorem kinst_yX2_init : Cond.instanceMethod yX2_init ∈ kWA := kmem 137 (by decide +kernel) (by decide +kernel)
theorem kd_yX5_person : Cond.code yX5_person cX5_person 3 (some .int) ∈ kWA := kmem 183 (by decide +kernel) (by decide +kernel)
theorem kinst_yX5_person : Cond.instanceMethod yX5_person ∈ kWA := kmem 181 (by decide +kernel) (by decide +kernel)
theorem ksel_yX5_person : Cond.selects RX5 yX5_person yX5_person ∈ kWA := kmem 182 (by decide +kernel) (by decide +kernel)
theorem kd_yX0_knows : Cond.code yX0_knows cX0_knows 2 (some .boolean) ∈ kWA := kmem 191 (by decide +kernel) (by decide +kernel)
theorem kinst_yX0_knows : Cond.instanceMethod yX0_knows ∈ kWA := kmem 189 (by decide +kernel) (by decide +kernel)
theorem ksel_yX0_knows : Cond.selects RX0 yX0_knows yX0_knows ∈ kWA := kmem 190 (by decide +kernel) (by decide +kernel)
theorem kd_yX5_needBelow : Cond.code yX5_needBelow cX5_needBelow 2 none ∈ kWA := kmem 262 (by decide +kernel) (by decide +kernel)
theorem kstatic_yX5_needBelow : Cond.static yX5_needBelow ∈ kWA := kmem 261 (by decide +kernel) (by decide +kernel)
theorem kd_yX4_personFact : Cond.code yX4_personFact cX4_personFact 3 (some .int) ∈ kWA := kmem 267 (by decide +kernel) (by decide +kernel)
theorem kinst_yX4_personFact : Cond.instanceMethod yX4_personFact ∈ kWA := kmem 265 (by decide +kernel) (by decide +kernel)
theorem ksel_yX4_personFact : Cond.selects RX4 yX4_personFact yX4_personFact ∈ kWA := kmem 266 (by decide +kernel) (by decide +kernel)
theorem kd_yX4_lives : Cond.code yX4_lives cX4_lives 2 (some .boolean) ∈ kWA := kmem 271 (by decide +kernel) (by decide +kernel)
theorem kinst_yX4_lives : Cond.instanceMethod yX4_lives ∈ kWA := kmem 269 (by decide +kernel) (by decide +kernel)
theorem ksel_yX4_lives : Cond.selects RX4 yX4_lives yX4_lives ∈ kWA := kmem 270 (by decide +kernel) (by decide +kernel)
theorem kd_yX3_spouseOf : Cond.code yX3_spouseOf cX3_spouseOf 2 (some .int) ∈ kWA := kmem 276 (by decide +kernel) (by decide +kernel)
theorem kinst_yX3_spouseOf : Cond.instanceMethod yX3_spouseOf ∈ kWA := kmem 274 (by decide +kernel) (by decide +kernel)
theorem ksel_yX3_spouseOf : Cond.selects RX3 yX3_spouseOf yX3_spouseOf ∈ kWA := kmem 275 (by decide +kernel) (by decide +kernel)
theorem kd_yX3_fits : Cond.code yX3_fits cX3_fits 1 (some .boolean) ∈ kWA := kmem 279 (by decide +kernel) (by decide +kernel)
theorem kstatic_yX3_fits : Cond.static yX3_fits ∈ kWA := kmem 278 (by decide +kernel) (by decide +kernel)
theorem kd_yX0_childrenOf : Cond.code yX0_childrenOf cX0_childrenOf 4 (some .int) ∈ kWA := kmem 283 (by decide +kernel) (by decide +kernel)
theorem kinst_yX0_childrenOf : Cond.instanceMethod yX0_childrenOf ∈ kWA := kmem 281 (by decide +kernel) (by decide +kernel)
theorem ksel_yX0_childrenOf : Cond.selects RX0 yX0_childrenOf yX0_childrenOf ∈ kWA := kmem 282 (by decide +kernel) (by decide +kernel)
theorem kd_yX1_numberUnder : Cond.code yX1_numberUnder cX1_numberUnder 4 (some .int) ∈ kWA := kmem 287 (by decide +kernel) (by decide +kernel)
theorem kinst_yX1_numberUnder : Cond.instanceMethod yX1_numberUnder ∈ kWA := kmem 285 (by decide +kernel) (by decide +kernel)
theorem ksel_yX1_numberUnder : Cond.selects RX1 yX1_numberUnder yX1_numberUnder ∈ kWA := kmem 286 (by decide +kernel) (by decide +kernel)
theorem kd_yX1_worthUnder : Cond.code yX1_worthUnder cX1_worthUnder 4 (some .int) ∈ kWA := kmem 291 (by decide +kernel) (by decide +kernel)
theorem kinst_yX1_worthUnder : Cond.instanceMethod yX1_worthUnder ∈ kWA := kmem 289 (by decide +kernel) (by decide +kernel)
theorem ksel_yX1_worthUnder : Cond.selects RX1 yX1_worthUnder yX1_worthUnder ∈ kWA := kmem 290 (by decide +kernel) (by decide +kernel)
theorem kd_yX5_land : Cond.code yX5_land cX5_land 3 (some .int) ∈ kWA := kmem 295 (by decide +kernel) (by decide +kernel)
theorem kinst_yX5_land : Cond.instanceMethod yX5_land ∈ kWA := kmem 293 (by decide +kernel) (by decide +kernel)
theorem ksel_yX5_land : Cond.selects RX5 yX5_land yX5_land ∈ kWA := kmem 294 (by decide +kernel) (by decide +kernel)
theorem kd_yX1_knows : Cond.code yX1_knows cX1_knows 2 (some .boolean) ∈ kWA := kmem 303 (by decide +kernel) (by decide +kernel)
theorem kinst_yX1_knows : Cond.instanceMethod yX1_knows ∈ kWA := kmem 301 (by decide +kernel) (by decide +kernel)
theorem ksel_yX1_knows : Cond.selects RX1 yX1_knows yX1_knows ∈ kWA := kmem 302 (by decide +kernel) (by decide +kernel)
theorem kd_yX4_landFact : Cond.code yX4_landFact cX4_landFact 4 (some .int) ∈ kWA := kmem 308 (by decide +kernel) (by decide +kernel)
theorem kinst_yX4_landFact : Cond.instanceMethod yX4_landFact ∈ kWA := kmem 306 (by decide +kernel) (by decide +kernel)
theorem ksel_yX4_landFact : Cond.selects RX4 yX4_landFact yX4_landFact ∈ kWA := kmem 307 (by decide +kernel) (by decide +kernel)
theorem kd_yX4_age : Cond.code yX4_age cX4_age 2 (some .int) ∈ kWA := kmem 316 (by decide +kernel) (by decide +kernel)
theorem kinst_yX4_age : Cond.instanceMethod yX4_age ∈ kWA := kmem 314 (by decide +kernel) (by decide +kernel)
theorem ksel_yX4_age : Cond.selects RX4 yX4_age yX4_age ∈ kWA := kmem 315 (by decide +kernel) (by decide +kernel)
theorem kd_yX0_stepsBetween : Cond.code yX0_stepsBetween cX0_stepsBetween 3 (some .int) ∈ kWA := kmem 324 (by decide +kernel) (by decide +kernel)
theorem kinst_yX0_stepsBetween : Cond.instanceMethod yX0_stepsBetween ∈ kWA := kmem 322 (by decide +kernel) (by decide +kernel)
theorem ksel_yX0_stepsBetween : Cond.selects RX0 yX0_stepsBetween yX0_stepsBetween ∈ kWA := kmem 323 (by decide +kernel) (by decide +kernel)
theorem kd_yX0_isBefore : Cond.code yX0_isBefore cX0_isBefore 3 (some .boolean) ∈ kWA := kmem 329 (by decide +kernel) (by decide +kernel)
theorem kinst_yX0_isBefore : Cond.instanceMethod yX0_isBefore ∈ kWA := kmem 327 (by decide +kernel) (by decide +kernel)
theorem ksel_yX0_isBefore : Cond.selects RX0 yX0_isBefore yX0_isBefore ∈ kWA := kmem 328 (by decide +kernel) (by decide +kernel)
theorem kd_yX4_heirOf : Cond.code yX4_heirOf cX4_heirOf 5 (some .int) ∈ kWA := kmem 333 (by decide +kernel) (by decide +kernel)
theorem kinst_yX4_heirOf : Cond.instanceMethod yX4_heirOf ∈ kWA := kmem 331 (by decide +kernel) (by decide +kernel)
theorem ksel_yX4_heirOf : Cond.selects RX4 yX4_heirOf yX4_heirOf ∈ kWA := kmem 332 (by decide +kernel) (by decide +kernel)
theorem kd_yX2_clear : Cond.code yX2_clear cX2_clear 1 none ∈ kWA := kmem 341 (by decide +kernel) (by decide +kernel)
theorem kinst_yX2_clear : Cond.instanceMethod yX2_clear ∈ kWA := kmem 339 (by decide +kernel) (by decide +kernel)
theorem ksel_yX2_clear : Cond.selects RX2 yX2_clear yX2_clear ∈ kWA := kmem 340 (by decide +kernel) (by decide +kernel)
theorem kd_yX2_firstOf : Cond.code yX2_firstOf cX2_firstOf 2 (some .int) ∈ kWA := kmem 346 (by decide +kernel) (by decide +kernel)
theorem kinst_yX2_firstOf : Cond.instanceMethod yX2_firstOf ∈ kWA := kmem 344 (by decide +kernel) (by decide +kernel)
theorem ksel_yX2_firstOf : Cond.selects RX2 yX2_firstOf yX2_firstOf ∈ kWA := kmem 345 (by decide +kernel) (by decide +kernel)
theorem kd_yX2_tell : Cond.code yX2_tell cX2_tell 7 none ∈ kWA := kmem 350 (by decide +kernel) (by decide +kernel)
theorem kinst_yX2_tell : Cond.instanceMethod yX2_tell ∈ kWA := kmem 348 (by decide +kernel) (by decide +kernel)
theorem ksel_yX2_tell : Cond.selects RX2 yX2_tell yX2_tell ∈ kWA := kmem 349 (by decide +kernel) (by decide +kernel)
theorem kd_yX0_isAhead : Cond.code yX0_isAhead cX0_isAhead 4 (some .boolean) ∈ kWA := kmem 355 (by decide +kernel) (by decide +kernel)
theorem kinst_yX0_isAhead : Cond.instanceMethod yX0_isAhead ∈ kWA := kmem 353 (by decide +kernel) (by decide +kernel)
theorem ksel_yX0_isAhead : Cond.selects RX0 yX0_isAhead yX0_isAhead ∈ kWA := kmem 354 (by decide +kernel) (by decide +kernel)
theorem kd_yX5_ruled : Cond.code yX5_ruled cX5_ruled 3 (some .int) ∈ kWA := kmem 360 (by decide +kernel) (by decide +kernel)
theorem kinst_yX5_ruled : Cond.instanceMethod yX5_ruled ∈ kWA := kmem 358 (by decide +kernel) (by decide +kernel)
theorem ksel_yX5_ruled : Cond.selects RX5 yX5_ruled yX5_ruled ∈ kWA := kmem 359 (by decide +kernel) (by decide +kernel)
theorem kd_yX5_related : Cond.code yX5_related cX5_related 3 (some .int) ∈ kWA := kmem 364 (by decide +kernel) (by decide +kernel)
theorem kinst_yX5_related : Cond.instanceMethod yX5_related ∈ kWA := kmem 362 (by decide +kernel) (by decide +kernel)
theorem ksel_yX5_related : Cond.selects RX5 yX5_related yX5_related ∈ kWA := kmem 363 (by decide +kernel) (by decide +kernel)
theorem kd_yX5_count : Cond.code yX5_count cX5_count 2 (some .int) ∈ kWA := kmem 368 (by decide +kernel) (by decide +kernel)
theorem kinst_yX5_count : Cond.instanceMethod yX5_count ∈ kWA := kmem 366 (by decide +kernel) (by decide +kernel)
theorem ksel_yX5_count : Cond.selects RX5 yX5_count yX5_count ∈ kWA := kmem 367 (by decide +kernel) (by decide +kernel)
theorem kd_yX4_countFact : Cond.code yX4_countFact cX4_countFact 2 (some .int) ∈ kWA := kmem 372 (by decide +kernel) (by decide +kernel)
theorem kinst_yX4_countFact : Cond.instanceMethod yX4_countFact ∈ kWA := kmem 370 (by decide +kernel) (by decide +kernel)
theorem ksel_yX4_countFact : Cond.selects RX4 yX4_countFact yX4_countFact ∈ kWA := kmem 371 (by decide +kernel) (by decide +kernel)
theorem kd_yX3_couples : Cond.code yX3_couples cX3_couples 3 (some .int) ∈ kWA := kmem 380 (by decide +kernel) (by decide +kernel)
theorem kinst_yX3_couples : Cond.instanceMethod yX3_couples ∈ kWA := kmem 378 (by decide +kernel) (by decide +kernel)
theorem ksel_yX3_couples : Cond.selects RX3 yX3_couples yX3_couples ∈ kWA := kmem 379 (by decide +kernel) (by decide +kernel)
theorem kd_yX5_pass : Cond.code yX5_pass cX5_pass 2 (some .int) ∈ kWA := kmem 388 (by decide +kernel) (by decide +kernel)
theorem kinst_yX5_pass : Cond.instanceMethod yX5_pass ∈ kWA := kmem 386 (by decide +kernel) (by decide +kernel)
theorem ksel_yX5_pass : Cond.selects RX5 yX5_pass yX5_pass ∈ kWA := kmem 387 (by decide +kernel) (by decide +kernel)
theorem kd_yX5_needYears : Cond.code yX5_needYears cX5_needYears 1 none ∈ kWA := kmem 391 (by decide +kernel) (by decide +kernel)
theorem kstatic_yX5_needYears : Cond.static yX5_needYears ∈ kWA := kmem 390 (by decide +kernel) (by decide +kernel)
theorem kd_yX4_letPass : Cond.code yX4_letPass cX4_letPass 5 (some .int) ∈ kWA := kmem 411 (by decide +kernel) (by decide +kernel)
theorem kinst_yX4_letPass : Cond.instanceMethod yX4_letPass ∈ kWA := kmem 409 (by decide +kernel) (by decide +kernel)
theorem ksel_yX4_letPass : Cond.selects RX4 yX4_letPass yX4_letPass ∈ kWA := kmem 410 (by decide +kernel) (by decide +kernel)
theorem kd_yX4_bury : Cond.code yX4_bury cX4_bury 4 (some .int) ∈ kWA := kmem 415 (by decide +kernel) (by decide +kernel)
theorem kinst_yX4_bury : Cond.instanceMethod yX4_bury ∈ kWA := kmem 413 (by decide +kernel) (by decide +kernel)
theorem ksel_yX4_bury : Cond.selects RX4 yX4_bury yX4_bury ∈ kWA := kmem 414 (by decide +kernel) (by decide +kernel)
theorem kd_yX1_handTo : Cond.code yX1_handTo cX1_handTo 3 none ∈ kWA := kmem 419 (by decide +kernel) (by decide +kernel)
theorem kinst_yX1_handTo : Cond.instanceMethod yX1_handTo ∈ kWA := kmem 417 (by decide +kernel) (by decide +kernel)
theorem ksel_yX1_handTo : Cond.selects RX1 yX1_handTo yX1_handTo ∈ kWA := kmem 418 (by decide +kernel) (by decide +kernel)
theorem kstatic_arraycopyName : Cond.static arraycopyName ∈ kWA := kmem 421 (by decide +kernel) (by decide +kernel)
theorem knative_arraycopyName : Cond.native arraycopyName ∈ kWA := kmem 422 (by decide +kernel) (by decide +kernel)
theorem kd_yJ9_min_7cf53 : Cond.code yJ9_min_7cf53 cJ9_min_7cf53 2 (some .int) ∈ kWA := kmem 425 (by decide +kernel) (by decide +kernel)
theorem kstatic_yJ9_min_7cf53 : Cond.static yJ9_min_7cf53 ∈ kWA := kmem 424 (by decide +kernel) (by decide +kernel)
theorem kd_yX3_part : Cond.code yX3_part cX3_part 3 none ∈ kWA := kmem 429 (by decide +kernel) (by decide +kernel)
theorem kinst_yX3_part : Cond.instanceMethod yX3_part ∈ kWA := kmem 427 (by decide +kernel) (by decide +kernel)
theorem ksel_yX3_part : Cond.selects RX3 yX3_part yX3_part ∈ kWA := kmem 428 (by decide +kernel) (by decide +kernel)
theorem kd_yX5_rules : Cond.code yX5_rules cX5_rules 3 (some .int) ∈ kWA := kmem 434 (by decide +kernel) (by decide +kernel)
theorem kinst_yX5_rules : Cond.instanceMethod yX5_rules ∈ kWA := kmem 432 (by decide +kernel) (by decide +kernel)
theorem ksel_yX5_rules : Cond.selects RX5 yX5_rules yX5_rules ∈ kWA := kmem 433 (by decide +kernel) (by decide +kernel)
theorem kd_yX4_startFrom : Cond.code yX4_startFrom cX4_startFrom 2 none ∈ kWA := kmem 438 (by decide +kernel) (by decide +kernel)
theorem kinst_yX4_startFrom : Cond.instanceMethod yX4_startFrom ∈ kWA := kmem 436 (by decide +kernel) (by decide +kernel)
theorem ksel_yX4_startFrom : Cond.selects RX4 yX4_startFrom yX4_startFrom ∈ kWA := kmem 437 (by decide +kernel) (by decide +kernel)
theorem kd_yX1_takeRulers : Cond.code yX1_takeRulers cX1_takeRulers 2 none ∈ kWA := kmem 443 (by decide +kernel) (by decide +kernel)
theorem kinst_yX1_takeRulers : Cond.instanceMethod yX1_takeRulers ∈ kWA := kmem 441 (by decide +kernel) (by decide +kernel)
theorem ksel_yX1_takeRulers : Cond.selects RX1 yX1_takeRulers yX1_takeRulers ∈ kWA := kmem 442 (by decide +kernel) (by decide +kernel)
theorem kd_yX5_foresee : Cond.code yX5_foresee cX5_foresee 3 (some .int) ∈ kWA := kmem 448 (by decide +kernel) (by decide +kernel)
theorem kinst_yX5_foresee : Cond.instanceMethod yX5_foresee ∈ kWA := kmem 446 (by decide +kernel) (by decide +kernel)
theorem ksel_yX5_foresee : Cond.selects RX5 yX5_foresee yX5_foresee ∈ kWA := kmem 447 (by decide +kernel) (by decide +kernel)
theorem kd_yX1_rulerOf : Cond.code yX1_rulerOf cX1_rulerOf 2 (some .int) ∈ kWA := kmem 452 (by decide +kernel) (by decide +kernel)
theorem kinst_yX1_rulerOf : Cond.instanceMethod yX1_rulerOf ∈ kWA := kmem 450 (by decide +kernel) (by decide +kernel)
theorem ksel_yX1_rulerOf : Cond.selects RX1 yX1_rulerOf yX1_rulerOf ∈ kWA := kmem 451 (by decide +kernel) (by decide +kernel)
theorem kd_yX5_best : Cond.code yX5_best cX5_best 6 (some .int) ∈ kWA := kmem 457 (by decide +kernel) (by decide +kernel)
theorem kinst_yX5_best : Cond.instanceMethod yX5_best ∈ kWA := kmem 455 (by decide +kernel) (by decide +kernel)
theorem ksel_yX5_best : Cond.selects RX5 yX5_best yX5_best ∈ kWA := kmem 456 (by decide +kernel) (by decide +kernel)
theorem kd_yX4_mayMarry : Cond.code yX4_mayMarry cX4_mayMarry 4 (some .boolean) ∈ kWA := kmem 462 (by decide +kernel) (by decide +kernel)
theorem kinst_yX4_mayMarry : Cond.instanceMethod yX4_mayMarry ∈ kWA := kmem 460 (by decide +kernel) (by decide +kernel)
theorem ksel_yX4_mayMarry : Cond.selects RX4 yX4_mayMarry yX4_mayMarry ∈ kWA := kmem 461 (by decide +kernel) (by decide +kernel)
theorem kd_yX8_pass : Cond.code yX8_pass cX8_pass 6 (some .int) ∈ kWA := kmem 470 (by decide +kernel) (by decide +kernel)
theorem kinst_yX8_pass : Cond.instanceMethod yX8_pass ∈ kWA := kmem 468 (by decide +kernel) (by decide +kernel)
theorem ksel_yX8_pass : Cond.selects RX8 yX8_pass yX8_pass ∈ kWA := kmem 469 (by decide +kernel) (by decide +kernel)
theorem kd_yX8_die : Cond.code yX8_die cX8_die 5 (some .int) ∈ kWA := kmem 474 (by decide +kernel) (by decide +kernel)
theorem kinst_yX8_die : Cond.instanceMethod yX8_die ∈ kWA := kmem 472 (by decide +kernel) (by decide +kernel)
theorem ksel_yX8_die : Cond.selects RX8 yX8_die yX8_die ∈ kWA := kmem 473 (by decide +kernel) (by decide +kernel)
theorem kd_yX8_heir : Cond.code yX8_heir cX8_heir 8 (some (.object "KingTiesLaw$Person")) ∈ kWA := kmem 480 (by decide +kernel) (by decide +kernel)
theorem kinst_yX8_heir : Cond.instanceMethod yX8_heir ∈ kWA := kmem 478 (by decide +kernel) (by decide +kernel)
theorem ksel_yX8_heir : Cond.selects RX8 yX8_heir yX8_heir ∈ kWA := kmem 479 (by decide +kernel) (by decide +kernel)
theorem kd_yX8_related : Cond.code yX8_related cX8_related 8 (some .int) ∈ kWA := kmem 484 (by decide +kernel) (by decide +kernel)
theorem kinst_yX8_related : Cond.instanceMethod yX8_related ∈ kWA := kmem 482 (by decide +kernel) (by decide +kernel)
theorem ksel_yX8_related : Cond.selects RX8 yX8_related yX8_related ∈ kWA := kmem 483 (by decide +kernel) (by decide +kernel)
theorem kd_yX8_up : Cond.code yX8_up cX8_up 2 (some .int) ∈ kWA := kmem 487 (by decide +kernel) (by decide +kernel)
theorem kstatic_yX8_up : Cond.static yX8_up ∈ kWA := kmem 486 (by decide +kernel) (by decide +kernel)
theorem kd_yX8_isBefore : Cond.code yX8_isBefore cX8_isBefore 2 (some .boolean) ∈ kWA := kmem 491 (by decide +kernel) (by decide +kernel)
theorem kstatic_yX8_isBefore : Cond.static yX8_isBefore ∈ kWA := kmem 490 (by decide +kernel) (by decide +kernel)
theorem kd_yX8_first : Cond.code yX8_first cX8_first 9 (some (.object "KingTiesLaw$Person")) ∈ kWA := kmem 495 (by decide +kernel) (by decide +kernel)
theorem kinst_yX8_first : Cond.instanceMethod yX8_first ∈ kWA := kmem 493 (by decide +kernel) (by decide +kernel)
theorem ksel_yX8_first : Cond.selects RX8 yX8_first yX8_first ∈ kWA := kmem 494 (by decide +kernel) (by decide +kernel)
theorem kd_yX8_row : Cond.code yX8_row cX8_row 10 (some (.array (.object "KingTiesLaw$Person"))) ∈ kWA := kmem 499 (by decide +kernel) (by decide +kernel)
theorem kinst_yX8_row : Cond.instanceMethod yX8_row ∈ kWA := kmem 497 (by decide +kernel) (by decide +kernel)
theorem ksel_yX8_row : Cond.selects RX8 yX8_row yX8_row ∈ kWA := kmem 498 (by decide +kernel) (by decide +kernel)
theorem kd_yX8_children : Cond.code yX8_children cX8_children 7 (some .int) ∈ kWA := kmem 503 (by decide +kernel) (by decide +kernel)
theorem kinst_yX8_children : Cond.instanceMethod yX8_children ∈ kWA := kmem 501 (by decide +kernel) (by decide +kernel)
theorem ksel_yX8_children : Cond.selects RX8 yX8_children yX8_children ∈ kWA := kmem 502 (by decide +kernel) (by decide +kernel)
theorem kd_yX8_isAhead : Cond.code yX8_isAhead cX8_isAhead 3 (some .boolean) ∈ kWA := kmem 506 (by decide +kernel) (by decide +kernel)
theorem kstatic_yX8_isAhead : Cond.static yX8_isAhead ∈ kWA := kmem 505 (by decide +kernel) (by decide +kernel)
theorem kd_yX8_rule : Cond.code yX8_rule cX8_rule 5 none ∈ kWA := kmem 510 (by decide +kernel) (by decide +kernel)
theorem kinst_yX8_rule : Cond.instanceMethod yX8_rule ∈ kWA := kmem 508 (by decide +kernel) (by decide +kernel)
theorem ksel_yX8_rule : Cond.selects RX8 yX8_rule yX8_rule ∈ kWA := kmem 509 (by decide +kernel) (by decide +kernel)
theorem kd_yX8_part : Cond.code yX8_part cX8_part 2 none ∈ kWA := kmem 514 (by decide +kernel) (by decide +kernel)
theorem kinst_yX8_part : Cond.instanceMethod yX8_part ∈ kWA := kmem 512 (by decide +kernel) (by decide +kernel)
theorem ksel_yX8_part : Cond.selects RX8 yX8_part yX8_part ∈ kWA := kmem 513 (by decide +kernel) (by decide +kernel)
set_option maxRecDepth 100000 in
theorem kd_yX8_isSame : Cond.code yX8_isSame cX8_isSame 15 (some .boolean) ∈ kWA := kmem 518 (by rfl) (by rfl)
theorem kinst_yX8_isSame : Cond.instanceMethod yX8_isSame ∈ kWA := kmem 516 (by decide +kernel) (by decide +kernel)
theorem ksel_yX8_isSame : Cond.selects RX8 yX8_isSame yX8_isSame ∈ kWA := kmem 517 (by decide +kernel) (by decide +kernel)
theorem kd_yX8_number : Cond.code yX8_number cX8_number 1 (some .int) ∈ kWA := kmem 521 (by decide +kernel) (by decide +kernel)
theorem kstatic_yX8_number : Cond.static yX8_number ∈ kWA := kmem 520 (by decide +kernel) (by decide +kernel)
theorem kd_yX8_rules : Cond.code yX8_rules cX8_rules 7 (some .int) ∈ kWA := kmem 525 (by decide +kernel) (by decide +kernel)
theorem kinst_yX8_rules : Cond.instanceMethod yX8_rules ∈ kWA := kmem 523 (by decide +kernel) (by decide +kernel)
theorem ksel_yX8_rules : Cond.selects RX8 yX8_rules yX8_rules ∈ kWA := kmem 524 (by decide +kernel) (by decide +kernel)
theorem kd_yX8_worth : Cond.code yX8_worth cX8_worth 7 (some .int) ∈ kWA := kmem 529 (by decide +kernel) (by decide +kernel)
theorem kinst_yX8_worth : Cond.instanceMethod yX8_worth ∈ kWA := kmem 527 (by decide +kernel) (by decide +kernel)
theorem ksel_yX8_worth : Cond.selects RX8 yX8_worth yX8_worth ∈ kWA := kmem 528 (by decide +kernel) (by decide +kernel)
theorem kd_yX8_regent : Cond.code yX8_regent cX8_regent 7 (some (.object "KingTiesLaw$Person")) ∈ kWA := kmem 534 (by decide +kernel) (by decide +kernel)
theorem kinst_yX8_regent : Cond.instanceMethod yX8_regent ∈ kWA := kmem 532 (by decide +kernel) (by decide +kernel)
theorem ksel_yX8_regent : Cond.selects RX8 yX8_regent yX8_regent ∈ kWA := kmem 533 (by decide +kernel) (by decide +kernel)
theorem kd_yX5_mean : Cond.code yX5_mean cX5_mean 4 (some .double) ∈ kWA := kmem 541 (by decide +kernel) (by decide +kernel)
theorem kinst_yX5_mean : Cond.instanceMethod yX5_mean ∈ kWA := kmem 539 (by decide +kernel) (by decide +kernel)
theorem ksel_yX5_mean : Cond.selects RX5 yX5_mean yX5_mean ∈ kWA := kmem 540 (by decide +kernel) (by decide +kernel)
theorem kd_yL_below : Cond.code yL_below cL_below 2 (some .int) ∈ kWA := kmem 546 (by decide +kernel) (by decide +kernel)
theorem kstatic_yL_below : Cond.static yL_below ∈ kWA := kmem 545 (by decide +kernel) (by decide +kernel)
theorem kd_yL_cell : Cond.code yL_cell cL_cell 2 (some .int) ∈ kWA := kmem 550 (by decide +kernel) (by decide +kernel)
theorem kstatic_yL_cell : Cond.static yL_cell ∈ kWA := kmem 549 (by decide +kernel) (by decide +kernel)
set_option maxRecDepth 100000 in
theorem kd_yL_act : Cond.code yL_act cL_act 14 (some .boolean) ∈ kWA := kmem 554 (by rfl) (by rfl)
theorem kstatic_yL_act : Cond.static yL_act ∈ kWA := kmem 553 (by decide +kernel) (by decide +kernel)
theorem kd_yX5_come : Cond.code yX5_come cX5_come 3 (some .int) ∈ kWA := kmem 558 (by decide +kernel) (by decide +kernel)
theorem kinst_yX5_come : Cond.instanceMethod yX5_come ∈ kWA := kmem 556 (by decide +kernel) (by decide +kernel)
theorem ksel_yX5_come : Cond.selects RX5 yX5_come yX5_come ∈ kWA := kmem 557 (by decide +kernel) (by decide +kernel)
theorem kd_yX0_isFull : Cond.code yX0_isFull cX0_isFull 1 (some .boolean) ∈ kWA := kmem 563 (by decide +kernel) (by decide +kernel)
theorem kinst_yX0_isFull : Cond.instanceMethod yX0_isFull ∈ kWA := kmem 561 (by decide +kernel) (by decide +kernel)
theorem ksel_yX0_isFull : Cond.selects RX0 yX0_isFull yX0_isFull ∈ kWA := kmem 562 (by decide +kernel) (by decide +kernel)
theorem kd_yX0_add : Cond.code yX0_add cX0_add 8 (some .int) ∈ kWA := kmem 583 (by decide +kernel) (by decide +kernel)
theorem kinst_yX0_add : Cond.instanceMethod yX0_add ∈ kWA := kmem 581 (by decide +kernel) (by decide +kernel)
theorem ksel_yX0_add : Cond.selects RX0 yX0_add yX0_add ∈ kWA := kmem 582 (by decide +kernel) (by decide +kernel)
theorem kd_yX8_come : Cond.code yX8_come cX8_come 5 (some (.object "KingTiesLaw$Person")) ∈ kWA := kmem 594 (by decide +kernel) (by decide +kernel)
theorem kinst_yX8_come : Cond.instanceMethod yX8_come ∈ kWA := kmem 592 (by decide +kernel) (by decide +kernel)
theorem ksel_yX8_come : Cond.selects RX8 yX8_come yX8_come ∈ kWA := kmem 593 (by decide +kernel) (by decide +kernel)
theorem kd_yX7_init : Cond.code yX7_init cX7_init 1 none ∈ kWA := kmem 598 (by decide +kernel) (by decide +kernel)
theorem kinst_yX7_init : Cond.instanceMethod yX7_init ∈ kWA := kmem 597 (by decide +kernel) (by decide +kernel)
theorem kd_yX8_bear : Cond.code yX8_bear cX8_bear 4 none ∈ kWA := kmem 636 (by decide +kernel) (by decide +kernel)
theorem kinst_yX8_bear : Cond.instanceMethod yX8_bear ∈ kWA := kmem 634 (by decide +kernel) (by decide +kernel)
theorem ksel_yX8_bear : Cond.selects RX8 yX8_bear yX8_bear ∈ kWA := kmem 635 (by decide +kernel) (by decide +kernel)
theorem kd_yX5_bear : Cond.code yX5_bear cX5_bear 4 (some .int) ∈ kWA := kmem 641 (by decide +kernel) (by decide +kernel)
theorem kinst_yX5_bear : Cond.instanceMethod yX5_bear ∈ kWA := kmem 639 (by decide +kernel) (by decide +kernel)
theorem ksel_yX5_bear : Cond.selects RX5 yX5_bear yX5_bear ∈ kWA := kmem 640 (by decide +kernel) (by decide +kernel)
theorem kd_yX8_can : Cond.code yX8_can cX8_can 3 (some .boolean) ∈ kWA := kmem 647 (by decide +kernel) (by decide +kernel)
theorem kinst_yX8_can : Cond.instanceMethod yX8_can ∈ kWA := kmem 645 (by decide +kernel) (by decide +kernel)
theorem ksel_yX8_can : Cond.selects RX8 yX8_can yX8_can ∈ kWA := kmem 646 (by decide +kernel) (by decide +kernel)
theorem kd_yX8_isFree : Cond.code yX8_isFree cX8_isFree 2 (some .boolean) ∈ kWA := kmem 651 (by decide +kernel) (by decide +kernel)
theorem kinst_yX8_isFree : Cond.instanceMethod yX8_isFree ∈ kWA := kmem 649 (by decide +kernel) (by decide +kernel)
theorem ksel_yX8_isFree : Cond.selects RX8 yX8_isFree yX8_isFree ∈ kWA := kmem 650 (by decide +kernel) (by decide +kernel)
theorem kd_yX8_marry : Cond.code yX8_marry cX8_marry 5 none ∈ kWA := kmem 655 (by decide +kernel) (by decide +kernel)
theorem kinst_yX8_marry : Cond.instanceMethod yX8_marry ∈ kWA := kmem 653 (by decide +kernel) (by decide +kernel)
theorem ksel_yX8_marry : Cond.selects RX8 yX8_marry yX8_marry ∈ kWA := kmem 654 (by decide +kernel) (by decide +kernel)
theorem kd_yX5_marry : Cond.code yX5_marry cX5_marry 5 (some .int) ∈ kWA := kmem 659 (by decide +kernel) (by decide +kernel)
theorem kinst_yX5_marry : Cond.instanceMethod yX5_marry ∈ kWA := kmem 657 (by decide +kernel) (by decide +kernel)
theorem ksel_yX5_marry : Cond.selects RX5 yX5_marry yX5_marry ∈ kWA := kmem 658 (by decide +kernel) (by decide +kernel)
theorem kd_yX4_wed : Cond.code yX4_wed cX4_wed 5 none ∈ kWA := kmem 665 (by decide +kernel) (by decide +kernel)
theorem kinst_yX4_wed : Cond.instanceMethod yX4_wed ∈ kWA := kmem 663 (by decide +kernel) (by decide +kernel)
theorem ksel_yX4_wed : Cond.selects RX4 yX4_wed yX4_wed ∈ kWA := kmem 664 (by decide +kernel) (by decide +kernel)
theorem kd_yX3_bind : Cond.code yX3_bind cX3_bind 3 none ∈ kWA := kmem 669 (by decide +kernel) (by decide +kernel)
theorem kinst_yX3_bind : Cond.instanceMethod yX3_bind ∈ kWA := kmem 667 (by decide +kernel) (by decide +kernel)
theorem ksel_yX3_bind : Cond.selects RX3 yX3_bind yX3_bind ∈ kWA := kmem 668 (by decide +kernel) (by decide +kernel)
theorem kd_yX8_found : Cond.code yX8_found cX8_found 6 none ∈ kWA := kmem 675 (by decide +kernel) (by decide +kernel)
theorem kinst_yX8_found : Cond.instanceMethod yX8_found ∈ kWA := kmem 673 (by decide +kernel) (by decide +kernel)
theorem ksel_yX8_found : Cond.selects RX8 yX8_found yX8_found ∈ kWA := kmem 674 (by decide +kernel) (by decide +kernel)
theorem kd_yX6_init : Cond.code yX6_init cX6_init 1 none ∈ kWA := kmem 681 (by decide +kernel) (by decide +kernel)
theorem kinst_yX6_init : Cond.instanceMethod yX6_init ∈ kWA := kmem 680 (by decide +kernel) (by decide +kernel)
theorem kd_yX5_found : Cond.code yX5_found cX5_found 4 (some .int) ∈ kWA := kmem 704 (by decide +kernel) (by decide +kernel)
theorem kinst_yX5_found : Cond.instanceMethod yX5_found ∈ kWA := kmem 702 (by decide +kernel) (by decide +kernel)
theorem ksel_yX5_found : Cond.selects RX5 yX5_found yX5_found ∈ kWA := kmem 703 (by decide +kernel) (by decide +kernel)
theorem kd_yX5_needLaw : Cond.code yX5_needLaw cX5_needLaw 1 none ∈ kWA := kmem 708 (by decide +kernel) (by decide +kernel)
theorem kstatic_yX5_needLaw : Cond.static yX5_needLaw ∈ kWA := kmem 707 (by decide +kernel) (by decide +kernel)
theorem kd_yX1_isFull : Cond.code yX1_isFull cX1_isFull 1 (some .boolean) ∈ kWA := kmem 713 (by decide +kernel) (by decide +kernel)
theorem kinst_yX1_isFull : Cond.instanceMethod yX1_isFull ∈ kWA := kmem 711 (by decide +kernel) (by decide +kernel)
theorem ksel_yX1_isFull : Cond.selects RX1 yX1_isFull yX1_isFull ∈ kWA := kmem 712 (by decide +kernel) (by decide +kernel)
theorem kd_yX1_add : Cond.code yX1_add cX1_add 5 (some .int) ∈ kWA := kmem 719 (by decide +kernel) (by decide +kernel)
theorem kinst_yX1_add : Cond.instanceMethod yX1_add ∈ kWA := kmem 717 (by decide +kernel) (by decide +kernel)
theorem ksel_yX1_add : Cond.selects RX1 yX1_add yX1_add ∈ kWA := kmem 718 (by decide +kernel) (by decide +kernel)
theorem kd_yX5_annul : Cond.code yX5_annul cX5_annul 2 (some .int) ∈ kWA := kmem 725 (by decide +kernel) (by decide +kernel)
theorem kinst_yX5_annul : Cond.instanceMethod yX5_annul ∈ kWA := kmem 723 (by decide +kernel) (by decide +kernel)
theorem ksel_yX5_annul : Cond.selects RX5 yX5_annul yX5_annul ∈ kWA := kmem 724 (by decide +kernel) (by decide +kernel)
theorem kd_yX4_separate : Cond.code yX4_separate cX4_separate 6 (some .int) ∈ kWA := kmem 730 (by decide +kernel) (by decide +kernel)
theorem kinst_yX4_separate : Cond.instanceMethod yX4_separate ∈ kWA := kmem 728 (by decide +kernel) (by decide +kernel)
theorem ksel_yX4_separate : Cond.selects RX4 yX4_separate yX4_separate ∈ kWA := kmem 729 (by decide +kernel) (by decide +kernel)
theorem kd_yX3_givenBy : Cond.code yX3_givenBy cX3_givenBy 2 (some .int) ∈ kWA := kmem 734 (by decide +kernel) (by decide +kernel)
theorem kinst_yX3_givenBy : Cond.instanceMethod yX3_givenBy ∈ kWA := kmem 732 (by decide +kernel) (by decide +kernel)
theorem ksel_yX3_givenBy : Cond.selects RX3 yX3_givenBy yX3_givenBy ∈ kWA := kmem 733 (by decide +kernel) (by decide +kernel)
theorem kd_yX8_annul : Cond.code yX8_annul cX8_annul 6 (some .int) ∈ kWA := kmem 738 (by decide +kernel) (by decide +kernel)
theorem kinst_yX8_annul : Cond.instanceMethod yX8_annul ∈ kWA := kmem 736 (by decide +kernel) (by decide +kernel)
theorem ksel_yX8_annul : Cond.selects RX8 yX8_annul yX8_annul ∈ kWA := kmem 737 (by decide +kernel) (by decide +kernel)
theorem kd_yX5_die : Cond.code yX5_die cX5_die 2 (some .int) ∈ kWA := kmem 742 (by decide +kernel) (by decide +kernel)
theorem kinst_yX5_die : Cond.instanceMethod yX5_die ∈ kWA := kmem 740 (by decide +kernel) (by decide +kernel)
theorem ksel_yX5_die : Cond.selects RX5 yX5_die yX5_die ∈ kWA := kmem 741 (by decide +kernel) (by decide +kernel)
theorem kd_yX5_setLaw : Cond.code yX5_setLaw cX5_setLaw 4 (some .int) ∈ kWA := kmem 749 (by decide +kernel) (by decide +kernel)
theorem kinst_yX5_setLaw : Cond.instanceMethod yX5_setLaw ∈ kWA := kmem 747 (by decide +kernel) (by decide +kernel)
theorem ksel_yX5_setLaw : Cond.selects RX5 yX5_setLaw yX5_setLaw ∈ kWA := kmem 748 (by decide +kernel) (by decide +kernel)
theorem kd_yL_build : Cond.code yL_build cL_build 8 (some (.object "KingTiesLaw$Sim")) ∈ kWA := kmem 752 (by decide +kernel) (by decide +kernel)
theorem kstatic_yL_build : Cond.static yL_build ∈ kWA := kmem 751 (by decide +kernel) (by decide +kernel)
theorem kd_yX8_init : Cond.code yX8_init cX8_init 1 none ∈ kWA := kmem 757 (by decide +kernel) (by decide +kernel)
theorem kinst_yX8_init : Cond.instanceMethod yX8_init ∈ kWA := kmem 756 (by decide +kernel) (by decide +kernel)
theorem kX0 : ∀ w ∈ wsX00, w ∈ kWA := by
  have h : wsX00 = [59, 61, 63, 65, 67, 69].filterMap (fun i => lw_tbl[i]?) := by decide +kernel
  have g : wsX00.all goodWord = true := by decide +kernel
  intro w hw
  have hw2 := hw
  rw [h] at hw2
  obtain ⟨i, -, hi⟩ := List.mem_filterMap.mp hw2
  exact kmem i hi (List.all_eq_true.mp g w hw)
theorem kX1 : ∀ w ∈ wsX10, w ∈ kWA := by
  have h : wsX10 = [102, 104, 106, 108, 110, 112, 114].filterMap (fun i => lw_tbl[i]?) := by decide +kernel
  have g : wsX10.all goodWord = true := by decide +kernel
  intro w hw
  have hw2 := hw
  rw [h] at hw2
  obtain ⟨i, -, hi⟩ := List.mem_filterMap.mp hw2
  exact kmem i hi (List.all_eq_true.mp g w hw)
theorem kX2 : ∀ w ∈ wsX20, w ∈ kWA := by
  have h : wsX20 = [142, 144].filterMap (fun i => lw_tbl[i]?) := by decide +kernel
  have g : wsX20.all goodWord = true := by decide +kernel
  intro w hw
  have hw2 := hw
  rw [h] at hw2
  obtain ⟨i, -, hi⟩ := List.mem_filterMap.mp hw2
  exact kmem i hi (List.all_eq_true.mp g w hw)
theorem kX3 : ∀ w ∈ wsX30, w ∈ kWA := by
  have h : wsX30 = [129, 131].filterMap (fun i => lw_tbl[i]?) := by decide +kernel
  have g : wsX30.all goodWord = true := by decide +kernel
  intro w hw
  have hw2 := hw
  rw [h] at hw2
  obtain ⟨i, -, hi⟩ := List.mem_filterMap.mp hw2
  exact kmem i hi (List.all_eq_true.mp g w hw)
theorem kX4 : ∀ w ∈ wsX40, w ∈ kWA := by
  have h : wsX40 = [157, 159, 161, 163, 165, 167].filterMap (fun i => lw_tbl[i]?) := by decide +kernel
  have g : wsX40.all goodWord = true := by decide +kernel
  intro w hw
  have hw2 := hw
  rw [h] at hw2
  obtain ⟨i, -, hi⟩ := List.mem_filterMap.mp hw2
  exact kmem i hi (List.all_eq_true.mp g w hw)
theorem kX5 : ∀ w ∈ wsX50, w ∈ kWA := by
  have h : wsX50 = [173, 175, 177].filterMap (fun i => lw_tbl[i]?) := by decide +kernel
  have g : wsX50.all goodWord = true := by decide +kernel
  intro w hw
  have hw2 := hw
  rw [h] at hw2
  obtain ⟨i, -, hi⟩ := List.mem_filterMap.mp hw2
  exact kmem i hi (List.all_eq_true.mp g w hw)
theorem kX6 : ∀ w ∈ wsX60, w ∈ kWA := by
  have h : wsX60 = [691, 693, 695, 697].filterMap (fun i => lw_tbl[i]?) := by decide +kernel
  have g : wsX60.all goodWord = true := by decide +kernel
  intro w hw
  have hw2 := hw
  rw [h] at hw2
  obtain ⟨i, -, hi⟩ := List.mem_filterMap.mp hw2
  exact kmem i hi (List.all_eq_true.mp g w hw)
theorem kX7 : ∀ w ∈ wsX70, w ∈ kWA := by
  have h : wsX70 = [614, 616, 618, 620, 622, 624, 626, 628, 630].filterMap (fun i => lw_tbl[i]?) := by decide +kernel
  have g : wsX70.all goodWord = true := by decide +kernel
  intro w hw
  have hw2 := hw
  rw [h] at hw2
  obtain ⟨i, -, hi⟩ := List.mem_filterMap.mp hw2
  exact kmem i hi (List.all_eq_true.mp g w hw)
theorem kX8 : ∀ w ∈ wsX80, w ∈ kWA := by
  have h : wsX80 = [764, 766, 768].filterMap (fun i => lw_tbl[i]?) := by decide +kernel
  have g : wsX80.all goodWord = true := by decide +kernel
  intro w hw
  have hw2 := hw
  rw [h] at hw2
  obtain ⟨i, -, hi⟩ := List.mem_filterMap.mp hw2
  exact kmem i hi (List.all_eq_true.mp g w hw)
end
