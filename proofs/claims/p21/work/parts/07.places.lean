/-! ROWS OF SINGLE FIELDS AND PLACES -/
abbrev kHE (s : State) (H : Heap) (locs : List Loc) (D : va_G) (ad : Nat → Nat) (cI cZ cO : ClassId) (k mo : kS) (X : va_W) : Prop := kH s H locs D ad (kE ad cI cZ cO k mo) X
theorem kq_w {B j : Nat} (hB : kB B) (hj : j < 15) : kOK (B + j) := Or.inr (by rcases hB with rfl | rfl <;> omega)
theorem kq_steps {i : Nat} (h : i < 40) : kOK (69 + i) := Or.inr (by omega)
theorem kq_B {B : Nat} (hB : kB B) : kOK B := kq_w (j := 0) hB (by decide)
theorem kq_past {B i : Nat} (hB : kB B) (hi : i < 12) : kOK (kpb B + i) := by
  rcases hB with rfl | rfl
  · exact Or.inr (show 15 ≤ 45 + i ∧ 45 + i < 109 by omega)
  · exact Or.inr (show 15 ≤ 57 + i ∧ 57 + i < 109 by omega)
theorem kE_pastB {ad : Nat → Nat} {cI cZ cO : ClassId} {k mo : kS} {B i : Nat} (hB : kB B) (hi : i < 12) : kE ad cI cZ cO k mo (kpb B + i) = .inl (cI, 15, .inl (k (kpb B + i))) := by
  rcases hB with rfl | rfl
  · exact kE_past (show 45 ≤ 45 + i by omega) (show 45 + i < 69 by omega)
  · exact kE_past (show 45 ≤ 57 + i by omega) (show 57 + i < 69 by omega)
theorem kE_stepsI {ad : Nat → Nat} {cI cZ cO : ClassId} {k mo : kS} {i : Nat} : kE ad cI cZ cO k mo (69 + i) = .inl (cI, 40, .inl (k (69 + i))) := kE_steps (Nat.le_add_right _ _)
theorem k15 : kB 15 := Or.inl rfl
theorem k30 : kB 30 := Or.inr rfl
theorem kidx {i : Int32} {n : Nat} (h : ¬ (i < 0 ∨ n ≤ i.toNatClampNeg)) : i.toNatClampNeg < n := Nat.not_le.mp fun q => h (Or.inr q)
theorem kif {α : Type} {c : Prop} [Decidable c] {x : Option α} {o : α} (h : (if c then none else x) = some o) : ¬ c ∧ x = some o := by
  by_cases hc : c
  · rw [if_pos hc] at h; cases h
  · rw [if_neg hc] at h; exact ⟨hc, h⟩
theorem kpos {α : Type} {c : Prop} [Decidable c] {a b : Option α} {o : Option α} (hc : c) (h : (if c then a else b) = o) : a = o := by rw [if_pos hc] at h; exact h
theorem kneg {α : Type} {c : Prop} [Decidable c] {a b : Option α} {o : Option α} (hc : ¬ c) (h : (if c then a else b) = o) : b = o := by rw [if_neg hc] at h; exact h
theorem kbind {α β : Type} {x : Option α} {f : α → Option β} {o : β} (h : x.bind f = some o) : ∃ a, x = some a ∧ f a = some o := by
  cases x with
  | none => cases h
  | some a => exact ⟨a, rfl, h⟩
/-- a use of cells ahead of what follows -/
def kadd {α : Type} (a b : Nat) (o : Option (α × Nat × Nat)) : Option (α × Nat × Nat) := o.map fun x => (x.1, a + x.2.1, b + x.2.2)
theorem kadd_some {α : Type} {a b : Nat} {o : Option (α × Nat × Nat)} {out : α × Nat × Nat} (h : kadd a b o = some out) : ∃ x, o = some x ∧ out = (x.1, a + x.2.1, b + x.2.2) := by
  cases o with
  | none => cases h
  | some x => exact ⟨x, rfl, (Option.some.inj h).symm⟩
theorem kne {x : Int32} {n : Int} (h : ¬ x = Int32.ofInt n) (h1 : -2147483648 ≤ n) (h2 : n < 2147483648) : x.toInt ≠ n := fun e => h (by
  rw [← e, Int32.ofInt_toInt])
section KP
variable {p : Program} {l : Launch} {e : Env} {R : Room} {s : State} {mm : MethodId} {args : Array Value} {below : List Frame} {meth : Method} {c : Code} {H : Heap} {locs : List Loc} {cells slots : Nat} {Q : State → Prop}
variable {cc : ByteArray} {own : String} {nL : Nat} {ret : Option FieldType} {D : va_G} {cI cZ cO : ClassId} {ad : Nat → Nat} {k mo : kS} {X : va_W} {pc : Nat} {ls : Array Slot} {rest : List Value}
theorem kst_o {a q : Nat} {f : Nat → Int32} (h : a ≠ q) : kE ad cI cZ cO (kst k q f) mo a = kE ad cI cZ cO k mo a := kE_dep (kst_ne k f h) rfl
theorem kst_oM {a q : Nat} {f : Nat → Int32} (h : a ≠ q) : kE ad cI cZ cO k (kst mo q f) a = kE ad cI cZ cO k mo a := kE_dep rfl (kst_ne mo f h)
theorem kr_iastK (V : kV p s mm args meth c cc own nL ret D cI cZ cO) (h : kHE s H locs D ad cI cZ cO k mo X) {q : Nat} (hq : kOK q) {n : Nat} (hf : ∀ k : kS, kE ad cI cZ cO k mo q = .inl (cI, n, .inl (k q))) {i x : Int32} (hi : ¬ (i < 0 ∨ n ≤ i.toNatClampNeg)) (hdg : decode cc pc = .ok (.iastore, 1))
    (kk : ∀ (H1 : Heap) (locs1 : List Loc), kHE s H1 locs1 D ad cI cZ cO (kst k q (upd (k q) i.toNatClampNeg x)) mo X → W p l e R s mm args below meth c H1 locs1 cells slots Q (F0 mm (pc + 1) ls rest)) : W p l e R s mm args below meth c H locs cells slots Q (F0 mm pc ls (.int x :: .int i :: .ref (ad q) :: rest)) :=
  kr_iast V h hq (hf k) hi (by rw [hf, kst_eq]) (fun a ha => kst_o ha) hdg kk
theorem kr_zastK (V : kV p s mm args meth c cc own nL ret D cI cZ cO) (h : kHE s H locs D ad cI cZ cO k mo X) {q : Nat} (hq : kOK q) {n : Nat} (hf : ∀ k : kS, kE ad cI cZ cO k mo q = .inl (cZ, n, .inl (k q))) {i x : Int32} (hi : ¬ (i < 0 ∨ n ≤ i.toNatClampNeg)) (hdg : decode cc pc = .ok (.bastore, 1))
    (kk : ∀ (H1 : Heap) (locs1 : List Loc), kHE s H1 locs1 D ad cI cZ cO (kst k q (upd (k q) i.toNatClampNeg (vp_nar .boolean x))) mo X → W p l e R s mm args below meth c H1 locs1 cells slots Q (F0 mm (pc + 1) ls rest)) : W p l e R s mm args below meth c H locs cells slots Q (F0 mm pc ls (.int x :: .int i :: .ref (ad q) :: rest)) :=
  kr_zast V h hq (hf k) hi (by rw [hf, kst_eq]) (fun a ha => kst_o ha) hdg kk
theorem kr_iastM (V : kV p s mm args meth c cc own nL ret D cI cZ cO) (h : kHE s H locs D ad cI cZ cO k mo X) {q : Nat} (hq : kOK q) {n : Nat} (hf : ∀ mo : kS, kE ad cI cZ cO k mo q = .inl (cI, n, .inl (mo q))) {i x : Int32} (hi : ¬ (i < 0 ∨ n ≤ i.toNatClampNeg)) (hdg : decode cc pc = .ok (.iastore, 1))
    (kk : ∀ (H1 : Heap) (locs1 : List Loc), kHE s H1 locs1 D ad cI cZ cO k (kst mo q (upd (mo q) i.toNatClampNeg x)) X → W p l e R s mm args below meth c H1 locs1 cells slots Q (F0 mm (pc + 1) ls rest)) : W p l e R s mm args below meth c H locs cells slots Q (F0 mm pc ls (.int x :: .int i :: .ref (ad q) :: rest)) :=
  kr_iast V h hq (hf mo) hi (by rw [hf, kst_eq]) (fun a ha => kst_oM ha) hdg kk
theorem kr_copyK (V : kV p s mm args meth c cc own nL ret D cI cZ cO) (h : kHE s H locs D ad cI cZ cO k mo X) (hsz : ls.size = nL) {index : Nat} (w1 : Cond.methodLink own index arraycopyName ∈ kWA) {q0 q : Nat} (hq0 : kOK q0) (hq : kOK q) {n0 n1 : Nat} (hf0 : ∀ k : kS, kE ad cI cZ cO k mo q0 = .inl (cI, n0, .inl (k q0))) (hf : ∀ k : kS, kE ad cI cZ cO k mo q = .inl (cI, n1, .inl (k q))) {sp dp n : Int32} (hok : ¬ (sp < 0 ∨ dp < 0 ∨ n < 0 ∨ n0 < sp.toNatClampNeg + n.toNatClampNeg ∨ n1 < dp.toNatClampNeg + n.toNatClampNeg))
    (hfr : 1 ≤ R.frames) (hlo : (rest.map fun v => v.category).sum + 18 ≤ R.locals) (hdg : decode cc pc = .ok (.invokestatic index, 3))
    (kk : ∀ (H1 : Heap) (locs1 : List Loc), kHE s H1 locs1 D ad cI cZ cO (kst k q (va_cpy (k q0) (k q) sp.toNatClampNeg dp.toNatClampNeg n.toNatClampNeg)) mo X → W p l e R s mm args below meth c H1 locs1 cells slots Q (F0 mm (pc + 3) ls rest)) : W p l e R s mm args below meth c H locs cells slots Q (F0 mm pc ls (.int n :: .int dp :: .ref (ad q) :: .int sp :: .ref (ad q0) :: rest)) := by
  simp only [not_or, Nat.not_lt] at hok
  exact kr_copy V h hsz w1 knative_arraycopyName kstatic_arraycopyName kz_System hq0 hq (hf0 k) (hf k) hok.1 hok.2.1 hok.2.2.1 hok.2.2.2.1 hok.2.2.2.2 hfr hlo (by rw [hf, kst_eq]) (fun a ha => kst_o ha) hdg kk
theorem kr_copyM (V : kV p s mm args meth c cc own nL ret D cI cZ cO) (h : kHE s H locs D ad cI cZ cO k mo X) (hsz : ls.size = nL) {index : Nat} (w1 : Cond.methodLink own index arraycopyName ∈ kWA) {q0 q : Nat} (hq0 : kOK q0) (hq : kOK q) {n0 n1 : Nat} (hf0 : ∀ mo : kS, kE ad cI cZ cO k mo q0 = .inl (cI, n0, .inl (mo q0))) (hf : ∀ mo : kS, kE ad cI cZ cO k mo q = .inl (cI, n1, .inl (mo q))) {sp dp n : Int32} (hok : ¬ (sp < 0 ∨ dp < 0 ∨ n < 0 ∨ n0 < sp.toNatClampNeg + n.toNatClampNeg ∨ n1 < dp.toNatClampNeg + n.toNatClampNeg))
    (hfr : 1 ≤ R.frames) (hlo : (rest.map fun v => v.category).sum + 18 ≤ R.locals) (hdg : decode cc pc = .ok (.invokestatic index, 3))
    (kk : ∀ (H1 : Heap) (locs1 : List Loc), kHE s H1 locs1 D ad cI cZ cO k (kst mo q (va_cpy (mo q0) (mo q) sp.toNatClampNeg dp.toNatClampNeg n.toNatClampNeg)) X → W p l e R s mm args below meth c H1 locs1 cells slots Q (F0 mm (pc + 3) ls rest)) : W p l e R s mm args below meth c H locs cells slots Q (F0 mm pc ls (.int n :: .int dp :: .ref (ad q) :: .int sp :: .ref (ad q0) :: rest)) := by
  simp only [not_or, Nat.not_lt] at hok
  exact kr_copy V h hsz w1 knative_arraycopyName kstatic_arraycopyName kz_System hq0 hq (hf0 mo) (hf mo) hok.1 hok.2.1 hok.2.2.1 hok.2.2.2.1 hok.2.2.2.2 hfr hlo (by rw [hf, kst_eq]) (fun a ha => kst_oM ha) hdg kk
theorem kr_mn (V : kV p s mm args meth c cc own nL ret D cI cZ cO) (hsz : ls.size = nL) {index : Nat} (w1 : Cond.methodLink own index Lib.Math.min.name ∈ kWA) (hfr : 1 ≤ R.frames) (hlo : (rest.map fun v => v.category).sum + 13 ≤ R.locals) (hc : cells ≤ R.cells) (hs : slots ≤ R.slots) {x y : Int32} (hdg : decode cc pc = .ok (.invokestatic index, 3))
    (kk : W p l e R s mm args below meth c H locs cells slots Q (F0 mm (pc + 3) ls (.int (if y < x then y else x) :: rest))) : W p l e R s mm args below meth c H locs cells slots Q (F0 mm pc ls (.int y :: .int x :: rest)) :=
  kr_min V hsz w1 kstatic_yJ9_min_7cf53 kz_Math kd_yJ9_min_7cf53 hfr hlo hc hs hdg kk

theorem kg_X0_9 (V : kV p s mm args meth c cc RX0 nL ret D cI cZ cO) (h : kHE s H locs D ad cI cZ cO k mo X) (hdg : decode cc pc = .ok (.getfield 9, 3)) (kk : W p l e R s mm args below meth c H locs cells slots Q (F0 mm (pc + 3) ls (.int (k 1 0) :: rest))) : W p l e R s mm args below meth c H locs cells slots Q (F0 mm pc ls (.ref (ad 1) :: rest)) :=
  kr_get V h (by decide) kE_1 (C := RX0) (T := TX0) (N := 6) rfl kX0 0 (by decide) kf_X0_9 rfl hdg kk
theorem kp_X0_9 (V : kV p s mm args meth c cc RX0 nL ret D cI cZ cO) (h : kHE s H locs D ad cI cZ cO k mo X) {x : Int32} (hdg : decode cc pc = .ok (.putfield 9, 3)) (kk : ∀ (H1 : Heap) (locs1 : List Loc), kHE s H1 locs1 D ad cI cZ cO (kst k 1 (upd (k 1) 0 x)) mo X → W p l e R s mm args below meth c H1 locs1 cells slots Q (F0 mm (pc + 3) ls rest)) : W p l e R s mm args below meth c H locs cells slots Q (F0 mm pc ls (.int x :: .ref (ad 1) :: rest)) :=
  kr_put V h (by decide) kE_1 (C := RX0) (T := TX0) (N := 6) rfl kX0 tyX0 tyX0_ok nmX0 0 (by decide) kf_X0_9 rfl (by decide +kernel) (by show 0 < 6; decide) (by rw [kE_1, kst_eq]; simp [upd]) (fun a ha => kst_o ha) hdg kk
theorem kg_X4_122 (V : kV p s mm args meth c cc RX4 nL ret D cI cZ cO) (h : kHE s H locs D ad cI cZ cO k mo X) (hdg : decode cc pc = .ok (.getfield 122, 3)) (kk : W p l e R s mm args below meth c H locs cells slots Q (F0 mm (pc + 3) ls (.int (k 1 0) :: rest))) : W p l e R s mm args below meth c H locs cells slots Q (F0 mm pc ls (.ref (ad 1) :: rest)) :=
  kr_get V h (by decide) kE_1 (C := RX0) (T := TX0) (N := 6) rfl kX0 0 (by decide) kf_X4_122 rfl hdg kk
theorem kg_X5_167 (V : kV p s mm args meth c cc RX5 nL ret D cI cZ cO) (h : kHE s H locs D ad cI cZ cO k mo X) (hdg : decode cc pc = .ok (.getfield 167, 3)) (kk : W p l e R s mm args below meth c H locs cells slots Q (F0 mm (pc + 3) ls (.int (k 1 0) :: rest))) : W p l e R s mm args below meth c H locs cells slots Q (F0 mm pc ls (.ref (ad 1) :: rest)) :=
  kr_get V h (by decide) kE_1 (C := RX0) (T := TX0) (N := 6) rfl kX0 0 (by decide) kf_X5_167 rfl hdg kk
theorem kg_X0_15 (V : kV p s mm args meth c cc RX0 nL ret D cI cZ cO) (h : kHE s H locs D ad cI cZ cO k mo X) (hdg : decode cc pc = .ok (.getfield 15, 3)) (kk : W p l e R s mm args below meth c H locs cells slots Q (F0 mm (pc + 3) ls (.ref (ad 2) :: rest))) : W p l e R s mm args below meth c H locs cells slots Q (F0 mm pc ls (.ref (ad 1) :: rest)) :=
  kr_get V h (by decide) kE_1 (C := RX0) (T := TX0) (N := 6) rfl kX0 1 (by decide) kf_X0_15 rfl hdg kk
theorem kg_X5_66 (V : kV p s mm args meth c cc RX5 nL ret D cI cZ cO) (h : kHE s H locs D ad cI cZ cO k mo X) (hdg : decode cc pc = .ok (.getfield 66, 3)) (kk : W p l e R s mm args below meth c H locs cells slots Q (F0 mm (pc + 3) ls (.ref (ad 2) :: rest))) : W p l e R s mm args below meth c H locs cells slots Q (F0 mm pc ls (.ref (ad 1) :: rest)) :=
  kr_get V h (by decide) kE_1 (C := RX0) (T := TX0) (N := 6) rfl kX0 1 (by decide) kf_X5_66 rfl hdg kk
theorem kg_X4_82 (V : kV p s mm args meth c cc RX4 nL ret D cI cZ cO) (h : kHE s H locs D ad cI cZ cO k mo X) (hdg : decode cc pc = .ok (.getfield 82, 3)) (kk : W p l e R s mm args below meth c H locs cells slots Q (F0 mm (pc + 3) ls (.ref (ad 2) :: rest))) : W p l e R s mm args below meth c H locs cells slots Q (F0 mm pc ls (.ref (ad 1) :: rest)) :=
  kr_get V h (by decide) kE_1 (C := RX0) (T := TX0) (N := 6) rfl kX0 1 (by decide) kf_X4_82 rfl hdg kk
theorem kg_X0_19 (V : kV p s mm args meth c cc RX0 nL ret D cI cZ cO) (h : kHE s H locs D ad cI cZ cO k mo X) (hdg : decode cc pc = .ok (.getfield 19, 3)) (kk : W p l e R s mm args below meth c H locs cells slots Q (F0 mm (pc + 3) ls (.ref (ad 3) :: rest))) : W p l e R s mm args below meth c H locs cells slots Q (F0 mm pc ls (.ref (ad 1) :: rest)) :=
  kr_get V h (by decide) kE_1 (C := RX0) (T := TX0) (N := 6) rfl kX0 2 (by decide) kf_X0_19 rfl hdg kk
theorem kg_X4_66 (V : kV p s mm args meth c cc RX4 nL ret D cI cZ cO) (h : kHE s H locs D ad cI cZ cO k mo X) (hdg : decode cc pc = .ok (.getfield 66, 3)) (kk : W p l e R s mm args below meth c H locs cells slots Q (F0 mm (pc + 3) ls (.ref (ad 3) :: rest))) : W p l e R s mm args below meth c H locs cells slots Q (F0 mm pc ls (.ref (ad 1) :: rest)) :=
  kr_get V h (by decide) kE_1 (C := RX0) (T := TX0) (N := 6) rfl kX0 2 (by decide) kf_X4_66 rfl hdg kk
theorem kg_X0_23 (V : kV p s mm args meth c cc RX0 nL ret D cI cZ cO) (h : kHE s H locs D ad cI cZ cO k mo X) (hdg : decode cc pc = .ok (.getfield 23, 3)) (kk : W p l e R s mm args below meth c H locs cells slots Q (F0 mm (pc + 3) ls (.ref (ad 4) :: rest))) : W p l e R s mm args below meth c H locs cells slots Q (F0 mm pc ls (.ref (ad 1) :: rest)) :=
  kr_get V h (by decide) kE_1 (C := RX0) (T := TX0) (N := 6) rfl kX0 3 (by decide) kf_X0_23 rfl hdg kk
theorem kg_X4_137 (V : kV p s mm args meth c cc RX4 nL ret D cI cZ cO) (h : kHE s H locs D ad cI cZ cO k mo X) (hdg : decode cc pc = .ok (.getfield 137, 3)) (kk : W p l e R s mm args below meth c H locs cells slots Q (F0 mm (pc + 3) ls (.ref (ad 4) :: rest))) : W p l e R s mm args below meth c H locs cells slots Q (F0 mm pc ls (.ref (ad 1) :: rest)) :=
  kr_get V h (by decide) kE_1 (C := RX0) (T := TX0) (N := 6) rfl kX0 3 (by decide) kf_X4_137 rfl hdg kk
theorem kg_X0_26 (V : kV p s mm args meth c cc RX0 nL ret D cI cZ cO) (h : kHE s H locs D ad cI cZ cO k mo X) (hdg : decode cc pc = .ok (.getfield 26, 3)) (kk : W p l e R s mm args below meth c H locs cells slots Q (F0 mm (pc + 3) ls (.ref (ad 5) :: rest))) : W p l e R s mm args below meth c H locs cells slots Q (F0 mm pc ls (.ref (ad 1) :: rest)) :=
  kr_get V h (by decide) kE_1 (C := RX0) (T := TX0) (N := 6) rfl kX0 4 (by decide) kf_X0_26 rfl hdg kk
theorem kg_X4_144 (V : kV p s mm args meth c cc RX4 nL ret D cI cZ cO) (h : kHE s H locs D ad cI cZ cO k mo X) (hdg : decode cc pc = .ok (.getfield 144, 3)) (kk : W p l e R s mm args below meth c H locs cells slots Q (F0 mm (pc + 3) ls (.ref (ad 5) :: rest))) : W p l e R s mm args below meth c H locs cells slots Q (F0 mm pc ls (.ref (ad 1) :: rest)) :=
  kr_get V h (by decide) kE_1 (C := RX0) (T := TX0) (N := 6) rfl kX0 4 (by decide) kf_X4_144 rfl hdg kk
theorem kg_X0_31 (V : kV p s mm args meth c cc RX0 nL ret D cI cZ cO) (h : kHE s H locs D ad cI cZ cO k mo X) (hdg : decode cc pc = .ok (.getfield 31, 3)) (kk : W p l e R s mm args below meth c H locs cells slots Q (F0 mm (pc + 3) ls (.ref (ad 6) :: rest))) : W p l e R s mm args below meth c H locs cells slots Q (F0 mm pc ls (.ref (ad 1) :: rest)) :=
  kr_get V h (by decide) kE_1 (C := RX0) (T := TX0) (N := 6) rfl kX0 5 (by decide) kf_X0_31 rfl hdg kk
theorem kg_X5_148 (V : kV p s mm args meth c cc RX5 nL ret D cI cZ cO) (h : kHE s H locs D ad cI cZ cO k mo X) (hdg : decode cc pc = .ok (.getfield 148, 3)) (kk : W p l e R s mm args below meth c H locs cells slots Q (F0 mm (pc + 3) ls (.ref (ad 6) :: rest))) : W p l e R s mm args below meth c H locs cells slots Q (F0 mm pc ls (.ref (ad 1) :: rest)) :=
  kr_get V h (by decide) kE_1 (C := RX0) (T := TX0) (N := 6) rfl kX0 5 (by decide) kf_X5_148 rfl hdg kk
theorem kg_X1_9 {B : Nat} (hB : kB B) (V : kV p s mm args meth c cc RX1 nL ret D cI cZ cO) (h : kHE s H locs D ad cI cZ cO k mo X) (hdg : decode cc pc = .ok (.getfield 9, 3)) (kk : W p l e R s mm args below meth c H locs cells slots Q (F0 mm (pc + 3) ls (.int (k (B + 1) 0) :: rest))) : W p l e R s mm args below meth c H locs cells slots Q (F0 mm pc ls (.ref (ad (B + 1)) :: rest)) :=
  kr_get V h (kq_w hB (by decide)) (kE_w1 hB) (C := RX1) (T := TX1) (N := 7) rfl kX1 0 (by decide) kf_X1_9 rfl hdg kk
theorem kp_X1_9 {B : Nat} (hB : kB B) (V : kV p s mm args meth c cc RX1 nL ret D cI cZ cO) (h : kHE s H locs D ad cI cZ cO k mo X) {x : Int32} (hdg : decode cc pc = .ok (.putfield 9, 3)) (kk : ∀ (H1 : Heap) (locs1 : List Loc), kHE s H1 locs1 D ad cI cZ cO (kst k (B + 1) (upd (k (B + 1)) 0 x)) mo X → W p l e R s mm args below meth c H1 locs1 cells slots Q (F0 mm (pc + 3) ls rest)) : W p l e R s mm args below meth c H locs cells slots Q (F0 mm pc ls (.int x :: .ref (ad (B + 1)) :: rest)) :=
  kr_put V h (kq_w hB (by decide)) (kE_w1 hB) (C := RX1) (T := TX1) (N := 7) rfl kX1 tyX1 tyX1_ok nmX1 0 (by decide) kf_X1_9 rfl (by decide +kernel) (by show 0 < 7; decide) (by rw [kE_w1 hB, kst_eq]; simp [upd]) (fun a ha => kst_o ha) hdg kk
theorem kg_X4_110 {B : Nat} (hB : kB B) (V : kV p s mm args meth c cc RX4 nL ret D cI cZ cO) (h : kHE s H locs D ad cI cZ cO k mo X) (hdg : decode cc pc = .ok (.getfield 110, 3)) (kk : W p l e R s mm args below meth c H locs cells slots Q (F0 mm (pc + 3) ls (.int (k (B + 1) 0) :: rest))) : W p l e R s mm args below meth c H locs cells slots Q (F0 mm pc ls (.ref (ad (B + 1)) :: rest)) :=
  kr_get V h (kq_w hB (by decide)) (kE_w1 hB) (C := RX1) (T := TX1) (N := 7) rfl kX1 0 (by decide) kf_X4_110 rfl hdg kk
theorem kg_X1_15 {B : Nat} (hB : kB B) (V : kV p s mm args meth c cc RX1 nL ret D cI cZ cO) (h : kHE s H locs D ad cI cZ cO k mo X) (hdg : decode cc pc = .ok (.getfield 15, 3)) (kk : W p l e R s mm args below meth c H locs cells slots Q (F0 mm (pc + 3) ls (.ref (ad (B + 2)) :: rest))) : W p l e R s mm args below meth c H locs cells slots Q (F0 mm pc ls (.ref (ad (B + 1)) :: rest)) :=
  kr_get V h (kq_w hB (by decide)) (kE_w1 hB) (C := RX1) (T := TX1) (N := 7) rfl kX1 1 (by decide) kf_X1_15 rfl hdg kk
theorem kg_X4_163 {B : Nat} (hB : kB B) (V : kV p s mm args meth c cc RX4 nL ret D cI cZ cO) (h : kHE s H locs D ad cI cZ cO k mo X) (hdg : decode cc pc = .ok (.getfield 163, 3)) (kk : W p l e R s mm args below meth c H locs cells slots Q (F0 mm (pc + 3) ls (.ref (ad (B + 2)) :: rest))) : W p l e R s mm args below meth c H locs cells slots Q (F0 mm pc ls (.ref (ad (B + 1)) :: rest)) :=
  kr_get V h (kq_w hB (by decide)) (kE_w1 hB) (C := RX1) (T := TX1) (N := 7) rfl kX1 1 (by decide) kf_X4_163 rfl hdg kk
theorem kg_X1_19 {B : Nat} (hB : kB B) (V : kV p s mm args meth c cc RX1 nL ret D cI cZ cO) (h : kHE s H locs D ad cI cZ cO k mo X) (hdg : decode cc pc = .ok (.getfield 19, 3)) (kk : W p l e R s mm args below meth c H locs cells slots Q (F0 mm (pc + 3) ls (.ref (ad (B + 3)) :: rest))) : W p l e R s mm args below meth c H locs cells slots Q (F0 mm pc ls (.ref (ad (B + 1)) :: rest)) :=
  kr_get V h (kq_w hB (by decide)) (kE_w1 hB) (C := RX1) (T := TX1) (N := 7) rfl kX1 2 (by decide) kf_X1_19 rfl hdg kk
theorem kg_X5_98 {B : Nat} (hB : kB B) (V : kV p s mm args meth c cc RX5 nL ret D cI cZ cO) (h : kHE s H locs D ad cI cZ cO k mo X) (hdg : decode cc pc = .ok (.getfield 98, 3)) (kk : W p l e R s mm args below meth c H locs cells slots Q (F0 mm (pc + 3) ls (.ref (ad (B + 3)) :: rest))) : W p l e R s mm args below meth c H locs cells slots Q (F0 mm pc ls (.ref (ad (B + 1)) :: rest)) :=
  kr_get V h (kq_w hB (by decide)) (kE_w1 hB) (C := RX1) (T := TX1) (N := 7) rfl kX1 2 (by decide) kf_X5_98 rfl hdg kk
theorem kg_X4_116 {B : Nat} (hB : kB B) (V : kV p s mm args meth c cc RX4 nL ret D cI cZ cO) (h : kHE s H locs D ad cI cZ cO k mo X) (hdg : decode cc pc = .ok (.getfield 116, 3)) (kk : W p l e R s mm args below meth c H locs cells slots Q (F0 mm (pc + 3) ls (.ref (ad (B + 3)) :: rest))) : W p l e R s mm args below meth c H locs cells slots Q (F0 mm pc ls (.ref (ad (B + 1)) :: rest)) :=
  kr_get V h (kq_w hB (by decide)) (kE_w1 hB) (C := RX1) (T := TX1) (N := 7) rfl kX1 2 (by decide) kf_X4_116 rfl hdg kk
theorem kg_X1_22 {B : Nat} (hB : kB B) (V : kV p s mm args meth c cc RX1 nL ret D cI cZ cO) (h : kHE s H locs D ad cI cZ cO k mo X) (hdg : decode cc pc = .ok (.getfield 22, 3)) (kk : W p l e R s mm args below meth c H locs cells slots Q (F0 mm (pc + 3) ls (.ref (ad (B + 4)) :: rest))) : W p l e R s mm args below meth c H locs cells slots Q (F0 mm pc ls (.ref (ad (B + 1)) :: rest)) :=
  kr_get V h (kq_w hB (by decide)) (kE_w1 hB) (C := RX1) (T := TX1) (N := 7) rfl kX1 3 (by decide) kf_X1_22 rfl hdg kk
theorem kg_X4_113 {B : Nat} (hB : kB B) (V : kV p s mm args meth c cc RX4 nL ret D cI cZ cO) (h : kHE s H locs D ad cI cZ cO k mo X) (hdg : decode cc pc = .ok (.getfield 113, 3)) (kk : W p l e R s mm args below meth c H locs cells slots Q (F0 mm (pc + 3) ls (.ref (ad (B + 4)) :: rest))) : W p l e R s mm args below meth c H locs cells slots Q (F0 mm pc ls (.ref (ad (B + 1)) :: rest)) :=
  kr_get V h (kq_w hB (by decide)) (kE_w1 hB) (C := RX1) (T := TX1) (N := 7) rfl kX1 3 (by decide) kf_X4_113 rfl hdg kk
theorem kg_X1_25 {B : Nat} (hB : kB B) (V : kV p s mm args meth c cc RX1 nL ret D cI cZ cO) (h : kHE s H locs D ad cI cZ cO k mo X) (hdg : decode cc pc = .ok (.getfield 25, 3)) (kk : W p l e R s mm args below meth c H locs cells slots Q (F0 mm (pc + 3) ls (.ref (ad (B + 5)) :: rest))) : W p l e R s mm args below meth c H locs cells slots Q (F0 mm pc ls (.ref (ad (B + 1)) :: rest)) :=
  kr_get V h (kq_w hB (by decide)) (kE_w1 hB) (C := RX1) (T := TX1) (N := 7) rfl kX1 4 (by decide) kf_X1_25 rfl hdg kk
theorem kg_X4_169 {B : Nat} (hB : kB B) (V : kV p s mm args meth c cc RX4 nL ret D cI cZ cO) (h : kHE s H locs D ad cI cZ cO k mo X) (hdg : decode cc pc = .ok (.getfield 169, 3)) (kk : W p l e R s mm args below meth c H locs cells slots Q (F0 mm (pc + 3) ls (.ref (ad (B + 5)) :: rest))) : W p l e R s mm args below meth c H locs cells slots Q (F0 mm pc ls (.ref (ad (B + 1)) :: rest)) :=
  kr_get V h (kq_w hB (by decide)) (kE_w1 hB) (C := RX1) (T := TX1) (N := 7) rfl kX1 4 (by decide) kf_X4_169 rfl hdg kk
theorem kg_X1_28 {B : Nat} (hB : kB B) (V : kV p s mm args meth c cc RX1 nL ret D cI cZ cO) (h : kHE s H locs D ad cI cZ cO k mo X) (hdg : decode cc pc = .ok (.getfield 28, 3)) (kk : W p l e R s mm args below meth c H locs cells slots Q (F0 mm (pc + 3) ls (.ref (ad (B + 6)) :: rest))) : W p l e R s mm args below meth c H locs cells slots Q (F0 mm pc ls (.ref (ad (B + 1)) :: rest)) :=
  kr_get V h (kq_w hB (by decide)) (kE_w1 hB) (C := RX1) (T := TX1) (N := 7) rfl kX1 5 (by decide) kf_X1_28 rfl hdg kk
theorem kg_X5_141 {B : Nat} (hB : kB B) (V : kV p s mm args meth c cc RX5 nL ret D cI cZ cO) (h : kHE s H locs D ad cI cZ cO k mo X) (hdg : decode cc pc = .ok (.getfield 141, 3)) (kk : W p l e R s mm args below meth c H locs cells slots Q (F0 mm (pc + 3) ls (.ref (ad (B + 6)) :: rest))) : W p l e R s mm args below meth c H locs cells slots Q (F0 mm pc ls (.ref (ad (B + 1)) :: rest)) :=
  kr_get V h (kq_w hB (by decide)) (kE_w1 hB) (C := RX1) (T := TX1) (N := 7) rfl kX1 5 (by decide) kf_X5_141 rfl hdg kk
theorem kg_X1_33 {B : Nat} (hB : kB B) (V : kV p s mm args meth c cc RX1 nL ret D cI cZ cO) (h : kHE s H locs D ad cI cZ cO k mo X) (hdg : decode cc pc = .ok (.getfield 33, 3)) (kk : W p l e R s mm args below meth c H locs cells slots Q (F0 mm (pc + 3) ls (.ref (ad (B + 7)) :: rest))) : W p l e R s mm args below meth c H locs cells slots Q (F0 mm pc ls (.ref (ad (B + 1)) :: rest)) :=
  kr_get V h (kq_w hB (by decide)) (kE_w1 hB) (C := RX1) (T := TX1) (N := 7) rfl kX1 6 (by decide) kf_X1_33 rfl hdg kk
theorem kg_X5_144 {B : Nat} (hB : kB B) (V : kV p s mm args meth c cc RX5 nL ret D cI cZ cO) (h : kHE s H locs D ad cI cZ cO k mo X) (hdg : decode cc pc = .ok (.getfield 144, 3)) (kk : W p l e R s mm args below meth c H locs cells slots Q (F0 mm (pc + 3) ls (.ref (ad (B + 7)) :: rest))) : W p l e R s mm args below meth c H locs cells slots Q (F0 mm pc ls (.ref (ad (B + 1)) :: rest)) :=
  kr_get V h (kq_w hB (by decide)) (kE_w1 hB) (C := RX1) (T := TX1) (N := 7) rfl kX1 6 (by decide) kf_X5_144 rfl hdg kk
theorem kg_X3_9 {B : Nat} (hB : kB B) (V : kV p s mm args meth c cc RX3 nL ret D cI cZ cO) (h : kHE s H locs D ad cI cZ cO k mo X) (hdg : decode cc pc = .ok (.getfield 9, 3)) (kk : W p l e R s mm args below meth c H locs cells slots Q (F0 mm (pc + 3) ls (.ref (ad (B + 9)) :: rest))) : W p l e R s mm args below meth c H locs cells slots Q (F0 mm pc ls (.ref (ad (B + 8)) :: rest)) :=
  kr_get V h (kq_w hB (by decide)) (kE_w8 hB) (C := RX3) (T := TX3) (N := 2) rfl kX3 0 (by decide) kf_X3_9 rfl hdg kk
theorem kg_X3_15 {B : Nat} (hB : kB B) (V : kV p s mm args meth c cc RX3 nL ret D cI cZ cO) (h : kHE s H locs D ad cI cZ cO k mo X) (hdg : decode cc pc = .ok (.getfield 15, 3)) (kk : W p l e R s mm args below meth c H locs cells slots Q (F0 mm (pc + 3) ls (.ref (ad (B + 10)) :: rest))) : W p l e R s mm args below meth c H locs cells slots Q (F0 mm pc ls (.ref (ad (B + 8)) :: rest)) :=
  kr_get V h (kq_w hB (by decide)) (kE_w8 hB) (C := RX3) (T := TX3) (N := 2) rfl kX3 1 (by decide) kf_X3_15 rfl hdg kk
theorem kg_X4_97 {B : Nat} (hB : kB B) (V : kV p s mm args meth c cc RX4 nL ret D cI cZ cO) (h : kHE s H locs D ad cI cZ cO k mo X) (hdg : decode cc pc = .ok (.getfield 97, 3)) (kk : W p l e R s mm args below meth c H locs cells slots Q (F0 mm (pc + 3) ls (.ref (ad (B + 10)) :: rest))) : W p l e R s mm args below meth c H locs cells slots Q (F0 mm pc ls (.ref (ad (B + 8)) :: rest)) :=
  kr_get V h (kq_w hB (by decide)) (kE_w8 hB) (C := RX3) (T := TX3) (N := 2) rfl kX3 1 (by decide) kf_X4_97 rfl hdg kk
theorem kg_X2_9 {B : Nat} (hB : kB B) (V : kV p s mm args meth c cc RX2 nL ret D cI cZ cO) (h : kHE s H locs D ad cI cZ cO k mo X) (hdg : decode cc pc = .ok (.getfield 9, 3)) (kk : W p l e R s mm args below meth c H locs cells slots Q (F0 mm (pc + 3) ls (.ref (ad (B + 12)) :: rest))) : W p l e R s mm args below meth c H locs cells slots Q (F0 mm pc ls (.ref (ad (B + 11)) :: rest)) :=
  kr_get V h (kq_w hB (by decide)) (kE_w11 hB) (C := RX2) (T := TX2) (N := 2) rfl kX2 0 (by decide) kf_X2_9 rfl hdg kk
theorem kg_X2_15 {B : Nat} (hB : kB B) (V : kV p s mm args meth c cc RX2 nL ret D cI cZ cO) (h : kHE s H locs D ad cI cZ cO k mo X) (hdg : decode cc pc = .ok (.getfield 15, 3)) (kk : W p l e R s mm args below meth c H locs cells slots Q (F0 mm (pc + 3) ls (.ref (ad (B + 13)) :: rest))) : W p l e R s mm args below meth c H locs cells slots Q (F0 mm pc ls (.ref (ad (B + 11)) :: rest)) :=
  kr_get V h (kq_w hB (by decide)) (kE_w11 hB) (C := RX2) (T := TX2) (N := 2) rfl kX2 1 (by decide) kf_X2_15 rfl hdg kk
theorem kg_X4_40 {B : Nat} (hB : kB B) (V : kV p s mm args meth c cc RX4 nL ret D cI cZ cO) (h : kHE s H locs D ad cI cZ cO k mo X) (hdg : decode cc pc = .ok (.getfield 40, 3)) (kk : W p l e R s mm args below meth c H locs cells slots Q (F0 mm (pc + 3) ls (.ref (ad 1) :: rest))) : W p l e R s mm args below meth c H locs cells slots Q (F0 mm pc ls (.ref (ad B) :: rest)) :=
  kr_get V h (kq_B hB) (kE_w0 hB) (C := RX4) (T := TX4) (N := 6) rfl kX4 0 (by decide) kf_X4_40 rfl hdg kk
theorem kg_X4_12 {B : Nat} (hB : kB B) (V : kV p s mm args meth c cc RX4 nL ret D cI cZ cO) (h : kHE s H locs D ad cI cZ cO k mo X) (hdg : decode cc pc = .ok (.getfield 12, 3)) (kk : W p l e R s mm args below meth c H locs cells slots Q (F0 mm (pc + 3) ls (.ref (ad (B + 1)) :: rest))) : W p l e R s mm args below meth c H locs cells slots Q (F0 mm pc ls (.ref (ad B) :: rest)) :=
  kr_get V h (kq_B hB) (kE_w0 hB) (C := RX4) (T := TX4) (N := 6) rfl kX4 1 (by decide) kf_X4_12 rfl hdg kk
theorem kg_X5_81 {B : Nat} (hB : kB B) (V : kV p s mm args meth c cc RX5 nL ret D cI cZ cO) (h : kHE s H locs D ad cI cZ cO k mo X) (hdg : decode cc pc = .ok (.getfield 81, 3)) (kk : W p l e R s mm args below meth c H locs cells slots Q (F0 mm (pc + 3) ls (.ref (ad (B + 1)) :: rest))) : W p l e R s mm args below meth c H locs cells slots Q (F0 mm pc ls (.ref (ad B) :: rest)) :=
  kr_get V h (kq_B hB) (kE_w0 hB) (C := RX4) (T := TX4) (N := 6) rfl kX4 1 (by decide) kf_X5_81 rfl hdg kk
theorem kg_X4_21 {B : Nat} (hB : kB B) (V : kV p s mm args meth c cc RX4 nL ret D cI cZ cO) (h : kHE s H locs D ad cI cZ cO k mo X) (hdg : decode cc pc = .ok (.getfield 21, 3)) (kk : W p l e R s mm args below meth c H locs cells slots Q (F0 mm (pc + 3) ls (.ref (ad (B + 8)) :: rest))) : W p l e R s mm args below meth c H locs cells slots Q (F0 mm pc ls (.ref (ad B) :: rest)) :=
  kr_get V h (kq_B hB) (kE_w0 hB) (C := RX4) (T := TX4) (N := 6) rfl kX4 2 (by decide) kf_X4_21 rfl hdg kk
theorem kg_X5_56 {B : Nat} (hB : kB B) (V : kV p s mm args meth c cc RX5 nL ret D cI cZ cO) (h : kHE s H locs D ad cI cZ cO k mo X) (hdg : decode cc pc = .ok (.getfield 56, 3)) (kk : W p l e R s mm args below meth c H locs cells slots Q (F0 mm (pc + 3) ls (.ref (ad (B + 8)) :: rest))) : W p l e R s mm args below meth c H locs cells slots Q (F0 mm pc ls (.ref (ad B) :: rest)) :=
  kr_get V h (kq_B hB) (kE_w0 hB) (C := RX4) (T := TX4) (N := 6) rfl kX4 2 (by decide) kf_X5_56 rfl hdg kk
theorem kg_X4_28 {B : Nat} (hB : kB B) (V : kV p s mm args meth c cc RX4 nL ret D cI cZ cO) (h : kHE s H locs D ad cI cZ cO k mo X) (hdg : decode cc pc = .ok (.getfield 28, 3)) (kk : W p l e R s mm args below meth c H locs cells slots Q (F0 mm (pc + 3) ls (.ref (ad (B + 11)) :: rest))) : W p l e R s mm args below meth c H locs cells slots Q (F0 mm pc ls (.ref (ad B) :: rest)) :=
  kr_get V h (kq_B hB) (kE_w0 hB) (C := RX4) (T := TX4) (N := 6) rfl kX4 3 (by decide) kf_X4_28 rfl hdg kk
theorem kg_X4_32 {B : Nat} (hB : kB B) (V : kV p s mm args meth c cc RX4 nL ret D cI cZ cO) (h : kHE s H locs D ad cI cZ cO k mo X) (hdg : decode cc pc = .ok (.getfield 32, 3)) (kk : W p l e R s mm args below meth c H locs cells slots Q (F0 mm (pc + 3) ls (.ref (ad (B + 14)) :: rest))) : W p l e R s mm args below meth c H locs cells slots Q (F0 mm pc ls (.ref (ad B) :: rest)) :=
  kr_get V h (kq_B hB) (kE_w0 hB) (C := RX4) (T := TX4) (N := 6) rfl kX4 4 (by decide) kf_X4_32 rfl hdg kk
theorem kg_X4_36 {B : Nat} (hB : kB B) (V : kV p s mm args meth c cc RX4 nL ret D cI cZ cO) (h : kHE s H locs D ad cI cZ cO k mo X) (hdg : decode cc pc = .ok (.getfield 36, 3)) (kk : W p l e R s mm args below meth c H locs cells slots Q (F0 mm (pc + 3) ls (.int (k B 0) :: rest))) : W p l e R s mm args below meth c H locs cells slots Q (F0 mm pc ls (.ref (ad B) :: rest)) :=
  kr_get V h (kq_B hB) (kE_w0 hB) (C := RX4) (T := TX4) (N := 6) rfl kX4 5 (by decide) kf_X4_36 rfl hdg kk
theorem kp_X4_36 {B : Nat} (hB : kB B) (V : kV p s mm args meth c cc RX4 nL ret D cI cZ cO) (h : kHE s H locs D ad cI cZ cO k mo X) {x : Int32} (hdg : decode cc pc = .ok (.putfield 36, 3)) (kk : ∀ (H1 : Heap) (locs1 : List Loc), kHE s H1 locs1 D ad cI cZ cO (kst k B (upd (k B) 0 x)) mo X → W p l e R s mm args below meth c H1 locs1 cells slots Q (F0 mm (pc + 3) ls rest)) : W p l e R s mm args below meth c H locs cells slots Q (F0 mm pc ls (.int x :: .ref (ad B) :: rest)) :=
  kr_put V h (kq_B hB) (kE_w0 hB) (C := RX4) (T := TX4) (N := 6) rfl kX4 tyX4 tyX4_ok nmX4 5 (by decide) kf_X4_36 rfl (by decide +kernel) (by show 5 < 6; decide) (by rw [kE_w0 hB, kst_eq]; simp [upd]) (fun a ha => kst_o ha) hdg kk
theorem kg_X5_44 {B : Nat} (hB : kB B) (V : kV p s mm args meth c cc RX5 nL ret D cI cZ cO) (h : kHE s H locs D ad cI cZ cO k mo X) (hdg : decode cc pc = .ok (.getfield 44, 3)) (kk : W p l e R s mm args below meth c H locs cells slots Q (F0 mm (pc + 3) ls (.int (k B 0) :: rest))) : W p l e R s mm args below meth c H locs cells slots Q (F0 mm pc ls (.ref (ad B) :: rest)) :=
  kr_get V h (kq_B hB) (kE_w0 hB) (C := RX4) (T := TX4) (N := 6) rfl kX4 5 (by decide) kf_X5_44 rfl hdg kk
theorem kg_X5_10 (V : kV p s mm args meth c cc RX5 nL ret D cI cZ cO) (h : kHE s H locs D ad cI cZ cO k mo X) (hdg : decode cc pc = .ok (.getfield 10, 3)) (kk : W p l e R s mm args below meth c H locs cells slots Q (F0 mm (pc + 3) ls (.ref (ad 1) :: rest))) : W p l e R s mm args below meth c H locs cells slots Q (F0 mm pc ls (.ref (ad 0) :: rest)) :=
  kr_get V h (by decide) kE_0 (C := RX5) (T := TX5) (N := 3) rfl kX5 0 (by decide) kf_X5_10 rfl hdg kk
theorem kg_X5_21 (V : kV p s mm args meth c cc RX5 nL ret D cI cZ cO) (h : kHE s H locs D ad cI cZ cO k mo X) (hdg : decode cc pc = .ok (.getfield 21, 3)) (kk : W p l e R s mm args below meth c H locs cells slots Q (F0 mm (pc + 3) ls (.ref (ad 15) :: rest))) : W p l e R s mm args below meth c H locs cells slots Q (F0 mm pc ls (.ref (ad 0) :: rest)) :=
  kr_get V h (by decide) kE_0 (C := RX5) (T := TX5) (N := 3) rfl kX5 1 (by decide) kf_X5_21 rfl hdg kk
theorem kg_X5_25 (V : kV p s mm args meth c cc RX5 nL ret D cI cZ cO) (h : kHE s H locs D ad cI cZ cO k mo X) (hdg : decode cc pc = .ok (.getfield 25, 3)) (kk : W p l e R s mm args below meth c H locs cells slots Q (F0 mm (pc + 3) ls (.ref (ad 30) :: rest))) : W p l e R s mm args below meth c H locs cells slots Q (F0 mm pc ls (.ref (ad 0) :: rest)) :=
  kr_get V h (by decide) kE_0 (C := RX5) (T := TX5) (N := 3) rfl kX5 2 (by decide) kf_X5_25 rfl hdg kk
end KP
theorem kYX0_knows : kY RX0 yX0_knows cX0_knows 2 (some .boolean) 1 := ⟨kinst_yX0_knows, ksel_yX0_knows, kz_X0, kd_yX0_knows, by decide +kernel⟩
theorem kYX0_isFull : kY RX0 yX0_isFull cX0_isFull 1 (some .boolean) 0 := ⟨kinst_yX0_isFull, ksel_yX0_isFull, kz_X0, kd_yX0_isFull, by decide +kernel⟩
theorem kYX0_add : kY RX0 yX0_add cX0_add 8 (some .int) 4 := ⟨kinst_yX0_add, ksel_yX0_add, kz_X0, kd_yX0_add, by decide +kernel⟩
theorem kYX0_stepsThroughParents : kY RX0 yX0_stepsThroughParents cX0_stepsThroughParents 6 (some .int) 3 := ⟨kinst_yX0_stepsThroughParents, ksel_yX0_stepsThroughParents, kz_X0, kd_yX0_stepsThroughParents, by decide +kernel⟩
theorem kYX0_stepsBetween : kY RX0 yX0_stepsBetween cX0_stepsBetween 3 (some .int) 2 := ⟨kinst_yX0_stepsBetween, ksel_yX0_stepsBetween, kz_X0, kd_yX0_stepsBetween, by decide +kernel⟩
theorem kYX0_isBefore : kY RX0 yX0_isBefore cX0_isBefore 3 (some .boolean) 2 := ⟨kinst_yX0_isBefore, ksel_yX0_isBefore, kz_X0, kd_yX0_isBefore, by decide +kernel⟩
theorem kYX0_isAhead : kY RX0 yX0_isAhead cX0_isAhead 4 (some .boolean) 3 := ⟨kinst_yX0_isAhead, ksel_yX0_isAhead, kz_X0, kd_yX0_isAhead, by decide +kernel⟩
theorem kYX0_childrenOf : kY RX0 yX0_childrenOf cX0_childrenOf 4 (some .int) 1 := ⟨kinst_yX0_childrenOf, ksel_yX0_childrenOf, kz_X0, kd_yX0_childrenOf, by decide +kernel⟩
theorem kYX1_knows : kY RX1 yX1_knows cX1_knows 2 (some .boolean) 1 := ⟨kinst_yX1_knows, ksel_yX1_knows, kz_X1, kd_yX1_knows, by decide +kernel⟩
theorem kYX1_isFull : kY RX1 yX1_isFull cX1_isFull 1 (some .boolean) 0 := ⟨kinst_yX1_isFull, ksel_yX1_isFull, kz_X1, kd_yX1_isFull, by decide +kernel⟩
theorem kYX1_add : kY RX1 yX1_add cX1_add 5 (some .int) 3 := ⟨kinst_yX1_add, ksel_yX1_add, kz_X1, kd_yX1_add, by decide +kernel⟩
theorem kYX1_handTo : kY RX1 yX1_handTo cX1_handTo 3 none 2 := ⟨kinst_yX1_handTo, ksel_yX1_handTo, kz_X1, kd_yX1_handTo, by decide +kernel⟩
theorem kYX1_rulerOf : kY RX1 yX1_rulerOf cX1_rulerOf 2 (some .int) 1 := ⟨kinst_yX1_rulerOf, ksel_yX1_rulerOf, kz_X1, kd_yX1_rulerOf, by decide +kernel⟩
theorem kYX1_numberUnder : kY RX1 yX1_numberUnder cX1_numberUnder 4 (some .int) 1 := ⟨kinst_yX1_numberUnder, ksel_yX1_numberUnder, kz_X1, kd_yX1_numberUnder, by decide +kernel⟩
theorem kYX1_worthUnder : kY RX1 yX1_worthUnder cX1_worthUnder 4 (some .int) 1 := ⟨kinst_yX1_worthUnder, ksel_yX1_worthUnder, kz_X1, kd_yX1_worthUnder, by decide +kernel⟩
theorem kYX1_takeRulers : kY RX1 yX1_takeRulers cX1_takeRulers 2 none 1 := ⟨kinst_yX1_takeRulers, ksel_yX1_takeRulers, kz_X1, kd_yX1_takeRulers, by decide +kernel⟩
theorem kYX2_clear : kY RX2 yX2_clear cX2_clear 1 none 0 := ⟨kinst_yX2_clear, ksel_yX2_clear, kz_X2, kd_yX2_clear, by decide +kernel⟩
theorem kYX2_firstOf : kY RX2 yX2_firstOf cX2_firstOf 2 (some .int) 1 := ⟨kinst_yX2_firstOf, ksel_yX2_firstOf, kz_X2, kd_yX2_firstOf, by decide +kernel⟩
theorem kYX2_tell : kY RX2 yX2_tell cX2_tell 7 none 5 := ⟨kinst_yX2_tell, ksel_yX2_tell, kz_X2, kd_yX2_tell, by decide +kernel⟩
theorem kYX3_fits : kYs yX3_fits cX3_fits 1 (some .boolean) 1 := ⟨kstatic_yX3_fits, kz_X3, kd_yX3_fits, by decide +kernel⟩
theorem kYX3_spouseOf : kY RX3 yX3_spouseOf cX3_spouseOf 2 (some .int) 1 := ⟨kinst_yX3_spouseOf, ksel_yX3_spouseOf, kz_X3, kd_yX3_spouseOf, by decide +kernel⟩
theorem kYX3_givenBy : kY RX3 yX3_givenBy cX3_givenBy 2 (some .int) 1 := ⟨kinst_yX3_givenBy, ksel_yX3_givenBy, kz_X3, kd_yX3_givenBy, by decide +kernel⟩
theorem kYX3_bind : kY RX3 yX3_bind cX3_bind 3 none 2 := ⟨kinst_yX3_bind, ksel_yX3_bind, kz_X3, kd_yX3_bind, by decide +kernel⟩
theorem kYX3_part : kY RX3 yX3_part cX3_part 3 none 1 := ⟨kinst_yX3_part, ksel_yX3_part, kz_X3, kd_yX3_part, by decide +kernel⟩
theorem kYX3_couples : kY RX3 yX3_couples cX3_couples 3 (some .int) 0 := ⟨kinst_yX3_couples, ksel_yX3_couples, kz_X3, kd_yX3_couples, by decide +kernel⟩
theorem kYX4_startFrom : kY RX4 yX4_startFrom cX4_startFrom 2 none 1 := ⟨kinst_yX4_startFrom, ksel_yX4_startFrom, kz_X4, kd_yX4_startFrom, by decide +kernel⟩
theorem kYX4_lives : kY RX4 yX4_lives cX4_lives 2 (some .boolean) 1 := ⟨kinst_yX4_lives, ksel_yX4_lives, kz_X4, kd_yX4_lives, by decide +kernel⟩
theorem kYX4_age : kY RX4 yX4_age cX4_age 2 (some .int) 1 := ⟨kinst_yX4_age, ksel_yX4_age, kz_X4, kd_yX4_age, by decide +kernel⟩
theorem kYX4_isFree : kY RX4 yX4_isFree cX4_isFree 2 (some .boolean) 1 := ⟨kinst_yX4_isFree, ksel_yX4_isFree, kz_X4, kd_yX4_isFree, by decide +kernel⟩
theorem kYX4_mayMarry : kY RX4 yX4_mayMarry cX4_mayMarry 4 (some .boolean) 2 := ⟨kinst_yX4_mayMarry, ksel_yX4_mayMarry, kz_X4, kd_yX4_mayMarry, by decide +kernel⟩
theorem kYX4_wed : kY RX4 yX4_wed cX4_wed 5 none 3 := ⟨kinst_yX4_wed, ksel_yX4_wed, kz_X4, kd_yX4_wed, by decide +kernel⟩
theorem kYX4_separate : kY RX4 yX4_separate cX4_separate 6 (some .int) 1 := ⟨kinst_yX4_separate, ksel_yX4_separate, kz_X4, kd_yX4_separate, by decide +kernel⟩
theorem kYX4_bury : kY RX4 yX4_bury cX4_bury 4 (some .int) 1 := ⟨kinst_yX4_bury, ksel_yX4_bury, kz_X4, kd_yX4_bury, by decide +kernel⟩
theorem kYX4_letPass : kY RX4 yX4_letPass cX4_letPass 5 (some .int) 1 := ⟨kinst_yX4_letPass, ksel_yX4_letPass, kz_X4, kd_yX4_letPass, by decide +kernel⟩
theorem kYX4_heirOf : kY RX4 yX4_heirOf cX4_heirOf 5 (some .int) 2 := ⟨kinst_yX4_heirOf, ksel_yX4_heirOf, kz_X4, kd_yX4_heirOf, by decide +kernel⟩
theorem kYX4_eldestOfKin : kY RX4 yX4_eldestOfKin cX4_eldestOfKin 4 (some .int) 1 := ⟨kinst_yX4_eldestOfKin, ksel_yX4_eldestOfKin, kz_X4, kd_yX4_eldestOfKin, by decide +kernel⟩
theorem kYX4_regentOf : kY RX4 yX4_regentOf cX4_regentOf 2 (some .int) 1 := ⟨kinst_yX4_regentOf, ksel_yX4_regentOf, kz_X4, kd_yX4_regentOf, by decide +kernel⟩
theorem kYX4_nearestGrown : kY RX4 yX4_nearestGrown cX4_nearestGrown 6 (some .int) 1 := ⟨kinst_yX4_nearestGrown, ksel_yX4_nearestGrown, kz_X4, kd_yX4_nearestGrown, by decide +kernel⟩
theorem kYX4_personFact : kY RX4 yX4_personFact cX4_personFact 3 (some .int) 2 := ⟨kinst_yX4_personFact, ksel_yX4_personFact, kz_X4, kd_yX4_personFact, by decide +kernel⟩
theorem kYX4_landFact : kY RX4 yX4_landFact cX4_landFact 4 (some .int) 2 := ⟨kinst_yX4_landFact, ksel_yX4_landFact, kz_X4, kd_yX4_landFact, by decide +kernel⟩
theorem kYX4_countFact : kY RX4 yX4_countFact cX4_countFact 2 (some .int) 1 := ⟨kinst_yX4_countFact, ksel_yX4_countFact, kz_X4, kd_yX4_countFact, by decide +kernel⟩
theorem kYX4_living : kY RX4 yX4_living cX4_living 3 (some .int) 0 := ⟨kinst_yX4_living, ksel_yX4_living, kz_X4, kd_yX4_living, by decide +kernel⟩
theorem kYX4_rulers : kY RX4 yX4_rulers cX4_rulers 4 (some .int) 1 := ⟨kinst_yX4_rulers, ksel_yX4_rulers, kz_X4, kd_yX4_rulers, by decide +kernel⟩
theorem kYX5_come : kY RX5 yX5_come cX5_come 3 (some .int) 2 := ⟨kinst_yX5_come, ksel_yX5_come, kz_X5, kd_yX5_come, by decide +kernel⟩
theorem kYX5_bear : kY RX5 yX5_bear cX5_bear 4 (some .int) 2 := ⟨kinst_yX5_bear, ksel_yX5_bear, kz_X5, kd_yX5_bear, by decide +kernel⟩
theorem kYX5_found : kY RX5 yX5_found cX5_found 4 (some .int) 3 := ⟨kinst_yX5_found, ksel_yX5_found, kz_X5, kd_yX5_found, by decide +kernel⟩
theorem kYX5_setLaw : kY RX5 yX5_setLaw cX5_setLaw 4 (some .int) 2 := ⟨kinst_yX5_setLaw, ksel_yX5_setLaw, kz_X5, kd_yX5_setLaw, by decide +kernel⟩
theorem kYX5_marry : kY RX5 yX5_marry cX5_marry 5 (some .int) 3 := ⟨kinst_yX5_marry, ksel_yX5_marry, kz_X5, kd_yX5_marry, by decide +kernel⟩
theorem kYX5_annul : kY RX5 yX5_annul cX5_annul 2 (some .int) 1 := ⟨kinst_yX5_annul, ksel_yX5_annul, kz_X5, kd_yX5_annul, by decide +kernel⟩
theorem kYX5_die : kY RX5 yX5_die cX5_die 2 (some .int) 1 := ⟨kinst_yX5_die, ksel_yX5_die, kz_X5, kd_yX5_die, by decide +kernel⟩
theorem kYX5_person : kY RX5 yX5_person cX5_person 3 (some .int) 2 := ⟨kinst_yX5_person, ksel_yX5_person, kz_X5, kd_yX5_person, by decide +kernel⟩
theorem kYX5_land : kY RX5 yX5_land cX5_land 3 (some .int) 2 := ⟨kinst_yX5_land, ksel_yX5_land, kz_X5, kd_yX5_land, by decide +kernel⟩
theorem kYX5_ruled : kY RX5 yX5_ruled cX5_ruled 3 (some .int) 2 := ⟨kinst_yX5_ruled, ksel_yX5_ruled, kz_X5, kd_yX5_ruled, by decide +kernel⟩
theorem kYX5_related : kY RX5 yX5_related cX5_related 3 (some .int) 2 := ⟨kinst_yX5_related, ksel_yX5_related, kz_X5, kd_yX5_related, by decide +kernel⟩
theorem kYX5_count : kY RX5 yX5_count cX5_count 2 (some .int) 1 := ⟨kinst_yX5_count, ksel_yX5_count, kz_X5, kd_yX5_count, by decide +kernel⟩
theorem kYX5_pass : kY RX5 yX5_pass cX5_pass 2 (some .int) 1 := ⟨kinst_yX5_pass, ksel_yX5_pass, kz_X5, kd_yX5_pass, by decide +kernel⟩
theorem kYX5_rules : kY RX5 yX5_rules cX5_rules 3 (some .int) 1 := ⟨kinst_yX5_rules, ksel_yX5_rules, kz_X5, kd_yX5_rules, by decide +kernel⟩
theorem kYX5_foresee : kY RX5 yX5_foresee cX5_foresee 3 (some .int) 2 := ⟨kinst_yX5_foresee, ksel_yX5_foresee, kz_X5, kd_yX5_foresee, by decide +kernel⟩
theorem kYX5_best : kY RX5 yX5_best cX5_best 6 (some .int) 1 := ⟨kinst_yX5_best, ksel_yX5_best, kz_X5, kd_yX5_best, by decide +kernel⟩
theorem kYX5_mean : kY RX5 yX5_mean cX5_mean 4 (some .double) 0 := ⟨kinst_yX5_mean, ksel_yX5_mean, kz_X5, kd_yX5_mean, by decide +kernel⟩
theorem kYX5_needPerson : kY RX5 yX5_needPerson cX5_needPerson 2 none 1 := ⟨kinst_yX5_needPerson, ksel_yX5_needPerson, kz_X5, kd_yX5_needPerson, by decide +kernel⟩
theorem kYX5_needLand : kY RX5 yX5_needLand cX5_needLand 2 none 1 := ⟨kinst_yX5_needLand, ksel_yX5_needLand, kz_X5, kd_yX5_needLand, by decide +kernel⟩
theorem kYX5_needBelow : kYs yX5_needBelow cX5_needBelow 2 none 2 := ⟨kstatic_yX5_needBelow, kz_X5, kd_yX5_needBelow, by decide +kernel⟩
theorem kYX5_needLaw : kYs yX5_needLaw cX5_needLaw 1 none 1 := ⟨kstatic_yX5_needLaw, kz_X5, kd_yX5_needLaw, by decide +kernel⟩
theorem kYX5_needYears : kYs yX5_needYears cX5_needYears 1 none 1 := ⟨kstatic_yX5_needYears, kz_X5, kd_yX5_needYears, by decide +kernel⟩
theorem kYX8_come : kY RX8 yX8_come cX8_come 5 (some (.object "KingTiesLaw$Person")) 2 := ⟨kinst_yX8_come, ksel_yX8_come, kz_X8, kd_yX8_come, by decide +kernel⟩
theorem kYX8_bear : kY RX8 yX8_bear cX8_bear 4 none 2 := ⟨kinst_yX8_bear, ksel_yX8_bear, kz_X8, kd_yX8_bear, by decide +kernel⟩
theorem kYX8_rule : kY RX8 yX8_rule cX8_rule 5 none 2 := ⟨kinst_yX8_rule, ksel_yX8_rule, kz_X8, kd_yX8_rule, by decide +kernel⟩
theorem kYX8_found : kY RX8 yX8_found cX8_found 6 none 3 := ⟨kinst_yX8_found, ksel_yX8_found, kz_X8, kd_yX8_found, by decide +kernel⟩
theorem kYX8_isBefore : kYs yX8_isBefore cX8_isBefore 2 (some .boolean) 2 := ⟨kstatic_yX8_isBefore, kz_X8, kd_yX8_isBefore, by decide +kernel⟩
theorem kYX8_up : kYs yX8_up cX8_up 2 (some .int) 2 := ⟨kstatic_yX8_up, kz_X8, kd_yX8_up, by decide +kernel⟩
theorem kYX8_related : kY RX8 yX8_related cX8_related 8 (some .int) 2 := ⟨kinst_yX8_related, ksel_yX8_related, kz_X8, kd_yX8_related, by decide +kernel⟩
theorem kYX8_children : kY RX8 yX8_children cX8_children 7 (some .int) 1 := ⟨kinst_yX8_children, ksel_yX8_children, kz_X8, kd_yX8_children, by decide +kernel⟩
theorem kYX8_row : kY RX8 yX8_row cX8_row 10 (some (.array (.object "KingTiesLaw$Person"))) 2 := ⟨kinst_yX8_row, ksel_yX8_row, kz_X8, kd_yX8_row, by decide +kernel⟩
theorem kYX8_isAhead : kYs yX8_isAhead cX8_isAhead 3 (some .boolean) 3 := ⟨kstatic_yX8_isAhead, kz_X8, kd_yX8_isAhead, by decide +kernel⟩
theorem kYX8_first : kY RX8 yX8_first cX8_first 9 (some (.object "KingTiesLaw$Person")) 3 := ⟨kinst_yX8_first, ksel_yX8_first, kz_X8, kd_yX8_first, by decide +kernel⟩
theorem kYX8_heir : kY RX8 yX8_heir cX8_heir 8 (some (.object "KingTiesLaw$Person")) 2 := ⟨kinst_yX8_heir, ksel_yX8_heir, kz_X8, kd_yX8_heir, by decide +kernel⟩
theorem kYX8_regent : kY RX8 yX8_regent cX8_regent 7 (some (.object "KingTiesLaw$Person")) 1 := ⟨kinst_yX8_regent, ksel_yX8_regent, kz_X8, kd_yX8_regent, by decide +kernel⟩
theorem kYX8_worth : kY RX8 yX8_worth cX8_worth 7 (some .int) 1 := ⟨kinst_yX8_worth, ksel_yX8_worth, kz_X8, kd_yX8_worth, by decide +kernel⟩
theorem kYX8_rules : kY RX8 yX8_rules cX8_rules 7 (some .int) 1 := ⟨kinst_yX8_rules, ksel_yX8_rules, kz_X8, kd_yX8_rules, by decide +kernel⟩
theorem kYX8_isFree : kY RX8 yX8_isFree cX8_isFree 2 (some .boolean) 1 := ⟨kinst_yX8_isFree, ksel_yX8_isFree, kz_X8, kd_yX8_isFree, by decide +kernel⟩
theorem kYX8_can : kY RX8 yX8_can cX8_can 3 (some .boolean) 2 := ⟨kinst_yX8_can, ksel_yX8_can, kz_X8, kd_yX8_can, by decide +kernel⟩
theorem kYX8_marry : kY RX8 yX8_marry cX8_marry 5 none 3 := ⟨kinst_yX8_marry, ksel_yX8_marry, kz_X8, kd_yX8_marry, by decide +kernel⟩
theorem kYX8_part : kY RX8 yX8_part cX8_part 2 none 1 := ⟨kinst_yX8_part, ksel_yX8_part, kz_X8, kd_yX8_part, by decide +kernel⟩
theorem kYX8_annul : kY RX8 yX8_annul cX8_annul 6 (some .int) 1 := ⟨kinst_yX8_annul, ksel_yX8_annul, kz_X8, kd_yX8_annul, by decide +kernel⟩
theorem kYX8_die : kY RX8 yX8_die cX8_die 5 (some .int) 1 := ⟨kinst_yX8_die, ksel_yX8_die, kz_X8, kd_yX8_die, by decide +kernel⟩
theorem kYX8_pass : kY RX8 yX8_pass cX8_pass 6 (some .int) 0 := ⟨kinst_yX8_pass, ksel_yX8_pass, kz_X8, kd_yX8_pass, by decide +kernel⟩
theorem kYX8_number : kYs yX8_number cX8_number 1 (some .int) 1 := ⟨kstatic_yX8_number, kz_X8, kd_yX8_number, by decide +kernel⟩
theorem kYX8_isSame : kY RX8 yX8_isSame cX8_isSame 15 (some .boolean) 1 := ⟨kinst_yX8_isSame, ksel_yX8_isSame, kz_X8, kd_yX8_isSame, by decide +kernel⟩
theorem kYJ7_fill_53178 : kYs yJ7_fill_53178 cJ7_fill_53178 4 none 2 := ⟨kstatic_yJ7_fill_53178, kz_J7, kd_yJ7_fill_53178, by decide +kernel⟩
theorem kYL_below : kYs yL_below cL_below 2 (some .int) 2 := ⟨kstatic_yL_below, kz_L, kd_yL_below, by decide +kernel⟩
theorem kYL_cell : kYs yL_cell cL_cell 2 (some .int) 2 := ⟨kstatic_yL_cell, kz_L, kd_yL_cell, by decide +kernel⟩
theorem kYL_act : kYs yL_act cL_act 14 (some .boolean) 3 := ⟨kstatic_yL_act, kz_L, kd_yL_act, by decide +kernel⟩
theorem kYL_build : kYs yL_build cL_build 8 (some (.object "KingTiesLaw$Sim")) 2 := ⟨kstatic_yL_build, kz_L, kd_yL_build, by decide +kernel⟩
