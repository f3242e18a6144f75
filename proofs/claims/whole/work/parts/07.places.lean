/-! ROWS OF SINGLE FIELDS AND PLACES -/
abbrev kHE (s : State) (H : Heap) (locs : List Loc) (D : va_G) (ad : Nat → Nat) (cI cZ cO : ClassId) (k mo : kS) (X : va_W) : Prop := kH s H locs D ad (kE ad cI cZ cO k mo) X
theorem kq_w {B j : Nat} (hB : kB B) (hj : j < 15) : B + j < 109 := by rcases hB with rfl | rfl <;> omega
theorem kq_B {B : Nat} (hB : kB B) : B < 109 := kq_w (j := 0) hB (by decide)
theorem kq_past {B i : Nat} (hB : kB B) (hi : i < 12) : kpb B + i < 109 := by
  rcases hB with rfl | rfl
  · show 45 + i < 109; omega
  · show 57 + i < 109; omega
theorem kE_pastB {ad : Nat → Nat} {cI cZ cO : ClassId} {k mo : kS} {B i : Nat} (hB : kB B) (hi : i < 12) : kE ad cI cZ cO k mo (kpb B + i) = .inl (cI, 15, .inl (k (kpb B + i))) := by
  rcases hB with rfl | rfl
  · exact kE_past (show 45 ≤ 45 + i by omega) (show 45 + i < 69 by omega)
  · exact kE_past (show 45 ≤ 57 + i by omega) (show 57 + i < 69 by omega)
theorem kE_stepsI {ad : Nat → Nat} {cI cZ cO : ClassId} {k mo : kS} {i : Nat} : kE ad cI cZ cO k mo (69 + i) = .inl (cI, 40, .inl (k (69 + i))) := kE_steps (Nat.le_add_right _ _)
def kU (P : Nat) : Prop := P = 12 ∨ P = 13
theorem kq_U {P : Nat} (h : kU P) : P < 109 := by rcases h with rfl | rfl <;> decide
theorem kE_U {ad : Nat → Nat} {cI cZ cO : ClassId} {k mo : kS} {P : Nat} (h : kU P) : kE ad cI cZ cO k mo P = .inl (cI, 40, .inl (mo P)) := by rcases h with rfl | rfl <;> rfl
theorem k15 : kB 15 := Or.inl rfl
theorem k30 : kB 30 := Or.inr rfl
theorem kU12 : kU 12 := Or.inl rfl
theorem kU13 : kU 13 := Or.inr rfl
theorem kidx {i : Int32} {n : Nat} (h : ¬ (i < 0 ∨ n ≤ i.toNatClampNeg)) : i.toNatClampNeg < n := Nat.not_le.mp fun q => h (Or.inr q)
theorem kif {α : Type} {c : Prop} [Decidable c] {x : Option α} {o : α} (h : (if c then none else x) = some o) : ¬ c ∧ x = some o := by
  by_cases hc : c
  · rw [if_pos hc] at h; cases h
  · rw [if_neg hc] at h; exact ⟨hc, h⟩
theorem kpos {α : Type} {c : Prop} [Decidable c] {a b : Option α} {o : Option α} (hc : c) (h : (if c then a else b) = o) : a = o := by rw [if_pos hc] at h; exact h
theorem kneg {α : Type} {c : Prop} [Decidable c] {a b : Option α} {o : Option α} (hc : ¬ c) (h : (if c then a else b) = o) : b = o := by rw [if_neg hc] at h; exact h
theorem kbind {α β : Type} {x : Option α} {f : α → Option β} {o : β} (h : x.bind f = some o) : ∃ a, x = some a ∧ f a = some o := by
  cases x with
  | none => cases h
  | some a => exact ⟨a, rfl, h⟩
/-- a use of cells ahead of what follows -/
def kadd {α : Type} (a b : Nat) (o : Option (α × Nat × Nat)) : Option (α × Nat × Nat) := o.map fun x => (x.1, a + x.2.1, b + x.2.2)
theorem kadd_some {α : Type} {a b : Nat} {o : Option (α × Nat × Nat)} {out : α × Nat × Nat} (h : kadd a b o = some out) : ∃ x, o = some x ∧ out = (x.1, a + x.2.1, b + x.2.2) := by
  cases o with
  | none => cases h
  | some x => exact ⟨x, rfl, (Option.some.inj h).symm⟩
theorem kne {x : Int32} {n : Int} (h : ¬ x = Int32.ofInt n) (h1 : -2147483648 ≤ n) (h2 : n < 2147483648) : x.toInt ≠ n := fun e => h (by
  rw [← e, Int32.ofInt_toInt])
section KP
variable {p : Program} {l : Launch} {e : Env} {R : Room} {s : State} {mm : MethodId} {args : Array Value} {below : List Frame} {meth : Method} {c : Code} {H : Heap} {locs : List Loc} {cells slots : Nat} {Q : State → Prop}
variable {cc : ByteArray} {own : String} {nL : Nat} {ret : Option FieldType} {D : va_G} {cI cZ cO : ClassId} {ad : Nat → Nat} {k mo : kS} {X : va_W} {pc : Nat} {ls : Array Slot} {rest : List Value}
theorem kst_o {a q : Nat} {f : Nat → Int32} (h : a ≠ q) : kE ad cI cZ cO (kst k q f) mo a = kE ad cI cZ cO k mo a := kE_dep (kst_ne k f h) rfl
theorem kst_oM {a q : Nat} {f : Nat → Int32} (h : a ≠ q) : kE ad cI cZ cO k (kst mo q f) a = kE ad cI cZ cO k mo a := kE_dep rfl (kst_ne mo f h)
theorem kr_iastK (V : kV p s mm args meth c cc own nL ret D cI cZ cO) (h : kHE s H locs D ad cI cZ cO k mo X) {q : Nat} (hq : q < 109) {n : Nat} (hf : ∀ k : kS, kE ad cI cZ cO k mo q = .inl (cI, n, .inl (k q))) {i x : Int32} (hi : ¬ (i < 0 ∨ n ≤ i.toNatClampNeg)) (hdg : decode cc pc = .ok (.iastore, 1))
    (kk : ∀ (H1 : Heap) (locs1 : List Loc), kHE s H1 locs1 D ad cI cZ cO (kst k q (upd (k q) i.toNatClampNeg x)) mo X → W p l e R s mm args below meth c H1 locs1 cells slots Q (F0 mm (pc + 1) ls rest)) : W p l e R s mm args below meth c H locs cells slots Q (F0 mm pc ls (.int x :: .int i :: .ref (ad q) :: rest)) :=
  kr_iast V h hq (hf k) hi (by rw [hf, kst_eq]) (fun a ha => kst_o ha) hdg kk
theorem kr_zastK (V : kV p s mm args meth c cc own nL ret D cI cZ cO) (h : kHE s H locs D ad cI cZ cO k mo X) {q : Nat} (hq : q < 109) {n : Nat} (hf : ∀ k : kS, kE ad cI cZ cO k mo q = .inl (cZ, n, .inl (k q))) {i x : Int32} (hi : ¬ (i < 0 ∨ n ≤ i.toNatClampNeg)) (hdg : decode cc pc = .ok (.bastore, 1))
    (kk : ∀ (H1 : Heap) (locs1 : List Loc), kHE s H1 locs1 D ad cI cZ cO (kst k q (upd (k q) i.toNatClampNeg (vp_nar .boolean x))) mo X → W p l e R s mm args below meth c H1 locs1 cells slots Q (F0 mm (pc + 1) ls rest)) : W p l e R s mm args below meth c H locs cells slots Q (F0 mm pc ls (.int x :: .int i :: .ref (ad q) :: rest)) :=
  kr_zast V h hq (hf k) hi (by rw [hf, kst_eq]) (fun a ha => kst_o ha) hdg kk
theorem kr_iastM (V : kV p s mm args meth c cc own nL ret D cI cZ cO) (h : kHE s H locs D ad cI cZ cO k mo X) {q : Nat} (hq : q < 109) {n : Nat} (hf : ∀ mo : kS, kE ad cI cZ cO k mo q = .inl (cI, n, .inl (mo q))) {i x : Int32} (hi : ¬ (i < 0 ∨ n ≤ i.toNatClampNeg)) (hdg : decode cc pc = .ok (.iastore, 1))
    (kk : ∀ (H1 : Heap) (locs1 : List Loc), kHE s H1 locs1 D ad cI cZ cO k (kst mo q (upd (mo q) i.toNatClampNeg x)) X → W p l e R s mm args below meth c H1 locs1 cells slots Q (F0 mm (pc + 1) ls rest)) : W p l e R s mm args below meth c H locs cells slots Q (F0 mm pc ls (.int x :: .int i :: .ref (ad q) :: rest)) :=
  kr_iast V h hq (hf mo) hi (by rw [hf, kst_eq]) (fun a ha => kst_oM ha) hdg kk
theorem kr_copyK (V : kV p s mm args meth c cc own nL ret D cI cZ cO) (h : kHE s H locs D ad cI cZ cO k mo X) (hsz : ls.size = nL) {index : Nat} (w1 : Cond.methodLink own index arraycopyName ∈ kWA) {q0 q : Nat} (hq0 : q0 < 109) (hq : q < 109) {n0 n1 : Nat} (hf0 : ∀ k : kS, kE ad cI cZ cO k mo q0 = .inl (cI, n0, .inl (k q0))) (hf : ∀ k : kS, kE ad cI cZ cO k mo q = .inl (cI, n1, .inl (k q))) {sp dp n : Int32} (hok : ¬ (sp < 0 ∨ dp < 0 ∨ n < 0 ∨ n0 < sp.toNatClampNeg + n.toNatClampNeg ∨ n1 < dp.toNatClampNeg + n.toNatClampNeg))
    (hfr : 1 ≤ R.frames) (hlo : (rest.map fun v => v.category).sum + 18 ≤ R.locals) (hdg : decode cc pc = .ok (.invokestatic index, 3))
    (kk : ∀ (H1 : Heap) (locs1 : List Loc), kHE s H1 locs1 D ad cI cZ cO (kst k q (va_cpy (k q0) (k q) sp.toNatClampNeg dp.toNatClampNeg n.toNatClampNeg)) mo X → W p l e R s mm args below meth c H1 locs1 cells slots Q (F0 mm (pc + 3) ls rest)) : W p l e R s mm args below meth c H locs cells slots Q (F0 mm pc ls (.int n :: .int dp :: .ref (ad q) :: .int sp :: .ref (ad q0) :: rest)) := by
  simp only [not_or, Nat.not_lt] at hok
  exact kr_copy V h hsz w1 knative_arraycopyName kstatic_arraycopyName kz_System hq0 hq (hf0 k) (hf k) hok.1 hok.2.1 hok.2.2.1 hok.2.2.2.1 hok.2.2.2.2 hfr hlo (by rw [hf, kst_eq]) (fun a ha => kst_o ha) hdg kk
theorem kr_copyM (V : kV p s mm args meth c cc own nL ret D cI cZ cO) (h : kHE s H locs D ad cI cZ cO k mo X) (hsz : ls.size = nL) {index : Nat} (w1 : Cond.methodLink own index arraycopyName ∈ kWA) {q0 q : Nat} (hq0 : q0 < 109) (hq : q < 109) {n0 n1 : Nat} (hf0 : ∀ mo : kS, kE ad cI cZ cO k mo q0 = .inl (cI, n0, .inl (mo q0))) (hf : ∀ mo : kS, kE ad cI cZ cO k mo q = .inl (cI, n1, .inl (mo q))) {sp dp n : Int32} (hok : ¬ (sp < 0 ∨ dp < 0 ∨ n < 0 ∨ n0 < sp.toNatClampNeg + n.toNatClampNeg ∨ n1 < dp.toNatClampNeg + n.toNatClampNeg))
    (hfr : 1 ≤ R.frames) (hlo : (rest.map fun v => v.category).sum + 18 ≤ R.locals) (hdg : decode cc pc = .ok (.invokestatic index, 3))
    (kk : ∀ (H1 : Heap) (locs1 : List Loc), kHE s H1 locs1 D ad cI cZ cO k (kst mo q (va_cpy (mo q0) (mo q) sp.toNatClampNeg dp.toNatClampNeg n.toNatClampNeg)) X → W p l e R s mm args below meth c H1 locs1 cells slots Q (F0 mm (pc + 3) ls rest)) : W p l e R s mm args below meth c H locs cells slots Q (F0 mm pc ls (.int n :: .int dp :: .ref (ad q) :: .int sp :: .ref (ad q0) :: rest)) := by
  simp only [not_or, Nat.not_lt] at hok
  exact kr_copy V h hsz w1 knative_arraycopyName kstatic_arraycopyName kz_System hq0 hq (hf0 mo) (hf mo) hok.1 hok.2.1 hok.2.2.1 hok.2.2.2.1 hok.2.2.2.2 hfr hlo (by rw [hf, kst_eq]) (fun a ha => kst_oM ha) hdg kk
theorem kr_mn (V : kV p s mm args meth c cc own nL ret D cI cZ cO) (hsz : ls.size = nL) {index : Nat} (w1 : Cond.methodLink own index Lib.Math.min.name ∈ kWA) (hfr : 1 ≤ R.frames) (hlo : (rest.map fun v => v.category).sum + 13 ≤ R.locals) (hc : cells ≤ R.cells) (hs : slots ≤ R.slots) {x y : Int32} (hdg : decode cc pc = .ok (.invokestatic index, 3))
    (kk : W p l e R s mm args below meth c H locs cells slots Q (F0 mm (pc + 3) ls (.int (if y < x then y else x) :: rest))) : W p l e R s mm args below meth c H locs cells slots Q (F0 mm pc ls (.int y :: .int x :: rest)) :=
  kr_min V hsz w1 kstatic_yJ9_min_7cf53 kz_Math kd_yJ9_min_7cf53 hfr hlo hc hs hdg kk

theorem kg_X0_9 (V : kV p s mm args meth c cc RX0 nL ret D cI cZ cO) (h : kHE s H locs D ad cI cZ cO k mo X) (hdg : decode cc pc = .ok (.getfield 9, 3)) (kk : W p l e R s mm args below meth c H locs cells slots Q (F0 mm (pc + 3) ls (.int (k 1 0) :: rest))) : W p l e R s mm args below meth c H locs cells slots Q (F0 mm pc ls (.ref (ad 1) :: rest)) :=
  kr_get V h (by decide) kE_1 (C := RX0) (T := TX0) (N := 6) rfl kX0 0 (by decide) kf_X0_9 rfl hdg kk
theorem kp_X0_9 (V : kV p s mm args meth c cc RX0 nL ret D cI cZ cO) (h : kHE s H locs D ad cI cZ cO k mo X) {x : Int32} (hdg : decode cc pc = .ok (.putfield 9, 3)) (kk : ∀ (H1 : Heap) (locs1 : List Loc), kHE s H1 locs1 D ad cI cZ cO (kst k 1 (upd (k 1) 0 x)) mo X → W p l e R s mm args below meth c H1 locs1 cells slots Q (F0 mm (pc + 3) ls rest)) : W p l e R s mm args below meth c H locs cells slots Q (F0 mm pc ls (.int x :: .ref (ad 1) :: rest)) :=
  kr_put V h (by decide) kE_1 (C := RX0) (T := TX0) (N := 6) rfl kX0 tyX0 tyX0_ok nmX0 0 (by decide) kf_X0_9 rfl (by decide +kernel) (by show 0 < 6; decide) (by rw [kE_1, kst_eq]; simp [upd]) (fun a ha => kst_o ha) hdg kk
theorem kg_X4_122 (V : kV p s mm args meth c cc RX4 nL ret D cI cZ cO) (h : kHE s H locs D ad cI cZ cO k mo X) (hdg : decode cc pc = .ok (.getfield 122, 3)) (kk : W p l e R s mm args below meth c H locs cells slots Q (F0 mm (pc + 3) ls (.int (k 1 0) :: rest))) : W p l e R s mm args below meth c H locs cells slots Q (F0 mm pc ls (.ref (ad 1) :: rest)) :=
  kr_get V h (by decide) kE_1 (C := RX0) (T := TX0) (N := 6) rfl kX0 0 (by decide) kf_X4_122 rfl hdg kk
theorem kg_X5_167 (V : kV p s mm args meth c cc RX5 nL ret D cI cZ cO) (h : kHE s H locs D ad cI cZ cO k mo X) (hdg : decode cc pc = .ok (.getfield 167, 3)) (kk : W p l e R s mm args below meth c H locs cells slots Q (F0 mm (pc + 3) ls (.int (k 1 0) :: rest))) : W p l e R s mm args below meth c H locs cells slots Q (F0 mm pc ls (.ref (ad 1) :: rest)) :=
  kr_get V h (by decide) kE_1 (C := RX0) (T := TX0) (N := 6) rfl kX0 0 (by decide) kf_X5_167 rfl hdg kk
theorem kg_X0_15 (V : kV p s mm args meth c cc RX0 nL ret D cI cZ cO) (h : kHE s H locs D ad cI cZ cO k mo X) (hdg : decode cc pc = .ok (.getfield 15, 3)) (kk : W p l e R s mm args below meth c H locs cells slots Q (F0 mm (pc + 3) ls (.ref (ad 2) :: rest))) : W p l e R s mm args below meth c H locs cells slots Q (F0 mm pc ls (.ref (ad 1) :: rest)) :=
  kr_get V h (by decide) kE_1 (C := RX0) (T := TX0) (N := 6) rfl kX0 1 (by decide) kf_X0_15 rfl hdg kk
theorem kg_X5_66 (V : kV p s mm args meth c cc RX5 nL ret D cI cZ cO) (h : kHE s H locs D ad cI cZ cO k mo X) (hdg : decode cc pc = .ok (.getfield 66, 3)) (kk : W p l e R s mm args below meth c H locs cells slots Q (F0 mm (pc + 3) ls (.ref (ad 2) :: rest))) : W p l e R s mm args below meth c H locs cells slots Q (F0 mm pc ls (.ref (ad 1) :: rest)) :=
  kr_get V h (by decide) kE_1 (C := RX0) (T := TX0) (N := 6) rfl kX0 1 (by decide) kf_X5_66 rfl hdg kk
theorem kg_X4_82 (V : kV p s mm args meth c cc RX4 nL ret D cI cZ cO) (h : kHE s H locs D ad cI cZ cO k mo X) (hdg : decode cc pc = .ok (.getfield 82, 3)) (kk : W p l e R s mm args below meth c H locs cells slots Q (F0 mm (pc + 3) ls (.ref (ad 2) :: rest))) : W p l e R s mm args below meth c H locs cells slots Q (F0 mm pc ls (.ref (ad 1) :: rest)) :=
  kr_get V h (by decide) kE_1 (C := RX0) (T := TX0) (N := 6) rfl kX0 1 (by decide) kf_X4_82 rfl hdg kk
theorem kg_X0_19 (V : kV p s mm args meth c cc RX0 nL ret D cI cZ cO) (h : kHE s H locs D ad cI cZ cO k mo X) (hdg : decode cc pc = .ok (.getfield 19, 3)) (kk : W p l e R s mm args below meth c H locs cells slots Q (F0 mm (pc + 3) ls (.ref (ad 3) :: rest))) : W p l e R s mm args below meth c H locs cells slots Q (F0 mm pc ls (.ref (ad 1) :: rest)) :=
  kr_get V h (by decide) kE_1 (C := RX0) (T := TX0) (N := 6) rfl kX0 2 (by decide) kf_X0_19 rfl hdg kk
theorem kg_X4_66 (V : kV p s mm args meth c cc RX4 nL ret D cI cZ cO) (h : kHE s H locs D ad cI cZ cO k mo X) (hdg : decode cc pc = .ok (.getfield 66, 3)) (kk : W p l e R s mm args below meth c H locs cells slots Q (F0 mm (pc + 3) ls (.ref (ad 3) :: rest))) : W p l e R s mm args below meth c H locs cells slots Q (F0 mm pc ls (.ref (ad 1) :: rest)) :=
  kr_get V h (by decide) kE_1 (C := RX0) (T := TX0) (N := 6) rfl kX0 2 (by decide) kf_X4_66 rfl hdg kk
theorem kg_X0_23 (V : kV p s mm args meth c cc RX0 nL ret D cI cZ cO) (h : kHE s H locs D ad cI cZ cO k mo X) (hdg : decode cc pc = .ok (.getfield 23, 3)) (kk : W p l e R s mm args below meth c H locs cells slots Q (F0 mm (pc + 3) ls (.ref (ad 4) :: rest))) : W p l e R s mm args below meth c H locs cells slots Q (F0 mm pc ls (.ref (ad 1) :: rest)) :=
  kr_get V h (by decide) kE_1 (C := RX0) (T := TX0) (N := 6) rfl kX0 3 (by decide) kf_X0_23 rfl hdg kk
theorem kg_X4_137 (V : kV p s mm args meth c cc RX4 nL ret D cI cZ cO) (h : kHE s H locs D ad cI cZ cO k mo X) (hdg : decode cc pc = .ok (.getfield 137, 3)) (kk : W p l e R s mm args below meth c H locs cells slots Q (F0 mm (pc + 3) ls (.ref (ad 4) :: rest))) : W p l e R s mm args below meth c H locs cells slots Q (F0 mm pc ls (.ref (ad 1) :: rest)) :=
  kr_get V h (by decide) kE_1 (C := RX0) (T := TX0) (N := 6) rfl kX0 3 (by decide) kf_X4_137 rfl hdg kk
theorem kg_X0_26 (V : kV p s mm args meth c cc RX0 nL ret D cI cZ cO) (h : kHE s H locs D ad cI cZ cO k mo X) (hdg : decode cc pc = .ok (.getfield 26, 3)) (kk : W p l e R s mm args below meth c H locs cells slots Q (F0 mm (pc + 3) ls (.ref (ad 5) :: rest))) : W p l e R s mm args below meth c H locs cells slots Q (F0 mm pc ls (.ref (ad 1) :: rest)) :=
  kr_get V h (by decide) kE_1 (C := RX0) (T := TX0) (N := 6) rfl kX0 4 (by decide) kf_X0_26 rfl hdg kk
theorem kg_X4_144 (V : kV p s mm args meth c cc RX4 nL ret D cI cZ cO) (h : kHE s H locs D ad cI cZ cO k mo X) (hdg : decode cc pc = .ok (.getfield 144, 3)) (kk : W p l e R s mm args below meth c H locs cells slots Q (F0 mm (pc + 3) ls (.ref (ad 5) :: rest))) : W p l e R s mm args below meth c H locs cells slots Q (F0 mm pc ls (.ref (ad 1) :: rest)) :=
  kr_get V h (by decide) kE_1 (C := RX0) (T := TX0) (N := 6) rfl kX0 4 (by decide) kf_X4_144 rfl hdg kk
theorem kg_X0_31 (V : kV p s mm args meth c cc RX0 nL ret D cI cZ cO) (h : kHE s H locs D ad cI cZ cO k mo X) (hdg : decode cc pc = .ok (.getfield 31, 3)) (kk : W p l e R s mm args below meth c H locs cells slots Q (F0 mm (pc + 3) ls (.ref (ad 6) :: rest))) : W p l e R s mm args below meth c H locs cells slots Q (F0 mm pc ls (.ref (ad 1) :: rest)) :=
  kr_get V h (by decide) kE_1 (C := RX0) (T := TX0) (N := 6) rfl kX0 5 (by decide) kf_X0_31 rfl hdg kk
theorem kg_X5_148 (V : kV p s mm args meth c cc RX5 nL ret D cI cZ cO) (h : kHE s H locs D ad cI cZ cO k mo X) (hdg : decode cc pc = .ok (.getfield 148, 3)) (kk : W p l e R s mm args below meth c H locs cells slots Q (F0 mm (pc + 3) ls (.ref (ad 6) :: rest))) : W p l e R s mm args below meth c H locs cells slots Q (F0 mm pc ls (.ref (ad 1) :: rest)) :=
  kr_get V h (by decide) kE_1 (C := RX0) (T := TX0) (N := 6) rfl kX0 5 (by decide) kf_X5_148 rfl hdg kk
theorem kg_X1_9 {B : Nat} (hB : kB B) (V : kV p s mm args meth c cc RX1 nL ret D cI cZ cO) (h : kHE s H locs D ad cI cZ cO k mo X) (hdg : decode cc pc = .ok (.getfield 9, 3)) (kk : W p l e R s mm args below meth c H locs cells slots Q (F0 mm (pc + 3) ls (.int (k (B + 1) 0) :: rest))) : W p l e R s mm args below meth c H locs cells slots Q (F0 mm pc ls (.ref (ad (B + 1)) :: rest)) :=
  kr_get V h (kq_w hB (by decide)) (kE_w1 hB) (C := RX1) (T := TX1) (N := 7) rfl kX1 0 (by decide) kf_X1_9 rfl hdg kk
theorem kp_X1_9 {B : Nat} (hB : kB B) (V : kV p s mm args meth c cc RX1 nL ret D cI cZ cO) (h : kHE s H locs D ad cI cZ cO k mo X) {x : Int32} (hdg : decode cc pc = .ok (.putfield 9, 3)) (kk : ∀ (H1 : Heap) (locs1 : List Loc), kHE s H1 locs1 D ad cI cZ cO (kst k (B + 1) (upd (k (B + 1)) 0 x)) mo X → W p l e R s mm args below meth c H1 locs1 cells slots Q (F0 mm (pc + 3) ls rest)) : W p l e R s mm args below meth c H locs cells slots Q (F0 mm pc ls (.int x :: .ref (ad (B + 1)) :: rest)) :=
  kr_put V h (kq_w hB (by decide)) (kE_w1 hB) (C := RX1) (T := TX1) (N := 7) rfl kX1 tyX1 tyX1_ok nmX1 0 (by decide) kf_X1_9 rfl (by decide +kernel) (by show 0 < 7; decide) (by rw [kE_w1 hB, kst_eq]; simp [upd]) (fun a ha => kst_o ha) hdg kk
theorem kg_X4_110 {B : Nat} (hB : kB B) (V : kV p s mm args meth c cc RX4 nL ret D cI cZ cO) (h : kHE s H locs D ad cI cZ cO k mo X) (hdg : decode cc pc = .ok (.getfield 110, 3)) (kk : W p l e R s mm args below meth c H locs cells slots Q (F0 mm (pc + 3) ls (.int (k (B + 1) 0) :: rest))) : W p l e R s mm args below meth c H locs cells slots Q (F0 mm pc ls (.ref (ad (B + 1)) :: rest)) :=
  kr_get V h (kq_w hB (by decide)) (kE_w1 hB) (C := RX1) (T := TX1) (N := 7) rfl kX1 0 (by decide) kf_X4_110 rfl hdg kk
theorem kg_X5_179 {B : Nat} (hB : kB B) (V : kV p s mm args meth c cc RX5 nL ret D cI cZ cO) (h : kHE s H locs D ad cI cZ cO k mo X) (hdg : decode cc pc = .ok (.getfield 179, 3)) (kk : W p l e R s mm args below meth c H locs cells slots Q (F0 mm (pc + 3) ls (.int (k (B + 1) 0) :: rest))) : W p l e R s mm args below meth c H locs cells slots Q (F0 mm pc ls (.ref (ad (B + 1)) :: rest)) :=
  kr_get V h (kq_w hB (by decide)) (kE_w1 hB) (C := RX1) (T := TX1) (N := 7) rfl kX1 0 (by decide) kf_X5_179 rfl hdg kk
theorem kg_X1_15 {B : Nat} (hB : kB B) (V : kV p s mm args meth c cc RX1 nL ret D cI cZ cO) (h : kHE s H locs D ad cI cZ cO k mo X) (hdg : decode cc pc = .ok (.getfield 15, 3)) (kk : W p l e R s mm args below meth c H locs cells slots Q (F0 mm (pc + 3) ls (.ref (ad (B + 2)) :: rest))) : W p l e R s mm args below meth c H locs cells slots Q (F0 mm pc ls (.ref (ad (B + 1)) :: rest)) :=
  kr_get V h (kq_w hB (by decide)) (kE_w1 hB) (C := RX1) (T := TX1) (N := 7) rfl kX1 1 (by decide) kf_X1_15 rfl hdg kk
theorem kg_X4_163 {B : Nat} (hB : kB B) (V : kV p s mm args meth c cc RX4 nL ret D cI cZ cO) (h : kHE s H locs D ad cI cZ cO k mo X) (hdg : decode cc pc = .ok (.getfield 163, 3)) (kk : W p l e R s mm args below meth c H locs cells slots Q (F0 mm (pc + 3) ls (.ref (ad (B + 2)) :: rest))) : W p l e R s mm args below meth c H locs cells slots Q (F0 mm pc ls (.ref (ad (B + 1)) :: rest)) :=
  kr_get V h (kq_w hB (by decide)) (kE_w1 hB) (C := RX1) (T := TX1) (N := 7) rfl kX1 1 (by decide) kf_X4_163 rfl hdg kk
theorem kg_X1_19 {B : Nat} (hB : kB B) (V : kV p s mm args meth c cc RX1 nL ret D cI cZ cO) (h : kHE s H locs D ad cI cZ cO k mo X) (hdg : decode cc pc = .ok (.getfield 19, 3)) (kk : W p l e R s mm args below meth c H locs cells slots Q (F0 mm (pc + 3) ls (.ref (ad (B + 3)) :: rest))) : W p l e R s mm args below meth c H locs cells slots Q (F0 mm pc ls (.ref (ad (B + 1)) :: rest)) :=
  kr_get V h (kq_w hB (by decide)) (kE_w1 hB) (C := RX1) (T := TX1) (N := 7) rfl kX1 2 (by decide) kf_X1_19 rfl hdg kk
theorem kg_X5_98 {B : Nat} (hB : kB B) (V : kV p s mm args meth c cc RX5 nL ret D cI cZ cO) (h : kHE s H locs D ad cI cZ cO k mo X) (hdg : decode cc pc = .ok (.getfield 98, 3)) (kk : W p l e R s mm args below meth c H locs cells slots Q (F0 mm (pc + 3) ls (.ref (ad (B + 3)) :: rest))) : W p l e R s mm args below meth c H locs cells slots Q (F0 mm pc ls (.ref (ad (B + 1)) :: rest)) :=
  kr_get V h (kq_w hB (by decide)) (kE_w1 hB) (C := RX1) (T := TX1) (N := 7) rfl kX1 2 (by decide) kf_X5_98 rfl hdg kk
theorem kg_X4_116 {B : Nat} (hB : kB B) (V : kV p s mm args meth c cc RX4 nL ret D cI cZ cO) (h : kHE s H locs D ad cI cZ cO k mo X) (hdg : decode cc pc = .ok (.getfield 116, 3)) (kk : W p l e R s mm args below meth c H locs cells slots Q (F0 mm (pc + 3) ls (.ref (ad (B + 3)) :: rest))) : W p l e R s mm args below meth c H locs cells slots Q (F0 mm pc ls (.ref (ad (B + 1)) :: rest)) :=
  kr_get V h (kq_w hB (by decide)) (kE_w1 hB) (C := RX1) (T := TX1) (N := 7) rfl kX1 2 (by decide) kf_X4_116 rfl hdg kk
theorem kg_X1_22 {B : Nat} (hB : kB B) (V : kV p s mm args meth c cc RX1 nL ret D cI cZ cO) (h : kHE s H locs D ad cI cZ cO k mo X) (hdg : decode cc pc = .ok (.getfield 22, 3)) (kk : W p l e R s mm args below meth c H locs cells slots Q (F0 mm (pc + 3) ls (.ref (ad (B + 4)) :: rest))) : W p l e R s mm args below meth c H locs cells slots Q (F0 mm pc ls (.ref (ad (B + 1)) :: rest)) :=
  kr_get V h (kq_w hB (by decide)) (kE_w1 hB) (C := RX1) (T := TX1) (N := 7) rfl kX1 3 (by decide) kf_X1_22 rfl hdg kk
theorem kg_X4_113 {B : Nat} (hB : kB B) (V : kV p s mm args meth c cc RX4 nL ret D cI cZ cO) (h : kHE s H locs D ad cI cZ cO k mo X) (hdg : decode cc pc = .ok (.getfield 113, 3)) (kk : W p l e R s mm args below meth c H locs cells slots Q (F0 mm (pc + 3) ls (.ref (ad (B + 4)) :: rest))) : W p l e R s mm args below meth c H locs cells slots Q (F0 mm pc ls (.ref (ad (B + 1)) :: rest)) :=
  kr_get V h (kq_w hB (by decide)) (kE_w1 hB) (C := RX1) (T := TX1) (N := 7) rfl kX1 3 (by decide) kf_X4_113 rfl hdg kk
theorem kg_X1_25 {B : Nat} (hB : kB B) (V : kV p s mm args meth c cc RX1 nL ret D cI cZ cO) (h : kHE s H locs D ad cI cZ cO k mo X) (hdg : decode cc pc = .ok (.getfield 25, 3)) (kk : W p l e R s mm args below meth c H locs cells slots Q (F0 mm (pc + 3) ls (.ref (ad (B + 5)) :: rest))) : W p l e R s mm args below meth c H locs cells slots Q (F0 mm pc ls (.ref (ad (B + 1)) :: rest)) :=
  kr_get V h (kq_w hB (by decide)) (kE_w1 hB) (C := RX1) (T := TX1) (N := 7) rfl kX1 4 (by decide) kf_X1_25 rfl hdg kk
theorem kg_X4_169 {B : Nat} (hB : kB B) (V : kV p s mm args meth c cc RX4 nL ret D cI cZ cO) (h : kHE s H locs D ad cI cZ cO k mo X) (hdg : decode cc pc = .ok (.getfield 169, 3)) (kk : W p l e R s mm args below meth c H locs cells slots Q (F0 mm (pc + 3) ls (.ref (ad (B + 5)) :: rest))) : W p l e R s mm args below meth c H locs cells slots Q (F0 mm pc ls (.ref (ad (B + 1)) :: rest)) :=
  kr_get V h (kq_w hB (by decide)) (kE_w1 hB) (C := RX1) (T := TX1) (N := 7) rfl kX1 4 (by decide) kf_X4_169 rfl hdg kk
theorem kg_X1_28 {B : Nat} (hB : kB B) (V : kV p s mm args meth c cc RX1 nL ret D cI cZ cO) (h : kHE s H locs D ad cI cZ cO k mo X) (hdg : decode cc pc = .ok (.getfield 28, 3)) (kk : W p l e R s mm args below meth c H locs cells slots Q (F0 mm (pc + 3) ls (.ref (ad (B + 6)) :: rest))) : W p l e R s mm args below meth c H locs cells slots Q (F0 mm pc ls (.ref (ad (B + 1)) :: rest)) :=
  kr_get V h (kq_w hB (by decide)) (kE_w1 hB) (C := RX1) (T := TX1) (N := 7) rfl kX1 5 (by decide) kf_X1_28 rfl hdg kk
theorem kg_X5_141 {B : Nat} (hB : kB B) (V : kV p s mm args meth c cc RX5 nL ret D cI cZ cO) (h : kHE s H locs D ad cI cZ cO k mo X) (hdg : decode cc pc = .ok (.getfield 141, 3)) (kk : W p l e R s mm args below meth c H locs cells slots Q (F0 mm (pc + 3) ls (.ref (ad (B + 6)) :: rest))) : W p l e R s mm args below meth c H locs cells slots Q (F0 mm pc ls (.ref (ad (B + 1)) :: rest)) :=
  kr_get V h (kq_w hB (by decide)) (kE_w1 hB) (C := RX1) (T := TX1) (N := 7) rfl kX1 5 (by decide) kf_X5_141 rfl hdg kk
theorem kg_X1_33 {B : Nat} (hB : kB B) (V : kV p s mm args meth c cc RX1 nL ret D cI cZ cO) (h : kHE s H locs D ad cI cZ cO k mo X) (hdg : decode cc pc = .ok (.getfield 33, 3)) (kk : W p l e R s mm args below meth c H locs cells slots Q (F0 mm (pc + 3) ls (.ref (ad (B + 7)) :: rest))) : W p l e R s mm args below meth c H locs cells slots Q (F0 mm pc ls (.ref (ad (B + 1)) :: rest)) :=
  kr_get V h (kq_w hB (by decide)) (kE_w1 hB) (C := RX1) (T := TX1) (N := 7) rfl kX1 6 (by decide) kf_X1_33 rfl hdg kk
theorem kg_X5_144 {B : Nat} (hB : kB B) (V : kV p s mm args meth c cc RX5 nL ret D cI cZ cO) (h : kHE s H locs D ad cI cZ cO k mo X) (hdg : decode cc pc = .ok (.getfield 144, 3)) (kk : W p l e R s mm args below meth c H locs cells slots Q (F0 mm (pc + 3) ls (.ref (ad (B + 7)) :: rest))) : W p l e R s mm args below meth c H locs cells slots Q (F0 mm pc ls (.ref (ad (B + 1)) :: rest)) :=
  kr_get V h (kq_w hB (by decide)) (kE_w1 hB) (C := RX1) (T := TX1) (N := 7) rfl kX1 6 (by decide) kf_X5_144 rfl hdg kk
theorem kg_X3_9 {B : Nat} (hB : kB B) (V : kV p s mm args meth c cc RX3 nL ret D cI cZ cO) (h : kHE s H locs D ad cI cZ cO k mo X) (hdg : decode cc pc = .ok (.getfield 9, 3)) (kk : W p l e R s mm args below meth c H locs cells slots Q (F0 mm (pc + 3) ls (.ref (ad (B + 9)) :: rest))) : W p l e R s mm args below meth c H locs cells slots Q (F0 mm pc ls (.ref (ad (B + 8)) :: rest)) :=
  kr_get V h (kq_w hB (by decide)) (kE_w8 hB) (C := RX3) (T := TX3) (N := 2) rfl kX3 0 (by decide) kf_X3_9 rfl hdg kk
theorem kg_X3_15 {B : Nat} (hB : kB B) (V : kV p s mm args meth c cc RX3 nL ret D cI cZ cO) (h : kHE s H locs D ad cI cZ cO k mo X) (hdg : decode cc pc = .ok (.getfield 15, 3)) (kk : W p l e R s mm args below meth c H locs cells slots Q (F0 mm (pc + 3) ls (.ref (ad (B + 10)) :: rest))) : W p l e R s mm args below meth c H locs cells slots Q (F0 mm pc ls (.ref (ad (B + 8)) :: rest)) :=
  kr_get V h (kq_w hB (by decide)) (kE_w8 hB) (C := RX3) (T := TX3) (N := 2) rfl kX3 1 (by decide) kf_X3_15 rfl hdg kk
theorem kg_X4_97 {B : Nat} (hB : kB B) (V : kV p s mm args meth c cc RX4 nL ret D cI cZ cO) (h : kHE s H locs D ad cI cZ cO k mo X) (hdg : decode cc pc = .ok (.getfield 97, 3)) (kk : W p l e R s mm args below meth c H locs cells slots Q (F0 mm (pc + 3) ls (.ref (ad (B + 10)) :: rest))) : W p l e R s mm args below meth c H locs cells slots Q (F0 mm pc ls (.ref (ad (B + 8)) :: rest)) :=
  kr_get V h (kq_w hB (by decide)) (kE_w8 hB) (C := RX3) (T := TX3) (N := 2) rfl kX3 1 (by decide) kf_X4_97 rfl hdg kk
theorem kg_X2_9 {B : Nat} (hB : kB B) (V : kV p s mm args meth c cc RX2 nL ret D cI cZ cO) (h : kHE s H locs D ad cI cZ cO k mo X) (hdg : decode cc pc = .ok (.getfield 9, 3)) (kk : W p l e R s mm args below meth c H locs cells slots Q (F0 mm (pc + 3) ls (.ref (ad (B + 12)) :: rest))) : W p l e R s mm args below meth c H locs cells slots Q (F0 mm pc ls (.ref (ad (B + 11)) :: rest)) :=
  kr_get V h (kq_w hB (by decide)) (kE_w11 hB) (C := RX2) (T := TX2) (N := 2) rfl kX2 0 (by decide) kf_X2_9 rfl hdg kk
theorem kg_X2_15 {B : Nat} (hB : kB B) (V : kV p s mm args meth c cc RX2 nL ret D cI cZ cO) (h : kHE s H locs D ad cI cZ cO k mo X) (hdg : decode cc pc = .ok (.getfield 15, 3)) (kk : W p l e R s mm args below meth c H locs cells slots Q (F0 mm (pc + 3) ls (.ref (ad (B + 13)) :: rest))) : W p l e R s mm args below meth c H locs cells slots Q (F0 mm pc ls (.ref (ad (B + 11)) :: rest)) :=
  kr_get V h (kq_w hB (by decide)) (kE_w11 hB) (C := RX2) (T := TX2) (N := 2) rfl kX2 1 (by decide) kf_X2_15 rfl hdg kk
theorem kg_X4_40 {B : Nat} (hB : kB B) (V : kV p s mm args meth c cc RX4 nL ret D cI cZ cO) (h : kHE s H locs D ad cI cZ cO k mo X) (hdg : decode cc pc = .ok (.getfield 40, 3)) (kk : W p l e R s mm args below meth c H locs cells slots Q (F0 mm (pc + 3) ls (.ref (ad 1) :: rest))) : W p l e R s mm args below meth c H locs cells slots Q (F0 mm pc ls (.ref (ad B) :: rest)) :=
  kr_get V h (kq_B hB) (kE_w0 hB) (C := RX4) (T := TX4) (N := 6) rfl kX4 0 (by decide) kf_X4_40 rfl hdg kk
theorem kg_X4_12 {B : Nat} (hB : kB B) (V : kV p s mm args meth c cc RX4 nL ret D cI cZ cO) (h : kHE s H locs D ad cI cZ cO k mo X) (hdg : decode cc pc = .ok (.getfield 12, 3)) (kk : W p l e R s mm args below meth c H locs cells slots Q (F0 mm (pc + 3) ls (.ref (ad (B + 1)) :: rest))) : W p l e R s mm args below meth c H locs cells slots Q (F0 mm pc ls (.ref (ad B) :: rest)) :=
  kr_get V h (kq_B hB) (kE_w0 hB) (C := RX4) (T := TX4) (N := 6) rfl kX4 1 (by decide) kf_X4_12 rfl hdg kk
theorem kg_X5_81 {B : Nat} (hB : kB B) (V : kV p s mm args meth c cc RX5 nL ret D cI cZ cO) (h : kHE s H locs D ad cI cZ cO k mo X) (hdg : decode cc pc = .ok (.getfield 81, 3)) (kk : W p l e R s mm args below meth c H locs cells slots Q (F0 mm (pc + 3) ls (.ref (ad (B + 1)) :: rest))) : W p l e R s mm args below meth c H locs cells slots Q (F0 mm pc ls (.ref (ad B) :: rest)) :=
  kr_get V h (kq_B hB) (kE_w0 hB) (C := RX4) (T := TX4) (N := 6) rfl kX4 1 (by decide) kf_X5_81 rfl hdg kk
theorem kg_X4_21 {B : Nat} (hB : kB B) (V : kV p s mm args meth c cc RX4 nL ret D cI cZ cO) (h : kHE s H locs D ad cI cZ cO k mo X) (hdg : decode cc pc = .ok (.getfield 21, 3)) (kk : W p l e R s mm args below meth c H locs cells slots Q (F0 mm (pc + 3) ls (.ref (ad (B + 8)) :: rest))) : W p l e R s mm args below meth c H locs cells slots Q (F0 mm pc ls (.ref (ad B) :: rest)) :=
  kr_get V h (kq_B hB) (kE_w0 hB) (C := RX4) (T := TX4) (N := 6) rfl kX4 2 (by decide) kf_X4_21 rfl hdg kk
theorem kg_X5_56 {B : Nat} (hB : kB B) (V : kV p s mm args meth c cc RX5 nL ret D cI cZ cO) (h : kHE s H locs D ad cI cZ cO k mo X) (hdg : decode cc pc = .ok (.getfield 56, 3)) (kk : W p l e R s mm args below meth c H locs cells slots Q (F0 mm (pc + 3) ls (.ref (ad (B + 8)) :: rest))) : W p l e R s mm args below meth c H locs cells slots Q (F0 mm pc ls (.ref (ad B) :: rest)) :=
  kr_get V h (kq_B hB) (kE_w0 hB) (C := RX4) (T := TX4) (N := 6) rfl kX4 2 (by decide) kf_X5_56 rfl hdg kk
theorem kg_X4_28 {B : Nat} (hB : kB B) (V : kV p s mm args meth c cc RX4 nL ret D cI cZ cO) (h : kHE s H locs D ad cI cZ cO k mo X) (hdg : decode cc pc = .ok (.getfield 28, 3)) (kk : W p l e R s mm args below meth c H locs cells slots Q (F0 mm (pc + 3) ls (.ref (ad (B + 11)) :: rest))) : W p l e R s mm args below meth c H locs cells slots Q (F0 mm pc ls (.ref (ad B) :: rest)) :=
  kr_get V h (kq_B hB) (kE_w0 hB) (C := RX4) (T := TX4) (N := 6) rfl kX4 3 (by decide) kf_X4_28 rfl hdg kk
theorem kg_X4_32 {B : Nat} (hB : kB B) (V : kV p s mm args meth c cc RX4 nL ret D cI cZ cO) (h : kHE s H locs D ad cI cZ cO k mo X) (hdg : decode cc pc = .ok (.getfield 32, 3)) (kk : W p l e R s mm args below meth c H locs cells slots Q (F0 mm (pc + 3) ls (.ref (ad (B + 14)) :: rest))) : W p l e R s mm args below meth c H locs cells slots Q (F0 mm pc ls (.ref (ad B) :: rest)) :=
  kr_get V h (kq_B hB) (kE_w0 hB) (C := RX4) (T := TX4) (N := 6) rfl kX4 4 (by decide) kf_X4_32 rfl hdg kk
theorem kg_X4_36 {B : Nat} (hB : kB B) (V : kV p s mm args meth c cc RX4 nL ret D cI cZ cO) (h : kHE s H locs D ad cI cZ cO k mo X) (hdg : decode cc pc = .ok (.getfield 36, 3)) (kk : W p l e R s mm args below meth c H locs cells slots Q (F0 mm (pc + 3) ls (.int (k B 0) :: rest))) : W p l e R s mm args below meth c H locs cells slots Q (F0 mm pc ls (.ref (ad B) :: rest)) :=
  kr_get V h (kq_B hB) (kE_w0 hB) (C := RX4) (T := TX4) (N := 6) rfl kX4 5 (by decide) kf_X4_36 rfl hdg kk
theorem kp_X4_36 {B : Nat} (hB : kB B) (V : kV p s mm args meth c cc RX4 nL ret D cI cZ cO) (h : kHE s H locs D ad cI cZ cO k mo X) {x : Int32} (hdg : decode cc pc = .ok (.putfield 36, 3)) (kk : ∀ (H1 : Heap) (locs1 : List Loc), kHE s H1 locs1 D ad cI cZ cO (kst k B (upd (k B) 0 x)) mo X → W p l e R s mm args below meth c H1 locs1 cells slots Q (F0 mm (pc + 3) ls rest)) : W p l e R s mm args below meth c H locs cells slots Q (F0 mm pc ls (.int x :: .ref (ad B) :: rest)) :=
  kr_put V h (kq_B hB) (kE_w0 hB) (C := RX4) (T := TX4) (N := 6) rfl kX4 tyX4 tyX4_ok nmX4 5 (by decide) kf_X4_36 rfl (by decide +kernel) (by show 5 < 6; decide) (by rw [kE_w0 hB, kst_eq]; simp [upd]) (fun a ha => kst_o ha) hdg kk
theorem kg_X5_44 {B : Nat} (hB : kB B) (V : kV p s mm args meth c cc RX5 nL ret D cI cZ cO) (h : kHE s H locs D ad cI cZ cO k mo X) (hdg : decode cc pc = .ok (.getfield 44, 3)) (kk : W p l e R s mm args below meth c H locs cells slots Q (F0 mm (pc + 3) ls (.int (k B 0) :: rest))) : W p l e R s mm args below meth c H locs cells slots Q (F0 mm pc ls (.ref (ad B) :: rest)) :=
  kr_get V h (kq_B hB) (kE_w0 hB) (C := RX4) (T := TX4) (N := 6) rfl kX4 5 (by decide) kf_X5_44 rfl hdg kk
theorem kg_X5_10 (V : kV p s mm args meth c cc RX5 nL ret D cI cZ cO) (h : kHE s H locs D ad cI cZ cO k mo X) (hdg : decode cc pc = .ok (.getfield 10, 3)) (kk : W p l e R s mm args below meth c H locs cells slots Q (F0 mm (pc + 3) ls (.ref (ad 1) :: rest))) : W p l e R s mm args below meth c H locs cells slots Q (F0 mm pc ls (.ref (ad 0) :: rest)) :=
  kr_get V h (by decide) kE_0 (C := RX5) (T := TX5) (N := 3) rfl kX5 0 (by decide) kf_X5_10 rfl hdg kk
theorem kg_X5_21 (V : kV p s mm args meth c cc RX5 nL ret D cI cZ cO) (h : kHE s H locs D ad cI cZ cO k mo X) (hdg : decode cc pc = .ok (.getfield 21, 3)) (kk : W p l e R s mm args below meth c H locs cells slots Q (F0 mm (pc + 3) ls (.ref (ad 15) :: rest))) : W p l e R s mm args below meth c H locs cells slots Q (F0 mm pc ls (.ref (ad 0) :: rest)) :=
  kr_get V h (by decide) kE_0 (C := RX5) (T := TX5) (N := 3) rfl kX5 1 (by decide) kf_X5_21 rfl hdg kk
theorem kg_X5_25 (V : kV p s mm args meth c cc RX5 nL ret D cI cZ cO) (h : kHE s H locs D ad cI cZ cO k mo X) (hdg : decode cc pc = .ok (.getfield 25, 3)) (kk : W p l e R s mm args below meth c H locs cells slots Q (F0 mm (pc + 3) ls (.ref (ad 30) :: rest))) : W p l e R s mm args below meth c H locs cells slots Q (F0 mm pc ls (.ref (ad 0) :: rest)) :=
  kr_get V h (by decide) kE_0 (C := RX5) (T := TX5) (N := 3) rfl kX5 2 (by decide) kf_X5_25 rfl hdg kk
theorem kg_X6_31 (V : kV p s mm args meth c cc RX6 nL ret D cI cZ cO) (h : kHE s H locs D ad cI cZ cO k mo X) (hdg : decode cc pc = .ok (.getfield 31, 3)) (kk : W p l e R s mm args below meth c H locs cells slots Q (F0 mm (pc + 3) ls (.int (mo 7 0) :: rest))) : W p l e R s mm args below meth c H locs cells slots Q (F0 mm pc ls (.ref (ad 7) :: rest)) :=
  kr_get V h (by decide) kE_7 (C := RX6) (T := TX6) (N := 10) rfl kX6 0 (by decide) kf_X6_31 rfl hdg kk
theorem kp_X6_31 (V : kV p s mm args meth c cc RX6 nL ret D cI cZ cO) (h : kHE s H locs D ad cI cZ cO k mo X) {x : Int32} (hdg : decode cc pc = .ok (.putfield 31, 3)) (kk : ∀ (H1 : Heap) (locs1 : List Loc), kHE s H1 locs1 D ad cI cZ cO k (kst mo 7 (upd (mo 7) 0 x)) X → W p l e R s mm args below meth c H1 locs1 cells slots Q (F0 mm (pc + 3) ls rest)) : W p l e R s mm args below meth c H locs cells slots Q (F0 mm pc ls (.int x :: .ref (ad 7) :: rest)) :=
  kr_put V h (by decide) kE_7 (C := RX6) (T := TX6) (N := 10) rfl kX6 tyX6 tyX6_ok nmX6 0 (by decide) kf_X6_31 rfl (by decide +kernel) (by show 0 < 10; decide) (by rw [kE_7, kst_eq]; simp [upd]) (fun a ha => kst_oM ha) hdg kk
theorem kg_X6_35 (V : kV p s mm args meth c cc RX6 nL ret D cI cZ cO) (h : kHE s H locs D ad cI cZ cO k mo X) (hdg : decode cc pc = .ok (.getfield 35, 3)) (kk : W p l e R s mm args below meth c H locs cells slots Q (F0 mm (pc + 3) ls (.int (mo 7 1) :: rest))) : W p l e R s mm args below meth c H locs cells slots Q (F0 mm pc ls (.ref (ad 7) :: rest)) :=
  kr_get V h (by decide) kE_7 (C := RX6) (T := TX6) (N := 10) rfl kX6 1 (by decide) kf_X6_35 rfl hdg kk
theorem kp_X6_35 (V : kV p s mm args meth c cc RX6 nL ret D cI cZ cO) (h : kHE s H locs D ad cI cZ cO k mo X) {x : Int32} (hdg : decode cc pc = .ok (.putfield 35, 3)) (kk : ∀ (H1 : Heap) (locs1 : List Loc), kHE s H1 locs1 D ad cI cZ cO k (kst mo 7 (upd (mo 7) 1 x)) X → W p l e R s mm args below meth c H1 locs1 cells slots Q (F0 mm (pc + 3) ls rest)) : W p l e R s mm args below meth c H locs cells slots Q (F0 mm pc ls (.int x :: .ref (ad 7) :: rest)) :=
  kr_put V h (by decide) kE_7 (C := RX6) (T := TX6) (N := 10) rfl kX6 tyX6 tyX6_ok nmX6 1 (by decide) kf_X6_35 rfl (by decide +kernel) (by show 1 < 10; decide) (by rw [kE_7, kst_eq]; simp [upd]) (fun a ha => kst_oM ha) hdg kk
theorem kg_X6_42 (V : kV p s mm args meth c cc RX6 nL ret D cI cZ cO) (h : kHE s H locs D ad cI cZ cO k mo X) (hdg : decode cc pc = .ok (.getfield 42, 3)) (kk : W p l e R s mm args below meth c H locs cells slots Q (F0 mm (pc + 3) ls (.int (mo 7 2) :: rest))) : W p l e R s mm args below meth c H locs cells slots Q (F0 mm pc ls (.ref (ad 7) :: rest)) :=
  kr_get V h (by decide) kE_7 (C := RX6) (T := TX6) (N := 10) rfl kX6 2 (by decide) kf_X6_42 rfl hdg kk
theorem kp_X6_42 (V : kV p s mm args meth c cc RX6 nL ret D cI cZ cO) (h : kHE s H locs D ad cI cZ cO k mo X) {x : Int32} (hdg : decode cc pc = .ok (.putfield 42, 3)) (kk : ∀ (H1 : Heap) (locs1 : List Loc), kHE s H1 locs1 D ad cI cZ cO k (kst mo 7 (upd (mo 7) 2 x)) X → W p l e R s mm args below meth c H1 locs1 cells slots Q (F0 mm (pc + 3) ls rest)) : W p l e R s mm args below meth c H locs cells slots Q (F0 mm pc ls (.int x :: .ref (ad 7) :: rest)) :=
  kr_put V h (by decide) kE_7 (C := RX6) (T := TX6) (N := 10) rfl kX6 tyX6 tyX6_ok nmX6 2 (by decide) kf_X6_42 rfl (by decide +kernel) (by show 2 < 10; decide) (by rw [kE_7, kst_eq]; simp [upd]) (fun a ha => kst_oM ha) hdg kk
theorem kg_X6_9 (V : kV p s mm args meth c cc RX6 nL ret D cI cZ cO) (h : kHE s H locs D ad cI cZ cO k mo X) (hdg : decode cc pc = .ok (.getfield 9, 3)) (kk : W p l e R s mm args below meth c H locs cells slots Q (F0 mm (pc + 3) ls (.ref (ad 8) :: rest))) : W p l e R s mm args below meth c H locs cells slots Q (F0 mm pc ls (.ref (ad 7) :: rest)) :=
  kr_get V h (by decide) kE_7 (C := RX6) (T := TX6) (N := 10) rfl kX6 3 (by decide) kf_X6_9 rfl hdg kk
theorem kg_X6_13 (V : kV p s mm args meth c cc RX6 nL ret D cI cZ cO) (h : kHE s H locs D ad cI cZ cO k mo X) (hdg : decode cc pc = .ok (.getfield 13, 3)) (kk : W p l e R s mm args below meth c H locs cells slots Q (F0 mm (pc + 3) ls (.ref (ad 9) :: rest))) : W p l e R s mm args below meth c H locs cells slots Q (F0 mm pc ls (.ref (ad 7) :: rest)) :=
  kr_get V h (by decide) kE_7 (C := RX6) (T := TX6) (N := 10) rfl kX6 4 (by decide) kf_X6_13 rfl hdg kk
theorem kg_X6_16 (V : kV p s mm args meth c cc RX6 nL ret D cI cZ cO) (h : kHE s H locs D ad cI cZ cO k mo X) (hdg : decode cc pc = .ok (.getfield 16, 3)) (kk : W p l e R s mm args below meth c H locs cells slots Q (F0 mm (pc + 3) ls (.ref (ad 10) :: rest))) : W p l e R s mm args below meth c H locs cells slots Q (F0 mm pc ls (.ref (ad 7) :: rest)) :=
  kr_get V h (by decide) kE_7 (C := RX6) (T := TX6) (N := 10) rfl kX6 5 (by decide) kf_X6_16 rfl hdg kk
theorem kg_X6_19 (V : kV p s mm args meth c cc RX6 nL ret D cI cZ cO) (h : kHE s H locs D ad cI cZ cO k mo X) (hdg : decode cc pc = .ok (.getfield 19, 3)) (kk : W p l e R s mm args below meth c H locs cells slots Q (F0 mm (pc + 3) ls (.ref (ad 11) :: rest))) : W p l e R s mm args below meth c H locs cells slots Q (F0 mm pc ls (.ref (ad 7) :: rest)) :=
  kr_get V h (by decide) kE_7 (C := RX6) (T := TX6) (N := 10) rfl kX6 6 (by decide) kf_X6_19 rfl hdg kk
theorem kg_X6_22 (V : kV p s mm args meth c cc RX6 nL ret D cI cZ cO) (h : kHE s H locs D ad cI cZ cO k mo X) (hdg : decode cc pc = .ok (.getfield 22, 3)) (kk : W p l e R s mm args below meth c H locs cells slots Q (F0 mm (pc + 3) ls (.ref (ad 12) :: rest))) : W p l e R s mm args below meth c H locs cells slots Q (F0 mm pc ls (.ref (ad 7) :: rest)) :=
  kr_get V h (by decide) kE_7 (C := RX6) (T := TX6) (N := 10) rfl kX6 7 (by decide) kf_X6_22 rfl hdg kk
theorem kg_X6_25 (V : kV p s mm args meth c cc RX6 nL ret D cI cZ cO) (h : kHE s H locs D ad cI cZ cO k mo X) (hdg : decode cc pc = .ok (.getfield 25, 3)) (kk : W p l e R s mm args below meth c H locs cells slots Q (F0 mm (pc + 3) ls (.ref (ad 13) :: rest))) : W p l e R s mm args below meth c H locs cells slots Q (F0 mm pc ls (.ref (ad 7) :: rest)) :=
  kr_get V h (by decide) kE_7 (C := RX6) (T := TX6) (N := 10) rfl kX6 8 (by decide) kf_X6_25 rfl hdg kk
theorem kg_X6_28 (V : kV p s mm args meth c cc RX6 nL ret D cI cZ cO) (h : kHE s H locs D ad cI cZ cO k mo X) (hdg : decode cc pc = .ok (.getfield 28, 3)) (kk : W p l e R s mm args below meth c H locs cells slots Q (F0 mm (pc + 3) ls (.ref (ad 14) :: rest))) : W p l e R s mm args below meth c H locs cells slots Q (F0 mm pc ls (.ref (ad 7) :: rest)) :=
  kr_get V h (by decide) kE_7 (C := RX6) (T := TX6) (N := 10) rfl kX6 9 (by decide) kf_X6_28 rfl hdg kk
end KP
theorem kYX0_knows : kY RX0 yX0_knows cX0_knows 2 (some .boolean) 1 := ⟨kinst_yX0_knows, ksel_yX0_knows, kz_X0, kd_yX0_knows, by decide +kernel⟩
theorem kYX0_isFull : kY RX0 yX0_isFull cX0_isFull 1 (some .boolean) 0 := ⟨kinst_yX0_isFull, ksel_yX0_isFull, kz_X0, kd_yX0_isFull, by decide +kernel⟩
theorem kYX0_add : kY RX0 yX0_add cX0_add 8 (some .int) 4 := ⟨kinst_yX0_add, ksel_yX0_add, kz_X0, kd_yX0_add, by decide +kernel⟩
theorem kYX0_stepsThroughParents : kY RX0 yX0_stepsThroughParents cX0_stepsThroughParents 6 (some .int) 3 := ⟨kinst_yX0_stepsThroughParents, ksel_yX0_stepsThroughParents, kz_X0, kd_yX0_stepsThroughParents, by decide +kernel⟩
theorem kYX0_stepsBetween : kY RX0 yX0_stepsBetween cX0_stepsBetween 3 (some .int) 2 := ⟨kinst_yX0_stepsBetween, ksel_yX0_stepsBetween, kz_X0, kd_yX0_stepsBetween, by decide +kernel⟩
theorem kYX0_isBefore : kY RX0 yX0_isBefore cX0_isBefore 3 (some .boolean) 2 := ⟨kinst_yX0_isBefore, ksel_yX0_isBefore, kz_X0, kd_yX0_isBefore, by decide +kernel⟩
theorem kYX0_isAhead : kY RX0 yX0_isAhead cX0_isAhead 4 (some .boolean) 3 := ⟨kinst_yX0_isAhead, ksel_yX0_isAhead, kz_X0, kd_yX0_isAhead, by decide +kernel⟩
theorem kYX0_childrenOf : kY RX0 yX0_childrenOf cX0_childrenOf 4 (some .int) 1 := ⟨kinst_yX0_childrenOf, ksel_yX0_childrenOf, kz_X0, kd_yX0_childrenOf, by decide +kernel⟩
theorem kYX1_knows : kY RX1 yX1_knows cX1_knows 2 (some .boolean) 1 := ⟨kinst_yX1_knows, ksel_yX1_knows, kz_X1, kd_yX1_knows, by decide +kernel⟩
theorem kYX1_isFull : kY RX1 yX1_isFull cX1_isFull 1 (some .boolean) 0 := ⟨kinst_yX1_isFull, ksel_yX1_isFull, kz_X1, kd_yX1_isFull, by decide +kernel⟩
theorem kYX1_add : kY RX1 yX1_add cX1_add 5 (some .int) 3 := ⟨kinst_yX1_add, ksel_yX1_add, kz_X1, kd_yX1_add, by decide +kernel⟩
theorem kYX1_handTo : kY RX1 yX1_handTo cX1_handTo 3 none 2 := ⟨kinst_yX1_handTo, ksel_yX1_handTo, kz_X1, kd_yX1_handTo, by decide +kernel⟩
theorem kYX1_rulerOf : kY RX1 yX1_rulerOf cX1_rulerOf 2 (some .int) 1 := ⟨kinst_yX1_rulerOf, ksel_yX1_rulerOf, kz_X1, kd_yX1_rulerOf, by decide +kernel⟩
theorem kYX1_numberUnder : kY RX1 yX1_numberUnder cX1_numberUnder 4 (some .int) 1 := ⟨kinst_yX1_numberUnder, ksel_yX1_numberUnder, kz_X1, kd_yX1_numberUnder, by decide +kernel⟩
theorem kYX1_worthUnder : kY RX1 yX1_worthUnder cX1_worthUnder 4 (some .int) 1 := ⟨kinst_yX1_worthUnder, ksel_yX1_worthUnder, kz_X1, kd_yX1_worthUnder, by decide +kernel⟩
theorem kYX1_takeRulers : kY RX1 yX1_takeRulers cX1_takeRulers 2 none 1 := ⟨kinst_yX1_takeRulers, ksel_yX1_takeRulers, kz_X1, kd_yX1_takeRulers, by decide +kernel⟩
theorem kYX2_clear : kY RX2 yX2_clear cX2_clear 1 none 0 := ⟨kinst_yX2_clear, ksel_yX2_clear, kz_X2, kd_yX2_clear, by decide +kernel⟩
theorem kYX2_firstOf : kY RX2 yX2_firstOf cX2_firstOf 2 (some .int) 1 := ⟨kinst_yX2_firstOf, ksel_yX2_firstOf, kz_X2, kd_yX2_firstOf, by decide +kernel⟩
theorem kYX2_tell : kY RX2 yX2_tell cX2_tell 7 none 5 := ⟨kinst_yX2_tell, ksel_yX2_tell, kz_X2, kd_yX2_tell, by decide +kernel⟩
theorem kYX3_fits : kYs yX3_fits cX3_fits 1 (some .boolean) 1 := ⟨kstatic_yX3_fits, kz_X3, kd_yX3_fits, by decide +kernel⟩
theorem kYX3_spouseOf : kY RX3 yX3_spouseOf cX3_spouseOf 2 (some .int) 1 := ⟨kinst_yX3_spouseOf, ksel_yX3_spouseOf, kz_X3, kd_yX3_spouseOf, by decide +kernel⟩
theorem kYX3_givenBy : kY RX3 yX3_givenBy cX3_givenBy 2 (some .int) 1 := ⟨kinst_yX3_givenBy, ksel_yX3_givenBy, kz_X3, kd_yX3_givenBy, by decide +kernel⟩
theorem kYX3_bind : kY RX3 yX3_bind cX3_bind 3 none 2 := ⟨kinst_yX3_bind, ksel_yX3_bind, kz_X3, kd_yX3_bind, by decide +kernel⟩
theorem kYX3_part : kY RX3 yX3_part cX3_part 3 none 1 := ⟨kinst_yX3_part, ksel_yX3_part, kz_X3, kd_yX3_part, by decide +kernel⟩
theorem kYX3_couples : kY RX3 yX3_couples cX3_couples 3 (some .int) 0 := ⟨kinst_yX3_couples, ksel_yX3_couples, kz_X3, kd_yX3_couples, by decide +kernel⟩
theorem kYX4_startFrom : kY RX4 yX4_startFrom cX4_startFrom 2 none 1 := ⟨kinst_yX4_startFrom, ksel_yX4_startFrom, kz_X4, kd_yX4_startFrom, by decide +kernel⟩
theorem kYX4_lives : kY RX4 yX4_lives cX4_lives 2 (some .boolean) 1 := ⟨kinst_yX4_lives, ksel_yX4_lives, kz_X4, kd_yX4_lives, by decide +kernel⟩
theorem kYX4_age : kY RX4 yX4_age cX4_age 2 (some .int) 1 := ⟨kinst_yX4_age, ksel_yX4_age, kz_X4, kd_yX4_age, by decide +kernel⟩
theorem kYX4_isFree : kY RX4 yX4_isFree cX4_isFree 2 (some .boolean) 1 := ⟨kinst_yX4_isFree, ksel_yX4_isFree, kz_X4, kd_yX4_isFree, by decide +kernel⟩
theorem kYX4_mayMarry : kY RX4 yX4_mayMarry cX4_mayMarry 4 (some .boolean) 2 := ⟨kinst_yX4_mayMarry, ksel_yX4_mayMarry, kz_X4, kd_yX4_mayMarry, by decide +kernel⟩
theorem kYX4_wed : kY RX4 yX4_wed cX4_wed 5 none 3 := ⟨kinst_yX4_wed, ksel_yX4_wed, kz_X4, kd_yX4_wed, by decide +kernel⟩
theorem kYX4_separate : kY RX4 yX4_separate cX4_separate 6 (some .int) 1 := ⟨kinst_yX4_separate, ksel_yX4_separate, kz_X4, kd_yX4_separate, by decide +kernel⟩
theorem kYX4_bury : kY RX4 yX4_bury cX4_bury 4 (some .int) 1 := ⟨kinst_yX4_bury, ksel_yX4_bury, kz_X4, kd_yX4_bury, by decide +kernel⟩
theorem kYX4_letPass : kY RX4 yX4_letPass cX4_letPass 5 (some .int) 1 := ⟨kinst_yX4_letPass, ksel_yX4_letPass, kz_X4, kd_yX4_letPass, by decide +kernel⟩
theorem kYX4_heirOf : kY RX4 yX4_heirOf cX4_heirOf 5 (some .int) 2 := ⟨kinst_yX4_heirOf, ksel_yX4_heirOf, kz_X4, kd_yX4_heirOf, by decide +kernel⟩
theorem kYX4_eldestOfKin : kY RX4 yX4_eldestOfKin cX4_eldestOfKin 4 (some .int) 1 := ⟨kinst_yX4_eldestOfKin, ksel_yX4_eldestOfKin, kz_X4, kd_yX4_eldestOfKin, by decide +kernel⟩
theorem kYX4_regentOf : kY RX4 yX4_regentOf cX4_regentOf 2 (some .int) 1 := ⟨kinst_yX4_regentOf, ksel_yX4_regentOf, kz_X4, kd_yX4_regentOf, by decide +kernel⟩
theorem kYX4_nearestGrown : kY RX4 yX4_nearestGrown cX4_nearestGrown 6 (some .int) 1 := ⟨kinst_yX4_nearestGrown, ksel_yX4_nearestGrown, kz_X4, kd_yX4_nearestGrown, by decide +kernel⟩
theorem kYX4_personFact : kY RX4 yX4_personFact cX4_personFact 3 (some .int) 2 := ⟨kinst_yX4_personFact, ksel_yX4_personFact, kz_X4, kd_yX4_personFact, by decide +kernel⟩
theorem kYX4_landFact : kY RX4 yX4_landFact cX4_landFact 4 (some .int) 2 := ⟨kinst_yX4_landFact, ksel_yX4_landFact, kz_X4, kd_yX4_landFact, by decide +kernel⟩
theorem kYX4_countFact : kY RX4 yX4_countFact cX4_countFact 2 (some .int) 1 := ⟨kinst_yX4_countFact, ksel_yX4_countFact, kz_X4, kd_yX4_countFact, by decide +kernel⟩
theorem kYX4_living : kY RX4 yX4_living cX4_living 3 (some .int) 0 := ⟨kinst_yX4_living, ksel_yX4_living, kz_X4, kd_yX4_living, by decide +kernel⟩
theorem kYX4_rulers : kY RX4 yX4_rulers cX4_rulers 4 (some .int) 1 := ⟨kinst_yX4_rulers, ksel_yX4_rulers, kz_X4, kd_yX4_rulers, by decide +kernel⟩
theorem kYX5_come : kY RX5 yX5_come cX5_come 3 (some .int) 2 := ⟨kinst_yX5_come, ksel_yX5_come, kz_X5, kd_yX5_come, by decide +kernel⟩
theorem kYX5_bear : kY RX5 yX5_bear cX5_bear 4 (some .int) 2 := ⟨kinst_yX5_bear, ksel_yX5_bear, kz_X5, kd_yX5_bear, by decide +kernel⟩
theorem kYX5_found : kY RX5 yX5_found cX5_found 4 (some .int) 3 := ⟨kinst_yX5_found, ksel_yX5_found, kz_X5, kd_yX5_found, by decide +kernel⟩
theorem kYX5_setLaw : kY RX5 yX5_setLaw cX5_setLaw 4 (some .int) 2 := ⟨kinst_yX5_setLaw, ksel_yX5_setLaw, kz_X5, kd_yX5_setLaw, by decide +kernel⟩
theorem kYX5_marry : kY RX5 yX5_marry cX5_marry 5 (some .int) 3 := ⟨kinst_yX5_marry, ksel_yX5_marry, kz_X5, kd_yX5_marry, by decide +kernel⟩
theorem kYX5_annul : kY RX5 yX5_annul cX5_annul 2 (some .int) 1 := ⟨kinst_yX5_annul, ksel_yX5_annul, kz_X5, kd_yX5_annul, by decide +kernel⟩
theorem kYX5_die : kY RX5 yX5_die cX5_die 2 (some .int) 1 := ⟨kinst_yX5_die, ksel_yX5_die, kz_X5, kd_yX5_die, by decide +kernel⟩
theorem kYX5_person : kY RX5 yX5_person cX5_person 3 (some .int) 2 := ⟨kinst_yX5_person, ksel_yX5_person, kz_X5, kd_yX5_person, by decide +kernel⟩
theorem kYX5_land : kY RX5 yX5_land cX5_land 3 (some .int) 2 := ⟨kinst_yX5_land, ksel_yX5_land, kz_X5, kd_yX5_land, by decide +kernel⟩
theorem kYX5_ruled : kY RX5 yX5_ruled cX5_ruled 3 (some .int) 2 := ⟨kinst_yX5_ruled, ksel_yX5_ruled, kz_X5, kd_yX5_ruled, by decide +kernel⟩
theorem kYX5_related : kY RX5 yX5_related cX5_related 3 (some .int) 2 := ⟨kinst_yX5_related, ksel_yX5_related, kz_X5, kd_yX5_related, by decide +kernel⟩
theorem kYX5_count : kY RX5 yX5_count cX5_count 2 (some .int) 1 := ⟨kinst_yX5_count, ksel_yX5_count, kz_X5, kd_yX5_count, by decide +kernel⟩
theorem kYX5_pass : kY RX5 yX5_pass cX5_pass 2 (some .int) 1 := ⟨kinst_yX5_pass, ksel_yX5_pass, kz_X5, kd_yX5_pass, by decide +kernel⟩
theorem kYX5_rules : kY RX5 yX5_rules cX5_rules 3 (some .int) 1 := ⟨kinst_yX5_rules, ksel_yX5_rules, kz_X5, kd_yX5_rules, by decide +kernel⟩
theorem kYX5_foresee : kY RX5 yX5_foresee cX5_foresee 3 (some .int) 2 := ⟨kinst_yX5_foresee, ksel_yX5_foresee, kz_X5, kd_yX5_foresee, by decide +kernel⟩
theorem kYX5_best : kY RX5 yX5_best cX5_best 6 (some .int) 1 := ⟨kinst_yX5_best, ksel_yX5_best, kz_X5, kd_yX5_best, by decide +kernel⟩
theorem kYX5_mean : kY RX5 yX5_mean cX5_mean 4 (some .double) 0 := ⟨kinst_yX5_mean, ksel_yX5_mean, kz_X5, kd_yX5_mean, by decide +kernel⟩
theorem kYX5_digest : kY RX5 yX5_digest cX5_digest 5 (some .long) 0 := ⟨kinst_yX5_digest, ksel_yX5_digest, kz_X5, kd_yX5_digest, by decide +kernel⟩
theorem kYX5_digestedLand : kY RX5 yX5_digestedLand cX5_digestedLand 7 (some .long) 2 := ⟨kinst_yX5_digestedLand, ksel_yX5_digestedLand, kz_X5, kd_yX5_digestedLand, by decide +kernel⟩
theorem kYX5_digested : kYs yX5_digested cX5_digested 4 (some .long) 2 := ⟨kstatic_yX5_digested, kz_X5, kd_yX5_digested, by decide +kernel⟩
theorem kYX5_needPerson : kY RX5 yX5_needPerson cX5_needPerson 2 none 1 := ⟨kinst_yX5_needPerson, ksel_yX5_needPerson, kz_X5, kd_yX5_needPerson, by decide +kernel⟩
theorem kYX5_needLand : kY RX5 yX5_needLand cX5_needLand 2 none 1 := ⟨kinst_yX5_needLand, ksel_yX5_needLand, kz_X5, kd_yX5_needLand, by decide +kernel⟩
theorem kYX5_needBelow : kYs yX5_needBelow cX5_needBelow 2 none 2 := ⟨kstatic_yX5_needBelow, kz_X5, kd_yX5_needBelow, by decide +kernel⟩
theorem kYX5_needLaw : kYs yX5_needLaw cX5_needLaw 1 none 1 := ⟨kstatic_yX5_needLaw, kz_X5, kd_yX5_needLaw, by decide +kernel⟩
theorem kYX5_needYears : kYs yX5_needYears cX5_needYears 1 none 1 := ⟨kstatic_yX5_needYears, kz_X5, kd_yX5_needYears, by decide +kernel⟩
theorem kYX6_thrown : kY RX6 yX6_thrown cX6_thrown 1 (some .int) 0 := ⟨kinst_yX6_thrown, ksel_yX6_thrown, kz_X6, kd_yX6_thrown, by decide +kernel⟩
theorem kYX6_fail : kY RX6 yX6_fail cX6_fail 2 (some .int) 1 := ⟨kinst_yX6_fail, ksel_yX6_fail, kz_X6, kd_yX6_fail, by decide +kernel⟩
theorem kYX6_isIn : kYs yX6_isIn cX6_isIn 3 (some .boolean) 3 := ⟨kstatic_yX6_isIn, kz_X6, kd_yX6_isIn, by decide +kernel⟩
theorem kYX6_isPerson : kY RX6 yX6_isPerson cX6_isPerson 2 (some .boolean) 1 := ⟨kinst_yX6_isPerson, ksel_yX6_isPerson, kz_X6, kd_yX6_isPerson, by decide +kernel⟩
theorem kYX6_isLand : kY RX6 yX6_isLand cX6_isLand 2 (some .boolean) 1 := ⟨kinst_yX6_isLand, ksel_yX6_isLand, kz_X6, kd_yX6_isLand, by decide +kernel⟩
theorem kYX6_pe : kY RX6 yX6_pe cX6_pe 3 (some .int) 2 := ⟨kinst_yX6_pe, ksel_yX6_pe, kz_X6, kd_yX6_pe, by decide +kernel⟩
theorem kYX6_set : kY RX6 yX6_set cX6_set 4 none 3 := ⟨kinst_yX6_set, ksel_yX6_set, kz_X6, kd_yX6_set, by decide +kernel⟩
theorem kYX6_la : kY RX6 yX6_la cX6_la 3 (some .int) 2 := ⟨kinst_yX6_la, ksel_yX6_la, kz_X6, kd_yX6_la, by decide +kernel⟩
theorem kYX6_lives : kY RX6 yX6_lives cX6_lives 2 (some .boolean) 1 := ⟨kinst_yX6_lives, ksel_yX6_lives, kz_X6, kd_yX6_lives, by decide +kernel⟩
theorem kYX6_age : kY RX6 yX6_age cX6_age 2 (some .int) 1 := ⟨kinst_yX6_age, ksel_yX6_age, kz_X6, kd_yX6_age, by decide +kernel⟩
theorem kYX6_person : kY RX6 yX6_person cX6_person 6 (some .int) 4 := ⟨kinst_yX6_person, ksel_yX6_person, kz_X6, kd_yX6_person, by decide +kernel⟩
theorem kYX6_come : kY RX6 yX6_come cX6_come 3 (some .int) 2 := ⟨kinst_yX6_come, ksel_yX6_come, kz_X6, kd_yX6_come, by decide +kernel⟩
theorem kYX6_bear : kY RX6 yX6_bear cX6_bear 3 (some .int) 2 := ⟨kinst_yX6_bear, ksel_yX6_bear, kz_X6, kd_yX6_bear, by decide +kernel⟩
theorem kYX6_rule : kY RX6 yX6_rule cX6_rule 3 none 2 := ⟨kinst_yX6_rule, ksel_yX6_rule, kz_X6, kd_yX6_rule, by decide +kernel⟩
theorem kYX6_found : kY RX6 yX6_found cX6_found 5 (some .int) 3 := ⟨kinst_yX6_found, ksel_yX6_found, kz_X6, kd_yX6_found, by decide +kernel⟩
theorem kYX6_setLaw : kY RX6 yX6_setLaw cX6_setLaw 4 (some .int) 2 := ⟨kinst_yX6_setLaw, ksel_yX6_setLaw, kz_X6, kd_yX6_setLaw, by decide +kernel⟩
theorem kYX6_climb : kY RX6 yX6_climb cX6_climb 4 none 2 := ⟨kinst_yX6_climb, ksel_yX6_climb, kz_X6, kd_yX6_climb, by decide +kernel⟩
theorem kYX6_steps : kY RX6 yX6_steps cX6_steps 5 (some .int) 2 := ⟨kinst_yX6_steps, ksel_yX6_steps, kz_X6, kd_yX6_steps, by decide +kernel⟩
theorem kYX6_isBefore : kY RX6 yX6_isBefore cX6_isBefore 3 (some .boolean) 2 := ⟨kinst_yX6_isBefore, ksel_yX6_isBefore, kz_X6, kd_yX6_isBefore, by decide +kernel⟩
theorem kYX6_isAhead : kY RX6 yX6_isAhead cX6_isAhead 4 (some .boolean) 3 := ⟨kinst_yX6_isAhead, ksel_yX6_isAhead, kz_X6, kd_yX6_isAhead, by decide +kernel⟩
theorem kYX6_isChild : kY RX6 yX6_isChild cX6_isChild 3 (some .boolean) 2 := ⟨kinst_yX6_isChild, ksel_yX6_isChild, kz_X6, kd_yX6_isChild, by decide +kernel⟩
theorem kYX6_nextChild : kY RX6 yX6_nextChild cX6_nextChild 6 (some .int) 3 := ⟨kinst_yX6_nextChild, ksel_yX6_nextChild, kz_X6, kd_yX6_nextChild, by decide +kernel⟩
theorem kYX6_first : kY RX6 yX6_first cX6_first 6 (some .int) 3 := ⟨kinst_yX6_first, ksel_yX6_first, kz_X6, kd_yX6_first, by decide +kernel⟩
theorem kYX6_oldest : kY RX6 yX6_oldest cX6_oldest 4 (some .int) 1 := ⟨kinst_yX6_oldest, ksel_yX6_oldest, kz_X6, kd_yX6_oldest, by decide +kernel⟩
theorem kYX6_heir : kY RX6 yX6_heir cX6_heir 4 (some .int) 2 := ⟨kinst_yX6_heir, ksel_yX6_heir, kz_X6, kd_yX6_heir, by decide +kernel⟩
theorem kYX6_regent : kY RX6 yX6_regent cX6_regent 7 (some .int) 1 := ⟨kinst_yX6_regent, ksel_yX6_regent, kz_X6, kd_yX6_regent, by decide +kernel⟩
theorem kYX6_worthOf : kY RX6 yX6_worthOf cX6_worthOf 4 (some .int) 1 := ⟨kinst_yX6_worthOf, ksel_yX6_worthOf, kz_X6, kd_yX6_worthOf, by decide +kernel⟩
theorem kYX6_isFree : kY RX6 yX6_isFree cX6_isFree 2 (some .boolean) 1 := ⟨kinst_yX6_isFree, ksel_yX6_isFree, kz_X6, kd_yX6_isFree, by decide +kernel⟩
theorem kYX6_canMarry : kY RX6 yX6_canMarry cX6_canMarry 3 (some .boolean) 2 := ⟨kinst_yX6_canMarry, ksel_yX6_canMarry, kz_X6, kd_yX6_canMarry, by decide +kernel⟩
theorem kYX6_marry : kY RX6 yX6_marry cX6_marry 5 (some .int) 3 := ⟨kinst_yX6_marry, ksel_yX6_marry, kz_X6, kd_yX6_marry, by decide +kernel⟩
theorem kYX6_part : kY RX6 yX6_part cX6_part 7 none 1 := ⟨kinst_yX6_part, ksel_yX6_part, kz_X6, kd_yX6_part, by decide +kernel⟩
theorem kYX6_annul : kY RX6 yX6_annul cX6_annul 5 (some .int) 1 := ⟨kinst_yX6_annul, ksel_yX6_annul, kz_X6, kd_yX6_annul, by decide +kernel⟩
theorem kYX6_dies : kY RX6 yX6_dies cX6_dies 4 (some .int) 1 := ⟨kinst_yX6_dies, ksel_yX6_dies, kz_X6, kd_yX6_dies, by decide +kernel⟩
theorem kYX6_die : kY RX6 yX6_die cX6_die 2 (some .int) 1 := ⟨kinst_yX6_die, ksel_yX6_die, kz_X6, kd_yX6_die, by decide +kernel⟩
theorem kYX6_personTold : kY RX6 yX6_personTold cX6_personTold 5 (some .int) 2 := ⟨kinst_yX6_personTold, ksel_yX6_personTold, kz_X6, kd_yX6_personTold, by decide +kernel⟩
theorem kYX6_person_ : kY RX6 yX6_person_ cX6_person_ 3 (some .int) 2 := ⟨kinst_yX6_person_, ksel_yX6_person_, kz_X6, kd_yX6_person_, by decide +kernel⟩
theorem kYX6_landTold : kY RX6 yX6_landTold cX6_landTold 4 (some .int) 2 := ⟨kinst_yX6_landTold, ksel_yX6_landTold, kz_X6, kd_yX6_landTold, by decide +kernel⟩
theorem kYX6_land : kY RX6 yX6_land cX6_land 3 (some .int) 2 := ⟨kinst_yX6_land, ksel_yX6_land, kz_X6, kd_yX6_land, by decide +kernel⟩
theorem kYX6_kept : kY RX6 yX6_kept cX6_kept 2 (some .int) 1 := ⟨kinst_yX6_kept, ksel_yX6_kept, kz_X6, kd_yX6_kept, by decide +kernel⟩
theorem kYX6_ruled : kY RX6 yX6_ruled cX6_ruled 3 (some .int) 2 := ⟨kinst_yX6_ruled, ksel_yX6_ruled, kz_X6, kd_yX6_ruled, by decide +kernel⟩
theorem kYX6_related : kY RX6 yX6_related cX6_related 3 (some .int) 2 := ⟨kinst_yX6_related, ksel_yX6_related, kz_X6, kd_yX6_related, by decide +kernel⟩
theorem kYX6_rulesNow : kY RX6 yX6_rulesNow cX6_rulesNow 2 (some .boolean) 1 := ⟨kinst_yX6_rulesNow, ksel_yX6_rulesNow, kz_X6, kd_yX6_rulesNow, by decide +kernel⟩
theorem kYX6_counted : kY RX6 yX6_counted cX6_counted 4 (some .int) 1 := ⟨kinst_yX6_counted, ksel_yX6_counted, kz_X6, kd_yX6_counted, by decide +kernel⟩
theorem kYX6_count : kY RX6 yX6_count cX6_count 2 (some .int) 1 := ⟨kinst_yX6_count, ksel_yX6_count, kz_X6, kd_yX6_count, by decide +kernel⟩
theorem kYX6_yearOn : kY RX6 yX6_yearOn cX6_yearOn 3 (some .int) 0 := ⟨kinst_yX6_yearOn, ksel_yX6_yearOn, kz_X6, kd_yX6_yearOn, by decide +kernel⟩
theorem kYX6_yearsOn : kY RX6 yX6_yearsOn cX6_yearsOn 4 (some .int) 1 := ⟨kinst_yX6_yearsOn, ksel_yX6_yearsOn, kz_X6, kd_yX6_yearsOn, by decide +kernel⟩
theorem kYX6_pass : kY RX6 yX6_pass cX6_pass 2 (some .int) 1 := ⟨kinst_yX6_pass, ksel_yX6_pass, kz_X6, kd_yX6_pass, by decide +kernel⟩
theorem kYX6_kept_ : kY RX6 yX6_kept_ cX6_kept_ 1 (some (.array (.array .int))) 0 := ⟨kinst_yX6_kept_, ksel_yX6_kept_, kz_X6, kd_yX6_kept_, by decide +kernel⟩
theorem kYX6_bringBack : kY RX6 yX6_bringBack cX6_bringBack 4 none 1 := ⟨kinst_yX6_bringBack, ksel_yX6_bringBack, kz_X6, kd_yX6_bringBack, by decide +kernel⟩
theorem kYX6_rules : kY RX6 yX6_rules cX6_rules 4 (some .int) 1 := ⟨kinst_yX6_rules, ksel_yX6_rules, kz_X6, kd_yX6_rules, by decide +kernel⟩
theorem kYX6_foresee : kY RX6 yX6_foresee cX6_foresee 5 (some .int) 2 := ⟨kinst_yX6_foresee, ksel_yX6_foresee, kz_X6, kd_yX6_foresee, by decide +kernel⟩
theorem kYX6_best : kY RX6 yX6_best cX6_best 4 (some .int) 1 := ⟨kinst_yX6_best, ksel_yX6_best, kz_X6, kd_yX6_best, by decide +kernel⟩
theorem kYX6_mean : kY RX6 yX6_mean cX6_mean 3 (some .double) 0 := ⟨kinst_yX6_mean, ksel_yX6_mean, kz_X6, kd_yX6_mean, by decide +kernel⟩
theorem kYX6_digest : kY RX6 yX6_digest cX6_digest 5 (some .long) 0 := ⟨kinst_yX6_digest, ksel_yX6_digest, kz_X6, kd_yX6_digest, by decide +kernel⟩
theorem kYJ7_fill_53178 : kYs yJ7_fill_53178 cJ7_fill_53178 4 none 2 := ⟨kstatic_yJ7_fill_53178, kz_J7, kd_yJ7_fill_53178, by decide +kernel⟩
