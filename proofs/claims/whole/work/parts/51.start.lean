/-! THE START: the world of a fresh system, in the order of its places -/
def zk0 : kS := fun p => if p = 24 ∨ p = 25 ∨ p = 29 ∨ p = 39 ∨ p = 40 ∨ p = 44 then fm else fun _ => 0
def zm0 : kS := fun _ _ => 0
def adF (u v : Nat → Nat) : Nat → Nat := fun p => if p < 1 then u 0 else if p < 7 then u (4 * p + 1) else if p < 15 then v (p - 7) else if p < 30 then u (4 * (p - 15) + 2) else if p < 45 then u (4 * (p - 30) + 3) else if p < 57 then u (4 * (p - 45 + 20) + 2) else if p < 69 then u (4 * (p - 57 + 20) + 3) else u (4 * (p - 69 + 20) + 1)
theorem va_P_perm {D : va_G} {cl : List vw_C} {ws ws' : va_W} {H : Heap} (h : va_P D cl ws H) (hp : ws.Perm ws') : va_P D cl ws' H := fun k q hk => by
  obtain ⟨i, hi⟩ := List.getElem?_of_mem (hp.mem_iff.mpr (List.mem_of_getElem? hk))
  exact h i q hi
theorem va_D_nd {A : Nat → Prop} {ws : va_W} : va_D A ws ↔ ((ws.map Prod.fst).Nodup ∧ ∀ q ∈ ws, A q.1) := by
  constructor
  · intro h
    refine ⟨?_, fun q hq => ?_⟩
    · unfold List.Nodup
      rw [List.pairwise_iff_getElem]
      intro i j hi hj hij e
      rw [List.length_map] at hi hj
      simp only [List.getElem_map] at e
      have := h.1 i j _ _ (List.getElem?_eq_getElem hi) (List.getElem?_eq_getElem hj) e
      omega
    · obtain ⟨i, hi⟩ := List.getElem?_of_mem hq
      exact h.2 i q hi
  · rintro ⟨h1, h2⟩
    refine ⟨fun i j x y hx hy hxy => ?_, fun k q hk => h2 q (List.mem_of_getElem? hk)⟩
    obtain ⟨hi, rfl⟩ := List.getElem?_eq_some_iff.mp hx
    obtain ⟨hj, rfl⟩ := List.getElem?_eq_some_iff.mp hy
    unfold List.Nodup at h1
    rw [List.pairwise_iff_getElem] at h1
    rcases Nat.lt_trichotomy i j with h | h | h
    · exact absurd (by rw [List.getElem_map, List.getElem_map]; exact hxy) (h1 i j (by rw [List.length_map]; exact hi) (by rw [List.length_map]; exact hj) h)
    · exact h
    · exact absurd (by rw [List.getElem_map, List.getElem_map]; exact hxy.symm) (h1 j i (by rw [List.length_map]; exact hj) (by rw [List.length_map]; exact hi) h)
theorem va_D_perm {A : Nat → Prop} {ws ws' : va_W} (h : va_D A ws) (hp : ws.Perm ws') : va_D A ws' := by
  obtain ⟨h1, h2⟩ := va_D_nd.mp h
  exact va_D_nd.mpr ⟨(hp.map Prod.fst).nodup_iff.mp h1, fun q hq => h2 q (hp.mem_iff.mpr hq)⟩
section ST
variable {cI cZ cO : ClassId} {u v : Nat → Nat}
theorem adF_s (i : Nat) : adF u v (69 + i) = u (4 * (i + 20) + 1) := by
  unfold adF
  rw [if_neg (by omega), if_neg (by omega), if_neg (by omega), if_neg (by omega), if_neg (by omega), if_neg (by omega), if_neg (by omega), show 69 + i - 69 = i by omega]
theorem adF_p {i : Nat} (h : i < 12) : adF u v (45 + i) = u (4 * (i + 20) + 2) := by
  unfold adF
  rw [if_neg (by omega), if_neg (by omega), if_neg (by omega), if_neg (by omega), if_neg (by omega), if_pos (by omega), show 45 + i - 45 = i by omega]
theorem adF_q {i : Nat} (h : i < 12) : adF u v (57 + i) = u (4 * (i + 20) + 3) := by
  unfold adF
  rw [if_neg (by omega), if_neg (by omega), if_neg (by omega), if_neg (by omega), if_neg (by omega), if_neg (by omega), if_pos (by omega), show 57 + i - 57 = i by omega]
theorem zk0_o {p : Nat} (h : 45 ≤ p) : zk0 p = fun _ => 0 := by
  unfold zk0
  exact if_neg (by omega)
theorem iO_s : iO (fun j => u (4 * j + 1)) 40 = fun i => if i < 40 then some (adF u v (69 + i)) else none := funext fun i => by unfold iO; rw [adF_s]
theorem iO_p : iO (fun j => u (4 * j + 2)) 12 = fun i => if i < 12 then some (adF u v (kpb 15 + i)) else none := funext fun i => by
  unfold iO
  by_cases h : i < 12
  · rw [if_pos h, if_pos h]
    exact congrArg some (adF_p h).symm
  · rw [if_neg h, if_neg h]
theorem iO_q : iO (fun j => u (4 * j + 3)) 12 = fun i => if i < 12 then some (adF u v (kpb 30 + i)) else none := funext fun i => by
  unfold iO
  by_cases h : i < 12
  · rw [if_pos h, if_pos h]
    exact congrArg some (adF_q h).symm
  · rw [if_neg h, if_neg h]
def pW (ad : Nat → Nat) (e : Nat → va_E) (ps : List Nat) : va_W := ps.map (fun p => (ad p, e p))
theorem pW_app (ad : Nat → Nat) (e : Nat → va_E) (a b : List Nat) : pW ad e (a ++ b) = pW ad e a ++ pW ad e b := List.map_append
abbrev eS (cI cZ cO : ClassId) (u v : Nat → Nat) : Nat → va_E := kE (adF u v) cI cZ cO zk0 zm0
theorem kin_p : kinW cI cZ cO (fun j => u (4 * j + 1)) = pW (adF u v) (eS cI cZ cO u v) ([1, 2, 3, 4, 5, 6] ++ (List.range 40).map (69 + ·)) := by
  rw [pW_app]
  unfold kinW
  rw [iO_s (v := v)]
  congr 1
theorem lands_p : landsW cI cO (fun j => u (4 * j + 2)) = pW (adF u v) (eS cI cZ cO u v) ([16, 17, 18, 19, 20, 21, 22] ++ (List.range 12).map (45 + ·)) := by
  rw [pW_app]
  unfold landsW
  rw [iO_p (v := v)]
  congr 1
theorem lands_q : landsW cI cO (fun j => u (4 * j + 3)) = pW (adF u v) (eS cI cZ cO u v) ([31, 32, 33, 34, 35, 36, 37] ++ (List.range 12).map (57 + ·)) := by
  rw [pW_app]
  unfold landsW
  rw [iO_q (v := v)]
  congr 1
theorem world_p : worldW cI cO (u 5) (fun j => u (4 * j + 2)) = pW (adF u v) (eS cI cZ cO u v) ([15] ++ ([16, 17, 18, 19, 20, 21, 22] ++ (List.range 12).map (45 + ·)) ++ [23, 24, 25] ++ [26, 27, 28] ++ [29]) := by
  unfold worldW
  rw [lands_p (v := v) (cZ := cZ), pW_app, pW_app, pW_app, pW_app]
  rfl
theorem world_q : worldW cI cO (u 5) (fun j => u (4 * j + 3)) = pW (adF u v) (eS cI cZ cO u v) ([30] ++ ([31, 32, 33, 34, 35, 36, 37] ++ (List.range 12).map (57 + ·)) ++ [38, 39, 40] ++ [41, 42, 43] ++ [44]) := by
  unfold worldW
  rw [lands_q (v := v) (cZ := cZ), pW_app, pW_app, pW_app, pW_app]
  rfl
def allP : List Nat := [0] ++ ([1, 2, 3, 4, 5, 6] ++ (List.range 40).map (69 + ·)) ++ ([15] ++ ([16, 17, 18, 19, 20, 21, 22] ++ (List.range 12).map (45 + ·)) ++ [23, 24, 25] ++ [26, 27, 28] ++ [29]) ++ ([30] ++ ([31, 32, 33, 34, 35, 36, 37] ++ (List.range 12).map (57 + ·)) ++ [38, 39, 40] ++ [41, 42, 43] ++ [44]) ++ [7, 8, 9, 10, 11, 12, 13, 14]
theorem allP_perm : allP.Perm (List.range 109) := by decide +kernel
theorem all_p : allW cI cZ cO u ++ modelW cI v = pW (adF u v) (eS cI cZ cO u v) allP := by
  unfold allW allP
  rw [kin_p (v := v), world_p (v := v) (cZ := cZ), world_q (v := v) (cZ := cZ), pW_app, pW_app, pW_app, pW_app]
  rfl
theorem all_kC {X : va_W} : ((allW cI cZ cO u ++ modelW cI v) ++ X).Perm (kC (adF u v) (eS cI cZ cO u v) ++ X) := by
  rw [all_p]
  exact (allP_perm.map _).append_right X
end ST
