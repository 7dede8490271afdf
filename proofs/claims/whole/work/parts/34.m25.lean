theorem vP_mem {D : va_G} {cl : List vw_C} {ws : va_W} {H : Heap} : va_P D cl ws H ↔ ∀ q, q ∈ ws → va_at D cl q H := by
  constructor
  · intro h q hq
    obtain ⟨k, hk⟩ := List.getElem?_of_mem hq
    exact h k q hk
  · intro h k q hk
    exact h q (List.mem_of_getElem? hk)
/-- the order of the cells is nothing to the world -/
theorem vP_perm {D : va_G} {cl : List vw_C} {ws ws2 : va_W} {H : Heap} (h : ws.Perm ws2) (hP : va_P D cl ws H) : va_P D cl ws2 H := vP_mem.mpr (fun q hq => vP_mem.mp hP q (h.mem_iff.mpr hq))
theorem vD_mem {A : Nat → Prop} {ws : va_W} : va_D A ws ↔ (ws.map (fun x => x.1)).Nodup ∧ ∀ q, q ∈ ws → A q.1 := by
  constructor
  · intro h
    refine ⟨?_, fun q hq => ?_⟩
    · rw [List.Nodup, List.pairwise_map, List.pairwise_iff_getElem]
      intro i j hi hj hij e
      have := h.1 i j _ _ (List.getElem?_eq_getElem hi) (List.getElem?_eq_getElem hj) e
      omega
    · obtain ⟨k, hk⟩ := List.getElem?_of_mem hq
      exact h.2 k q hk
  · intro h
    refine ⟨fun i j p q hp hq e => ?_, fun k q hk => h.2 q (List.mem_of_getElem? hk)⟩
    have h1 := h.1
    rw [List.Nodup, List.pairwise_map, List.pairwise_iff_getElem] at h1
    obtain ⟨hi, ei⟩ := List.getElem?_eq_some_iff.mp hp
    obtain ⟨hj, ej⟩ := List.getElem?_eq_some_iff.mp hq
    apply Classical.byContradiction
    intro hne
    rcases Nat.lt_or_gt_of_ne hne with z | z
    · exact h1 i j hi hj z (by rw [ei, ej]; exact e)
    · exact h1 j i hj hi z (by rw [ei, ej]; exact e.symm)
theorem vD_perm {A : Nat → Prop} {ws ws2 : va_W} (h : ws.Perm ws2) (hD : va_D A ws) : va_D A ws2 := by
  have := vD_mem.mp hD
  exact vD_mem.mpr ⟨(h.map _).nodup_iff.mp this.1, fun q hq => this.2 q (h.mem_iff.mpr hq)⟩
/-- the reference that is new: its object at the head, what was there, then its arrays in the order of its fields -/
theorem wM_perm (tk : Nat → ClassId) (h : Nat) (ad : Nat → Nat) (g : Nat → Nat → Int32) (la : Nat → Int64) (tl : va_W) : ((wM tk h ad g la).take 1 ++ tl ++ (wM tk h ad g la).drop 1).Perm (wM tk h ad g la ++ tl) := by
  rw [List.append_assoc]
  have e : wM tk h ad g la ++ tl = (wM tk h ad g la).take 1 ++ ((wM tk h ad g la).drop 1 ++ tl) := by rw [← List.append_assoc, List.take_append_drop]
  rw [e]
  exact List.Perm.append_left _ List.perm_append_comm
