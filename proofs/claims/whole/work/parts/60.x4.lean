def xW : List Cond := [.declares ⟨"java/lang/RuntimeException", "<init>", "(Ljava/lang/String;)V"⟩, .declares ⟨"java/lang/Exception", "<init>", "(Ljava/lang/String;)V"⟩, .declares ⟨"java/lang/Throwable", "<init>", "(Ljava/lang/String;)V"⟩, .castable "java/lang/IllegalArgumentException" "java/lang/IllegalArgumentException", .castable "java/lang/IllegalStateException" "java/lang/IllegalStateException", .castable "java/util/NoSuchElementException" "java/util/NoSuchElementException"]
/-- what the exceptions need of the tables and of Throwable's static fields -/
def xF (U : State) (H : Heap) : Prop := (∀ w ∈ xW, va_Nw w U) ∧ (va_Nc "java/lang/IllegalStateException" "java/lang/IllegalArgumentException" U ∧ va_Nc "java/util/NoSuchElementException" "java/lang/IllegalArgumentException" U) ∧
  ((∃ q, vk_R "SealedBook" 204 "no such key, version or number of versions" q U) ∧ (∃ q, vk_R "SealedBook" 197 "there are 16 versions already" q U) ∧ ∃ q, vk_R "SealedBook" 209 "the key has no value" q U) ∧
  xst "UNASSIGNED_STACK" "[Ljava/lang/StackTraceElement;" U H ∧ xst "SUPPRESSED_SENTINEL" "Ljava/util/List;" U H
theorem xF.warm {s U : State} {H : Heap} (hW : s.WarmedH U.vm) (h : xF s H) : xF U H := by
  obtain ⟨h1, ⟨h2, h3⟩, ⟨⟨q1, h4⟩, ⟨q2, h5⟩, ⟨q3, h6⟩⟩, h7, h8⟩ := h
  refine ⟨fun w hw => ?_, ⟨h2.moved hW.alike, h3.moved hW.alike⟩, ⟨⟨q1, h4.warm hW⟩, ⟨q2, h5.warm hW⟩, ⟨q3, h6.warm hW⟩⟩, h7.moved hW.alike, h8.moved hW.alike⟩
  have hz := h1 w hw
  simp only [xW, List.mem_cons, List.not_mem_nil, or_false] at hw
  rcases hw with rfl | rfl | rfl | rfl | rfl | rfl
  · exact va_Nw.warmD hW hz
  · exact va_Nw.warmD hW hz
  · exact va_Nw.warmD hW hz
  · exact va_Nw.warmC hW hz
  · exact va_Nw.warmC hW hz
  · exact va_Nw.warmC hW hz
theorem xst.kept {n d : String} {U : State} {H H1 : Heap} (h : xst n d U H) (hk : ∀ (a : Nat) (cell : Cell), H[a]? = some cell → cell.vm.isStatics = true → H1[a]? = H[a]?) : xst n d U H1 := by
  obtain ⟨c, k, i, f, a, cell, v, h0, h1, h2, h3, h4, h5, h6⟩ := h
  exact ⟨c, k, i, f, a, cell, v, h0, h1, h2, h3, by rw [hk a cell h4 h5]; exact h4, h5, h6⟩
theorem xF.kept {U : State} {H H1 : Heap} (h : xF U H) (hk : ∀ (a : Nat) (cell : Cell), H[a]? = some cell → cell.vm.isStatics = true → H1[a]? = H[a]?) : xF U H1 := ⟨h.1, h.2.1, h.2.2.1, h.2.2.2.1.kept hk, h.2.2.2.2.kept hk⟩
/-- the cells of a world are no class's static fields -/
theorem va_at.ns {D : va_G} {q : Nat × va_E} {H : Heap} (h : va_at D CC q H) {cell : Cell} (hc : H[q.1]? = some cell) : cell.vm.isStatics = false := by
  obtain ⟨a, x⟩ := q
  cases x with
  | inl v =>
    have e : H[a]? = some (vp_cell v.1 v.2) := h
    have e2 : vp_cell v.1 v.2 = cell := Option.some.inj (e.symm.trans hc)
    rw [← e2]
    obtain ⟨c, n, f⟩ := v
    rcases f with f | f | f | f | f <;> rfl
  | inr v =>
    obtain ⟨r, _, cell2, g1, _, g3, _⟩ := h
    have e2 : cell2 = cell := Option.some.inj (g1.symm.trans hc)
    rw [← e2, g3]; rfl
theorem st_kept {D : va_G} {ws : va_W} {H0 H : Heap} {locs : List Loc} (hP0 : va_P D CC ws H0) (hS : va_S (va_A ws H0.size) H0 H locs) : ∀ (a : Nat) (cell : Cell), H0[a]? = some cell → cell.vm.isStatics = true → H[a]? = H0[a]? := by
  intro a cell hc hs
  have hlt := (Array.getElem?_eq_some_iff.mp hc).1
  refine hS.2.1 a hlt (fun q => ?_)
  rcases q with ⟨k, e, hk⟩ | q
  · rw [(hP0 k (a, e) hk).ns hc] at hs; cases hs
  · exact absurd hlt (Nat.not_lt.mpr q)
/-- a contract's start, where it may throw -/
def k_preT (D : va_G) (tys : List (ClassId × FieldType)) (sz : Nat) (ws : va_W) : State → Prop := fun U => k_pre D tys sz ws U ∧ xF U U.heap
theorem xF.calling {U : State} {H : Heap} {g : JFrame} {mk : MethodId} {b : Array Value} (h : xF U H) : xF (U.calling g mk b) H := h.warm (U := U.calling g mk b) (State.WarmedH.refl U)
theorem k_blindT {D : va_G} {tys : List (ClassId × FieldType)} {ws : va_W} {sz : Nat} {av : List Value} : FrameBlind (va_Pc av (k_preT D tys sz ws)) := by
  intro a U g mk q
  obtain ⟨q0, q1, q2⟩ := q
  exact ⟨q0, (k_blind a U g mk ⟨q0, q1⟩).2, q2.calling⟩
/-- the thrown object -/
def xOb (cls : String) (x : Addr) (t : State) : Prop := ∃ ce : Cell, t.heap[x]? = some ce ∧ ce.vm.isStatics = false ∧ t.vm.findClass cls = some ce.cls ∧ t.vm.assignable ce.cls ce.cls = true
def Qx (cls : String) (D : va_G) (tk : Nat → ClassId) (ws : va_W) (A : Nat → Prop) : Array Value → State → Outcome → State → Prop := fun _ st o t => ∃ x, o = .threw x ∧ st.heap.size ≤ x ∧ xOb cls x t ∧ k_at D (TY tk) A ws t ∧ va_F A st t
