def xL : List Cond := [.laysStatic "java/lang/Throwable" "UNASSIGNED_STACK" "[Ljava/lang/StackTraceElement;", .laysStatic "java/lang/Throwable" "SUPPRESSED_SENTINEL" "Ljava/util/List;", .isRef (.static "java/lang/Throwable" "UNASSIGNED_STACK" "[Ljava/lang/StackTraceElement;"), .isRef (.static "java/lang/Throwable" "SUPPRESSED_SENTINEL" "Ljava/util/List;")]
theorem xL_ok {args : Array Value} {U : State} (h : xF U U.heap) : ∀ w ∈ xL, w.before args U = true := by
  intro w hw
  simp only [xL, List.mem_cons, List.not_mem_nil, or_false] at hw
  rcases hw with rfl | rfl | rfl | rfl
  · exact h.2.2.2.1.lays
  · exact h.2.2.2.2.lays
  · exact h.2.2.2.1.ref
  · exact h.2.2.2.2.ref
theorem xW_ok {args : Array Value} {U : State} (h : xF U U.heap) : ∀ w ∈ xW, w.before args U = true := by
  intro w hw
  have hz := h.1 w hw
  simp only [xW, List.mem_cons, List.not_mem_nil, or_false] at hw
  rcases hw with rfl | rfl | rfl | rfl | rfl | rfl <;> exact va_Nw.use rfl hz
theorem xo_IAE : ∀ a ∈ Jvm.Bundle.ownAtoms "SealedBook" 206 "java/lang/IllegalArgumentException" ["java/lang/RuntimeException", "java/lang/Exception"], a ∈ TT ∨ a ∈ xW ∨ a ∈ xL := by decide +kernel
theorem xo_ISE : ∀ a ∈ Jvm.Bundle.ownAtoms "SealedBook" 199 "java/lang/IllegalStateException" ["java/lang/RuntimeException", "java/lang/Exception"], a ∈ TT ∨ a ∈ xW ∨ a ∈ xL := by decide +kernel
