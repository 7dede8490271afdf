/-- the classes of the arrays -/
abbrev TY (tk : Nat → ClassId) : List (ClassId × FieldType) := [(tk 0, .int), (tk 1, .boolean), (tk 2, .long), (tk 3, .object "SealedBook$Chunk")]
/-- the reference: its object and its arrays; field k is g k 0, the array in field k is g k, the longs are la -/
def wM (tk : Nat → ClassId) (h : Nat) (ad : Nat → Nat) (g : Nat → Nat → Int32) (la : Nat → Int64) : va_W := [(h, .inr (9, [.int (g 0 0), .ref (ad 1), .ref (ad 2), .int (g 3 0), .ref (ad 4), .int (g 5 0), .int (g 6 0), .ref (ad 7), .int (g 8 0), .ref (ad 9), .ref (ad 10), .int (g 11 0), .ref (ad 12), .ref (ad 13), .ref (ad 14), .ref (ad 15), .ref (ad 16), .int (g 17 0), .ref (ad 18), .ref (ad 19), .ref (ad 20), .int (g 21 0), .ref (ad 22), .int (g 23 0), .ref (ad 24), .int (g 25 0), .int (g 26 0), .ref (ad 27), .int (g 28 0), .int (g 29 0), .ref (ad 30), .ref (ad 31)])), (ad 1, .inl (tk 1, 816, .inl (g 1))), (ad 2, .inl (tk 0, 816, .inl (g 2))), (ad 4, .inl (tk 0, 16, .inl (g 4))), (ad 7, .inl (tk 0, 3400, .inl (g 7))), (ad 9, .inl (tk 2, 180, .inr (.inl la))), (ad 10, .inl (tk 0, 8640, .inl (g 10))), (ad 12, .inl (tk 0, 8, .inl (g 12))), (ad 13, .inl (tk 0, 384, .inl (g 13))), (ad 14, .inl (tk 0, 384, .inl (g 14))), (ad 15, .inl (tk 0, 8, .inl (g 15))), (ad 16, .inl (tk 0, 8, .inl (g 16))), (ad 18, .inl (tk 0, 8, .inl (g 18))), (ad 19, .inl (tk 0, 8, .inl (g 19))), (ad 20, .inl (tk 1, 8, .inl (g 20))), (ad 22, .inl (tk 0, 420, .inl (g 22))), (ad 24, .inl (tk 0, 420, .inl (g 24))), (ad 27, .inl (tk 0, 16, .inl (g 27))), (ad 30, .inl (tk 0, 48, .inl (g 30))), (ad 31, .inl (tk 0, 48, .inl (g 31)))]
theorem mup_same (g : Nat → Nat → Int32) (a i : Nat) : mup g a i (g a i) = g := by
  funext x
  unfold mup
  split
  · next h => subst h; funext j; unfold upd; split
              · next h => rw [h]
              · rfl
  · rfl
