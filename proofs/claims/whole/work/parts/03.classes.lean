/-- the fields of SealedBook$Bytes -/
def F_B : u_T := fun k => match k with
  | 0 => ("SealedBook$Bytes", "cells", "[I", true)
  | _ => ("SealedBook$Bytes", "size", "I", false)
def ty_B : Nat → FieldType := fun k => match k with
  | 0 => .array .int
  | _ => .int
theorem ok_B : ∀ k, k < 2 → parseFieldDescriptor (F_B k).2.2.1 = some (ty_B k) := by decide +kernel
theorem nm_B : ∀ a, a < 2 → ∀ b, b < 2 → a ≠ b → (F_B a).2.1 ≠ (F_B b).2.1 := by decide +kernel
theorem in_B : ∀ w ∈ u_ws "SealedBook$Bytes" F_B 2, w ∈ TT := List.forall_mem_cons.mpr ⟨t_132, List.forall_mem_cons.mpr ⟨t_134, fun _ h => absurd h List.not_mem_nil⟩⟩
/-- the fields of SealedBook$Chunk -/
def F_C : u_T := fun k => match k with
  | 0 => ("SealedBook$Chunk", "level", "I", true)
  | 1 => ("SealedBook$Chunk", "hash", "I", true)
  | 2 => ("SealedBook$Chunk", "keys", "[I", true)
  | 3 => ("SealedBook$Chunk", "values", "[I", true)
  | 4 => ("SealedBook$Chunk", "below", "[LSealedBook$Chunk;", true)
  | _ => ("SealedBook$Chunk", "older", "LSealedBook$Chunk;", true)
def ty_C : Nat → FieldType := fun k => match k with
  | 0 => .int
  | 1 => .int
  | 2 => .array .int
  | 3 => .array .int
  | 4 => .array (.object "SealedBook$Chunk")
  | _ => .object "SealedBook$Chunk"
theorem ok_C : ∀ k, k < 6 → parseFieldDescriptor (F_C k).2.2.1 = some (ty_C k) := by decide +kernel
theorem nm_C : ∀ a, a < 6 → ∀ b, b < 6 → a ≠ b → (F_C a).2.1 ≠ (F_C b).2.1 := by decide +kernel
theorem in_C : ∀ w ∈ u_ws "SealedBook$Chunk" F_C 6, w ∈ TT := List.forall_mem_cons.mpr ⟨t_715, List.forall_mem_cons.mpr ⟨t_717, List.forall_mem_cons.mpr ⟨t_719, List.forall_mem_cons.mpr ⟨t_721, List.forall_mem_cons.mpr ⟨t_723, List.forall_mem_cons.mpr ⟨t_725, fun _ h => absurd h List.not_mem_nil⟩⟩⟩⟩⟩⟩
/-- the fields of SealedBook$History -/
def F_H : u_T := fun k => match k with
  | 0 => ("SealedBook$History", "tops", "[LSealedBook$Chunk;", true)
  | _ => ("SealedBook$History", "size", "I", false)
def ty_H : Nat → FieldType := fun k => match k with
  | 0 => .array (.object "SealedBook$Chunk")
  | _ => .int
theorem ok_H : ∀ k, k < 2 → parseFieldDescriptor (F_H k).2.2.1 = some (ty_H k) := by decide +kernel
theorem nm_H : ∀ a, a < 2 → ∀ b, b < 2 → a ≠ b → (F_H a).2.1 ≠ (F_H b).2.1 := by decide +kernel
theorem in_H : ∀ w ∈ u_ws "SealedBook$History" F_H 2, w ∈ TT := List.forall_mem_cons.mpr ⟨t_68, List.forall_mem_cons.mpr ⟨t_70, fun _ h => absurd h List.not_mem_nil⟩⟩
/-- the fields of SealedBook$Prover -/
def F_P : u_T := fun k => match k with
  | _ => ("SealedBook$Prover", "bytes", "LSealedBook$Bytes;", true)
def ty_P : Nat → FieldType := fun k => match k with
  | _ => .object "SealedBook$Bytes"
theorem ok_P : ∀ k, k < 1 → parseFieldDescriptor (F_P k).2.2.1 = some (ty_P k) := by decide +kernel
theorem nm_P : ∀ a, a < 1 → ∀ b, b < 1 → a ≠ b → (F_P a).2.1 ≠ (F_P b).2.1 := by decide +kernel
theorem in_P : ∀ w ∈ u_ws "SealedBook$Prover" F_P 1, w ∈ TT := List.forall_mem_cons.mpr ⟨t_139, fun _ h => absurd h List.not_mem_nil⟩
/-- the fields of SealedBook$Row -/
def F_R : u_T := fun k => match k with
  | 0 => ("SealedBook$Row", "keys", "[I", true)
  | 1 => ("SealedBook$Row", "values", "[I", true)
  | 2 => ("SealedBook$Row", "below", "[LSealedBook$Chunk;", true)
  | _ => ("SealedBook$Row", "size", "I", false)
def ty_R : Nat → FieldType := fun k => match k with
  | 0 => .array .int
  | 1 => .array .int
  | 2 => .array (.object "SealedBook$Chunk")
  | _ => .int
theorem ok_R : ∀ k, k < 4 → parseFieldDescriptor (F_R k).2.2.1 = some (ty_R k) := by decide +kernel
theorem nm_R : ∀ a, a < 4 → ∀ b, b < 4 → a ≠ b → (F_R a).2.1 ≠ (F_R b).2.1 := by decide +kernel
theorem in_R : ∀ w ∈ u_ws "SealedBook$Row" F_R 4, w ∈ TT := List.forall_mem_cons.mpr ⟨t_107, List.forall_mem_cons.mpr ⟨t_109, List.forall_mem_cons.mpr ⟨t_111, List.forall_mem_cons.mpr ⟨t_113, fun _ h => absurd h List.not_mem_nil⟩⟩⟩⟩
/-- the fields of SealedBook$Store -/
def F_S : u_T := fun k => match k with
  | 0 => ("SealedBook$Store", "shelves", "[LSealedBook$Chunk;", true)
  | 1 => ("SealedBook$Store", "size", "I", false)
  | _ => ("SealedBook$Store", "untilFailure", "I", false)
def ty_S : Nat → FieldType := fun k => match k with
  | 0 => .array (.object "SealedBook$Chunk")
  | 1 => .int
  | _ => .int
theorem ok_S : ∀ k, k < 3 → parseFieldDescriptor (F_S k).2.2.1 = some (ty_S k) := by decide +kernel
theorem nm_S : ∀ a, a < 3 → ∀ b, b < 3 → a ≠ b → (F_S a).2.1 ≠ (F_S b).2.1 := by decide +kernel
theorem in_S : ∀ w ∈ u_ws "SealedBook$Store" F_S 3, w ∈ TT := List.forall_mem_cons.mpr ⟨t_49, List.forall_mem_cons.mpr ⟨t_51, List.forall_mem_cons.mpr ⟨t_53, fun _ h => absurd h List.not_mem_nil⟩⟩⟩
/-- the fields of SealedBook$Transaction -/
def F_T : u_T := fun k => match k with
  | 0 => ("SealedBook$Transaction", "has", "[Z", true)
  | _ => ("SealedBook$Transaction", "values", "[I", true)
def ty_T : Nat → FieldType := fun k => match k with
  | 0 => .array .boolean
  | _ => .array .int
theorem ok_T : ∀ k, k < 2 → parseFieldDescriptor (F_T k).2.2.1 = some (ty_T k) := by decide +kernel
theorem nm_T : ∀ a, a < 2 → ∀ b, b < 2 → a ≠ b → (F_T a).2.1 ≠ (F_T b).2.1 := by decide +kernel
theorem in_T : ∀ w ∈ u_ws "SealedBook$Transaction" F_T 2, w ∈ TT := List.forall_mem_cons.mpr ⟨t_83, List.forall_mem_cons.mpr ⟨t_85, fun _ h => absurd h List.not_mem_nil⟩⟩
/-- the fields of SealedBook$Verifier -/
def F_V : u_T := fun k => match k with
  | 0 => ("SealedBook$Verifier", "bytes", "LSealedBook$Bytes;", true)
  | 1 => ("SealedBook$Verifier", "noted", "I", false)
  | 2 => ("SealedBook$Verifier", "position", "I", false)
  | 3 => ("SealedBook$Verifier", "levels", "I", false)
  | 4 => ("SealedBook$Verifier", "root", "I", false)
  | 5 => ("SealedBook$Verifier", "hash", "I", false)
  | 6 => ("SealedBook$Verifier", "lastKey", "I", false)
  | 7 => ("SealedBook$Verifier", "chosenKey", "I", false)
  | 8 => ("SealedBook$Verifier", "chosenValue", "I", false)
  | 9 => ("SealedBook$Verifier", "olderSeal", "I", false)
  | _ => ("SealedBook$Verifier", "wholeSeal", "I", false)
def ty_V : Nat → FieldType := fun k => match k with
  | 0 => .object "SealedBook$Bytes"
  | 1 => .int
  | 2 => .int
  | 3 => .int
  | 4 => .int
  | 5 => .int
  | 6 => .int
  | 7 => .int
  | 8 => .int
  | 9 => .int
  | _ => .int
theorem ok_V : ∀ k, k < 11 → parseFieldDescriptor (F_V k).2.2.1 = some (ty_V k) := by decide +kernel
theorem nm_V : ∀ a, a < 11 → ∀ b, b < 11 → a ≠ b → (F_V a).2.1 ≠ (F_V b).2.1 := by decide +kernel
theorem in_V : ∀ w ∈ u_ws "SealedBook$Verifier" F_V 11, w ∈ TT := List.forall_mem_cons.mpr ⟨t_163, List.forall_mem_cons.mpr ⟨t_165, List.forall_mem_cons.mpr ⟨t_167, List.forall_mem_cons.mpr ⟨t_169, List.forall_mem_cons.mpr ⟨t_171, List.forall_mem_cons.mpr ⟨t_173, List.forall_mem_cons.mpr ⟨t_175, List.forall_mem_cons.mpr ⟨t_177, List.forall_mem_cons.mpr ⟨t_179, List.forall_mem_cons.mpr ⟨t_181, List.forall_mem_cons.mpr ⟨t_183, fun _ h => absurd h List.not_mem_nil⟩⟩⟩⟩⟩⟩⟩⟩⟩⟩⟩
/-- the fields of SealedBook -/
def F_K : u_T := fun k => match k with
  | 0 => ("SealedBook", "store", "LSealedBook$Store;", true)
  | 1 => ("SealedBook", "history", "LSealedBook$History;", true)
  | 2 => ("SealedBook", "transaction", "LSealedBook$Transaction;", true)
  | 3 => ("SealedBook", "row", "LSealedBook$Row;", true)
  | 4 => ("SealedBook", "prover", "LSealedBook$Prover;", true)
  | _ => ("SealedBook", "verifier", "LSealedBook$Verifier;", true)
def ty_K : Nat → FieldType := fun k => match k with
  | 0 => .object "SealedBook$Store"
  | 1 => .object "SealedBook$History"
  | 2 => .object "SealedBook$Transaction"
  | 3 => .object "SealedBook$Row"
  | 4 => .object "SealedBook$Prover"
  | _ => .object "SealedBook$Verifier"
theorem ok_K : ∀ k, k < 6 → parseFieldDescriptor (F_K k).2.2.1 = some (ty_K k) := by decide +kernel
theorem nm_K : ∀ a, a < 6 → ∀ b, b < 6 → a ≠ b → (F_K a).2.1 ≠ (F_K b).2.1 := by decide +kernel
theorem in_K : ∀ w ∈ u_ws "SealedBook" F_K 6, w ∈ TT := List.forall_mem_cons.mpr ⟨t_192, List.forall_mem_cons.mpr ⟨t_194, List.forall_mem_cons.mpr ⟨t_196, List.forall_mem_cons.mpr ⟨t_198, List.forall_mem_cons.mpr ⟨t_200, List.forall_mem_cons.mpr ⟨t_202, fun _ h => absurd h List.not_mem_nil⟩⟩⟩⟩⟩⟩
/-- the fields of SealedBookModel -/
def F_M : u_T := fun k => match k with
  | 0 => ("SealedBookModel", "thrown", "I", false)
  | 1 => ("SealedBookModel", "has", "[Z", true)
  | 2 => ("SealedBookModel", "value", "[I", true)
  | 3 => ("SealedBookModel", "versions", "I", false)
  | 4 => ("SealedBookModel", "roots", "[I", true)
  | 5 => ("SealedBookModel", "failing", "I", false)
  | 6 => ("SealedBookModel", "chunks", "I", false)
  | 7 => ("SealedBookModel", "chunk", "[I", true)
  | 8 => ("SealedBookModel", "maps", "I", false)
  | 9 => ("SealedBookModel", "mapHas", "[J", true)
  | 10 => ("SealedBookModel", "mapValue", "[I", true)
  | 11 => ("SealedBookModel", "levels", "I", false)
  | 12 => ("SealedBookModel", "many", "[I", true)
  | 13 => ("SealedBookModel", "itemKey", "[I", true)
  | 14 => ("SealedBookModel", "itemValue", "[I", true)
  | 15 => ("SealedBookModel", "waiting", "[I", true)
  | 16 => ("SealedBookModel", "leaves", "[I", true)
  | 17 => ("SealedBookModel", "beside", "I", false)
  | 18 => ("SealedBookModel", "besideFrom", "[I", true)
  | 19 => ("SealedBookModel", "besideMany", "[I", true)
  | 20 => ("SealedBookModel", "onLeft", "[Z", true)
  | 21 => ("SealedBookModel", "size", "I", false)
  | 22 => ("SealedBookModel", "proof", "[I", true)
  | 23 => ("SealedBookModel", "taken", "I", false)
  | 24 => ("SealedBookModel", "bytes", "[I", true)
  | 25 => ("SealedBookModel", "at", "I", false)
  | 26 => ("SealedBookModel", "right", "Z", false)
  | 27 => ("SealedBookModel", "ints", "[I", true)
  | 28 => ("SealedBookModel", "shown", "I", false)
  | 29 => ("SealedBookModel", "items", "I", false)
  | 30 => ("SealedBookModel", "readKey", "[I", true)
  | _ => ("SealedBookModel", "readValue", "[I", true)
def ty_M : Nat → FieldType := fun k => match k with
  | 0 => .int
  | 1 => .array .boolean
  | 2 => .array .int
  | 3 => .int
  | 4 => .array .int
  | 5 => .int
  | 6 => .int
  | 7 => .array .int
  | 8 => .int
  | 9 => .array .long
  | 10 => .array .int
  | 11 => .int
  | 12 => .array .int
  | 13 => .array .int
  | 14 => .array .int
  | 15 => .array .int
  | 16 => .array .int
  | 17 => .int
  | 18 => .array .int
  | 19 => .array .int
  | 20 => .array .boolean
  | 21 => .int
  | 22 => .array .int
  | 23 => .int
  | 24 => .array .int
  | 25 => .int
  | 26 => .boolean
  | 27 => .array .int
  | 28 => .int
  | 29 => .int
  | 30 => .array .int
  | _ => .array .int
theorem ok_M : ∀ k, k < 32 → parseFieldDescriptor (F_M k).2.2.1 = some (ty_M k) := by decide +kernel
theorem nm_M : ∀ a, a < 32 → ∀ b, b < 32 → a ≠ b → (F_M a).2.1 ≠ (F_M b).2.1 := by decide +kernel
theorem in_M : ∀ w ∈ u_ws "SealedBookModel" F_M 32, w ∈ TT := List.forall_mem_cons.mpr ⟨t_963, List.forall_mem_cons.mpr ⟨t_965, List.forall_mem_cons.mpr ⟨t_967, List.forall_mem_cons.mpr ⟨t_969, List.forall_mem_cons.mpr ⟨t_971, List.forall_mem_cons.mpr ⟨t_973, List.forall_mem_cons.mpr ⟨t_975, List.forall_mem_cons.mpr ⟨t_977, List.forall_mem_cons.mpr ⟨t_979, List.forall_mem_cons.mpr ⟨t_981, List.forall_mem_cons.mpr ⟨t_983, List.forall_mem_cons.mpr ⟨t_985, List.forall_mem_cons.mpr ⟨t_987, List.forall_mem_cons.mpr ⟨t_989, List.forall_mem_cons.mpr ⟨t_991, List.forall_mem_cons.mpr ⟨t_993, List.forall_mem_cons.mpr ⟨t_995, List.forall_mem_cons.mpr ⟨t_997, List.forall_mem_cons.mpr ⟨t_999, List.forall_mem_cons.mpr ⟨t_1001, List.forall_mem_cons.mpr ⟨t_1003, List.forall_mem_cons.mpr ⟨t_1005, List.forall_mem_cons.mpr ⟨t_1007, List.forall_mem_cons.mpr ⟨t_1009, List.forall_mem_cons.mpr ⟨t_1011, List.forall_mem_cons.mpr ⟨t_1013, List.forall_mem_cons.mpr ⟨t_1015, List.forall_mem_cons.mpr ⟨t_1017, List.forall_mem_cons.mpr ⟨t_1019, List.forall_mem_cons.mpr ⟨t_1021, List.forall_mem_cons.mpr ⟨t_1023, List.forall_mem_cons.mpr ⟨t_1025, fun _ h => absurd h List.not_mem_nil⟩⟩⟩⟩⟩⟩⟩⟩⟩⟩⟩⟩⟩⟩⟩⟩⟩⟩⟩⟩⟩⟩⟩⟩⟩⟩⟩⟩⟩⟩⟩⟩
/-- the classes whose objects the worlds hold -/
abbrev CC : List vw_C := [("SealedBook$Bytes", F_B, 2), ("SealedBook$Chunk", F_C, 6), ("SealedBook$History", F_H, 2), ("SealedBook$Prover", F_P, 1), ("SealedBook$Row", F_R, 4), ("SealedBook$Store", F_S, 3), ("SealedBook$Transaction", F_T, 2), ("SealedBook$Verifier", F_V, 11), ("SealedBook", F_K, 6), ("SealedBookModel", F_M, 32)]
def y_K_init : MethodName := ⟨"SealedBook", "<init>", "()V"⟩
def w_K_init : List Cond := Cond.code y_K_init prog_1_method_1_code 1 none :: TT
def y_S_init : MethodName := ⟨"SealedBook$Store", "<init>", "()V"⟩
def w_S_init : List Cond := Cond.code y_S_init prog_7_method_1_code 1 none :: TT
def y_H_init : MethodName := ⟨"SealedBook$History", "<init>", "()V"⟩
def w_H_init : List Cond := Cond.code y_H_init prog_4_method_1_code 1 none :: TT
def y_T_init : MethodName := ⟨"SealedBook$Transaction", "<init>", "()V"⟩
def w_T_init : List Cond := Cond.code y_T_init prog_8_method_1_code 1 none :: TT
def y_R_init : MethodName := ⟨"SealedBook$Row", "<init>", "()V"⟩
def w_R_init : List Cond := Cond.code y_R_init prog_6_method_1_code 1 none :: TT
def y_P_init : MethodName := ⟨"SealedBook$Prover", "<init>", "()V"⟩
def w_P_init : List Cond := Cond.code y_P_init prog_5_method_1_code 1 none :: TT
def y_B_init : MethodName := ⟨"SealedBook$Bytes", "<init>", "()V"⟩
def w_B_init : List Cond := Cond.code y_B_init prog_2_method_1_code 1 none :: TT
def y_V_init : MethodName := ⟨"SealedBook$Verifier", "<init>", "()V"⟩
def w_V_init : List Cond := Cond.code y_V_init prog_9_method_1_code 1 none :: TT
def y_K_rollback : MethodName := ⟨"SealedBook", "rollback", "()V"⟩
def w_K_rollback : List Cond := Cond.code y_K_rollback prog_1_method_5_code 1 none :: TT
def y_T_load : MethodName := ⟨"SealedBook$Transaction", "load", "(LSealedBook$Chunk;)V"⟩
def w_T_load : List Cond := Cond.code y_T_load prog_8_method_4_code 4 none :: TT
def y_K_bottomFor : MethodName := ⟨"SealedBook", "bottomFor", "(LSealedBook$Chunk;I)LSealedBook$Chunk;"⟩
def w_K_bottomFor : List Cond := Cond.code y_K_bottomFor prog_1_method_31_code 4 (some (.object "SealedBook$Chunk")) :: TT
def y_C_under : MethodName := ⟨"SealedBook$Chunk", "under", "(I)LSealedBook$Chunk;"⟩
def w_C_under : List Cond := Cond.code y_C_under prog_3_method_3_code 2 (some (.object "SealedBook$Chunk")) :: TT
def y_C_placeFor : MethodName := ⟨"SealedBook$Chunk", "placeFor", "(I)I"⟩
def w_C_placeFor : List Cond := Cond.code y_C_placeFor prog_3_method_2_code 3 (some .int) :: TT
def y_K_holds : MethodName := ⟨"SealedBook", "holds", "(LSealedBook$Chunk;I)Z"⟩
def w_K_holds : List Cond := Cond.code y_K_holds prog_1_method_32_code 2 (some .boolean) :: TT
def y_K_valueIn : MethodName := ⟨"SealedBook", "valueIn", "(LSealedBook$Chunk;I)I"⟩
def w_K_valueIn : List Cond := Cond.code y_K_valueIn prog_1_method_33_code 2 (some .int) :: TT
def y_K_fail : MethodName := ⟨"SealedBook", "fail", "(I)Z"⟩
def w_K_fail : List Cond := Cond.code y_K_fail prog_1_method_6_code 2 (some .boolean) :: TT
def y_K_chunks : MethodName := ⟨"SealedBook", "chunks", "()I"⟩
def w_K_chunks : List Cond := Cond.code y_K_chunks prog_1_method_7_code 1 (some .int) :: TT
def y_K_versions : MethodName := ⟨"SealedBook", "versions", "()I"⟩
def w_K_versions : List Cond := Cond.code y_K_versions prog_1_method_8_code 1 (some .int) :: TT
def y_K_proof : MethodName := ⟨"SealedBook", "proof", "(I)I"⟩
def w_K_proof : List Cond := Cond.code y_K_proof prog_1_method_15_code 2 (some .int) :: TT
def y_B_at : MethodName := ⟨"SealedBook$Bytes", "at", "(I)I"⟩
def w_B_at : List Cond := Cond.code y_B_at prog_2_method_3_code 2 (some .int) :: TT
def y_K_take : MethodName := ⟨"SealedBook", "take", "(II)Z"⟩
def w_K_take : List Cond := Cond.code y_K_take prog_1_method_16_code 3 (some .boolean) :: TT
def y_B_append : MethodName := ⟨"SealedBook$Bytes", "append", "(II)V"⟩
def w_B_append : List Cond := Cond.code y_B_append prog_2_method_4_code 4 none :: TT
def y_K_carry : MethodName := ⟨"SealedBook", "carry", "(II)I"⟩
def w_K_carry : List Cond := Cond.code y_K_carry prog_1_method_17_code 3 (some .int) :: TT
def y_B_become : MethodName := ⟨"SealedBook$Bytes", "become", "(LSealedBook$Bytes;)V"⟩
def w_B_become : List Cond := Cond.code y_B_become prog_2_method_7_code 2 none :: TT
def y_B_flip : MethodName := ⟨"SealedBook$Bytes", "flip", "(II)V"⟩
def w_B_flip : List Cond := Cond.code y_B_flip prog_2_method_8_code 3 none :: TT
def y_K_shown : MethodName := ⟨"SealedBook", "shown", "()I"⟩
def w_K_shown : List Cond := Cond.code y_K_shown prog_1_method_19_code 1 (some .int) :: TT
def y_L_put : MethodName := ⟨"SealedBookLaw", "put", "(LSealedBook;II)I"⟩
def w_L_put : List Cond := Cond.codeWith y_L_put method_3_code 4 (some .int) [(0, 6, 9, 13), (0, 6, 12, 15)] :: TT
def y_K_put : MethodName := ⟨"SealedBook", "put", "(II)V"⟩
def w_K_put : List Cond := Cond.code y_K_put prog_1_method_2_code 3 none :: TT
def y_K_requireKey : MethodName := ⟨"SealedBook", "requireKey", "(I)V"⟩
def w_K_requireKey : List Cond := Cond.code y_K_requireKey prog_1_method_23_code 1 none :: TT
def y_K_require : MethodName := ⟨"SealedBook", "require", "(Z)V"⟩
def w_K_require : List Cond := Cond.code y_K_require prog_1_method_24_code 1 none :: TT
def y_K_requireRoom : MethodName := ⟨"SealedBook", "requireRoom", "()V"⟩
def w_K_requireRoom : List Cond := Cond.code y_K_requireRoom prog_1_method_21_code 1 none :: TT
def y_T_set : MethodName := ⟨"SealedBook$Transaction", "set", "(II)V"⟩
def w_T_set : List Cond := Cond.code y_T_set prog_8_method_2_code 3 none :: TT
def y_L_delete : MethodName := ⟨"SealedBookLaw", "delete", "(LSealedBook;I[J)I"⟩
def w_L_delete : List Cond := Cond.codeWith y_L_delete method_4_code 4 (some .int) [(0, 16, 19, 13), (0, 16, 22, 15)] :: TT
def y_K_delete : MethodName := ⟨"SealedBook", "delete", "(I)Z"⟩
def w_K_delete : List Cond := Cond.code y_K_delete prog_1_method_3_code 2 (some .boolean) :: TT
def y_T_unset : MethodName := ⟨"SealedBook$Transaction", "unset", "(I)Z"⟩
def w_T_unset : List Cond := Cond.code y_T_unset prog_8_method_3_code 3 (some .boolean) :: TT
def y_L_commit : MethodName := ⟨"SealedBookLaw", "commit", "(LSealedBook;[J)I"⟩
def w_L_commit : List Cond := Cond.codeWith y_L_commit method_5_code 3 (some .int) [(0, 8, 11, 15)] :: TT
def y_K_commit : MethodName := ⟨"SealedBook", "commit", "()I"⟩
def w_K_commit : List Cond := Cond.code y_K_commit prog_1_method_4_code 1 (some .int) :: TT
def y_T_listInto : MethodName := ⟨"SealedBook$Transaction", "listInto", "(LSealedBook$Row;)V"⟩
def w_T_listInto : List Cond := Cond.code y_T_listInto prog_8_method_5_code 4 none :: TT
def y_R_set : MethodName := ⟨"SealedBook$Row", "set", "(IIILSealedBook$Chunk;)V"⟩
def w_R_set : List Cond := Cond.code y_R_set prog_6_method_2_code 5 none :: TT
def y_S_keepTree : MethodName := ⟨"SealedBook$Store", "keepTree", "(LSealedBook$Row;)Z"⟩
def w_S_keepTree : List Cond := Cond.code y_S_keepTree prog_7_method_2_code 4 (some .boolean) :: TT
def y_S_keepLevel : MethodName := ⟨"SealedBook$Store", "keepLevel", "(LSealedBook$Row;I)Z"⟩
def w_S_keepLevel : List Cond := Cond.code y_S_keepLevel prog_7_method_3_code 8 (some .boolean) :: TT
def y_K_endsChunk : MethodName := ⟨"SealedBook", "endsChunk", "(II)Z"⟩
def w_K_endsChunk : List Cond := Cond.code y_K_endsChunk prog_1_method_30_code 2 (some .boolean) :: TT
def y_K_mix : MethodName := ⟨"SealedBook", "mix", "(II)I"⟩
def w_K_mix : List Cond := Cond.code y_K_mix prog_1_method_26_code 3 (some .int) :: TT
def y_S_keep : MethodName := ⟨"SealedBook$Store", "keep", "(LSealedBook$Row;III)LSealedBook$Chunk;"⟩
def w_S_keep : List Cond := Cond.code y_S_keep prog_7_method_4_code 8 (some (.object "SealedBook$Chunk")) :: TT
def y_R_hashOf : MethodName := ⟨"SealedBook$Row", "hashOf", "(III)I"⟩
def w_R_hashOf : List Cond := Cond.code y_R_hashOf prog_6_method_4_code 6 (some .int) :: TT
def y_R_matches : MethodName := ⟨"SealedBook$Row", "matches", "(LSealedBook$Chunk;II)Z"⟩
def w_R_matches : List Cond := Cond.code y_R_matches prog_6_method_5_code 6 (some .boolean) :: TT
def y_S_write : MethodName := ⟨"SealedBook$Store", "write", "()Z"⟩
def w_S_write : List Cond := Cond.code y_S_write prog_7_method_5_code 1 (some .boolean) :: TT
def y_C_init : MethodName := ⟨"SealedBook$Chunk", "<init>", "(LSealedBook$Row;IIIILSealedBook$Chunk;)V"⟩
def w_C_init : List Cond := Cond.code y_C_init prog_3_method_1_code 8 none :: TT
def y_A_copyOfRange : MethodName := ⟨"java/util/Arrays", "copyOfRange", "([III)[I"⟩
def w_A_copyOfRange : List Cond := Cond.code y_A_copyOfRange prog_26_method_136_code 3 (some (.array .int)) :: TT
def y_R_top : MethodName := ⟨"SealedBook$Row", "top", "()LSealedBook$Chunk;"⟩
def w_R_top : List Cond := Cond.code y_R_top prog_6_method_3_code 1 (some (.object "SealedBook$Chunk")) :: TT
def y_H_add : MethodName := ⟨"SealedBook$History", "add", "(LSealedBook$Chunk;)V"⟩
def w_H_add : List Cond := Cond.code y_H_add prog_4_method_2_code 2 none :: TT
def y_L_get : MethodName := ⟨"SealedBookLaw", "get", "(LSealedBook;II[J)I"⟩
def w_L_get : List Cond := Cond.codeWith y_L_get method_6_code 5 (some .int) [(0, 10, 13, 13), (0, 10, 17, 29)] :: TT
def y_K_get : MethodName := ⟨"SealedBook", "get", "(II)I"⟩
def w_K_get : List Cond := Cond.code y_K_get prog_1_method_9_code 4 (some .int) :: TT
def y_K_requireVersion : MethodName := ⟨"SealedBook", "requireVersion", "(I)V"⟩
def w_K_requireVersion : List Cond := Cond.code y_K_requireVersion prog_1_method_22_code 2 none :: TT
def y_K_requireValue : MethodName := ⟨"SealedBook", "requireValue", "(Z)V"⟩
def w_K_requireValue : List Cond := Cond.code y_K_requireValue prog_1_method_25_code 1 none :: TT
def y_L_range : MethodName := ⟨"SealedBookLaw", "range", "(LSealedBook;III[J)I"⟩
def w_L_range : List Cond := Cond.codeWith y_L_range method_7_code 6 (some .int) [(0, 12, 15, 13)] :: TT
def y_K_range : MethodName := ⟨"SealedBook", "range", "(III)I"⟩
def w_K_range : List Cond := Cond.code y_K_range prog_1_method_10_code 7 (some .int) :: TT
def y_L_root : MethodName := ⟨"SealedBookLaw", "root", "(LSealedBook;I[J)I"⟩
def w_L_root : List Cond := Cond.codeWith y_L_root method_8_code 4 (some .int) [(0, 9, 12, 13)] :: TT
def y_K_root : MethodName := ⟨"SealedBook", "root", "(I)I"⟩
def w_K_root : List Cond := Cond.code y_K_root prog_1_method_11_code 2 (some .int) :: TT
def y_H_rootOf : MethodName := ⟨"SealedBook$History", "rootOf", "(I)I"⟩
def w_H_rootOf : List Cond := Cond.code y_H_rootOf prog_4_method_3_code 2 (some .int) :: TT
def y_L_digest : MethodName := ⟨"SealedBookLaw", "digest", "(LSealedBook;I[J)I"⟩
def w_L_digest : List Cond := Cond.codeWith y_L_digest method_9_code 4 (some .int) [(0, 9, 12, 13)] :: TT
def y_K_digest : MethodName := ⟨"SealedBook", "digest", "(I)I"⟩
def w_K_digest : List Cond := Cond.code y_K_digest prog_1_method_12_code 2 (some .int) :: TT
def y_H_seal : MethodName := ⟨"SealedBook$History", "seal", "(II)I"⟩
def w_H_seal : List Cond := Cond.code y_H_seal prog_4_method_4_code 4 (some .int) :: TT
def y_K_leafOf : MethodName := ⟨"SealedBook", "leafOf", "(II)I"⟩
def w_K_leafOf : List Cond := Cond.code y_K_leafOf prog_1_method_27_code 2 (some .int) :: TT
def y_K_half : MethodName := ⟨"SealedBook", "half", "(I)I"⟩
def w_K_half : List Cond := Cond.code y_K_half prog_1_method_29_code 2 (some .int) :: TT
def y_K_join : MethodName := ⟨"SealedBook", "join", "(II)I"⟩
def w_K_join : List Cond := Cond.code y_K_join prog_1_method_28_code 2 (some .int) :: TT
def y_L_prove : MethodName := ⟨"SealedBookLaw", "prove", "(LSealedBook;III[J)I"⟩
def w_L_prove : List Cond := Cond.codeWith y_L_prove method_10_code 6 (some .int) [(0, 12, 15, 13)] :: TT
def y_K_prove : MethodName := ⟨"SealedBook", "prove", "(III)I"⟩
def w_K_prove : List Cond := Cond.code y_K_prove prog_1_method_13_code 4 (some .int) :: TT
def y_P_makeProof : MethodName := ⟨"SealedBook$Prover", "makeProof", "(LSealedBook$History;III)V"⟩
def w_P_makeProof : List Cond := Cond.code y_P_makeProof prog_5_method_2_code 7 none :: TT
def y_B_clear : MethodName := ⟨"SealedBook$Bytes", "clear", "()V"⟩
def w_B_clear : List Cond := Cond.code y_B_clear prog_2_method_2_code 1 none :: TT
def y_B_appendByte : MethodName := ⟨"SealedBook$Bytes", "appendByte", "(I)V"⟩
def w_B_appendByte : List Cond := Cond.code y_B_appendByte prog_2_method_5_code 2 none :: TT
def y_P_addWay : MethodName := ⟨"SealedBook$Prover", "addWay", "(LSealedBook$History;III)V"⟩
def w_P_addWay : List Cond := Cond.code y_P_addWay prog_5_method_4_code 7 none :: TT
def y_B_appendInt : MethodName := ⟨"SealedBook$Bytes", "appendInt", "(I)V"⟩
def w_B_appendInt : List Cond := Cond.code y_B_appendInt prog_2_method_6_code 2 none :: TT
def y_B_countInts : MethodName := ⟨"SealedBook$Bytes", "countInts", "()V"⟩
def w_B_countInts : List Cond := Cond.code y_B_countInts prog_2_method_9_code 1 none :: TT
def y_P_addChunk : MethodName := ⟨"SealedBook$Prover", "addChunk", "(LSealedBook$Chunk;)V"⟩
def w_P_addChunk : List Cond := Cond.code y_P_addChunk prog_5_method_5_code 3 none :: TT
def y_L_proveGrowth : MethodName := ⟨"SealedBookLaw", "proveGrowth", "(LSealedBook;II[J)I"⟩
def w_L_proveGrowth : List Cond := Cond.codeWith y_L_proveGrowth method_11_code 5 (some .int) [(0, 10, 13, 13)] :: TT
def y_K_proveGrowth : MethodName := ⟨"SealedBook", "proveGrowth", "(II)I"⟩
def w_K_proveGrowth : List Cond := Cond.code y_K_proveGrowth prog_1_method_14_code 3 (some .int) :: TT
def y_P_makeGrowth : MethodName := ⟨"SealedBook$Prover", "makeGrowth", "(LSealedBook$History;II)V"⟩
def w_P_makeGrowth : List Cond := Cond.code y_P_makeGrowth prog_5_method_3_code 4 none :: TT
def y_P_addPart : MethodName := ⟨"SealedBook$Prover", "addPart", "(LSealedBook$History;III)V"⟩
def w_P_addPart : List Cond := Cond.code y_P_addPart prog_5_method_6_code 7 none :: TT
def y_L_verify : MethodName := ⟨"SealedBookLaw", "verify", "(LSealedBook;IIII[J)I"⟩
def w_L_verify : List Cond := Cond.codeWith y_L_verify method_12_code 7 (some .int) [(0, 14, 17, 13)] :: TT
def y_K_verify : MethodName := ⟨"SealedBook", "verify", "(IIII)I"⟩
def w_K_verify : List Cond := Cond.code y_K_verify prog_1_method_18_code 6 (some .int) :: TT
def y_V_takesProof : MethodName := ⟨"SealedBook$Verifier", "takesProof", "(IIII)Z"⟩
def w_V_takesProof : List Cond := Cond.code y_V_takesProof prog_9_method_2_code 7 (some .boolean) :: TT
def y_V_nextByte : MethodName := ⟨"SealedBook$Verifier", "nextByte", "()I"⟩
def w_V_nextByte : List Cond := Cond.code y_V_nextByte prog_9_method_5_code 2 (some .int) :: TT
def y_V_readTree : MethodName := ⟨"SealedBook$Verifier", "readTree", "(I)Z"⟩
def w_V_readTree : List Cond := Cond.code y_V_readTree prog_9_method_7_code 5 (some .boolean) :: TT
def y_V_readChunk : MethodName := ⟨"SealedBook$Verifier", "readChunk", "(II)Z"⟩
def w_V_readChunk : List Cond := Cond.code y_V_readChunk prog_9_method_8_code 7 (some .boolean) :: TT
def y_V_nextInt : MethodName := ⟨"SealedBook$Verifier", "nextInt", "()I"⟩
def w_V_nextInt : List Cond := Cond.code y_V_nextInt prog_9_method_6_code 3 (some .int) :: TT
def y_V_climb : MethodName := ⟨"SealedBook$Verifier", "climb", "(III)I"⟩
def w_V_climb : List Cond := Cond.code y_V_climb prog_9_method_9_code 6 (some .int) :: TT
def y_V_noteValue : MethodName := ⟨"SealedBook$Verifier", "noteValue", "(I)Z"⟩
def w_V_noteValue : List Cond := Cond.code y_V_noteValue prog_9_method_3_code 2 (some .boolean) :: TT
def y_L_verifyGrowth : MethodName := ⟨"SealedBookLaw", "verifyGrowth", "(LSealedBook;IIII[J)I"⟩
def w_L_verifyGrowth : List Cond := Cond.codeWith y_L_verifyGrowth method_13_code 7 (some .int) [(0, 21, 24, 13)] :: TT
def y_K_verifyGrowth : MethodName := ⟨"SealedBook", "verifyGrowth", "(IIII)Z"⟩
def w_K_verifyGrowth : List Cond := Cond.code y_K_verifyGrowth prog_1_method_20_code 6 (some .boolean) :: TT
def y_V_takesGrowth : MethodName := ⟨"SealedBook$Verifier", "takesGrowth", "(IIII)Z"⟩
def w_V_takesGrowth : List Cond := Cond.code y_V_takesGrowth prog_9_method_4_code 6 (some .boolean) :: TT
def y_V_readPart : MethodName := ⟨"SealedBook$Verifier", "readPart", "(IIII)V"⟩
def w_V_readPart : List Cond := Cond.code y_V_readPart prog_9_method_10_code 7 none :: TT
def y_M_init : MethodName := ⟨"SealedBookModel", "<init>", "()V"⟩
def w_M_init : List Cond := Cond.code y_M_init prog_11_method_1_code 1 none :: TT
def y_M_thrown : MethodName := ⟨"SealedBookModel", "thrown", "()I"⟩
def w_M_thrown : List Cond := Cond.code y_M_thrown prog_11_method_2_code 1 (some .int) :: TT
def y_M_put : MethodName := ⟨"SealedBookModel", "put", "(II)V"⟩
def w_M_put : List Cond := Cond.code y_M_put prog_11_method_12_code 3 none :: TT
def y_M_keyed : MethodName := ⟨"SealedBookModel", "keyed", "(I)I"⟩
def w_M_keyed : List Cond := Cond.code y_M_keyed prog_11_method_11_code 2 (some .int) :: TT
def y_M_outside : MethodName := ⟨"SealedBookModel", "outside", "(III)Z"⟩
def w_M_outside : List Cond := Cond.code y_M_outside prog_11_method_4_code 3 (some .boolean) :: TT
def y_M_delete : MethodName := ⟨"SealedBookModel", "delete", "(I)Z"⟩
def w_M_delete : List Cond := Cond.code y_M_delete prog_11_method_13_code 3 (some .boolean) :: TT
def y_M_rollback : MethodName := ⟨"SealedBookModel", "rollback", "()V"⟩
def w_M_rollback : List Cond := Cond.code y_M_rollback prog_11_method_15_code 1 none :: TT
def y_M_copy : MethodName := ⟨"SealedBookModel", "copy", "(II)V"⟩
def w_M_copy : List Cond := Cond.code y_M_copy prog_11_method_14_code 4 none :: TT
def y_M_commit : MethodName := ⟨"SealedBookModel", "commit", "()I"⟩
def w_M_commit : List Cond := Cond.code y_M_commit prog_11_method_21_code 4 (some .int) :: TT
def y_M_refuse : MethodName := ⟨"SealedBookModel", "refuse", "(I)I"⟩
def w_M_refuse : List Cond := Cond.code y_M_refuse prog_11_method_3_code 2 (some .int) :: TT
def y_M_raise : MethodName := ⟨"SealedBookModel", "raise", "(I)I"⟩
def w_M_raise : List Cond := Cond.code y_M_raise prog_11_method_10_code 5 (some .int) :: TT
def y_M_item : MethodName := ⟨"SealedBookModel", "item", "(III)V"⟩
def w_M_item : List Cond := Cond.code y_M_item prog_11_method_7_code 4 none :: TT
def y_M_chunkEnd : MethodName := ⟨"SealedBookModel", "chunkEnd", "(II)I"⟩
def w_M_chunkEnd : List Cond := Cond.code y_M_chunkEnd prog_11_method_8_code 4 (some .int) :: TT
def y_M_ends : MethodName := ⟨"SealedBookModel", "ends", "(II)Z"⟩
def w_M_ends : List Cond := Cond.code y_M_ends prog_11_method_6_code 2 (some .boolean) :: TT
def y_M_mix : MethodName := ⟨"SealedBookModel", "mix", "(II)I"⟩
def w_M_mix : List Cond := Cond.code y_M_mix prog_11_method_5_code 3 (some .int) :: TT
def y_M_hashOf : MethodName := ⟨"SealedBookModel", "hashOf", "(III)I"⟩
def w_M_hashOf : List Cond := Cond.code y_M_hashOf prog_11_method_9_code 6 (some .int) :: TT
def y_M_keepMap : MethodName := ⟨"SealedBookModel", "keepMap", "()V"⟩
def w_M_keepMap : List Cond := Cond.code y_M_keepMap prog_11_method_19_code 2 none :: TT
def y_M_written : MethodName := ⟨"SealedBookModel", "written", "()Z"⟩
def w_M_written : List Cond := Cond.code y_M_written prog_11_method_20_code 6 (some .boolean) :: TT
def y_M_stored : MethodName := ⟨"SealedBookModel", "stored", "(III)Z"⟩
def w_M_stored : List Cond := Cond.code y_M_stored prog_11_method_16_code 11 (some .boolean) :: TT
def y_M_writes : MethodName := ⟨"SealedBookModel", "writes", "()Z"⟩
def w_M_writes : List Cond := Cond.code y_M_writes prog_11_method_17_code 2 (some .boolean) :: TT
def y_M_store : MethodName := ⟨"SealedBookModel", "store", "(III)V"⟩
def w_M_store : List Cond := Cond.code y_M_store prog_11_method_18_code 4 none :: TT
def y_M_fail : MethodName := ⟨"SealedBookModel", "fail", "(I)Z"⟩
def w_M_fail : List Cond := Cond.code y_M_fail prog_11_method_22_code 2 (some .boolean) :: TT
def y_M_chunks : MethodName := ⟨"SealedBookModel", "chunks", "()I"⟩
def w_M_chunks : List Cond := Cond.code y_M_chunks prog_11_method_23_code 1 (some .int) :: TT
def y_M_versions : MethodName := ⟨"SealedBookModel", "versions", "()I"⟩
def w_M_versions : List Cond := Cond.code y_M_versions prog_11_method_24_code 1 (some .int) :: TT
def y_M_get : MethodName := ⟨"SealedBookModel", "get", "(II)I"⟩
def w_M_get : List Cond := Cond.code y_M_get prog_11_method_26_code 4 (some .int) :: TT
def y_M_isVersion : MethodName := ⟨"SealedBookModel", "isVersion", "(I)Z"⟩
def w_M_isVersion : List Cond := Cond.code y_M_isVersion prog_11_method_25_code 2 (some .boolean) :: TT
def y_M_range : MethodName := ⟨"SealedBookModel", "range", "(III)I"⟩
def w_M_range : List Cond := Cond.code y_M_range prog_11_method_27_code 6 (some .int) :: TT
def y_M_root : MethodName := ⟨"SealedBookModel", "root", "(I)I"⟩
def w_M_root : List Cond := Cond.code y_M_root prog_11_method_28_code 2 (some .int) :: TT
def y_M_digest : MethodName := ⟨"SealedBookModel", "digest", "(I)I"⟩
def w_M_digest : List Cond := Cond.code y_M_digest prog_11_method_32_code 2 (some .int) :: TT
def y_M_seal : MethodName := ⟨"SealedBookModel", "seal", "(II)I"⟩
def w_M_seal : List Cond := Cond.code y_M_seal prog_11_method_31_code 5 (some .int) :: TT
def y_M_leafOf : MethodName := ⟨"SealedBookModel", "leafOf", "(II)I"⟩
def w_M_leafOf : List Cond := Cond.code y_M_leafOf prog_11_method_29_code 2 (some .int) :: TT
def y_M_join : MethodName := ⟨"SealedBookModel", "join", "(II)I"⟩
def w_M_join : List Cond := Cond.code y_M_join prog_11_method_30_code 2 (some .int) :: TT
def y_M_prove : MethodName := ⟨"SealedBookModel", "prove", "(III)I"⟩
def w_M_prove : List Cond := Cond.code y_M_prove prog_11_method_43_code 7 (some .int) :: TT
def y_M_way : MethodName := ⟨"SealedBookModel", "way", "(II)V"⟩
def w_M_way : List Cond := Cond.code y_M_way prog_11_method_35_code 6 none :: TT
def y_M_half : MethodName := ⟨"SealedBookModel", "half", "(I)I"⟩
def w_M_half : List Cond := Cond.code y_M_half prog_11_method_33_code 2 (some .int) :: TT
def y_M_side : MethodName := ⟨"SealedBookModel", "side", "(IIZ)V"⟩
def w_M_side : List Cond := Cond.code y_M_side prog_11_method_34_code 4 none :: TT
def y_M_outBeside : MethodName := ⟨"SealedBookModel", "outBeside", "()V"⟩
def w_M_outBeside : List Cond := Cond.code y_M_outBeside prog_11_method_39_code 2 none :: TT
def y_M_out : MethodName := ⟨"SealedBookModel", "out", "(I)V"⟩
def w_M_out : List Cond := Cond.code y_M_out prog_11_method_37_code 2 none :: TT
def y_M_outInt : MethodName := ⟨"SealedBookModel", "outInt", "(I)V"⟩
def w_M_outInt : List Cond := Cond.code y_M_outInt prog_11_method_38_code 3 none :: TT
def y_M_choose : MethodName := ⟨"SealedBookModel", "choose", "([IIII)I"⟩
def w_M_choose : List Cond := Cond.code y_M_choose prog_11_method_40_code 5 (some .int) :: TT
def y_M_chunkOf : MethodName := ⟨"SealedBookModel", "chunkOf", "(II)I"⟩
def w_M_chunkOf : List Cond := Cond.code y_M_chunkOf prog_11_method_41_code 4 (some .int) :: TT
def y_M_outChunk : MethodName := ⟨"SealedBookModel", "outChunk", "(III)V"⟩
def w_M_outChunk : List Cond := Cond.code y_M_outChunk prog_11_method_42_code 5 none :: TT
def y_M_proveGrowth : MethodName := ⟨"SealedBookModel", "proveGrowth", "(II)I"⟩
def w_M_proveGrowth : List Cond := Cond.code y_M_proveGrowth prog_11_method_44_code 3 (some .int) :: TT
def y_M_growth : MethodName := ⟨"SealedBookModel", "growth", "(II)Z"⟩
def w_M_growth : List Cond := Cond.code y_M_growth prog_11_method_36_code 7 (some .boolean) :: TT
def y_M_proof : MethodName := ⟨"SealedBookModel", "proof", "(I)I"⟩
def w_M_proof : List Cond := Cond.code y_M_proof prog_11_method_45_code 2 (some .int) :: TT
def y_M_take : MethodName := ⟨"SealedBookModel", "take", "(II)Z"⟩
def w_M_take : List Cond := Cond.code y_M_take prog_11_method_46_code 4 (some .boolean) :: TT
def y_M_carry : MethodName := ⟨"SealedBookModel", "carry", "(II)I"⟩
def w_M_carry : List Cond := Cond.code y_M_carry prog_11_method_47_code 4 (some .int) :: TT
def y_M_verify : MethodName := ⟨"SealedBookModel", "verify", "(IIII)I"⟩
def w_M_verify : List Cond := Cond.code y_M_verify prog_11_method_54_code 8 (some .int) :: TT
def y_M_inBeside : MethodName := ⟨"SealedBookModel", "inBeside", "()V"⟩
def w_M_inBeside : List Cond := Cond.code y_M_inBeside prog_11_method_50_code 3 none :: TT
def y_M_in : MethodName := ⟨"SealedBookModel", "in", "(II)I"⟩
def w_M_in : List Cond := Cond.code y_M_in prog_11_method_48_code 4 (some .int) :: TT
def y_M_inInt : MethodName := ⟨"SealedBookModel", "inInt", "()I"⟩
def w_M_inInt : List Cond := Cond.code y_M_inInt prog_11_method_49_code 3 (some .int) :: TT
def y_M_inLevels : MethodName := ⟨"SealedBookModel", "inLevels", "(I)I"⟩
def w_M_inLevels : List Cond := Cond.code y_M_inLevels prog_11_method_52_code 9 (some .int) :: TT
def y_M_inChunk : MethodName := ⟨"SealedBookModel", "inChunk", "(I)I"⟩
def w_M_inChunk : List Cond := Cond.code y_M_inChunk prog_11_method_51_code 5 (some .int) :: TT
def y_M_lead : MethodName := ⟨"SealedBookModel", "lead", "(II)I"⟩
def w_M_lead : List Cond := Cond.code y_M_lead prog_11_method_53_code 5 (some .int) :: TT
def y_M_shown : MethodName := ⟨"SealedBookModel", "shown", "()I"⟩
def w_M_shown : List Cond := Cond.code y_M_shown prog_11_method_55_code 1 (some .int) :: TT
def y_M_verifyGrowth : MethodName := ⟨"SealedBookModel", "verifyGrowth", "(IIII)Z"⟩
def w_M_verifyGrowth : List Cond := Cond.code y_M_verifyGrowth prog_11_method_56_code 12 (some .boolean) :: TT
