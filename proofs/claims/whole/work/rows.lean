section
-- ===== PART A: goes FIRST, ahead of the names: the tables' words, and 'selects' of the private methods out of them =====
/-- a private method of a class that the tables say can be made, by its rows of tables_1 -/
def lw_okq (q : MethodName × Nat) : Prop := (q.1.cls ≠ "java/lang/invoke/MethodHandle" ∧ q.1.cls ≠ "java/lang/invoke/VarHandle") ∧ Cond.instantiable q.1.cls q.2 ∈ tables_1 ∧ Cond.privateMethod q.1 ∈ tables_1 ∧ Cond.instanceMethod q.1 ∈ tables_1
theorem lw_p0 : lw_okq (⟨"java/lang/Throwable", "fillInStackTrace", "(I)Ljava/lang/Throwable;"⟩, 6) := ⟨⟨by decide +kernel, by decide +kernel⟩, List.mem_of_getElem? (i := 332) (by decide +kernel), List.mem_of_getElem? (i := 330) (by decide +kernel), List.mem_of_getElem? (i := 331) (by decide +kernel)⟩
theorem lw_p1 : lw_okq (⟨"SealedBook", "requireRoom", "()V"⟩, 6) := ⟨⟨by decide +kernel, by decide +kernel⟩, List.mem_of_getElem? (i := 29) (by decide +kernel), List.mem_of_getElem? (i := 362) (by decide +kernel), List.mem_of_getElem? (i := 363) (by decide +kernel)⟩
theorem lw_p2 : lw_okq (⟨"SealedBook$Store", "keepLevel", "(LSealedBook$Row;I)Z"⟩, 3) := ⟨⟨by decide +kernel, by decide +kernel⟩, List.mem_of_getElem? (i := 37) (by decide +kernel), List.mem_of_getElem? (i := 416) (by decide +kernel), List.mem_of_getElem? (i := 417) (by decide +kernel)⟩
theorem lw_p3 : lw_okq (⟨"SealedBook$Store", "keep", "(LSealedBook$Row;III)LSealedBook$Chunk;"⟩, 3) := ⟨⟨by decide +kernel, by decide +kernel⟩, List.mem_of_getElem? (i := 37) (by decide +kernel), List.mem_of_getElem? (i := 427) (by decide +kernel), List.mem_of_getElem? (i := 428) (by decide +kernel)⟩
theorem lw_p4 : lw_okq (⟨"SealedBook", "requireVersion", "(I)V"⟩, 6) := ⟨⟨by decide +kernel, by decide +kernel⟩, List.mem_of_getElem? (i := 29) (by decide +kernel), List.mem_of_getElem? (i := 748) (by decide +kernel), List.mem_of_getElem? (i := 749) (by decide +kernel)⟩
theorem lw_p5 : lw_okq (⟨"SealedBook$History", "seal", "(II)I"⟩, 2) := ⟨⟨by decide +kernel, by decide +kernel⟩, List.mem_of_getElem? (i := 57) (by decide +kernel), List.mem_of_getElem? (i := 801) (by decide +kernel), List.mem_of_getElem? (i := 802) (by decide +kernel)⟩
theorem lw_p6 : lw_okq (⟨"SealedBook$Prover", "addWay", "(LSealedBook$History;III)V"⟩, 1) := ⟨⟨by decide +kernel, by decide +kernel⟩, List.mem_of_getElem? (i := 117) (by decide +kernel), List.mem_of_getElem? (i := 836) (by decide +kernel), List.mem_of_getElem? (i := 837) (by decide +kernel)⟩
theorem lw_p7 : lw_okq (⟨"SealedBook$Prover", "addChunk", "(LSealedBook$Chunk;)V"⟩, 1) := ⟨⟨by decide +kernel, by decide +kernel⟩, List.mem_of_getElem? (i := 117) (by decide +kernel), List.mem_of_getElem? (i := 850) (by decide +kernel), List.mem_of_getElem? (i := 851) (by decide +kernel)⟩
theorem lw_p8 : lw_okq (⟨"SealedBook$Prover", "addPart", "(LSealedBook$History;III)V"⟩, 1) := ⟨⟨by decide +kernel, by decide +kernel⟩, List.mem_of_getElem? (i := 117) (by decide +kernel), List.mem_of_getElem? (i := 866) (by decide +kernel), List.mem_of_getElem? (i := 867) (by decide +kernel)⟩
theorem lw_p9 : lw_okq (⟨"SealedBook$Verifier", "nextByte", "()I"⟩, 11) := ⟨⟨by decide +kernel, by decide +kernel⟩, List.mem_of_getElem? (i := 143) (by decide +kernel), List.mem_of_getElem? (i := 881) (by decide +kernel), List.mem_of_getElem? (i := 882) (by decide +kernel)⟩
theorem lw_p10 : lw_okq (⟨"SealedBook$Verifier", "readTree", "(I)Z"⟩, 11) := ⟨⟨by decide +kernel, by decide +kernel⟩, List.mem_of_getElem? (i := 143) (by decide +kernel), List.mem_of_getElem? (i := 886) (by decide +kernel), List.mem_of_getElem? (i := 887) (by decide +kernel)⟩
theorem lw_p11 : lw_okq (⟨"SealedBook$Verifier", "readChunk", "(II)Z"⟩, 11) := ⟨⟨by decide +kernel, by decide +kernel⟩, List.mem_of_getElem? (i := 143) (by decide +kernel), List.mem_of_getElem? (i := 890) (by decide +kernel), List.mem_of_getElem? (i := 891) (by decide +kernel)⟩
theorem lw_p12 : lw_okq (⟨"SealedBook$Verifier", "nextInt", "()I"⟩, 11) := ⟨⟨by decide +kernel, by decide +kernel⟩, List.mem_of_getElem? (i := 143) (by decide +kernel), List.mem_of_getElem? (i := 895) (by decide +kernel), List.mem_of_getElem? (i := 896) (by decide +kernel)⟩
theorem lw_p13 : lw_okq (⟨"SealedBook$Verifier", "climb", "(III)I"⟩, 11) := ⟨⟨by decide +kernel, by decide +kernel⟩, List.mem_of_getElem? (i := 143) (by decide +kernel), List.mem_of_getElem? (i := 900) (by decide +kernel), List.mem_of_getElem? (i := 901) (by decide +kernel)⟩
theorem lw_p14 : lw_okq (⟨"SealedBook$Verifier", "readPart", "(IIII)V"⟩, 11) := ⟨⟨by decide +kernel, by decide +kernel⟩, List.mem_of_getElem? (i := 143) (by decide +kernel), List.mem_of_getElem? (i := 922) (by decide +kernel), List.mem_of_getElem? (i := 923) (by decide +kernel)⟩
theorem lw_p15 : lw_okq (⟨"SealedBookModel", "keyed", "(I)I"⟩, 32) := ⟨⟨by decide +kernel, by decide +kernel⟩, List.mem_of_getElem? (i := 926) (by decide +kernel), List.mem_of_getElem? (i := 1038) (by decide +kernel), List.mem_of_getElem? (i := 1039) (by decide +kernel)⟩
def lw_privs_1 : List (MethodName × Nat) := [(⟨"java/lang/Throwable", "fillInStackTrace", "(I)Ljava/lang/Throwable;"⟩, 6), (⟨"SealedBook", "requireRoom", "()V"⟩, 6), (⟨"SealedBook$Store", "keepLevel", "(LSealedBook$Row;I)Z"⟩, 3), (⟨"SealedBook$Store", "keep", "(LSealedBook$Row;III)LSealedBook$Chunk;"⟩, 3), (⟨"SealedBook", "requireVersion", "(I)V"⟩, 6), (⟨"SealedBook$History", "seal", "(II)I"⟩, 2), (⟨"SealedBook$Prover", "addWay", "(LSealedBook$History;III)V"⟩, 1), (⟨"SealedBook$Prover", "addChunk", "(LSealedBook$Chunk;)V"⟩, 1), (⟨"SealedBook$Prover", "addPart", "(LSealedBook$History;III)V"⟩, 1), (⟨"SealedBook$Verifier", "nextByte", "()I"⟩, 11), (⟨"SealedBook$Verifier", "readTree", "(I)Z"⟩, 11), (⟨"SealedBook$Verifier", "readChunk", "(II)Z"⟩, 11), (⟨"SealedBook$Verifier", "nextInt", "()I"⟩, 11), (⟨"SealedBook$Verifier", "climb", "(III)I"⟩, 11), (⟨"SealedBook$Verifier", "readPart", "(IIII)V"⟩, 11), (⟨"SealedBookModel", "keyed", "(I)I"⟩, 32)]
theorem lw_r1 : ∀ q ∈ lw_privs_1, lw_okq q := List.forall_mem_cons.mpr ⟨lw_p0, List.forall_mem_cons.mpr ⟨lw_p1, List.forall_mem_cons.mpr ⟨lw_p2, List.forall_mem_cons.mpr ⟨lw_p3, List.forall_mem_cons.mpr ⟨lw_p4, List.forall_mem_cons.mpr ⟨lw_p5, List.forall_mem_cons.mpr ⟨lw_p6, List.forall_mem_cons.mpr ⟨lw_p7, List.forall_mem_cons.mpr ⟨lw_p8, List.forall_mem_cons.mpr ⟨lw_p9, List.forall_mem_cons.mpr ⟨lw_p10, List.forall_mem_cons.mpr ⟨lw_p11, List.forall_mem_cons.mpr ⟨lw_p12, List.forall_mem_cons.mpr ⟨lw_p13, List.forall_mem_cons.mpr ⟨lw_p14, List.forall_mem_cons.mpr ⟨lw_p15, fun _ h => absurd h List.not_mem_nil⟩⟩⟩⟩⟩⟩⟩⟩⟩⟩⟩⟩⟩⟩⟩⟩
theorem lw_p16 : lw_okq (⟨"SealedBookModel", "copy", "(II)V"⟩, 32) := ⟨⟨by decide +kernel, by decide +kernel⟩, List.mem_of_getElem? (i := 926) (by decide +kernel), List.mem_of_getElem? (i := 1053) (by decide +kernel), List.mem_of_getElem? (i := 1054) (by decide +kernel)⟩
theorem lw_p17 : lw_okq (⟨"SealedBookModel", "refuse", "(I)I"⟩, 32) := ⟨⟨by decide +kernel, by decide +kernel⟩, List.mem_of_getElem? (i := 926) (by decide +kernel), List.mem_of_getElem? (i := 1061) (by decide +kernel), List.mem_of_getElem? (i := 1062) (by decide +kernel)⟩
theorem lw_p18 : lw_okq (⟨"SealedBookModel", "raise", "(I)I"⟩, 32) := ⟨⟨by decide +kernel, by decide +kernel⟩, List.mem_of_getElem? (i := 926) (by decide +kernel), List.mem_of_getElem? (i := 1065) (by decide +kernel), List.mem_of_getElem? (i := 1066) (by decide +kernel)⟩
theorem lw_p19 : lw_okq (⟨"SealedBookModel", "item", "(III)V"⟩, 32) := ⟨⟨by decide +kernel, by decide +kernel⟩, List.mem_of_getElem? (i := 926) (by decide +kernel), List.mem_of_getElem? (i := 1069) (by decide +kernel), List.mem_of_getElem? (i := 1070) (by decide +kernel)⟩
theorem lw_p20 : lw_okq (⟨"SealedBookModel", "chunkEnd", "(II)I"⟩, 32) := ⟨⟨by decide +kernel, by decide +kernel⟩, List.mem_of_getElem? (i := 926) (by decide +kernel), List.mem_of_getElem? (i := 1073) (by decide +kernel), List.mem_of_getElem? (i := 1074) (by decide +kernel)⟩
theorem lw_p21 : lw_okq (⟨"SealedBookModel", "hashOf", "(III)I"⟩, 32) := ⟨⟨by decide +kernel, by decide +kernel⟩, List.mem_of_getElem? (i := 926) (by decide +kernel), List.mem_of_getElem? (i := 1084) (by decide +kernel), List.mem_of_getElem? (i := 1085) (by decide +kernel)⟩
theorem lw_p22 : lw_okq (⟨"SealedBookModel", "keepMap", "()V"⟩, 32) := ⟨⟨by decide +kernel, by decide +kernel⟩, List.mem_of_getElem? (i := 926) (by decide +kernel), List.mem_of_getElem? (i := 1088) (by decide +kernel), List.mem_of_getElem? (i := 1089) (by decide +kernel)⟩
theorem lw_p23 : lw_okq (⟨"SealedBookModel", "written", "()Z"⟩, 32) := ⟨⟨by decide +kernel, by decide +kernel⟩, List.mem_of_getElem? (i := 926) (by decide +kernel), List.mem_of_getElem? (i := 1092) (by decide +kernel), List.mem_of_getElem? (i := 1093) (by decide +kernel)⟩
theorem lw_p24 : lw_okq (⟨"SealedBookModel", "stored", "(III)Z"⟩, 32) := ⟨⟨by decide +kernel, by decide +kernel⟩, List.mem_of_getElem? (i := 926) (by decide +kernel), List.mem_of_getElem? (i := 1096) (by decide +kernel), List.mem_of_getElem? (i := 1097) (by decide +kernel)⟩
theorem lw_p25 : lw_okq (⟨"SealedBookModel", "writes", "()Z"⟩, 32) := ⟨⟨by decide +kernel, by decide +kernel⟩, List.mem_of_getElem? (i := 926) (by decide +kernel), List.mem_of_getElem? (i := 1100) (by decide +kernel), List.mem_of_getElem? (i := 1101) (by decide +kernel)⟩
theorem lw_p26 : lw_okq (⟨"SealedBookModel", "store", "(III)V"⟩, 32) := ⟨⟨by decide +kernel, by decide +kernel⟩, List.mem_of_getElem? (i := 926) (by decide +kernel), List.mem_of_getElem? (i := 1104) (by decide +kernel), List.mem_of_getElem? (i := 1105) (by decide +kernel)⟩
theorem lw_p27 : lw_okq (⟨"SealedBookModel", "isVersion", "(I)Z"⟩, 32) := ⟨⟨by decide +kernel, by decide +kernel⟩, List.mem_of_getElem? (i := 926) (by decide +kernel), List.mem_of_getElem? (i := 1124) (by decide +kernel), List.mem_of_getElem? (i := 1125) (by decide +kernel)⟩
theorem lw_p28 : lw_okq (⟨"SealedBookModel", "seal", "(II)I"⟩, 32) := ⟨⟨by decide +kernel, by decide +kernel⟩, List.mem_of_getElem? (i := 926) (by decide +kernel), List.mem_of_getElem? (i := 1140) (by decide +kernel), List.mem_of_getElem? (i := 1141) (by decide +kernel)⟩
theorem lw_p29 : lw_okq (⟨"SealedBookModel", "way", "(II)V"⟩, 32) := ⟨⟨by decide +kernel, by decide +kernel⟩, List.mem_of_getElem? (i := 926) (by decide +kernel), List.mem_of_getElem? (i := 1154) (by decide +kernel), List.mem_of_getElem? (i := 1155) (by decide +kernel)⟩
theorem lw_p30 : lw_okq (⟨"SealedBookModel", "side", "(IIZ)V"⟩, 32) := ⟨⟨by decide +kernel, by decide +kernel⟩, List.mem_of_getElem? (i := 926) (by decide +kernel), List.mem_of_getElem? (i := 1161) (by decide +kernel), List.mem_of_getElem? (i := 1162) (by decide +kernel)⟩
theorem lw_p31 : lw_okq (⟨"SealedBookModel", "outBeside", "()V"⟩, 32) := ⟨⟨by decide +kernel, by decide +kernel⟩, List.mem_of_getElem? (i := 926) (by decide +kernel), List.mem_of_getElem? (i := 1165) (by decide +kernel), List.mem_of_getElem? (i := 1166) (by decide +kernel)⟩
def lw_privs_2 : List (MethodName × Nat) := [(⟨"SealedBookModel", "copy", "(II)V"⟩, 32), (⟨"SealedBookModel", "refuse", "(I)I"⟩, 32), (⟨"SealedBookModel", "raise", "(I)I"⟩, 32), (⟨"SealedBookModel", "item", "(III)V"⟩, 32), (⟨"SealedBookModel", "chunkEnd", "(II)I"⟩, 32), (⟨"SealedBookModel", "hashOf", "(III)I"⟩, 32), (⟨"SealedBookModel", "keepMap", "()V"⟩, 32), (⟨"SealedBookModel", "written", "()Z"⟩, 32), (⟨"SealedBookModel", "stored", "(III)Z"⟩, 32), (⟨"SealedBookModel", "writes", "()Z"⟩, 32), (⟨"SealedBookModel", "store", "(III)V"⟩, 32), (⟨"SealedBookModel", "isVersion", "(I)Z"⟩, 32), (⟨"SealedBookModel", "seal", "(II)I"⟩, 32), (⟨"SealedBookModel", "way", "(II)V"⟩, 32), (⟨"SealedBookModel", "side", "(IIZ)V"⟩, 32), (⟨"SealedBookModel", "outBeside", "()V"⟩, 32)]
theorem lw_r2 : ∀ q ∈ lw_privs_2, lw_okq q := List.forall_mem_cons.mpr ⟨lw_p16, List.forall_mem_cons.mpr ⟨lw_p17, List.forall_mem_cons.mpr ⟨lw_p18, List.forall_mem_cons.mpr ⟨lw_p19, List.forall_mem_cons.mpr ⟨lw_p20, List.forall_mem_cons.mpr ⟨lw_p21, List.forall_mem_cons.mpr ⟨lw_p22, List.forall_mem_cons.mpr ⟨lw_p23, List.forall_mem_cons.mpr ⟨lw_p24, List.forall_mem_cons.mpr ⟨lw_p25, List.forall_mem_cons.mpr ⟨lw_p26, List.forall_mem_cons.mpr ⟨lw_p27, List.forall_mem_cons.mpr ⟨lw_p28, List.forall_mem_cons.mpr ⟨lw_p29, List.forall_mem_cons.mpr ⟨lw_p30, List.forall_mem_cons.mpr ⟨lw_p31, fun _ h => absurd h List.not_mem_nil⟩⟩⟩⟩⟩⟩⟩⟩⟩⟩⟩⟩⟩⟩⟩⟩
theorem lw_p32 : lw_okq (⟨"SealedBookModel", "out", "(I)V"⟩, 32) := ⟨⟨by decide +kernel, by decide +kernel⟩, List.mem_of_getElem? (i := 926) (by decide +kernel), List.mem_of_getElem? (i := 1169) (by decide +kernel), List.mem_of_getElem? (i := 1170) (by decide +kernel)⟩
theorem lw_p33 : lw_okq (⟨"SealedBookModel", "outInt", "(I)V"⟩, 32) := ⟨⟨by decide +kernel, by decide +kernel⟩, List.mem_of_getElem? (i := 926) (by decide +kernel), List.mem_of_getElem? (i := 1173) (by decide +kernel), List.mem_of_getElem? (i := 1174) (by decide +kernel)⟩
theorem lw_p34 : lw_okq (⟨"SealedBookModel", "chunkOf", "(II)I"⟩, 32) := ⟨⟨by decide +kernel, by decide +kernel⟩, List.mem_of_getElem? (i := 926) (by decide +kernel), List.mem_of_getElem? (i := 1180) (by decide +kernel), List.mem_of_getElem? (i := 1181) (by decide +kernel)⟩
theorem lw_p35 : lw_okq (⟨"SealedBookModel", "outChunk", "(III)V"⟩, 32) := ⟨⟨by decide +kernel, by decide +kernel⟩, List.mem_of_getElem? (i := 926) (by decide +kernel), List.mem_of_getElem? (i := 1184) (by decide +kernel), List.mem_of_getElem? (i := 1185) (by decide +kernel)⟩
theorem lw_p36 : lw_okq (⟨"SealedBookModel", "growth", "(II)Z"⟩, 32) := ⟨⟨by decide +kernel, by decide +kernel⟩, List.mem_of_getElem? (i := 926) (by decide +kernel), List.mem_of_getElem? (i := 1192) (by decide +kernel), List.mem_of_getElem? (i := 1193) (by decide +kernel)⟩
theorem lw_p37 : lw_okq (⟨"SealedBookModel", "inBeside", "()V"⟩, 32) := ⟨⟨by decide +kernel, by decide +kernel⟩, List.mem_of_getElem? (i := 926) (by decide +kernel), List.mem_of_getElem? (i := 1212) (by decide +kernel), List.mem_of_getElem? (i := 1213) (by decide +kernel)⟩
theorem lw_p38 : lw_okq (⟨"SealedBookModel", "in", "(II)I"⟩, 32) := ⟨⟨by decide +kernel, by decide +kernel⟩, List.mem_of_getElem? (i := 926) (by decide +kernel), List.mem_of_getElem? (i := 1216) (by decide +kernel), List.mem_of_getElem? (i := 1217) (by decide +kernel)⟩
theorem lw_p39 : lw_okq (⟨"SealedBookModel", "inInt", "()I"⟩, 32) := ⟨⟨by decide +kernel, by decide +kernel⟩, List.mem_of_getElem? (i := 926) (by decide +kernel), List.mem_of_getElem? (i := 1220) (by decide +kernel), List.mem_of_getElem? (i := 1221) (by decide +kernel)⟩
theorem lw_p40 : lw_okq (⟨"SealedBookModel", "inLevels", "(I)I"⟩, 32) := ⟨⟨by decide +kernel, by decide +kernel⟩, List.mem_of_getElem? (i := 926) (by decide +kernel), List.mem_of_getElem? (i := 1224) (by decide +kernel), List.mem_of_getElem? (i := 1225) (by decide +kernel)⟩
theorem lw_p41 : lw_okq (⟨"SealedBookModel", "inChunk", "(I)I"⟩, 32) := ⟨⟨by decide +kernel, by decide +kernel⟩, List.mem_of_getElem? (i := 926) (by decide +kernel), List.mem_of_getElem? (i := 1228) (by decide +kernel), List.mem_of_getElem? (i := 1229) (by decide +kernel)⟩
theorem lw_p42 : lw_okq (⟨"SealedBookModel", "lead", "(II)I"⟩, 32) := ⟨⟨by decide +kernel, by decide +kernel⟩, List.mem_of_getElem? (i := 926) (by decide +kernel), List.mem_of_getElem? (i := 1232) (by decide +kernel), List.mem_of_getElem? (i := 1233) (by decide +kernel)⟩
def lw_privs_3 : List (MethodName × Nat) := [(⟨"SealedBookModel", "out", "(I)V"⟩, 32), (⟨"SealedBookModel", "outInt", "(I)V"⟩, 32), (⟨"SealedBookModel", "chunkOf", "(II)I"⟩, 32), (⟨"SealedBookModel", "outChunk", "(III)V"⟩, 32), (⟨"SealedBookModel", "growth", "(II)Z"⟩, 32), (⟨"SealedBookModel", "inBeside", "()V"⟩, 32), (⟨"SealedBookModel", "in", "(II)I"⟩, 32), (⟨"SealedBookModel", "inInt", "()I"⟩, 32), (⟨"SealedBookModel", "inLevels", "(I)I"⟩, 32), (⟨"SealedBookModel", "inChunk", "(I)I"⟩, 32), (⟨"SealedBookModel", "lead", "(II)I"⟩, 32)]
theorem lw_r3 : ∀ q ∈ lw_privs_3, lw_okq q := List.forall_mem_cons.mpr ⟨lw_p32, List.forall_mem_cons.mpr ⟨lw_p33, List.forall_mem_cons.mpr ⟨lw_p34, List.forall_mem_cons.mpr ⟨lw_p35, List.forall_mem_cons.mpr ⟨lw_p36, List.forall_mem_cons.mpr ⟨lw_p37, List.forall_mem_cons.mpr ⟨lw_p38, List.forall_mem_cons.mpr ⟨lw_p39, List.forall_mem_cons.mpr ⟨lw_p40, List.forall_mem_cons.mpr ⟨lw_p41, List.forall_mem_cons.mpr ⟨lw_p42, fun _ h => absurd h List.not_mem_nil⟩⟩⟩⟩⟩⟩⟩⟩⟩⟩⟩
def lw_privs : List (MethodName × Nat) := lw_privs_1 ++ (lw_privs_2 ++ (lw_privs_3))
def lw_tbl : List Cond := k2_sels lw_privs ++ tables_1
theorem lw_privs_ok : ∀ q ∈ lw_privs, lw_okq q := by
  show ∀ q ∈ lw_privs_1 ++ (lw_privs_2 ++ (lw_privs_3)), lw_okq q
  exact List.forall_mem_append.mpr ⟨lw_r1, List.forall_mem_append.mpr ⟨lw_r2, lw_r3⟩⟩

/-- the words that every method may use: the good ones of the tables -/
def TT : List Cond := lw_tbl.filter goodWord
theorem TT_i {w : Cond} (i : Nat) (h : tables_1[i]? = some w) (g : goodWord w = true) : w ∈ TT := List.mem_filter.mpr ⟨List.mem_append_right _ (List.mem_of_getElem? h), g⟩
theorem TT_s {w : Cond} (i : Nat) (h : (k2_sels lw_privs)[i]? = some w) (g : goodWord w = true) : w ∈ TT := List.mem_filter.mpr ⟨List.mem_append_left _ (List.mem_of_getElem? h), g⟩
end
section
theorem t_0 : Cond.initialized "SealedBookLaw" ∈ TT := TT_i 0 (by decide +kernel) (by decide +kernel)
theorem t_1 : Cond.initialized "SealedBook" ∈ TT := TT_i 1 (by decide +kernel) (by decide +kernel)
theorem t_2 : Cond.initialized "SealedBook$Store" ∈ TT := TT_i 2 (by decide +kernel) (by decide +kernel)
theorem t_3 : Cond.initialized "SealedBook$History" ∈ TT := TT_i 3 (by decide +kernel) (by decide +kernel)
theorem t_4 : Cond.initialized "SealedBook$Transaction" ∈ TT := TT_i 4 (by decide +kernel) (by decide +kernel)
theorem t_5 : Cond.initialized "SealedBook$Row" ∈ TT := TT_i 5 (by decide +kernel) (by decide +kernel)
theorem t_6 : Cond.initialized "SealedBook$Prover" ∈ TT := TT_i 6 (by decide +kernel) (by decide +kernel)
theorem t_7 : Cond.initialized "SealedBook$Bytes" ∈ TT := TT_i 7 (by decide +kernel) (by decide +kernel)
theorem t_8 : Cond.initialized "SealedBook$Verifier" ∈ TT := TT_i 8 (by decide +kernel) (by decide +kernel)
theorem t_9 : Cond.initialized "SealedBookModel" ∈ TT := TT_i 9 (by decide +kernel) (by decide +kernel)
theorem t_10 : Cond.initialized "java/lang/Throwable" ∈ TT := TT_i 10 (by decide +kernel) (by decide +kernel)
theorem t_11 : Cond.initialized "java/lang/Exception" ∈ TT := TT_i 11 (by decide +kernel) (by decide +kernel)
theorem t_12 : Cond.initialized "java/lang/RuntimeException" ∈ TT := TT_i 12 (by decide +kernel) (by decide +kernel)
theorem t_13 : Cond.initialized "java/lang/IllegalArgumentException" ∈ TT := TT_i 13 (by decide +kernel) (by decide +kernel)
theorem t_14 : Cond.initialized "java/lang/IllegalStateException" ∈ TT := TT_i 14 (by decide +kernel) (by decide +kernel)
theorem t_15 : Cond.initialized "SealedBook$Chunk" ∈ TT := TT_i 15 (by decide +kernel) (by decide +kernel)
theorem t_16 : Cond.initialized "java/util/Arrays" ∈ TT := TT_i 16 (by decide +kernel) (by decide +kernel)
theorem t_23 : Cond.initialized "java/lang/Math" ∈ TT := TT_i 23 (by decide +kernel) (by decide +kernel)
theorem t_24 : Cond.initialized "java/lang/System" ∈ TT := TT_i 24 (by decide +kernel) (by decide +kernel)
theorem t_27 : Cond.initialized "java/util/NoSuchElementException" ∈ TT := TT_i 27 (by decide +kernel) (by decide +kernel)
theorem t_28 : Cond.classLink "SealedBookLaw" 8 "SealedBook" ∈ TT := TT_i 28 (by decide +kernel) (by decide +kernel)
theorem t_29 : Cond.instantiable "SealedBook" 6 ∈ TT := TT_i 29 (by decide +kernel) (by decide +kernel)
theorem t_30 : Cond.methodLink "SealedBookLaw" 56 ⟨"SealedBook", "<init>", "()V"⟩ ∈ TT := TT_i 30 (by decide +kernel) (by decide +kernel)
theorem t_31 : Cond.instanceMethod ⟨"SealedBook", "<init>", "()V"⟩ ∈ TT := TT_i 31 (by decide +kernel) (by decide +kernel)
theorem t_32 : Cond.code ⟨"SealedBook", "<init>", "()V"⟩ prog_1_method_1_code 1 none ∈ TT := TT_i 32 (by decide +kernel) (by decide +kernel)
theorem t_33 : Cond.methodLink "SealedBook" 1 ⟨"java/lang/Object", "<init>", "()V"⟩ ∈ TT := TT_i 33 (by decide +kernel) (by decide +kernel)
theorem t_34 : Cond.instanceMethod ⟨"java/lang/Object", "<init>", "()V"⟩ ∈ TT := TT_i 34 (by decide +kernel) (by decide +kernel)
theorem t_35 : Cond.code ⟨"java/lang/Object", "<init>", "()V"⟩ object_method_1_code 1 none ∈ TT := TT_i 35 (by decide +kernel) (by decide +kernel)
theorem t_36 : Cond.classLink "SealedBook" 7 "SealedBook$Store" ∈ TT := TT_i 36 (by decide +kernel) (by decide +kernel)
theorem t_37 : Cond.instantiable "SealedBook$Store" 3 ∈ TT := TT_i 37 (by decide +kernel) (by decide +kernel)
theorem t_39 : Cond.instanceMethod ⟨"SealedBook$Store", "<init>", "()V"⟩ ∈ TT := TT_i 39 (by decide +kernel) (by decide +kernel)
theorem t_40 : Cond.code ⟨"SealedBook$Store", "<init>", "()V"⟩ prog_7_method_1_code 1 none ∈ TT := TT_i 40 (by decide +kernel) (by decide +kernel)
theorem t_41 : Cond.methodLink "SealedBook$Store" 3 ⟨"java/lang/Object", "<init>", "()V"⟩ ∈ TT := TT_i 41 (by decide +kernel) (by decide +kernel)
theorem t_42 : Cond.classLink "SealedBook$Store" 9 "SealedBook$Chunk" ∈ TT := TT_i 42 (by decide +kernel) (by decide +kernel)
theorem t_44 : Cond.fieldLink "SealedBook$Store" 11 "SealedBook$Store" "shelves" "[LSealedBook$Chunk;" ∈ TT := TT_i 44 (by decide +kernel) (by decide +kernel)
theorem t_45 : Cond.fieldLink "SealedBook$Store" 17 "SealedBook$Store" "size" "I" ∈ TT := TT_i 45 (by decide +kernel) (by decide +kernel)
theorem t_46 : Cond.fieldLink "SealedBook" 103 "SealedBook$Store" "size" "I" ∈ TT := TT_i 46 (by decide +kernel) (by decide +kernel)
theorem t_47 : Cond.fieldLink "SealedBook$Store" 21 "SealedBook$Store" "untilFailure" "I" ∈ TT := TT_i 47 (by decide +kernel) (by decide +kernel)
theorem t_48 : Cond.fieldLink "SealedBook" 100 "SealedBook$Store" "untilFailure" "I" ∈ TT := TT_i 48 (by decide +kernel) (by decide +kernel)
theorem t_49 : Cond.laysFinal "SealedBook$Store" "SealedBook$Store" "shelves" "[LSealedBook$Chunk;" ∈ TT := TT_i 49 (by decide +kernel) (by decide +kernel)
theorem t_51 : Cond.lays "SealedBook$Store" "SealedBook$Store" "size" "I" ∈ TT := TT_i 51 (by decide +kernel) (by decide +kernel)
theorem t_53 : Cond.lays "SealedBook$Store" "SealedBook$Store" "untilFailure" "I" ∈ TT := TT_i 53 (by decide +kernel) (by decide +kernel)
theorem t_56 : Cond.classLink "SealedBook" 16 "SealedBook$History" ∈ TT := TT_i 56 (by decide +kernel) (by decide +kernel)
theorem t_57 : Cond.instantiable "SealedBook$History" 2 ∈ TT := TT_i 57 (by decide +kernel) (by decide +kernel)
theorem t_59 : Cond.instanceMethod ⟨"SealedBook$History", "<init>", "()V"⟩ ∈ TT := TT_i 59 (by decide +kernel) (by decide +kernel)
theorem t_60 : Cond.code ⟨"SealedBook$History", "<init>", "()V"⟩ prog_4_method_1_code 1 none ∈ TT := TT_i 60 (by decide +kernel) (by decide +kernel)
theorem t_61 : Cond.methodLink "SealedBook$History" 3 ⟨"java/lang/Object", "<init>", "()V"⟩ ∈ TT := TT_i 61 (by decide +kernel) (by decide +kernel)
theorem t_62 : Cond.classLink "SealedBook$History" 9 "SealedBook$Chunk" ∈ TT := TT_i 62 (by decide +kernel) (by decide +kernel)
theorem t_63 : Cond.fieldLink "SealedBook$History" 11 "SealedBook$History" "tops" "[LSealedBook$Chunk;" ∈ TT := TT_i 63 (by decide +kernel) (by decide +kernel)
theorem t_64 : Cond.fieldLink "SealedBook$Prover" 30 "SealedBook$History" "tops" "[LSealedBook$Chunk;" ∈ TT := TT_i 64 (by decide +kernel) (by decide +kernel)
theorem t_65 : Cond.fieldLink "SealedBook" 93 "SealedBook$History" "tops" "[LSealedBook$Chunk;" ∈ TT := TT_i 65 (by decide +kernel) (by decide +kernel)
theorem t_66 : Cond.fieldLink "SealedBook$History" 17 "SealedBook$History" "size" "I" ∈ TT := TT_i 66 (by decide +kernel) (by decide +kernel)
theorem t_67 : Cond.fieldLink "SealedBook" 89 "SealedBook$History" "size" "I" ∈ TT := TT_i 67 (by decide +kernel) (by decide +kernel)
theorem t_68 : Cond.laysFinal "SealedBook$History" "SealedBook$History" "tops" "[LSealedBook$Chunk;" ∈ TT := TT_i 68 (by decide +kernel) (by decide +kernel)
theorem t_70 : Cond.lays "SealedBook$History" "SealedBook$History" "size" "I" ∈ TT := TT_i 70 (by decide +kernel) (by decide +kernel)
theorem t_73 : Cond.classLink "SealedBook" 23 "SealedBook$Transaction" ∈ TT := TT_i 73 (by decide +kernel) (by decide +kernel)
theorem t_74 : Cond.instantiable "SealedBook$Transaction" 2 ∈ TT := TT_i 74 (by decide +kernel) (by decide +kernel)
theorem t_76 : Cond.instanceMethod ⟨"SealedBook$Transaction", "<init>", "()V"⟩ ∈ TT := TT_i 76 (by decide +kernel) (by decide +kernel)
theorem t_77 : Cond.code ⟨"SealedBook$Transaction", "<init>", "()V"⟩ prog_8_method_1_code 1 none ∈ TT := TT_i 77 (by decide +kernel) (by decide +kernel)
theorem t_78 : Cond.methodLink "SealedBook$Transaction" 3 ⟨"java/lang/Object", "<init>", "()V"⟩ ∈ TT := TT_i 78 (by decide +kernel) (by decide +kernel)
theorem t_79 : Cond.fieldLink "SealedBook$Transaction" 9 "SealedBook$Transaction" "has" "[Z" ∈ TT := TT_i 79 (by decide +kernel) (by decide +kernel)
theorem t_80 : Cond.fieldLink "SealedBook" 107 "SealedBook$Transaction" "has" "[Z" ∈ TT := TT_i 80 (by decide +kernel) (by decide +kernel)
theorem t_81 : Cond.fieldLink "SealedBook$Transaction" 15 "SealedBook$Transaction" "values" "[I" ∈ TT := TT_i 81 (by decide +kernel) (by decide +kernel)
theorem t_82 : Cond.fieldLink "SealedBook" 115 "SealedBook$Transaction" "values" "[I" ∈ TT := TT_i 82 (by decide +kernel) (by decide +kernel)
theorem t_83 : Cond.laysFinal "SealedBook$Transaction" "SealedBook$Transaction" "has" "[Z" ∈ TT := TT_i 83 (by decide +kernel) (by decide +kernel)
theorem t_85 : Cond.laysFinal "SealedBook$Transaction" "SealedBook$Transaction" "values" "[I" ∈ TT := TT_i 85 (by decide +kernel) (by decide +kernel)
theorem t_88 : Cond.arrayClass .boolean ∈ TT := TT_i 88 (by decide +kernel) (by decide +kernel)
theorem t_89 : Cond.arrayClass .int ∈ TT := TT_i 89 (by decide +kernel) (by decide +kernel)
theorem t_90 : Cond.classLink "SealedBook" 30 "SealedBook$Row" ∈ TT := TT_i 90 (by decide +kernel) (by decide +kernel)
theorem t_91 : Cond.instantiable "SealedBook$Row" 4 ∈ TT := TT_i 91 (by decide +kernel) (by decide +kernel)
theorem t_93 : Cond.instanceMethod ⟨"SealedBook$Row", "<init>", "()V"⟩ ∈ TT := TT_i 93 (by decide +kernel) (by decide +kernel)
theorem t_94 : Cond.code ⟨"SealedBook$Row", "<init>", "()V"⟩ prog_6_method_1_code 1 none ∈ TT := TT_i 94 (by decide +kernel) (by decide +kernel)
theorem t_95 : Cond.methodLink "SealedBook$Row" 3 ⟨"java/lang/Object", "<init>", "()V"⟩ ∈ TT := TT_i 95 (by decide +kernel) (by decide +kernel)
theorem t_96 : Cond.classLink "SealedBook$Row" 18 "SealedBook$Chunk" ∈ TT := TT_i 96 (by decide +kernel) (by decide +kernel)
theorem t_97 : Cond.fieldLink "SealedBook$Row" 9 "SealedBook$Row" "keys" "[I" ∈ TT := TT_i 97 (by decide +kernel) (by decide +kernel)
theorem t_98 : Cond.fieldLink "SealedBook$Chunk" 20 "SealedBook$Row" "keys" "[I" ∈ TT := TT_i 98 (by decide +kernel) (by decide +kernel)
theorem t_99 : Cond.fieldLink "SealedBook$Store" 31 "SealedBook$Row" "keys" "[I" ∈ TT := TT_i 99 (by decide +kernel) (by decide +kernel)
theorem t_100 : Cond.fieldLink "SealedBook$Row" 15 "SealedBook$Row" "values" "[I" ∈ TT := TT_i 100 (by decide +kernel) (by decide +kernel)
theorem t_101 : Cond.fieldLink "SealedBook$Chunk" 33 "SealedBook$Row" "values" "[I" ∈ TT := TT_i 101 (by decide +kernel) (by decide +kernel)
theorem t_102 : Cond.fieldLink "SealedBook$Row" 20 "SealedBook$Row" "below" "[LSealedBook$Chunk;" ∈ TT := TT_i 102 (by decide +kernel) (by decide +kernel)
theorem t_103 : Cond.fieldLink "SealedBook$Chunk" 41 "SealedBook$Row" "below" "[LSealedBook$Chunk;" ∈ TT := TT_i 103 (by decide +kernel) (by decide +kernel)
theorem t_104 : Cond.fieldLink "SealedBook$Row" 24 "SealedBook$Row" "size" "I" ∈ TT := TT_i 104 (by decide +kernel) (by decide +kernel)
theorem t_105 : Cond.fieldLink "SealedBook$Store" 24 "SealedBook$Row" "size" "I" ∈ TT := TT_i 105 (by decide +kernel) (by decide +kernel)
theorem t_106 : Cond.fieldLink "SealedBook$Transaction" 37 "SealedBook$Row" "size" "I" ∈ TT := TT_i 106 (by decide +kernel) (by decide +kernel)
theorem t_107 : Cond.laysFinal "SealedBook$Row" "SealedBook$Row" "keys" "[I" ∈ TT := TT_i 107 (by decide +kernel) (by decide +kernel)
theorem t_109 : Cond.laysFinal "SealedBook$Row" "SealedBook$Row" "values" "[I" ∈ TT := TT_i 109 (by decide +kernel) (by decide +kernel)
theorem t_111 : Cond.laysFinal "SealedBook$Row" "SealedBook$Row" "below" "[LSealedBook$Chunk;" ∈ TT := TT_i 111 (by decide +kernel) (by decide +kernel)
theorem t_113 : Cond.lays "SealedBook$Row" "SealedBook$Row" "size" "I" ∈ TT := TT_i 113 (by decide +kernel) (by decide +kernel)
theorem t_116 : Cond.classLink "SealedBook" 37 "SealedBook$Prover" ∈ TT := TT_i 116 (by decide +kernel) (by decide +kernel)
theorem t_117 : Cond.instantiable "SealedBook$Prover" 1 ∈ TT := TT_i 117 (by decide +kernel) (by decide +kernel)
theorem t_119 : Cond.instanceMethod ⟨"SealedBook$Prover", "<init>", "()V"⟩ ∈ TT := TT_i 119 (by decide +kernel) (by decide +kernel)
theorem t_120 : Cond.code ⟨"SealedBook$Prover", "<init>", "()V"⟩ prog_5_method_1_code 1 none ∈ TT := TT_i 120 (by decide +kernel) (by decide +kernel)
theorem t_121 : Cond.methodLink "SealedBook$Prover" 1 ⟨"java/lang/Object", "<init>", "()V"⟩ ∈ TT := TT_i 121 (by decide +kernel) (by decide +kernel)
theorem t_122 : Cond.classLink "SealedBook$Prover" 7 "SealedBook$Bytes" ∈ TT := TT_i 122 (by decide +kernel) (by decide +kernel)
theorem t_123 : Cond.instantiable "SealedBook$Bytes" 2 ∈ TT := TT_i 123 (by decide +kernel) (by decide +kernel)
theorem t_125 : Cond.instanceMethod ⟨"SealedBook$Bytes", "<init>", "()V"⟩ ∈ TT := TT_i 125 (by decide +kernel) (by decide +kernel)
theorem t_126 : Cond.code ⟨"SealedBook$Bytes", "<init>", "()V"⟩ prog_2_method_1_code 1 none ∈ TT := TT_i 126 (by decide +kernel) (by decide +kernel)
theorem t_127 : Cond.methodLink "SealedBook$Bytes" 3 ⟨"java/lang/Object", "<init>", "()V"⟩ ∈ TT := TT_i 127 (by decide +kernel) (by decide +kernel)
theorem t_128 : Cond.fieldLink "SealedBook$Bytes" 9 "SealedBook$Bytes" "cells" "[I" ∈ TT := TT_i 128 (by decide +kernel) (by decide +kernel)
theorem t_129 : Cond.fieldLink "SealedBook$Bytes" 15 "SealedBook$Bytes" "size" "I" ∈ TT := TT_i 129 (by decide +kernel) (by decide +kernel)
theorem t_130 : Cond.fieldLink "SealedBook$Verifier" 57 "SealedBook$Bytes" "size" "I" ∈ TT := TT_i 130 (by decide +kernel) (by decide +kernel)
theorem t_131 : Cond.fieldLink "SealedBook" 158 "SealedBook$Bytes" "size" "I" ∈ TT := TT_i 131 (by decide +kernel) (by decide +kernel)
theorem t_132 : Cond.laysFinal "SealedBook$Bytes" "SealedBook$Bytes" "cells" "[I" ∈ TT := TT_i 132 (by decide +kernel) (by decide +kernel)
theorem t_134 : Cond.lays "SealedBook$Bytes" "SealedBook$Bytes" "size" "I" ∈ TT := TT_i 134 (by decide +kernel) (by decide +kernel)
theorem t_137 : Cond.fieldLink "SealedBook$Prover" 10 "SealedBook$Prover" "bytes" "LSealedBook$Bytes;" ∈ TT := TT_i 137 (by decide +kernel) (by decide +kernel)
theorem t_138 : Cond.fieldLink "SealedBook" 154 "SealedBook$Prover" "bytes" "LSealedBook$Bytes;" ∈ TT := TT_i 138 (by decide +kernel) (by decide +kernel)
theorem t_139 : Cond.laysFinal "SealedBook$Prover" "SealedBook$Prover" "bytes" "LSealedBook$Bytes;" ∈ TT := TT_i 139 (by decide +kernel) (by decide +kernel)
theorem t_142 : Cond.classLink "SealedBook" 44 "SealedBook$Verifier" ∈ TT := TT_i 142 (by decide +kernel) (by decide +kernel)
theorem t_143 : Cond.instantiable "SealedBook$Verifier" 11 ∈ TT := TT_i 143 (by decide +kernel) (by decide +kernel)
theorem t_145 : Cond.instanceMethod ⟨"SealedBook$Verifier", "<init>", "()V"⟩ ∈ TT := TT_i 145 (by decide +kernel) (by decide +kernel)
theorem t_146 : Cond.code ⟨"SealedBook$Verifier", "<init>", "()V"⟩ prog_9_method_1_code 1 none ∈ TT := TT_i 146 (by decide +kernel) (by decide +kernel)
theorem t_147 : Cond.methodLink "SealedBook$Verifier" 3 ⟨"java/lang/Object", "<init>", "()V"⟩ ∈ TT := TT_i 147 (by decide +kernel) (by decide +kernel)
theorem t_148 : Cond.classLink "SealedBook$Verifier" 9 "SealedBook$Bytes" ∈ TT := TT_i 148 (by decide +kernel) (by decide +kernel)
theorem t_150 : Cond.fieldLink "SealedBook$Verifier" 12 "SealedBook$Verifier" "bytes" "LSealedBook$Bytes;" ∈ TT := TT_i 150 (by decide +kernel) (by decide +kernel)
theorem t_151 : Cond.fieldLink "SealedBook" 168 "SealedBook$Verifier" "bytes" "LSealedBook$Bytes;" ∈ TT := TT_i 151 (by decide +kernel) (by decide +kernel)
theorem t_152 : Cond.fieldLink "SealedBook$Verifier" 18 "SealedBook$Verifier" "noted" "I" ∈ TT := TT_i 152 (by decide +kernel) (by decide +kernel)
theorem t_153 : Cond.fieldLink "SealedBook" 189 "SealedBook$Verifier" "noted" "I" ∈ TT := TT_i 153 (by decide +kernel) (by decide +kernel)
theorem t_154 : Cond.fieldLink "SealedBook$Verifier" 22 "SealedBook$Verifier" "position" "I" ∈ TT := TT_i 154 (by decide +kernel) (by decide +kernel)
theorem t_155 : Cond.fieldLink "SealedBook$Verifier" 25 "SealedBook$Verifier" "levels" "I" ∈ TT := TT_i 155 (by decide +kernel) (by decide +kernel)
theorem t_156 : Cond.fieldLink "SealedBook$Verifier" 28 "SealedBook$Verifier" "root" "I" ∈ TT := TT_i 156 (by decide +kernel) (by decide +kernel)
theorem t_157 : Cond.fieldLink "SealedBook$Verifier" 31 "SealedBook$Verifier" "hash" "I" ∈ TT := TT_i 157 (by decide +kernel) (by decide +kernel)
theorem t_158 : Cond.fieldLink "SealedBook$Verifier" 34 "SealedBook$Verifier" "lastKey" "I" ∈ TT := TT_i 158 (by decide +kernel) (by decide +kernel)
theorem t_159 : Cond.fieldLink "SealedBook$Verifier" 37 "SealedBook$Verifier" "chosenKey" "I" ∈ TT := TT_i 159 (by decide +kernel) (by decide +kernel)
theorem t_160 : Cond.fieldLink "SealedBook$Verifier" 40 "SealedBook$Verifier" "chosenValue" "I" ∈ TT := TT_i 160 (by decide +kernel) (by decide +kernel)
theorem t_161 : Cond.fieldLink "SealedBook$Verifier" 43 "SealedBook$Verifier" "olderSeal" "I" ∈ TT := TT_i 161 (by decide +kernel) (by decide +kernel)
theorem t_162 : Cond.fieldLink "SealedBook$Verifier" 46 "SealedBook$Verifier" "wholeSeal" "I" ∈ TT := TT_i 162 (by decide +kernel) (by decide +kernel)
theorem t_163 : Cond.laysFinal "SealedBook$Verifier" "SealedBook$Verifier" "bytes" "LSealedBook$Bytes;" ∈ TT := TT_i 163 (by decide +kernel) (by decide +kernel)
theorem t_165 : Cond.lays "SealedBook$Verifier" "SealedBook$Verifier" "noted" "I" ∈ TT := TT_i 165 (by decide +kernel) (by decide +kernel)
theorem t_167 : Cond.lays "SealedBook$Verifier" "SealedBook$Verifier" "position" "I" ∈ TT := TT_i 167 (by decide +kernel) (by decide +kernel)
theorem t_169 : Cond.lays "SealedBook$Verifier" "SealedBook$Verifier" "levels" "I" ∈ TT := TT_i 169 (by decide +kernel) (by decide +kernel)
theorem t_171 : Cond.lays "SealedBook$Verifier" "SealedBook$Verifier" "root" "I" ∈ TT := TT_i 171 (by decide +kernel) (by decide +kernel)
theorem t_173 : Cond.lays "SealedBook$Verifier" "SealedBook$Verifier" "hash" "I" ∈ TT := TT_i 173 (by decide +kernel) (by decide +kernel)
theorem t_175 : Cond.lays "SealedBook$Verifier" "SealedBook$Verifier" "lastKey" "I" ∈ TT := TT_i 175 (by decide +kernel) (by decide +kernel)
theorem t_177 : Cond.lays "SealedBook$Verifier" "SealedBook$Verifier" "chosenKey" "I" ∈ TT := TT_i 177 (by decide +kernel) (by decide +kernel)
theorem t_179 : Cond.lays "SealedBook$Verifier" "SealedBook$Verifier" "chosenValue" "I" ∈ TT := TT_i 179 (by decide +kernel) (by decide +kernel)
theorem t_181 : Cond.lays "SealedBook$Verifier" "SealedBook$Verifier" "olderSeal" "I" ∈ TT := TT_i 181 (by decide +kernel) (by decide +kernel)
theorem t_183 : Cond.lays "SealedBook$Verifier" "SealedBook$Verifier" "wholeSeal" "I" ∈ TT := TT_i 183 (by decide +kernel) (by decide +kernel)
theorem t_186 : Cond.fieldLink "SealedBook" 10 "SealedBook" "store" "LSealedBook$Store;" ∈ TT := TT_i 186 (by decide +kernel) (by decide +kernel)
theorem t_187 : Cond.fieldLink "SealedBook" 19 "SealedBook" "history" "LSealedBook$History;" ∈ TT := TT_i 187 (by decide +kernel) (by decide +kernel)
theorem t_188 : Cond.fieldLink "SealedBook" 26 "SealedBook" "transaction" "LSealedBook$Transaction;" ∈ TT := TT_i 188 (by decide +kernel) (by decide +kernel)
theorem t_189 : Cond.fieldLink "SealedBook" 33 "SealedBook" "row" "LSealedBook$Row;" ∈ TT := TT_i 189 (by decide +kernel) (by decide +kernel)
theorem t_190 : Cond.fieldLink "SealedBook" 40 "SealedBook" "prover" "LSealedBook$Prover;" ∈ TT := TT_i 190 (by decide +kernel) (by decide +kernel)
theorem t_191 : Cond.fieldLink "SealedBook" 47 "SealedBook" "verifier" "LSealedBook$Verifier;" ∈ TT := TT_i 191 (by decide +kernel) (by decide +kernel)
theorem t_192 : Cond.laysFinal "SealedBook" "SealedBook" "store" "LSealedBook$Store;" ∈ TT := TT_i 192 (by decide +kernel) (by decide +kernel)
theorem t_194 : Cond.laysFinal "SealedBook" "SealedBook" "history" "LSealedBook$History;" ∈ TT := TT_i 194 (by decide +kernel) (by decide +kernel)
theorem t_196 : Cond.laysFinal "SealedBook" "SealedBook" "transaction" "LSealedBook$Transaction;" ∈ TT := TT_i 196 (by decide +kernel) (by decide +kernel)
theorem t_198 : Cond.laysFinal "SealedBook" "SealedBook" "row" "LSealedBook$Row;" ∈ TT := TT_i 198 (by decide +kernel) (by decide +kernel)
theorem t_200 : Cond.laysFinal "SealedBook" "SealedBook" "prover" "LSealedBook$Prover;" ∈ TT := TT_i 200 (by decide +kernel) (by decide +kernel)
theorem t_202 : Cond.laysFinal "SealedBook" "SealedBook" "verifier" "LSealedBook$Verifier;" ∈ TT := TT_i 202 (by decide +kernel) (by decide +kernel)
theorem t_205 : Cond.methodLink "SealedBookLaw" 77 ⟨"SealedBook", "rollback", "()V"⟩ ∈ TT := TT_i 205 (by decide +kernel) (by decide +kernel)
theorem t_206 : Cond.instanceMethod ⟨"SealedBook", "rollback", "()V"⟩ ∈ TT := TT_i 206 (by decide +kernel) (by decide +kernel)
theorem t_207 : Cond.selects "SealedBook" ⟨"SealedBook", "rollback", "()V"⟩ ⟨"SealedBook", "rollback", "()V"⟩ ∈ TT := TT_i 207 (by decide +kernel) (by decide +kernel)
theorem t_208 : Cond.code ⟨"SealedBook", "rollback", "()V"⟩ prog_1_method_5_code 1 none ∈ TT := TT_i 208 (by decide +kernel) (by decide +kernel)
theorem t_209 : Cond.methodLink "SealedBook" 97 ⟨"SealedBook$Transaction", "load", "(LSealedBook$Chunk;)V"⟩ ∈ TT := TT_i 209 (by decide +kernel) (by decide +kernel)
theorem t_210 : Cond.instanceMethod ⟨"SealedBook$Transaction", "load", "(LSealedBook$Chunk;)V"⟩ ∈ TT := TT_i 210 (by decide +kernel) (by decide +kernel)
theorem t_211 : Cond.selects "SealedBook$Transaction" ⟨"SealedBook$Transaction", "load", "(LSealedBook$Chunk;)V"⟩ ⟨"SealedBook$Transaction", "load", "(LSealedBook$Chunk;)V"⟩ ∈ TT := TT_i 211 (by decide +kernel) (by decide +kernel)
theorem t_212 : Cond.code ⟨"SealedBook$Transaction", "load", "(LSealedBook$Chunk;)V"⟩ prog_8_method_4_code 4 none ∈ TT := TT_i 212 (by decide +kernel) (by decide +kernel)
theorem t_214 : Cond.static ⟨"SealedBook", "bottomFor", "(LSealedBook$Chunk;I)LSealedBook$Chunk;"⟩ ∈ TT := TT_i 214 (by decide +kernel) (by decide +kernel)
theorem t_215 : Cond.code ⟨"SealedBook", "bottomFor", "(LSealedBook$Chunk;I)LSealedBook$Chunk;"⟩ prog_1_method_31_code 4 (some (.object "SealedBook$Chunk")) ∈ TT := TT_i 215 (by decide +kernel) (by decide +kernel)
theorem t_216 : Cond.methodLink "SealedBook" 216 ⟨"SealedBook$Chunk", "under", "(I)LSealedBook$Chunk;"⟩ ∈ TT := TT_i 216 (by decide +kernel) (by decide +kernel)
theorem t_217 : Cond.instanceMethod ⟨"SealedBook$Chunk", "under", "(I)LSealedBook$Chunk;"⟩ ∈ TT := TT_i 217 (by decide +kernel) (by decide +kernel)
theorem t_218 : Cond.selects "SealedBook$Chunk" ⟨"SealedBook$Chunk", "under", "(I)LSealedBook$Chunk;"⟩ ⟨"SealedBook$Chunk", "under", "(I)LSealedBook$Chunk;"⟩ ∈ TT := TT_i 218 (by decide +kernel) (by decide +kernel)
theorem t_219 : Cond.code ⟨"SealedBook$Chunk", "under", "(I)LSealedBook$Chunk;"⟩ prog_3_method_3_code 2 (some (.object "SealedBook$Chunk")) ∈ TT := TT_i 219 (by decide +kernel) (by decide +kernel)
theorem t_220 : Cond.methodLink "SealedBook$Chunk" 42 ⟨"SealedBook$Chunk", "placeFor", "(I)I"⟩ ∈ TT := TT_i 220 (by decide +kernel) (by decide +kernel)
theorem t_221 : Cond.instanceMethod ⟨"SealedBook$Chunk", "placeFor", "(I)I"⟩ ∈ TT := TT_i 221 (by decide +kernel) (by decide +kernel)
theorem t_222 : Cond.selects "SealedBook$Chunk" ⟨"SealedBook$Chunk", "placeFor", "(I)I"⟩ ⟨"SealedBook$Chunk", "placeFor", "(I)I"⟩ ∈ TT := TT_i 222 (by decide +kernel) (by decide +kernel)
theorem t_223 : Cond.code ⟨"SealedBook$Chunk", "placeFor", "(I)I"⟩ prog_3_method_2_code 3 (some .int) ∈ TT := TT_i 223 (by decide +kernel) (by decide +kernel)
theorem t_225 : Cond.static ⟨"SealedBook", "holds", "(LSealedBook$Chunk;I)Z"⟩ ∈ TT := TT_i 225 (by decide +kernel) (by decide +kernel)
theorem t_226 : Cond.code ⟨"SealedBook", "holds", "(LSealedBook$Chunk;I)Z"⟩ prog_1_method_32_code 2 (some .boolean) ∈ TT := TT_i 226 (by decide +kernel) (by decide +kernel)
theorem t_227 : Cond.methodLink "SealedBook" 225 ⟨"SealedBook$Chunk", "placeFor", "(I)I"⟩ ∈ TT := TT_i 227 (by decide +kernel) (by decide +kernel)
theorem t_229 : Cond.static ⟨"SealedBook", "valueIn", "(LSealedBook$Chunk;I)I"⟩ ∈ TT := TT_i 229 (by decide +kernel) (by decide +kernel)
theorem t_230 : Cond.code ⟨"SealedBook", "valueIn", "(LSealedBook$Chunk;I)I"⟩ prog_1_method_33_code 2 (some .int) ∈ TT := TT_i 230 (by decide +kernel) (by decide +kernel)
theorem t_231 : Cond.methodLink "SealedBookLaw" 81 ⟨"SealedBook", "fail", "(I)Z"⟩ ∈ TT := TT_i 231 (by decide +kernel) (by decide +kernel)
theorem t_232 : Cond.instanceMethod ⟨"SealedBook", "fail", "(I)Z"⟩ ∈ TT := TT_i 232 (by decide +kernel) (by decide +kernel)
theorem t_233 : Cond.selects "SealedBook" ⟨"SealedBook", "fail", "(I)Z"⟩ ⟨"SealedBook", "fail", "(I)Z"⟩ ∈ TT := TT_i 233 (by decide +kernel) (by decide +kernel)
theorem t_234 : Cond.code ⟨"SealedBook", "fail", "(I)Z"⟩ prog_1_method_6_code 2 (some .boolean) ∈ TT := TT_i 234 (by decide +kernel) (by decide +kernel)
theorem t_235 : Cond.methodLink "SealedBookLaw" 85 ⟨"SealedBook", "chunks", "()I"⟩ ∈ TT := TT_i 235 (by decide +kernel) (by decide +kernel)
theorem t_236 : Cond.instanceMethod ⟨"SealedBook", "chunks", "()I"⟩ ∈ TT := TT_i 236 (by decide +kernel) (by decide +kernel)
theorem t_237 : Cond.selects "SealedBook" ⟨"SealedBook", "chunks", "()I"⟩ ⟨"SealedBook", "chunks", "()I"⟩ ∈ TT := TT_i 237 (by decide +kernel) (by decide +kernel)
theorem t_238 : Cond.code ⟨"SealedBook", "chunks", "()I"⟩ prog_1_method_7_code 1 (some .int) ∈ TT := TT_i 238 (by decide +kernel) (by decide +kernel)
theorem t_239 : Cond.methodLink "SealedBookLaw" 89 ⟨"SealedBook", "versions", "()I"⟩ ∈ TT := TT_i 239 (by decide +kernel) (by decide +kernel)
theorem t_240 : Cond.instanceMethod ⟨"SealedBook", "versions", "()I"⟩ ∈ TT := TT_i 240 (by decide +kernel) (by decide +kernel)
theorem t_241 : Cond.selects "SealedBook" ⟨"SealedBook", "versions", "()I"⟩ ⟨"SealedBook", "versions", "()I"⟩ ∈ TT := TT_i 241 (by decide +kernel) (by decide +kernel)
theorem t_242 : Cond.code ⟨"SealedBook", "versions", "()I"⟩ prog_1_method_8_code 1 (some .int) ∈ TT := TT_i 242 (by decide +kernel) (by decide +kernel)
theorem t_243 : Cond.methodLink "SealedBookLaw" 113 ⟨"SealedBook", "proof", "(I)I"⟩ ∈ TT := TT_i 243 (by decide +kernel) (by decide +kernel)
theorem t_244 : Cond.instanceMethod ⟨"SealedBook", "proof", "(I)I"⟩ ∈ TT := TT_i 244 (by decide +kernel) (by decide +kernel)
theorem t_245 : Cond.selects "SealedBook" ⟨"SealedBook", "proof", "(I)I"⟩ ⟨"SealedBook", "proof", "(I)I"⟩ ∈ TT := TT_i 245 (by decide +kernel) (by decide +kernel)
theorem t_246 : Cond.code ⟨"SealedBook", "proof", "(I)I"⟩ prog_1_method_15_code 2 (some .int) ∈ TT := TT_i 246 (by decide +kernel) (by decide +kernel)
theorem t_247 : Cond.methodLink "SealedBook" 165 ⟨"SealedBook$Bytes", "at", "(I)I"⟩ ∈ TT := TT_i 247 (by decide +kernel) (by decide +kernel)
theorem t_248 : Cond.instanceMethod ⟨"SealedBook$Bytes", "at", "(I)I"⟩ ∈ TT := TT_i 248 (by decide +kernel) (by decide +kernel)
theorem t_249 : Cond.selects "SealedBook$Bytes" ⟨"SealedBook$Bytes", "at", "(I)I"⟩ ⟨"SealedBook$Bytes", "at", "(I)I"⟩ ∈ TT := TT_i 249 (by decide +kernel) (by decide +kernel)
theorem t_250 : Cond.code ⟨"SealedBook$Bytes", "at", "(I)I"⟩ prog_2_method_3_code 2 (some .int) ∈ TT := TT_i 250 (by decide +kernel) (by decide +kernel)
theorem t_251 : Cond.methodLink "SealedBookLaw" 117 ⟨"SealedBook", "take", "(II)Z"⟩ ∈ TT := TT_i 251 (by decide +kernel) (by decide +kernel)
theorem t_252 : Cond.instanceMethod ⟨"SealedBook", "take", "(II)Z"⟩ ∈ TT := TT_i 252 (by decide +kernel) (by decide +kernel)
theorem t_253 : Cond.selects "SealedBook" ⟨"SealedBook", "take", "(II)Z"⟩ ⟨"SealedBook", "take", "(II)Z"⟩ ∈ TT := TT_i 253 (by decide +kernel) (by decide +kernel)
theorem t_254 : Cond.code ⟨"SealedBook", "take", "(II)Z"⟩ prog_1_method_16_code 3 (some .boolean) ∈ TT := TT_i 254 (by decide +kernel) (by decide +kernel)
theorem t_255 : Cond.methodLink "SealedBook" 169 ⟨"SealedBook$Bytes", "append", "(II)V"⟩ ∈ TT := TT_i 255 (by decide +kernel) (by decide +kernel)
theorem t_256 : Cond.instanceMethod ⟨"SealedBook$Bytes", "append", "(II)V"⟩ ∈ TT := TT_i 256 (by decide +kernel) (by decide +kernel)
theorem t_257 : Cond.selects "SealedBook$Bytes" ⟨"SealedBook$Bytes", "append", "(II)V"⟩ ⟨"SealedBook$Bytes", "append", "(II)V"⟩ ∈ TT := TT_i 257 (by decide +kernel) (by decide +kernel)
theorem t_258 : Cond.code ⟨"SealedBook$Bytes", "append", "(II)V"⟩ prog_2_method_4_code 4 none ∈ TT := TT_i 258 (by decide +kernel) (by decide +kernel)
theorem t_259 : Cond.methodLink "SealedBookLaw" 122 ⟨"SealedBook", "carry", "(II)I"⟩ ∈ TT := TT_i 259 (by decide +kernel) (by decide +kernel)
theorem t_260 : Cond.instanceMethod ⟨"SealedBook", "carry", "(II)I"⟩ ∈ TT := TT_i 260 (by decide +kernel) (by decide +kernel)
theorem t_261 : Cond.selects "SealedBook" ⟨"SealedBook", "carry", "(II)I"⟩ ⟨"SealedBook", "carry", "(II)I"⟩ ∈ TT := TT_i 261 (by decide +kernel) (by decide +kernel)
theorem t_262 : Cond.code ⟨"SealedBook", "carry", "(II)I"⟩ prog_1_method_17_code 3 (some .int) ∈ TT := TT_i 262 (by decide +kernel) (by decide +kernel)
theorem t_263 : Cond.methodLink "SealedBook" 172 ⟨"SealedBook$Bytes", "become", "(LSealedBook$Bytes;)V"⟩ ∈ TT := TT_i 263 (by decide +kernel) (by decide +kernel)
theorem t_264 : Cond.instanceMethod ⟨"SealedBook$Bytes", "become", "(LSealedBook$Bytes;)V"⟩ ∈ TT := TT_i 264 (by decide +kernel) (by decide +kernel)
theorem t_265 : Cond.selects "SealedBook$Bytes" ⟨"SealedBook$Bytes", "become", "(LSealedBook$Bytes;)V"⟩ ⟨"SealedBook$Bytes", "become", "(LSealedBook$Bytes;)V"⟩ ∈ TT := TT_i 265 (by decide +kernel) (by decide +kernel)
theorem t_266 : Cond.code ⟨"SealedBook$Bytes", "become", "(LSealedBook$Bytes;)V"⟩ prog_2_method_7_code 2 none ∈ TT := TT_i 266 (by decide +kernel) (by decide +kernel)
theorem t_267 : Cond.methodLink "SealedBook$Bytes" 23 ⟨"java/lang/System", "arraycopy", "(Ljava/lang/Object;ILjava/lang/Object;II)V"⟩ ∈ TT := TT_i 267 (by decide +kernel) (by decide +kernel)
theorem t_268 : Cond.static ⟨"java/lang/System", "arraycopy", "(Ljava/lang/Object;ILjava/lang/Object;II)V"⟩ ∈ TT := TT_i 268 (by decide +kernel) (by decide +kernel)
theorem t_269 : Cond.native ⟨"java/lang/System", "arraycopy", "(Ljava/lang/Object;ILjava/lang/Object;II)V"⟩ ∈ TT := TT_i 269 (by decide +kernel) (by decide +kernel)
theorem t_270 : Cond.methodLink "SealedBook" 176 ⟨"SealedBook$Bytes", "flip", "(II)V"⟩ ∈ TT := TT_i 270 (by decide +kernel) (by decide +kernel)
theorem t_271 : Cond.instanceMethod ⟨"SealedBook$Bytes", "flip", "(II)V"⟩ ∈ TT := TT_i 271 (by decide +kernel) (by decide +kernel)
theorem t_272 : Cond.selects "SealedBook$Bytes" ⟨"SealedBook$Bytes", "flip", "(II)V"⟩ ⟨"SealedBook$Bytes", "flip", "(II)V"⟩ ∈ TT := TT_i 272 (by decide +kernel) (by decide +kernel)
theorem t_273 : Cond.code ⟨"SealedBook$Bytes", "flip", "(II)V"⟩ prog_2_method_8_code 3 none ∈ TT := TT_i 273 (by decide +kernel) (by decide +kernel)
theorem t_274 : Cond.methodLink "SealedBookLaw" 130 ⟨"SealedBook", "shown", "()I"⟩ ∈ TT := TT_i 274 (by decide +kernel) (by decide +kernel)
theorem t_275 : Cond.instanceMethod ⟨"SealedBook", "shown", "()I"⟩ ∈ TT := TT_i 275 (by decide +kernel) (by decide +kernel)
theorem t_276 : Cond.selects "SealedBook" ⟨"SealedBook", "shown", "()I"⟩ ⟨"SealedBook", "shown", "()I"⟩ ∈ TT := TT_i 276 (by decide +kernel) (by decide +kernel)
theorem t_277 : Cond.code ⟨"SealedBook", "shown", "()I"⟩ prog_1_method_19_code 1 (some .int) ∈ TT := TT_i 277 (by decide +kernel) (by decide +kernel)
theorem t_278 : Cond.methodLink "SealedBookLaw" 60 ⟨"SealedBookLaw", "put", "(LSealedBook;II)I"⟩ ∈ TT := TT_i 278 (by decide +kernel) (by decide +kernel)
theorem t_279 : Cond.static ⟨"SealedBookLaw", "put", "(LSealedBook;II)I"⟩ ∈ TT := TT_i 279 (by decide +kernel) (by decide +kernel)
end
section
theorem t_281 : Cond.classLink "SealedBookLaw" 13 "java/lang/IllegalArgumentException" ∈ TT := TT_i 281 (by decide +kernel) (by decide +kernel)
theorem t_282 : Cond.classLink "SealedBookLaw" 15 "java/lang/IllegalStateException" ∈ TT := TT_i 282 (by decide +kernel) (by decide +kernel)
theorem t_283 : Cond.methodLink "SealedBookLaw" 7 ⟨"SealedBook", "put", "(II)V"⟩ ∈ TT := TT_i 283 (by decide +kernel) (by decide +kernel)
theorem t_284 : Cond.instanceMethod ⟨"SealedBook", "put", "(II)V"⟩ ∈ TT := TT_i 284 (by decide +kernel) (by decide +kernel)
theorem t_285 : Cond.selects "SealedBook" ⟨"SealedBook", "put", "(II)V"⟩ ⟨"SealedBook", "put", "(II)V"⟩ ∈ TT := TT_i 285 (by decide +kernel) (by decide +kernel)
theorem t_286 : Cond.code ⟨"SealedBook", "put", "(II)V"⟩ prog_1_method_2_code 3 none ∈ TT := TT_i 286 (by decide +kernel) (by decide +kernel)
theorem t_287 : Cond.methodLink "SealedBook" 51 ⟨"SealedBook", "requireKey", "(I)V"⟩ ∈ TT := TT_i 287 (by decide +kernel) (by decide +kernel)
theorem t_288 : Cond.static ⟨"SealedBook", "requireKey", "(I)V"⟩ ∈ TT := TT_i 288 (by decide +kernel) (by decide +kernel)
theorem t_289 : Cond.code ⟨"SealedBook", "requireKey", "(I)V"⟩ prog_1_method_23_code 1 none ∈ TT := TT_i 289 (by decide +kernel) (by decide +kernel)
theorem t_290 : Cond.methodLink "SealedBook" 144 ⟨"SealedBook", "require", "(Z)V"⟩ ∈ TT := TT_i 290 (by decide +kernel) (by decide +kernel)
theorem t_291 : Cond.static ⟨"SealedBook", "require", "(Z)V"⟩ ∈ TT := TT_i 291 (by decide +kernel) (by decide +kernel)
theorem t_292 : Cond.code ⟨"SealedBook", "require", "(Z)V"⟩ prog_1_method_24_code 1 none ∈ TT := TT_i 292 (by decide +kernel) (by decide +kernel)
theorem t_293 : Cond.classLink "SealedBook" 202 "java/lang/IllegalArgumentException" ∈ TT := TT_i 293 (by decide +kernel) (by decide +kernel)
theorem t_294 : Cond.instantiable "java/lang/IllegalArgumentException" 6 ∈ TT := TT_i 294 (by decide +kernel) (by decide +kernel)
theorem t_302 : Cond.selects "java/lang/IllegalArgumentException" ⟨"java/lang/Throwable", "fillInStackTrace", "(I)Ljava/lang/Throwable;"⟩ ⟨"java/lang/Throwable", "fillInStackTrace", "(I)Ljava/lang/Throwable;"⟩ ∈ TT := TT_i 302 (by decide +kernel) (by decide +kernel)
theorem t_303 : Cond.selects "java/lang/IllegalArgumentException" ⟨"java/lang/Throwable", "fillInStackTrace", "()Ljava/lang/Throwable;"⟩ ⟨"java/lang/Throwable", "fillInStackTrace", "()Ljava/lang/Throwable;"⟩ ∈ TT := TT_i 303 (by decide +kernel) (by decide +kernel)
theorem t_304 : Cond.lays "java/lang/IllegalArgumentException" "java/lang/Throwable" "cause" "Ljava/lang/Throwable;" ∈ TT := TT_i 304 (by decide +kernel) (by decide +kernel)
theorem t_305 : Cond.lays "java/lang/Throwable" "java/lang/Throwable" "cause" "Ljava/lang/Throwable;" ∈ TT := TT_i 305 (by decide +kernel) (by decide +kernel)
theorem t_306 : Cond.lays "java/lang/IllegalArgumentException" "java/lang/Throwable" "stackTrace" "[Ljava/lang/StackTraceElement;" ∈ TT := TT_i 306 (by decide +kernel) (by decide +kernel)
theorem t_307 : Cond.lays "java/lang/Throwable" "java/lang/Throwable" "stackTrace" "[Ljava/lang/StackTraceElement;" ∈ TT := TT_i 307 (by decide +kernel) (by decide +kernel)
theorem t_308 : Cond.lays "java/lang/IllegalArgumentException" "java/lang/Throwable" "suppressedExceptions" "Ljava/util/List;" ∈ TT := TT_i 308 (by decide +kernel) (by decide +kernel)
theorem t_309 : Cond.lays "java/lang/Throwable" "java/lang/Throwable" "suppressedExceptions" "Ljava/util/List;" ∈ TT := TT_i 309 (by decide +kernel) (by decide +kernel)
theorem t_310 : Cond.lays "java/lang/IllegalArgumentException" "java/lang/Throwable" "detailMessage" "Ljava/lang/String;" ∈ TT := TT_i 310 (by decide +kernel) (by decide +kernel)
theorem t_311 : Cond.lays "java/lang/Throwable" "java/lang/Throwable" "detailMessage" "Ljava/lang/String;" ∈ TT := TT_i 311 (by decide +kernel) (by decide +kernel)
theorem t_312 : Cond.lays "java/lang/IllegalArgumentException" "java/lang/Throwable" "backtrace" "Ljava/lang/Object;" ∈ TT := TT_i 312 (by decide +kernel) (by decide +kernel)
theorem t_313 : Cond.lays "java/lang/Throwable" "java/lang/Throwable" "backtrace" "Ljava/lang/Object;" ∈ TT := TT_i 313 (by decide +kernel) (by decide +kernel)
theorem t_314 : Cond.fieldLink "java/lang/Throwable" 198 "java/lang/Throwable" "backtrace" "Ljava/lang/Object;" ∈ TT := TT_i 314 (by decide +kernel) (by decide +kernel)
theorem t_316 : Cond.instanceMethod ⟨"java/lang/Throwable", "<init>", "()V"⟩ ∈ TT := TT_i 316 (by decide +kernel) (by decide +kernel)
theorem t_317 : Cond.code ⟨"java/lang/Throwable", "<init>", "()V"⟩ prog_25_method_1_code 1 none ∈ TT := TT_i 317 (by decide +kernel) (by decide +kernel)
theorem t_318 : Cond.methodLink "java/lang/Throwable" 1 ⟨"java/lang/Object", "<init>", "()V"⟩ ∈ TT := TT_i 318 (by decide +kernel) (by decide +kernel)
theorem t_319 : Cond.fieldLink "java/lang/Throwable" 13 "java/lang/Throwable" "UNASSIGNED_STACK" "[Ljava/lang/StackTraceElement;" ∈ TT := TT_i 319 (by decide +kernel) (by decide +kernel)
theorem t_321 : Cond.fieldLink "java/lang/Throwable" 20 "java/lang/Throwable" "SUPPRESSED_SENTINEL" "Ljava/util/List;" ∈ TT := TT_i 321 (by decide +kernel) (by decide +kernel)
theorem t_323 : Cond.methodLink "java/lang/Throwable" 27 ⟨"java/lang/Throwable", "fillInStackTrace", "()Ljava/lang/Throwable;"⟩ ∈ TT := TT_i 323 (by decide +kernel) (by decide +kernel)
theorem t_324 : Cond.instanceMethod ⟨"java/lang/Throwable", "fillInStackTrace", "()Ljava/lang/Throwable;"⟩ ∈ TT := TT_i 324 (by decide +kernel) (by decide +kernel)
theorem t_325 : Cond.sameMethod "java/lang/Throwable" "java/lang/Throwable" "fillInStackTrace" "()Ljava/lang/Throwable;" ∈ TT := TT_i 325 (by decide +kernel) (by decide +kernel)
theorem t_326 : Cond.selects "java/lang/IllegalStateException" ⟨"java/lang/Throwable", "fillInStackTrace", "()Ljava/lang/Throwable;"⟩ ⟨"java/lang/Throwable", "fillInStackTrace", "()Ljava/lang/Throwable;"⟩ ∈ TT := TT_i 326 (by decide +kernel) (by decide +kernel)
theorem t_327 : Cond.selects "java/util/NoSuchElementException" ⟨"java/lang/Throwable", "fillInStackTrace", "()Ljava/lang/Throwable;"⟩ ⟨"java/lang/Throwable", "fillInStackTrace", "()Ljava/lang/Throwable;"⟩ ∈ TT := TT_i 327 (by decide +kernel) (by decide +kernel)
theorem t_329 : Cond.methodLink "java/lang/Throwable" 202 ⟨"java/lang/Throwable", "fillInStackTrace", "(I)Ljava/lang/Throwable;"⟩ ∈ TT := TT_i 329 (by decide +kernel) (by decide +kernel)
theorem t_331 : Cond.instanceMethod ⟨"java/lang/Throwable", "fillInStackTrace", "(I)Ljava/lang/Throwable;"⟩ ∈ TT := TT_i 331 (by decide +kernel) (by decide +kernel)
theorem t_332 : Cond.instantiable "java/lang/Throwable" 6 ∈ TT := TT_i 332 (by decide +kernel) (by decide +kernel)
theorem t_333 : Cond.native ⟨"java/lang/Throwable", "fillInStackTrace", "(I)Ljava/lang/Throwable;"⟩ ∈ TT := TT_i 333 (by decide +kernel) (by decide +kernel)
theorem t_335 : Cond.methodLink "SealedBook" 206 ⟨"java/lang/IllegalArgumentException", "<init>", "(Ljava/lang/String;)V"⟩ ∈ TT := TT_i 335 (by decide +kernel) (by decide +kernel)
theorem t_336 : Cond.instanceMethod ⟨"java/lang/IllegalArgumentException", "<init>", "(Ljava/lang/String;)V"⟩ ∈ TT := TT_i 336 (by decide +kernel) (by decide +kernel)
theorem t_337 : Cond.code ⟨"java/lang/IllegalArgumentException", "<init>", "(Ljava/lang/String;)V"⟩ prog_15_method_2_code 2 none ∈ TT := TT_i 337 (by decide +kernel) (by decide +kernel)
theorem t_338 : Cond.methodLink "java/lang/IllegalArgumentException" 7 ⟨"java/lang/RuntimeException", "<init>", "(Ljava/lang/String;)V"⟩ ∈ TT := TT_i 338 (by decide +kernel) (by decide +kernel)
theorem t_339 : Cond.instanceMethod ⟨"java/lang/RuntimeException", "<init>", "(Ljava/lang/String;)V"⟩ ∈ TT := TT_i 339 (by decide +kernel) (by decide +kernel)
theorem t_340 : Cond.code ⟨"java/lang/RuntimeException", "<init>", "(Ljava/lang/String;)V"⟩ prog_19_method_2_code 2 none ∈ TT := TT_i 340 (by decide +kernel) (by decide +kernel)
theorem t_341 : Cond.methodLink "java/lang/RuntimeException" 7 ⟨"java/lang/Exception", "<init>", "(Ljava/lang/String;)V"⟩ ∈ TT := TT_i 341 (by decide +kernel) (by decide +kernel)
theorem t_342 : Cond.instanceMethod ⟨"java/lang/Exception", "<init>", "(Ljava/lang/String;)V"⟩ ∈ TT := TT_i 342 (by decide +kernel) (by decide +kernel)
theorem t_343 : Cond.code ⟨"java/lang/Exception", "<init>", "(Ljava/lang/String;)V"⟩ prog_14_method_2_code 2 none ∈ TT := TT_i 343 (by decide +kernel) (by decide +kernel)
theorem t_344 : Cond.methodLink "java/lang/Exception" 7 ⟨"java/lang/Throwable", "<init>", "(Ljava/lang/String;)V"⟩ ∈ TT := TT_i 344 (by decide +kernel) (by decide +kernel)
theorem t_345 : Cond.instanceMethod ⟨"java/lang/Throwable", "<init>", "(Ljava/lang/String;)V"⟩ ∈ TT := TT_i 345 (by decide +kernel) (by decide +kernel)
theorem t_346 : Cond.code ⟨"java/lang/Throwable", "<init>", "(Ljava/lang/String;)V"⟩ prog_25_method_2_code 2 none ∈ TT := TT_i 346 (by decide +kernel) (by decide +kernel)
theorem t_348 : Cond.fieldLink "java/lang/Throwable" 31 "java/lang/Throwable" "detailMessage" "Ljava/lang/String;" ∈ TT := TT_i 348 (by decide +kernel) (by decide +kernel)
theorem t_349 : Cond.fieldLink "java/lang/Throwable" 7 "java/lang/Throwable" "cause" "Ljava/lang/Throwable;" ∈ TT := TT_i 349 (by decide +kernel) (by decide +kernel)
theorem t_350 : Cond.fieldLink "java/lang/Throwable" 17 "java/lang/Throwable" "stackTrace" "[Ljava/lang/StackTraceElement;" ∈ TT := TT_i 350 (by decide +kernel) (by decide +kernel)
theorem t_351 : Cond.fieldLink "java/lang/Throwable" 24 "java/lang/Throwable" "suppressedExceptions" "Ljava/util/List;" ∈ TT := TT_i 351 (by decide +kernel) (by decide +kernel)
theorem t_356 : Cond.lays "java/lang/IllegalArgumentException" "java/lang/Throwable" "depth" "I" ∈ TT := TT_i 356 (by decide +kernel) (by decide +kernel)
theorem t_360 : Cond.arrayClass .byte ∈ TT := TT_i 360 (by decide +kernel) (by decide +kernel)
theorem t_361 : Cond.methodLink "SealedBook" 55 ⟨"SealedBook", "requireRoom", "()V"⟩ ∈ TT := TT_i 361 (by decide +kernel) (by decide +kernel)
theorem t_363 : Cond.instanceMethod ⟨"SealedBook", "requireRoom", "()V"⟩ ∈ TT := TT_i 363 (by decide +kernel) (by decide +kernel)
theorem t_364 : Cond.code ⟨"SealedBook", "requireRoom", "()V"⟩ prog_1_method_21_code 1 none ∈ TT := TT_i 364 (by decide +kernel) (by decide +kernel)
theorem t_365 : Cond.classLink "SealedBook" 195 "java/lang/IllegalStateException" ∈ TT := TT_i 365 (by decide +kernel) (by decide +kernel)
theorem t_366 : Cond.instantiable "java/lang/IllegalStateException" 6 ∈ TT := TT_i 366 (by decide +kernel) (by decide +kernel)
theorem t_368 : Cond.selects "java/lang/IllegalStateException" ⟨"java/lang/Throwable", "fillInStackTrace", "(I)Ljava/lang/Throwable;"⟩ ⟨"java/lang/Throwable", "fillInStackTrace", "(I)Ljava/lang/Throwable;"⟩ ∈ TT := TT_i 368 (by decide +kernel) (by decide +kernel)
theorem t_369 : Cond.lays "java/lang/IllegalStateException" "java/lang/Throwable" "cause" "Ljava/lang/Throwable;" ∈ TT := TT_i 369 (by decide +kernel) (by decide +kernel)
theorem t_370 : Cond.lays "java/lang/IllegalStateException" "java/lang/Throwable" "stackTrace" "[Ljava/lang/StackTraceElement;" ∈ TT := TT_i 370 (by decide +kernel) (by decide +kernel)
theorem t_371 : Cond.lays "java/lang/IllegalStateException" "java/lang/Throwable" "suppressedExceptions" "Ljava/util/List;" ∈ TT := TT_i 371 (by decide +kernel) (by decide +kernel)
theorem t_372 : Cond.lays "java/lang/IllegalStateException" "java/lang/Throwable" "detailMessage" "Ljava/lang/String;" ∈ TT := TT_i 372 (by decide +kernel) (by decide +kernel)
theorem t_373 : Cond.lays "java/lang/IllegalStateException" "java/lang/Throwable" "backtrace" "Ljava/lang/Object;" ∈ TT := TT_i 373 (by decide +kernel) (by decide +kernel)
theorem t_375 : Cond.methodLink "SealedBook" 199 ⟨"java/lang/IllegalStateException", "<init>", "(Ljava/lang/String;)V"⟩ ∈ TT := TT_i 375 (by decide +kernel) (by decide +kernel)
theorem t_376 : Cond.instanceMethod ⟨"java/lang/IllegalStateException", "<init>", "(Ljava/lang/String;)V"⟩ ∈ TT := TT_i 376 (by decide +kernel) (by decide +kernel)
theorem t_377 : Cond.code ⟨"java/lang/IllegalStateException", "<init>", "(Ljava/lang/String;)V"⟩ prog_16_method_2_code 2 none ∈ TT := TT_i 377 (by decide +kernel) (by decide +kernel)
theorem t_378 : Cond.methodLink "java/lang/IllegalStateException" 7 ⟨"java/lang/RuntimeException", "<init>", "(Ljava/lang/String;)V"⟩ ∈ TT := TT_i 378 (by decide +kernel) (by decide +kernel)
theorem t_379 : Cond.lays "java/lang/IllegalStateException" "java/lang/Throwable" "depth" "I" ∈ TT := TT_i 379 (by decide +kernel) (by decide +kernel)
theorem t_381 : Cond.methodLink "SealedBook" 58 ⟨"SealedBook$Transaction", "set", "(II)V"⟩ ∈ TT := TT_i 381 (by decide +kernel) (by decide +kernel)
theorem t_382 : Cond.instanceMethod ⟨"SealedBook$Transaction", "set", "(II)V"⟩ ∈ TT := TT_i 382 (by decide +kernel) (by decide +kernel)
theorem t_383 : Cond.selects "SealedBook$Transaction" ⟨"SealedBook$Transaction", "set", "(II)V"⟩ ⟨"SealedBook$Transaction", "set", "(II)V"⟩ ∈ TT := TT_i 383 (by decide +kernel) (by decide +kernel)
theorem t_384 : Cond.code ⟨"SealedBook$Transaction", "set", "(II)V"⟩ prog_8_method_2_code 3 none ∈ TT := TT_i 384 (by decide +kernel) (by decide +kernel)
theorem t_385 : Cond.methodLink "SealedBookLaw" 69 ⟨"SealedBookLaw", "delete", "(LSealedBook;I[J)I"⟩ ∈ TT := TT_i 385 (by decide +kernel) (by decide +kernel)
theorem t_386 : Cond.static ⟨"SealedBookLaw", "delete", "(LSealedBook;I[J)I"⟩ ∈ TT := TT_i 386 (by decide +kernel) (by decide +kernel)
theorem t_388 : Cond.methodLink "SealedBookLaw" 17 ⟨"SealedBook", "delete", "(I)Z"⟩ ∈ TT := TT_i 388 (by decide +kernel) (by decide +kernel)
theorem t_389 : Cond.instanceMethod ⟨"SealedBook", "delete", "(I)Z"⟩ ∈ TT := TT_i 389 (by decide +kernel) (by decide +kernel)
theorem t_390 : Cond.selects "SealedBook" ⟨"SealedBook", "delete", "(I)Z"⟩ ⟨"SealedBook", "delete", "(I)Z"⟩ ∈ TT := TT_i 390 (by decide +kernel) (by decide +kernel)
theorem t_391 : Cond.code ⟨"SealedBook", "delete", "(I)Z"⟩ prog_1_method_3_code 2 (some .boolean) ∈ TT := TT_i 391 (by decide +kernel) (by decide +kernel)
theorem t_392 : Cond.methodLink "SealedBook" 62 ⟨"SealedBook$Transaction", "unset", "(I)Z"⟩ ∈ TT := TT_i 392 (by decide +kernel) (by decide +kernel)
theorem t_393 : Cond.instanceMethod ⟨"SealedBook$Transaction", "unset", "(I)Z"⟩ ∈ TT := TT_i 393 (by decide +kernel) (by decide +kernel)
theorem t_394 : Cond.selects "SealedBook$Transaction" ⟨"SealedBook$Transaction", "unset", "(I)Z"⟩ ⟨"SealedBook$Transaction", "unset", "(I)Z"⟩ ∈ TT := TT_i 394 (by decide +kernel) (by decide +kernel)
theorem t_395 : Cond.code ⟨"SealedBook$Transaction", "unset", "(I)Z"⟩ prog_8_method_3_code 3 (some .boolean) ∈ TT := TT_i 395 (by decide +kernel) (by decide +kernel)
theorem t_396 : Cond.methodLink "SealedBookLaw" 73 ⟨"SealedBookLaw", "commit", "(LSealedBook;[J)I"⟩ ∈ TT := TT_i 396 (by decide +kernel) (by decide +kernel)
theorem t_397 : Cond.static ⟨"SealedBookLaw", "commit", "(LSealedBook;[J)I"⟩ ∈ TT := TT_i 397 (by decide +kernel) (by decide +kernel)
theorem t_399 : Cond.methodLink "SealedBookLaw" 21 ⟨"SealedBook", "commit", "()I"⟩ ∈ TT := TT_i 399 (by decide +kernel) (by decide +kernel)
theorem t_400 : Cond.instanceMethod ⟨"SealedBook", "commit", "()I"⟩ ∈ TT := TT_i 400 (by decide +kernel) (by decide +kernel)
theorem t_401 : Cond.selects "SealedBook" ⟨"SealedBook", "commit", "()I"⟩ ⟨"SealedBook", "commit", "()I"⟩ ∈ TT := TT_i 401 (by decide +kernel) (by decide +kernel)
theorem t_402 : Cond.code ⟨"SealedBook", "commit", "()I"⟩ prog_1_method_4_code 1 (some .int) ∈ TT := TT_i 402 (by decide +kernel) (by decide +kernel)
theorem t_403 : Cond.methodLink "SealedBook" 66 ⟨"SealedBook$Transaction", "listInto", "(LSealedBook$Row;)V"⟩ ∈ TT := TT_i 403 (by decide +kernel) (by decide +kernel)
theorem t_404 : Cond.instanceMethod ⟨"SealedBook$Transaction", "listInto", "(LSealedBook$Row;)V"⟩ ∈ TT := TT_i 404 (by decide +kernel) (by decide +kernel)
theorem t_405 : Cond.selects "SealedBook$Transaction" ⟨"SealedBook$Transaction", "listInto", "(LSealedBook$Row;)V"⟩ ⟨"SealedBook$Transaction", "listInto", "(LSealedBook$Row;)V"⟩ ∈ TT := TT_i 405 (by decide +kernel) (by decide +kernel)
theorem t_406 : Cond.code ⟨"SealedBook$Transaction", "listInto", "(LSealedBook$Row;)V"⟩ prog_8_method_5_code 4 none ∈ TT := TT_i 406 (by decide +kernel) (by decide +kernel)
theorem t_407 : Cond.methodLink "SealedBook$Transaction" 31 ⟨"SealedBook$Row", "set", "(IIILSealedBook$Chunk;)V"⟩ ∈ TT := TT_i 407 (by decide +kernel) (by decide +kernel)
theorem t_408 : Cond.instanceMethod ⟨"SealedBook$Row", "set", "(IIILSealedBook$Chunk;)V"⟩ ∈ TT := TT_i 408 (by decide +kernel) (by decide +kernel)
theorem t_409 : Cond.selects "SealedBook$Row" ⟨"SealedBook$Row", "set", "(IIILSealedBook$Chunk;)V"⟩ ⟨"SealedBook$Row", "set", "(IIILSealedBook$Chunk;)V"⟩ ∈ TT := TT_i 409 (by decide +kernel) (by decide +kernel)
theorem t_410 : Cond.code ⟨"SealedBook$Row", "set", "(IIILSealedBook$Chunk;)V"⟩ prog_6_method_2_code 5 none ∈ TT := TT_i 410 (by decide +kernel) (by decide +kernel)
theorem t_411 : Cond.methodLink "SealedBook" 70 ⟨"SealedBook$Store", "keepTree", "(LSealedBook$Row;)Z"⟩ ∈ TT := TT_i 411 (by decide +kernel) (by decide +kernel)
theorem t_412 : Cond.instanceMethod ⟨"SealedBook$Store", "keepTree", "(LSealedBook$Row;)Z"⟩ ∈ TT := TT_i 412 (by decide +kernel) (by decide +kernel)
theorem t_413 : Cond.selects "SealedBook$Store" ⟨"SealedBook$Store", "keepTree", "(LSealedBook$Row;)Z"⟩ ⟨"SealedBook$Store", "keepTree", "(LSealedBook$Row;)Z"⟩ ∈ TT := TT_i 413 (by decide +kernel) (by decide +kernel)
theorem t_414 : Cond.code ⟨"SealedBook$Store", "keepTree", "(LSealedBook$Row;)Z"⟩ prog_7_method_2_code 4 (some .boolean) ∈ TT := TT_i 414 (by decide +kernel) (by decide +kernel)
theorem t_415 : Cond.methodLink "SealedBook$Store" 27 ⟨"SealedBook$Store", "keepLevel", "(LSealedBook$Row;I)Z"⟩ ∈ TT := TT_i 415 (by decide +kernel) (by decide +kernel)
theorem t_417 : Cond.instanceMethod ⟨"SealedBook$Store", "keepLevel", "(LSealedBook$Row;I)Z"⟩ ∈ TT := TT_i 417 (by decide +kernel) (by decide +kernel)
theorem t_418 : Cond.code ⟨"SealedBook$Store", "keepLevel", "(LSealedBook$Row;I)Z"⟩ prog_7_method_3_code 8 (some .boolean) ∈ TT := TT_i 418 (by decide +kernel) (by decide +kernel)
theorem t_420 : Cond.static ⟨"SealedBook", "endsChunk", "(II)Z"⟩ ∈ TT := TT_i 420 (by decide +kernel) (by decide +kernel)
theorem t_421 : Cond.code ⟨"SealedBook", "endsChunk", "(II)Z"⟩ prog_1_method_30_code 2 (some .boolean) ∈ TT := TT_i 421 (by decide +kernel) (by decide +kernel)
theorem t_422 : Cond.methodLink "SealedBook" 213 ⟨"SealedBook", "mix", "(II)I"⟩ ∈ TT := TT_i 422 (by decide +kernel) (by decide +kernel)
theorem t_423 : Cond.static ⟨"SealedBook", "mix", "(II)I"⟩ ∈ TT := TT_i 423 (by decide +kernel) (by decide +kernel)
theorem t_424 : Cond.code ⟨"SealedBook", "mix", "(II)I"⟩ prog_1_method_26_code 3 (some .int) ∈ TT := TT_i 424 (by decide +kernel) (by decide +kernel)
theorem t_425 : Cond.constant "SealedBook" 212 73244475 ∈ TT := TT_i 425 (by decide +kernel) (by decide +kernel)
theorem t_426 : Cond.methodLink "SealedBook$Store" 39 ⟨"SealedBook$Store", "keep", "(LSealedBook$Row;III)LSealedBook$Chunk;"⟩ ∈ TT := TT_i 426 (by decide +kernel) (by decide +kernel)
theorem t_428 : Cond.instanceMethod ⟨"SealedBook$Store", "keep", "(LSealedBook$Row;III)LSealedBook$Chunk;"⟩ ∈ TT := TT_i 428 (by decide +kernel) (by decide +kernel)
theorem t_429 : Cond.code ⟨"SealedBook$Store", "keep", "(LSealedBook$Row;III)LSealedBook$Chunk;"⟩ prog_7_method_4_code 8 (some (.object "SealedBook$Chunk")) ∈ TT := TT_i 429 (by decide +kernel) (by decide +kernel)
theorem t_430 : Cond.methodLink "SealedBook$Store" 50 ⟨"SealedBook$Row", "hashOf", "(III)I"⟩ ∈ TT := TT_i 430 (by decide +kernel) (by decide +kernel)
theorem t_431 : Cond.instanceMethod ⟨"SealedBook$Row", "hashOf", "(III)I"⟩ ∈ TT := TT_i 431 (by decide +kernel) (by decide +kernel)
theorem t_432 : Cond.selects "SealedBook$Row" ⟨"SealedBook$Row", "hashOf", "(III)I"⟩ ⟨"SealedBook$Row", "hashOf", "(III)I"⟩ ∈ TT := TT_i 432 (by decide +kernel) (by decide +kernel)
theorem t_433 : Cond.code ⟨"SealedBook$Row", "hashOf", "(III)I"⟩ prog_6_method_4_code 6 (some .int) ∈ TT := TT_i 433 (by decide +kernel) (by decide +kernel)
theorem t_435 : Cond.methodLink "SealedBook$Store" 57 ⟨"SealedBook$Row", "matches", "(LSealedBook$Chunk;II)Z"⟩ ∈ TT := TT_i 435 (by decide +kernel) (by decide +kernel)
theorem t_436 : Cond.instanceMethod ⟨"SealedBook$Row", "matches", "(LSealedBook$Chunk;II)Z"⟩ ∈ TT := TT_i 436 (by decide +kernel) (by decide +kernel)
theorem t_437 : Cond.selects "SealedBook$Row" ⟨"SealedBook$Row", "matches", "(LSealedBook$Chunk;II)Z"⟩ ⟨"SealedBook$Row", "matches", "(LSealedBook$Chunk;II)Z"⟩ ∈ TT := TT_i 437 (by decide +kernel) (by decide +kernel)
theorem t_438 : Cond.code ⟨"SealedBook$Row", "matches", "(LSealedBook$Chunk;II)Z"⟩ prog_6_method_5_code 6 (some .boolean) ∈ TT := TT_i 438 (by decide +kernel) (by decide +kernel)
theorem t_439 : Cond.methodLink "SealedBook$Store" 65 ⟨"SealedBook$Store", "write", "()Z"⟩ ∈ TT := TT_i 439 (by decide +kernel) (by decide +kernel)
theorem t_440 : Cond.instanceMethod ⟨"SealedBook$Store", "write", "()Z"⟩ ∈ TT := TT_i 440 (by decide +kernel) (by decide +kernel)
theorem t_441 : Cond.selects "SealedBook$Store" ⟨"SealedBook$Store", "write", "()Z"⟩ ⟨"SealedBook$Store", "write", "()Z"⟩ ∈ TT := TT_i 441 (by decide +kernel) (by decide +kernel)
theorem t_442 : Cond.code ⟨"SealedBook$Store", "write", "()Z"⟩ prog_7_method_5_code 1 (some .boolean) ∈ TT := TT_i 442 (by decide +kernel) (by decide +kernel)
theorem t_443 : Cond.instantiable "SealedBook$Chunk" 6 ∈ TT := TT_i 443 (by decide +kernel) (by decide +kernel)
theorem t_444 : Cond.methodLink "SealedBook$Store" 69 ⟨"SealedBook$Chunk", "<init>", "(LSealedBook$Row;IIIILSealedBook$Chunk;)V"⟩ ∈ TT := TT_i 444 (by decide +kernel) (by decide +kernel)
theorem t_445 : Cond.instanceMethod ⟨"SealedBook$Chunk", "<init>", "(LSealedBook$Row;IIIILSealedBook$Chunk;)V"⟩ ∈ TT := TT_i 445 (by decide +kernel) (by decide +kernel)
theorem t_446 : Cond.code ⟨"SealedBook$Chunk", "<init>", "(LSealedBook$Row;IIIILSealedBook$Chunk;)V"⟩ prog_3_method_1_code 8 none ∈ TT := TT_i 446 (by decide +kernel) (by decide +kernel)
theorem t_447 : Cond.methodLink "SealedBook$Chunk" 1 ⟨"java/lang/Object", "<init>", "()V"⟩ ∈ TT := TT_i 447 (by decide +kernel) (by decide +kernel)
theorem t_448 : Cond.methodLink "SealedBook$Chunk" 26 ⟨"java/util/Arrays", "copyOfRange", "([III)[I"⟩ ∈ TT := TT_i 448 (by decide +kernel) (by decide +kernel)
theorem t_449 : Cond.static ⟨"java/util/Arrays", "copyOfRange", "([III)[I"⟩ ∈ TT := TT_i 449 (by decide +kernel) (by decide +kernel)
theorem t_450 : Cond.code ⟨"java/util/Arrays", "copyOfRange", "([III)[I"⟩ prog_26_method_136_code 3 (some (.array .int)) ∈ TT := TT_i 450 (by decide +kernel) (by decide +kernel)
theorem t_451 : Cond.methodLink "java/util/Arrays" 351 ⟨"java/util/Arrays", "copyOfRangeInt", "([III)[I"⟩ ∈ TT := TT_i 451 (by decide +kernel) (by decide +kernel)
theorem t_452 : Cond.static ⟨"java/util/Arrays", "copyOfRangeInt", "([III)[I"⟩ ∈ TT := TT_i 452 (by decide +kernel) (by decide +kernel)
theorem t_453 : Cond.code ⟨"java/util/Arrays", "copyOfRangeInt", "([III)[I"⟩ prog_26_method_137_code 5 (some (.array .int)) ∈ TT := TT_i 453 (by decide +kernel) (by decide +kernel)
theorem t_454 : Cond.methodLink "java/util/Arrays" 343 ⟨"java/util/Arrays", "checkLength", "(II)V"⟩ ∈ TT := TT_i 454 (by decide +kernel) (by decide +kernel)
theorem t_455 : Cond.static ⟨"java/util/Arrays", "checkLength", "(II)V"⟩ ∈ TT := TT_i 455 (by decide +kernel) (by decide +kernel)
theorem t_456 : Cond.code ⟨"java/util/Arrays", "checkLength", "(II)V"⟩ prog_26_method_131_code 2 none ∈ TT := TT_i 456 (by decide +kernel) (by decide +kernel)
theorem t_457 : Cond.classLink "java/util/Arrays" 43 "java/lang/IllegalArgumentException" ∈ TT := TT_i 457 (by decide +kernel) (by decide +kernel)
theorem t_511 : Cond.static ⟨"java/lang/Math", "max", "(II)I"⟩ ∈ TT := TT_i 511 (by decide +kernel) (by decide +kernel)
theorem t_512 : Cond.code ⟨"java/lang/Math", "max", "(II)I"⟩ prog_18_method_65_code 2 (some .int) ∈ TT := TT_i 512 (by decide +kernel) (by decide +kernel)
theorem t_519 : Cond.static ⟨"java/util/Arrays", "copyOf", "([BI)[B"⟩ ∈ TT := TT_i 519 (by decide +kernel) (by decide +kernel)
theorem t_520 : Cond.code ⟨"java/util/Arrays", "copyOf", "([BI)[B"⟩ prog_26_method_121_code 3 (some (.array .byte)) ∈ TT := TT_i 520 (by decide +kernel) (by decide +kernel)
theorem t_521 : Cond.methodLink "java/util/Arrays" 310 ⟨"[B", "clone", "()Ljava/lang/Object;"⟩ ∈ TT := TT_i 521 (by decide +kernel) (by decide +kernel)
theorem t_522 : Cond.sameMethod "[B" "java/lang/Object" "clone" "()Ljava/lang/Object;" ∈ TT := TT_i 522 (by decide +kernel) (by decide +kernel)
theorem t_523 : Cond.native ⟨"java/lang/Object", "clone", "()Ljava/lang/Object;"⟩ ∈ TT := TT_i 523 (by decide +kernel) (by decide +kernel)
theorem t_524 : Cond.instanceMethod ⟨"java/lang/Object", "clone", "()Ljava/lang/Object;"⟩ ∈ TT := TT_i 524 (by decide +kernel) (by decide +kernel)
theorem t_525 : Cond.selects "[B" ⟨"[B", "clone", "()Ljava/lang/Object;"⟩ ⟨"java/lang/Object", "clone", "()Ljava/lang/Object;"⟩ ∈ TT := TT_i 525 (by decide +kernel) (by decide +kernel)
theorem t_527 : Cond.classLink "java/util/Arrays" 311 "[B" ∈ TT := TT_i 527 (by decide +kernel) (by decide +kernel)
theorem t_528 : Cond.methodLink "java/util/Arrays" 304 ⟨"java/lang/Math", "min", "(II)I"⟩ ∈ TT := TT_i 528 (by decide +kernel) (by decide +kernel)
theorem t_529 : Cond.static ⟨"java/lang/Math", "min", "(II)I"⟩ ∈ TT := TT_i 529 (by decide +kernel) (by decide +kernel)
theorem t_530 : Cond.code ⟨"java/lang/Math", "min", "(II)I"⟩ prog_18_method_69_code 2 (some .int) ∈ TT := TT_i 530 (by decide +kernel) (by decide +kernel)
theorem t_531 : Cond.methodLink "java/util/Arrays" 150 ⟨"java/lang/System", "arraycopy", "(Ljava/lang/Object;ILjava/lang/Object;II)V"⟩ ∈ TT := TT_i 531 (by decide +kernel) (by decide +kernel)
theorem t_661 : Cond.static ⟨"java/util/Arrays", "copyOfRange", "([BII)[B"⟩ ∈ TT := TT_i 661 (by decide +kernel) (by decide +kernel)
theorem t_662 : Cond.code ⟨"java/util/Arrays", "copyOfRange", "([BII)[B"⟩ prog_26_method_132_code 3 (some (.array .byte)) ∈ TT := TT_i 662 (by decide +kernel) (by decide +kernel)
theorem t_663 : Cond.methodLink "java/util/Arrays" 339 ⟨"java/util/Arrays", "copyOfRangeByte", "([BII)[B"⟩ ∈ TT := TT_i 663 (by decide +kernel) (by decide +kernel)
theorem t_664 : Cond.static ⟨"java/util/Arrays", "copyOfRangeByte", "([BII)[B"⟩ ∈ TT := TT_i 664 (by decide +kernel) (by decide +kernel)
theorem t_665 : Cond.code ⟨"java/util/Arrays", "copyOfRangeByte", "([BII)[B"⟩ prog_26_method_133_code 5 (some (.array .byte)) ∈ TT := TT_i 665 (by decide +kernel) (by decide +kernel)
theorem t_690 : Cond.methodLink "java/util/Arrays" 65 ⟨"java/lang/IllegalArgumentException", "<init>", "(Ljava/lang/String;)V"⟩ ∈ TT := TT_i 690 (by decide +kernel) (by decide +kernel)
theorem t_691 : Cond.methodLink "java/util/Arrays" 316 ⟨"[I", "clone", "()Ljava/lang/Object;"⟩ ∈ TT := TT_i 691 (by decide +kernel) (by decide +kernel)
theorem t_692 : Cond.sameMethod "[I" "java/lang/Object" "clone" "()Ljava/lang/Object;" ∈ TT := TT_i 692 (by decide +kernel) (by decide +kernel)
theorem t_693 : Cond.selects "[I" ⟨"[I", "clone", "()Ljava/lang/Object;"⟩ ⟨"java/lang/Object", "clone", "()Ljava/lang/Object;"⟩ ∈ TT := TT_i 693 (by decide +kernel) (by decide +kernel)
theorem t_695 : Cond.classLink "java/util/Arrays" 317 "[I" ∈ TT := TT_i 695 (by decide +kernel) (by decide +kernel)
theorem t_696 : Cond.classLink "SealedBook$Chunk" 8 "SealedBook$Chunk" ∈ TT := TT_i 696 (by decide +kernel) (by decide +kernel)
theorem t_697 : Cond.fieldLink "SealedBook$Chunk" 7 "SealedBook$Chunk" "level" "I" ∈ TT := TT_i 697 (by decide +kernel) (by decide +kernel)
theorem t_698 : Cond.fieldLink "SealedBook$Prover" 36 "SealedBook$Chunk" "level" "I" ∈ TT := TT_i 698 (by decide +kernel) (by decide +kernel)
theorem t_699 : Cond.fieldLink "SealedBook$Store" 54 "SealedBook$Chunk" "level" "I" ∈ TT := TT_i 699 (by decide +kernel) (by decide +kernel)
theorem t_700 : Cond.fieldLink "SealedBook$Chunk" 13 "SealedBook$Chunk" "hash" "I" ∈ TT := TT_i 700 (by decide +kernel) (by decide +kernel)
theorem t_701 : Cond.fieldLink "SealedBook$History" 21 "SealedBook$Chunk" "hash" "I" ∈ TT := TT_i 701 (by decide +kernel) (by decide +kernel)
theorem t_702 : Cond.fieldLink "SealedBook$Store" 43 "SealedBook$Chunk" "hash" "I" ∈ TT := TT_i 702 (by decide +kernel) (by decide +kernel)
theorem t_703 : Cond.fieldLink "SealedBook$Chunk" 32 "SealedBook$Chunk" "keys" "[I" ∈ TT := TT_i 703 (by decide +kernel) (by decide +kernel)
theorem t_704 : Cond.fieldLink "SealedBook$Row" 32 "SealedBook$Chunk" "keys" "[I" ∈ TT := TT_i 704 (by decide +kernel) (by decide +kernel)
theorem t_705 : Cond.fieldLink "SealedBook$Prover" 66 "SealedBook$Chunk" "keys" "[I" ∈ TT := TT_i 705 (by decide +kernel) (by decide +kernel)
theorem t_706 : Cond.fieldLink "SealedBook" 222 "SealedBook$Chunk" "keys" "[I" ∈ TT := TT_i 706 (by decide +kernel) (by decide +kernel)
theorem t_707 : Cond.fieldLink "SealedBook$Chunk" 36 "SealedBook$Chunk" "values" "[I" ∈ TT := TT_i 707 (by decide +kernel) (by decide +kernel)
theorem t_708 : Cond.fieldLink "SealedBook$Prover" 70 "SealedBook$Chunk" "values" "[I" ∈ TT := TT_i 708 (by decide +kernel) (by decide +kernel)
theorem t_709 : Cond.fieldLink "SealedBook$Row" 33 "SealedBook$Chunk" "values" "[I" ∈ TT := TT_i 709 (by decide +kernel) (by decide +kernel)
theorem t_710 : Cond.fieldLink "SealedBook" 228 "SealedBook$Chunk" "values" "[I" ∈ TT := TT_i 710 (by decide +kernel) (by decide +kernel)
theorem t_711 : Cond.fieldLink "SealedBook$Chunk" 37 "SealedBook$Chunk" "below" "[LSealedBook$Chunk;" ∈ TT := TT_i 711 (by decide +kernel) (by decide +kernel)
theorem t_712 : Cond.fieldLink "SealedBook$Row" 34 "SealedBook$Chunk" "below" "[LSealedBook$Chunk;" ∈ TT := TT_i 712 (by decide +kernel) (by decide +kernel)
theorem t_713 : Cond.fieldLink "SealedBook$Chunk" 16 "SealedBook$Chunk" "older" "LSealedBook$Chunk;" ∈ TT := TT_i 713 (by decide +kernel) (by decide +kernel)
theorem t_714 : Cond.fieldLink "SealedBook$Store" 61 "SealedBook$Chunk" "older" "LSealedBook$Chunk;" ∈ TT := TT_i 714 (by decide +kernel) (by decide +kernel)
theorem t_715 : Cond.laysFinal "SealedBook$Chunk" "SealedBook$Chunk" "level" "I" ∈ TT := TT_i 715 (by decide +kernel) (by decide +kernel)
theorem t_717 : Cond.laysFinal "SealedBook$Chunk" "SealedBook$Chunk" "hash" "I" ∈ TT := TT_i 717 (by decide +kernel) (by decide +kernel)
theorem t_719 : Cond.laysFinal "SealedBook$Chunk" "SealedBook$Chunk" "keys" "[I" ∈ TT := TT_i 719 (by decide +kernel) (by decide +kernel)
theorem t_721 : Cond.laysFinal "SealedBook$Chunk" "SealedBook$Chunk" "values" "[I" ∈ TT := TT_i 721 (by decide +kernel) (by decide +kernel)
theorem t_723 : Cond.laysFinal "SealedBook$Chunk" "SealedBook$Chunk" "below" "[LSealedBook$Chunk;" ∈ TT := TT_i 723 (by decide +kernel) (by decide +kernel)
theorem t_725 : Cond.laysFinal "SealedBook$Chunk" "SealedBook$Chunk" "older" "LSealedBook$Chunk;" ∈ TT := TT_i 725 (by decide +kernel) (by decide +kernel)
theorem t_728 : Cond.methodLink "SealedBook$Store" 46 ⟨"SealedBook$Row", "set", "(IIILSealedBook$Chunk;)V"⟩ ∈ TT := TT_i 728 (by decide +kernel) (by decide +kernel)
theorem t_729 : Cond.methodLink "SealedBook" 74 ⟨"SealedBook$Store", "write", "()Z"⟩ ∈ TT := TT_i 729 (by decide +kernel) (by decide +kernel)
theorem t_730 : Cond.methodLink "SealedBook" 78 ⟨"SealedBook", "rollback", "()V"⟩ ∈ TT := TT_i 730 (by decide +kernel) (by decide +kernel)
theorem t_731 : Cond.methodLink "SealedBook" 81 ⟨"SealedBook$Row", "top", "()LSealedBook$Chunk;"⟩ ∈ TT := TT_i 731 (by decide +kernel) (by decide +kernel)
theorem t_732 : Cond.instanceMethod ⟨"SealedBook$Row", "top", "()LSealedBook$Chunk;"⟩ ∈ TT := TT_i 732 (by decide +kernel) (by decide +kernel)
theorem t_733 : Cond.selects "SealedBook$Row" ⟨"SealedBook$Row", "top", "()LSealedBook$Chunk;"⟩ ⟨"SealedBook$Row", "top", "()LSealedBook$Chunk;"⟩ ∈ TT := TT_i 733 (by decide +kernel) (by decide +kernel)
theorem t_734 : Cond.code ⟨"SealedBook$Row", "top", "()LSealedBook$Chunk;"⟩ prog_6_method_3_code 1 (some (.object "SealedBook$Chunk")) ∈ TT := TT_i 734 (by decide +kernel) (by decide +kernel)
theorem t_735 : Cond.methodLink "SealedBook" 85 ⟨"SealedBook$History", "add", "(LSealedBook$Chunk;)V"⟩ ∈ TT := TT_i 735 (by decide +kernel) (by decide +kernel)
theorem t_736 : Cond.instanceMethod ⟨"SealedBook$History", "add", "(LSealedBook$Chunk;)V"⟩ ∈ TT := TT_i 736 (by decide +kernel) (by decide +kernel)
theorem t_737 : Cond.selects "SealedBook$History" ⟨"SealedBook$History", "add", "(LSealedBook$Chunk;)V"⟩ ⟨"SealedBook$History", "add", "(LSealedBook$Chunk;)V"⟩ ∈ TT := TT_i 737 (by decide +kernel) (by decide +kernel)
theorem t_738 : Cond.code ⟨"SealedBook$History", "add", "(LSealedBook$Chunk;)V"⟩ prog_4_method_2_code 2 none ∈ TT := TT_i 738 (by decide +kernel) (by decide +kernel)
theorem t_739 : Cond.methodLink "SealedBookLaw" 93 ⟨"SealedBookLaw", "get", "(LSealedBook;II[J)I"⟩ ∈ TT := TT_i 739 (by decide +kernel) (by decide +kernel)
theorem t_740 : Cond.static ⟨"SealedBookLaw", "get", "(LSealedBook;II[J)I"⟩ ∈ TT := TT_i 740 (by decide +kernel) (by decide +kernel)
theorem t_742 : Cond.classLink "SealedBookLaw" 29 "java/util/NoSuchElementException" ∈ TT := TT_i 742 (by decide +kernel) (by decide +kernel)
theorem t_743 : Cond.methodLink "SealedBookLaw" 25 ⟨"SealedBook", "get", "(II)I"⟩ ∈ TT := TT_i 743 (by decide +kernel) (by decide +kernel)
theorem t_744 : Cond.instanceMethod ⟨"SealedBook", "get", "(II)I"⟩ ∈ TT := TT_i 744 (by decide +kernel) (by decide +kernel)
theorem t_745 : Cond.selects "SealedBook" ⟨"SealedBook", "get", "(II)I"⟩ ⟨"SealedBook", "get", "(II)I"⟩ ∈ TT := TT_i 745 (by decide +kernel) (by decide +kernel)
theorem t_746 : Cond.code ⟨"SealedBook", "get", "(II)I"⟩ prog_1_method_9_code 4 (some .int) ∈ TT := TT_i 746 (by decide +kernel) (by decide +kernel)
theorem t_747 : Cond.methodLink "SealedBook" 104 ⟨"SealedBook", "requireVersion", "(I)V"⟩ ∈ TT := TT_i 747 (by decide +kernel) (by decide +kernel)
theorem t_749 : Cond.instanceMethod ⟨"SealedBook", "requireVersion", "(I)V"⟩ ∈ TT := TT_i 749 (by decide +kernel) (by decide +kernel)
theorem t_750 : Cond.code ⟨"SealedBook", "requireVersion", "(I)V"⟩ prog_1_method_22_code 2 none ∈ TT := TT_i 750 (by decide +kernel) (by decide +kernel)
theorem t_751 : Cond.methodLink "SealedBook" 111 ⟨"SealedBook", "requireValue", "(Z)V"⟩ ∈ TT := TT_i 751 (by decide +kernel) (by decide +kernel)
theorem t_752 : Cond.static ⟨"SealedBook", "requireValue", "(Z)V"⟩ ∈ TT := TT_i 752 (by decide +kernel) (by decide +kernel)
theorem t_753 : Cond.code ⟨"SealedBook", "requireValue", "(Z)V"⟩ prog_1_method_25_code 1 none ∈ TT := TT_i 753 (by decide +kernel) (by decide +kernel)
theorem t_754 : Cond.classLink "SealedBook" 207 "java/util/NoSuchElementException" ∈ TT := TT_i 754 (by decide +kernel) (by decide +kernel)
theorem t_755 : Cond.instantiable "java/util/NoSuchElementException" 6 ∈ TT := TT_i 755 (by decide +kernel) (by decide +kernel)
end
section
theorem t_757 : Cond.selects "java/util/NoSuchElementException" ⟨"java/lang/Throwable", "fillInStackTrace", "(I)Ljava/lang/Throwable;"⟩ ⟨"java/lang/Throwable", "fillInStackTrace", "(I)Ljava/lang/Throwable;"⟩ ∈ TT := TT_i 757 (by decide +kernel) (by decide +kernel)
theorem t_758 : Cond.lays "java/util/NoSuchElementException" "java/lang/Throwable" "cause" "Ljava/lang/Throwable;" ∈ TT := TT_i 758 (by decide +kernel) (by decide +kernel)
theorem t_759 : Cond.lays "java/util/NoSuchElementException" "java/lang/Throwable" "stackTrace" "[Ljava/lang/StackTraceElement;" ∈ TT := TT_i 759 (by decide +kernel) (by decide +kernel)
theorem t_760 : Cond.lays "java/util/NoSuchElementException" "java/lang/Throwable" "suppressedExceptions" "Ljava/util/List;" ∈ TT := TT_i 760 (by decide +kernel) (by decide +kernel)
theorem t_761 : Cond.lays "java/util/NoSuchElementException" "java/lang/Throwable" "detailMessage" "Ljava/lang/String;" ∈ TT := TT_i 761 (by decide +kernel) (by decide +kernel)
theorem t_762 : Cond.lays "java/util/NoSuchElementException" "java/lang/Throwable" "backtrace" "Ljava/lang/Object;" ∈ TT := TT_i 762 (by decide +kernel) (by decide +kernel)
theorem t_764 : Cond.methodLink "SealedBook" 211 ⟨"java/util/NoSuchElementException", "<init>", "(Ljava/lang/String;)V"⟩ ∈ TT := TT_i 764 (by decide +kernel) (by decide +kernel)
theorem t_765 : Cond.instanceMethod ⟨"java/util/NoSuchElementException", "<init>", "(Ljava/lang/String;)V"⟩ ∈ TT := TT_i 765 (by decide +kernel) (by decide +kernel)
theorem t_766 : Cond.code ⟨"java/util/NoSuchElementException", "<init>", "(Ljava/lang/String;)V"⟩ prog_27_method_4_code 2 none ∈ TT := TT_i 766 (by decide +kernel) (by decide +kernel)
theorem t_767 : Cond.methodLink "java/util/NoSuchElementException" 13 ⟨"java/lang/RuntimeException", "<init>", "(Ljava/lang/String;)V"⟩ ∈ TT := TT_i 767 (by decide +kernel) (by decide +kernel)
theorem t_768 : Cond.lays "java/util/NoSuchElementException" "java/lang/Throwable" "depth" "I" ∈ TT := TT_i 768 (by decide +kernel) (by decide +kernel)
theorem t_770 : Cond.methodLink "SealedBook" 119 ⟨"SealedBook", "bottomFor", "(LSealedBook$Chunk;I)LSealedBook$Chunk;"⟩ ∈ TT := TT_i 770 (by decide +kernel) (by decide +kernel)
theorem t_771 : Cond.methodLink "SealedBook" 123 ⟨"SealedBook", "holds", "(LSealedBook$Chunk;I)Z"⟩ ∈ TT := TT_i 771 (by decide +kernel) (by decide +kernel)
theorem t_772 : Cond.methodLink "SealedBook" 127 ⟨"SealedBook", "valueIn", "(LSealedBook$Chunk;I)I"⟩ ∈ TT := TT_i 772 (by decide +kernel) (by decide +kernel)
theorem t_773 : Cond.methodLink "SealedBookLaw" 97 ⟨"SealedBookLaw", "range", "(LSealedBook;III[J)I"⟩ ∈ TT := TT_i 773 (by decide +kernel) (by decide +kernel)
theorem t_774 : Cond.static ⟨"SealedBookLaw", "range", "(LSealedBook;III[J)I"⟩ ∈ TT := TT_i 774 (by decide +kernel) (by decide +kernel)
theorem t_776 : Cond.methodLink "SealedBookLaw" 31 ⟨"SealedBook", "range", "(III)I"⟩ ∈ TT := TT_i 776 (by decide +kernel) (by decide +kernel)
theorem t_777 : Cond.instanceMethod ⟨"SealedBook", "range", "(III)I"⟩ ∈ TT := TT_i 777 (by decide +kernel) (by decide +kernel)
theorem t_778 : Cond.selects "SealedBook" ⟨"SealedBook", "range", "(III)I"⟩ ⟨"SealedBook", "range", "(III)I"⟩ ∈ TT := TT_i 778 (by decide +kernel) (by decide +kernel)
theorem t_779 : Cond.code ⟨"SealedBook", "range", "(III)I"⟩ prog_1_method_10_code 7 (some .int) ∈ TT := TT_i 779 (by decide +kernel) (by decide +kernel)
theorem t_780 : Cond.methodLink "SealedBook" 131 ⟨"java/lang/Math", "min", "(II)I"⟩ ∈ TT := TT_i 780 (by decide +kernel) (by decide +kernel)
theorem t_781 : Cond.methodLink "SealedBook" 137 ⟨"java/lang/Math", "max", "(II)I"⟩ ∈ TT := TT_i 781 (by decide +kernel) (by decide +kernel)
theorem t_782 : Cond.methodLink "SealedBookLaw" 101 ⟨"SealedBookLaw", "root", "(LSealedBook;I[J)I"⟩ ∈ TT := TT_i 782 (by decide +kernel) (by decide +kernel)
theorem t_783 : Cond.static ⟨"SealedBookLaw", "root", "(LSealedBook;I[J)I"⟩ ∈ TT := TT_i 783 (by decide +kernel) (by decide +kernel)
theorem t_785 : Cond.methodLink "SealedBookLaw" 35 ⟨"SealedBook", "root", "(I)I"⟩ ∈ TT := TT_i 785 (by decide +kernel) (by decide +kernel)
theorem t_786 : Cond.instanceMethod ⟨"SealedBook", "root", "(I)I"⟩ ∈ TT := TT_i 786 (by decide +kernel) (by decide +kernel)
theorem t_787 : Cond.selects "SealedBook" ⟨"SealedBook", "root", "(I)I"⟩ ⟨"SealedBook", "root", "(I)I"⟩ ∈ TT := TT_i 787 (by decide +kernel) (by decide +kernel)
theorem t_788 : Cond.code ⟨"SealedBook", "root", "(I)I"⟩ prog_1_method_11_code 2 (some .int) ∈ TT := TT_i 788 (by decide +kernel) (by decide +kernel)
theorem t_789 : Cond.methodLink "SealedBook" 140 ⟨"SealedBook$History", "rootOf", "(I)I"⟩ ∈ TT := TT_i 789 (by decide +kernel) (by decide +kernel)
theorem t_790 : Cond.instanceMethod ⟨"SealedBook$History", "rootOf", "(I)I"⟩ ∈ TT := TT_i 790 (by decide +kernel) (by decide +kernel)
theorem t_791 : Cond.selects "SealedBook$History" ⟨"SealedBook$History", "rootOf", "(I)I"⟩ ⟨"SealedBook$History", "rootOf", "(I)I"⟩ ∈ TT := TT_i 791 (by decide +kernel) (by decide +kernel)
theorem t_792 : Cond.code ⟨"SealedBook$History", "rootOf", "(I)I"⟩ prog_4_method_3_code 2 (some .int) ∈ TT := TT_i 792 (by decide +kernel) (by decide +kernel)
theorem t_793 : Cond.methodLink "SealedBookLaw" 104 ⟨"SealedBookLaw", "digest", "(LSealedBook;I[J)I"⟩ ∈ TT := TT_i 793 (by decide +kernel) (by decide +kernel)
theorem t_794 : Cond.static ⟨"SealedBookLaw", "digest", "(LSealedBook;I[J)I"⟩ ∈ TT := TT_i 794 (by decide +kernel) (by decide +kernel)
theorem t_796 : Cond.methodLink "SealedBookLaw" 39 ⟨"SealedBook", "digest", "(I)I"⟩ ∈ TT := TT_i 796 (by decide +kernel) (by decide +kernel)
theorem t_797 : Cond.instanceMethod ⟨"SealedBook", "digest", "(I)I"⟩ ∈ TT := TT_i 797 (by decide +kernel) (by decide +kernel)
theorem t_798 : Cond.selects "SealedBook" ⟨"SealedBook", "digest", "(I)I"⟩ ⟨"SealedBook", "digest", "(I)I"⟩ ∈ TT := TT_i 798 (by decide +kernel) (by decide +kernel)
theorem t_799 : Cond.code ⟨"SealedBook", "digest", "(I)I"⟩ prog_1_method_12_code 2 (some .int) ∈ TT := TT_i 799 (by decide +kernel) (by decide +kernel)
theorem t_802 : Cond.instanceMethod ⟨"SealedBook$History", "seal", "(II)I"⟩ ∈ TT := TT_i 802 (by decide +kernel) (by decide +kernel)
theorem t_803 : Cond.code ⟨"SealedBook$History", "seal", "(II)I"⟩ prog_4_method_4_code 4 (some .int) ∈ TT := TT_i 803 (by decide +kernel) (by decide +kernel)
theorem t_804 : Cond.methodLink "SealedBook$History" 24 ⟨"SealedBook$History", "rootOf", "(I)I"⟩ ∈ TT := TT_i 804 (by decide +kernel) (by decide +kernel)
theorem t_806 : Cond.static ⟨"SealedBook", "leafOf", "(II)I"⟩ ∈ TT := TT_i 806 (by decide +kernel) (by decide +kernel)
theorem t_807 : Cond.code ⟨"SealedBook", "leafOf", "(II)I"⟩ prog_1_method_27_code 2 (some .int) ∈ TT := TT_i 807 (by decide +kernel) (by decide +kernel)
theorem t_809 : Cond.static ⟨"SealedBook", "half", "(I)I"⟩ ∈ TT := TT_i 809 (by decide +kernel) (by decide +kernel)
theorem t_810 : Cond.code ⟨"SealedBook", "half", "(I)I"⟩ prog_1_method_29_code 2 (some .int) ∈ TT := TT_i 810 (by decide +kernel) (by decide +kernel)
theorem t_811 : Cond.methodLink "SealedBook$History" 35 ⟨"SealedBook$History", "seal", "(II)I"⟩ ∈ TT := TT_i 811 (by decide +kernel) (by decide +kernel)
theorem t_813 : Cond.static ⟨"SealedBook", "join", "(II)I"⟩ ∈ TT := TT_i 813 (by decide +kernel) (by decide +kernel)
theorem t_814 : Cond.code ⟨"SealedBook", "join", "(II)I"⟩ prog_1_method_28_code 2 (some .int) ∈ TT := TT_i 814 (by decide +kernel) (by decide +kernel)
theorem t_815 : Cond.methodLink "SealedBookLaw" 107 ⟨"SealedBookLaw", "prove", "(LSealedBook;III[J)I"⟩ ∈ TT := TT_i 815 (by decide +kernel) (by decide +kernel)
theorem t_816 : Cond.static ⟨"SealedBookLaw", "prove", "(LSealedBook;III[J)I"⟩ ∈ TT := TT_i 816 (by decide +kernel) (by decide +kernel)
theorem t_818 : Cond.methodLink "SealedBookLaw" 42 ⟨"SealedBook", "prove", "(III)I"⟩ ∈ TT := TT_i 818 (by decide +kernel) (by decide +kernel)
theorem t_819 : Cond.instanceMethod ⟨"SealedBook", "prove", "(III)I"⟩ ∈ TT := TT_i 819 (by decide +kernel) (by decide +kernel)
theorem t_820 : Cond.selects "SealedBook" ⟨"SealedBook", "prove", "(III)I"⟩ ⟨"SealedBook", "prove", "(III)I"⟩ ∈ TT := TT_i 820 (by decide +kernel) (by decide +kernel)
theorem t_821 : Cond.code ⟨"SealedBook", "prove", "(III)I"⟩ prog_1_method_13_code 4 (some .int) ∈ TT := TT_i 821 (by decide +kernel) (by decide +kernel)
theorem t_822 : Cond.methodLink "SealedBook" 150 ⟨"SealedBook$Prover", "makeProof", "(LSealedBook$History;III)V"⟩ ∈ TT := TT_i 822 (by decide +kernel) (by decide +kernel)
theorem t_823 : Cond.instanceMethod ⟨"SealedBook$Prover", "makeProof", "(LSealedBook$History;III)V"⟩ ∈ TT := TT_i 823 (by decide +kernel) (by decide +kernel)
theorem t_824 : Cond.selects "SealedBook$Prover" ⟨"SealedBook$Prover", "makeProof", "(LSealedBook$History;III)V"⟩ ⟨"SealedBook$Prover", "makeProof", "(LSealedBook$History;III)V"⟩ ∈ TT := TT_i 824 (by decide +kernel) (by decide +kernel)
theorem t_825 : Cond.code ⟨"SealedBook$Prover", "makeProof", "(LSealedBook$History;III)V"⟩ prog_5_method_2_code 7 none ∈ TT := TT_i 825 (by decide +kernel) (by decide +kernel)
theorem t_826 : Cond.methodLink "SealedBook$Prover" 16 ⟨"SealedBook$Bytes", "clear", "()V"⟩ ∈ TT := TT_i 826 (by decide +kernel) (by decide +kernel)
theorem t_827 : Cond.instanceMethod ⟨"SealedBook$Bytes", "clear", "()V"⟩ ∈ TT := TT_i 827 (by decide +kernel) (by decide +kernel)
theorem t_828 : Cond.selects "SealedBook$Bytes" ⟨"SealedBook$Bytes", "clear", "()V"⟩ ⟨"SealedBook$Bytes", "clear", "()V"⟩ ∈ TT := TT_i 828 (by decide +kernel) (by decide +kernel)
theorem t_829 : Cond.code ⟨"SealedBook$Bytes", "clear", "()V"⟩ prog_2_method_2_code 1 none ∈ TT := TT_i 829 (by decide +kernel) (by decide +kernel)
theorem t_830 : Cond.methodLink "SealedBook$Prover" 19 ⟨"SealedBook$Bytes", "appendByte", "(I)V"⟩ ∈ TT := TT_i 830 (by decide +kernel) (by decide +kernel)
theorem t_831 : Cond.instanceMethod ⟨"SealedBook$Bytes", "appendByte", "(I)V"⟩ ∈ TT := TT_i 831 (by decide +kernel) (by decide +kernel)
theorem t_832 : Cond.selects "SealedBook$Bytes" ⟨"SealedBook$Bytes", "appendByte", "(I)V"⟩ ⟨"SealedBook$Bytes", "appendByte", "(I)V"⟩ ∈ TT := TT_i 832 (by decide +kernel) (by decide +kernel)
theorem t_833 : Cond.code ⟨"SealedBook$Bytes", "appendByte", "(I)V"⟩ prog_2_method_5_code 2 none ∈ TT := TT_i 833 (by decide +kernel) (by decide +kernel)
theorem t_834 : Cond.methodLink "SealedBook$Bytes" 19 ⟨"SealedBook$Bytes", "append", "(II)V"⟩ ∈ TT := TT_i 834 (by decide +kernel) (by decide +kernel)
theorem t_835 : Cond.methodLink "SealedBook$Prover" 23 ⟨"SealedBook$Prover", "addWay", "(LSealedBook$History;III)V"⟩ ∈ TT := TT_i 835 (by decide +kernel) (by decide +kernel)
theorem t_837 : Cond.instanceMethod ⟨"SealedBook$Prover", "addWay", "(LSealedBook$History;III)V"⟩ ∈ TT := TT_i 837 (by decide +kernel) (by decide +kernel)
theorem t_838 : Cond.code ⟨"SealedBook$Prover", "addWay", "(LSealedBook$History;III)V"⟩ prog_5_method_4_code 7 none ∈ TT := TT_i 838 (by decide +kernel) (by decide +kernel)
theorem t_841 : Cond.methodLink "SealedBook$Prover" 63 ⟨"SealedBook$Bytes", "appendInt", "(I)V"⟩ ∈ TT := TT_i 841 (by decide +kernel) (by decide +kernel)
theorem t_842 : Cond.instanceMethod ⟨"SealedBook$Bytes", "appendInt", "(I)V"⟩ ∈ TT := TT_i 842 (by decide +kernel) (by decide +kernel)
theorem t_843 : Cond.selects "SealedBook$Bytes" ⟨"SealedBook$Bytes", "appendInt", "(I)V"⟩ ⟨"SealedBook$Bytes", "appendInt", "(I)V"⟩ ∈ TT := TT_i 843 (by decide +kernel) (by decide +kernel)
theorem t_844 : Cond.code ⟨"SealedBook$Bytes", "appendInt", "(I)V"⟩ prog_2_method_6_code 2 none ∈ TT := TT_i 844 (by decide +kernel) (by decide +kernel)
theorem t_845 : Cond.methodLink "SealedBook$Prover" 27 ⟨"SealedBook$Bytes", "countInts", "()V"⟩ ∈ TT := TT_i 845 (by decide +kernel) (by decide +kernel)
theorem t_846 : Cond.instanceMethod ⟨"SealedBook$Bytes", "countInts", "()V"⟩ ∈ TT := TT_i 846 (by decide +kernel) (by decide +kernel)
theorem t_847 : Cond.selects "SealedBook$Bytes" ⟨"SealedBook$Bytes", "countInts", "()V"⟩ ⟨"SealedBook$Bytes", "countInts", "()V"⟩ ∈ TT := TT_i 847 (by decide +kernel) (by decide +kernel)
theorem t_848 : Cond.code ⟨"SealedBook$Bytes", "countInts", "()V"⟩ prog_2_method_9_code 1 none ∈ TT := TT_i 848 (by decide +kernel) (by decide +kernel)
theorem t_849 : Cond.methodLink "SealedBook$Prover" 42 ⟨"SealedBook$Prover", "addChunk", "(LSealedBook$Chunk;)V"⟩ ∈ TT := TT_i 849 (by decide +kernel) (by decide +kernel)
theorem t_851 : Cond.instanceMethod ⟨"SealedBook$Prover", "addChunk", "(LSealedBook$Chunk;)V"⟩ ∈ TT := TT_i 851 (by decide +kernel) (by decide +kernel)
theorem t_852 : Cond.code ⟨"SealedBook$Prover", "addChunk", "(LSealedBook$Chunk;)V"⟩ prog_5_method_5_code 3 none ∈ TT := TT_i 852 (by decide +kernel) (by decide +kernel)
theorem t_853 : Cond.methodLink "SealedBook$Prover" 46 ⟨"SealedBook$Chunk", "under", "(I)LSealedBook$Chunk;"⟩ ∈ TT := TT_i 853 (by decide +kernel) (by decide +kernel)
theorem t_854 : Cond.methodLink "SealedBookLaw" 110 ⟨"SealedBookLaw", "proveGrowth", "(LSealedBook;II[J)I"⟩ ∈ TT := TT_i 854 (by decide +kernel) (by decide +kernel)
theorem t_855 : Cond.static ⟨"SealedBookLaw", "proveGrowth", "(LSealedBook;II[J)I"⟩ ∈ TT := TT_i 855 (by decide +kernel) (by decide +kernel)
theorem t_857 : Cond.methodLink "SealedBookLaw" 45 ⟨"SealedBook", "proveGrowth", "(II)I"⟩ ∈ TT := TT_i 857 (by decide +kernel) (by decide +kernel)
theorem t_858 : Cond.instanceMethod ⟨"SealedBook", "proveGrowth", "(II)I"⟩ ∈ TT := TT_i 858 (by decide +kernel) (by decide +kernel)
theorem t_859 : Cond.selects "SealedBook" ⟨"SealedBook", "proveGrowth", "(II)I"⟩ ⟨"SealedBook", "proveGrowth", "(II)I"⟩ ∈ TT := TT_i 859 (by decide +kernel) (by decide +kernel)
theorem t_860 : Cond.code ⟨"SealedBook", "proveGrowth", "(II)I"⟩ prog_1_method_14_code 3 (some .int) ∈ TT := TT_i 860 (by decide +kernel) (by decide +kernel)
theorem t_861 : Cond.methodLink "SealedBook" 161 ⟨"SealedBook$Prover", "makeGrowth", "(LSealedBook$History;II)V"⟩ ∈ TT := TT_i 861 (by decide +kernel) (by decide +kernel)
theorem t_862 : Cond.instanceMethod ⟨"SealedBook$Prover", "makeGrowth", "(LSealedBook$History;II)V"⟩ ∈ TT := TT_i 862 (by decide +kernel) (by decide +kernel)
theorem t_863 : Cond.selects "SealedBook$Prover" ⟨"SealedBook$Prover", "makeGrowth", "(LSealedBook$History;II)V"⟩ ⟨"SealedBook$Prover", "makeGrowth", "(LSealedBook$History;II)V"⟩ ∈ TT := TT_i 863 (by decide +kernel) (by decide +kernel)
theorem t_864 : Cond.code ⟨"SealedBook$Prover", "makeGrowth", "(LSealedBook$History;II)V"⟩ prog_5_method_3_code 4 none ∈ TT := TT_i 864 (by decide +kernel) (by decide +kernel)
theorem t_865 : Cond.methodLink "SealedBook$Prover" 50 ⟨"SealedBook$Prover", "addPart", "(LSealedBook$History;III)V"⟩ ∈ TT := TT_i 865 (by decide +kernel) (by decide +kernel)
theorem t_867 : Cond.instanceMethod ⟨"SealedBook$Prover", "addPart", "(LSealedBook$History;III)V"⟩ ∈ TT := TT_i 867 (by decide +kernel) (by decide +kernel)
theorem t_868 : Cond.code ⟨"SealedBook$Prover", "addPart", "(LSealedBook$History;III)V"⟩ prog_5_method_6_code 7 none ∈ TT := TT_i 868 (by decide +kernel) (by decide +kernel)
theorem t_869 : Cond.methodLink "SealedBookLaw" 126 ⟨"SealedBookLaw", "verify", "(LSealedBook;IIII[J)I"⟩ ∈ TT := TT_i 869 (by decide +kernel) (by decide +kernel)
theorem t_870 : Cond.static ⟨"SealedBookLaw", "verify", "(LSealedBook;IIII[J)I"⟩ ∈ TT := TT_i 870 (by decide +kernel) (by decide +kernel)
theorem t_872 : Cond.methodLink "SealedBookLaw" 48 ⟨"SealedBook", "verify", "(IIII)I"⟩ ∈ TT := TT_i 872 (by decide +kernel) (by decide +kernel)
theorem t_873 : Cond.instanceMethod ⟨"SealedBook", "verify", "(IIII)I"⟩ ∈ TT := TT_i 873 (by decide +kernel) (by decide +kernel)
theorem t_874 : Cond.selects "SealedBook" ⟨"SealedBook", "verify", "(IIII)I"⟩ ⟨"SealedBook", "verify", "(IIII)I"⟩ ∈ TT := TT_i 874 (by decide +kernel) (by decide +kernel)
theorem t_875 : Cond.code ⟨"SealedBook", "verify", "(IIII)I"⟩ prog_1_method_18_code 6 (some .int) ∈ TT := TT_i 875 (by decide +kernel) (by decide +kernel)
theorem t_876 : Cond.methodLink "SealedBook" 179 ⟨"SealedBook$Verifier", "takesProof", "(IIII)Z"⟩ ∈ TT := TT_i 876 (by decide +kernel) (by decide +kernel)
theorem t_877 : Cond.instanceMethod ⟨"SealedBook$Verifier", "takesProof", "(IIII)Z"⟩ ∈ TT := TT_i 877 (by decide +kernel) (by decide +kernel)
theorem t_878 : Cond.selects "SealedBook$Verifier" ⟨"SealedBook$Verifier", "takesProof", "(IIII)Z"⟩ ⟨"SealedBook$Verifier", "takesProof", "(IIII)Z"⟩ ∈ TT := TT_i 878 (by decide +kernel) (by decide +kernel)
theorem t_879 : Cond.code ⟨"SealedBook$Verifier", "takesProof", "(IIII)Z"⟩ prog_9_method_2_code 7 (some .boolean) ∈ TT := TT_i 879 (by decide +kernel) (by decide +kernel)
theorem t_880 : Cond.methodLink "SealedBook$Verifier" 49 ⟨"SealedBook$Verifier", "nextByte", "()I"⟩ ∈ TT := TT_i 880 (by decide +kernel) (by decide +kernel)
theorem t_882 : Cond.instanceMethod ⟨"SealedBook$Verifier", "nextByte", "()I"⟩ ∈ TT := TT_i 882 (by decide +kernel) (by decide +kernel)
theorem t_883 : Cond.code ⟨"SealedBook$Verifier", "nextByte", "()I"⟩ prog_9_method_5_code 2 (some .int) ∈ TT := TT_i 883 (by decide +kernel) (by decide +kernel)
theorem t_884 : Cond.methodLink "SealedBook$Verifier" 72 ⟨"SealedBook$Bytes", "at", "(I)I"⟩ ∈ TT := TT_i 884 (by decide +kernel) (by decide +kernel)
theorem t_885 : Cond.methodLink "SealedBook$Verifier" 53 ⟨"SealedBook$Verifier", "readTree", "(I)Z"⟩ ∈ TT := TT_i 885 (by decide +kernel) (by decide +kernel)
theorem t_887 : Cond.instanceMethod ⟨"SealedBook$Verifier", "readTree", "(I)Z"⟩ ∈ TT := TT_i 887 (by decide +kernel) (by decide +kernel)
theorem t_888 : Cond.code ⟨"SealedBook$Verifier", "readTree", "(I)Z"⟩ prog_9_method_7_code 5 (some .boolean) ∈ TT := TT_i 888 (by decide +kernel) (by decide +kernel)
theorem t_889 : Cond.methodLink "SealedBook$Verifier" 76 ⟨"SealedBook$Verifier", "readChunk", "(II)Z"⟩ ∈ TT := TT_i 889 (by decide +kernel) (by decide +kernel)
theorem t_891 : Cond.instanceMethod ⟨"SealedBook$Verifier", "readChunk", "(II)Z"⟩ ∈ TT := TT_i 891 (by decide +kernel) (by decide +kernel)
theorem t_892 : Cond.code ⟨"SealedBook$Verifier", "readChunk", "(II)Z"⟩ prog_9_method_8_code 7 (some .boolean) ∈ TT := TT_i 892 (by decide +kernel) (by decide +kernel)
theorem t_894 : Cond.methodLink "SealedBook$Verifier" 83 ⟨"SealedBook$Verifier", "nextInt", "()I"⟩ ∈ TT := TT_i 894 (by decide +kernel) (by decide +kernel)
theorem t_896 : Cond.instanceMethod ⟨"SealedBook$Verifier", "nextInt", "()I"⟩ ∈ TT := TT_i 896 (by decide +kernel) (by decide +kernel)
theorem t_897 : Cond.code ⟨"SealedBook$Verifier", "nextInt", "()I"⟩ prog_9_method_6_code 3 (some .int) ∈ TT := TT_i 897 (by decide +kernel) (by decide +kernel)
theorem t_899 : Cond.methodLink "SealedBook$Verifier" 64 ⟨"SealedBook$Verifier", "climb", "(III)I"⟩ ∈ TT := TT_i 899 (by decide +kernel) (by decide +kernel)
theorem t_901 : Cond.instanceMethod ⟨"SealedBook$Verifier", "climb", "(III)I"⟩ ∈ TT := TT_i 901 (by decide +kernel) (by decide +kernel)
theorem t_902 : Cond.code ⟨"SealedBook$Verifier", "climb", "(III)I"⟩ prog_9_method_9_code 6 (some .int) ∈ TT := TT_i 902 (by decide +kernel) (by decide +kernel)
theorem t_905 : Cond.methodLink "SealedBook" 183 ⟨"SealedBook$Bytes", "clear", "()V"⟩ ∈ TT := TT_i 905 (by decide +kernel) (by decide +kernel)
theorem t_906 : Cond.methodLink "SealedBook" 186 ⟨"SealedBook$Verifier", "noteValue", "(I)Z"⟩ ∈ TT := TT_i 906 (by decide +kernel) (by decide +kernel)
theorem t_907 : Cond.instanceMethod ⟨"SealedBook$Verifier", "noteValue", "(I)Z"⟩ ∈ TT := TT_i 907 (by decide +kernel) (by decide +kernel)
theorem t_908 : Cond.selects "SealedBook$Verifier" ⟨"SealedBook$Verifier", "noteValue", "(I)Z"⟩ ⟨"SealedBook$Verifier", "noteValue", "(I)Z"⟩ ∈ TT := TT_i 908 (by decide +kernel) (by decide +kernel)
theorem t_909 : Cond.code ⟨"SealedBook$Verifier", "noteValue", "(I)Z"⟩ prog_9_method_3_code 2 (some .boolean) ∈ TT := TT_i 909 (by decide +kernel) (by decide +kernel)
theorem t_910 : Cond.methodLink "SealedBookLaw" 134 ⟨"SealedBookLaw", "verifyGrowth", "(LSealedBook;IIII[J)I"⟩ ∈ TT := TT_i 910 (by decide +kernel) (by decide +kernel)
theorem t_911 : Cond.static ⟨"SealedBookLaw", "verifyGrowth", "(LSealedBook;IIII[J)I"⟩ ∈ TT := TT_i 911 (by decide +kernel) (by decide +kernel)
theorem t_913 : Cond.methodLink "SealedBookLaw" 52 ⟨"SealedBook", "verifyGrowth", "(IIII)Z"⟩ ∈ TT := TT_i 913 (by decide +kernel) (by decide +kernel)
theorem t_914 : Cond.instanceMethod ⟨"SealedBook", "verifyGrowth", "(IIII)Z"⟩ ∈ TT := TT_i 914 (by decide +kernel) (by decide +kernel)
theorem t_915 : Cond.selects "SealedBook" ⟨"SealedBook", "verifyGrowth", "(IIII)Z"⟩ ⟨"SealedBook", "verifyGrowth", "(IIII)Z"⟩ ∈ TT := TT_i 915 (by decide +kernel) (by decide +kernel)
theorem t_916 : Cond.code ⟨"SealedBook", "verifyGrowth", "(IIII)Z"⟩ prog_1_method_20_code 6 (some .boolean) ∈ TT := TT_i 916 (by decide +kernel) (by decide +kernel)
theorem t_917 : Cond.methodLink "SealedBook" 192 ⟨"SealedBook$Verifier", "takesGrowth", "(IIII)Z"⟩ ∈ TT := TT_i 917 (by decide +kernel) (by decide +kernel)
theorem t_918 : Cond.instanceMethod ⟨"SealedBook$Verifier", "takesGrowth", "(IIII)Z"⟩ ∈ TT := TT_i 918 (by decide +kernel) (by decide +kernel)
theorem t_919 : Cond.selects "SealedBook$Verifier" ⟨"SealedBook$Verifier", "takesGrowth", "(IIII)Z"⟩ ⟨"SealedBook$Verifier", "takesGrowth", "(IIII)Z"⟩ ∈ TT := TT_i 919 (by decide +kernel) (by decide +kernel)
theorem t_920 : Cond.code ⟨"SealedBook$Verifier", "takesGrowth", "(IIII)Z"⟩ prog_9_method_4_code 6 (some .boolean) ∈ TT := TT_i 920 (by decide +kernel) (by decide +kernel)
theorem t_921 : Cond.methodLink "SealedBook$Verifier" 68 ⟨"SealedBook$Verifier", "readPart", "(IIII)V"⟩ ∈ TT := TT_i 921 (by decide +kernel) (by decide +kernel)
theorem t_923 : Cond.instanceMethod ⟨"SealedBook$Verifier", "readPart", "(IIII)V"⟩ ∈ TT := TT_i 923 (by decide +kernel) (by decide +kernel)
theorem t_924 : Cond.code ⟨"SealedBook$Verifier", "readPart", "(IIII)V"⟩ prog_9_method_10_code 7 none ∈ TT := TT_i 924 (by decide +kernel) (by decide +kernel)
theorem t_925 : Cond.classLink "SealedBookLaw" 57 "SealedBookModel" ∈ TT := TT_i 925 (by decide +kernel) (by decide +kernel)
theorem t_926 : Cond.instantiable "SealedBookModel" 32 ∈ TT := TT_i 926 (by decide +kernel) (by decide +kernel)
theorem t_927 : Cond.methodLink "SealedBookLaw" 59 ⟨"SealedBookModel", "<init>", "()V"⟩ ∈ TT := TT_i 927 (by decide +kernel) (by decide +kernel)
theorem t_928 : Cond.instanceMethod ⟨"SealedBookModel", "<init>", "()V"⟩ ∈ TT := TT_i 928 (by decide +kernel) (by decide +kernel)
theorem t_929 : Cond.code ⟨"SealedBookModel", "<init>", "()V"⟩ prog_11_method_1_code 1 none ∈ TT := TT_i 929 (by decide +kernel) (by decide +kernel)
theorem t_930 : Cond.methodLink "SealedBookModel" 1 ⟨"java/lang/Object", "<init>", "()V"⟩ ∈ TT := TT_i 930 (by decide +kernel) (by decide +kernel)
theorem t_931 : Cond.fieldLink "SealedBookModel" 73 "SealedBookModel" "thrown" "I" ∈ TT := TT_i 931 (by decide +kernel) (by decide +kernel)
theorem t_932 : Cond.fieldLink "SealedBookModel" 7 "SealedBookModel" "has" "[Z" ∈ TT := TT_i 932 (by decide +kernel) (by decide +kernel)
theorem t_933 : Cond.fieldLink "SealedBookModel" 13 "SealedBookModel" "value" "[I" ∈ TT := TT_i 933 (by decide +kernel) (by decide +kernel)
theorem t_934 : Cond.fieldLink "SealedBookModel" 69 "SealedBookModel" "versions" "I" ∈ TT := TT_i 934 (by decide +kernel) (by decide +kernel)
theorem t_935 : Cond.fieldLink "SealedBookModel" 17 "SealedBookModel" "roots" "[I" ∈ TT := TT_i 935 (by decide +kernel) (by decide +kernel)
theorem t_936 : Cond.fieldLink "SealedBookModel" 114 "SealedBookModel" "failing" "I" ∈ TT := TT_i 936 (by decide +kernel) (by decide +kernel)
theorem t_937 : Cond.fieldLink "SealedBookModel" 111 "SealedBookModel" "chunks" "I" ∈ TT := TT_i 937 (by decide +kernel) (by decide +kernel)
theorem t_938 : Cond.fieldLink "SealedBookModel" 20 "SealedBookModel" "chunk" "[I" ∈ TT := TT_i 938 (by decide +kernel) (by decide +kernel)
theorem t_939 : Cond.fieldLink "SealedBookModel" 117 "SealedBookModel" "maps" "I" ∈ TT := TT_i 939 (by decide +kernel) (by decide +kernel)
theorem t_940 : Cond.fieldLink "SealedBookModel" 23 "SealedBookModel" "mapHas" "[J" ∈ TT := TT_i 940 (by decide +kernel) (by decide +kernel)
theorem t_941 : Cond.fieldLink "SealedBookModel" 27 "SealedBookModel" "mapValue" "[I" ∈ TT := TT_i 941 (by decide +kernel) (by decide +kernel)
theorem t_942 : Cond.fieldLink "SealedBookModel" 89 "SealedBookModel" "levels" "I" ∈ TT := TT_i 942 (by decide +kernel) (by decide +kernel)
theorem t_943 : Cond.fieldLink "SealedBookModel" 30 "SealedBookModel" "many" "[I" ∈ TT := TT_i 943 (by decide +kernel) (by decide +kernel)
theorem t_944 : Cond.fieldLink "SealedBookModel" 33 "SealedBookModel" "itemKey" "[I" ∈ TT := TT_i 944 (by decide +kernel) (by decide +kernel)
theorem t_945 : Cond.fieldLink "SealedBookModel" 36 "SealedBookModel" "itemValue" "[I" ∈ TT := TT_i 945 (by decide +kernel) (by decide +kernel)
theorem t_946 : Cond.fieldLink "SealedBookModel" 39 "SealedBookModel" "waiting" "[I" ∈ TT := TT_i 946 (by decide +kernel) (by decide +kernel)
theorem t_947 : Cond.fieldLink "SealedBookModel" 42 "SealedBookModel" "leaves" "[I" ∈ TT := TT_i 947 (by decide +kernel) (by decide +kernel)
theorem t_948 : Cond.fieldLink "SealedBookModel" 155 "SealedBookModel" "beside" "I" ∈ TT := TT_i 948 (by decide +kernel) (by decide +kernel)
theorem t_949 : Cond.fieldLink "SealedBookModel" 45 "SealedBookModel" "besideFrom" "[I" ∈ TT := TT_i 949 (by decide +kernel) (by decide +kernel)
theorem t_950 : Cond.fieldLink "SealedBookModel" 48 "SealedBookModel" "besideMany" "[I" ∈ TT := TT_i 950 (by decide +kernel) (by decide +kernel)
theorem t_951 : Cond.fieldLink "SealedBookModel" 51 "SealedBookModel" "onLeft" "[Z" ∈ TT := TT_i 951 (by decide +kernel) (by decide +kernel)
theorem t_952 : Cond.fieldLink "SealedBookModel" 165 "SealedBookModel" "size" "I" ∈ TT := TT_i 952 (by decide +kernel) (by decide +kernel)
theorem t_953 : Cond.fieldLink "SealedBookModel" 54 "SealedBookModel" "proof" "[I" ∈ TT := TT_i 953 (by decide +kernel) (by decide +kernel)
theorem t_954 : Cond.fieldLink "SealedBookModel" 194 "SealedBookModel" "taken" "I" ∈ TT := TT_i 954 (by decide +kernel) (by decide +kernel)
theorem t_955 : Cond.fieldLink "SealedBookModel" 57 "SealedBookModel" "bytes" "[I" ∈ TT := TT_i 955 (by decide +kernel) (by decide +kernel)
theorem t_956 : Cond.fieldLink "SealedBookModel" 197 "SealedBookModel" "at" "I" ∈ TT := TT_i 956 (by decide +kernel) (by decide +kernel)
theorem t_957 : Cond.fieldLink "SealedBookModel" 200 "SealedBookModel" "right" "Z" ∈ TT := TT_i 957 (by decide +kernel) (by decide +kernel)
theorem t_958 : Cond.fieldLink "SealedBookModel" 60 "SealedBookModel" "ints" "[I" ∈ TT := TT_i 958 (by decide +kernel) (by decide +kernel)
theorem t_959 : Cond.fieldLink "SealedBookModel" 226 "SealedBookModel" "shown" "I" ∈ TT := TT_i 959 (by decide +kernel) (by decide +kernel)
theorem t_960 : Cond.fieldLink "SealedBookModel" 211 "SealedBookModel" "items" "I" ∈ TT := TT_i 960 (by decide +kernel) (by decide +kernel)
theorem t_961 : Cond.fieldLink "SealedBookModel" 63 "SealedBookModel" "readKey" "[I" ∈ TT := TT_i 961 (by decide +kernel) (by decide +kernel)
theorem t_962 : Cond.fieldLink "SealedBookModel" 66 "SealedBookModel" "readValue" "[I" ∈ TT := TT_i 962 (by decide +kernel) (by decide +kernel)
theorem t_963 : Cond.lays "SealedBookModel" "SealedBookModel" "thrown" "I" ∈ TT := TT_i 963 (by decide +kernel) (by decide +kernel)
theorem t_965 : Cond.laysFinal "SealedBookModel" "SealedBookModel" "has" "[Z" ∈ TT := TT_i 965 (by decide +kernel) (by decide +kernel)
theorem t_967 : Cond.laysFinal "SealedBookModel" "SealedBookModel" "value" "[I" ∈ TT := TT_i 967 (by decide +kernel) (by decide +kernel)
theorem t_969 : Cond.lays "SealedBookModel" "SealedBookModel" "versions" "I" ∈ TT := TT_i 969 (by decide +kernel) (by decide +kernel)
theorem t_971 : Cond.laysFinal "SealedBookModel" "SealedBookModel" "roots" "[I" ∈ TT := TT_i 971 (by decide +kernel) (by decide +kernel)
theorem t_973 : Cond.lays "SealedBookModel" "SealedBookModel" "failing" "I" ∈ TT := TT_i 973 (by decide +kernel) (by decide +kernel)
theorem t_975 : Cond.lays "SealedBookModel" "SealedBookModel" "chunks" "I" ∈ TT := TT_i 975 (by decide +kernel) (by decide +kernel)
theorem t_977 : Cond.laysFinal "SealedBookModel" "SealedBookModel" "chunk" "[I" ∈ TT := TT_i 977 (by decide +kernel) (by decide +kernel)
theorem t_979 : Cond.lays "SealedBookModel" "SealedBookModel" "maps" "I" ∈ TT := TT_i 979 (by decide +kernel) (by decide +kernel)
theorem t_981 : Cond.laysFinal "SealedBookModel" "SealedBookModel" "mapHas" "[J" ∈ TT := TT_i 981 (by decide +kernel) (by decide +kernel)
theorem t_983 : Cond.laysFinal "SealedBookModel" "SealedBookModel" "mapValue" "[I" ∈ TT := TT_i 983 (by decide +kernel) (by decide +kernel)
theorem t_985 : Cond.lays "SealedBookModel" "SealedBookModel" "levels" "I" ∈ TT := TT_i 985 (by decide +kernel) (by decide +kernel)
theorem t_987 : Cond.laysFinal "SealedBookModel" "SealedBookModel" "many" "[I" ∈ TT := TT_i 987 (by decide +kernel) (by decide +kernel)
theorem t_989 : Cond.laysFinal "SealedBookModel" "SealedBookModel" "itemKey" "[I" ∈ TT := TT_i 989 (by decide +kernel) (by decide +kernel)
theorem t_991 : Cond.laysFinal "SealedBookModel" "SealedBookModel" "itemValue" "[I" ∈ TT := TT_i 991 (by decide +kernel) (by decide +kernel)
theorem t_993 : Cond.laysFinal "SealedBookModel" "SealedBookModel" "waiting" "[I" ∈ TT := TT_i 993 (by decide +kernel) (by decide +kernel)
theorem t_995 : Cond.laysFinal "SealedBookModel" "SealedBookModel" "leaves" "[I" ∈ TT := TT_i 995 (by decide +kernel) (by decide +kernel)
theorem t_997 : Cond.lays "SealedBookModel" "SealedBookModel" "beside" "I" ∈ TT := TT_i 997 (by decide +kernel) (by decide +kernel)
theorem t_999 : Cond.laysFinal "SealedBookModel" "SealedBookModel" "besideFrom" "[I" ∈ TT := TT_i 999 (by decide +kernel) (by decide +kernel)
theorem t_1001 : Cond.laysFinal "SealedBookModel" "SealedBookModel" "besideMany" "[I" ∈ TT := TT_i 1001 (by decide +kernel) (by decide +kernel)
theorem t_1003 : Cond.laysFinal "SealedBookModel" "SealedBookModel" "onLeft" "[Z" ∈ TT := TT_i 1003 (by decide +kernel) (by decide +kernel)
theorem t_1005 : Cond.lays "SealedBookModel" "SealedBookModel" "size" "I" ∈ TT := TT_i 1005 (by decide +kernel) (by decide +kernel)
theorem t_1007 : Cond.laysFinal "SealedBookModel" "SealedBookModel" "proof" "[I" ∈ TT := TT_i 1007 (by decide +kernel) (by decide +kernel)
theorem t_1009 : Cond.lays "SealedBookModel" "SealedBookModel" "taken" "I" ∈ TT := TT_i 1009 (by decide +kernel) (by decide +kernel)
theorem t_1011 : Cond.laysFinal "SealedBookModel" "SealedBookModel" "bytes" "[I" ∈ TT := TT_i 1011 (by decide +kernel) (by decide +kernel)
theorem t_1013 : Cond.lays "SealedBookModel" "SealedBookModel" "at" "I" ∈ TT := TT_i 1013 (by decide +kernel) (by decide +kernel)
theorem t_1015 : Cond.lays "SealedBookModel" "SealedBookModel" "right" "Z" ∈ TT := TT_i 1015 (by decide +kernel) (by decide +kernel)
theorem t_1017 : Cond.laysFinal "SealedBookModel" "SealedBookModel" "ints" "[I" ∈ TT := TT_i 1017 (by decide +kernel) (by decide +kernel)
theorem t_1019 : Cond.lays "SealedBookModel" "SealedBookModel" "shown" "I" ∈ TT := TT_i 1019 (by decide +kernel) (by decide +kernel)
theorem t_1021 : Cond.lays "SealedBookModel" "SealedBookModel" "items" "I" ∈ TT := TT_i 1021 (by decide +kernel) (by decide +kernel)
theorem t_1023 : Cond.laysFinal "SealedBookModel" "SealedBookModel" "readKey" "[I" ∈ TT := TT_i 1023 (by decide +kernel) (by decide +kernel)
theorem t_1025 : Cond.laysFinal "SealedBookModel" "SealedBookModel" "readValue" "[I" ∈ TT := TT_i 1025 (by decide +kernel) (by decide +kernel)
theorem t_1028 : Cond.arrayClass .long ∈ TT := TT_i 1028 (by decide +kernel) (by decide +kernel)
theorem t_1029 : Cond.methodLink "SealedBookLaw" 66 ⟨"SealedBookModel", "thrown", "()I"⟩ ∈ TT := TT_i 1029 (by decide +kernel) (by decide +kernel)
theorem t_1030 : Cond.instanceMethod ⟨"SealedBookModel", "thrown", "()I"⟩ ∈ TT := TT_i 1030 (by decide +kernel) (by decide +kernel)
theorem t_1031 : Cond.selects "SealedBookModel" ⟨"SealedBookModel", "thrown", "()I"⟩ ⟨"SealedBookModel", "thrown", "()I"⟩ ∈ TT := TT_i 1031 (by decide +kernel) (by decide +kernel)
theorem t_1032 : Cond.code ⟨"SealedBookModel", "thrown", "()I"⟩ prog_11_method_2_code 1 (some .int) ∈ TT := TT_i 1032 (by decide +kernel) (by decide +kernel)
theorem t_1033 : Cond.methodLink "SealedBookLaw" 65 ⟨"SealedBookModel", "put", "(II)V"⟩ ∈ TT := TT_i 1033 (by decide +kernel) (by decide +kernel)
theorem t_1034 : Cond.instanceMethod ⟨"SealedBookModel", "put", "(II)V"⟩ ∈ TT := TT_i 1034 (by decide +kernel) (by decide +kernel)
theorem t_1035 : Cond.selects "SealedBookModel" ⟨"SealedBookModel", "put", "(II)V"⟩ ⟨"SealedBookModel", "put", "(II)V"⟩ ∈ TT := TT_i 1035 (by decide +kernel) (by decide +kernel)
theorem t_1036 : Cond.code ⟨"SealedBookModel", "put", "(II)V"⟩ prog_11_method_12_code 3 none ∈ TT := TT_i 1036 (by decide +kernel) (by decide +kernel)
theorem t_1037 : Cond.methodLink "SealedBookModel" 103 ⟨"SealedBookModel", "keyed", "(I)I"⟩ ∈ TT := TT_i 1037 (by decide +kernel) (by decide +kernel)
theorem t_1039 : Cond.instanceMethod ⟨"SealedBookModel", "keyed", "(I)I"⟩ ∈ TT := TT_i 1039 (by decide +kernel) (by decide +kernel)
theorem t_1040 : Cond.code ⟨"SealedBookModel", "keyed", "(I)I"⟩ prog_11_method_11_code 2 (some .int) ∈ TT := TT_i 1040 (by decide +kernel) (by decide +kernel)
end
section
theorem t_1041 : Cond.methodLink "SealedBookModel" 99 ⟨"SealedBookModel", "outside", "(III)Z"⟩ ∈ TT := TT_i 1041 (by decide +kernel) (by decide +kernel)
theorem t_1042 : Cond.static ⟨"SealedBookModel", "outside", "(III)Z"⟩ ∈ TT := TT_i 1042 (by decide +kernel) (by decide +kernel)
theorem t_1043 : Cond.code ⟨"SealedBookModel", "outside", "(III)Z"⟩ prog_11_method_4_code 3 (some .boolean) ∈ TT := TT_i 1043 (by decide +kernel) (by decide +kernel)
theorem t_1044 : Cond.methodLink "SealedBookLaw" 72 ⟨"SealedBookModel", "delete", "(I)Z"⟩ ∈ TT := TT_i 1044 (by decide +kernel) (by decide +kernel)
theorem t_1045 : Cond.instanceMethod ⟨"SealedBookModel", "delete", "(I)Z"⟩ ∈ TT := TT_i 1045 (by decide +kernel) (by decide +kernel)
theorem t_1046 : Cond.selects "SealedBookModel" ⟨"SealedBookModel", "delete", "(I)Z"⟩ ⟨"SealedBookModel", "delete", "(I)Z"⟩ ∈ TT := TT_i 1046 (by decide +kernel) (by decide +kernel)
theorem t_1047 : Cond.code ⟨"SealedBookModel", "delete", "(I)Z"⟩ prog_11_method_13_code 3 (some .boolean) ∈ TT := TT_i 1047 (by decide +kernel) (by decide +kernel)
theorem t_1048 : Cond.methodLink "SealedBookLaw" 80 ⟨"SealedBookModel", "rollback", "()V"⟩ ∈ TT := TT_i 1048 (by decide +kernel) (by decide +kernel)
theorem t_1049 : Cond.instanceMethod ⟨"SealedBookModel", "rollback", "()V"⟩ ∈ TT := TT_i 1049 (by decide +kernel) (by decide +kernel)
theorem t_1050 : Cond.selects "SealedBookModel" ⟨"SealedBookModel", "rollback", "()V"⟩ ⟨"SealedBookModel", "rollback", "()V"⟩ ∈ TT := TT_i 1050 (by decide +kernel) (by decide +kernel)
theorem t_1051 : Cond.code ⟨"SealedBookModel", "rollback", "()V"⟩ prog_11_method_15_code 1 none ∈ TT := TT_i 1051 (by decide +kernel) (by decide +kernel)
theorem t_1052 : Cond.methodLink "SealedBookModel" 107 ⟨"SealedBookModel", "copy", "(II)V"⟩ ∈ TT := TT_i 1052 (by decide +kernel) (by decide +kernel)
theorem t_1054 : Cond.instanceMethod ⟨"SealedBookModel", "copy", "(II)V"⟩ ∈ TT := TT_i 1054 (by decide +kernel) (by decide +kernel)
theorem t_1055 : Cond.code ⟨"SealedBookModel", "copy", "(II)V"⟩ prog_11_method_14_code 4 none ∈ TT := TT_i 1055 (by decide +kernel) (by decide +kernel)
theorem t_1056 : Cond.methodLink "SealedBookLaw" 76 ⟨"SealedBookModel", "commit", "()I"⟩ ∈ TT := TT_i 1056 (by decide +kernel) (by decide +kernel)
theorem t_1057 : Cond.instanceMethod ⟨"SealedBookModel", "commit", "()I"⟩ ∈ TT := TT_i 1057 (by decide +kernel) (by decide +kernel)
theorem t_1058 : Cond.selects "SealedBookModel" ⟨"SealedBookModel", "commit", "()I"⟩ ⟨"SealedBookModel", "commit", "()I"⟩ ∈ TT := TT_i 1058 (by decide +kernel) (by decide +kernel)
theorem t_1059 : Cond.code ⟨"SealedBookModel", "commit", "()I"⟩ prog_11_method_21_code 4 (some .int) ∈ TT := TT_i 1059 (by decide +kernel) (by decide +kernel)
theorem t_1060 : Cond.methodLink "SealedBookModel" 130 ⟨"SealedBookModel", "refuse", "(I)I"⟩ ∈ TT := TT_i 1060 (by decide +kernel) (by decide +kernel)
theorem t_1062 : Cond.instanceMethod ⟨"SealedBookModel", "refuse", "(I)I"⟩ ∈ TT := TT_i 1062 (by decide +kernel) (by decide +kernel)
theorem t_1063 : Cond.code ⟨"SealedBookModel", "refuse", "(I)I"⟩ prog_11_method_3_code 2 (some .int) ∈ TT := TT_i 1063 (by decide +kernel) (by decide +kernel)
theorem t_1064 : Cond.methodLink "SealedBookModel" 133 ⟨"SealedBookModel", "raise", "(I)I"⟩ ∈ TT := TT_i 1064 (by decide +kernel) (by decide +kernel)
theorem t_1066 : Cond.instanceMethod ⟨"SealedBookModel", "raise", "(I)I"⟩ ∈ TT := TT_i 1066 (by decide +kernel) (by decide +kernel)
theorem t_1067 : Cond.code ⟨"SealedBookModel", "raise", "(I)I"⟩ prog_11_method_10_code 5 (some .int) ∈ TT := TT_i 1067 (by decide +kernel) (by decide +kernel)
theorem t_1068 : Cond.methodLink "SealedBookModel" 85 ⟨"SealedBookModel", "item", "(III)V"⟩ ∈ TT := TT_i 1068 (by decide +kernel) (by decide +kernel)
theorem t_1070 : Cond.instanceMethod ⟨"SealedBookModel", "item", "(III)V"⟩ ∈ TT := TT_i 1070 (by decide +kernel) (by decide +kernel)
theorem t_1071 : Cond.code ⟨"SealedBookModel", "item", "(III)V"⟩ prog_11_method_7_code 4 none ∈ TT := TT_i 1071 (by decide +kernel) (by decide +kernel)
theorem t_1072 : Cond.methodLink "SealedBookModel" 92 ⟨"SealedBookModel", "chunkEnd", "(II)I"⟩ ∈ TT := TT_i 1072 (by decide +kernel) (by decide +kernel)
theorem t_1074 : Cond.instanceMethod ⟨"SealedBookModel", "chunkEnd", "(II)I"⟩ ∈ TT := TT_i 1074 (by decide +kernel) (by decide +kernel)
theorem t_1075 : Cond.code ⟨"SealedBookModel", "chunkEnd", "(II)I"⟩ prog_11_method_8_code 4 (some .int) ∈ TT := TT_i 1075 (by decide +kernel) (by decide +kernel)
theorem t_1076 : Cond.methodLink "SealedBookModel" 81 ⟨"SealedBookModel", "ends", "(II)Z"⟩ ∈ TT := TT_i 1076 (by decide +kernel) (by decide +kernel)
theorem t_1077 : Cond.static ⟨"SealedBookModel", "ends", "(II)Z"⟩ ∈ TT := TT_i 1077 (by decide +kernel) (by decide +kernel)
theorem t_1078 : Cond.code ⟨"SealedBookModel", "ends", "(II)Z"⟩ prog_11_method_6_code 2 (some .boolean) ∈ TT := TT_i 1078 (by decide +kernel) (by decide +kernel)
theorem t_1079 : Cond.methodLink "SealedBookModel" 77 ⟨"SealedBookModel", "mix", "(II)I"⟩ ∈ TT := TT_i 1079 (by decide +kernel) (by decide +kernel)
theorem t_1080 : Cond.static ⟨"SealedBookModel", "mix", "(II)I"⟩ ∈ TT := TT_i 1080 (by decide +kernel) (by decide +kernel)
theorem t_1081 : Cond.code ⟨"SealedBookModel", "mix", "(II)I"⟩ prog_11_method_5_code 3 (some .int) ∈ TT := TT_i 1081 (by decide +kernel) (by decide +kernel)
theorem t_1082 : Cond.constant "SealedBookModel" 76 73244475 ∈ TT := TT_i 1082 (by decide +kernel) (by decide +kernel)
theorem t_1083 : Cond.methodLink "SealedBookModel" 95 ⟨"SealedBookModel", "hashOf", "(III)I"⟩ ∈ TT := TT_i 1083 (by decide +kernel) (by decide +kernel)
theorem t_1085 : Cond.instanceMethod ⟨"SealedBookModel", "hashOf", "(III)I"⟩ ∈ TT := TT_i 1085 (by decide +kernel) (by decide +kernel)
theorem t_1086 : Cond.code ⟨"SealedBookModel", "hashOf", "(III)I"⟩ prog_11_method_9_code 6 (some .int) ∈ TT := TT_i 1086 (by decide +kernel) (by decide +kernel)
theorem t_1087 : Cond.methodLink "SealedBookModel" 136 ⟨"SealedBookModel", "keepMap", "()V"⟩ ∈ TT := TT_i 1087 (by decide +kernel) (by decide +kernel)
theorem t_1089 : Cond.instanceMethod ⟨"SealedBookModel", "keepMap", "()V"⟩ ∈ TT := TT_i 1089 (by decide +kernel) (by decide +kernel)
theorem t_1090 : Cond.code ⟨"SealedBookModel", "keepMap", "()V"⟩ prog_11_method_19_code 2 none ∈ TT := TT_i 1090 (by decide +kernel) (by decide +kernel)
theorem t_1091 : Cond.methodLink "SealedBookModel" 139 ⟨"SealedBookModel", "written", "()Z"⟩ ∈ TT := TT_i 1091 (by decide +kernel) (by decide +kernel)
theorem t_1093 : Cond.instanceMethod ⟨"SealedBookModel", "written", "()Z"⟩ ∈ TT := TT_i 1093 (by decide +kernel) (by decide +kernel)
theorem t_1094 : Cond.code ⟨"SealedBookModel", "written", "()Z"⟩ prog_11_method_20_code 6 (some .boolean) ∈ TT := TT_i 1094 (by decide +kernel) (by decide +kernel)
theorem t_1095 : Cond.methodLink "SealedBookModel" 120 ⟨"SealedBookModel", "stored", "(III)Z"⟩ ∈ TT := TT_i 1095 (by decide +kernel) (by decide +kernel)
theorem t_1097 : Cond.instanceMethod ⟨"SealedBookModel", "stored", "(III)Z"⟩ ∈ TT := TT_i 1097 (by decide +kernel) (by decide +kernel)
theorem t_1098 : Cond.code ⟨"SealedBookModel", "stored", "(III)Z"⟩ prog_11_method_16_code 11 (some .boolean) ∈ TT := TT_i 1098 (by decide +kernel) (by decide +kernel)
theorem t_1099 : Cond.methodLink "SealedBookModel" 123 ⟨"SealedBookModel", "writes", "()Z"⟩ ∈ TT := TT_i 1099 (by decide +kernel) (by decide +kernel)
theorem t_1101 : Cond.instanceMethod ⟨"SealedBookModel", "writes", "()Z"⟩ ∈ TT := TT_i 1101 (by decide +kernel) (by decide +kernel)
theorem t_1102 : Cond.code ⟨"SealedBookModel", "writes", "()Z"⟩ prog_11_method_17_code 2 (some .boolean) ∈ TT := TT_i 1102 (by decide +kernel) (by decide +kernel)
theorem t_1103 : Cond.methodLink "SealedBookModel" 127 ⟨"SealedBookModel", "store", "(III)V"⟩ ∈ TT := TT_i 1103 (by decide +kernel) (by decide +kernel)
theorem t_1105 : Cond.instanceMethod ⟨"SealedBookModel", "store", "(III)V"⟩ ∈ TT := TT_i 1105 (by decide +kernel) (by decide +kernel)
theorem t_1106 : Cond.code ⟨"SealedBookModel", "store", "(III)V"⟩ prog_11_method_18_code 4 none ∈ TT := TT_i 1106 (by decide +kernel) (by decide +kernel)
theorem t_1107 : Cond.methodLink "SealedBookLaw" 84 ⟨"SealedBookModel", "fail", "(I)Z"⟩ ∈ TT := TT_i 1107 (by decide +kernel) (by decide +kernel)
theorem t_1108 : Cond.instanceMethod ⟨"SealedBookModel", "fail", "(I)Z"⟩ ∈ TT := TT_i 1108 (by decide +kernel) (by decide +kernel)
theorem t_1109 : Cond.selects "SealedBookModel" ⟨"SealedBookModel", "fail", "(I)Z"⟩ ⟨"SealedBookModel", "fail", "(I)Z"⟩ ∈ TT := TT_i 1109 (by decide +kernel) (by decide +kernel)
theorem t_1110 : Cond.code ⟨"SealedBookModel", "fail", "(I)Z"⟩ prog_11_method_22_code 2 (some .boolean) ∈ TT := TT_i 1110 (by decide +kernel) (by decide +kernel)
theorem t_1111 : Cond.methodLink "SealedBookLaw" 88 ⟨"SealedBookModel", "chunks", "()I"⟩ ∈ TT := TT_i 1111 (by decide +kernel) (by decide +kernel)
theorem t_1112 : Cond.instanceMethod ⟨"SealedBookModel", "chunks", "()I"⟩ ∈ TT := TT_i 1112 (by decide +kernel) (by decide +kernel)
theorem t_1113 : Cond.selects "SealedBookModel" ⟨"SealedBookModel", "chunks", "()I"⟩ ⟨"SealedBookModel", "chunks", "()I"⟩ ∈ TT := TT_i 1113 (by decide +kernel) (by decide +kernel)
theorem t_1114 : Cond.code ⟨"SealedBookModel", "chunks", "()I"⟩ prog_11_method_23_code 1 (some .int) ∈ TT := TT_i 1114 (by decide +kernel) (by decide +kernel)
theorem t_1115 : Cond.methodLink "SealedBookLaw" 92 ⟨"SealedBookModel", "versions", "()I"⟩ ∈ TT := TT_i 1115 (by decide +kernel) (by decide +kernel)
theorem t_1116 : Cond.instanceMethod ⟨"SealedBookModel", "versions", "()I"⟩ ∈ TT := TT_i 1116 (by decide +kernel) (by decide +kernel)
theorem t_1117 : Cond.selects "SealedBookModel" ⟨"SealedBookModel", "versions", "()I"⟩ ⟨"SealedBookModel", "versions", "()I"⟩ ∈ TT := TT_i 1117 (by decide +kernel) (by decide +kernel)
theorem t_1118 : Cond.code ⟨"SealedBookModel", "versions", "()I"⟩ prog_11_method_24_code 1 (some .int) ∈ TT := TT_i 1118 (by decide +kernel) (by decide +kernel)
theorem t_1119 : Cond.methodLink "SealedBookLaw" 96 ⟨"SealedBookModel", "get", "(II)I"⟩ ∈ TT := TT_i 1119 (by decide +kernel) (by decide +kernel)
theorem t_1120 : Cond.instanceMethod ⟨"SealedBookModel", "get", "(II)I"⟩ ∈ TT := TT_i 1120 (by decide +kernel) (by decide +kernel)
theorem t_1121 : Cond.selects "SealedBookModel" ⟨"SealedBookModel", "get", "(II)I"⟩ ⟨"SealedBookModel", "get", "(II)I"⟩ ∈ TT := TT_i 1121 (by decide +kernel) (by decide +kernel)
theorem t_1122 : Cond.code ⟨"SealedBookModel", "get", "(II)I"⟩ prog_11_method_26_code 4 (some .int) ∈ TT := TT_i 1122 (by decide +kernel) (by decide +kernel)
theorem t_1123 : Cond.methodLink "SealedBookModel" 142 ⟨"SealedBookModel", "isVersion", "(I)Z"⟩ ∈ TT := TT_i 1123 (by decide +kernel) (by decide +kernel)
theorem t_1125 : Cond.instanceMethod ⟨"SealedBookModel", "isVersion", "(I)Z"⟩ ∈ TT := TT_i 1125 (by decide +kernel) (by decide +kernel)
theorem t_1126 : Cond.code ⟨"SealedBookModel", "isVersion", "(I)Z"⟩ prog_11_method_25_code 2 (some .boolean) ∈ TT := TT_i 1126 (by decide +kernel) (by decide +kernel)
theorem t_1127 : Cond.methodLink "SealedBookLaw" 100 ⟨"SealedBookModel", "range", "(III)I"⟩ ∈ TT := TT_i 1127 (by decide +kernel) (by decide +kernel)
theorem t_1128 : Cond.instanceMethod ⟨"SealedBookModel", "range", "(III)I"⟩ ∈ TT := TT_i 1128 (by decide +kernel) (by decide +kernel)
theorem t_1129 : Cond.selects "SealedBookModel" ⟨"SealedBookModel", "range", "(III)I"⟩ ⟨"SealedBookModel", "range", "(III)I"⟩ ∈ TT := TT_i 1129 (by decide +kernel) (by decide +kernel)
theorem t_1130 : Cond.code ⟨"SealedBookModel", "range", "(III)I"⟩ prog_11_method_27_code 6 (some .int) ∈ TT := TT_i 1130 (by decide +kernel) (by decide +kernel)
theorem t_1131 : Cond.methodLink "SealedBookLaw" 103 ⟨"SealedBookModel", "root", "(I)I"⟩ ∈ TT := TT_i 1131 (by decide +kernel) (by decide +kernel)
theorem t_1132 : Cond.instanceMethod ⟨"SealedBookModel", "root", "(I)I"⟩ ∈ TT := TT_i 1132 (by decide +kernel) (by decide +kernel)
theorem t_1133 : Cond.selects "SealedBookModel" ⟨"SealedBookModel", "root", "(I)I"⟩ ⟨"SealedBookModel", "root", "(I)I"⟩ ∈ TT := TT_i 1133 (by decide +kernel) (by decide +kernel)
theorem t_1134 : Cond.code ⟨"SealedBookModel", "root", "(I)I"⟩ prog_11_method_28_code 2 (some .int) ∈ TT := TT_i 1134 (by decide +kernel) (by decide +kernel)
theorem t_1135 : Cond.methodLink "SealedBookLaw" 106 ⟨"SealedBookModel", "digest", "(I)I"⟩ ∈ TT := TT_i 1135 (by decide +kernel) (by decide +kernel)
theorem t_1136 : Cond.instanceMethod ⟨"SealedBookModel", "digest", "(I)I"⟩ ∈ TT := TT_i 1136 (by decide +kernel) (by decide +kernel)
theorem t_1137 : Cond.selects "SealedBookModel" ⟨"SealedBookModel", "digest", "(I)I"⟩ ⟨"SealedBookModel", "digest", "(I)I"⟩ ∈ TT := TT_i 1137 (by decide +kernel) (by decide +kernel)
theorem t_1138 : Cond.code ⟨"SealedBookModel", "digest", "(I)I"⟩ prog_11_method_32_code 2 (some .int) ∈ TT := TT_i 1138 (by decide +kernel) (by decide +kernel)
theorem t_1139 : Cond.methodLink "SealedBookModel" 152 ⟨"SealedBookModel", "seal", "(II)I"⟩ ∈ TT := TT_i 1139 (by decide +kernel) (by decide +kernel)
theorem t_1141 : Cond.instanceMethod ⟨"SealedBookModel", "seal", "(II)I"⟩ ∈ TT := TT_i 1141 (by decide +kernel) (by decide +kernel)
theorem t_1142 : Cond.code ⟨"SealedBookModel", "seal", "(II)I"⟩ prog_11_method_31_code 5 (some .int) ∈ TT := TT_i 1142 (by decide +kernel) (by decide +kernel)
theorem t_1143 : Cond.methodLink "SealedBookModel" 146 ⟨"SealedBookModel", "leafOf", "(II)I"⟩ ∈ TT := TT_i 1143 (by decide +kernel) (by decide +kernel)
theorem t_1144 : Cond.static ⟨"SealedBookModel", "leafOf", "(II)I"⟩ ∈ TT := TT_i 1144 (by decide +kernel) (by decide +kernel)
theorem t_1145 : Cond.code ⟨"SealedBookModel", "leafOf", "(II)I"⟩ prog_11_method_29_code 2 (some .int) ∈ TT := TT_i 1145 (by decide +kernel) (by decide +kernel)
theorem t_1146 : Cond.methodLink "SealedBookModel" 149 ⟨"SealedBookModel", "join", "(II)I"⟩ ∈ TT := TT_i 1146 (by decide +kernel) (by decide +kernel)
theorem t_1147 : Cond.static ⟨"SealedBookModel", "join", "(II)I"⟩ ∈ TT := TT_i 1147 (by decide +kernel) (by decide +kernel)
theorem t_1148 : Cond.code ⟨"SealedBookModel", "join", "(II)I"⟩ prog_11_method_30_code 2 (some .int) ∈ TT := TT_i 1148 (by decide +kernel) (by decide +kernel)
theorem t_1149 : Cond.methodLink "SealedBookLaw" 109 ⟨"SealedBookModel", "prove", "(III)I"⟩ ∈ TT := TT_i 1149 (by decide +kernel) (by decide +kernel)
theorem t_1150 : Cond.instanceMethod ⟨"SealedBookModel", "prove", "(III)I"⟩ ∈ TT := TT_i 1150 (by decide +kernel) (by decide +kernel)
theorem t_1151 : Cond.selects "SealedBookModel" ⟨"SealedBookModel", "prove", "(III)I"⟩ ⟨"SealedBookModel", "prove", "(III)I"⟩ ∈ TT := TT_i 1151 (by decide +kernel) (by decide +kernel)
theorem t_1152 : Cond.code ⟨"SealedBookModel", "prove", "(III)I"⟩ prog_11_method_43_code 7 (some .int) ∈ TT := TT_i 1152 (by decide +kernel) (by decide +kernel)
theorem t_1153 : Cond.methodLink "SealedBookModel" 175 ⟨"SealedBookModel", "way", "(II)V"⟩ ∈ TT := TT_i 1153 (by decide +kernel) (by decide +kernel)
theorem t_1155 : Cond.instanceMethod ⟨"SealedBookModel", "way", "(II)V"⟩ ∈ TT := TT_i 1155 (by decide +kernel) (by decide +kernel)
theorem t_1156 : Cond.code ⟨"SealedBookModel", "way", "(II)V"⟩ prog_11_method_35_code 6 none ∈ TT := TT_i 1156 (by decide +kernel) (by decide +kernel)
theorem t_1157 : Cond.methodLink "SealedBookModel" 158 ⟨"SealedBookModel", "half", "(I)I"⟩ ∈ TT := TT_i 1157 (by decide +kernel) (by decide +kernel)
theorem t_1158 : Cond.static ⟨"SealedBookModel", "half", "(I)I"⟩ ∈ TT := TT_i 1158 (by decide +kernel) (by decide +kernel)
theorem t_1159 : Cond.code ⟨"SealedBookModel", "half", "(I)I"⟩ prog_11_method_33_code 2 (some .int) ∈ TT := TT_i 1159 (by decide +kernel) (by decide +kernel)
theorem t_1160 : Cond.methodLink "SealedBookModel" 161 ⟨"SealedBookModel", "side", "(IIZ)V"⟩ ∈ TT := TT_i 1160 (by decide +kernel) (by decide +kernel)
theorem t_1162 : Cond.instanceMethod ⟨"SealedBookModel", "side", "(IIZ)V"⟩ ∈ TT := TT_i 1162 (by decide +kernel) (by decide +kernel)
theorem t_1163 : Cond.code ⟨"SealedBookModel", "side", "(IIZ)V"⟩ prog_11_method_34_code 4 none ∈ TT := TT_i 1163 (by decide +kernel) (by decide +kernel)
theorem t_1164 : Cond.methodLink "SealedBookModel" 178 ⟨"SealedBookModel", "outBeside", "()V"⟩ ∈ TT := TT_i 1164 (by decide +kernel) (by decide +kernel)
theorem t_1166 : Cond.instanceMethod ⟨"SealedBookModel", "outBeside", "()V"⟩ ∈ TT := TT_i 1166 (by decide +kernel) (by decide +kernel)
theorem t_1167 : Cond.code ⟨"SealedBookModel", "outBeside", "()V"⟩ prog_11_method_39_code 2 none ∈ TT := TT_i 1167 (by decide +kernel) (by decide +kernel)
theorem t_1168 : Cond.methodLink "SealedBookModel" 168 ⟨"SealedBookModel", "out", "(I)V"⟩ ∈ TT := TT_i 1168 (by decide +kernel) (by decide +kernel)
theorem t_1170 : Cond.instanceMethod ⟨"SealedBookModel", "out", "(I)V"⟩ ∈ TT := TT_i 1170 (by decide +kernel) (by decide +kernel)
theorem t_1171 : Cond.code ⟨"SealedBookModel", "out", "(I)V"⟩ prog_11_method_37_code 2 none ∈ TT := TT_i 1171 (by decide +kernel) (by decide +kernel)
theorem t_1172 : Cond.methodLink "SealedBookModel" 172 ⟨"SealedBookModel", "outInt", "(I)V"⟩ ∈ TT := TT_i 1172 (by decide +kernel) (by decide +kernel)
theorem t_1174 : Cond.instanceMethod ⟨"SealedBookModel", "outInt", "(I)V"⟩ ∈ TT := TT_i 1174 (by decide +kernel) (by decide +kernel)
theorem t_1175 : Cond.code ⟨"SealedBookModel", "outInt", "(I)V"⟩ prog_11_method_38_code 3 none ∈ TT := TT_i 1175 (by decide +kernel) (by decide +kernel)
theorem t_1176 : Cond.methodLink "SealedBookModel" 181 ⟨"SealedBookModel", "choose", "([IIII)I"⟩ ∈ TT := TT_i 1176 (by decide +kernel) (by decide +kernel)
theorem t_1177 : Cond.static ⟨"SealedBookModel", "choose", "([IIII)I"⟩ ∈ TT := TT_i 1177 (by decide +kernel) (by decide +kernel)
theorem t_1178 : Cond.code ⟨"SealedBookModel", "choose", "([IIII)I"⟩ prog_11_method_40_code 5 (some .int) ∈ TT := TT_i 1178 (by decide +kernel) (by decide +kernel)
theorem t_1179 : Cond.methodLink "SealedBookModel" 185 ⟨"SealedBookModel", "chunkOf", "(II)I"⟩ ∈ TT := TT_i 1179 (by decide +kernel) (by decide +kernel)
theorem t_1181 : Cond.instanceMethod ⟨"SealedBookModel", "chunkOf", "(II)I"⟩ ∈ TT := TT_i 1181 (by decide +kernel) (by decide +kernel)
theorem t_1182 : Cond.code ⟨"SealedBookModel", "chunkOf", "(II)I"⟩ prog_11_method_41_code 4 (some .int) ∈ TT := TT_i 1182 (by decide +kernel) (by decide +kernel)
theorem t_1183 : Cond.methodLink "SealedBookModel" 188 ⟨"SealedBookModel", "outChunk", "(III)V"⟩ ∈ TT := TT_i 1183 (by decide +kernel) (by decide +kernel)
theorem t_1185 : Cond.instanceMethod ⟨"SealedBookModel", "outChunk", "(III)V"⟩ ∈ TT := TT_i 1185 (by decide +kernel) (by decide +kernel)
theorem t_1186 : Cond.code ⟨"SealedBookModel", "outChunk", "(III)V"⟩ prog_11_method_42_code 5 none ∈ TT := TT_i 1186 (by decide +kernel) (by decide +kernel)
theorem t_1187 : Cond.methodLink "SealedBookLaw" 112 ⟨"SealedBookModel", "proveGrowth", "(II)I"⟩ ∈ TT := TT_i 1187 (by decide +kernel) (by decide +kernel)
theorem t_1188 : Cond.instanceMethod ⟨"SealedBookModel", "proveGrowth", "(II)I"⟩ ∈ TT := TT_i 1188 (by decide +kernel) (by decide +kernel)
theorem t_1189 : Cond.selects "SealedBookModel" ⟨"SealedBookModel", "proveGrowth", "(II)I"⟩ ⟨"SealedBookModel", "proveGrowth", "(II)I"⟩ ∈ TT := TT_i 1189 (by decide +kernel) (by decide +kernel)
theorem t_1190 : Cond.code ⟨"SealedBookModel", "proveGrowth", "(II)I"⟩ prog_11_method_44_code 3 (some .int) ∈ TT := TT_i 1190 (by decide +kernel) (by decide +kernel)
theorem t_1191 : Cond.methodLink "SealedBookModel" 191 ⟨"SealedBookModel", "growth", "(II)Z"⟩ ∈ TT := TT_i 1191 (by decide +kernel) (by decide +kernel)
theorem t_1193 : Cond.instanceMethod ⟨"SealedBookModel", "growth", "(II)Z"⟩ ∈ TT := TT_i 1193 (by decide +kernel) (by decide +kernel)
theorem t_1194 : Cond.code ⟨"SealedBookModel", "growth", "(II)Z"⟩ prog_11_method_36_code 7 (some .boolean) ∈ TT := TT_i 1194 (by decide +kernel) (by decide +kernel)
theorem t_1195 : Cond.methodLink "SealedBookLaw" 116 ⟨"SealedBookModel", "proof", "(I)I"⟩ ∈ TT := TT_i 1195 (by decide +kernel) (by decide +kernel)
theorem t_1196 : Cond.instanceMethod ⟨"SealedBookModel", "proof", "(I)I"⟩ ∈ TT := TT_i 1196 (by decide +kernel) (by decide +kernel)
theorem t_1197 : Cond.selects "SealedBookModel" ⟨"SealedBookModel", "proof", "(I)I"⟩ ⟨"SealedBookModel", "proof", "(I)I"⟩ ∈ TT := TT_i 1197 (by decide +kernel) (by decide +kernel)
theorem t_1198 : Cond.code ⟨"SealedBookModel", "proof", "(I)I"⟩ prog_11_method_45_code 2 (some .int) ∈ TT := TT_i 1198 (by decide +kernel) (by decide +kernel)
theorem t_1199 : Cond.methodLink "SealedBookLaw" 121 ⟨"SealedBookModel", "take", "(II)Z"⟩ ∈ TT := TT_i 1199 (by decide +kernel) (by decide +kernel)
theorem t_1200 : Cond.instanceMethod ⟨"SealedBookModel", "take", "(II)Z"⟩ ∈ TT := TT_i 1200 (by decide +kernel) (by decide +kernel)
theorem t_1201 : Cond.selects "SealedBookModel" ⟨"SealedBookModel", "take", "(II)Z"⟩ ⟨"SealedBookModel", "take", "(II)Z"⟩ ∈ TT := TT_i 1201 (by decide +kernel) (by decide +kernel)
theorem t_1202 : Cond.code ⟨"SealedBookModel", "take", "(II)Z"⟩ prog_11_method_46_code 4 (some .boolean) ∈ TT := TT_i 1202 (by decide +kernel) (by decide +kernel)
theorem t_1203 : Cond.methodLink "SealedBookLaw" 125 ⟨"SealedBookModel", "carry", "(II)I"⟩ ∈ TT := TT_i 1203 (by decide +kernel) (by decide +kernel)
theorem t_1204 : Cond.instanceMethod ⟨"SealedBookModel", "carry", "(II)I"⟩ ∈ TT := TT_i 1204 (by decide +kernel) (by decide +kernel)
theorem t_1205 : Cond.selects "SealedBookModel" ⟨"SealedBookModel", "carry", "(II)I"⟩ ⟨"SealedBookModel", "carry", "(II)I"⟩ ∈ TT := TT_i 1205 (by decide +kernel) (by decide +kernel)
theorem t_1206 : Cond.code ⟨"SealedBookModel", "carry", "(II)I"⟩ prog_11_method_47_code 4 (some .int) ∈ TT := TT_i 1206 (by decide +kernel) (by decide +kernel)
theorem t_1207 : Cond.methodLink "SealedBookLaw" 129 ⟨"SealedBookModel", "verify", "(IIII)I"⟩ ∈ TT := TT_i 1207 (by decide +kernel) (by decide +kernel)
theorem t_1208 : Cond.instanceMethod ⟨"SealedBookModel", "verify", "(IIII)I"⟩ ∈ TT := TT_i 1208 (by decide +kernel) (by decide +kernel)
theorem t_1209 : Cond.selects "SealedBookModel" ⟨"SealedBookModel", "verify", "(IIII)I"⟩ ⟨"SealedBookModel", "verify", "(IIII)I"⟩ ∈ TT := TT_i 1209 (by decide +kernel) (by decide +kernel)
theorem t_1210 : Cond.code ⟨"SealedBookModel", "verify", "(IIII)I"⟩ prog_11_method_54_code 8 (some .int) ∈ TT := TT_i 1210 (by decide +kernel) (by decide +kernel)
theorem t_1211 : Cond.methodLink "SealedBookModel" 217 ⟨"SealedBookModel", "inBeside", "()V"⟩ ∈ TT := TT_i 1211 (by decide +kernel) (by decide +kernel)
theorem t_1213 : Cond.instanceMethod ⟨"SealedBookModel", "inBeside", "()V"⟩ ∈ TT := TT_i 1213 (by decide +kernel) (by decide +kernel)
theorem t_1214 : Cond.code ⟨"SealedBookModel", "inBeside", "()V"⟩ prog_11_method_50_code 3 none ∈ TT := TT_i 1214 (by decide +kernel) (by decide +kernel)
theorem t_1215 : Cond.methodLink "SealedBookModel" 204 ⟨"SealedBookModel", "in", "(II)I"⟩ ∈ TT := TT_i 1215 (by decide +kernel) (by decide +kernel)
theorem t_1217 : Cond.instanceMethod ⟨"SealedBookModel", "in", "(II)I"⟩ ∈ TT := TT_i 1217 (by decide +kernel) (by decide +kernel)
theorem t_1218 : Cond.code ⟨"SealedBookModel", "in", "(II)I"⟩ prog_11_method_48_code 4 (some .int) ∈ TT := TT_i 1218 (by decide +kernel) (by decide +kernel)
theorem t_1219 : Cond.methodLink "SealedBookModel" 207 ⟨"SealedBookModel", "inInt", "()I"⟩ ∈ TT := TT_i 1219 (by decide +kernel) (by decide +kernel)
theorem t_1221 : Cond.instanceMethod ⟨"SealedBookModel", "inInt", "()I"⟩ ∈ TT := TT_i 1221 (by decide +kernel) (by decide +kernel)
theorem t_1222 : Cond.code ⟨"SealedBookModel", "inInt", "()I"⟩ prog_11_method_49_code 3 (some .int) ∈ TT := TT_i 1222 (by decide +kernel) (by decide +kernel)
theorem t_1223 : Cond.methodLink "SealedBookModel" 220 ⟨"SealedBookModel", "inLevels", "(I)I"⟩ ∈ TT := TT_i 1223 (by decide +kernel) (by decide +kernel)
theorem t_1225 : Cond.instanceMethod ⟨"SealedBookModel", "inLevels", "(I)I"⟩ ∈ TT := TT_i 1225 (by decide +kernel) (by decide +kernel)
theorem t_1226 : Cond.code ⟨"SealedBookModel", "inLevels", "(I)I"⟩ prog_11_method_52_code 9 (some .int) ∈ TT := TT_i 1226 (by decide +kernel) (by decide +kernel)
theorem t_1227 : Cond.methodLink "SealedBookModel" 214 ⟨"SealedBookModel", "inChunk", "(I)I"⟩ ∈ TT := TT_i 1227 (by decide +kernel) (by decide +kernel)
theorem t_1229 : Cond.instanceMethod ⟨"SealedBookModel", "inChunk", "(I)I"⟩ ∈ TT := TT_i 1229 (by decide +kernel) (by decide +kernel)
theorem t_1230 : Cond.code ⟨"SealedBookModel", "inChunk", "(I)I"⟩ prog_11_method_51_code 5 (some .int) ∈ TT := TT_i 1230 (by decide +kernel) (by decide +kernel)
theorem t_1231 : Cond.methodLink "SealedBookModel" 223 ⟨"SealedBookModel", "lead", "(II)I"⟩ ∈ TT := TT_i 1231 (by decide +kernel) (by decide +kernel)
theorem t_1233 : Cond.instanceMethod ⟨"SealedBookModel", "lead", "(II)I"⟩ ∈ TT := TT_i 1233 (by decide +kernel) (by decide +kernel)
theorem t_1234 : Cond.code ⟨"SealedBookModel", "lead", "(II)I"⟩ prog_11_method_53_code 5 (some .int) ∈ TT := TT_i 1234 (by decide +kernel) (by decide +kernel)
theorem t_1235 : Cond.methodLink "SealedBookLaw" 133 ⟨"SealedBookModel", "shown", "()I"⟩ ∈ TT := TT_i 1235 (by decide +kernel) (by decide +kernel)
theorem t_1236 : Cond.instanceMethod ⟨"SealedBookModel", "shown", "()I"⟩ ∈ TT := TT_i 1236 (by decide +kernel) (by decide +kernel)
theorem t_1237 : Cond.selects "SealedBookModel" ⟨"SealedBookModel", "shown", "()I"⟩ ⟨"SealedBookModel", "shown", "()I"⟩ ∈ TT := TT_i 1237 (by decide +kernel) (by decide +kernel)
theorem t_1238 : Cond.code ⟨"SealedBookModel", "shown", "()I"⟩ prog_11_method_55_code 1 (some .int) ∈ TT := TT_i 1238 (by decide +kernel) (by decide +kernel)
theorem t_1239 : Cond.methodLink "SealedBookLaw" 136 ⟨"SealedBookModel", "verifyGrowth", "(IIII)Z"⟩ ∈ TT := TT_i 1239 (by decide +kernel) (by decide +kernel)
theorem t_1240 : Cond.instanceMethod ⟨"SealedBookModel", "verifyGrowth", "(IIII)Z"⟩ ∈ TT := TT_i 1240 (by decide +kernel) (by decide +kernel)
theorem t_1241 : Cond.selects "SealedBookModel" ⟨"SealedBookModel", "verifyGrowth", "(IIII)Z"⟩ ⟨"SealedBookModel", "verifyGrowth", "(IIII)Z"⟩ ∈ TT := TT_i 1241 (by decide +kernel) (by decide +kernel)
theorem t_1242 : Cond.code ⟨"SealedBookModel", "verifyGrowth", "(IIII)Z"⟩ prog_11_method_56_code 12 (some .boolean) ∈ TT := TT_i 1242 (by decide +kernel) (by decide +kernel)
theorem t_1243 : Cond.sameMethod "java/lang/Throwable" "java/lang/Throwable" "fillInStackTrace" "(I)Ljava/lang/Throwable;" ∈ TT := TT_i 1243 (by decide +kernel) (by decide +kernel)
theorem s_0 : Cond.selects "java/lang/Throwable" ⟨"java/lang/Throwable", "fillInStackTrace", "(I)Ljava/lang/Throwable;"⟩ ⟨"java/lang/Throwable", "fillInStackTrace", "(I)Ljava/lang/Throwable;"⟩ ∈ TT := TT_s 0 (by decide +kernel) (by decide +kernel)
theorem s_1 : Cond.selects "SealedBook" ⟨"SealedBook", "requireRoom", "()V"⟩ ⟨"SealedBook", "requireRoom", "()V"⟩ ∈ TT := TT_s 1 (by decide +kernel) (by decide +kernel)
theorem s_2 : Cond.selects "SealedBook$Store" ⟨"SealedBook$Store", "keepLevel", "(LSealedBook$Row;I)Z"⟩ ⟨"SealedBook$Store", "keepLevel", "(LSealedBook$Row;I)Z"⟩ ∈ TT := TT_s 2 (by decide +kernel) (by decide +kernel)
theorem s_3 : Cond.selects "SealedBook$Store" ⟨"SealedBook$Store", "keep", "(LSealedBook$Row;III)LSealedBook$Chunk;"⟩ ⟨"SealedBook$Store", "keep", "(LSealedBook$Row;III)LSealedBook$Chunk;"⟩ ∈ TT := TT_s 3 (by decide +kernel) (by decide +kernel)
theorem s_4 : Cond.selects "SealedBook" ⟨"SealedBook", "requireVersion", "(I)V"⟩ ⟨"SealedBook", "requireVersion", "(I)V"⟩ ∈ TT := TT_s 4 (by decide +kernel) (by decide +kernel)
theorem s_5 : Cond.selects "SealedBook$History" ⟨"SealedBook$History", "seal", "(II)I"⟩ ⟨"SealedBook$History", "seal", "(II)I"⟩ ∈ TT := TT_s 5 (by decide +kernel) (by decide +kernel)
theorem s_6 : Cond.selects "SealedBook$Prover" ⟨"SealedBook$Prover", "addWay", "(LSealedBook$History;III)V"⟩ ⟨"SealedBook$Prover", "addWay", "(LSealedBook$History;III)V"⟩ ∈ TT := TT_s 6 (by decide +kernel) (by decide +kernel)
theorem s_7 : Cond.selects "SealedBook$Prover" ⟨"SealedBook$Prover", "addChunk", "(LSealedBook$Chunk;)V"⟩ ⟨"SealedBook$Prover", "addChunk", "(LSealedBook$Chunk;)V"⟩ ∈ TT := TT_s 7 (by decide +kernel) (by decide +kernel)
theorem s_8 : Cond.selects "SealedBook$Prover" ⟨"SealedBook$Prover", "addPart", "(LSealedBook$History;III)V"⟩ ⟨"SealedBook$Prover", "addPart", "(LSealedBook$History;III)V"⟩ ∈ TT := TT_s 8 (by decide +kernel) (by decide +kernel)
theorem s_9 : Cond.selects "SealedBook$Verifier" ⟨"SealedBook$Verifier", "nextByte", "()I"⟩ ⟨"SealedBook$Verifier", "nextByte", "()I"⟩ ∈ TT := TT_s 9 (by decide +kernel) (by decide +kernel)
theorem s_10 : Cond.selects "SealedBook$Verifier" ⟨"SealedBook$Verifier", "readTree", "(I)Z"⟩ ⟨"SealedBook$Verifier", "readTree", "(I)Z"⟩ ∈ TT := TT_s 10 (by decide +kernel) (by decide +kernel)
theorem s_11 : Cond.selects "SealedBook$Verifier" ⟨"SealedBook$Verifier", "readChunk", "(II)Z"⟩ ⟨"SealedBook$Verifier", "readChunk", "(II)Z"⟩ ∈ TT := TT_s 11 (by decide +kernel) (by decide +kernel)
theorem s_12 : Cond.selects "SealedBook$Verifier" ⟨"SealedBook$Verifier", "nextInt", "()I"⟩ ⟨"SealedBook$Verifier", "nextInt", "()I"⟩ ∈ TT := TT_s 12 (by decide +kernel) (by decide +kernel)
theorem s_13 : Cond.selects "SealedBook$Verifier" ⟨"SealedBook$Verifier", "climb", "(III)I"⟩ ⟨"SealedBook$Verifier", "climb", "(III)I"⟩ ∈ TT := TT_s 13 (by decide +kernel) (by decide +kernel)
theorem s_14 : Cond.selects "SealedBook$Verifier" ⟨"SealedBook$Verifier", "readPart", "(IIII)V"⟩ ⟨"SealedBook$Verifier", "readPart", "(IIII)V"⟩ ∈ TT := TT_s 14 (by decide +kernel) (by decide +kernel)
theorem s_15 : Cond.selects "SealedBookModel" ⟨"SealedBookModel", "keyed", "(I)I"⟩ ⟨"SealedBookModel", "keyed", "(I)I"⟩ ∈ TT := TT_s 15 (by decide +kernel) (by decide +kernel)
theorem s_16 : Cond.selects "SealedBookModel" ⟨"SealedBookModel", "copy", "(II)V"⟩ ⟨"SealedBookModel", "copy", "(II)V"⟩ ∈ TT := TT_s 16 (by decide +kernel) (by decide +kernel)
theorem s_17 : Cond.selects "SealedBookModel" ⟨"SealedBookModel", "refuse", "(I)I"⟩ ⟨"SealedBookModel", "refuse", "(I)I"⟩ ∈ TT := TT_s 17 (by decide +kernel) (by decide +kernel)
theorem s_18 : Cond.selects "SealedBookModel" ⟨"SealedBookModel", "raise", "(I)I"⟩ ⟨"SealedBookModel", "raise", "(I)I"⟩ ∈ TT := TT_s 18 (by decide +kernel) (by decide +kernel)
theorem s_19 : Cond.selects "SealedBookModel" ⟨"SealedBookModel", "item", "(III)V"⟩ ⟨"SealedBookModel", "item", "(III)V"⟩ ∈ TT := TT_s 19 (by decide +kernel) (by decide +kernel)
theorem s_20 : Cond.selects "SealedBookModel" ⟨"SealedBookModel", "chunkEnd", "(II)I"⟩ ⟨"SealedBookModel", "chunkEnd", "(II)I"⟩ ∈ TT := TT_s 20 (by decide +kernel) (by decide +kernel)
theorem s_21 : Cond.selects "SealedBookModel" ⟨"SealedBookModel", "hashOf", "(III)I"⟩ ⟨"SealedBookModel", "hashOf", "(III)I"⟩ ∈ TT := TT_s 21 (by decide +kernel) (by decide +kernel)
theorem s_22 : Cond.selects "SealedBookModel" ⟨"SealedBookModel", "keepMap", "()V"⟩ ⟨"SealedBookModel", "keepMap", "()V"⟩ ∈ TT := TT_s 22 (by decide +kernel) (by decide +kernel)
theorem s_23 : Cond.selects "SealedBookModel" ⟨"SealedBookModel", "written", "()Z"⟩ ⟨"SealedBookModel", "written", "()Z"⟩ ∈ TT := TT_s 23 (by decide +kernel) (by decide +kernel)
theorem s_24 : Cond.selects "SealedBookModel" ⟨"SealedBookModel", "stored", "(III)Z"⟩ ⟨"SealedBookModel", "stored", "(III)Z"⟩ ∈ TT := TT_s 24 (by decide +kernel) (by decide +kernel)
theorem s_25 : Cond.selects "SealedBookModel" ⟨"SealedBookModel", "writes", "()Z"⟩ ⟨"SealedBookModel", "writes", "()Z"⟩ ∈ TT := TT_s 25 (by decide +kernel) (by decide +kernel)
theorem s_26 : Cond.selects "SealedBookModel" ⟨"SealedBookModel", "store", "(III)V"⟩ ⟨"SealedBookModel", "store", "(III)V"⟩ ∈ TT := TT_s 26 (by decide +kernel) (by decide +kernel)
theorem s_27 : Cond.selects "SealedBookModel" ⟨"SealedBookModel", "isVersion", "(I)Z"⟩ ⟨"SealedBookModel", "isVersion", "(I)Z"⟩ ∈ TT := TT_s 27 (by decide +kernel) (by decide +kernel)
theorem s_28 : Cond.selects "SealedBookModel" ⟨"SealedBookModel", "seal", "(II)I"⟩ ⟨"SealedBookModel", "seal", "(II)I"⟩ ∈ TT := TT_s 28 (by decide +kernel) (by decide +kernel)
theorem s_29 : Cond.selects "SealedBookModel" ⟨"SealedBookModel", "way", "(II)V"⟩ ⟨"SealedBookModel", "way", "(II)V"⟩ ∈ TT := TT_s 29 (by decide +kernel) (by decide +kernel)
theorem s_30 : Cond.selects "SealedBookModel" ⟨"SealedBookModel", "side", "(IIZ)V"⟩ ⟨"SealedBookModel", "side", "(IIZ)V"⟩ ∈ TT := TT_s 30 (by decide +kernel) (by decide +kernel)
theorem s_31 : Cond.selects "SealedBookModel" ⟨"SealedBookModel", "outBeside", "()V"⟩ ⟨"SealedBookModel", "outBeside", "()V"⟩ ∈ TT := TT_s 31 (by decide +kernel) (by decide +kernel)
theorem s_32 : Cond.selects "SealedBookModel" ⟨"SealedBookModel", "out", "(I)V"⟩ ⟨"SealedBookModel", "out", "(I)V"⟩ ∈ TT := TT_s 32 (by decide +kernel) (by decide +kernel)
theorem s_33 : Cond.selects "SealedBookModel" ⟨"SealedBookModel", "outInt", "(I)V"⟩ ⟨"SealedBookModel", "outInt", "(I)V"⟩ ∈ TT := TT_s 33 (by decide +kernel) (by decide +kernel)
theorem s_34 : Cond.selects "SealedBookModel" ⟨"SealedBookModel", "chunkOf", "(II)I"⟩ ⟨"SealedBookModel", "chunkOf", "(II)I"⟩ ∈ TT := TT_s 34 (by decide +kernel) (by decide +kernel)
theorem s_35 : Cond.selects "SealedBookModel" ⟨"SealedBookModel", "outChunk", "(III)V"⟩ ⟨"SealedBookModel", "outChunk", "(III)V"⟩ ∈ TT := TT_s 35 (by decide +kernel) (by decide +kernel)
theorem s_36 : Cond.selects "SealedBookModel" ⟨"SealedBookModel", "growth", "(II)Z"⟩ ⟨"SealedBookModel", "growth", "(II)Z"⟩ ∈ TT := TT_s 36 (by decide +kernel) (by decide +kernel)
theorem s_37 : Cond.selects "SealedBookModel" ⟨"SealedBookModel", "inBeside", "()V"⟩ ⟨"SealedBookModel", "inBeside", "()V"⟩ ∈ TT := TT_s 37 (by decide +kernel) (by decide +kernel)
theorem s_38 : Cond.selects "SealedBookModel" ⟨"SealedBookModel", "in", "(II)I"⟩ ⟨"SealedBookModel", "in", "(II)I"⟩ ∈ TT := TT_s 38 (by decide +kernel) (by decide +kernel)
theorem s_39 : Cond.selects "SealedBookModel" ⟨"SealedBookModel", "inInt", "()I"⟩ ⟨"SealedBookModel", "inInt", "()I"⟩ ∈ TT := TT_s 39 (by decide +kernel) (by decide +kernel)
theorem s_40 : Cond.selects "SealedBookModel" ⟨"SealedBookModel", "inLevels", "(I)I"⟩ ⟨"SealedBookModel", "inLevels", "(I)I"⟩ ∈ TT := TT_s 40 (by decide +kernel) (by decide +kernel)
theorem s_41 : Cond.selects "SealedBookModel" ⟨"SealedBookModel", "inChunk", "(I)I"⟩ ⟨"SealedBookModel", "inChunk", "(I)I"⟩ ∈ TT := TT_s 41 (by decide +kernel) (by decide +kernel)
theorem s_42 : Cond.selects "SealedBookModel" ⟨"SealedBookModel", "lead", "(II)I"⟩ ⟨"SealedBookModel", "lead", "(II)I"⟩ ∈ TT := TT_s 42 (by decide +kernel) (by decide +kernel)
end
section
/-- the fields of SealedBook$Bytes -/
def F_B : u_T := fun k => match k with
  | 0 => ("SealedBook$Bytes", "cells", "[I", true)
  | _ => ("SealedBook$Bytes", "size", "I", false)
def ty_B : Nat → FieldType := fun k => match k with
  | 0 => .array .int
  | _ => .int
theorem ok_B : ∀ k, k < 2 → parseFieldDescriptor (F_B k).2.2.1 = some (ty_B k) := by decide +kernel
theorem nm_B : ∀ a, a < 2 → ∀ b, b < 2 → a ≠ b → (F_B a).2.1 ≠ (F_B b).2.1 := by decide +kernel
theorem in_B : ∀ w ∈ u_ws "SealedBook$Bytes" F_B 2, w ∈ TT := List.forall_mem_cons.mpr ⟨t_132, List.forall_mem_cons.mpr ⟨t_134, fun _ h => absurd h List.not_mem_nil⟩⟩
/-- the fields of SealedBook$Chunk -/
def F_C : u_T := fun k => match k with
  | 0 => ("SealedBook$Chunk", "level", "I", true)
  | 1 => ("SealedBook$Chunk", "hash", "I", true)
  | 2 => ("SealedBook$Chunk", "keys", "[I", true)
  | 3 => ("SealedBook$Chunk", "values", "[I", true)
  | 4 => ("SealedBook$Chunk", "below", "[LSealedBook$Chunk;", true)
  | _ => ("SealedBook$Chunk", "older", "LSealedBook$Chunk;", true)
def ty_C : Nat → FieldType := fun k => match k with
  | 0 => .int
  | 1 => .int
  | 2 => .array .int
  | 3 => .array .int
  | 4 => .array (.object "SealedBook$Chunk")
  | _ => .object "SealedBook$Chunk"
theorem ok_C : ∀ k, k < 6 → parseFieldDescriptor (F_C k).2.2.1 = some (ty_C k) := by decide +kernel
theorem nm_C : ∀ a, a < 6 → ∀ b, b < 6 → a ≠ b → (F_C a).2.1 ≠ (F_C b).2.1 := by decide +kernel
theorem in_C : ∀ w ∈ u_ws "SealedBook$Chunk" F_C 6, w ∈ TT := List.forall_mem_cons.mpr ⟨t_715, List.forall_mem_cons.mpr ⟨t_717, List.forall_mem_cons.mpr ⟨t_719, List.forall_mem_cons.mpr ⟨t_721, List.forall_mem_cons.mpr ⟨t_723, List.forall_mem_cons.mpr ⟨t_725, fun _ h => absurd h List.not_mem_nil⟩⟩⟩⟩⟩⟩
/-- the fields of SealedBook$History -/
def F_H : u_T := fun k => match k with
  | 0 => ("SealedBook$History", "tops", "[LSealedBook$Chunk;", true)
  | _ => ("SealedBook$History", "size", "I", false)
def ty_H : Nat → FieldType := fun k => match k with
  | 0 => .array (.object "SealedBook$Chunk")
  | _ => .int
theorem ok_H : ∀ k, k < 2 → parseFieldDescriptor (F_H k).2.2.1 = some (ty_H k) := by decide +kernel
theorem nm_H : ∀ a, a < 2 → ∀ b, b < 2 → a ≠ b → (F_H a).2.1 ≠ (F_H b).2.1 := by decide +kernel
theorem in_H : ∀ w ∈ u_ws "SealedBook$History" F_H 2, w ∈ TT := List.forall_mem_cons.mpr ⟨t_68, List.forall_mem_cons.mpr ⟨t_70, fun _ h => absurd h List.not_mem_nil⟩⟩
/-- the fields of SealedBook$Prover -/
def F_P : u_T := fun k => match k with
  | _ => ("SealedBook$Prover", "bytes", "LSealedBook$Bytes;", true)
def ty_P : Nat → FieldType := fun k => match k with
  | _ => .object "SealedBook$Bytes"
theorem ok_P : ∀ k, k < 1 → parseFieldDescriptor (F_P k).2.2.1 = some (ty_P k) := by decide +kernel
theorem nm_P : ∀ a, a < 1 → ∀ b, b < 1 → a ≠ b → (F_P a).2.1 ≠ (F_P b).2.1 := by decide +kernel
theorem in_P : ∀ w ∈ u_ws "SealedBook$Prover" F_P 1, w ∈ TT := List.forall_mem_cons.mpr ⟨t_139, fun _ h => absurd h List.not_mem_nil⟩
/-- the fields of SealedBook$Row -/
def F_R : u_T := fun k => match k with
  | 0 => ("SealedBook$Row", "keys", "[I", true)
  | 1 => ("SealedBook$Row", "values", "[I", true)
  | 2 => ("SealedBook$Row", "below", "[LSealedBook$Chunk;", true)
  | _ => ("SealedBook$Row", "size", "I", false)
def ty_R : Nat → FieldType := fun k => match k with
  | 0 => .array .int
  | 1 => .array .int
  | 2 => .array (.object "SealedBook$Chunk")
  | _ => .int
theorem ok_R : ∀ k, k < 4 → parseFieldDescriptor (F_R k).2.2.1 = some (ty_R k) := by decide +kernel
theorem nm_R : ∀ a, a < 4 → ∀ b, b < 4 → a ≠ b → (F_R a).2.1 ≠ (F_R b).2.1 := by decide +kernel
theorem in_R : ∀ w ∈ u_ws "SealedBook$Row" F_R 4, w ∈ TT := List.forall_mem_cons.mpr ⟨t_107, List.forall_mem_cons.mpr ⟨t_109, List.forall_mem_cons.mpr ⟨t_111, List.forall_mem_cons.mpr ⟨t_113, fun _ h => absurd h List.not_mem_nil⟩⟩⟩⟩
/-- the fields of SealedBook$Store -/
def F_S : u_T := fun k => match k with
  | 0 => ("SealedBook$Store", "shelves", "[LSealedBook$Chunk;", true)
  | 1 => ("SealedBook$Store", "size", "I", false)
  | _ => ("SealedBook$Store", "untilFailure", "I", false)
def ty_S : Nat → FieldType := fun k => match k with
  | 0 => .array (.object "SealedBook$Chunk")
  | 1 => .int
  | _ => .int
theorem ok_S : ∀ k, k < 3 → parseFieldDescriptor (F_S k).2.2.1 = some (ty_S k) := by decide +kernel
theorem nm_S : ∀ a, a < 3 → ∀ b, b < 3 → a ≠ b → (F_S a).2.1 ≠ (F_S b).2.1 := by decide +kernel
theorem in_S : ∀ w ∈ u_ws "SealedBook$Store" F_S 3, w ∈ TT := List.forall_mem_cons.mpr ⟨t_49, List.forall_mem_cons.mpr ⟨t_51, List.forall_mem_cons.mpr ⟨t_53, fun _ h => absurd h List.not_mem_nil⟩⟩⟩
/-- the fields of SealedBook$Transaction -/
def F_T : u_T := fun k => match k with
  | 0 => ("SealedBook$Transaction", "has", "[Z", true)
  | _ => ("SealedBook$Transaction", "values", "[I", true)
def ty_T : Nat → FieldType := fun k => match k with
  | 0 => .array .boolean
  | _ => .array .int
theorem ok_T : ∀ k, k < 2 → parseFieldDescriptor (F_T k).2.2.1 = some (ty_T k) := by decide +kernel
theorem nm_T : ∀ a, a < 2 → ∀ b, b < 2 → a ≠ b → (F_T a).2.1 ≠ (F_T b).2.1 := by decide +kernel
theorem in_T : ∀ w ∈ u_ws "SealedBook$Transaction" F_T 2, w ∈ TT := List.forall_mem_cons.mpr ⟨t_83, List.forall_mem_cons.mpr ⟨t_85, fun _ h => absurd h List.not_mem_nil⟩⟩
/-- the fields of SealedBook$Verifier -/
def F_V : u_T := fun k => match k with
  | 0 => ("SealedBook$Verifier", "bytes", "LSealedBook$Bytes;", true)
  | 1 => ("SealedBook$Verifier", "noted", "I", false)
  | 2 => ("SealedBook$Verifier", "position", "I", false)
  | 3 => ("SealedBook$Verifier", "levels", "I", false)
  | 4 => ("SealedBook$Verifier", "root", "I", false)
  | 5 => ("SealedBook$Verifier", "hash", "I", false)
  | 6 => ("SealedBook$Verifier", "lastKey", "I", false)
  | 7 => ("SealedBook$Verifier", "chosenKey", "I", false)
  | 8 => ("SealedBook$Verifier", "chosenValue", "I", false)
  | 9 => ("SealedBook$Verifier", "olderSeal", "I", false)
  | _ => ("SealedBook$Verifier", "wholeSeal", "I", false)
def ty_V : Nat → FieldType := fun k => match k with
  | 0 => .object "SealedBook$Bytes"
  | 1 => .int
  | 2 => .int
  | 3 => .int
  | 4 => .int
  | 5 => .int
  | 6 => .int
  | 7 => .int
  | 8 => .int
  | 9 => .int
  | _ => .int
theorem ok_V : ∀ k, k < 11 → parseFieldDescriptor (F_V k).2.2.1 = some (ty_V k) := by decide +kernel
theorem nm_V : ∀ a, a < 11 → ∀ b, b < 11 → a ≠ b → (F_V a).2.1 ≠ (F_V b).2.1 := by decide +kernel
theorem in_V : ∀ w ∈ u_ws "SealedBook$Verifier" F_V 11, w ∈ TT := List.forall_mem_cons.mpr ⟨t_163, List.forall_mem_cons.mpr ⟨t_165, List.forall_mem_cons.mpr ⟨t_167, List.forall_mem_cons.mpr ⟨t_169, List.forall_mem_cons.mpr ⟨t_171, List.forall_mem_cons.mpr ⟨t_173, List.forall_mem_cons.mpr ⟨t_175, List.forall_mem_cons.mpr ⟨t_177, List.forall_mem_cons.mpr ⟨t_179, List.forall_mem_cons.mpr ⟨t_181, List.forall_mem_cons.mpr ⟨t_183, fun _ h => absurd h List.not_mem_nil⟩⟩⟩⟩⟩⟩⟩⟩⟩⟩⟩
/-- the fields of SealedBook -/
def F_K : u_T := fun k => match k with
  | 0 => ("SealedBook", "store", "LSealedBook$Store;", true)
  | 1 => ("SealedBook", "history", "LSealedBook$History;", true)
  | 2 => ("SealedBook", "transaction", "LSealedBook$Transaction;", true)
  | 3 => ("SealedBook", "row", "LSealedBook$Row;", true)
  | 4 => ("SealedBook", "prover", "LSealedBook$Prover;", true)
  | _ => ("SealedBook", "verifier", "LSealedBook$Verifier;", true)
def ty_K : Nat → FieldType := fun k => match k with
  | 0 => .object "SealedBook$Store"
  | 1 => .object "SealedBook$History"
  | 2 => .object "SealedBook$Transaction"
  | 3 => .object "SealedBook$Row"
  | 4 => .object "SealedBook$Prover"
  | _ => .object "SealedBook$Verifier"
theorem ok_K : ∀ k, k < 6 → parseFieldDescriptor (F_K k).2.2.1 = some (ty_K k) := by decide +kernel
theorem nm_K : ∀ a, a < 6 → ∀ b, b < 6 → a ≠ b → (F_K a).2.1 ≠ (F_K b).2.1 := by decide +kernel
theorem in_K : ∀ w ∈ u_ws "SealedBook" F_K 6, w ∈ TT := List.forall_mem_cons.mpr ⟨t_192, List.forall_mem_cons.mpr ⟨t_194, List.forall_mem_cons.mpr ⟨t_196, List.forall_mem_cons.mpr ⟨t_198, List.forall_mem_cons.mpr ⟨t_200, List.forall_mem_cons.mpr ⟨t_202, fun _ h => absurd h List.not_mem_nil⟩⟩⟩⟩⟩⟩
/-- the fields of SealedBookModel -/
def F_M : u_T := fun k => match k with
  | 0 => ("SealedBookModel", "thrown", "I", false)
  | 1 => ("SealedBookModel", "has", "[Z", true)
  | 2 => ("SealedBookModel", "value", "[I", true)
  | 3 => ("SealedBookModel", "versions", "I", false)
  | 4 => ("SealedBookModel", "roots", "[I", true)
  | 5 => ("SealedBookModel", "failing", "I", false)
  | 6 => ("SealedBookModel", "chunks", "I", false)
  | 7 => ("SealedBookModel", "chunk", "[I", true)
  | 8 => ("SealedBookModel", "maps", "I", false)
  | 9 => ("SealedBookModel", "mapHas", "[J", true)
  | 10 => ("SealedBookModel", "mapValue", "[I", true)
  | 11 => ("SealedBookModel", "levels", "I", false)
  | 12 => ("SealedBookModel", "many", "[I", true)
  | 13 => ("SealedBookModel", "itemKey", "[I", true)
  | 14 => ("SealedBookModel", "itemValue", "[I", true)
  | 15 => ("SealedBookModel", "waiting", "[I", true)
  | 16 => ("SealedBookModel", "leaves", "[I", true)
  | 17 => ("SealedBookModel", "beside", "I", false)
  | 18 => ("SealedBookModel", "besideFrom", "[I", true)
  | 19 => ("SealedBookModel", "besideMany", "[I", true)
  | 20 => ("SealedBookModel", "onLeft", "[Z", true)
  | 21 => ("SealedBookModel", "size", "I", false)
  | 22 => ("SealedBookModel", "proof", "[I", true)
  | 23 => ("SealedBookModel", "taken", "I", false)
  | 24 => ("SealedBookModel", "bytes", "[I", true)
  | 25 => ("SealedBookModel", "at", "I", false)
  | 26 => ("SealedBookModel", "right", "Z", false)
  | 27 => ("SealedBookModel", "ints", "[I", true)
  | 28 => ("SealedBookModel", "shown", "I", false)
  | 29 => ("SealedBookModel", "items", "I", false)
  | 30 => ("SealedBookModel", "readKey", "[I", true)
  | _ => ("SealedBookModel", "readValue", "[I", true)
def ty_M : Nat → FieldType := fun k => match k with
  | 0 => .int
  | 1 => .array .boolean
  | 2 => .array .int
  | 3 => .int
  | 4 => .array .int
  | 5 => .int
  | 6 => .int
  | 7 => .array .int
  | 8 => .int
  | 9 => .array .long
  | 10 => .array .int
  | 11 => .int
  | 12 => .array .int
  | 13 => .array .int
  | 14 => .array .int
  | 15 => .array .int
  | 16 => .array .int
  | 17 => .int
  | 18 => .array .int
  | 19 => .array .int
  | 20 => .array .boolean
  | 21 => .int
  | 22 => .array .int
  | 23 => .int
  | 24 => .array .int
  | 25 => .int
  | 26 => .boolean
  | 27 => .array .int
  | 28 => .int
  | 29 => .int
  | 30 => .array .int
  | _ => .array .int
theorem ok_M : ∀ k, k < 32 → parseFieldDescriptor (F_M k).2.2.1 = some (ty_M k) := by decide +kernel
theorem nm_M : ∀ a, a < 32 → ∀ b, b < 32 → a ≠ b → (F_M a).2.1 ≠ (F_M b).2.1 := by decide +kernel
theorem in_M : ∀ w ∈ u_ws "SealedBookModel" F_M 32, w ∈ TT := List.forall_mem_cons.mpr ⟨t_963, List.forall_mem_cons.mpr ⟨t_965, List.forall_mem_cons.mpr ⟨t_967, List.forall_mem_cons.mpr ⟨t_969, List.forall_mem_cons.mpr ⟨t_971, List.forall_mem_cons.mpr ⟨t_973, List.forall_mem_cons.mpr ⟨t_975, List.forall_mem_cons.mpr ⟨t_977, List.forall_mem_cons.mpr ⟨t_979, List.forall_mem_cons.mpr ⟨t_981, List.forall_mem_cons.mpr ⟨t_983, List.forall_mem_cons.mpr ⟨t_985, List.forall_mem_cons.mpr ⟨t_987, List.forall_mem_cons.mpr ⟨t_989, List.forall_mem_cons.mpr ⟨t_991, List.forall_mem_cons.mpr ⟨t_993, List.forall_mem_cons.mpr ⟨t_995, List.forall_mem_cons.mpr ⟨t_997, List.forall_mem_cons.mpr ⟨t_999, List.forall_mem_cons.mpr ⟨t_1001, List.forall_mem_cons.mpr ⟨t_1003, List.forall_mem_cons.mpr ⟨t_1005, List.forall_mem_cons.mpr ⟨t_1007, List.forall_mem_cons.mpr ⟨t_1009, List.forall_mem_cons.mpr ⟨t_1011, List.forall_mem_cons.mpr ⟨t_1013, List.forall_mem_cons.mpr ⟨t_1015, List.forall_mem_cons.mpr ⟨t_1017, List.forall_mem_cons.mpr ⟨t_1019, List.forall_mem_cons.mpr ⟨t_1021, List.forall_mem_cons.mpr ⟨t_1023, List.forall_mem_cons.mpr ⟨t_1025, fun _ h => absurd h List.not_mem_nil⟩⟩⟩⟩⟩⟩⟩⟩⟩⟩⟩⟩⟩⟩⟩⟩⟩⟩⟩⟩⟩⟩⟩⟩⟩⟩⟩⟩⟩⟩⟩⟩
/-- the classes whose objects the worlds hold -/
abbrev CC : List vw_C := [("SealedBook$Bytes", F_B, 2), ("SealedBook$Chunk", F_C, 6), ("SealedBook$History", F_H, 2), ("SealedBook$Prover", F_P, 1), ("SealedBook$Row", F_R, 4), ("SealedBook$Store", F_S, 3), ("SealedBook$Transaction", F_T, 2), ("SealedBook$Verifier", F_V, 11), ("SealedBook", F_K, 6), ("SealedBookModel", F_M, 32)]
def y_K_init : MethodName := ⟨"SealedBook", "<init>", "()V"⟩
def w_K_init : List Cond := Cond.code y_K_init prog_1_method_1_code 1 none :: TT
def y_S_init : MethodName := ⟨"SealedBook$Store", "<init>", "()V"⟩
def w_S_init : List Cond := Cond.code y_S_init prog_7_method_1_code 1 none :: TT
def y_H_init : MethodName := ⟨"SealedBook$History", "<init>", "()V"⟩
def w_H_init : List Cond := Cond.code y_H_init prog_4_method_1_code 1 none :: TT
def y_T_init : MethodName := ⟨"SealedBook$Transaction", "<init>", "()V"⟩
def w_T_init : List Cond := Cond.code y_T_init prog_8_method_1_code 1 none :: TT
def y_R_init : MethodName := ⟨"SealedBook$Row", "<init>", "()V"⟩
def w_R_init : List Cond := Cond.code y_R_init prog_6_method_1_code 1 none :: TT
def y_P_init : MethodName := ⟨"SealedBook$Prover", "<init>", "()V"⟩
def w_P_init : List Cond := Cond.code y_P_init prog_5_method_1_code 1 none :: TT
def y_B_init : MethodName := ⟨"SealedBook$Bytes", "<init>", "()V"⟩
def w_B_init : List Cond := Cond.code y_B_init prog_2_method_1_code 1 none :: TT
def y_V_init : MethodName := ⟨"SealedBook$Verifier", "<init>", "()V"⟩
def w_V_init : List Cond := Cond.code y_V_init prog_9_method_1_code 1 none :: TT
def y_K_rollback : MethodName := ⟨"SealedBook", "rollback", "()V"⟩
def w_K_rollback : List Cond := Cond.code y_K_rollback prog_1_method_5_code 1 none :: TT
def y_T_load : MethodName := ⟨"SealedBook$Transaction", "load", "(LSealedBook$Chunk;)V"⟩
def w_T_load : List Cond := Cond.code y_T_load prog_8_method_4_code 4 none :: TT
def y_K_bottomFor : MethodName := ⟨"SealedBook", "bottomFor", "(LSealedBook$Chunk;I)LSealedBook$Chunk;"⟩
def w_K_bottomFor : List Cond := Cond.code y_K_bottomFor prog_1_method_31_code 4 (some (.object "SealedBook$Chunk")) :: TT
def y_C_under : MethodName := ⟨"SealedBook$Chunk", "under", "(I)LSealedBook$Chunk;"⟩
def w_C_under : List Cond := Cond.code y_C_under prog_3_method_3_code 2 (some (.object "SealedBook$Chunk")) :: TT
def y_C_placeFor : MethodName := ⟨"SealedBook$Chunk", "placeFor", "(I)I"⟩
def w_C_placeFor : List Cond := Cond.code y_C_placeFor prog_3_method_2_code 3 (some .int) :: TT
def y_K_holds : MethodName := ⟨"SealedBook", "holds", "(LSealedBook$Chunk;I)Z"⟩
def w_K_holds : List Cond := Cond.code y_K_holds prog_1_method_32_code 2 (some .boolean) :: TT
def y_K_valueIn : MethodName := ⟨"SealedBook", "valueIn", "(LSealedBook$Chunk;I)I"⟩
def w_K_valueIn : List Cond := Cond.code y_K_valueIn prog_1_method_33_code 2 (some .int) :: TT
def y_K_fail : MethodName := ⟨"SealedBook", "fail", "(I)Z"⟩
def w_K_fail : List Cond := Cond.code y_K_fail prog_1_method_6_code 2 (some .boolean) :: TT
def y_K_chunks : MethodName := ⟨"SealedBook", "chunks", "()I"⟩
def w_K_chunks : List Cond := Cond.code y_K_chunks prog_1_method_7_code 1 (some .int) :: TT
def y_K_versions : MethodName := ⟨"SealedBook", "versions", "()I"⟩
def w_K_versions : List Cond := Cond.code y_K_versions prog_1_method_8_code 1 (some .int) :: TT
def y_K_proof : MethodName := ⟨"SealedBook", "proof", "(I)I"⟩
def w_K_proof : List Cond := Cond.code y_K_proof prog_1_method_15_code 2 (some .int) :: TT
def y_B_at : MethodName := ⟨"SealedBook$Bytes", "at", "(I)I"⟩
def w_B_at : List Cond := Cond.code y_B_at prog_2_method_3_code 2 (some .int) :: TT
def y_K_take : MethodName := ⟨"SealedBook", "take", "(II)Z"⟩
def w_K_take : List Cond := Cond.code y_K_take prog_1_method_16_code 3 (some .boolean) :: TT
def y_B_append : MethodName := ⟨"SealedBook$Bytes", "append", "(II)V"⟩
def w_B_append : List Cond := Cond.code y_B_append prog_2_method_4_code 4 none :: TT
def y_K_carry : MethodName := ⟨"SealedBook", "carry", "(II)I"⟩
def w_K_carry : List Cond := Cond.code y_K_carry prog_1_method_17_code 3 (some .int) :: TT
def y_B_become : MethodName := ⟨"SealedBook$Bytes", "become", "(LSealedBook$Bytes;)V"⟩
def w_B_become : List Cond := Cond.code y_B_become prog_2_method_7_code 2 none :: TT
def y_B_flip : MethodName := ⟨"SealedBook$Bytes", "flip", "(II)V"⟩
def w_B_flip : List Cond := Cond.code y_B_flip prog_2_method_8_code 3 none :: TT
def y_K_shown : MethodName := ⟨"SealedBook", "shown", "()I"⟩
def w_K_shown : List Cond := Cond.code y_K_shown prog_1_method_19_code 1 (some .int) :: TT
def y_L_put : MethodName := ⟨"SealedBookLaw", "put", "(LSealedBook;II)I"⟩
def w_L_put : List Cond := Cond.codeWith y_L_put method_3_code 4 (some .int) [(0, 6, 9, 13), (0, 6, 12, 15)] :: TT
def y_K_put : MethodName := ⟨"SealedBook", "put", "(II)V"⟩
def w_K_put : List Cond := Cond.code y_K_put prog_1_method_2_code 3 none :: TT
def y_K_requireKey : MethodName := ⟨"SealedBook", "requireKey", "(I)V"⟩
def w_K_requireKey : List Cond := Cond.code y_K_requireKey prog_1_method_23_code 1 none :: TT
def y_K_require : MethodName := ⟨"SealedBook", "require", "(Z)V"⟩
def w_K_require : List Cond := Cond.code y_K_require prog_1_method_24_code 1 none :: TT
def y_K_requireRoom : MethodName := ⟨"SealedBook", "requireRoom", "()V"⟩
def w_K_requireRoom : List Cond := Cond.code y_K_requireRoom prog_1_method_21_code 1 none :: TT
def y_T_set : MethodName := ⟨"SealedBook$Transaction", "set", "(II)V"⟩
def w_T_set : List Cond := Cond.code y_T_set prog_8_method_2_code 3 none :: TT
def y_L_delete : MethodName := ⟨"SealedBookLaw", "delete", "(LSealedBook;I[J)I"⟩
def w_L_delete : List Cond := Cond.codeWith y_L_delete method_4_code 4 (some .int) [(0, 16, 19, 13), (0, 16, 22, 15)] :: TT
def y_K_delete : MethodName := ⟨"SealedBook", "delete", "(I)Z"⟩
def w_K_delete : List Cond := Cond.code y_K_delete prog_1_method_3_code 2 (some .boolean) :: TT
def y_T_unset : MethodName := ⟨"SealedBook$Transaction", "unset", "(I)Z"⟩
def w_T_unset : List Cond := Cond.code y_T_unset prog_8_method_3_code 3 (some .boolean) :: TT
def y_L_commit : MethodName := ⟨"SealedBookLaw", "commit", "(LSealedBook;[J)I"⟩
def w_L_commit : List Cond := Cond.codeWith y_L_commit method_5_code 3 (some .int) [(0, 8, 11, 15)] :: TT
def y_K_commit : MethodName := ⟨"SealedBook", "commit", "()I"⟩
def w_K_commit : List Cond := Cond.code y_K_commit prog_1_method_4_code 1 (some .int) :: TT
def y_T_listInto : MethodName := ⟨"SealedBook$Transaction", "listInto", "(LSealedBook$Row;)V"⟩
def w_T_listInto : List Cond := Cond.code y_T_listInto prog_8_method_5_code 4 none :: TT
def y_R_set : MethodName := ⟨"SealedBook$Row", "set", "(IIILSealedBook$Chunk;)V"⟩
def w_R_set : List Cond := Cond.code y_R_set prog_6_method_2_code 5 none :: TT
def y_S_keepTree : MethodName := ⟨"SealedBook$Store", "keepTree", "(LSealedBook$Row;)Z"⟩
def w_S_keepTree : List Cond := Cond.code y_S_keepTree prog_7_method_2_code 4 (some .boolean) :: TT
def y_S_keepLevel : MethodName := ⟨"SealedBook$Store", "keepLevel", "(LSealedBook$Row;I)Z"⟩
def w_S_keepLevel : List Cond := Cond.code y_S_keepLevel prog_7_method_3_code 8 (some .boolean) :: TT
def y_K_endsChunk : MethodName := ⟨"SealedBook", "endsChunk", "(II)Z"⟩
def w_K_endsChunk : List Cond := Cond.code y_K_endsChunk prog_1_method_30_code 2 (some .boolean) :: TT
def y_K_mix : MethodName := ⟨"SealedBook", "mix", "(II)I"⟩
def w_K_mix : List Cond := Cond.code y_K_mix prog_1_method_26_code 3 (some .int) :: TT
def y_S_keep : MethodName := ⟨"SealedBook$Store", "keep", "(LSealedBook$Row;III)LSealedBook$Chunk;"⟩
def w_S_keep : List Cond := Cond.code y_S_keep prog_7_method_4_code 8 (some (.object "SealedBook$Chunk")) :: TT
def y_R_hashOf : MethodName := ⟨"SealedBook$Row", "hashOf", "(III)I"⟩
def w_R_hashOf : List Cond := Cond.code y_R_hashOf prog_6_method_4_code 6 (some .int) :: TT
def y_R_matches : MethodName := ⟨"SealedBook$Row", "matches", "(LSealedBook$Chunk;II)Z"⟩
def w_R_matches : List Cond := Cond.code y_R_matches prog_6_method_5_code 6 (some .boolean) :: TT
def y_S_write : MethodName := ⟨"SealedBook$Store", "write", "()Z"⟩
def w_S_write : List Cond := Cond.code y_S_write prog_7_method_5_code 1 (some .boolean) :: TT
def y_C_init : MethodName := ⟨"SealedBook$Chunk", "<init>", "(LSealedBook$Row;IIIILSealedBook$Chunk;)V"⟩
def w_C_init : List Cond := Cond.code y_C_init prog_3_method_1_code 8 none :: TT
def y_A_copyOfRange : MethodName := ⟨"java/util/Arrays", "copyOfRange", "([III)[I"⟩
def w_A_copyOfRange : List Cond := Cond.code y_A_copyOfRange prog_26_method_136_code 3 (some (.array .int)) :: TT
def y_R_top : MethodName := ⟨"SealedBook$Row", "top", "()LSealedBook$Chunk;"⟩
def w_R_top : List Cond := Cond.code y_R_top prog_6_method_3_code 1 (some (.object "SealedBook$Chunk")) :: TT
def y_H_add : MethodName := ⟨"SealedBook$History", "add", "(LSealedBook$Chunk;)V"⟩
def w_H_add : List Cond := Cond.code y_H_add prog_4_method_2_code 2 none :: TT
def y_L_get : MethodName := ⟨"SealedBookLaw", "get", "(LSealedBook;II[J)I"⟩
def w_L_get : List Cond := Cond.codeWith y_L_get method_6_code 5 (some .int) [(0, 10, 13, 13), (0, 10, 17, 29)] :: TT
def y_K_get : MethodName := ⟨"SealedBook", "get", "(II)I"⟩
def w_K_get : List Cond := Cond.code y_K_get prog_1_method_9_code 4 (some .int) :: TT
def y_K_requireVersion : MethodName := ⟨"SealedBook", "requireVersion", "(I)V"⟩
def w_K_requireVersion : List Cond := Cond.code y_K_requireVersion prog_1_method_22_code 2 none :: TT
def y_K_requireValue : MethodName := ⟨"SealedBook", "requireValue", "(Z)V"⟩
def w_K_requireValue : List Cond := Cond.code y_K_requireValue prog_1_method_25_code 1 none :: TT
def y_L_range : MethodName := ⟨"SealedBookLaw", "range", "(LSealedBook;III[J)I"⟩
def w_L_range : List Cond := Cond.codeWith y_L_range method_7_code 6 (some .int) [(0, 12, 15, 13)] :: TT
def y_K_range : MethodName := ⟨"SealedBook", "range", "(III)I"⟩
def w_K_range : List Cond := Cond.code y_K_range prog_1_method_10_code 7 (some .int) :: TT
def y_L_root : MethodName := ⟨"SealedBookLaw", "root", "(LSealedBook;I[J)I"⟩
def w_L_root : List Cond := Cond.codeWith y_L_root method_8_code 4 (some .int) [(0, 9, 12, 13)] :: TT
def y_K_root : MethodName := ⟨"SealedBook", "root", "(I)I"⟩
def w_K_root : List Cond := Cond.code y_K_root prog_1_method_11_code 2 (some .int) :: TT
def y_H_rootOf : MethodName := ⟨"SealedBook$History", "rootOf", "(I)I"⟩
def w_H_rootOf : List Cond := Cond.code y_H_rootOf prog_4_method_3_code 2 (some .int) :: TT
def y_L_digest : MethodName := ⟨"SealedBookLaw", "digest", "(LSealedBook;I[J)I"⟩
def w_L_digest : List Cond := Cond.codeWith y_L_digest method_9_code 4 (some .int) [(0, 9, 12, 13)] :: TT
def y_K_digest : MethodName := ⟨"SealedBook", "digest", "(I)I"⟩
def w_K_digest : List Cond := Cond.code y_K_digest prog_1_method_12_code 2 (some .int) :: TT
def y_H_seal : MethodName := ⟨"SealedBook$History", "seal", "(II)I"⟩
def w_H_seal : List Cond := Cond.code y_H_seal prog_4_method_4_code 4 (some .int) :: TT
def y_K_leafOf : MethodName := ⟨"SealedBook", "leafOf", "(II)I"⟩
def w_K_leafOf : List Cond := Cond.code y_K_leafOf prog_1_method_27_code 2 (some .int) :: TT
def y_K_half : MethodName := ⟨"SealedBook", "half", "(I)I"⟩
def w_K_half : List Cond := Cond.code y_K_half prog_1_method_29_code 2 (some .int) :: TT
def y_K_join : MethodName := ⟨"SealedBook", "join", "(II)I"⟩
def w_K_join : List Cond := Cond.code y_K_join prog_1_method_28_code 2 (some .int) :: TT
def y_L_prove : MethodName := ⟨"SealedBookLaw", "prove", "(LSealedBook;III[J)I"⟩
def w_L_prove : List Cond := Cond.codeWith y_L_prove method_10_code 6 (some .int) [(0, 12, 15, 13)] :: TT
def y_K_prove : MethodName := ⟨"SealedBook", "prove", "(III)I"⟩
def w_K_prove : List Cond := Cond.code y_K_prove prog_1_method_13_code 4 (some .int) :: TT
def y_P_makeProof : MethodName := ⟨"SealedBook$Prover", "makeProof", "(LSealedBook$History;III)V"⟩
def w_P_makeProof : List Cond := Cond.code y_P_makeProof prog_5_method_2_code 7 none :: TT
def y_B_clear : MethodName := ⟨"SealedBook$Bytes", "clear", "()V"⟩
def w_B_clear : List Cond := Cond.code y_B_clear prog_2_method_2_code 1 none :: TT
def y_B_appendByte : MethodName := ⟨"SealedBook$Bytes", "appendByte", "(I)V"⟩
def w_B_appendByte : List Cond := Cond.code y_B_appendByte prog_2_method_5_code 2 none :: TT
def y_P_addWay : MethodName := ⟨"SealedBook$Prover", "addWay", "(LSealedBook$History;III)V"⟩
def w_P_addWay : List Cond := Cond.code y_P_addWay prog_5_method_4_code 7 none :: TT
def y_B_appendInt : MethodName := ⟨"SealedBook$Bytes", "appendInt", "(I)V"⟩
def w_B_appendInt : List Cond := Cond.code y_B_appendInt prog_2_method_6_code 2 none :: TT
def y_B_countInts : MethodName := ⟨"SealedBook$Bytes", "countInts", "()V"⟩
def w_B_countInts : List Cond := Cond.code y_B_countInts prog_2_method_9_code 1 none :: TT
def y_P_addChunk : MethodName := ⟨"SealedBook$Prover", "addChunk", "(LSealedBook$Chunk;)V"⟩
def w_P_addChunk : List Cond := Cond.code y_P_addChunk prog_5_method_5_code 3 none :: TT
def y_L_proveGrowth : MethodName := ⟨"SealedBookLaw", "proveGrowth", "(LSealedBook;II[J)I"⟩
def w_L_proveGrowth : List Cond := Cond.codeWith y_L_proveGrowth method_11_code 5 (some .int) [(0, 10, 13, 13)] :: TT
def y_K_proveGrowth : MethodName := ⟨"SealedBook", "proveGrowth", "(II)I"⟩
def w_K_proveGrowth : List Cond := Cond.code y_K_proveGrowth prog_1_method_14_code 3 (some .int) :: TT
def y_P_makeGrowth : MethodName := ⟨"SealedBook$Prover", "makeGrowth", "(LSealedBook$History;II)V"⟩
def w_P_makeGrowth : List Cond := Cond.code y_P_makeGrowth prog_5_method_3_code 4 none :: TT
def y_P_addPart : MethodName := ⟨"SealedBook$Prover", "addPart", "(LSealedBook$History;III)V"⟩
def w_P_addPart : List Cond := Cond.code y_P_addPart prog_5_method_6_code 7 none :: TT
def y_L_verify : MethodName := ⟨"SealedBookLaw", "verify", "(LSealedBook;IIII[J)I"⟩
def w_L_verify : List Cond := Cond.codeWith y_L_verify method_12_code 7 (some .int) [(0, 14, 17, 13)] :: TT
def y_K_verify : MethodName := ⟨"SealedBook", "verify", "(IIII)I"⟩
def w_K_verify : List Cond := Cond.code y_K_verify prog_1_method_18_code 6 (some .int) :: TT
def y_V_takesProof : MethodName := ⟨"SealedBook$Verifier", "takesProof", "(IIII)Z"⟩
def w_V_takesProof : List Cond := Cond.code y_V_takesProof prog_9_method_2_code 7 (some .boolean) :: TT
def y_V_nextByte : MethodName := ⟨"SealedBook$Verifier", "nextByte", "()I"⟩
def w_V_nextByte : List Cond := Cond.code y_V_nextByte prog_9_method_5_code 2 (some .int) :: TT
def y_V_readTree : MethodName := ⟨"SealedBook$Verifier", "readTree", "(I)Z"⟩
def w_V_readTree : List Cond := Cond.code y_V_readTree prog_9_method_7_code 5 (some .boolean) :: TT
def y_V_readChunk : MethodName := ⟨"SealedBook$Verifier", "readChunk", "(II)Z"⟩
def w_V_readChunk : List Cond := Cond.code y_V_readChunk prog_9_method_8_code 7 (some .boolean) :: TT
def y_V_nextInt : MethodName := ⟨"SealedBook$Verifier", "nextInt", "()I"⟩
def w_V_nextInt : List Cond := Cond.code y_V_nextInt prog_9_method_6_code 3 (some .int) :: TT
def y_V_climb : MethodName := ⟨"SealedBook$Verifier", "climb", "(III)I"⟩
def w_V_climb : List Cond := Cond.code y_V_climb prog_9_method_9_code 6 (some .int) :: TT
def y_V_noteValue : MethodName := ⟨"SealedBook$Verifier", "noteValue", "(I)Z"⟩
def w_V_noteValue : List Cond := Cond.code y_V_noteValue prog_9_method_3_code 2 (some .boolean) :: TT
def y_L_verifyGrowth : MethodName := ⟨"SealedBookLaw", "verifyGrowth", "(LSealedBook;IIII[J)I"⟩
def w_L_verifyGrowth : List Cond := Cond.codeWith y_L_verifyGrowth method_13_code 7 (some .int) [(0, 21, 24, 13)] :: TT
def y_K_verifyGrowth : MethodName := ⟨"SealedBook", "verifyGrowth", "(IIII)Z"⟩
def w_K_verifyGrowth : List Cond := Cond.code y_K_verifyGrowth prog_1_method_20_code 6 (some .boolean) :: TT
def y_V_takesGrowth : MethodName := ⟨"SealedBook$Verifier", "takesGrowth", "(IIII)Z"⟩
def w_V_takesGrowth : List Cond := Cond.code y_V_takesGrowth prog_9_method_4_code 6 (some .boolean) :: TT
def y_V_readPart : MethodName := ⟨"SealedBook$Verifier", "readPart", "(IIII)V"⟩
def w_V_readPart : List Cond := Cond.code y_V_readPart prog_9_method_10_code 7 none :: TT
def y_M_init : MethodName := ⟨"SealedBookModel", "<init>", "()V"⟩
def w_M_init : List Cond := Cond.code y_M_init prog_11_method_1_code 1 none :: TT
def y_M_thrown : MethodName := ⟨"SealedBookModel", "thrown", "()I"⟩
def w_M_thrown : List Cond := Cond.code y_M_thrown prog_11_method_2_code 1 (some .int) :: TT
def y_M_put : MethodName := ⟨"SealedBookModel", "put", "(II)V"⟩
def w_M_put : List Cond := Cond.code y_M_put prog_11_method_12_code 3 none :: TT
def y_M_keyed : MethodName := ⟨"SealedBookModel", "keyed", "(I)I"⟩
def w_M_keyed : List Cond := Cond.code y_M_keyed prog_11_method_11_code 2 (some .int) :: TT
def y_M_outside : MethodName := ⟨"SealedBookModel", "outside", "(III)Z"⟩
def w_M_outside : List Cond := Cond.code y_M_outside prog_11_method_4_code 3 (some .boolean) :: TT
def y_M_delete : MethodName := ⟨"SealedBookModel", "delete", "(I)Z"⟩
def w_M_delete : List Cond := Cond.code y_M_delete prog_11_method_13_code 3 (some .boolean) :: TT
def y_M_rollback : MethodName := ⟨"SealedBookModel", "rollback", "()V"⟩
def w_M_rollback : List Cond := Cond.code y_M_rollback prog_11_method_15_code 1 none :: TT
def y_M_copy : MethodName := ⟨"SealedBookModel", "copy", "(II)V"⟩
def w_M_copy : List Cond := Cond.code y_M_copy prog_11_method_14_code 4 none :: TT
def y_M_commit : MethodName := ⟨"SealedBookModel", "commit", "()I"⟩
def w_M_commit : List Cond := Cond.code y_M_commit prog_11_method_21_code 4 (some .int) :: TT
def y_M_refuse : MethodName := ⟨"SealedBookModel", "refuse", "(I)I"⟩
def w_M_refuse : List Cond := Cond.code y_M_refuse prog_11_method_3_code 2 (some .int) :: TT
def y_M_raise : MethodName := ⟨"SealedBookModel", "raise", "(I)I"⟩
def w_M_raise : List Cond := Cond.code y_M_raise prog_11_method_10_code 5 (some .int) :: TT
def y_M_item : MethodName := ⟨"SealedBookModel", "item", "(III)V"⟩
def w_M_item : List Cond := Cond.code y_M_item prog_11_method_7_code 4 none :: TT
def y_M_chunkEnd : MethodName := ⟨"SealedBookModel", "chunkEnd", "(II)I"⟩
def w_M_chunkEnd : List Cond := Cond.code y_M_chunkEnd prog_11_method_8_code 4 (some .int) :: TT
def y_M_ends : MethodName := ⟨"SealedBookModel", "ends", "(II)Z"⟩
def w_M_ends : List Cond := Cond.code y_M_ends prog_11_method_6_code 2 (some .boolean) :: TT
def y_M_mix : MethodName := ⟨"SealedBookModel", "mix", "(II)I"⟩
def w_M_mix : List Cond := Cond.code y_M_mix prog_11_method_5_code 3 (some .int) :: TT
def y_M_hashOf : MethodName := ⟨"SealedBookModel", "hashOf", "(III)I"⟩
def w_M_hashOf : List Cond := Cond.code y_M_hashOf prog_11_method_9_code 6 (some .int) :: TT
def y_M_keepMap : MethodName := ⟨"SealedBookModel", "keepMap", "()V"⟩
def w_M_keepMap : List Cond := Cond.code y_M_keepMap prog_11_method_19_code 2 none :: TT
def y_M_written : MethodName := ⟨"SealedBookModel", "written", "()Z"⟩
def w_M_written : List Cond := Cond.code y_M_written prog_11_method_20_code 6 (some .boolean) :: TT
def y_M_stored : MethodName := ⟨"SealedBookModel", "stored", "(III)Z"⟩
def w_M_stored : List Cond := Cond.code y_M_stored prog_11_method_16_code 11 (some .boolean) :: TT
def y_M_writes : MethodName := ⟨"SealedBookModel", "writes", "()Z"⟩
def w_M_writes : List Cond := Cond.code y_M_writes prog_11_method_17_code 2 (some .boolean) :: TT
def y_M_store : MethodName := ⟨"SealedBookModel", "store", "(III)V"⟩
def w_M_store : List Cond := Cond.code y_M_store prog_11_method_18_code 4 none :: TT
def y_M_fail : MethodName := ⟨"SealedBookModel", "fail", "(I)Z"⟩
def w_M_fail : List Cond := Cond.code y_M_fail prog_11_method_22_code 2 (some .boolean) :: TT
def y_M_chunks : MethodName := ⟨"SealedBookModel", "chunks", "()I"⟩
def w_M_chunks : List Cond := Cond.code y_M_chunks prog_11_method_23_code 1 (some .int) :: TT
def y_M_versions : MethodName := ⟨"SealedBookModel", "versions", "()I"⟩
def w_M_versions : List Cond := Cond.code y_M_versions prog_11_method_24_code 1 (some .int) :: TT
def y_M_get : MethodName := ⟨"SealedBookModel", "get", "(II)I"⟩
def w_M_get : List Cond := Cond.code y_M_get prog_11_method_26_code 4 (some .int) :: TT
def y_M_isVersion : MethodName := ⟨"SealedBookModel", "isVersion", "(I)Z"⟩
def w_M_isVersion : List Cond := Cond.code y_M_isVersion prog_11_method_25_code 2 (some .boolean) :: TT
def y_M_range : MethodName := ⟨"SealedBookModel", "range", "(III)I"⟩
def w_M_range : List Cond := Cond.code y_M_range prog_11_method_27_code 6 (some .int) :: TT
def y_M_root : MethodName := ⟨"SealedBookModel", "root", "(I)I"⟩
def w_M_root : List Cond := Cond.code y_M_root prog_11_method_28_code 2 (some .int) :: TT
def y_M_digest : MethodName := ⟨"SealedBookModel", "digest", "(I)I"⟩
def w_M_digest : List Cond := Cond.code y_M_digest prog_11_method_32_code 2 (some .int) :: TT
def y_M_seal : MethodName := ⟨"SealedBookModel", "seal", "(II)I"⟩
def w_M_seal : List Cond := Cond.code y_M_seal prog_11_method_31_code 5 (some .int) :: TT
def y_M_leafOf : MethodName := ⟨"SealedBookModel", "leafOf", "(II)I"⟩
def w_M_leafOf : List Cond := Cond.code y_M_leafOf prog_11_method_29_code 2 (some .int) :: TT
def y_M_join : MethodName := ⟨"SealedBookModel", "join", "(II)I"⟩
def w_M_join : List Cond := Cond.code y_M_join prog_11_method_30_code 2 (some .int) :: TT
def y_M_prove : MethodName := ⟨"SealedBookModel", "prove", "(III)I"⟩
def w_M_prove : List Cond := Cond.code y_M_prove prog_11_method_43_code 7 (some .int) :: TT
def y_M_way : MethodName := ⟨"SealedBookModel", "way", "(II)V"⟩
def w_M_way : List Cond := Cond.code y_M_way prog_11_method_35_code 6 none :: TT
def y_M_half : MethodName := ⟨"SealedBookModel", "half", "(I)I"⟩
def w_M_half : List Cond := Cond.code y_M_half prog_11_method_33_code 2 (some .int) :: TT
def y_M_side : MethodName := ⟨"SealedBookModel", "side", "(IIZ)V"⟩
def w_M_side : List Cond := Cond.code y_M_side prog_11_method_34_code 4 none :: TT
def y_M_outBeside : MethodName := ⟨"SealedBookModel", "outBeside", "()V"⟩
def w_M_outBeside : List Cond := Cond.code y_M_outBeside prog_11_method_39_code 2 none :: TT
def y_M_out : MethodName := ⟨"SealedBookModel", "out", "(I)V"⟩
def w_M_out : List Cond := Cond.code y_M_out prog_11_method_37_code 2 none :: TT
def y_M_outInt : MethodName := ⟨"SealedBookModel", "outInt", "(I)V"⟩
def w_M_outInt : List Cond := Cond.code y_M_outInt prog_11_method_38_code 3 none :: TT
def y_M_choose : MethodName := ⟨"SealedBookModel", "choose", "([IIII)I"⟩
def w_M_choose : List Cond := Cond.code y_M_choose prog_11_method_40_code 5 (some .int) :: TT
def y_M_chunkOf : MethodName := ⟨"SealedBookModel", "chunkOf", "(II)I"⟩
def w_M_chunkOf : List Cond := Cond.code y_M_chunkOf prog_11_method_41_code 4 (some .int) :: TT
def y_M_outChunk : MethodName := ⟨"SealedBookModel", "outChunk", "(III)V"⟩
def w_M_outChunk : List Cond := Cond.code y_M_outChunk prog_11_method_42_code 5 none :: TT
def y_M_proveGrowth : MethodName := ⟨"SealedBookModel", "proveGrowth", "(II)I"⟩
def w_M_proveGrowth : List Cond := Cond.code y_M_proveGrowth prog_11_method_44_code 3 (some .int) :: TT
def y_M_growth : MethodName := ⟨"SealedBookModel", "growth", "(II)Z"⟩
def w_M_growth : List Cond := Cond.code y_M_growth prog_11_method_36_code 7 (some .boolean) :: TT
def y_M_proof : MethodName := ⟨"SealedBookModel", "proof", "(I)I"⟩
def w_M_proof : List Cond := Cond.code y_M_proof prog_11_method_45_code 2 (some .int) :: TT
def y_M_take : MethodName := ⟨"SealedBookModel", "take", "(II)Z"⟩
def w_M_take : List Cond := Cond.code y_M_take prog_11_method_46_code 4 (some .boolean) :: TT
def y_M_carry : MethodName := ⟨"SealedBookModel", "carry", "(II)I"⟩
def w_M_carry : List Cond := Cond.code y_M_carry prog_11_method_47_code 4 (some .int) :: TT
def y_M_verify : MethodName := ⟨"SealedBookModel", "verify", "(IIII)I"⟩
def w_M_verify : List Cond := Cond.code y_M_verify prog_11_method_54_code 8 (some .int) :: TT
def y_M_inBeside : MethodName := ⟨"SealedBookModel", "inBeside", "()V"⟩
def w_M_inBeside : List Cond := Cond.code y_M_inBeside prog_11_method_50_code 3 none :: TT
def y_M_in : MethodName := ⟨"SealedBookModel", "in", "(II)I"⟩
def w_M_in : List Cond := Cond.code y_M_in prog_11_method_48_code 4 (some .int) :: TT
def y_M_inInt : MethodName := ⟨"SealedBookModel", "inInt", "()I"⟩
def w_M_inInt : List Cond := Cond.code y_M_inInt prog_11_method_49_code 3 (some .int) :: TT
def y_M_inLevels : MethodName := ⟨"SealedBookModel", "inLevels", "(I)I"⟩
def w_M_inLevels : List Cond := Cond.code y_M_inLevels prog_11_method_52_code 9 (some .int) :: TT
def y_M_inChunk : MethodName := ⟨"SealedBookModel", "inChunk", "(I)I"⟩
def w_M_inChunk : List Cond := Cond.code y_M_inChunk prog_11_method_51_code 5 (some .int) :: TT
def y_M_lead : MethodName := ⟨"SealedBookModel", "lead", "(II)I"⟩
def w_M_lead : List Cond := Cond.code y_M_lead prog_11_method_53_code 5 (some .int) :: TT
def y_M_shown : MethodName := ⟨"SealedBookModel", "shown", "()I"⟩
def w_M_shown : List Cond := Cond.code y_M_shown prog_11_method_55_code 1 (some .int) :: TT
def y_M_verifyGrowth : MethodName := ⟨"SealedBookModel", "verifyGrowth", "(IIII)Z"⟩
def w_M_verifyGrowth : List Cond := Cond.code y_M_verifyGrowth prog_11_method_56_code 12 (some .boolean) :: TT
end
section
theorem d_K_init_0 : decode prog_1_method_1_code 0 = .ok (.aload_n 0, 1) := by decide +kernel
theorem d_K_init_1 : decode prog_1_method_1_code 1 = .ok (.invokespecial 1, 3) := by decide +kernel
theorem d_K_init_4 : decode prog_1_method_1_code 4 = .ok (.aload_n 0, 1) := by decide +kernel
theorem d_K_init_5 : decode prog_1_method_1_code 5 = .ok (.new 7, 3) := by decide +kernel
theorem d_K_init_8 : decode prog_1_method_1_code 8 = .ok (.dup, 1) := by decide +kernel
theorem d_K_init_9 : decode prog_1_method_1_code 9 = .ok (.invokespecial 9, 3) := by decide +kernel
theorem d_K_init_12 : decode prog_1_method_1_code 12 = .ok (.putfield 10, 3) := by decide +kernel
theorem d_K_init_15 : decode prog_1_method_1_code 15 = .ok (.aload_n 0, 1) := by decide +kernel
theorem d_K_init_16 : decode prog_1_method_1_code 16 = .ok (.new 16, 3) := by decide +kernel
theorem d_K_init_19 : decode prog_1_method_1_code 19 = .ok (.dup, 1) := by decide +kernel
theorem d_K_init_20 : decode prog_1_method_1_code 20 = .ok (.invokespecial 18, 3) := by decide +kernel
theorem d_K_init_23 : decode prog_1_method_1_code 23 = .ok (.putfield 19, 3) := by decide +kernel
theorem d_K_init_26 : decode prog_1_method_1_code 26 = .ok (.aload_n 0, 1) := by decide +kernel
theorem d_K_init_27 : decode prog_1_method_1_code 27 = .ok (.new 23, 3) := by decide +kernel
theorem d_K_init_30 : decode prog_1_method_1_code 30 = .ok (.dup, 1) := by decide +kernel
theorem d_K_init_31 : decode prog_1_method_1_code 31 = .ok (.invokespecial 25, 3) := by decide +kernel
theorem d_K_init_34 : decode prog_1_method_1_code 34 = .ok (.putfield 26, 3) := by decide +kernel
theorem d_K_init_37 : decode prog_1_method_1_code 37 = .ok (.aload_n 0, 1) := by decide +kernel
theorem d_K_init_38 : decode prog_1_method_1_code 38 = .ok (.new 30, 3) := by decide +kernel
theorem d_K_init_41 : decode prog_1_method_1_code 41 = .ok (.dup, 1) := by decide +kernel
theorem d_K_init_42 : decode prog_1_method_1_code 42 = .ok (.invokespecial 32, 3) := by decide +kernel
theorem d_K_init_45 : decode prog_1_method_1_code 45 = .ok (.putfield 33, 3) := by decide +kernel
theorem d_K_init_48 : decode prog_1_method_1_code 48 = .ok (.aload_n 0, 1) := by decide +kernel
theorem d_K_init_49 : decode prog_1_method_1_code 49 = .ok (.new 37, 3) := by decide +kernel
theorem d_K_init_52 : decode prog_1_method_1_code 52 = .ok (.dup, 1) := by decide +kernel
theorem d_K_init_53 : decode prog_1_method_1_code 53 = .ok (.invokespecial 39, 3) := by decide +kernel
theorem d_K_init_56 : decode prog_1_method_1_code 56 = .ok (.putfield 40, 3) := by decide +kernel
theorem d_K_init_59 : decode prog_1_method_1_code 59 = .ok (.aload_n 0, 1) := by decide +kernel
theorem d_K_init_60 : decode prog_1_method_1_code 60 = .ok (.new 44, 3) := by decide +kernel
theorem d_K_init_63 : decode prog_1_method_1_code 63 = .ok (.dup, 1) := by decide +kernel
theorem d_K_init_64 : decode prog_1_method_1_code 64 = .ok (.invokespecial 46, 3) := by decide +kernel
theorem d_K_init_67 : decode prog_1_method_1_code 67 = .ok (.putfield 47, 3) := by decide +kernel
theorem d_K_init_70 : decode prog_1_method_1_code 70 = .ok (.return_, 1) := by decide +kernel
theorem d_S_init_0 : decode prog_7_method_1_code 0 = .ok (.aload_n 0, 1) := by decide +kernel
theorem d_S_init_1 : decode prog_7_method_1_code 1 = .ok (.invokespecial 3, 3) := by decide +kernel
theorem d_S_init_4 : decode prog_7_method_1_code 4 = .ok (.aload_n 0, 1) := by decide +kernel
theorem d_S_init_5 : decode prog_7_method_1_code 5 = .ok (.bipush 48, 2) := by decide +kernel
theorem d_S_init_7 : decode prog_7_method_1_code 7 = .ok (.anewarray 9, 3) := by decide +kernel
theorem d_S_init_10 : decode prog_7_method_1_code 10 = .ok (.putfield 11, 3) := by decide +kernel
theorem d_S_init_13 : decode prog_7_method_1_code 13 = .ok (.aload_n 0, 1) := by decide +kernel
theorem d_S_init_14 : decode prog_7_method_1_code 14 = .ok (.iconst 0, 1) := by decide +kernel
theorem d_S_init_15 : decode prog_7_method_1_code 15 = .ok (.putfield 17, 3) := by decide +kernel
theorem d_S_init_18 : decode prog_7_method_1_code 18 = .ok (.aload_n 0, 1) := by decide +kernel
theorem d_S_init_19 : decode prog_7_method_1_code 19 = .ok (.iconst 0, 1) := by decide +kernel
theorem d_S_init_20 : decode prog_7_method_1_code 20 = .ok (.putfield 21, 3) := by decide +kernel
theorem d_S_init_23 : decode prog_7_method_1_code 23 = .ok (.return_, 1) := by decide +kernel
theorem d_H_init_0 : decode prog_4_method_1_code 0 = .ok (.aload_n 0, 1) := by decide +kernel
theorem d_H_init_1 : decode prog_4_method_1_code 1 = .ok (.invokespecial 3, 3) := by decide +kernel
theorem d_H_init_4 : decode prog_4_method_1_code 4 = .ok (.aload_n 0, 1) := by decide +kernel
theorem d_H_init_5 : decode prog_4_method_1_code 5 = .ok (.bipush 16, 2) := by decide +kernel
theorem d_H_init_7 : decode prog_4_method_1_code 7 = .ok (.anewarray 9, 3) := by decide +kernel
theorem d_H_init_10 : decode prog_4_method_1_code 10 = .ok (.putfield 11, 3) := by decide +kernel
theorem d_H_init_13 : decode prog_4_method_1_code 13 = .ok (.aload_n 0, 1) := by decide +kernel
theorem d_H_init_14 : decode prog_4_method_1_code 14 = .ok (.iconst 1, 1) := by decide +kernel
theorem d_H_init_15 : decode prog_4_method_1_code 15 = .ok (.putfield 17, 3) := by decide +kernel
theorem d_H_init_18 : decode prog_4_method_1_code 18 = .ok (.return_, 1) := by decide +kernel
theorem d_T_init_0 : decode prog_8_method_1_code 0 = .ok (.aload_n 0, 1) := by decide +kernel
theorem d_T_init_1 : decode prog_8_method_1_code 1 = .ok (.invokespecial 3, 3) := by decide +kernel
theorem d_T_init_4 : decode prog_8_method_1_code 4 = .ok (.aload_n 0, 1) := by decide +kernel
theorem d_T_init_5 : decode prog_8_method_1_code 5 = .ok (.bipush 48, 2) := by decide +kernel
theorem d_T_init_7 : decode prog_8_method_1_code 7 = .ok (.newarray .boolean, 2) := by decide +kernel
theorem d_T_init_9 : decode prog_8_method_1_code 9 = .ok (.putfield 9, 3) := by decide +kernel
theorem d_T_init_12 : decode prog_8_method_1_code 12 = .ok (.aload_n 0, 1) := by decide +kernel
theorem d_T_init_13 : decode prog_8_method_1_code 13 = .ok (.bipush 48, 2) := by decide +kernel
theorem d_T_init_15 : decode prog_8_method_1_code 15 = .ok (.newarray .int, 2) := by decide +kernel
theorem d_T_init_17 : decode prog_8_method_1_code 17 = .ok (.putfield 15, 3) := by decide +kernel
theorem d_T_init_20 : decode prog_8_method_1_code 20 = .ok (.return_, 1) := by decide +kernel
theorem d_R_init_0 : decode prog_6_method_1_code 0 = .ok (.aload_n 0, 1) := by decide +kernel
theorem d_R_init_1 : decode prog_6_method_1_code 1 = .ok (.invokespecial 3, 3) := by decide +kernel
theorem d_R_init_4 : decode prog_6_method_1_code 4 = .ok (.aload_n 0, 1) := by decide +kernel
theorem d_R_init_5 : decode prog_6_method_1_code 5 = .ok (.bipush 48, 2) := by decide +kernel
theorem d_R_init_7 : decode prog_6_method_1_code 7 = .ok (.newarray .int, 2) := by decide +kernel
theorem d_R_init_9 : decode prog_6_method_1_code 9 = .ok (.putfield 9, 3) := by decide +kernel
theorem d_R_init_12 : decode prog_6_method_1_code 12 = .ok (.aload_n 0, 1) := by decide +kernel
theorem d_R_init_13 : decode prog_6_method_1_code 13 = .ok (.bipush 48, 2) := by decide +kernel
theorem d_R_init_15 : decode prog_6_method_1_code 15 = .ok (.newarray .int, 2) := by decide +kernel
theorem d_R_init_17 : decode prog_6_method_1_code 17 = .ok (.putfield 15, 3) := by decide +kernel
theorem d_R_init_20 : decode prog_6_method_1_code 20 = .ok (.aload_n 0, 1) := by decide +kernel
theorem d_R_init_21 : decode prog_6_method_1_code 21 = .ok (.bipush 48, 2) := by decide +kernel
theorem d_R_init_23 : decode prog_6_method_1_code 23 = .ok (.anewarray 18, 3) := by decide +kernel
theorem d_R_init_26 : decode prog_6_method_1_code 26 = .ok (.putfield 20, 3) := by decide +kernel
theorem d_R_init_29 : decode prog_6_method_1_code 29 = .ok (.aload_n 0, 1) := by decide +kernel
theorem d_R_init_30 : decode prog_6_method_1_code 30 = .ok (.iconst 0, 1) := by decide +kernel
theorem d_R_init_31 : decode prog_6_method_1_code 31 = .ok (.putfield 24, 3) := by decide +kernel
theorem d_R_init_34 : decode prog_6_method_1_code 34 = .ok (.return_, 1) := by decide +kernel
theorem d_P_init_0 : decode prog_5_method_1_code 0 = .ok (.aload_n 0, 1) := by decide +kernel
theorem d_P_init_1 : decode prog_5_method_1_code 1 = .ok (.invokespecial 1, 3) := by decide +kernel
theorem d_P_init_4 : decode prog_5_method_1_code 4 = .ok (.aload_n 0, 1) := by decide +kernel
theorem d_P_init_5 : decode prog_5_method_1_code 5 = .ok (.new 7, 3) := by decide +kernel
theorem d_P_init_8 : decode prog_5_method_1_code 8 = .ok (.dup, 1) := by decide +kernel
theorem d_P_init_9 : decode prog_5_method_1_code 9 = .ok (.invokespecial 9, 3) := by decide +kernel
theorem d_P_init_12 : decode prog_5_method_1_code 12 = .ok (.putfield 10, 3) := by decide +kernel
theorem d_P_init_15 : decode prog_5_method_1_code 15 = .ok (.return_, 1) := by decide +kernel
theorem d_B_init_0 : decode prog_2_method_1_code 0 = .ok (.aload_n 0, 1) := by decide +kernel
theorem d_B_init_1 : decode prog_2_method_1_code 1 = .ok (.invokespecial 3, 3) := by decide +kernel
theorem d_B_init_4 : decode prog_2_method_1_code 4 = .ok (.aload_n 0, 1) := by decide +kernel
theorem d_B_init_5 : decode prog_2_method_1_code 5 = .ok (.sipush 400, 3) := by decide +kernel
theorem d_B_init_8 : decode prog_2_method_1_code 8 = .ok (.newarray .int, 2) := by decide +kernel
theorem d_B_init_10 : decode prog_2_method_1_code 10 = .ok (.putfield 9, 3) := by decide +kernel
theorem d_B_init_13 : decode prog_2_method_1_code 13 = .ok (.aload_n 0, 1) := by decide +kernel
theorem d_B_init_14 : decode prog_2_method_1_code 14 = .ok (.iconst 0, 1) := by decide +kernel
theorem d_B_init_15 : decode prog_2_method_1_code 15 = .ok (.putfield 15, 3) := by decide +kernel
theorem d_B_init_18 : decode prog_2_method_1_code 18 = .ok (.return_, 1) := by decide +kernel
theorem d_V_init_0 : decode prog_9_method_1_code 0 = .ok (.aload_n 0, 1) := by decide +kernel
theorem d_V_init_1 : decode prog_9_method_1_code 1 = .ok (.invokespecial 3, 3) := by decide +kernel
theorem d_V_init_4 : decode prog_9_method_1_code 4 = .ok (.aload_n 0, 1) := by decide +kernel
theorem d_V_init_5 : decode prog_9_method_1_code 5 = .ok (.new 9, 3) := by decide +kernel
theorem d_V_init_8 : decode prog_9_method_1_code 8 = .ok (.dup, 1) := by decide +kernel
theorem d_V_init_9 : decode prog_9_method_1_code 9 = .ok (.invokespecial 11, 3) := by decide +kernel
theorem d_V_init_12 : decode prog_9_method_1_code 12 = .ok (.putfield 12, 3) := by decide +kernel
theorem d_V_init_15 : decode prog_9_method_1_code 15 = .ok (.aload_n 0, 1) := by decide +kernel
theorem d_V_init_16 : decode prog_9_method_1_code 16 = .ok (.iconst 0, 1) := by decide +kernel
theorem d_V_init_17 : decode prog_9_method_1_code 17 = .ok (.putfield 18, 3) := by decide +kernel
theorem d_V_init_20 : decode prog_9_method_1_code 20 = .ok (.aload_n 0, 1) := by decide +kernel
theorem d_V_init_21 : decode prog_9_method_1_code 21 = .ok (.iconst 0, 1) := by decide +kernel
theorem d_V_init_22 : decode prog_9_method_1_code 22 = .ok (.putfield 22, 3) := by decide +kernel
theorem d_V_init_25 : decode prog_9_method_1_code 25 = .ok (.aload_n 0, 1) := by decide +kernel
theorem d_V_init_26 : decode prog_9_method_1_code 26 = .ok (.iconst 0, 1) := by decide +kernel
theorem d_V_init_27 : decode prog_9_method_1_code 27 = .ok (.putfield 25, 3) := by decide +kernel
theorem d_V_init_30 : decode prog_9_method_1_code 30 = .ok (.aload_n 0, 1) := by decide +kernel
theorem d_V_init_31 : decode prog_9_method_1_code 31 = .ok (.iconst 0, 1) := by decide +kernel
theorem d_V_init_32 : decode prog_9_method_1_code 32 = .ok (.putfield 28, 3) := by decide +kernel
theorem d_V_init_35 : decode prog_9_method_1_code 35 = .ok (.aload_n 0, 1) := by decide +kernel
theorem d_V_init_36 : decode prog_9_method_1_code 36 = .ok (.iconst 0, 1) := by decide +kernel
theorem d_V_init_37 : decode prog_9_method_1_code 37 = .ok (.putfield 31, 3) := by decide +kernel
theorem d_V_init_40 : decode prog_9_method_1_code 40 = .ok (.aload_n 0, 1) := by decide +kernel
theorem d_V_init_41 : decode prog_9_method_1_code 41 = .ok (.iconst (-1), 1) := by decide +kernel
theorem d_V_init_42 : decode prog_9_method_1_code 42 = .ok (.putfield 34, 3) := by decide +kernel
theorem d_V_init_45 : decode prog_9_method_1_code 45 = .ok (.aload_n 0, 1) := by decide +kernel
theorem d_V_init_46 : decode prog_9_method_1_code 46 = .ok (.iconst (-1), 1) := by decide +kernel
theorem d_V_init_47 : decode prog_9_method_1_code 47 = .ok (.putfield 37, 3) := by decide +kernel
theorem d_V_init_50 : decode prog_9_method_1_code 50 = .ok (.aload_n 0, 1) := by decide +kernel
theorem d_V_init_51 : decode prog_9_method_1_code 51 = .ok (.iconst 0, 1) := by decide +kernel
theorem d_V_init_52 : decode prog_9_method_1_code 52 = .ok (.putfield 40, 3) := by decide +kernel
theorem d_V_init_55 : decode prog_9_method_1_code 55 = .ok (.aload_n 0, 1) := by decide +kernel
theorem d_V_init_56 : decode prog_9_method_1_code 56 = .ok (.iconst 0, 1) := by decide +kernel
theorem d_V_init_57 : decode prog_9_method_1_code 57 = .ok (.putfield 43, 3) := by decide +kernel
theorem d_V_init_60 : decode prog_9_method_1_code 60 = .ok (.aload_n 0, 1) := by decide +kernel
theorem d_V_init_61 : decode prog_9_method_1_code 61 = .ok (.iconst 0, 1) := by decide +kernel
theorem d_V_init_62 : decode prog_9_method_1_code 62 = .ok (.putfield 46, 3) := by decide +kernel
theorem d_V_init_65 : decode prog_9_method_1_code 65 = .ok (.return_, 1) := by decide +kernel
theorem d_K_rollback_0 : decode prog_1_method_5_code 0 = .ok (.aload_n 0, 1) := by decide +kernel
theorem d_K_rollback_1 : decode prog_1_method_5_code 1 = .ok (.getfield 26, 3) := by decide +kernel
theorem d_K_rollback_4 : decode prog_1_method_5_code 4 = .ok (.aload_n 0, 1) := by decide +kernel
theorem d_K_rollback_5 : decode prog_1_method_5_code 5 = .ok (.getfield 19, 3) := by decide +kernel
theorem d_K_rollback_8 : decode prog_1_method_5_code 8 = .ok (.getfield 93, 3) := by decide +kernel
theorem d_K_rollback_11 : decode prog_1_method_5_code 11 = .ok (.aload_n 0, 1) := by decide +kernel
theorem d_K_rollback_12 : decode prog_1_method_5_code 12 = .ok (.getfield 19, 3) := by decide +kernel
theorem d_K_rollback_15 : decode prog_1_method_5_code 15 = .ok (.getfield 89, 3) := by decide +kernel
theorem d_K_rollback_18 : decode prog_1_method_5_code 18 = .ok (.iconst 1, 1) := by decide +kernel
theorem d_K_rollback_19 : decode prog_1_method_5_code 19 = .ok (.isub, 1) := by decide +kernel
theorem d_K_rollback_20 : decode prog_1_method_5_code 20 = .ok (.aaload, 1) := by decide +kernel
theorem d_K_rollback_21 : decode prog_1_method_5_code 21 = .ok (.invokevirtual 97, 3) := by decide +kernel
theorem d_K_rollback_24 : decode prog_1_method_5_code 24 = .ok (.return_, 1) := by decide +kernel
theorem d_T_load_0 : decode prog_8_method_4_code 0 = .ok (.iconst 0, 1) := by decide +kernel
theorem d_T_load_1 : decode prog_8_method_4_code 1 = .ok (.istore_n 2, 1) := by decide +kernel
theorem d_T_load_2 : decode prog_8_method_4_code 2 = .ok (.iload_n 2, 1) := by decide +kernel
theorem d_T_load_3 : decode prog_8_method_4_code 3 = .ok (.bipush 48, 2) := by decide +kernel
theorem d_T_load_5 : decode prog_8_method_4_code 5 = .ok (.if_icmp .ge 37, 3) := by decide +kernel
theorem d_T_load_8 : decode prog_8_method_4_code 8 = .ok (.aload_n 1, 1) := by decide +kernel
theorem d_T_load_9 : decode prog_8_method_4_code 9 = .ok (.iload_n 2, 1) := by decide +kernel
theorem d_T_load_10 : decode prog_8_method_4_code 10 = .ok (.invokestatic 19, 3) := by decide +kernel
theorem d_T_load_13 : decode prog_8_method_4_code 13 = .ok (.astore_n 3, 1) := by decide +kernel
theorem d_T_load_14 : decode prog_8_method_4_code 14 = .ok (.aload_n 0, 1) := by decide +kernel
theorem d_T_load_15 : decode prog_8_method_4_code 15 = .ok (.getfield 9, 3) := by decide +kernel
theorem d_T_load_18 : decode prog_8_method_4_code 18 = .ok (.iload_n 2, 1) := by decide +kernel
theorem d_T_load_19 : decode prog_8_method_4_code 19 = .ok (.aload_n 3, 1) := by decide +kernel
theorem d_T_load_20 : decode prog_8_method_4_code 20 = .ok (.iload_n 2, 1) := by decide +kernel
theorem d_T_load_21 : decode prog_8_method_4_code 21 = .ok (.invokestatic 23, 3) := by decide +kernel
theorem d_T_load_24 : decode prog_8_method_4_code 24 = .ok (.bastore, 1) := by decide +kernel
theorem d_T_load_25 : decode prog_8_method_4_code 25 = .ok (.aload_n 0, 1) := by decide +kernel
theorem d_T_load_26 : decode prog_8_method_4_code 26 = .ok (.getfield 15, 3) := by decide +kernel
theorem d_T_load_29 : decode prog_8_method_4_code 29 = .ok (.iload_n 2, 1) := by decide +kernel
theorem d_T_load_30 : decode prog_8_method_4_code 30 = .ok (.aload_n 3, 1) := by decide +kernel
theorem d_T_load_31 : decode prog_8_method_4_code 31 = .ok (.iload_n 2, 1) := by decide +kernel
theorem d_T_load_32 : decode prog_8_method_4_code 32 = .ok (.invokestatic 27, 3) := by decide +kernel
theorem d_T_load_35 : decode prog_8_method_4_code 35 = .ok (.iastore, 1) := by decide +kernel
theorem d_T_load_36 : decode prog_8_method_4_code 36 = .ok (.iinc 2 1, 3) := by decide +kernel
theorem d_T_load_39 : decode prog_8_method_4_code 39 = .ok (.goto (-37), 3) := by decide +kernel
theorem d_T_load_42 : decode prog_8_method_4_code 42 = .ok (.return_, 1) := by decide +kernel
theorem d_K_bottomFor_0 : decode prog_1_method_31_code 0 = .ok (.aconst_null, 1) := by decide +kernel
theorem d_K_bottomFor_1 : decode prog_1_method_31_code 1 = .ok (.astore_n 2, 1) := by decide +kernel
theorem d_K_bottomFor_2 : decode prog_1_method_31_code 2 = .ok (.aload_n 0, 1) := by decide +kernel
theorem d_K_bottomFor_3 : decode prog_1_method_31_code 3 = .ok (.astore_n 3, 1) := by decide +kernel
theorem d_K_bottomFor_4 : decode prog_1_method_31_code 4 = .ok (.aload_n 3, 1) := by decide +kernel
theorem d_K_bottomFor_5 : decode prog_1_method_31_code 5 = .ok (.ifnull 14, 3) := by decide +kernel
theorem d_K_bottomFor_8 : decode prog_1_method_31_code 8 = .ok (.aload_n 3, 1) := by decide +kernel
theorem d_K_bottomFor_9 : decode prog_1_method_31_code 9 = .ok (.astore_n 2, 1) := by decide +kernel
theorem d_K_bottomFor_10 : decode prog_1_method_31_code 10 = .ok (.aload_n 3, 1) := by decide +kernel
theorem d_K_bottomFor_11 : decode prog_1_method_31_code 11 = .ok (.iload_n 1, 1) := by decide +kernel
theorem d_K_bottomFor_12 : decode prog_1_method_31_code 12 = .ok (.invokevirtual 216, 3) := by decide +kernel
theorem d_K_bottomFor_15 : decode prog_1_method_31_code 15 = .ok (.astore_n 3, 1) := by decide +kernel
theorem d_K_bottomFor_16 : decode prog_1_method_31_code 16 = .ok (.goto (-12), 3) := by decide +kernel
theorem d_K_bottomFor_19 : decode prog_1_method_31_code 19 = .ok (.aload_n 2, 1) := by decide +kernel
theorem d_K_bottomFor_20 : decode prog_1_method_31_code 20 = .ok (.areturn, 1) := by decide +kernel
theorem d_C_under_0 : decode prog_3_method_3_code 0 = .ok (.aload_n 0, 1) := by decide +kernel
theorem d_C_under_1 : decode prog_3_method_3_code 1 = .ok (.getfield 37, 3) := by decide +kernel
theorem d_C_under_4 : decode prog_3_method_3_code 4 = .ok (.aload_n 0, 1) := by decide +kernel
theorem d_C_under_5 : decode prog_3_method_3_code 5 = .ok (.iload_n 1, 1) := by decide +kernel
theorem d_C_under_6 : decode prog_3_method_3_code 6 = .ok (.invokevirtual 42, 3) := by decide +kernel
theorem d_C_under_9 : decode prog_3_method_3_code 9 = .ok (.aaload, 1) := by decide +kernel
theorem d_C_under_10 : decode prog_3_method_3_code 10 = .ok (.areturn, 1) := by decide +kernel
theorem d_C_placeFor_0 : decode prog_3_method_2_code 0 = .ok (.iconst 0, 1) := by decide +kernel
theorem d_C_placeFor_1 : decode prog_3_method_2_code 1 = .ok (.istore_n 2, 1) := by decide +kernel
theorem d_C_placeFor_2 : decode prog_3_method_2_code 2 = .ok (.iload_n 2, 1) := by decide +kernel
theorem d_C_placeFor_3 : decode prog_3_method_2_code 3 = .ok (.aload_n 0, 1) := by decide +kernel
theorem d_C_placeFor_4 : decode prog_3_method_2_code 4 = .ok (.getfield 32, 3) := by decide +kernel
theorem d_C_placeFor_7 : decode prog_3_method_2_code 7 = .ok (.arraylength, 1) := by decide +kernel
theorem d_C_placeFor_8 : decode prog_3_method_2_code 8 = .ok (.iconst 1, 1) := by decide +kernel
theorem d_C_placeFor_9 : decode prog_3_method_2_code 9 = .ok (.isub, 1) := by decide +kernel
theorem d_C_placeFor_10 : decode prog_3_method_2_code 10 = .ok (.if_icmp .ge 19, 3) := by decide +kernel
theorem d_C_placeFor_13 : decode prog_3_method_2_code 13 = .ok (.aload_n 0, 1) := by decide +kernel
theorem d_C_placeFor_14 : decode prog_3_method_2_code 14 = .ok (.getfield 32, 3) := by decide +kernel
theorem d_C_placeFor_17 : decode prog_3_method_2_code 17 = .ok (.iload_n 2, 1) := by decide +kernel
theorem d_C_placeFor_18 : decode prog_3_method_2_code 18 = .ok (.iaload, 1) := by decide +kernel
theorem d_C_placeFor_19 : decode prog_3_method_2_code 19 = .ok (.iload_n 1, 1) := by decide +kernel
theorem d_C_placeFor_20 : decode prog_3_method_2_code 20 = .ok (.if_icmp .ge 9, 3) := by decide +kernel
theorem d_C_placeFor_23 : decode prog_3_method_2_code 23 = .ok (.iinc 2 1, 3) := by decide +kernel
theorem d_C_placeFor_26 : decode prog_3_method_2_code 26 = .ok (.goto (-24), 3) := by decide +kernel
theorem d_C_placeFor_29 : decode prog_3_method_2_code 29 = .ok (.iload_n 2, 1) := by decide +kernel
theorem d_C_placeFor_30 : decode prog_3_method_2_code 30 = .ok (.ireturn, 1) := by decide +kernel
theorem d_K_holds_0 : decode prog_1_method_32_code 0 = .ok (.aload_n 0, 1) := by decide +kernel
theorem d_K_holds_1 : decode prog_1_method_32_code 1 = .ok (.ifnull 21, 3) := by decide +kernel
theorem d_K_holds_4 : decode prog_1_method_32_code 4 = .ok (.aload_n 0, 1) := by decide +kernel
theorem d_K_holds_5 : decode prog_1_method_32_code 5 = .ok (.getfield 222, 3) := by decide +kernel
theorem d_K_holds_8 : decode prog_1_method_32_code 8 = .ok (.aload_n 0, 1) := by decide +kernel
theorem d_K_holds_9 : decode prog_1_method_32_code 9 = .ok (.iload_n 1, 1) := by decide +kernel
theorem d_K_holds_10 : decode prog_1_method_32_code 10 = .ok (.invokevirtual 225, 3) := by decide +kernel
theorem d_K_holds_13 : decode prog_1_method_32_code 13 = .ok (.iaload, 1) := by decide +kernel
theorem d_K_holds_14 : decode prog_1_method_32_code 14 = .ok (.iload_n 1, 1) := by decide +kernel
theorem d_K_holds_15 : decode prog_1_method_32_code 15 = .ok (.if_icmp .ne 7, 3) := by decide +kernel
theorem d_K_holds_18 : decode prog_1_method_32_code 18 = .ok (.iconst 1, 1) := by decide +kernel
theorem d_K_holds_19 : decode prog_1_method_32_code 19 = .ok (.goto 4, 3) := by decide +kernel
theorem d_K_holds_22 : decode prog_1_method_32_code 22 = .ok (.iconst 0, 1) := by decide +kernel
theorem d_K_holds_23 : decode prog_1_method_32_code 23 = .ok (.ireturn, 1) := by decide +kernel
theorem d_K_valueIn_0 : decode prog_1_method_33_code 0 = .ok (.aload_n 0, 1) := by decide +kernel
theorem d_K_valueIn_1 : decode prog_1_method_33_code 1 = .ok (.ifnonnull 7, 3) := by decide +kernel
theorem d_K_valueIn_4 : decode prog_1_method_33_code 4 = .ok (.iconst 0, 1) := by decide +kernel
theorem d_K_valueIn_5 : decode prog_1_method_33_code 5 = .ok (.goto 13, 3) := by decide +kernel
theorem d_K_valueIn_8 : decode prog_1_method_33_code 8 = .ok (.aload_n 0, 1) := by decide +kernel
theorem d_K_valueIn_9 : decode prog_1_method_33_code 9 = .ok (.getfield 228, 3) := by decide +kernel
theorem d_K_valueIn_12 : decode prog_1_method_33_code 12 = .ok (.aload_n 0, 1) := by decide +kernel
theorem d_K_valueIn_13 : decode prog_1_method_33_code 13 = .ok (.iload_n 1, 1) := by decide +kernel
theorem d_K_valueIn_14 : decode prog_1_method_33_code 14 = .ok (.invokevirtual 225, 3) := by decide +kernel
theorem d_K_valueIn_17 : decode prog_1_method_33_code 17 = .ok (.iaload, 1) := by decide +kernel
theorem d_K_valueIn_18 : decode prog_1_method_33_code 18 = .ok (.ireturn, 1) := by decide +kernel
theorem d_K_fail_0 : decode prog_1_method_6_code 0 = .ok (.iload_n 1, 1) := by decide +kernel
theorem d_K_fail_1 : decode prog_1_method_6_code 1 = .ok (.iconst 1, 1) := by decide +kernel
theorem d_K_fail_2 : decode prog_1_method_6_code 2 = .ok (.if_icmp .lt 9, 3) := by decide +kernel
theorem d_K_fail_5 : decode prog_1_method_6_code 5 = .ok (.iload_n 1, 1) := by decide +kernel
theorem d_K_fail_6 : decode prog_1_method_6_code 6 = .ok (.bipush 40, 2) := by decide +kernel
theorem d_K_fail_8 : decode prog_1_method_6_code 8 = .ok (.if_icmp .le 5, 3) := by decide +kernel
theorem d_K_fail_11 : decode prog_1_method_6_code 11 = .ok (.iconst 0, 1) := by decide +kernel
theorem d_K_fail_12 : decode prog_1_method_6_code 12 = .ok (.ireturn, 1) := by decide +kernel
theorem d_K_fail_13 : decode prog_1_method_6_code 13 = .ok (.aload_n 0, 1) := by decide +kernel
theorem d_K_fail_14 : decode prog_1_method_6_code 14 = .ok (.getfield 10, 3) := by decide +kernel
theorem d_K_fail_17 : decode prog_1_method_6_code 17 = .ok (.iload_n 1, 1) := by decide +kernel
theorem d_K_fail_18 : decode prog_1_method_6_code 18 = .ok (.putfield 100, 3) := by decide +kernel
theorem d_K_fail_21 : decode prog_1_method_6_code 21 = .ok (.iconst 1, 1) := by decide +kernel
theorem d_K_fail_22 : decode prog_1_method_6_code 22 = .ok (.ireturn, 1) := by decide +kernel
theorem d_K_chunks_0 : decode prog_1_method_7_code 0 = .ok (.aload_n 0, 1) := by decide +kernel
theorem d_K_chunks_1 : decode prog_1_method_7_code 1 = .ok (.getfield 10, 3) := by decide +kernel
theorem d_K_chunks_4 : decode prog_1_method_7_code 4 = .ok (.getfield 103, 3) := by decide +kernel
theorem d_K_chunks_7 : decode prog_1_method_7_code 7 = .ok (.ireturn, 1) := by decide +kernel
theorem d_K_versions_0 : decode prog_1_method_8_code 0 = .ok (.aload_n 0, 1) := by decide +kernel
theorem d_K_versions_1 : decode prog_1_method_8_code 1 = .ok (.getfield 19, 3) := by decide +kernel
theorem d_K_versions_4 : decode prog_1_method_8_code 4 = .ok (.getfield 89, 3) := by decide +kernel
theorem d_K_versions_7 : decode prog_1_method_8_code 7 = .ok (.ireturn, 1) := by decide +kernel
theorem d_K_proof_0 : decode prog_1_method_15_code 0 = .ok (.aload_n 0, 1) := by decide +kernel
theorem d_K_proof_1 : decode prog_1_method_15_code 1 = .ok (.getfield 40, 3) := by decide +kernel
theorem d_K_proof_4 : decode prog_1_method_15_code 4 = .ok (.getfield 154, 3) := by decide +kernel
theorem d_K_proof_7 : decode prog_1_method_15_code 7 = .ok (.iload_n 1, 1) := by decide +kernel
theorem d_K_proof_8 : decode prog_1_method_15_code 8 = .ok (.invokevirtual 165, 3) := by decide +kernel
theorem d_K_proof_11 : decode prog_1_method_15_code 11 = .ok (.ireturn, 1) := by decide +kernel
theorem d_B_at_0 : decode prog_2_method_3_code 0 = .ok (.iload_n 1, 1) := by decide +kernel
theorem d_B_at_1 : decode prog_2_method_3_code 1 = .ok (.ifCond .lt 20, 3) := by decide +kernel
theorem d_B_at_4 : decode prog_2_method_3_code 4 = .ok (.iload_n 1, 1) := by decide +kernel
theorem d_B_at_5 : decode prog_2_method_3_code 5 = .ok (.aload_n 0, 1) := by decide +kernel
theorem d_B_at_6 : decode prog_2_method_3_code 6 = .ok (.getfield 15, 3) := by decide +kernel
theorem d_B_at_9 : decode prog_2_method_3_code 9 = .ok (.if_icmp .ge 12, 3) := by decide +kernel
theorem d_B_at_12 : decode prog_2_method_3_code 12 = .ok (.aload_n 0, 1) := by decide +kernel
theorem d_B_at_13 : decode prog_2_method_3_code 13 = .ok (.getfield 9, 3) := by decide +kernel
theorem d_B_at_16 : decode prog_2_method_3_code 16 = .ok (.iload_n 1, 1) := by decide +kernel
theorem d_B_at_17 : decode prog_2_method_3_code 17 = .ok (.iaload, 1) := by decide +kernel
theorem d_B_at_18 : decode prog_2_method_3_code 18 = .ok (.goto 4, 3) := by decide +kernel
theorem d_B_at_21 : decode prog_2_method_3_code 21 = .ok (.iconst (-1), 1) := by decide +kernel
theorem d_B_at_22 : decode prog_2_method_3_code 22 = .ok (.ireturn, 1) := by decide +kernel
theorem d_K_take_0 : decode prog_1_method_16_code 0 = .ok (.iload_n 2, 1) := by decide +kernel
theorem d_K_take_1 : decode prog_1_method_16_code 1 = .ok (.iconst 1, 1) := by decide +kernel
theorem d_K_take_2 : decode prog_1_method_16_code 2 = .ok (.if_icmp .lt 26, 3) := by decide +kernel
theorem d_K_take_5 : decode prog_1_method_16_code 5 = .ok (.iload_n 2, 1) := by decide +kernel
theorem d_K_take_6 : decode prog_1_method_16_code 6 = .ok (.iconst 4, 1) := by decide +kernel
theorem d_K_take_7 : decode prog_1_method_16_code 7 = .ok (.if_icmp .gt 21, 3) := by decide +kernel
theorem d_K_take_10 : decode prog_1_method_16_code 10 = .ok (.aload_n 0, 1) := by decide +kernel
theorem d_K_take_11 : decode prog_1_method_16_code 11 = .ok (.getfield 47, 3) := by decide +kernel
theorem d_K_take_14 : decode prog_1_method_16_code 14 = .ok (.getfield 168, 3) := by decide +kernel
theorem d_K_take_17 : decode prog_1_method_16_code 17 = .ok (.getfield 158, 3) := by decide +kernel
theorem d_K_take_20 : decode prog_1_method_16_code 20 = .ok (.iload_n 2, 1) := by decide +kernel
theorem d_K_take_21 : decode prog_1_method_16_code 21 = .ok (.iadd, 1) := by decide +kernel
theorem d_K_take_22 : decode prog_1_method_16_code 22 = .ok (.sipush 400, 3) := by decide +kernel
theorem d_K_take_25 : decode prog_1_method_16_code 25 = .ok (.if_icmp .le 5, 3) := by decide +kernel
theorem d_K_take_28 : decode prog_1_method_16_code 28 = .ok (.iconst 0, 1) := by decide +kernel
theorem d_K_take_29 : decode prog_1_method_16_code 29 = .ok (.ireturn, 1) := by decide +kernel
theorem d_K_take_30 : decode prog_1_method_16_code 30 = .ok (.aload_n 0, 1) := by decide +kernel
theorem d_K_take_31 : decode prog_1_method_16_code 31 = .ok (.getfield 47, 3) := by decide +kernel
theorem d_K_take_34 : decode prog_1_method_16_code 34 = .ok (.getfield 168, 3) := by decide +kernel
theorem d_K_take_37 : decode prog_1_method_16_code 37 = .ok (.iload_n 1, 1) := by decide +kernel
theorem d_K_take_38 : decode prog_1_method_16_code 38 = .ok (.iload_n 2, 1) := by decide +kernel
theorem d_K_take_39 : decode prog_1_method_16_code 39 = .ok (.invokevirtual 169, 3) := by decide +kernel
theorem d_K_take_42 : decode prog_1_method_16_code 42 = .ok (.iconst 1, 1) := by decide +kernel
theorem d_K_take_43 : decode prog_1_method_16_code 43 = .ok (.ireturn, 1) := by decide +kernel
theorem d_B_append_0 : decode prog_2_method_4_code 0 = .ok (.bipush 8, 2) := by decide +kernel
theorem d_B_append_2 : decode prog_2_method_4_code 2 = .ok (.iload_n 2, 1) := by decide +kernel
theorem d_B_append_3 : decode prog_2_method_4_code 3 = .ok (.iconst 1, 1) := by decide +kernel
theorem d_B_append_4 : decode prog_2_method_4_code 4 = .ok (.isub, 1) := by decide +kernel
theorem d_B_append_5 : decode prog_2_method_4_code 5 = .ok (.imul, 1) := by decide +kernel
theorem d_B_append_6 : decode prog_2_method_4_code 6 = .ok (.istore_n 3, 1) := by decide +kernel
theorem d_B_append_7 : decode prog_2_method_4_code 7 = .ok (.iload_n 3, 1) := by decide +kernel
theorem d_B_append_8 : decode prog_2_method_4_code 8 = .ok (.ifCond .lt 45, 3) := by decide +kernel
theorem d_B_append_11 : decode prog_2_method_4_code 11 = .ok (.aload_n 0, 1) := by decide +kernel
theorem d_B_append_12 : decode prog_2_method_4_code 12 = .ok (.getfield 15, 3) := by decide +kernel
theorem d_B_append_15 : decode prog_2_method_4_code 15 = .ok (.sipush 400, 3) := by decide +kernel
theorem d_B_append_18 : decode prog_2_method_4_code 18 = .ok (.if_icmp .ge 29, 3) := by decide +kernel
theorem d_B_append_21 : decode prog_2_method_4_code 21 = .ok (.aload_n 0, 1) := by decide +kernel
theorem d_B_append_22 : decode prog_2_method_4_code 22 = .ok (.getfield 9, 3) := by decide +kernel
theorem d_B_append_25 : decode prog_2_method_4_code 25 = .ok (.aload_n 0, 1) := by decide +kernel
theorem d_B_append_26 : decode prog_2_method_4_code 26 = .ok (.getfield 15, 3) := by decide +kernel
theorem d_B_append_29 : decode prog_2_method_4_code 29 = .ok (.iload_n 1, 1) := by decide +kernel
theorem d_B_append_30 : decode prog_2_method_4_code 30 = .ok (.iload_n 3, 1) := by decide +kernel
theorem d_B_append_31 : decode prog_2_method_4_code 31 = .ok (.iushr, 1) := by decide +kernel
theorem d_B_append_32 : decode prog_2_method_4_code 32 = .ok (.sipush 255, 3) := by decide +kernel
theorem d_B_append_35 : decode prog_2_method_4_code 35 = .ok (.iand, 1) := by decide +kernel
theorem d_B_append_36 : decode prog_2_method_4_code 36 = .ok (.iastore, 1) := by decide +kernel
theorem d_B_append_37 : decode prog_2_method_4_code 37 = .ok (.aload_n 0, 1) := by decide +kernel
theorem d_B_append_38 : decode prog_2_method_4_code 38 = .ok (.dup, 1) := by decide +kernel
theorem d_B_append_39 : decode prog_2_method_4_code 39 = .ok (.getfield 15, 3) := by decide +kernel
theorem d_B_append_42 : decode prog_2_method_4_code 42 = .ok (.iconst 1, 1) := by decide +kernel
theorem d_B_append_43 : decode prog_2_method_4_code 43 = .ok (.iadd, 1) := by decide +kernel
theorem d_B_append_44 : decode prog_2_method_4_code 44 = .ok (.putfield 15, 3) := by decide +kernel
theorem d_B_append_47 : decode prog_2_method_4_code 47 = .ok (.iinc 3 (-8), 3) := by decide +kernel
theorem d_B_append_50 : decode prog_2_method_4_code 50 = .ok (.goto (-43), 3) := by decide +kernel
theorem d_B_append_53 : decode prog_2_method_4_code 53 = .ok (.return_, 1) := by decide +kernel
theorem d_K_carry_0 : decode prog_1_method_17_code 0 = .ok (.aload_n 0, 1) := by decide +kernel
theorem d_K_carry_1 : decode prog_1_method_17_code 1 = .ok (.getfield 47, 3) := by decide +kernel
theorem d_K_carry_4 : decode prog_1_method_17_code 4 = .ok (.getfield 168, 3) := by decide +kernel
theorem d_K_carry_7 : decode prog_1_method_17_code 7 = .ok (.aload_n 0, 1) := by decide +kernel
theorem d_K_carry_8 : decode prog_1_method_17_code 8 = .ok (.getfield 40, 3) := by decide +kernel
theorem d_K_carry_11 : decode prog_1_method_17_code 11 = .ok (.getfield 154, 3) := by decide +kernel
theorem d_K_carry_14 : decode prog_1_method_17_code 14 = .ok (.invokevirtual 172, 3) := by decide +kernel
theorem d_K_carry_17 : decode prog_1_method_17_code 17 = .ok (.aload_n 0, 1) := by decide +kernel
theorem d_K_carry_18 : decode prog_1_method_17_code 18 = .ok (.getfield 47, 3) := by decide +kernel
theorem d_K_carry_21 : decode prog_1_method_17_code 21 = .ok (.getfield 168, 3) := by decide +kernel
theorem d_K_carry_24 : decode prog_1_method_17_code 24 = .ok (.iload_n 1, 1) := by decide +kernel
theorem d_K_carry_25 : decode prog_1_method_17_code 25 = .ok (.iload_n 2, 1) := by decide +kernel
theorem d_K_carry_26 : decode prog_1_method_17_code 26 = .ok (.invokevirtual 176, 3) := by decide +kernel
theorem d_K_carry_29 : decode prog_1_method_17_code 29 = .ok (.aload_n 0, 1) := by decide +kernel
theorem d_K_carry_30 : decode prog_1_method_17_code 30 = .ok (.getfield 47, 3) := by decide +kernel
theorem d_K_carry_33 : decode prog_1_method_17_code 33 = .ok (.getfield 168, 3) := by decide +kernel
theorem d_K_carry_36 : decode prog_1_method_17_code 36 = .ok (.getfield 158, 3) := by decide +kernel
theorem d_K_carry_39 : decode prog_1_method_17_code 39 = .ok (.ireturn, 1) := by decide +kernel
theorem d_B_become_0 : decode prog_2_method_7_code 0 = .ok (.aload_n 1, 1) := by decide +kernel
theorem d_B_become_1 : decode prog_2_method_7_code 1 = .ok (.getfield 9, 3) := by decide +kernel
theorem d_B_become_4 : decode prog_2_method_7_code 4 = .ok (.iconst 0, 1) := by decide +kernel
theorem d_B_become_5 : decode prog_2_method_7_code 5 = .ok (.aload_n 0, 1) := by decide +kernel
theorem d_B_become_6 : decode prog_2_method_7_code 6 = .ok (.getfield 9, 3) := by decide +kernel
theorem d_B_become_9 : decode prog_2_method_7_code 9 = .ok (.iconst 0, 1) := by decide +kernel
theorem d_B_become_10 : decode prog_2_method_7_code 10 = .ok (.aload_n 1, 1) := by decide +kernel
theorem d_B_become_11 : decode prog_2_method_7_code 11 = .ok (.getfield 15, 3) := by decide +kernel
theorem d_B_become_14 : decode prog_2_method_7_code 14 = .ok (.invokestatic 23, 3) := by decide +kernel
theorem d_B_become_17 : decode prog_2_method_7_code 17 = .ok (.aload_n 0, 1) := by decide +kernel
theorem d_B_become_18 : decode prog_2_method_7_code 18 = .ok (.aload_n 1, 1) := by decide +kernel
theorem d_B_become_19 : decode prog_2_method_7_code 19 = .ok (.getfield 15, 3) := by decide +kernel
theorem d_B_become_22 : decode prog_2_method_7_code 22 = .ok (.putfield 15, 3) := by decide +kernel
theorem d_B_become_25 : decode prog_2_method_7_code 25 = .ok (.return_, 1) := by decide +kernel
theorem d_B_flip_0 : decode prog_2_method_8_code 0 = .ok (.iload_n 1, 1) := by decide +kernel
theorem d_B_flip_1 : decode prog_2_method_8_code 1 = .ok (.ifCond .lt 25, 3) := by decide +kernel
theorem d_B_flip_4 : decode prog_2_method_8_code 4 = .ok (.iload_n 1, 1) := by decide +kernel
theorem d_B_flip_5 : decode prog_2_method_8_code 5 = .ok (.aload_n 0, 1) := by decide +kernel
theorem d_B_flip_6 : decode prog_2_method_8_code 6 = .ok (.getfield 15, 3) := by decide +kernel
theorem d_B_flip_9 : decode prog_2_method_8_code 9 = .ok (.if_icmp .ge 17, 3) := by decide +kernel
theorem d_B_flip_12 : decode prog_2_method_8_code 12 = .ok (.aload_n 0, 1) := by decide +kernel
theorem d_B_flip_13 : decode prog_2_method_8_code 13 = .ok (.getfield 9, 3) := by decide +kernel
theorem d_B_flip_16 : decode prog_2_method_8_code 16 = .ok (.iload_n 1, 1) := by decide +kernel
theorem d_B_flip_17 : decode prog_2_method_8_code 17 = .ok (.dup2, 1) := by decide +kernel
theorem d_B_flip_18 : decode prog_2_method_8_code 18 = .ok (.iaload, 1) := by decide +kernel
theorem d_B_flip_19 : decode prog_2_method_8_code 19 = .ok (.iload_n 2, 1) := by decide +kernel
theorem d_B_flip_20 : decode prog_2_method_8_code 20 = .ok (.sipush 255, 3) := by decide +kernel
theorem d_B_flip_23 : decode prog_2_method_8_code 23 = .ok (.iand, 1) := by decide +kernel
theorem d_B_flip_24 : decode prog_2_method_8_code 24 = .ok (.ixor, 1) := by decide +kernel
theorem d_B_flip_25 : decode prog_2_method_8_code 25 = .ok (.iastore, 1) := by decide +kernel
theorem d_B_flip_26 : decode prog_2_method_8_code 26 = .ok (.return_, 1) := by decide +kernel
theorem d_K_shown_0 : decode prog_1_method_19_code 0 = .ok (.aload_n 0, 1) := by decide +kernel
theorem d_K_shown_1 : decode prog_1_method_19_code 1 = .ok (.getfield 47, 3) := by decide +kernel
theorem d_K_shown_4 : decode prog_1_method_19_code 4 = .ok (.getfield 189, 3) := by decide +kernel
theorem d_K_shown_7 : decode prog_1_method_19_code 7 = .ok (.ireturn, 1) := by decide +kernel
theorem d_K_put_0 : decode prog_1_method_2_code 0 = .ok (.iload_n 1, 1) := by decide +kernel
theorem d_K_put_1 : decode prog_1_method_2_code 1 = .ok (.invokestatic 51, 3) := by decide +kernel
theorem d_K_put_4 : decode prog_1_method_2_code 4 = .ok (.aload_n 0, 1) := by decide +kernel
theorem d_K_put_5 : decode prog_1_method_2_code 5 = .ok (.invokevirtual 55, 3) := by decide +kernel
theorem d_K_put_8 : decode prog_1_method_2_code 8 = .ok (.aload_n 0, 1) := by decide +kernel
theorem d_K_put_9 : decode prog_1_method_2_code 9 = .ok (.getfield 26, 3) := by decide +kernel
theorem d_K_put_12 : decode prog_1_method_2_code 12 = .ok (.iload_n 1, 1) := by decide +kernel
theorem d_K_put_13 : decode prog_1_method_2_code 13 = .ok (.iload_n 2, 1) := by decide +kernel
theorem d_K_put_14 : decode prog_1_method_2_code 14 = .ok (.invokevirtual 58, 3) := by decide +kernel
theorem d_K_put_17 : decode prog_1_method_2_code 17 = .ok (.return_, 1) := by decide +kernel
theorem d_K_requireKey_0 : decode prog_1_method_23_code 0 = .ok (.iload_n 0, 1) := by decide +kernel
theorem d_K_requireKey_1 : decode prog_1_method_23_code 1 = .ok (.ifCond .lt 13, 3) := by decide +kernel
theorem d_K_requireKey_4 : decode prog_1_method_23_code 4 = .ok (.iload_n 0, 1) := by decide +kernel
theorem d_K_requireKey_5 : decode prog_1_method_23_code 5 = .ok (.bipush 48, 2) := by decide +kernel
theorem d_K_requireKey_7 : decode prog_1_method_23_code 7 = .ok (.if_icmp .ge 7, 3) := by decide +kernel
theorem d_K_requireKey_10 : decode prog_1_method_23_code 10 = .ok (.iconst 1, 1) := by decide +kernel
theorem d_K_requireKey_11 : decode prog_1_method_23_code 11 = .ok (.goto 4, 3) := by decide +kernel
theorem d_K_requireKey_14 : decode prog_1_method_23_code 14 = .ok (.iconst 0, 1) := by decide +kernel
theorem d_K_requireKey_15 : decode prog_1_method_23_code 15 = .ok (.invokestatic 144, 3) := by decide +kernel
theorem d_K_requireKey_18 : decode prog_1_method_23_code 18 = .ok (.return_, 1) := by decide +kernel
theorem d_K_require_0 : decode prog_1_method_24_code 0 = .ok (.iload_n 0, 1) := by decide +kernel
theorem d_K_require_1 : decode prog_1_method_24_code 1 = .ok (.ifCond .ne 13, 3) := by decide +kernel
theorem d_K_require_4 : decode prog_1_method_24_code 4 = .ok (.new 202, 3) := by decide +kernel
theorem d_K_require_7 : decode prog_1_method_24_code 7 = .ok (.dup, 1) := by decide +kernel
theorem d_K_require_8 : decode prog_1_method_24_code 8 = .ok (.ldc 204, 2) := by decide +kernel
theorem d_K_require_10 : decode prog_1_method_24_code 10 = .ok (.invokespecial 206, 3) := by decide +kernel
theorem d_K_require_13 : decode prog_1_method_24_code 13 = .ok (.athrow, 1) := by decide +kernel
theorem d_K_require_14 : decode prog_1_method_24_code 14 = .ok (.return_, 1) := by decide +kernel
theorem d_K_requireRoom_0 : decode prog_1_method_21_code 0 = .ok (.aload_n 0, 1) := by decide +kernel
theorem d_K_requireRoom_1 : decode prog_1_method_21_code 1 = .ok (.getfield 19, 3) := by decide +kernel
theorem d_K_requireRoom_4 : decode prog_1_method_21_code 4 = .ok (.getfield 89, 3) := by decide +kernel
theorem d_K_requireRoom_7 : decode prog_1_method_21_code 7 = .ok (.bipush 16, 2) := by decide +kernel
theorem d_K_requireRoom_9 : decode prog_1_method_21_code 9 = .ok (.if_icmp .lt 13, 3) := by decide +kernel
theorem d_K_requireRoom_12 : decode prog_1_method_21_code 12 = .ok (.new 195, 3) := by decide +kernel
theorem d_K_requireRoom_15 : decode prog_1_method_21_code 15 = .ok (.dup, 1) := by decide +kernel
theorem d_K_requireRoom_16 : decode prog_1_method_21_code 16 = .ok (.ldc 197, 2) := by decide +kernel
theorem d_K_requireRoom_18 : decode prog_1_method_21_code 18 = .ok (.invokespecial 199, 3) := by decide +kernel
theorem d_K_requireRoom_21 : decode prog_1_method_21_code 21 = .ok (.athrow, 1) := by decide +kernel
theorem d_K_requireRoom_22 : decode prog_1_method_21_code 22 = .ok (.return_, 1) := by decide +kernel
theorem d_T_set_0 : decode prog_8_method_2_code 0 = .ok (.aload_n 0, 1) := by decide +kernel
theorem d_T_set_1 : decode prog_8_method_2_code 1 = .ok (.getfield 9, 3) := by decide +kernel
theorem d_T_set_4 : decode prog_8_method_2_code 4 = .ok (.iload_n 1, 1) := by decide +kernel
theorem d_T_set_5 : decode prog_8_method_2_code 5 = .ok (.iconst 1, 1) := by decide +kernel
theorem d_T_set_6 : decode prog_8_method_2_code 6 = .ok (.bastore, 1) := by decide +kernel
theorem d_T_set_7 : decode prog_8_method_2_code 7 = .ok (.aload_n 0, 1) := by decide +kernel
theorem d_T_set_8 : decode prog_8_method_2_code 8 = .ok (.getfield 15, 3) := by decide +kernel
theorem d_T_set_11 : decode prog_8_method_2_code 11 = .ok (.iload_n 1, 1) := by decide +kernel
theorem d_T_set_12 : decode prog_8_method_2_code 12 = .ok (.iload_n 2, 1) := by decide +kernel
theorem d_T_set_13 : decode prog_8_method_2_code 13 = .ok (.iastore, 1) := by decide +kernel
theorem d_T_set_14 : decode prog_8_method_2_code 14 = .ok (.return_, 1) := by decide +kernel
theorem d_K_delete_0 : decode prog_1_method_3_code 0 = .ok (.iload_n 1, 1) := by decide +kernel
theorem d_K_delete_1 : decode prog_1_method_3_code 1 = .ok (.invokestatic 51, 3) := by decide +kernel
theorem d_K_delete_4 : decode prog_1_method_3_code 4 = .ok (.aload_n 0, 1) := by decide +kernel
theorem d_K_delete_5 : decode prog_1_method_3_code 5 = .ok (.invokevirtual 55, 3) := by decide +kernel
theorem d_K_delete_8 : decode prog_1_method_3_code 8 = .ok (.aload_n 0, 1) := by decide +kernel
theorem d_K_delete_9 : decode prog_1_method_3_code 9 = .ok (.getfield 26, 3) := by decide +kernel
theorem d_K_delete_12 : decode prog_1_method_3_code 12 = .ok (.iload_n 1, 1) := by decide +kernel
theorem d_K_delete_13 : decode prog_1_method_3_code 13 = .ok (.invokevirtual 62, 3) := by decide +kernel
theorem d_K_delete_16 : decode prog_1_method_3_code 16 = .ok (.ireturn, 1) := by decide +kernel
theorem d_T_unset_0 : decode prog_8_method_3_code 0 = .ok (.aload_n 0, 1) := by decide +kernel
theorem d_T_unset_1 : decode prog_8_method_3_code 1 = .ok (.getfield 9, 3) := by decide +kernel
theorem d_T_unset_4 : decode prog_8_method_3_code 4 = .ok (.iload_n 1, 1) := by decide +kernel
theorem d_T_unset_5 : decode prog_8_method_3_code 5 = .ok (.baload, 1) := by decide +kernel
theorem d_T_unset_6 : decode prog_8_method_3_code 6 = .ok (.istore_n 2, 1) := by decide +kernel
theorem d_T_unset_7 : decode prog_8_method_3_code 7 = .ok (.aload_n 0, 1) := by decide +kernel
theorem d_T_unset_8 : decode prog_8_method_3_code 8 = .ok (.getfield 9, 3) := by decide +kernel
theorem d_T_unset_11 : decode prog_8_method_3_code 11 = .ok (.iload_n 1, 1) := by decide +kernel
theorem d_T_unset_12 : decode prog_8_method_3_code 12 = .ok (.iconst 0, 1) := by decide +kernel
theorem d_T_unset_13 : decode prog_8_method_3_code 13 = .ok (.bastore, 1) := by decide +kernel
theorem d_T_unset_14 : decode prog_8_method_3_code 14 = .ok (.iload_n 2, 1) := by decide +kernel
theorem d_T_unset_15 : decode prog_8_method_3_code 15 = .ok (.ireturn, 1) := by decide +kernel
theorem d_K_commit_0 : decode prog_1_method_4_code 0 = .ok (.aload_n 0, 1) := by decide +kernel
theorem d_K_commit_1 : decode prog_1_method_4_code 1 = .ok (.invokevirtual 55, 3) := by decide +kernel
theorem d_K_commit_4 : decode prog_1_method_4_code 4 = .ok (.aload_n 0, 1) := by decide +kernel
theorem d_K_commit_5 : decode prog_1_method_4_code 5 = .ok (.getfield 26, 3) := by decide +kernel
theorem d_K_commit_8 : decode prog_1_method_4_code 8 = .ok (.aload_n 0, 1) := by decide +kernel
theorem d_K_commit_9 : decode prog_1_method_4_code 9 = .ok (.getfield 33, 3) := by decide +kernel
theorem d_K_commit_12 : decode prog_1_method_4_code 12 = .ok (.invokevirtual 66, 3) := by decide +kernel
theorem d_K_commit_15 : decode prog_1_method_4_code 15 = .ok (.aload_n 0, 1) := by decide +kernel
theorem d_K_commit_16 : decode prog_1_method_4_code 16 = .ok (.getfield 10, 3) := by decide +kernel
theorem d_K_commit_19 : decode prog_1_method_4_code 19 = .ok (.aload_n 0, 1) := by decide +kernel
theorem d_K_commit_20 : decode prog_1_method_4_code 20 = .ok (.getfield 33, 3) := by decide +kernel
theorem d_K_commit_23 : decode prog_1_method_4_code 23 = .ok (.invokevirtual 70, 3) := by decide +kernel
theorem d_K_commit_26 : decode prog_1_method_4_code 26 = .ok (.ifCond .eq 13, 3) := by decide +kernel
theorem d_K_commit_29 : decode prog_1_method_4_code 29 = .ok (.aload_n 0, 1) := by decide +kernel
theorem d_K_commit_30 : decode prog_1_method_4_code 30 = .ok (.getfield 10, 3) := by decide +kernel
theorem d_K_commit_33 : decode prog_1_method_4_code 33 = .ok (.invokevirtual 74, 3) := by decide +kernel
theorem d_K_commit_36 : decode prog_1_method_4_code 36 = .ok (.ifCond .ne 9, 3) := by decide +kernel
theorem d_K_commit_39 : decode prog_1_method_4_code 39 = .ok (.aload_n 0, 1) := by decide +kernel
theorem d_K_commit_40 : decode prog_1_method_4_code 40 = .ok (.invokevirtual 78, 3) := by decide +kernel
theorem d_K_commit_43 : decode prog_1_method_4_code 43 = .ok (.iconst (-1), 1) := by decide +kernel
theorem d_K_commit_44 : decode prog_1_method_4_code 44 = .ok (.ireturn, 1) := by decide +kernel
theorem d_K_commit_45 : decode prog_1_method_4_code 45 = .ok (.aload_n 0, 1) := by decide +kernel
theorem d_K_commit_46 : decode prog_1_method_4_code 46 = .ok (.getfield 19, 3) := by decide +kernel
theorem d_K_commit_49 : decode prog_1_method_4_code 49 = .ok (.aload_n 0, 1) := by decide +kernel
theorem d_K_commit_50 : decode prog_1_method_4_code 50 = .ok (.getfield 33, 3) := by decide +kernel
theorem d_K_commit_53 : decode prog_1_method_4_code 53 = .ok (.invokevirtual 81, 3) := by decide +kernel
theorem d_K_commit_56 : decode prog_1_method_4_code 56 = .ok (.invokevirtual 85, 3) := by decide +kernel
theorem d_K_commit_59 : decode prog_1_method_4_code 59 = .ok (.aload_n 0, 1) := by decide +kernel
theorem d_K_commit_60 : decode prog_1_method_4_code 60 = .ok (.getfield 19, 3) := by decide +kernel
theorem d_K_commit_63 : decode prog_1_method_4_code 63 = .ok (.getfield 89, 3) := by decide +kernel
theorem d_K_commit_66 : decode prog_1_method_4_code 66 = .ok (.iconst 1, 1) := by decide +kernel
theorem d_K_commit_67 : decode prog_1_method_4_code 67 = .ok (.isub, 1) := by decide +kernel
theorem d_K_commit_68 : decode prog_1_method_4_code 68 = .ok (.ireturn, 1) := by decide +kernel
theorem d_T_listInto_0 : decode prog_8_method_5_code 0 = .ok (.iconst 0, 1) := by decide +kernel
theorem d_T_listInto_1 : decode prog_8_method_5_code 1 = .ok (.istore_n 2, 1) := by decide +kernel
theorem d_T_listInto_2 : decode prog_8_method_5_code 2 = .ok (.iconst 0, 1) := by decide +kernel
theorem d_T_listInto_3 : decode prog_8_method_5_code 3 = .ok (.istore_n 3, 1) := by decide +kernel
theorem d_T_listInto_4 : decode prog_8_method_5_code 4 = .ok (.iload_n 3, 1) := by decide +kernel
theorem d_T_listInto_5 : decode prog_8_method_5_code 5 = .ok (.bipush 48, 2) := by decide +kernel
theorem d_T_listInto_7 : decode prog_8_method_5_code 7 = .ok (.if_icmp .ge 34, 3) := by decide +kernel
theorem d_T_listInto_10 : decode prog_8_method_5_code 10 = .ok (.aload_n 0, 1) := by decide +kernel
theorem d_T_listInto_11 : decode prog_8_method_5_code 11 = .ok (.getfield 9, 3) := by decide +kernel
theorem d_T_listInto_14 : decode prog_8_method_5_code 14 = .ok (.iload_n 3, 1) := by decide +kernel
theorem d_T_listInto_15 : decode prog_8_method_5_code 15 = .ok (.baload, 1) := by decide +kernel
theorem d_T_listInto_16 : decode prog_8_method_5_code 16 = .ok (.ifCond .eq 19, 3) := by decide +kernel
theorem d_T_listInto_19 : decode prog_8_method_5_code 19 = .ok (.aload_n 1, 1) := by decide +kernel
theorem d_T_listInto_20 : decode prog_8_method_5_code 20 = .ok (.iload_n 2, 1) := by decide +kernel
theorem d_T_listInto_21 : decode prog_8_method_5_code 21 = .ok (.iload_n 3, 1) := by decide +kernel
theorem d_T_listInto_22 : decode prog_8_method_5_code 22 = .ok (.aload_n 0, 1) := by decide +kernel
theorem d_T_listInto_23 : decode prog_8_method_5_code 23 = .ok (.getfield 15, 3) := by decide +kernel
theorem d_T_listInto_26 : decode prog_8_method_5_code 26 = .ok (.iload_n 3, 1) := by decide +kernel
theorem d_T_listInto_27 : decode prog_8_method_5_code 27 = .ok (.iaload, 1) := by decide +kernel
theorem d_T_listInto_28 : decode prog_8_method_5_code 28 = .ok (.aconst_null, 1) := by decide +kernel
theorem d_T_listInto_29 : decode prog_8_method_5_code 29 = .ok (.invokevirtual 31, 3) := by decide +kernel
theorem d_T_listInto_32 : decode prog_8_method_5_code 32 = .ok (.iinc 2 1, 3) := by decide +kernel
theorem d_T_listInto_35 : decode prog_8_method_5_code 35 = .ok (.iinc 3 1, 3) := by decide +kernel
theorem d_T_listInto_38 : decode prog_8_method_5_code 38 = .ok (.goto (-34), 3) := by decide +kernel
theorem d_T_listInto_41 : decode prog_8_method_5_code 41 = .ok (.aload_n 1, 1) := by decide +kernel
theorem d_T_listInto_42 : decode prog_8_method_5_code 42 = .ok (.iload_n 2, 1) := by decide +kernel
theorem d_T_listInto_43 : decode prog_8_method_5_code 43 = .ok (.putfield 37, 3) := by decide +kernel
theorem d_T_listInto_46 : decode prog_8_method_5_code 46 = .ok (.return_, 1) := by decide +kernel
theorem d_R_set_0 : decode prog_6_method_2_code 0 = .ok (.aload_n 0, 1) := by decide +kernel
theorem d_R_set_1 : decode prog_6_method_2_code 1 = .ok (.getfield 9, 3) := by decide +kernel
theorem d_R_set_4 : decode prog_6_method_2_code 4 = .ok (.iload_n 1, 1) := by decide +kernel
theorem d_R_set_5 : decode prog_6_method_2_code 5 = .ok (.iload_n 2, 1) := by decide +kernel
theorem d_R_set_6 : decode prog_6_method_2_code 6 = .ok (.iastore, 1) := by decide +kernel
theorem d_R_set_7 : decode prog_6_method_2_code 7 = .ok (.aload_n 0, 1) := by decide +kernel
theorem d_R_set_8 : decode prog_6_method_2_code 8 = .ok (.getfield 15, 3) := by decide +kernel
theorem d_R_set_11 : decode prog_6_method_2_code 11 = .ok (.iload_n 1, 1) := by decide +kernel
theorem d_R_set_12 : decode prog_6_method_2_code 12 = .ok (.iload_n 3, 1) := by decide +kernel
theorem d_R_set_13 : decode prog_6_method_2_code 13 = .ok (.iastore, 1) := by decide +kernel
theorem d_R_set_14 : decode prog_6_method_2_code 14 = .ok (.aload_n 0, 1) := by decide +kernel
theorem d_R_set_15 : decode prog_6_method_2_code 15 = .ok (.getfield 20, 3) := by decide +kernel
theorem d_R_set_18 : decode prog_6_method_2_code 18 = .ok (.iload_n 1, 1) := by decide +kernel
theorem d_R_set_19 : decode prog_6_method_2_code 19 = .ok (.aload 4, 2) := by decide +kernel
theorem d_R_set_21 : decode prog_6_method_2_code 21 = .ok (.aastore, 1) := by decide +kernel
theorem d_R_set_22 : decode prog_6_method_2_code 22 = .ok (.return_, 1) := by decide +kernel
theorem d_S_keepTree_0 : decode prog_7_method_2_code 0 = .ok (.aload_n 1, 1) := by decide +kernel
theorem d_S_keepTree_1 : decode prog_7_method_2_code 1 = .ok (.getfield 24, 3) := by decide +kernel
theorem d_S_keepTree_4 : decode prog_7_method_2_code 4 = .ok (.ifCond .le 7, 3) := by decide +kernel
theorem d_S_keepTree_7 : decode prog_7_method_2_code 7 = .ok (.iconst 1, 1) := by decide +kernel
theorem d_S_keepTree_8 : decode prog_7_method_2_code 8 = .ok (.goto 4, 3) := by decide +kernel
theorem d_S_keepTree_11 : decode prog_7_method_2_code 11 = .ok (.iconst 0, 1) := by decide +kernel
theorem d_S_keepTree_12 : decode prog_7_method_2_code 12 = .ok (.istore_n 2, 1) := by decide +kernel
theorem d_S_keepTree_13 : decode prog_7_method_2_code 13 = .ok (.iconst 0, 1) := by decide +kernel
theorem d_S_keepTree_14 : decode prog_7_method_2_code 14 = .ok (.istore_n 3, 1) := by decide +kernel
theorem d_S_keepTree_15 : decode prog_7_method_2_code 15 = .ok (.iload_n 2, 1) := by decide +kernel
theorem d_S_keepTree_16 : decode prog_7_method_2_code 16 = .ok (.ifCond .eq 40, 3) := by decide +kernel
theorem d_S_keepTree_19 : decode prog_7_method_2_code 19 = .ok (.iload_n 3, 1) := by decide +kernel
theorem d_S_keepTree_20 : decode prog_7_method_2_code 20 = .ok (.bipush 6, 2) := by decide +kernel
theorem d_S_keepTree_22 : decode prog_7_method_2_code 22 = .ok (.if_icmp .ge 34, 3) := by decide +kernel
theorem d_S_keepTree_25 : decode prog_7_method_2_code 25 = .ok (.aload_n 0, 1) := by decide +kernel
theorem d_S_keepTree_26 : decode prog_7_method_2_code 26 = .ok (.aload_n 1, 1) := by decide +kernel
theorem d_S_keepTree_27 : decode prog_7_method_2_code 27 = .ok (.iload_n 3, 1) := by decide +kernel
theorem d_S_keepTree_28 : decode prog_7_method_2_code 28 = .ok (.invokevirtual 27, 3) := by decide +kernel
theorem d_S_keepTree_31 : decode prog_7_method_2_code 31 = .ok (.ifCond .ne 5, 3) := by decide +kernel
theorem d_S_keepTree_34 : decode prog_7_method_2_code 34 = .ok (.iconst 0, 1) := by decide +kernel
theorem d_S_keepTree_35 : decode prog_7_method_2_code 35 = .ok (.ireturn, 1) := by decide +kernel
theorem d_S_keepTree_36 : decode prog_7_method_2_code 36 = .ok (.aload_n 1, 1) := by decide +kernel
theorem d_S_keepTree_37 : decode prog_7_method_2_code 37 = .ok (.getfield 24, 3) := by decide +kernel
theorem d_S_keepTree_40 : decode prog_7_method_2_code 40 = .ok (.iconst 1, 1) := by decide +kernel
theorem d_S_keepTree_41 : decode prog_7_method_2_code 41 = .ok (.if_icmp .le 7, 3) := by decide +kernel
theorem d_S_keepTree_44 : decode prog_7_method_2_code 44 = .ok (.iconst 1, 1) := by decide +kernel
theorem d_S_keepTree_45 : decode prog_7_method_2_code 45 = .ok (.goto 4, 3) := by decide +kernel
theorem d_S_keepTree_48 : decode prog_7_method_2_code 48 = .ok (.iconst 0, 1) := by decide +kernel
theorem d_S_keepTree_49 : decode prog_7_method_2_code 49 = .ok (.istore_n 2, 1) := by decide +kernel
theorem d_S_keepTree_50 : decode prog_7_method_2_code 50 = .ok (.iinc 3 1, 3) := by decide +kernel
theorem d_S_keepTree_53 : decode prog_7_method_2_code 53 = .ok (.goto (-38), 3) := by decide +kernel
theorem d_S_keepTree_56 : decode prog_7_method_2_code 56 = .ok (.iconst 1, 1) := by decide +kernel
theorem d_S_keepTree_57 : decode prog_7_method_2_code 57 = .ok (.ireturn, 1) := by decide +kernel
theorem d_S_keepLevel_0 : decode prog_7_method_3_code 0 = .ok (.iconst 0, 1) := by decide +kernel
theorem d_S_keepLevel_1 : decode prog_7_method_3_code 1 = .ok (.istore_n 3, 1) := by decide +kernel
theorem d_S_keepLevel_2 : decode prog_7_method_3_code 2 = .ok (.iconst 0, 1) := by decide +kernel
theorem d_S_keepLevel_3 : decode prog_7_method_3_code 3 = .ok (.istore 4, 2) := by decide +kernel
theorem d_S_keepLevel_5 : decode prog_7_method_3_code 5 = .ok (.iconst 0, 1) := by decide +kernel
theorem d_S_keepLevel_6 : decode prog_7_method_3_code 6 = .ok (.istore 5, 2) := by decide +kernel
theorem d_S_keepLevel_8 : decode prog_7_method_3_code 8 = .ok (.iload 5, 2) := by decide +kernel
theorem d_S_keepLevel_10 : decode prog_7_method_3_code 10 = .ok (.aload_n 1, 1) := by decide +kernel
theorem d_S_keepLevel_11 : decode prog_7_method_3_code 11 = .ok (.getfield 24, 3) := by decide +kernel
theorem d_S_keepLevel_14 : decode prog_7_method_3_code 14 = .ok (.if_icmp .ge 82, 3) := by decide +kernel
theorem d_S_keepLevel_17 : decode prog_7_method_3_code 17 = .ok (.aload_n 1, 1) := by decide +kernel
theorem d_S_keepLevel_18 : decode prog_7_method_3_code 18 = .ok (.getfield 31, 3) := by decide +kernel
theorem d_S_keepLevel_21 : decode prog_7_method_3_code 21 = .ok (.iload 5, 2) := by decide +kernel
theorem d_S_keepLevel_23 : decode prog_7_method_3_code 23 = .ok (.iaload, 1) := by decide +kernel
theorem d_S_keepLevel_24 : decode prog_7_method_3_code 24 = .ok (.istore 6, 2) := by decide +kernel
theorem d_S_keepLevel_26 : decode prog_7_method_3_code 26 = .ok (.iload 5, 2) := by decide +kernel
theorem d_S_keepLevel_28 : decode prog_7_method_3_code 28 = .ok (.aload_n 1, 1) := by decide +kernel
theorem d_S_keepLevel_29 : decode prog_7_method_3_code 29 = .ok (.getfield 24, 3) := by decide +kernel
theorem d_S_keepLevel_32 : decode prog_7_method_3_code 32 = .ok (.iconst 1, 1) := by decide +kernel
theorem d_S_keepLevel_33 : decode prog_7_method_3_code 33 = .ok (.isub, 1) := by decide +kernel
theorem d_S_keepLevel_34 : decode prog_7_method_3_code 34 = .ok (.if_icmp .eq 12, 3) := by decide +kernel
theorem d_S_keepLevel_37 : decode prog_7_method_3_code 37 = .ok (.iload_n 2, 1) := by decide +kernel
theorem d_S_keepLevel_38 : decode prog_7_method_3_code 38 = .ok (.iload 6, 2) := by decide +kernel
theorem d_S_keepLevel_40 : decode prog_7_method_3_code 40 = .ok (.invokestatic 35, 3) := by decide +kernel
theorem d_S_keepLevel_43 : decode prog_7_method_3_code 43 = .ok (.ifCond .eq 47, 3) := by decide +kernel
theorem d_S_keepLevel_46 : decode prog_7_method_3_code 46 = .ok (.aload_n 0, 1) := by decide +kernel
theorem d_S_keepLevel_47 : decode prog_7_method_3_code 47 = .ok (.aload_n 1, 1) := by decide +kernel
theorem d_S_keepLevel_48 : decode prog_7_method_3_code 48 = .ok (.iload_n 2, 1) := by decide +kernel
theorem d_S_keepLevel_49 : decode prog_7_method_3_code 49 = .ok (.iload 4, 2) := by decide +kernel
theorem d_S_keepLevel_51 : decode prog_7_method_3_code 51 = .ok (.iload 5, 2) := by decide +kernel
theorem d_S_keepLevel_53 : decode prog_7_method_3_code 53 = .ok (.iconst 1, 1) := by decide +kernel
theorem d_S_keepLevel_54 : decode prog_7_method_3_code 54 = .ok (.iadd, 1) := by decide +kernel
theorem d_S_keepLevel_55 : decode prog_7_method_3_code 55 = .ok (.invokevirtual 39, 3) := by decide +kernel
theorem d_S_keepLevel_58 : decode prog_7_method_3_code 58 = .ok (.astore 7, 2) := by decide +kernel
theorem d_S_keepLevel_60 : decode prog_7_method_3_code 60 = .ok (.aload 7, 2) := by decide +kernel
theorem d_S_keepLevel_62 : decode prog_7_method_3_code 62 = .ok (.ifnonnull 5, 3) := by decide +kernel
theorem d_S_keepLevel_65 : decode prog_7_method_3_code 65 = .ok (.iconst 0, 1) := by decide +kernel
theorem d_S_keepLevel_66 : decode prog_7_method_3_code 66 = .ok (.ireturn, 1) := by decide +kernel
theorem d_S_keepLevel_67 : decode prog_7_method_3_code 67 = .ok (.aload_n 1, 1) := by decide +kernel
theorem d_S_keepLevel_68 : decode prog_7_method_3_code 68 = .ok (.iload_n 3, 1) := by decide +kernel
theorem d_S_keepLevel_69 : decode prog_7_method_3_code 69 = .ok (.iload 6, 2) := by decide +kernel
theorem d_S_keepLevel_71 : decode prog_7_method_3_code 71 = .ok (.aload 7, 2) := by decide +kernel
theorem d_S_keepLevel_73 : decode prog_7_method_3_code 73 = .ok (.getfield 43, 3) := by decide +kernel
theorem d_S_keepLevel_76 : decode prog_7_method_3_code 76 = .ok (.aload 7, 2) := by decide +kernel
theorem d_S_keepLevel_78 : decode prog_7_method_3_code 78 = .ok (.invokevirtual 46, 3) := by decide +kernel
theorem d_S_keepLevel_81 : decode prog_7_method_3_code 81 = .ok (.iinc 3 1, 3) := by decide +kernel
theorem d_S_keepLevel_84 : decode prog_7_method_3_code 84 = .ok (.iload 5, 2) := by decide +kernel
theorem d_S_keepLevel_86 : decode prog_7_method_3_code 86 = .ok (.iconst 1, 1) := by decide +kernel
theorem d_S_keepLevel_87 : decode prog_7_method_3_code 87 = .ok (.iadd, 1) := by decide +kernel
theorem d_S_keepLevel_88 : decode prog_7_method_3_code 88 = .ok (.istore 4, 2) := by decide +kernel
theorem d_S_keepLevel_90 : decode prog_7_method_3_code 90 = .ok (.iinc 5 1, 3) := by decide +kernel
theorem d_S_keepLevel_93 : decode prog_7_method_3_code 93 = .ok (.goto (-85), 3) := by decide +kernel
theorem d_S_keepLevel_96 : decode prog_7_method_3_code 96 = .ok (.aload_n 1, 1) := by decide +kernel
theorem d_S_keepLevel_97 : decode prog_7_method_3_code 97 = .ok (.iload_n 3, 1) := by decide +kernel
theorem d_S_keepLevel_98 : decode prog_7_method_3_code 98 = .ok (.putfield 24, 3) := by decide +kernel
theorem d_S_keepLevel_101 : decode prog_7_method_3_code 101 = .ok (.iconst 1, 1) := by decide +kernel
theorem d_S_keepLevel_102 : decode prog_7_method_3_code 102 = .ok (.ireturn, 1) := by decide +kernel
theorem d_K_endsChunk_0 : decode prog_1_method_30_code 0 = .ok (.bipush 9, 2) := by decide +kernel
theorem d_K_endsChunk_2 : decode prog_1_method_30_code 2 = .ok (.iload_n 0, 1) := by decide +kernel
theorem d_K_endsChunk_3 : decode prog_1_method_30_code 3 = .ok (.invokestatic 213, 3) := by decide +kernel
theorem d_K_endsChunk_6 : decode prog_1_method_30_code 6 = .ok (.iload_n 1, 1) := by decide +kernel
theorem d_K_endsChunk_7 : decode prog_1_method_30_code 7 = .ok (.invokestatic 213, 3) := by decide +kernel
theorem d_K_endsChunk_10 : decode prog_1_method_30_code 10 = .ok (.iconst 5, 1) := by decide +kernel
theorem d_K_endsChunk_11 : decode prog_1_method_30_code 11 = .ok (.invokestatic 213, 3) := by decide +kernel
theorem d_K_endsChunk_14 : decode prog_1_method_30_code 14 = .ok (.iconst 3, 1) := by decide +kernel
theorem d_K_endsChunk_15 : decode prog_1_method_30_code 15 = .ok (.iand, 1) := by decide +kernel
theorem d_K_endsChunk_16 : decode prog_1_method_30_code 16 = .ok (.ifCond .ne 7, 3) := by decide +kernel
theorem d_K_endsChunk_19 : decode prog_1_method_30_code 19 = .ok (.iconst 1, 1) := by decide +kernel
theorem d_K_endsChunk_20 : decode prog_1_method_30_code 20 = .ok (.goto 4, 3) := by decide +kernel
theorem d_K_endsChunk_23 : decode prog_1_method_30_code 23 = .ok (.iconst 0, 1) := by decide +kernel
theorem d_K_endsChunk_24 : decode prog_1_method_30_code 24 = .ok (.ireturn, 1) := by decide +kernel
theorem d_K_mix_0 : decode prog_1_method_26_code 0 = .ok (.iload_n 0, 1) := by decide +kernel
theorem d_K_mix_1 : decode prog_1_method_26_code 1 = .ok (.iload_n 1, 1) := by decide +kernel
theorem d_K_mix_2 : decode prog_1_method_26_code 2 = .ok (.ixor, 1) := by decide +kernel
theorem d_K_mix_3 : decode prog_1_method_26_code 3 = .ok (.ldc 212, 2) := by decide +kernel
theorem d_K_mix_5 : decode prog_1_method_26_code 5 = .ok (.imul, 1) := by decide +kernel
theorem d_K_mix_6 : decode prog_1_method_26_code 6 = .ok (.istore_n 2, 1) := by decide +kernel
theorem d_K_mix_7 : decode prog_1_method_26_code 7 = .ok (.iload_n 2, 1) := by decide +kernel
theorem d_K_mix_8 : decode prog_1_method_26_code 8 = .ok (.iload_n 2, 1) := by decide +kernel
theorem d_K_mix_9 : decode prog_1_method_26_code 9 = .ok (.bipush 15, 2) := by decide +kernel
theorem d_K_mix_11 : decode prog_1_method_26_code 11 = .ok (.iushr, 1) := by decide +kernel
theorem d_K_mix_12 : decode prog_1_method_26_code 12 = .ok (.ixor, 1) := by decide +kernel
theorem d_K_mix_13 : decode prog_1_method_26_code 13 = .ok (.ireturn, 1) := by decide +kernel
theorem d_S_keep_0 : decode prog_7_method_4_code 0 = .ok (.aload_n 1, 1) := by decide +kernel
theorem d_S_keep_1 : decode prog_7_method_4_code 1 = .ok (.iload_n 2, 1) := by decide +kernel
theorem d_S_keep_2 : decode prog_7_method_4_code 2 = .ok (.iload_n 3, 1) := by decide +kernel
theorem d_S_keep_3 : decode prog_7_method_4_code 3 = .ok (.iload 4, 2) := by decide +kernel
theorem d_S_keep_5 : decode prog_7_method_4_code 5 = .ok (.invokevirtual 50, 3) := by decide +kernel
theorem d_S_keep_8 : decode prog_7_method_4_code 8 = .ok (.istore 5, 2) := by decide +kernel
theorem d_S_keep_10 : decode prog_7_method_4_code 10 = .ok (.aload_n 1, 1) := by decide +kernel
theorem d_S_keep_11 : decode prog_7_method_4_code 11 = .ok (.getfield 31, 3) := by decide +kernel
theorem d_S_keep_14 : decode prog_7_method_4_code 14 = .ok (.iload 4, 2) := by decide +kernel
theorem d_S_keep_16 : decode prog_7_method_4_code 16 = .ok (.iconst 1, 1) := by decide +kernel
theorem d_S_keep_17 : decode prog_7_method_4_code 17 = .ok (.isub, 1) := by decide +kernel
theorem d_S_keep_18 : decode prog_7_method_4_code 18 = .ok (.iaload, 1) := by decide +kernel
theorem d_S_keep_19 : decode prog_7_method_4_code 19 = .ok (.istore 6, 2) := by decide +kernel
theorem d_S_keep_21 : decode prog_7_method_4_code 21 = .ok (.aload_n 0, 1) := by decide +kernel
theorem d_S_keep_22 : decode prog_7_method_4_code 22 = .ok (.getfield 11, 3) := by decide +kernel
theorem d_S_keep_25 : decode prog_7_method_4_code 25 = .ok (.iload 6, 2) := by decide +kernel
theorem d_S_keep_27 : decode prog_7_method_4_code 27 = .ok (.aaload, 1) := by decide +kernel
theorem d_S_keep_28 : decode prog_7_method_4_code 28 = .ok (.astore 7, 2) := by decide +kernel
theorem d_S_keep_30 : decode prog_7_method_4_code 30 = .ok (.aload 7, 2) := by decide +kernel
theorem d_S_keep_32 : decode prog_7_method_4_code 32 = .ok (.ifnull 47, 3) := by decide +kernel
theorem d_S_keep_35 : decode prog_7_method_4_code 35 = .ok (.aload 7, 2) := by decide +kernel
theorem d_S_keep_37 : decode prog_7_method_4_code 37 = .ok (.getfield 43, 3) := by decide +kernel
theorem d_S_keep_40 : decode prog_7_method_4_code 40 = .ok (.iload 5, 2) := by decide +kernel
theorem d_S_keep_42 : decode prog_7_method_4_code 42 = .ok (.if_icmp .ne 27, 3) := by decide +kernel
theorem d_S_keep_45 : decode prog_7_method_4_code 45 = .ok (.aload 7, 2) := by decide +kernel
theorem d_S_keep_47 : decode prog_7_method_4_code 47 = .ok (.getfield 54, 3) := by decide +kernel
theorem d_S_keep_50 : decode prog_7_method_4_code 50 = .ok (.iload_n 2, 1) := by decide +kernel
theorem d_S_keep_51 : decode prog_7_method_4_code 51 = .ok (.if_icmp .ne 18, 3) := by decide +kernel
theorem d_S_keep_54 : decode prog_7_method_4_code 54 = .ok (.aload_n 1, 1) := by decide +kernel
theorem d_S_keep_55 : decode prog_7_method_4_code 55 = .ok (.aload 7, 2) := by decide +kernel
theorem d_S_keep_57 : decode prog_7_method_4_code 57 = .ok (.iload_n 3, 1) := by decide +kernel
theorem d_S_keep_58 : decode prog_7_method_4_code 58 = .ok (.iload 4, 2) := by decide +kernel
theorem d_S_keep_60 : decode prog_7_method_4_code 60 = .ok (.invokevirtual 57, 3) := by decide +kernel
theorem d_S_keep_63 : decode prog_7_method_4_code 63 = .ok (.ifCond .eq 6, 3) := by decide +kernel
theorem d_S_keep_66 : decode prog_7_method_4_code 66 = .ok (.aload 7, 2) := by decide +kernel
theorem d_S_keep_68 : decode prog_7_method_4_code 68 = .ok (.areturn, 1) := by decide +kernel
theorem d_S_keep_69 : decode prog_7_method_4_code 69 = .ok (.aload 7, 2) := by decide +kernel
theorem d_S_keep_71 : decode prog_7_method_4_code 71 = .ok (.getfield 61, 3) := by decide +kernel
theorem d_S_keep_74 : decode prog_7_method_4_code 74 = .ok (.astore 7, 2) := by decide +kernel
theorem d_S_keep_76 : decode prog_7_method_4_code 76 = .ok (.goto (-46), 3) := by decide +kernel
theorem d_S_keep_79 : decode prog_7_method_4_code 79 = .ok (.aload_n 0, 1) := by decide +kernel
end
section
theorem d_S_keep_80 : decode prog_7_method_4_code 80 = .ok (.getfield 17, 3) := by decide +kernel
theorem d_S_keep_83 : decode prog_7_method_4_code 83 = .ok (.sipush 8704, 3) := by decide +kernel
theorem d_S_keep_86 : decode prog_7_method_4_code 86 = .ok (.if_icmp .ge 10, 3) := by decide +kernel
theorem d_S_keep_89 : decode prog_7_method_4_code 89 = .ok (.aload_n 0, 1) := by decide +kernel
theorem d_S_keep_90 : decode prog_7_method_4_code 90 = .ok (.invokevirtual 65, 3) := by decide +kernel
theorem d_S_keep_93 : decode prog_7_method_4_code 93 = .ok (.ifCond .ne 5, 3) := by decide +kernel
theorem d_S_keep_96 : decode prog_7_method_4_code 96 = .ok (.aconst_null, 1) := by decide +kernel
theorem d_S_keep_97 : decode prog_7_method_4_code 97 = .ok (.areturn, 1) := by decide +kernel
theorem d_S_keep_98 : decode prog_7_method_4_code 98 = .ok (.aload_n 0, 1) := by decide +kernel
theorem d_S_keep_99 : decode prog_7_method_4_code 99 = .ok (.getfield 11, 3) := by decide +kernel
theorem d_S_keep_102 : decode prog_7_method_4_code 102 = .ok (.iload 6, 2) := by decide +kernel
theorem d_S_keep_104 : decode prog_7_method_4_code 104 = .ok (.new 9, 3) := by decide +kernel
theorem d_S_keep_107 : decode prog_7_method_4_code 107 = .ok (.dup, 1) := by decide +kernel
theorem d_S_keep_108 : decode prog_7_method_4_code 108 = .ok (.aload_n 1, 1) := by decide +kernel
theorem d_S_keep_109 : decode prog_7_method_4_code 109 = .ok (.iload_n 2, 1) := by decide +kernel
theorem d_S_keep_110 : decode prog_7_method_4_code 110 = .ok (.iload_n 3, 1) := by decide +kernel
theorem d_S_keep_111 : decode prog_7_method_4_code 111 = .ok (.iload 4, 2) := by decide +kernel
theorem d_S_keep_113 : decode prog_7_method_4_code 113 = .ok (.iload 5, 2) := by decide +kernel
theorem d_S_keep_115 : decode prog_7_method_4_code 115 = .ok (.aload_n 0, 1) := by decide +kernel
theorem d_S_keep_116 : decode prog_7_method_4_code 116 = .ok (.getfield 11, 3) := by decide +kernel
theorem d_S_keep_119 : decode prog_7_method_4_code 119 = .ok (.iload 6, 2) := by decide +kernel
theorem d_S_keep_121 : decode prog_7_method_4_code 121 = .ok (.aaload, 1) := by decide +kernel
theorem d_S_keep_122 : decode prog_7_method_4_code 122 = .ok (.invokespecial 69, 3) := by decide +kernel
theorem d_S_keep_125 : decode prog_7_method_4_code 125 = .ok (.aastore, 1) := by decide +kernel
theorem d_S_keep_126 : decode prog_7_method_4_code 126 = .ok (.aload_n 0, 1) := by decide +kernel
theorem d_S_keep_127 : decode prog_7_method_4_code 127 = .ok (.dup, 1) := by decide +kernel
theorem d_S_keep_128 : decode prog_7_method_4_code 128 = .ok (.getfield 17, 3) := by decide +kernel
theorem d_S_keep_131 : decode prog_7_method_4_code 131 = .ok (.iconst 1, 1) := by decide +kernel
theorem d_S_keep_132 : decode prog_7_method_4_code 132 = .ok (.iadd, 1) := by decide +kernel
theorem d_S_keep_133 : decode prog_7_method_4_code 133 = .ok (.putfield 17, 3) := by decide +kernel
theorem d_S_keep_136 : decode prog_7_method_4_code 136 = .ok (.aload_n 0, 1) := by decide +kernel
theorem d_S_keep_137 : decode prog_7_method_4_code 137 = .ok (.getfield 11, 3) := by decide +kernel
theorem d_S_keep_140 : decode prog_7_method_4_code 140 = .ok (.iload 6, 2) := by decide +kernel
theorem d_S_keep_142 : decode prog_7_method_4_code 142 = .ok (.aaload, 1) := by decide +kernel
theorem d_S_keep_143 : decode prog_7_method_4_code 143 = .ok (.areturn, 1) := by decide +kernel
theorem d_R_hashOf_0 : decode prog_6_method_4_code 0 = .ok (.bipush 6, 2) := by decide +kernel
theorem d_R_hashOf_2 : decode prog_6_method_4_code 2 = .ok (.iload_n 1, 1) := by decide +kernel
theorem d_R_hashOf_3 : decode prog_6_method_4_code 3 = .ok (.invokestatic 28, 3) := by decide +kernel
theorem d_R_hashOf_6 : decode prog_6_method_4_code 6 = .ok (.istore 4, 2) := by decide +kernel
theorem d_R_hashOf_8 : decode prog_6_method_4_code 8 = .ok (.iload_n 2, 1) := by decide +kernel
theorem d_R_hashOf_9 : decode prog_6_method_4_code 9 = .ok (.istore 5, 2) := by decide +kernel
theorem d_R_hashOf_11 : decode prog_6_method_4_code 11 = .ok (.iload 5, 2) := by decide +kernel
theorem d_R_hashOf_13 : decode prog_6_method_4_code 13 = .ok (.iload_n 3, 1) := by decide +kernel
theorem d_R_hashOf_14 : decode prog_6_method_4_code 14 = .ok (.if_icmp .ge 33, 3) := by decide +kernel
theorem d_R_hashOf_17 : decode prog_6_method_4_code 17 = .ok (.iload 4, 2) := by decide +kernel
theorem d_R_hashOf_19 : decode prog_6_method_4_code 19 = .ok (.aload_n 0, 1) := by decide +kernel
theorem d_R_hashOf_20 : decode prog_6_method_4_code 20 = .ok (.getfield 9, 3) := by decide +kernel
theorem d_R_hashOf_23 : decode prog_6_method_4_code 23 = .ok (.iload 5, 2) := by decide +kernel
theorem d_R_hashOf_25 : decode prog_6_method_4_code 25 = .ok (.iaload, 1) := by decide +kernel
theorem d_R_hashOf_26 : decode prog_6_method_4_code 26 = .ok (.invokestatic 28, 3) := by decide +kernel
theorem d_R_hashOf_29 : decode prog_6_method_4_code 29 = .ok (.aload_n 0, 1) := by decide +kernel
theorem d_R_hashOf_30 : decode prog_6_method_4_code 30 = .ok (.getfield 15, 3) := by decide +kernel
theorem d_R_hashOf_33 : decode prog_6_method_4_code 33 = .ok (.iload 5, 2) := by decide +kernel
theorem d_R_hashOf_35 : decode prog_6_method_4_code 35 = .ok (.iaload, 1) := by decide +kernel
theorem d_R_hashOf_36 : decode prog_6_method_4_code 36 = .ok (.invokestatic 28, 3) := by decide +kernel
theorem d_R_hashOf_39 : decode prog_6_method_4_code 39 = .ok (.istore 4, 2) := by decide +kernel
theorem d_R_hashOf_41 : decode prog_6_method_4_code 41 = .ok (.iinc 5 1, 3) := by decide +kernel
theorem d_R_hashOf_44 : decode prog_6_method_4_code 44 = .ok (.goto (-33), 3) := by decide +kernel
theorem d_R_hashOf_47 : decode prog_6_method_4_code 47 = .ok (.iload 4, 2) := by decide +kernel
theorem d_R_hashOf_49 : decode prog_6_method_4_code 49 = .ok (.ireturn, 1) := by decide +kernel
theorem d_R_matches_0 : decode prog_6_method_5_code 0 = .ok (.aload_n 1, 1) := by decide +kernel
theorem d_R_matches_1 : decode prog_6_method_5_code 1 = .ok (.getfield 32, 3) := by decide +kernel
theorem d_R_matches_4 : decode prog_6_method_5_code 4 = .ok (.arraylength, 1) := by decide +kernel
theorem d_R_matches_5 : decode prog_6_method_5_code 5 = .ok (.iload_n 3, 1) := by decide +kernel
theorem d_R_matches_6 : decode prog_6_method_5_code 6 = .ok (.iload_n 2, 1) := by decide +kernel
theorem d_R_matches_7 : decode prog_6_method_5_code 7 = .ok (.isub, 1) := by decide +kernel
theorem d_R_matches_8 : decode prog_6_method_5_code 8 = .ok (.if_icmp .eq 5, 3) := by decide +kernel
theorem d_R_matches_11 : decode prog_6_method_5_code 11 = .ok (.iconst 0, 1) := by decide +kernel
theorem d_R_matches_12 : decode prog_6_method_5_code 12 = .ok (.ireturn, 1) := by decide +kernel
theorem d_R_matches_13 : decode prog_6_method_5_code 13 = .ok (.iload_n 2, 1) := by decide +kernel
theorem d_R_matches_14 : decode prog_6_method_5_code 14 = .ok (.istore 4, 2) := by decide +kernel
theorem d_R_matches_16 : decode prog_6_method_5_code 16 = .ok (.iload 4, 2) := by decide +kernel
theorem d_R_matches_18 : decode prog_6_method_5_code 18 = .ok (.iload_n 3, 1) := by decide +kernel
theorem d_R_matches_19 : decode prog_6_method_5_code 19 = .ok (.if_icmp .ge 68, 3) := by decide +kernel
theorem d_R_matches_22 : decode prog_6_method_5_code 22 = .ok (.iload 4, 2) := by decide +kernel
theorem d_R_matches_24 : decode prog_6_method_5_code 24 = .ok (.iload_n 2, 1) := by decide +kernel
theorem d_R_matches_25 : decode prog_6_method_5_code 25 = .ok (.isub, 1) := by decide +kernel
theorem d_R_matches_26 : decode prog_6_method_5_code 26 = .ok (.istore 5, 2) := by decide +kernel
theorem d_R_matches_28 : decode prog_6_method_5_code 28 = .ok (.aload_n 1, 1) := by decide +kernel
theorem d_R_matches_29 : decode prog_6_method_5_code 29 = .ok (.getfield 32, 3) := by decide +kernel
theorem d_R_matches_32 : decode prog_6_method_5_code 32 = .ok (.iload 5, 2) := by decide +kernel
theorem d_R_matches_34 : decode prog_6_method_5_code 34 = .ok (.iaload, 1) := by decide +kernel
theorem d_R_matches_35 : decode prog_6_method_5_code 35 = .ok (.aload_n 0, 1) := by decide +kernel
theorem d_R_matches_36 : decode prog_6_method_5_code 36 = .ok (.getfield 9, 3) := by decide +kernel
theorem d_R_matches_39 : decode prog_6_method_5_code 39 = .ok (.iload 4, 2) := by decide +kernel
theorem d_R_matches_41 : decode prog_6_method_5_code 41 = .ok (.iaload, 1) := by decide +kernel
theorem d_R_matches_42 : decode prog_6_method_5_code 42 = .ok (.if_icmp .ne 37, 3) := by decide +kernel
theorem d_R_matches_45 : decode prog_6_method_5_code 45 = .ok (.aload_n 1, 1) := by decide +kernel
theorem d_R_matches_46 : decode prog_6_method_5_code 46 = .ok (.getfield 33, 3) := by decide +kernel
theorem d_R_matches_49 : decode prog_6_method_5_code 49 = .ok (.iload 5, 2) := by decide +kernel
theorem d_R_matches_51 : decode prog_6_method_5_code 51 = .ok (.iaload, 1) := by decide +kernel
theorem d_R_matches_52 : decode prog_6_method_5_code 52 = .ok (.aload_n 0, 1) := by decide +kernel
theorem d_R_matches_53 : decode prog_6_method_5_code 53 = .ok (.getfield 15, 3) := by decide +kernel
theorem d_R_matches_56 : decode prog_6_method_5_code 56 = .ok (.iload 4, 2) := by decide +kernel
theorem d_R_matches_58 : decode prog_6_method_5_code 58 = .ok (.iaload, 1) := by decide +kernel
theorem d_R_matches_59 : decode prog_6_method_5_code 59 = .ok (.if_icmp .ne 20, 3) := by decide +kernel
theorem d_R_matches_62 : decode prog_6_method_5_code 62 = .ok (.aload_n 1, 1) := by decide +kernel
theorem d_R_matches_63 : decode prog_6_method_5_code 63 = .ok (.getfield 34, 3) := by decide +kernel
theorem d_R_matches_66 : decode prog_6_method_5_code 66 = .ok (.iload 5, 2) := by decide +kernel
theorem d_R_matches_68 : decode prog_6_method_5_code 68 = .ok (.aaload, 1) := by decide +kernel
theorem d_R_matches_69 : decode prog_6_method_5_code 69 = .ok (.aload_n 0, 1) := by decide +kernel
theorem d_R_matches_70 : decode prog_6_method_5_code 70 = .ok (.getfield 20, 3) := by decide +kernel
theorem d_R_matches_73 : decode prog_6_method_5_code 73 = .ok (.iload 4, 2) := by decide +kernel
theorem d_R_matches_75 : decode prog_6_method_5_code 75 = .ok (.aaload, 1) := by decide +kernel
theorem d_R_matches_76 : decode prog_6_method_5_code 76 = .ok (.if_acmp .eq 5, 3) := by decide +kernel
theorem d_R_matches_79 : decode prog_6_method_5_code 79 = .ok (.iconst 0, 1) := by decide +kernel
theorem d_R_matches_80 : decode prog_6_method_5_code 80 = .ok (.ireturn, 1) := by decide +kernel
theorem d_R_matches_81 : decode prog_6_method_5_code 81 = .ok (.iinc 4 1, 3) := by decide +kernel
theorem d_R_matches_84 : decode prog_6_method_5_code 84 = .ok (.goto (-68), 3) := by decide +kernel
theorem d_R_matches_87 : decode prog_6_method_5_code 87 = .ok (.iconst 1, 1) := by decide +kernel
theorem d_R_matches_88 : decode prog_6_method_5_code 88 = .ok (.ireturn, 1) := by decide +kernel
theorem d_S_write_0 : decode prog_7_method_5_code 0 = .ok (.aload_n 0, 1) := by decide +kernel
theorem d_S_write_1 : decode prog_7_method_5_code 1 = .ok (.getfield 21, 3) := by decide +kernel
theorem d_S_write_4 : decode prog_7_method_5_code 4 = .ok (.ifCond .ne 5, 3) := by decide +kernel
theorem d_S_write_7 : decode prog_7_method_5_code 7 = .ok (.iconst 1, 1) := by decide +kernel
theorem d_S_write_8 : decode prog_7_method_5_code 8 = .ok (.ireturn, 1) := by decide +kernel
theorem d_S_write_9 : decode prog_7_method_5_code 9 = .ok (.aload_n 0, 1) := by decide +kernel
theorem d_S_write_10 : decode prog_7_method_5_code 10 = .ok (.dup, 1) := by decide +kernel
theorem d_S_write_11 : decode prog_7_method_5_code 11 = .ok (.getfield 21, 3) := by decide +kernel
theorem d_S_write_14 : decode prog_7_method_5_code 14 = .ok (.iconst 1, 1) := by decide +kernel
theorem d_S_write_15 : decode prog_7_method_5_code 15 = .ok (.isub, 1) := by decide +kernel
theorem d_S_write_16 : decode prog_7_method_5_code 16 = .ok (.putfield 21, 3) := by decide +kernel
theorem d_S_write_19 : decode prog_7_method_5_code 19 = .ok (.aload_n 0, 1) := by decide +kernel
theorem d_S_write_20 : decode prog_7_method_5_code 20 = .ok (.getfield 21, 3) := by decide +kernel
theorem d_S_write_23 : decode prog_7_method_5_code 23 = .ok (.ifCond .le 7, 3) := by decide +kernel
theorem d_S_write_26 : decode prog_7_method_5_code 26 = .ok (.iconst 1, 1) := by decide +kernel
theorem d_S_write_27 : decode prog_7_method_5_code 27 = .ok (.goto 4, 3) := by decide +kernel
theorem d_S_write_30 : decode prog_7_method_5_code 30 = .ok (.iconst 0, 1) := by decide +kernel
theorem d_S_write_31 : decode prog_7_method_5_code 31 = .ok (.ireturn, 1) := by decide +kernel
theorem d_C_init_0 : decode prog_3_method_1_code 0 = .ok (.aload_n 0, 1) := by decide +kernel
theorem d_C_init_1 : decode prog_3_method_1_code 1 = .ok (.invokespecial 1, 3) := by decide +kernel
theorem d_C_init_4 : decode prog_3_method_1_code 4 = .ok (.aload_n 0, 1) := by decide +kernel
theorem d_C_init_5 : decode prog_3_method_1_code 5 = .ok (.iload_n 2, 1) := by decide +kernel
theorem d_C_init_6 : decode prog_3_method_1_code 6 = .ok (.putfield 7, 3) := by decide +kernel
theorem d_C_init_9 : decode prog_3_method_1_code 9 = .ok (.aload_n 0, 1) := by decide +kernel
theorem d_C_init_10 : decode prog_3_method_1_code 10 = .ok (.iload 5, 2) := by decide +kernel
theorem d_C_init_12 : decode prog_3_method_1_code 12 = .ok (.putfield 13, 3) := by decide +kernel
theorem d_C_init_15 : decode prog_3_method_1_code 15 = .ok (.aload_n 0, 1) := by decide +kernel
theorem d_C_init_16 : decode prog_3_method_1_code 16 = .ok (.aload 6, 2) := by decide +kernel
theorem d_C_init_18 : decode prog_3_method_1_code 18 = .ok (.putfield 16, 3) := by decide +kernel
theorem d_C_init_21 : decode prog_3_method_1_code 21 = .ok (.aload_n 0, 1) := by decide +kernel
theorem d_C_init_22 : decode prog_3_method_1_code 22 = .ok (.aload_n 1, 1) := by decide +kernel
theorem d_C_init_23 : decode prog_3_method_1_code 23 = .ok (.getfield 20, 3) := by decide +kernel
theorem d_C_init_26 : decode prog_3_method_1_code 26 = .ok (.iload_n 3, 1) := by decide +kernel
theorem d_C_init_27 : decode prog_3_method_1_code 27 = .ok (.iload 4, 2) := by decide +kernel
theorem d_C_init_29 : decode prog_3_method_1_code 29 = .ok (.invokestatic 26, 3) := by decide +kernel
theorem d_C_init_32 : decode prog_3_method_1_code 32 = .ok (.putfield 32, 3) := by decide +kernel
theorem d_C_init_35 : decode prog_3_method_1_code 35 = .ok (.aload_n 0, 1) := by decide +kernel
theorem d_C_init_36 : decode prog_3_method_1_code 36 = .ok (.aload_n 1, 1) := by decide +kernel
theorem d_C_init_37 : decode prog_3_method_1_code 37 = .ok (.getfield 33, 3) := by decide +kernel
theorem d_C_init_40 : decode prog_3_method_1_code 40 = .ok (.iload_n 3, 1) := by decide +kernel
theorem d_C_init_41 : decode prog_3_method_1_code 41 = .ok (.iload 4, 2) := by decide +kernel
theorem d_C_init_43 : decode prog_3_method_1_code 43 = .ok (.invokestatic 26, 3) := by decide +kernel
theorem d_C_init_46 : decode prog_3_method_1_code 46 = .ok (.putfield 36, 3) := by decide +kernel
theorem d_C_init_49 : decode prog_3_method_1_code 49 = .ok (.aload_n 0, 1) := by decide +kernel
theorem d_C_init_50 : decode prog_3_method_1_code 50 = .ok (.iload 4, 2) := by decide +kernel
theorem d_C_init_52 : decode prog_3_method_1_code 52 = .ok (.iload_n 3, 1) := by decide +kernel
theorem d_C_init_53 : decode prog_3_method_1_code 53 = .ok (.isub, 1) := by decide +kernel
theorem d_C_init_54 : decode prog_3_method_1_code 54 = .ok (.anewarray 8, 3) := by decide +kernel
theorem d_C_init_57 : decode prog_3_method_1_code 57 = .ok (.putfield 37, 3) := by decide +kernel
theorem d_C_init_60 : decode prog_3_method_1_code 60 = .ok (.iconst 0, 1) := by decide +kernel
theorem d_C_init_61 : decode prog_3_method_1_code 61 = .ok (.istore 7, 2) := by decide +kernel
theorem d_C_init_63 : decode prog_3_method_1_code 63 = .ok (.iload 7, 2) := by decide +kernel
theorem d_C_init_65 : decode prog_3_method_1_code 65 = .ok (.aload_n 0, 1) := by decide +kernel
theorem d_C_init_66 : decode prog_3_method_1_code 66 = .ok (.getfield 37, 3) := by decide +kernel
theorem d_C_init_69 : decode prog_3_method_1_code 69 = .ok (.arraylength, 1) := by decide +kernel
theorem d_C_init_70 : decode prog_3_method_1_code 70 = .ok (.if_icmp .ge 25, 3) := by decide +kernel
theorem d_C_init_73 : decode prog_3_method_1_code 73 = .ok (.aload_n 0, 1) := by decide +kernel
theorem d_C_init_74 : decode prog_3_method_1_code 74 = .ok (.getfield 37, 3) := by decide +kernel
theorem d_C_init_77 : decode prog_3_method_1_code 77 = .ok (.iload 7, 2) := by decide +kernel
theorem d_C_init_79 : decode prog_3_method_1_code 79 = .ok (.aload_n 1, 1) := by decide +kernel
theorem d_C_init_80 : decode prog_3_method_1_code 80 = .ok (.getfield 41, 3) := by decide +kernel
theorem d_C_init_83 : decode prog_3_method_1_code 83 = .ok (.iload_n 3, 1) := by decide +kernel
theorem d_C_init_84 : decode prog_3_method_1_code 84 = .ok (.iload 7, 2) := by decide +kernel
theorem d_C_init_86 : decode prog_3_method_1_code 86 = .ok (.iadd, 1) := by decide +kernel
theorem d_C_init_87 : decode prog_3_method_1_code 87 = .ok (.aaload, 1) := by decide +kernel
theorem d_C_init_88 : decode prog_3_method_1_code 88 = .ok (.aastore, 1) := by decide +kernel
theorem d_C_init_89 : decode prog_3_method_1_code 89 = .ok (.iinc 7 1, 3) := by decide +kernel
theorem d_C_init_92 : decode prog_3_method_1_code 92 = .ok (.goto (-29), 3) := by decide +kernel
theorem d_C_init_95 : decode prog_3_method_1_code 95 = .ok (.return_, 1) := by decide +kernel
theorem d_A_copyOfRange_0 : decode prog_26_method_136_code 0 = .ok (.iload_n 1, 1) := by decide +kernel
theorem d_A_copyOfRange_1 : decode prog_26_method_136_code 1 = .ok (.ifCond .ne 9, 3) := by decide +kernel
theorem d_A_copyOfRange_4 : decode prog_26_method_136_code 4 = .ok (.iload_n 2, 1) := by decide +kernel
theorem d_A_copyOfRange_5 : decode prog_26_method_136_code 5 = .ok (.aload_n 0, 1) := by decide +kernel
theorem d_A_copyOfRange_6 : decode prog_26_method_136_code 6 = .ok (.arraylength, 1) := by decide +kernel
theorem d_A_copyOfRange_7 : decode prog_26_method_136_code 7 = .ok (.if_icmp .eq 10, 3) := by decide +kernel
theorem d_A_copyOfRange_10 : decode prog_26_method_136_code 10 = .ok (.aload_n 0, 1) := by decide +kernel
theorem d_A_copyOfRange_11 : decode prog_26_method_136_code 11 = .ok (.iload_n 1, 1) := by decide +kernel
theorem d_A_copyOfRange_12 : decode prog_26_method_136_code 12 = .ok (.iload_n 2, 1) := by decide +kernel
theorem d_A_copyOfRange_13 : decode prog_26_method_136_code 13 = .ok (.invokestatic 351, 3) := by decide +kernel
theorem d_A_copyOfRange_16 : decode prog_26_method_136_code 16 = .ok (.areturn, 1) := by decide +kernel
theorem d_A_copyOfRange_17 : decode prog_26_method_136_code 17 = .ok (.aload_n 0, 1) := by decide +kernel
theorem d_A_copyOfRange_18 : decode prog_26_method_136_code 18 = .ok (.invokevirtual 316, 3) := by decide +kernel
theorem d_A_copyOfRange_21 : decode prog_26_method_136_code 21 = .ok (.checkcast 317, 3) := by decide +kernel
theorem d_A_copyOfRange_24 : decode prog_26_method_136_code 24 = .ok (.areturn, 1) := by decide +kernel
theorem d_R_top_0 : decode prog_6_method_3_code 0 = .ok (.aload_n 0, 1) := by decide +kernel
theorem d_R_top_1 : decode prog_6_method_3_code 1 = .ok (.getfield 24, 3) := by decide +kernel
theorem d_R_top_4 : decode prog_6_method_3_code 4 = .ok (.ifCond .ne 7, 3) := by decide +kernel
theorem d_R_top_7 : decode prog_6_method_3_code 7 = .ok (.aconst_null, 1) := by decide +kernel
theorem d_R_top_8 : decode prog_6_method_3_code 8 = .ok (.goto 9, 3) := by decide +kernel
theorem d_R_top_11 : decode prog_6_method_3_code 11 = .ok (.aload_n 0, 1) := by decide +kernel
theorem d_R_top_12 : decode prog_6_method_3_code 12 = .ok (.getfield 20, 3) := by decide +kernel
theorem d_R_top_15 : decode prog_6_method_3_code 15 = .ok (.iconst 0, 1) := by decide +kernel
theorem d_R_top_16 : decode prog_6_method_3_code 16 = .ok (.aaload, 1) := by decide +kernel
theorem d_R_top_17 : decode prog_6_method_3_code 17 = .ok (.areturn, 1) := by decide +kernel
theorem d_H_add_0 : decode prog_4_method_2_code 0 = .ok (.aload_n 0, 1) := by decide +kernel
theorem d_H_add_1 : decode prog_4_method_2_code 1 = .ok (.getfield 17, 3) := by decide +kernel
theorem d_H_add_4 : decode prog_4_method_2_code 4 = .ok (.bipush 16, 2) := by decide +kernel
theorem d_H_add_6 : decode prog_4_method_2_code 6 = .ok (.if_icmp .ge 23, 3) := by decide +kernel
theorem d_H_add_9 : decode prog_4_method_2_code 9 = .ok (.aload_n 0, 1) := by decide +kernel
theorem d_H_add_10 : decode prog_4_method_2_code 10 = .ok (.getfield 11, 3) := by decide +kernel
theorem d_H_add_13 : decode prog_4_method_2_code 13 = .ok (.aload_n 0, 1) := by decide +kernel
theorem d_H_add_14 : decode prog_4_method_2_code 14 = .ok (.getfield 17, 3) := by decide +kernel
theorem d_H_add_17 : decode prog_4_method_2_code 17 = .ok (.aload_n 1, 1) := by decide +kernel
theorem d_H_add_18 : decode prog_4_method_2_code 18 = .ok (.aastore, 1) := by decide +kernel
theorem d_H_add_19 : decode prog_4_method_2_code 19 = .ok (.aload_n 0, 1) := by decide +kernel
theorem d_H_add_20 : decode prog_4_method_2_code 20 = .ok (.dup, 1) := by decide +kernel
theorem d_H_add_21 : decode prog_4_method_2_code 21 = .ok (.getfield 17, 3) := by decide +kernel
theorem d_H_add_24 : decode prog_4_method_2_code 24 = .ok (.iconst 1, 1) := by decide +kernel
theorem d_H_add_25 : decode prog_4_method_2_code 25 = .ok (.iadd, 1) := by decide +kernel
theorem d_H_add_26 : decode prog_4_method_2_code 26 = .ok (.putfield 17, 3) := by decide +kernel
theorem d_H_add_29 : decode prog_4_method_2_code 29 = .ok (.return_, 1) := by decide +kernel
theorem d_K_get_0 : decode prog_1_method_9_code 0 = .ok (.iload_n 1, 1) := by decide +kernel
theorem d_K_get_1 : decode prog_1_method_9_code 1 = .ok (.iconst (-1), 1) := by decide +kernel
theorem d_K_get_2 : decode prog_1_method_9_code 2 = .ok (.if_icmp .eq 8, 3) := by decide +kernel
theorem d_K_get_5 : decode prog_1_method_9_code 5 = .ok (.aload_n 0, 1) := by decide +kernel
theorem d_K_get_6 : decode prog_1_method_9_code 6 = .ok (.iload_n 1, 1) := by decide +kernel
theorem d_K_get_7 : decode prog_1_method_9_code 7 = .ok (.invokevirtual 104, 3) := by decide +kernel
theorem d_K_get_10 : decode prog_1_method_9_code 10 = .ok (.iload_n 2, 1) := by decide +kernel
theorem d_K_get_11 : decode prog_1_method_9_code 11 = .ok (.invokestatic 51, 3) := by decide +kernel
theorem d_K_get_14 : decode prog_1_method_9_code 14 = .ok (.iload_n 1, 1) := by decide +kernel
theorem d_K_get_15 : decode prog_1_method_9_code 15 = .ok (.iconst (-1), 1) := by decide +kernel
theorem d_K_get_16 : decode prog_1_method_9_code 16 = .ok (.if_icmp .ne 25, 3) := by decide +kernel
theorem d_K_get_19 : decode prog_1_method_9_code 19 = .ok (.aload_n 0, 1) := by decide +kernel
theorem d_K_get_20 : decode prog_1_method_9_code 20 = .ok (.getfield 26, 3) := by decide +kernel
theorem d_K_get_23 : decode prog_1_method_9_code 23 = .ok (.getfield 107, 3) := by decide +kernel
theorem d_K_get_26 : decode prog_1_method_9_code 26 = .ok (.iload_n 2, 1) := by decide +kernel
theorem d_K_get_27 : decode prog_1_method_9_code 27 = .ok (.baload, 1) := by decide +kernel
theorem d_K_get_28 : decode prog_1_method_9_code 28 = .ok (.invokestatic 111, 3) := by decide +kernel
theorem d_K_get_31 : decode prog_1_method_9_code 31 = .ok (.aload_n 0, 1) := by decide +kernel
theorem d_K_get_32 : decode prog_1_method_9_code 32 = .ok (.getfield 26, 3) := by decide +kernel
theorem d_K_get_35 : decode prog_1_method_9_code 35 = .ok (.getfield 115, 3) := by decide +kernel
theorem d_K_get_38 : decode prog_1_method_9_code 38 = .ok (.iload_n 2, 1) := by decide +kernel
theorem d_K_get_39 : decode prog_1_method_9_code 39 = .ok (.iaload, 1) := by decide +kernel
theorem d_K_get_40 : decode prog_1_method_9_code 40 = .ok (.ireturn, 1) := by decide +kernel
theorem d_K_get_41 : decode prog_1_method_9_code 41 = .ok (.aload_n 0, 1) := by decide +kernel
theorem d_K_get_42 : decode prog_1_method_9_code 42 = .ok (.getfield 19, 3) := by decide +kernel
theorem d_K_get_45 : decode prog_1_method_9_code 45 = .ok (.getfield 93, 3) := by decide +kernel
theorem d_K_get_48 : decode prog_1_method_9_code 48 = .ok (.iload_n 1, 1) := by decide +kernel
theorem d_K_get_49 : decode prog_1_method_9_code 49 = .ok (.aaload, 1) := by decide +kernel
theorem d_K_get_50 : decode prog_1_method_9_code 50 = .ok (.iload_n 2, 1) := by decide +kernel
theorem d_K_get_51 : decode prog_1_method_9_code 51 = .ok (.invokestatic 119, 3) := by decide +kernel
theorem d_K_get_54 : decode prog_1_method_9_code 54 = .ok (.astore_n 3, 1) := by decide +kernel
theorem d_K_get_55 : decode prog_1_method_9_code 55 = .ok (.aload_n 3, 1) := by decide +kernel
theorem d_K_get_56 : decode prog_1_method_9_code 56 = .ok (.iload_n 2, 1) := by decide +kernel
theorem d_K_get_57 : decode prog_1_method_9_code 57 = .ok (.invokestatic 123, 3) := by decide +kernel
theorem d_K_get_60 : decode prog_1_method_9_code 60 = .ok (.invokestatic 111, 3) := by decide +kernel
theorem d_K_get_63 : decode prog_1_method_9_code 63 = .ok (.aload_n 3, 1) := by decide +kernel
theorem d_K_get_64 : decode prog_1_method_9_code 64 = .ok (.iload_n 2, 1) := by decide +kernel
theorem d_K_get_65 : decode prog_1_method_9_code 65 = .ok (.invokestatic 127, 3) := by decide +kernel
theorem d_K_get_68 : decode prog_1_method_9_code 68 = .ok (.ireturn, 1) := by decide +kernel
theorem d_K_requireVersion_0 : decode prog_1_method_22_code 0 = .ok (.iload_n 1, 1) := by decide +kernel
theorem d_K_requireVersion_1 : decode prog_1_method_22_code 1 = .ok (.ifCond .lt 18, 3) := by decide +kernel
theorem d_K_requireVersion_4 : decode prog_1_method_22_code 4 = .ok (.iload_n 1, 1) := by decide +kernel
theorem d_K_requireVersion_5 : decode prog_1_method_22_code 5 = .ok (.aload_n 0, 1) := by decide +kernel
theorem d_K_requireVersion_6 : decode prog_1_method_22_code 6 = .ok (.getfield 19, 3) := by decide +kernel
theorem d_K_requireVersion_9 : decode prog_1_method_22_code 9 = .ok (.getfield 89, 3) := by decide +kernel
theorem d_K_requireVersion_12 : decode prog_1_method_22_code 12 = .ok (.if_icmp .ge 7, 3) := by decide +kernel
theorem d_K_requireVersion_15 : decode prog_1_method_22_code 15 = .ok (.iconst 1, 1) := by decide +kernel
theorem d_K_requireVersion_16 : decode prog_1_method_22_code 16 = .ok (.goto 4, 3) := by decide +kernel
theorem d_K_requireVersion_19 : decode prog_1_method_22_code 19 = .ok (.iconst 0, 1) := by decide +kernel
theorem d_K_requireVersion_20 : decode prog_1_method_22_code 20 = .ok (.invokestatic 144, 3) := by decide +kernel
theorem d_K_requireVersion_23 : decode prog_1_method_22_code 23 = .ok (.return_, 1) := by decide +kernel
theorem d_K_requireValue_0 : decode prog_1_method_25_code 0 = .ok (.iload_n 0, 1) := by decide +kernel
theorem d_K_requireValue_1 : decode prog_1_method_25_code 1 = .ok (.ifCond .ne 13, 3) := by decide +kernel
theorem d_K_requireValue_4 : decode prog_1_method_25_code 4 = .ok (.new 207, 3) := by decide +kernel
theorem d_K_requireValue_7 : decode prog_1_method_25_code 7 = .ok (.dup, 1) := by decide +kernel
theorem d_K_requireValue_8 : decode prog_1_method_25_code 8 = .ok (.ldc 209, 2) := by decide +kernel
theorem d_K_requireValue_10 : decode prog_1_method_25_code 10 = .ok (.invokespecial 211, 3) := by decide +kernel
theorem d_K_requireValue_13 : decode prog_1_method_25_code 13 = .ok (.athrow, 1) := by decide +kernel
theorem d_K_requireValue_14 : decode prog_1_method_25_code 14 = .ok (.return_, 1) := by decide +kernel
theorem d_K_range_0 : decode prog_1_method_10_code 0 = .ok (.aload_n 0, 1) := by decide +kernel
theorem d_K_range_1 : decode prog_1_method_10_code 1 = .ok (.iload_n 1, 1) := by decide +kernel
theorem d_K_range_2 : decode prog_1_method_10_code 2 = .ok (.invokevirtual 104, 3) := by decide +kernel
theorem d_K_range_5 : decode prog_1_method_10_code 5 = .ok (.iload_n 3, 1) := by decide +kernel
theorem d_K_range_6 : decode prog_1_method_10_code 6 = .ok (.bipush 47, 2) := by decide +kernel
theorem d_K_range_8 : decode prog_1_method_10_code 8 = .ok (.invokestatic 131, 3) := by decide +kernel
theorem d_K_range_11 : decode prog_1_method_10_code 11 = .ok (.istore 4, 2) := by decide +kernel
theorem d_K_range_13 : decode prog_1_method_10_code 13 = .ok (.iconst 0, 1) := by decide +kernel
theorem d_K_range_14 : decode prog_1_method_10_code 14 = .ok (.istore 5, 2) := by decide +kernel
theorem d_K_range_16 : decode prog_1_method_10_code 16 = .ok (.iload_n 2, 1) := by decide +kernel
theorem d_K_range_17 : decode prog_1_method_10_code 17 = .ok (.iconst 0, 1) := by decide +kernel
theorem d_K_range_18 : decode prog_1_method_10_code 18 = .ok (.invokestatic 137, 3) := by decide +kernel
theorem d_K_range_21 : decode prog_1_method_10_code 21 = .ok (.istore 6, 2) := by decide +kernel
theorem d_K_range_23 : decode prog_1_method_10_code 23 = .ok (.iload 6, 2) := by decide +kernel
theorem d_K_range_25 : decode prog_1_method_10_code 25 = .ok (.iload 4, 2) := by decide +kernel
theorem d_K_range_27 : decode prog_1_method_10_code 27 = .ok (.if_icmp .gt 34, 3) := by decide +kernel
theorem d_K_range_30 : decode prog_1_method_10_code 30 = .ok (.aload_n 0, 1) := by decide +kernel
theorem d_K_range_31 : decode prog_1_method_10_code 31 = .ok (.getfield 19, 3) := by decide +kernel
theorem d_K_range_34 : decode prog_1_method_10_code 34 = .ok (.getfield 93, 3) := by decide +kernel
theorem d_K_range_37 : decode prog_1_method_10_code 37 = .ok (.iload_n 1, 1) := by decide +kernel
theorem d_K_range_38 : decode prog_1_method_10_code 38 = .ok (.aaload, 1) := by decide +kernel
theorem d_K_range_39 : decode prog_1_method_10_code 39 = .ok (.iload 6, 2) := by decide +kernel
theorem d_K_range_41 : decode prog_1_method_10_code 41 = .ok (.invokestatic 119, 3) := by decide +kernel
theorem d_K_range_44 : decode prog_1_method_10_code 44 = .ok (.iload 6, 2) := by decide +kernel
theorem d_K_range_46 : decode prog_1_method_10_code 46 = .ok (.invokestatic 123, 3) := by decide +kernel
theorem d_K_range_49 : decode prog_1_method_10_code 49 = .ok (.ifCond .eq 6, 3) := by decide +kernel
theorem d_K_range_52 : decode prog_1_method_10_code 52 = .ok (.iinc 5 1, 3) := by decide +kernel
theorem d_K_range_55 : decode prog_1_method_10_code 55 = .ok (.iinc 6 1, 3) := by decide +kernel
theorem d_K_range_58 : decode prog_1_method_10_code 58 = .ok (.goto (-35), 3) := by decide +kernel
theorem d_K_range_61 : decode prog_1_method_10_code 61 = .ok (.iload 5, 2) := by decide +kernel
theorem d_K_range_63 : decode prog_1_method_10_code 63 = .ok (.ireturn, 1) := by decide +kernel
theorem d_K_root_0 : decode prog_1_method_11_code 0 = .ok (.aload_n 0, 1) := by decide +kernel
theorem d_K_root_1 : decode prog_1_method_11_code 1 = .ok (.iload_n 1, 1) := by decide +kernel
theorem d_K_root_2 : decode prog_1_method_11_code 2 = .ok (.invokevirtual 104, 3) := by decide +kernel
theorem d_K_root_5 : decode prog_1_method_11_code 5 = .ok (.aload_n 0, 1) := by decide +kernel
theorem d_K_root_6 : decode prog_1_method_11_code 6 = .ok (.getfield 19, 3) := by decide +kernel
theorem d_K_root_9 : decode prog_1_method_11_code 9 = .ok (.iload_n 1, 1) := by decide +kernel
theorem d_K_root_10 : decode prog_1_method_11_code 10 = .ok (.invokevirtual 140, 3) := by decide +kernel
theorem d_K_root_13 : decode prog_1_method_11_code 13 = .ok (.ireturn, 1) := by decide +kernel
theorem d_H_rootOf_0 : decode prog_4_method_3_code 0 = .ok (.aload_n 0, 1) := by decide +kernel
theorem d_H_rootOf_1 : decode prog_4_method_3_code 1 = .ok (.getfield 11, 3) := by decide +kernel
theorem d_H_rootOf_4 : decode prog_4_method_3_code 4 = .ok (.iload_n 1, 1) := by decide +kernel
theorem d_H_rootOf_5 : decode prog_4_method_3_code 5 = .ok (.aaload, 1) := by decide +kernel
theorem d_H_rootOf_6 : decode prog_4_method_3_code 6 = .ok (.ifnonnull 7, 3) := by decide +kernel
theorem d_H_rootOf_9 : decode prog_4_method_3_code 9 = .ok (.iconst 0, 1) := by decide +kernel
theorem d_H_rootOf_10 : decode prog_4_method_3_code 10 = .ok (.goto 12, 3) := by decide +kernel
theorem d_H_rootOf_13 : decode prog_4_method_3_code 13 = .ok (.aload_n 0, 1) := by decide +kernel
theorem d_H_rootOf_14 : decode prog_4_method_3_code 14 = .ok (.getfield 11, 3) := by decide +kernel
theorem d_H_rootOf_17 : decode prog_4_method_3_code 17 = .ok (.iload_n 1, 1) := by decide +kernel
theorem d_H_rootOf_18 : decode prog_4_method_3_code 18 = .ok (.aaload, 1) := by decide +kernel
theorem d_H_rootOf_19 : decode prog_4_method_3_code 19 = .ok (.getfield 21, 3) := by decide +kernel
theorem d_H_rootOf_22 : decode prog_4_method_3_code 22 = .ok (.ireturn, 1) := by decide +kernel
theorem d_K_digest_0 : decode prog_1_method_12_code 0 = .ok (.iload_n 1, 1) := by decide +kernel
theorem d_K_digest_1 : decode prog_1_method_12_code 1 = .ok (.ifCond .lt 18, 3) := by decide +kernel
theorem d_K_digest_4 : decode prog_1_method_12_code 4 = .ok (.iload_n 1, 1) := by decide +kernel
theorem d_K_digest_5 : decode prog_1_method_12_code 5 = .ok (.aload_n 0, 1) := by decide +kernel
theorem d_K_digest_6 : decode prog_1_method_12_code 6 = .ok (.getfield 19, 3) := by decide +kernel
theorem d_K_digest_9 : decode prog_1_method_12_code 9 = .ok (.getfield 89, 3) := by decide +kernel
theorem d_K_digest_12 : decode prog_1_method_12_code 12 = .ok (.if_icmp .gt 7, 3) := by decide +kernel
theorem d_K_digest_15 : decode prog_1_method_12_code 15 = .ok (.iconst 1, 1) := by decide +kernel
theorem d_K_digest_16 : decode prog_1_method_12_code 16 = .ok (.goto 4, 3) := by decide +kernel
theorem d_K_digest_19 : decode prog_1_method_12_code 19 = .ok (.iconst 0, 1) := by decide +kernel
theorem d_K_digest_20 : decode prog_1_method_12_code 20 = .ok (.invokestatic 144, 3) := by decide +kernel
theorem d_K_digest_23 : decode prog_1_method_12_code 23 = .ok (.iload_n 1, 1) := by decide +kernel
theorem d_K_digest_24 : decode prog_1_method_12_code 24 = .ok (.ifCond .ne 7, 3) := by decide +kernel
theorem d_K_digest_27 : decode prog_1_method_12_code 27 = .ok (.iconst 0, 1) := by decide +kernel
theorem d_K_digest_28 : decode prog_1_method_12_code 28 = .ok (.goto 12, 3) := by decide +kernel
theorem d_K_digest_31 : decode prog_1_method_12_code 31 = .ok (.aload_n 0, 1) := by decide +kernel
theorem d_K_digest_32 : decode prog_1_method_12_code 32 = .ok (.getfield 19, 3) := by decide +kernel
theorem d_K_digest_35 : decode prog_1_method_12_code 35 = .ok (.iconst 0, 1) := by decide +kernel
theorem d_K_digest_36 : decode prog_1_method_12_code 36 = .ok (.iload_n 1, 1) := by decide +kernel
theorem d_K_digest_37 : decode prog_1_method_12_code 37 = .ok (.invokevirtual 147, 3) := by decide +kernel
theorem d_K_digest_40 : decode prog_1_method_12_code 40 = .ok (.ireturn, 1) := by decide +kernel
theorem d_H_seal_0 : decode prog_4_method_4_code 0 = .ok (.iload_n 2, 1) := by decide +kernel
theorem d_H_seal_1 : decode prog_4_method_4_code 1 = .ok (.iconst 2, 1) := by decide +kernel
theorem d_H_seal_2 : decode prog_4_method_4_code 2 = .ok (.if_icmp .ge 13, 3) := by decide +kernel
theorem d_H_seal_5 : decode prog_4_method_4_code 5 = .ok (.iload_n 1, 1) := by decide +kernel
theorem d_H_seal_6 : decode prog_4_method_4_code 6 = .ok (.aload_n 0, 1) := by decide +kernel
theorem d_H_seal_7 : decode prog_4_method_4_code 7 = .ok (.iload_n 1, 1) := by decide +kernel
theorem d_H_seal_8 : decode prog_4_method_4_code 8 = .ok (.invokevirtual 24, 3) := by decide +kernel
theorem d_H_seal_11 : decode prog_4_method_4_code 11 = .ok (.invokestatic 28, 3) := by decide +kernel
theorem d_H_seal_14 : decode prog_4_method_4_code 14 = .ok (.ireturn, 1) := by decide +kernel
theorem d_H_seal_15 : decode prog_4_method_4_code 15 = .ok (.iload_n 2, 1) := by decide +kernel
theorem d_H_seal_16 : decode prog_4_method_4_code 16 = .ok (.invokestatic 32, 3) := by decide +kernel
theorem d_H_seal_19 : decode prog_4_method_4_code 19 = .ok (.istore_n 3, 1) := by decide +kernel
theorem d_H_seal_20 : decode prog_4_method_4_code 20 = .ok (.aload_n 0, 1) := by decide +kernel
theorem d_H_seal_21 : decode prog_4_method_4_code 21 = .ok (.iload_n 1, 1) := by decide +kernel
theorem d_H_seal_22 : decode prog_4_method_4_code 22 = .ok (.iload_n 3, 1) := by decide +kernel
theorem d_H_seal_23 : decode prog_4_method_4_code 23 = .ok (.invokevirtual 35, 3) := by decide +kernel
theorem d_H_seal_26 : decode prog_4_method_4_code 26 = .ok (.aload_n 0, 1) := by decide +kernel
theorem d_H_seal_27 : decode prog_4_method_4_code 27 = .ok (.iload_n 1, 1) := by decide +kernel
theorem d_H_seal_28 : decode prog_4_method_4_code 28 = .ok (.iload_n 3, 1) := by decide +kernel
theorem d_H_seal_29 : decode prog_4_method_4_code 29 = .ok (.iadd, 1) := by decide +kernel
theorem d_H_seal_30 : decode prog_4_method_4_code 30 = .ok (.iload_n 2, 1) := by decide +kernel
theorem d_H_seal_31 : decode prog_4_method_4_code 31 = .ok (.iload_n 3, 1) := by decide +kernel
theorem d_H_seal_32 : decode prog_4_method_4_code 32 = .ok (.isub, 1) := by decide +kernel
theorem d_H_seal_33 : decode prog_4_method_4_code 33 = .ok (.invokevirtual 35, 3) := by decide +kernel
theorem d_H_seal_36 : decode prog_4_method_4_code 36 = .ok (.invokestatic 38, 3) := by decide +kernel
theorem d_H_seal_39 : decode prog_4_method_4_code 39 = .ok (.ireturn, 1) := by decide +kernel
theorem d_K_leafOf_0 : decode prog_1_method_27_code 0 = .ok (.bipush 7, 2) := by decide +kernel
theorem d_K_leafOf_2 : decode prog_1_method_27_code 2 = .ok (.iload_n 0, 1) := by decide +kernel
theorem d_K_leafOf_3 : decode prog_1_method_27_code 3 = .ok (.invokestatic 213, 3) := by decide +kernel
theorem d_K_leafOf_6 : decode prog_1_method_27_code 6 = .ok (.iload_n 1, 1) := by decide +kernel
theorem d_K_leafOf_7 : decode prog_1_method_27_code 7 = .ok (.invokestatic 213, 3) := by decide +kernel
theorem d_K_leafOf_10 : decode prog_1_method_27_code 10 = .ok (.ireturn, 1) := by decide +kernel
theorem d_K_half_0 : decode prog_1_method_29_code 0 = .ok (.iconst 1, 1) := by decide +kernel
theorem d_K_half_1 : decode prog_1_method_29_code 1 = .ok (.istore_n 1, 1) := by decide +kernel
theorem d_K_half_2 : decode prog_1_method_29_code 2 = .ok (.iload_n 1, 1) := by decide +kernel
theorem d_K_half_3 : decode prog_1_method_29_code 3 = .ok (.iconst 2, 1) := by decide +kernel
theorem d_K_half_4 : decode prog_1_method_29_code 4 = .ok (.imul, 1) := by decide +kernel
theorem d_K_half_5 : decode prog_1_method_29_code 5 = .ok (.iload_n 0, 1) := by decide +kernel
theorem d_K_half_6 : decode prog_1_method_29_code 6 = .ok (.if_icmp .ge 16, 3) := by decide +kernel
theorem d_K_half_9 : decode prog_1_method_29_code 9 = .ok (.iload_n 1, 1) := by decide +kernel
theorem d_K_half_10 : decode prog_1_method_29_code 10 = .ok (.bipush 16, 2) := by decide +kernel
theorem d_K_half_12 : decode prog_1_method_29_code 12 = .ok (.if_icmp .ge 10, 3) := by decide +kernel
theorem d_K_half_15 : decode prog_1_method_29_code 15 = .ok (.iload_n 1, 1) := by decide +kernel
theorem d_K_half_16 : decode prog_1_method_29_code 16 = .ok (.iconst 2, 1) := by decide +kernel
theorem d_K_half_17 : decode prog_1_method_29_code 17 = .ok (.imul, 1) := by decide +kernel
theorem d_K_half_18 : decode prog_1_method_29_code 18 = .ok (.istore_n 1, 1) := by decide +kernel
theorem d_K_half_19 : decode prog_1_method_29_code 19 = .ok (.goto (-17), 3) := by decide +kernel
theorem d_K_half_22 : decode prog_1_method_29_code 22 = .ok (.iload_n 1, 1) := by decide +kernel
theorem d_K_half_23 : decode prog_1_method_29_code 23 = .ok (.ireturn, 1) := by decide +kernel
theorem d_K_join_0 : decode prog_1_method_28_code 0 = .ok (.bipush 8, 2) := by decide +kernel
theorem d_K_join_2 : decode prog_1_method_28_code 2 = .ok (.iload_n 0, 1) := by decide +kernel
theorem d_K_join_3 : decode prog_1_method_28_code 3 = .ok (.invokestatic 213, 3) := by decide +kernel
theorem d_K_join_6 : decode prog_1_method_28_code 6 = .ok (.iload_n 1, 1) := by decide +kernel
theorem d_K_join_7 : decode prog_1_method_28_code 7 = .ok (.invokestatic 213, 3) := by decide +kernel
theorem d_K_join_10 : decode prog_1_method_28_code 10 = .ok (.ireturn, 1) := by decide +kernel
theorem d_K_prove_0 : decode prog_1_method_13_code 0 = .ok (.iload_n 1, 1) := by decide +kernel
theorem d_K_prove_1 : decode prog_1_method_13_code 1 = .ok (.aload_n 0, 1) := by decide +kernel
theorem d_K_prove_2 : decode prog_1_method_13_code 2 = .ok (.getfield 19, 3) := by decide +kernel
theorem d_K_prove_5 : decode prog_1_method_13_code 5 = .ok (.getfield 89, 3) := by decide +kernel
theorem d_K_prove_8 : decode prog_1_method_13_code 8 = .ok (.if_icmp .gt 16, 3) := by decide +kernel
theorem d_K_prove_11 : decode prog_1_method_13_code 11 = .ok (.iload_n 2, 1) := by decide +kernel
theorem d_K_prove_12 : decode prog_1_method_13_code 12 = .ok (.ifCond .lt 12, 3) := by decide +kernel
theorem d_K_prove_15 : decode prog_1_method_13_code 15 = .ok (.iload_n 2, 1) := by decide +kernel
theorem d_K_prove_16 : decode prog_1_method_13_code 16 = .ok (.iload_n 1, 1) := by decide +kernel
theorem d_K_prove_17 : decode prog_1_method_13_code 17 = .ok (.if_icmp .ge 7, 3) := by decide +kernel
theorem d_K_prove_20 : decode prog_1_method_13_code 20 = .ok (.iconst 1, 1) := by decide +kernel
theorem d_K_prove_21 : decode prog_1_method_13_code 21 = .ok (.goto 4, 3) := by decide +kernel
theorem d_K_prove_24 : decode prog_1_method_13_code 24 = .ok (.iconst 0, 1) := by decide +kernel
theorem d_K_prove_25 : decode prog_1_method_13_code 25 = .ok (.invokestatic 144, 3) := by decide +kernel
theorem d_K_prove_28 : decode prog_1_method_13_code 28 = .ok (.iload_n 3, 1) := by decide +kernel
theorem d_K_prove_29 : decode prog_1_method_13_code 29 = .ok (.invokestatic 51, 3) := by decide +kernel
theorem d_K_prove_32 : decode prog_1_method_13_code 32 = .ok (.aload_n 0, 1) := by decide +kernel
theorem d_K_prove_33 : decode prog_1_method_13_code 33 = .ok (.getfield 40, 3) := by decide +kernel
theorem d_K_prove_36 : decode prog_1_method_13_code 36 = .ok (.aload_n 0, 1) := by decide +kernel
theorem d_K_prove_37 : decode prog_1_method_13_code 37 = .ok (.getfield 19, 3) := by decide +kernel
theorem d_K_prove_40 : decode prog_1_method_13_code 40 = .ok (.iload_n 1, 1) := by decide +kernel
theorem d_K_prove_41 : decode prog_1_method_13_code 41 = .ok (.iload_n 2, 1) := by decide +kernel
theorem d_K_prove_42 : decode prog_1_method_13_code 42 = .ok (.iload_n 3, 1) := by decide +kernel
theorem d_K_prove_43 : decode prog_1_method_13_code 43 = .ok (.invokevirtual 150, 3) := by decide +kernel
theorem d_K_prove_46 : decode prog_1_method_13_code 46 = .ok (.aload_n 0, 1) := by decide +kernel
theorem d_K_prove_47 : decode prog_1_method_13_code 47 = .ok (.getfield 40, 3) := by decide +kernel
theorem d_K_prove_50 : decode prog_1_method_13_code 50 = .ok (.getfield 154, 3) := by decide +kernel
theorem d_K_prove_53 : decode prog_1_method_13_code 53 = .ok (.getfield 158, 3) := by decide +kernel
theorem d_K_prove_56 : decode prog_1_method_13_code 56 = .ok (.ireturn, 1) := by decide +kernel
theorem d_P_makeProof_0 : decode prog_5_method_2_code 0 = .ok (.aload_n 0, 1) := by decide +kernel
theorem d_P_makeProof_1 : decode prog_5_method_2_code 1 = .ok (.getfield 10, 3) := by decide +kernel
theorem d_P_makeProof_4 : decode prog_5_method_2_code 4 = .ok (.invokevirtual 16, 3) := by decide +kernel
theorem d_P_makeProof_7 : decode prog_5_method_2_code 7 = .ok (.aload_n 0, 1) := by decide +kernel
theorem d_P_makeProof_8 : decode prog_5_method_2_code 8 = .ok (.getfield 10, 3) := by decide +kernel
theorem d_P_makeProof_11 : decode prog_5_method_2_code 11 = .ok (.iconst 0, 1) := by decide +kernel
theorem d_P_makeProof_12 : decode prog_5_method_2_code 12 = .ok (.invokevirtual 19, 3) := by decide +kernel
theorem d_P_makeProof_15 : decode prog_5_method_2_code 15 = .ok (.aload_n 0, 1) := by decide +kernel
theorem d_P_makeProof_16 : decode prog_5_method_2_code 16 = .ok (.aload_n 1, 1) := by decide +kernel
theorem d_P_makeProof_17 : decode prog_5_method_2_code 17 = .ok (.iconst 0, 1) := by decide +kernel
theorem d_P_makeProof_18 : decode prog_5_method_2_code 18 = .ok (.iload_n 2, 1) := by decide +kernel
theorem d_P_makeProof_19 : decode prog_5_method_2_code 19 = .ok (.iload_n 3, 1) := by decide +kernel
theorem d_P_makeProof_20 : decode prog_5_method_2_code 20 = .ok (.invokevirtual 23, 3) := by decide +kernel
theorem d_P_makeProof_23 : decode prog_5_method_2_code 23 = .ok (.aload_n 0, 1) := by decide +kernel
theorem d_P_makeProof_24 : decode prog_5_method_2_code 24 = .ok (.getfield 10, 3) := by decide +kernel
theorem d_P_makeProof_27 : decode prog_5_method_2_code 27 = .ok (.invokevirtual 27, 3) := by decide +kernel
theorem d_P_makeProof_30 : decode prog_5_method_2_code 30 = .ok (.aload_n 1, 1) := by decide +kernel
theorem d_P_makeProof_31 : decode prog_5_method_2_code 31 = .ok (.getfield 30, 3) := by decide +kernel
theorem d_P_makeProof_34 : decode prog_5_method_2_code 34 = .ok (.iload_n 3, 1) := by decide +kernel
theorem d_P_makeProof_35 : decode prog_5_method_2_code 35 = .ok (.aaload, 1) := by decide +kernel
theorem d_P_makeProof_36 : decode prog_5_method_2_code 36 = .ok (.astore 5, 2) := by decide +kernel
theorem d_P_makeProof_38 : decode prog_5_method_2_code 38 = .ok (.aload_n 0, 1) := by decide +kernel
theorem d_P_makeProof_39 : decode prog_5_method_2_code 39 = .ok (.getfield 10, 3) := by decide +kernel
theorem d_P_makeProof_42 : decode prog_5_method_2_code 42 = .ok (.aload 5, 2) := by decide +kernel
theorem d_P_makeProof_44 : decode prog_5_method_2_code 44 = .ok (.ifnonnull 7, 3) := by decide +kernel
theorem d_P_makeProof_47 : decode prog_5_method_2_code 47 = .ok (.iconst 0, 1) := by decide +kernel
theorem d_P_makeProof_48 : decode prog_5_method_2_code 48 = .ok (.goto 10, 3) := by decide +kernel
theorem d_P_makeProof_51 : decode prog_5_method_2_code 51 = .ok (.aload 5, 2) := by decide +kernel
theorem d_P_makeProof_53 : decode prog_5_method_2_code 53 = .ok (.getfield 36, 3) := by decide +kernel
theorem d_P_makeProof_56 : decode prog_5_method_2_code 56 = .ok (.iconst 1, 1) := by decide +kernel
theorem d_P_makeProof_57 : decode prog_5_method_2_code 57 = .ok (.iadd, 1) := by decide +kernel
theorem d_P_makeProof_58 : decode prog_5_method_2_code 58 = .ok (.invokevirtual 19, 3) := by decide +kernel
theorem d_P_makeProof_61 : decode prog_5_method_2_code 61 = .ok (.aload 5, 2) := by decide +kernel
theorem d_P_makeProof_63 : decode prog_5_method_2_code 63 = .ok (.astore 6, 2) := by decide +kernel
theorem d_P_makeProof_65 : decode prog_5_method_2_code 65 = .ok (.aload 6, 2) := by decide +kernel
theorem d_P_makeProof_67 : decode prog_5_method_2_code 67 = .ok (.ifnull 21, 3) := by decide +kernel
theorem d_P_makeProof_70 : decode prog_5_method_2_code 70 = .ok (.aload_n 0, 1) := by decide +kernel
theorem d_P_makeProof_71 : decode prog_5_method_2_code 71 = .ok (.aload 6, 2) := by decide +kernel
theorem d_P_makeProof_73 : decode prog_5_method_2_code 73 = .ok (.invokevirtual 42, 3) := by decide +kernel
theorem d_P_makeProof_76 : decode prog_5_method_2_code 76 = .ok (.aload 6, 2) := by decide +kernel
theorem d_P_makeProof_78 : decode prog_5_method_2_code 78 = .ok (.iload 4, 2) := by decide +kernel
theorem d_P_makeProof_80 : decode prog_5_method_2_code 80 = .ok (.invokevirtual 46, 3) := by decide +kernel
theorem d_P_makeProof_83 : decode prog_5_method_2_code 83 = .ok (.astore 6, 2) := by decide +kernel
theorem d_P_makeProof_85 : decode prog_5_method_2_code 85 = .ok (.goto (-20), 3) := by decide +kernel
theorem d_P_makeProof_88 : decode prog_5_method_2_code 88 = .ok (.return_, 1) := by decide +kernel
theorem d_B_clear_0 : decode prog_2_method_2_code 0 = .ok (.aload_n 0, 1) := by decide +kernel
theorem d_B_clear_1 : decode prog_2_method_2_code 1 = .ok (.iconst 0, 1) := by decide +kernel
theorem d_B_clear_2 : decode prog_2_method_2_code 2 = .ok (.putfield 15, 3) := by decide +kernel
theorem d_B_clear_5 : decode prog_2_method_2_code 5 = .ok (.return_, 1) := by decide +kernel
theorem d_B_appendByte_0 : decode prog_2_method_5_code 0 = .ok (.aload_n 0, 1) := by decide +kernel
theorem d_B_appendByte_1 : decode prog_2_method_5_code 1 = .ok (.iload_n 1, 1) := by decide +kernel
theorem d_B_appendByte_2 : decode prog_2_method_5_code 2 = .ok (.iconst 1, 1) := by decide +kernel
theorem d_B_appendByte_3 : decode prog_2_method_5_code 3 = .ok (.invokevirtual 19, 3) := by decide +kernel
theorem d_B_appendByte_6 : decode prog_2_method_5_code 6 = .ok (.return_, 1) := by decide +kernel
theorem d_P_addWay_0 : decode prog_5_method_4_code 0 = .ok (.iload_n 3, 1) := by decide +kernel
theorem d_P_addWay_1 : decode prog_5_method_4_code 1 = .ok (.iconst 2, 1) := by decide +kernel
theorem d_P_addWay_2 : decode prog_5_method_4_code 2 = .ok (.if_icmp .ge 4, 3) := by decide +kernel
theorem d_P_addWay_5 : decode prog_5_method_4_code 5 = .ok (.return_, 1) := by decide +kernel
theorem d_P_addWay_6 : decode prog_5_method_4_code 6 = .ok (.iload_n 3, 1) := by decide +kernel
theorem d_P_addWay_7 : decode prog_5_method_4_code 7 = .ok (.invokestatic 53, 3) := by decide +kernel
theorem d_P_addWay_10 : decode prog_5_method_4_code 10 = .ok (.istore 5, 2) := by decide +kernel
theorem d_P_addWay_12 : decode prog_5_method_4_code 12 = .ok (.iload_n 2, 1) := by decide +kernel
theorem d_P_addWay_13 : decode prog_5_method_4_code 13 = .ok (.iload 5, 2) := by decide +kernel
theorem d_P_addWay_15 : decode prog_5_method_4_code 15 = .ok (.iadd, 1) := by decide +kernel
theorem d_P_addWay_16 : decode prog_5_method_4_code 16 = .ok (.istore 6, 2) := by decide +kernel
theorem d_P_addWay_18 : decode prog_5_method_4_code 18 = .ok (.iload 4, 2) := by decide +kernel
theorem d_P_addWay_20 : decode prog_5_method_4_code 20 = .ok (.iload 6, 2) := by decide +kernel
theorem d_P_addWay_22 : decode prog_5_method_4_code 22 = .ok (.if_icmp .ge 33, 3) := by decide +kernel
theorem d_P_addWay_25 : decode prog_5_method_4_code 25 = .ok (.aload_n 0, 1) := by decide +kernel
theorem d_P_addWay_26 : decode prog_5_method_4_code 26 = .ok (.aload_n 1, 1) := by decide +kernel
theorem d_P_addWay_27 : decode prog_5_method_4_code 27 = .ok (.iload_n 2, 1) := by decide +kernel
theorem d_P_addWay_28 : decode prog_5_method_4_code 28 = .ok (.iload 5, 2) := by decide +kernel
theorem d_P_addWay_30 : decode prog_5_method_4_code 30 = .ok (.iload 4, 2) := by decide +kernel
theorem d_P_addWay_32 : decode prog_5_method_4_code 32 = .ok (.invokevirtual 23, 3) := by decide +kernel
theorem d_P_addWay_35 : decode prog_5_method_4_code 35 = .ok (.aload_n 0, 1) := by decide +kernel
theorem d_P_addWay_36 : decode prog_5_method_4_code 36 = .ok (.getfield 10, 3) := by decide +kernel
theorem d_P_addWay_39 : decode prog_5_method_4_code 39 = .ok (.aload_n 1, 1) := by decide +kernel
theorem d_P_addWay_40 : decode prog_5_method_4_code 40 = .ok (.iload 6, 2) := by decide +kernel
theorem d_P_addWay_42 : decode prog_5_method_4_code 42 = .ok (.iload_n 3, 1) := by decide +kernel
theorem d_P_addWay_43 : decode prog_5_method_4_code 43 = .ok (.iload 5, 2) := by decide +kernel
theorem d_P_addWay_45 : decode prog_5_method_4_code 45 = .ok (.isub, 1) := by decide +kernel
theorem d_P_addWay_46 : decode prog_5_method_4_code 46 = .ok (.invokevirtual 59, 3) := by decide +kernel
theorem d_P_addWay_49 : decode prog_5_method_4_code 49 = .ok (.invokevirtual 63, 3) := by decide +kernel
theorem d_P_addWay_52 : decode prog_5_method_4_code 52 = .ok (.goto 30, 3) := by decide +kernel
theorem d_P_addWay_55 : decode prog_5_method_4_code 55 = .ok (.aload_n 0, 1) := by decide +kernel
theorem d_P_addWay_56 : decode prog_5_method_4_code 56 = .ok (.aload_n 1, 1) := by decide +kernel
theorem d_P_addWay_57 : decode prog_5_method_4_code 57 = .ok (.iload 6, 2) := by decide +kernel
theorem d_P_addWay_59 : decode prog_5_method_4_code 59 = .ok (.iload_n 3, 1) := by decide +kernel
theorem d_P_addWay_60 : decode prog_5_method_4_code 60 = .ok (.iload 5, 2) := by decide +kernel
theorem d_P_addWay_62 : decode prog_5_method_4_code 62 = .ok (.isub, 1) := by decide +kernel
theorem d_P_addWay_63 : decode prog_5_method_4_code 63 = .ok (.iload 4, 2) := by decide +kernel
theorem d_P_addWay_65 : decode prog_5_method_4_code 65 = .ok (.invokevirtual 23, 3) := by decide +kernel
theorem d_P_addWay_68 : decode prog_5_method_4_code 68 = .ok (.aload_n 0, 1) := by decide +kernel
theorem d_P_addWay_69 : decode prog_5_method_4_code 69 = .ok (.getfield 10, 3) := by decide +kernel
theorem d_P_addWay_72 : decode prog_5_method_4_code 72 = .ok (.aload_n 1, 1) := by decide +kernel
theorem d_P_addWay_73 : decode prog_5_method_4_code 73 = .ok (.iload_n 2, 1) := by decide +kernel
theorem d_P_addWay_74 : decode prog_5_method_4_code 74 = .ok (.iload 5, 2) := by decide +kernel
theorem d_P_addWay_76 : decode prog_5_method_4_code 76 = .ok (.invokevirtual 59, 3) := by decide +kernel
theorem d_P_addWay_79 : decode prog_5_method_4_code 79 = .ok (.invokevirtual 63, 3) := by decide +kernel
theorem d_P_addWay_82 : decode prog_5_method_4_code 82 = .ok (.return_, 1) := by decide +kernel
theorem d_B_appendInt_0 : decode prog_2_method_6_code 0 = .ok (.aload_n 0, 1) := by decide +kernel
theorem d_B_appendInt_1 : decode prog_2_method_6_code 1 = .ok (.iload_n 1, 1) := by decide +kernel
theorem d_B_appendInt_2 : decode prog_2_method_6_code 2 = .ok (.iconst 4, 1) := by decide +kernel
theorem d_B_appendInt_3 : decode prog_2_method_6_code 3 = .ok (.invokevirtual 19, 3) := by decide +kernel
theorem d_B_appendInt_6 : decode prog_2_method_6_code 6 = .ok (.return_, 1) := by decide +kernel
theorem d_B_countInts_0 : decode prog_2_method_9_code 0 = .ok (.aload_n 0, 1) := by decide +kernel
theorem d_B_countInts_1 : decode prog_2_method_9_code 1 = .ok (.getfield 9, 3) := by decide +kernel
theorem d_B_countInts_4 : decode prog_2_method_9_code 4 = .ok (.iconst 0, 1) := by decide +kernel
theorem d_B_countInts_5 : decode prog_2_method_9_code 5 = .ok (.aload_n 0, 1) := by decide +kernel
theorem d_B_countInts_6 : decode prog_2_method_9_code 6 = .ok (.getfield 15, 3) := by decide +kernel
theorem d_B_countInts_9 : decode prog_2_method_9_code 9 = .ok (.iconst 1, 1) := by decide +kernel
theorem d_B_countInts_10 : decode prog_2_method_9_code 10 = .ok (.isub, 1) := by decide +kernel
theorem d_B_countInts_11 : decode prog_2_method_9_code 11 = .ok (.iconst 4, 1) := by decide +kernel
theorem d_B_countInts_12 : decode prog_2_method_9_code 12 = .ok (.idiv, 1) := by decide +kernel
theorem d_B_countInts_13 : decode prog_2_method_9_code 13 = .ok (.iastore, 1) := by decide +kernel
theorem d_B_countInts_14 : decode prog_2_method_9_code 14 = .ok (.return_, 1) := by decide +kernel
theorem d_P_addChunk_0 : decode prog_5_method_5_code 0 = .ok (.aload_n 0, 1) := by decide +kernel
theorem d_P_addChunk_1 : decode prog_5_method_5_code 1 = .ok (.getfield 10, 3) := by decide +kernel
theorem d_P_addChunk_4 : decode prog_5_method_5_code 4 = .ok (.aload_n 1, 1) := by decide +kernel
theorem d_P_addChunk_5 : decode prog_5_method_5_code 5 = .ok (.getfield 66, 3) := by decide +kernel
theorem d_P_addChunk_8 : decode prog_5_method_5_code 8 = .ok (.arraylength, 1) := by decide +kernel
theorem d_P_addChunk_9 : decode prog_5_method_5_code 9 = .ok (.invokevirtual 19, 3) := by decide +kernel
theorem d_P_addChunk_12 : decode prog_5_method_5_code 12 = .ok (.iconst 0, 1) := by decide +kernel
theorem d_P_addChunk_13 : decode prog_5_method_5_code 13 = .ok (.istore_n 2, 1) := by decide +kernel
theorem d_P_addChunk_14 : decode prog_5_method_5_code 14 = .ok (.iload_n 2, 1) := by decide +kernel
theorem d_P_addChunk_15 : decode prog_5_method_5_code 15 = .ok (.aload_n 1, 1) := by decide +kernel
theorem d_P_addChunk_16 : decode prog_5_method_5_code 16 = .ok (.getfield 66, 3) := by decide +kernel
theorem d_P_addChunk_19 : decode prog_5_method_5_code 19 = .ok (.arraylength, 1) := by decide +kernel
theorem d_P_addChunk_20 : decode prog_5_method_5_code 20 = .ok (.if_icmp .ge 35, 3) := by decide +kernel
theorem d_P_addChunk_23 : decode prog_5_method_5_code 23 = .ok (.aload_n 0, 1) := by decide +kernel
theorem d_P_addChunk_24 : decode prog_5_method_5_code 24 = .ok (.getfield 10, 3) := by decide +kernel
theorem d_P_addChunk_27 : decode prog_5_method_5_code 27 = .ok (.aload_n 1, 1) := by decide +kernel
theorem d_P_addChunk_28 : decode prog_5_method_5_code 28 = .ok (.getfield 66, 3) := by decide +kernel
theorem d_P_addChunk_31 : decode prog_5_method_5_code 31 = .ok (.iload_n 2, 1) := by decide +kernel
theorem d_P_addChunk_32 : decode prog_5_method_5_code 32 = .ok (.iaload, 1) := by decide +kernel
theorem d_P_addChunk_33 : decode prog_5_method_5_code 33 = .ok (.invokevirtual 19, 3) := by decide +kernel
theorem d_P_addChunk_36 : decode prog_5_method_5_code 36 = .ok (.aload_n 0, 1) := by decide +kernel
theorem d_P_addChunk_37 : decode prog_5_method_5_code 37 = .ok (.getfield 10, 3) := by decide +kernel
theorem d_P_addChunk_40 : decode prog_5_method_5_code 40 = .ok (.aload_n 1, 1) := by decide +kernel
theorem d_P_addChunk_41 : decode prog_5_method_5_code 41 = .ok (.getfield 70, 3) := by decide +kernel
theorem d_P_addChunk_44 : decode prog_5_method_5_code 44 = .ok (.iload_n 2, 1) := by decide +kernel
theorem d_P_addChunk_45 : decode prog_5_method_5_code 45 = .ok (.iaload, 1) := by decide +kernel
theorem d_P_addChunk_46 : decode prog_5_method_5_code 46 = .ok (.invokevirtual 63, 3) := by decide +kernel
theorem d_P_addChunk_49 : decode prog_5_method_5_code 49 = .ok (.iinc 2 1, 3) := by decide +kernel
theorem d_P_addChunk_52 : decode prog_5_method_5_code 52 = .ok (.goto (-38), 3) := by decide +kernel
theorem d_P_addChunk_55 : decode prog_5_method_5_code 55 = .ok (.return_, 1) := by decide +kernel
theorem d_K_proveGrowth_0 : decode prog_1_method_14_code 0 = .ok (.iload_n 1, 1) := by decide +kernel
theorem d_K_proveGrowth_1 : decode prog_1_method_14_code 1 = .ok (.ifCond .le 23, 3) := by decide +kernel
theorem d_K_proveGrowth_4 : decode prog_1_method_14_code 4 = .ok (.iload_n 1, 1) := by decide +kernel
theorem d_K_proveGrowth_5 : decode prog_1_method_14_code 5 = .ok (.iload_n 2, 1) := by decide +kernel
theorem d_K_proveGrowth_6 : decode prog_1_method_14_code 6 = .ok (.if_icmp .ge 18, 3) := by decide +kernel
theorem d_K_proveGrowth_9 : decode prog_1_method_14_code 9 = .ok (.iload_n 2, 1) := by decide +kernel
theorem d_K_proveGrowth_10 : decode prog_1_method_14_code 10 = .ok (.aload_n 0, 1) := by decide +kernel
theorem d_K_proveGrowth_11 : decode prog_1_method_14_code 11 = .ok (.getfield 19, 3) := by decide +kernel
theorem d_K_proveGrowth_14 : decode prog_1_method_14_code 14 = .ok (.getfield 89, 3) := by decide +kernel
theorem d_K_proveGrowth_17 : decode prog_1_method_14_code 17 = .ok (.if_icmp .gt 7, 3) := by decide +kernel
theorem d_K_proveGrowth_20 : decode prog_1_method_14_code 20 = .ok (.iconst 1, 1) := by decide +kernel
theorem d_K_proveGrowth_21 : decode prog_1_method_14_code 21 = .ok (.goto 4, 3) := by decide +kernel
theorem d_K_proveGrowth_24 : decode prog_1_method_14_code 24 = .ok (.iconst 0, 1) := by decide +kernel
theorem d_K_proveGrowth_25 : decode prog_1_method_14_code 25 = .ok (.invokestatic 144, 3) := by decide +kernel
theorem d_K_proveGrowth_28 : decode prog_1_method_14_code 28 = .ok (.aload_n 0, 1) := by decide +kernel
theorem d_K_proveGrowth_29 : decode prog_1_method_14_code 29 = .ok (.getfield 40, 3) := by decide +kernel
theorem d_K_proveGrowth_32 : decode prog_1_method_14_code 32 = .ok (.aload_n 0, 1) := by decide +kernel
theorem d_K_proveGrowth_33 : decode prog_1_method_14_code 33 = .ok (.getfield 19, 3) := by decide +kernel
theorem d_K_proveGrowth_36 : decode prog_1_method_14_code 36 = .ok (.iload_n 1, 1) := by decide +kernel
theorem d_K_proveGrowth_37 : decode prog_1_method_14_code 37 = .ok (.iload_n 2, 1) := by decide +kernel
theorem d_K_proveGrowth_38 : decode prog_1_method_14_code 38 = .ok (.invokevirtual 161, 3) := by decide +kernel
theorem d_K_proveGrowth_41 : decode prog_1_method_14_code 41 = .ok (.aload_n 0, 1) := by decide +kernel
theorem d_K_proveGrowth_42 : decode prog_1_method_14_code 42 = .ok (.getfield 40, 3) := by decide +kernel
theorem d_K_proveGrowth_45 : decode prog_1_method_14_code 45 = .ok (.getfield 154, 3) := by decide +kernel
theorem d_K_proveGrowth_48 : decode prog_1_method_14_code 48 = .ok (.getfield 158, 3) := by decide +kernel
theorem d_K_proveGrowth_51 : decode prog_1_method_14_code 51 = .ok (.ireturn, 1) := by decide +kernel
theorem d_P_makeGrowth_0 : decode prog_5_method_3_code 0 = .ok (.aload_n 0, 1) := by decide +kernel
theorem d_P_makeGrowth_1 : decode prog_5_method_3_code 1 = .ok (.getfield 10, 3) := by decide +kernel
theorem d_P_makeGrowth_4 : decode prog_5_method_3_code 4 = .ok (.invokevirtual 16, 3) := by decide +kernel
theorem d_P_makeGrowth_7 : decode prog_5_method_3_code 7 = .ok (.aload_n 0, 1) := by decide +kernel
theorem d_P_makeGrowth_8 : decode prog_5_method_3_code 8 = .ok (.getfield 10, 3) := by decide +kernel
theorem d_P_makeGrowth_11 : decode prog_5_method_3_code 11 = .ok (.iconst 0, 1) := by decide +kernel
theorem d_P_makeGrowth_12 : decode prog_5_method_3_code 12 = .ok (.invokevirtual 19, 3) := by decide +kernel
theorem d_P_makeGrowth_15 : decode prog_5_method_3_code 15 = .ok (.aload_n 0, 1) := by decide +kernel
theorem d_P_makeGrowth_16 : decode prog_5_method_3_code 16 = .ok (.aload_n 1, 1) := by decide +kernel
theorem d_P_makeGrowth_17 : decode prog_5_method_3_code 17 = .ok (.iconst 0, 1) := by decide +kernel
theorem d_P_makeGrowth_18 : decode prog_5_method_3_code 18 = .ok (.iload_n 3, 1) := by decide +kernel
theorem d_P_makeGrowth_19 : decode prog_5_method_3_code 19 = .ok (.iload_n 2, 1) := by decide +kernel
theorem d_P_makeGrowth_20 : decode prog_5_method_3_code 20 = .ok (.invokevirtual 50, 3) := by decide +kernel
theorem d_P_makeGrowth_23 : decode prog_5_method_3_code 23 = .ok (.aload_n 0, 1) := by decide +kernel
theorem d_P_makeGrowth_24 : decode prog_5_method_3_code 24 = .ok (.getfield 10, 3) := by decide +kernel
theorem d_P_makeGrowth_27 : decode prog_5_method_3_code 27 = .ok (.invokevirtual 27, 3) := by decide +kernel
theorem d_P_makeGrowth_30 : decode prog_5_method_3_code 30 = .ok (.return_, 1) := by decide +kernel
theorem d_P_addPart_0 : decode prog_5_method_6_code 0 = .ok (.iload 4, 2) := by decide +kernel
theorem d_P_addPart_2 : decode prog_5_method_6_code 2 = .ok (.iload_n 3, 1) := by decide +kernel
theorem d_P_addPart_3 : decode prog_5_method_6_code 3 = .ok (.if_icmp .lt 21, 3) := by decide +kernel
theorem d_P_addPart_6 : decode prog_5_method_6_code 6 = .ok (.iload_n 2, 1) := by decide +kernel
theorem d_P_addPart_7 : decode prog_5_method_6_code 7 = .ok (.ifCond .le 16, 3) := by decide +kernel
theorem d_P_addPart_10 : decode prog_5_method_6_code 10 = .ok (.aload_n 0, 1) := by decide +kernel
theorem d_P_addPart_11 : decode prog_5_method_6_code 11 = .ok (.getfield 10, 3) := by decide +kernel
theorem d_P_addPart_14 : decode prog_5_method_6_code 14 = .ok (.aload_n 1, 1) := by decide +kernel
theorem d_P_addPart_15 : decode prog_5_method_6_code 15 = .ok (.iload_n 2, 1) := by decide +kernel
theorem d_P_addPart_16 : decode prog_5_method_6_code 16 = .ok (.iload_n 3, 1) := by decide +kernel
theorem d_P_addPart_17 : decode prog_5_method_6_code 17 = .ok (.invokevirtual 59, 3) := by decide +kernel
theorem d_P_addPart_20 : decode prog_5_method_6_code 20 = .ok (.invokevirtual 63, 3) := by decide +kernel
theorem d_P_addPart_23 : decode prog_5_method_6_code 23 = .ok (.return_, 1) := by decide +kernel
theorem d_P_addPart_24 : decode prog_5_method_6_code 24 = .ok (.iload_n 3, 1) := by decide +kernel
theorem d_P_addPart_25 : decode prog_5_method_6_code 25 = .ok (.invokestatic 53, 3) := by decide +kernel
theorem d_P_addPart_28 : decode prog_5_method_6_code 28 = .ok (.istore 5, 2) := by decide +kernel
theorem d_P_addPart_30 : decode prog_5_method_6_code 30 = .ok (.iload_n 2, 1) := by decide +kernel
theorem d_P_addPart_31 : decode prog_5_method_6_code 31 = .ok (.iload 5, 2) := by decide +kernel
theorem d_P_addPart_33 : decode prog_5_method_6_code 33 = .ok (.iadd, 1) := by decide +kernel
theorem d_P_addPart_34 : decode prog_5_method_6_code 34 = .ok (.istore 6, 2) := by decide +kernel
theorem d_P_addPart_36 : decode prog_5_method_6_code 36 = .ok (.iload 4, 2) := by decide +kernel
theorem d_P_addPart_38 : decode prog_5_method_6_code 38 = .ok (.iload 5, 2) := by decide +kernel
theorem d_P_addPart_40 : decode prog_5_method_6_code 40 = .ok (.if_icmp .gt 33, 3) := by decide +kernel
theorem d_P_addPart_43 : decode prog_5_method_6_code 43 = .ok (.aload_n 0, 1) := by decide +kernel
theorem d_P_addPart_44 : decode prog_5_method_6_code 44 = .ok (.aload_n 1, 1) := by decide +kernel
theorem d_P_addPart_45 : decode prog_5_method_6_code 45 = .ok (.iload_n 2, 1) := by decide +kernel
theorem d_P_addPart_46 : decode prog_5_method_6_code 46 = .ok (.iload 5, 2) := by decide +kernel
theorem d_P_addPart_48 : decode prog_5_method_6_code 48 = .ok (.iload 4, 2) := by decide +kernel
theorem d_P_addPart_50 : decode prog_5_method_6_code 50 = .ok (.invokevirtual 50, 3) := by decide +kernel
theorem d_P_addPart_53 : decode prog_5_method_6_code 53 = .ok (.aload_n 0, 1) := by decide +kernel
theorem d_P_addPart_54 : decode prog_5_method_6_code 54 = .ok (.getfield 10, 3) := by decide +kernel
theorem d_P_addPart_57 : decode prog_5_method_6_code 57 = .ok (.aload_n 1, 1) := by decide +kernel
theorem d_P_addPart_58 : decode prog_5_method_6_code 58 = .ok (.iload 6, 2) := by decide +kernel
theorem d_P_addPart_60 : decode prog_5_method_6_code 60 = .ok (.iload_n 3, 1) := by decide +kernel
theorem d_P_addPart_61 : decode prog_5_method_6_code 61 = .ok (.iload 5, 2) := by decide +kernel
theorem d_P_addPart_63 : decode prog_5_method_6_code 63 = .ok (.isub, 1) := by decide +kernel
theorem d_P_addPart_64 : decode prog_5_method_6_code 64 = .ok (.invokevirtual 59, 3) := by decide +kernel
theorem d_P_addPart_67 : decode prog_5_method_6_code 67 = .ok (.invokevirtual 63, 3) := by decide +kernel
theorem d_P_addPart_70 : decode prog_5_method_6_code 70 = .ok (.goto 33, 3) := by decide +kernel
theorem d_P_addPart_73 : decode prog_5_method_6_code 73 = .ok (.aload_n 0, 1) := by decide +kernel
theorem d_P_addPart_74 : decode prog_5_method_6_code 74 = .ok (.aload_n 1, 1) := by decide +kernel
theorem d_P_addPart_75 : decode prog_5_method_6_code 75 = .ok (.iload 6, 2) := by decide +kernel
theorem d_P_addPart_77 : decode prog_5_method_6_code 77 = .ok (.iload_n 3, 1) := by decide +kernel
theorem d_P_addPart_78 : decode prog_5_method_6_code 78 = .ok (.iload 5, 2) := by decide +kernel
theorem d_P_addPart_80 : decode prog_5_method_6_code 80 = .ok (.isub, 1) := by decide +kernel
theorem d_P_addPart_81 : decode prog_5_method_6_code 81 = .ok (.iload 4, 2) := by decide +kernel
theorem d_P_addPart_83 : decode prog_5_method_6_code 83 = .ok (.iload 5, 2) := by decide +kernel
theorem d_P_addPart_85 : decode prog_5_method_6_code 85 = .ok (.isub, 1) := by decide +kernel
theorem d_P_addPart_86 : decode prog_5_method_6_code 86 = .ok (.invokevirtual 50, 3) := by decide +kernel
theorem d_P_addPart_89 : decode prog_5_method_6_code 89 = .ok (.aload_n 0, 1) := by decide +kernel
theorem d_P_addPart_90 : decode prog_5_method_6_code 90 = .ok (.getfield 10, 3) := by decide +kernel
theorem d_P_addPart_93 : decode prog_5_method_6_code 93 = .ok (.aload_n 1, 1) := by decide +kernel
theorem d_P_addPart_94 : decode prog_5_method_6_code 94 = .ok (.iload_n 2, 1) := by decide +kernel
theorem d_P_addPart_95 : decode prog_5_method_6_code 95 = .ok (.iload 5, 2) := by decide +kernel
theorem d_P_addPart_97 : decode prog_5_method_6_code 97 = .ok (.invokevirtual 59, 3) := by decide +kernel
theorem d_P_addPart_100 : decode prog_5_method_6_code 100 = .ok (.invokevirtual 63, 3) := by decide +kernel
theorem d_P_addPart_103 : decode prog_5_method_6_code 103 = .ok (.return_, 1) := by decide +kernel
theorem d_K_verify_0 : decode prog_1_method_18_code 0 = .ok (.iload_n 2, 1) := by decide +kernel
theorem d_K_verify_1 : decode prog_1_method_18_code 1 = .ok (.iconst 1, 1) := by decide +kernel
theorem d_K_verify_2 : decode prog_1_method_18_code 2 = .ok (.if_icmp .lt 22, 3) := by decide +kernel
theorem d_K_verify_5 : decode prog_1_method_18_code 5 = .ok (.iload_n 2, 1) := by decide +kernel
theorem d_K_verify_6 : decode prog_1_method_18_code 6 = .ok (.bipush 16, 2) := by decide +kernel
theorem d_K_verify_8 : decode prog_1_method_18_code 8 = .ok (.if_icmp .gt 16, 3) := by decide +kernel
theorem d_K_verify_11 : decode prog_1_method_18_code 11 = .ok (.iload_n 3, 1) := by decide +kernel
theorem d_K_verify_12 : decode prog_1_method_18_code 12 = .ok (.ifCond .lt 12, 3) := by decide +kernel
theorem d_K_verify_15 : decode prog_1_method_18_code 15 = .ok (.iload_n 3, 1) := by decide +kernel
theorem d_K_verify_16 : decode prog_1_method_18_code 16 = .ok (.iload_n 2, 1) := by decide +kernel
theorem d_K_verify_17 : decode prog_1_method_18_code 17 = .ok (.if_icmp .ge 7, 3) := by decide +kernel
theorem d_K_verify_20 : decode prog_1_method_18_code 20 = .ok (.iconst 1, 1) := by decide +kernel
theorem d_K_verify_21 : decode prog_1_method_18_code 21 = .ok (.goto 4, 3) := by decide +kernel
theorem d_K_verify_24 : decode prog_1_method_18_code 24 = .ok (.iconst 0, 1) := by decide +kernel
theorem d_K_verify_25 : decode prog_1_method_18_code 25 = .ok (.invokestatic 144, 3) := by decide +kernel
theorem d_K_verify_28 : decode prog_1_method_18_code 28 = .ok (.iload 4, 2) := by decide +kernel
end
section
theorem d_K_verify_30 : decode prog_1_method_18_code 30 = .ok (.invokestatic 51, 3) := by decide +kernel
theorem d_K_verify_33 : decode prog_1_method_18_code 33 = .ok (.aload_n 0, 1) := by decide +kernel
theorem d_K_verify_34 : decode prog_1_method_18_code 34 = .ok (.getfield 47, 3) := by decide +kernel
theorem d_K_verify_37 : decode prog_1_method_18_code 37 = .ok (.iload_n 1, 1) := by decide +kernel
theorem d_K_verify_38 : decode prog_1_method_18_code 38 = .ok (.iload_n 2, 1) := by decide +kernel
theorem d_K_verify_39 : decode prog_1_method_18_code 39 = .ok (.iload_n 3, 1) := by decide +kernel
theorem d_K_verify_40 : decode prog_1_method_18_code 40 = .ok (.iload 4, 2) := by decide +kernel
theorem d_K_verify_42 : decode prog_1_method_18_code 42 = .ok (.invokevirtual 179, 3) := by decide +kernel
theorem d_K_verify_45 : decode prog_1_method_18_code 45 = .ok (.istore 5, 2) := by decide +kernel
theorem d_K_verify_47 : decode prog_1_method_18_code 47 = .ok (.aload_n 0, 1) := by decide +kernel
theorem d_K_verify_48 : decode prog_1_method_18_code 48 = .ok (.getfield 47, 3) := by decide +kernel
theorem d_K_verify_51 : decode prog_1_method_18_code 51 = .ok (.getfield 168, 3) := by decide +kernel
theorem d_K_verify_54 : decode prog_1_method_18_code 54 = .ok (.invokevirtual 183, 3) := by decide +kernel
theorem d_K_verify_57 : decode prog_1_method_18_code 57 = .ok (.iload 5, 2) := by decide +kernel
theorem d_K_verify_59 : decode prog_1_method_18_code 59 = .ok (.ifCond .ne 5, 3) := by decide +kernel
theorem d_K_verify_62 : decode prog_1_method_18_code 62 = .ok (.iconst 0, 1) := by decide +kernel
theorem d_K_verify_63 : decode prog_1_method_18_code 63 = .ok (.ireturn, 1) := by decide +kernel
theorem d_K_verify_64 : decode prog_1_method_18_code 64 = .ok (.aload_n 0, 1) := by decide +kernel
theorem d_K_verify_65 : decode prog_1_method_18_code 65 = .ok (.getfield 47, 3) := by decide +kernel
theorem d_K_verify_68 : decode prog_1_method_18_code 68 = .ok (.iload 4, 2) := by decide +kernel
theorem d_K_verify_70 : decode prog_1_method_18_code 70 = .ok (.invokevirtual 186, 3) := by decide +kernel
theorem d_K_verify_73 : decode prog_1_method_18_code 73 = .ok (.ifCond .eq 7, 3) := by decide +kernel
theorem d_K_verify_76 : decode prog_1_method_18_code 76 = .ok (.iconst 2, 1) := by decide +kernel
theorem d_K_verify_77 : decode prog_1_method_18_code 77 = .ok (.goto 4, 3) := by decide +kernel
theorem d_K_verify_80 : decode prog_1_method_18_code 80 = .ok (.iconst 1, 1) := by decide +kernel
theorem d_K_verify_81 : decode prog_1_method_18_code 81 = .ok (.ireturn, 1) := by decide +kernel
theorem d_V_takesProof_0 : decode prog_9_method_2_code 0 = .ok (.aload_n 0, 1) := by decide +kernel
theorem d_V_takesProof_1 : decode prog_9_method_2_code 1 = .ok (.iconst 0, 1) := by decide +kernel
theorem d_V_takesProof_2 : decode prog_9_method_2_code 2 = .ok (.putfield 22, 3) := by decide +kernel
theorem d_V_takesProof_5 : decode prog_9_method_2_code 5 = .ok (.iconst 1, 1) := by decide +kernel
theorem d_V_takesProof_6 : decode prog_9_method_2_code 6 = .ok (.iconst 4, 1) := by decide +kernel
theorem d_V_takesProof_7 : decode prog_9_method_2_code 7 = .ok (.aload_n 0, 1) := by decide +kernel
theorem d_V_takesProof_8 : decode prog_9_method_2_code 8 = .ok (.invokevirtual 49, 3) := by decide +kernel
theorem d_V_takesProof_11 : decode prog_9_method_2_code 11 = .ok (.imul, 1) := by decide +kernel
theorem d_V_takesProof_12 : decode prog_9_method_2_code 12 = .ok (.iadd, 1) := by decide +kernel
theorem d_V_takesProof_13 : decode prog_9_method_2_code 13 = .ok (.istore 5, 2) := by decide +kernel
theorem d_V_takesProof_15 : decode prog_9_method_2_code 15 = .ok (.aload_n 0, 1) := by decide +kernel
theorem d_V_takesProof_16 : decode prog_9_method_2_code 16 = .ok (.iload 5, 2) := by decide +kernel
theorem d_V_takesProof_18 : decode prog_9_method_2_code 18 = .ok (.putfield 22, 3) := by decide +kernel
theorem d_V_takesProof_21 : decode prog_9_method_2_code 21 = .ok (.aload_n 0, 1) := by decide +kernel
theorem d_V_takesProof_22 : decode prog_9_method_2_code 22 = .ok (.iload 4, 2) := by decide +kernel
theorem d_V_takesProof_24 : decode prog_9_method_2_code 24 = .ok (.invokevirtual 53, 3) := by decide +kernel
theorem d_V_takesProof_27 : decode prog_9_method_2_code 27 = .ok (.ifCond .eq 17, 3) := by decide +kernel
theorem d_V_takesProof_30 : decode prog_9_method_2_code 30 = .ok (.aload_n 0, 1) := by decide +kernel
theorem d_V_takesProof_31 : decode prog_9_method_2_code 31 = .ok (.getfield 22, 3) := by decide +kernel
theorem d_V_takesProof_34 : decode prog_9_method_2_code 34 = .ok (.aload_n 0, 1) := by decide +kernel
theorem d_V_takesProof_35 : decode prog_9_method_2_code 35 = .ok (.getfield 12, 3) := by decide +kernel
theorem d_V_takesProof_38 : decode prog_9_method_2_code 38 = .ok (.getfield 57, 3) := by decide +kernel
theorem d_V_takesProof_41 : decode prog_9_method_2_code 41 = .ok (.if_icmp .eq 5, 3) := by decide +kernel
theorem d_V_takesProof_44 : decode prog_9_method_2_code 44 = .ok (.iconst 0, 1) := by decide +kernel
theorem d_V_takesProof_45 : decode prog_9_method_2_code 45 = .ok (.ireturn, 1) := by decide +kernel
theorem d_V_takesProof_46 : decode prog_9_method_2_code 46 = .ok (.aload_n 0, 1) := by decide +kernel
theorem d_V_takesProof_47 : decode prog_9_method_2_code 47 = .ok (.iconst 1, 1) := by decide +kernel
theorem d_V_takesProof_48 : decode prog_9_method_2_code 48 = .ok (.putfield 22, 3) := by decide +kernel
theorem d_V_takesProof_51 : decode prog_9_method_2_code 51 = .ok (.aload_n 0, 1) := by decide +kernel
theorem d_V_takesProof_52 : decode prog_9_method_2_code 52 = .ok (.iload_n 3, 1) := by decide +kernel
theorem d_V_takesProof_53 : decode prog_9_method_2_code 53 = .ok (.aload_n 0, 1) := by decide +kernel
theorem d_V_takesProof_54 : decode prog_9_method_2_code 54 = .ok (.getfield 28, 3) := by decide +kernel
theorem d_V_takesProof_57 : decode prog_9_method_2_code 57 = .ok (.invokestatic 60, 3) := by decide +kernel
theorem d_V_takesProof_60 : decode prog_9_method_2_code 60 = .ok (.iload_n 3, 1) := by decide +kernel
theorem d_V_takesProof_61 : decode prog_9_method_2_code 61 = .ok (.iload_n 2, 1) := by decide +kernel
theorem d_V_takesProof_62 : decode prog_9_method_2_code 62 = .ok (.invokevirtual 64, 3) := by decide +kernel
theorem d_V_takesProof_65 : decode prog_9_method_2_code 65 = .ok (.istore 6, 2) := by decide +kernel
theorem d_V_takesProof_67 : decode prog_9_method_2_code 67 = .ok (.aload_n 0, 1) := by decide +kernel
theorem d_V_takesProof_68 : decode prog_9_method_2_code 68 = .ok (.getfield 22, 3) := by decide +kernel
theorem d_V_takesProof_71 : decode prog_9_method_2_code 71 = .ok (.iload 5, 2) := by decide +kernel
theorem d_V_takesProof_73 : decode prog_9_method_2_code 73 = .ok (.if_icmp .ne 13, 3) := by decide +kernel
theorem d_V_takesProof_76 : decode prog_9_method_2_code 76 = .ok (.iload 6, 2) := by decide +kernel
theorem d_V_takesProof_78 : decode prog_9_method_2_code 78 = .ok (.iload_n 1, 1) := by decide +kernel
theorem d_V_takesProof_79 : decode prog_9_method_2_code 79 = .ok (.if_icmp .ne 7, 3) := by decide +kernel
theorem d_V_takesProof_82 : decode prog_9_method_2_code 82 = .ok (.iconst 1, 1) := by decide +kernel
theorem d_V_takesProof_83 : decode prog_9_method_2_code 83 = .ok (.goto 4, 3) := by decide +kernel
theorem d_V_takesProof_86 : decode prog_9_method_2_code 86 = .ok (.iconst 0, 1) := by decide +kernel
theorem d_V_takesProof_87 : decode prog_9_method_2_code 87 = .ok (.ireturn, 1) := by decide +kernel
theorem d_V_nextByte_0 : decode prog_9_method_5_code 0 = .ok (.aload_n 0, 1) := by decide +kernel
theorem d_V_nextByte_1 : decode prog_9_method_5_code 1 = .ok (.getfield 12, 3) := by decide +kernel
theorem d_V_nextByte_4 : decode prog_9_method_5_code 4 = .ok (.aload_n 0, 1) := by decide +kernel
theorem d_V_nextByte_5 : decode prog_9_method_5_code 5 = .ok (.getfield 22, 3) := by decide +kernel
theorem d_V_nextByte_8 : decode prog_9_method_5_code 8 = .ok (.invokevirtual 72, 3) := by decide +kernel
theorem d_V_nextByte_11 : decode prog_9_method_5_code 11 = .ok (.istore_n 1, 1) := by decide +kernel
theorem d_V_nextByte_12 : decode prog_9_method_5_code 12 = .ok (.aload_n 0, 1) := by decide +kernel
theorem d_V_nextByte_13 : decode prog_9_method_5_code 13 = .ok (.dup, 1) := by decide +kernel
theorem d_V_nextByte_14 : decode prog_9_method_5_code 14 = .ok (.getfield 22, 3) := by decide +kernel
theorem d_V_nextByte_17 : decode prog_9_method_5_code 17 = .ok (.iconst 1, 1) := by decide +kernel
theorem d_V_nextByte_18 : decode prog_9_method_5_code 18 = .ok (.iadd, 1) := by decide +kernel
theorem d_V_nextByte_19 : decode prog_9_method_5_code 19 = .ok (.putfield 22, 3) := by decide +kernel
theorem d_V_nextByte_22 : decode prog_9_method_5_code 22 = .ok (.iload_n 1, 1) := by decide +kernel
theorem d_V_nextByte_23 : decode prog_9_method_5_code 23 = .ok (.iconst (-1), 1) := by decide +kernel
theorem d_V_nextByte_24 : decode prog_9_method_5_code 24 = .ok (.if_icmp .ne 7, 3) := by decide +kernel
theorem d_V_nextByte_27 : decode prog_9_method_5_code 27 = .ok (.iconst 0, 1) := by decide +kernel
theorem d_V_nextByte_28 : decode prog_9_method_5_code 28 = .ok (.goto 4, 3) := by decide +kernel
theorem d_V_nextByte_31 : decode prog_9_method_5_code 31 = .ok (.iload_n 1, 1) := by decide +kernel
theorem d_V_nextByte_32 : decode prog_9_method_5_code 32 = .ok (.ireturn, 1) := by decide +kernel
theorem d_V_readTree_0 : decode prog_9_method_7_code 0 = .ok (.aload_n 0, 1) := by decide +kernel
theorem d_V_readTree_1 : decode prog_9_method_7_code 1 = .ok (.aload_n 0, 1) := by decide +kernel
theorem d_V_readTree_2 : decode prog_9_method_7_code 2 = .ok (.invokevirtual 49, 3) := by decide +kernel
theorem d_V_readTree_5 : decode prog_9_method_7_code 5 = .ok (.putfield 25, 3) := by decide +kernel
theorem d_V_readTree_8 : decode prog_9_method_7_code 8 = .ok (.aload_n 0, 1) := by decide +kernel
theorem d_V_readTree_9 : decode prog_9_method_7_code 9 = .ok (.iconst 0, 1) := by decide +kernel
theorem d_V_readTree_10 : decode prog_9_method_7_code 10 = .ok (.putfield 28, 3) := by decide +kernel
theorem d_V_readTree_13 : decode prog_9_method_7_code 13 = .ok (.aload_n 0, 1) := by decide +kernel
theorem d_V_readTree_14 : decode prog_9_method_7_code 14 = .ok (.getfield 25, 3) := by decide +kernel
theorem d_V_readTree_17 : decode prog_9_method_7_code 17 = .ok (.bipush 6, 2) := by decide +kernel
theorem d_V_readTree_19 : decode prog_9_method_7_code 19 = .ok (.if_icmp .le 5, 3) := by decide +kernel
theorem d_V_readTree_22 : decode prog_9_method_7_code 22 = .ok (.iconst 0, 1) := by decide +kernel
theorem d_V_readTree_23 : decode prog_9_method_7_code 23 = .ok (.ireturn, 1) := by decide +kernel
theorem d_V_readTree_24 : decode prog_9_method_7_code 24 = .ok (.aload_n 0, 1) := by decide +kernel
theorem d_V_readTree_25 : decode prog_9_method_7_code 25 = .ok (.getfield 25, 3) := by decide +kernel
theorem d_V_readTree_28 : decode prog_9_method_7_code 28 = .ok (.iconst 1, 1) := by decide +kernel
theorem d_V_readTree_29 : decode prog_9_method_7_code 29 = .ok (.isub, 1) := by decide +kernel
theorem d_V_readTree_30 : decode prog_9_method_7_code 30 = .ok (.istore_n 2, 1) := by decide +kernel
theorem d_V_readTree_31 : decode prog_9_method_7_code 31 = .ok (.iload_n 2, 1) := by decide +kernel
theorem d_V_readTree_32 : decode prog_9_method_7_code 32 = .ok (.ifCond .lt 71, 3) := by decide +kernel
theorem d_V_readTree_35 : decode prog_9_method_7_code 35 = .ok (.aload_n 0, 1) := by decide +kernel
theorem d_V_readTree_36 : decode prog_9_method_7_code 36 = .ok (.getfield 37, 3) := by decide +kernel
theorem d_V_readTree_39 : decode prog_9_method_7_code 39 = .ok (.istore_n 3, 1) := by decide +kernel
theorem d_V_readTree_40 : decode prog_9_method_7_code 40 = .ok (.aload_n 0, 1) := by decide +kernel
theorem d_V_readTree_41 : decode prog_9_method_7_code 41 = .ok (.getfield 40, 3) := by decide +kernel
theorem d_V_readTree_44 : decode prog_9_method_7_code 44 = .ok (.istore 4, 2) := by decide +kernel
theorem d_V_readTree_46 : decode prog_9_method_7_code 46 = .ok (.aload_n 0, 1) := by decide +kernel
theorem d_V_readTree_47 : decode prog_9_method_7_code 47 = .ok (.iload_n 2, 1) := by decide +kernel
theorem d_V_readTree_48 : decode prog_9_method_7_code 48 = .ok (.iload_n 1, 1) := by decide +kernel
theorem d_V_readTree_49 : decode prog_9_method_7_code 49 = .ok (.invokevirtual 76, 3) := by decide +kernel
theorem d_V_readTree_52 : decode prog_9_method_7_code 52 = .ok (.ifCond .ne 5, 3) := by decide +kernel
theorem d_V_readTree_55 : decode prog_9_method_7_code 55 = .ok (.iconst 0, 1) := by decide +kernel
theorem d_V_readTree_56 : decode prog_9_method_7_code 56 = .ok (.ireturn, 1) := by decide +kernel
theorem d_V_readTree_57 : decode prog_9_method_7_code 57 = .ok (.iload_n 2, 1) := by decide +kernel
theorem d_V_readTree_58 : decode prog_9_method_7_code 58 = .ok (.aload_n 0, 1) := by decide +kernel
theorem d_V_readTree_59 : decode prog_9_method_7_code 59 = .ok (.getfield 25, 3) := by decide +kernel
theorem d_V_readTree_62 : decode prog_9_method_7_code 62 = .ok (.iconst 1, 1) := by decide +kernel
theorem d_V_readTree_63 : decode prog_9_method_7_code 63 = .ok (.isub, 1) := by decide +kernel
theorem d_V_readTree_64 : decode prog_9_method_7_code 64 = .ok (.if_icmp .ne 14, 3) := by decide +kernel
theorem d_V_readTree_67 : decode prog_9_method_7_code 67 = .ok (.aload_n 0, 1) := by decide +kernel
theorem d_V_readTree_68 : decode prog_9_method_7_code 68 = .ok (.aload_n 0, 1) := by decide +kernel
theorem d_V_readTree_69 : decode prog_9_method_7_code 69 = .ok (.getfield 31, 3) := by decide +kernel
theorem d_V_readTree_72 : decode prog_9_method_7_code 72 = .ok (.putfield 28, 3) := by decide +kernel
theorem d_V_readTree_75 : decode prog_9_method_7_code 75 = .ok (.goto 22, 3) := by decide +kernel
theorem d_V_readTree_78 : decode prog_9_method_7_code 78 = .ok (.aload_n 0, 1) := by decide +kernel
theorem d_V_readTree_79 : decode prog_9_method_7_code 79 = .ok (.getfield 34, 3) := by decide +kernel
theorem d_V_readTree_82 : decode prog_9_method_7_code 82 = .ok (.iload_n 3, 1) := by decide +kernel
theorem d_V_readTree_83 : decode prog_9_method_7_code 83 = .ok (.if_icmp .ne 12, 3) := by decide +kernel
theorem d_V_readTree_86 : decode prog_9_method_7_code 86 = .ok (.aload_n 0, 1) := by decide +kernel
theorem d_V_readTree_87 : decode prog_9_method_7_code 87 = .ok (.getfield 31, 3) := by decide +kernel
theorem d_V_readTree_90 : decode prog_9_method_7_code 90 = .ok (.iload 4, 2) := by decide +kernel
theorem d_V_readTree_92 : decode prog_9_method_7_code 92 = .ok (.if_icmp .eq 5, 3) := by decide +kernel
theorem d_V_readTree_95 : decode prog_9_method_7_code 95 = .ok (.iconst 0, 1) := by decide +kernel
theorem d_V_readTree_96 : decode prog_9_method_7_code 96 = .ok (.ireturn, 1) := by decide +kernel
theorem d_V_readTree_97 : decode prog_9_method_7_code 97 = .ok (.iinc 2 (-1), 3) := by decide +kernel
theorem d_V_readTree_100 : decode prog_9_method_7_code 100 = .ok (.goto (-69), 3) := by decide +kernel
theorem d_V_readTree_103 : decode prog_9_method_7_code 103 = .ok (.iconst 1, 1) := by decide +kernel
theorem d_V_readTree_104 : decode prog_9_method_7_code 104 = .ok (.ireturn, 1) := by decide +kernel
theorem d_V_readChunk_0 : decode prog_9_method_8_code 0 = .ok (.aload_n 0, 1) := by decide +kernel
theorem d_V_readChunk_1 : decode prog_9_method_8_code 1 = .ok (.invokevirtual 49, 3) := by decide +kernel
theorem d_V_readChunk_4 : decode prog_9_method_8_code 4 = .ok (.istore_n 3, 1) := by decide +kernel
theorem d_V_readChunk_5 : decode prog_9_method_8_code 5 = .ok (.iload_n 3, 1) := by decide +kernel
theorem d_V_readChunk_6 : decode prog_9_method_8_code 6 = .ok (.iconst 1, 1) := by decide +kernel
theorem d_V_readChunk_7 : decode prog_9_method_8_code 7 = .ok (.if_icmp .lt 9, 3) := by decide +kernel
theorem d_V_readChunk_10 : decode prog_9_method_8_code 10 = .ok (.iload_n 3, 1) := by decide +kernel
theorem d_V_readChunk_11 : decode prog_9_method_8_code 11 = .ok (.bipush 48, 2) := by decide +kernel
theorem d_V_readChunk_13 : decode prog_9_method_8_code 13 = .ok (.if_icmp .le 5, 3) := by decide +kernel
theorem d_V_readChunk_16 : decode prog_9_method_8_code 16 = .ok (.iconst 0, 1) := by decide +kernel
theorem d_V_readChunk_17 : decode prog_9_method_8_code 17 = .ok (.ireturn, 1) := by decide +kernel
theorem d_V_readChunk_18 : decode prog_9_method_8_code 18 = .ok (.aload_n 0, 1) := by decide +kernel
theorem d_V_readChunk_19 : decode prog_9_method_8_code 19 = .ok (.bipush 6, 2) := by decide +kernel
theorem d_V_readChunk_21 : decode prog_9_method_8_code 21 = .ok (.iload_n 1, 1) := by decide +kernel
theorem d_V_readChunk_22 : decode prog_9_method_8_code 22 = .ok (.invokestatic 80, 3) := by decide +kernel
theorem d_V_readChunk_25 : decode prog_9_method_8_code 25 = .ok (.putfield 31, 3) := by decide +kernel
theorem d_V_readChunk_28 : decode prog_9_method_8_code 28 = .ok (.aload_n 0, 1) := by decide +kernel
theorem d_V_readChunk_29 : decode prog_9_method_8_code 29 = .ok (.iconst (-1), 1) := by decide +kernel
theorem d_V_readChunk_30 : decode prog_9_method_8_code 30 = .ok (.putfield 34, 3) := by decide +kernel
theorem d_V_readChunk_33 : decode prog_9_method_8_code 33 = .ok (.aload_n 0, 1) := by decide +kernel
theorem d_V_readChunk_34 : decode prog_9_method_8_code 34 = .ok (.iconst (-1), 1) := by decide +kernel
theorem d_V_readChunk_35 : decode prog_9_method_8_code 35 = .ok (.putfield 37, 3) := by decide +kernel
theorem d_V_readChunk_38 : decode prog_9_method_8_code 38 = .ok (.iconst 0, 1) := by decide +kernel
theorem d_V_readChunk_39 : decode prog_9_method_8_code 39 = .ok (.istore 4, 2) := by decide +kernel
theorem d_V_readChunk_41 : decode prog_9_method_8_code 41 = .ok (.iload 4, 2) := by decide +kernel
theorem d_V_readChunk_43 : decode prog_9_method_8_code 43 = .ok (.iload_n 3, 1) := by decide +kernel
theorem d_V_readChunk_44 : decode prog_9_method_8_code 44 = .ok (.if_icmp .ge 83, 3) := by decide +kernel
theorem d_V_readChunk_47 : decode prog_9_method_8_code 47 = .ok (.aload_n 0, 1) := by decide +kernel
theorem d_V_readChunk_48 : decode prog_9_method_8_code 48 = .ok (.invokevirtual 49, 3) := by decide +kernel
theorem d_V_readChunk_51 : decode prog_9_method_8_code 51 = .ok (.istore 5, 2) := by decide +kernel
theorem d_V_readChunk_53 : decode prog_9_method_8_code 53 = .ok (.aload_n 0, 1) := by decide +kernel
theorem d_V_readChunk_54 : decode prog_9_method_8_code 54 = .ok (.invokevirtual 83, 3) := by decide +kernel
theorem d_V_readChunk_57 : decode prog_9_method_8_code 57 = .ok (.istore 6, 2) := by decide +kernel
theorem d_V_readChunk_59 : decode prog_9_method_8_code 59 = .ok (.iload 5, 2) := by decide +kernel
theorem d_V_readChunk_61 : decode prog_9_method_8_code 61 = .ok (.aload_n 0, 1) := by decide +kernel
theorem d_V_readChunk_62 : decode prog_9_method_8_code 62 = .ok (.getfield 34, 3) := by decide +kernel
theorem d_V_readChunk_65 : decode prog_9_method_8_code 65 = .ok (.if_icmp .le 10, 3) := by decide +kernel
theorem d_V_readChunk_68 : decode prog_9_method_8_code 68 = .ok (.iload 5, 2) := by decide +kernel
theorem d_V_readChunk_70 : decode prog_9_method_8_code 70 = .ok (.bipush 48, 2) := by decide +kernel
theorem d_V_readChunk_72 : decode prog_9_method_8_code 72 = .ok (.if_icmp .lt 5, 3) := by decide +kernel
theorem d_V_readChunk_75 : decode prog_9_method_8_code 75 = .ok (.iconst 0, 1) := by decide +kernel
theorem d_V_readChunk_76 : decode prog_9_method_8_code 76 = .ok (.ireturn, 1) := by decide +kernel
theorem d_V_readChunk_77 : decode prog_9_method_8_code 77 = .ok (.aload_n 0, 1) := by decide +kernel
theorem d_V_readChunk_78 : decode prog_9_method_8_code 78 = .ok (.aload_n 0, 1) := by decide +kernel
theorem d_V_readChunk_79 : decode prog_9_method_8_code 79 = .ok (.getfield 31, 3) := by decide +kernel
theorem d_V_readChunk_82 : decode prog_9_method_8_code 82 = .ok (.iload 5, 2) := by decide +kernel
theorem d_V_readChunk_84 : decode prog_9_method_8_code 84 = .ok (.invokestatic 80, 3) := by decide +kernel
theorem d_V_readChunk_87 : decode prog_9_method_8_code 87 = .ok (.iload 6, 2) := by decide +kernel
theorem d_V_readChunk_89 : decode prog_9_method_8_code 89 = .ok (.invokestatic 80, 3) := by decide +kernel
theorem d_V_readChunk_92 : decode prog_9_method_8_code 92 = .ok (.putfield 31, 3) := by decide +kernel
theorem d_V_readChunk_95 : decode prog_9_method_8_code 95 = .ok (.aload_n 0, 1) := by decide +kernel
theorem d_V_readChunk_96 : decode prog_9_method_8_code 96 = .ok (.iload 5, 2) := by decide +kernel
theorem d_V_readChunk_98 : decode prog_9_method_8_code 98 = .ok (.putfield 34, 3) := by decide +kernel
theorem d_V_readChunk_101 : decode prog_9_method_8_code 101 = .ok (.aload_n 0, 1) := by decide +kernel
theorem d_V_readChunk_102 : decode prog_9_method_8_code 102 = .ok (.getfield 37, 3) := by decide +kernel
theorem d_V_readChunk_105 : decode prog_9_method_8_code 105 = .ok (.iload_n 2, 1) := by decide +kernel
theorem d_V_readChunk_106 : decode prog_9_method_8_code 106 = .ok (.if_icmp .ge 15, 3) := by decide +kernel
theorem d_V_readChunk_109 : decode prog_9_method_8_code 109 = .ok (.aload_n 0, 1) := by decide +kernel
theorem d_V_readChunk_110 : decode prog_9_method_8_code 110 = .ok (.iload 5, 2) := by decide +kernel
theorem d_V_readChunk_112 : decode prog_9_method_8_code 112 = .ok (.putfield 37, 3) := by decide +kernel
theorem d_V_readChunk_115 : decode prog_9_method_8_code 115 = .ok (.aload_n 0, 1) := by decide +kernel
theorem d_V_readChunk_116 : decode prog_9_method_8_code 116 = .ok (.iload 6, 2) := by decide +kernel
theorem d_V_readChunk_118 : decode prog_9_method_8_code 118 = .ok (.putfield 40, 3) := by decide +kernel
theorem d_V_readChunk_121 : decode prog_9_method_8_code 121 = .ok (.iinc 4 1, 3) := by decide +kernel
theorem d_V_readChunk_124 : decode prog_9_method_8_code 124 = .ok (.goto (-83), 3) := by decide +kernel
theorem d_V_readChunk_127 : decode prog_9_method_8_code 127 = .ok (.iconst 1, 1) := by decide +kernel
theorem d_V_readChunk_128 : decode prog_9_method_8_code 128 = .ok (.ireturn, 1) := by decide +kernel
theorem d_V_nextInt_0 : decode prog_9_method_6_code 0 = .ok (.iconst 0, 1) := by decide +kernel
theorem d_V_nextInt_1 : decode prog_9_method_6_code 1 = .ok (.istore_n 1, 1) := by decide +kernel
theorem d_V_nextInt_2 : decode prog_9_method_6_code 2 = .ok (.iconst 0, 1) := by decide +kernel
theorem d_V_nextInt_3 : decode prog_9_method_6_code 3 = .ok (.istore_n 2, 1) := by decide +kernel
theorem d_V_nextInt_4 : decode prog_9_method_6_code 4 = .ok (.iload_n 2, 1) := by decide +kernel
theorem d_V_nextInt_5 : decode prog_9_method_6_code 5 = .ok (.iconst 4, 1) := by decide +kernel
theorem d_V_nextInt_6 : decode prog_9_method_6_code 6 = .ok (.if_icmp .ge 19, 3) := by decide +kernel
theorem d_V_nextInt_9 : decode prog_9_method_6_code 9 = .ok (.iload_n 1, 1) := by decide +kernel
theorem d_V_nextInt_10 : decode prog_9_method_6_code 10 = .ok (.bipush 8, 2) := by decide +kernel
theorem d_V_nextInt_12 : decode prog_9_method_6_code 12 = .ok (.ishl, 1) := by decide +kernel
theorem d_V_nextInt_13 : decode prog_9_method_6_code 13 = .ok (.aload_n 0, 1) := by decide +kernel
theorem d_V_nextInt_14 : decode prog_9_method_6_code 14 = .ok (.invokevirtual 49, 3) := by decide +kernel
theorem d_V_nextInt_17 : decode prog_9_method_6_code 17 = .ok (.ior, 1) := by decide +kernel
theorem d_V_nextInt_18 : decode prog_9_method_6_code 18 = .ok (.istore_n 1, 1) := by decide +kernel
theorem d_V_nextInt_19 : decode prog_9_method_6_code 19 = .ok (.iinc 2 1, 3) := by decide +kernel
theorem d_V_nextInt_22 : decode prog_9_method_6_code 22 = .ok (.goto (-18), 3) := by decide +kernel
theorem d_V_nextInt_25 : decode prog_9_method_6_code 25 = .ok (.iload_n 1, 1) := by decide +kernel
theorem d_V_nextInt_26 : decode prog_9_method_6_code 26 = .ok (.ireturn, 1) := by decide +kernel
theorem d_V_climb_0 : decode prog_9_method_9_code 0 = .ok (.iload_n 3, 1) := by decide +kernel
theorem d_V_climb_1 : decode prog_9_method_9_code 1 = .ok (.iconst 2, 1) := by decide +kernel
theorem d_V_climb_2 : decode prog_9_method_9_code 2 = .ok (.if_icmp .ge 5, 3) := by decide +kernel
theorem d_V_climb_5 : decode prog_9_method_9_code 5 = .ok (.iload_n 1, 1) := by decide +kernel
theorem d_V_climb_6 : decode prog_9_method_9_code 6 = .ok (.ireturn, 1) := by decide +kernel
theorem d_V_climb_7 : decode prog_9_method_9_code 7 = .ok (.iload_n 3, 1) := by decide +kernel
theorem d_V_climb_8 : decode prog_9_method_9_code 8 = .ok (.invokestatic 86, 3) := by decide +kernel
theorem d_V_climb_11 : decode prog_9_method_9_code 11 = .ok (.istore 4, 2) := by decide +kernel
theorem d_V_climb_13 : decode prog_9_method_9_code 13 = .ok (.iload_n 2, 1) := by decide +kernel
theorem d_V_climb_14 : decode prog_9_method_9_code 14 = .ok (.iload 4, 2) := by decide +kernel
theorem d_V_climb_16 : decode prog_9_method_9_code 16 = .ok (.if_icmp .ge 23, 3) := by decide +kernel
theorem d_V_climb_19 : decode prog_9_method_9_code 19 = .ok (.aload_n 0, 1) := by decide +kernel
theorem d_V_climb_20 : decode prog_9_method_9_code 20 = .ok (.iload_n 1, 1) := by decide +kernel
theorem d_V_climb_21 : decode prog_9_method_9_code 21 = .ok (.iload_n 2, 1) := by decide +kernel
theorem d_V_climb_22 : decode prog_9_method_9_code 22 = .ok (.iload 4, 2) := by decide +kernel
theorem d_V_climb_24 : decode prog_9_method_9_code 24 = .ok (.invokevirtual 64, 3) := by decide +kernel
theorem d_V_climb_27 : decode prog_9_method_9_code 27 = .ok (.istore 5, 2) := by decide +kernel
theorem d_V_climb_29 : decode prog_9_method_9_code 29 = .ok (.iload 5, 2) := by decide +kernel
theorem d_V_climb_31 : decode prog_9_method_9_code 31 = .ok (.aload_n 0, 1) := by decide +kernel
theorem d_V_climb_32 : decode prog_9_method_9_code 32 = .ok (.invokevirtual 83, 3) := by decide +kernel
theorem d_V_climb_35 : decode prog_9_method_9_code 35 = .ok (.invokestatic 89, 3) := by decide +kernel
theorem d_V_climb_38 : decode prog_9_method_9_code 38 = .ok (.ireturn, 1) := by decide +kernel
theorem d_V_climb_39 : decode prog_9_method_9_code 39 = .ok (.aload_n 0, 1) := by decide +kernel
theorem d_V_climb_40 : decode prog_9_method_9_code 40 = .ok (.iload_n 1, 1) := by decide +kernel
theorem d_V_climb_41 : decode prog_9_method_9_code 41 = .ok (.iload_n 2, 1) := by decide +kernel
theorem d_V_climb_42 : decode prog_9_method_9_code 42 = .ok (.iload 4, 2) := by decide +kernel
theorem d_V_climb_44 : decode prog_9_method_9_code 44 = .ok (.isub, 1) := by decide +kernel
theorem d_V_climb_45 : decode prog_9_method_9_code 45 = .ok (.iload_n 3, 1) := by decide +kernel
theorem d_V_climb_46 : decode prog_9_method_9_code 46 = .ok (.iload 4, 2) := by decide +kernel
theorem d_V_climb_48 : decode prog_9_method_9_code 48 = .ok (.isub, 1) := by decide +kernel
theorem d_V_climb_49 : decode prog_9_method_9_code 49 = .ok (.invokevirtual 64, 3) := by decide +kernel
theorem d_V_climb_52 : decode prog_9_method_9_code 52 = .ok (.istore 5, 2) := by decide +kernel
theorem d_V_climb_54 : decode prog_9_method_9_code 54 = .ok (.aload_n 0, 1) := by decide +kernel
theorem d_V_climb_55 : decode prog_9_method_9_code 55 = .ok (.invokevirtual 83, 3) := by decide +kernel
theorem d_V_climb_58 : decode prog_9_method_9_code 58 = .ok (.iload 5, 2) := by decide +kernel
theorem d_V_climb_60 : decode prog_9_method_9_code 60 = .ok (.invokestatic 89, 3) := by decide +kernel
theorem d_V_climb_63 : decode prog_9_method_9_code 63 = .ok (.ireturn, 1) := by decide +kernel
theorem d_V_noteValue_0 : decode prog_9_method_3_code 0 = .ok (.aload_n 0, 1) := by decide +kernel
theorem d_V_noteValue_1 : decode prog_9_method_3_code 1 = .ok (.getfield 25, 3) := by decide +kernel
theorem d_V_noteValue_4 : decode prog_9_method_3_code 4 = .ok (.ifCond .eq 11, 3) := by decide +kernel
theorem d_V_noteValue_7 : decode prog_9_method_3_code 7 = .ok (.aload_n 0, 1) := by decide +kernel
theorem d_V_noteValue_8 : decode prog_9_method_3_code 8 = .ok (.getfield 37, 3) := by decide +kernel
theorem d_V_noteValue_11 : decode prog_9_method_3_code 11 = .ok (.iload_n 1, 1) := by decide +kernel
theorem d_V_noteValue_12 : decode prog_9_method_3_code 12 = .ok (.if_icmp .eq 5, 3) := by decide +kernel
theorem d_V_noteValue_15 : decode prog_9_method_3_code 15 = .ok (.iconst 0, 1) := by decide +kernel
theorem d_V_noteValue_16 : decode prog_9_method_3_code 16 = .ok (.ireturn, 1) := by decide +kernel
theorem d_V_noteValue_17 : decode prog_9_method_3_code 17 = .ok (.aload_n 0, 1) := by decide +kernel
theorem d_V_noteValue_18 : decode prog_9_method_3_code 18 = .ok (.aload_n 0, 1) := by decide +kernel
theorem d_V_noteValue_19 : decode prog_9_method_3_code 19 = .ok (.getfield 40, 3) := by decide +kernel
theorem d_V_noteValue_22 : decode prog_9_method_3_code 22 = .ok (.putfield 18, 3) := by decide +kernel
theorem d_V_noteValue_25 : decode prog_9_method_3_code 25 = .ok (.iconst 1, 1) := by decide +kernel
theorem d_V_noteValue_26 : decode prog_9_method_3_code 26 = .ok (.ireturn, 1) := by decide +kernel
theorem d_K_verifyGrowth_0 : decode prog_1_method_20_code 0 = .ok (.iload_n 2, 1) := by decide +kernel
theorem d_K_verifyGrowth_1 : decode prog_1_method_20_code 1 = .ok (.ifCond .le 20, 3) := by decide +kernel
theorem d_K_verifyGrowth_4 : decode prog_1_method_20_code 4 = .ok (.iload_n 2, 1) := by decide +kernel
theorem d_K_verifyGrowth_5 : decode prog_1_method_20_code 5 = .ok (.iload 4, 2) := by decide +kernel
theorem d_K_verifyGrowth_7 : decode prog_1_method_20_code 7 = .ok (.if_icmp .ge 14, 3) := by decide +kernel
theorem d_K_verifyGrowth_10 : decode prog_1_method_20_code 10 = .ok (.iload 4, 2) := by decide +kernel
theorem d_K_verifyGrowth_12 : decode prog_1_method_20_code 12 = .ok (.bipush 16, 2) := by decide +kernel
theorem d_K_verifyGrowth_14 : decode prog_1_method_20_code 14 = .ok (.if_icmp .gt 7, 3) := by decide +kernel
theorem d_K_verifyGrowth_17 : decode prog_1_method_20_code 17 = .ok (.iconst 1, 1) := by decide +kernel
theorem d_K_verifyGrowth_18 : decode prog_1_method_20_code 18 = .ok (.goto 4, 3) := by decide +kernel
theorem d_K_verifyGrowth_21 : decode prog_1_method_20_code 21 = .ok (.iconst 0, 1) := by decide +kernel
theorem d_K_verifyGrowth_22 : decode prog_1_method_20_code 22 = .ok (.invokestatic 144, 3) := by decide +kernel
theorem d_K_verifyGrowth_25 : decode prog_1_method_20_code 25 = .ok (.aload_n 0, 1) := by decide +kernel
theorem d_K_verifyGrowth_26 : decode prog_1_method_20_code 26 = .ok (.getfield 47, 3) := by decide +kernel
theorem d_K_verifyGrowth_29 : decode prog_1_method_20_code 29 = .ok (.iload_n 1, 1) := by decide +kernel
theorem d_K_verifyGrowth_30 : decode prog_1_method_20_code 30 = .ok (.iload_n 2, 1) := by decide +kernel
theorem d_K_verifyGrowth_31 : decode prog_1_method_20_code 31 = .ok (.iload_n 3, 1) := by decide +kernel
theorem d_K_verifyGrowth_32 : decode prog_1_method_20_code 32 = .ok (.iload 4, 2) := by decide +kernel
theorem d_K_verifyGrowth_34 : decode prog_1_method_20_code 34 = .ok (.invokevirtual 192, 3) := by decide +kernel
theorem d_K_verifyGrowth_37 : decode prog_1_method_20_code 37 = .ok (.istore 5, 2) := by decide +kernel
theorem d_K_verifyGrowth_39 : decode prog_1_method_20_code 39 = .ok (.aload_n 0, 1) := by decide +kernel
theorem d_K_verifyGrowth_40 : decode prog_1_method_20_code 40 = .ok (.getfield 47, 3) := by decide +kernel
theorem d_K_verifyGrowth_43 : decode prog_1_method_20_code 43 = .ok (.getfield 168, 3) := by decide +kernel
theorem d_K_verifyGrowth_46 : decode prog_1_method_20_code 46 = .ok (.invokevirtual 183, 3) := by decide +kernel
theorem d_K_verifyGrowth_49 : decode prog_1_method_20_code 49 = .ok (.iload 5, 2) := by decide +kernel
theorem d_K_verifyGrowth_51 : decode prog_1_method_20_code 51 = .ok (.ireturn, 1) := by decide +kernel
theorem d_V_takesGrowth_0 : decode prog_9_method_4_code 0 = .ok (.aload_n 0, 1) := by decide +kernel
theorem d_V_takesGrowth_1 : decode prog_9_method_4_code 1 = .ok (.iconst 0, 1) := by decide +kernel
theorem d_V_takesGrowth_2 : decode prog_9_method_4_code 2 = .ok (.putfield 22, 3) := by decide +kernel
theorem d_V_takesGrowth_5 : decode prog_9_method_4_code 5 = .ok (.iconst 1, 1) := by decide +kernel
theorem d_V_takesGrowth_6 : decode prog_9_method_4_code 6 = .ok (.iconst 4, 1) := by decide +kernel
theorem d_V_takesGrowth_7 : decode prog_9_method_4_code 7 = .ok (.aload_n 0, 1) := by decide +kernel
theorem d_V_takesGrowth_8 : decode prog_9_method_4_code 8 = .ok (.invokevirtual 49, 3) := by decide +kernel
theorem d_V_takesGrowth_11 : decode prog_9_method_4_code 11 = .ok (.imul, 1) := by decide +kernel
theorem d_V_takesGrowth_12 : decode prog_9_method_4_code 12 = .ok (.iadd, 1) := by decide +kernel
theorem d_V_takesGrowth_13 : decode prog_9_method_4_code 13 = .ok (.istore 5, 2) := by decide +kernel
theorem d_V_takesGrowth_15 : decode prog_9_method_4_code 15 = .ok (.aload_n 0, 1) := by decide +kernel
theorem d_V_takesGrowth_16 : decode prog_9_method_4_code 16 = .ok (.iload_n 1, 1) := by decide +kernel
theorem d_V_takesGrowth_17 : decode prog_9_method_4_code 17 = .ok (.iconst 0, 1) := by decide +kernel
theorem d_V_takesGrowth_18 : decode prog_9_method_4_code 18 = .ok (.iload 4, 2) := by decide +kernel
theorem d_V_takesGrowth_20 : decode prog_9_method_4_code 20 = .ok (.iload_n 2, 1) := by decide +kernel
theorem d_V_takesGrowth_21 : decode prog_9_method_4_code 21 = .ok (.invokevirtual 68, 3) := by decide +kernel
theorem d_V_takesGrowth_24 : decode prog_9_method_4_code 24 = .ok (.aload_n 0, 1) := by decide +kernel
theorem d_V_takesGrowth_25 : decode prog_9_method_4_code 25 = .ok (.getfield 22, 3) := by decide +kernel
theorem d_V_takesGrowth_28 : decode prog_9_method_4_code 28 = .ok (.iload 5, 2) := by decide +kernel
theorem d_V_takesGrowth_30 : decode prog_9_method_4_code 30 = .ok (.if_icmp .ne 35, 3) := by decide +kernel
theorem d_V_takesGrowth_33 : decode prog_9_method_4_code 33 = .ok (.iload 5, 2) := by decide +kernel
theorem d_V_takesGrowth_35 : decode prog_9_method_4_code 35 = .ok (.aload_n 0, 1) := by decide +kernel
theorem d_V_takesGrowth_36 : decode prog_9_method_4_code 36 = .ok (.getfield 12, 3) := by decide +kernel
theorem d_V_takesGrowth_39 : decode prog_9_method_4_code 39 = .ok (.getfield 57, 3) := by decide +kernel
theorem d_V_takesGrowth_42 : decode prog_9_method_4_code 42 = .ok (.if_icmp .ne 23, 3) := by decide +kernel
theorem d_V_takesGrowth_45 : decode prog_9_method_4_code 45 = .ok (.aload_n 0, 1) := by decide +kernel
theorem d_V_takesGrowth_46 : decode prog_9_method_4_code 46 = .ok (.getfield 43, 3) := by decide +kernel
theorem d_V_takesGrowth_49 : decode prog_9_method_4_code 49 = .ok (.iload_n 1, 1) := by decide +kernel
theorem d_V_takesGrowth_50 : decode prog_9_method_4_code 50 = .ok (.if_icmp .ne 15, 3) := by decide +kernel
theorem d_V_takesGrowth_53 : decode prog_9_method_4_code 53 = .ok (.aload_n 0, 1) := by decide +kernel
theorem d_V_takesGrowth_54 : decode prog_9_method_4_code 54 = .ok (.getfield 46, 3) := by decide +kernel
theorem d_V_takesGrowth_57 : decode prog_9_method_4_code 57 = .ok (.iload_n 3, 1) := by decide +kernel
theorem d_V_takesGrowth_58 : decode prog_9_method_4_code 58 = .ok (.if_icmp .ne 7, 3) := by decide +kernel
theorem d_V_takesGrowth_61 : decode prog_9_method_4_code 61 = .ok (.iconst 1, 1) := by decide +kernel
theorem d_V_takesGrowth_62 : decode prog_9_method_4_code 62 = .ok (.goto 4, 3) := by decide +kernel
theorem d_V_takesGrowth_65 : decode prog_9_method_4_code 65 = .ok (.iconst 0, 1) := by decide +kernel
theorem d_V_takesGrowth_66 : decode prog_9_method_4_code 66 = .ok (.ireturn, 1) := by decide +kernel
theorem d_V_readPart_0 : decode prog_9_method_10_code 0 = .ok (.iload 4, 2) := by decide +kernel
theorem d_V_readPart_2 : decode prog_9_method_10_code 2 = .ok (.iload_n 3, 1) := by decide +kernel
theorem d_V_readPart_3 : decode prog_9_method_10_code 3 = .ok (.if_icmp .lt 28, 3) := by decide +kernel
theorem d_V_readPart_6 : decode prog_9_method_10_code 6 = .ok (.aload_n 0, 1) := by decide +kernel
theorem d_V_readPart_7 : decode prog_9_method_10_code 7 = .ok (.iload_n 2, 1) := by decide +kernel
theorem d_V_readPart_8 : decode prog_9_method_10_code 8 = .ok (.ifCond .ne 7, 3) := by decide +kernel
theorem d_V_readPart_11 : decode prog_9_method_10_code 11 = .ok (.iload_n 1, 1) := by decide +kernel
theorem d_V_readPart_12 : decode prog_9_method_10_code 12 = .ok (.goto 7, 3) := by decide +kernel
theorem d_V_readPart_15 : decode prog_9_method_10_code 15 = .ok (.aload_n 0, 1) := by decide +kernel
theorem d_V_readPart_16 : decode prog_9_method_10_code 16 = .ok (.invokevirtual 83, 3) := by decide +kernel
theorem d_V_readPart_19 : decode prog_9_method_10_code 19 = .ok (.putfield 43, 3) := by decide +kernel
theorem d_V_readPart_22 : decode prog_9_method_10_code 22 = .ok (.aload_n 0, 1) := by decide +kernel
theorem d_V_readPart_23 : decode prog_9_method_10_code 23 = .ok (.aload_n 0, 1) := by decide +kernel
theorem d_V_readPart_24 : decode prog_9_method_10_code 24 = .ok (.getfield 43, 3) := by decide +kernel
theorem d_V_readPart_27 : decode prog_9_method_10_code 27 = .ok (.putfield 46, 3) := by decide +kernel
theorem d_V_readPart_30 : decode prog_9_method_10_code 30 = .ok (.return_, 1) := by decide +kernel
theorem d_V_readPart_31 : decode prog_9_method_10_code 31 = .ok (.iload_n 3, 1) := by decide +kernel
theorem d_V_readPart_32 : decode prog_9_method_10_code 32 = .ok (.invokestatic 86, 3) := by decide +kernel
theorem d_V_readPart_35 : decode prog_9_method_10_code 35 = .ok (.istore 5, 2) := by decide +kernel
theorem d_V_readPart_37 : decode prog_9_method_10_code 37 = .ok (.iload 4, 2) := by decide +kernel
theorem d_V_readPart_39 : decode prog_9_method_10_code 39 = .ok (.iload 5, 2) := by decide +kernel
theorem d_V_readPart_41 : decode prog_9_method_10_code 41 = .ok (.if_icmp .gt 31, 3) := by decide +kernel
theorem d_V_readPart_44 : decode prog_9_method_10_code 44 = .ok (.aload_n 0, 1) := by decide +kernel
theorem d_V_readPart_45 : decode prog_9_method_10_code 45 = .ok (.iload_n 1, 1) := by decide +kernel
theorem d_V_readPart_46 : decode prog_9_method_10_code 46 = .ok (.iload_n 2, 1) := by decide +kernel
theorem d_V_readPart_47 : decode prog_9_method_10_code 47 = .ok (.iload 5, 2) := by decide +kernel
theorem d_V_readPart_49 : decode prog_9_method_10_code 49 = .ok (.iload 4, 2) := by decide +kernel
theorem d_V_readPart_51 : decode prog_9_method_10_code 51 = .ok (.invokevirtual 68, 3) := by decide +kernel
theorem d_V_readPart_54 : decode prog_9_method_10_code 54 = .ok (.aload_n 0, 1) := by decide +kernel
theorem d_V_readPart_55 : decode prog_9_method_10_code 55 = .ok (.aload_n 0, 1) := by decide +kernel
theorem d_V_readPart_56 : decode prog_9_method_10_code 56 = .ok (.getfield 46, 3) := by decide +kernel
theorem d_V_readPart_59 : decode prog_9_method_10_code 59 = .ok (.aload_n 0, 1) := by decide +kernel
theorem d_V_readPart_60 : decode prog_9_method_10_code 60 = .ok (.invokevirtual 83, 3) := by decide +kernel
theorem d_V_readPart_63 : decode prog_9_method_10_code 63 = .ok (.invokestatic 89, 3) := by decide +kernel
theorem d_V_readPart_66 : decode prog_9_method_10_code 66 = .ok (.putfield 46, 3) := by decide +kernel
theorem d_V_readPart_69 : decode prog_9_method_10_code 69 = .ok (.goto 53, 3) := by decide +kernel
theorem d_V_readPart_72 : decode prog_9_method_10_code 72 = .ok (.aload_n 0, 1) := by decide +kernel
theorem d_V_readPart_73 : decode prog_9_method_10_code 73 = .ok (.iload_n 1, 1) := by decide +kernel
theorem d_V_readPart_74 : decode prog_9_method_10_code 74 = .ok (.iload_n 2, 1) := by decide +kernel
theorem d_V_readPart_75 : decode prog_9_method_10_code 75 = .ok (.iload 5, 2) := by decide +kernel
theorem d_V_readPart_77 : decode prog_9_method_10_code 77 = .ok (.iadd, 1) := by decide +kernel
theorem d_V_readPart_78 : decode prog_9_method_10_code 78 = .ok (.iload_n 3, 1) := by decide +kernel
theorem d_V_readPart_79 : decode prog_9_method_10_code 79 = .ok (.iload 5, 2) := by decide +kernel
theorem d_V_readPart_81 : decode prog_9_method_10_code 81 = .ok (.isub, 1) := by decide +kernel
theorem d_V_readPart_82 : decode prog_9_method_10_code 82 = .ok (.iload 4, 2) := by decide +kernel
theorem d_V_readPart_84 : decode prog_9_method_10_code 84 = .ok (.iload 5, 2) := by decide +kernel
theorem d_V_readPart_86 : decode prog_9_method_10_code 86 = .ok (.isub, 1) := by decide +kernel
theorem d_V_readPart_87 : decode prog_9_method_10_code 87 = .ok (.invokevirtual 68, 3) := by decide +kernel
theorem d_V_readPart_90 : decode prog_9_method_10_code 90 = .ok (.aload_n 0, 1) := by decide +kernel
theorem d_V_readPart_91 : decode prog_9_method_10_code 91 = .ok (.invokevirtual 83, 3) := by decide +kernel
theorem d_V_readPart_94 : decode prog_9_method_10_code 94 = .ok (.istore 6, 2) := by decide +kernel
theorem d_V_readPart_96 : decode prog_9_method_10_code 96 = .ok (.aload_n 0, 1) := by decide +kernel
theorem d_V_readPart_97 : decode prog_9_method_10_code 97 = .ok (.iload 6, 2) := by decide +kernel
theorem d_V_readPart_99 : decode prog_9_method_10_code 99 = .ok (.aload_n 0, 1) := by decide +kernel
theorem d_V_readPart_100 : decode prog_9_method_10_code 100 = .ok (.getfield 43, 3) := by decide +kernel
theorem d_V_readPart_103 : decode prog_9_method_10_code 103 = .ok (.invokestatic 89, 3) := by decide +kernel
theorem d_V_readPart_106 : decode prog_9_method_10_code 106 = .ok (.putfield 43, 3) := by decide +kernel
theorem d_V_readPart_109 : decode prog_9_method_10_code 109 = .ok (.aload_n 0, 1) := by decide +kernel
theorem d_V_readPart_110 : decode prog_9_method_10_code 110 = .ok (.iload 6, 2) := by decide +kernel
theorem d_V_readPart_112 : decode prog_9_method_10_code 112 = .ok (.aload_n 0, 1) := by decide +kernel
theorem d_V_readPart_113 : decode prog_9_method_10_code 113 = .ok (.getfield 46, 3) := by decide +kernel
theorem d_V_readPart_116 : decode prog_9_method_10_code 116 = .ok (.invokestatic 89, 3) := by decide +kernel
theorem d_V_readPart_119 : decode prog_9_method_10_code 119 = .ok (.putfield 46, 3) := by decide +kernel
theorem d_V_readPart_122 : decode prog_9_method_10_code 122 = .ok (.return_, 1) := by decide +kernel
end
section
theorem d_L_put_0 : decode method_3_code 0 = .ok (.aload_n 0, 1) := by decide +kernel
theorem d_L_put_1 : decode method_3_code 1 = .ok (.iload_n 1, 1) := by decide +kernel
theorem d_L_put_2 : decode method_3_code 2 = .ok (.iload_n 2, 1) := by decide +kernel
theorem d_L_put_3 : decode method_3_code 3 = .ok (.invokevirtual 7, 3) := by decide +kernel
theorem d_L_put_6 : decode method_3_code 6 = .ok (.goto 9, 3) := by decide +kernel
theorem d_L_put_9 : decode method_3_code 9 = .ok (.astore_n 3, 1) := by decide +kernel
theorem d_L_put_10 : decode method_3_code 10 = .ok (.iconst 1, 1) := by decide +kernel
theorem d_L_put_11 : decode method_3_code 11 = .ok (.ireturn, 1) := by decide +kernel
theorem d_L_put_12 : decode method_3_code 12 = .ok (.astore_n 3, 1) := by decide +kernel
theorem d_L_put_13 : decode method_3_code 13 = .ok (.iconst 2, 1) := by decide +kernel
theorem d_L_put_14 : decode method_3_code 14 = .ok (.ireturn, 1) := by decide +kernel
theorem d_L_put_15 : decode method_3_code 15 = .ok (.iconst 0, 1) := by decide +kernel
theorem d_L_put_16 : decode method_3_code 16 = .ok (.ireturn, 1) := by decide +kernel
theorem d_L_delete_0 : decode method_4_code 0 = .ok (.aload_n 2, 1) := by decide +kernel
theorem d_L_delete_1 : decode method_4_code 1 = .ok (.iconst 0, 1) := by decide +kernel
theorem d_L_delete_2 : decode method_4_code 2 = .ok (.aload_n 0, 1) := by decide +kernel
theorem d_L_delete_3 : decode method_4_code 3 = .ok (.iload_n 1, 1) := by decide +kernel
theorem d_L_delete_4 : decode method_4_code 4 = .ok (.invokevirtual 17, 3) := by decide +kernel
theorem d_L_delete_7 : decode method_4_code 7 = .ok (.ifCond .eq 7, 3) := by decide +kernel
theorem d_L_delete_10 : decode method_4_code 10 = .ok (.lconst 1, 1) := by decide +kernel
theorem d_L_delete_11 : decode method_4_code 11 = .ok (.goto 4, 3) := by decide +kernel
theorem d_L_delete_14 : decode method_4_code 14 = .ok (.lconst 0, 1) := by decide +kernel
theorem d_L_delete_15 : decode method_4_code 15 = .ok (.lastore, 1) := by decide +kernel
theorem d_L_delete_16 : decode method_4_code 16 = .ok (.goto 9, 3) := by decide +kernel
theorem d_L_delete_19 : decode method_4_code 19 = .ok (.astore_n 3, 1) := by decide +kernel
theorem d_L_delete_20 : decode method_4_code 20 = .ok (.iconst 1, 1) := by decide +kernel
theorem d_L_delete_21 : decode method_4_code 21 = .ok (.ireturn, 1) := by decide +kernel
theorem d_L_delete_22 : decode method_4_code 22 = .ok (.astore_n 3, 1) := by decide +kernel
theorem d_L_delete_23 : decode method_4_code 23 = .ok (.iconst 2, 1) := by decide +kernel
theorem d_L_delete_24 : decode method_4_code 24 = .ok (.ireturn, 1) := by decide +kernel
theorem d_L_delete_25 : decode method_4_code 25 = .ok (.iconst 0, 1) := by decide +kernel
theorem d_L_delete_26 : decode method_4_code 26 = .ok (.ireturn, 1) := by decide +kernel
theorem d_L_commit_0 : decode method_5_code 0 = .ok (.aload_n 1, 1) := by decide +kernel
theorem d_L_commit_1 : decode method_5_code 1 = .ok (.iconst 0, 1) := by decide +kernel
theorem d_L_commit_2 : decode method_5_code 2 = .ok (.aload_n 0, 1) := by decide +kernel
theorem d_L_commit_3 : decode method_5_code 3 = .ok (.invokevirtual 21, 3) := by decide +kernel
theorem d_L_commit_6 : decode method_5_code 6 = .ok (.i2l, 1) := by decide +kernel
theorem d_L_commit_7 : decode method_5_code 7 = .ok (.lastore, 1) := by decide +kernel
theorem d_L_commit_8 : decode method_5_code 8 = .ok (.goto 6, 3) := by decide +kernel
theorem d_L_commit_11 : decode method_5_code 11 = .ok (.astore_n 2, 1) := by decide +kernel
theorem d_L_commit_12 : decode method_5_code 12 = .ok (.iconst 1, 1) := by decide +kernel
theorem d_L_commit_13 : decode method_5_code 13 = .ok (.ireturn, 1) := by decide +kernel
theorem d_L_commit_14 : decode method_5_code 14 = .ok (.iconst 0, 1) := by decide +kernel
theorem d_L_commit_15 : decode method_5_code 15 = .ok (.ireturn, 1) := by decide +kernel
theorem d_L_get_0 : decode method_6_code 0 = .ok (.aload_n 3, 1) := by decide +kernel
theorem d_L_get_1 : decode method_6_code 1 = .ok (.iconst 0, 1) := by decide +kernel
theorem d_L_get_2 : decode method_6_code 2 = .ok (.aload_n 0, 1) := by decide +kernel
theorem d_L_get_3 : decode method_6_code 3 = .ok (.iload_n 1, 1) := by decide +kernel
theorem d_L_get_4 : decode method_6_code 4 = .ok (.iload_n 2, 1) := by decide +kernel
theorem d_L_get_5 : decode method_6_code 5 = .ok (.invokevirtual 25, 3) := by decide +kernel
theorem d_L_get_8 : decode method_6_code 8 = .ok (.i2l, 1) := by decide +kernel
theorem d_L_get_9 : decode method_6_code 9 = .ok (.lastore, 1) := by decide +kernel
theorem d_L_get_10 : decode method_6_code 10 = .ok (.goto 11, 3) := by decide +kernel
theorem d_L_get_13 : decode method_6_code 13 = .ok (.astore 4, 2) := by decide +kernel
theorem d_L_get_15 : decode method_6_code 15 = .ok (.iconst 1, 1) := by decide +kernel
theorem d_L_get_16 : decode method_6_code 16 = .ok (.ireturn, 1) := by decide +kernel
theorem d_L_get_17 : decode method_6_code 17 = .ok (.astore 4, 2) := by decide +kernel
theorem d_L_get_19 : decode method_6_code 19 = .ok (.iconst 2, 1) := by decide +kernel
theorem d_L_get_20 : decode method_6_code 20 = .ok (.ireturn, 1) := by decide +kernel
theorem d_L_get_21 : decode method_6_code 21 = .ok (.iconst 0, 1) := by decide +kernel
theorem d_L_get_22 : decode method_6_code 22 = .ok (.ireturn, 1) := by decide +kernel
theorem d_L_range_0 : decode method_7_code 0 = .ok (.aload 4, 2) := by decide +kernel
theorem d_L_range_2 : decode method_7_code 2 = .ok (.iconst 0, 1) := by decide +kernel
theorem d_L_range_3 : decode method_7_code 3 = .ok (.aload_n 0, 1) := by decide +kernel
theorem d_L_range_4 : decode method_7_code 4 = .ok (.iload_n 1, 1) := by decide +kernel
theorem d_L_range_5 : decode method_7_code 5 = .ok (.iload_n 2, 1) := by decide +kernel
theorem d_L_range_6 : decode method_7_code 6 = .ok (.iload_n 3, 1) := by decide +kernel
theorem d_L_range_7 : decode method_7_code 7 = .ok (.invokevirtual 31, 3) := by decide +kernel
theorem d_L_range_10 : decode method_7_code 10 = .ok (.i2l, 1) := by decide +kernel
theorem d_L_range_11 : decode method_7_code 11 = .ok (.lastore, 1) := by decide +kernel
theorem d_L_range_12 : decode method_7_code 12 = .ok (.goto 7, 3) := by decide +kernel
theorem d_L_range_15 : decode method_7_code 15 = .ok (.astore 5, 2) := by decide +kernel
theorem d_L_range_17 : decode method_7_code 17 = .ok (.iconst 1, 1) := by decide +kernel
theorem d_L_range_18 : decode method_7_code 18 = .ok (.ireturn, 1) := by decide +kernel
theorem d_L_range_19 : decode method_7_code 19 = .ok (.iconst 0, 1) := by decide +kernel
theorem d_L_range_20 : decode method_7_code 20 = .ok (.ireturn, 1) := by decide +kernel
theorem d_L_root_0 : decode method_8_code 0 = .ok (.aload_n 2, 1) := by decide +kernel
theorem d_L_root_1 : decode method_8_code 1 = .ok (.iconst 0, 1) := by decide +kernel
theorem d_L_root_2 : decode method_8_code 2 = .ok (.aload_n 0, 1) := by decide +kernel
theorem d_L_root_3 : decode method_8_code 3 = .ok (.iload_n 1, 1) := by decide +kernel
theorem d_L_root_4 : decode method_8_code 4 = .ok (.invokevirtual 35, 3) := by decide +kernel
theorem d_L_root_7 : decode method_8_code 7 = .ok (.i2l, 1) := by decide +kernel
theorem d_L_root_8 : decode method_8_code 8 = .ok (.lastore, 1) := by decide +kernel
theorem d_L_root_9 : decode method_8_code 9 = .ok (.goto 6, 3) := by decide +kernel
theorem d_L_root_12 : decode method_8_code 12 = .ok (.astore_n 3, 1) := by decide +kernel
theorem d_L_root_13 : decode method_8_code 13 = .ok (.iconst 1, 1) := by decide +kernel
theorem d_L_root_14 : decode method_8_code 14 = .ok (.ireturn, 1) := by decide +kernel
theorem d_L_root_15 : decode method_8_code 15 = .ok (.iconst 0, 1) := by decide +kernel
theorem d_L_root_16 : decode method_8_code 16 = .ok (.ireturn, 1) := by decide +kernel
theorem d_L_digest_0 : decode method_9_code 0 = .ok (.aload_n 2, 1) := by decide +kernel
theorem d_L_digest_1 : decode method_9_code 1 = .ok (.iconst 0, 1) := by decide +kernel
theorem d_L_digest_2 : decode method_9_code 2 = .ok (.aload_n 0, 1) := by decide +kernel
theorem d_L_digest_3 : decode method_9_code 3 = .ok (.iload_n 1, 1) := by decide +kernel
theorem d_L_digest_4 : decode method_9_code 4 = .ok (.invokevirtual 39, 3) := by decide +kernel
theorem d_L_digest_7 : decode method_9_code 7 = .ok (.i2l, 1) := by decide +kernel
theorem d_L_digest_8 : decode method_9_code 8 = .ok (.lastore, 1) := by decide +kernel
theorem d_L_digest_9 : decode method_9_code 9 = .ok (.goto 6, 3) := by decide +kernel
theorem d_L_digest_12 : decode method_9_code 12 = .ok (.astore_n 3, 1) := by decide +kernel
theorem d_L_digest_13 : decode method_9_code 13 = .ok (.iconst 1, 1) := by decide +kernel
theorem d_L_digest_14 : decode method_9_code 14 = .ok (.ireturn, 1) := by decide +kernel
theorem d_L_digest_15 : decode method_9_code 15 = .ok (.iconst 0, 1) := by decide +kernel
theorem d_L_digest_16 : decode method_9_code 16 = .ok (.ireturn, 1) := by decide +kernel
theorem d_L_prove_0 : decode method_10_code 0 = .ok (.aload 4, 2) := by decide +kernel
theorem d_L_prove_2 : decode method_10_code 2 = .ok (.iconst 0, 1) := by decide +kernel
theorem d_L_prove_3 : decode method_10_code 3 = .ok (.aload_n 0, 1) := by decide +kernel
theorem d_L_prove_4 : decode method_10_code 4 = .ok (.iload_n 1, 1) := by decide +kernel
theorem d_L_prove_5 : decode method_10_code 5 = .ok (.iload_n 2, 1) := by decide +kernel
theorem d_L_prove_6 : decode method_10_code 6 = .ok (.iload_n 3, 1) := by decide +kernel
theorem d_L_prove_7 : decode method_10_code 7 = .ok (.invokevirtual 42, 3) := by decide +kernel
theorem d_L_prove_10 : decode method_10_code 10 = .ok (.i2l, 1) := by decide +kernel
theorem d_L_prove_11 : decode method_10_code 11 = .ok (.lastore, 1) := by decide +kernel
theorem d_L_prove_12 : decode method_10_code 12 = .ok (.goto 7, 3) := by decide +kernel
theorem d_L_prove_15 : decode method_10_code 15 = .ok (.astore 5, 2) := by decide +kernel
theorem d_L_prove_17 : decode method_10_code 17 = .ok (.iconst 1, 1) := by decide +kernel
theorem d_L_prove_18 : decode method_10_code 18 = .ok (.ireturn, 1) := by decide +kernel
theorem d_L_prove_19 : decode method_10_code 19 = .ok (.iconst 0, 1) := by decide +kernel
theorem d_L_prove_20 : decode method_10_code 20 = .ok (.ireturn, 1) := by decide +kernel
theorem d_L_proveGrowth_0 : decode method_11_code 0 = .ok (.aload_n 3, 1) := by decide +kernel
theorem d_L_proveGrowth_1 : decode method_11_code 1 = .ok (.iconst 0, 1) := by decide +kernel
theorem d_L_proveGrowth_2 : decode method_11_code 2 = .ok (.aload_n 0, 1) := by decide +kernel
theorem d_L_proveGrowth_3 : decode method_11_code 3 = .ok (.iload_n 1, 1) := by decide +kernel
theorem d_L_proveGrowth_4 : decode method_11_code 4 = .ok (.iload_n 2, 1) := by decide +kernel
theorem d_L_proveGrowth_5 : decode method_11_code 5 = .ok (.invokevirtual 45, 3) := by decide +kernel
theorem d_L_proveGrowth_8 : decode method_11_code 8 = .ok (.i2l, 1) := by decide +kernel
theorem d_L_proveGrowth_9 : decode method_11_code 9 = .ok (.lastore, 1) := by decide +kernel
theorem d_L_proveGrowth_10 : decode method_11_code 10 = .ok (.goto 7, 3) := by decide +kernel
theorem d_L_proveGrowth_13 : decode method_11_code 13 = .ok (.astore 4, 2) := by decide +kernel
theorem d_L_proveGrowth_15 : decode method_11_code 15 = .ok (.iconst 1, 1) := by decide +kernel
theorem d_L_proveGrowth_16 : decode method_11_code 16 = .ok (.ireturn, 1) := by decide +kernel
theorem d_L_proveGrowth_17 : decode method_11_code 17 = .ok (.iconst 0, 1) := by decide +kernel
theorem d_L_proveGrowth_18 : decode method_11_code 18 = .ok (.ireturn, 1) := by decide +kernel
theorem d_L_verify_0 : decode method_12_code 0 = .ok (.aload 5, 2) := by decide +kernel
theorem d_L_verify_2 : decode method_12_code 2 = .ok (.iconst 0, 1) := by decide +kernel
theorem d_L_verify_3 : decode method_12_code 3 = .ok (.aload_n 0, 1) := by decide +kernel
theorem d_L_verify_4 : decode method_12_code 4 = .ok (.iload_n 1, 1) := by decide +kernel
theorem d_L_verify_5 : decode method_12_code 5 = .ok (.iload_n 2, 1) := by decide +kernel
theorem d_L_verify_6 : decode method_12_code 6 = .ok (.iload_n 3, 1) := by decide +kernel
theorem d_L_verify_7 : decode method_12_code 7 = .ok (.iload 4, 2) := by decide +kernel
theorem d_L_verify_9 : decode method_12_code 9 = .ok (.invokevirtual 48, 3) := by decide +kernel
theorem d_L_verify_12 : decode method_12_code 12 = .ok (.i2l, 1) := by decide +kernel
theorem d_L_verify_13 : decode method_12_code 13 = .ok (.lastore, 1) := by decide +kernel
theorem d_L_verify_14 : decode method_12_code 14 = .ok (.goto 7, 3) := by decide +kernel
theorem d_L_verify_17 : decode method_12_code 17 = .ok (.astore 6, 2) := by decide +kernel
theorem d_L_verify_19 : decode method_12_code 19 = .ok (.iconst 1, 1) := by decide +kernel
theorem d_L_verify_20 : decode method_12_code 20 = .ok (.ireturn, 1) := by decide +kernel
theorem d_L_verify_21 : decode method_12_code 21 = .ok (.iconst 0, 1) := by decide +kernel
theorem d_L_verify_22 : decode method_12_code 22 = .ok (.ireturn, 1) := by decide +kernel
theorem d_L_verifyGrowth_0 : decode method_13_code 0 = .ok (.aload 5, 2) := by decide +kernel
theorem d_L_verifyGrowth_2 : decode method_13_code 2 = .ok (.iconst 0, 1) := by decide +kernel
theorem d_L_verifyGrowth_3 : decode method_13_code 3 = .ok (.aload_n 0, 1) := by decide +kernel
theorem d_L_verifyGrowth_4 : decode method_13_code 4 = .ok (.iload_n 1, 1) := by decide +kernel
theorem d_L_verifyGrowth_5 : decode method_13_code 5 = .ok (.iload_n 2, 1) := by decide +kernel
theorem d_L_verifyGrowth_6 : decode method_13_code 6 = .ok (.iload_n 3, 1) := by decide +kernel
theorem d_L_verifyGrowth_7 : decode method_13_code 7 = .ok (.iload 4, 2) := by decide +kernel
theorem d_L_verifyGrowth_9 : decode method_13_code 9 = .ok (.invokevirtual 52, 3) := by decide +kernel
theorem d_L_verifyGrowth_12 : decode method_13_code 12 = .ok (.ifCond .eq 7, 3) := by decide +kernel
theorem d_L_verifyGrowth_15 : decode method_13_code 15 = .ok (.lconst 1, 1) := by decide +kernel
theorem d_L_verifyGrowth_16 : decode method_13_code 16 = .ok (.goto 4, 3) := by decide +kernel
theorem d_L_verifyGrowth_19 : decode method_13_code 19 = .ok (.lconst 0, 1) := by decide +kernel
theorem d_L_verifyGrowth_20 : decode method_13_code 20 = .ok (.lastore, 1) := by decide +kernel
theorem d_L_verifyGrowth_21 : decode method_13_code 21 = .ok (.goto 7, 3) := by decide +kernel
theorem d_L_verifyGrowth_24 : decode method_13_code 24 = .ok (.astore 6, 2) := by decide +kernel
theorem d_L_verifyGrowth_26 : decode method_13_code 26 = .ok (.iconst 1, 1) := by decide +kernel
theorem d_L_verifyGrowth_27 : decode method_13_code 27 = .ok (.ireturn, 1) := by decide +kernel
theorem d_L_verifyGrowth_28 : decode method_13_code 28 = .ok (.iconst 0, 1) := by decide +kernel
theorem d_L_verifyGrowth_29 : decode method_13_code 29 = .ok (.ireturn, 1) := by decide +kernel
end
section
theorem d_M_init_0 : decode prog_11_method_1_code 0 = .ok (.aload_n 0, 1) := by decide +kernel
theorem d_M_init_1 : decode prog_11_method_1_code 1 = .ok (.invokespecial 1, 3) := by decide +kernel
theorem d_M_init_4 : decode prog_11_method_1_code 4 = .ok (.aload_n 0, 1) := by decide +kernel
theorem d_M_init_5 : decode prog_11_method_1_code 5 = .ok (.sipush 816, 3) := by decide +kernel
theorem d_M_init_8 : decode prog_11_method_1_code 8 = .ok (.newarray .boolean, 2) := by decide +kernel
theorem d_M_init_10 : decode prog_11_method_1_code 10 = .ok (.putfield 7, 3) := by decide +kernel
theorem d_M_init_13 : decode prog_11_method_1_code 13 = .ok (.aload_n 0, 1) := by decide +kernel
theorem d_M_init_14 : decode prog_11_method_1_code 14 = .ok (.sipush 816, 3) := by decide +kernel
theorem d_M_init_17 : decode prog_11_method_1_code 17 = .ok (.newarray .int, 2) := by decide +kernel
theorem d_M_init_19 : decode prog_11_method_1_code 19 = .ok (.putfield 13, 3) := by decide +kernel
theorem d_M_init_22 : decode prog_11_method_1_code 22 = .ok (.aload_n 0, 1) := by decide +kernel
theorem d_M_init_23 : decode prog_11_method_1_code 23 = .ok (.bipush 16, 2) := by decide +kernel
theorem d_M_init_25 : decode prog_11_method_1_code 25 = .ok (.newarray .int, 2) := by decide +kernel
theorem d_M_init_27 : decode prog_11_method_1_code 27 = .ok (.putfield 17, 3) := by decide +kernel
theorem d_M_init_30 : decode prog_11_method_1_code 30 = .ok (.aload_n 0, 1) := by decide +kernel
theorem d_M_init_31 : decode prog_11_method_1_code 31 = .ok (.sipush 3400, 3) := by decide +kernel
theorem d_M_init_34 : decode prog_11_method_1_code 34 = .ok (.newarray .int, 2) := by decide +kernel
theorem d_M_init_36 : decode prog_11_method_1_code 36 = .ok (.putfield 20, 3) := by decide +kernel
theorem d_M_init_39 : decode prog_11_method_1_code 39 = .ok (.aload_n 0, 1) := by decide +kernel
theorem d_M_init_40 : decode prog_11_method_1_code 40 = .ok (.sipush 180, 3) := by decide +kernel
theorem d_M_init_43 : decode prog_11_method_1_code 43 = .ok (.newarray .long, 2) := by decide +kernel
theorem d_M_init_45 : decode prog_11_method_1_code 45 = .ok (.putfield 23, 3) := by decide +kernel
theorem d_M_init_48 : decode prog_11_method_1_code 48 = .ok (.aload_n 0, 1) := by decide +kernel
theorem d_M_init_49 : decode prog_11_method_1_code 49 = .ok (.sipush 8640, 3) := by decide +kernel
theorem d_M_init_52 : decode prog_11_method_1_code 52 = .ok (.newarray .int, 2) := by decide +kernel
theorem d_M_init_54 : decode prog_11_method_1_code 54 = .ok (.putfield 27, 3) := by decide +kernel
theorem d_M_init_57 : decode prog_11_method_1_code 57 = .ok (.aload_n 0, 1) := by decide +kernel
theorem d_M_init_58 : decode prog_11_method_1_code 58 = .ok (.bipush 8, 2) := by decide +kernel
theorem d_M_init_60 : decode prog_11_method_1_code 60 = .ok (.newarray .int, 2) := by decide +kernel
theorem d_M_init_62 : decode prog_11_method_1_code 62 = .ok (.putfield 30, 3) := by decide +kernel
theorem d_M_init_65 : decode prog_11_method_1_code 65 = .ok (.aload_n 0, 1) := by decide +kernel
theorem d_M_init_66 : decode prog_11_method_1_code 66 = .ok (.sipush 384, 3) := by decide +kernel
theorem d_M_init_69 : decode prog_11_method_1_code 69 = .ok (.newarray .int, 2) := by decide +kernel
theorem d_M_init_71 : decode prog_11_method_1_code 71 = .ok (.putfield 33, 3) := by decide +kernel
theorem d_M_init_74 : decode prog_11_method_1_code 74 = .ok (.aload_n 0, 1) := by decide +kernel
theorem d_M_init_75 : decode prog_11_method_1_code 75 = .ok (.sipush 384, 3) := by decide +kernel
theorem d_M_init_78 : decode prog_11_method_1_code 78 = .ok (.newarray .int, 2) := by decide +kernel
theorem d_M_init_80 : decode prog_11_method_1_code 80 = .ok (.putfield 36, 3) := by decide +kernel
theorem d_M_init_83 : decode prog_11_method_1_code 83 = .ok (.aload_n 0, 1) := by decide +kernel
theorem d_M_init_84 : decode prog_11_method_1_code 84 = .ok (.bipush 8, 2) := by decide +kernel
theorem d_M_init_86 : decode prog_11_method_1_code 86 = .ok (.newarray .int, 2) := by decide +kernel
theorem d_M_init_88 : decode prog_11_method_1_code 88 = .ok (.putfield 39, 3) := by decide +kernel
theorem d_M_init_91 : decode prog_11_method_1_code 91 = .ok (.aload_n 0, 1) := by decide +kernel
theorem d_M_init_92 : decode prog_11_method_1_code 92 = .ok (.bipush 8, 2) := by decide +kernel
theorem d_M_init_94 : decode prog_11_method_1_code 94 = .ok (.newarray .int, 2) := by decide +kernel
theorem d_M_init_96 : decode prog_11_method_1_code 96 = .ok (.putfield 42, 3) := by decide +kernel
theorem d_M_init_99 : decode prog_11_method_1_code 99 = .ok (.aload_n 0, 1) := by decide +kernel
theorem d_M_init_100 : decode prog_11_method_1_code 100 = .ok (.bipush 8, 2) := by decide +kernel
theorem d_M_init_102 : decode prog_11_method_1_code 102 = .ok (.newarray .int, 2) := by decide +kernel
theorem d_M_init_104 : decode prog_11_method_1_code 104 = .ok (.putfield 45, 3) := by decide +kernel
theorem d_M_init_107 : decode prog_11_method_1_code 107 = .ok (.aload_n 0, 1) := by decide +kernel
theorem d_M_init_108 : decode prog_11_method_1_code 108 = .ok (.bipush 8, 2) := by decide +kernel
theorem d_M_init_110 : decode prog_11_method_1_code 110 = .ok (.newarray .int, 2) := by decide +kernel
theorem d_M_init_112 : decode prog_11_method_1_code 112 = .ok (.putfield 48, 3) := by decide +kernel
theorem d_M_init_115 : decode prog_11_method_1_code 115 = .ok (.aload_n 0, 1) := by decide +kernel
theorem d_M_init_116 : decode prog_11_method_1_code 116 = .ok (.bipush 8, 2) := by decide +kernel
theorem d_M_init_118 : decode prog_11_method_1_code 118 = .ok (.newarray .boolean, 2) := by decide +kernel
theorem d_M_init_120 : decode prog_11_method_1_code 120 = .ok (.putfield 51, 3) := by decide +kernel
theorem d_M_init_123 : decode prog_11_method_1_code 123 = .ok (.aload_n 0, 1) := by decide +kernel
theorem d_M_init_124 : decode prog_11_method_1_code 124 = .ok (.sipush 420, 3) := by decide +kernel
theorem d_M_init_127 : decode prog_11_method_1_code 127 = .ok (.newarray .int, 2) := by decide +kernel
theorem d_M_init_129 : decode prog_11_method_1_code 129 = .ok (.putfield 54, 3) := by decide +kernel
theorem d_M_init_132 : decode prog_11_method_1_code 132 = .ok (.aload_n 0, 1) := by decide +kernel
theorem d_M_init_133 : decode prog_11_method_1_code 133 = .ok (.sipush 420, 3) := by decide +kernel
theorem d_M_init_136 : decode prog_11_method_1_code 136 = .ok (.newarray .int, 2) := by decide +kernel
theorem d_M_init_138 : decode prog_11_method_1_code 138 = .ok (.putfield 57, 3) := by decide +kernel
theorem d_M_init_141 : decode prog_11_method_1_code 141 = .ok (.aload_n 0, 1) := by decide +kernel
theorem d_M_init_142 : decode prog_11_method_1_code 142 = .ok (.bipush 16, 2) := by decide +kernel
theorem d_M_init_144 : decode prog_11_method_1_code 144 = .ok (.newarray .int, 2) := by decide +kernel
theorem d_M_init_146 : decode prog_11_method_1_code 146 = .ok (.putfield 60, 3) := by decide +kernel
theorem d_M_init_149 : decode prog_11_method_1_code 149 = .ok (.aload_n 0, 1) := by decide +kernel
theorem d_M_init_150 : decode prog_11_method_1_code 150 = .ok (.bipush 48, 2) := by decide +kernel
theorem d_M_init_152 : decode prog_11_method_1_code 152 = .ok (.newarray .int, 2) := by decide +kernel
theorem d_M_init_154 : decode prog_11_method_1_code 154 = .ok (.putfield 63, 3) := by decide +kernel
theorem d_M_init_157 : decode prog_11_method_1_code 157 = .ok (.aload_n 0, 1) := by decide +kernel
theorem d_M_init_158 : decode prog_11_method_1_code 158 = .ok (.bipush 48, 2) := by decide +kernel
theorem d_M_init_160 : decode prog_11_method_1_code 160 = .ok (.newarray .int, 2) := by decide +kernel
theorem d_M_init_162 : decode prog_11_method_1_code 162 = .ok (.putfield 66, 3) := by decide +kernel
theorem d_M_init_165 : decode prog_11_method_1_code 165 = .ok (.aload_n 0, 1) := by decide +kernel
theorem d_M_init_166 : decode prog_11_method_1_code 166 = .ok (.iconst 1, 1) := by decide +kernel
theorem d_M_init_167 : decode prog_11_method_1_code 167 = .ok (.putfield 69, 3) := by decide +kernel
theorem d_M_init_170 : decode prog_11_method_1_code 170 = .ok (.return_, 1) := by decide +kernel
theorem d_M_thrown_0 : decode prog_11_method_2_code 0 = .ok (.aload_n 0, 1) := by decide +kernel
theorem d_M_thrown_1 : decode prog_11_method_2_code 1 = .ok (.getfield 73, 3) := by decide +kernel
theorem d_M_thrown_4 : decode prog_11_method_2_code 4 = .ok (.ireturn, 1) := by decide +kernel
theorem d_M_put_0 : decode prog_11_method_12_code 0 = .ok (.aload_n 0, 1) := by decide +kernel
theorem d_M_put_1 : decode prog_11_method_12_code 1 = .ok (.aload_n 0, 1) := by decide +kernel
theorem d_M_put_2 : decode prog_11_method_12_code 2 = .ok (.iload_n 1, 1) := by decide +kernel
theorem d_M_put_3 : decode prog_11_method_12_code 3 = .ok (.invokevirtual 103, 3) := by decide +kernel
theorem d_M_put_6 : decode prog_11_method_12_code 6 = .ok (.putfield 73, 3) := by decide +kernel
theorem d_M_put_9 : decode prog_11_method_12_code 9 = .ok (.aload_n 0, 1) := by decide +kernel
theorem d_M_put_10 : decode prog_11_method_12_code 10 = .ok (.getfield 73, 3) := by decide +kernel
theorem d_M_put_13 : decode prog_11_method_12_code 13 = .ok (.ifCond .eq 4, 3) := by decide +kernel
theorem d_M_put_16 : decode prog_11_method_12_code 16 = .ok (.return_, 1) := by decide +kernel
theorem d_M_put_17 : decode prog_11_method_12_code 17 = .ok (.aload_n 0, 1) := by decide +kernel
theorem d_M_put_18 : decode prog_11_method_12_code 18 = .ok (.getfield 7, 3) := by decide +kernel
theorem d_M_put_21 : decode prog_11_method_12_code 21 = .ok (.sipush 768, 3) := by decide +kernel
theorem d_M_put_24 : decode prog_11_method_12_code 24 = .ok (.iload_n 1, 1) := by decide +kernel
theorem d_M_put_25 : decode prog_11_method_12_code 25 = .ok (.iadd, 1) := by decide +kernel
theorem d_M_put_26 : decode prog_11_method_12_code 26 = .ok (.iconst 1, 1) := by decide +kernel
theorem d_M_put_27 : decode prog_11_method_12_code 27 = .ok (.bastore, 1) := by decide +kernel
theorem d_M_put_28 : decode prog_11_method_12_code 28 = .ok (.aload_n 0, 1) := by decide +kernel
theorem d_M_put_29 : decode prog_11_method_12_code 29 = .ok (.getfield 13, 3) := by decide +kernel
theorem d_M_put_32 : decode prog_11_method_12_code 32 = .ok (.sipush 768, 3) := by decide +kernel
theorem d_M_put_35 : decode prog_11_method_12_code 35 = .ok (.iload_n 1, 1) := by decide +kernel
theorem d_M_put_36 : decode prog_11_method_12_code 36 = .ok (.iadd, 1) := by decide +kernel
theorem d_M_put_37 : decode prog_11_method_12_code 37 = .ok (.iload_n 2, 1) := by decide +kernel
theorem d_M_put_38 : decode prog_11_method_12_code 38 = .ok (.iastore, 1) := by decide +kernel
theorem d_M_put_39 : decode prog_11_method_12_code 39 = .ok (.return_, 1) := by decide +kernel
theorem d_M_keyed_0 : decode prog_11_method_11_code 0 = .ok (.iload_n 1, 1) := by decide +kernel
theorem d_M_keyed_1 : decode prog_11_method_11_code 1 = .ok (.iconst 0, 1) := by decide +kernel
theorem d_M_keyed_2 : decode prog_11_method_11_code 2 = .ok (.bipush 47, 2) := by decide +kernel
theorem d_M_keyed_4 : decode prog_11_method_11_code 4 = .ok (.invokestatic 99, 3) := by decide +kernel
theorem d_M_keyed_7 : decode prog_11_method_11_code 7 = .ok (.ifCond .eq 7, 3) := by decide +kernel
theorem d_M_keyed_10 : decode prog_11_method_11_code 10 = .ok (.iconst 1, 1) := by decide +kernel
theorem d_M_keyed_11 : decode prog_11_method_11_code 11 = .ok (.goto 17, 3) := by decide +kernel
theorem d_M_keyed_14 : decode prog_11_method_11_code 14 = .ok (.aload_n 0, 1) := by decide +kernel
theorem d_M_keyed_15 : decode prog_11_method_11_code 15 = .ok (.getfield 69, 3) := by decide +kernel
theorem d_M_keyed_18 : decode prog_11_method_11_code 18 = .ok (.bipush 16, 2) := by decide +kernel
theorem d_M_keyed_20 : decode prog_11_method_11_code 20 = .ok (.if_icmp .ne 7, 3) := by decide +kernel
theorem d_M_keyed_23 : decode prog_11_method_11_code 23 = .ok (.iconst 2, 1) := by decide +kernel
theorem d_M_keyed_24 : decode prog_11_method_11_code 24 = .ok (.goto 4, 3) := by decide +kernel
theorem d_M_keyed_27 : decode prog_11_method_11_code 27 = .ok (.iconst 0, 1) := by decide +kernel
theorem d_M_keyed_28 : decode prog_11_method_11_code 28 = .ok (.ireturn, 1) := by decide +kernel
theorem d_M_outside_0 : decode prog_11_method_4_code 0 = .ok (.iload_n 0, 1) := by decide +kernel
theorem d_M_outside_1 : decode prog_11_method_4_code 1 = .ok (.iload_n 1, 1) := by decide +kernel
theorem d_M_outside_2 : decode prog_11_method_4_code 2 = .ok (.if_icmp .lt 8, 3) := by decide +kernel
theorem d_M_outside_5 : decode prog_11_method_4_code 5 = .ok (.iload_n 0, 1) := by decide +kernel
theorem d_M_outside_6 : decode prog_11_method_4_code 6 = .ok (.iload_n 2, 1) := by decide +kernel
theorem d_M_outside_7 : decode prog_11_method_4_code 7 = .ok (.if_icmp .le 7, 3) := by decide +kernel
theorem d_M_outside_10 : decode prog_11_method_4_code 10 = .ok (.iconst 1, 1) := by decide +kernel
theorem d_M_outside_11 : decode prog_11_method_4_code 11 = .ok (.goto 4, 3) := by decide +kernel
theorem d_M_outside_14 : decode prog_11_method_4_code 14 = .ok (.iconst 0, 1) := by decide +kernel
theorem d_M_outside_15 : decode prog_11_method_4_code 15 = .ok (.ireturn, 1) := by decide +kernel
theorem d_M_delete_0 : decode prog_11_method_13_code 0 = .ok (.aload_n 0, 1) := by decide +kernel
theorem d_M_delete_1 : decode prog_11_method_13_code 1 = .ok (.aload_n 0, 1) := by decide +kernel
theorem d_M_delete_2 : decode prog_11_method_13_code 2 = .ok (.iload_n 1, 1) := by decide +kernel
theorem d_M_delete_3 : decode prog_11_method_13_code 3 = .ok (.invokevirtual 103, 3) := by decide +kernel
theorem d_M_delete_6 : decode prog_11_method_13_code 6 = .ok (.putfield 73, 3) := by decide +kernel
theorem d_M_delete_9 : decode prog_11_method_13_code 9 = .ok (.aload_n 0, 1) := by decide +kernel
theorem d_M_delete_10 : decode prog_11_method_13_code 10 = .ok (.getfield 73, 3) := by decide +kernel
theorem d_M_delete_13 : decode prog_11_method_13_code 13 = .ok (.ifCond .eq 5, 3) := by decide +kernel
theorem d_M_delete_16 : decode prog_11_method_13_code 16 = .ok (.iconst 0, 1) := by decide +kernel
theorem d_M_delete_17 : decode prog_11_method_13_code 17 = .ok (.ireturn, 1) := by decide +kernel
theorem d_M_delete_18 : decode prog_11_method_13_code 18 = .ok (.aload_n 0, 1) := by decide +kernel
theorem d_M_delete_19 : decode prog_11_method_13_code 19 = .ok (.getfield 7, 3) := by decide +kernel
theorem d_M_delete_22 : decode prog_11_method_13_code 22 = .ok (.sipush 768, 3) := by decide +kernel
theorem d_M_delete_25 : decode prog_11_method_13_code 25 = .ok (.iload_n 1, 1) := by decide +kernel
theorem d_M_delete_26 : decode prog_11_method_13_code 26 = .ok (.iadd, 1) := by decide +kernel
theorem d_M_delete_27 : decode prog_11_method_13_code 27 = .ok (.baload, 1) := by decide +kernel
theorem d_M_delete_28 : decode prog_11_method_13_code 28 = .ok (.istore_n 2, 1) := by decide +kernel
theorem d_M_delete_29 : decode prog_11_method_13_code 29 = .ok (.aload_n 0, 1) := by decide +kernel
theorem d_M_delete_30 : decode prog_11_method_13_code 30 = .ok (.getfield 7, 3) := by decide +kernel
theorem d_M_delete_33 : decode prog_11_method_13_code 33 = .ok (.sipush 768, 3) := by decide +kernel
theorem d_M_delete_36 : decode prog_11_method_13_code 36 = .ok (.iload_n 1, 1) := by decide +kernel
theorem d_M_delete_37 : decode prog_11_method_13_code 37 = .ok (.iadd, 1) := by decide +kernel
theorem d_M_delete_38 : decode prog_11_method_13_code 38 = .ok (.iconst 0, 1) := by decide +kernel
theorem d_M_delete_39 : decode prog_11_method_13_code 39 = .ok (.bastore, 1) := by decide +kernel
theorem d_M_delete_40 : decode prog_11_method_13_code 40 = .ok (.iload_n 2, 1) := by decide +kernel
theorem d_M_delete_41 : decode prog_11_method_13_code 41 = .ok (.ireturn, 1) := by decide +kernel
theorem d_M_rollback_0 : decode prog_11_method_15_code 0 = .ok (.aload_n 0, 1) := by decide +kernel
theorem d_M_rollback_1 : decode prog_11_method_15_code 1 = .ok (.iconst 0, 1) := by decide +kernel
theorem d_M_rollback_2 : decode prog_11_method_15_code 2 = .ok (.putfield 73, 3) := by decide +kernel
theorem d_M_rollback_5 : decode prog_11_method_15_code 5 = .ok (.aload_n 0, 1) := by decide +kernel
theorem d_M_rollback_6 : decode prog_11_method_15_code 6 = .ok (.aload_n 0, 1) := by decide +kernel
theorem d_M_rollback_7 : decode prog_11_method_15_code 7 = .ok (.getfield 69, 3) := by decide +kernel
theorem d_M_rollback_10 : decode prog_11_method_15_code 10 = .ok (.iconst 1, 1) := by decide +kernel
theorem d_M_rollback_11 : decode prog_11_method_15_code 11 = .ok (.isub, 1) := by decide +kernel
theorem d_M_rollback_12 : decode prog_11_method_15_code 12 = .ok (.bipush 16, 2) := by decide +kernel
theorem d_M_rollback_14 : decode prog_11_method_15_code 14 = .ok (.invokevirtual 107, 3) := by decide +kernel
theorem d_M_rollback_17 : decode prog_11_method_15_code 17 = .ok (.return_, 1) := by decide +kernel
theorem d_M_copy_0 : decode prog_11_method_14_code 0 = .ok (.iconst 0, 1) := by decide +kernel
theorem d_M_copy_1 : decode prog_11_method_14_code 1 = .ok (.istore_n 3, 1) := by decide +kernel
theorem d_M_copy_2 : decode prog_11_method_14_code 2 = .ok (.iload_n 3, 1) := by decide +kernel
theorem d_M_copy_3 : decode prog_11_method_14_code 3 = .ok (.bipush 48, 2) := by decide +kernel
theorem d_M_copy_5 : decode prog_11_method_14_code 5 = .ok (.if_icmp .ge 53, 3) := by decide +kernel
theorem d_M_copy_8 : decode prog_11_method_14_code 8 = .ok (.aload_n 0, 1) := by decide +kernel
theorem d_M_copy_9 : decode prog_11_method_14_code 9 = .ok (.getfield 7, 3) := by decide +kernel
theorem d_M_copy_12 : decode prog_11_method_14_code 12 = .ok (.bipush 48, 2) := by decide +kernel
theorem d_M_copy_14 : decode prog_11_method_14_code 14 = .ok (.iload_n 2, 1) := by decide +kernel
theorem d_M_copy_15 : decode prog_11_method_14_code 15 = .ok (.imul, 1) := by decide +kernel
theorem d_M_copy_16 : decode prog_11_method_14_code 16 = .ok (.iload_n 3, 1) := by decide +kernel
theorem d_M_copy_17 : decode prog_11_method_14_code 17 = .ok (.iadd, 1) := by decide +kernel
theorem d_M_copy_18 : decode prog_11_method_14_code 18 = .ok (.aload_n 0, 1) := by decide +kernel
theorem d_M_copy_19 : decode prog_11_method_14_code 19 = .ok (.getfield 7, 3) := by decide +kernel
theorem d_M_copy_22 : decode prog_11_method_14_code 22 = .ok (.bipush 48, 2) := by decide +kernel
theorem d_M_copy_24 : decode prog_11_method_14_code 24 = .ok (.iload_n 1, 1) := by decide +kernel
theorem d_M_copy_25 : decode prog_11_method_14_code 25 = .ok (.imul, 1) := by decide +kernel
theorem d_M_copy_26 : decode prog_11_method_14_code 26 = .ok (.iload_n 3, 1) := by decide +kernel
theorem d_M_copy_27 : decode prog_11_method_14_code 27 = .ok (.iadd, 1) := by decide +kernel
theorem d_M_copy_28 : decode prog_11_method_14_code 28 = .ok (.baload, 1) := by decide +kernel
theorem d_M_copy_29 : decode prog_11_method_14_code 29 = .ok (.bastore, 1) := by decide +kernel
theorem d_M_copy_30 : decode prog_11_method_14_code 30 = .ok (.aload_n 0, 1) := by decide +kernel
theorem d_M_copy_31 : decode prog_11_method_14_code 31 = .ok (.getfield 13, 3) := by decide +kernel
theorem d_M_copy_34 : decode prog_11_method_14_code 34 = .ok (.bipush 48, 2) := by decide +kernel
theorem d_M_copy_36 : decode prog_11_method_14_code 36 = .ok (.iload_n 2, 1) := by decide +kernel
theorem d_M_copy_37 : decode prog_11_method_14_code 37 = .ok (.imul, 1) := by decide +kernel
theorem d_M_copy_38 : decode prog_11_method_14_code 38 = .ok (.iload_n 3, 1) := by decide +kernel
theorem d_M_copy_39 : decode prog_11_method_14_code 39 = .ok (.iadd, 1) := by decide +kernel
theorem d_M_copy_40 : decode prog_11_method_14_code 40 = .ok (.aload_n 0, 1) := by decide +kernel
theorem d_M_copy_41 : decode prog_11_method_14_code 41 = .ok (.getfield 13, 3) := by decide +kernel
theorem d_M_copy_44 : decode prog_11_method_14_code 44 = .ok (.bipush 48, 2) := by decide +kernel
theorem d_M_copy_46 : decode prog_11_method_14_code 46 = .ok (.iload_n 1, 1) := by decide +kernel
theorem d_M_copy_47 : decode prog_11_method_14_code 47 = .ok (.imul, 1) := by decide +kernel
theorem d_M_copy_48 : decode prog_11_method_14_code 48 = .ok (.iload_n 3, 1) := by decide +kernel
theorem d_M_copy_49 : decode prog_11_method_14_code 49 = .ok (.iadd, 1) := by decide +kernel
theorem d_M_copy_50 : decode prog_11_method_14_code 50 = .ok (.iaload, 1) := by decide +kernel
theorem d_M_copy_51 : decode prog_11_method_14_code 51 = .ok (.iastore, 1) := by decide +kernel
theorem d_M_copy_52 : decode prog_11_method_14_code 52 = .ok (.iinc 3 1, 3) := by decide +kernel
theorem d_M_copy_55 : decode prog_11_method_14_code 55 = .ok (.goto (-53), 3) := by decide +kernel
theorem d_M_copy_58 : decode prog_11_method_14_code 58 = .ok (.return_, 1) := by decide +kernel
theorem d_M_commit_0 : decode prog_11_method_21_code 0 = .ok (.aload_n 0, 1) := by decide +kernel
theorem d_M_commit_1 : decode prog_11_method_21_code 1 = .ok (.getfield 69, 3) := by decide +kernel
theorem d_M_commit_4 : decode prog_11_method_21_code 4 = .ok (.bipush 16, 2) := by decide +kernel
theorem d_M_commit_6 : decode prog_11_method_21_code 6 = .ok (.if_icmp .ne 9, 3) := by decide +kernel
theorem d_M_commit_9 : decode prog_11_method_21_code 9 = .ok (.aload_n 0, 1) := by decide +kernel
theorem d_M_commit_10 : decode prog_11_method_21_code 10 = .ok (.iconst 1, 1) := by decide +kernel
theorem d_M_commit_11 : decode prog_11_method_21_code 11 = .ok (.invokevirtual 130, 3) := by decide +kernel
theorem d_M_commit_14 : decode prog_11_method_21_code 14 = .ok (.ireturn, 1) := by decide +kernel
theorem d_M_commit_15 : decode prog_11_method_21_code 15 = .ok (.aload_n 0, 1) := by decide +kernel
theorem d_M_commit_16 : decode prog_11_method_21_code 16 = .ok (.iconst 0, 1) := by decide +kernel
theorem d_M_commit_17 : decode prog_11_method_21_code 17 = .ok (.putfield 73, 3) := by decide +kernel
theorem d_M_commit_20 : decode prog_11_method_21_code 20 = .ok (.aload_n 0, 1) := by decide +kernel
theorem d_M_commit_21 : decode prog_11_method_21_code 21 = .ok (.bipush 16, 2) := by decide +kernel
theorem d_M_commit_23 : decode prog_11_method_21_code 23 = .ok (.invokevirtual 133, 3) := by decide +kernel
theorem d_M_commit_26 : decode prog_11_method_21_code 26 = .ok (.istore_n 1, 1) := by decide +kernel
theorem d_M_commit_27 : decode prog_11_method_21_code 27 = .ok (.aload_n 0, 1) := by decide +kernel
theorem d_M_commit_28 : decode prog_11_method_21_code 28 = .ok (.invokevirtual 136, 3) := by decide +kernel
theorem d_M_commit_31 : decode prog_11_method_21_code 31 = .ok (.aload_n 0, 1) := by decide +kernel
theorem d_M_commit_32 : decode prog_11_method_21_code 32 = .ok (.getfield 111, 3) := by decide +kernel
theorem d_M_commit_35 : decode prog_11_method_21_code 35 = .ok (.istore_n 2, 1) := by decide +kernel
theorem d_M_commit_36 : decode prog_11_method_21_code 36 = .ok (.aload_n 0, 1) := by decide +kernel
theorem d_M_commit_37 : decode prog_11_method_21_code 37 = .ok (.invokevirtual 139, 3) := by decide +kernel
theorem d_M_commit_40 : decode prog_11_method_21_code 40 = .ok (.istore_n 3, 1) := by decide +kernel
theorem d_M_commit_41 : decode prog_11_method_21_code 41 = .ok (.aload_n 0, 1) := by decide +kernel
theorem d_M_commit_42 : decode prog_11_method_21_code 42 = .ok (.aload_n 0, 1) := by decide +kernel
theorem d_M_commit_43 : decode prog_11_method_21_code 43 = .ok (.getfield 111, 3) := by decide +kernel
theorem d_M_commit_46 : decode prog_11_method_21_code 46 = .ok (.iload_n 2, 1) := by decide +kernel
theorem d_M_commit_47 : decode prog_11_method_21_code 47 = .ok (.if_icmp .le 12, 3) := by decide +kernel
theorem d_M_commit_50 : decode prog_11_method_21_code 50 = .ok (.aload_n 0, 1) := by decide +kernel
theorem d_M_commit_51 : decode prog_11_method_21_code 51 = .ok (.getfield 117, 3) := by decide +kernel
theorem d_M_commit_54 : decode prog_11_method_21_code 54 = .ok (.iconst 1, 1) := by decide +kernel
theorem d_M_commit_55 : decode prog_11_method_21_code 55 = .ok (.iadd, 1) := by decide +kernel
theorem d_M_commit_56 : decode prog_11_method_21_code 56 = .ok (.goto 7, 3) := by decide +kernel
theorem d_M_commit_59 : decode prog_11_method_21_code 59 = .ok (.aload_n 0, 1) := by decide +kernel
theorem d_M_commit_60 : decode prog_11_method_21_code 60 = .ok (.getfield 117, 3) := by decide +kernel
theorem d_M_commit_63 : decode prog_11_method_21_code 63 = .ok (.putfield 117, 3) := by decide +kernel
theorem d_M_commit_66 : decode prog_11_method_21_code 66 = .ok (.iload_n 3, 1) := by decide +kernel
theorem d_M_commit_67 : decode prog_11_method_21_code 67 = .ok (.ifCond .ne 17, 3) := by decide +kernel
theorem d_M_commit_70 : decode prog_11_method_21_code 70 = .ok (.aload_n 0, 1) := by decide +kernel
theorem d_M_commit_71 : decode prog_11_method_21_code 71 = .ok (.aload_n 0, 1) := by decide +kernel
theorem d_M_commit_72 : decode prog_11_method_21_code 72 = .ok (.getfield 69, 3) := by decide +kernel
theorem d_M_commit_75 : decode prog_11_method_21_code 75 = .ok (.iconst 1, 1) := by decide +kernel
theorem d_M_commit_76 : decode prog_11_method_21_code 76 = .ok (.isub, 1) := by decide +kernel
theorem d_M_commit_77 : decode prog_11_method_21_code 77 = .ok (.bipush 16, 2) := by decide +kernel
theorem d_M_commit_79 : decode prog_11_method_21_code 79 = .ok (.invokevirtual 107, 3) := by decide +kernel
theorem d_M_commit_82 : decode prog_11_method_21_code 82 = .ok (.iconst (-1), 1) := by decide +kernel
theorem d_M_commit_83 : decode prog_11_method_21_code 83 = .ok (.ireturn, 1) := by decide +kernel
theorem d_M_commit_84 : decode prog_11_method_21_code 84 = .ok (.aload_n 0, 1) := by decide +kernel
theorem d_M_commit_85 : decode prog_11_method_21_code 85 = .ok (.bipush 16, 2) := by decide +kernel
theorem d_M_commit_87 : decode prog_11_method_21_code 87 = .ok (.aload_n 0, 1) := by decide +kernel
theorem d_M_commit_88 : decode prog_11_method_21_code 88 = .ok (.getfield 69, 3) := by decide +kernel
theorem d_M_commit_91 : decode prog_11_method_21_code 91 = .ok (.invokevirtual 107, 3) := by decide +kernel
theorem d_M_commit_94 : decode prog_11_method_21_code 94 = .ok (.aload_n 0, 1) := by decide +kernel
theorem d_M_commit_95 : decode prog_11_method_21_code 95 = .ok (.getfield 17, 3) := by decide +kernel
theorem d_M_commit_98 : decode prog_11_method_21_code 98 = .ok (.aload_n 0, 1) := by decide +kernel
theorem d_M_commit_99 : decode prog_11_method_21_code 99 = .ok (.getfield 69, 3) := by decide +kernel
theorem d_M_commit_102 : decode prog_11_method_21_code 102 = .ok (.iload_n 1, 1) := by decide +kernel
theorem d_M_commit_103 : decode prog_11_method_21_code 103 = .ok (.iastore, 1) := by decide +kernel
theorem d_M_commit_104 : decode prog_11_method_21_code 104 = .ok (.aload_n 0, 1) := by decide +kernel
theorem d_M_commit_105 : decode prog_11_method_21_code 105 = .ok (.dup, 1) := by decide +kernel
theorem d_M_commit_106 : decode prog_11_method_21_code 106 = .ok (.getfield 69, 3) := by decide +kernel
theorem d_M_commit_109 : decode prog_11_method_21_code 109 = .ok (.iconst 1, 1) := by decide +kernel
theorem d_M_commit_110 : decode prog_11_method_21_code 110 = .ok (.iadd, 1) := by decide +kernel
theorem d_M_commit_111 : decode prog_11_method_21_code 111 = .ok (.putfield 69, 3) := by decide +kernel
theorem d_M_commit_114 : decode prog_11_method_21_code 114 = .ok (.aload_n 0, 1) := by decide +kernel
theorem d_M_commit_115 : decode prog_11_method_21_code 115 = .ok (.getfield 69, 3) := by decide +kernel
theorem d_M_commit_118 : decode prog_11_method_21_code 118 = .ok (.iconst 1, 1) := by decide +kernel
theorem d_M_commit_119 : decode prog_11_method_21_code 119 = .ok (.isub, 1) := by decide +kernel
theorem d_M_commit_120 : decode prog_11_method_21_code 120 = .ok (.ireturn, 1) := by decide +kernel
theorem d_M_refuse_0 : decode prog_11_method_3_code 0 = .ok (.aload_n 0, 1) := by decide +kernel
theorem d_M_refuse_1 : decode prog_11_method_3_code 1 = .ok (.iload_n 1, 1) := by decide +kernel
theorem d_M_refuse_2 : decode prog_11_method_3_code 2 = .ok (.putfield 73, 3) := by decide +kernel
theorem d_M_refuse_5 : decode prog_11_method_3_code 5 = .ok (.iconst 0, 1) := by decide +kernel
theorem d_M_refuse_6 : decode prog_11_method_3_code 6 = .ok (.ireturn, 1) := by decide +kernel
theorem d_M_raise_0 : decode prog_11_method_10_code 0 = .ok (.aload_n 0, 1) := by decide +kernel
theorem d_M_raise_1 : decode prog_11_method_10_code 1 = .ok (.getfield 30, 3) := by decide +kernel
theorem d_M_raise_4 : decode prog_11_method_10_code 4 = .ok (.iconst 0, 1) := by decide +kernel
theorem d_M_raise_5 : decode prog_11_method_10_code 5 = .ok (.iconst 0, 1) := by decide +kernel
theorem d_M_raise_6 : decode prog_11_method_10_code 6 = .ok (.iastore, 1) := by decide +kernel
theorem d_M_raise_7 : decode prog_11_method_10_code 7 = .ok (.iconst 0, 1) := by decide +kernel
theorem d_M_raise_8 : decode prog_11_method_10_code 8 = .ok (.istore_n 2, 1) := by decide +kernel
theorem d_M_raise_9 : decode prog_11_method_10_code 9 = .ok (.iload_n 2, 1) := by decide +kernel
theorem d_M_raise_10 : decode prog_11_method_10_code 10 = .ok (.bipush 48, 2) := by decide +kernel
theorem d_M_raise_12 : decode prog_11_method_10_code 12 = .ok (.if_icmp .ge 40, 3) := by decide +kernel
theorem d_M_raise_15 : decode prog_11_method_10_code 15 = .ok (.aload_n 0, 1) := by decide +kernel
theorem d_M_raise_16 : decode prog_11_method_10_code 16 = .ok (.getfield 7, 3) := by decide +kernel
theorem d_M_raise_19 : decode prog_11_method_10_code 19 = .ok (.bipush 48, 2) := by decide +kernel
theorem d_M_raise_21 : decode prog_11_method_10_code 21 = .ok (.iload_n 1, 1) := by decide +kernel
theorem d_M_raise_22 : decode prog_11_method_10_code 22 = .ok (.imul, 1) := by decide +kernel
theorem d_M_raise_23 : decode prog_11_method_10_code 23 = .ok (.iload_n 2, 1) := by decide +kernel
theorem d_M_raise_24 : decode prog_11_method_10_code 24 = .ok (.iadd, 1) := by decide +kernel
theorem d_M_raise_25 : decode prog_11_method_10_code 25 = .ok (.baload, 1) := by decide +kernel
theorem d_M_raise_26 : decode prog_11_method_10_code 26 = .ok (.ifCond .eq 20, 3) := by decide +kernel
theorem d_M_raise_29 : decode prog_11_method_10_code 29 = .ok (.aload_n 0, 1) := by decide +kernel
theorem d_M_raise_30 : decode prog_11_method_10_code 30 = .ok (.iconst 0, 1) := by decide +kernel
theorem d_M_raise_31 : decode prog_11_method_10_code 31 = .ok (.iload_n 2, 1) := by decide +kernel
theorem d_M_raise_32 : decode prog_11_method_10_code 32 = .ok (.aload_n 0, 1) := by decide +kernel
theorem d_M_raise_33 : decode prog_11_method_10_code 33 = .ok (.getfield 13, 3) := by decide +kernel
theorem d_M_raise_36 : decode prog_11_method_10_code 36 = .ok (.bipush 48, 2) := by decide +kernel
theorem d_M_raise_38 : decode prog_11_method_10_code 38 = .ok (.iload_n 1, 1) := by decide +kernel
theorem d_M_raise_39 : decode prog_11_method_10_code 39 = .ok (.imul, 1) := by decide +kernel
theorem d_M_raise_40 : decode prog_11_method_10_code 40 = .ok (.iload_n 2, 1) := by decide +kernel
theorem d_M_raise_41 : decode prog_11_method_10_code 41 = .ok (.iadd, 1) := by decide +kernel
theorem d_M_raise_42 : decode prog_11_method_10_code 42 = .ok (.iaload, 1) := by decide +kernel
theorem d_M_raise_43 : decode prog_11_method_10_code 43 = .ok (.invokevirtual 85, 3) := by decide +kernel
theorem d_M_raise_46 : decode prog_11_method_10_code 46 = .ok (.iinc 2 1, 3) := by decide +kernel
theorem d_M_raise_49 : decode prog_11_method_10_code 49 = .ok (.goto (-40), 3) := by decide +kernel
theorem d_M_raise_52 : decode prog_11_method_10_code 52 = .ok (.aload_n 0, 1) := by decide +kernel
theorem d_M_raise_53 : decode prog_11_method_10_code 53 = .ok (.aload_n 0, 1) := by decide +kernel
theorem d_M_raise_54 : decode prog_11_method_10_code 54 = .ok (.getfield 30, 3) := by decide +kernel
theorem d_M_raise_57 : decode prog_11_method_10_code 57 = .ok (.iconst 0, 1) := by decide +kernel
theorem d_M_raise_58 : decode prog_11_method_10_code 58 = .ok (.iaload, 1) := by decide +kernel
theorem d_M_raise_59 : decode prog_11_method_10_code 59 = .ok (.ifCond .ne 7, 3) := by decide +kernel
theorem d_M_raise_62 : decode prog_11_method_10_code 62 = .ok (.iconst 0, 1) := by decide +kernel
theorem d_M_raise_63 : decode prog_11_method_10_code 63 = .ok (.goto 4, 3) := by decide +kernel
theorem d_M_raise_66 : decode prog_11_method_10_code 66 = .ok (.iconst 1, 1) := by decide +kernel
theorem d_M_raise_67 : decode prog_11_method_10_code 67 = .ok (.putfield 89, 3) := by decide +kernel
theorem d_M_raise_70 : decode prog_11_method_10_code 70 = .ok (.aload_n 0, 1) := by decide +kernel
theorem d_M_raise_71 : decode prog_11_method_10_code 71 = .ok (.getfield 89, 3) := by decide +kernel
theorem d_M_raise_74 : decode prog_11_method_10_code 74 = .ok (.ifCond .le 123, 3) := by decide +kernel
theorem d_M_raise_77 : decode prog_11_method_10_code 77 = .ok (.aload_n 0, 1) := by decide +kernel
theorem d_M_raise_78 : decode prog_11_method_10_code 78 = .ok (.getfield 89, 3) := by decide +kernel
theorem d_M_raise_81 : decode prog_11_method_10_code 81 = .ok (.bipush 8, 2) := by decide +kernel
theorem d_M_raise_83 : decode prog_11_method_10_code 83 = .ok (.if_icmp .ge 114, 3) := by decide +kernel
theorem d_M_raise_86 : decode prog_11_method_10_code 86 = .ok (.aload_n 0, 1) := by decide +kernel
theorem d_M_raise_87 : decode prog_11_method_10_code 87 = .ok (.aload_n 0, 1) := by decide +kernel
theorem d_M_raise_88 : decode prog_11_method_10_code 88 = .ok (.getfield 89, 3) := by decide +kernel
theorem d_M_raise_91 : decode prog_11_method_10_code 91 = .ok (.iconst 1, 1) := by decide +kernel
theorem d_M_raise_92 : decode prog_11_method_10_code 92 = .ok (.isub, 1) := by decide +kernel
theorem d_M_raise_93 : decode prog_11_method_10_code 93 = .ok (.iconst 0, 1) := by decide +kernel
theorem d_M_raise_94 : decode prog_11_method_10_code 94 = .ok (.invokevirtual 92, 3) := by decide +kernel
theorem d_M_raise_97 : decode prog_11_method_10_code 97 = .ok (.aload_n 0, 1) := by decide +kernel
theorem d_M_raise_98 : decode prog_11_method_10_code 98 = .ok (.getfield 30, 3) := by decide +kernel
theorem d_M_raise_101 : decode prog_11_method_10_code 101 = .ok (.aload_n 0, 1) := by decide +kernel
theorem d_M_raise_102 : decode prog_11_method_10_code 102 = .ok (.getfield 89, 3) := by decide +kernel
theorem d_M_raise_105 : decode prog_11_method_10_code 105 = .ok (.iconst 1, 1) := by decide +kernel
theorem d_M_raise_106 : decode prog_11_method_10_code 106 = .ok (.isub, 1) := by decide +kernel
theorem d_M_raise_107 : decode prog_11_method_10_code 107 = .ok (.iaload, 1) := by decide +kernel
theorem d_M_raise_108 : decode prog_11_method_10_code 108 = .ok (.if_icmp .ge 89, 3) := by decide +kernel
theorem d_M_raise_111 : decode prog_11_method_10_code 111 = .ok (.aload_n 0, 1) := by decide +kernel
theorem d_M_raise_112 : decode prog_11_method_10_code 112 = .ok (.getfield 89, 3) := by decide +kernel
theorem d_M_raise_115 : decode prog_11_method_10_code 115 = .ok (.iconst 1, 1) := by decide +kernel
theorem d_M_raise_116 : decode prog_11_method_10_code 116 = .ok (.isub, 1) := by decide +kernel
theorem d_M_raise_117 : decode prog_11_method_10_code 117 = .ok (.istore_n 2, 1) := by decide +kernel
theorem d_M_raise_118 : decode prog_11_method_10_code 118 = .ok (.aload_n 0, 1) := by decide +kernel
theorem d_M_raise_119 : decode prog_11_method_10_code 119 = .ok (.getfield 30, 3) := by decide +kernel
theorem d_M_raise_122 : decode prog_11_method_10_code 122 = .ok (.aload_n 0, 1) := by decide +kernel
theorem d_M_raise_123 : decode prog_11_method_10_code 123 = .ok (.getfield 89, 3) := by decide +kernel
theorem d_M_raise_126 : decode prog_11_method_10_code 126 = .ok (.iconst 0, 1) := by decide +kernel
theorem d_M_raise_127 : decode prog_11_method_10_code 127 = .ok (.iastore, 1) := by decide +kernel
theorem d_M_raise_128 : decode prog_11_method_10_code 128 = .ok (.iconst 0, 1) := by decide +kernel
theorem d_M_raise_129 : decode prog_11_method_10_code 129 = .ok (.istore_n 3, 1) := by decide +kernel
theorem d_M_raise_130 : decode prog_11_method_10_code 130 = .ok (.iload_n 3, 1) := by decide +kernel
theorem d_M_raise_131 : decode prog_11_method_10_code 131 = .ok (.aload_n 0, 1) := by decide +kernel
theorem d_M_raise_132 : decode prog_11_method_10_code 132 = .ok (.getfield 30, 3) := by decide +kernel
theorem d_M_raise_135 : decode prog_11_method_10_code 135 = .ok (.iload_n 2, 1) := by decide +kernel
theorem d_M_raise_136 : decode prog_11_method_10_code 136 = .ok (.iaload, 1) := by decide +kernel
theorem d_M_raise_137 : decode prog_11_method_10_code 137 = .ok (.if_icmp .ge 47, 3) := by decide +kernel
theorem d_M_raise_140 : decode prog_11_method_10_code 140 = .ok (.aload_n 0, 1) := by decide +kernel
theorem d_M_raise_141 : decode prog_11_method_10_code 141 = .ok (.iload_n 2, 1) := by decide +kernel
theorem d_M_raise_142 : decode prog_11_method_10_code 142 = .ok (.iload_n 3, 1) := by decide +kernel
theorem d_M_raise_143 : decode prog_11_method_10_code 143 = .ok (.invokevirtual 92, 3) := by decide +kernel
theorem d_M_raise_146 : decode prog_11_method_10_code 146 = .ok (.istore 4, 2) := by decide +kernel
theorem d_M_raise_148 : decode prog_11_method_10_code 148 = .ok (.aload_n 0, 1) := by decide +kernel
theorem d_M_raise_149 : decode prog_11_method_10_code 149 = .ok (.aload_n 0, 1) := by decide +kernel
theorem d_M_raise_150 : decode prog_11_method_10_code 150 = .ok (.getfield 89, 3) := by decide +kernel
theorem d_M_raise_153 : decode prog_11_method_10_code 153 = .ok (.aload_n 0, 1) := by decide +kernel
theorem d_M_raise_154 : decode prog_11_method_10_code 154 = .ok (.getfield 33, 3) := by decide +kernel
theorem d_M_raise_157 : decode prog_11_method_10_code 157 = .ok (.bipush 48, 2) := by decide +kernel
theorem d_M_raise_159 : decode prog_11_method_10_code 159 = .ok (.iload_n 2, 1) := by decide +kernel
theorem d_M_raise_160 : decode prog_11_method_10_code 160 = .ok (.imul, 1) := by decide +kernel
theorem d_M_raise_161 : decode prog_11_method_10_code 161 = .ok (.iload 4, 2) := by decide +kernel
theorem d_M_raise_163 : decode prog_11_method_10_code 163 = .ok (.iadd, 1) := by decide +kernel
theorem d_M_raise_164 : decode prog_11_method_10_code 164 = .ok (.iconst 1, 1) := by decide +kernel
theorem d_M_raise_165 : decode prog_11_method_10_code 165 = .ok (.isub, 1) := by decide +kernel
theorem d_M_raise_166 : decode prog_11_method_10_code 166 = .ok (.iaload, 1) := by decide +kernel
theorem d_M_raise_167 : decode prog_11_method_10_code 167 = .ok (.aload_n 0, 1) := by decide +kernel
theorem d_M_raise_168 : decode prog_11_method_10_code 168 = .ok (.iload_n 2, 1) := by decide +kernel
theorem d_M_raise_169 : decode prog_11_method_10_code 169 = .ok (.iload_n 3, 1) := by decide +kernel
theorem d_M_raise_170 : decode prog_11_method_10_code 170 = .ok (.iload 4, 2) := by decide +kernel
theorem d_M_raise_172 : decode prog_11_method_10_code 172 = .ok (.invokevirtual 95, 3) := by decide +kernel
theorem d_M_raise_175 : decode prog_11_method_10_code 175 = .ok (.invokevirtual 85, 3) := by decide +kernel
theorem d_M_raise_178 : decode prog_11_method_10_code 178 = .ok (.iload 4, 2) := by decide +kernel
theorem d_M_raise_180 : decode prog_11_method_10_code 180 = .ok (.istore_n 3, 1) := by decide +kernel
theorem d_M_raise_181 : decode prog_11_method_10_code 181 = .ok (.goto (-51), 3) := by decide +kernel
theorem d_M_raise_184 : decode prog_11_method_10_code 184 = .ok (.aload_n 0, 1) := by decide +kernel
theorem d_M_raise_185 : decode prog_11_method_10_code 185 = .ok (.dup, 1) := by decide +kernel
theorem d_M_raise_186 : decode prog_11_method_10_code 186 = .ok (.getfield 89, 3) := by decide +kernel
theorem d_M_raise_189 : decode prog_11_method_10_code 189 = .ok (.iconst 1, 1) := by decide +kernel
theorem d_M_raise_190 : decode prog_11_method_10_code 190 = .ok (.iadd, 1) := by decide +kernel
theorem d_M_raise_191 : decode prog_11_method_10_code 191 = .ok (.putfield 89, 3) := by decide +kernel
theorem d_M_raise_194 : decode prog_11_method_10_code 194 = .ok (.goto (-124), 3) := by decide +kernel
theorem d_M_raise_197 : decode prog_11_method_10_code 197 = .ok (.aload_n 0, 1) := by decide +kernel
theorem d_M_raise_198 : decode prog_11_method_10_code 198 = .ok (.getfield 89, 3) := by decide +kernel
theorem d_M_raise_201 : decode prog_11_method_10_code 201 = .ok (.ifCond .ne 7, 3) := by decide +kernel
theorem d_M_raise_204 : decode prog_11_method_10_code 204 = .ok (.iconst 0, 1) := by decide +kernel
theorem d_M_raise_205 : decode prog_11_method_10_code 205 = .ok (.goto 25, 3) := by decide +kernel
theorem d_M_raise_208 : decode prog_11_method_10_code 208 = .ok (.aload_n 0, 1) := by decide +kernel
theorem d_M_raise_209 : decode prog_11_method_10_code 209 = .ok (.aload_n 0, 1) := by decide +kernel
theorem d_M_raise_210 : decode prog_11_method_10_code 210 = .ok (.getfield 89, 3) := by decide +kernel
theorem d_M_raise_213 : decode prog_11_method_10_code 213 = .ok (.iconst 1, 1) := by decide +kernel
theorem d_M_raise_214 : decode prog_11_method_10_code 214 = .ok (.isub, 1) := by decide +kernel
theorem d_M_raise_215 : decode prog_11_method_10_code 215 = .ok (.iconst 0, 1) := by decide +kernel
theorem d_M_raise_216 : decode prog_11_method_10_code 216 = .ok (.aload_n 0, 1) := by decide +kernel
theorem d_M_raise_217 : decode prog_11_method_10_code 217 = .ok (.getfield 30, 3) := by decide +kernel
theorem d_M_raise_220 : decode prog_11_method_10_code 220 = .ok (.aload_n 0, 1) := by decide +kernel
theorem d_M_raise_221 : decode prog_11_method_10_code 221 = .ok (.getfield 89, 3) := by decide +kernel
theorem d_M_raise_224 : decode prog_11_method_10_code 224 = .ok (.iconst 1, 1) := by decide +kernel
theorem d_M_raise_225 : decode prog_11_method_10_code 225 = .ok (.isub, 1) := by decide +kernel
theorem d_M_raise_226 : decode prog_11_method_10_code 226 = .ok (.iaload, 1) := by decide +kernel
theorem d_M_raise_227 : decode prog_11_method_10_code 227 = .ok (.invokevirtual 95, 3) := by decide +kernel
theorem d_M_raise_230 : decode prog_11_method_10_code 230 = .ok (.ireturn, 1) := by decide +kernel
theorem d_M_item_0 : decode prog_11_method_7_code 0 = .ok (.aload_n 0, 1) := by decide +kernel
theorem d_M_item_1 : decode prog_11_method_7_code 1 = .ok (.getfield 33, 3) := by decide +kernel
theorem d_M_item_4 : decode prog_11_method_7_code 4 = .ok (.bipush 48, 2) := by decide +kernel
theorem d_M_item_6 : decode prog_11_method_7_code 6 = .ok (.iload_n 1, 1) := by decide +kernel
theorem d_M_item_7 : decode prog_11_method_7_code 7 = .ok (.imul, 1) := by decide +kernel
theorem d_M_item_8 : decode prog_11_method_7_code 8 = .ok (.aload_n 0, 1) := by decide +kernel
theorem d_M_item_9 : decode prog_11_method_7_code 9 = .ok (.getfield 30, 3) := by decide +kernel
theorem d_M_item_12 : decode prog_11_method_7_code 12 = .ok (.iload_n 1, 1) := by decide +kernel
theorem d_M_item_13 : decode prog_11_method_7_code 13 = .ok (.iaload, 1) := by decide +kernel
theorem d_M_item_14 : decode prog_11_method_7_code 14 = .ok (.iadd, 1) := by decide +kernel
theorem d_M_item_15 : decode prog_11_method_7_code 15 = .ok (.iload_n 2, 1) := by decide +kernel
theorem d_M_item_16 : decode prog_11_method_7_code 16 = .ok (.iastore, 1) := by decide +kernel
theorem d_M_item_17 : decode prog_11_method_7_code 17 = .ok (.aload_n 0, 1) := by decide +kernel
theorem d_M_item_18 : decode prog_11_method_7_code 18 = .ok (.getfield 36, 3) := by decide +kernel
theorem d_M_item_21 : decode prog_11_method_7_code 21 = .ok (.bipush 48, 2) := by decide +kernel
theorem d_M_item_23 : decode prog_11_method_7_code 23 = .ok (.iload_n 1, 1) := by decide +kernel
theorem d_M_item_24 : decode prog_11_method_7_code 24 = .ok (.imul, 1) := by decide +kernel
theorem d_M_item_25 : decode prog_11_method_7_code 25 = .ok (.aload_n 0, 1) := by decide +kernel
theorem d_M_item_26 : decode prog_11_method_7_code 26 = .ok (.getfield 30, 3) := by decide +kernel
theorem d_M_item_29 : decode prog_11_method_7_code 29 = .ok (.iload_n 1, 1) := by decide +kernel
theorem d_M_item_30 : decode prog_11_method_7_code 30 = .ok (.iaload, 1) := by decide +kernel
theorem d_M_item_31 : decode prog_11_method_7_code 31 = .ok (.iadd, 1) := by decide +kernel
theorem d_M_item_32 : decode prog_11_method_7_code 32 = .ok (.iload_n 3, 1) := by decide +kernel
theorem d_M_item_33 : decode prog_11_method_7_code 33 = .ok (.iastore, 1) := by decide +kernel
theorem d_M_item_34 : decode prog_11_method_7_code 34 = .ok (.aload_n 0, 1) := by decide +kernel
theorem d_M_item_35 : decode prog_11_method_7_code 35 = .ok (.getfield 30, 3) := by decide +kernel
theorem d_M_item_38 : decode prog_11_method_7_code 38 = .ok (.iload_n 1, 1) := by decide +kernel
theorem d_M_item_39 : decode prog_11_method_7_code 39 = .ok (.dup2, 1) := by decide +kernel
theorem d_M_item_40 : decode prog_11_method_7_code 40 = .ok (.iaload, 1) := by decide +kernel
theorem d_M_item_41 : decode prog_11_method_7_code 41 = .ok (.iconst 1, 1) := by decide +kernel
theorem d_M_item_42 : decode prog_11_method_7_code 42 = .ok (.iadd, 1) := by decide +kernel
theorem d_M_item_43 : decode prog_11_method_7_code 43 = .ok (.iastore, 1) := by decide +kernel
theorem d_M_item_44 : decode prog_11_method_7_code 44 = .ok (.return_, 1) := by decide +kernel
theorem d_M_chunkEnd_0 : decode prog_11_method_8_code 0 = .ok (.iload_n 2, 1) := by decide +kernel
theorem d_M_chunkEnd_1 : decode prog_11_method_8_code 1 = .ok (.istore_n 3, 1) := by decide +kernel
theorem d_M_chunkEnd_2 : decode prog_11_method_8_code 2 = .ok (.iload_n 3, 1) := by decide +kernel
theorem d_M_chunkEnd_3 : decode prog_11_method_8_code 3 = .ok (.aload_n 0, 1) := by decide +kernel
theorem d_M_chunkEnd_4 : decode prog_11_method_8_code 4 = .ok (.getfield 30, 3) := by decide +kernel
theorem d_M_chunkEnd_7 : decode prog_11_method_8_code 7 = .ok (.iload_n 1, 1) := by decide +kernel
theorem d_M_chunkEnd_8 : decode prog_11_method_8_code 8 = .ok (.iaload, 1) := by decide +kernel
theorem d_M_chunkEnd_9 : decode prog_11_method_8_code 9 = .ok (.iconst 1, 1) := by decide +kernel
theorem d_M_chunkEnd_10 : decode prog_11_method_8_code 10 = .ok (.isub, 1) := by decide +kernel
theorem d_M_chunkEnd_11 : decode prog_11_method_8_code 11 = .ok (.if_icmp .ge 27, 3) := by decide +kernel
theorem d_M_chunkEnd_14 : decode prog_11_method_8_code 14 = .ok (.iload_n 1, 1) := by decide +kernel
theorem d_M_chunkEnd_15 : decode prog_11_method_8_code 15 = .ok (.aload_n 0, 1) := by decide +kernel
theorem d_M_chunkEnd_16 : decode prog_11_method_8_code 16 = .ok (.getfield 33, 3) := by decide +kernel
theorem d_M_chunkEnd_19 : decode prog_11_method_8_code 19 = .ok (.bipush 48, 2) := by decide +kernel
theorem d_M_chunkEnd_21 : decode prog_11_method_8_code 21 = .ok (.iload_n 1, 1) := by decide +kernel
theorem d_M_chunkEnd_22 : decode prog_11_method_8_code 22 = .ok (.imul, 1) := by decide +kernel
theorem d_M_chunkEnd_23 : decode prog_11_method_8_code 23 = .ok (.iload_n 3, 1) := by decide +kernel
theorem d_M_chunkEnd_24 : decode prog_11_method_8_code 24 = .ok (.iadd, 1) := by decide +kernel
theorem d_M_chunkEnd_25 : decode prog_11_method_8_code 25 = .ok (.iaload, 1) := by decide +kernel
theorem d_M_chunkEnd_26 : decode prog_11_method_8_code 26 = .ok (.invokestatic 81, 3) := by decide +kernel
theorem d_M_chunkEnd_29 : decode prog_11_method_8_code 29 = .ok (.ifCond .ne 9, 3) := by decide +kernel
theorem d_M_chunkEnd_32 : decode prog_11_method_8_code 32 = .ok (.iinc 3 1, 3) := by decide +kernel
theorem d_M_chunkEnd_35 : decode prog_11_method_8_code 35 = .ok (.goto (-33), 3) := by decide +kernel
theorem d_M_chunkEnd_38 : decode prog_11_method_8_code 38 = .ok (.iload_n 3, 1) := by decide +kernel
theorem d_M_chunkEnd_39 : decode prog_11_method_8_code 39 = .ok (.iconst 1, 1) := by decide +kernel
theorem d_M_chunkEnd_40 : decode prog_11_method_8_code 40 = .ok (.iadd, 1) := by decide +kernel
theorem d_M_chunkEnd_41 : decode prog_11_method_8_code 41 = .ok (.ireturn, 1) := by decide +kernel
theorem d_M_ends_0 : decode prog_11_method_6_code 0 = .ok (.bipush 9, 2) := by decide +kernel
theorem d_M_ends_2 : decode prog_11_method_6_code 2 = .ok (.iload_n 0, 1) := by decide +kernel
theorem d_M_ends_3 : decode prog_11_method_6_code 3 = .ok (.invokestatic 77, 3) := by decide +kernel
theorem d_M_ends_6 : decode prog_11_method_6_code 6 = .ok (.iload_n 1, 1) := by decide +kernel
theorem d_M_ends_7 : decode prog_11_method_6_code 7 = .ok (.invokestatic 77, 3) := by decide +kernel
theorem d_M_ends_10 : decode prog_11_method_6_code 10 = .ok (.iconst 5, 1) := by decide +kernel
theorem d_M_ends_11 : decode prog_11_method_6_code 11 = .ok (.invokestatic 77, 3) := by decide +kernel
theorem d_M_ends_14 : decode prog_11_method_6_code 14 = .ok (.iconst 3, 1) := by decide +kernel
theorem d_M_ends_15 : decode prog_11_method_6_code 15 = .ok (.iand, 1) := by decide +kernel
theorem d_M_ends_16 : decode prog_11_method_6_code 16 = .ok (.ifCond .ne 7, 3) := by decide +kernel
theorem d_M_ends_19 : decode prog_11_method_6_code 19 = .ok (.iconst 1, 1) := by decide +kernel
theorem d_M_ends_20 : decode prog_11_method_6_code 20 = .ok (.goto 4, 3) := by decide +kernel
theorem d_M_ends_23 : decode prog_11_method_6_code 23 = .ok (.iconst 0, 1) := by decide +kernel
theorem d_M_ends_24 : decode prog_11_method_6_code 24 = .ok (.ireturn, 1) := by decide +kernel
theorem d_M_mix_0 : decode prog_11_method_5_code 0 = .ok (.iload_n 0, 1) := by decide +kernel
theorem d_M_mix_1 : decode prog_11_method_5_code 1 = .ok (.iload_n 1, 1) := by decide +kernel
theorem d_M_mix_2 : decode prog_11_method_5_code 2 = .ok (.ixor, 1) := by decide +kernel
theorem d_M_mix_3 : decode prog_11_method_5_code 3 = .ok (.ldc 76, 2) := by decide +kernel
theorem d_M_mix_5 : decode prog_11_method_5_code 5 = .ok (.imul, 1) := by decide +kernel
theorem d_M_mix_6 : decode prog_11_method_5_code 6 = .ok (.istore_n 2, 1) := by decide +kernel
theorem d_M_mix_7 : decode prog_11_method_5_code 7 = .ok (.iload_n 2, 1) := by decide +kernel
theorem d_M_mix_8 : decode prog_11_method_5_code 8 = .ok (.iload_n 2, 1) := by decide +kernel
theorem d_M_mix_9 : decode prog_11_method_5_code 9 = .ok (.bipush 15, 2) := by decide +kernel
theorem d_M_mix_11 : decode prog_11_method_5_code 11 = .ok (.iushr, 1) := by decide +kernel
theorem d_M_mix_12 : decode prog_11_method_5_code 12 = .ok (.ixor, 1) := by decide +kernel
theorem d_M_mix_13 : decode prog_11_method_5_code 13 = .ok (.ireturn, 1) := by decide +kernel
theorem d_M_hashOf_0 : decode prog_11_method_9_code 0 = .ok (.bipush 6, 2) := by decide +kernel
theorem d_M_hashOf_2 : decode prog_11_method_9_code 2 = .ok (.iload_n 1, 1) := by decide +kernel
theorem d_M_hashOf_3 : decode prog_11_method_9_code 3 = .ok (.invokestatic 77, 3) := by decide +kernel
theorem d_M_hashOf_6 : decode prog_11_method_9_code 6 = .ok (.istore 4, 2) := by decide +kernel
theorem d_M_hashOf_8 : decode prog_11_method_9_code 8 = .ok (.bipush 48, 2) := by decide +kernel
theorem d_M_hashOf_10 : decode prog_11_method_9_code 10 = .ok (.iload_n 1, 1) := by decide +kernel
theorem d_M_hashOf_11 : decode prog_11_method_9_code 11 = .ok (.imul, 1) := by decide +kernel
theorem d_M_hashOf_12 : decode prog_11_method_9_code 12 = .ok (.iload_n 2, 1) := by decide +kernel
theorem d_M_hashOf_13 : decode prog_11_method_9_code 13 = .ok (.iadd, 1) := by decide +kernel
theorem d_M_hashOf_14 : decode prog_11_method_9_code 14 = .ok (.istore 5, 2) := by decide +kernel
theorem d_M_hashOf_16 : decode prog_11_method_9_code 16 = .ok (.iload 5, 2) := by decide +kernel
theorem d_M_hashOf_18 : decode prog_11_method_9_code 18 = .ok (.bipush 48, 2) := by decide +kernel
theorem d_M_hashOf_20 : decode prog_11_method_9_code 20 = .ok (.iload_n 1, 1) := by decide +kernel
theorem d_M_hashOf_21 : decode prog_11_method_9_code 21 = .ok (.imul, 1) := by decide +kernel
theorem d_M_hashOf_22 : decode prog_11_method_9_code 22 = .ok (.iload_n 3, 1) := by decide +kernel
theorem d_M_hashOf_23 : decode prog_11_method_9_code 23 = .ok (.iadd, 1) := by decide +kernel
theorem d_M_hashOf_24 : decode prog_11_method_9_code 24 = .ok (.if_icmp .ge 33, 3) := by decide +kernel
theorem d_M_hashOf_27 : decode prog_11_method_9_code 27 = .ok (.iload 4, 2) := by decide +kernel
theorem d_M_hashOf_29 : decode prog_11_method_9_code 29 = .ok (.aload_n 0, 1) := by decide +kernel
theorem d_M_hashOf_30 : decode prog_11_method_9_code 30 = .ok (.getfield 33, 3) := by decide +kernel
theorem d_M_hashOf_33 : decode prog_11_method_9_code 33 = .ok (.iload 5, 2) := by decide +kernel
theorem d_M_hashOf_35 : decode prog_11_method_9_code 35 = .ok (.iaload, 1) := by decide +kernel
theorem d_M_hashOf_36 : decode prog_11_method_9_code 36 = .ok (.invokestatic 77, 3) := by decide +kernel
theorem d_M_hashOf_39 : decode prog_11_method_9_code 39 = .ok (.aload_n 0, 1) := by decide +kernel
theorem d_M_hashOf_40 : decode prog_11_method_9_code 40 = .ok (.getfield 36, 3) := by decide +kernel
theorem d_M_hashOf_43 : decode prog_11_method_9_code 43 = .ok (.iload 5, 2) := by decide +kernel
theorem d_M_hashOf_45 : decode prog_11_method_9_code 45 = .ok (.iaload, 1) := by decide +kernel
theorem d_M_hashOf_46 : decode prog_11_method_9_code 46 = .ok (.invokestatic 77, 3) := by decide +kernel
theorem d_M_hashOf_49 : decode prog_11_method_9_code 49 = .ok (.istore 4, 2) := by decide +kernel
theorem d_M_hashOf_51 : decode prog_11_method_9_code 51 = .ok (.iinc 5 1, 3) := by decide +kernel
theorem d_M_hashOf_54 : decode prog_11_method_9_code 54 = .ok (.goto (-38), 3) := by decide +kernel
theorem d_M_hashOf_57 : decode prog_11_method_9_code 57 = .ok (.iload 4, 2) := by decide +kernel
theorem d_M_hashOf_59 : decode prog_11_method_9_code 59 = .ok (.ireturn, 1) := by decide +kernel
theorem d_M_keepMap_0 : decode prog_11_method_19_code 0 = .ok (.aload_n 0, 1) := by decide +kernel
theorem d_M_keepMap_1 : decode prog_11_method_19_code 1 = .ok (.getfield 23, 3) := by decide +kernel
theorem d_M_keepMap_4 : decode prog_11_method_19_code 4 = .ok (.aload_n 0, 1) := by decide +kernel
theorem d_M_keepMap_5 : decode prog_11_method_19_code 5 = .ok (.getfield 117, 3) := by decide +kernel
theorem d_M_keepMap_8 : decode prog_11_method_19_code 8 = .ok (.lconst 0, 1) := by decide +kernel
theorem d_M_keepMap_9 : decode prog_11_method_19_code 9 = .ok (.lastore, 1) := by decide +kernel
theorem d_M_keepMap_10 : decode prog_11_method_19_code 10 = .ok (.iconst 0, 1) := by decide +kernel
theorem d_M_keepMap_11 : decode prog_11_method_19_code 11 = .ok (.istore_n 1, 1) := by decide +kernel
theorem d_M_keepMap_12 : decode prog_11_method_19_code 12 = .ok (.iload_n 1, 1) := by decide +kernel
theorem d_M_keepMap_13 : decode prog_11_method_19_code 13 = .ok (.bipush 48, 2) := by decide +kernel
theorem d_M_keepMap_15 : decode prog_11_method_19_code 15 = .ok (.if_icmp .ge 65, 3) := by decide +kernel
theorem d_M_keepMap_18 : decode prog_11_method_19_code 18 = .ok (.aload_n 0, 1) := by decide +kernel
theorem d_M_keepMap_19 : decode prog_11_method_19_code 19 = .ok (.getfield 23, 3) := by decide +kernel
theorem d_M_keepMap_22 : decode prog_11_method_19_code 22 = .ok (.aload_n 0, 1) := by decide +kernel
theorem d_M_keepMap_23 : decode prog_11_method_19_code 23 = .ok (.getfield 117, 3) := by decide +kernel
theorem d_M_keepMap_26 : decode prog_11_method_19_code 26 = .ok (.dup2, 1) := by decide +kernel
theorem d_M_keepMap_27 : decode prog_11_method_19_code 27 = .ok (.laload, 1) := by decide +kernel
theorem d_M_keepMap_28 : decode prog_11_method_19_code 28 = .ok (.aload_n 0, 1) := by decide +kernel
theorem d_M_keepMap_29 : decode prog_11_method_19_code 29 = .ok (.getfield 7, 3) := by decide +kernel
theorem d_M_keepMap_32 : decode prog_11_method_19_code 32 = .ok (.sipush 768, 3) := by decide +kernel
theorem d_M_keepMap_35 : decode prog_11_method_19_code 35 = .ok (.iload_n 1, 1) := by decide +kernel
theorem d_M_keepMap_36 : decode prog_11_method_19_code 36 = .ok (.iadd, 1) := by decide +kernel
theorem d_M_keepMap_37 : decode prog_11_method_19_code 37 = .ok (.baload, 1) := by decide +kernel
theorem d_M_keepMap_38 : decode prog_11_method_19_code 38 = .ok (.ifCond .eq 9, 3) := by decide +kernel
theorem d_M_keepMap_41 : decode prog_11_method_19_code 41 = .ok (.lconst 1, 1) := by decide +kernel
theorem d_M_keepMap_42 : decode prog_11_method_19_code 42 = .ok (.iload_n 1, 1) := by decide +kernel
theorem d_M_keepMap_43 : decode prog_11_method_19_code 43 = .ok (.lshl, 1) := by decide +kernel
theorem d_M_keepMap_44 : decode prog_11_method_19_code 44 = .ok (.goto 4, 3) := by decide +kernel
theorem d_M_keepMap_47 : decode prog_11_method_19_code 47 = .ok (.lconst 0, 1) := by decide +kernel
theorem d_M_keepMap_48 : decode prog_11_method_19_code 48 = .ok (.lor, 1) := by decide +kernel
theorem d_M_keepMap_49 : decode prog_11_method_19_code 49 = .ok (.lastore, 1) := by decide +kernel
theorem d_M_keepMap_50 : decode prog_11_method_19_code 50 = .ok (.aload_n 0, 1) := by decide +kernel
theorem d_M_keepMap_51 : decode prog_11_method_19_code 51 = .ok (.getfield 27, 3) := by decide +kernel
theorem d_M_keepMap_54 : decode prog_11_method_19_code 54 = .ok (.bipush 48, 2) := by decide +kernel
theorem d_M_keepMap_56 : decode prog_11_method_19_code 56 = .ok (.aload_n 0, 1) := by decide +kernel
theorem d_M_keepMap_57 : decode prog_11_method_19_code 57 = .ok (.getfield 117, 3) := by decide +kernel
theorem d_M_keepMap_60 : decode prog_11_method_19_code 60 = .ok (.imul, 1) := by decide +kernel
theorem d_M_keepMap_61 : decode prog_11_method_19_code 61 = .ok (.iload_n 1, 1) := by decide +kernel
theorem d_M_keepMap_62 : decode prog_11_method_19_code 62 = .ok (.iadd, 1) := by decide +kernel
theorem d_M_keepMap_63 : decode prog_11_method_19_code 63 = .ok (.aload_n 0, 1) := by decide +kernel
theorem d_M_keepMap_64 : decode prog_11_method_19_code 64 = .ok (.getfield 13, 3) := by decide +kernel
theorem d_M_keepMap_67 : decode prog_11_method_19_code 67 = .ok (.sipush 768, 3) := by decide +kernel
theorem d_M_keepMap_70 : decode prog_11_method_19_code 70 = .ok (.iload_n 1, 1) := by decide +kernel
theorem d_M_keepMap_71 : decode prog_11_method_19_code 71 = .ok (.iadd, 1) := by decide +kernel
theorem d_M_keepMap_72 : decode prog_11_method_19_code 72 = .ok (.iaload, 1) := by decide +kernel
theorem d_M_keepMap_73 : decode prog_11_method_19_code 73 = .ok (.iastore, 1) := by decide +kernel
theorem d_M_keepMap_74 : decode prog_11_method_19_code 74 = .ok (.iinc 1 1, 3) := by decide +kernel
theorem d_M_keepMap_77 : decode prog_11_method_19_code 77 = .ok (.goto (-65), 3) := by decide +kernel
theorem d_M_keepMap_80 : decode prog_11_method_19_code 80 = .ok (.return_, 1) := by decide +kernel
theorem d_M_written_0 : decode prog_11_method_20_code 0 = .ok (.iconst 0, 1) := by decide +kernel
theorem d_M_written_1 : decode prog_11_method_20_code 1 = .ok (.istore_n 1, 1) := by decide +kernel
theorem d_M_written_2 : decode prog_11_method_20_code 2 = .ok (.iload_n 1, 1) := by decide +kernel
theorem d_M_written_3 : decode prog_11_method_20_code 3 = .ok (.aload_n 0, 1) := by decide +kernel
theorem d_M_written_4 : decode prog_11_method_20_code 4 = .ok (.getfield 89, 3) := by decide +kernel
theorem d_M_written_7 : decode prog_11_method_20_code 7 = .ok (.if_icmp .ge 101, 3) := by decide +kernel
theorem d_M_written_10 : decode prog_11_method_20_code 10 = .ok (.iconst 0, 1) := by decide +kernel
theorem d_M_written_11 : decode prog_11_method_20_code 11 = .ok (.istore_n 2, 1) := by decide +kernel
theorem d_M_written_12 : decode prog_11_method_20_code 12 = .ok (.iload_n 2, 1) := by decide +kernel
theorem d_M_written_13 : decode prog_11_method_20_code 13 = .ok (.aload_n 0, 1) := by decide +kernel
theorem d_M_written_14 : decode prog_11_method_20_code 14 = .ok (.getfield 30, 3) := by decide +kernel
theorem d_M_written_17 : decode prog_11_method_20_code 17 = .ok (.iload_n 1, 1) := by decide +kernel
theorem d_M_written_18 : decode prog_11_method_20_code 18 = .ok (.iaload, 1) := by decide +kernel
theorem d_M_written_19 : decode prog_11_method_20_code 19 = .ok (.if_icmp .ge 83, 3) := by decide +kernel
theorem d_M_written_22 : decode prog_11_method_20_code 22 = .ok (.aload_n 0, 1) := by decide +kernel
theorem d_M_written_23 : decode prog_11_method_20_code 23 = .ok (.iload_n 1, 1) := by decide +kernel
theorem d_M_written_24 : decode prog_11_method_20_code 24 = .ok (.iload_n 2, 1) := by decide +kernel
theorem d_M_written_25 : decode prog_11_method_20_code 25 = .ok (.invokevirtual 92, 3) := by decide +kernel
theorem d_M_written_28 : decode prog_11_method_20_code 28 = .ok (.istore_n 3, 1) := by decide +kernel
theorem d_M_written_29 : decode prog_11_method_20_code 29 = .ok (.iload_n 2, 1) := by decide +kernel
theorem d_M_written_30 : decode prog_11_method_20_code 30 = .ok (.ifCond .ne 7, 3) := by decide +kernel
theorem d_M_written_33 : decode prog_11_method_20_code 33 = .ok (.iconst (-1), 1) := by decide +kernel
theorem d_M_written_34 : decode prog_11_method_20_code 34 = .ok (.goto 16, 3) := by decide +kernel
theorem d_M_written_37 : decode prog_11_method_20_code 37 = .ok (.aload_n 0, 1) := by decide +kernel
theorem d_M_written_38 : decode prog_11_method_20_code 38 = .ok (.getfield 33, 3) := by decide +kernel
theorem d_M_written_41 : decode prog_11_method_20_code 41 = .ok (.bipush 48, 2) := by decide +kernel
theorem d_M_written_43 : decode prog_11_method_20_code 43 = .ok (.iload_n 1, 1) := by decide +kernel
theorem d_M_written_44 : decode prog_11_method_20_code 44 = .ok (.imul, 1) := by decide +kernel
theorem d_M_written_45 : decode prog_11_method_20_code 45 = .ok (.iload_n 2, 1) := by decide +kernel
theorem d_M_written_46 : decode prog_11_method_20_code 46 = .ok (.iadd, 1) := by decide +kernel
theorem d_M_written_47 : decode prog_11_method_20_code 47 = .ok (.iconst 1, 1) := by decide +kernel
theorem d_M_written_48 : decode prog_11_method_20_code 48 = .ok (.isub, 1) := by decide +kernel
theorem d_M_written_49 : decode prog_11_method_20_code 49 = .ok (.iaload, 1) := by decide +kernel
theorem d_M_written_50 : decode prog_11_method_20_code 50 = .ok (.istore 4, 2) := by decide +kernel
theorem d_M_written_52 : decode prog_11_method_20_code 52 = .ok (.aload_n 0, 1) := by decide +kernel
theorem d_M_written_53 : decode prog_11_method_20_code 53 = .ok (.getfield 33, 3) := by decide +kernel
theorem d_M_written_56 : decode prog_11_method_20_code 56 = .ok (.bipush 48, 2) := by decide +kernel
theorem d_M_written_58 : decode prog_11_method_20_code 58 = .ok (.iload_n 1, 1) := by decide +kernel
theorem d_M_written_59 : decode prog_11_method_20_code 59 = .ok (.imul, 1) := by decide +kernel
theorem d_M_written_60 : decode prog_11_method_20_code 60 = .ok (.iload_n 3, 1) := by decide +kernel
theorem d_M_written_61 : decode prog_11_method_20_code 61 = .ok (.iadd, 1) := by decide +kernel
theorem d_M_written_62 : decode prog_11_method_20_code 62 = .ok (.iconst 1, 1) := by decide +kernel
theorem d_M_written_63 : decode prog_11_method_20_code 63 = .ok (.isub, 1) := by decide +kernel
theorem d_M_written_64 : decode prog_11_method_20_code 64 = .ok (.iaload, 1) := by decide +kernel
theorem d_M_written_65 : decode prog_11_method_20_code 65 = .ok (.istore 5, 2) := by decide +kernel
theorem d_M_written_67 : decode prog_11_method_20_code 67 = .ok (.aload_n 0, 1) := by decide +kernel
theorem d_M_written_68 : decode prog_11_method_20_code 68 = .ok (.iload_n 1, 1) := by decide +kernel
theorem d_M_written_69 : decode prog_11_method_20_code 69 = .ok (.iload 4, 2) := by decide +kernel
theorem d_M_written_71 : decode prog_11_method_20_code 71 = .ok (.iload 5, 2) := by decide +kernel
theorem d_M_written_73 : decode prog_11_method_20_code 73 = .ok (.invokevirtual 120, 3) := by decide +kernel
theorem d_M_written_76 : decode prog_11_method_20_code 76 = .ok (.ifCond .ne 21, 3) := by decide +kernel
theorem d_M_written_79 : decode prog_11_method_20_code 79 = .ok (.aload_n 0, 1) := by decide +kernel
theorem d_M_written_80 : decode prog_11_method_20_code 80 = .ok (.invokevirtual 123, 3) := by decide +kernel
theorem d_M_written_83 : decode prog_11_method_20_code 83 = .ok (.ifCond .ne 5, 3) := by decide +kernel
theorem d_M_written_86 : decode prog_11_method_20_code 86 = .ok (.iconst 0, 1) := by decide +kernel
theorem d_M_written_87 : decode prog_11_method_20_code 87 = .ok (.ireturn, 1) := by decide +kernel
theorem d_M_written_88 : decode prog_11_method_20_code 88 = .ok (.aload_n 0, 1) := by decide +kernel
theorem d_M_written_89 : decode prog_11_method_20_code 89 = .ok (.iload_n 1, 1) := by decide +kernel
theorem d_M_written_90 : decode prog_11_method_20_code 90 = .ok (.iload 4, 2) := by decide +kernel
theorem d_M_written_92 : decode prog_11_method_20_code 92 = .ok (.iload 5, 2) := by decide +kernel
theorem d_M_written_94 : decode prog_11_method_20_code 94 = .ok (.invokevirtual 127, 3) := by decide +kernel
theorem d_M_written_97 : decode prog_11_method_20_code 97 = .ok (.iload_n 3, 1) := by decide +kernel
theorem d_M_written_98 : decode prog_11_method_20_code 98 = .ok (.istore_n 2, 1) := by decide +kernel
theorem d_M_written_99 : decode prog_11_method_20_code 99 = .ok (.goto (-87), 3) := by decide +kernel
theorem d_M_written_102 : decode prog_11_method_20_code 102 = .ok (.iinc 1 1, 3) := by decide +kernel
theorem d_M_written_105 : decode prog_11_method_20_code 105 = .ok (.goto (-103), 3) := by decide +kernel
theorem d_M_written_108 : decode prog_11_method_20_code 108 = .ok (.aload_n 0, 1) := by decide +kernel
theorem d_M_written_109 : decode prog_11_method_20_code 109 = .ok (.invokevirtual 123, 3) := by decide +kernel
theorem d_M_written_112 : decode prog_11_method_20_code 112 = .ok (.ireturn, 1) := by decide +kernel
theorem d_M_stored_0 : decode prog_11_method_16_code 0 = .ok (.iconst 0, 1) := by decide +kernel
theorem d_M_stored_1 : decode prog_11_method_16_code 1 = .ok (.istore 4, 2) := by decide +kernel
theorem d_M_stored_3 : decode prog_11_method_16_code 3 = .ok (.iload 4, 2) := by decide +kernel
theorem d_M_stored_5 : decode prog_11_method_16_code 5 = .ok (.aload_n 0, 1) := by decide +kernel
theorem d_M_stored_6 : decode prog_11_method_16_code 6 = .ok (.getfield 111, 3) := by decide +kernel
theorem d_M_stored_9 : decode prog_11_method_16_code 9 = .ok (.if_icmp .ge 207, 3) := by decide +kernel
theorem d_M_stored_12 : decode prog_11_method_16_code 12 = .ok (.aload_n 0, 1) := by decide +kernel
theorem d_M_stored_13 : decode prog_11_method_16_code 13 = .ok (.getfield 20, 3) := by decide +kernel
theorem d_M_stored_16 : decode prog_11_method_16_code 16 = .ok (.iload 4, 2) := by decide +kernel
theorem d_M_stored_18 : decode prog_11_method_16_code 18 = .ok (.iaload, 1) := by decide +kernel
theorem d_M_stored_19 : decode prog_11_method_16_code 19 = .ok (.bipush 7, 2) := by decide +kernel
theorem d_M_stored_21 : decode prog_11_method_16_code 21 = .ok (.iand, 1) := by decide +kernel
theorem d_M_stored_22 : decode prog_11_method_16_code 22 = .ok (.iload_n 1, 1) := by decide +kernel
theorem d_M_stored_23 : decode prog_11_method_16_code 23 = .ok (.if_icmp .ne 21, 3) := by decide +kernel
theorem d_M_stored_26 : decode prog_11_method_16_code 26 = .ok (.aload_n 0, 1) := by decide +kernel
theorem d_M_stored_27 : decode prog_11_method_16_code 27 = .ok (.getfield 20, 3) := by decide +kernel
theorem d_M_stored_30 : decode prog_11_method_16_code 30 = .ok (.iload 4, 2) := by decide +kernel
theorem d_M_stored_32 : decode prog_11_method_16_code 32 = .ok (.iaload, 1) := by decide +kernel
theorem d_M_stored_33 : decode prog_11_method_16_code 33 = .ok (.bipush 18, 2) := by decide +kernel
theorem d_M_stored_35 : decode prog_11_method_16_code 35 = .ok (.ishr, 1) := by decide +kernel
theorem d_M_stored_36 : decode prog_11_method_16_code 36 = .ok (.iload_n 3, 1) := by decide +kernel
theorem d_M_stored_37 : decode prog_11_method_16_code 37 = .ok (.if_icmp .ne 7, 3) := by decide +kernel
theorem d_M_stored_40 : decode prog_11_method_16_code 40 = .ok (.iconst 1, 1) := by decide +kernel
theorem d_M_stored_41 : decode prog_11_method_16_code 41 = .ok (.goto 4, 3) := by decide +kernel
theorem d_M_stored_44 : decode prog_11_method_16_code 44 = .ok (.iconst 0, 1) := by decide +kernel
theorem d_M_stored_45 : decode prog_11_method_16_code 45 = .ok (.istore 5, 2) := by decide +kernel
theorem d_M_stored_47 : decode prog_11_method_16_code 47 = .ok (.aload_n 0, 1) := by decide +kernel
theorem d_M_stored_48 : decode prog_11_method_16_code 48 = .ok (.getfield 20, 3) := by decide +kernel
theorem d_M_stored_51 : decode prog_11_method_16_code 51 = .ok (.iload 4, 2) := by decide +kernel
theorem d_M_stored_53 : decode prog_11_method_16_code 53 = .ok (.iaload, 1) := by decide +kernel
theorem d_M_stored_54 : decode prog_11_method_16_code 54 = .ok (.iconst 3, 1) := by decide +kernel
theorem d_M_stored_55 : decode prog_11_method_16_code 55 = .ok (.ishr, 1) := by decide +kernel
theorem d_M_stored_56 : decode prog_11_method_16_code 56 = .ok (.sipush 511, 3) := by decide +kernel
theorem d_M_stored_59 : decode prog_11_method_16_code 59 = .ok (.iand, 1) := by decide +kernel
theorem d_M_stored_60 : decode prog_11_method_16_code 60 = .ok (.istore 6, 2) := by decide +kernel
theorem d_M_stored_62 : decode prog_11_method_16_code 62 = .ok (.aload_n 0, 1) := by decide +kernel
theorem d_M_stored_63 : decode prog_11_method_16_code 63 = .ok (.getfield 20, 3) := by decide +kernel
theorem d_M_stored_66 : decode prog_11_method_16_code 66 = .ok (.iload 4, 2) := by decide +kernel
theorem d_M_stored_68 : decode prog_11_method_16_code 68 = .ok (.iaload, 1) := by decide +kernel
theorem d_M_stored_69 : decode prog_11_method_16_code 69 = .ok (.bipush 12, 2) := by decide +kernel
end
section
theorem d_M_stored_71 : decode prog_11_method_16_code 71 = .ok (.ishr, 1) := by decide +kernel
theorem d_M_stored_72 : decode prog_11_method_16_code 72 = .ok (.bipush 63, 2) := by decide +kernel
theorem d_M_stored_74 : decode prog_11_method_16_code 74 = .ok (.iand, 1) := by decide +kernel
theorem d_M_stored_75 : decode prog_11_method_16_code 75 = .ok (.iconst 1, 1) := by decide +kernel
theorem d_M_stored_76 : decode prog_11_method_16_code 76 = .ok (.isub, 1) := by decide +kernel
theorem d_M_stored_77 : decode prog_11_method_16_code 77 = .ok (.istore 7, 2) := by decide +kernel
theorem d_M_stored_79 : decode prog_11_method_16_code 79 = .ok (.iconst 0, 1) := by decide +kernel
theorem d_M_stored_80 : decode prog_11_method_16_code 80 = .ok (.istore 8, 2) := by decide +kernel
theorem d_M_stored_82 : decode prog_11_method_16_code 82 = .ok (.iload 8, 2) := by decide +kernel
theorem d_M_stored_84 : decode prog_11_method_16_code 84 = .ok (.iload_n 3, 1) := by decide +kernel
theorem d_M_stored_85 : decode prog_11_method_16_code 85 = .ok (.if_icmp .gt 118, 3) := by decide +kernel
theorem d_M_stored_88 : decode prog_11_method_16_code 88 = .ok (.iload 5, 2) := by decide +kernel
theorem d_M_stored_90 : decode prog_11_method_16_code 90 = .ok (.ifCond .eq 113, 3) := by decide +kernel
theorem d_M_stored_93 : decode prog_11_method_16_code 93 = .ok (.aload_n 0, 1) := by decide +kernel
theorem d_M_stored_94 : decode prog_11_method_16_code 94 = .ok (.getfield 23, 3) := by decide +kernel
theorem d_M_stored_97 : decode prog_11_method_16_code 97 = .ok (.iload 6, 2) := by decide +kernel
theorem d_M_stored_99 : decode prog_11_method_16_code 99 = .ok (.laload, 1) := by decide +kernel
theorem d_M_stored_100 : decode prog_11_method_16_code 100 = .ok (.iload 8, 2) := by decide +kernel
theorem d_M_stored_102 : decode prog_11_method_16_code 102 = .ok (.lshr, 1) := by decide +kernel
theorem d_M_stored_103 : decode prog_11_method_16_code 103 = .ok (.lconst 1, 1) := by decide +kernel
theorem d_M_stored_104 : decode prog_11_method_16_code 104 = .ok (.land, 1) := by decide +kernel
theorem d_M_stored_105 : decode prog_11_method_16_code 105 = .ok (.lconst 1, 1) := by decide +kernel
theorem d_M_stored_106 : decode prog_11_method_16_code 106 = .ok (.lcmp, 1) := by decide +kernel
theorem d_M_stored_107 : decode prog_11_method_16_code 107 = .ok (.ifCond .ne 14, 3) := by decide +kernel
theorem d_M_stored_110 : decode prog_11_method_16_code 110 = .ok (.iload 8, 2) := by decide +kernel
theorem d_M_stored_112 : decode prog_11_method_16_code 112 = .ok (.iload 7, 2) := by decide +kernel
theorem d_M_stored_114 : decode prog_11_method_16_code 114 = .ok (.if_icmp .le 7, 3) := by decide +kernel
theorem d_M_stored_117 : decode prog_11_method_16_code 117 = .ok (.iconst 1, 1) := by decide +kernel
theorem d_M_stored_118 : decode prog_11_method_16_code 118 = .ok (.goto 4, 3) := by decide +kernel
theorem d_M_stored_121 : decode prog_11_method_16_code 121 = .ok (.iconst 0, 1) := by decide +kernel
theorem d_M_stored_122 : decode prog_11_method_16_code 122 = .ok (.istore 9, 2) := by decide +kernel
theorem d_M_stored_124 : decode prog_11_method_16_code 124 = .ok (.aload_n 0, 1) := by decide +kernel
theorem d_M_stored_125 : decode prog_11_method_16_code 125 = .ok (.getfield 7, 3) := by decide +kernel
theorem d_M_stored_128 : decode prog_11_method_16_code 128 = .ok (.sipush 768, 3) := by decide +kernel
theorem d_M_stored_131 : decode prog_11_method_16_code 131 = .ok (.iload 8, 2) := by decide +kernel
theorem d_M_stored_133 : decode prog_11_method_16_code 133 = .ok (.iadd, 1) := by decide +kernel
theorem d_M_stored_134 : decode prog_11_method_16_code 134 = .ok (.baload, 1) := by decide +kernel
theorem d_M_stored_135 : decode prog_11_method_16_code 135 = .ok (.ifCond .eq 13, 3) := by decide +kernel
theorem d_M_stored_138 : decode prog_11_method_16_code 138 = .ok (.iload 8, 2) := by decide +kernel
theorem d_M_stored_140 : decode prog_11_method_16_code 140 = .ok (.iload_n 2, 1) := by decide +kernel
theorem d_M_stored_141 : decode prog_11_method_16_code 141 = .ok (.if_icmp .le 7, 3) := by decide +kernel
theorem d_M_stored_144 : decode prog_11_method_16_code 144 = .ok (.iconst 1, 1) := by decide +kernel
theorem d_M_stored_145 : decode prog_11_method_16_code 145 = .ok (.goto 4, 3) := by decide +kernel
theorem d_M_stored_148 : decode prog_11_method_16_code 148 = .ok (.iconst 0, 1) := by decide +kernel
theorem d_M_stored_149 : decode prog_11_method_16_code 149 = .ok (.istore 10, 2) := by decide +kernel
theorem d_M_stored_151 : decode prog_11_method_16_code 151 = .ok (.iload 9, 2) := by decide +kernel
theorem d_M_stored_153 : decode prog_11_method_16_code 153 = .ok (.iload 10, 2) := by decide +kernel
theorem d_M_stored_155 : decode prog_11_method_16_code 155 = .ok (.if_icmp .ne 39, 3) := by decide +kernel
theorem d_M_stored_158 : decode prog_11_method_16_code 158 = .ok (.iload 10, 2) := by decide +kernel
theorem d_M_stored_160 : decode prog_11_method_16_code 160 = .ok (.ifCond .eq 30, 3) := by decide +kernel
theorem d_M_stored_163 : decode prog_11_method_16_code 163 = .ok (.aload_n 0, 1) := by decide +kernel
theorem d_M_stored_164 : decode prog_11_method_16_code 164 = .ok (.getfield 27, 3) := by decide +kernel
theorem d_M_stored_167 : decode prog_11_method_16_code 167 = .ok (.bipush 48, 2) := by decide +kernel
theorem d_M_stored_169 : decode prog_11_method_16_code 169 = .ok (.iload 6, 2) := by decide +kernel
theorem d_M_stored_171 : decode prog_11_method_16_code 171 = .ok (.imul, 1) := by decide +kernel
theorem d_M_stored_172 : decode prog_11_method_16_code 172 = .ok (.iload 8, 2) := by decide +kernel
theorem d_M_stored_174 : decode prog_11_method_16_code 174 = .ok (.iadd, 1) := by decide +kernel
theorem d_M_stored_175 : decode prog_11_method_16_code 175 = .ok (.iaload, 1) := by decide +kernel
theorem d_M_stored_176 : decode prog_11_method_16_code 176 = .ok (.aload_n 0, 1) := by decide +kernel
theorem d_M_stored_177 : decode prog_11_method_16_code 177 = .ok (.getfield 13, 3) := by decide +kernel
theorem d_M_stored_180 : decode prog_11_method_16_code 180 = .ok (.sipush 768, 3) := by decide +kernel
theorem d_M_stored_183 : decode prog_11_method_16_code 183 = .ok (.iload 8, 2) := by decide +kernel
theorem d_M_stored_185 : decode prog_11_method_16_code 185 = .ok (.iadd, 1) := by decide +kernel
theorem d_M_stored_186 : decode prog_11_method_16_code 186 = .ok (.iaload, 1) := by decide +kernel
theorem d_M_stored_187 : decode prog_11_method_16_code 187 = .ok (.if_icmp .ne 7, 3) := by decide +kernel
theorem d_M_stored_190 : decode prog_11_method_16_code 190 = .ok (.iconst 1, 1) := by decide +kernel
theorem d_M_stored_191 : decode prog_11_method_16_code 191 = .ok (.goto 4, 3) := by decide +kernel
theorem d_M_stored_194 : decode prog_11_method_16_code 194 = .ok (.iconst 0, 1) := by decide +kernel
theorem d_M_stored_195 : decode prog_11_method_16_code 195 = .ok (.istore 5, 2) := by decide +kernel
theorem d_M_stored_197 : decode prog_11_method_16_code 197 = .ok (.iinc 8 1, 3) := by decide +kernel
theorem d_M_stored_200 : decode prog_11_method_16_code 200 = .ok (.goto (-118), 3) := by decide +kernel
theorem d_M_stored_203 : decode prog_11_method_16_code 203 = .ok (.iload 5, 2) := by decide +kernel
theorem d_M_stored_205 : decode prog_11_method_16_code 205 = .ok (.ifCond .eq 5, 3) := by decide +kernel
theorem d_M_stored_208 : decode prog_11_method_16_code 208 = .ok (.iconst 1, 1) := by decide +kernel
theorem d_M_stored_209 : decode prog_11_method_16_code 209 = .ok (.ireturn, 1) := by decide +kernel
theorem d_M_stored_210 : decode prog_11_method_16_code 210 = .ok (.iinc 4 1, 3) := by decide +kernel
theorem d_M_stored_213 : decode prog_11_method_16_code 213 = .ok (.goto (-210), 3) := by decide +kernel
theorem d_M_stored_216 : decode prog_11_method_16_code 216 = .ok (.iconst 0, 1) := by decide +kernel
theorem d_M_stored_217 : decode prog_11_method_16_code 217 = .ok (.ireturn, 1) := by decide +kernel
theorem d_M_writes_0 : decode prog_11_method_17_code 0 = .ok (.aload_n 0, 1) := by decide +kernel
theorem d_M_writes_1 : decode prog_11_method_17_code 1 = .ok (.aload_n 0, 1) := by decide +kernel
theorem d_M_writes_2 : decode prog_11_method_17_code 2 = .ok (.getfield 114, 3) := by decide +kernel
theorem d_M_writes_5 : decode prog_11_method_17_code 5 = .ok (.ifCond .le 12, 3) := by decide +kernel
theorem d_M_writes_8 : decode prog_11_method_17_code 8 = .ok (.aload_n 0, 1) := by decide +kernel
theorem d_M_writes_9 : decode prog_11_method_17_code 9 = .ok (.getfield 114, 3) := by decide +kernel
theorem d_M_writes_12 : decode prog_11_method_17_code 12 = .ok (.iconst 1, 1) := by decide +kernel
theorem d_M_writes_13 : decode prog_11_method_17_code 13 = .ok (.isub, 1) := by decide +kernel
theorem d_M_writes_14 : decode prog_11_method_17_code 14 = .ok (.goto 4, 3) := by decide +kernel
theorem d_M_writes_17 : decode prog_11_method_17_code 17 = .ok (.iconst (-1), 1) := by decide +kernel
theorem d_M_writes_18 : decode prog_11_method_17_code 18 = .ok (.putfield 114, 3) := by decide +kernel
theorem d_M_writes_21 : decode prog_11_method_17_code 21 = .ok (.aload_n 0, 1) := by decide +kernel
theorem d_M_writes_22 : decode prog_11_method_17_code 22 = .ok (.getfield 114, 3) := by decide +kernel
theorem d_M_writes_25 : decode prog_11_method_17_code 25 = .ok (.ifCond .eq 7, 3) := by decide +kernel
theorem d_M_writes_28 : decode prog_11_method_17_code 28 = .ok (.iconst 1, 1) := by decide +kernel
theorem d_M_writes_29 : decode prog_11_method_17_code 29 = .ok (.goto 4, 3) := by decide +kernel
theorem d_M_writes_32 : decode prog_11_method_17_code 32 = .ok (.iconst 0, 1) := by decide +kernel
theorem d_M_writes_33 : decode prog_11_method_17_code 33 = .ok (.istore_n 1, 1) := by decide +kernel
theorem d_M_writes_34 : decode prog_11_method_17_code 34 = .ok (.aload_n 0, 1) := by decide +kernel
theorem d_M_writes_35 : decode prog_11_method_17_code 35 = .ok (.aload_n 0, 1) := by decide +kernel
theorem d_M_writes_36 : decode prog_11_method_17_code 36 = .ok (.getfield 114, 3) := by decide +kernel
theorem d_M_writes_39 : decode prog_11_method_17_code 39 = .ok (.iconst 1, 1) := by decide +kernel
theorem d_M_writes_40 : decode prog_11_method_17_code 40 = .ok (.if_icmp .ge 7, 3) := by decide +kernel
theorem d_M_writes_43 : decode prog_11_method_17_code 43 = .ok (.iconst 0, 1) := by decide +kernel
theorem d_M_writes_44 : decode prog_11_method_17_code 44 = .ok (.goto 7, 3) := by decide +kernel
theorem d_M_writes_47 : decode prog_11_method_17_code 47 = .ok (.aload_n 0, 1) := by decide +kernel
theorem d_M_writes_48 : decode prog_11_method_17_code 48 = .ok (.getfield 114, 3) := by decide +kernel
theorem d_M_writes_51 : decode prog_11_method_17_code 51 = .ok (.putfield 114, 3) := by decide +kernel
theorem d_M_writes_54 : decode prog_11_method_17_code 54 = .ok (.iload_n 1, 1) := by decide +kernel
theorem d_M_writes_55 : decode prog_11_method_17_code 55 = .ok (.ireturn, 1) := by decide +kernel
theorem d_M_store_0 : decode prog_11_method_18_code 0 = .ok (.aload_n 0, 1) := by decide +kernel
theorem d_M_store_1 : decode prog_11_method_18_code 1 = .ok (.getfield 20, 3) := by decide +kernel
theorem d_M_store_4 : decode prog_11_method_18_code 4 = .ok (.aload_n 0, 1) := by decide +kernel
theorem d_M_store_5 : decode prog_11_method_18_code 5 = .ok (.getfield 111, 3) := by decide +kernel
theorem d_M_store_8 : decode prog_11_method_18_code 8 = .ok (.iload_n 1, 1) := by decide +kernel
theorem d_M_store_9 : decode prog_11_method_18_code 9 = .ok (.aload_n 0, 1) := by decide +kernel
theorem d_M_store_10 : decode prog_11_method_18_code 10 = .ok (.getfield 117, 3) := by decide +kernel
theorem d_M_store_13 : decode prog_11_method_18_code 13 = .ok (.iconst 3, 1) := by decide +kernel
theorem d_M_store_14 : decode prog_11_method_18_code 14 = .ok (.ishl, 1) := by decide +kernel
theorem d_M_store_15 : decode prog_11_method_18_code 15 = .ok (.ior, 1) := by decide +kernel
theorem d_M_store_16 : decode prog_11_method_18_code 16 = .ok (.iload_n 2, 1) := by decide +kernel
theorem d_M_store_17 : decode prog_11_method_18_code 17 = .ok (.iconst 1, 1) := by decide +kernel
theorem d_M_store_18 : decode prog_11_method_18_code 18 = .ok (.iadd, 1) := by decide +kernel
theorem d_M_store_19 : decode prog_11_method_18_code 19 = .ok (.bipush 12, 2) := by decide +kernel
theorem d_M_store_21 : decode prog_11_method_18_code 21 = .ok (.ishl, 1) := by decide +kernel
theorem d_M_store_22 : decode prog_11_method_18_code 22 = .ok (.ior, 1) := by decide +kernel
theorem d_M_store_23 : decode prog_11_method_18_code 23 = .ok (.iload_n 3, 1) := by decide +kernel
theorem d_M_store_24 : decode prog_11_method_18_code 24 = .ok (.bipush 18, 2) := by decide +kernel
theorem d_M_store_26 : decode prog_11_method_18_code 26 = .ok (.ishl, 1) := by decide +kernel
theorem d_M_store_27 : decode prog_11_method_18_code 27 = .ok (.ior, 1) := by decide +kernel
theorem d_M_store_28 : decode prog_11_method_18_code 28 = .ok (.iastore, 1) := by decide +kernel
theorem d_M_store_29 : decode prog_11_method_18_code 29 = .ok (.aload_n 0, 1) := by decide +kernel
theorem d_M_store_30 : decode prog_11_method_18_code 30 = .ok (.dup, 1) := by decide +kernel
theorem d_M_store_31 : decode prog_11_method_18_code 31 = .ok (.getfield 111, 3) := by decide +kernel
theorem d_M_store_34 : decode prog_11_method_18_code 34 = .ok (.iconst 1, 1) := by decide +kernel
theorem d_M_store_35 : decode prog_11_method_18_code 35 = .ok (.iadd, 1) := by decide +kernel
theorem d_M_store_36 : decode prog_11_method_18_code 36 = .ok (.putfield 111, 3) := by decide +kernel
theorem d_M_store_39 : decode prog_11_method_18_code 39 = .ok (.return_, 1) := by decide +kernel
theorem d_M_fail_0 : decode prog_11_method_22_code 0 = .ok (.aload_n 0, 1) := by decide +kernel
theorem d_M_fail_1 : decode prog_11_method_22_code 1 = .ok (.iconst 0, 1) := by decide +kernel
theorem d_M_fail_2 : decode prog_11_method_22_code 2 = .ok (.putfield 73, 3) := by decide +kernel
theorem d_M_fail_5 : decode prog_11_method_22_code 5 = .ok (.iload_n 1, 1) := by decide +kernel
theorem d_M_fail_6 : decode prog_11_method_22_code 6 = .ok (.iconst 1, 1) := by decide +kernel
theorem d_M_fail_7 : decode prog_11_method_22_code 7 = .ok (.bipush 40, 2) := by decide +kernel
theorem d_M_fail_9 : decode prog_11_method_22_code 9 = .ok (.invokestatic 99, 3) := by decide +kernel
theorem d_M_fail_12 : decode prog_11_method_22_code 12 = .ok (.ifCond .eq 5, 3) := by decide +kernel
theorem d_M_fail_15 : decode prog_11_method_22_code 15 = .ok (.iconst 0, 1) := by decide +kernel
theorem d_M_fail_16 : decode prog_11_method_22_code 16 = .ok (.ireturn, 1) := by decide +kernel
theorem d_M_fail_17 : decode prog_11_method_22_code 17 = .ok (.aload_n 0, 1) := by decide +kernel
theorem d_M_fail_18 : decode prog_11_method_22_code 18 = .ok (.iload_n 1, 1) := by decide +kernel
theorem d_M_fail_19 : decode prog_11_method_22_code 19 = .ok (.putfield 114, 3) := by decide +kernel
theorem d_M_fail_22 : decode prog_11_method_22_code 22 = .ok (.iconst 1, 1) := by decide +kernel
theorem d_M_fail_23 : decode prog_11_method_22_code 23 = .ok (.ireturn, 1) := by decide +kernel
theorem d_M_chunks_0 : decode prog_11_method_23_code 0 = .ok (.aload_n 0, 1) := by decide +kernel
theorem d_M_chunks_1 : decode prog_11_method_23_code 1 = .ok (.iconst 0, 1) := by decide +kernel
theorem d_M_chunks_2 : decode prog_11_method_23_code 2 = .ok (.putfield 73, 3) := by decide +kernel
theorem d_M_chunks_5 : decode prog_11_method_23_code 5 = .ok (.aload_n 0, 1) := by decide +kernel
theorem d_M_chunks_6 : decode prog_11_method_23_code 6 = .ok (.getfield 111, 3) := by decide +kernel
theorem d_M_chunks_9 : decode prog_11_method_23_code 9 = .ok (.ireturn, 1) := by decide +kernel
theorem d_M_versions_0 : decode prog_11_method_24_code 0 = .ok (.aload_n 0, 1) := by decide +kernel
theorem d_M_versions_1 : decode prog_11_method_24_code 1 = .ok (.iconst 0, 1) := by decide +kernel
theorem d_M_versions_2 : decode prog_11_method_24_code 2 = .ok (.putfield 73, 3) := by decide +kernel
theorem d_M_versions_5 : decode prog_11_method_24_code 5 = .ok (.aload_n 0, 1) := by decide +kernel
theorem d_M_versions_6 : decode prog_11_method_24_code 6 = .ok (.getfield 69, 3) := by decide +kernel
theorem d_M_versions_9 : decode prog_11_method_24_code 9 = .ok (.ireturn, 1) := by decide +kernel
theorem d_M_get_0 : decode prog_11_method_26_code 0 = .ok (.iload_n 1, 1) := by decide +kernel
theorem d_M_get_1 : decode prog_11_method_26_code 1 = .ok (.iconst (-1), 1) := by decide +kernel
theorem d_M_get_2 : decode prog_11_method_26_code 2 = .ok (.if_icmp .eq 11, 3) := by decide +kernel
theorem d_M_get_5 : decode prog_11_method_26_code 5 = .ok (.aload_n 0, 1) := by decide +kernel
theorem d_M_get_6 : decode prog_11_method_26_code 6 = .ok (.iload_n 1, 1) := by decide +kernel
theorem d_M_get_7 : decode prog_11_method_26_code 7 = .ok (.invokevirtual 142, 3) := by decide +kernel
theorem d_M_get_10 : decode prog_11_method_26_code 10 = .ok (.ifCond .eq 13, 3) := by decide +kernel
theorem d_M_get_13 : decode prog_11_method_26_code 13 = .ok (.iload_n 2, 1) := by decide +kernel
theorem d_M_get_14 : decode prog_11_method_26_code 14 = .ok (.iconst 0, 1) := by decide +kernel
theorem d_M_get_15 : decode prog_11_method_26_code 15 = .ok (.bipush 47, 2) := by decide +kernel
theorem d_M_get_17 : decode prog_11_method_26_code 17 = .ok (.invokestatic 99, 3) := by decide +kernel
theorem d_M_get_20 : decode prog_11_method_26_code 20 = .ok (.ifCond .eq 9, 3) := by decide +kernel
theorem d_M_get_23 : decode prog_11_method_26_code 23 = .ok (.aload_n 0, 1) := by decide +kernel
theorem d_M_get_24 : decode prog_11_method_26_code 24 = .ok (.iconst 1, 1) := by decide +kernel
theorem d_M_get_25 : decode prog_11_method_26_code 25 = .ok (.invokevirtual 130, 3) := by decide +kernel
theorem d_M_get_28 : decode prog_11_method_26_code 28 = .ok (.ireturn, 1) := by decide +kernel
theorem d_M_get_29 : decode prog_11_method_26_code 29 = .ok (.bipush 48, 2) := by decide +kernel
theorem d_M_get_31 : decode prog_11_method_26_code 31 = .ok (.iload_n 1, 1) := by decide +kernel
theorem d_M_get_32 : decode prog_11_method_26_code 32 = .ok (.iconst (-1), 1) := by decide +kernel
theorem d_M_get_33 : decode prog_11_method_26_code 33 = .ok (.if_icmp .ne 8, 3) := by decide +kernel
theorem d_M_get_36 : decode prog_11_method_26_code 36 = .ok (.bipush 16, 2) := by decide +kernel
theorem d_M_get_38 : decode prog_11_method_26_code 38 = .ok (.goto 4, 3) := by decide +kernel
theorem d_M_get_41 : decode prog_11_method_26_code 41 = .ok (.iload_n 1, 1) := by decide +kernel
theorem d_M_get_42 : decode prog_11_method_26_code 42 = .ok (.imul, 1) := by decide +kernel
theorem d_M_get_43 : decode prog_11_method_26_code 43 = .ok (.iload_n 2, 1) := by decide +kernel
theorem d_M_get_44 : decode prog_11_method_26_code 44 = .ok (.iadd, 1) := by decide +kernel
theorem d_M_get_45 : decode prog_11_method_26_code 45 = .ok (.istore_n 3, 1) := by decide +kernel
theorem d_M_get_46 : decode prog_11_method_26_code 46 = .ok (.aload_n 0, 1) := by decide +kernel
theorem d_M_get_47 : decode prog_11_method_26_code 47 = .ok (.getfield 7, 3) := by decide +kernel
theorem d_M_get_50 : decode prog_11_method_26_code 50 = .ok (.iload_n 3, 1) := by decide +kernel
theorem d_M_get_51 : decode prog_11_method_26_code 51 = .ok (.baload, 1) := by decide +kernel
theorem d_M_get_52 : decode prog_11_method_26_code 52 = .ok (.ifCond .ne 9, 3) := by decide +kernel
theorem d_M_get_55 : decode prog_11_method_26_code 55 = .ok (.aload_n 0, 1) := by decide +kernel
theorem d_M_get_56 : decode prog_11_method_26_code 56 = .ok (.iconst 2, 1) := by decide +kernel
theorem d_M_get_57 : decode prog_11_method_26_code 57 = .ok (.invokevirtual 130, 3) := by decide +kernel
theorem d_M_get_60 : decode prog_11_method_26_code 60 = .ok (.ireturn, 1) := by decide +kernel
theorem d_M_get_61 : decode prog_11_method_26_code 61 = .ok (.aload_n 0, 1) := by decide +kernel
theorem d_M_get_62 : decode prog_11_method_26_code 62 = .ok (.iconst 0, 1) := by decide +kernel
theorem d_M_get_63 : decode prog_11_method_26_code 63 = .ok (.putfield 73, 3) := by decide +kernel
theorem d_M_get_66 : decode prog_11_method_26_code 66 = .ok (.aload_n 0, 1) := by decide +kernel
theorem d_M_get_67 : decode prog_11_method_26_code 67 = .ok (.getfield 13, 3) := by decide +kernel
theorem d_M_get_70 : decode prog_11_method_26_code 70 = .ok (.iload_n 3, 1) := by decide +kernel
theorem d_M_get_71 : decode prog_11_method_26_code 71 = .ok (.iaload, 1) := by decide +kernel
theorem d_M_get_72 : decode prog_11_method_26_code 72 = .ok (.ireturn, 1) := by decide +kernel
theorem d_M_isVersion_0 : decode prog_11_method_25_code 0 = .ok (.iload_n 1, 1) := by decide +kernel
theorem d_M_isVersion_1 : decode prog_11_method_25_code 1 = .ok (.iconst 0, 1) := by decide +kernel
theorem d_M_isVersion_2 : decode prog_11_method_25_code 2 = .ok (.aload_n 0, 1) := by decide +kernel
theorem d_M_isVersion_3 : decode prog_11_method_25_code 3 = .ok (.getfield 69, 3) := by decide +kernel
theorem d_M_isVersion_6 : decode prog_11_method_25_code 6 = .ok (.iconst 1, 1) := by decide +kernel
theorem d_M_isVersion_7 : decode prog_11_method_25_code 7 = .ok (.isub, 1) := by decide +kernel
theorem d_M_isVersion_8 : decode prog_11_method_25_code 8 = .ok (.invokestatic 99, 3) := by decide +kernel
theorem d_M_isVersion_11 : decode prog_11_method_25_code 11 = .ok (.ifCond .ne 7, 3) := by decide +kernel
theorem d_M_isVersion_14 : decode prog_11_method_25_code 14 = .ok (.iconst 1, 1) := by decide +kernel
theorem d_M_isVersion_15 : decode prog_11_method_25_code 15 = .ok (.goto 4, 3) := by decide +kernel
theorem d_M_isVersion_18 : decode prog_11_method_25_code 18 = .ok (.iconst 0, 1) := by decide +kernel
theorem d_M_isVersion_19 : decode prog_11_method_25_code 19 = .ok (.ireturn, 1) := by decide +kernel
theorem d_M_range_0 : decode prog_11_method_27_code 0 = .ok (.aload_n 0, 1) := by decide +kernel
theorem d_M_range_1 : decode prog_11_method_27_code 1 = .ok (.iload_n 1, 1) := by decide +kernel
theorem d_M_range_2 : decode prog_11_method_27_code 2 = .ok (.invokevirtual 142, 3) := by decide +kernel
theorem d_M_range_5 : decode prog_11_method_27_code 5 = .ok (.ifCond .ne 9, 3) := by decide +kernel
theorem d_M_range_8 : decode prog_11_method_27_code 8 = .ok (.aload_n 0, 1) := by decide +kernel
theorem d_M_range_9 : decode prog_11_method_27_code 9 = .ok (.iconst 1, 1) := by decide +kernel
theorem d_M_range_10 : decode prog_11_method_27_code 10 = .ok (.invokevirtual 130, 3) := by decide +kernel
theorem d_M_range_13 : decode prog_11_method_27_code 13 = .ok (.ireturn, 1) := by decide +kernel
theorem d_M_range_14 : decode prog_11_method_27_code 14 = .ok (.aload_n 0, 1) := by decide +kernel
theorem d_M_range_15 : decode prog_11_method_27_code 15 = .ok (.iconst 0, 1) := by decide +kernel
theorem d_M_range_16 : decode prog_11_method_27_code 16 = .ok (.putfield 73, 3) := by decide +kernel
theorem d_M_range_19 : decode prog_11_method_27_code 19 = .ok (.iconst 0, 1) := by decide +kernel
theorem d_M_range_20 : decode prog_11_method_27_code 20 = .ok (.istore 4, 2) := by decide +kernel
theorem d_M_range_22 : decode prog_11_method_27_code 22 = .ok (.iconst 0, 1) := by decide +kernel
theorem d_M_range_23 : decode prog_11_method_27_code 23 = .ok (.istore 5, 2) := by decide +kernel
theorem d_M_range_25 : decode prog_11_method_27_code 25 = .ok (.iload 5, 2) := by decide +kernel
theorem d_M_range_27 : decode prog_11_method_27_code 27 = .ok (.bipush 48, 2) := by decide +kernel
theorem d_M_range_29 : decode prog_11_method_27_code 29 = .ok (.if_icmp .ge 47, 3) := by decide +kernel
theorem d_M_range_32 : decode prog_11_method_27_code 32 = .ok (.aload_n 0, 1) := by decide +kernel
theorem d_M_range_33 : decode prog_11_method_27_code 33 = .ok (.getfield 7, 3) := by decide +kernel
theorem d_M_range_36 : decode prog_11_method_27_code 36 = .ok (.bipush 48, 2) := by decide +kernel
theorem d_M_range_38 : decode prog_11_method_27_code 38 = .ok (.iload_n 1, 1) := by decide +kernel
theorem d_M_range_39 : decode prog_11_method_27_code 39 = .ok (.imul, 1) := by decide +kernel
theorem d_M_range_40 : decode prog_11_method_27_code 40 = .ok (.iload 5, 2) := by decide +kernel
theorem d_M_range_42 : decode prog_11_method_27_code 42 = .ok (.iadd, 1) := by decide +kernel
theorem d_M_range_43 : decode prog_11_method_27_code 43 = .ok (.baload, 1) := by decide +kernel
theorem d_M_range_44 : decode prog_11_method_27_code 44 = .ok (.ifCond .eq 22, 3) := by decide +kernel
theorem d_M_range_47 : decode prog_11_method_27_code 47 = .ok (.iload 5, 2) := by decide +kernel
theorem d_M_range_49 : decode prog_11_method_27_code 49 = .ok (.iload_n 2, 1) := by decide +kernel
theorem d_M_range_50 : decode prog_11_method_27_code 50 = .ok (.if_icmp .lt 16, 3) := by decide +kernel
theorem d_M_range_53 : decode prog_11_method_27_code 53 = .ok (.iload 5, 2) := by decide +kernel
theorem d_M_range_55 : decode prog_11_method_27_code 55 = .ok (.iload_n 3, 1) := by decide +kernel
theorem d_M_range_56 : decode prog_11_method_27_code 56 = .ok (.if_icmp .gt 10, 3) := by decide +kernel
theorem d_M_range_59 : decode prog_11_method_27_code 59 = .ok (.iload 4, 2) := by decide +kernel
theorem d_M_range_61 : decode prog_11_method_27_code 61 = .ok (.iconst 1, 1) := by decide +kernel
theorem d_M_range_62 : decode prog_11_method_27_code 62 = .ok (.iadd, 1) := by decide +kernel
theorem d_M_range_63 : decode prog_11_method_27_code 63 = .ok (.goto 5, 3) := by decide +kernel
theorem d_M_range_66 : decode prog_11_method_27_code 66 = .ok (.iload 4, 2) := by decide +kernel
theorem d_M_range_68 : decode prog_11_method_27_code 68 = .ok (.istore 4, 2) := by decide +kernel
theorem d_M_range_70 : decode prog_11_method_27_code 70 = .ok (.iinc 5 1, 3) := by decide +kernel
theorem d_M_range_73 : decode prog_11_method_27_code 73 = .ok (.goto (-48), 3) := by decide +kernel
theorem d_M_range_76 : decode prog_11_method_27_code 76 = .ok (.iload 4, 2) := by decide +kernel
theorem d_M_range_78 : decode prog_11_method_27_code 78 = .ok (.ireturn, 1) := by decide +kernel
theorem d_M_root_0 : decode prog_11_method_28_code 0 = .ok (.aload_n 0, 1) := by decide +kernel
theorem d_M_root_1 : decode prog_11_method_28_code 1 = .ok (.iload_n 1, 1) := by decide +kernel
theorem d_M_root_2 : decode prog_11_method_28_code 2 = .ok (.invokevirtual 142, 3) := by decide +kernel
theorem d_M_root_5 : decode prog_11_method_28_code 5 = .ok (.ifCond .ne 9, 3) := by decide +kernel
theorem d_M_root_8 : decode prog_11_method_28_code 8 = .ok (.aload_n 0, 1) := by decide +kernel
theorem d_M_root_9 : decode prog_11_method_28_code 9 = .ok (.iconst 1, 1) := by decide +kernel
theorem d_M_root_10 : decode prog_11_method_28_code 10 = .ok (.invokevirtual 130, 3) := by decide +kernel
theorem d_M_root_13 : decode prog_11_method_28_code 13 = .ok (.ireturn, 1) := by decide +kernel
theorem d_M_root_14 : decode prog_11_method_28_code 14 = .ok (.aload_n 0, 1) := by decide +kernel
theorem d_M_root_15 : decode prog_11_method_28_code 15 = .ok (.iconst 0, 1) := by decide +kernel
theorem d_M_root_16 : decode prog_11_method_28_code 16 = .ok (.putfield 73, 3) := by decide +kernel
theorem d_M_root_19 : decode prog_11_method_28_code 19 = .ok (.aload_n 0, 1) := by decide +kernel
theorem d_M_root_20 : decode prog_11_method_28_code 20 = .ok (.getfield 17, 3) := by decide +kernel
theorem d_M_root_23 : decode prog_11_method_28_code 23 = .ok (.iload_n 1, 1) := by decide +kernel
theorem d_M_root_24 : decode prog_11_method_28_code 24 = .ok (.iaload, 1) := by decide +kernel
theorem d_M_root_25 : decode prog_11_method_28_code 25 = .ok (.ireturn, 1) := by decide +kernel
theorem d_M_digest_0 : decode prog_11_method_32_code 0 = .ok (.iload_n 1, 1) := by decide +kernel
theorem d_M_digest_1 : decode prog_11_method_32_code 1 = .ok (.iconst 0, 1) := by decide +kernel
theorem d_M_digest_2 : decode prog_11_method_32_code 2 = .ok (.aload_n 0, 1) := by decide +kernel
theorem d_M_digest_3 : decode prog_11_method_32_code 3 = .ok (.getfield 69, 3) := by decide +kernel
theorem d_M_digest_6 : decode prog_11_method_32_code 6 = .ok (.invokestatic 99, 3) := by decide +kernel
theorem d_M_digest_9 : decode prog_11_method_32_code 9 = .ok (.ifCond .eq 9, 3) := by decide +kernel
theorem d_M_digest_12 : decode prog_11_method_32_code 12 = .ok (.aload_n 0, 1) := by decide +kernel
theorem d_M_digest_13 : decode prog_11_method_32_code 13 = .ok (.iconst 1, 1) := by decide +kernel
theorem d_M_digest_14 : decode prog_11_method_32_code 14 = .ok (.invokevirtual 130, 3) := by decide +kernel
theorem d_M_digest_17 : decode prog_11_method_32_code 17 = .ok (.ireturn, 1) := by decide +kernel
theorem d_M_digest_18 : decode prog_11_method_32_code 18 = .ok (.aload_n 0, 1) := by decide +kernel
theorem d_M_digest_19 : decode prog_11_method_32_code 19 = .ok (.iconst 0, 1) := by decide +kernel
theorem d_M_digest_20 : decode prog_11_method_32_code 20 = .ok (.putfield 73, 3) := by decide +kernel
theorem d_M_digest_23 : decode prog_11_method_32_code 23 = .ok (.aload_n 0, 1) := by decide +kernel
theorem d_M_digest_24 : decode prog_11_method_32_code 24 = .ok (.iconst 0, 1) := by decide +kernel
theorem d_M_digest_25 : decode prog_11_method_32_code 25 = .ok (.iload_n 1, 1) := by decide +kernel
theorem d_M_digest_26 : decode prog_11_method_32_code 26 = .ok (.invokevirtual 152, 3) := by decide +kernel
theorem d_M_digest_29 : decode prog_11_method_32_code 29 = .ok (.ireturn, 1) := by decide +kernel
theorem d_M_seal_0 : decode prog_11_method_31_code 0 = .ok (.iconst 0, 1) := by decide +kernel
theorem d_M_seal_1 : decode prog_11_method_31_code 1 = .ok (.istore_n 3, 1) := by decide +kernel
theorem d_M_seal_2 : decode prog_11_method_31_code 2 = .ok (.iload_n 1, 1) := by decide +kernel
theorem d_M_seal_3 : decode prog_11_method_31_code 3 = .ok (.istore 4, 2) := by decide +kernel
theorem d_M_seal_5 : decode prog_11_method_31_code 5 = .ok (.iload 4, 2) := by decide +kernel
theorem d_M_seal_7 : decode prog_11_method_31_code 7 = .ok (.iload_n 1, 1) := by decide +kernel
theorem d_M_seal_8 : decode prog_11_method_31_code 8 = .ok (.iload_n 2, 1) := by decide +kernel
theorem d_M_seal_9 : decode prog_11_method_31_code 9 = .ok (.iadd, 1) := by decide +kernel
theorem d_M_seal_10 : decode prog_11_method_31_code 10 = .ok (.if_icmp .ge 125, 3) := by decide +kernel
theorem d_M_seal_13 : decode prog_11_method_31_code 13 = .ok (.aload_n 0, 1) := by decide +kernel
theorem d_M_seal_14 : decode prog_11_method_31_code 14 = .ok (.getfield 39, 3) := by decide +kernel
theorem d_M_seal_17 : decode prog_11_method_31_code 17 = .ok (.iload_n 3, 1) := by decide +kernel
theorem d_M_seal_18 : decode prog_11_method_31_code 18 = .ok (.iload 4, 2) := by decide +kernel
theorem d_M_seal_20 : decode prog_11_method_31_code 20 = .ok (.aload_n 0, 1) := by decide +kernel
theorem d_M_seal_21 : decode prog_11_method_31_code 21 = .ok (.getfield 17, 3) := by decide +kernel
theorem d_M_seal_24 : decode prog_11_method_31_code 24 = .ok (.iload 4, 2) := by decide +kernel
theorem d_M_seal_26 : decode prog_11_method_31_code 26 = .ok (.iaload, 1) := by decide +kernel
theorem d_M_seal_27 : decode prog_11_method_31_code 27 = .ok (.invokestatic 146, 3) := by decide +kernel
theorem d_M_seal_30 : decode prog_11_method_31_code 30 = .ok (.iastore, 1) := by decide +kernel
theorem d_M_seal_31 : decode prog_11_method_31_code 31 = .ok (.aload_n 0, 1) := by decide +kernel
theorem d_M_seal_32 : decode prog_11_method_31_code 32 = .ok (.getfield 42, 3) := by decide +kernel
theorem d_M_seal_35 : decode prog_11_method_31_code 35 = .ok (.iload_n 3, 1) := by decide +kernel
theorem d_M_seal_36 : decode prog_11_method_31_code 36 = .ok (.iconst 1, 1) := by decide +kernel
theorem d_M_seal_37 : decode prog_11_method_31_code 37 = .ok (.iastore, 1) := by decide +kernel
theorem d_M_seal_38 : decode prog_11_method_31_code 38 = .ok (.iinc 3 1, 3) := by decide +kernel
theorem d_M_seal_41 : decode prog_11_method_31_code 41 = .ok (.iload_n 3, 1) := by decide +kernel
theorem d_M_seal_42 : decode prog_11_method_31_code 42 = .ok (.iconst 1, 1) := by decide +kernel
theorem d_M_seal_43 : decode prog_11_method_31_code 43 = .ok (.if_icmp .le 86, 3) := by decide +kernel
theorem d_M_seal_46 : decode prog_11_method_31_code 46 = .ok (.aload_n 0, 1) := by decide +kernel
theorem d_M_seal_47 : decode prog_11_method_31_code 47 = .ok (.getfield 42, 3) := by decide +kernel
theorem d_M_seal_50 : decode prog_11_method_31_code 50 = .ok (.iload_n 3, 1) := by decide +kernel
theorem d_M_seal_51 : decode prog_11_method_31_code 51 = .ok (.iconst 2, 1) := by decide +kernel
theorem d_M_seal_52 : decode prog_11_method_31_code 52 = .ok (.isub, 1) := by decide +kernel
theorem d_M_seal_53 : decode prog_11_method_31_code 53 = .ok (.iaload, 1) := by decide +kernel
theorem d_M_seal_54 : decode prog_11_method_31_code 54 = .ok (.aload_n 0, 1) := by decide +kernel
theorem d_M_seal_55 : decode prog_11_method_31_code 55 = .ok (.getfield 42, 3) := by decide +kernel
theorem d_M_seal_58 : decode prog_11_method_31_code 58 = .ok (.iload_n 3, 1) := by decide +kernel
theorem d_M_seal_59 : decode prog_11_method_31_code 59 = .ok (.iconst 1, 1) := by decide +kernel
theorem d_M_seal_60 : decode prog_11_method_31_code 60 = .ok (.isub, 1) := by decide +kernel
theorem d_M_seal_61 : decode prog_11_method_31_code 61 = .ok (.iaload, 1) := by decide +kernel
theorem d_M_seal_62 : decode prog_11_method_31_code 62 = .ok (.if_icmp .eq 13, 3) := by decide +kernel
theorem d_M_seal_65 : decode prog_11_method_31_code 65 = .ok (.iload 4, 2) := by decide +kernel
theorem d_M_seal_67 : decode prog_11_method_31_code 67 = .ok (.iload_n 1, 1) := by decide +kernel
theorem d_M_seal_68 : decode prog_11_method_31_code 68 = .ok (.iload_n 2, 1) := by decide +kernel
theorem d_M_seal_69 : decode prog_11_method_31_code 69 = .ok (.iadd, 1) := by decide +kernel
theorem d_M_seal_70 : decode prog_11_method_31_code 70 = .ok (.iconst 1, 1) := by decide +kernel
theorem d_M_seal_71 : decode prog_11_method_31_code 71 = .ok (.isub, 1) := by decide +kernel
theorem d_M_seal_72 : decode prog_11_method_31_code 72 = .ok (.if_icmp .ne 57, 3) := by decide +kernel
theorem d_M_seal_75 : decode prog_11_method_31_code 75 = .ok (.iinc 3 (-1), 3) := by decide +kernel
theorem d_M_seal_78 : decode prog_11_method_31_code 78 = .ok (.aload_n 0, 1) := by decide +kernel
theorem d_M_seal_79 : decode prog_11_method_31_code 79 = .ok (.getfield 39, 3) := by decide +kernel
theorem d_M_seal_82 : decode prog_11_method_31_code 82 = .ok (.iload_n 3, 1) := by decide +kernel
theorem d_M_seal_83 : decode prog_11_method_31_code 83 = .ok (.iconst 1, 1) := by decide +kernel
theorem d_M_seal_84 : decode prog_11_method_31_code 84 = .ok (.isub, 1) := by decide +kernel
theorem d_M_seal_85 : decode prog_11_method_31_code 85 = .ok (.aload_n 0, 1) := by decide +kernel
theorem d_M_seal_86 : decode prog_11_method_31_code 86 = .ok (.getfield 39, 3) := by decide +kernel
theorem d_M_seal_89 : decode prog_11_method_31_code 89 = .ok (.iload_n 3, 1) := by decide +kernel
theorem d_M_seal_90 : decode prog_11_method_31_code 90 = .ok (.iconst 1, 1) := by decide +kernel
theorem d_M_seal_91 : decode prog_11_method_31_code 91 = .ok (.isub, 1) := by decide +kernel
theorem d_M_seal_92 : decode prog_11_method_31_code 92 = .ok (.iaload, 1) := by decide +kernel
theorem d_M_seal_93 : decode prog_11_method_31_code 93 = .ok (.aload_n 0, 1) := by decide +kernel
theorem d_M_seal_94 : decode prog_11_method_31_code 94 = .ok (.getfield 39, 3) := by decide +kernel
theorem d_M_seal_97 : decode prog_11_method_31_code 97 = .ok (.iload_n 3, 1) := by decide +kernel
theorem d_M_seal_98 : decode prog_11_method_31_code 98 = .ok (.iaload, 1) := by decide +kernel
theorem d_M_seal_99 : decode prog_11_method_31_code 99 = .ok (.invokestatic 149, 3) := by decide +kernel
theorem d_M_seal_102 : decode prog_11_method_31_code 102 = .ok (.iastore, 1) := by decide +kernel
theorem d_M_seal_103 : decode prog_11_method_31_code 103 = .ok (.aload_n 0, 1) := by decide +kernel
theorem d_M_seal_104 : decode prog_11_method_31_code 104 = .ok (.getfield 42, 3) := by decide +kernel
theorem d_M_seal_107 : decode prog_11_method_31_code 107 = .ok (.iload_n 3, 1) := by decide +kernel
theorem d_M_seal_108 : decode prog_11_method_31_code 108 = .ok (.iconst 1, 1) := by decide +kernel
theorem d_M_seal_109 : decode prog_11_method_31_code 109 = .ok (.isub, 1) := by decide +kernel
theorem d_M_seal_110 : decode prog_11_method_31_code 110 = .ok (.aload_n 0, 1) := by decide +kernel
theorem d_M_seal_111 : decode prog_11_method_31_code 111 = .ok (.getfield 42, 3) := by decide +kernel
theorem d_M_seal_114 : decode prog_11_method_31_code 114 = .ok (.iload_n 3, 1) := by decide +kernel
theorem d_M_seal_115 : decode prog_11_method_31_code 115 = .ok (.iconst 1, 1) := by decide +kernel
theorem d_M_seal_116 : decode prog_11_method_31_code 116 = .ok (.isub, 1) := by decide +kernel
theorem d_M_seal_117 : decode prog_11_method_31_code 117 = .ok (.iaload, 1) := by decide +kernel
theorem d_M_seal_118 : decode prog_11_method_31_code 118 = .ok (.aload_n 0, 1) := by decide +kernel
theorem d_M_seal_119 : decode prog_11_method_31_code 119 = .ok (.getfield 42, 3) := by decide +kernel
theorem d_M_seal_122 : decode prog_11_method_31_code 122 = .ok (.iload_n 3, 1) := by decide +kernel
theorem d_M_seal_123 : decode prog_11_method_31_code 123 = .ok (.iaload, 1) := by decide +kernel
theorem d_M_seal_124 : decode prog_11_method_31_code 124 = .ok (.iadd, 1) := by decide +kernel
theorem d_M_seal_125 : decode prog_11_method_31_code 125 = .ok (.iastore, 1) := by decide +kernel
theorem d_M_seal_126 : decode prog_11_method_31_code 126 = .ok (.goto (-85), 3) := by decide +kernel
theorem d_M_seal_129 : decode prog_11_method_31_code 129 = .ok (.iinc 4 1, 3) := by decide +kernel
theorem d_M_seal_132 : decode prog_11_method_31_code 132 = .ok (.goto (-127), 3) := by decide +kernel
theorem d_M_seal_135 : decode prog_11_method_31_code 135 = .ok (.iload_n 2, 1) := by decide +kernel
theorem d_M_seal_136 : decode prog_11_method_31_code 136 = .ok (.ifCond .ne 7, 3) := by decide +kernel
theorem d_M_seal_139 : decode prog_11_method_31_code 139 = .ok (.iconst 0, 1) := by decide +kernel
theorem d_M_seal_140 : decode prog_11_method_31_code 140 = .ok (.goto 9, 3) := by decide +kernel
theorem d_M_seal_143 : decode prog_11_method_31_code 143 = .ok (.aload_n 0, 1) := by decide +kernel
theorem d_M_seal_144 : decode prog_11_method_31_code 144 = .ok (.getfield 39, 3) := by decide +kernel
theorem d_M_seal_147 : decode prog_11_method_31_code 147 = .ok (.iconst 0, 1) := by decide +kernel
theorem d_M_seal_148 : decode prog_11_method_31_code 148 = .ok (.iaload, 1) := by decide +kernel
theorem d_M_seal_149 : decode prog_11_method_31_code 149 = .ok (.ireturn, 1) := by decide +kernel
theorem d_M_leafOf_0 : decode prog_11_method_29_code 0 = .ok (.bipush 7, 2) := by decide +kernel
theorem d_M_leafOf_2 : decode prog_11_method_29_code 2 = .ok (.iload_n 0, 1) := by decide +kernel
theorem d_M_leafOf_3 : decode prog_11_method_29_code 3 = .ok (.invokestatic 77, 3) := by decide +kernel
theorem d_M_leafOf_6 : decode prog_11_method_29_code 6 = .ok (.iload_n 1, 1) := by decide +kernel
theorem d_M_leafOf_7 : decode prog_11_method_29_code 7 = .ok (.invokestatic 77, 3) := by decide +kernel
theorem d_M_leafOf_10 : decode prog_11_method_29_code 10 = .ok (.ireturn, 1) := by decide +kernel
theorem d_M_join_0 : decode prog_11_method_30_code 0 = .ok (.bipush 8, 2) := by decide +kernel
theorem d_M_join_2 : decode prog_11_method_30_code 2 = .ok (.iload_n 0, 1) := by decide +kernel
theorem d_M_join_3 : decode prog_11_method_30_code 3 = .ok (.invokestatic 77, 3) := by decide +kernel
theorem d_M_join_6 : decode prog_11_method_30_code 6 = .ok (.iload_n 1, 1) := by decide +kernel
theorem d_M_join_7 : decode prog_11_method_30_code 7 = .ok (.invokestatic 77, 3) := by decide +kernel
theorem d_M_join_10 : decode prog_11_method_30_code 10 = .ok (.ireturn, 1) := by decide +kernel
theorem d_M_prove_0 : decode prog_11_method_43_code 0 = .ok (.iload_n 1, 1) := by decide +kernel
theorem d_M_prove_1 : decode prog_11_method_43_code 1 = .ok (.iconst 1, 1) := by decide +kernel
theorem d_M_prove_2 : decode prog_11_method_43_code 2 = .ok (.aload_n 0, 1) := by decide +kernel
theorem d_M_prove_3 : decode prog_11_method_43_code 3 = .ok (.getfield 69, 3) := by decide +kernel
theorem d_M_prove_6 : decode prog_11_method_43_code 6 = .ok (.invokestatic 99, 3) := by decide +kernel
theorem d_M_prove_9 : decode prog_11_method_43_code 9 = .ok (.ifCond .ne 24, 3) := by decide +kernel
theorem d_M_prove_12 : decode prog_11_method_43_code 12 = .ok (.iload_n 2, 1) := by decide +kernel
theorem d_M_prove_13 : decode prog_11_method_43_code 13 = .ok (.iconst 0, 1) := by decide +kernel
theorem d_M_prove_14 : decode prog_11_method_43_code 14 = .ok (.iload_n 1, 1) := by decide +kernel
theorem d_M_prove_15 : decode prog_11_method_43_code 15 = .ok (.iconst 1, 1) := by decide +kernel
theorem d_M_prove_16 : decode prog_11_method_43_code 16 = .ok (.isub, 1) := by decide +kernel
theorem d_M_prove_17 : decode prog_11_method_43_code 17 = .ok (.invokestatic 99, 3) := by decide +kernel
theorem d_M_prove_20 : decode prog_11_method_43_code 20 = .ok (.ifCond .ne 13, 3) := by decide +kernel
theorem d_M_prove_23 : decode prog_11_method_43_code 23 = .ok (.iload_n 3, 1) := by decide +kernel
theorem d_M_prove_24 : decode prog_11_method_43_code 24 = .ok (.iconst 0, 1) := by decide +kernel
theorem d_M_prove_25 : decode prog_11_method_43_code 25 = .ok (.bipush 47, 2) := by decide +kernel
theorem d_M_prove_27 : decode prog_11_method_43_code 27 = .ok (.invokestatic 99, 3) := by decide +kernel
theorem d_M_prove_30 : decode prog_11_method_43_code 30 = .ok (.ifCond .eq 9, 3) := by decide +kernel
theorem d_M_prove_33 : decode prog_11_method_43_code 33 = .ok (.aload_n 0, 1) := by decide +kernel
theorem d_M_prove_34 : decode prog_11_method_43_code 34 = .ok (.iconst 1, 1) := by decide +kernel
theorem d_M_prove_35 : decode prog_11_method_43_code 35 = .ok (.invokevirtual 130, 3) := by decide +kernel
theorem d_M_prove_38 : decode prog_11_method_43_code 38 = .ok (.ireturn, 1) := by decide +kernel
theorem d_M_prove_39 : decode prog_11_method_43_code 39 = .ok (.aload_n 0, 1) := by decide +kernel
theorem d_M_prove_40 : decode prog_11_method_43_code 40 = .ok (.iconst 0, 1) := by decide +kernel
theorem d_M_prove_41 : decode prog_11_method_43_code 41 = .ok (.putfield 73, 3) := by decide +kernel
theorem d_M_prove_44 : decode prog_11_method_43_code 44 = .ok (.aload_n 0, 1) := by decide +kernel
theorem d_M_prove_45 : decode prog_11_method_43_code 45 = .ok (.iload_n 1, 1) := by decide +kernel
theorem d_M_prove_46 : decode prog_11_method_43_code 46 = .ok (.iload_n 2, 1) := by decide +kernel
theorem d_M_prove_47 : decode prog_11_method_43_code 47 = .ok (.invokevirtual 175, 3) := by decide +kernel
theorem d_M_prove_50 : decode prog_11_method_43_code 50 = .ok (.aload_n 0, 1) := by decide +kernel
theorem d_M_prove_51 : decode prog_11_method_43_code 51 = .ok (.invokevirtual 178, 3) := by decide +kernel
theorem d_M_prove_54 : decode prog_11_method_43_code 54 = .ok (.aload_n 0, 1) := by decide +kernel
theorem d_M_prove_55 : decode prog_11_method_43_code 55 = .ok (.iload_n 2, 1) := by decide +kernel
theorem d_M_prove_56 : decode prog_11_method_43_code 56 = .ok (.invokevirtual 133, 3) := by decide +kernel
theorem d_M_prove_59 : decode prog_11_method_43_code 59 = .ok (.pop, 1) := by decide +kernel
theorem d_M_prove_60 : decode prog_11_method_43_code 60 = .ok (.aload_n 0, 1) := by decide +kernel
theorem d_M_prove_61 : decode prog_11_method_43_code 61 = .ok (.aload_n 0, 1) := by decide +kernel
theorem d_M_prove_62 : decode prog_11_method_43_code 62 = .ok (.getfield 89, 3) := by decide +kernel
theorem d_M_prove_65 : decode prog_11_method_43_code 65 = .ok (.invokevirtual 168, 3) := by decide +kernel
theorem d_M_prove_68 : decode prog_11_method_43_code 68 = .ok (.aload_n 0, 1) := by decide +kernel
theorem d_M_prove_69 : decode prog_11_method_43_code 69 = .ok (.getfield 89, 3) := by decide +kernel
theorem d_M_prove_72 : decode prog_11_method_43_code 72 = .ok (.iconst 1, 1) := by decide +kernel
theorem d_M_prove_73 : decode prog_11_method_43_code 73 = .ok (.isub, 1) := by decide +kernel
theorem d_M_prove_74 : decode prog_11_method_43_code 74 = .ok (.istore 4, 2) := by decide +kernel
theorem d_M_prove_76 : decode prog_11_method_43_code 76 = .ok (.iload 4, 2) := by decide +kernel
theorem d_M_prove_78 : decode prog_11_method_43_code 78 = .ok (.ifCond .lt 69, 3) := by decide +kernel
theorem d_M_prove_81 : decode prog_11_method_43_code 81 = .ok (.aload_n 0, 1) := by decide +kernel
theorem d_M_prove_82 : decode prog_11_method_43_code 82 = .ok (.getfield 33, 3) := by decide +kernel
theorem d_M_prove_85 : decode prog_11_method_43_code 85 = .ok (.bipush 48, 2) := by decide +kernel
theorem d_M_prove_87 : decode prog_11_method_43_code 87 = .ok (.iload 4, 2) := by decide +kernel
theorem d_M_prove_89 : decode prog_11_method_43_code 89 = .ok (.imul, 1) := by decide +kernel
theorem d_M_prove_90 : decode prog_11_method_43_code 90 = .ok (.bipush 48, 2) := by decide +kernel
theorem d_M_prove_92 : decode prog_11_method_43_code 92 = .ok (.iload 4, 2) := by decide +kernel
theorem d_M_prove_94 : decode prog_11_method_43_code 94 = .ok (.imul, 1) := by decide +kernel
theorem d_M_prove_95 : decode prog_11_method_43_code 95 = .ok (.aload_n 0, 1) := by decide +kernel
theorem d_M_prove_96 : decode prog_11_method_43_code 96 = .ok (.getfield 30, 3) := by decide +kernel
theorem d_M_prove_99 : decode prog_11_method_43_code 99 = .ok (.iload 4, 2) := by decide +kernel
theorem d_M_prove_101 : decode prog_11_method_43_code 101 = .ok (.iaload, 1) := by decide +kernel
theorem d_M_prove_102 : decode prog_11_method_43_code 102 = .ok (.iadd, 1) := by decide +kernel
theorem d_M_prove_103 : decode prog_11_method_43_code 103 = .ok (.iload_n 3, 1) := by decide +kernel
theorem d_M_prove_104 : decode prog_11_method_43_code 104 = .ok (.invokestatic 181, 3) := by decide +kernel
theorem d_M_prove_107 : decode prog_11_method_43_code 107 = .ok (.bipush 48, 2) := by decide +kernel
theorem d_M_prove_109 : decode prog_11_method_43_code 109 = .ok (.iload 4, 2) := by decide +kernel
theorem d_M_prove_111 : decode prog_11_method_43_code 111 = .ok (.imul, 1) := by decide +kernel
theorem d_M_prove_112 : decode prog_11_method_43_code 112 = .ok (.isub, 1) := by decide +kernel
theorem d_M_prove_113 : decode prog_11_method_43_code 113 = .ok (.istore 5, 2) := by decide +kernel
theorem d_M_prove_115 : decode prog_11_method_43_code 115 = .ok (.aload_n 0, 1) := by decide +kernel
theorem d_M_prove_116 : decode prog_11_method_43_code 116 = .ok (.iload 4, 2) := by decide +kernel
theorem d_M_prove_118 : decode prog_11_method_43_code 118 = .ok (.iload 5, 2) := by decide +kernel
theorem d_M_prove_120 : decode prog_11_method_43_code 120 = .ok (.invokevirtual 185, 3) := by decide +kernel
theorem d_M_prove_123 : decode prog_11_method_43_code 123 = .ok (.istore 6, 2) := by decide +kernel
theorem d_M_prove_125 : decode prog_11_method_43_code 125 = .ok (.aload_n 0, 1) := by decide +kernel
theorem d_M_prove_126 : decode prog_11_method_43_code 126 = .ok (.iload 4, 2) := by decide +kernel
theorem d_M_prove_128 : decode prog_11_method_43_code 128 = .ok (.iload 6, 2) := by decide +kernel
theorem d_M_prove_130 : decode prog_11_method_43_code 130 = .ok (.aload_n 0, 1) := by decide +kernel
theorem d_M_prove_131 : decode prog_11_method_43_code 131 = .ok (.iload 4, 2) := by decide +kernel
theorem d_M_prove_133 : decode prog_11_method_43_code 133 = .ok (.iload 6, 2) := by decide +kernel
theorem d_M_prove_135 : decode prog_11_method_43_code 135 = .ok (.invokevirtual 92, 3) := by decide +kernel
theorem d_M_prove_138 : decode prog_11_method_43_code 138 = .ok (.invokevirtual 188, 3) := by decide +kernel
theorem d_M_prove_141 : decode prog_11_method_43_code 141 = .ok (.iinc 4 (-1), 3) := by decide +kernel
theorem d_M_prove_144 : decode prog_11_method_43_code 144 = .ok (.goto (-68), 3) := by decide +kernel
theorem d_M_prove_147 : decode prog_11_method_43_code 147 = .ok (.aload_n 0, 1) := by decide +kernel
theorem d_M_prove_148 : decode prog_11_method_43_code 148 = .ok (.getfield 165, 3) := by decide +kernel
theorem d_M_prove_151 : decode prog_11_method_43_code 151 = .ok (.ireturn, 1) := by decide +kernel
theorem d_M_way_0 : decode prog_11_method_35_code 0 = .ok (.aload_n 0, 1) := by decide +kernel
theorem d_M_way_1 : decode prog_11_method_35_code 1 = .ok (.iconst 0, 1) := by decide +kernel
theorem d_M_way_2 : decode prog_11_method_35_code 2 = .ok (.putfield 155, 3) := by decide +kernel
theorem d_M_way_5 : decode prog_11_method_35_code 5 = .ok (.iconst 0, 1) := by decide +kernel
theorem d_M_way_6 : decode prog_11_method_35_code 6 = .ok (.istore_n 3, 1) := by decide +kernel
theorem d_M_way_7 : decode prog_11_method_35_code 7 = .ok (.iload_n 1, 1) := by decide +kernel
theorem d_M_way_8 : decode prog_11_method_35_code 8 = .ok (.istore 4, 2) := by decide +kernel
theorem d_M_way_10 : decode prog_11_method_35_code 10 = .ok (.iload 4, 2) := by decide +kernel
theorem d_M_way_12 : decode prog_11_method_35_code 12 = .ok (.iconst 1, 1) := by decide +kernel
theorem d_M_way_13 : decode prog_11_method_35_code 13 = .ok (.if_icmp .le 62, 3) := by decide +kernel
theorem d_M_way_16 : decode prog_11_method_35_code 16 = .ok (.iload 4, 2) := by decide +kernel
theorem d_M_way_18 : decode prog_11_method_35_code 18 = .ok (.invokestatic 158, 3) := by decide +kernel
theorem d_M_way_21 : decode prog_11_method_35_code 21 = .ok (.istore 5, 2) := by decide +kernel
theorem d_M_way_23 : decode prog_11_method_35_code 23 = .ok (.iload_n 2, 1) := by decide +kernel
theorem d_M_way_24 : decode prog_11_method_35_code 24 = .ok (.iload_n 3, 1) := by decide +kernel
theorem d_M_way_25 : decode prog_11_method_35_code 25 = .ok (.iload 5, 2) := by decide +kernel
theorem d_M_way_27 : decode prog_11_method_35_code 27 = .ok (.iadd, 1) := by decide +kernel
theorem d_M_way_28 : decode prog_11_method_35_code 28 = .ok (.if_icmp .ge 24, 3) := by decide +kernel
theorem d_M_way_31 : decode prog_11_method_35_code 31 = .ok (.aload_n 0, 1) := by decide +kernel
theorem d_M_way_32 : decode prog_11_method_35_code 32 = .ok (.iload_n 3, 1) := by decide +kernel
theorem d_M_way_33 : decode prog_11_method_35_code 33 = .ok (.iload 5, 2) := by decide +kernel
theorem d_M_way_35 : decode prog_11_method_35_code 35 = .ok (.iadd, 1) := by decide +kernel
theorem d_M_way_36 : decode prog_11_method_35_code 36 = .ok (.iload 4, 2) := by decide +kernel
theorem d_M_way_38 : decode prog_11_method_35_code 38 = .ok (.iload 5, 2) := by decide +kernel
theorem d_M_way_40 : decode prog_11_method_35_code 40 = .ok (.isub, 1) := by decide +kernel
theorem d_M_way_41 : decode prog_11_method_35_code 41 = .ok (.iconst 0, 1) := by decide +kernel
theorem d_M_way_42 : decode prog_11_method_35_code 42 = .ok (.invokevirtual 161, 3) := by decide +kernel
theorem d_M_way_45 : decode prog_11_method_35_code 45 = .ok (.iload 5, 2) := by decide +kernel
theorem d_M_way_47 : decode prog_11_method_35_code 47 = .ok (.istore 4, 2) := by decide +kernel
theorem d_M_way_49 : decode prog_11_method_35_code 49 = .ok (.goto 23, 3) := by decide +kernel
theorem d_M_way_52 : decode prog_11_method_35_code 52 = .ok (.aload_n 0, 1) := by decide +kernel
theorem d_M_way_53 : decode prog_11_method_35_code 53 = .ok (.iload_n 3, 1) := by decide +kernel
theorem d_M_way_54 : decode prog_11_method_35_code 54 = .ok (.iload 5, 2) := by decide +kernel
theorem d_M_way_56 : decode prog_11_method_35_code 56 = .ok (.iconst 1, 1) := by decide +kernel
theorem d_M_way_57 : decode prog_11_method_35_code 57 = .ok (.invokevirtual 161, 3) := by decide +kernel
theorem d_M_way_60 : decode prog_11_method_35_code 60 = .ok (.iload_n 3, 1) := by decide +kernel
theorem d_M_way_61 : decode prog_11_method_35_code 61 = .ok (.iload 5, 2) := by decide +kernel
theorem d_M_way_63 : decode prog_11_method_35_code 63 = .ok (.iadd, 1) := by decide +kernel
theorem d_M_way_64 : decode prog_11_method_35_code 64 = .ok (.istore_n 3, 1) := by decide +kernel
theorem d_M_way_65 : decode prog_11_method_35_code 65 = .ok (.iload 4, 2) := by decide +kernel
theorem d_M_way_67 : decode prog_11_method_35_code 67 = .ok (.iload 5, 2) := by decide +kernel
theorem d_M_way_69 : decode prog_11_method_35_code 69 = .ok (.isub, 1) := by decide +kernel
theorem d_M_way_70 : decode prog_11_method_35_code 70 = .ok (.istore 4, 2) := by decide +kernel
theorem d_M_way_72 : decode prog_11_method_35_code 72 = .ok (.goto (-62), 3) := by decide +kernel
theorem d_M_way_75 : decode prog_11_method_35_code 75 = .ok (.return_, 1) := by decide +kernel
theorem d_M_half_0 : decode prog_11_method_33_code 0 = .ok (.iconst 1, 1) := by decide +kernel
theorem d_M_half_1 : decode prog_11_method_33_code 1 = .ok (.istore_n 1, 1) := by decide +kernel
theorem d_M_half_2 : decode prog_11_method_33_code 2 = .ok (.iconst 2, 1) := by decide +kernel
theorem d_M_half_3 : decode prog_11_method_33_code 3 = .ok (.iload_n 1, 1) := by decide +kernel
theorem d_M_half_4 : decode prog_11_method_33_code 4 = .ok (.imul, 1) := by decide +kernel
theorem d_M_half_5 : decode prog_11_method_33_code 5 = .ok (.iload_n 0, 1) := by decide +kernel
theorem d_M_half_6 : decode prog_11_method_33_code 6 = .ok (.if_icmp .ge 10, 3) := by decide +kernel
theorem d_M_half_9 : decode prog_11_method_33_code 9 = .ok (.iconst 2, 1) := by decide +kernel
theorem d_M_half_10 : decode prog_11_method_33_code 10 = .ok (.iload_n 1, 1) := by decide +kernel
theorem d_M_half_11 : decode prog_11_method_33_code 11 = .ok (.imul, 1) := by decide +kernel
theorem d_M_half_12 : decode prog_11_method_33_code 12 = .ok (.istore_n 1, 1) := by decide +kernel
theorem d_M_half_13 : decode prog_11_method_33_code 13 = .ok (.goto (-11), 3) := by decide +kernel
theorem d_M_half_16 : decode prog_11_method_33_code 16 = .ok (.iload_n 1, 1) := by decide +kernel
theorem d_M_half_17 : decode prog_11_method_33_code 17 = .ok (.ireturn, 1) := by decide +kernel
theorem d_M_side_0 : decode prog_11_method_34_code 0 = .ok (.aload_n 0, 1) := by decide +kernel
theorem d_M_side_1 : decode prog_11_method_34_code 1 = .ok (.getfield 45, 3) := by decide +kernel
theorem d_M_side_4 : decode prog_11_method_34_code 4 = .ok (.aload_n 0, 1) := by decide +kernel
theorem d_M_side_5 : decode prog_11_method_34_code 5 = .ok (.getfield 155, 3) := by decide +kernel
theorem d_M_side_8 : decode prog_11_method_34_code 8 = .ok (.iload_n 1, 1) := by decide +kernel
theorem d_M_side_9 : decode prog_11_method_34_code 9 = .ok (.iastore, 1) := by decide +kernel
theorem d_M_side_10 : decode prog_11_method_34_code 10 = .ok (.aload_n 0, 1) := by decide +kernel
theorem d_M_side_11 : decode prog_11_method_34_code 11 = .ok (.getfield 48, 3) := by decide +kernel
theorem d_M_side_14 : decode prog_11_method_34_code 14 = .ok (.aload_n 0, 1) := by decide +kernel
theorem d_M_side_15 : decode prog_11_method_34_code 15 = .ok (.getfield 155, 3) := by decide +kernel
theorem d_M_side_18 : decode prog_11_method_34_code 18 = .ok (.iload_n 2, 1) := by decide +kernel
theorem d_M_side_19 : decode prog_11_method_34_code 19 = .ok (.iastore, 1) := by decide +kernel
theorem d_M_side_20 : decode prog_11_method_34_code 20 = .ok (.aload_n 0, 1) := by decide +kernel
theorem d_M_side_21 : decode prog_11_method_34_code 21 = .ok (.getfield 51, 3) := by decide +kernel
theorem d_M_side_24 : decode prog_11_method_34_code 24 = .ok (.aload_n 0, 1) := by decide +kernel
theorem d_M_side_25 : decode prog_11_method_34_code 25 = .ok (.getfield 155, 3) := by decide +kernel
theorem d_M_side_28 : decode prog_11_method_34_code 28 = .ok (.iload_n 3, 1) := by decide +kernel
theorem d_M_side_29 : decode prog_11_method_34_code 29 = .ok (.bastore, 1) := by decide +kernel
theorem d_M_side_30 : decode prog_11_method_34_code 30 = .ok (.aload_n 0, 1) := by decide +kernel
theorem d_M_side_31 : decode prog_11_method_34_code 31 = .ok (.dup, 1) := by decide +kernel
theorem d_M_side_32 : decode prog_11_method_34_code 32 = .ok (.getfield 155, 3) := by decide +kernel
theorem d_M_side_35 : decode prog_11_method_34_code 35 = .ok (.iconst 1, 1) := by decide +kernel
theorem d_M_side_36 : decode prog_11_method_34_code 36 = .ok (.iadd, 1) := by decide +kernel
theorem d_M_side_37 : decode prog_11_method_34_code 37 = .ok (.putfield 155, 3) := by decide +kernel
theorem d_M_side_40 : decode prog_11_method_34_code 40 = .ok (.return_, 1) := by decide +kernel
theorem d_M_outBeside_0 : decode prog_11_method_39_code 0 = .ok (.aload_n 0, 1) := by decide +kernel
theorem d_M_outBeside_1 : decode prog_11_method_39_code 1 = .ok (.iconst 0, 1) := by decide +kernel
theorem d_M_outBeside_2 : decode prog_11_method_39_code 2 = .ok (.putfield 165, 3) := by decide +kernel
theorem d_M_outBeside_5 : decode prog_11_method_39_code 5 = .ok (.aload_n 0, 1) := by decide +kernel
theorem d_M_outBeside_6 : decode prog_11_method_39_code 6 = .ok (.aload_n 0, 1) := by decide +kernel
theorem d_M_outBeside_7 : decode prog_11_method_39_code 7 = .ok (.getfield 155, 3) := by decide +kernel
theorem d_M_outBeside_10 : decode prog_11_method_39_code 10 = .ok (.invokevirtual 168, 3) := by decide +kernel
theorem d_M_outBeside_13 : decode prog_11_method_39_code 13 = .ok (.aload_n 0, 1) := by decide +kernel
theorem d_M_outBeside_14 : decode prog_11_method_39_code 14 = .ok (.getfield 155, 3) := by decide +kernel
theorem d_M_outBeside_17 : decode prog_11_method_39_code 17 = .ok (.iconst 1, 1) := by decide +kernel
theorem d_M_outBeside_18 : decode prog_11_method_39_code 18 = .ok (.isub, 1) := by decide +kernel
theorem d_M_outBeside_19 : decode prog_11_method_39_code 19 = .ok (.istore_n 1, 1) := by decide +kernel
theorem d_M_outBeside_20 : decode prog_11_method_39_code 20 = .ok (.iload_n 1, 1) := by decide +kernel
theorem d_M_outBeside_21 : decode prog_11_method_39_code 21 = .ok (.ifCond .lt 29, 3) := by decide +kernel
theorem d_M_outBeside_24 : decode prog_11_method_39_code 24 = .ok (.aload_n 0, 1) := by decide +kernel
theorem d_M_outBeside_25 : decode prog_11_method_39_code 25 = .ok (.aload_n 0, 1) := by decide +kernel
theorem d_M_outBeside_26 : decode prog_11_method_39_code 26 = .ok (.aload_n 0, 1) := by decide +kernel
theorem d_M_outBeside_27 : decode prog_11_method_39_code 27 = .ok (.getfield 45, 3) := by decide +kernel
theorem d_M_outBeside_30 : decode prog_11_method_39_code 30 = .ok (.iload_n 1, 1) := by decide +kernel
theorem d_M_outBeside_31 : decode prog_11_method_39_code 31 = .ok (.iaload, 1) := by decide +kernel
theorem d_M_outBeside_32 : decode prog_11_method_39_code 32 = .ok (.aload_n 0, 1) := by decide +kernel
theorem d_M_outBeside_33 : decode prog_11_method_39_code 33 = .ok (.getfield 48, 3) := by decide +kernel
theorem d_M_outBeside_36 : decode prog_11_method_39_code 36 = .ok (.iload_n 1, 1) := by decide +kernel
theorem d_M_outBeside_37 : decode prog_11_method_39_code 37 = .ok (.iaload, 1) := by decide +kernel
theorem d_M_outBeside_38 : decode prog_11_method_39_code 38 = .ok (.invokevirtual 152, 3) := by decide +kernel
theorem d_M_outBeside_41 : decode prog_11_method_39_code 41 = .ok (.invokevirtual 172, 3) := by decide +kernel
theorem d_M_outBeside_44 : decode prog_11_method_39_code 44 = .ok (.iinc 1 (-1), 3) := by decide +kernel
theorem d_M_outBeside_47 : decode prog_11_method_39_code 47 = .ok (.goto (-27), 3) := by decide +kernel
theorem d_M_outBeside_50 : decode prog_11_method_39_code 50 = .ok (.return_, 1) := by decide +kernel
theorem d_M_out_0 : decode prog_11_method_37_code 0 = .ok (.aload_n 0, 1) := by decide +kernel
theorem d_M_out_1 : decode prog_11_method_37_code 1 = .ok (.getfield 54, 3) := by decide +kernel
theorem d_M_out_4 : decode prog_11_method_37_code 4 = .ok (.aload_n 0, 1) := by decide +kernel
theorem d_M_out_5 : decode prog_11_method_37_code 5 = .ok (.getfield 165, 3) := by decide +kernel
theorem d_M_out_8 : decode prog_11_method_37_code 8 = .ok (.iload_n 1, 1) := by decide +kernel
theorem d_M_out_9 : decode prog_11_method_37_code 9 = .ok (.sipush 255, 3) := by decide +kernel
theorem d_M_out_12 : decode prog_11_method_37_code 12 = .ok (.iand, 1) := by decide +kernel
theorem d_M_out_13 : decode prog_11_method_37_code 13 = .ok (.iastore, 1) := by decide +kernel
theorem d_M_out_14 : decode prog_11_method_37_code 14 = .ok (.aload_n 0, 1) := by decide +kernel
theorem d_M_out_15 : decode prog_11_method_37_code 15 = .ok (.dup, 1) := by decide +kernel
theorem d_M_out_16 : decode prog_11_method_37_code 16 = .ok (.getfield 165, 3) := by decide +kernel
theorem d_M_out_19 : decode prog_11_method_37_code 19 = .ok (.iconst 1, 1) := by decide +kernel
theorem d_M_out_20 : decode prog_11_method_37_code 20 = .ok (.iadd, 1) := by decide +kernel
theorem d_M_out_21 : decode prog_11_method_37_code 21 = .ok (.putfield 165, 3) := by decide +kernel
theorem d_M_out_24 : decode prog_11_method_37_code 24 = .ok (.return_, 1) := by decide +kernel
theorem d_M_outInt_0 : decode prog_11_method_38_code 0 = .ok (.iconst 3, 1) := by decide +kernel
theorem d_M_outInt_1 : decode prog_11_method_38_code 1 = .ok (.istore_n 2, 1) := by decide +kernel
theorem d_M_outInt_2 : decode prog_11_method_38_code 2 = .ok (.iload_n 2, 1) := by decide +kernel
theorem d_M_outInt_3 : decode prog_11_method_38_code 3 = .ok (.ifCond .lt 19, 3) := by decide +kernel
theorem d_M_outInt_6 : decode prog_11_method_38_code 6 = .ok (.aload_n 0, 1) := by decide +kernel
theorem d_M_outInt_7 : decode prog_11_method_38_code 7 = .ok (.iload_n 1, 1) := by decide +kernel
theorem d_M_outInt_8 : decode prog_11_method_38_code 8 = .ok (.bipush 8, 2) := by decide +kernel
theorem d_M_outInt_10 : decode prog_11_method_38_code 10 = .ok (.iload_n 2, 1) := by decide +kernel
theorem d_M_outInt_11 : decode prog_11_method_38_code 11 = .ok (.imul, 1) := by decide +kernel
theorem d_M_outInt_12 : decode prog_11_method_38_code 12 = .ok (.ishr, 1) := by decide +kernel
theorem d_M_outInt_13 : decode prog_11_method_38_code 13 = .ok (.invokevirtual 168, 3) := by decide +kernel
theorem d_M_outInt_16 : decode prog_11_method_38_code 16 = .ok (.iinc 2 (-1), 3) := by decide +kernel
theorem d_M_outInt_19 : decode prog_11_method_38_code 19 = .ok (.goto (-17), 3) := by decide +kernel
theorem d_M_outInt_22 : decode prog_11_method_38_code 22 = .ok (.return_, 1) := by decide +kernel
theorem d_M_choose_0 : decode prog_11_method_40_code 0 = .ok (.iload_n 1, 1) := by decide +kernel
theorem d_M_choose_1 : decode prog_11_method_40_code 1 = .ok (.istore 4, 2) := by decide +kernel
theorem d_M_choose_3 : decode prog_11_method_40_code 3 = .ok (.iload 4, 2) := by decide +kernel
theorem d_M_choose_5 : decode prog_11_method_40_code 5 = .ok (.iload_n 2, 1) := by decide +kernel
theorem d_M_choose_6 : decode prog_11_method_40_code 6 = .ok (.iconst 1, 1) := by decide +kernel
theorem d_M_choose_7 : decode prog_11_method_40_code 7 = .ok (.isub, 1) := by decide +kernel
theorem d_M_choose_8 : decode prog_11_method_40_code 8 = .ok (.if_icmp .ge 17, 3) := by decide +kernel
theorem d_M_choose_11 : decode prog_11_method_40_code 11 = .ok (.aload_n 0, 1) := by decide +kernel
theorem d_M_choose_12 : decode prog_11_method_40_code 12 = .ok (.iload 4, 2) := by decide +kernel
theorem d_M_choose_14 : decode prog_11_method_40_code 14 = .ok (.iaload, 1) := by decide +kernel
theorem d_M_choose_15 : decode prog_11_method_40_code 15 = .ok (.iload_n 3, 1) := by decide +kernel
theorem d_M_choose_16 : decode prog_11_method_40_code 16 = .ok (.if_icmp .ge 9, 3) := by decide +kernel
theorem d_M_choose_19 : decode prog_11_method_40_code 19 = .ok (.iinc 4 1, 3) := by decide +kernel
theorem d_M_choose_22 : decode prog_11_method_40_code 22 = .ok (.goto (-19), 3) := by decide +kernel
theorem d_M_choose_25 : decode prog_11_method_40_code 25 = .ok (.iload 4, 2) := by decide +kernel
theorem d_M_choose_27 : decode prog_11_method_40_code 27 = .ok (.ireturn, 1) := by decide +kernel
theorem d_M_chunkOf_0 : decode prog_11_method_41_code 0 = .ok (.iload_n 2, 1) := by decide +kernel
theorem d_M_chunkOf_1 : decode prog_11_method_41_code 1 = .ok (.istore_n 3, 1) := by decide +kernel
theorem d_M_chunkOf_2 : decode prog_11_method_41_code 2 = .ok (.iload_n 3, 1) := by decide +kernel
theorem d_M_chunkOf_3 : decode prog_11_method_41_code 3 = .ok (.ifCond .le 29, 3) := by decide +kernel
theorem d_M_chunkOf_6 : decode prog_11_method_41_code 6 = .ok (.iload_n 1, 1) := by decide +kernel
theorem d_M_chunkOf_7 : decode prog_11_method_41_code 7 = .ok (.aload_n 0, 1) := by decide +kernel
theorem d_M_chunkOf_8 : decode prog_11_method_41_code 8 = .ok (.getfield 33, 3) := by decide +kernel
theorem d_M_chunkOf_11 : decode prog_11_method_41_code 11 = .ok (.bipush 48, 2) := by decide +kernel
theorem d_M_chunkOf_13 : decode prog_11_method_41_code 13 = .ok (.iload_n 1, 1) := by decide +kernel
theorem d_M_chunkOf_14 : decode prog_11_method_41_code 14 = .ok (.imul, 1) := by decide +kernel
theorem d_M_chunkOf_15 : decode prog_11_method_41_code 15 = .ok (.iload_n 3, 1) := by decide +kernel
theorem d_M_chunkOf_16 : decode prog_11_method_41_code 16 = .ok (.iadd, 1) := by decide +kernel
theorem d_M_chunkOf_17 : decode prog_11_method_41_code 17 = .ok (.iconst 1, 1) := by decide +kernel
theorem d_M_chunkOf_18 : decode prog_11_method_41_code 18 = .ok (.isub, 1) := by decide +kernel
theorem d_M_chunkOf_19 : decode prog_11_method_41_code 19 = .ok (.iaload, 1) := by decide +kernel
theorem d_M_chunkOf_20 : decode prog_11_method_41_code 20 = .ok (.invokestatic 81, 3) := by decide +kernel
theorem d_M_chunkOf_23 : decode prog_11_method_41_code 23 = .ok (.ifCond .ne 9, 3) := by decide +kernel
theorem d_M_chunkOf_26 : decode prog_11_method_41_code 26 = .ok (.iinc 3 (-1), 3) := by decide +kernel
theorem d_M_chunkOf_29 : decode prog_11_method_41_code 29 = .ok (.goto (-27), 3) := by decide +kernel
theorem d_M_chunkOf_32 : decode prog_11_method_41_code 32 = .ok (.iload_n 3, 1) := by decide +kernel
theorem d_M_chunkOf_33 : decode prog_11_method_41_code 33 = .ok (.ireturn, 1) := by decide +kernel
theorem d_M_outChunk_0 : decode prog_11_method_42_code 0 = .ok (.aload_n 0, 1) := by decide +kernel
theorem d_M_outChunk_1 : decode prog_11_method_42_code 1 = .ok (.iload_n 3, 1) := by decide +kernel
theorem d_M_outChunk_2 : decode prog_11_method_42_code 2 = .ok (.iload_n 2, 1) := by decide +kernel
theorem d_M_outChunk_3 : decode prog_11_method_42_code 3 = .ok (.isub, 1) := by decide +kernel
theorem d_M_outChunk_4 : decode prog_11_method_42_code 4 = .ok (.invokevirtual 168, 3) := by decide +kernel
theorem d_M_outChunk_7 : decode prog_11_method_42_code 7 = .ok (.bipush 48, 2) := by decide +kernel
theorem d_M_outChunk_9 : decode prog_11_method_42_code 9 = .ok (.iload_n 1, 1) := by decide +kernel
theorem d_M_outChunk_10 : decode prog_11_method_42_code 10 = .ok (.imul, 1) := by decide +kernel
theorem d_M_outChunk_11 : decode prog_11_method_42_code 11 = .ok (.iload_n 2, 1) := by decide +kernel
theorem d_M_outChunk_12 : decode prog_11_method_42_code 12 = .ok (.iadd, 1) := by decide +kernel
theorem d_M_outChunk_13 : decode prog_11_method_42_code 13 = .ok (.istore 4, 2) := by decide +kernel
theorem d_M_outChunk_15 : decode prog_11_method_42_code 15 = .ok (.iload 4, 2) := by decide +kernel
theorem d_M_outChunk_17 : decode prog_11_method_42_code 17 = .ok (.bipush 48, 2) := by decide +kernel
theorem d_M_outChunk_19 : decode prog_11_method_42_code 19 = .ok (.iload_n 1, 1) := by decide +kernel
theorem d_M_outChunk_20 : decode prog_11_method_42_code 20 = .ok (.imul, 1) := by decide +kernel
theorem d_M_outChunk_21 : decode prog_11_method_42_code 21 = .ok (.iload_n 3, 1) := by decide +kernel
theorem d_M_outChunk_22 : decode prog_11_method_42_code 22 = .ok (.iadd, 1) := by decide +kernel
theorem d_M_outChunk_23 : decode prog_11_method_42_code 23 = .ok (.if_icmp .ge 31, 3) := by decide +kernel
theorem d_M_outChunk_26 : decode prog_11_method_42_code 26 = .ok (.aload_n 0, 1) := by decide +kernel
theorem d_M_outChunk_27 : decode prog_11_method_42_code 27 = .ok (.aload_n 0, 1) := by decide +kernel
theorem d_M_outChunk_28 : decode prog_11_method_42_code 28 = .ok (.getfield 33, 3) := by decide +kernel
theorem d_M_outChunk_31 : decode prog_11_method_42_code 31 = .ok (.iload 4, 2) := by decide +kernel
theorem d_M_outChunk_33 : decode prog_11_method_42_code 33 = .ok (.iaload, 1) := by decide +kernel
theorem d_M_outChunk_34 : decode prog_11_method_42_code 34 = .ok (.invokevirtual 168, 3) := by decide +kernel
theorem d_M_outChunk_37 : decode prog_11_method_42_code 37 = .ok (.aload_n 0, 1) := by decide +kernel
theorem d_M_outChunk_38 : decode prog_11_method_42_code 38 = .ok (.aload_n 0, 1) := by decide +kernel
theorem d_M_outChunk_39 : decode prog_11_method_42_code 39 = .ok (.getfield 36, 3) := by decide +kernel
theorem d_M_outChunk_42 : decode prog_11_method_42_code 42 = .ok (.iload 4, 2) := by decide +kernel
theorem d_M_outChunk_44 : decode prog_11_method_42_code 44 = .ok (.iaload, 1) := by decide +kernel
theorem d_M_outChunk_45 : decode prog_11_method_42_code 45 = .ok (.invokevirtual 172, 3) := by decide +kernel
theorem d_M_outChunk_48 : decode prog_11_method_42_code 48 = .ok (.iinc 4 1, 3) := by decide +kernel
theorem d_M_outChunk_51 : decode prog_11_method_42_code 51 = .ok (.goto (-36), 3) := by decide +kernel
theorem d_M_outChunk_54 : decode prog_11_method_42_code 54 = .ok (.return_, 1) := by decide +kernel
end
section
theorem d_M_proveGrowth_0 : decode prog_11_method_44_code 0 = .ok (.iload_n 1, 1) := by decide +kernel
theorem d_M_proveGrowth_1 : decode prog_11_method_44_code 1 = .ok (.iconst 1, 1) := by decide +kernel
theorem d_M_proveGrowth_2 : decode prog_11_method_44_code 2 = .ok (.if_icmp .lt 16, 3) := by decide +kernel
theorem d_M_proveGrowth_5 : decode prog_11_method_44_code 5 = .ok (.iload_n 1, 1) := by decide +kernel
theorem d_M_proveGrowth_6 : decode prog_11_method_44_code 6 = .ok (.iload_n 2, 1) := by decide +kernel
theorem d_M_proveGrowth_7 : decode prog_11_method_44_code 7 = .ok (.if_icmp .ge 11, 3) := by decide +kernel
theorem d_M_proveGrowth_10 : decode prog_11_method_44_code 10 = .ok (.iload_n 2, 1) := by decide +kernel
theorem d_M_proveGrowth_11 : decode prog_11_method_44_code 11 = .ok (.aload_n 0, 1) := by decide +kernel
theorem d_M_proveGrowth_12 : decode prog_11_method_44_code 12 = .ok (.getfield 69, 3) := by decide +kernel
theorem d_M_proveGrowth_15 : decode prog_11_method_44_code 15 = .ok (.if_icmp .le 9, 3) := by decide +kernel
theorem d_M_proveGrowth_18 : decode prog_11_method_44_code 18 = .ok (.aload_n 0, 1) := by decide +kernel
theorem d_M_proveGrowth_19 : decode prog_11_method_44_code 19 = .ok (.iconst 1, 1) := by decide +kernel
theorem d_M_proveGrowth_20 : decode prog_11_method_44_code 20 = .ok (.invokevirtual 130, 3) := by decide +kernel
theorem d_M_proveGrowth_23 : decode prog_11_method_44_code 23 = .ok (.ireturn, 1) := by decide +kernel
theorem d_M_proveGrowth_24 : decode prog_11_method_44_code 24 = .ok (.aload_n 0, 1) := by decide +kernel
theorem d_M_proveGrowth_25 : decode prog_11_method_44_code 25 = .ok (.iconst 0, 1) := by decide +kernel
theorem d_M_proveGrowth_26 : decode prog_11_method_44_code 26 = .ok (.putfield 73, 3) := by decide +kernel
theorem d_M_proveGrowth_29 : decode prog_11_method_44_code 29 = .ok (.aload_n 0, 1) := by decide +kernel
theorem d_M_proveGrowth_30 : decode prog_11_method_44_code 30 = .ok (.iload_n 1, 1) := by decide +kernel
theorem d_M_proveGrowth_31 : decode prog_11_method_44_code 31 = .ok (.iload_n 2, 1) := by decide +kernel
theorem d_M_proveGrowth_32 : decode prog_11_method_44_code 32 = .ok (.invokevirtual 191, 3) := by decide +kernel
theorem d_M_proveGrowth_35 : decode prog_11_method_44_code 35 = .ok (.pop, 1) := by decide +kernel
theorem d_M_proveGrowth_36 : decode prog_11_method_44_code 36 = .ok (.aload_n 0, 1) := by decide +kernel
theorem d_M_proveGrowth_37 : decode prog_11_method_44_code 37 = .ok (.invokevirtual 178, 3) := by decide +kernel
theorem d_M_proveGrowth_40 : decode prog_11_method_44_code 40 = .ok (.aload_n 0, 1) := by decide +kernel
theorem d_M_proveGrowth_41 : decode prog_11_method_44_code 41 = .ok (.getfield 165, 3) := by decide +kernel
theorem d_M_proveGrowth_44 : decode prog_11_method_44_code 44 = .ok (.ireturn, 1) := by decide +kernel
theorem d_M_growth_0 : decode prog_11_method_36_code 0 = .ok (.aload_n 0, 1) := by decide +kernel
theorem d_M_growth_1 : decode prog_11_method_36_code 1 = .ok (.iconst 0, 1) := by decide +kernel
theorem d_M_growth_2 : decode prog_11_method_36_code 2 = .ok (.putfield 155, 3) := by decide +kernel
theorem d_M_growth_5 : decode prog_11_method_36_code 5 = .ok (.iconst 0, 1) := by decide +kernel
theorem d_M_growth_6 : decode prog_11_method_36_code 6 = .ok (.istore_n 3, 1) := by decide +kernel
theorem d_M_growth_7 : decode prog_11_method_36_code 7 = .ok (.iload_n 2, 1) := by decide +kernel
theorem d_M_growth_8 : decode prog_11_method_36_code 8 = .ok (.istore 4, 2) := by decide +kernel
theorem d_M_growth_10 : decode prog_11_method_36_code 10 = .ok (.iload_n 1, 1) := by decide +kernel
theorem d_M_growth_11 : decode prog_11_method_36_code 11 = .ok (.istore 5, 2) := by decide +kernel
theorem d_M_growth_13 : decode prog_11_method_36_code 13 = .ok (.iload 5, 2) := by decide +kernel
theorem d_M_growth_15 : decode prog_11_method_36_code 15 = .ok (.iload 4, 2) := by decide +kernel
theorem d_M_growth_17 : decode prog_11_method_36_code 17 = .ok (.if_icmp .eq 68, 3) := by decide +kernel
theorem d_M_growth_20 : decode prog_11_method_36_code 20 = .ok (.iload 4, 2) := by decide +kernel
theorem d_M_growth_22 : decode prog_11_method_36_code 22 = .ok (.invokestatic 158, 3) := by decide +kernel
theorem d_M_growth_25 : decode prog_11_method_36_code 25 = .ok (.istore 6, 2) := by decide +kernel
theorem d_M_growth_27 : decode prog_11_method_36_code 27 = .ok (.iload 5, 2) := by decide +kernel
theorem d_M_growth_29 : decode prog_11_method_36_code 29 = .ok (.iload 6, 2) := by decide +kernel
theorem d_M_growth_31 : decode prog_11_method_36_code 31 = .ok (.if_icmp .gt 24, 3) := by decide +kernel
theorem d_M_growth_34 : decode prog_11_method_36_code 34 = .ok (.aload_n 0, 1) := by decide +kernel
theorem d_M_growth_35 : decode prog_11_method_36_code 35 = .ok (.iload_n 3, 1) := by decide +kernel
theorem d_M_growth_36 : decode prog_11_method_36_code 36 = .ok (.iload 6, 2) := by decide +kernel
theorem d_M_growth_38 : decode prog_11_method_36_code 38 = .ok (.iadd, 1) := by decide +kernel
theorem d_M_growth_39 : decode prog_11_method_36_code 39 = .ok (.iload 4, 2) := by decide +kernel
theorem d_M_growth_41 : decode prog_11_method_36_code 41 = .ok (.iload 6, 2) := by decide +kernel
theorem d_M_growth_43 : decode prog_11_method_36_code 43 = .ok (.isub, 1) := by decide +kernel
theorem d_M_growth_44 : decode prog_11_method_36_code 44 = .ok (.iconst 0, 1) := by decide +kernel
theorem d_M_growth_45 : decode prog_11_method_36_code 45 = .ok (.invokevirtual 161, 3) := by decide +kernel
theorem d_M_growth_48 : decode prog_11_method_36_code 48 = .ok (.iload 6, 2) := by decide +kernel
theorem d_M_growth_50 : decode prog_11_method_36_code 50 = .ok (.istore 4, 2) := by decide +kernel
theorem d_M_growth_52 : decode prog_11_method_36_code 52 = .ok (.goto 30, 3) := by decide +kernel
theorem d_M_growth_55 : decode prog_11_method_36_code 55 = .ok (.aload_n 0, 1) := by decide +kernel
theorem d_M_growth_56 : decode prog_11_method_36_code 56 = .ok (.iload_n 3, 1) := by decide +kernel
theorem d_M_growth_57 : decode prog_11_method_36_code 57 = .ok (.iload 6, 2) := by decide +kernel
theorem d_M_growth_59 : decode prog_11_method_36_code 59 = .ok (.iconst 1, 1) := by decide +kernel
theorem d_M_growth_60 : decode prog_11_method_36_code 60 = .ok (.invokevirtual 161, 3) := by decide +kernel
theorem d_M_growth_63 : decode prog_11_method_36_code 63 = .ok (.iload_n 3, 1) := by decide +kernel
theorem d_M_growth_64 : decode prog_11_method_36_code 64 = .ok (.iload 6, 2) := by decide +kernel
theorem d_M_growth_66 : decode prog_11_method_36_code 66 = .ok (.iadd, 1) := by decide +kernel
theorem d_M_growth_67 : decode prog_11_method_36_code 67 = .ok (.istore_n 3, 1) := by decide +kernel
theorem d_M_growth_68 : decode prog_11_method_36_code 68 = .ok (.iload 4, 2) := by decide +kernel
theorem d_M_growth_70 : decode prog_11_method_36_code 70 = .ok (.iload 6, 2) := by decide +kernel
theorem d_M_growth_72 : decode prog_11_method_36_code 72 = .ok (.isub, 1) := by decide +kernel
theorem d_M_growth_73 : decode prog_11_method_36_code 73 = .ok (.istore 4, 2) := by decide +kernel
theorem d_M_growth_75 : decode prog_11_method_36_code 75 = .ok (.iload 5, 2) := by decide +kernel
theorem d_M_growth_77 : decode prog_11_method_36_code 77 = .ok (.iload 6, 2) := by decide +kernel
theorem d_M_growth_79 : decode prog_11_method_36_code 79 = .ok (.isub, 1) := by decide +kernel
theorem d_M_growth_80 : decode prog_11_method_36_code 80 = .ok (.istore 5, 2) := by decide +kernel
theorem d_M_growth_82 : decode prog_11_method_36_code 82 = .ok (.goto (-69), 3) := by decide +kernel
theorem d_M_growth_85 : decode prog_11_method_36_code 85 = .ok (.iload_n 3, 1) := by decide +kernel
theorem d_M_growth_86 : decode prog_11_method_36_code 86 = .ok (.ifCond .le 11, 3) := by decide +kernel
theorem d_M_growth_89 : decode prog_11_method_36_code 89 = .ok (.aload_n 0, 1) := by decide +kernel
theorem d_M_growth_90 : decode prog_11_method_36_code 90 = .ok (.iload_n 3, 1) := by decide +kernel
theorem d_M_growth_91 : decode prog_11_method_36_code 91 = .ok (.iload 4, 2) := by decide +kernel
theorem d_M_growth_93 : decode prog_11_method_36_code 93 = .ok (.iconst 1, 1) := by decide +kernel
theorem d_M_growth_94 : decode prog_11_method_36_code 94 = .ok (.invokevirtual 161, 3) := by decide +kernel
theorem d_M_growth_97 : decode prog_11_method_36_code 97 = .ok (.iload_n 3, 1) := by decide +kernel
theorem d_M_growth_98 : decode prog_11_method_36_code 98 = .ok (.ifCond .ne 7, 3) := by decide +kernel
theorem d_M_growth_101 : decode prog_11_method_36_code 101 = .ok (.iconst 1, 1) := by decide +kernel
theorem d_M_growth_102 : decode prog_11_method_36_code 102 = .ok (.goto 4, 3) := by decide +kernel
theorem d_M_growth_105 : decode prog_11_method_36_code 105 = .ok (.iconst 0, 1) := by decide +kernel
theorem d_M_growth_106 : decode prog_11_method_36_code 106 = .ok (.ireturn, 1) := by decide +kernel
theorem d_M_proof_0 : decode prog_11_method_45_code 0 = .ok (.aload_n 0, 1) := by decide +kernel
theorem d_M_proof_1 : decode prog_11_method_45_code 1 = .ok (.iconst 0, 1) := by decide +kernel
theorem d_M_proof_2 : decode prog_11_method_45_code 2 = .ok (.putfield 73, 3) := by decide +kernel
theorem d_M_proof_5 : decode prog_11_method_45_code 5 = .ok (.iload_n 1, 1) := by decide +kernel
theorem d_M_proof_6 : decode prog_11_method_45_code 6 = .ok (.iconst 0, 1) := by decide +kernel
theorem d_M_proof_7 : decode prog_11_method_45_code 7 = .ok (.aload_n 0, 1) := by decide +kernel
theorem d_M_proof_8 : decode prog_11_method_45_code 8 = .ok (.getfield 165, 3) := by decide +kernel
theorem d_M_proof_11 : decode prog_11_method_45_code 11 = .ok (.iconst 1, 1) := by decide +kernel
theorem d_M_proof_12 : decode prog_11_method_45_code 12 = .ok (.isub, 1) := by decide +kernel
theorem d_M_proof_13 : decode prog_11_method_45_code 13 = .ok (.invokestatic 99, 3) := by decide +kernel
theorem d_M_proof_16 : decode prog_11_method_45_code 16 = .ok (.ifCond .eq 7, 3) := by decide +kernel
theorem d_M_proof_19 : decode prog_11_method_45_code 19 = .ok (.iconst (-1), 1) := by decide +kernel
theorem d_M_proof_20 : decode prog_11_method_45_code 20 = .ok (.goto 9, 3) := by decide +kernel
theorem d_M_proof_23 : decode prog_11_method_45_code 23 = .ok (.aload_n 0, 1) := by decide +kernel
theorem d_M_proof_24 : decode prog_11_method_45_code 24 = .ok (.getfield 54, 3) := by decide +kernel
theorem d_M_proof_27 : decode prog_11_method_45_code 27 = .ok (.iload_n 1, 1) := by decide +kernel
theorem d_M_proof_28 : decode prog_11_method_45_code 28 = .ok (.iaload, 1) := by decide +kernel
theorem d_M_proof_29 : decode prog_11_method_45_code 29 = .ok (.ireturn, 1) := by decide +kernel
theorem d_M_take_0 : decode prog_11_method_46_code 0 = .ok (.aload_n 0, 1) := by decide +kernel
theorem d_M_take_1 : decode prog_11_method_46_code 1 = .ok (.iconst 0, 1) := by decide +kernel
theorem d_M_take_2 : decode prog_11_method_46_code 2 = .ok (.putfield 73, 3) := by decide +kernel
theorem d_M_take_5 : decode prog_11_method_46_code 5 = .ok (.iload_n 2, 1) := by decide +kernel
theorem d_M_take_6 : decode prog_11_method_46_code 6 = .ok (.iconst 1, 1) := by decide +kernel
theorem d_M_take_7 : decode prog_11_method_46_code 7 = .ok (.iconst 4, 1) := by decide +kernel
theorem d_M_take_8 : decode prog_11_method_46_code 8 = .ok (.invokestatic 99, 3) := by decide +kernel
theorem d_M_take_11 : decode prog_11_method_46_code 11 = .ok (.ifCond .ne 15, 3) := by decide +kernel
theorem d_M_take_14 : decode prog_11_method_46_code 14 = .ok (.aload_n 0, 1) := by decide +kernel
theorem d_M_take_15 : decode prog_11_method_46_code 15 = .ok (.getfield 194, 3) := by decide +kernel
theorem d_M_take_18 : decode prog_11_method_46_code 18 = .ok (.iload_n 2, 1) := by decide +kernel
theorem d_M_take_19 : decode prog_11_method_46_code 19 = .ok (.iadd, 1) := by decide +kernel
theorem d_M_take_20 : decode prog_11_method_46_code 20 = .ok (.sipush 400, 3) := by decide +kernel
theorem d_M_take_23 : decode prog_11_method_46_code 23 = .ok (.if_icmp .le 5, 3) := by decide +kernel
theorem d_M_take_26 : decode prog_11_method_46_code 26 = .ok (.iconst 0, 1) := by decide +kernel
theorem d_M_take_27 : decode prog_11_method_46_code 27 = .ok (.ireturn, 1) := by decide +kernel
theorem d_M_take_28 : decode prog_11_method_46_code 28 = .ok (.iload_n 2, 1) := by decide +kernel
theorem d_M_take_29 : decode prog_11_method_46_code 29 = .ok (.iconst 1, 1) := by decide +kernel
theorem d_M_take_30 : decode prog_11_method_46_code 30 = .ok (.isub, 1) := by decide +kernel
theorem d_M_take_31 : decode prog_11_method_46_code 31 = .ok (.istore_n 3, 1) := by decide +kernel
theorem d_M_take_32 : decode prog_11_method_46_code 32 = .ok (.iload_n 3, 1) := by decide +kernel
theorem d_M_take_33 : decode prog_11_method_46_code 33 = .ok (.ifCond .lt 38, 3) := by decide +kernel
theorem d_M_take_36 : decode prog_11_method_46_code 36 = .ok (.aload_n 0, 1) := by decide +kernel
theorem d_M_take_37 : decode prog_11_method_46_code 37 = .ok (.getfield 57, 3) := by decide +kernel
theorem d_M_take_40 : decode prog_11_method_46_code 40 = .ok (.aload_n 0, 1) := by decide +kernel
theorem d_M_take_41 : decode prog_11_method_46_code 41 = .ok (.getfield 194, 3) := by decide +kernel
theorem d_M_take_44 : decode prog_11_method_46_code 44 = .ok (.iload_n 1, 1) := by decide +kernel
theorem d_M_take_45 : decode prog_11_method_46_code 45 = .ok (.bipush 8, 2) := by decide +kernel
theorem d_M_take_47 : decode prog_11_method_46_code 47 = .ok (.iload_n 3, 1) := by decide +kernel
theorem d_M_take_48 : decode prog_11_method_46_code 48 = .ok (.imul, 1) := by decide +kernel
theorem d_M_take_49 : decode prog_11_method_46_code 49 = .ok (.ishr, 1) := by decide +kernel
theorem d_M_take_50 : decode prog_11_method_46_code 50 = .ok (.sipush 255, 3) := by decide +kernel
theorem d_M_take_53 : decode prog_11_method_46_code 53 = .ok (.iand, 1) := by decide +kernel
theorem d_M_take_54 : decode prog_11_method_46_code 54 = .ok (.iastore, 1) := by decide +kernel
theorem d_M_take_55 : decode prog_11_method_46_code 55 = .ok (.aload_n 0, 1) := by decide +kernel
theorem d_M_take_56 : decode prog_11_method_46_code 56 = .ok (.dup, 1) := by decide +kernel
theorem d_M_take_57 : decode prog_11_method_46_code 57 = .ok (.getfield 194, 3) := by decide +kernel
theorem d_M_take_60 : decode prog_11_method_46_code 60 = .ok (.iconst 1, 1) := by decide +kernel
theorem d_M_take_61 : decode prog_11_method_46_code 61 = .ok (.iadd, 1) := by decide +kernel
theorem d_M_take_62 : decode prog_11_method_46_code 62 = .ok (.putfield 194, 3) := by decide +kernel
theorem d_M_take_65 : decode prog_11_method_46_code 65 = .ok (.iinc 3 (-1), 3) := by decide +kernel
theorem d_M_take_68 : decode prog_11_method_46_code 68 = .ok (.goto (-36), 3) := by decide +kernel
theorem d_M_take_71 : decode prog_11_method_46_code 71 = .ok (.iconst 1, 1) := by decide +kernel
theorem d_M_take_72 : decode prog_11_method_46_code 72 = .ok (.ireturn, 1) := by decide +kernel
theorem d_M_carry_0 : decode prog_11_method_47_code 0 = .ok (.aload_n 0, 1) := by decide +kernel
theorem d_M_carry_1 : decode prog_11_method_47_code 1 = .ok (.iconst 0, 1) := by decide +kernel
theorem d_M_carry_2 : decode prog_11_method_47_code 2 = .ok (.putfield 73, 3) := by decide +kernel
theorem d_M_carry_5 : decode prog_11_method_47_code 5 = .ok (.iconst 0, 1) := by decide +kernel
theorem d_M_carry_6 : decode prog_11_method_47_code 6 = .ok (.istore_n 3, 1) := by decide +kernel
theorem d_M_carry_7 : decode prog_11_method_47_code 7 = .ok (.iload_n 3, 1) := by decide +kernel
theorem d_M_carry_8 : decode prog_11_method_47_code 8 = .ok (.aload_n 0, 1) := by decide +kernel
theorem d_M_carry_9 : decode prog_11_method_47_code 9 = .ok (.getfield 165, 3) := by decide +kernel
theorem d_M_carry_12 : decode prog_11_method_47_code 12 = .ok (.if_icmp .ge 41, 3) := by decide +kernel
theorem d_M_carry_15 : decode prog_11_method_47_code 15 = .ok (.aload_n 0, 1) := by decide +kernel
theorem d_M_carry_16 : decode prog_11_method_47_code 16 = .ok (.getfield 57, 3) := by decide +kernel
theorem d_M_carry_19 : decode prog_11_method_47_code 19 = .ok (.iload_n 3, 1) := by decide +kernel
theorem d_M_carry_20 : decode prog_11_method_47_code 20 = .ok (.iload_n 3, 1) := by decide +kernel
theorem d_M_carry_21 : decode prog_11_method_47_code 21 = .ok (.iload_n 1, 1) := by decide +kernel
theorem d_M_carry_22 : decode prog_11_method_47_code 22 = .ok (.if_icmp .ne 18, 3) := by decide +kernel
theorem d_M_carry_25 : decode prog_11_method_47_code 25 = .ok (.aload_n 0, 1) := by decide +kernel
theorem d_M_carry_26 : decode prog_11_method_47_code 26 = .ok (.getfield 54, 3) := by decide +kernel
theorem d_M_carry_29 : decode prog_11_method_47_code 29 = .ok (.iload_n 3, 1) := by decide +kernel
theorem d_M_carry_30 : decode prog_11_method_47_code 30 = .ok (.iaload, 1) := by decide +kernel
theorem d_M_carry_31 : decode prog_11_method_47_code 31 = .ok (.iload_n 2, 1) := by decide +kernel
theorem d_M_carry_32 : decode prog_11_method_47_code 32 = .ok (.sipush 255, 3) := by decide +kernel
theorem d_M_carry_35 : decode prog_11_method_47_code 35 = .ok (.iand, 1) := by decide +kernel
theorem d_M_carry_36 : decode prog_11_method_47_code 36 = .ok (.ixor, 1) := by decide +kernel
theorem d_M_carry_37 : decode prog_11_method_47_code 37 = .ok (.goto 9, 3) := by decide +kernel
theorem d_M_carry_40 : decode prog_11_method_47_code 40 = .ok (.aload_n 0, 1) := by decide +kernel
theorem d_M_carry_41 : decode prog_11_method_47_code 41 = .ok (.getfield 54, 3) := by decide +kernel
theorem d_M_carry_44 : decode prog_11_method_47_code 44 = .ok (.iload_n 3, 1) := by decide +kernel
theorem d_M_carry_45 : decode prog_11_method_47_code 45 = .ok (.iaload, 1) := by decide +kernel
theorem d_M_carry_46 : decode prog_11_method_47_code 46 = .ok (.iastore, 1) := by decide +kernel
theorem d_M_carry_47 : decode prog_11_method_47_code 47 = .ok (.iinc 3 1, 3) := by decide +kernel
theorem d_M_carry_50 : decode prog_11_method_47_code 50 = .ok (.goto (-43), 3) := by decide +kernel
theorem d_M_carry_53 : decode prog_11_method_47_code 53 = .ok (.aload_n 0, 1) := by decide +kernel
theorem d_M_carry_54 : decode prog_11_method_47_code 54 = .ok (.aload_n 0, 1) := by decide +kernel
theorem d_M_carry_55 : decode prog_11_method_47_code 55 = .ok (.getfield 165, 3) := by decide +kernel
theorem d_M_carry_58 : decode prog_11_method_47_code 58 = .ok (.putfield 194, 3) := by decide +kernel
theorem d_M_carry_61 : decode prog_11_method_47_code 61 = .ok (.aload_n 0, 1) := by decide +kernel
theorem d_M_carry_62 : decode prog_11_method_47_code 62 = .ok (.getfield 194, 3) := by decide +kernel
theorem d_M_carry_65 : decode prog_11_method_47_code 65 = .ok (.ireturn, 1) := by decide +kernel
theorem d_M_verify_0 : decode prog_11_method_54_code 0 = .ok (.iload_n 2, 1) := by decide +kernel
theorem d_M_verify_1 : decode prog_11_method_54_code 1 = .ok (.iconst 1, 1) := by decide +kernel
theorem d_M_verify_2 : decode prog_11_method_54_code 2 = .ok (.bipush 16, 2) := by decide +kernel
theorem d_M_verify_4 : decode prog_11_method_54_code 4 = .ok (.invokestatic 99, 3) := by decide +kernel
theorem d_M_verify_7 : decode prog_11_method_54_code 7 = .ok (.ifCond .ne 25, 3) := by decide +kernel
theorem d_M_verify_10 : decode prog_11_method_54_code 10 = .ok (.iload_n 3, 1) := by decide +kernel
theorem d_M_verify_11 : decode prog_11_method_54_code 11 = .ok (.iconst 0, 1) := by decide +kernel
theorem d_M_verify_12 : decode prog_11_method_54_code 12 = .ok (.iload_n 2, 1) := by decide +kernel
theorem d_M_verify_13 : decode prog_11_method_54_code 13 = .ok (.iconst 1, 1) := by decide +kernel
theorem d_M_verify_14 : decode prog_11_method_54_code 14 = .ok (.isub, 1) := by decide +kernel
theorem d_M_verify_15 : decode prog_11_method_54_code 15 = .ok (.invokestatic 99, 3) := by decide +kernel
theorem d_M_verify_18 : decode prog_11_method_54_code 18 = .ok (.ifCond .ne 14, 3) := by decide +kernel
theorem d_M_verify_21 : decode prog_11_method_54_code 21 = .ok (.iload 4, 2) := by decide +kernel
theorem d_M_verify_23 : decode prog_11_method_54_code 23 = .ok (.iconst 0, 1) := by decide +kernel
theorem d_M_verify_24 : decode prog_11_method_54_code 24 = .ok (.bipush 47, 2) := by decide +kernel
theorem d_M_verify_26 : decode prog_11_method_54_code 26 = .ok (.invokestatic 99, 3) := by decide +kernel
theorem d_M_verify_29 : decode prog_11_method_54_code 29 = .ok (.ifCond .eq 9, 3) := by decide +kernel
theorem d_M_verify_32 : decode prog_11_method_54_code 32 = .ok (.aload_n 0, 1) := by decide +kernel
theorem d_M_verify_33 : decode prog_11_method_54_code 33 = .ok (.iconst 1, 1) := by decide +kernel
theorem d_M_verify_34 : decode prog_11_method_54_code 34 = .ok (.invokevirtual 130, 3) := by decide +kernel
theorem d_M_verify_37 : decode prog_11_method_54_code 37 = .ok (.ireturn, 1) := by decide +kernel
theorem d_M_verify_38 : decode prog_11_method_54_code 38 = .ok (.aload_n 0, 1) := by decide +kernel
theorem d_M_verify_39 : decode prog_11_method_54_code 39 = .ok (.iconst 0, 1) := by decide +kernel
theorem d_M_verify_40 : decode prog_11_method_54_code 40 = .ok (.putfield 73, 3) := by decide +kernel
theorem d_M_verify_43 : decode prog_11_method_54_code 43 = .ok (.aload_n 0, 1) := by decide +kernel
theorem d_M_verify_44 : decode prog_11_method_54_code 44 = .ok (.iload_n 2, 1) := by decide +kernel
theorem d_M_verify_45 : decode prog_11_method_54_code 45 = .ok (.iload_n 3, 1) := by decide +kernel
theorem d_M_verify_46 : decode prog_11_method_54_code 46 = .ok (.invokevirtual 175, 3) := by decide +kernel
theorem d_M_verify_49 : decode prog_11_method_54_code 49 = .ok (.aload_n 0, 1) := by decide +kernel
theorem d_M_verify_50 : decode prog_11_method_54_code 50 = .ok (.invokevirtual 217, 3) := by decide +kernel
theorem d_M_verify_53 : decode prog_11_method_54_code 53 = .ok (.aload_n 0, 1) := by decide +kernel
theorem d_M_verify_54 : decode prog_11_method_54_code 54 = .ok (.getfield 200, 3) := by decide +kernel
theorem d_M_verify_57 : decode prog_11_method_54_code 57 = .ok (.ifCond .eq 12, 3) := by decide +kernel
theorem d_M_verify_60 : decode prog_11_method_54_code 60 = .ok (.aload_n 0, 1) := by decide +kernel
theorem d_M_verify_61 : decode prog_11_method_54_code 61 = .ok (.iload 4, 2) := by decide +kernel
theorem d_M_verify_63 : decode prog_11_method_54_code 63 = .ok (.invokevirtual 220, 3) := by decide +kernel
theorem d_M_verify_66 : decode prog_11_method_54_code 66 = .ok (.goto 4, 3) := by decide +kernel
theorem d_M_verify_69 : decode prog_11_method_54_code 69 = .ok (.iconst 0, 1) := by decide +kernel
theorem d_M_verify_70 : decode prog_11_method_54_code 70 = .ok (.istore 5, 2) := by decide +kernel
theorem d_M_verify_72 : decode prog_11_method_54_code 72 = .ok (.aload_n 0, 1) := by decide +kernel
theorem d_M_verify_73 : decode prog_11_method_54_code 73 = .ok (.getfield 200, 3) := by decide +kernel
theorem d_M_verify_76 : decode prog_11_method_54_code 76 = .ok (.ifCond .eq 33, 3) := by decide +kernel
theorem d_M_verify_79 : decode prog_11_method_54_code 79 = .ok (.aload_n 0, 1) := by decide +kernel
theorem d_M_verify_80 : decode prog_11_method_54_code 80 = .ok (.getfield 197, 3) := by decide +kernel
theorem d_M_verify_83 : decode prog_11_method_54_code 83 = .ok (.aload_n 0, 1) := by decide +kernel
theorem d_M_verify_84 : decode prog_11_method_54_code 84 = .ok (.getfield 194, 3) := by decide +kernel
theorem d_M_verify_87 : decode prog_11_method_54_code 87 = .ok (.if_icmp .ne 22, 3) := by decide +kernel
theorem d_M_verify_90 : decode prog_11_method_54_code 90 = .ok (.aload_n 0, 1) := by decide +kernel
theorem d_M_verify_91 : decode prog_11_method_54_code 91 = .ok (.iload_n 3, 1) := by decide +kernel
theorem d_M_verify_92 : decode prog_11_method_54_code 92 = .ok (.iload 5, 2) := by decide +kernel
theorem d_M_verify_94 : decode prog_11_method_54_code 94 = .ok (.invokestatic 146, 3) := by decide +kernel
theorem d_M_verify_97 : decode prog_11_method_54_code 97 = .ok (.iconst 0, 1) := by decide +kernel
theorem d_M_verify_98 : decode prog_11_method_54_code 98 = .ok (.invokevirtual 223, 3) := by decide +kernel
theorem d_M_verify_101 : decode prog_11_method_54_code 101 = .ok (.iload_n 1, 1) := by decide +kernel
theorem d_M_verify_102 : decode prog_11_method_54_code 102 = .ok (.if_icmp .ne 7, 3) := by decide +kernel
theorem d_M_verify_105 : decode prog_11_method_54_code 105 = .ok (.iconst 1, 1) := by decide +kernel
theorem d_M_verify_106 : decode prog_11_method_54_code 106 = .ok (.goto 4, 3) := by decide +kernel
theorem d_M_verify_109 : decode prog_11_method_54_code 109 = .ok (.iconst 0, 1) := by decide +kernel
theorem d_M_verify_110 : decode prog_11_method_54_code 110 = .ok (.istore 6, 2) := by decide +kernel
theorem d_M_verify_112 : decode prog_11_method_54_code 112 = .ok (.aload_n 0, 1) := by decide +kernel
theorem d_M_verify_113 : decode prog_11_method_54_code 113 = .ok (.iconst 0, 1) := by decide +kernel
theorem d_M_verify_114 : decode prog_11_method_54_code 114 = .ok (.putfield 194, 3) := by decide +kernel
theorem d_M_verify_117 : decode prog_11_method_54_code 117 = .ok (.iload 6, 2) := by decide +kernel
theorem d_M_verify_119 : decode prog_11_method_54_code 119 = .ok (.ifCond .ne 5, 3) := by decide +kernel
theorem d_M_verify_122 : decode prog_11_method_54_code 122 = .ok (.iconst 0, 1) := by decide +kernel
theorem d_M_verify_123 : decode prog_11_method_54_code 123 = .ok (.ireturn, 1) := by decide +kernel
theorem d_M_verify_124 : decode prog_11_method_54_code 124 = .ok (.iconst 0, 1) := by decide +kernel
theorem d_M_verify_125 : decode prog_11_method_54_code 125 = .ok (.istore 7, 2) := by decide +kernel
theorem d_M_verify_127 : decode prog_11_method_54_code 127 = .ok (.iload 7, 2) := by decide +kernel
theorem d_M_verify_129 : decode prog_11_method_54_code 129 = .ok (.aload_n 0, 1) := by decide +kernel
theorem d_M_verify_130 : decode prog_11_method_54_code 130 = .ok (.getfield 211, 3) := by decide +kernel
theorem d_M_verify_133 : decode prog_11_method_54_code 133 = .ok (.if_icmp .ge 34, 3) := by decide +kernel
theorem d_M_verify_136 : decode prog_11_method_54_code 136 = .ok (.aload_n 0, 1) := by decide +kernel
theorem d_M_verify_137 : decode prog_11_method_54_code 137 = .ok (.getfield 63, 3) := by decide +kernel
theorem d_M_verify_140 : decode prog_11_method_54_code 140 = .ok (.iload 7, 2) := by decide +kernel
theorem d_M_verify_142 : decode prog_11_method_54_code 142 = .ok (.iaload, 1) := by decide +kernel
theorem d_M_verify_143 : decode prog_11_method_54_code 143 = .ok (.iload 4, 2) := by decide +kernel
theorem d_M_verify_145 : decode prog_11_method_54_code 145 = .ok (.if_icmp .ne 16, 3) := by decide +kernel
theorem d_M_verify_148 : decode prog_11_method_54_code 148 = .ok (.aload_n 0, 1) := by decide +kernel
theorem d_M_verify_149 : decode prog_11_method_54_code 149 = .ok (.aload_n 0, 1) := by decide +kernel
theorem d_M_verify_150 : decode prog_11_method_54_code 150 = .ok (.getfield 66, 3) := by decide +kernel
theorem d_M_verify_153 : decode prog_11_method_54_code 153 = .ok (.iload 7, 2) := by decide +kernel
theorem d_M_verify_155 : decode prog_11_method_54_code 155 = .ok (.iaload, 1) := by decide +kernel
theorem d_M_verify_156 : decode prog_11_method_54_code 156 = .ok (.putfield 226, 3) := by decide +kernel
theorem d_M_verify_159 : decode prog_11_method_54_code 159 = .ok (.iconst 2, 1) := by decide +kernel
theorem d_M_verify_160 : decode prog_11_method_54_code 160 = .ok (.ireturn, 1) := by decide +kernel
theorem d_M_verify_161 : decode prog_11_method_54_code 161 = .ok (.iinc 7 1, 3) := by decide +kernel
theorem d_M_verify_164 : decode prog_11_method_54_code 164 = .ok (.goto (-37), 3) := by decide +kernel
theorem d_M_verify_167 : decode prog_11_method_54_code 167 = .ok (.iconst 1, 1) := by decide +kernel
theorem d_M_verify_168 : decode prog_11_method_54_code 168 = .ok (.ireturn, 1) := by decide +kernel
theorem d_M_inBeside_0 : decode prog_11_method_50_code 0 = .ok (.aload_n 0, 1) := by decide +kernel
theorem d_M_inBeside_1 : decode prog_11_method_50_code 1 = .ok (.iconst 0, 1) := by decide +kernel
theorem d_M_inBeside_2 : decode prog_11_method_50_code 2 = .ok (.putfield 197, 3) := by decide +kernel
theorem d_M_inBeside_5 : decode prog_11_method_50_code 5 = .ok (.aload_n 0, 1) := by decide +kernel
theorem d_M_inBeside_6 : decode prog_11_method_50_code 6 = .ok (.iconst 1, 1) := by decide +kernel
theorem d_M_inBeside_7 : decode prog_11_method_50_code 7 = .ok (.putfield 200, 3) := by decide +kernel
theorem d_M_inBeside_10 : decode prog_11_method_50_code 10 = .ok (.aload_n 0, 1) := by decide +kernel
theorem d_M_inBeside_11 : decode prog_11_method_50_code 11 = .ok (.aload_n 0, 1) := by decide +kernel
theorem d_M_inBeside_12 : decode prog_11_method_50_code 12 = .ok (.getfield 155, 3) := by decide +kernel
theorem d_M_inBeside_15 : decode prog_11_method_50_code 15 = .ok (.aload_n 0, 1) := by decide +kernel
theorem d_M_inBeside_16 : decode prog_11_method_50_code 16 = .ok (.getfield 155, 3) := by decide +kernel
theorem d_M_inBeside_19 : decode prog_11_method_50_code 19 = .ok (.invokevirtual 204, 3) := by decide +kernel
theorem d_M_inBeside_22 : decode prog_11_method_50_code 22 = .ok (.istore_n 1, 1) := by decide +kernel
theorem d_M_inBeside_23 : decode prog_11_method_50_code 23 = .ok (.iconst 0, 1) := by decide +kernel
theorem d_M_inBeside_24 : decode prog_11_method_50_code 24 = .ok (.istore_n 2, 1) := by decide +kernel
theorem d_M_inBeside_25 : decode prog_11_method_50_code 25 = .ok (.aload_n 0, 1) := by decide +kernel
theorem d_M_inBeside_26 : decode prog_11_method_50_code 26 = .ok (.getfield 200, 3) := by decide +kernel
theorem d_M_inBeside_29 : decode prog_11_method_50_code 29 = .ok (.ifCond .eq 24, 3) := by decide +kernel
theorem d_M_inBeside_32 : decode prog_11_method_50_code 32 = .ok (.iload_n 2, 1) := by decide +kernel
theorem d_M_inBeside_33 : decode prog_11_method_50_code 33 = .ok (.iload_n 1, 1) := by decide +kernel
theorem d_M_inBeside_34 : decode prog_11_method_50_code 34 = .ok (.if_icmp .ge 19, 3) := by decide +kernel
theorem d_M_inBeside_37 : decode prog_11_method_50_code 37 = .ok (.aload_n 0, 1) := by decide +kernel
theorem d_M_inBeside_38 : decode prog_11_method_50_code 38 = .ok (.getfield 60, 3) := by decide +kernel
theorem d_M_inBeside_41 : decode prog_11_method_50_code 41 = .ok (.iload_n 2, 1) := by decide +kernel
theorem d_M_inBeside_42 : decode prog_11_method_50_code 42 = .ok (.aload_n 0, 1) := by decide +kernel
theorem d_M_inBeside_43 : decode prog_11_method_50_code 43 = .ok (.invokevirtual 207, 3) := by decide +kernel
theorem d_M_inBeside_46 : decode prog_11_method_50_code 46 = .ok (.iastore, 1) := by decide +kernel
theorem d_M_inBeside_47 : decode prog_11_method_50_code 47 = .ok (.iinc 2 1, 3) := by decide +kernel
theorem d_M_inBeside_50 : decode prog_11_method_50_code 50 = .ok (.goto (-25), 3) := by decide +kernel
theorem d_M_inBeside_53 : decode prog_11_method_50_code 53 = .ok (.return_, 1) := by decide +kernel
theorem d_M_in_0 : decode prog_11_method_48_code 0 = .ok (.aload_n 0, 1) := by decide +kernel
theorem d_M_in_1 : decode prog_11_method_48_code 1 = .ok (.getfield 197, 3) := by decide +kernel
theorem d_M_in_4 : decode prog_11_method_48_code 4 = .ok (.aload_n 0, 1) := by decide +kernel
theorem d_M_in_5 : decode prog_11_method_48_code 5 = .ok (.getfield 194, 3) := by decide +kernel
theorem d_M_in_8 : decode prog_11_method_48_code 8 = .ok (.if_icmp .ge 15, 3) := by decide +kernel
theorem d_M_in_11 : decode prog_11_method_48_code 11 = .ok (.aload_n 0, 1) := by decide +kernel
theorem d_M_in_12 : decode prog_11_method_48_code 12 = .ok (.getfield 57, 3) := by decide +kernel
theorem d_M_in_15 : decode prog_11_method_48_code 15 = .ok (.aload_n 0, 1) := by decide +kernel
theorem d_M_in_16 : decode prog_11_method_48_code 16 = .ok (.getfield 197, 3) := by decide +kernel
theorem d_M_in_19 : decode prog_11_method_48_code 19 = .ok (.iaload, 1) := by decide +kernel
theorem d_M_in_20 : decode prog_11_method_48_code 20 = .ok (.goto 4, 3) := by decide +kernel
theorem d_M_in_23 : decode prog_11_method_48_code 23 = .ok (.iconst (-1), 1) := by decide +kernel
theorem d_M_in_24 : decode prog_11_method_48_code 24 = .ok (.istore_n 3, 1) := by decide +kernel
theorem d_M_in_25 : decode prog_11_method_48_code 25 = .ok (.aload_n 0, 1) := by decide +kernel
theorem d_M_in_26 : decode prog_11_method_48_code 26 = .ok (.dup, 1) := by decide +kernel
theorem d_M_in_27 : decode prog_11_method_48_code 27 = .ok (.getfield 197, 3) := by decide +kernel
theorem d_M_in_30 : decode prog_11_method_48_code 30 = .ok (.iconst 1, 1) := by decide +kernel
theorem d_M_in_31 : decode prog_11_method_48_code 31 = .ok (.iadd, 1) := by decide +kernel
theorem d_M_in_32 : decode prog_11_method_48_code 32 = .ok (.putfield 197, 3) := by decide +kernel
theorem d_M_in_35 : decode prog_11_method_48_code 35 = .ok (.aload_n 0, 1) := by decide +kernel
theorem d_M_in_36 : decode prog_11_method_48_code 36 = .ok (.aload_n 0, 1) := by decide +kernel
theorem d_M_in_37 : decode prog_11_method_48_code 37 = .ok (.getfield 200, 3) := by decide +kernel
theorem d_M_in_40 : decode prog_11_method_48_code 40 = .ok (.ifCond .eq 16, 3) := by decide +kernel
theorem d_M_in_43 : decode prog_11_method_48_code 43 = .ok (.iload_n 3, 1) := by decide +kernel
theorem d_M_in_44 : decode prog_11_method_48_code 44 = .ok (.iload_n 1, 1) := by decide +kernel
theorem d_M_in_45 : decode prog_11_method_48_code 45 = .ok (.iload_n 2, 1) := by decide +kernel
theorem d_M_in_46 : decode prog_11_method_48_code 46 = .ok (.invokestatic 99, 3) := by decide +kernel
theorem d_M_in_49 : decode prog_11_method_48_code 49 = .ok (.ifCond .ne 7, 3) := by decide +kernel
theorem d_M_in_52 : decode prog_11_method_48_code 52 = .ok (.iconst 1, 1) := by decide +kernel
theorem d_M_in_53 : decode prog_11_method_48_code 53 = .ok (.goto 4, 3) := by decide +kernel
theorem d_M_in_56 : decode prog_11_method_48_code 56 = .ok (.iconst 0, 1) := by decide +kernel
theorem d_M_in_57 : decode prog_11_method_48_code 57 = .ok (.putfield 200, 3) := by decide +kernel
theorem d_M_in_60 : decode prog_11_method_48_code 60 = .ok (.iload_n 3, 1) := by decide +kernel
theorem d_M_in_61 : decode prog_11_method_48_code 61 = .ok (.ireturn, 1) := by decide +kernel
theorem d_M_inInt_0 : decode prog_11_method_49_code 0 = .ok (.iconst 0, 1) := by decide +kernel
theorem d_M_inInt_1 : decode prog_11_method_49_code 1 = .ok (.istore_n 1, 1) := by decide +kernel
theorem d_M_inInt_2 : decode prog_11_method_49_code 2 = .ok (.iconst 0, 1) := by decide +kernel
theorem d_M_inInt_3 : decode prog_11_method_49_code 3 = .ok (.istore_n 2, 1) := by decide +kernel
theorem d_M_inInt_4 : decode prog_11_method_49_code 4 = .ok (.iload_n 2, 1) := by decide +kernel
theorem d_M_inInt_5 : decode prog_11_method_49_code 5 = .ok (.iconst 4, 1) := by decide +kernel
theorem d_M_inInt_6 : decode prog_11_method_49_code 6 = .ok (.if_icmp .ge 27, 3) := by decide +kernel
theorem d_M_inInt_9 : decode prog_11_method_49_code 9 = .ok (.iload_n 1, 1) := by decide +kernel
theorem d_M_inInt_10 : decode prog_11_method_49_code 10 = .ok (.bipush 8, 2) := by decide +kernel
theorem d_M_inInt_12 : decode prog_11_method_49_code 12 = .ok (.ishl, 1) := by decide +kernel
theorem d_M_inInt_13 : decode prog_11_method_49_code 13 = .ok (.aload_n 0, 1) := by decide +kernel
theorem d_M_inInt_14 : decode prog_11_method_49_code 14 = .ok (.iconst 0, 1) := by decide +kernel
theorem d_M_inInt_15 : decode prog_11_method_49_code 15 = .ok (.sipush 255, 3) := by decide +kernel
theorem d_M_inInt_18 : decode prog_11_method_49_code 18 = .ok (.invokevirtual 204, 3) := by decide +kernel
theorem d_M_inInt_21 : decode prog_11_method_49_code 21 = .ok (.sipush 255, 3) := by decide +kernel
theorem d_M_inInt_24 : decode prog_11_method_49_code 24 = .ok (.iand, 1) := by decide +kernel
theorem d_M_inInt_25 : decode prog_11_method_49_code 25 = .ok (.ior, 1) := by decide +kernel
theorem d_M_inInt_26 : decode prog_11_method_49_code 26 = .ok (.istore_n 1, 1) := by decide +kernel
theorem d_M_inInt_27 : decode prog_11_method_49_code 27 = .ok (.iinc 2 1, 3) := by decide +kernel
theorem d_M_inInt_30 : decode prog_11_method_49_code 30 = .ok (.goto (-26), 3) := by decide +kernel
theorem d_M_inInt_33 : decode prog_11_method_49_code 33 = .ok (.iload_n 1, 1) := by decide +kernel
theorem d_M_inInt_34 : decode prog_11_method_49_code 34 = .ok (.ireturn, 1) := by decide +kernel
theorem d_M_inLevels_0 : decode prog_11_method_52_code 0 = .ok (.aload_n 0, 1) := by decide +kernel
theorem d_M_inLevels_1 : decode prog_11_method_52_code 1 = .ok (.iconst 0, 1) := by decide +kernel
theorem d_M_inLevels_2 : decode prog_11_method_52_code 2 = .ok (.bipush 6, 2) := by decide +kernel
theorem d_M_inLevels_4 : decode prog_11_method_52_code 4 = .ok (.invokevirtual 204, 3) := by decide +kernel
theorem d_M_inLevels_7 : decode prog_11_method_52_code 7 = .ok (.istore_n 2, 1) := by decide +kernel
theorem d_M_inLevels_8 : decode prog_11_method_52_code 8 = .ok (.iconst 0, 1) := by decide +kernel
theorem d_M_inLevels_9 : decode prog_11_method_52_code 9 = .ok (.istore_n 3, 1) := by decide +kernel
theorem d_M_inLevels_10 : decode prog_11_method_52_code 10 = .ok (.iconst 0, 1) := by decide +kernel
theorem d_M_inLevels_11 : decode prog_11_method_52_code 11 = .ok (.istore 4, 2) := by decide +kernel
theorem d_M_inLevels_13 : decode prog_11_method_52_code 13 = .ok (.iconst 0, 1) := by decide +kernel
theorem d_M_inLevels_14 : decode prog_11_method_52_code 14 = .ok (.istore 5, 2) := by decide +kernel
theorem d_M_inLevels_16 : decode prog_11_method_52_code 16 = .ok (.aload_n 0, 1) := by decide +kernel
theorem d_M_inLevels_17 : decode prog_11_method_52_code 17 = .ok (.iconst 0, 1) := by decide +kernel
theorem d_M_inLevels_18 : decode prog_11_method_52_code 18 = .ok (.putfield 211, 3) := by decide +kernel
theorem d_M_inLevels_21 : decode prog_11_method_52_code 21 = .ok (.iload_n 2, 1) := by decide +kernel
theorem d_M_inLevels_22 : decode prog_11_method_52_code 22 = .ok (.iconst 1, 1) := by decide +kernel
theorem d_M_inLevels_23 : decode prog_11_method_52_code 23 = .ok (.isub, 1) := by decide +kernel
theorem d_M_inLevels_24 : decode prog_11_method_52_code 24 = .ok (.istore 6, 2) := by decide +kernel
theorem d_M_inLevels_26 : decode prog_11_method_52_code 26 = .ok (.aload_n 0, 1) := by decide +kernel
theorem d_M_inLevels_27 : decode prog_11_method_52_code 27 = .ok (.getfield 200, 3) := by decide +kernel
theorem d_M_inLevels_30 : decode prog_11_method_52_code 30 = .ok (.ifCond .eq 128, 3) := by decide +kernel
theorem d_M_inLevels_33 : decode prog_11_method_52_code 33 = .ok (.iload 6, 2) := by decide +kernel
theorem d_M_inLevels_35 : decode prog_11_method_52_code 35 = .ok (.ifCond .lt 123, 3) := by decide +kernel
theorem d_M_inLevels_38 : decode prog_11_method_52_code 38 = .ok (.aload_n 0, 1) := by decide +kernel
theorem d_M_inLevels_39 : decode prog_11_method_52_code 39 = .ok (.iload 6, 2) := by decide +kernel
theorem d_M_inLevels_41 : decode prog_11_method_52_code 41 = .ok (.invokevirtual 214, 3) := by decide +kernel
theorem d_M_inLevels_44 : decode prog_11_method_52_code 44 = .ok (.istore 7, 2) := by decide +kernel
theorem d_M_inLevels_46 : decode prog_11_method_52_code 46 = .ok (.aload_n 0, 1) := by decide +kernel
theorem d_M_inLevels_47 : decode prog_11_method_52_code 47 = .ok (.getfield 200, 3) := by decide +kernel
theorem d_M_inLevels_50 : decode prog_11_method_52_code 50 = .ok (.ifCond .eq 43, 3) := by decide +kernel
theorem d_M_inLevels_53 : decode prog_11_method_52_code 53 = .ok (.iload 6, 2) := by decide +kernel
theorem d_M_inLevels_55 : decode prog_11_method_52_code 55 = .ok (.iload_n 2, 1) := by decide +kernel
theorem d_M_inLevels_56 : decode prog_11_method_52_code 56 = .ok (.iconst 1, 1) := by decide +kernel
theorem d_M_inLevels_57 : decode prog_11_method_52_code 57 = .ok (.isub, 1) := by decide +kernel
theorem d_M_inLevels_58 : decode prog_11_method_52_code 58 = .ok (.if_icmp .ge 35, 3) := by decide +kernel
theorem d_M_inLevels_61 : decode prog_11_method_52_code 61 = .ok (.aload_n 0, 1) := by decide +kernel
theorem d_M_inLevels_62 : decode prog_11_method_52_code 62 = .ok (.iload 7, 2) := by decide +kernel
theorem d_M_inLevels_64 : decode prog_11_method_52_code 64 = .ok (.iload 5, 2) := by decide +kernel
theorem d_M_inLevels_66 : decode prog_11_method_52_code 66 = .ok (.if_icmp .ne 23, 3) := by decide +kernel
theorem d_M_inLevels_69 : decode prog_11_method_52_code 69 = .ok (.aload_n 0, 1) := by decide +kernel
theorem d_M_inLevels_70 : decode prog_11_method_52_code 70 = .ok (.getfield 63, 3) := by decide +kernel
theorem d_M_inLevels_73 : decode prog_11_method_52_code 73 = .ok (.aload_n 0, 1) := by decide +kernel
theorem d_M_inLevels_74 : decode prog_11_method_52_code 74 = .ok (.getfield 211, 3) := by decide +kernel
theorem d_M_inLevels_77 : decode prog_11_method_52_code 77 = .ok (.iconst 1, 1) := by decide +kernel
theorem d_M_inLevels_78 : decode prog_11_method_52_code 78 = .ok (.isub, 1) := by decide +kernel
theorem d_M_inLevels_79 : decode prog_11_method_52_code 79 = .ok (.iaload, 1) := by decide +kernel
theorem d_M_inLevels_80 : decode prog_11_method_52_code 80 = .ok (.iload 4, 2) := by decide +kernel
theorem d_M_inLevels_82 : decode prog_11_method_52_code 82 = .ok (.if_icmp .ne 7, 3) := by decide +kernel
theorem d_M_inLevels_85 : decode prog_11_method_52_code 85 = .ok (.iconst 1, 1) := by decide +kernel
theorem d_M_inLevels_86 : decode prog_11_method_52_code 86 = .ok (.goto 4, 3) := by decide +kernel
theorem d_M_inLevels_89 : decode prog_11_method_52_code 89 = .ok (.iconst 0, 1) := by decide +kernel
theorem d_M_inLevels_90 : decode prog_11_method_52_code 90 = .ok (.putfield 200, 3) := by decide +kernel
theorem d_M_inLevels_93 : decode prog_11_method_52_code 93 = .ok (.iload 6, 2) := by decide +kernel
theorem d_M_inLevels_95 : decode prog_11_method_52_code 95 = .ok (.iload_n 2, 1) := by decide +kernel
theorem d_M_inLevels_96 : decode prog_11_method_52_code 96 = .ok (.iconst 1, 1) := by decide +kernel
theorem d_M_inLevels_97 : decode prog_11_method_52_code 97 = .ok (.isub, 1) := by decide +kernel
theorem d_M_inLevels_98 : decode prog_11_method_52_code 98 = .ok (.if_icmp .ne 8, 3) := by decide +kernel
theorem d_M_inLevels_101 : decode prog_11_method_52_code 101 = .ok (.iload 7, 2) := by decide +kernel
theorem d_M_inLevels_103 : decode prog_11_method_52_code 103 = .ok (.goto 4, 3) := by decide +kernel
theorem d_M_inLevels_106 : decode prog_11_method_52_code 106 = .ok (.iload_n 3, 1) := by decide +kernel
theorem d_M_inLevels_107 : decode prog_11_method_52_code 107 = .ok (.istore_n 3, 1) := by decide +kernel
theorem d_M_inLevels_108 : decode prog_11_method_52_code 108 = .ok (.aload_n 0, 1) := by decide +kernel
theorem d_M_inLevels_109 : decode prog_11_method_52_code 109 = .ok (.getfield 200, 3) := by decide +kernel
theorem d_M_inLevels_112 : decode prog_11_method_52_code 112 = .ok (.ifCond .eq 19, 3) := by decide +kernel
theorem d_M_inLevels_115 : decode prog_11_method_52_code 115 = .ok (.aload_n 0, 1) := by decide +kernel
theorem d_M_inLevels_116 : decode prog_11_method_52_code 116 = .ok (.getfield 63, 3) := by decide +kernel
theorem d_M_inLevels_119 : decode prog_11_method_52_code 119 = .ok (.iconst 0, 1) := by decide +kernel
theorem d_M_inLevels_120 : decode prog_11_method_52_code 120 = .ok (.aload_n 0, 1) := by decide +kernel
theorem d_M_inLevels_121 : decode prog_11_method_52_code 121 = .ok (.getfield 211, 3) := by decide +kernel
theorem d_M_inLevels_124 : decode prog_11_method_52_code 124 = .ok (.iload_n 1, 1) := by decide +kernel
theorem d_M_inLevels_125 : decode prog_11_method_52_code 125 = .ok (.invokestatic 181, 3) := by decide +kernel
theorem d_M_inLevels_128 : decode prog_11_method_52_code 128 = .ok (.goto 4, 3) := by decide +kernel
theorem d_M_inLevels_131 : decode prog_11_method_52_code 131 = .ok (.iconst 0, 1) := by decide +kernel
theorem d_M_inLevels_132 : decode prog_11_method_52_code 132 = .ok (.istore 8, 2) := by decide +kernel
theorem d_M_inLevels_134 : decode prog_11_method_52_code 134 = .ok (.aload_n 0, 1) := by decide +kernel
theorem d_M_inLevels_135 : decode prog_11_method_52_code 135 = .ok (.getfield 63, 3) := by decide +kernel
theorem d_M_inLevels_138 : decode prog_11_method_52_code 138 = .ok (.iload 8, 2) := by decide +kernel
theorem d_M_inLevels_140 : decode prog_11_method_52_code 140 = .ok (.iaload, 1) := by decide +kernel
theorem d_M_inLevels_141 : decode prog_11_method_52_code 141 = .ok (.istore 4, 2) := by decide +kernel
theorem d_M_inLevels_143 : decode prog_11_method_52_code 143 = .ok (.aload_n 0, 1) := by decide +kernel
theorem d_M_inLevels_144 : decode prog_11_method_52_code 144 = .ok (.getfield 66, 3) := by decide +kernel
theorem d_M_inLevels_147 : decode prog_11_method_52_code 147 = .ok (.iload 8, 2) := by decide +kernel
theorem d_M_inLevels_149 : decode prog_11_method_52_code 149 = .ok (.iaload, 1) := by decide +kernel
theorem d_M_inLevels_150 : decode prog_11_method_52_code 150 = .ok (.istore 5, 2) := by decide +kernel
theorem d_M_inLevels_152 : decode prog_11_method_52_code 152 = .ok (.iinc 6 (-1), 3) := by decide +kernel
theorem d_M_inLevels_155 : decode prog_11_method_52_code 155 = .ok (.goto (-129), 3) := by decide +kernel
theorem d_M_inLevels_158 : decode prog_11_method_52_code 158 = .ok (.iload_n 3, 1) := by decide +kernel
theorem d_M_inLevels_159 : decode prog_11_method_52_code 159 = .ok (.ireturn, 1) := by decide +kernel
theorem d_M_inChunk_0 : decode prog_11_method_51_code 0 = .ok (.aload_n 0, 1) := by decide +kernel
theorem d_M_inChunk_1 : decode prog_11_method_51_code 1 = .ok (.aload_n 0, 1) := by decide +kernel
theorem d_M_inChunk_2 : decode prog_11_method_51_code 2 = .ok (.iconst 1, 1) := by decide +kernel
theorem d_M_inChunk_3 : decode prog_11_method_51_code 3 = .ok (.bipush 48, 2) := by decide +kernel
theorem d_M_inChunk_5 : decode prog_11_method_51_code 5 = .ok (.invokevirtual 204, 3) := by decide +kernel
theorem d_M_inChunk_8 : decode prog_11_method_51_code 8 = .ok (.putfield 211, 3) := by decide +kernel
theorem d_M_inChunk_11 : decode prog_11_method_51_code 11 = .ok (.bipush 6, 2) := by decide +kernel
theorem d_M_inChunk_13 : decode prog_11_method_51_code 13 = .ok (.iload_n 1, 1) := by decide +kernel
theorem d_M_inChunk_14 : decode prog_11_method_51_code 14 = .ok (.invokestatic 77, 3) := by decide +kernel
theorem d_M_inChunk_17 : decode prog_11_method_51_code 17 = .ok (.istore_n 2, 1) := by decide +kernel
theorem d_M_inChunk_18 : decode prog_11_method_51_code 18 = .ok (.iconst (-1), 1) := by decide +kernel
theorem d_M_inChunk_19 : decode prog_11_method_51_code 19 = .ok (.istore_n 3, 1) := by decide +kernel
theorem d_M_inChunk_20 : decode prog_11_method_51_code 20 = .ok (.iconst 0, 1) := by decide +kernel
theorem d_M_inChunk_21 : decode prog_11_method_51_code 21 = .ok (.istore 4, 2) := by decide +kernel
theorem d_M_inChunk_23 : decode prog_11_method_51_code 23 = .ok (.aload_n 0, 1) := by decide +kernel
theorem d_M_inChunk_24 : decode prog_11_method_51_code 24 = .ok (.getfield 200, 3) := by decide +kernel
theorem d_M_inChunk_27 : decode prog_11_method_51_code 27 = .ok (.ifCond .eq 75, 3) := by decide +kernel
theorem d_M_inChunk_30 : decode prog_11_method_51_code 30 = .ok (.iload 4, 2) := by decide +kernel
theorem d_M_inChunk_32 : decode prog_11_method_51_code 32 = .ok (.aload_n 0, 1) := by decide +kernel
theorem d_M_inChunk_33 : decode prog_11_method_51_code 33 = .ok (.getfield 211, 3) := by decide +kernel
theorem d_M_inChunk_36 : decode prog_11_method_51_code 36 = .ok (.if_icmp .ge 66, 3) := by decide +kernel
theorem d_M_inChunk_39 : decode prog_11_method_51_code 39 = .ok (.aload_n 0, 1) := by decide +kernel
theorem d_M_inChunk_40 : decode prog_11_method_51_code 40 = .ok (.getfield 63, 3) := by decide +kernel
theorem d_M_inChunk_43 : decode prog_11_method_51_code 43 = .ok (.iload 4, 2) := by decide +kernel
theorem d_M_inChunk_45 : decode prog_11_method_51_code 45 = .ok (.aload_n 0, 1) := by decide +kernel
theorem d_M_inChunk_46 : decode prog_11_method_51_code 46 = .ok (.iload_n 3, 1) := by decide +kernel
theorem d_M_inChunk_47 : decode prog_11_method_51_code 47 = .ok (.iconst 1, 1) := by decide +kernel
theorem d_M_inChunk_48 : decode prog_11_method_51_code 48 = .ok (.iadd, 1) := by decide +kernel
theorem d_M_inChunk_49 : decode prog_11_method_51_code 49 = .ok (.bipush 47, 2) := by decide +kernel
theorem d_M_inChunk_51 : decode prog_11_method_51_code 51 = .ok (.invokevirtual 204, 3) := by decide +kernel
theorem d_M_inChunk_54 : decode prog_11_method_51_code 54 = .ok (.iastore, 1) := by decide +kernel
theorem d_M_inChunk_55 : decode prog_11_method_51_code 55 = .ok (.aload_n 0, 1) := by decide +kernel
theorem d_M_inChunk_56 : decode prog_11_method_51_code 56 = .ok (.getfield 66, 3) := by decide +kernel
theorem d_M_inChunk_59 : decode prog_11_method_51_code 59 = .ok (.iload 4, 2) := by decide +kernel
theorem d_M_inChunk_61 : decode prog_11_method_51_code 61 = .ok (.aload_n 0, 1) := by decide +kernel
theorem d_M_inChunk_62 : decode prog_11_method_51_code 62 = .ok (.invokevirtual 207, 3) := by decide +kernel
theorem d_M_inChunk_65 : decode prog_11_method_51_code 65 = .ok (.iastore, 1) := by decide +kernel
theorem d_M_inChunk_66 : decode prog_11_method_51_code 66 = .ok (.iload_n 2, 1) := by decide +kernel
theorem d_M_inChunk_67 : decode prog_11_method_51_code 67 = .ok (.aload_n 0, 1) := by decide +kernel
theorem d_M_inChunk_68 : decode prog_11_method_51_code 68 = .ok (.getfield 63, 3) := by decide +kernel
theorem d_M_inChunk_71 : decode prog_11_method_51_code 71 = .ok (.iload 4, 2) := by decide +kernel
theorem d_M_inChunk_73 : decode prog_11_method_51_code 73 = .ok (.iaload, 1) := by decide +kernel
theorem d_M_inChunk_74 : decode prog_11_method_51_code 74 = .ok (.invokestatic 77, 3) := by decide +kernel
theorem d_M_inChunk_77 : decode prog_11_method_51_code 77 = .ok (.aload_n 0, 1) := by decide +kernel
theorem d_M_inChunk_78 : decode prog_11_method_51_code 78 = .ok (.getfield 66, 3) := by decide +kernel
theorem d_M_inChunk_81 : decode prog_11_method_51_code 81 = .ok (.iload 4, 2) := by decide +kernel
theorem d_M_inChunk_83 : decode prog_11_method_51_code 83 = .ok (.iaload, 1) := by decide +kernel
theorem d_M_inChunk_84 : decode prog_11_method_51_code 84 = .ok (.invokestatic 77, 3) := by decide +kernel
theorem d_M_inChunk_87 : decode prog_11_method_51_code 87 = .ok (.istore_n 2, 1) := by decide +kernel
theorem d_M_inChunk_88 : decode prog_11_method_51_code 88 = .ok (.aload_n 0, 1) := by decide +kernel
theorem d_M_inChunk_89 : decode prog_11_method_51_code 89 = .ok (.getfield 63, 3) := by decide +kernel
theorem d_M_inChunk_92 : decode prog_11_method_51_code 92 = .ok (.iload 4, 2) := by decide +kernel
theorem d_M_inChunk_94 : decode prog_11_method_51_code 94 = .ok (.iaload, 1) := by decide +kernel
theorem d_M_inChunk_95 : decode prog_11_method_51_code 95 = .ok (.istore_n 3, 1) := by decide +kernel
theorem d_M_inChunk_96 : decode prog_11_method_51_code 96 = .ok (.iinc 4 1, 3) := by decide +kernel
theorem d_M_inChunk_99 : decode prog_11_method_51_code 99 = .ok (.goto (-76), 3) := by decide +kernel
theorem d_M_inChunk_102 : decode prog_11_method_51_code 102 = .ok (.iload_n 2, 1) := by decide +kernel
theorem d_M_inChunk_103 : decode prog_11_method_51_code 103 = .ok (.ireturn, 1) := by decide +kernel
theorem d_M_lead_0 : decode prog_11_method_53_code 0 = .ok (.iload_n 1, 1) := by decide +kernel
theorem d_M_lead_1 : decode prog_11_method_53_code 1 = .ok (.istore_n 3, 1) := by decide +kernel
theorem d_M_lead_2 : decode prog_11_method_53_code 2 = .ok (.iload_n 2, 1) := by decide +kernel
theorem d_M_lead_3 : decode prog_11_method_53_code 3 = .ok (.istore 4, 2) := by decide +kernel
theorem d_M_lead_5 : decode prog_11_method_53_code 5 = .ok (.iload 4, 2) := by decide +kernel
theorem d_M_lead_7 : decode prog_11_method_53_code 7 = .ok (.aload_n 0, 1) := by decide +kernel
theorem d_M_lead_8 : decode prog_11_method_53_code 8 = .ok (.getfield 155, 3) := by decide +kernel
theorem d_M_lead_11 : decode prog_11_method_53_code 11 = .ok (.if_icmp .ge 52, 3) := by decide +kernel
theorem d_M_lead_14 : decode prog_11_method_53_code 14 = .ok (.aload_n 0, 1) := by decide +kernel
theorem d_M_lead_15 : decode prog_11_method_53_code 15 = .ok (.getfield 51, 3) := by decide +kernel
theorem d_M_lead_18 : decode prog_11_method_53_code 18 = .ok (.aload_n 0, 1) := by decide +kernel
theorem d_M_lead_19 : decode prog_11_method_53_code 19 = .ok (.getfield 155, 3) := by decide +kernel
theorem d_M_lead_22 : decode prog_11_method_53_code 22 = .ok (.iconst 1, 1) := by decide +kernel
theorem d_M_lead_23 : decode prog_11_method_53_code 23 = .ok (.isub, 1) := by decide +kernel
theorem d_M_lead_24 : decode prog_11_method_53_code 24 = .ok (.iload 4, 2) := by decide +kernel
theorem d_M_lead_26 : decode prog_11_method_53_code 26 = .ok (.isub, 1) := by decide +kernel
theorem d_M_lead_27 : decode prog_11_method_53_code 27 = .ok (.baload, 1) := by decide +kernel
theorem d_M_lead_28 : decode prog_11_method_53_code 28 = .ok (.ifCond .eq 17, 3) := by decide +kernel
theorem d_M_lead_31 : decode prog_11_method_53_code 31 = .ok (.aload_n 0, 1) := by decide +kernel
theorem d_M_lead_32 : decode prog_11_method_53_code 32 = .ok (.getfield 60, 3) := by decide +kernel
theorem d_M_lead_35 : decode prog_11_method_53_code 35 = .ok (.iload 4, 2) := by decide +kernel
theorem d_M_lead_37 : decode prog_11_method_53_code 37 = .ok (.iaload, 1) := by decide +kernel
theorem d_M_lead_38 : decode prog_11_method_53_code 38 = .ok (.iload_n 3, 1) := by decide +kernel
theorem d_M_lead_39 : decode prog_11_method_53_code 39 = .ok (.invokestatic 149, 3) := by decide +kernel
theorem d_M_lead_42 : decode prog_11_method_53_code 42 = .ok (.goto 14, 3) := by decide +kernel
theorem d_M_lead_45 : decode prog_11_method_53_code 45 = .ok (.iload_n 3, 1) := by decide +kernel
theorem d_M_lead_46 : decode prog_11_method_53_code 46 = .ok (.aload_n 0, 1) := by decide +kernel
theorem d_M_lead_47 : decode prog_11_method_53_code 47 = .ok (.getfield 60, 3) := by decide +kernel
theorem d_M_lead_50 : decode prog_11_method_53_code 50 = .ok (.iload 4, 2) := by decide +kernel
theorem d_M_lead_52 : decode prog_11_method_53_code 52 = .ok (.iaload, 1) := by decide +kernel
theorem d_M_lead_53 : decode prog_11_method_53_code 53 = .ok (.invokestatic 149, 3) := by decide +kernel
theorem d_M_lead_56 : decode prog_11_method_53_code 56 = .ok (.istore_n 3, 1) := by decide +kernel
theorem d_M_lead_57 : decode prog_11_method_53_code 57 = .ok (.iinc 4 1, 3) := by decide +kernel
theorem d_M_lead_60 : decode prog_11_method_53_code 60 = .ok (.goto (-55), 3) := by decide +kernel
theorem d_M_lead_63 : decode prog_11_method_53_code 63 = .ok (.iload_n 3, 1) := by decide +kernel
theorem d_M_lead_64 : decode prog_11_method_53_code 64 = .ok (.ireturn, 1) := by decide +kernel
theorem d_M_shown_0 : decode prog_11_method_55_code 0 = .ok (.aload_n 0, 1) := by decide +kernel
theorem d_M_shown_1 : decode prog_11_method_55_code 1 = .ok (.iconst 0, 1) := by decide +kernel
theorem d_M_shown_2 : decode prog_11_method_55_code 2 = .ok (.putfield 73, 3) := by decide +kernel
theorem d_M_shown_5 : decode prog_11_method_55_code 5 = .ok (.aload_n 0, 1) := by decide +kernel
theorem d_M_shown_6 : decode prog_11_method_55_code 6 = .ok (.getfield 226, 3) := by decide +kernel
theorem d_M_shown_9 : decode prog_11_method_55_code 9 = .ok (.ireturn, 1) := by decide +kernel
theorem d_M_verifyGrowth_0 : decode prog_11_method_56_code 0 = .ok (.iload_n 2, 1) := by decide +kernel
theorem d_M_verifyGrowth_1 : decode prog_11_method_56_code 1 = .ok (.ifCond .le 20, 3) := by decide +kernel
theorem d_M_verifyGrowth_4 : decode prog_11_method_56_code 4 = .ok (.iload_n 2, 1) := by decide +kernel
theorem d_M_verifyGrowth_5 : decode prog_11_method_56_code 5 = .ok (.iload 4, 2) := by decide +kernel
theorem d_M_verifyGrowth_7 : decode prog_11_method_56_code 7 = .ok (.if_icmp .ge 14, 3) := by decide +kernel
theorem d_M_verifyGrowth_10 : decode prog_11_method_56_code 10 = .ok (.iload 4, 2) := by decide +kernel
theorem d_M_verifyGrowth_12 : decode prog_11_method_56_code 12 = .ok (.bipush 17, 2) := by decide +kernel
theorem d_M_verifyGrowth_14 : decode prog_11_method_56_code 14 = .ok (.if_icmp .ge 7, 3) := by decide +kernel
theorem d_M_verifyGrowth_17 : decode prog_11_method_56_code 17 = .ok (.iconst 1, 1) := by decide +kernel
theorem d_M_verifyGrowth_18 : decode prog_11_method_56_code 18 = .ok (.goto 4, 3) := by decide +kernel
theorem d_M_verifyGrowth_21 : decode prog_11_method_56_code 21 = .ok (.iconst 0, 1) := by decide +kernel
theorem d_M_verifyGrowth_22 : decode prog_11_method_56_code 22 = .ok (.istore 5, 2) := by decide +kernel
theorem d_M_verifyGrowth_24 : decode prog_11_method_56_code 24 = .ok (.aload_n 0, 1) := by decide +kernel
theorem d_M_verifyGrowth_25 : decode prog_11_method_56_code 25 = .ok (.iload 5, 2) := by decide +kernel
theorem d_M_verifyGrowth_27 : decode prog_11_method_56_code 27 = .ok (.ifCond .eq 7, 3) := by decide +kernel
theorem d_M_verifyGrowth_30 : decode prog_11_method_56_code 30 = .ok (.iconst 0, 1) := by decide +kernel
theorem d_M_verifyGrowth_31 : decode prog_11_method_56_code 31 = .ok (.goto 4, 3) := by decide +kernel
theorem d_M_verifyGrowth_34 : decode prog_11_method_56_code 34 = .ok (.iconst 1, 1) := by decide +kernel
theorem d_M_verifyGrowth_35 : decode prog_11_method_56_code 35 = .ok (.putfield 73, 3) := by decide +kernel
theorem d_M_verifyGrowth_38 : decode prog_11_method_56_code 38 = .ok (.iload 5, 2) := by decide +kernel
theorem d_M_verifyGrowth_40 : decode prog_11_method_56_code 40 = .ok (.ifCond .ne 5, 3) := by decide +kernel
theorem d_M_verifyGrowth_43 : decode prog_11_method_56_code 43 = .ok (.iconst 0, 1) := by decide +kernel
theorem d_M_verifyGrowth_44 : decode prog_11_method_56_code 44 = .ok (.ireturn, 1) := by decide +kernel
theorem d_M_verifyGrowth_45 : decode prog_11_method_56_code 45 = .ok (.aload_n 0, 1) := by decide +kernel
theorem d_M_verifyGrowth_46 : decode prog_11_method_56_code 46 = .ok (.iload_n 2, 1) := by decide +kernel
theorem d_M_verifyGrowth_47 : decode prog_11_method_56_code 47 = .ok (.iload 4, 2) := by decide +kernel
theorem d_M_verifyGrowth_49 : decode prog_11_method_56_code 49 = .ok (.invokevirtual 191, 3) := by decide +kernel
theorem d_M_verifyGrowth_52 : decode prog_11_method_56_code 52 = .ok (.istore 6, 2) := by decide +kernel
theorem d_M_verifyGrowth_54 : decode prog_11_method_56_code 54 = .ok (.aload_n 0, 1) := by decide +kernel
theorem d_M_verifyGrowth_55 : decode prog_11_method_56_code 55 = .ok (.invokevirtual 217, 3) := by decide +kernel
theorem d_M_verifyGrowth_58 : decode prog_11_method_56_code 58 = .ok (.aload_n 0, 1) := by decide +kernel
theorem d_M_verifyGrowth_59 : decode prog_11_method_56_code 59 = .ok (.getfield 200, 3) := by decide +kernel
theorem d_M_verifyGrowth_62 : decode prog_11_method_56_code 62 = .ok (.ifCond .eq 18, 3) := by decide +kernel
theorem d_M_verifyGrowth_65 : decode prog_11_method_56_code 65 = .ok (.aload_n 0, 1) := by decide +kernel
theorem d_M_verifyGrowth_66 : decode prog_11_method_56_code 66 = .ok (.getfield 197, 3) := by decide +kernel
theorem d_M_verifyGrowth_69 : decode prog_11_method_56_code 69 = .ok (.aload_n 0, 1) := by decide +kernel
theorem d_M_verifyGrowth_70 : decode prog_11_method_56_code 70 = .ok (.getfield 194, 3) := by decide +kernel
theorem d_M_verifyGrowth_73 : decode prog_11_method_56_code 73 = .ok (.if_icmp .ne 7, 3) := by decide +kernel
theorem d_M_verifyGrowth_76 : decode prog_11_method_56_code 76 = .ok (.iconst 1, 1) := by decide +kernel
theorem d_M_verifyGrowth_77 : decode prog_11_method_56_code 77 = .ok (.goto 4, 3) := by decide +kernel
theorem d_M_verifyGrowth_80 : decode prog_11_method_56_code 80 = .ok (.iconst 0, 1) := by decide +kernel
theorem d_M_verifyGrowth_81 : decode prog_11_method_56_code 81 = .ok (.istore 7, 2) := by decide +kernel
theorem d_M_verifyGrowth_83 : decode prog_11_method_56_code 83 = .ok (.aload_n 0, 1) := by decide +kernel
theorem d_M_verifyGrowth_84 : decode prog_11_method_56_code 84 = .ok (.iconst 0, 1) := by decide +kernel
theorem d_M_verifyGrowth_85 : decode prog_11_method_56_code 85 = .ok (.putfield 194, 3) := by decide +kernel
theorem d_M_verifyGrowth_88 : decode prog_11_method_56_code 88 = .ok (.iload 6, 2) := by decide +kernel
theorem d_M_verifyGrowth_90 : decode prog_11_method_56_code 90 = .ok (.ifCond .eq 7, 3) := by decide +kernel
theorem d_M_verifyGrowth_93 : decode prog_11_method_56_code 93 = .ok (.iconst 0, 1) := by decide +kernel
theorem d_M_verifyGrowth_94 : decode prog_11_method_56_code 94 = .ok (.goto 4, 3) := by decide +kernel
theorem d_M_verifyGrowth_97 : decode prog_11_method_56_code 97 = .ok (.iconst 1, 1) := by decide +kernel
theorem d_M_verifyGrowth_98 : decode prog_11_method_56_code 98 = .ok (.istore 8, 2) := by decide +kernel
theorem d_M_verifyGrowth_100 : decode prog_11_method_56_code 100 = .ok (.iload 6, 2) := by decide +kernel
theorem d_M_verifyGrowth_102 : decode prog_11_method_56_code 102 = .ok (.ifCond .eq 7, 3) := by decide +kernel
theorem d_M_verifyGrowth_105 : decode prog_11_method_56_code 105 = .ok (.iload_n 1, 1) := by decide +kernel
theorem d_M_verifyGrowth_106 : decode prog_11_method_56_code 106 = .ok (.goto 9, 3) := by decide +kernel
theorem d_M_verifyGrowth_109 : decode prog_11_method_56_code 109 = .ok (.aload_n 0, 1) := by decide +kernel
theorem d_M_verifyGrowth_110 : decode prog_11_method_56_code 110 = .ok (.getfield 60, 3) := by decide +kernel
theorem d_M_verifyGrowth_113 : decode prog_11_method_56_code 113 = .ok (.iconst 0, 1) := by decide +kernel
theorem d_M_verifyGrowth_114 : decode prog_11_method_56_code 114 = .ok (.iaload, 1) := by decide +kernel
theorem d_M_verifyGrowth_115 : decode prog_11_method_56_code 115 = .ok (.istore 9, 2) := by decide +kernel
theorem d_M_verifyGrowth_117 : decode prog_11_method_56_code 117 = .ok (.iload 9, 2) := by decide +kernel
theorem d_M_verifyGrowth_119 : decode prog_11_method_56_code 119 = .ok (.istore 10, 2) := by decide +kernel
theorem d_M_verifyGrowth_121 : decode prog_11_method_56_code 121 = .ok (.iload 8, 2) := by decide +kernel
theorem d_M_verifyGrowth_123 : decode prog_11_method_56_code 123 = .ok (.istore 11, 2) := by decide +kernel
theorem d_M_verifyGrowth_125 : decode prog_11_method_56_code 125 = .ok (.iload 11, 2) := by decide +kernel
theorem d_M_verifyGrowth_127 : decode prog_11_method_56_code 127 = .ok (.aload_n 0, 1) := by decide +kernel
theorem d_M_verifyGrowth_128 : decode prog_11_method_56_code 128 = .ok (.getfield 155, 3) := by decide +kernel
theorem d_M_verifyGrowth_131 : decode prog_11_method_56_code 131 = .ok (.if_icmp .ge 45, 3) := by decide +kernel
theorem d_M_verifyGrowth_134 : decode prog_11_method_56_code 134 = .ok (.aload_n 0, 1) := by decide +kernel
theorem d_M_verifyGrowth_135 : decode prog_11_method_56_code 135 = .ok (.getfield 51, 3) := by decide +kernel
theorem d_M_verifyGrowth_138 : decode prog_11_method_56_code 138 = .ok (.aload_n 0, 1) := by decide +kernel
theorem d_M_verifyGrowth_139 : decode prog_11_method_56_code 139 = .ok (.getfield 155, 3) := by decide +kernel
theorem d_M_verifyGrowth_142 : decode prog_11_method_56_code 142 = .ok (.iconst 1, 1) := by decide +kernel
theorem d_M_verifyGrowth_143 : decode prog_11_method_56_code 143 = .ok (.isub, 1) := by decide +kernel
theorem d_M_verifyGrowth_144 : decode prog_11_method_56_code 144 = .ok (.iload 11, 2) := by decide +kernel
theorem d_M_verifyGrowth_146 : decode prog_11_method_56_code 146 = .ok (.isub, 1) := by decide +kernel
theorem d_M_verifyGrowth_147 : decode prog_11_method_56_code 147 = .ok (.baload, 1) := by decide +kernel
theorem d_M_verifyGrowth_148 : decode prog_11_method_56_code 148 = .ok (.ifCond .eq 18, 3) := by decide +kernel
theorem d_M_verifyGrowth_151 : decode prog_11_method_56_code 151 = .ok (.aload_n 0, 1) := by decide +kernel
theorem d_M_verifyGrowth_152 : decode prog_11_method_56_code 152 = .ok (.getfield 60, 3) := by decide +kernel
theorem d_M_verifyGrowth_155 : decode prog_11_method_56_code 155 = .ok (.iload 11, 2) := by decide +kernel
theorem d_M_verifyGrowth_157 : decode prog_11_method_56_code 157 = .ok (.iaload, 1) := by decide +kernel
theorem d_M_verifyGrowth_158 : decode prog_11_method_56_code 158 = .ok (.iload 10, 2) := by decide +kernel
theorem d_M_verifyGrowth_160 : decode prog_11_method_56_code 160 = .ok (.invokestatic 149, 3) := by decide +kernel
theorem d_M_verifyGrowth_163 : decode prog_11_method_56_code 163 = .ok (.goto 5, 3) := by decide +kernel
theorem d_M_verifyGrowth_166 : decode prog_11_method_56_code 166 = .ok (.iload 10, 2) := by decide +kernel
theorem d_M_verifyGrowth_168 : decode prog_11_method_56_code 168 = .ok (.istore 10, 2) := by decide +kernel
theorem d_M_verifyGrowth_170 : decode prog_11_method_56_code 170 = .ok (.iinc 11 1, 3) := by decide +kernel
theorem d_M_verifyGrowth_173 : decode prog_11_method_56_code 173 = .ok (.goto (-48), 3) := by decide +kernel
theorem d_M_verifyGrowth_176 : decode prog_11_method_56_code 176 = .ok (.iload 7, 2) := by decide +kernel
theorem d_M_verifyGrowth_178 : decode prog_11_method_56_code 178 = .ok (.ifCond .eq 25, 3) := by decide +kernel
theorem d_M_verifyGrowth_181 : decode prog_11_method_56_code 181 = .ok (.iload 10, 2) := by decide +kernel
theorem d_M_verifyGrowth_183 : decode prog_11_method_56_code 183 = .ok (.iload_n 1, 1) := by decide +kernel
theorem d_M_verifyGrowth_184 : decode prog_11_method_56_code 184 = .ok (.if_icmp .ne 19, 3) := by decide +kernel
theorem d_M_verifyGrowth_187 : decode prog_11_method_56_code 187 = .ok (.aload_n 0, 1) := by decide +kernel
theorem d_M_verifyGrowth_188 : decode prog_11_method_56_code 188 = .ok (.iload 9, 2) := by decide +kernel
theorem d_M_verifyGrowth_190 : decode prog_11_method_56_code 190 = .ok (.iload 8, 2) := by decide +kernel
theorem d_M_verifyGrowth_192 : decode prog_11_method_56_code 192 = .ok (.invokevirtual 223, 3) := by decide +kernel
theorem d_M_verifyGrowth_195 : decode prog_11_method_56_code 195 = .ok (.iload_n 3, 1) := by decide +kernel
theorem d_M_verifyGrowth_196 : decode prog_11_method_56_code 196 = .ok (.if_icmp .ne 7, 3) := by decide +kernel
theorem d_M_verifyGrowth_199 : decode prog_11_method_56_code 199 = .ok (.iconst 1, 1) := by decide +kernel
theorem d_M_verifyGrowth_200 : decode prog_11_method_56_code 200 = .ok (.goto 4, 3) := by decide +kernel
theorem d_M_verifyGrowth_203 : decode prog_11_method_56_code 203 = .ok (.iconst 0, 1) := by decide +kernel
theorem d_M_verifyGrowth_204 : decode prog_11_method_56_code 204 = .ok (.ireturn, 1) := by decide +kernel
end
section
-- rows of the walk where the numbers are natural numbers
section NB
variable {p : Program} {l : Launch} {e : Env} {R : Room} {s : State} {m : MethodId} {args : Array Value} {below : List Frame} {meth : Method} {c : Code} {H : Heap} {locs : List Loc} {cells slots : Nat} {Q : State → Prop}
variable {cc : ByteArray} {pc : Nat} {ls : Array Slot} {rest : List Value} {D : va_G} {cl : List vw_C} {A : Nat → Prop} {a : Nat} {tys : List (ClassId × FieldType)} {ws : va_W} {H0 : Heap}
theorem st_top {x y : Int32} (h : x = y) (k : W p l e R s m args below meth c H locs cells slots Q (F0 m pc ls (.int y :: rest))) : W p l e R s m args below meth c H locs cells slots Q (F0 m pc ls (.int x :: rest)) := h ▸ k
theorem st_top2 {x y : Int32} {v : Value} (h : x = y) (k : W p l e R s m args below meth c H locs cells slots Q (F0 m pc ls (v :: .int y :: rest))) : W p l e R s m args below meth c H locs cells slots Q (F0 m pc ls (v :: .int x :: rest)) := h ▸ k
theorem st_topL {x y : Int64} (h : x = y) (k : W p l e R s m args below meth c H locs cells slots Q (F0 m pc ls (.long y :: rest))) : W p l e R s m args below meth c H locs cells slots Q (F0 m pc ls (.long x :: rest)) := h ▸ k
theorem st_iadd (hexec : p.tables.exec = Jvm.exec) (hb : c.code = cc) {x y : Nat} (hdg : decode cc pc = .ok (.iadd, 1)) (k : W p l e R s m args below meth c H locs cells slots Q (F0 m (pc + 1) ls (.int (nI (x + y)) :: rest))) : W p l e R s m args below meth c H locs cells slots Q (F0 m pc ls (.int (nI y) :: .int (nI x) :: rest)) := lv_iadd hexec hb hdg (by rw [nI_add]; exact k)
theorem st_imul (hexec : p.tables.exec = Jvm.exec) (hb : c.code = cc) {x y : Nat} (hdg : decode cc pc = .ok (.imul, 1)) (k : W p l e R s m args below meth c H locs cells slots Q (F0 m (pc + 1) ls (.int (nI (x * y)) :: rest))) : W p l e R s m args below meth c H locs cells slots Q (F0 m pc ls (.int (nI y) :: .int (nI x) :: rest)) := lv_imul hexec hb hdg (by rw [pk_mul]; exact k)
theorem st_isub (hexec : p.tables.exec = Jvm.exec) (hb : c.code = cc) {x y : Nat} (h : y ≤ x) (hdg : decode cc pc = .ok (.isub, 1)) (k : W p l e R s m args below meth c H locs cells slots Q (F0 m (pc + 1) ls (.int (nI (x - y)) :: rest))) : W p l e R s m args below meth c H locs cells slots Q (F0 m pc ls (.int (nI y) :: .int (nI x) :: rest)) := lv_isub hexec hb hdg (by rw [pk_sub h]; exact k)
theorem st_icmp_eq (hexec : p.tables.exec = Jvm.exec) (hb : c.code = cc) {x y : Nat} (hx : x < 2 ^ 31) (hy : y < 2 ^ 31) {off : Int} {tgt : Nat} (hdg : decode cc pc = .ok (.if_icmp .eq off, 3)) (ht : (pc : Int) + off = (tgt : Int)) (kt : x = y → W p l e R s m args below meth c H locs cells slots Q (F0 m tgt ls rest)) (kf : ¬ x = y → W p l e R s m args below meth c H locs cells slots Q (F0 m (pc + 3) ls rest)) : W p l e R s m args below meth c H locs cells slots Q (F0 m pc ls (.int (nI y) :: .int (nI x) :: rest)) := lv_icmp_eq hexec hb hdg ht (fun q => kt ((nI_eq hx hy).mp q)) (fun q => kf (fun r => q ((nI_eq hx hy).mpr r)))
theorem st_icmp_ne (hexec : p.tables.exec = Jvm.exec) (hb : c.code = cc) {x y : Nat} (hx : x < 2 ^ 31) (hy : y < 2 ^ 31) {off : Int} {tgt : Nat} (hdg : decode cc pc = .ok (.if_icmp .ne off, 3)) (ht : (pc : Int) + off = (tgt : Int)) (kt : ¬ x = y → W p l e R s m args below meth c H locs cells slots Q (F0 m tgt ls rest)) (kf : x = y → W p l e R s m args below meth c H locs cells slots Q (F0 m (pc + 3) ls rest)) : W p l e R s m args below meth c H locs cells slots Q (F0 m pc ls (.int (nI y) :: .int (nI x) :: rest)) := lv_icmp_ne hexec hb hdg ht (fun q => kt (fun r => q ((nI_eq hx hy).mpr r))) (fun q => kf ((nI_eq hx hy).mp q))
theorem st_icmp_lt (hexec : p.tables.exec = Jvm.exec) (hb : c.code = cc) {x y : Nat} (hx : x < 2 ^ 31) (hy : y < 2 ^ 31) {off : Int} {tgt : Nat} (hdg : decode cc pc = .ok (.if_icmp .lt off, 3)) (ht : (pc : Int) + off = (tgt : Int)) (kt : x < y → W p l e R s m args below meth c H locs cells slots Q (F0 m tgt ls rest)) (kf : y ≤ x → W p l e R s m args below meth c H locs cells slots Q (F0 m (pc + 3) ls rest)) : W p l e R s m args below meth c H locs cells slots Q (F0 m pc ls (.int (nI y) :: .int (nI x) :: rest)) := lv_icmp_lt hexec hb hdg ht (fun q => kt ((nI_ltI hx hy).mp q)) (fun q => kf (Nat.le_of_not_lt (fun r => q ((nI_ltI hx hy).mpr r))))
theorem st_icmp_ge (hexec : p.tables.exec = Jvm.exec) (hb : c.code = cc) {x y : Nat} (hx : x < 2 ^ 31) (hy : y < 2 ^ 31) {off : Int} {tgt : Nat} (hdg : decode cc pc = .ok (.if_icmp .ge off, 3)) (ht : (pc : Int) + off = (tgt : Int)) (kt : y ≤ x → W p l e R s m args below meth c H locs cells slots Q (F0 m tgt ls rest)) (kf : x < y → W p l e R s m args below meth c H locs cells slots Q (F0 m (pc + 3) ls rest)) : W p l e R s m args below meth c H locs cells slots Q (F0 m pc ls (.int (nI y) :: .int (nI x) :: rest)) := lv_icmp_ge hexec hb hdg ht (fun q => kt ((nI_leI hy hx).mp q)) (fun q => kf (Nat.lt_of_not_le (fun r => q ((nI_leI hy hx).mpr r))))
theorem st_icmp_gt (hexec : p.tables.exec = Jvm.exec) (hb : c.code = cc) {x y : Nat} (hx : x < 2 ^ 31) (hy : y < 2 ^ 31) {off : Int} {tgt : Nat} (hdg : decode cc pc = .ok (.if_icmp .gt off, 3)) (ht : (pc : Int) + off = (tgt : Int)) (kt : y < x → W p l e R s m args below meth c H locs cells slots Q (F0 m tgt ls rest)) (kf : x ≤ y → W p l e R s m args below meth c H locs cells slots Q (F0 m (pc + 3) ls rest)) : W p l e R s m args below meth c H locs cells slots Q (F0 m pc ls (.int (nI y) :: .int (nI x) :: rest)) := lv_icmp_gt hexec hb hdg ht (fun q => kt ((nI_ltI hy hx).mp q)) (fun q => kf (Nat.le_of_not_lt (fun r => q ((nI_ltI hy hx).mpr r))))
theorem st_icmp_le (hexec : p.tables.exec = Jvm.exec) (hb : c.code = cc) {x y : Nat} (hx : x < 2 ^ 31) (hy : y < 2 ^ 31) {off : Int} {tgt : Nat} (hdg : decode cc pc = .ok (.if_icmp .le off, 3)) (ht : (pc : Int) + off = (tgt : Int)) (kt : x ≤ y → W p l e R s m args below meth c H locs cells slots Q (F0 m tgt ls rest)) (kf : y < x → W p l e R s m args below meth c H locs cells slots Q (F0 m (pc + 3) ls rest)) : W p l e R s m args below meth c H locs cells slots Q (F0 m pc ls (.int (nI y) :: .int (nI x) :: rest)) := lv_icmp_le hexec hb hdg ht (fun q => kt ((nI_leI hx hy).mp q)) (fun q => kf (Nat.lt_of_not_le (fun r => q ((nI_leI hx hy).mpr r))))
end NB
end
section
section NC
variable {p : Program} {l : Launch} {e : Env} {R : Room} {s : State} {m : MethodId} {args : Array Value} {below : List Frame} {meth : Method} {c : Code} {H : Heap} {locs : List Loc} {cells slots : Nat} {Q : State → Prop}
variable {cc : ByteArray} {pc : Nat} {ls : Array Slot} {rest : List Value} {D : va_G} {A : Nat → Prop} {a : Nat} {tys : List (ClassId × FieldType)} {ws : va_W} {H0 : Heap}
theorem st_iald (hx : p.tables.exec = Jvm.exec) (hb : c.code = cc) (hK : va_K D CC tys s) (hP : va_P D CC ws H) (q0 t0 : Nat) {cA : ClassId} {n : Nat} {f : Nat → Int32} (ha : ws[q0]? = some (a, .inl (cA, n, .inl f))) (ht : tys[t0]? = some (cA, .int)) {k : Nat} (hk : k < n) (hn : n < 2 ^ 31) (hdg : decode cc pc = .ok (.iaload, 1)) (kk : W p l e R s m args below meth c H locs cells slots Q (F0 m (pc + 1) ls (.int (f k) :: rest))) : W p l e R s m args below meth c H locs cells slots Q (F0 m pc ls (.int (nI k) :: .ref a :: rest)) := va_iald hx hb hK hP q0 t0 ha ht (vp_in_nI hk hn) hdg (by rw [nI_clamp (by omega)]; exact kk)
theorem st_zald (hx : p.tables.exec = Jvm.exec) (hb : c.code = cc) (hK : va_K D CC tys s) (hP : va_P D CC ws H) (q0 t0 : Nat) {cA : ClassId} {n : Nat} {f : Nat → Int32} (ha : ws[q0]? = some (a, .inl (cA, n, .inl f))) (ht : tys[t0]? = some (cA, .boolean)) {k : Nat} (hk : k < n) (hn : n < 2 ^ 31) (hdg : decode cc pc = .ok (.baload, 1)) (kk : W p l e R s m args below meth c H locs cells slots Q (F0 m (pc + 1) ls (.int (f k) :: rest))) : W p l e R s m args below meth c H locs cells slots Q (F0 m pc ls (.int (nI k) :: .ref a :: rest)) := va_zald hx hb hK hP q0 t0 ha ht (vp_in_nI hk hn) hdg (by rw [nI_clamp (by omega)]; exact kk)
theorem st_lald (hx : p.tables.exec = Jvm.exec) (hb : c.code = cc) (hK : va_K D CC tys s) (hP : va_P D CC ws H) (q0 t0 : Nat) {cA : ClassId} {n : Nat} {f : Nat → Int64} (ha : ws[q0]? = some (a, .inl (cA, n, .inr (.inl f)))) (ht : tys[t0]? = some (cA, .long)) {k : Nat} (hk : k < n) (hn : n < 2 ^ 31) (hdg : decode cc pc = .ok (.laload, 1)) (kk : W p l e R s m args below meth c H locs cells slots Q (F0 m (pc + 1) ls (.long (f k) :: rest))) : W p l e R s m args below meth c H locs cells slots Q (F0 m pc ls (.int (nI k) :: .ref a :: rest)) := va_lald hx hb hK hP q0 t0 ha ht (vp_in_nI hk hn) hdg (by rw [nI_clamp (by omega)]; exact kk)
theorem st_aald (hx : p.tables.exec = Jvm.exec) (hb : c.code = cc) (hK : va_K D CC tys s) (hP : va_P D CC ws H) (q0 t0 : Nat) {cA : ClassId} {C : String} {n : Nat} {f : Nat → Option Nat} (ha : ws[q0]? = some (a, .inl (cA, n, .inr (.inr (.inr (.inr f)))))) (ht : tys[t0]? = some (cA, .object C)) {k : Nat} (hk : k < n) (hn : n < 2 ^ 31) (hdg : decode cc pc = .ok (.aaload, 1)) (kk : W p l e R s m args below meth c H locs cells slots Q (F0 m (pc + 1) ls (va_rf (f k) :: rest))) : W p l e R s m args below meth c H locs cells slots Q (F0 m pc ls (.int (nI k) :: .ref a :: rest)) := va_aldq hx hb hK hP q0 t0 ha ht (vp_in_nI hk hn) hdg (by rw [nI_clamp (by omega)]; exact kk)
theorem st_iast (hx : p.tables.exec = Jvm.exec) (hb : c.code = cc) (hK : va_K D CC tys s) (hP : va_P D CC ws H) (hD : va_D A ws) (hS : va_S A H0 H locs) (q0 t0 : Nat) {cA : ClassId} {n : Nat} {f : Nat → Int32} (ha : ws[q0]? = some (a, .inl (cA, n, .inl f))) (ht : tys[t0]? = some (cA, .int)) {k : Nat} {x : Int32} (hk : k < n) (hn : n < 2 ^ 31) (hdg : decode cc pc = .ok (.iastore, 1)) (kk : ∀ (H1 : Heap) (locs1 : List Loc), va_P D CC (ws.set q0 (a, .inl (cA, n, .inl (upd f k x)))) H1 → va_D A (ws.set q0 (a, .inl (cA, n, .inl (upd f k x)))) → va_S A H0 H1 locs1 → W p l e R s m args below meth c H1 locs1 cells slots Q (F0 m (pc + 1) ls rest)) : W p l e R s m args below meth c H locs cells slots Q (F0 m pc ls (.int x :: .int (nI k) :: .ref a :: rest)) := va_iast hx hb hK hP hD hS q0 t0 ha ht (vp_in_nI hk hn) hdg (by rw [nI_clamp (by omega)]; exact kk)
theorem st_last (hx : p.tables.exec = Jvm.exec) (hb : c.code = cc) (hK : va_K D CC tys s) (hP : va_P D CC ws H) (hD : va_D A ws) (hS : va_S A H0 H locs) (q0 t0 : Nat) {cA : ClassId} {n : Nat} {f : Nat → Int64} (ha : ws[q0]? = some (a, .inl (cA, n, .inr (.inl f)))) (ht : tys[t0]? = some (cA, .long)) {k : Nat} {x : Int64} (hk : k < n) (hn : n < 2 ^ 31) (hdg : decode cc pc = .ok (.lastore, 1)) (kk : ∀ (H1 : Heap) (locs1 : List Loc), va_P D CC (ws.set q0 (a, .inl (cA, n, .inr (.inl (vp_updL f k x))))) H1 → va_D A (ws.set q0 (a, .inl (cA, n, .inr (.inl (vp_updL f k x))))) → va_S A H0 H1 locs1 → W p l e R s m args below meth c H1 locs1 cells slots Q (F0 m (pc + 1) ls rest)) : W p l e R s m args below meth c H locs cells slots Q (F0 m pc ls (.long x :: .int (nI k) :: .ref a :: rest)) := va_last hx hb hK hP hD hS q0 t0 ha ht (vp_in_nI hk hn) hdg (by rw [nI_clamp (by omega)]; exact kk)
theorem st_zast (hx : p.tables.exec = Jvm.exec) (hb : c.code = cc) (hK : va_K D CC tys s) (hP : va_P D CC ws H) (hD : va_D A ws) (hS : va_S A H0 H locs) (q0 t0 : Nat) {cA : ClassId} {n : Nat} {f : Nat → Int32} (ha : ws[q0]? = some (a, .inl (cA, n, .inl f))) (ht : tys[t0]? = some (cA, .boolean)) {k : Nat} {x : Int32} (hz : vp_nar .boolean x = x) (hk : k < n) (hn : n < 2 ^ 31) (hdg : decode cc pc = .ok (.bastore, 1)) (kk : ∀ (H1 : Heap) (locs1 : List Loc), va_P D CC (ws.set q0 (a, .inl (cA, n, .inl (upd f k x)))) H1 → va_D A (ws.set q0 (a, .inl (cA, n, .inl (upd f k x)))) → va_S A H0 H1 locs1 → W p l e R s m args below meth c H1 locs1 cells slots Q (F0 m (pc + 1) ls rest)) : W p l e R s m args below meth c H locs cells slots Q (F0 m pc ls (.int x :: .int (nI k) :: .ref a :: rest)) := va_zast hx hb hK hP hD hS q0 t0 ha ht (vp_in_nI hk hn) hdg (by rw [nI_clamp (by omega), hz]; exact kk)
/-- the words that are not among the good ones: by what the tables say they hold in every state here -/
def nwp (U : State) : Prop := (∀ (a : String) (i : Nat) (x : MethodName) (h : String), Cond.methodLinkNest a i x h ∈ tables_1 → va_Nw (.methodLinkNest a i x h) U) ∧ va_AO "SealedBook$Chunk" U
theorem nwp.warm {U : State} (hW : s.WarmedH U.vm) (h : nwp s) : nwp U := ⟨fun a i x h9 hm => va_Nw.warmM hW (h.1 a i x h9 hm), va_AO.moved hW.alike h.2⟩
theorem nwp.calling {U : State} {g : JFrame} {mk : MethodId} {b : Array Value} (h : nwp U) : nwp (U.calling g mk b) := ⟨fun a i x h9 hm => va_Nw.same rfl (u := U) rfl (h.1 a i x h9 hm), va_AO.moved (u := U) (Vm.Alike.refl U.vm) h.2⟩
/-- a contract's start: the whole world that the method may see -/
def k_pre (D : va_G) (tys : List (ClassId × FieldType)) (sz : Nat) (ws : va_W) : State → Prop := fun U => U.heap.size = sz ∧ va_P D CC ws U.heap ∧ va_K D CC tys U ∧ va_D (fun _ => True) ws ∧ nwp U
/-- and its end -/
def k_at (D : va_G) (tys : List (ClassId × FieldType)) (A : Nat → Prop) (ws : va_W) (t : State) : Prop := va_P D CC ws t.heap ∧ va_K D CC tys t ∧ va_D A ws
theorem k_blind {sz : Nat} {av : List Value} : FrameBlind (va_Pc av (k_pre D tys sz ws)) := by
  intro a U g mk q
  obtain ⟨q0, q1, qP, qK, qD, qN⟩ := q
  exact ⟨q0, q1, qP, va_K.moved (u := U) (U := U.calling g mk a) (Vm.Alike.refl U.vm) qK, qD, qN.calling⟩
theorem k_preS {As : List Value} (hP : va_P D CC ws H) (hK : va_K D CC tys s) (hD : va_D A ws) (hN : nwp s) : PreS s H (va_Pc As (k_pre D tys H.size ws)) As :=
  ⟨k_blind, fun U hU hW => ⟨rfl, by rw [hU], by rw [hU]; exact hP, va_K.moved hW.alike hK, hD.weaken (fun _ _ _ _ => trivial), hN.warm hW⟩⟩
theorem k_preV {As : List Value} {b : Nat} (hP : va_P D CC ws H) (hK : va_K D CC tys s) (hD : va_D A ws) (hN : nwp s) (q0 : Nat) {ci : Nat} {fs : List Value} {q : vw_C} (he : ws[q0]? = some (b, .inr (ci, fs))) (hc : CC[ci]? = some q) : PreV s H q.1 b (va_Pc (.ref b :: As) (k_pre D tys H.size ws)) As :=
  ⟨k_blind, va_recv hK hP hc he, fun U hU hW => ⟨rfl, by rw [hU], by rw [hU]; exact hP, va_K.moved hW.alike hK, hD.weaken (fun _ _ _ _ => trivial), hN.warm hW⟩⟩
theorem k_free (hD : va_D A ws) (hS : va_S A H0 H locs) (hA : ∀ q, H0.size ≤ q → A q) : ∀ q, va_A ws H.size q → A q := by
  intro q h
  rcases h with ⟨k, e9, h⟩ | h
  · exact hD.2 k _ h
  · exact hA q (Nat.le_trans hS.1 h)
theorem k_calli {S : Type} {post : Int32 → S → Prop} {wf : S → va_W} {tys' : List (ClassId × FieldType)} {mc ms : Nat} {av : Array Value} {st0 : List Value}
    (hr : va_Run p l e R s m args below meth c H locs cells slots mc ms (F0 m pc ls st0) rest (va_Qi post (fun u t => k_at D tys' (va_A ws H.size) (wf u) t) (va_A ws H.size) av) (va_A ws H.size)) (hD : va_D A ws) (hS : va_S A H0 H locs) (hA : ∀ q, H0.size ≤ q → A q)
    (kk : ∀ (r : Int32) (u : S) (H1 : Heap) (locs1 : List Loc), post r u → va_P D CC (wf u) H1 → va_D A (wf u) → va_K D CC tys' s → va_S A H0 H1 locs1 → W p l e R s m args below meth c H1 locs1 (cells + mc) (slots + ms) Q (F0 m (pc + 3) ls (.int r :: rest))) : W p l e R s m args below meth c H locs cells slots Q (F0 m pc ls st0) :=
  va_calli hr hS (fun q _ h => k_free hD hS hA q h) (k_free hD hS hA) (fun r u t H1 locs1 ht hvm hp hB hz hk hS1 => by
    obtain ⟨hP1, hK1, hD1⟩ := hB
    rw [ht] at hP1
    exact kk r u H1 locs1 hp hP1 (hD1.weaken (fun _ _ _ h => k_free hD hS hA _ h)) (va_K.moved hvm.symm hK1) hS1)
theorem k_callv {S : Type} {post : S → Prop} {wf : S → va_W} {tys' : List (ClassId × FieldType)} {mc ms : Nat} {av : Array Value} {st0 : List Value}
    (hr : va_Run p l e R s m args below meth c H locs cells slots mc ms (F0 m pc ls st0) rest (va_Qv post (fun u t => k_at D tys' (va_A ws H.size) (wf u) t) (va_A ws H.size) av) (va_A ws H.size)) (hD : va_D A ws) (hS : va_S A H0 H locs) (hA : ∀ q, H0.size ≤ q → A q)
    (kk : ∀ (u : S) (H1 : Heap) (locs1 : List Loc), post u → va_P D CC (wf u) H1 → va_D A (wf u) → va_K D CC tys' s → va_S A H0 H1 locs1 → W p l e R s m args below meth c H1 locs1 (cells + mc) (slots + ms) Q (F0 m (pc + 3) ls rest)) : W p l e R s m args below meth c H locs cells slots Q (F0 m pc ls st0) :=
  va_callv hr hS (fun q _ h => k_free hD hS hA q h) (k_free hD hS hA) (fun u t H1 locs1 ht hvm hp hB hz hk hS1 => by
    obtain ⟨hP1, hK1, hD1⟩ := hB
    rw [ht] at hP1
    exact kk u H1 locs1 hp hP1 (hD1.weaken (fun _ _ _ h => k_free hD hS hA _ h)) (va_K.moved hvm.symm hK1) hS1)
theorem k_callq {S : Type} {post : Option Nat → S → Prop} {wf : S → va_W} {tys' : List (ClassId × FieldType)} {mc ms : Nat} {av : Array Value} {st0 : List Value}
    (hr : va_Run p l e R s m args below meth c H locs cells slots mc ms (F0 m pc ls st0) rest (va_Qq post (fun u t => k_at D tys' (va_A ws H.size) (wf u) t) (va_A ws H.size) av) (va_A ws H.size)) (hD : va_D A ws) (hS : va_S A H0 H locs) (hA : ∀ q, H0.size ≤ q → A q)
    (kk : ∀ (r : Option Nat) (u : S) (H1 : Heap) (locs1 : List Loc), post r u → va_P D CC (wf u) H1 → va_D A (wf u) → va_K D CC tys' s → va_S A H0 H1 locs1 → W p l e R s m args below meth c H1 locs1 (cells + mc) (slots + ms) Q (F0 m (pc + 3) ls (va_rf r :: rest))) : W p l e R s m args below meth c H locs cells slots Q (F0 m pc ls st0) :=
  va_callq hr hS (fun q _ h => k_free hD hS hA q h) (k_free hD hS hA) (fun r u t H1 locs1 ht hvm hp hB hz hk hS1 => by
    obtain ⟨hP1, hK1, hD1⟩ := hB
    rw [ht] at hP1
    exact kk r u H1 locs1 hp hP1 (hD1.weaken (fun _ _ _ h => k_free hD hS hA _ h)) (va_K.moved hvm.symm hK1) hS1)
theorem k_iret {S : Type} {post : Int32 → S → Prop} {wf : S → va_W} {v : Int32} (hQ : Q = MQ below (va_Qi post (fun u t => k_at D tys A (wf u) t) A) args s cells slots A) (hx : p.tables.exec = Jvm.exec) (hb : c.code = cc) (hr : meth.sig.returnType = some .int) (hlk : meth.locks = false) (hK : va_K D CC tys s) (hP : va_P D CC ws H) (hD : va_D A ws) (hS : va_S A s.heap H locs) (u : S) (hw : wf u = ws) (hpost : post v u) (hdg : decode cc pc = .ok (.ireturn, 1)) : W p l e R s m args below meth c H locs cells slots Q (F0 m pc ls [.int v]) := by
  subst hQ
  subst hw
  exact W.iret hx hb hr (fun t ht hW => ⟨⟨v, u, rfl, hpost, by rw [ht]; exact hP, va_K.moved hW.alike hK, hD⟩, hS.F ht⟩) hS.2.2 hdg hlk
theorem k_vret {S : Type} {post : S → Prop} {wf : S → va_W}  (hQ : Q = MQ below (va_Qv post (fun u t => k_at D tys A (wf u) t) A) args s cells slots A) (hx : p.tables.exec = Jvm.exec) (hb : c.code = cc) (hr : meth.sig.returnType = none) (hlk : meth.locks = false) (hK : va_K D CC tys s) (hP : va_P D CC ws H) (hD : va_D A ws) (hS : va_S A s.heap H locs) (u : S) (hw : wf u = ws) (hpost : post u) (hdg : decode cc pc = .ok (.return_, 1)) : W p l e R s m args below meth c H locs cells slots Q (F0 m pc ls []) := by
  subst hQ
  subst hw
  exact W.vret hx hb hr (fun t ht hW => ⟨⟨u, rfl, hpost, by rw [ht]; exact hP, va_K.moved hW.alike hK, hD⟩, hS.F ht⟩) hS.2.2 hdg hlk
theorem k_zret {S : Type} {post : Int32 → S → Prop} {wf : S → va_W} {v : Int32} (hQ : Q = MQ below (va_Qi post (fun u t => k_at D tys A (wf u) t) A) args s cells slots A) (hx : p.tables.exec = Jvm.exec) (hb : c.code = cc) (hr : meth.sig.returnType = some .boolean) (hlk : meth.locks = false) (hK : va_K D CC tys s) (hP : va_P D CC ws H) (hD : va_D A ws) (hS : va_S A s.heap H locs) (u : S) (hw : wf u = ws) (hz : narrow .boolean (.int v) = .int v) (hpost : post v u) (hdg : decode cc pc = .ok (.ireturn, 1)) : W p l e R s m args below meth c H locs cells slots Q (F0 m pc ls [.int v]) := by
  subst hQ
  subst hw
  exact W.zret hx hb hr hz (fun t ht hW => ⟨⟨v, u, rfl, hpost, by rw [ht]; exact hP, va_K.moved hW.alike hK, hD⟩, hS.F ht⟩) hS.2.2 hdg hlk
theorem k_aret {S : Type} {post : Option Nat → S → Prop} {wf : S → va_W} {r : Option Nat} {rt : FieldType} (hQ : Q = MQ below (va_Qq post (fun u t => k_at D tys A (wf u) t) A) args s cells slots A) (hx : p.tables.exec = Jvm.exec) (hb : c.code = cc) (hr : meth.sig.returnType = some rt) (hrt : (∃ n, rt = .object n) ∨ ∃ t, rt = .array t) (hlk : meth.locks = false) (hK : va_K D CC tys s) (hP : va_P D CC ws H) (hD : va_D A ws) (hS : va_S A s.heap H locs) (u : S) (hw : wf u = ws) (hpost : post r u) (hdg : decode cc pc = .ok (.areturn, 1)) : W p l e R s m args below meth c H locs cells slots Q (F0 m pc ls [va_rf r]) := by
  subst hQ
  subst hw
  exact W.aret hx hb hr hrt (va_rf_or r) (fun t ht hW => ⟨⟨r, u, rfl, hpost, by rw [ht]; exact hP, va_K.moved hW.alike hK, hD⟩, hS.F ht⟩) hS.2.2 hdg hlk
end NC
theorem k_ofW {l : Launch} {y : MethodName} {cc : ByteArray} {maxL : Nat} {ret : Option FieldType} {rm : Room} {av : List Value} {D : va_G} {tys : List (ClassId × FieldType)} {sz : Nat} {ws : va_W} (Qf : (Nat → Prop) → Array Value → State → Outcome → State → Prop) {mc ms : Nat}
    (hy : plainName y.cls = true) (hav : (lg_sl av).length ≤ maxL)
    (body : ∀ (p : Program) (e : Env) (s : State) (m : MethodId) (args : Array Value) (below : List Frame) (meth : Method) (c : Code) (Q : State → Prop) (A : Nat → Prop) (ls : Array Slot), Q = MQ below (Qf A) args s mc ms A → p.tables.exec = Jvm.exec → c.code = cc → meth.sig.returnType = ret → meth.locks = false → meth.name = y.name →
      (∀ w ∈ Cond.code y cc maxL ret :: TT, w.before args s = true) → (∀ w ∈ TT, w.before args s = true) → s.vm.findClass y.cls = some m.cls → c.maxLocals = maxL → nwp s → va_P D CC ws s.heap → va_K D CC tys s → va_D A ws → (∀ q, s.heap.size ≤ q → A q) → s.heap.size = sz → lv_has ls maxL (lv_args 0 av) →
      W p l e rm s m args below meth c s.heap [] 0 0 Q (F0 m 0 ls [])) :
    Met l y (Cond.code y cc maxL ret :: TT) rm (va_Pc av (k_pre D tys sz ws)) (Qf (va_A ws sz)) mc ms (va_A ws sz) := by
  refine Met.ofW (cc := cc) (maxL := maxL) (ret := ret) hy rfl ?_
  intro p e s m args below meth c s₁ B hml hv
  obtain ⟨rfl, hsz, hP, hK, hD0, hN⟩ := hv
  have hts := atoms_spec (ws := Cond.code y cc maxL ret :: TT) B.pre
  have hl := lv_entry av (n := maxL) hav
  rw [lg_entry_eq]
  subst hsz
  exact body p e s m av.toArray below meth c _ (va_A ws s.heap.size) _ rfl B.exec B.bytes B.returns B.notSynchronized (name_of_methodNamed B.named B.method).1 hts (fun w h => hts w (List.mem_cons_of_mem _ h)) (findClass_of_methodNamed B.named) hml hN hP hK (hD0.self (sz := s.heap.size)) (fun q h => Or.inr h) rfl hl
theorem gV {y0 : Cond} {own : String} {idx : Nat} {C : String} {y : MethodName} {bytes : ByteArray} {maxL : Nat} {ret : Option FieldType} (h1 : Cond.methodLink own idx y ∈ TT) (h2 : Cond.instanceMethod y ∈ TT) (h3 : Cond.selects C y y ∈ TT) (h4 : Cond.initialized C ∈ TT) (h5 : Cond.code y bytes maxL ret ∈ TT) : GoodIn (y0 :: TT) (wsV own idx C y (Cond.code y bytes maxL ret :: TT)) := by
  have g : ∀ w ∈ TT, w ∈ (y0 :: TT) ∧ ((w.onTables && w.keeps) = true ∨ ∃ ty, w = .arrayClass ty) := fun w h => ⟨List.mem_cons_of_mem _ h, good_of_word (List.mem_filter.mp h).2⟩
  intro w hw
  unfold wsV at hw
  simp only [List.cons_append, List.nil_append, List.mem_cons] at hw
  rcases hw with rfl | rfl | rfl | rfl | rfl | hw
  · exact g _ h1
  · exact g _ h2
  · exact g _ h3
  · exact g _ h4
  · exact g _ h5
  · exact g _ hw
theorem gS {y0 : Cond} {own : String} {idx : Nat} {y : MethodName} {bytes : ByteArray} {maxL : Nat} {ret : Option FieldType} (h1 : Cond.methodLink own idx y ∈ TT) (h2 : Cond.static y ∈ TT) (h4 : Cond.initialized own ∈ TT) (h5 : Cond.code y bytes maxL ret ∈ TT) : GoodIn (y0 :: TT) (wsS own idx y (Cond.code y bytes maxL ret :: TT)) := by
  have g : ∀ w ∈ TT, w ∈ (y0 :: TT) ∧ ((w.onTables && w.keeps) = true ∨ ∃ ty, w = .arrayClass ty) := fun w h => ⟨List.mem_cons_of_mem _ h, good_of_word (List.mem_filter.mp h).2⟩
  intro w hw
  unfold wsS at hw
  simp only [List.cons_append, List.nil_append, List.mem_cons] at hw
  rcases hw with rfl | rfl | rfl | rfl | hw
  · exact g _ h1
  · exact g _ h2
  · exact g _ h4
  · exact g _ h5
  · exact g _ hw
theorem gB {y0 : Cond} {y : MethodName} {bytes : ByteArray} {maxL : Nat} {ret : Option FieldType} (h5 : Cond.code y bytes maxL ret ∈ TT) : GoodIn (y0 :: TT) (Cond.code y bytes maxL ret :: TT) := by
  have g : ∀ w ∈ TT, w ∈ (y0 :: TT) ∧ ((w.onTables && w.keeps) = true ∨ ∃ ty, w = .arrayClass ty) := fun w h => ⟨List.mem_cons_of_mem _ h, good_of_word (List.mem_filter.mp h).2⟩
  intro w hw
  rcases List.mem_cons.mp hw with rfl | hw
  · exact g _ h5
  · exact g _ hw
end
section
section ND
variable {p : Program} {l : Launch} {e : Env} {R : Room} {s : State} {m : MethodId} {args : Array Value} {below : List Frame} {meth : Method} {c : Code} {H : Heap} {locs : List Loc} {cells slots : Nat} {Q : State → Prop}
variable {cc : ByteArray} {pc : Nat} {ls : Array Slot} {rest : List Value} {D : va_G} {A : Nat → Prop} {a : Nat} {tys : List (ClassId × FieldType)} {ws : va_W} {H0 : Heap}
theorem st_if_eq (hx : p.tables.exec = Jvm.exec) (hb : c.code = cc) {x : Nat} (hs : x < 2 ^ 31) {off : Int} {tgt : Nat} (hdg : decode cc pc = .ok (.ifCond .eq off, 3)) (ht : (pc : Int) + off = (tgt : Int)) (kt : x = 0 → W p l e R s m args below meth c H locs cells slots Q (F0 m tgt ls rest)) (kf : 0 < x → W p l e R s m args below meth c H locs cells slots Q (F0 m (pc + 3) ls rest)) : W p l e R s m args below meth c H locs cells slots Q (F0 m pc ls (.int (nI x) :: rest)) := lv_if_eq hx hb hdg ht (fun q => kt (Nat.eq_zero_of_not_pos (fun r => nI_ne0 r hs q))) (fun q => kf (Nat.pos_of_ne_zero (fun r => q (by rw [r]; rfl))))
theorem st_if_ne (hx : p.tables.exec = Jvm.exec) (hb : c.code = cc) {x : Nat} (hs : x < 2 ^ 31) {off : Int} {tgt : Nat} (hdg : decode cc pc = .ok (.ifCond .ne off, 3)) (ht : (pc : Int) + off = (tgt : Int)) (kt : 0 < x → W p l e R s m args below meth c H locs cells slots Q (F0 m tgt ls rest)) (kf : x = 0 → W p l e R s m args below meth c H locs cells slots Q (F0 m (pc + 3) ls rest)) : W p l e R s m args below meth c H locs cells slots Q (F0 m pc ls (.int (nI x) :: rest)) := lv_if_ne hx hb hdg ht (fun q => kt (Nat.pos_of_ne_zero (fun r => q (by rw [r]; rfl)))) (fun q => kf (Nat.eq_zero_of_not_pos (fun r => nI_ne0 r hs q)))
theorem st_if_lt (hx : p.tables.exec = Jvm.exec) (hb : c.code = cc) {x : Nat} (hs : x < 2 ^ 31) {off : Int} {tgt : Nat} (hdg : decode cc pc = .ok (.ifCond .lt off, 3)) (ht : (pc : Int) + off = (tgt : Int)) (kt : False → W p l e R s m args below meth c H locs cells slots Q (F0 m tgt ls rest)) (kf : True → W p l e R s m args below meth c H locs cells slots Q (F0 m (pc + 3) ls rest)) : W p l e R s m args below meth c H locs cells slots Q (F0 m pc ls (.int (nI x) :: rest)) := lv_if_lt hx hb hdg ht (fun q => kt (nI_pos hs q)) (fun _ => kf trivial)
theorem st_if_ge (hx : p.tables.exec = Jvm.exec) (hb : c.code = cc) {x : Nat} (hs : x < 2 ^ 31) {off : Int} {tgt : Nat} (hdg : decode cc pc = .ok (.ifCond .ge off, 3)) (ht : (pc : Int) + off = (tgt : Int)) (kt : True → W p l e R s m args below meth c H locs cells slots Q (F0 m tgt ls rest)) (kf : False → W p l e R s m args below meth c H locs cells slots Q (F0 m (pc + 3) ls rest)) : W p l e R s m args below meth c H locs cells slots Q (F0 m pc ls (.int (nI x) :: rest)) := lv_if_ge hx hb hdg ht (fun _ => kt trivial) (fun q => kf (q (nI_pos' hs)))
theorem st_if_gt (hx : p.tables.exec = Jvm.exec) (hb : c.code = cc) {x : Nat} (hs : x < 2 ^ 31) {off : Int} {tgt : Nat} (hdg : decode cc pc = .ok (.ifCond .gt off, 3)) (ht : (pc : Int) + off = (tgt : Int)) (kt : 0 < x → W p l e R s m args below meth c H locs cells slots Q (F0 m tgt ls rest)) (kf : x = 0 → W p l e R s m args below meth c H locs cells slots Q (F0 m (pc + 3) ls rest)) : W p l e R s m args below meth c H locs cells slots Q (F0 m pc ls (.int (nI x) :: rest)) := lv_if_gt hx hb hdg ht (fun q => kt (Nat.pos_of_ne_zero (fun r => by subst r; exact absurd q (by decide)))) (fun q => kf (Nat.eq_zero_of_not_pos (fun r => q (nI_lt r hs))))
theorem st_if_le (hx : p.tables.exec = Jvm.exec) (hb : c.code = cc) {x : Nat} (hs : x < 2 ^ 31) {off : Int} {tgt : Nat} (hdg : decode cc pc = .ok (.ifCond .le off, 3)) (ht : (pc : Int) + off = (tgt : Int)) (kt : x = 0 → W p l e R s m args below meth c H locs cells slots Q (F0 m tgt ls rest)) (kf : 0 < x → W p l e R s m args below meth c H locs cells slots Q (F0 m (pc + 3) ls rest)) : W p l e R s m args below meth c H locs cells slots Q (F0 m pc ls (.int (nI x) :: rest)) := lv_if_le hx hb hdg ht (fun q => kt (Nat.eq_zero_of_not_pos (fun r => nI_nle r hs q))) (fun q => kf (Nat.pos_of_ne_zero (fun r => by subst r; exact q (by decide))))
theorem sq_aload_n (hx : p.tables.exec = Jvm.exec) (hb : c.code = cc) {k : Fin 4} {i : Nat} {r : Option Nat} (hdg : decode cc pc = .ok (.aload_n k, 1)) (hi : (k : Nat) = i) (hl : ls[i]? = some (.val (va_rf r))) (kk : W p l e R s m args below meth c H locs cells slots Q (F0 m (pc + 1) ls (va_rf r :: rest))) : W p l e R s m args below meth c H locs cells slots Q (F0 m pc ls rest) := by
  cases r with
  | none => exact lv_aload_nN hx hb hdg hi hl kk
  | some x => exact lv_aload_n hx hb hdg hi hl kk
theorem sq_aload (hx : p.tables.exec = Jvm.exec) (hb : c.code = cc) {i : Nat} {r : Option Nat} (hdg : decode cc pc = .ok (.aload i, 2)) (hl : ls[i]? = some (.val (va_rf r))) (kk : W p l e R s m args below meth c H locs cells slots Q (F0 m (pc + 2) ls (va_rf r :: rest))) : W p l e R s m args below meth c H locs cells slots Q (F0 m pc ls rest) := by
  cases r with
  | none => exact lv_aloadN hx hb hdg hl kk
  | some x => exact lv_aload hx hb hdg hl kk
theorem sq_astore_n (hx : p.tables.exec = Jvm.exec) (hb : c.code = cc) {k : Fin 4} {i nL : Nat} {r : Option Nat} {lv lv' : List (Nat × Value)} (hdg : decode cc pc = .ok (.astore_n k, 1)) (hi : (k : Nat) = i) (h : lv_has ls nL lv) (hn : i < nL) (hl : (i, va_rf r) :: lv.filter (fun q => !(q.1 == i) && !(q.1 + 1 == i && q.2.category == 2)) = lv') (kk : ∀ ls' : Array Slot, lv_has ls' nL lv' → W p l e R s m args below meth c H locs cells slots Q (F0 m (pc + 1) ls' rest)) : W p l e R s m args below meth c H locs cells slots Q (F0 m pc ls (va_rf r :: rest)) := by
  cases r with
  | none => exact lv_astore_nN hx hb hdg hi h hn hl kk
  | some x => exact lv_astore_n hx hb hdg hi h hn hl kk
theorem sq_astore (hx : p.tables.exec = Jvm.exec) (hb : c.code = cc) {i nL : Nat} {r : Option Nat} {lv lv' : List (Nat × Value)} (hdg : decode cc pc = .ok (.astore i, 2)) (h : lv_has ls nL lv) (hn : i < nL) (hl : (i, va_rf r) :: lv.filter (fun q => !(q.1 == i) && !(q.1 + 1 == i && q.2.category == 2)) = lv') (kk : ∀ ls' : Array Slot, lv_has ls' nL lv' → W p l e R s m args below meth c H locs cells slots Q (F0 m (pc + 2) ls' rest)) : W p l e R s m args below meth c H locs cells slots Q (F0 m pc ls (va_rf r :: rest)) := by
  cases r with
  | none => exact lv_astoreN hx hb hdg h hn hl kk
  | some x => exact lv_astore hx hb hdg h hn hl kk
theorem sq_ifnull (hx : p.tables.exec = Jvm.exec) (hb : c.code = cc) {r : Option Nat} {off : Int} {tgt : Nat} (hdg : decode cc pc = .ok (.ifnull off, 3)) (ht : (pc : Int) + off = (tgt : Int)) (kt : r = none → W p l e R s m args below meth c H locs cells slots Q (F0 m tgt ls rest)) (kf : ¬ r = none → W p l e R s m args below meth c H locs cells slots Q (F0 m (pc + 3) ls rest)) : W p l e R s m args below meth c H locs cells slots Q (F0 m pc ls (va_rf r :: rest)) := by
  cases r with
  | none => exact lv_ifnullN hx hb hdg ht (kt rfl)
  | some x => exact lv_ifnull hx hb hdg (kf (by simp))
theorem sq_ifnonnull (hx : p.tables.exec = Jvm.exec) (hb : c.code = cc) {r : Option Nat} {off : Int} {tgt : Nat} (hdg : decode cc pc = .ok (.ifnonnull off, 3)) (ht : (pc : Int) + off = (tgt : Int)) (kt : ¬ r = none → W p l e R s m args below meth c H locs cells slots Q (F0 m tgt ls rest)) (kf : r = none → W p l e R s m args below meth c H locs cells slots Q (F0 m (pc + 3) ls rest)) : W p l e R s m args below meth c H locs cells slots Q (F0 m pc ls (va_rf r :: rest)) := by
  cases r with
  | none => exact lv_ifnonnullN hx hb hdg (kf rfl)
  | some x => exact lv_ifnonnull hx hb hdg ht (kt (by simp))
end ND
/-- a place of a state set -/
def mup (g : Nat → Nat → Int32) (a i : Nat) (v : Int32) : Nat → Nat → Int32 := fun x => if x = a then upd (g a) i v else g x
theorem mup_ne {g : Nat → Nat → Int32} {a i : Nat} {v : Int32} {b : Nat} (h : b ≠ a) : mup g a i v b = g b := by unfold mup; rw [if_neg h]
theorem mup_eq {g : Nat → Nat → Int32} {a i : Nat} {v : Int32} : mup g a i v a = upd (g a) i v := by unfold mup; rw [if_pos rfl]
end
section
section AC
variable {p : Program} {l : Launch} {e : Env} {R : Room} {s : State} {m : MethodId} {args : Array Value} {below : List Frame} {meth : Method} {c : Code} {H : Heap} {locs : List Loc} {cells slots : Nat} {Q : State → Prop}
variable {cc : ByteArray} {pc : Nat} {ls : Array Slot} {rest : List Value} {D : va_G} {A : Nat → Prop} {a : Nat} {tys : List (ClassId × FieldType)} {ws : va_W} {H0 : Heap}
theorem gf_B_9 (hx : p.tables.exec = Jvm.exec) (hb : c.code = cc) (hT : ∀ w ∈ TT, w.before args s = true) (hown : s.vm.findClass "SealedBook$Bytes" = some m.cls) (hK : va_K D CC tys s) (hP : va_P D CC ws H) (q0 : Nat) {fs : List Value} (he : ws[q0]? = some (a, .inr (0, fs))) {v : Value} (hv : fs[0]? = some v) (hdg : decode cc pc = .ok (.getfield 9, 3)) (kk : W p l e R s m args below meth c H locs cells slots Q (F0 m (pc + 3) ls (v :: rest))) : W p l e R s m args below meth c H locs cells slots Q (F0 m pc ls (.ref a :: rest)) := va_get (D := D) (ci := 0) (C := "SealedBook$Bytes") (T := F_B) (N := 2) hx hb hT in_B hown hK hP q0 he rfl 0 (by decide) (hT _ t_128) (fun _ h9 => h9) hv hdg kk
theorem pf_B_9 (hx : p.tables.exec = Jvm.exec) (hb : c.code = cc) (hT : ∀ w ∈ TT, w.before args s = true) (hown : s.vm.findClass "SealedBook$Bytes" = some m.cls) (hK : va_K D CC tys s) (hP : va_P D CC ws H) (hD : va_D A ws) (hS : va_S A H0 H locs) (hin2 : meth.name = "<init>") (q0 : Nat) {fs : List Value} (he : ws[q0]? = some (a, .inr (0, fs))) (hl : 0 < fs.length) {x : Nat} (hdg : decode cc pc = .ok (.putfield 9, 3)) (kk : ∀ (H1 : Heap) (locs1 : List Loc), va_P D CC (ws.set q0 (a, .inr (0, fs.set 0 (.ref x)))) H1 → va_D A (ws.set q0 (a, .inr (0, fs.set 0 (.ref x)))) → va_S A H0 H1 locs1 → W p l e R s m args below meth c H1 locs1 cells slots Q (F0 m (pc + 3) ls rest)) : W p l e R s m args below meth c H locs cells slots Q (F0 m pc ls (.ref x :: .ref a :: rest)) := va_putF (D := D) (ci := 0) (v := (.ref x)) (ty := ty_B 0) (C := "SealedBook$Bytes") (T := F_B) (N := 2) hx hb hT in_B ty_B ok_B nm_B hown hK hP hD hS q0 he rfl 0 (by decide) (hT _ t_128) (fun _ h9 => h9) rfl hin2 rfl (by decide +kernel) rfl rfl hl hdg kk
theorem gf_B_15 (hx : p.tables.exec = Jvm.exec) (hb : c.code = cc) (hT : ∀ w ∈ TT, w.before args s = true) (hown : s.vm.findClass "SealedBook$Bytes" = some m.cls) (hK : va_K D CC tys s) (hP : va_P D CC ws H) (q0 : Nat) {fs : List Value} (he : ws[q0]? = some (a, .inr (0, fs))) {v : Value} (hv : fs[1]? = some v) (hdg : decode cc pc = .ok (.getfield 15, 3)) (kk : W p l e R s m args below meth c H locs cells slots Q (F0 m (pc + 3) ls (v :: rest))) : W p l e R s m args below meth c H locs cells slots Q (F0 m pc ls (.ref a :: rest)) := va_get (D := D) (ci := 0) (C := "SealedBook$Bytes") (T := F_B) (N := 2) hx hb hT in_B hown hK hP q0 he rfl 1 (by decide) (hT _ t_129) (fun _ h9 => h9) hv hdg kk
theorem pf_B_15 (hx : p.tables.exec = Jvm.exec) (hb : c.code = cc) (hT : ∀ w ∈ TT, w.before args s = true) (hown : s.vm.findClass "SealedBook$Bytes" = some m.cls) (hK : va_K D CC tys s) (hP : va_P D CC ws H) (hD : va_D A ws) (hS : va_S A H0 H locs) (q0 : Nat) {fs : List Value} (he : ws[q0]? = some (a, .inr (0, fs))) (hl : 1 < fs.length) {x : Int32} (hdg : decode cc pc = .ok (.putfield 15, 3)) (kk : ∀ (H1 : Heap) (locs1 : List Loc), va_P D CC (ws.set q0 (a, .inr (0, fs.set 1 (.int x)))) H1 → va_D A (ws.set q0 (a, .inr (0, fs.set 1 (.int x)))) → va_S A H0 H1 locs1 → W p l e R s m args below meth c H1 locs1 cells slots Q (F0 m (pc + 3) ls rest)) : W p l e R s m args below meth c H locs cells slots Q (F0 m pc ls (.int x :: .ref a :: rest)) := va_put (D := D) (ci := 0) (v := (.int x)) (ty := .int) (C := "SealedBook$Bytes") (T := F_B) (N := 2) hx hb hT in_B ty_B ok_B nm_B hown hK hP hD hS q0 he rfl 1 (by decide) (hT _ t_129) (fun _ h9 => h9) rfl (by decide +kernel) rfl rfl hl hdg kk
theorem pf_C_7 (hx : p.tables.exec = Jvm.exec) (hb : c.code = cc) (hT : ∀ w ∈ TT, w.before args s = true) (hown : s.vm.findClass "SealedBook$Chunk" = some m.cls) (hK : va_K D CC tys s) (hP : va_P D CC ws H) (hD : va_D A ws) (hS : va_S A H0 H locs) (hin2 : meth.name = "<init>") (q0 : Nat) {fs : List Value} (he : ws[q0]? = some (a, .inr (1, fs))) (hl : 0 < fs.length) {x : Int32} (hdg : decode cc pc = .ok (.putfield 7, 3)) (kk : ∀ (H1 : Heap) (locs1 : List Loc), va_P D CC (ws.set q0 (a, .inr (1, fs.set 0 (.int x)))) H1 → va_D A (ws.set q0 (a, .inr (1, fs.set 0 (.int x)))) → va_S A H0 H1 locs1 → W p l e R s m args below meth c H1 locs1 cells slots Q (F0 m (pc + 3) ls rest)) : W p l e R s m args below meth c H locs cells slots Q (F0 m pc ls (.int x :: .ref a :: rest)) := va_putF (D := D) (ci := 1) (v := (.int x)) (ty := .int) (C := "SealedBook$Chunk") (T := F_C) (N := 6) hx hb hT in_C ty_C ok_C nm_C hown hK hP hD hS q0 he rfl 0 (by decide) (hT _ t_697) (fun _ h9 => h9) rfl hin2 rfl (by decide +kernel) rfl rfl hl hdg kk
theorem pf_C_13 (hx : p.tables.exec = Jvm.exec) (hb : c.code = cc) (hT : ∀ w ∈ TT, w.before args s = true) (hown : s.vm.findClass "SealedBook$Chunk" = some m.cls) (hK : va_K D CC tys s) (hP : va_P D CC ws H) (hD : va_D A ws) (hS : va_S A H0 H locs) (hin2 : meth.name = "<init>") (q0 : Nat) {fs : List Value} (he : ws[q0]? = some (a, .inr (1, fs))) (hl : 1 < fs.length) {x : Int32} (hdg : decode cc pc = .ok (.putfield 13, 3)) (kk : ∀ (H1 : Heap) (locs1 : List Loc), va_P D CC (ws.set q0 (a, .inr (1, fs.set 1 (.int x)))) H1 → va_D A (ws.set q0 (a, .inr (1, fs.set 1 (.int x)))) → va_S A H0 H1 locs1 → W p l e R s m args below meth c H1 locs1 cells slots Q (F0 m (pc + 3) ls rest)) : W p l e R s m args below meth c H locs cells slots Q (F0 m pc ls (.int x :: .ref a :: rest)) := va_putF (D := D) (ci := 1) (v := (.int x)) (ty := .int) (C := "SealedBook$Chunk") (T := F_C) (N := 6) hx hb hT in_C ty_C ok_C nm_C hown hK hP hD hS q0 he rfl 1 (by decide) (hT _ t_700) (fun _ h9 => h9) rfl hin2 rfl (by decide +kernel) rfl rfl hl hdg kk
theorem pf_C_16 (hx : p.tables.exec = Jvm.exec) (hb : c.code = cc) (hT : ∀ w ∈ TT, w.before args s = true) (hown : s.vm.findClass "SealedBook$Chunk" = some m.cls) (hK : va_K D CC tys s) (hP : va_P D CC ws H) (hD : va_D A ws) (hS : va_S A H0 H locs) (hin2 : meth.name = "<init>") (q0 : Nat) {fs : List Value} (he : ws[q0]? = some (a, .inr (1, fs))) (hl : 5 < fs.length) {x : Nat} (hdg : decode cc pc = .ok (.putfield 16, 3)) (kk : ∀ (H1 : Heap) (locs1 : List Loc), va_P D CC (ws.set q0 (a, .inr (1, fs.set 5 (.ref x)))) H1 → va_D A (ws.set q0 (a, .inr (1, fs.set 5 (.ref x)))) → va_S A H0 H1 locs1 → W p l e R s m args below meth c H1 locs1 cells slots Q (F0 m (pc + 3) ls rest)) : W p l e R s m args below meth c H locs cells slots Q (F0 m pc ls (.ref x :: .ref a :: rest)) := va_putF (D := D) (ci := 1) (v := (.ref x)) (ty := ty_C 5) (C := "SealedBook$Chunk") (T := F_C) (N := 6) hx hb hT in_C ty_C ok_C nm_C hown hK hP hD hS q0 he rfl 5 (by decide) (hT _ t_713) (fun _ h9 => h9) rfl hin2 rfl (by decide +kernel) rfl rfl hl hdg kk
theorem pn_C_16 (hx : p.tables.exec = Jvm.exec) (hb : c.code = cc) (hT : ∀ w ∈ TT, w.before args s = true) (hown : s.vm.findClass "SealedBook$Chunk" = some m.cls) (hK : va_K D CC tys s) (hP : va_P D CC ws H) (hD : va_D A ws) (hS : va_S A H0 H locs) (hin2 : meth.name = "<init>") (q0 : Nat) {fs : List Value} (he : ws[q0]? = some (a, .inr (1, fs))) (hl : 5 < fs.length) (x : Option Nat) (hdg : decode cc pc = .ok (.putfield 16, 3)) (kk : ∀ (H1 : Heap) (locs1 : List Loc), va_P D CC (ws.set q0 (a, .inr (1, fs.set 5 (va_rf x)))) H1 → va_D A (ws.set q0 (a, .inr (1, fs.set 5 (va_rf x)))) → va_S A H0 H1 locs1 → W p l e R s m args below meth c H1 locs1 cells slots Q (F0 m (pc + 3) ls rest)) : W p l e R s m args below meth c H locs cells slots Q (F0 m pc ls (va_rf x :: .ref a :: rest)) := va_putF (D := D) (ci := 1) (v := va_rf x) (ty := ty_C 5) (C := "SealedBook$Chunk") (T := F_C) (N := 6) hx hb hT in_C ty_C ok_C nm_C hown hK hP hD hS q0 he rfl 5 (by decide) (hT _ t_713) (fun _ h9 => h9) rfl hin2 rfl (by decide +kernel) (by cases x <;> rfl) (by cases x <;> rfl) hl hdg kk
theorem gf_C_20 (hx : p.tables.exec = Jvm.exec) (hb : c.code = cc) (hT : ∀ w ∈ TT, w.before args s = true) (hown : s.vm.findClass "SealedBook$Chunk" = some m.cls) (hK : va_K D CC tys s) (hP : va_P D CC ws H) (q0 : Nat) {fs : List Value} (he : ws[q0]? = some (a, .inr (4, fs))) {v : Value} (hv : fs[0]? = some v) (hdg : decode cc pc = .ok (.getfield 20, 3)) (kk : W p l e R s m args below meth c H locs cells slots Q (F0 m (pc + 3) ls (v :: rest))) : W p l e R s m args below meth c H locs cells slots Q (F0 m pc ls (.ref a :: rest)) := va_get (D := D) (ci := 4) (C := "SealedBook$Row") (T := F_R) (N := 4) hx hb hT in_R hown hK hP q0 he rfl 0 (by decide) (hT _ t_98) (fun _ h9 => h9) hv hdg kk
theorem gf_C_32 (hx : p.tables.exec = Jvm.exec) (hb : c.code = cc) (hT : ∀ w ∈ TT, w.before args s = true) (hown : s.vm.findClass "SealedBook$Chunk" = some m.cls) (hK : va_K D CC tys s) (hP : va_P D CC ws H) (q0 : Nat) {fs : List Value} (he : ws[q0]? = some (a, .inr (1, fs))) {v : Value} (hv : fs[2]? = some v) (hdg : decode cc pc = .ok (.getfield 32, 3)) (kk : W p l e R s m args below meth c H locs cells slots Q (F0 m (pc + 3) ls (v :: rest))) : W p l e R s m args below meth c H locs cells slots Q (F0 m pc ls (.ref a :: rest)) := va_get (D := D) (ci := 1) (C := "SealedBook$Chunk") (T := F_C) (N := 6) hx hb hT in_C hown hK hP q0 he rfl 2 (by decide) (hT _ t_703) (fun _ h9 => h9) hv hdg kk
theorem pf_C_32 (hx : p.tables.exec = Jvm.exec) (hb : c.code = cc) (hT : ∀ w ∈ TT, w.before args s = true) (hown : s.vm.findClass "SealedBook$Chunk" = some m.cls) (hK : va_K D CC tys s) (hP : va_P D CC ws H) (hD : va_D A ws) (hS : va_S A H0 H locs) (hin2 : meth.name = "<init>") (q0 : Nat) {fs : List Value} (he : ws[q0]? = some (a, .inr (1, fs))) (hl : 2 < fs.length) {x : Nat} (hdg : decode cc pc = .ok (.putfield 32, 3)) (kk : ∀ (H1 : Heap) (locs1 : List Loc), va_P D CC (ws.set q0 (a, .inr (1, fs.set 2 (.ref x)))) H1 → va_D A (ws.set q0 (a, .inr (1, fs.set 2 (.ref x)))) → va_S A H0 H1 locs1 → W p l e R s m args below meth c H1 locs1 cells slots Q (F0 m (pc + 3) ls rest)) : W p l e R s m args below meth c H locs cells slots Q (F0 m pc ls (.ref x :: .ref a :: rest)) := va_putF (D := D) (ci := 1) (v := (.ref x)) (ty := ty_C 2) (C := "SealedBook$Chunk") (T := F_C) (N := 6) hx hb hT in_C ty_C ok_C nm_C hown hK hP hD hS q0 he rfl 2 (by decide) (hT _ t_703) (fun _ h9 => h9) rfl hin2 rfl (by decide +kernel) rfl rfl hl hdg kk
theorem gf_C_33 (hx : p.tables.exec = Jvm.exec) (hb : c.code = cc) (hT : ∀ w ∈ TT, w.before args s = true) (hown : s.vm.findClass "SealedBook$Chunk" = some m.cls) (hK : va_K D CC tys s) (hP : va_P D CC ws H) (q0 : Nat) {fs : List Value} (he : ws[q0]? = some (a, .inr (4, fs))) {v : Value} (hv : fs[1]? = some v) (hdg : decode cc pc = .ok (.getfield 33, 3)) (kk : W p l e R s m args below meth c H locs cells slots Q (F0 m (pc + 3) ls (v :: rest))) : W p l e R s m args below meth c H locs cells slots Q (F0 m pc ls (.ref a :: rest)) := va_get (D := D) (ci := 4) (C := "SealedBook$Row") (T := F_R) (N := 4) hx hb hT in_R hown hK hP q0 he rfl 1 (by decide) (hT _ t_101) (fun _ h9 => h9) hv hdg kk
theorem pf_C_36 (hx : p.tables.exec = Jvm.exec) (hb : c.code = cc) (hT : ∀ w ∈ TT, w.before args s = true) (hown : s.vm.findClass "SealedBook$Chunk" = some m.cls) (hK : va_K D CC tys s) (hP : va_P D CC ws H) (hD : va_D A ws) (hS : va_S A H0 H locs) (hin2 : meth.name = "<init>") (q0 : Nat) {fs : List Value} (he : ws[q0]? = some (a, .inr (1, fs))) (hl : 3 < fs.length) {x : Nat} (hdg : decode cc pc = .ok (.putfield 36, 3)) (kk : ∀ (H1 : Heap) (locs1 : List Loc), va_P D CC (ws.set q0 (a, .inr (1, fs.set 3 (.ref x)))) H1 → va_D A (ws.set q0 (a, .inr (1, fs.set 3 (.ref x)))) → va_S A H0 H1 locs1 → W p l e R s m args below meth c H1 locs1 cells slots Q (F0 m (pc + 3) ls rest)) : W p l e R s m args below meth c H locs cells slots Q (F0 m pc ls (.ref x :: .ref a :: rest)) := va_putF (D := D) (ci := 1) (v := (.ref x)) (ty := ty_C 3) (C := "SealedBook$Chunk") (T := F_C) (N := 6) hx hb hT in_C ty_C ok_C nm_C hown hK hP hD hS q0 he rfl 3 (by decide) (hT _ t_707) (fun _ h9 => h9) rfl hin2 rfl (by decide +kernel) rfl rfl hl hdg kk
theorem gf_C_37 (hx : p.tables.exec = Jvm.exec) (hb : c.code = cc) (hT : ∀ w ∈ TT, w.before args s = true) (hown : s.vm.findClass "SealedBook$Chunk" = some m.cls) (hK : va_K D CC tys s) (hP : va_P D CC ws H) (q0 : Nat) {fs : List Value} (he : ws[q0]? = some (a, .inr (1, fs))) {v : Value} (hv : fs[4]? = some v) (hdg : decode cc pc = .ok (.getfield 37, 3)) (kk : W p l e R s m args below meth c H locs cells slots Q (F0 m (pc + 3) ls (v :: rest))) : W p l e R s m args below meth c H locs cells slots Q (F0 m pc ls (.ref a :: rest)) := va_get (D := D) (ci := 1) (C := "SealedBook$Chunk") (T := F_C) (N := 6) hx hb hT in_C hown hK hP q0 he rfl 4 (by decide) (hT _ t_711) (fun _ h9 => h9) hv hdg kk
theorem pf_C_37 (hx : p.tables.exec = Jvm.exec) (hb : c.code = cc) (hT : ∀ w ∈ TT, w.before args s = true) (hown : s.vm.findClass "SealedBook$Chunk" = some m.cls) (hK : va_K D CC tys s) (hP : va_P D CC ws H) (hD : va_D A ws) (hS : va_S A H0 H locs) (hin2 : meth.name = "<init>") (q0 : Nat) {fs : List Value} (he : ws[q0]? = some (a, .inr (1, fs))) (hl : 4 < fs.length) {x : Nat} (hdg : decode cc pc = .ok (.putfield 37, 3)) (kk : ∀ (H1 : Heap) (locs1 : List Loc), va_P D CC (ws.set q0 (a, .inr (1, fs.set 4 (.ref x)))) H1 → va_D A (ws.set q0 (a, .inr (1, fs.set 4 (.ref x)))) → va_S A H0 H1 locs1 → W p l e R s m args below meth c H1 locs1 cells slots Q (F0 m (pc + 3) ls rest)) : W p l e R s m args below meth c H locs cells slots Q (F0 m pc ls (.ref x :: .ref a :: rest)) := va_putF (D := D) (ci := 1) (v := (.ref x)) (ty := ty_C 4) (C := "SealedBook$Chunk") (T := F_C) (N := 6) hx hb hT in_C ty_C ok_C nm_C hown hK hP hD hS q0 he rfl 4 (by decide) (hT _ t_711) (fun _ h9 => h9) rfl hin2 rfl (by decide +kernel) rfl rfl hl hdg kk
theorem gf_C_41 (hx : p.tables.exec = Jvm.exec) (hb : c.code = cc) (hT : ∀ w ∈ TT, w.before args s = true) (hown : s.vm.findClass "SealedBook$Chunk" = some m.cls) (hK : va_K D CC tys s) (hP : va_P D CC ws H) (q0 : Nat) {fs : List Value} (he : ws[q0]? = some (a, .inr (4, fs))) {v : Value} (hv : fs[2]? = some v) (hdg : decode cc pc = .ok (.getfield 41, 3)) (kk : W p l e R s m args below meth c H locs cells slots Q (F0 m (pc + 3) ls (v :: rest))) : W p l e R s m args below meth c H locs cells slots Q (F0 m pc ls (.ref a :: rest)) := va_get (D := D) (ci := 4) (C := "SealedBook$Row") (T := F_R) (N := 4) hx hb hT in_R hown hK hP q0 he rfl 2 (by decide) (hT _ t_103) (fun _ h9 => h9) hv hdg kk
theorem gf_H_11 (hx : p.tables.exec = Jvm.exec) (hb : c.code = cc) (hT : ∀ w ∈ TT, w.before args s = true) (hown : s.vm.findClass "SealedBook$History" = some m.cls) (hK : va_K D CC tys s) (hP : va_P D CC ws H) (q0 : Nat) {fs : List Value} (he : ws[q0]? = some (a, .inr (2, fs))) {v : Value} (hv : fs[0]? = some v) (hdg : decode cc pc = .ok (.getfield 11, 3)) (kk : W p l e R s m args below meth c H locs cells slots Q (F0 m (pc + 3) ls (v :: rest))) : W p l e R s m args below meth c H locs cells slots Q (F0 m pc ls (.ref a :: rest)) := va_get (D := D) (ci := 2) (C := "SealedBook$History") (T := F_H) (N := 2) hx hb hT in_H hown hK hP q0 he rfl 0 (by decide) (hT _ t_63) (fun _ h9 => h9) hv hdg kk
theorem pf_H_11 (hx : p.tables.exec = Jvm.exec) (hb : c.code = cc) (hT : ∀ w ∈ TT, w.before args s = true) (hown : s.vm.findClass "SealedBook$History" = some m.cls) (hK : va_K D CC tys s) (hP : va_P D CC ws H) (hD : va_D A ws) (hS : va_S A H0 H locs) (hin2 : meth.name = "<init>") (q0 : Nat) {fs : List Value} (he : ws[q0]? = some (a, .inr (2, fs))) (hl : 0 < fs.length) {x : Nat} (hdg : decode cc pc = .ok (.putfield 11, 3)) (kk : ∀ (H1 : Heap) (locs1 : List Loc), va_P D CC (ws.set q0 (a, .inr (2, fs.set 0 (.ref x)))) H1 → va_D A (ws.set q0 (a, .inr (2, fs.set 0 (.ref x)))) → va_S A H0 H1 locs1 → W p l e R s m args below meth c H1 locs1 cells slots Q (F0 m (pc + 3) ls rest)) : W p l e R s m args below meth c H locs cells slots Q (F0 m pc ls (.ref x :: .ref a :: rest)) := va_putF (D := D) (ci := 2) (v := (.ref x)) (ty := ty_H 0) (C := "SealedBook$History") (T := F_H) (N := 2) hx hb hT in_H ty_H ok_H nm_H hown hK hP hD hS q0 he rfl 0 (by decide) (hT _ t_63) (fun _ h9 => h9) rfl hin2 rfl (by decide +kernel) rfl rfl hl hdg kk
theorem gf_H_17 (hx : p.tables.exec = Jvm.exec) (hb : c.code = cc) (hT : ∀ w ∈ TT, w.before args s = true) (hown : s.vm.findClass "SealedBook$History" = some m.cls) (hK : va_K D CC tys s) (hP : va_P D CC ws H) (q0 : Nat) {fs : List Value} (he : ws[q0]? = some (a, .inr (2, fs))) {v : Value} (hv : fs[1]? = some v) (hdg : decode cc pc = .ok (.getfield 17, 3)) (kk : W p l e R s m args below meth c H locs cells slots Q (F0 m (pc + 3) ls (v :: rest))) : W p l e R s m args below meth c H locs cells slots Q (F0 m pc ls (.ref a :: rest)) := va_get (D := D) (ci := 2) (C := "SealedBook$History") (T := F_H) (N := 2) hx hb hT in_H hown hK hP q0 he rfl 1 (by decide) (hT _ t_66) (fun _ h9 => h9) hv hdg kk
theorem pf_H_17 (hx : p.tables.exec = Jvm.exec) (hb : c.code = cc) (hT : ∀ w ∈ TT, w.before args s = true) (hown : s.vm.findClass "SealedBook$History" = some m.cls) (hK : va_K D CC tys s) (hP : va_P D CC ws H) (hD : va_D A ws) (hS : va_S A H0 H locs) (q0 : Nat) {fs : List Value} (he : ws[q0]? = some (a, .inr (2, fs))) (hl : 1 < fs.length) {x : Int32} (hdg : decode cc pc = .ok (.putfield 17, 3)) (kk : ∀ (H1 : Heap) (locs1 : List Loc), va_P D CC (ws.set q0 (a, .inr (2, fs.set 1 (.int x)))) H1 → va_D A (ws.set q0 (a, .inr (2, fs.set 1 (.int x)))) → va_S A H0 H1 locs1 → W p l e R s m args below meth c H1 locs1 cells slots Q (F0 m (pc + 3) ls rest)) : W p l e R s m args below meth c H locs cells slots Q (F0 m pc ls (.int x :: .ref a :: rest)) := va_put (D := D) (ci := 2) (v := (.int x)) (ty := .int) (C := "SealedBook$History") (T := F_H) (N := 2) hx hb hT in_H ty_H ok_H nm_H hown hK hP hD hS q0 he rfl 1 (by decide) (hT _ t_66) (fun _ h9 => h9) rfl (by decide +kernel) rfl rfl hl hdg kk
theorem gf_H_21 (hx : p.tables.exec = Jvm.exec) (hb : c.code = cc) (hT : ∀ w ∈ TT, w.before args s = true) (hown : s.vm.findClass "SealedBook$History" = some m.cls) (hK : va_K D CC tys s) (hP : va_P D CC ws H) (q0 : Nat) {fs : List Value} (he : ws[q0]? = some (a, .inr (1, fs))) {v : Value} (hv : fs[1]? = some v) (hdg : decode cc pc = .ok (.getfield 21, 3)) (kk : W p l e R s m args below meth c H locs cells slots Q (F0 m (pc + 3) ls (v :: rest))) : W p l e R s m args below meth c H locs cells slots Q (F0 m pc ls (.ref a :: rest)) := va_get (D := D) (ci := 1) (C := "SealedBook$Chunk") (T := F_C) (N := 6) hx hb hT in_C hown hK hP q0 he rfl 1 (by decide) (hT _ t_701) (fun _ h9 => h9) hv hdg kk
theorem gf_P_10 (hx : p.tables.exec = Jvm.exec) (hb : c.code = cc) (hT : ∀ w ∈ TT, w.before args s = true) (hown : s.vm.findClass "SealedBook$Prover" = some m.cls) (hK : va_K D CC tys s) (hP : va_P D CC ws H) (q0 : Nat) {fs : List Value} (he : ws[q0]? = some (a, .inr (3, fs))) {v : Value} (hv : fs[0]? = some v) (hdg : decode cc pc = .ok (.getfield 10, 3)) (kk : W p l e R s m args below meth c H locs cells slots Q (F0 m (pc + 3) ls (v :: rest))) : W p l e R s m args below meth c H locs cells slots Q (F0 m pc ls (.ref a :: rest)) := va_get (D := D) (ci := 3) (C := "SealedBook$Prover") (T := F_P) (N := 1) hx hb hT in_P hown hK hP q0 he rfl 0 (by decide) (hT _ t_137) (fun _ h9 => h9) hv hdg kk
theorem pf_P_10 (hx : p.tables.exec = Jvm.exec) (hb : c.code = cc) (hT : ∀ w ∈ TT, w.before args s = true) (hown : s.vm.findClass "SealedBook$Prover" = some m.cls) (hK : va_K D CC tys s) (hP : va_P D CC ws H) (hD : va_D A ws) (hS : va_S A H0 H locs) (hin2 : meth.name = "<init>") (q0 : Nat) {fs : List Value} (he : ws[q0]? = some (a, .inr (3, fs))) (hl : 0 < fs.length) {x : Nat} (hdg : decode cc pc = .ok (.putfield 10, 3)) (kk : ∀ (H1 : Heap) (locs1 : List Loc), va_P D CC (ws.set q0 (a, .inr (3, fs.set 0 (.ref x)))) H1 → va_D A (ws.set q0 (a, .inr (3, fs.set 0 (.ref x)))) → va_S A H0 H1 locs1 → W p l e R s m args below meth c H1 locs1 cells slots Q (F0 m (pc + 3) ls rest)) : W p l e R s m args below meth c H locs cells slots Q (F0 m pc ls (.ref x :: .ref a :: rest)) := va_putF (D := D) (ci := 3) (v := (.ref x)) (ty := ty_P 0) (C := "SealedBook$Prover") (T := F_P) (N := 1) hx hb hT in_P ty_P ok_P nm_P hown hK hP hD hS q0 he rfl 0 (by decide) (hT _ t_137) (fun _ h9 => h9) rfl hin2 rfl (by decide +kernel) rfl rfl hl hdg kk
theorem gf_P_30 (hx : p.tables.exec = Jvm.exec) (hb : c.code = cc) (hT : ∀ w ∈ TT, w.before args s = true) (hown : s.vm.findClass "SealedBook$Prover" = some m.cls) (hK : va_K D CC tys s) (hP : va_P D CC ws H) (q0 : Nat) {fs : List Value} (he : ws[q0]? = some (a, .inr (2, fs))) {v : Value} (hv : fs[0]? = some v) (hdg : decode cc pc = .ok (.getfield 30, 3)) (kk : W p l e R s m args below meth c H locs cells slots Q (F0 m (pc + 3) ls (v :: rest))) : W p l e R s m args below meth c H locs cells slots Q (F0 m pc ls (.ref a :: rest)) := va_get (D := D) (ci := 2) (C := "SealedBook$History") (T := F_H) (N := 2) hx hb hT in_H hown hK hP q0 he rfl 0 (by decide) (hT _ t_64) (fun _ h9 => h9) hv hdg kk
theorem gf_P_36 (hx : p.tables.exec = Jvm.exec) (hb : c.code = cc) (hT : ∀ w ∈ TT, w.before args s = true) (hown : s.vm.findClass "SealedBook$Prover" = some m.cls) (hK : va_K D CC tys s) (hP : va_P D CC ws H) (q0 : Nat) {fs : List Value} (he : ws[q0]? = some (a, .inr (1, fs))) {v : Value} (hv : fs[0]? = some v) (hdg : decode cc pc = .ok (.getfield 36, 3)) (kk : W p l e R s m args below meth c H locs cells slots Q (F0 m (pc + 3) ls (v :: rest))) : W p l e R s m args below meth c H locs cells slots Q (F0 m pc ls (.ref a :: rest)) := va_get (D := D) (ci := 1) (C := "SealedBook$Chunk") (T := F_C) (N := 6) hx hb hT in_C hown hK hP q0 he rfl 0 (by decide) (hT _ t_698) (fun _ h9 => h9) hv hdg kk
theorem gf_P_66 (hx : p.tables.exec = Jvm.exec) (hb : c.code = cc) (hT : ∀ w ∈ TT, w.before args s = true) (hown : s.vm.findClass "SealedBook$Prover" = some m.cls) (hK : va_K D CC tys s) (hP : va_P D CC ws H) (q0 : Nat) {fs : List Value} (he : ws[q0]? = some (a, .inr (1, fs))) {v : Value} (hv : fs[2]? = some v) (hdg : decode cc pc = .ok (.getfield 66, 3)) (kk : W p l e R s m args below meth c H locs cells slots Q (F0 m (pc + 3) ls (v :: rest))) : W p l e R s m args below meth c H locs cells slots Q (F0 m pc ls (.ref a :: rest)) := va_get (D := D) (ci := 1) (C := "SealedBook$Chunk") (T := F_C) (N := 6) hx hb hT in_C hown hK hP q0 he rfl 2 (by decide) (hT _ t_705) (fun _ h9 => h9) hv hdg kk
theorem gf_P_70 (hx : p.tables.exec = Jvm.exec) (hb : c.code = cc) (hT : ∀ w ∈ TT, w.before args s = true) (hown : s.vm.findClass "SealedBook$Prover" = some m.cls) (hK : va_K D CC tys s) (hP : va_P D CC ws H) (q0 : Nat) {fs : List Value} (he : ws[q0]? = some (a, .inr (1, fs))) {v : Value} (hv : fs[3]? = some v) (hdg : decode cc pc = .ok (.getfield 70, 3)) (kk : W p l e R s m args below meth c H locs cells slots Q (F0 m (pc + 3) ls (v :: rest))) : W p l e R s m args below meth c H locs cells slots Q (F0 m pc ls (.ref a :: rest)) := va_get (D := D) (ci := 1) (C := "SealedBook$Chunk") (T := F_C) (N := 6) hx hb hT in_C hown hK hP q0 he rfl 3 (by decide) (hT _ t_708) (fun _ h9 => h9) hv hdg kk
theorem gf_R_9 (hx : p.tables.exec = Jvm.exec) (hb : c.code = cc) (hT : ∀ w ∈ TT, w.before args s = true) (hown : s.vm.findClass "SealedBook$Row" = some m.cls) (hK : va_K D CC tys s) (hP : va_P D CC ws H) (q0 : Nat) {fs : List Value} (he : ws[q0]? = some (a, .inr (4, fs))) {v : Value} (hv : fs[0]? = some v) (hdg : decode cc pc = .ok (.getfield 9, 3)) (kk : W p l e R s m args below meth c H locs cells slots Q (F0 m (pc + 3) ls (v :: rest))) : W p l e R s m args below meth c H locs cells slots Q (F0 m pc ls (.ref a :: rest)) := va_get (D := D) (ci := 4) (C := "SealedBook$Row") (T := F_R) (N := 4) hx hb hT in_R hown hK hP q0 he rfl 0 (by decide) (hT _ t_97) (fun _ h9 => h9) hv hdg kk
theorem pf_R_9 (hx : p.tables.exec = Jvm.exec) (hb : c.code = cc) (hT : ∀ w ∈ TT, w.before args s = true) (hown : s.vm.findClass "SealedBook$Row" = some m.cls) (hK : va_K D CC tys s) (hP : va_P D CC ws H) (hD : va_D A ws) (hS : va_S A H0 H locs) (hin2 : meth.name = "<init>") (q0 : Nat) {fs : List Value} (he : ws[q0]? = some (a, .inr (4, fs))) (hl : 0 < fs.length) {x : Nat} (hdg : decode cc pc = .ok (.putfield 9, 3)) (kk : ∀ (H1 : Heap) (locs1 : List Loc), va_P D CC (ws.set q0 (a, .inr (4, fs.set 0 (.ref x)))) H1 → va_D A (ws.set q0 (a, .inr (4, fs.set 0 (.ref x)))) → va_S A H0 H1 locs1 → W p l e R s m args below meth c H1 locs1 cells slots Q (F0 m (pc + 3) ls rest)) : W p l e R s m args below meth c H locs cells slots Q (F0 m pc ls (.ref x :: .ref a :: rest)) := va_putF (D := D) (ci := 4) (v := (.ref x)) (ty := ty_R 0) (C := "SealedBook$Row") (T := F_R) (N := 4) hx hb hT in_R ty_R ok_R nm_R hown hK hP hD hS q0 he rfl 0 (by decide) (hT _ t_97) (fun _ h9 => h9) rfl hin2 rfl (by decide +kernel) rfl rfl hl hdg kk
theorem gf_R_15 (hx : p.tables.exec = Jvm.exec) (hb : c.code = cc) (hT : ∀ w ∈ TT, w.before args s = true) (hown : s.vm.findClass "SealedBook$Row" = some m.cls) (hK : va_K D CC tys s) (hP : va_P D CC ws H) (q0 : Nat) {fs : List Value} (he : ws[q0]? = some (a, .inr (4, fs))) {v : Value} (hv : fs[1]? = some v) (hdg : decode cc pc = .ok (.getfield 15, 3)) (kk : W p l e R s m args below meth c H locs cells slots Q (F0 m (pc + 3) ls (v :: rest))) : W p l e R s m args below meth c H locs cells slots Q (F0 m pc ls (.ref a :: rest)) := va_get (D := D) (ci := 4) (C := "SealedBook$Row") (T := F_R) (N := 4) hx hb hT in_R hown hK hP q0 he rfl 1 (by decide) (hT _ t_100) (fun _ h9 => h9) hv hdg kk
theorem pf_R_15 (hx : p.tables.exec = Jvm.exec) (hb : c.code = cc) (hT : ∀ w ∈ TT, w.before args s = true) (hown : s.vm.findClass "SealedBook$Row" = some m.cls) (hK : va_K D CC tys s) (hP : va_P D CC ws H) (hD : va_D A ws) (hS : va_S A H0 H locs) (hin2 : meth.name = "<init>") (q0 : Nat) {fs : List Value} (he : ws[q0]? = some (a, .inr (4, fs))) (hl : 1 < fs.length) {x : Nat} (hdg : decode cc pc = .ok (.putfield 15, 3)) (kk : ∀ (H1 : Heap) (locs1 : List Loc), va_P D CC (ws.set q0 (a, .inr (4, fs.set 1 (.ref x)))) H1 → va_D A (ws.set q0 (a, .inr (4, fs.set 1 (.ref x)))) → va_S A H0 H1 locs1 → W p l e R s m args below meth c H1 locs1 cells slots Q (F0 m (pc + 3) ls rest)) : W p l e R s m args below meth c H locs cells slots Q (F0 m pc ls (.ref x :: .ref a :: rest)) := va_putF (D := D) (ci := 4) (v := (.ref x)) (ty := ty_R 1) (C := "SealedBook$Row") (T := F_R) (N := 4) hx hb hT in_R ty_R ok_R nm_R hown hK hP hD hS q0 he rfl 1 (by decide) (hT _ t_100) (fun _ h9 => h9) rfl hin2 rfl (by decide +kernel) rfl rfl hl hdg kk
theorem gf_R_20 (hx : p.tables.exec = Jvm.exec) (hb : c.code = cc) (hT : ∀ w ∈ TT, w.before args s = true) (hown : s.vm.findClass "SealedBook$Row" = some m.cls) (hK : va_K D CC tys s) (hP : va_P D CC ws H) (q0 : Nat) {fs : List Value} (he : ws[q0]? = some (a, .inr (4, fs))) {v : Value} (hv : fs[2]? = some v) (hdg : decode cc pc = .ok (.getfield 20, 3)) (kk : W p l e R s m args below meth c H locs cells slots Q (F0 m (pc + 3) ls (v :: rest))) : W p l e R s m args below meth c H locs cells slots Q (F0 m pc ls (.ref a :: rest)) := va_get (D := D) (ci := 4) (C := "SealedBook$Row") (T := F_R) (N := 4) hx hb hT in_R hown hK hP q0 he rfl 2 (by decide) (hT _ t_102) (fun _ h9 => h9) hv hdg kk
theorem pf_R_20 (hx : p.tables.exec = Jvm.exec) (hb : c.code = cc) (hT : ∀ w ∈ TT, w.before args s = true) (hown : s.vm.findClass "SealedBook$Row" = some m.cls) (hK : va_K D CC tys s) (hP : va_P D CC ws H) (hD : va_D A ws) (hS : va_S A H0 H locs) (hin2 : meth.name = "<init>") (q0 : Nat) {fs : List Value} (he : ws[q0]? = some (a, .inr (4, fs))) (hl : 2 < fs.length) {x : Nat} (hdg : decode cc pc = .ok (.putfield 20, 3)) (kk : ∀ (H1 : Heap) (locs1 : List Loc), va_P D CC (ws.set q0 (a, .inr (4, fs.set 2 (.ref x)))) H1 → va_D A (ws.set q0 (a, .inr (4, fs.set 2 (.ref x)))) → va_S A H0 H1 locs1 → W p l e R s m args below meth c H1 locs1 cells slots Q (F0 m (pc + 3) ls rest)) : W p l e R s m args below meth c H locs cells slots Q (F0 m pc ls (.ref x :: .ref a :: rest)) := va_putF (D := D) (ci := 4) (v := (.ref x)) (ty := ty_R 2) (C := "SealedBook$Row") (T := F_R) (N := 4) hx hb hT in_R ty_R ok_R nm_R hown hK hP hD hS q0 he rfl 2 (by decide) (hT _ t_102) (fun _ h9 => h9) rfl hin2 rfl (by decide +kernel) rfl rfl hl hdg kk
theorem gf_R_24 (hx : p.tables.exec = Jvm.exec) (hb : c.code = cc) (hT : ∀ w ∈ TT, w.before args s = true) (hown : s.vm.findClass "SealedBook$Row" = some m.cls) (hK : va_K D CC tys s) (hP : va_P D CC ws H) (q0 : Nat) {fs : List Value} (he : ws[q0]? = some (a, .inr (4, fs))) {v : Value} (hv : fs[3]? = some v) (hdg : decode cc pc = .ok (.getfield 24, 3)) (kk : W p l e R s m args below meth c H locs cells slots Q (F0 m (pc + 3) ls (v :: rest))) : W p l e R s m args below meth c H locs cells slots Q (F0 m pc ls (.ref a :: rest)) := va_get (D := D) (ci := 4) (C := "SealedBook$Row") (T := F_R) (N := 4) hx hb hT in_R hown hK hP q0 he rfl 3 (by decide) (hT _ t_104) (fun _ h9 => h9) hv hdg kk
theorem pf_R_24 (hx : p.tables.exec = Jvm.exec) (hb : c.code = cc) (hT : ∀ w ∈ TT, w.before args s = true) (hown : s.vm.findClass "SealedBook$Row" = some m.cls) (hK : va_K D CC tys s) (hP : va_P D CC ws H) (hD : va_D A ws) (hS : va_S A H0 H locs) (q0 : Nat) {fs : List Value} (he : ws[q0]? = some (a, .inr (4, fs))) (hl : 3 < fs.length) {x : Int32} (hdg : decode cc pc = .ok (.putfield 24, 3)) (kk : ∀ (H1 : Heap) (locs1 : List Loc), va_P D CC (ws.set q0 (a, .inr (4, fs.set 3 (.int x)))) H1 → va_D A (ws.set q0 (a, .inr (4, fs.set 3 (.int x)))) → va_S A H0 H1 locs1 → W p l e R s m args below meth c H1 locs1 cells slots Q (F0 m (pc + 3) ls rest)) : W p l e R s m args below meth c H locs cells slots Q (F0 m pc ls (.int x :: .ref a :: rest)) := va_put (D := D) (ci := 4) (v := (.int x)) (ty := .int) (C := "SealedBook$Row") (T := F_R) (N := 4) hx hb hT in_R ty_R ok_R nm_R hown hK hP hD hS q0 he rfl 3 (by decide) (hT _ t_104) (fun _ h9 => h9) rfl (by decide +kernel) rfl rfl hl hdg kk
theorem gf_R_32 (hx : p.tables.exec = Jvm.exec) (hb : c.code = cc) (hT : ∀ w ∈ TT, w.before args s = true) (hown : s.vm.findClass "SealedBook$Row" = some m.cls) (hK : va_K D CC tys s) (hP : va_P D CC ws H) (q0 : Nat) {fs : List Value} (he : ws[q0]? = some (a, .inr (1, fs))) {v : Value} (hv : fs[2]? = some v) (hdg : decode cc pc = .ok (.getfield 32, 3)) (kk : W p l e R s m args below meth c H locs cells slots Q (F0 m (pc + 3) ls (v :: rest))) : W p l e R s m args below meth c H locs cells slots Q (F0 m pc ls (.ref a :: rest)) := va_get (D := D) (ci := 1) (C := "SealedBook$Chunk") (T := F_C) (N := 6) hx hb hT in_C hown hK hP q0 he rfl 2 (by decide) (hT _ t_704) (fun _ h9 => h9) hv hdg kk
theorem gf_R_33 (hx : p.tables.exec = Jvm.exec) (hb : c.code = cc) (hT : ∀ w ∈ TT, w.before args s = true) (hown : s.vm.findClass "SealedBook$Row" = some m.cls) (hK : va_K D CC tys s) (hP : va_P D CC ws H) (q0 : Nat) {fs : List Value} (he : ws[q0]? = some (a, .inr (1, fs))) {v : Value} (hv : fs[3]? = some v) (hdg : decode cc pc = .ok (.getfield 33, 3)) (kk : W p l e R s m args below meth c H locs cells slots Q (F0 m (pc + 3) ls (v :: rest))) : W p l e R s m args below meth c H locs cells slots Q (F0 m pc ls (.ref a :: rest)) := va_get (D := D) (ci := 1) (C := "SealedBook$Chunk") (T := F_C) (N := 6) hx hb hT in_C hown hK hP q0 he rfl 3 (by decide) (hT _ t_709) (fun _ h9 => h9) hv hdg kk
theorem gf_R_34 (hx : p.tables.exec = Jvm.exec) (hb : c.code = cc) (hT : ∀ w ∈ TT, w.before args s = true) (hown : s.vm.findClass "SealedBook$Row" = some m.cls) (hK : va_K D CC tys s) (hP : va_P D CC ws H) (q0 : Nat) {fs : List Value} (he : ws[q0]? = some (a, .inr (1, fs))) {v : Value} (hv : fs[4]? = some v) (hdg : decode cc pc = .ok (.getfield 34, 3)) (kk : W p l e R s m args below meth c H locs cells slots Q (F0 m (pc + 3) ls (v :: rest))) : W p l e R s m args below meth c H locs cells slots Q (F0 m pc ls (.ref a :: rest)) := va_get (D := D) (ci := 1) (C := "SealedBook$Chunk") (T := F_C) (N := 6) hx hb hT in_C hown hK hP q0 he rfl 4 (by decide) (hT _ t_712) (fun _ h9 => h9) hv hdg kk
theorem gf_S_11 (hx : p.tables.exec = Jvm.exec) (hb : c.code = cc) (hT : ∀ w ∈ TT, w.before args s = true) (hown : s.vm.findClass "SealedBook$Store" = some m.cls) (hK : va_K D CC tys s) (hP : va_P D CC ws H) (q0 : Nat) {fs : List Value} (he : ws[q0]? = some (a, .inr (5, fs))) {v : Value} (hv : fs[0]? = some v) (hdg : decode cc pc = .ok (.getfield 11, 3)) (kk : W p l e R s m args below meth c H locs cells slots Q (F0 m (pc + 3) ls (v :: rest))) : W p l e R s m args below meth c H locs cells slots Q (F0 m pc ls (.ref a :: rest)) := va_get (D := D) (ci := 5) (C := "SealedBook$Store") (T := F_S) (N := 3) hx hb hT in_S hown hK hP q0 he rfl 0 (by decide) (hT _ t_44) (fun _ h9 => h9) hv hdg kk
theorem pf_S_11 (hx : p.tables.exec = Jvm.exec) (hb : c.code = cc) (hT : ∀ w ∈ TT, w.before args s = true) (hown : s.vm.findClass "SealedBook$Store" = some m.cls) (hK : va_K D CC tys s) (hP : va_P D CC ws H) (hD : va_D A ws) (hS : va_S A H0 H locs) (hin2 : meth.name = "<init>") (q0 : Nat) {fs : List Value} (he : ws[q0]? = some (a, .inr (5, fs))) (hl : 0 < fs.length) {x : Nat} (hdg : decode cc pc = .ok (.putfield 11, 3)) (kk : ∀ (H1 : Heap) (locs1 : List Loc), va_P D CC (ws.set q0 (a, .inr (5, fs.set 0 (.ref x)))) H1 → va_D A (ws.set q0 (a, .inr (5, fs.set 0 (.ref x)))) → va_S A H0 H1 locs1 → W p l e R s m args below meth c H1 locs1 cells slots Q (F0 m (pc + 3) ls rest)) : W p l e R s m args below meth c H locs cells slots Q (F0 m pc ls (.ref x :: .ref a :: rest)) := va_putF (D := D) (ci := 5) (v := (.ref x)) (ty := ty_S 0) (C := "SealedBook$Store") (T := F_S) (N := 3) hx hb hT in_S ty_S ok_S nm_S hown hK hP hD hS q0 he rfl 0 (by decide) (hT _ t_44) (fun _ h9 => h9) rfl hin2 rfl (by decide +kernel) rfl rfl hl hdg kk
theorem gf_S_17 (hx : p.tables.exec = Jvm.exec) (hb : c.code = cc) (hT : ∀ w ∈ TT, w.before args s = true) (hown : s.vm.findClass "SealedBook$Store" = some m.cls) (hK : va_K D CC tys s) (hP : va_P D CC ws H) (q0 : Nat) {fs : List Value} (he : ws[q0]? = some (a, .inr (5, fs))) {v : Value} (hv : fs[1]? = some v) (hdg : decode cc pc = .ok (.getfield 17, 3)) (kk : W p l e R s m args below meth c H locs cells slots Q (F0 m (pc + 3) ls (v :: rest))) : W p l e R s m args below meth c H locs cells slots Q (F0 m pc ls (.ref a :: rest)) := va_get (D := D) (ci := 5) (C := "SealedBook$Store") (T := F_S) (N := 3) hx hb hT in_S hown hK hP q0 he rfl 1 (by decide) (hT _ t_45) (fun _ h9 => h9) hv hdg kk
theorem pf_S_17 (hx : p.tables.exec = Jvm.exec) (hb : c.code = cc) (hT : ∀ w ∈ TT, w.before args s = true) (hown : s.vm.findClass "SealedBook$Store" = some m.cls) (hK : va_K D CC tys s) (hP : va_P D CC ws H) (hD : va_D A ws) (hS : va_S A H0 H locs) (q0 : Nat) {fs : List Value} (he : ws[q0]? = some (a, .inr (5, fs))) (hl : 1 < fs.length) {x : Int32} (hdg : decode cc pc = .ok (.putfield 17, 3)) (kk : ∀ (H1 : Heap) (locs1 : List Loc), va_P D CC (ws.set q0 (a, .inr (5, fs.set 1 (.int x)))) H1 → va_D A (ws.set q0 (a, .inr (5, fs.set 1 (.int x)))) → va_S A H0 H1 locs1 → W p l e R s m args below meth c H1 locs1 cells slots Q (F0 m (pc + 3) ls rest)) : W p l e R s m args below meth c H locs cells slots Q (F0 m pc ls (.int x :: .ref a :: rest)) := va_put (D := D) (ci := 5) (v := (.int x)) (ty := .int) (C := "SealedBook$Store") (T := F_S) (N := 3) hx hb hT in_S ty_S ok_S nm_S hown hK hP hD hS q0 he rfl 1 (by decide) (hT _ t_45) (fun _ h9 => h9) rfl (by decide +kernel) rfl rfl hl hdg kk
theorem gf_S_21 (hx : p.tables.exec = Jvm.exec) (hb : c.code = cc) (hT : ∀ w ∈ TT, w.before args s = true) (hown : s.vm.findClass "SealedBook$Store" = some m.cls) (hK : va_K D CC tys s) (hP : va_P D CC ws H) (q0 : Nat) {fs : List Value} (he : ws[q0]? = some (a, .inr (5, fs))) {v : Value} (hv : fs[2]? = some v) (hdg : decode cc pc = .ok (.getfield 21, 3)) (kk : W p l e R s m args below meth c H locs cells slots Q (F0 m (pc + 3) ls (v :: rest))) : W p l e R s m args below meth c H locs cells slots Q (F0 m pc ls (.ref a :: rest)) := va_get (D := D) (ci := 5) (C := "SealedBook$Store") (T := F_S) (N := 3) hx hb hT in_S hown hK hP q0 he rfl 2 (by decide) (hT _ t_47) (fun _ h9 => h9) hv hdg kk
theorem pf_S_21 (hx : p.tables.exec = Jvm.exec) (hb : c.code = cc) (hT : ∀ w ∈ TT, w.before args s = true) (hown : s.vm.findClass "SealedBook$Store" = some m.cls) (hK : va_K D CC tys s) (hP : va_P D CC ws H) (hD : va_D A ws) (hS : va_S A H0 H locs) (q0 : Nat) {fs : List Value} (he : ws[q0]? = some (a, .inr (5, fs))) (hl : 2 < fs.length) {x : Int32} (hdg : decode cc pc = .ok (.putfield 21, 3)) (kk : ∀ (H1 : Heap) (locs1 : List Loc), va_P D CC (ws.set q0 (a, .inr (5, fs.set 2 (.int x)))) H1 → va_D A (ws.set q0 (a, .inr (5, fs.set 2 (.int x)))) → va_S A H0 H1 locs1 → W p l e R s m args below meth c H1 locs1 cells slots Q (F0 m (pc + 3) ls rest)) : W p l e R s m args below meth c H locs cells slots Q (F0 m pc ls (.int x :: .ref a :: rest)) := va_put (D := D) (ci := 5) (v := (.int x)) (ty := .int) (C := "SealedBook$Store") (T := F_S) (N := 3) hx hb hT in_S ty_S ok_S nm_S hown hK hP hD hS q0 he rfl 2 (by decide) (hT _ t_47) (fun _ h9 => h9) rfl (by decide +kernel) rfl rfl hl hdg kk
theorem gf_S_24 (hx : p.tables.exec = Jvm.exec) (hb : c.code = cc) (hT : ∀ w ∈ TT, w.before args s = true) (hown : s.vm.findClass "SealedBook$Store" = some m.cls) (hK : va_K D CC tys s) (hP : va_P D CC ws H) (q0 : Nat) {fs : List Value} (he : ws[q0]? = some (a, .inr (4, fs))) {v : Value} (hv : fs[3]? = some v) (hdg : decode cc pc = .ok (.getfield 24, 3)) (kk : W p l e R s m args below meth c H locs cells slots Q (F0 m (pc + 3) ls (v :: rest))) : W p l e R s m args below meth c H locs cells slots Q (F0 m pc ls (.ref a :: rest)) := va_get (D := D) (ci := 4) (C := "SealedBook$Row") (T := F_R) (N := 4) hx hb hT in_R hown hK hP q0 he rfl 3 (by decide) (hT _ t_105) (fun _ h9 => h9) hv hdg kk
theorem pf_S_24 (hx : p.tables.exec = Jvm.exec) (hb : c.code = cc) (hT : ∀ w ∈ TT, w.before args s = true) (hown : s.vm.findClass "SealedBook$Store" = some m.cls) (hK : va_K D CC tys s) (hP : va_P D CC ws H) (hD : va_D A ws) (hS : va_S A H0 H locs) (q0 : Nat) {fs : List Value} (he : ws[q0]? = some (a, .inr (4, fs))) (hl : 3 < fs.length) {x : Int32} (hdg : decode cc pc = .ok (.putfield 24, 3)) (kk : ∀ (H1 : Heap) (locs1 : List Loc), va_P D CC (ws.set q0 (a, .inr (4, fs.set 3 (.int x)))) H1 → va_D A (ws.set q0 (a, .inr (4, fs.set 3 (.int x)))) → va_S A H0 H1 locs1 → W p l e R s m args below meth c H1 locs1 cells slots Q (F0 m (pc + 3) ls rest)) : W p l e R s m args below meth c H locs cells slots Q (F0 m pc ls (.int x :: .ref a :: rest)) := va_put (D := D) (ci := 4) (v := (.int x)) (ty := .int) (C := "SealedBook$Row") (T := F_R) (N := 4) hx hb hT in_R ty_R ok_R nm_R hown hK hP hD hS q0 he rfl 3 (by decide) (hT _ t_105) (fun _ h9 => h9) rfl (by decide +kernel) rfl rfl hl hdg kk
theorem gf_S_31 (hx : p.tables.exec = Jvm.exec) (hb : c.code = cc) (hT : ∀ w ∈ TT, w.before args s = true) (hown : s.vm.findClass "SealedBook$Store" = some m.cls) (hK : va_K D CC tys s) (hP : va_P D CC ws H) (q0 : Nat) {fs : List Value} (he : ws[q0]? = some (a, .inr (4, fs))) {v : Value} (hv : fs[0]? = some v) (hdg : decode cc pc = .ok (.getfield 31, 3)) (kk : W p l e R s m args below meth c H locs cells slots Q (F0 m (pc + 3) ls (v :: rest))) : W p l e R s m args below meth c H locs cells slots Q (F0 m pc ls (.ref a :: rest)) := va_get (D := D) (ci := 4) (C := "SealedBook$Row") (T := F_R) (N := 4) hx hb hT in_R hown hK hP q0 he rfl 0 (by decide) (hT _ t_99) (fun _ h9 => h9) hv hdg kk
theorem gf_S_43 (hx : p.tables.exec = Jvm.exec) (hb : c.code = cc) (hT : ∀ w ∈ TT, w.before args s = true) (hown : s.vm.findClass "SealedBook$Store" = some m.cls) (hK : va_K D CC tys s) (hP : va_P D CC ws H) (q0 : Nat) {fs : List Value} (he : ws[q0]? = some (a, .inr (1, fs))) {v : Value} (hv : fs[1]? = some v) (hdg : decode cc pc = .ok (.getfield 43, 3)) (kk : W p l e R s m args below meth c H locs cells slots Q (F0 m (pc + 3) ls (v :: rest))) : W p l e R s m args below meth c H locs cells slots Q (F0 m pc ls (.ref a :: rest)) := va_get (D := D) (ci := 1) (C := "SealedBook$Chunk") (T := F_C) (N := 6) hx hb hT in_C hown hK hP q0 he rfl 1 (by decide) (hT _ t_702) (fun _ h9 => h9) hv hdg kk
theorem gf_S_54 (hx : p.tables.exec = Jvm.exec) (hb : c.code = cc) (hT : ∀ w ∈ TT, w.before args s = true) (hown : s.vm.findClass "SealedBook$Store" = some m.cls) (hK : va_K D CC tys s) (hP : va_P D CC ws H) (q0 : Nat) {fs : List Value} (he : ws[q0]? = some (a, .inr (1, fs))) {v : Value} (hv : fs[0]? = some v) (hdg : decode cc pc = .ok (.getfield 54, 3)) (kk : W p l e R s m args below meth c H locs cells slots Q (F0 m (pc + 3) ls (v :: rest))) : W p l e R s m args below meth c H locs cells slots Q (F0 m pc ls (.ref a :: rest)) := va_get (D := D) (ci := 1) (C := "SealedBook$Chunk") (T := F_C) (N := 6) hx hb hT in_C hown hK hP q0 he rfl 0 (by decide) (hT _ t_699) (fun _ h9 => h9) hv hdg kk
theorem gf_S_61 (hx : p.tables.exec = Jvm.exec) (hb : c.code = cc) (hT : ∀ w ∈ TT, w.before args s = true) (hown : s.vm.findClass "SealedBook$Store" = some m.cls) (hK : va_K D CC tys s) (hP : va_P D CC ws H) (q0 : Nat) {fs : List Value} (he : ws[q0]? = some (a, .inr (1, fs))) {v : Value} (hv : fs[5]? = some v) (hdg : decode cc pc = .ok (.getfield 61, 3)) (kk : W p l e R s m args below meth c H locs cells slots Q (F0 m (pc + 3) ls (v :: rest))) : W p l e R s m args below meth c H locs cells slots Q (F0 m pc ls (.ref a :: rest)) := va_get (D := D) (ci := 1) (C := "SealedBook$Chunk") (T := F_C) (N := 6) hx hb hT in_C hown hK hP q0 he rfl 5 (by decide) (hT _ t_714) (fun _ h9 => h9) hv hdg kk
theorem gf_T_9 (hx : p.tables.exec = Jvm.exec) (hb : c.code = cc) (hT : ∀ w ∈ TT, w.before args s = true) (hown : s.vm.findClass "SealedBook$Transaction" = some m.cls) (hK : va_K D CC tys s) (hP : va_P D CC ws H) (q0 : Nat) {fs : List Value} (he : ws[q0]? = some (a, .inr (6, fs))) {v : Value} (hv : fs[0]? = some v) (hdg : decode cc pc = .ok (.getfield 9, 3)) (kk : W p l e R s m args below meth c H locs cells slots Q (F0 m (pc + 3) ls (v :: rest))) : W p l e R s m args below meth c H locs cells slots Q (F0 m pc ls (.ref a :: rest)) := va_get (D := D) (ci := 6) (C := "SealedBook$Transaction") (T := F_T) (N := 2) hx hb hT in_T hown hK hP q0 he rfl 0 (by decide) (hT _ t_79) (fun _ h9 => h9) hv hdg kk
theorem pf_T_9 (hx : p.tables.exec = Jvm.exec) (hb : c.code = cc) (hT : ∀ w ∈ TT, w.before args s = true) (hown : s.vm.findClass "SealedBook$Transaction" = some m.cls) (hK : va_K D CC tys s) (hP : va_P D CC ws H) (hD : va_D A ws) (hS : va_S A H0 H locs) (hin2 : meth.name = "<init>") (q0 : Nat) {fs : List Value} (he : ws[q0]? = some (a, .inr (6, fs))) (hl : 0 < fs.length) {x : Nat} (hdg : decode cc pc = .ok (.putfield 9, 3)) (kk : ∀ (H1 : Heap) (locs1 : List Loc), va_P D CC (ws.set q0 (a, .inr (6, fs.set 0 (.ref x)))) H1 → va_D A (ws.set q0 (a, .inr (6, fs.set 0 (.ref x)))) → va_S A H0 H1 locs1 → W p l e R s m args below meth c H1 locs1 cells slots Q (F0 m (pc + 3) ls rest)) : W p l e R s m args below meth c H locs cells slots Q (F0 m pc ls (.ref x :: .ref a :: rest)) := va_putF (D := D) (ci := 6) (v := (.ref x)) (ty := ty_T 0) (C := "SealedBook$Transaction") (T := F_T) (N := 2) hx hb hT in_T ty_T ok_T nm_T hown hK hP hD hS q0 he rfl 0 (by decide) (hT _ t_79) (fun _ h9 => h9) rfl hin2 rfl (by decide +kernel) rfl rfl hl hdg kk
theorem gf_T_15 (hx : p.tables.exec = Jvm.exec) (hb : c.code = cc) (hT : ∀ w ∈ TT, w.before args s = true) (hown : s.vm.findClass "SealedBook$Transaction" = some m.cls) (hK : va_K D CC tys s) (hP : va_P D CC ws H) (q0 : Nat) {fs : List Value} (he : ws[q0]? = some (a, .inr (6, fs))) {v : Value} (hv : fs[1]? = some v) (hdg : decode cc pc = .ok (.getfield 15, 3)) (kk : W p l e R s m args below meth c H locs cells slots Q (F0 m (pc + 3) ls (v :: rest))) : W p l e R s m args below meth c H locs cells slots Q (F0 m pc ls (.ref a :: rest)) := va_get (D := D) (ci := 6) (C := "SealedBook$Transaction") (T := F_T) (N := 2) hx hb hT in_T hown hK hP q0 he rfl 1 (by decide) (hT _ t_81) (fun _ h9 => h9) hv hdg kk
theorem pf_T_15 (hx : p.tables.exec = Jvm.exec) (hb : c.code = cc) (hT : ∀ w ∈ TT, w.before args s = true) (hown : s.vm.findClass "SealedBook$Transaction" = some m.cls) (hK : va_K D CC tys s) (hP : va_P D CC ws H) (hD : va_D A ws) (hS : va_S A H0 H locs) (hin2 : meth.name = "<init>") (q0 : Nat) {fs : List Value} (he : ws[q0]? = some (a, .inr (6, fs))) (hl : 1 < fs.length) {x : Nat} (hdg : decode cc pc = .ok (.putfield 15, 3)) (kk : ∀ (H1 : Heap) (locs1 : List Loc), va_P D CC (ws.set q0 (a, .inr (6, fs.set 1 (.ref x)))) H1 → va_D A (ws.set q0 (a, .inr (6, fs.set 1 (.ref x)))) → va_S A H0 H1 locs1 → W p l e R s m args below meth c H1 locs1 cells slots Q (F0 m (pc + 3) ls rest)) : W p l e R s m args below meth c H locs cells slots Q (F0 m pc ls (.ref x :: .ref a :: rest)) := va_putF (D := D) (ci := 6) (v := (.ref x)) (ty := ty_T 1) (C := "SealedBook$Transaction") (T := F_T) (N := 2) hx hb hT in_T ty_T ok_T nm_T hown hK hP hD hS q0 he rfl 1 (by decide) (hT _ t_81) (fun _ h9 => h9) rfl hin2 rfl (by decide +kernel) rfl rfl hl hdg kk
theorem pf_T_37 (hx : p.tables.exec = Jvm.exec) (hb : c.code = cc) (hT : ∀ w ∈ TT, w.before args s = true) (hown : s.vm.findClass "SealedBook$Transaction" = some m.cls) (hK : va_K D CC tys s) (hP : va_P D CC ws H) (hD : va_D A ws) (hS : va_S A H0 H locs) (q0 : Nat) {fs : List Value} (he : ws[q0]? = some (a, .inr (4, fs))) (hl : 3 < fs.length) {x : Int32} (hdg : decode cc pc = .ok (.putfield 37, 3)) (kk : ∀ (H1 : Heap) (locs1 : List Loc), va_P D CC (ws.set q0 (a, .inr (4, fs.set 3 (.int x)))) H1 → va_D A (ws.set q0 (a, .inr (4, fs.set 3 (.int x)))) → va_S A H0 H1 locs1 → W p l e R s m args below meth c H1 locs1 cells slots Q (F0 m (pc + 3) ls rest)) : W p l e R s m args below meth c H locs cells slots Q (F0 m pc ls (.int x :: .ref a :: rest)) := va_put (D := D) (ci := 4) (v := (.int x)) (ty := .int) (C := "SealedBook$Row") (T := F_R) (N := 4) hx hb hT in_R ty_R ok_R nm_R hown hK hP hD hS q0 he rfl 3 (by decide) (hT _ t_106) (fun _ h9 => h9) rfl (by decide +kernel) rfl rfl hl hdg kk
theorem gf_V_12 (hx : p.tables.exec = Jvm.exec) (hb : c.code = cc) (hT : ∀ w ∈ TT, w.before args s = true) (hown : s.vm.findClass "SealedBook$Verifier" = some m.cls) (hK : va_K D CC tys s) (hP : va_P D CC ws H) (q0 : Nat) {fs : List Value} (he : ws[q0]? = some (a, .inr (7, fs))) {v : Value} (hv : fs[0]? = some v) (hdg : decode cc pc = .ok (.getfield 12, 3)) (kk : W p l e R s m args below meth c H locs cells slots Q (F0 m (pc + 3) ls (v :: rest))) : W p l e R s m args below meth c H locs cells slots Q (F0 m pc ls (.ref a :: rest)) := va_get (D := D) (ci := 7) (C := "SealedBook$Verifier") (T := F_V) (N := 11) hx hb hT in_V hown hK hP q0 he rfl 0 (by decide) (hT _ t_150) (fun _ h9 => h9) hv hdg kk
theorem pf_V_12 (hx : p.tables.exec = Jvm.exec) (hb : c.code = cc) (hT : ∀ w ∈ TT, w.before args s = true) (hown : s.vm.findClass "SealedBook$Verifier" = some m.cls) (hK : va_K D CC tys s) (hP : va_P D CC ws H) (hD : va_D A ws) (hS : va_S A H0 H locs) (hin2 : meth.name = "<init>") (q0 : Nat) {fs : List Value} (he : ws[q0]? = some (a, .inr (7, fs))) (hl : 0 < fs.length) {x : Nat} (hdg : decode cc pc = .ok (.putfield 12, 3)) (kk : ∀ (H1 : Heap) (locs1 : List Loc), va_P D CC (ws.set q0 (a, .inr (7, fs.set 0 (.ref x)))) H1 → va_D A (ws.set q0 (a, .inr (7, fs.set 0 (.ref x)))) → va_S A H0 H1 locs1 → W p l e R s m args below meth c H1 locs1 cells slots Q (F0 m (pc + 3) ls rest)) : W p l e R s m args below meth c H locs cells slots Q (F0 m pc ls (.ref x :: .ref a :: rest)) := va_putF (D := D) (ci := 7) (v := (.ref x)) (ty := ty_V 0) (C := "SealedBook$Verifier") (T := F_V) (N := 11) hx hb hT in_V ty_V ok_V nm_V hown hK hP hD hS q0 he rfl 0 (by decide) (hT _ t_150) (fun _ h9 => h9) rfl hin2 rfl (by decide +kernel) rfl rfl hl hdg kk
theorem pf_V_18 (hx : p.tables.exec = Jvm.exec) (hb : c.code = cc) (hT : ∀ w ∈ TT, w.before args s = true) (hown : s.vm.findClass "SealedBook$Verifier" = some m.cls) (hK : va_K D CC tys s) (hP : va_P D CC ws H) (hD : va_D A ws) (hS : va_S A H0 H locs) (q0 : Nat) {fs : List Value} (he : ws[q0]? = some (a, .inr (7, fs))) (hl : 1 < fs.length) {x : Int32} (hdg : decode cc pc = .ok (.putfield 18, 3)) (kk : ∀ (H1 : Heap) (locs1 : List Loc), va_P D CC (ws.set q0 (a, .inr (7, fs.set 1 (.int x)))) H1 → va_D A (ws.set q0 (a, .inr (7, fs.set 1 (.int x)))) → va_S A H0 H1 locs1 → W p l e R s m args below meth c H1 locs1 cells slots Q (F0 m (pc + 3) ls rest)) : W p l e R s m args below meth c H locs cells slots Q (F0 m pc ls (.int x :: .ref a :: rest)) := va_put (D := D) (ci := 7) (v := (.int x)) (ty := .int) (C := "SealedBook$Verifier") (T := F_V) (N := 11) hx hb hT in_V ty_V ok_V nm_V hown hK hP hD hS q0 he rfl 1 (by decide) (hT _ t_152) (fun _ h9 => h9) rfl (by decide +kernel) rfl rfl hl hdg kk
theorem gf_V_22 (hx : p.tables.exec = Jvm.exec) (hb : c.code = cc) (hT : ∀ w ∈ TT, w.before args s = true) (hown : s.vm.findClass "SealedBook$Verifier" = some m.cls) (hK : va_K D CC tys s) (hP : va_P D CC ws H) (q0 : Nat) {fs : List Value} (he : ws[q0]? = some (a, .inr (7, fs))) {v : Value} (hv : fs[2]? = some v) (hdg : decode cc pc = .ok (.getfield 22, 3)) (kk : W p l e R s m args below meth c H locs cells slots Q (F0 m (pc + 3) ls (v :: rest))) : W p l e R s m args below meth c H locs cells slots Q (F0 m pc ls (.ref a :: rest)) := va_get (D := D) (ci := 7) (C := "SealedBook$Verifier") (T := F_V) (N := 11) hx hb hT in_V hown hK hP q0 he rfl 2 (by decide) (hT _ t_154) (fun _ h9 => h9) hv hdg kk
theorem pf_V_22 (hx : p.tables.exec = Jvm.exec) (hb : c.code = cc) (hT : ∀ w ∈ TT, w.before args s = true) (hown : s.vm.findClass "SealedBook$Verifier" = some m.cls) (hK : va_K D CC tys s) (hP : va_P D CC ws H) (hD : va_D A ws) (hS : va_S A H0 H locs) (q0 : Nat) {fs : List Value} (he : ws[q0]? = some (a, .inr (7, fs))) (hl : 2 < fs.length) {x : Int32} (hdg : decode cc pc = .ok (.putfield 22, 3)) (kk : ∀ (H1 : Heap) (locs1 : List Loc), va_P D CC (ws.set q0 (a, .inr (7, fs.set 2 (.int x)))) H1 → va_D A (ws.set q0 (a, .inr (7, fs.set 2 (.int x)))) → va_S A H0 H1 locs1 → W p l e R s m args below meth c H1 locs1 cells slots Q (F0 m (pc + 3) ls rest)) : W p l e R s m args below meth c H locs cells slots Q (F0 m pc ls (.int x :: .ref a :: rest)) := va_put (D := D) (ci := 7) (v := (.int x)) (ty := .int) (C := "SealedBook$Verifier") (T := F_V) (N := 11) hx hb hT in_V ty_V ok_V nm_V hown hK hP hD hS q0 he rfl 2 (by decide) (hT _ t_154) (fun _ h9 => h9) rfl (by decide +kernel) rfl rfl hl hdg kk
theorem gf_V_25 (hx : p.tables.exec = Jvm.exec) (hb : c.code = cc) (hT : ∀ w ∈ TT, w.before args s = true) (hown : s.vm.findClass "SealedBook$Verifier" = some m.cls) (hK : va_K D CC tys s) (hP : va_P D CC ws H) (q0 : Nat) {fs : List Value} (he : ws[q0]? = some (a, .inr (7, fs))) {v : Value} (hv : fs[3]? = some v) (hdg : decode cc pc = .ok (.getfield 25, 3)) (kk : W p l e R s m args below meth c H locs cells slots Q (F0 m (pc + 3) ls (v :: rest))) : W p l e R s m args below meth c H locs cells slots Q (F0 m pc ls (.ref a :: rest)) := va_get (D := D) (ci := 7) (C := "SealedBook$Verifier") (T := F_V) (N := 11) hx hb hT in_V hown hK hP q0 he rfl 3 (by decide) (hT _ t_155) (fun _ h9 => h9) hv hdg kk
theorem pf_V_25 (hx : p.tables.exec = Jvm.exec) (hb : c.code = cc) (hT : ∀ w ∈ TT, w.before args s = true) (hown : s.vm.findClass "SealedBook$Verifier" = some m.cls) (hK : va_K D CC tys s) (hP : va_P D CC ws H) (hD : va_D A ws) (hS : va_S A H0 H locs) (q0 : Nat) {fs : List Value} (he : ws[q0]? = some (a, .inr (7, fs))) (hl : 3 < fs.length) {x : Int32} (hdg : decode cc pc = .ok (.putfield 25, 3)) (kk : ∀ (H1 : Heap) (locs1 : List Loc), va_P D CC (ws.set q0 (a, .inr (7, fs.set 3 (.int x)))) H1 → va_D A (ws.set q0 (a, .inr (7, fs.set 3 (.int x)))) → va_S A H0 H1 locs1 → W p l e R s m args below meth c H1 locs1 cells slots Q (F0 m (pc + 3) ls rest)) : W p l e R s m args below meth c H locs cells slots Q (F0 m pc ls (.int x :: .ref a :: rest)) := va_put (D := D) (ci := 7) (v := (.int x)) (ty := .int) (C := "SealedBook$Verifier") (T := F_V) (N := 11) hx hb hT in_V ty_V ok_V nm_V hown hK hP hD hS q0 he rfl 3 (by decide) (hT _ t_155) (fun _ h9 => h9) rfl (by decide +kernel) rfl rfl hl hdg kk
theorem gf_V_28 (hx : p.tables.exec = Jvm.exec) (hb : c.code = cc) (hT : ∀ w ∈ TT, w.before args s = true) (hown : s.vm.findClass "SealedBook$Verifier" = some m.cls) (hK : va_K D CC tys s) (hP : va_P D CC ws H) (q0 : Nat) {fs : List Value} (he : ws[q0]? = some (a, .inr (7, fs))) {v : Value} (hv : fs[4]? = some v) (hdg : decode cc pc = .ok (.getfield 28, 3)) (kk : W p l e R s m args below meth c H locs cells slots Q (F0 m (pc + 3) ls (v :: rest))) : W p l e R s m args below meth c H locs cells slots Q (F0 m pc ls (.ref a :: rest)) := va_get (D := D) (ci := 7) (C := "SealedBook$Verifier") (T := F_V) (N := 11) hx hb hT in_V hown hK hP q0 he rfl 4 (by decide) (hT _ t_156) (fun _ h9 => h9) hv hdg kk
theorem pf_V_28 (hx : p.tables.exec = Jvm.exec) (hb : c.code = cc) (hT : ∀ w ∈ TT, w.before args s = true) (hown : s.vm.findClass "SealedBook$Verifier" = some m.cls) (hK : va_K D CC tys s) (hP : va_P D CC ws H) (hD : va_D A ws) (hS : va_S A H0 H locs) (q0 : Nat) {fs : List Value} (he : ws[q0]? = some (a, .inr (7, fs))) (hl : 4 < fs.length) {x : Int32} (hdg : decode cc pc = .ok (.putfield 28, 3)) (kk : ∀ (H1 : Heap) (locs1 : List Loc), va_P D CC (ws.set q0 (a, .inr (7, fs.set 4 (.int x)))) H1 → va_D A (ws.set q0 (a, .inr (7, fs.set 4 (.int x)))) → va_S A H0 H1 locs1 → W p l e R s m args below meth c H1 locs1 cells slots Q (F0 m (pc + 3) ls rest)) : W p l e R s m args below meth c H locs cells slots Q (F0 m pc ls (.int x :: .ref a :: rest)) := va_put (D := D) (ci := 7) (v := (.int x)) (ty := .int) (C := "SealedBook$Verifier") (T := F_V) (N := 11) hx hb hT in_V ty_V ok_V nm_V hown hK hP hD hS q0 he rfl 4 (by decide) (hT _ t_156) (fun _ h9 => h9) rfl (by decide +kernel) rfl rfl hl hdg kk
theorem gf_V_31 (hx : p.tables.exec = Jvm.exec) (hb : c.code = cc) (hT : ∀ w ∈ TT, w.before args s = true) (hown : s.vm.findClass "SealedBook$Verifier" = some m.cls) (hK : va_K D CC tys s) (hP : va_P D CC ws H) (q0 : Nat) {fs : List Value} (he : ws[q0]? = some (a, .inr (7, fs))) {v : Value} (hv : fs[5]? = some v) (hdg : decode cc pc = .ok (.getfield 31, 3)) (kk : W p l e R s m args below meth c H locs cells slots Q (F0 m (pc + 3) ls (v :: rest))) : W p l e R s m args below meth c H locs cells slots Q (F0 m pc ls (.ref a :: rest)) := va_get (D := D) (ci := 7) (C := "SealedBook$Verifier") (T := F_V) (N := 11) hx hb hT in_V hown hK hP q0 he rfl 5 (by decide) (hT _ t_157) (fun _ h9 => h9) hv hdg kk
theorem pf_V_31 (hx : p.tables.exec = Jvm.exec) (hb : c.code = cc) (hT : ∀ w ∈ TT, w.before args s = true) (hown : s.vm.findClass "SealedBook$Verifier" = some m.cls) (hK : va_K D CC tys s) (hP : va_P D CC ws H) (hD : va_D A ws) (hS : va_S A H0 H locs) (q0 : Nat) {fs : List Value} (he : ws[q0]? = some (a, .inr (7, fs))) (hl : 5 < fs.length) {x : Int32} (hdg : decode cc pc = .ok (.putfield 31, 3)) (kk : ∀ (H1 : Heap) (locs1 : List Loc), va_P D CC (ws.set q0 (a, .inr (7, fs.set 5 (.int x)))) H1 → va_D A (ws.set q0 (a, .inr (7, fs.set 5 (.int x)))) → va_S A H0 H1 locs1 → W p l e R s m args below meth c H1 locs1 cells slots Q (F0 m (pc + 3) ls rest)) : W p l e R s m args below meth c H locs cells slots Q (F0 m pc ls (.int x :: .ref a :: rest)) := va_put (D := D) (ci := 7) (v := (.int x)) (ty := .int) (C := "SealedBook$Verifier") (T := F_V) (N := 11) hx hb hT in_V ty_V ok_V nm_V hown hK hP hD hS q0 he rfl 5 (by decide) (hT _ t_157) (fun _ h9 => h9) rfl (by decide +kernel) rfl rfl hl hdg kk
theorem gf_V_34 (hx : p.tables.exec = Jvm.exec) (hb : c.code = cc) (hT : ∀ w ∈ TT, w.before args s = true) (hown : s.vm.findClass "SealedBook$Verifier" = some m.cls) (hK : va_K D CC tys s) (hP : va_P D CC ws H) (q0 : Nat) {fs : List Value} (he : ws[q0]? = some (a, .inr (7, fs))) {v : Value} (hv : fs[6]? = some v) (hdg : decode cc pc = .ok (.getfield 34, 3)) (kk : W p l e R s m args below meth c H locs cells slots Q (F0 m (pc + 3) ls (v :: rest))) : W p l e R s m args below meth c H locs cells slots Q (F0 m pc ls (.ref a :: rest)) := va_get (D := D) (ci := 7) (C := "SealedBook$Verifier") (T := F_V) (N := 11) hx hb hT in_V hown hK hP q0 he rfl 6 (by decide) (hT _ t_158) (fun _ h9 => h9) hv hdg kk
theorem pf_V_34 (hx : p.tables.exec = Jvm.exec) (hb : c.code = cc) (hT : ∀ w ∈ TT, w.before args s = true) (hown : s.vm.findClass "SealedBook$Verifier" = some m.cls) (hK : va_K D CC tys s) (hP : va_P D CC ws H) (hD : va_D A ws) (hS : va_S A H0 H locs) (q0 : Nat) {fs : List Value} (he : ws[q0]? = some (a, .inr (7, fs))) (hl : 6 < fs.length) {x : Int32} (hdg : decode cc pc = .ok (.putfield 34, 3)) (kk : ∀ (H1 : Heap) (locs1 : List Loc), va_P D CC (ws.set q0 (a, .inr (7, fs.set 6 (.int x)))) H1 → va_D A (ws.set q0 (a, .inr (7, fs.set 6 (.int x)))) → va_S A H0 H1 locs1 → W p l e R s m args below meth c H1 locs1 cells slots Q (F0 m (pc + 3) ls rest)) : W p l e R s m args below meth c H locs cells slots Q (F0 m pc ls (.int x :: .ref a :: rest)) := va_put (D := D) (ci := 7) (v := (.int x)) (ty := .int) (C := "SealedBook$Verifier") (T := F_V) (N := 11) hx hb hT in_V ty_V ok_V nm_V hown hK hP hD hS q0 he rfl 6 (by decide) (hT _ t_158) (fun _ h9 => h9) rfl (by decide +kernel) rfl rfl hl hdg kk
theorem gf_V_37 (hx : p.tables.exec = Jvm.exec) (hb : c.code = cc) (hT : ∀ w ∈ TT, w.before args s = true) (hown : s.vm.findClass "SealedBook$Verifier" = some m.cls) (hK : va_K D CC tys s) (hP : va_P D CC ws H) (q0 : Nat) {fs : List Value} (he : ws[q0]? = some (a, .inr (7, fs))) {v : Value} (hv : fs[7]? = some v) (hdg : decode cc pc = .ok (.getfield 37, 3)) (kk : W p l e R s m args below meth c H locs cells slots Q (F0 m (pc + 3) ls (v :: rest))) : W p l e R s m args below meth c H locs cells slots Q (F0 m pc ls (.ref a :: rest)) := va_get (D := D) (ci := 7) (C := "SealedBook$Verifier") (T := F_V) (N := 11) hx hb hT in_V hown hK hP q0 he rfl 7 (by decide) (hT _ t_159) (fun _ h9 => h9) hv hdg kk
theorem pf_V_37 (hx : p.tables.exec = Jvm.exec) (hb : c.code = cc) (hT : ∀ w ∈ TT, w.before args s = true) (hown : s.vm.findClass "SealedBook$Verifier" = some m.cls) (hK : va_K D CC tys s) (hP : va_P D CC ws H) (hD : va_D A ws) (hS : va_S A H0 H locs) (q0 : Nat) {fs : List Value} (he : ws[q0]? = some (a, .inr (7, fs))) (hl : 7 < fs.length) {x : Int32} (hdg : decode cc pc = .ok (.putfield 37, 3)) (kk : ∀ (H1 : Heap) (locs1 : List Loc), va_P D CC (ws.set q0 (a, .inr (7, fs.set 7 (.int x)))) H1 → va_D A (ws.set q0 (a, .inr (7, fs.set 7 (.int x)))) → va_S A H0 H1 locs1 → W p l e R s m args below meth c H1 locs1 cells slots Q (F0 m (pc + 3) ls rest)) : W p l e R s m args below meth c H locs cells slots Q (F0 m pc ls (.int x :: .ref a :: rest)) := va_put (D := D) (ci := 7) (v := (.int x)) (ty := .int) (C := "SealedBook$Verifier") (T := F_V) (N := 11) hx hb hT in_V ty_V ok_V nm_V hown hK hP hD hS q0 he rfl 7 (by decide) (hT _ t_159) (fun _ h9 => h9) rfl (by decide +kernel) rfl rfl hl hdg kk
theorem gf_V_40 (hx : p.tables.exec = Jvm.exec) (hb : c.code = cc) (hT : ∀ w ∈ TT, w.before args s = true) (hown : s.vm.findClass "SealedBook$Verifier" = some m.cls) (hK : va_K D CC tys s) (hP : va_P D CC ws H) (q0 : Nat) {fs : List Value} (he : ws[q0]? = some (a, .inr (7, fs))) {v : Value} (hv : fs[8]? = some v) (hdg : decode cc pc = .ok (.getfield 40, 3)) (kk : W p l e R s m args below meth c H locs cells slots Q (F0 m (pc + 3) ls (v :: rest))) : W p l e R s m args below meth c H locs cells slots Q (F0 m pc ls (.ref a :: rest)) := va_get (D := D) (ci := 7) (C := "SealedBook$Verifier") (T := F_V) (N := 11) hx hb hT in_V hown hK hP q0 he rfl 8 (by decide) (hT _ t_160) (fun _ h9 => h9) hv hdg kk
theorem pf_V_40 (hx : p.tables.exec = Jvm.exec) (hb : c.code = cc) (hT : ∀ w ∈ TT, w.before args s = true) (hown : s.vm.findClass "SealedBook$Verifier" = some m.cls) (hK : va_K D CC tys s) (hP : va_P D CC ws H) (hD : va_D A ws) (hS : va_S A H0 H locs) (q0 : Nat) {fs : List Value} (he : ws[q0]? = some (a, .inr (7, fs))) (hl : 8 < fs.length) {x : Int32} (hdg : decode cc pc = .ok (.putfield 40, 3)) (kk : ∀ (H1 : Heap) (locs1 : List Loc), va_P D CC (ws.set q0 (a, .inr (7, fs.set 8 (.int x)))) H1 → va_D A (ws.set q0 (a, .inr (7, fs.set 8 (.int x)))) → va_S A H0 H1 locs1 → W p l e R s m args below meth c H1 locs1 cells slots Q (F0 m (pc + 3) ls rest)) : W p l e R s m args below meth c H locs cells slots Q (F0 m pc ls (.int x :: .ref a :: rest)) := va_put (D := D) (ci := 7) (v := (.int x)) (ty := .int) (C := "SealedBook$Verifier") (T := F_V) (N := 11) hx hb hT in_V ty_V ok_V nm_V hown hK hP hD hS q0 he rfl 8 (by decide) (hT _ t_160) (fun _ h9 => h9) rfl (by decide +kernel) rfl rfl hl hdg kk
theorem gf_V_43 (hx : p.tables.exec = Jvm.exec) (hb : c.code = cc) (hT : ∀ w ∈ TT, w.before args s = true) (hown : s.vm.findClass "SealedBook$Verifier" = some m.cls) (hK : va_K D CC tys s) (hP : va_P D CC ws H) (q0 : Nat) {fs : List Value} (he : ws[q0]? = some (a, .inr (7, fs))) {v : Value} (hv : fs[9]? = some v) (hdg : decode cc pc = .ok (.getfield 43, 3)) (kk : W p l e R s m args below meth c H locs cells slots Q (F0 m (pc + 3) ls (v :: rest))) : W p l e R s m args below meth c H locs cells slots Q (F0 m pc ls (.ref a :: rest)) := va_get (D := D) (ci := 7) (C := "SealedBook$Verifier") (T := F_V) (N := 11) hx hb hT in_V hown hK hP q0 he rfl 9 (by decide) (hT _ t_161) (fun _ h9 => h9) hv hdg kk
theorem pf_V_43 (hx : p.tables.exec = Jvm.exec) (hb : c.code = cc) (hT : ∀ w ∈ TT, w.before args s = true) (hown : s.vm.findClass "SealedBook$Verifier" = some m.cls) (hK : va_K D CC tys s) (hP : va_P D CC ws H) (hD : va_D A ws) (hS : va_S A H0 H locs) (q0 : Nat) {fs : List Value} (he : ws[q0]? = some (a, .inr (7, fs))) (hl : 9 < fs.length) {x : Int32} (hdg : decode cc pc = .ok (.putfield 43, 3)) (kk : ∀ (H1 : Heap) (locs1 : List Loc), va_P D CC (ws.set q0 (a, .inr (7, fs.set 9 (.int x)))) H1 → va_D A (ws.set q0 (a, .inr (7, fs.set 9 (.int x)))) → va_S A H0 H1 locs1 → W p l e R s m args below meth c H1 locs1 cells slots Q (F0 m (pc + 3) ls rest)) : W p l e R s m args below meth c H locs cells slots Q (F0 m pc ls (.int x :: .ref a :: rest)) := va_put (D := D) (ci := 7) (v := (.int x)) (ty := .int) (C := "SealedBook$Verifier") (T := F_V) (N := 11) hx hb hT in_V ty_V ok_V nm_V hown hK hP hD hS q0 he rfl 9 (by decide) (hT _ t_161) (fun _ h9 => h9) rfl (by decide +kernel) rfl rfl hl hdg kk
theorem gf_V_46 (hx : p.tables.exec = Jvm.exec) (hb : c.code = cc) (hT : ∀ w ∈ TT, w.before args s = true) (hown : s.vm.findClass "SealedBook$Verifier" = some m.cls) (hK : va_K D CC tys s) (hP : va_P D CC ws H) (q0 : Nat) {fs : List Value} (he : ws[q0]? = some (a, .inr (7, fs))) {v : Value} (hv : fs[10]? = some v) (hdg : decode cc pc = .ok (.getfield 46, 3)) (kk : W p l e R s m args below meth c H locs cells slots Q (F0 m (pc + 3) ls (v :: rest))) : W p l e R s m args below meth c H locs cells slots Q (F0 m pc ls (.ref a :: rest)) := va_get (D := D) (ci := 7) (C := "SealedBook$Verifier") (T := F_V) (N := 11) hx hb hT in_V hown hK hP q0 he rfl 10 (by decide) (hT _ t_162) (fun _ h9 => h9) hv hdg kk
theorem pf_V_46 (hx : p.tables.exec = Jvm.exec) (hb : c.code = cc) (hT : ∀ w ∈ TT, w.before args s = true) (hown : s.vm.findClass "SealedBook$Verifier" = some m.cls) (hK : va_K D CC tys s) (hP : va_P D CC ws H) (hD : va_D A ws) (hS : va_S A H0 H locs) (q0 : Nat) {fs : List Value} (he : ws[q0]? = some (a, .inr (7, fs))) (hl : 10 < fs.length) {x : Int32} (hdg : decode cc pc = .ok (.putfield 46, 3)) (kk : ∀ (H1 : Heap) (locs1 : List Loc), va_P D CC (ws.set q0 (a, .inr (7, fs.set 10 (.int x)))) H1 → va_D A (ws.set q0 (a, .inr (7, fs.set 10 (.int x)))) → va_S A H0 H1 locs1 → W p l e R s m args below meth c H1 locs1 cells slots Q (F0 m (pc + 3) ls rest)) : W p l e R s m args below meth c H locs cells slots Q (F0 m pc ls (.int x :: .ref a :: rest)) := va_put (D := D) (ci := 7) (v := (.int x)) (ty := .int) (C := "SealedBook$Verifier") (T := F_V) (N := 11) hx hb hT in_V ty_V ok_V nm_V hown hK hP hD hS q0 he rfl 10 (by decide) (hT _ t_162) (fun _ h9 => h9) rfl (by decide +kernel) rfl rfl hl hdg kk
theorem gf_V_57 (hx : p.tables.exec = Jvm.exec) (hb : c.code = cc) (hT : ∀ w ∈ TT, w.before args s = true) (hown : s.vm.findClass "SealedBook$Verifier" = some m.cls) (hK : va_K D CC tys s) (hP : va_P D CC ws H) (q0 : Nat) {fs : List Value} (he : ws[q0]? = some (a, .inr (0, fs))) {v : Value} (hv : fs[1]? = some v) (hdg : decode cc pc = .ok (.getfield 57, 3)) (kk : W p l e R s m args below meth c H locs cells slots Q (F0 m (pc + 3) ls (v :: rest))) : W p l e R s m args below meth c H locs cells slots Q (F0 m pc ls (.ref a :: rest)) := va_get (D := D) (ci := 0) (C := "SealedBook$Bytes") (T := F_B) (N := 2) hx hb hT in_B hown hK hP q0 he rfl 1 (by decide) (hT _ t_130) (fun _ h9 => h9) hv hdg kk
theorem gf_K_10 (hx : p.tables.exec = Jvm.exec) (hb : c.code = cc) (hT : ∀ w ∈ TT, w.before args s = true) (hown : s.vm.findClass "SealedBook" = some m.cls) (hK : va_K D CC tys s) (hP : va_P D CC ws H) (q0 : Nat) {fs : List Value} (he : ws[q0]? = some (a, .inr (8, fs))) {v : Value} (hv : fs[0]? = some v) (hdg : decode cc pc = .ok (.getfield 10, 3)) (kk : W p l e R s m args below meth c H locs cells slots Q (F0 m (pc + 3) ls (v :: rest))) : W p l e R s m args below meth c H locs cells slots Q (F0 m pc ls (.ref a :: rest)) := va_get (D := D) (ci := 8) (C := "SealedBook") (T := F_K) (N := 6) hx hb hT in_K hown hK hP q0 he rfl 0 (by decide) (hT _ t_186) (fun _ h9 => h9) hv hdg kk
theorem pf_K_10 (hx : p.tables.exec = Jvm.exec) (hb : c.code = cc) (hT : ∀ w ∈ TT, w.before args s = true) (hown : s.vm.findClass "SealedBook" = some m.cls) (hK : va_K D CC tys s) (hP : va_P D CC ws H) (hD : va_D A ws) (hS : va_S A H0 H locs) (hin2 : meth.name = "<init>") (q0 : Nat) {fs : List Value} (he : ws[q0]? = some (a, .inr (8, fs))) (hl : 0 < fs.length) {x : Nat} (hdg : decode cc pc = .ok (.putfield 10, 3)) (kk : ∀ (H1 : Heap) (locs1 : List Loc), va_P D CC (ws.set q0 (a, .inr (8, fs.set 0 (.ref x)))) H1 → va_D A (ws.set q0 (a, .inr (8, fs.set 0 (.ref x)))) → va_S A H0 H1 locs1 → W p l e R s m args below meth c H1 locs1 cells slots Q (F0 m (pc + 3) ls rest)) : W p l e R s m args below meth c H locs cells slots Q (F0 m pc ls (.ref x :: .ref a :: rest)) := va_putF (D := D) (ci := 8) (v := (.ref x)) (ty := ty_K 0) (C := "SealedBook") (T := F_K) (N := 6) hx hb hT in_K ty_K ok_K nm_K hown hK hP hD hS q0 he rfl 0 (by decide) (hT _ t_186) (fun _ h9 => h9) rfl hin2 rfl (by decide +kernel) rfl rfl hl hdg kk
theorem gf_K_19 (hx : p.tables.exec = Jvm.exec) (hb : c.code = cc) (hT : ∀ w ∈ TT, w.before args s = true) (hown : s.vm.findClass "SealedBook" = some m.cls) (hK : va_K D CC tys s) (hP : va_P D CC ws H) (q0 : Nat) {fs : List Value} (he : ws[q0]? = some (a, .inr (8, fs))) {v : Value} (hv : fs[1]? = some v) (hdg : decode cc pc = .ok (.getfield 19, 3)) (kk : W p l e R s m args below meth c H locs cells slots Q (F0 m (pc + 3) ls (v :: rest))) : W p l e R s m args below meth c H locs cells slots Q (F0 m pc ls (.ref a :: rest)) := va_get (D := D) (ci := 8) (C := "SealedBook") (T := F_K) (N := 6) hx hb hT in_K hown hK hP q0 he rfl 1 (by decide) (hT _ t_187) (fun _ h9 => h9) hv hdg kk
theorem pf_K_19 (hx : p.tables.exec = Jvm.exec) (hb : c.code = cc) (hT : ∀ w ∈ TT, w.before args s = true) (hown : s.vm.findClass "SealedBook" = some m.cls) (hK : va_K D CC tys s) (hP : va_P D CC ws H) (hD : va_D A ws) (hS : va_S A H0 H locs) (hin2 : meth.name = "<init>") (q0 : Nat) {fs : List Value} (he : ws[q0]? = some (a, .inr (8, fs))) (hl : 1 < fs.length) {x : Nat} (hdg : decode cc pc = .ok (.putfield 19, 3)) (kk : ∀ (H1 : Heap) (locs1 : List Loc), va_P D CC (ws.set q0 (a, .inr (8, fs.set 1 (.ref x)))) H1 → va_D A (ws.set q0 (a, .inr (8, fs.set 1 (.ref x)))) → va_S A H0 H1 locs1 → W p l e R s m args below meth c H1 locs1 cells slots Q (F0 m (pc + 3) ls rest)) : W p l e R s m args below meth c H locs cells slots Q (F0 m pc ls (.ref x :: .ref a :: rest)) := va_putF (D := D) (ci := 8) (v := (.ref x)) (ty := ty_K 1) (C := "SealedBook") (T := F_K) (N := 6) hx hb hT in_K ty_K ok_K nm_K hown hK hP hD hS q0 he rfl 1 (by decide) (hT _ t_187) (fun _ h9 => h9) rfl hin2 rfl (by decide +kernel) rfl rfl hl hdg kk
theorem gf_K_26 (hx : p.tables.exec = Jvm.exec) (hb : c.code = cc) (hT : ∀ w ∈ TT, w.before args s = true) (hown : s.vm.findClass "SealedBook" = some m.cls) (hK : va_K D CC tys s) (hP : va_P D CC ws H) (q0 : Nat) {fs : List Value} (he : ws[q0]? = some (a, .inr (8, fs))) {v : Value} (hv : fs[2]? = some v) (hdg : decode cc pc = .ok (.getfield 26, 3)) (kk : W p l e R s m args below meth c H locs cells slots Q (F0 m (pc + 3) ls (v :: rest))) : W p l e R s m args below meth c H locs cells slots Q (F0 m pc ls (.ref a :: rest)) := va_get (D := D) (ci := 8) (C := "SealedBook") (T := F_K) (N := 6) hx hb hT in_K hown hK hP q0 he rfl 2 (by decide) (hT _ t_188) (fun _ h9 => h9) hv hdg kk
theorem pf_K_26 (hx : p.tables.exec = Jvm.exec) (hb : c.code = cc) (hT : ∀ w ∈ TT, w.before args s = true) (hown : s.vm.findClass "SealedBook" = some m.cls) (hK : va_K D CC tys s) (hP : va_P D CC ws H) (hD : va_D A ws) (hS : va_S A H0 H locs) (hin2 : meth.name = "<init>") (q0 : Nat) {fs : List Value} (he : ws[q0]? = some (a, .inr (8, fs))) (hl : 2 < fs.length) {x : Nat} (hdg : decode cc pc = .ok (.putfield 26, 3)) (kk : ∀ (H1 : Heap) (locs1 : List Loc), va_P D CC (ws.set q0 (a, .inr (8, fs.set 2 (.ref x)))) H1 → va_D A (ws.set q0 (a, .inr (8, fs.set 2 (.ref x)))) → va_S A H0 H1 locs1 → W p l e R s m args below meth c H1 locs1 cells slots Q (F0 m (pc + 3) ls rest)) : W p l e R s m args below meth c H locs cells slots Q (F0 m pc ls (.ref x :: .ref a :: rest)) := va_putF (D := D) (ci := 8) (v := (.ref x)) (ty := ty_K 2) (C := "SealedBook") (T := F_K) (N := 6) hx hb hT in_K ty_K ok_K nm_K hown hK hP hD hS q0 he rfl 2 (by decide) (hT _ t_188) (fun _ h9 => h9) rfl hin2 rfl (by decide +kernel) rfl rfl hl hdg kk
theorem gf_K_33 (hx : p.tables.exec = Jvm.exec) (hb : c.code = cc) (hT : ∀ w ∈ TT, w.before args s = true) (hown : s.vm.findClass "SealedBook" = some m.cls) (hK : va_K D CC tys s) (hP : va_P D CC ws H) (q0 : Nat) {fs : List Value} (he : ws[q0]? = some (a, .inr (8, fs))) {v : Value} (hv : fs[3]? = some v) (hdg : decode cc pc = .ok (.getfield 33, 3)) (kk : W p l e R s m args below meth c H locs cells slots Q (F0 m (pc + 3) ls (v :: rest))) : W p l e R s m args below meth c H locs cells slots Q (F0 m pc ls (.ref a :: rest)) := va_get (D := D) (ci := 8) (C := "SealedBook") (T := F_K) (N := 6) hx hb hT in_K hown hK hP q0 he rfl 3 (by decide) (hT _ t_189) (fun _ h9 => h9) hv hdg kk
theorem pf_K_33 (hx : p.tables.exec = Jvm.exec) (hb : c.code = cc) (hT : ∀ w ∈ TT, w.before args s = true) (hown : s.vm.findClass "SealedBook" = some m.cls) (hK : va_K D CC tys s) (hP : va_P D CC ws H) (hD : va_D A ws) (hS : va_S A H0 H locs) (hin2 : meth.name = "<init>") (q0 : Nat) {fs : List Value} (he : ws[q0]? = some (a, .inr (8, fs))) (hl : 3 < fs.length) {x : Nat} (hdg : decode cc pc = .ok (.putfield 33, 3)) (kk : ∀ (H1 : Heap) (locs1 : List Loc), va_P D CC (ws.set q0 (a, .inr (8, fs.set 3 (.ref x)))) H1 → va_D A (ws.set q0 (a, .inr (8, fs.set 3 (.ref x)))) → va_S A H0 H1 locs1 → W p l e R s m args below meth c H1 locs1 cells slots Q (F0 m (pc + 3) ls rest)) : W p l e R s m args below meth c H locs cells slots Q (F0 m pc ls (.ref x :: .ref a :: rest)) := va_putF (D := D) (ci := 8) (v := (.ref x)) (ty := ty_K 3) (C := "SealedBook") (T := F_K) (N := 6) hx hb hT in_K ty_K ok_K nm_K hown hK hP hD hS q0 he rfl 3 (by decide) (hT _ t_189) (fun _ h9 => h9) rfl hin2 rfl (by decide +kernel) rfl rfl hl hdg kk
theorem gf_K_40 (hx : p.tables.exec = Jvm.exec) (hb : c.code = cc) (hT : ∀ w ∈ TT, w.before args s = true) (hown : s.vm.findClass "SealedBook" = some m.cls) (hK : va_K D CC tys s) (hP : va_P D CC ws H) (q0 : Nat) {fs : List Value} (he : ws[q0]? = some (a, .inr (8, fs))) {v : Value} (hv : fs[4]? = some v) (hdg : decode cc pc = .ok (.getfield 40, 3)) (kk : W p l e R s m args below meth c H locs cells slots Q (F0 m (pc + 3) ls (v :: rest))) : W p l e R s m args below meth c H locs cells slots Q (F0 m pc ls (.ref a :: rest)) := va_get (D := D) (ci := 8) (C := "SealedBook") (T := F_K) (N := 6) hx hb hT in_K hown hK hP q0 he rfl 4 (by decide) (hT _ t_190) (fun _ h9 => h9) hv hdg kk
theorem pf_K_40 (hx : p.tables.exec = Jvm.exec) (hb : c.code = cc) (hT : ∀ w ∈ TT, w.before args s = true) (hown : s.vm.findClass "SealedBook" = some m.cls) (hK : va_K D CC tys s) (hP : va_P D CC ws H) (hD : va_D A ws) (hS : va_S A H0 H locs) (hin2 : meth.name = "<init>") (q0 : Nat) {fs : List Value} (he : ws[q0]? = some (a, .inr (8, fs))) (hl : 4 < fs.length) {x : Nat} (hdg : decode cc pc = .ok (.putfield 40, 3)) (kk : ∀ (H1 : Heap) (locs1 : List Loc), va_P D CC (ws.set q0 (a, .inr (8, fs.set 4 (.ref x)))) H1 → va_D A (ws.set q0 (a, .inr (8, fs.set 4 (.ref x)))) → va_S A H0 H1 locs1 → W p l e R s m args below meth c H1 locs1 cells slots Q (F0 m (pc + 3) ls rest)) : W p l e R s m args below meth c H locs cells slots Q (F0 m pc ls (.ref x :: .ref a :: rest)) := va_putF (D := D) (ci := 8) (v := (.ref x)) (ty := ty_K 4) (C := "SealedBook") (T := F_K) (N := 6) hx hb hT in_K ty_K ok_K nm_K hown hK hP hD hS q0 he rfl 4 (by decide) (hT _ t_190) (fun _ h9 => h9) rfl hin2 rfl (by decide +kernel) rfl rfl hl hdg kk
theorem gf_K_47 (hx : p.tables.exec = Jvm.exec) (hb : c.code = cc) (hT : ∀ w ∈ TT, w.before args s = true) (hown : s.vm.findClass "SealedBook" = some m.cls) (hK : va_K D CC tys s) (hP : va_P D CC ws H) (q0 : Nat) {fs : List Value} (he : ws[q0]? = some (a, .inr (8, fs))) {v : Value} (hv : fs[5]? = some v) (hdg : decode cc pc = .ok (.getfield 47, 3)) (kk : W p l e R s m args below meth c H locs cells slots Q (F0 m (pc + 3) ls (v :: rest))) : W p l e R s m args below meth c H locs cells slots Q (F0 m pc ls (.ref a :: rest)) := va_get (D := D) (ci := 8) (C := "SealedBook") (T := F_K) (N := 6) hx hb hT in_K hown hK hP q0 he rfl 5 (by decide) (hT _ t_191) (fun _ h9 => h9) hv hdg kk
theorem pf_K_47 (hx : p.tables.exec = Jvm.exec) (hb : c.code = cc) (hT : ∀ w ∈ TT, w.before args s = true) (hown : s.vm.findClass "SealedBook" = some m.cls) (hK : va_K D CC tys s) (hP : va_P D CC ws H) (hD : va_D A ws) (hS : va_S A H0 H locs) (hin2 : meth.name = "<init>") (q0 : Nat) {fs : List Value} (he : ws[q0]? = some (a, .inr (8, fs))) (hl : 5 < fs.length) {x : Nat} (hdg : decode cc pc = .ok (.putfield 47, 3)) (kk : ∀ (H1 : Heap) (locs1 : List Loc), va_P D CC (ws.set q0 (a, .inr (8, fs.set 5 (.ref x)))) H1 → va_D A (ws.set q0 (a, .inr (8, fs.set 5 (.ref x)))) → va_S A H0 H1 locs1 → W p l e R s m args below meth c H1 locs1 cells slots Q (F0 m (pc + 3) ls rest)) : W p l e R s m args below meth c H locs cells slots Q (F0 m pc ls (.ref x :: .ref a :: rest)) := va_putF (D := D) (ci := 8) (v := (.ref x)) (ty := ty_K 5) (C := "SealedBook") (T := F_K) (N := 6) hx hb hT in_K ty_K ok_K nm_K hown hK hP hD hS q0 he rfl 5 (by decide) (hT _ t_191) (fun _ h9 => h9) rfl hin2 rfl (by decide +kernel) rfl rfl hl hdg kk
theorem gf_K_89 (hx : p.tables.exec = Jvm.exec) (hb : c.code = cc) (hT : ∀ w ∈ TT, w.before args s = true) (hown : s.vm.findClass "SealedBook" = some m.cls) (hK : va_K D CC tys s) (hP : va_P D CC ws H) (q0 : Nat) {fs : List Value} (he : ws[q0]? = some (a, .inr (2, fs))) {v : Value} (hv : fs[1]? = some v) (hdg : decode cc pc = .ok (.getfield 89, 3)) (kk : W p l e R s m args below meth c H locs cells slots Q (F0 m (pc + 3) ls (v :: rest))) : W p l e R s m args below meth c H locs cells slots Q (F0 m pc ls (.ref a :: rest)) := va_get (D := D) (ci := 2) (C := "SealedBook$History") (T := F_H) (N := 2) hx hb hT in_H hown hK hP q0 he rfl 1 (by decide) (hT _ t_67) (fun _ h9 => h9) hv hdg kk
theorem gf_K_93 (hx : p.tables.exec = Jvm.exec) (hb : c.code = cc) (hT : ∀ w ∈ TT, w.before args s = true) (hown : s.vm.findClass "SealedBook" = some m.cls) (hK : va_K D CC tys s) (hP : va_P D CC ws H) (q0 : Nat) {fs : List Value} (he : ws[q0]? = some (a, .inr (2, fs))) {v : Value} (hv : fs[0]? = some v) (hdg : decode cc pc = .ok (.getfield 93, 3)) (kk : W p l e R s m args below meth c H locs cells slots Q (F0 m (pc + 3) ls (v :: rest))) : W p l e R s m args below meth c H locs cells slots Q (F0 m pc ls (.ref a :: rest)) := va_get (D := D) (ci := 2) (C := "SealedBook$History") (T := F_H) (N := 2) hx hb hT in_H hown hK hP q0 he rfl 0 (by decide) (hT _ t_65) (fun _ h9 => h9) hv hdg kk
theorem pf_K_100 (hx : p.tables.exec = Jvm.exec) (hb : c.code = cc) (hT : ∀ w ∈ TT, w.before args s = true) (hown : s.vm.findClass "SealedBook" = some m.cls) (hK : va_K D CC tys s) (hP : va_P D CC ws H) (hD : va_D A ws) (hS : va_S A H0 H locs) (q0 : Nat) {fs : List Value} (he : ws[q0]? = some (a, .inr (5, fs))) (hl : 2 < fs.length) {x : Int32} (hdg : decode cc pc = .ok (.putfield 100, 3)) (kk : ∀ (H1 : Heap) (locs1 : List Loc), va_P D CC (ws.set q0 (a, .inr (5, fs.set 2 (.int x)))) H1 → va_D A (ws.set q0 (a, .inr (5, fs.set 2 (.int x)))) → va_S A H0 H1 locs1 → W p l e R s m args below meth c H1 locs1 cells slots Q (F0 m (pc + 3) ls rest)) : W p l e R s m args below meth c H locs cells slots Q (F0 m pc ls (.int x :: .ref a :: rest)) := va_put (D := D) (ci := 5) (v := (.int x)) (ty := .int) (C := "SealedBook$Store") (T := F_S) (N := 3) hx hb hT in_S ty_S ok_S nm_S hown hK hP hD hS q0 he rfl 2 (by decide) (hT _ t_48) (fun _ h9 => h9) rfl (by decide +kernel) rfl rfl hl hdg kk
theorem gf_K_103 (hx : p.tables.exec = Jvm.exec) (hb : c.code = cc) (hT : ∀ w ∈ TT, w.before args s = true) (hown : s.vm.findClass "SealedBook" = some m.cls) (hK : va_K D CC tys s) (hP : va_P D CC ws H) (q0 : Nat) {fs : List Value} (he : ws[q0]? = some (a, .inr (5, fs))) {v : Value} (hv : fs[1]? = some v) (hdg : decode cc pc = .ok (.getfield 103, 3)) (kk : W p l e R s m args below meth c H locs cells slots Q (F0 m (pc + 3) ls (v :: rest))) : W p l e R s m args below meth c H locs cells slots Q (F0 m pc ls (.ref a :: rest)) := va_get (D := D) (ci := 5) (C := "SealedBook$Store") (T := F_S) (N := 3) hx hb hT in_S hown hK hP q0 he rfl 1 (by decide) (hT _ t_46) (fun _ h9 => h9) hv hdg kk
theorem gf_K_107 (hx : p.tables.exec = Jvm.exec) (hb : c.code = cc) (hT : ∀ w ∈ TT, w.before args s = true) (hown : s.vm.findClass "SealedBook" = some m.cls) (hK : va_K D CC tys s) (hP : va_P D CC ws H) (q0 : Nat) {fs : List Value} (he : ws[q0]? = some (a, .inr (6, fs))) {v : Value} (hv : fs[0]? = some v) (hdg : decode cc pc = .ok (.getfield 107, 3)) (kk : W p l e R s m args below meth c H locs cells slots Q (F0 m (pc + 3) ls (v :: rest))) : W p l e R s m args below meth c H locs cells slots Q (F0 m pc ls (.ref a :: rest)) := va_get (D := D) (ci := 6) (C := "SealedBook$Transaction") (T := F_T) (N := 2) hx hb hT in_T hown hK hP q0 he rfl 0 (by decide) (hT _ t_80) (fun _ h9 => h9) hv hdg kk
theorem gf_K_115 (hx : p.tables.exec = Jvm.exec) (hb : c.code = cc) (hT : ∀ w ∈ TT, w.before args s = true) (hown : s.vm.findClass "SealedBook" = some m.cls) (hK : va_K D CC tys s) (hP : va_P D CC ws H) (q0 : Nat) {fs : List Value} (he : ws[q0]? = some (a, .inr (6, fs))) {v : Value} (hv : fs[1]? = some v) (hdg : decode cc pc = .ok (.getfield 115, 3)) (kk : W p l e R s m args below meth c H locs cells slots Q (F0 m (pc + 3) ls (v :: rest))) : W p l e R s m args below meth c H locs cells slots Q (F0 m pc ls (.ref a :: rest)) := va_get (D := D) (ci := 6) (C := "SealedBook$Transaction") (T := F_T) (N := 2) hx hb hT in_T hown hK hP q0 he rfl 1 (by decide) (hT _ t_82) (fun _ h9 => h9) hv hdg kk
theorem gf_K_154 (hx : p.tables.exec = Jvm.exec) (hb : c.code = cc) (hT : ∀ w ∈ TT, w.before args s = true) (hown : s.vm.findClass "SealedBook" = some m.cls) (hK : va_K D CC tys s) (hP : va_P D CC ws H) (q0 : Nat) {fs : List Value} (he : ws[q0]? = some (a, .inr (3, fs))) {v : Value} (hv : fs[0]? = some v) (hdg : decode cc pc = .ok (.getfield 154, 3)) (kk : W p l e R s m args below meth c H locs cells slots Q (F0 m (pc + 3) ls (v :: rest))) : W p l e R s m args below meth c H locs cells slots Q (F0 m pc ls (.ref a :: rest)) := va_get (D := D) (ci := 3) (C := "SealedBook$Prover") (T := F_P) (N := 1) hx hb hT in_P hown hK hP q0 he rfl 0 (by decide) (hT _ t_138) (fun _ h9 => h9) hv hdg kk
theorem gf_K_158 (hx : p.tables.exec = Jvm.exec) (hb : c.code = cc) (hT : ∀ w ∈ TT, w.before args s = true) (hown : s.vm.findClass "SealedBook" = some m.cls) (hK : va_K D CC tys s) (hP : va_P D CC ws H) (q0 : Nat) {fs : List Value} (he : ws[q0]? = some (a, .inr (0, fs))) {v : Value} (hv : fs[1]? = some v) (hdg : decode cc pc = .ok (.getfield 158, 3)) (kk : W p l e R s m args below meth c H locs cells slots Q (F0 m (pc + 3) ls (v :: rest))) : W p l e R s m args below meth c H locs cells slots Q (F0 m pc ls (.ref a :: rest)) := va_get (D := D) (ci := 0) (C := "SealedBook$Bytes") (T := F_B) (N := 2) hx hb hT in_B hown hK hP q0 he rfl 1 (by decide) (hT _ t_131) (fun _ h9 => h9) hv hdg kk
theorem gf_K_168 (hx : p.tables.exec = Jvm.exec) (hb : c.code = cc) (hT : ∀ w ∈ TT, w.before args s = true) (hown : s.vm.findClass "SealedBook" = some m.cls) (hK : va_K D CC tys s) (hP : va_P D CC ws H) (q0 : Nat) {fs : List Value} (he : ws[q0]? = some (a, .inr (7, fs))) {v : Value} (hv : fs[0]? = some v) (hdg : decode cc pc = .ok (.getfield 168, 3)) (kk : W p l e R s m args below meth c H locs cells slots Q (F0 m (pc + 3) ls (v :: rest))) : W p l e R s m args below meth c H locs cells slots Q (F0 m pc ls (.ref a :: rest)) := va_get (D := D) (ci := 7) (C := "SealedBook$Verifier") (T := F_V) (N := 11) hx hb hT in_V hown hK hP q0 he rfl 0 (by decide) (hT _ t_151) (fun _ h9 => h9) hv hdg kk
theorem gf_K_189 (hx : p.tables.exec = Jvm.exec) (hb : c.code = cc) (hT : ∀ w ∈ TT, w.before args s = true) (hown : s.vm.findClass "SealedBook" = some m.cls) (hK : va_K D CC tys s) (hP : va_P D CC ws H) (q0 : Nat) {fs : List Value} (he : ws[q0]? = some (a, .inr (7, fs))) {v : Value} (hv : fs[1]? = some v) (hdg : decode cc pc = .ok (.getfield 189, 3)) (kk : W p l e R s m args below meth c H locs cells slots Q (F0 m (pc + 3) ls (v :: rest))) : W p l e R s m args below meth c H locs cells slots Q (F0 m pc ls (.ref a :: rest)) := va_get (D := D) (ci := 7) (C := "SealedBook$Verifier") (T := F_V) (N := 11) hx hb hT in_V hown hK hP q0 he rfl 1 (by decide) (hT _ t_153) (fun _ h9 => h9) hv hdg kk
theorem gf_K_222 (hx : p.tables.exec = Jvm.exec) (hb : c.code = cc) (hT : ∀ w ∈ TT, w.before args s = true) (hown : s.vm.findClass "SealedBook" = some m.cls) (hK : va_K D CC tys s) (hP : va_P D CC ws H) (q0 : Nat) {fs : List Value} (he : ws[q0]? = some (a, .inr (1, fs))) {v : Value} (hv : fs[2]? = some v) (hdg : decode cc pc = .ok (.getfield 222, 3)) (kk : W p l e R s m args below meth c H locs cells slots Q (F0 m (pc + 3) ls (v :: rest))) : W p l e R s m args below meth c H locs cells slots Q (F0 m pc ls (.ref a :: rest)) := va_get (D := D) (ci := 1) (C := "SealedBook$Chunk") (T := F_C) (N := 6) hx hb hT in_C hown hK hP q0 he rfl 2 (by decide) (hT _ t_706) (fun _ h9 => h9) hv hdg kk
theorem gf_K_228 (hx : p.tables.exec = Jvm.exec) (hb : c.code = cc) (hT : ∀ w ∈ TT, w.before args s = true) (hown : s.vm.findClass "SealedBook" = some m.cls) (hK : va_K D CC tys s) (hP : va_P D CC ws H) (q0 : Nat) {fs : List Value} (he : ws[q0]? = some (a, .inr (1, fs))) {v : Value} (hv : fs[3]? = some v) (hdg : decode cc pc = .ok (.getfield 228, 3)) (kk : W p l e R s m args below meth c H locs cells slots Q (F0 m (pc + 3) ls (v :: rest))) : W p l e R s m args below meth c H locs cells slots Q (F0 m pc ls (.ref a :: rest)) := va_get (D := D) (ci := 1) (C := "SealedBook$Chunk") (T := F_C) (N := 6) hx hb hT in_C hown hK hP q0 he rfl 3 (by decide) (hT _ t_710) (fun _ h9 => h9) hv hdg kk
theorem gf_M_7 (hx : p.tables.exec = Jvm.exec) (hb : c.code = cc) (hT : ∀ w ∈ TT, w.before args s = true) (hown : s.vm.findClass "SealedBookModel" = some m.cls) (hK : va_K D CC tys s) (hP : va_P D CC ws H) (q0 : Nat) {fs : List Value} (he : ws[q0]? = some (a, .inr (9, fs))) {v : Value} (hv : fs[1]? = some v) (hdg : decode cc pc = .ok (.getfield 7, 3)) (kk : W p l e R s m args below meth c H locs cells slots Q (F0 m (pc + 3) ls (v :: rest))) : W p l e R s m args below meth c H locs cells slots Q (F0 m pc ls (.ref a :: rest)) := va_get (D := D) (ci := 9) (C := "SealedBookModel") (T := F_M) (N := 32) hx hb hT in_M hown hK hP q0 he rfl 1 (by decide) (hT _ t_932) (fun _ h9 => h9) hv hdg kk
theorem pf_M_7 (hx : p.tables.exec = Jvm.exec) (hb : c.code = cc) (hT : ∀ w ∈ TT, w.before args s = true) (hown : s.vm.findClass "SealedBookModel" = some m.cls) (hK : va_K D CC tys s) (hP : va_P D CC ws H) (hD : va_D A ws) (hS : va_S A H0 H locs) (hin2 : meth.name = "<init>") (q0 : Nat) {fs : List Value} (he : ws[q0]? = some (a, .inr (9, fs))) (hl : 1 < fs.length) {x : Nat} (hdg : decode cc pc = .ok (.putfield 7, 3)) (kk : ∀ (H1 : Heap) (locs1 : List Loc), va_P D CC (ws.set q0 (a, .inr (9, fs.set 1 (.ref x)))) H1 → va_D A (ws.set q0 (a, .inr (9, fs.set 1 (.ref x)))) → va_S A H0 H1 locs1 → W p l e R s m args below meth c H1 locs1 cells slots Q (F0 m (pc + 3) ls rest)) : W p l e R s m args below meth c H locs cells slots Q (F0 m pc ls (.ref x :: .ref a :: rest)) := va_putF (D := D) (ci := 9) (v := (.ref x)) (ty := ty_M 1) (C := "SealedBookModel") (T := F_M) (N := 32) hx hb hT in_M ty_M ok_M nm_M hown hK hP hD hS q0 he rfl 1 (by decide) (hT _ t_932) (fun _ h9 => h9) rfl hin2 rfl (by decide +kernel) rfl rfl hl hdg kk
theorem gf_M_13 (hx : p.tables.exec = Jvm.exec) (hb : c.code = cc) (hT : ∀ w ∈ TT, w.before args s = true) (hown : s.vm.findClass "SealedBookModel" = some m.cls) (hK : va_K D CC tys s) (hP : va_P D CC ws H) (q0 : Nat) {fs : List Value} (he : ws[q0]? = some (a, .inr (9, fs))) {v : Value} (hv : fs[2]? = some v) (hdg : decode cc pc = .ok (.getfield 13, 3)) (kk : W p l e R s m args below meth c H locs cells slots Q (F0 m (pc + 3) ls (v :: rest))) : W p l e R s m args below meth c H locs cells slots Q (F0 m pc ls (.ref a :: rest)) := va_get (D := D) (ci := 9) (C := "SealedBookModel") (T := F_M) (N := 32) hx hb hT in_M hown hK hP q0 he rfl 2 (by decide) (hT _ t_933) (fun _ h9 => h9) hv hdg kk
theorem pf_M_13 (hx : p.tables.exec = Jvm.exec) (hb : c.code = cc) (hT : ∀ w ∈ TT, w.before args s = true) (hown : s.vm.findClass "SealedBookModel" = some m.cls) (hK : va_K D CC tys s) (hP : va_P D CC ws H) (hD : va_D A ws) (hS : va_S A H0 H locs) (hin2 : meth.name = "<init>") (q0 : Nat) {fs : List Value} (he : ws[q0]? = some (a, .inr (9, fs))) (hl : 2 < fs.length) {x : Nat} (hdg : decode cc pc = .ok (.putfield 13, 3)) (kk : ∀ (H1 : Heap) (locs1 : List Loc), va_P D CC (ws.set q0 (a, .inr (9, fs.set 2 (.ref x)))) H1 → va_D A (ws.set q0 (a, .inr (9, fs.set 2 (.ref x)))) → va_S A H0 H1 locs1 → W p l e R s m args below meth c H1 locs1 cells slots Q (F0 m (pc + 3) ls rest)) : W p l e R s m args below meth c H locs cells slots Q (F0 m pc ls (.ref x :: .ref a :: rest)) := va_putF (D := D) (ci := 9) (v := (.ref x)) (ty := ty_M 2) (C := "SealedBookModel") (T := F_M) (N := 32) hx hb hT in_M ty_M ok_M nm_M hown hK hP hD hS q0 he rfl 2 (by decide) (hT _ t_933) (fun _ h9 => h9) rfl hin2 rfl (by decide +kernel) rfl rfl hl hdg kk
theorem gf_M_17 (hx : p.tables.exec = Jvm.exec) (hb : c.code = cc) (hT : ∀ w ∈ TT, w.before args s = true) (hown : s.vm.findClass "SealedBookModel" = some m.cls) (hK : va_K D CC tys s) (hP : va_P D CC ws H) (q0 : Nat) {fs : List Value} (he : ws[q0]? = some (a, .inr (9, fs))) {v : Value} (hv : fs[4]? = some v) (hdg : decode cc pc = .ok (.getfield 17, 3)) (kk : W p l e R s m args below meth c H locs cells slots Q (F0 m (pc + 3) ls (v :: rest))) : W p l e R s m args below meth c H locs cells slots Q (F0 m pc ls (.ref a :: rest)) := va_get (D := D) (ci := 9) (C := "SealedBookModel") (T := F_M) (N := 32) hx hb hT in_M hown hK hP q0 he rfl 4 (by decide) (hT _ t_935) (fun _ h9 => h9) hv hdg kk
theorem pf_M_17 (hx : p.tables.exec = Jvm.exec) (hb : c.code = cc) (hT : ∀ w ∈ TT, w.before args s = true) (hown : s.vm.findClass "SealedBookModel" = some m.cls) (hK : va_K D CC tys s) (hP : va_P D CC ws H) (hD : va_D A ws) (hS : va_S A H0 H locs) (hin2 : meth.name = "<init>") (q0 : Nat) {fs : List Value} (he : ws[q0]? = some (a, .inr (9, fs))) (hl : 4 < fs.length) {x : Nat} (hdg : decode cc pc = .ok (.putfield 17, 3)) (kk : ∀ (H1 : Heap) (locs1 : List Loc), va_P D CC (ws.set q0 (a, .inr (9, fs.set 4 (.ref x)))) H1 → va_D A (ws.set q0 (a, .inr (9, fs.set 4 (.ref x)))) → va_S A H0 H1 locs1 → W p l e R s m args below meth c H1 locs1 cells slots Q (F0 m (pc + 3) ls rest)) : W p l e R s m args below meth c H locs cells slots Q (F0 m pc ls (.ref x :: .ref a :: rest)) := va_putF (D := D) (ci := 9) (v := (.ref x)) (ty := ty_M 4) (C := "SealedBookModel") (T := F_M) (N := 32) hx hb hT in_M ty_M ok_M nm_M hown hK hP hD hS q0 he rfl 4 (by decide) (hT _ t_935) (fun _ h9 => h9) rfl hin2 rfl (by decide +kernel) rfl rfl hl hdg kk
theorem gf_M_20 (hx : p.tables.exec = Jvm.exec) (hb : c.code = cc) (hT : ∀ w ∈ TT, w.before args s = true) (hown : s.vm.findClass "SealedBookModel" = some m.cls) (hK : va_K D CC tys s) (hP : va_P D CC ws H) (q0 : Nat) {fs : List Value} (he : ws[q0]? = some (a, .inr (9, fs))) {v : Value} (hv : fs[7]? = some v) (hdg : decode cc pc = .ok (.getfield 20, 3)) (kk : W p l e R s m args below meth c H locs cells slots Q (F0 m (pc + 3) ls (v :: rest))) : W p l e R s m args below meth c H locs cells slots Q (F0 m pc ls (.ref a :: rest)) := va_get (D := D) (ci := 9) (C := "SealedBookModel") (T := F_M) (N := 32) hx hb hT in_M hown hK hP q0 he rfl 7 (by decide) (hT _ t_938) (fun _ h9 => h9) hv hdg kk
theorem pf_M_20 (hx : p.tables.exec = Jvm.exec) (hb : c.code = cc) (hT : ∀ w ∈ TT, w.before args s = true) (hown : s.vm.findClass "SealedBookModel" = some m.cls) (hK : va_K D CC tys s) (hP : va_P D CC ws H) (hD : va_D A ws) (hS : va_S A H0 H locs) (hin2 : meth.name = "<init>") (q0 : Nat) {fs : List Value} (he : ws[q0]? = some (a, .inr (9, fs))) (hl : 7 < fs.length) {x : Nat} (hdg : decode cc pc = .ok (.putfield 20, 3)) (kk : ∀ (H1 : Heap) (locs1 : List Loc), va_P D CC (ws.set q0 (a, .inr (9, fs.set 7 (.ref x)))) H1 → va_D A (ws.set q0 (a, .inr (9, fs.set 7 (.ref x)))) → va_S A H0 H1 locs1 → W p l e R s m args below meth c H1 locs1 cells slots Q (F0 m (pc + 3) ls rest)) : W p l e R s m args below meth c H locs cells slots Q (F0 m pc ls (.ref x :: .ref a :: rest)) := va_putF (D := D) (ci := 9) (v := (.ref x)) (ty := ty_M 7) (C := "SealedBookModel") (T := F_M) (N := 32) hx hb hT in_M ty_M ok_M nm_M hown hK hP hD hS q0 he rfl 7 (by decide) (hT _ t_938) (fun _ h9 => h9) rfl hin2 rfl (by decide +kernel) rfl rfl hl hdg kk
theorem gf_M_23 (hx : p.tables.exec = Jvm.exec) (hb : c.code = cc) (hT : ∀ w ∈ TT, w.before args s = true) (hown : s.vm.findClass "SealedBookModel" = some m.cls) (hK : va_K D CC tys s) (hP : va_P D CC ws H) (q0 : Nat) {fs : List Value} (he : ws[q0]? = some (a, .inr (9, fs))) {v : Value} (hv : fs[9]? = some v) (hdg : decode cc pc = .ok (.getfield 23, 3)) (kk : W p l e R s m args below meth c H locs cells slots Q (F0 m (pc + 3) ls (v :: rest))) : W p l e R s m args below meth c H locs cells slots Q (F0 m pc ls (.ref a :: rest)) := va_get (D := D) (ci := 9) (C := "SealedBookModel") (T := F_M) (N := 32) hx hb hT in_M hown hK hP q0 he rfl 9 (by decide) (hT _ t_940) (fun _ h9 => h9) hv hdg kk
theorem pf_M_23 (hx : p.tables.exec = Jvm.exec) (hb : c.code = cc) (hT : ∀ w ∈ TT, w.before args s = true) (hown : s.vm.findClass "SealedBookModel" = some m.cls) (hK : va_K D CC tys s) (hP : va_P D CC ws H) (hD : va_D A ws) (hS : va_S A H0 H locs) (hin2 : meth.name = "<init>") (q0 : Nat) {fs : List Value} (he : ws[q0]? = some (a, .inr (9, fs))) (hl : 9 < fs.length) {x : Nat} (hdg : decode cc pc = .ok (.putfield 23, 3)) (kk : ∀ (H1 : Heap) (locs1 : List Loc), va_P D CC (ws.set q0 (a, .inr (9, fs.set 9 (.ref x)))) H1 → va_D A (ws.set q0 (a, .inr (9, fs.set 9 (.ref x)))) → va_S A H0 H1 locs1 → W p l e R s m args below meth c H1 locs1 cells slots Q (F0 m (pc + 3) ls rest)) : W p l e R s m args below meth c H locs cells slots Q (F0 m pc ls (.ref x :: .ref a :: rest)) := va_putF (D := D) (ci := 9) (v := (.ref x)) (ty := ty_M 9) (C := "SealedBookModel") (T := F_M) (N := 32) hx hb hT in_M ty_M ok_M nm_M hown hK hP hD hS q0 he rfl 9 (by decide) (hT _ t_940) (fun _ h9 => h9) rfl hin2 rfl (by decide +kernel) rfl rfl hl hdg kk
theorem gf_M_27 (hx : p.tables.exec = Jvm.exec) (hb : c.code = cc) (hT : ∀ w ∈ TT, w.before args s = true) (hown : s.vm.findClass "SealedBookModel" = some m.cls) (hK : va_K D CC tys s) (hP : va_P D CC ws H) (q0 : Nat) {fs : List Value} (he : ws[q0]? = some (a, .inr (9, fs))) {v : Value} (hv : fs[10]? = some v) (hdg : decode cc pc = .ok (.getfield 27, 3)) (kk : W p l e R s m args below meth c H locs cells slots Q (F0 m (pc + 3) ls (v :: rest))) : W p l e R s m args below meth c H locs cells slots Q (F0 m pc ls (.ref a :: rest)) := va_get (D := D) (ci := 9) (C := "SealedBookModel") (T := F_M) (N := 32) hx hb hT in_M hown hK hP q0 he rfl 10 (by decide) (hT _ t_941) (fun _ h9 => h9) hv hdg kk
theorem pf_M_27 (hx : p.tables.exec = Jvm.exec) (hb : c.code = cc) (hT : ∀ w ∈ TT, w.before args s = true) (hown : s.vm.findClass "SealedBookModel" = some m.cls) (hK : va_K D CC tys s) (hP : va_P D CC ws H) (hD : va_D A ws) (hS : va_S A H0 H locs) (hin2 : meth.name = "<init>") (q0 : Nat) {fs : List Value} (he : ws[q0]? = some (a, .inr (9, fs))) (hl : 10 < fs.length) {x : Nat} (hdg : decode cc pc = .ok (.putfield 27, 3)) (kk : ∀ (H1 : Heap) (locs1 : List Loc), va_P D CC (ws.set q0 (a, .inr (9, fs.set 10 (.ref x)))) H1 → va_D A (ws.set q0 (a, .inr (9, fs.set 10 (.ref x)))) → va_S A H0 H1 locs1 → W p l e R s m args below meth c H1 locs1 cells slots Q (F0 m (pc + 3) ls rest)) : W p l e R s m args below meth c H locs cells slots Q (F0 m pc ls (.ref x :: .ref a :: rest)) := va_putF (D := D) (ci := 9) (v := (.ref x)) (ty := ty_M 10) (C := "SealedBookModel") (T := F_M) (N := 32) hx hb hT in_M ty_M ok_M nm_M hown hK hP hD hS q0 he rfl 10 (by decide) (hT _ t_941) (fun _ h9 => h9) rfl hin2 rfl (by decide +kernel) rfl rfl hl hdg kk
theorem gf_M_30 (hx : p.tables.exec = Jvm.exec) (hb : c.code = cc) (hT : ∀ w ∈ TT, w.before args s = true) (hown : s.vm.findClass "SealedBookModel" = some m.cls) (hK : va_K D CC tys s) (hP : va_P D CC ws H) (q0 : Nat) {fs : List Value} (he : ws[q0]? = some (a, .inr (9, fs))) {v : Value} (hv : fs[12]? = some v) (hdg : decode cc pc = .ok (.getfield 30, 3)) (kk : W p l e R s m args below meth c H locs cells slots Q (F0 m (pc + 3) ls (v :: rest))) : W p l e R s m args below meth c H locs cells slots Q (F0 m pc ls (.ref a :: rest)) := va_get (D := D) (ci := 9) (C := "SealedBookModel") (T := F_M) (N := 32) hx hb hT in_M hown hK hP q0 he rfl 12 (by decide) (hT _ t_943) (fun _ h9 => h9) hv hdg kk
theorem pf_M_30 (hx : p.tables.exec = Jvm.exec) (hb : c.code = cc) (hT : ∀ w ∈ TT, w.before args s = true) (hown : s.vm.findClass "SealedBookModel" = some m.cls) (hK : va_K D CC tys s) (hP : va_P D CC ws H) (hD : va_D A ws) (hS : va_S A H0 H locs) (hin2 : meth.name = "<init>") (q0 : Nat) {fs : List Value} (he : ws[q0]? = some (a, .inr (9, fs))) (hl : 12 < fs.length) {x : Nat} (hdg : decode cc pc = .ok (.putfield 30, 3)) (kk : ∀ (H1 : Heap) (locs1 : List Loc), va_P D CC (ws.set q0 (a, .inr (9, fs.set 12 (.ref x)))) H1 → va_D A (ws.set q0 (a, .inr (9, fs.set 12 (.ref x)))) → va_S A H0 H1 locs1 → W p l e R s m args below meth c H1 locs1 cells slots Q (F0 m (pc + 3) ls rest)) : W p l e R s m args below meth c H locs cells slots Q (F0 m pc ls (.ref x :: .ref a :: rest)) := va_putF (D := D) (ci := 9) (v := (.ref x)) (ty := ty_M 12) (C := "SealedBookModel") (T := F_M) (N := 32) hx hb hT in_M ty_M ok_M nm_M hown hK hP hD hS q0 he rfl 12 (by decide) (hT _ t_943) (fun _ h9 => h9) rfl hin2 rfl (by decide +kernel) rfl rfl hl hdg kk
theorem gf_M_33 (hx : p.tables.exec = Jvm.exec) (hb : c.code = cc) (hT : ∀ w ∈ TT, w.before args s = true) (hown : s.vm.findClass "SealedBookModel" = some m.cls) (hK : va_K D CC tys s) (hP : va_P D CC ws H) (q0 : Nat) {fs : List Value} (he : ws[q0]? = some (a, .inr (9, fs))) {v : Value} (hv : fs[13]? = some v) (hdg : decode cc pc = .ok (.getfield 33, 3)) (kk : W p l e R s m args below meth c H locs cells slots Q (F0 m (pc + 3) ls (v :: rest))) : W p l e R s m args below meth c H locs cells slots Q (F0 m pc ls (.ref a :: rest)) := va_get (D := D) (ci := 9) (C := "SealedBookModel") (T := F_M) (N := 32) hx hb hT in_M hown hK hP q0 he rfl 13 (by decide) (hT _ t_944) (fun _ h9 => h9) hv hdg kk
theorem pf_M_33 (hx : p.tables.exec = Jvm.exec) (hb : c.code = cc) (hT : ∀ w ∈ TT, w.before args s = true) (hown : s.vm.findClass "SealedBookModel" = some m.cls) (hK : va_K D CC tys s) (hP : va_P D CC ws H) (hD : va_D A ws) (hS : va_S A H0 H locs) (hin2 : meth.name = "<init>") (q0 : Nat) {fs : List Value} (he : ws[q0]? = some (a, .inr (9, fs))) (hl : 13 < fs.length) {x : Nat} (hdg : decode cc pc = .ok (.putfield 33, 3)) (kk : ∀ (H1 : Heap) (locs1 : List Loc), va_P D CC (ws.set q0 (a, .inr (9, fs.set 13 (.ref x)))) H1 → va_D A (ws.set q0 (a, .inr (9, fs.set 13 (.ref x)))) → va_S A H0 H1 locs1 → W p l e R s m args below meth c H1 locs1 cells slots Q (F0 m (pc + 3) ls rest)) : W p l e R s m args below meth c H locs cells slots Q (F0 m pc ls (.ref x :: .ref a :: rest)) := va_putF (D := D) (ci := 9) (v := (.ref x)) (ty := ty_M 13) (C := "SealedBookModel") (T := F_M) (N := 32) hx hb hT in_M ty_M ok_M nm_M hown hK hP hD hS q0 he rfl 13 (by decide) (hT _ t_944) (fun _ h9 => h9) rfl hin2 rfl (by decide +kernel) rfl rfl hl hdg kk
theorem gf_M_36 (hx : p.tables.exec = Jvm.exec) (hb : c.code = cc) (hT : ∀ w ∈ TT, w.before args s = true) (hown : s.vm.findClass "SealedBookModel" = some m.cls) (hK : va_K D CC tys s) (hP : va_P D CC ws H) (q0 : Nat) {fs : List Value} (he : ws[q0]? = some (a, .inr (9, fs))) {v : Value} (hv : fs[14]? = some v) (hdg : decode cc pc = .ok (.getfield 36, 3)) (kk : W p l e R s m args below meth c H locs cells slots Q (F0 m (pc + 3) ls (v :: rest))) : W p l e R s m args below meth c H locs cells slots Q (F0 m pc ls (.ref a :: rest)) := va_get (D := D) (ci := 9) (C := "SealedBookModel") (T := F_M) (N := 32) hx hb hT in_M hown hK hP q0 he rfl 14 (by decide) (hT _ t_945) (fun _ h9 => h9) hv hdg kk
theorem pf_M_36 (hx : p.tables.exec = Jvm.exec) (hb : c.code = cc) (hT : ∀ w ∈ TT, w.before args s = true) (hown : s.vm.findClass "SealedBookModel" = some m.cls) (hK : va_K D CC tys s) (hP : va_P D CC ws H) (hD : va_D A ws) (hS : va_S A H0 H locs) (hin2 : meth.name = "<init>") (q0 : Nat) {fs : List Value} (he : ws[q0]? = some (a, .inr (9, fs))) (hl : 14 < fs.length) {x : Nat} (hdg : decode cc pc = .ok (.putfield 36, 3)) (kk : ∀ (H1 : Heap) (locs1 : List Loc), va_P D CC (ws.set q0 (a, .inr (9, fs.set 14 (.ref x)))) H1 → va_D A (ws.set q0 (a, .inr (9, fs.set 14 (.ref x)))) → va_S A H0 H1 locs1 → W p l e R s m args below meth c H1 locs1 cells slots Q (F0 m (pc + 3) ls rest)) : W p l e R s m args below meth c H locs cells slots Q (F0 m pc ls (.ref x :: .ref a :: rest)) := va_putF (D := D) (ci := 9) (v := (.ref x)) (ty := ty_M 14) (C := "SealedBookModel") (T := F_M) (N := 32) hx hb hT in_M ty_M ok_M nm_M hown hK hP hD hS q0 he rfl 14 (by decide) (hT _ t_945) (fun _ h9 => h9) rfl hin2 rfl (by decide +kernel) rfl rfl hl hdg kk
theorem gf_M_39 (hx : p.tables.exec = Jvm.exec) (hb : c.code = cc) (hT : ∀ w ∈ TT, w.before args s = true) (hown : s.vm.findClass "SealedBookModel" = some m.cls) (hK : va_K D CC tys s) (hP : va_P D CC ws H) (q0 : Nat) {fs : List Value} (he : ws[q0]? = some (a, .inr (9, fs))) {v : Value} (hv : fs[15]? = some v) (hdg : decode cc pc = .ok (.getfield 39, 3)) (kk : W p l e R s m args below meth c H locs cells slots Q (F0 m (pc + 3) ls (v :: rest))) : W p l e R s m args below meth c H locs cells slots Q (F0 m pc ls (.ref a :: rest)) := va_get (D := D) (ci := 9) (C := "SealedBookModel") (T := F_M) (N := 32) hx hb hT in_M hown hK hP q0 he rfl 15 (by decide) (hT _ t_946) (fun _ h9 => h9) hv hdg kk
theorem pf_M_39 (hx : p.tables.exec = Jvm.exec) (hb : c.code = cc) (hT : ∀ w ∈ TT, w.before args s = true) (hown : s.vm.findClass "SealedBookModel" = some m.cls) (hK : va_K D CC tys s) (hP : va_P D CC ws H) (hD : va_D A ws) (hS : va_S A H0 H locs) (hin2 : meth.name = "<init>") (q0 : Nat) {fs : List Value} (he : ws[q0]? = some (a, .inr (9, fs))) (hl : 15 < fs.length) {x : Nat} (hdg : decode cc pc = .ok (.putfield 39, 3)) (kk : ∀ (H1 : Heap) (locs1 : List Loc), va_P D CC (ws.set q0 (a, .inr (9, fs.set 15 (.ref x)))) H1 → va_D A (ws.set q0 (a, .inr (9, fs.set 15 (.ref x)))) → va_S A H0 H1 locs1 → W p l e R s m args below meth c H1 locs1 cells slots Q (F0 m (pc + 3) ls rest)) : W p l e R s m args below meth c H locs cells slots Q (F0 m pc ls (.ref x :: .ref a :: rest)) := va_putF (D := D) (ci := 9) (v := (.ref x)) (ty := ty_M 15) (C := "SealedBookModel") (T := F_M) (N := 32) hx hb hT in_M ty_M ok_M nm_M hown hK hP hD hS q0 he rfl 15 (by decide) (hT _ t_946) (fun _ h9 => h9) rfl hin2 rfl (by decide +kernel) rfl rfl hl hdg kk
theorem gf_M_42 (hx : p.tables.exec = Jvm.exec) (hb : c.code = cc) (hT : ∀ w ∈ TT, w.before args s = true) (hown : s.vm.findClass "SealedBookModel" = some m.cls) (hK : va_K D CC tys s) (hP : va_P D CC ws H) (q0 : Nat) {fs : List Value} (he : ws[q0]? = some (a, .inr (9, fs))) {v : Value} (hv : fs[16]? = some v) (hdg : decode cc pc = .ok (.getfield 42, 3)) (kk : W p l e R s m args below meth c H locs cells slots Q (F0 m (pc + 3) ls (v :: rest))) : W p l e R s m args below meth c H locs cells slots Q (F0 m pc ls (.ref a :: rest)) := va_get (D := D) (ci := 9) (C := "SealedBookModel") (T := F_M) (N := 32) hx hb hT in_M hown hK hP q0 he rfl 16 (by decide) (hT _ t_947) (fun _ h9 => h9) hv hdg kk
theorem pf_M_42 (hx : p.tables.exec = Jvm.exec) (hb : c.code = cc) (hT : ∀ w ∈ TT, w.before args s = true) (hown : s.vm.findClass "SealedBookModel" = some m.cls) (hK : va_K D CC tys s) (hP : va_P D CC ws H) (hD : va_D A ws) (hS : va_S A H0 H locs) (hin2 : meth.name = "<init>") (q0 : Nat) {fs : List Value} (he : ws[q0]? = some (a, .inr (9, fs))) (hl : 16 < fs.length) {x : Nat} (hdg : decode cc pc = .ok (.putfield 42, 3)) (kk : ∀ (H1 : Heap) (locs1 : List Loc), va_P D CC (ws.set q0 (a, .inr (9, fs.set 16 (.ref x)))) H1 → va_D A (ws.set q0 (a, .inr (9, fs.set 16 (.ref x)))) → va_S A H0 H1 locs1 → W p l e R s m args below meth c H1 locs1 cells slots Q (F0 m (pc + 3) ls rest)) : W p l e R s m args below meth c H locs cells slots Q (F0 m pc ls (.ref x :: .ref a :: rest)) := va_putF (D := D) (ci := 9) (v := (.ref x)) (ty := ty_M 16) (C := "SealedBookModel") (T := F_M) (N := 32) hx hb hT in_M ty_M ok_M nm_M hown hK hP hD hS q0 he rfl 16 (by decide) (hT _ t_947) (fun _ h9 => h9) rfl hin2 rfl (by decide +kernel) rfl rfl hl hdg kk
theorem gf_M_45 (hx : p.tables.exec = Jvm.exec) (hb : c.code = cc) (hT : ∀ w ∈ TT, w.before args s = true) (hown : s.vm.findClass "SealedBookModel" = some m.cls) (hK : va_K D CC tys s) (hP : va_P D CC ws H) (q0 : Nat) {fs : List Value} (he : ws[q0]? = some (a, .inr (9, fs))) {v : Value} (hv : fs[18]? = some v) (hdg : decode cc pc = .ok (.getfield 45, 3)) (kk : W p l e R s m args below meth c H locs cells slots Q (F0 m (pc + 3) ls (v :: rest))) : W p l e R s m args below meth c H locs cells slots Q (F0 m pc ls (.ref a :: rest)) := va_get (D := D) (ci := 9) (C := "SealedBookModel") (T := F_M) (N := 32) hx hb hT in_M hown hK hP q0 he rfl 18 (by decide) (hT _ t_949) (fun _ h9 => h9) hv hdg kk
theorem pf_M_45 (hx : p.tables.exec = Jvm.exec) (hb : c.code = cc) (hT : ∀ w ∈ TT, w.before args s = true) (hown : s.vm.findClass "SealedBookModel" = some m.cls) (hK : va_K D CC tys s) (hP : va_P D CC ws H) (hD : va_D A ws) (hS : va_S A H0 H locs) (hin2 : meth.name = "<init>") (q0 : Nat) {fs : List Value} (he : ws[q0]? = some (a, .inr (9, fs))) (hl : 18 < fs.length) {x : Nat} (hdg : decode cc pc = .ok (.putfield 45, 3)) (kk : ∀ (H1 : Heap) (locs1 : List Loc), va_P D CC (ws.set q0 (a, .inr (9, fs.set 18 (.ref x)))) H1 → va_D A (ws.set q0 (a, .inr (9, fs.set 18 (.ref x)))) → va_S A H0 H1 locs1 → W p l e R s m args below meth c H1 locs1 cells slots Q (F0 m (pc + 3) ls rest)) : W p l e R s m args below meth c H locs cells slots Q (F0 m pc ls (.ref x :: .ref a :: rest)) := va_putF (D := D) (ci := 9) (v := (.ref x)) (ty := ty_M 18) (C := "SealedBookModel") (T := F_M) (N := 32) hx hb hT in_M ty_M ok_M nm_M hown hK hP hD hS q0 he rfl 18 (by decide) (hT _ t_949) (fun _ h9 => h9) rfl hin2 rfl (by decide +kernel) rfl rfl hl hdg kk
theorem gf_M_48 (hx : p.tables.exec = Jvm.exec) (hb : c.code = cc) (hT : ∀ w ∈ TT, w.before args s = true) (hown : s.vm.findClass "SealedBookModel" = some m.cls) (hK : va_K D CC tys s) (hP : va_P D CC ws H) (q0 : Nat) {fs : List Value} (he : ws[q0]? = some (a, .inr (9, fs))) {v : Value} (hv : fs[19]? = some v) (hdg : decode cc pc = .ok (.getfield 48, 3)) (kk : W p l e R s m args below meth c H locs cells slots Q (F0 m (pc + 3) ls (v :: rest))) : W p l e R s m args below meth c H locs cells slots Q (F0 m pc ls (.ref a :: rest)) := va_get (D := D) (ci := 9) (C := "SealedBookModel") (T := F_M) (N := 32) hx hb hT in_M hown hK hP q0 he rfl 19 (by decide) (hT _ t_950) (fun _ h9 => h9) hv hdg kk
theorem pf_M_48 (hx : p.tables.exec = Jvm.exec) (hb : c.code = cc) (hT : ∀ w ∈ TT, w.before args s = true) (hown : s.vm.findClass "SealedBookModel" = some m.cls) (hK : va_K D CC tys s) (hP : va_P D CC ws H) (hD : va_D A ws) (hS : va_S A H0 H locs) (hin2 : meth.name = "<init>") (q0 : Nat) {fs : List Value} (he : ws[q0]? = some (a, .inr (9, fs))) (hl : 19 < fs.length) {x : Nat} (hdg : decode cc pc = .ok (.putfield 48, 3)) (kk : ∀ (H1 : Heap) (locs1 : List Loc), va_P D CC (ws.set q0 (a, .inr (9, fs.set 19 (.ref x)))) H1 → va_D A (ws.set q0 (a, .inr (9, fs.set 19 (.ref x)))) → va_S A H0 H1 locs1 → W p l e R s m args below meth c H1 locs1 cells slots Q (F0 m (pc + 3) ls rest)) : W p l e R s m args below meth c H locs cells slots Q (F0 m pc ls (.ref x :: .ref a :: rest)) := va_putF (D := D) (ci := 9) (v := (.ref x)) (ty := ty_M 19) (C := "SealedBookModel") (T := F_M) (N := 32) hx hb hT in_M ty_M ok_M nm_M hown hK hP hD hS q0 he rfl 19 (by decide) (hT _ t_950) (fun _ h9 => h9) rfl hin2 rfl (by decide +kernel) rfl rfl hl hdg kk
theorem gf_M_51 (hx : p.tables.exec = Jvm.exec) (hb : c.code = cc) (hT : ∀ w ∈ TT, w.before args s = true) (hown : s.vm.findClass "SealedBookModel" = some m.cls) (hK : va_K D CC tys s) (hP : va_P D CC ws H) (q0 : Nat) {fs : List Value} (he : ws[q0]? = some (a, .inr (9, fs))) {v : Value} (hv : fs[20]? = some v) (hdg : decode cc pc = .ok (.getfield 51, 3)) (kk : W p l e R s m args below meth c H locs cells slots Q (F0 m (pc + 3) ls (v :: rest))) : W p l e R s m args below meth c H locs cells slots Q (F0 m pc ls (.ref a :: rest)) := va_get (D := D) (ci := 9) (C := "SealedBookModel") (T := F_M) (N := 32) hx hb hT in_M hown hK hP q0 he rfl 20 (by decide) (hT _ t_951) (fun _ h9 => h9) hv hdg kk
theorem pf_M_51 (hx : p.tables.exec = Jvm.exec) (hb : c.code = cc) (hT : ∀ w ∈ TT, w.before args s = true) (hown : s.vm.findClass "SealedBookModel" = some m.cls) (hK : va_K D CC tys s) (hP : va_P D CC ws H) (hD : va_D A ws) (hS : va_S A H0 H locs) (hin2 : meth.name = "<init>") (q0 : Nat) {fs : List Value} (he : ws[q0]? = some (a, .inr (9, fs))) (hl : 20 < fs.length) {x : Nat} (hdg : decode cc pc = .ok (.putfield 51, 3)) (kk : ∀ (H1 : Heap) (locs1 : List Loc), va_P D CC (ws.set q0 (a, .inr (9, fs.set 20 (.ref x)))) H1 → va_D A (ws.set q0 (a, .inr (9, fs.set 20 (.ref x)))) → va_S A H0 H1 locs1 → W p l e R s m args below meth c H1 locs1 cells slots Q (F0 m (pc + 3) ls rest)) : W p l e R s m args below meth c H locs cells slots Q (F0 m pc ls (.ref x :: .ref a :: rest)) := va_putF (D := D) (ci := 9) (v := (.ref x)) (ty := ty_M 20) (C := "SealedBookModel") (T := F_M) (N := 32) hx hb hT in_M ty_M ok_M nm_M hown hK hP hD hS q0 he rfl 20 (by decide) (hT _ t_951) (fun _ h9 => h9) rfl hin2 rfl (by decide +kernel) rfl rfl hl hdg kk
theorem gf_M_54 (hx : p.tables.exec = Jvm.exec) (hb : c.code = cc) (hT : ∀ w ∈ TT, w.before args s = true) (hown : s.vm.findClass "SealedBookModel" = some m.cls) (hK : va_K D CC tys s) (hP : va_P D CC ws H) (q0 : Nat) {fs : List Value} (he : ws[q0]? = some (a, .inr (9, fs))) {v : Value} (hv : fs[22]? = some v) (hdg : decode cc pc = .ok (.getfield 54, 3)) (kk : W p l e R s m args below meth c H locs cells slots Q (F0 m (pc + 3) ls (v :: rest))) : W p l e R s m args below meth c H locs cells slots Q (F0 m pc ls (.ref a :: rest)) := va_get (D := D) (ci := 9) (C := "SealedBookModel") (T := F_M) (N := 32) hx hb hT in_M hown hK hP q0 he rfl 22 (by decide) (hT _ t_953) (fun _ h9 => h9) hv hdg kk
theorem pf_M_54 (hx : p.tables.exec = Jvm.exec) (hb : c.code = cc) (hT : ∀ w ∈ TT, w.before args s = true) (hown : s.vm.findClass "SealedBookModel" = some m.cls) (hK : va_K D CC tys s) (hP : va_P D CC ws H) (hD : va_D A ws) (hS : va_S A H0 H locs) (hin2 : meth.name = "<init>") (q0 : Nat) {fs : List Value} (he : ws[q0]? = some (a, .inr (9, fs))) (hl : 22 < fs.length) {x : Nat} (hdg : decode cc pc = .ok (.putfield 54, 3)) (kk : ∀ (H1 : Heap) (locs1 : List Loc), va_P D CC (ws.set q0 (a, .inr (9, fs.set 22 (.ref x)))) H1 → va_D A (ws.set q0 (a, .inr (9, fs.set 22 (.ref x)))) → va_S A H0 H1 locs1 → W p l e R s m args below meth c H1 locs1 cells slots Q (F0 m (pc + 3) ls rest)) : W p l e R s m args below meth c H locs cells slots Q (F0 m pc ls (.ref x :: .ref a :: rest)) := va_putF (D := D) (ci := 9) (v := (.ref x)) (ty := ty_M 22) (C := "SealedBookModel") (T := F_M) (N := 32) hx hb hT in_M ty_M ok_M nm_M hown hK hP hD hS q0 he rfl 22 (by decide) (hT _ t_953) (fun _ h9 => h9) rfl hin2 rfl (by decide +kernel) rfl rfl hl hdg kk
theorem gf_M_57 (hx : p.tables.exec = Jvm.exec) (hb : c.code = cc) (hT : ∀ w ∈ TT, w.before args s = true) (hown : s.vm.findClass "SealedBookModel" = some m.cls) (hK : va_K D CC tys s) (hP : va_P D CC ws H) (q0 : Nat) {fs : List Value} (he : ws[q0]? = some (a, .inr (9, fs))) {v : Value} (hv : fs[24]? = some v) (hdg : decode cc pc = .ok (.getfield 57, 3)) (kk : W p l e R s m args below meth c H locs cells slots Q (F0 m (pc + 3) ls (v :: rest))) : W p l e R s m args below meth c H locs cells slots Q (F0 m pc ls (.ref a :: rest)) := va_get (D := D) (ci := 9) (C := "SealedBookModel") (T := F_M) (N := 32) hx hb hT in_M hown hK hP q0 he rfl 24 (by decide) (hT _ t_955) (fun _ h9 => h9) hv hdg kk
theorem pf_M_57 (hx : p.tables.exec = Jvm.exec) (hb : c.code = cc) (hT : ∀ w ∈ TT, w.before args s = true) (hown : s.vm.findClass "SealedBookModel" = some m.cls) (hK : va_K D CC tys s) (hP : va_P D CC ws H) (hD : va_D A ws) (hS : va_S A H0 H locs) (hin2 : meth.name = "<init>") (q0 : Nat) {fs : List Value} (he : ws[q0]? = some (a, .inr (9, fs))) (hl : 24 < fs.length) {x : Nat} (hdg : decode cc pc = .ok (.putfield 57, 3)) (kk : ∀ (H1 : Heap) (locs1 : List Loc), va_P D CC (ws.set q0 (a, .inr (9, fs.set 24 (.ref x)))) H1 → va_D A (ws.set q0 (a, .inr (9, fs.set 24 (.ref x)))) → va_S A H0 H1 locs1 → W p l e R s m args below meth c H1 locs1 cells slots Q (F0 m (pc + 3) ls rest)) : W p l e R s m args below meth c H locs cells slots Q (F0 m pc ls (.ref x :: .ref a :: rest)) := va_putF (D := D) (ci := 9) (v := (.ref x)) (ty := ty_M 24) (C := "SealedBookModel") (T := F_M) (N := 32) hx hb hT in_M ty_M ok_M nm_M hown hK hP hD hS q0 he rfl 24 (by decide) (hT _ t_955) (fun _ h9 => h9) rfl hin2 rfl (by decide +kernel) rfl rfl hl hdg kk
theorem gf_M_60 (hx : p.tables.exec = Jvm.exec) (hb : c.code = cc) (hT : ∀ w ∈ TT, w.before args s = true) (hown : s.vm.findClass "SealedBookModel" = some m.cls) (hK : va_K D CC tys s) (hP : va_P D CC ws H) (q0 : Nat) {fs : List Value} (he : ws[q0]? = some (a, .inr (9, fs))) {v : Value} (hv : fs[27]? = some v) (hdg : decode cc pc = .ok (.getfield 60, 3)) (kk : W p l e R s m args below meth c H locs cells slots Q (F0 m (pc + 3) ls (v :: rest))) : W p l e R s m args below meth c H locs cells slots Q (F0 m pc ls (.ref a :: rest)) := va_get (D := D) (ci := 9) (C := "SealedBookModel") (T := F_M) (N := 32) hx hb hT in_M hown hK hP q0 he rfl 27 (by decide) (hT _ t_958) (fun _ h9 => h9) hv hdg kk
theorem pf_M_60 (hx : p.tables.exec = Jvm.exec) (hb : c.code = cc) (hT : ∀ w ∈ TT, w.before args s = true) (hown : s.vm.findClass "SealedBookModel" = some m.cls) (hK : va_K D CC tys s) (hP : va_P D CC ws H) (hD : va_D A ws) (hS : va_S A H0 H locs) (hin2 : meth.name = "<init>") (q0 : Nat) {fs : List Value} (he : ws[q0]? = some (a, .inr (9, fs))) (hl : 27 < fs.length) {x : Nat} (hdg : decode cc pc = .ok (.putfield 60, 3)) (kk : ∀ (H1 : Heap) (locs1 : List Loc), va_P D CC (ws.set q0 (a, .inr (9, fs.set 27 (.ref x)))) H1 → va_D A (ws.set q0 (a, .inr (9, fs.set 27 (.ref x)))) → va_S A H0 H1 locs1 → W p l e R s m args below meth c H1 locs1 cells slots Q (F0 m (pc + 3) ls rest)) : W p l e R s m args below meth c H locs cells slots Q (F0 m pc ls (.ref x :: .ref a :: rest)) := va_putF (D := D) (ci := 9) (v := (.ref x)) (ty := ty_M 27) (C := "SealedBookModel") (T := F_M) (N := 32) hx hb hT in_M ty_M ok_M nm_M hown hK hP hD hS q0 he rfl 27 (by decide) (hT _ t_958) (fun _ h9 => h9) rfl hin2 rfl (by decide +kernel) rfl rfl hl hdg kk
theorem gf_M_63 (hx : p.tables.exec = Jvm.exec) (hb : c.code = cc) (hT : ∀ w ∈ TT, w.before args s = true) (hown : s.vm.findClass "SealedBookModel" = some m.cls) (hK : va_K D CC tys s) (hP : va_P D CC ws H) (q0 : Nat) {fs : List Value} (he : ws[q0]? = some (a, .inr (9, fs))) {v : Value} (hv : fs[30]? = some v) (hdg : decode cc pc = .ok (.getfield 63, 3)) (kk : W p l e R s m args below meth c H locs cells slots Q (F0 m (pc + 3) ls (v :: rest))) : W p l e R s m args below meth c H locs cells slots Q (F0 m pc ls (.ref a :: rest)) := va_get (D := D) (ci := 9) (C := "SealedBookModel") (T := F_M) (N := 32) hx hb hT in_M hown hK hP q0 he rfl 30 (by decide) (hT _ t_961) (fun _ h9 => h9) hv hdg kk
theorem pf_M_63 (hx : p.tables.exec = Jvm.exec) (hb : c.code = cc) (hT : ∀ w ∈ TT, w.before args s = true) (hown : s.vm.findClass "SealedBookModel" = some m.cls) (hK : va_K D CC tys s) (hP : va_P D CC ws H) (hD : va_D A ws) (hS : va_S A H0 H locs) (hin2 : meth.name = "<init>") (q0 : Nat) {fs : List Value} (he : ws[q0]? = some (a, .inr (9, fs))) (hl : 30 < fs.length) {x : Nat} (hdg : decode cc pc = .ok (.putfield 63, 3)) (kk : ∀ (H1 : Heap) (locs1 : List Loc), va_P D CC (ws.set q0 (a, .inr (9, fs.set 30 (.ref x)))) H1 → va_D A (ws.set q0 (a, .inr (9, fs.set 30 (.ref x)))) → va_S A H0 H1 locs1 → W p l e R s m args below meth c H1 locs1 cells slots Q (F0 m (pc + 3) ls rest)) : W p l e R s m args below meth c H locs cells slots Q (F0 m pc ls (.ref x :: .ref a :: rest)) := va_putF (D := D) (ci := 9) (v := (.ref x)) (ty := ty_M 30) (C := "SealedBookModel") (T := F_M) (N := 32) hx hb hT in_M ty_M ok_M nm_M hown hK hP hD hS q0 he rfl 30 (by decide) (hT _ t_961) (fun _ h9 => h9) rfl hin2 rfl (by decide +kernel) rfl rfl hl hdg kk
theorem gf_M_66 (hx : p.tables.exec = Jvm.exec) (hb : c.code = cc) (hT : ∀ w ∈ TT, w.before args s = true) (hown : s.vm.findClass "SealedBookModel" = some m.cls) (hK : va_K D CC tys s) (hP : va_P D CC ws H) (q0 : Nat) {fs : List Value} (he : ws[q0]? = some (a, .inr (9, fs))) {v : Value} (hv : fs[31]? = some v) (hdg : decode cc pc = .ok (.getfield 66, 3)) (kk : W p l e R s m args below meth c H locs cells slots Q (F0 m (pc + 3) ls (v :: rest))) : W p l e R s m args below meth c H locs cells slots Q (F0 m pc ls (.ref a :: rest)) := va_get (D := D) (ci := 9) (C := "SealedBookModel") (T := F_M) (N := 32) hx hb hT in_M hown hK hP q0 he rfl 31 (by decide) (hT _ t_962) (fun _ h9 => h9) hv hdg kk
theorem pf_M_66 (hx : p.tables.exec = Jvm.exec) (hb : c.code = cc) (hT : ∀ w ∈ TT, w.before args s = true) (hown : s.vm.findClass "SealedBookModel" = some m.cls) (hK : va_K D CC tys s) (hP : va_P D CC ws H) (hD : va_D A ws) (hS : va_S A H0 H locs) (hin2 : meth.name = "<init>") (q0 : Nat) {fs : List Value} (he : ws[q0]? = some (a, .inr (9, fs))) (hl : 31 < fs.length) {x : Nat} (hdg : decode cc pc = .ok (.putfield 66, 3)) (kk : ∀ (H1 : Heap) (locs1 : List Loc), va_P D CC (ws.set q0 (a, .inr (9, fs.set 31 (.ref x)))) H1 → va_D A (ws.set q0 (a, .inr (9, fs.set 31 (.ref x)))) → va_S A H0 H1 locs1 → W p l e R s m args below meth c H1 locs1 cells slots Q (F0 m (pc + 3) ls rest)) : W p l e R s m args below meth c H locs cells slots Q (F0 m pc ls (.ref x :: .ref a :: rest)) := va_putF (D := D) (ci := 9) (v := (.ref x)) (ty := ty_M 31) (C := "SealedBookModel") (T := F_M) (N := 32) hx hb hT in_M ty_M ok_M nm_M hown hK hP hD hS q0 he rfl 31 (by decide) (hT _ t_962) (fun _ h9 => h9) rfl hin2 rfl (by decide +kernel) rfl rfl hl hdg kk
theorem gf_M_69 (hx : p.tables.exec = Jvm.exec) (hb : c.code = cc) (hT : ∀ w ∈ TT, w.before args s = true) (hown : s.vm.findClass "SealedBookModel" = some m.cls) (hK : va_K D CC tys s) (hP : va_P D CC ws H) (q0 : Nat) {fs : List Value} (he : ws[q0]? = some (a, .inr (9, fs))) {v : Value} (hv : fs[3]? = some v) (hdg : decode cc pc = .ok (.getfield 69, 3)) (kk : W p l e R s m args below meth c H locs cells slots Q (F0 m (pc + 3) ls (v :: rest))) : W p l e R s m args below meth c H locs cells slots Q (F0 m pc ls (.ref a :: rest)) := va_get (D := D) (ci := 9) (C := "SealedBookModel") (T := F_M) (N := 32) hx hb hT in_M hown hK hP q0 he rfl 3 (by decide) (hT _ t_934) (fun _ h9 => h9) hv hdg kk
theorem pf_M_69 (hx : p.tables.exec = Jvm.exec) (hb : c.code = cc) (hT : ∀ w ∈ TT, w.before args s = true) (hown : s.vm.findClass "SealedBookModel" = some m.cls) (hK : va_K D CC tys s) (hP : va_P D CC ws H) (hD : va_D A ws) (hS : va_S A H0 H locs) (q0 : Nat) {fs : List Value} (he : ws[q0]? = some (a, .inr (9, fs))) (hl : 3 < fs.length) {x : Int32} (hdg : decode cc pc = .ok (.putfield 69, 3)) (kk : ∀ (H1 : Heap) (locs1 : List Loc), va_P D CC (ws.set q0 (a, .inr (9, fs.set 3 (.int x)))) H1 → va_D A (ws.set q0 (a, .inr (9, fs.set 3 (.int x)))) → va_S A H0 H1 locs1 → W p l e R s m args below meth c H1 locs1 cells slots Q (F0 m (pc + 3) ls rest)) : W p l e R s m args below meth c H locs cells slots Q (F0 m pc ls (.int x :: .ref a :: rest)) := va_put (D := D) (ci := 9) (v := (.int x)) (ty := .int) (C := "SealedBookModel") (T := F_M) (N := 32) hx hb hT in_M ty_M ok_M nm_M hown hK hP hD hS q0 he rfl 3 (by decide) (hT _ t_934) (fun _ h9 => h9) rfl (by decide +kernel) rfl rfl hl hdg kk
theorem gf_M_73 (hx : p.tables.exec = Jvm.exec) (hb : c.code = cc) (hT : ∀ w ∈ TT, w.before args s = true) (hown : s.vm.findClass "SealedBookModel" = some m.cls) (hK : va_K D CC tys s) (hP : va_P D CC ws H) (q0 : Nat) {fs : List Value} (he : ws[q0]? = some (a, .inr (9, fs))) {v : Value} (hv : fs[0]? = some v) (hdg : decode cc pc = .ok (.getfield 73, 3)) (kk : W p l e R s m args below meth c H locs cells slots Q (F0 m (pc + 3) ls (v :: rest))) : W p l e R s m args below meth c H locs cells slots Q (F0 m pc ls (.ref a :: rest)) := va_get (D := D) (ci := 9) (C := "SealedBookModel") (T := F_M) (N := 32) hx hb hT in_M hown hK hP q0 he rfl 0 (by decide) (hT _ t_931) (fun _ h9 => h9) hv hdg kk
theorem pf_M_73 (hx : p.tables.exec = Jvm.exec) (hb : c.code = cc) (hT : ∀ w ∈ TT, w.before args s = true) (hown : s.vm.findClass "SealedBookModel" = some m.cls) (hK : va_K D CC tys s) (hP : va_P D CC ws H) (hD : va_D A ws) (hS : va_S A H0 H locs) (q0 : Nat) {fs : List Value} (he : ws[q0]? = some (a, .inr (9, fs))) (hl : 0 < fs.length) {x : Int32} (hdg : decode cc pc = .ok (.putfield 73, 3)) (kk : ∀ (H1 : Heap) (locs1 : List Loc), va_P D CC (ws.set q0 (a, .inr (9, fs.set 0 (.int x)))) H1 → va_D A (ws.set q0 (a, .inr (9, fs.set 0 (.int x)))) → va_S A H0 H1 locs1 → W p l e R s m args below meth c H1 locs1 cells slots Q (F0 m (pc + 3) ls rest)) : W p l e R s m args below meth c H locs cells slots Q (F0 m pc ls (.int x :: .ref a :: rest)) := va_put (D := D) (ci := 9) (v := (.int x)) (ty := .int) (C := "SealedBookModel") (T := F_M) (N := 32) hx hb hT in_M ty_M ok_M nm_M hown hK hP hD hS q0 he rfl 0 (by decide) (hT _ t_931) (fun _ h9 => h9) rfl (by decide +kernel) rfl rfl hl hdg kk
theorem gf_M_89 (hx : p.tables.exec = Jvm.exec) (hb : c.code = cc) (hT : ∀ w ∈ TT, w.before args s = true) (hown : s.vm.findClass "SealedBookModel" = some m.cls) (hK : va_K D CC tys s) (hP : va_P D CC ws H) (q0 : Nat) {fs : List Value} (he : ws[q0]? = some (a, .inr (9, fs))) {v : Value} (hv : fs[11]? = some v) (hdg : decode cc pc = .ok (.getfield 89, 3)) (kk : W p l e R s m args below meth c H locs cells slots Q (F0 m (pc + 3) ls (v :: rest))) : W p l e R s m args below meth c H locs cells slots Q (F0 m pc ls (.ref a :: rest)) := va_get (D := D) (ci := 9) (C := "SealedBookModel") (T := F_M) (N := 32) hx hb hT in_M hown hK hP q0 he rfl 11 (by decide) (hT _ t_942) (fun _ h9 => h9) hv hdg kk
theorem pf_M_89 (hx : p.tables.exec = Jvm.exec) (hb : c.code = cc) (hT : ∀ w ∈ TT, w.before args s = true) (hown : s.vm.findClass "SealedBookModel" = some m.cls) (hK : va_K D CC tys s) (hP : va_P D CC ws H) (hD : va_D A ws) (hS : va_S A H0 H locs) (q0 : Nat) {fs : List Value} (he : ws[q0]? = some (a, .inr (9, fs))) (hl : 11 < fs.length) {x : Int32} (hdg : decode cc pc = .ok (.putfield 89, 3)) (kk : ∀ (H1 : Heap) (locs1 : List Loc), va_P D CC (ws.set q0 (a, .inr (9, fs.set 11 (.int x)))) H1 → va_D A (ws.set q0 (a, .inr (9, fs.set 11 (.int x)))) → va_S A H0 H1 locs1 → W p l e R s m args below meth c H1 locs1 cells slots Q (F0 m (pc + 3) ls rest)) : W p l e R s m args below meth c H locs cells slots Q (F0 m pc ls (.int x :: .ref a :: rest)) := va_put (D := D) (ci := 9) (v := (.int x)) (ty := .int) (C := "SealedBookModel") (T := F_M) (N := 32) hx hb hT in_M ty_M ok_M nm_M hown hK hP hD hS q0 he rfl 11 (by decide) (hT _ t_942) (fun _ h9 => h9) rfl (by decide +kernel) rfl rfl hl hdg kk
theorem gf_M_111 (hx : p.tables.exec = Jvm.exec) (hb : c.code = cc) (hT : ∀ w ∈ TT, w.before args s = true) (hown : s.vm.findClass "SealedBookModel" = some m.cls) (hK : va_K D CC tys s) (hP : va_P D CC ws H) (q0 : Nat) {fs : List Value} (he : ws[q0]? = some (a, .inr (9, fs))) {v : Value} (hv : fs[6]? = some v) (hdg : decode cc pc = .ok (.getfield 111, 3)) (kk : W p l e R s m args below meth c H locs cells slots Q (F0 m (pc + 3) ls (v :: rest))) : W p l e R s m args below meth c H locs cells slots Q (F0 m pc ls (.ref a :: rest)) := va_get (D := D) (ci := 9) (C := "SealedBookModel") (T := F_M) (N := 32) hx hb hT in_M hown hK hP q0 he rfl 6 (by decide) (hT _ t_937) (fun _ h9 => h9) hv hdg kk
theorem pf_M_111 (hx : p.tables.exec = Jvm.exec) (hb : c.code = cc) (hT : ∀ w ∈ TT, w.before args s = true) (hown : s.vm.findClass "SealedBookModel" = some m.cls) (hK : va_K D CC tys s) (hP : va_P D CC ws H) (hD : va_D A ws) (hS : va_S A H0 H locs) (q0 : Nat) {fs : List Value} (he : ws[q0]? = some (a, .inr (9, fs))) (hl : 6 < fs.length) {x : Int32} (hdg : decode cc pc = .ok (.putfield 111, 3)) (kk : ∀ (H1 : Heap) (locs1 : List Loc), va_P D CC (ws.set q0 (a, .inr (9, fs.set 6 (.int x)))) H1 → va_D A (ws.set q0 (a, .inr (9, fs.set 6 (.int x)))) → va_S A H0 H1 locs1 → W p l e R s m args below meth c H1 locs1 cells slots Q (F0 m (pc + 3) ls rest)) : W p l e R s m args below meth c H locs cells slots Q (F0 m pc ls (.int x :: .ref a :: rest)) := va_put (D := D) (ci := 9) (v := (.int x)) (ty := .int) (C := "SealedBookModel") (T := F_M) (N := 32) hx hb hT in_M ty_M ok_M nm_M hown hK hP hD hS q0 he rfl 6 (by decide) (hT _ t_937) (fun _ h9 => h9) rfl (by decide +kernel) rfl rfl hl hdg kk
theorem gf_M_114 (hx : p.tables.exec = Jvm.exec) (hb : c.code = cc) (hT : ∀ w ∈ TT, w.before args s = true) (hown : s.vm.findClass "SealedBookModel" = some m.cls) (hK : va_K D CC tys s) (hP : va_P D CC ws H) (q0 : Nat) {fs : List Value} (he : ws[q0]? = some (a, .inr (9, fs))) {v : Value} (hv : fs[5]? = some v) (hdg : decode cc pc = .ok (.getfield 114, 3)) (kk : W p l e R s m args below meth c H locs cells slots Q (F0 m (pc + 3) ls (v :: rest))) : W p l e R s m args below meth c H locs cells slots Q (F0 m pc ls (.ref a :: rest)) := va_get (D := D) (ci := 9) (C := "SealedBookModel") (T := F_M) (N := 32) hx hb hT in_M hown hK hP q0 he rfl 5 (by decide) (hT _ t_936) (fun _ h9 => h9) hv hdg kk
theorem pf_M_114 (hx : p.tables.exec = Jvm.exec) (hb : c.code = cc) (hT : ∀ w ∈ TT, w.before args s = true) (hown : s.vm.findClass "SealedBookModel" = some m.cls) (hK : va_K D CC tys s) (hP : va_P D CC ws H) (hD : va_D A ws) (hS : va_S A H0 H locs) (q0 : Nat) {fs : List Value} (he : ws[q0]? = some (a, .inr (9, fs))) (hl : 5 < fs.length) {x : Int32} (hdg : decode cc pc = .ok (.putfield 114, 3)) (kk : ∀ (H1 : Heap) (locs1 : List Loc), va_P D CC (ws.set q0 (a, .inr (9, fs.set 5 (.int x)))) H1 → va_D A (ws.set q0 (a, .inr (9, fs.set 5 (.int x)))) → va_S A H0 H1 locs1 → W p l e R s m args below meth c H1 locs1 cells slots Q (F0 m (pc + 3) ls rest)) : W p l e R s m args below meth c H locs cells slots Q (F0 m pc ls (.int x :: .ref a :: rest)) := va_put (D := D) (ci := 9) (v := (.int x)) (ty := .int) (C := "SealedBookModel") (T := F_M) (N := 32) hx hb hT in_M ty_M ok_M nm_M hown hK hP hD hS q0 he rfl 5 (by decide) (hT _ t_936) (fun _ h9 => h9) rfl (by decide +kernel) rfl rfl hl hdg kk
theorem gf_M_117 (hx : p.tables.exec = Jvm.exec) (hb : c.code = cc) (hT : ∀ w ∈ TT, w.before args s = true) (hown : s.vm.findClass "SealedBookModel" = some m.cls) (hK : va_K D CC tys s) (hP : va_P D CC ws H) (q0 : Nat) {fs : List Value} (he : ws[q0]? = some (a, .inr (9, fs))) {v : Value} (hv : fs[8]? = some v) (hdg : decode cc pc = .ok (.getfield 117, 3)) (kk : W p l e R s m args below meth c H locs cells slots Q (F0 m (pc + 3) ls (v :: rest))) : W p l e R s m args below meth c H locs cells slots Q (F0 m pc ls (.ref a :: rest)) := va_get (D := D) (ci := 9) (C := "SealedBookModel") (T := F_M) (N := 32) hx hb hT in_M hown hK hP q0 he rfl 8 (by decide) (hT _ t_939) (fun _ h9 => h9) hv hdg kk
theorem pf_M_117 (hx : p.tables.exec = Jvm.exec) (hb : c.code = cc) (hT : ∀ w ∈ TT, w.before args s = true) (hown : s.vm.findClass "SealedBookModel" = some m.cls) (hK : va_K D CC tys s) (hP : va_P D CC ws H) (hD : va_D A ws) (hS : va_S A H0 H locs) (q0 : Nat) {fs : List Value} (he : ws[q0]? = some (a, .inr (9, fs))) (hl : 8 < fs.length) {x : Int32} (hdg : decode cc pc = .ok (.putfield 117, 3)) (kk : ∀ (H1 : Heap) (locs1 : List Loc), va_P D CC (ws.set q0 (a, .inr (9, fs.set 8 (.int x)))) H1 → va_D A (ws.set q0 (a, .inr (9, fs.set 8 (.int x)))) → va_S A H0 H1 locs1 → W p l e R s m args below meth c H1 locs1 cells slots Q (F0 m (pc + 3) ls rest)) : W p l e R s m args below meth c H locs cells slots Q (F0 m pc ls (.int x :: .ref a :: rest)) := va_put (D := D) (ci := 9) (v := (.int x)) (ty := .int) (C := "SealedBookModel") (T := F_M) (N := 32) hx hb hT in_M ty_M ok_M nm_M hown hK hP hD hS q0 he rfl 8 (by decide) (hT _ t_939) (fun _ h9 => h9) rfl (by decide +kernel) rfl rfl hl hdg kk
theorem gf_M_155 (hx : p.tables.exec = Jvm.exec) (hb : c.code = cc) (hT : ∀ w ∈ TT, w.before args s = true) (hown : s.vm.findClass "SealedBookModel" = some m.cls) (hK : va_K D CC tys s) (hP : va_P D CC ws H) (q0 : Nat) {fs : List Value} (he : ws[q0]? = some (a, .inr (9, fs))) {v : Value} (hv : fs[17]? = some v) (hdg : decode cc pc = .ok (.getfield 155, 3)) (kk : W p l e R s m args below meth c H locs cells slots Q (F0 m (pc + 3) ls (v :: rest))) : W p l e R s m args below meth c H locs cells slots Q (F0 m pc ls (.ref a :: rest)) := va_get (D := D) (ci := 9) (C := "SealedBookModel") (T := F_M) (N := 32) hx hb hT in_M hown hK hP q0 he rfl 17 (by decide) (hT _ t_948) (fun _ h9 => h9) hv hdg kk
theorem pf_M_155 (hx : p.tables.exec = Jvm.exec) (hb : c.code = cc) (hT : ∀ w ∈ TT, w.before args s = true) (hown : s.vm.findClass "SealedBookModel" = some m.cls) (hK : va_K D CC tys s) (hP : va_P D CC ws H) (hD : va_D A ws) (hS : va_S A H0 H locs) (q0 : Nat) {fs : List Value} (he : ws[q0]? = some (a, .inr (9, fs))) (hl : 17 < fs.length) {x : Int32} (hdg : decode cc pc = .ok (.putfield 155, 3)) (kk : ∀ (H1 : Heap) (locs1 : List Loc), va_P D CC (ws.set q0 (a, .inr (9, fs.set 17 (.int x)))) H1 → va_D A (ws.set q0 (a, .inr (9, fs.set 17 (.int x)))) → va_S A H0 H1 locs1 → W p l e R s m args below meth c H1 locs1 cells slots Q (F0 m (pc + 3) ls rest)) : W p l e R s m args below meth c H locs cells slots Q (F0 m pc ls (.int x :: .ref a :: rest)) := va_put (D := D) (ci := 9) (v := (.int x)) (ty := .int) (C := "SealedBookModel") (T := F_M) (N := 32) hx hb hT in_M ty_M ok_M nm_M hown hK hP hD hS q0 he rfl 17 (by decide) (hT _ t_948) (fun _ h9 => h9) rfl (by decide +kernel) rfl rfl hl hdg kk
theorem gf_M_165 (hx : p.tables.exec = Jvm.exec) (hb : c.code = cc) (hT : ∀ w ∈ TT, w.before args s = true) (hown : s.vm.findClass "SealedBookModel" = some m.cls) (hK : va_K D CC tys s) (hP : va_P D CC ws H) (q0 : Nat) {fs : List Value} (he : ws[q0]? = some (a, .inr (9, fs))) {v : Value} (hv : fs[21]? = some v) (hdg : decode cc pc = .ok (.getfield 165, 3)) (kk : W p l e R s m args below meth c H locs cells slots Q (F0 m (pc + 3) ls (v :: rest))) : W p l e R s m args below meth c H locs cells slots Q (F0 m pc ls (.ref a :: rest)) := va_get (D := D) (ci := 9) (C := "SealedBookModel") (T := F_M) (N := 32) hx hb hT in_M hown hK hP q0 he rfl 21 (by decide) (hT _ t_952) (fun _ h9 => h9) hv hdg kk
theorem pf_M_165 (hx : p.tables.exec = Jvm.exec) (hb : c.code = cc) (hT : ∀ w ∈ TT, w.before args s = true) (hown : s.vm.findClass "SealedBookModel" = some m.cls) (hK : va_K D CC tys s) (hP : va_P D CC ws H) (hD : va_D A ws) (hS : va_S A H0 H locs) (q0 : Nat) {fs : List Value} (he : ws[q0]? = some (a, .inr (9, fs))) (hl : 21 < fs.length) {x : Int32} (hdg : decode cc pc = .ok (.putfield 165, 3)) (kk : ∀ (H1 : Heap) (locs1 : List Loc), va_P D CC (ws.set q0 (a, .inr (9, fs.set 21 (.int x)))) H1 → va_D A (ws.set q0 (a, .inr (9, fs.set 21 (.int x)))) → va_S A H0 H1 locs1 → W p l e R s m args below meth c H1 locs1 cells slots Q (F0 m (pc + 3) ls rest)) : W p l e R s m args below meth c H locs cells slots Q (F0 m pc ls (.int x :: .ref a :: rest)) := va_put (D := D) (ci := 9) (v := (.int x)) (ty := .int) (C := "SealedBookModel") (T := F_M) (N := 32) hx hb hT in_M ty_M ok_M nm_M hown hK hP hD hS q0 he rfl 21 (by decide) (hT _ t_952) (fun _ h9 => h9) rfl (by decide +kernel) rfl rfl hl hdg kk
theorem gf_M_194 (hx : p.tables.exec = Jvm.exec) (hb : c.code = cc) (hT : ∀ w ∈ TT, w.before args s = true) (hown : s.vm.findClass "SealedBookModel" = some m.cls) (hK : va_K D CC tys s) (hP : va_P D CC ws H) (q0 : Nat) {fs : List Value} (he : ws[q0]? = some (a, .inr (9, fs))) {v : Value} (hv : fs[23]? = some v) (hdg : decode cc pc = .ok (.getfield 194, 3)) (kk : W p l e R s m args below meth c H locs cells slots Q (F0 m (pc + 3) ls (v :: rest))) : W p l e R s m args below meth c H locs cells slots Q (F0 m pc ls (.ref a :: rest)) := va_get (D := D) (ci := 9) (C := "SealedBookModel") (T := F_M) (N := 32) hx hb hT in_M hown hK hP q0 he rfl 23 (by decide) (hT _ t_954) (fun _ h9 => h9) hv hdg kk
theorem pf_M_194 (hx : p.tables.exec = Jvm.exec) (hb : c.code = cc) (hT : ∀ w ∈ TT, w.before args s = true) (hown : s.vm.findClass "SealedBookModel" = some m.cls) (hK : va_K D CC tys s) (hP : va_P D CC ws H) (hD : va_D A ws) (hS : va_S A H0 H locs) (q0 : Nat) {fs : List Value} (he : ws[q0]? = some (a, .inr (9, fs))) (hl : 23 < fs.length) {x : Int32} (hdg : decode cc pc = .ok (.putfield 194, 3)) (kk : ∀ (H1 : Heap) (locs1 : List Loc), va_P D CC (ws.set q0 (a, .inr (9, fs.set 23 (.int x)))) H1 → va_D A (ws.set q0 (a, .inr (9, fs.set 23 (.int x)))) → va_S A H0 H1 locs1 → W p l e R s m args below meth c H1 locs1 cells slots Q (F0 m (pc + 3) ls rest)) : W p l e R s m args below meth c H locs cells slots Q (F0 m pc ls (.int x :: .ref a :: rest)) := va_put (D := D) (ci := 9) (v := (.int x)) (ty := .int) (C := "SealedBookModel") (T := F_M) (N := 32) hx hb hT in_M ty_M ok_M nm_M hown hK hP hD hS q0 he rfl 23 (by decide) (hT _ t_954) (fun _ h9 => h9) rfl (by decide +kernel) rfl rfl hl hdg kk
theorem gf_M_197 (hx : p.tables.exec = Jvm.exec) (hb : c.code = cc) (hT : ∀ w ∈ TT, w.before args s = true) (hown : s.vm.findClass "SealedBookModel" = some m.cls) (hK : va_K D CC tys s) (hP : va_P D CC ws H) (q0 : Nat) {fs : List Value} (he : ws[q0]? = some (a, .inr (9, fs))) {v : Value} (hv : fs[25]? = some v) (hdg : decode cc pc = .ok (.getfield 197, 3)) (kk : W p l e R s m args below meth c H locs cells slots Q (F0 m (pc + 3) ls (v :: rest))) : W p l e R s m args below meth c H locs cells slots Q (F0 m pc ls (.ref a :: rest)) := va_get (D := D) (ci := 9) (C := "SealedBookModel") (T := F_M) (N := 32) hx hb hT in_M hown hK hP q0 he rfl 25 (by decide) (hT _ t_956) (fun _ h9 => h9) hv hdg kk
theorem pf_M_197 (hx : p.tables.exec = Jvm.exec) (hb : c.code = cc) (hT : ∀ w ∈ TT, w.before args s = true) (hown : s.vm.findClass "SealedBookModel" = some m.cls) (hK : va_K D CC tys s) (hP : va_P D CC ws H) (hD : va_D A ws) (hS : va_S A H0 H locs) (q0 : Nat) {fs : List Value} (he : ws[q0]? = some (a, .inr (9, fs))) (hl : 25 < fs.length) {x : Int32} (hdg : decode cc pc = .ok (.putfield 197, 3)) (kk : ∀ (H1 : Heap) (locs1 : List Loc), va_P D CC (ws.set q0 (a, .inr (9, fs.set 25 (.int x)))) H1 → va_D A (ws.set q0 (a, .inr (9, fs.set 25 (.int x)))) → va_S A H0 H1 locs1 → W p l e R s m args below meth c H1 locs1 cells slots Q (F0 m (pc + 3) ls rest)) : W p l e R s m args below meth c H locs cells slots Q (F0 m pc ls (.int x :: .ref a :: rest)) := va_put (D := D) (ci := 9) (v := (.int x)) (ty := .int) (C := "SealedBookModel") (T := F_M) (N := 32) hx hb hT in_M ty_M ok_M nm_M hown hK hP hD hS q0 he rfl 25 (by decide) (hT _ t_956) (fun _ h9 => h9) rfl (by decide +kernel) rfl rfl hl hdg kk
theorem gf_M_200 (hx : p.tables.exec = Jvm.exec) (hb : c.code = cc) (hT : ∀ w ∈ TT, w.before args s = true) (hown : s.vm.findClass "SealedBookModel" = some m.cls) (hK : va_K D CC tys s) (hP : va_P D CC ws H) (q0 : Nat) {fs : List Value} (he : ws[q0]? = some (a, .inr (9, fs))) {v : Value} (hv : fs[26]? = some v) (hdg : decode cc pc = .ok (.getfield 200, 3)) (kk : W p l e R s m args below meth c H locs cells slots Q (F0 m (pc + 3) ls (v :: rest))) : W p l e R s m args below meth c H locs cells slots Q (F0 m pc ls (.ref a :: rest)) := va_get (D := D) (ci := 9) (C := "SealedBookModel") (T := F_M) (N := 32) hx hb hT in_M hown hK hP q0 he rfl 26 (by decide) (hT _ t_957) (fun _ h9 => h9) hv hdg kk
theorem pf_M_200 (hx : p.tables.exec = Jvm.exec) (hb : c.code = cc) (hT : ∀ w ∈ TT, w.before args s = true) (hown : s.vm.findClass "SealedBookModel" = some m.cls) (hK : va_K D CC tys s) (hP : va_P D CC ws H) (hD : va_D A ws) (hS : va_S A H0 H locs) (q0 : Nat) {fs : List Value} (he : ws[q0]? = some (a, .inr (9, fs))) (hl : 26 < fs.length) {x : Int32} (hz : narrow .boolean (.int x) = .int x) (hf : fits .boolean (.int x) = true) (hdg : decode cc pc = .ok (.putfield 200, 3)) (kk : ∀ (H1 : Heap) (locs1 : List Loc), va_P D CC (ws.set q0 (a, .inr (9, fs.set 26 (.int x)))) H1 → va_D A (ws.set q0 (a, .inr (9, fs.set 26 (.int x)))) → va_S A H0 H1 locs1 → W p l e R s m args below meth c H1 locs1 cells slots Q (F0 m (pc + 3) ls rest)) : W p l e R s m args below meth c H locs cells slots Q (F0 m pc ls (.int x :: .ref a :: rest)) := va_put (D := D) (ci := 9) (v := (.int x)) (ty := .boolean) (C := "SealedBookModel") (T := F_M) (N := 32) hx hb hT in_M ty_M ok_M nm_M hown hK hP hD hS q0 he rfl 26 (by decide) (hT _ t_957) (fun _ h9 => h9) rfl (by decide +kernel) hz hf hl hdg kk
theorem gf_M_211 (hx : p.tables.exec = Jvm.exec) (hb : c.code = cc) (hT : ∀ w ∈ TT, w.before args s = true) (hown : s.vm.findClass "SealedBookModel" = some m.cls) (hK : va_K D CC tys s) (hP : va_P D CC ws H) (q0 : Nat) {fs : List Value} (he : ws[q0]? = some (a, .inr (9, fs))) {v : Value} (hv : fs[29]? = some v) (hdg : decode cc pc = .ok (.getfield 211, 3)) (kk : W p l e R s m args below meth c H locs cells slots Q (F0 m (pc + 3) ls (v :: rest))) : W p l e R s m args below meth c H locs cells slots Q (F0 m pc ls (.ref a :: rest)) := va_get (D := D) (ci := 9) (C := "SealedBookModel") (T := F_M) (N := 32) hx hb hT in_M hown hK hP q0 he rfl 29 (by decide) (hT _ t_960) (fun _ h9 => h9) hv hdg kk
theorem pf_M_211 (hx : p.tables.exec = Jvm.exec) (hb : c.code = cc) (hT : ∀ w ∈ TT, w.before args s = true) (hown : s.vm.findClass "SealedBookModel" = some m.cls) (hK : va_K D CC tys s) (hP : va_P D CC ws H) (hD : va_D A ws) (hS : va_S A H0 H locs) (q0 : Nat) {fs : List Value} (he : ws[q0]? = some (a, .inr (9, fs))) (hl : 29 < fs.length) {x : Int32} (hdg : decode cc pc = .ok (.putfield 211, 3)) (kk : ∀ (H1 : Heap) (locs1 : List Loc), va_P D CC (ws.set q0 (a, .inr (9, fs.set 29 (.int x)))) H1 → va_D A (ws.set q0 (a, .inr (9, fs.set 29 (.int x)))) → va_S A H0 H1 locs1 → W p l e R s m args below meth c H1 locs1 cells slots Q (F0 m (pc + 3) ls rest)) : W p l e R s m args below meth c H locs cells slots Q (F0 m pc ls (.int x :: .ref a :: rest)) := va_put (D := D) (ci := 9) (v := (.int x)) (ty := .int) (C := "SealedBookModel") (T := F_M) (N := 32) hx hb hT in_M ty_M ok_M nm_M hown hK hP hD hS q0 he rfl 29 (by decide) (hT _ t_960) (fun _ h9 => h9) rfl (by decide +kernel) rfl rfl hl hdg kk
theorem gf_M_226 (hx : p.tables.exec = Jvm.exec) (hb : c.code = cc) (hT : ∀ w ∈ TT, w.before args s = true) (hown : s.vm.findClass "SealedBookModel" = some m.cls) (hK : va_K D CC tys s) (hP : va_P D CC ws H) (q0 : Nat) {fs : List Value} (he : ws[q0]? = some (a, .inr (9, fs))) {v : Value} (hv : fs[28]? = some v) (hdg : decode cc pc = .ok (.getfield 226, 3)) (kk : W p l e R s m args below meth c H locs cells slots Q (F0 m (pc + 3) ls (v :: rest))) : W p l e R s m args below meth c H locs cells slots Q (F0 m pc ls (.ref a :: rest)) := va_get (D := D) (ci := 9) (C := "SealedBookModel") (T := F_M) (N := 32) hx hb hT in_M hown hK hP q0 he rfl 28 (by decide) (hT _ t_959) (fun _ h9 => h9) hv hdg kk
theorem pf_M_226 (hx : p.tables.exec = Jvm.exec) (hb : c.code = cc) (hT : ∀ w ∈ TT, w.before args s = true) (hown : s.vm.findClass "SealedBookModel" = some m.cls) (hK : va_K D CC tys s) (hP : va_P D CC ws H) (hD : va_D A ws) (hS : va_S A H0 H locs) (q0 : Nat) {fs : List Value} (he : ws[q0]? = some (a, .inr (9, fs))) (hl : 28 < fs.length) {x : Int32} (hdg : decode cc pc = .ok (.putfield 226, 3)) (kk : ∀ (H1 : Heap) (locs1 : List Loc), va_P D CC (ws.set q0 (a, .inr (9, fs.set 28 (.int x)))) H1 → va_D A (ws.set q0 (a, .inr (9, fs.set 28 (.int x)))) → va_S A H0 H1 locs1 → W p l e R s m args below meth c H1 locs1 cells slots Q (F0 m (pc + 3) ls rest)) : W p l e R s m args below meth c H locs cells slots Q (F0 m pc ls (.int x :: .ref a :: rest)) := va_put (D := D) (ci := 9) (v := (.int x)) (ty := .int) (C := "SealedBookModel") (T := F_M) (N := 32) hx hb hT in_M ty_M ok_M nm_M hown hK hP hD hS q0 he rfl 28 (by decide) (hT _ t_959) (fun _ h9 => h9) rfl (by decide +kernel) rfl rfl hl hdg kk
end AC
end
section
theorem n_38 : Cond.methodLinkNest "SealedBook" 9 ⟨"SealedBook$Store", "<init>", "()V"⟩ "SealedBook" ∈ tables_1 := List.mem_of_getElem? (i := 38) (by decide +kernel)
theorem n_58 : Cond.methodLinkNest "SealedBook" 18 ⟨"SealedBook$History", "<init>", "()V"⟩ "SealedBook" ∈ tables_1 := List.mem_of_getElem? (i := 58) (by decide +kernel)
theorem n_75 : Cond.methodLinkNest "SealedBook" 25 ⟨"SealedBook$Transaction", "<init>", "()V"⟩ "SealedBook" ∈ tables_1 := List.mem_of_getElem? (i := 75) (by decide +kernel)
theorem n_92 : Cond.methodLinkNest "SealedBook" 32 ⟨"SealedBook$Row", "<init>", "()V"⟩ "SealedBook" ∈ tables_1 := List.mem_of_getElem? (i := 92) (by decide +kernel)
theorem n_118 : Cond.methodLinkNest "SealedBook" 39 ⟨"SealedBook$Prover", "<init>", "()V"⟩ "SealedBook" ∈ tables_1 := List.mem_of_getElem? (i := 118) (by decide +kernel)
theorem n_124 : Cond.methodLinkNest "SealedBook$Prover" 9 ⟨"SealedBook$Bytes", "<init>", "()V"⟩ "SealedBook" ∈ tables_1 := List.mem_of_getElem? (i := 124) (by decide +kernel)
theorem n_144 : Cond.methodLinkNest "SealedBook" 46 ⟨"SealedBook$Verifier", "<init>", "()V"⟩ "SealedBook" ∈ tables_1 := List.mem_of_getElem? (i := 144) (by decide +kernel)
theorem n_149 : Cond.methodLinkNest "SealedBook$Verifier" 11 ⟨"SealedBook$Bytes", "<init>", "()V"⟩ "SealedBook" ∈ tables_1 := List.mem_of_getElem? (i := 149) (by decide +kernel)
theorem n_213 : Cond.methodLinkNest "SealedBook$Transaction" 19 ⟨"SealedBook", "bottomFor", "(LSealedBook$Chunk;I)LSealedBook$Chunk;"⟩ "SealedBook" ∈ tables_1 := List.mem_of_getElem? (i := 213) (by decide +kernel)
theorem n_224 : Cond.methodLinkNest "SealedBook$Transaction" 23 ⟨"SealedBook", "holds", "(LSealedBook$Chunk;I)Z"⟩ "SealedBook" ∈ tables_1 := List.mem_of_getElem? (i := 224) (by decide +kernel)
theorem n_228 : Cond.methodLinkNest "SealedBook$Transaction" 27 ⟨"SealedBook", "valueIn", "(LSealedBook$Chunk;I)I"⟩ "SealedBook" ∈ tables_1 := List.mem_of_getElem? (i := 228) (by decide +kernel)
theorem n_419 : Cond.methodLinkNest "SealedBook$Store" 35 ⟨"SealedBook", "endsChunk", "(II)Z"⟩ "SealedBook" ∈ tables_1 := List.mem_of_getElem? (i := 419) (by decide +kernel)
theorem n_434 : Cond.methodLinkNest "SealedBook$Row" 28 ⟨"SealedBook", "mix", "(II)I"⟩ "SealedBook" ∈ tables_1 := List.mem_of_getElem? (i := 434) (by decide +kernel)
theorem n_800 : Cond.methodLinkNest "SealedBook" 147 ⟨"SealedBook$History", "seal", "(II)I"⟩ "SealedBook" ∈ tables_1 := List.mem_of_getElem? (i := 800) (by decide +kernel)
theorem n_805 : Cond.methodLinkNest "SealedBook$History" 28 ⟨"SealedBook", "leafOf", "(II)I"⟩ "SealedBook" ∈ tables_1 := List.mem_of_getElem? (i := 805) (by decide +kernel)
theorem n_808 : Cond.methodLinkNest "SealedBook$History" 32 ⟨"SealedBook", "half", "(I)I"⟩ "SealedBook" ∈ tables_1 := List.mem_of_getElem? (i := 808) (by decide +kernel)
theorem n_812 : Cond.methodLinkNest "SealedBook$History" 38 ⟨"SealedBook", "join", "(II)I"⟩ "SealedBook" ∈ tables_1 := List.mem_of_getElem? (i := 812) (by decide +kernel)
theorem n_839 : Cond.methodLinkNest "SealedBook$Prover" 53 ⟨"SealedBook", "half", "(I)I"⟩ "SealedBook" ∈ tables_1 := List.mem_of_getElem? (i := 839) (by decide +kernel)
theorem n_840 : Cond.methodLinkNest "SealedBook$Prover" 59 ⟨"SealedBook$History", "seal", "(II)I"⟩ "SealedBook" ∈ tables_1 := List.mem_of_getElem? (i := 840) (by decide +kernel)
theorem n_893 : Cond.methodLinkNest "SealedBook$Verifier" 80 ⟨"SealedBook", "mix", "(II)I"⟩ "SealedBook" ∈ tables_1 := List.mem_of_getElem? (i := 893) (by decide +kernel)
theorem n_898 : Cond.methodLinkNest "SealedBook$Verifier" 60 ⟨"SealedBook", "leafOf", "(II)I"⟩ "SealedBook" ∈ tables_1 := List.mem_of_getElem? (i := 898) (by decide +kernel)
theorem n_903 : Cond.methodLinkNest "SealedBook$Verifier" 86 ⟨"SealedBook", "half", "(I)I"⟩ "SealedBook" ∈ tables_1 := List.mem_of_getElem? (i := 903) (by decide +kernel)
theorem n_904 : Cond.methodLinkNest "SealedBook$Verifier" 89 ⟨"SealedBook", "join", "(II)I"⟩ "SealedBook" ∈ tables_1 := List.mem_of_getElem? (i := 904) (by decide +kernel)
end
section
-- the mathematics of the book: keys, cuts, chunks, levels
/-- MIX, as both programs compute it -/
def mx (h x : Int32) : Int32 := ((h ^^^ x) * 73244475) ^^^ ((((h ^^^ x) * 73244475).toUInt32 >>> ((15 : Int32).toUInt32 &&& Int32.toUInt32 31)).toInt32)
/-- a key ends a chunk of a level -/
def en (l k : Nat) : Bool := decide (((mx (mx (mx 9 (nI l)) (nI k)) 5) &&& 3) = 0)
abbrev kv_I : Type := Nat × Int32
/-- a list cut behind each place where f says so; what is left is the last piece -/
def cu {α : Type} (f : α → Bool) : List α → List (List α)
  | [] => []
  | x :: xs => match cu f xs with
    | [] => [[x]]
    | g :: gs => if f x = true then [x] :: g :: gs else (x :: g) :: gs
theorem cu_cons {α : Type} {f : α → Bool} {x : α} {xs : List α} : cu f (x :: xs) = match cu f xs with
    | [] => [[x]]
    | g :: gs => if f x = true then [x] :: g :: gs else (x :: g) :: gs := by
  conv => lhs; unfold cu
theorem cu_nil {α : Type} {f : α → Bool} {xs : List α} : cu f xs = [] ↔ xs = [] := by
  cases xs with
  | nil => simp [cu]
  | cons x xs =>
    constructor
    · intro h
      rw [cu_cons] at h
      split at h
      · cases h
      · split at h <;> cases h
    · intro h; cases h
theorem cu_flat {α : Type} (f : α → Bool) (xs : List α) : (cu f xs).flatten = xs := by
  induction xs with
  | nil => rfl
  | cons x xs ih =>
    rw [cu_cons]
    split
    · next h => rw [cu_nil] at h; subst h; rfl
    · next g gs h =>
      rw [h, List.flatten_cons] at ih
      split
      · rw [List.flatten_cons, List.flatten_cons, ih]; rfl
      · rw [List.flatten_cons, List.cons_append, ih]
/-- what a piece is: not empty, and f says no ahead of its last -/
def cu_pc {α : Type} (f : α → Bool) (g : List α) : Prop := ∃ a x, g = a ++ [x] ∧ ∀ y ∈ a, f y = false
theorem cu_pcs {α : Type} {f : α → Bool} {xs : List α} : ∀ g ∈ cu f xs, cu_pc f g := by
  induction xs with
  | nil => intro g hg; simp [cu] at hg
  | cons x xs ih =>
    intro g hg
    rw [cu_cons] at hg
    split at hg
    · rw [List.mem_singleton] at hg; subst hg; exact ⟨[], x, rfl, by simp⟩
    · next g1 gs e =>
      rw [e] at ih
      split at hg
      · rcases List.mem_cons.mp hg with rfl | hg
        · exact ⟨[], x, rfl, by simp⟩
        · exact ih g hg
      · next hf =>
        rcases List.mem_cons.mp hg with rfl | hg
        · obtain ⟨a, z, rfl, ha⟩ := ih g1 List.mem_cons_self
          refine ⟨x :: a, z, rfl, fun y hy => ?_⟩
          rcases List.mem_cons.mp hy with rfl | hy
          · simpa using hf
          · exact ha y hy
        · exact ih g (List.mem_cons_of_mem _ hg)
theorem cu_pc.ne {α : Type} {f : α → Bool} {g : List α} (h : cu_pc f g) : g ≠ [] := by
  obtain ⟨a, x, rfl, -⟩ := h
  simp
theorem cu_one {α : Type} {f : α → Bool} {g : List α} (h : cu_pc f g) : cu f g = [g] := by
  obtain ⟨a, x, rfl, ha⟩ := h
  induction a with
  | nil => rfl
  | cons y a ih =>
    rw [List.cons_append, cu_cons, ih (fun z hz => ha z (List.mem_cons_of_mem _ hz))]
    simp only
    rw [if_neg (by rw [ha y List.mem_cons_self]; decide)]
theorem cu_app {α : Type} {f : α → Bool} {x : α} (h : f x = true) (ys : List α) : ∀ xs : List α, cu f (xs ++ x :: ys) = cu f (xs ++ [x]) ++ cu f ys := by
  intro xs
  induction xs with
  | nil =>
    rw [List.nil_append, List.nil_append, cu_cons]
    have e : cu f [x] = [[x]] := rfl
    rw [e]
    split
    · next h1 => rw [h1]; rfl
    · next g gs h1 => rw [h1, if_pos h]; rfl
  | cons r rs ih =>
    rw [List.cons_append, cu_cons, ih, List.cons_append, cu_cons (x := r) (xs := rs ++ [x])]
    cases e : cu f (rs ++ [x]) with
    | nil => rw [cu_nil] at e; simp at e
    | cons g gs =>
      simp only [List.cons_append]
      split <;> rfl
theorem cu_map {α β : Type} (f : β → Bool) (m : α → β) (xs : List α) : cu f (xs.map m) = (cu (fun x => f (m x)) xs).map (List.map m) := by
  induction xs with
  | nil => rfl
  | cons x xs ih =>
    rw [List.map_cons, cu_cons, cu_cons, ih]
    cases cu (fun x => f (m x)) xs with
    | nil => rfl
    | cons g gs =>
      simp only [List.map_cons]
      split <;> rfl
/-- a piece that isn't the last one ends where f says so -/
theorem cu_end {α : Type} {f : α → Bool} {xs : List α} : ∀ (gs : List (List α)) (g : List α) (hs : List (List α)), cu f xs = gs ++ g :: hs → hs ≠ [] → ∃ a x, g = a ++ [x] ∧ f x = true := by
  induction xs with
  | nil => intro gs g hs h; simp [cu] at h
  | cons x xs ih =>
    intro gs g hs h hne
    rw [cu_cons] at h
    split at h
    · cases gs with
      | nil => simp only [List.nil_append, List.cons.injEq] at h; exact absurd h.2.symm hne
      | cons a b => simp at h
    · next g1 gs1 e =>
      split at h
      · next hf =>
        cases gs with
        | nil =>
          simp only [List.nil_append, List.cons.injEq] at h
          exact ⟨[], x, h.1.symm, hf⟩
        | cons a b =>
          simp only [List.cons_append, List.cons.injEq] at h
          exact ih b g hs (by rw [e]; exact h.2) hne
      · cases gs with
        | nil =>
          simp only [List.nil_append, List.cons.injEq] at h
          obtain ⟨a, z, h1, h2⟩ := ih [] g1 hs (by rw [e, List.nil_append, h.2]) hne
          exact ⟨x :: a, z, by rw [← h.1, h1]; rfl, h2⟩
        | cons a b =>
          simp only [List.cons_append, List.cons.injEq] at h
          exact ih (g1 :: b) g hs (by rw [e, h.2]; rfl) hne
/-- the last key of a content -/
def lk (p : List kv_I) : Nat := (p.getLast?.map (fun x => x.1)).getD 0
theorem lk_snoc (p : List kv_I) (x : kv_I) : lk (p ++ [x]) = x.1 := by
  unfold lk
  rw [List.getLast?_concat]
  rfl
theorem lk_app {p q : List kv_I} (h : q ≠ []) : lk (p ++ q) = lk q := by
  obtain ⟨a, x, rfl⟩ : ∃ a x, q = a ++ [x] := ⟨q.dropLast, q.getLast h, (List.dropLast_concat_getLast h).symm⟩
  rw [← List.append_assoc, lk_snoc, lk_snoc]
/-- the contents of the chunks of level l over the content X -/
def pa : Nat → List kv_I → List (List kv_I)
  | 0, X => cu (fun x => en 0 x.1) X
  | l + 1, X => (cu (fun p => en (l + 1) (lk p)) (pa l X)).map List.flatten
def hs (l : Nat) (c : List kv_I) : Int32 := c.foldl (fun h x => mx (mx h (nI x.1)) x.2) (mx 6 (nI l))
/-- the items of level l over the content X -/
def im : Nat → List kv_I → List kv_I
  | 0, X => X
  | l + 1, X => (pa l X).map (fun p => (lk p, hs l (im l p)))
/-- the item over a chunk -/
def ov (l : Nat) (p : List kv_I) : kv_I := (lk p, hs l (im l p))
theorem im_succ (l : Nat) (X : List kv_I) : im (l + 1) X = (pa l X).map (ov l) := rfl
theorem pa_flat (l : Nat) (X : List kv_I) : (pa l X).flatten = X := by
  induction l with
  | zero => exact cu_flat _ _
  | succ l ih =>
    show ((cu _ _).map List.flatten).flatten = X
    rw [← List.flatten_flatten, cu_flat, ih]
theorem flat_ne {α : Type} {g : List (List α)} (h : g ≠ []) (hp : ∀ p ∈ g, p ≠ []) : g.flatten ≠ [] := by
  cases g with
  | nil => exact absurd rfl h
  | cons p ps =>
    have := hp p List.mem_cons_self
    simp [this]
theorem cu_sub {α : Type} {f : α → Bool} {xs : List α} {g : List α} (hg : g ∈ cu f xs) : ∀ x ∈ g, x ∈ xs := by
  intro x hx
  rw [← cu_flat f xs]
  exact List.mem_flatten.mpr ⟨g, hg, hx⟩
theorem pa_ne {l : Nat} {X : List kv_I} : ∀ p ∈ pa l X, p ≠ [] := by
  induction l with
  | zero => exact fun p hp => (cu_pcs p hp).ne
  | succ l ih =>
    intro p hp
    obtain ⟨g, hg, rfl⟩ := List.mem_map.mp hp
    exact flat_ne (cu_pcs g hg).ne (fun q hq => ih q (cu_sub hg q hq))
theorem pa_nil {l : Nat} {X : List kv_I} : pa l X = [] ↔ X = [] := by
  constructor
  · intro h
    have := pa_flat l X
    rw [h] at this
    exact this.symm
  · rintro rfl
    induction l with
    | zero => rfl
    | succ l ih => show (cu _ _).map _ = []; rw [ih]; rfl
theorem lk_flat {g : List (List kv_I)} {p : List kv_I} (hp : p ≠ []) : lk ((g ++ [p]).flatten) = lk p := by
  rw [List.flatten_append]
  simp only [List.flatten_cons, List.flatten_nil, List.append_nil]
  exact lk_app hp
theorem pa_last {l : Nat} {X : List kv_I} (hX : X ≠ []) : ∃ ps p, pa l X = ps ++ [p] ∧ lk p = lk X := by
  have hne : pa l X ≠ [] := fun h => hX (pa_nil.mp h)
  refine ⟨(pa l X).dropLast, (pa l X).getLast hne, (List.dropLast_concat_getLast hne).symm, ?_⟩
  have h2 := pa_flat l X
  rw [← List.dropLast_concat_getLast hne] at h2
  have h3 : ((pa l X).getLast hne) ≠ [] := pa_ne _ (List.getLast_mem hne)
  have h4 := lk_flat (g := (pa l X).dropLast) h3
  rw [h2] at h4
  exact h4.symm
/-- where the left part's last key ends its chunks up to level l, the chunks stay apart -/
theorem pa_app {X : List kv_I} (hX : X ≠ []) (Y : List kv_I) : ∀ l : Nat, (∀ j, j ≤ l → en j (lk X) = true) → pa l (X ++ Y) = pa l X ++ pa l Y := by
  intro l
  induction l with
  | zero =>
    intro h
    obtain ⟨a, x, rfl⟩ : ∃ a x, X = a ++ [x] := ⟨X.dropLast, X.getLast hX, (List.dropLast_concat_getLast hX).symm⟩
    rw [lk_snoc] at h
    show cu _ _ = cu _ _ ++ cu _ _
    rw [List.append_assoc]
    exact cu_app (f := fun x : kv_I => en 0 x.1) (h 0 (Nat.le_refl _)) _ _
  | succ l ih =>
    intro h
    show (cu _ _).map _ = (cu _ _).map _ ++ (cu _ _).map _
    rw [ih (fun j hj => h j (Nat.le_succ_of_le hj))]
    obtain ⟨ps, p, e, e2⟩ := pa_last (l := l) hX
    rw [e, List.append_assoc, ← List.map_append]
    congr 1
    exact cu_app (f := fun p => en (l + 1) (lk p)) (by show en (l + 1) (lk p) = true; rw [e2]; exact h _ (Nat.le_refl _)) _ _
/-- a chunk that isn't the last one: its last key ends the chunks of all levels up to its own -/
theorem pa_end {X : List kv_I} : ∀ (l : Nat) (a : List (List kv_I)) (p : List kv_I) (b : List (List kv_I)), pa l X = a ++ p :: b → b ≠ [] → ∀ j, j ≤ l → en j (lk p) = true := by
  intro l
  induction l with
  | zero =>
    intro a p b h hb j hj
    obtain ⟨a1, x, rfl, hx⟩ := cu_end a p b h hb
    rw [lk_snoc]
    have : j = 0 := by omega
    subst this
    exact hx
  | succ l ih =>
    intro a p b h hb j hj
    have h0 : (cu (fun p => en (l + 1) (lk p)) (pa l X)).map List.flatten = a ++ p :: b := h
    obtain ⟨ga, r, e1, e2, e3⟩ := List.map_eq_append_iff.mp h0
    obtain ⟨g, gb, e4, e5, e6⟩ := List.map_eq_cons_iff.mp e3
    subst e4
    have hgb : gb ≠ [] := by rintro rfl; exact hb e6.symm
    obtain ⟨c, q, e7, e8⟩ := cu_end ga g gb e1 hgb
    have hflat := cu_flat (fun p => en (l + 1) (lk p)) (pa l X)
    rw [e1] at hflat
    have hq : q ∈ pa l X := by rw [← hflat]; exact List.mem_flatten.mpr ⟨g, by simp, by rw [e7]; simp⟩
    have hlk : lk p = lk q := by rw [← e5, e7]; exact lk_flat (pa_ne q hq)
    rw [hlk]
    by_cases hjl : j = l + 1
    · subst hjl; exact e8
    · refine ih (ga.flatten ++ c) q gb.flatten ?_ ?_ j (by omega)
      · rw [← hflat, e7]; simp
      · exact flat_ne hgb (fun z hz => (cu_pcs z (by rw [e1]; simp [hz])).ne)
/-- contents of which each is one chunk, and ends its chunks but perhaps the last: end to end they are these chunks again -/
theorem pa_glue {l : Nat} : ∀ g : List (List kv_I), (∀ p ∈ g, p ≠ [] ∧ pa l p = [p]) → (∀ a p b, g = a ++ p :: b → b ≠ [] → ∀ j, j ≤ l → en j (lk p) = true) → pa l g.flatten = g := by
  intro g
  induction g with
  | nil => intro _ _; exact pa_nil.mpr rfl
  | cons p ps ih =>
    intro h1 h2
    obtain ⟨hp, hp1⟩ := h1 p List.mem_cons_self
    have ih := ih (fun q hq => h1 q (List.mem_cons_of_mem _ hq)) (fun a q b e hb => h2 (p :: a) q b (by rw [e]; rfl) hb)
    by_cases hps : ps = []
    · subst hps; simpa using hp1
    · rw [List.flatten_cons, pa_app hp _ l (h2 [] p ps rfl hps), hp1, ih]; rfl
/-- each chunk's content is one chunk of its level -/
theorem pa_atom {X : List kv_I} : ∀ l : Nat, ∀ p ∈ pa l X, pa l p = [p] := by
  intro l
  induction l with
  | zero => exact fun p hp => cu_one (cu_pcs p hp)
  | succ l ih =>
    intro p hp
    obtain ⟨g, hg, rfl⟩ := List.mem_map.mp hp
    have hloc : pa l g.flatten = g := by
      obtain ⟨ga, gb, e⟩ := List.append_of_mem hg
      have hflat := cu_flat (fun p => en (l + 1) (lk p)) (pa l X)
      rw [e] at hflat
      refine pa_glue g (fun q hq => ⟨pa_ne q (cu_sub hg q hq), ih q (cu_sub hg q hq)⟩) (fun a q b e1 hb => ?_)
      refine pa_end (X := X) l (ga.flatten ++ a) q (b ++ gb.flatten) ?_ (by simp [hb])
      rw [← hflat, e1]; simp
    show (cu _ (pa l g.flatten)).map _ = _
    rw [hloc, cu_one (cu_pcs g hg)]
    rfl
/-- the chunks of level l within a piece of the cut at level l + 1 -/
theorem pa_loc {X : List kv_I} {l : Nat} {g : List (List kv_I)} (hg : g ∈ cu (fun p => en (l + 1) (lk p)) (pa l X)) : pa l g.flatten = g := by
  obtain ⟨ga, gb, e⟩ := List.append_of_mem hg
  have hflat := cu_flat (fun p => en (l + 1) (lk p)) (pa l X)
  rw [e] at hflat
  refine pa_glue g (fun q hq => ⟨pa_ne q (cu_sub hg q hq), pa_atom l q (cu_sub hg q hq)⟩) (fun a q b e1 hb => ?_)
  refine pa_end (X := X) l (ga.flatten ++ a) q (b ++ gb.flatten) ?_ (by simp [hb])
  rw [← hflat, e1]; simp
/-- the items of a level, cut: each piece is the items of its chunk -/
theorem im_cut (X : List kv_I) : ∀ l : Nat, cu (fun x => en l x.1) (im l X) = (pa l X).map (im l) := by
  intro l
  cases l with
  | zero =>
    show cu _ X = (cu _ X).map (im 0)
    have : (im 0 : List kv_I → List kv_I) = id := rfl
    rw [this, List.map_id]
  | succ l =>
    rw [im_succ, cu_map]
    show _ = ((cu _ _).map List.flatten).map _
    rw [List.map_map]
    refine List.map_congr_left (fun g hg => ?_)
    show List.map (ov l) g = im (l + 1) g.flatten
    rw [im_succ, pa_loc hg]
/-- the chunks of a level, chunk by chunk of the level above -/
theorem pa_split (X : List kv_I) (l : Nat) : pa l X = (pa (l + 1) X).flatMap (pa l) := by
  have h := cu_flat (fun p => en (l + 1) (lk p)) (pa l X)
  show pa l X = ((cu (fun p => en (l + 1) (lk p)) (pa l X)).map List.flatten).flatMap (pa l)
  rw [List.flatMap_map, List.flatMap_def]
  have h2 : (cu (fun p => en (l + 1) (lk p)) (pa l X)).map (fun a => pa l a.flatten) = cu (fun p => en (l + 1) (lk p)) (pa l X) := by
    conv => rhs; rw [← List.map_id (cu (fun p => en (l + 1) (lk p)) (pa l X))]
    exact List.map_congr_left (fun g hg => pa_loc hg)
  rw [h2]
  exact h.symm
end
section
-- the mathematics: sorted contents, levels, the store, lookups
def so (X : List kv_I) : Prop := X.Pairwise (fun a b => a.1 < b.1) ∧ ∀ x ∈ X, x.1 < 48
/-- a map below n as a list -/
def ol (f : Nat → Option Int32) : Nat → List kv_I
  | 0 => []
  | n + 1 => match f n with
    | some v => ol f n ++ [(n, v)]
    | none => ol f n
theorem ol_lt {f : Nat → Option Int32} : ∀ n, ∀ x ∈ ol f n, x.1 < n := by
  intro n
  induction n with
  | zero => intro x hx; simp [ol] at hx
  | succ n ih =>
    intro x hx
    unfold ol at hx
    split at hx
    · rcases List.mem_append.mp hx with h | h
      · have := ih x h; omega
      · simp only [List.mem_singleton] at h; subst h; simp
    · have := ih x hx; omega
theorem ol_mem {f : Nat → Option Int32} : ∀ n k v, (k, v) ∈ ol f n ↔ k < n ∧ f k = some v := by
  intro n
  induction n with
  | zero => intro k v; simp [ol]
  | succ n ih =>
    intro k v
    unfold ol
    split
    · next w hw =>
      rw [List.mem_append, ih, List.mem_singleton, Prod.mk.injEq]
      constructor
      · rintro (⟨h1, h2⟩ | ⟨rfl, rfl⟩)
        · exact ⟨by omega, h2⟩
        · exact ⟨by omega, hw⟩
      · rintro ⟨h1, h2⟩
        by_cases hk : k = n
        · subst hk; rw [hw] at h2; exact Or.inr ⟨rfl, (Option.some.inj h2).symm⟩
        · exact Or.inl ⟨by omega, h2⟩
    · next hw =>
      rw [ih]
      constructor
      · rintro ⟨h1, h2⟩; exact ⟨by omega, h2⟩
      · rintro ⟨h1, h2⟩
        by_cases hk : k = n
        · subst hk; rw [hw] at h2; cases h2
        · exact ⟨by omega, h2⟩
theorem ol_so {f : Nat → Option Int32} : ∀ n, (ol f n).Pairwise (fun a b => a.1 < b.1) := by
  intro n
  induction n with
  | zero => exact List.Pairwise.nil
  | succ n ih =>
    unfold ol
    split
    · refine List.pairwise_append.mpr ⟨ih, List.pairwise_singleton _ _, fun a ha b hb => ?_⟩
      rw [List.mem_singleton] at hb
      subst hb
      exact ol_lt n a ha
    · exact ih
theorem ol_is (f : Nat → Option Int32) : so (ol f 48) := ⟨ol_so 48, ol_lt 48⟩
theorem ol_ext {f g : Nat → Option Int32} : ∀ n, (∀ k, k < n → f k = g k) → ol f n = ol g n := by
  intro n
  induction n with
  | zero => intro _; rfl
  | succ n ih =>
    intro h
    unfold ol
    rw [h n (Nat.lt_succ_self n), ih (fun k hk => h k (Nat.lt_succ_of_lt hk))]
theorem ol_inj {f g : Nat → Option Int32} {n : Nat} (h : ol f n = ol g n) : ∀ k, k < n → f k = g k := by
  intro k hk
  cases hf : f k with
  | some v =>
    have : (k, v) ∈ ol g n := by rw [← h]; exact (ol_mem n k v).mpr ⟨hk, hf⟩
    exact (((ol_mem n k v).mp this).2).symm
  | none =>
    cases hg : g k with
    | none => rfl
    | some v =>
      have : (k, v) ∈ ol f n := by rw [h]; exact (ol_mem n k v).mpr ⟨hk, hg⟩
      rw [((ol_mem n k v).mp this).2] at hf
      cases hf
/-- how many keys in [a, b) have P -/
def cn (P : Nat → Bool) (a : Nat) : Nat → Nat
  | 0 => 0
  | n + 1 => cn P a n + (if P (a + n) = true then 1 else 0)
theorem cn_step {P : Nat → Bool} {a : Nat} : ∀ n, cn P a (n + 1) = (if P a = true then 1 else 0) + cn P (a + 1) n := by
  intro n
  induction n with
  | zero => simp [cn]
  | succ n ih =>
    rw [cn, ih, cn, Nat.add_assoc, show a + (n + 1) = a + 1 + n by omega]
theorem cn_skip {P : Nat → Bool} : ∀ d a n, cn P (a + d) n ≤ cn P a (n + d) := by
  intro d
  induction d with
  | zero => intro a n; exact Nat.le_refl _
  | succ d ih =>
    intro a n
    rw [show n + (d + 1) = (n + d) + 1 by omega, cn_step]
    have := ih (a + 1) n
    rw [show a + 1 + d = a + (d + 1) by omega] at this
    omega
theorem cn_le {P : Nat → Bool} : ∀ (ks : List Nat) (a n : Nat), ks.Pairwise (· < ·) → (∀ k ∈ ks, a ≤ k ∧ k < a + n ∧ P k = true) → ks.length ≤ cn P a n := by
  intro ks
  induction ks with
  | nil => intro a n _ _; exact Nat.zero_le _
  | cons k ks ih =>
    intro a n hp h
    obtain ⟨h1, h2, h3⟩ := h k List.mem_cons_self
    rw [List.pairwise_cons] at hp
    have h4 := ih (k + 1) (a + n - (k + 1)) hp.2 (fun j hj => ⟨hp.1 j hj, by have := (h j (List.mem_cons_of_mem _ hj)).2.1; omega, (h j (List.mem_cons_of_mem _ hj)).2.2⟩)
    have h5 := cn_skip (P := P) (k - a) a (a + n - (k + 1) + 1)
    rw [show a + (k - a) = k by omega, show a + n - (k + 1) + 1 + (k - a) = n by omega, cn_step, if_pos h3] at h5
    rw [List.length_cons]
    omega
theorem so_sub {X Y : List kv_I} (h : so X) (hs : Y.Sublist X) : so Y := ⟨h.1.sublist hs, fun x hx => h.2 x (hs.subset hx)⟩
theorem pa_sub {l : Nat} {X p : List kv_I} (hp : p ∈ pa l X) : p.Sublist X := by
  obtain ⟨a, b, e⟩ := List.append_of_mem hp
  have h := pa_flat l X
  rw [e, List.flatten_append, List.flatten_cons] at h
  rw [← h]
  exact (List.sublist_append_left p b.flatten).trans (List.sublist_append_right a.flatten _)
theorem pa_so {l : Nat} {X p : List kv_I} (h : so X) (hp : p ∈ pa l X) : so p := so_sub h (pa_sub hp)
theorem lk_mem {p : List kv_I} (h : p ≠ []) : ∃ v, (lk p, v) ∈ p := by
  obtain ⟨a, x, rfl⟩ : ∃ a x, p = a ++ [x] := ⟨p.dropLast, p.getLast h, (List.dropLast_concat_getLast h).symm⟩
  rw [lk_snoc]
  exact ⟨x.2, by simp⟩
theorem lk_max {p : List kv_I} (h : so p) : ∀ x ∈ p, x.1 ≤ lk p := by
  intro x hx
  have hne : p ≠ [] := List.ne_nil_of_mem hx
  obtain ⟨a, y, rfl⟩ : ∃ a y, p = a ++ [y] := ⟨p.dropLast, p.getLast hne, (List.dropLast_concat_getLast hne).symm⟩
  rw [lk_snoc]
  rcases List.mem_append.mp hx with h1 | h1
  · exact Nat.le_of_lt ((List.pairwise_append.mp h.1).2.2 x h1 y (by simp))
  · simp only [List.mem_singleton] at h1; subst h1; exact Nat.le_refl _
theorem lk_lt {p : List kv_I} (h : so p) (hne : p ≠ []) : lk p < 48 := by
  obtain ⟨v, hv⟩ := lk_mem hne
  exact h.2 _ hv
/-- the last keys of the chunks rise -/
theorem pa_lks {l : Nat} {X : List kv_I} (h : so X) : ((pa l X).map lk).Pairwise (· < ·) := by
  have h1 := pa_flat l X
  have h2 : ∀ p ∈ pa l X, p ≠ [] := pa_ne
  have h3 : so (pa l X).flatten := by rw [h1]; exact h
  clear h1
  generalize pa l X = ps at h2 h3
  induction ps with
  | nil => exact List.Pairwise.nil
  | cons p ps ih =>
    rw [List.flatten_cons] at h3
    have h4 : so ps.flatten := so_sub h3 (List.sublist_append_right _ _)
    rw [List.map_cons, List.pairwise_cons]
    refine ⟨fun k hk => ?_, ih (fun q hq => h2 q (List.mem_cons_of_mem _ hq)) h4⟩
    obtain ⟨q, hq, rfl⟩ := List.mem_map.mp hk
    obtain ⟨v, hv⟩ := lk_mem (h2 p List.mem_cons_self)
    obtain ⟨w, hw⟩ := lk_mem (h2 q (List.mem_cons_of_mem _ hq))
    exact (List.pairwise_append.mp h3.1).2.2 _ hv _ (List.mem_flatten.mpr ⟨q, hq, hw⟩)
/-- of the keys below 48 none ends the chunks of levels 0, 1 and 2 -/
theorem en_012 : ∀ k, k < 48 → en 0 k = true → en 1 k = true → en 2 k = false := by decide +kernel
theorem en_c0 : cn (fun k => en 0 k) 0 48 = 12 := by decide +kernel
theorem en_c01 : cn (fun k => en 0 k && en 1 k) 0 48 = 2 := by decide +kernel
theorem en_n0 : cn (fun k => !en 0 k) 0 48 = 36 := by decide +kernel
theorem en_n1 : cn (fun k => en 0 k && !en 1 k) 0 48 = 10 := by decide +kernel
theorem pa_count {l : Nat} {X : List kv_I} (h : so X) (P : Nat → Bool) (hP : ∀ k, (∀ j, j ≤ l → en j k = true) → P k = true) : (pa l X).length ≤ cn P 0 48 + 1 := by
  by_cases hX : X = []
  · rw [pa_nil.mpr hX]; simp
  obtain ⟨ps, p, e, -⟩ := pa_last (l := l) hX
  have h1 := pa_lks (l := l) h
  rw [e, List.map_append, List.pairwise_append] at h1
  have h2 := cn_le (P := P) (ps.map lk) 0 48 h1.1 (fun k hk => by
    obtain ⟨q, hq, rfl⟩ := List.mem_map.mp hk
    have hqm : q ∈ pa l X := by rw [e]; exact List.mem_append_left _ hq
    obtain ⟨a, b, e2⟩ := List.append_of_mem hq
    exact ⟨Nat.zero_le _, by have := lk_lt (pa_so h hqm) (pa_ne q hqm); omega, hP _ (pa_end l a q (b ++ [p]) (by rw [e, e2]; simp) (by simp))⟩)
  rw [e, List.length_append, List.length_singleton]
  rw [List.length_map] at h2
  omega
theorem pa_c0 {X : List kv_I} (h : so X) : (pa 0 X).length ≤ 13 := by
  have := pa_count (l := 0) h (fun k => en 0 k) (fun k hk => hk 0 (Nat.le_refl _))
  rw [en_c0] at this
  exact this
theorem pa_c1 {X : List kv_I} (h : so X) : (pa 1 X).length ≤ 3 := by
  have := pa_count (l := 1) h (fun k => en 0 k && en 1 k) (fun k hk => by rw [hk 0 (by omega), hk 1 (by omega)]; rfl)
  rw [en_c01] at this
  exact this
theorem pa_c2 {X : List kv_I} (h : so X) (hX : X ≠ []) : pa 2 X = [X] := by
  obtain ⟨ps, p, e, -⟩ := pa_last (l := 1) hX
  have h1 : cu (fun p => en 2 (lk p)) (pa 1 X) = [pa 1 X] := by
    refine cu_one ⟨ps, p, e, fun q hq => ?_⟩
    have hqm : q ∈ pa 1 X := by rw [e]; exact List.mem_append_left _ hq
    obtain ⟨a, b, e2⟩ := List.append_of_mem hq
    have h3 := pa_end 1 a q (b ++ [p]) (by rw [e, e2]; simp) (by simp)
    exact en_012 _ (lk_lt (pa_so h hqm) (pa_ne q hqm)) (h3 0 (by omega)) (h3 1 (by omega))
  show (cu _ _).map _ = [X]
  rw [h1, List.map_singleton, pa_flat]
/-- how many levels the tree over X has -/
def hg (X : List kv_I) : Nat := if X = [] then 0 else if (pa 0 X).length = 1 then 1 else if (pa 1 X).length = 1 then 2 else 3
theorem hg_le (X : List kv_I) : hg X ≤ 3 := by
  unfold hg
  split
  · omega
  · split
    · omega
    · split <;> omega
theorem pa_single {l : Nat} {X : List kv_I} (h : (pa l X).length = 1) : pa l X = [X] := by
  have h1 := pa_flat l X
  cases e : pa l X with
  | nil => rw [e] at h; simp at h
  | cons p ps =>
    rw [e] at h
    have : ps = [] := by cases ps with | nil => rfl | cons _ _ => simp at h
    subst this
    rw [e] at h1
    simp only [List.flatten_cons, List.flatten_nil, List.append_nil] at h1
    rw [h1]
theorem hg_top {X : List kv_I} (h : so X) (hX : X ≠ []) : ∃ l, hg X = l + 1 ∧ pa l X = [X] := by
  unfold hg
  rw [if_neg hX]
  split
  · next h0 => exact ⟨0, rfl, pa_single h0⟩
  · split
    · next h1 => exact ⟨1, rfl, pa_single h1⟩
    · exact ⟨2, rfl, pa_c2 h hX⟩
theorem hg_more {X : List kv_I} (h : so X) {l : Nat} (hl : l + 1 < hg X) : (pa l X).length ≠ 1 := by
  unfold hg at hl
  split at hl
  · omega
  · split at hl
    · omega
    · next h0 =>
      split at hl
      · have : l = 0 := by omega
        subst this; exact h0
      · next h1 =>
        have : l = 0 ∨ l = 1 := by omega
        rcases this with rfl | rfl
        · exact h0
        · exact h1
/-- the root -/
def rt (X : List kv_I) : Int32 := if X = [] then 0 else hs (hg X - 1) (im (hg X - 1) X)
/-- a write, where f counts up to the one that fails -/
def wr (f : Nat) : Bool × Nat := if f = 0 then (true, 0) else (decide (1 < f), f - 1)
abbrev ck_I : Type := Nat × List kv_I
/-- chunks wanted, one after the other: each is there or is written -/
def kq : List ck_I → List ck_I → Nat → Bool × List ck_I × Nat
  | [], S, f => (true, S, f)
  | c :: cs, S, f => if c ∈ S then kq cs S f else if (wr f).1 = true then kq cs (S ++ [c]) (wr f).2 else (false, S, (wr f).2)
theorem kq_app : ∀ (a b S : List ck_I) (f : Nat), kq (a ++ b) S f = if (kq a S f).1 = true then kq b (kq a S f).2.1 (kq a S f).2.2 else kq a S f := by
  intro a
  induction a with
  | nil => intro b S f; simp [kq]
  | cons c cs ih =>
    intro b S f
    rw [List.cons_append]
    simp only [kq]
    split
    · exact ih b S f
    · split
      · exact ih b _ _
      · simp
/-- the chunks that a commit of X wants, in their order -/
def rq (X : List kv_I) : List ck_I := (List.range (hg X)).flatMap (fun l => (pa l X).map (fun p => (l, p)))
end
section
-- the mathematics: looking a key up
/-- the place of the first item with a key not below this one, or of the last item -/
def pf (key : Nat) : List kv_I → Nat
  | [] => 0
  | [_] => 0
  | x :: y :: r => if key ≤ x.1 then 0 else pf key (y :: r) + 1
/-- the first content whose last key isn't below this one, or the last content -/
def pc_ (key : Nat) : List (List kv_I) → List kv_I
  | [] => []
  | [p] => p
  | p :: q :: r => if key ≤ lk p then p else pc_ key (q :: r)
theorem pf_lt {key : Nat} : ∀ {X : List kv_I}, X ≠ [] → pf key X < X.length := by
  intro X
  induction X with
  | nil => intro h; exact absurd rfl h
  | cons x r ih =>
    intro _
    cases r with
    | nil => simp [pf]
    | cons y r =>
      unfold pf
      split
      · simp
      · have := ih (by simp)
        simp only [List.length_cons] at this ⊢
        omega
theorem pc_mem {key : Nat} : ∀ {P : List (List kv_I)}, P ≠ [] → pc_ key P ∈ P := by
  intro P
  induction P with
  | nil => intro h; exact absurd rfl h
  | cons p r ih =>
    intro _
    cases r with
    | nil => simp [pc_]
    | cons q r =>
      unfold pc_
      split
      · simp
      · exact List.mem_cons_of_mem _ (ih (by simp))
/-- the place among the items above is the place among the contents -/
theorem pc_at {key l : Nat} : ∀ {P : List (List kv_I)}, P ≠ [] → P[pf key (P.map (ov l))]? = some (pc_ key P) := by
  intro P
  induction P with
  | nil => intro h; exact absurd rfl h
  | cons p r ih =>
    intro _
    cases r with
    | nil => simp [pf, pc_]
    | cons q r =>
      have ih := ih (by simp)
      rw [List.map_cons] at ih
      rw [List.map_cons, List.map_cons]
      unfold pf pc_
      show (p :: q :: r)[if key ≤ lk p then 0 else _]? = _
      split
      · simp
      · simpa using ih
theorem pc_left {key : Nat} {b : List (List kv_I)} : ∀ {a : List (List kv_I)}, (∃ p ∈ a, key ≤ lk p) → pc_ key (a ++ b) = pc_ key a := by
  intro a
  induction a with
  | nil => rintro ⟨p, hp, -⟩; simp at hp
  | cons p r ih =>
    rintro ⟨q, hq, hk⟩
    cases r with
    | nil =>
      have : q = p := by simpa using hq
      subst this
      cases b with
      | nil => rfl
      | cons b1 b => show (if _ then _ else _) = _; rw [if_pos hk]; rfl
    | cons r1 r =>
      show (if key ≤ lk p then p else pc_ key (r1 :: r ++ b)) = if key ≤ lk p then p else pc_ key (r1 :: r)
      split
      · rfl
      · next hn =>
        refine ih ⟨q, ?_, hk⟩
        rcases List.mem_cons.mp hq with rfl | h
        · exact absurd hk hn
        · exact h
theorem pc_right {key : Nat} {b : List (List kv_I)} (hb : b ≠ []) : ∀ {a : List (List kv_I)}, (∀ p ∈ a, ¬ key ≤ lk p) → pc_ key (a ++ b) = pc_ key b := by
  intro a
  induction a with
  | nil => intro _; rfl
  | cons p r ih =>
    intro h
    have ih := ih (fun q hq => h q (List.mem_cons_of_mem _ hq))
    cases e : r ++ b with
    | nil => simp at e; exact absurd e.2 hb
    | cons x y =>
      rw [List.cons_append, e]
      show (if key ≤ lk p then p else pc_ key (x :: y)) = _
      rw [if_neg (h p List.mem_cons_self), ← e]
      exact ih
theorem pc_flat {key l : Nat} : ∀ {G : List (List kv_I)}, (∀ g ∈ G, so g ∧ g ≠ []) → (G.map lk).Pairwise (· < ·) → G ≠ [] → pc_ key (G.flatMap (pa l)) = pc_ key (pa l (pc_ key G)) := by
  intro G
  induction G with
  | nil => intro _ _ h; exact absurd rfl h
  | cons g r ih =>
    intro h1 h2 _
    obtain ⟨hg, hgn⟩ := h1 g List.mem_cons_self
    cases r with
    | nil => simp [pc_]
    | cons g2 r =>
      rw [List.flatMap_cons]
      show _ = pc_ key (pa l (if key ≤ lk g then g else pc_ key (g2 :: r)))
      split
      · next hk =>
        obtain ⟨ps, p, e, e2⟩ := pa_last (l := l) hgn
        exact pc_left ⟨p, by rw [e]; simp, by rw [e2]; exact hk⟩
      · next hk =>
        rw [pc_right]
        · rw [List.map_cons, List.pairwise_cons] at h2
          exact ih (fun q hq => h1 q (List.mem_cons_of_mem _ hq)) h2.2 (by simp)
        · rw [List.flatMap_cons]
          have := (h1 g2 (by simp)).2
          intro h
          rw [List.append_eq_nil_iff] at h
          exact this (pa_nil.mp h.1)
        · intro p hp hk2
          have hpn := pa_ne p hp
          obtain ⟨v, hv⟩ := lk_mem hpn
          have := lk_max hg _ ((pa_sub hp).subset hv)
          simp only at this
          omega
/-- from a chunk of level l + 1 to the one below it: the same as from the whole -/
theorem pc_down {X : List kv_I} (h : so X) (hX : X ≠ []) (key l : Nat) : pc_ key (pa l (pc_ key (pa (l + 1) X))) = pc_ key (pa l X) := by
  rw [pa_split X l]
  exact (pc_flat (fun g hg => ⟨pa_so h hg, pa_ne g hg⟩) (pa_lks h) (fun e => hX (pa_nil.mp e))).symm
/-- a key's value -/
def gt_ (X : List kv_I) (key : Nat) : Option Int32 := (X.find? (fun x => x.1 == key)).map (fun x => x.2)
theorem gt_some {X : List kv_I} (h : so X) {key : Nat} {v : Int32} : gt_ X key = some v ↔ (key, v) ∈ X := by
  unfold gt_
  constructor
  · intro e
    cases e1 : X.find? (fun x => x.1 == key) with
    | none => rw [e1] at e; cases e
    | some x =>
      rw [e1] at e
      have h1 := List.find?_some e1
      have h2 := List.mem_of_find?_eq_some e1
      simp only [beq_iff_eq] at h1
      cases e
      subst h1
      exact h2
  · intro hm
    cases e1 : X.find? (fun x => x.1 == key) with
    | none =>
      rw [List.find?_eq_none] at e1
      exact absurd (by simp) (e1 _ hm)
    | some x =>
      have h1 := List.find?_some e1
      have h2 := List.mem_of_find?_eq_some e1
      simp only [beq_iff_eq] at h1
      have : x = (key, v) := by
        obtain ⟨i, hi, e2⟩ := List.mem_iff_getElem.mp h2
        obtain ⟨j, hj, e3⟩ := List.mem_iff_getElem.mp hm
        have h3 := List.pairwise_iff_getElem.mp h.1
        rcases Nat.lt_trichotomy i j with q | q | q
        · have := h3 i j hi hj q; rw [e2, e3] at this; simp only at this; omega
        · subst q; rw [← e2, e3]
        · have := h3 j i hj hi q; rw [e2, e3] at this; simp only at this; omega
      rw [this]; rfl
theorem pc_gt {X : List kv_I} (h : so X) (hX : X ≠ []) (key : Nat) : gt_ (pc_ key (pa 0 X)) key = gt_ X key := by
  have hne : pa 0 X ≠ [] := fun e => hX (pa_nil.mp e)
  have hm := pc_mem (key := key) hne
  have hs := pa_so h hm
  cases e : gt_ (pc_ key (pa 0 X)) key with
  | some v => exact ((gt_some h).mpr ((pa_sub hm).subset ((gt_some hs).mp e))).symm
  | none =>
    cases e2 : gt_ X key with
    | none => rfl
    | some v =>
      exfalso
      have h1 := (gt_some h).mp e2
      rw [← pa_flat 0 X] at h1
      obtain ⟨p, hp, h2⟩ := List.mem_flatten.mp h1
      obtain ⟨a, b, e3⟩ := List.append_of_mem hp
      have hlk : key ≤ lk p := lk_max (pa_so h hp) _ h2
      have hlo : ∀ q ∈ a, ¬ key ≤ lk q := by
        intro q hq hk
        have h3 := pa_flat 0 X
        rw [e3, List.flatten_append, List.flatten_cons] at h3
        obtain ⟨w, hw⟩ := lk_mem (pa_ne q (by rw [e3]; exact List.mem_append_left _ hq))
        have h4 := h.1
        rw [← h3] at h4
        have := (List.pairwise_append.mp h4).2.2 _ (List.mem_flatten.mpr ⟨q, hq, hw⟩) _ (List.mem_append_left _ h2)
        simp only at this
        omega
      have : pc_ key (pa 0 X) = p := by
        rw [e3, pc_right (by simp) hlo]
        rw [show p :: b = [p] ++ b from rfl, pc_left ⟨p, by simp, hlk⟩]
        rfl
      rw [this] at e
      rw [(gt_some (pa_so h hp)).mpr h2] at e
      cases e
/-- within a sorted content: the place found holds the key if any does -/
theorem pf_gt {key : Nat} : ∀ {X : List kv_I}, so X → X ≠ [] → ∃ x, X[pf key X]? = some x ∧ gt_ X key = (if x.1 = key then some x.2 else none) := by
  intro X
  induction X with
  | nil => intro _ h; exact absurd rfl h
  | cons x r ih =>
    intro h _
    cases r with
    | nil =>
      refine ⟨x, rfl, ?_⟩
      unfold gt_
      by_cases e : x.1 = key
      · rw [if_pos e, List.find?_cons_of_pos (by simp [e])]; rfl
      · rw [if_neg e, List.find?_cons_of_neg (by simp [e])]; rfl
    | cons y r =>
      have h2 : so (y :: r) := so_sub h (List.sublist_cons_self _ _)
      obtain ⟨z, e1, e2⟩ := ih h2 (by simp)
      unfold pf
      split
      · next hk =>
        refine ⟨x, rfl, ?_⟩
        unfold gt_
        by_cases e : x.1 = key
        · rw [if_pos e, List.find?_cons_of_pos (by simp [e])]; rfl
        · rw [if_neg e, List.find?_cons_of_neg (by simp [e])]
          have : (y :: r).find? (fun x => x.1 == key) = none := by
            rw [List.find?_eq_none]
            intro w hw
            have := (List.pairwise_cons.mp h.1).1 w hw
            simp only [beq_iff_eq]
            omega
          rw [this]; rfl
      · next hk =>
        refine ⟨z, by simpa using e1, ?_⟩
        rw [← e2]
        unfold gt_
        rw [List.find?_cons_of_neg (by simp; omega)]
end
section
-- the mathematics: the store of the class
def ck_d : ck_I := (0, [])
/-- the latest chunk below n whose last key is k -/
def pv (S : List ck_I) (k : Nat) : Nat → Option Nat
  | 0 => none
  | n + 1 => if lk (S.getD n ck_d).2 = k then some n else pv S k n
theorem pv_lt {S : List ck_I} {k : Nat} : ∀ {n c : Nat}, pv S k n = some c → c < n ∧ lk (S.getD c ck_d).2 = k ∧ ∀ d, c < d → d < n → lk (S.getD d ck_d).2 ≠ k := by
  intro n
  induction n with
  | zero => intro c h; cases h
  | succ n ih =>
    intro c h
    unfold pv at h
    split at h
    · next e => cases h; exact ⟨Nat.lt_succ_self _, e, fun d h1 h2 => by omega⟩
    · next e =>
      obtain ⟨h1, h2, h3⟩ := ih h
      refine ⟨by omega, h2, fun d h4 h5 => ?_⟩
      by_cases hd : d = n
      · subst hd; exact e
      · exact h3 d h4 (by omega)
theorem pv_none {S : List ck_I} {k : Nat} : ∀ {n : Nat}, pv S k n = none → ∀ d, d < n → lk (S.getD d ck_d).2 ≠ k := by
  intro n
  induction n with
  | zero => intro _ d h; omega
  | succ n ih =>
    intro h d hd
    unfold pv at h
    split at h
    · cases h
    · next e =>
      by_cases hn : d = n
      · subst hn; exact e
      · exact ih h d (by omega)
theorem pv_app {S : List ck_I} {c : ck_I} {k : Nat} : ∀ n, n ≤ S.length → pv (S ++ [c]) k n = pv S k n := by
  intro n
  induction n with
  | zero => intro _; rfl
  | succ n ih =>
    intro h
    unfold pv
    rw [ih (by omega)]
    have : (S ++ [c]).getD n ck_d = S.getD n ck_d := by
      simp only [List.getD_eq_getElem?_getD]
      rw [List.getElem?_append_left (by omega)]
    rw [this]
/-- what the tables of the class say of its chunks: 'ad' the addresses, 'bl' the chunks under the items -/
def st_ok (S : List ck_I) (ad : Nat → Nat) (bl : Nat → Nat → Option Nat) : Prop :=
  S.Nodup ∧ (∀ c d, c < S.length → d < S.length → ad c = ad d → c = d) ∧
  ∀ c l p, S[c]? = some (l, p) → so p ∧ p ≠ [] ∧ pa l p = [p] ∧ l ≤ 2 ∧ (l = 0 → ∀ j, bl c j = none) ∧
    ∀ l', l = l' + 1 → ∀ j q, (pa l' p)[j]? = some q → ∃ d, d < c ∧ S[d]? = some (l', q) ∧ bl c j = some (ad d)
/-- the items' chunks of a row that is being cut at level l: content p -/
def rw_ok (S : List ck_I) (ad : Nat → Nat) (l : Nat) (p : List kv_I) (rb : Nat → Option Nat) : Prop :=
  (l = 0 → ∀ j, j < p.length → rb j = none) ∧ ∀ l', l = l' + 1 → ∀ j q, (pa l' p)[j]? = some q → ∃ d, S[d]? = some (l', q) ∧ rb j = some (ad d)
/-- what the search of the class compares -/
def mt_ (l : Nat) (p : List kv_I) (rb : Nat → Option Nat) (l2 : Nat) (Y : List kv_I) (bl : Nat → Option Nat) : Prop :=
  l2 = l ∧ Y = im l p ∧ ∀ j, j < (im l p).length → bl j = rb j
theorem mt_iff {S : List ck_I} {ad : Nat → Nat} {bl : Nat → Nat → Option Nat} (h : st_ok S ad bl) {l : Nat} {p : List kv_I} {rb : Nat → Option Nat} (hr : rw_ok S ad l p rb) {c l2 : Nat} {p2 : List kv_I} (hc : S[c]? = some (l2, p2)) :
    mt_ l p rb l2 (im l2 p2) (bl c) ↔ (l2, p2) = (l, p) := by
  obtain ⟨hnd, hinj, hS⟩ := h
  obtain ⟨h1, h2, h3, h4, h5, h6⟩ := hS c l2 p2 hc
  constructor
  · rintro ⟨rfl, e, hb⟩
    congr 1
    cases l2 with
    | zero => exact e
    | succ l' =>
      rw [im_succ, im_succ] at e
      have hlen : (pa l' p2).length = (pa l' p).length := by
        have := congrArg List.length e
        simpa using this
      have hpa : pa l' p2 = pa l' p := by
        apply List.ext_getElem? 
        intro j
        by_cases hj : j < (pa l' p2).length
        · have e1 := List.getElem?_eq_getElem hj
          have e2 := List.getElem?_eq_getElem (show j < (pa l' p).length by omega)
          obtain ⟨d, hd1, hd2, hd3⟩ := h6 l' rfl j _ e1
          obtain ⟨d', hd2', hd3'⟩ := hr.2 l' rfl j _ e2
          have hbj := hb j (by rw [im_succ, List.length_map]; omega)
          rw [hd3, hd3'] at hbj
          have hdl : d < S.length := (List.getElem?_eq_some_iff.mp hd2).1
          have hdl' : d' < S.length := (List.getElem?_eq_some_iff.mp hd2').1
          have hdd := hinj d d' hdl hdl' (Option.some.inj hbj)
          subst hdd
          rw [hd2] at hd2'
          have := (Prod.mk.inj (Option.some.inj hd2')).2
          rw [e1, e2, this]
        · rw [List.getElem?_eq_none (by omega), List.getElem?_eq_none (by omega)]
      rw [← pa_flat l' p2, ← pa_flat l' p, hpa]
  · intro e
    obtain ⟨rfl, rfl⟩ := Prod.mk.inj e
    refine ⟨rfl, rfl, fun j hj => ?_⟩
    cases l2 with
    | zero => rw [h5 rfl j, hr.1 rfl j hj]
    | succ l' =>
      rw [im_succ, List.length_map] at hj
      have e1 := List.getElem?_eq_getElem hj
      obtain ⟨d, hd1, hd2, hd3⟩ := h6 l' rfl j _ e1
      obtain ⟨d', hd2', hd3'⟩ := hr.2 l' rfl j _ e1
      rw [hd3, hd3']
      congr 2
      have hdl : d < S.length := (List.getElem?_eq_some_iff.mp hd2).1
      have hdl' : d' < S.length := (List.getElem?_eq_some_iff.mp hd2').1
      refine (List.getElem_inj (h₀ := hdl) (h₁ := hdl') hnd).mp ?_
      rw [← Option.some_inj, ← List.getElem?_eq_getElem, ← List.getElem?_eq_getElem, hd2, hd2']
/-- a new chunk comes to the end -/
theorem st_push {S : List ck_I} {ad : Nat → Nat} {bl : Nat → Nat → Option Nat} (h : st_ok S ad bl) {l : Nat} {p : List kv_I} {rb : Nat → Option Nat} (hr : rw_ok S ad l p rb) (hn : (l, p) ∉ S) (h1 : so p) (h2 : p ≠ []) (h3 : pa l p = [p]) (h4 : l ≤ 2)
    {a : Nat} {b : Nat → Option Nat} (ha : ∀ c, c < S.length → ad c ≠ a) (hb : ∀ j, j < (im l p).length → b j = rb j) (hb0 : ∀ j, (im l p).length ≤ j → b j = none) : st_ok (S ++ [(l, p)]) (va_up ad S.length a) (va_up bl S.length b) := by
  obtain ⟨hnd, hinj, hS⟩ := h
  refine ⟨?_, ?_, ?_⟩
  · rw [List.nodup_append]
    refine ⟨hnd, by simp, ?_⟩
    intro x hx y hy e
    rw [List.mem_singleton] at hy
    subst hy; subst e
    exact hn hx
  · intro c d hc hd e
    rw [List.length_append, List.length_singleton] at hc hd
    unfold va_up at e
    split at e
    · split at e
      · omega
      · exact absurd e.symm (ha d (by omega))
    · split at e
      · exact absurd e (ha c (by omega))
      · exact hinj c d (by omega) (by omega) e
  · intro c l2 p2 hc
    by_cases hcl : c < S.length
    · rw [List.getElem?_append_left hcl] at hc
      obtain ⟨q1, q2, q3, q4, q5, q6⟩ := hS c l2 p2 hc
      have hne : c ≠ S.length := Nat.ne_of_lt hcl
      refine ⟨q1, q2, q3, q4, fun e j => ?_, fun l' e j q hq => ?_⟩
      · unfold va_up; rw [if_neg hne]; exact q5 e j
      · obtain ⟨d, hd1, hd2, hd3⟩ := q6 l' e j q hq
        refine ⟨d, hd1, by rw [List.getElem?_append_left (by omega)]; exact hd2, ?_⟩
        unfold va_up
        rw [if_neg hne, if_neg (by omega)]
        exact hd3
    · have hcl2 : c = S.length := by
        have := (List.getElem?_eq_some_iff.mp hc).1
        rw [List.length_append, List.length_singleton] at this
        omega
      subst hcl2
      rw [List.getElem?_append_right (Nat.le_refl _), Nat.sub_self] at hc
      have e0 : (l, p) = (l2, p2) := Option.some.inj hc
      obtain ⟨rfl, rfl⟩ := Prod.mk.inj e0
      refine ⟨h1, h2, h3, h4, fun e j => ?_, fun l' e j q hq => ?_⟩
      · unfold va_up
        rw [if_pos rfl]
        by_cases hj : j < (im l p).length
        · rw [hb j hj]
          subst e
          exact hr.1 rfl j hj
        · exact hb0 j (by omega)
      · obtain ⟨d, hd2, hd3⟩ := hr.2 l' e j q hq
        have hdl : d < S.length := (List.getElem?_eq_some_iff.mp hd2).1
        refine ⟨d, hdl, by rw [List.getElem?_append_left hdl]; exact hd2, ?_⟩
        have hj : j < (im l p).length := by
          subst e
          rw [im_succ, List.length_map]
          exact (List.getElem?_eq_some_iff.mp hq).1
        unfold va_up
        rw [if_pos rfl, if_neg (Nat.ne_of_lt hdl), hb j hj]
        exact hd3
end
section
/-- the classes of the arrays -/
abbrev TY (tk : Nat → ClassId) : List (ClassId × FieldType) := [(tk 0, .int), (tk 1, .boolean), (tk 2, .long), (tk 3, .object "SealedBook$Chunk")]
/-- the reference: its object and its arrays; field k is g k 0, the array in field k is g k, the longs are la -/
def wM (tk : Nat → ClassId) (h : Nat) (ad : Nat → Nat) (g : Nat → Nat → Int32) (la : Nat → Int64) : va_W := [(h, .inr (9, [.int (g 0 0), .ref (ad 1), .ref (ad 2), .int (g 3 0), .ref (ad 4), .int (g 5 0), .int (g 6 0), .ref (ad 7), .int (g 8 0), .ref (ad 9), .ref (ad 10), .int (g 11 0), .ref (ad 12), .ref (ad 13), .ref (ad 14), .ref (ad 15), .ref (ad 16), .int (g 17 0), .ref (ad 18), .ref (ad 19), .ref (ad 20), .int (g 21 0), .ref (ad 22), .int (g 23 0), .ref (ad 24), .int (g 25 0), .int (g 26 0), .ref (ad 27), .int (g 28 0), .int (g 29 0), .ref (ad 30), .ref (ad 31)])), (ad 1, .inl (tk 1, 816, .inl (g 1))), (ad 2, .inl (tk 0, 816, .inl (g 2))), (ad 4, .inl (tk 0, 16, .inl (g 4))), (ad 7, .inl (tk 0, 3400, .inl (g 7))), (ad 9, .inl (tk 2, 180, .inr (.inl la))), (ad 10, .inl (tk 0, 8640, .inl (g 10))), (ad 12, .inl (tk 0, 8, .inl (g 12))), (ad 13, .inl (tk 0, 384, .inl (g 13))), (ad 14, .inl (tk 0, 384, .inl (g 14))), (ad 15, .inl (tk 0, 8, .inl (g 15))), (ad 16, .inl (tk 0, 8, .inl (g 16))), (ad 18, .inl (tk 0, 8, .inl (g 18))), (ad 19, .inl (tk 0, 8, .inl (g 19))), (ad 20, .inl (tk 1, 8, .inl (g 20))), (ad 22, .inl (tk 0, 420, .inl (g 22))), (ad 24, .inl (tk 0, 420, .inl (g 24))), (ad 27, .inl (tk 0, 16, .inl (g 27))), (ad 30, .inl (tk 0, 48, .inl (g 30))), (ad 31, .inl (tk 0, 48, .inl (g 31)))]
theorem mup_same (g : Nat → Nat → Int32) (a i : Nat) : mup g a i (g a i) = g := by
  funext x
  unfold mup
  split
  · next h => subst h; funext j; unfold upd; split
              · next h => rw [h]
              · rfl
  · rfl
end
section
/-- the greatest power of 2 below n (n at most 16) -/
def hf (n : Nat) : Nat := if n ≤ 2 then 1 else if n ≤ 4 then 2 else if n ≤ 8 then 4 else 8
def lf (v : Nat) (r : Int32) : Int32 := mx (mx 7 (nI v)) r
def jn (a b : Int32) : Int32 := mx (mx 8 a) b

set_option maxHeartbeats 4000000 in
set_option maxRecDepth 100000 in
theorem c_M_mix (l : Launch) (D : va_G) (tk : Nat → ClassId) (sz : Nat) (h x : Int32) (ws : va_W) : Met l y_M_mix w_M_mix ({ frames := 0, cells := 0, slots := 0, locals := 0 }) (va_Pc [.int h, .int x] (k_pre D (TY tk) sz ws)) (va_Qi (fun (r : Int32) (_ : Unit) => r = mx h x) (fun u t => k_at D (TY tk) (va_A ws sz) ((fun _ => ws) u) t) (va_A ws sz)) 0 0 (va_A ws sz) := by
  refine k_ofW (fun A => va_Qi (fun (r : Int32) (_ : Unit) => r = mx h x) (fun u t => k_at D (TY tk) A ((fun _ => ws) u) t) A) (by decide) (Nat.le_of_ble_eq_true rfl) ?_
  intro p e s m args below meth c Q A ls hQ hx hb hr hlk hin hts hT hown hml hnw hP hK hD hA hsz hl
  have hS : va_S A s.heap s.heap [] := va_S.rf
  have hc0 : 0 + 0 ≤ 0 ∧ 0 + 0 ≤ 0 := ⟨by decide, by decide⟩
  have hl : lv_has ls 3 [(0, .int h), (1, .int x)] := hl
  have hP : va_P D CC ws s.heap := hP
  have hK : va_K D CC (TY tk) s := hK
  refine lv_iload_n hx hb d_M_mix_0 rfl (lv_at hl 0 rfl) ?_
  refine lv_iload_n hx hb d_M_mix_1 rfl (lv_at hl 1 rfl) ?_
  refine lv_ixor hx hb d_M_mix_2 ?_
  refine lv_ldc (v := 73244475) hx hb hown (hT _ t_1082) d_M_mix_3 ?_
  refine lv_imul hx hb d_M_mix_5 ?_
  refine lv_istore_n (lv' := [(2, .int ((h ^^^ x) * 73244475)), (0, .int h), (1, .int x)]) hx hb d_M_mix_6 rfl hl (by decide) rfl (fun ls hl => ?_)
  refine lv_iload_n hx hb d_M_mix_7 rfl (lv_at hl 0 rfl) ?_
  refine lv_iload_n hx hb d_M_mix_8 rfl (lv_at hl 0 rfl) ?_
  refine lv_bipush (v := nI 15) hx hb d_M_mix_9 (by decide) ?_
  refine lv_iushr (v := (((h ^^^ x) * 73244475).toUInt32 >>> ((nI 15).toUInt32 &&& Int32.toUInt32 31)).toInt32) hx hb d_M_mix_11 rfl ?_
  refine lv_ixor hx hb d_M_mix_12 ?_
  exact k_iret (v := ((h ^^^ x) * 73244475) ^^^ ((((h ^^^ x) * 73244475).toUInt32 >>> ((nI 15).toUInt32 &&& Int32.toUInt32 31)).toInt32)) hQ hx hb hr hlk hK hP hD hS () rfl rfl d_M_mix_13

set_option maxHeartbeats 4000000 in
set_option maxRecDepth 100000 in
theorem c_M_outside (l : Launch) (D : va_G) (tk : Nat → ClassId) (sz : Nat) (v a b : Int32) (ws : va_W) : Met l y_M_outside w_M_outside ({ frames := 0, cells := 0, slots := 0, locals := 0 }) (va_Pc [.int v, .int a, .int b] (k_pre D (TY tk) sz ws)) (va_Qi (fun (r : Int32) (_ : Unit) => r = if v < a ∨ b < v then 1 else 0) (fun u t => k_at D (TY tk) (va_A ws sz) ((fun _ => ws) u) t) (va_A ws sz)) 0 0 (va_A ws sz) := by
  refine k_ofW (fun A => va_Qi (fun (r : Int32) (_ : Unit) => r = if v < a ∨ b < v then 1 else 0) (fun u t => k_at D (TY tk) A ((fun _ => ws) u) t) A) (by decide) (Nat.le_of_ble_eq_true rfl) ?_
  intro p e s m args below meth c Q A ls hQ hx hb hr hlk hin hts hT hown hml hnw hP hK hD hA hsz hl
  have hS : va_S A s.heap s.heap [] := va_S.rf
  have hc0 : 0 + 0 ≤ 0 ∧ 0 + 0 ≤ 0 := ⟨by decide, by decide⟩
  have hl : lv_has ls 3 [(0, .int v), (1, .int a), (2, .int b)] := hl
  have hP : va_P D CC ws s.heap := hP
  have hK : va_K D CC (TY tk) s := hK
  refine lv_iload_n hx hb d_M_outside_0 rfl (lv_at hl 0 rfl) ?_
  refine lv_iload_n hx hb d_M_outside_1 rfl (lv_at hl 1 rfl) ?_
  refine lv_icmp_lt hx hb d_M_outside_2 (tgt := 10) (by decide) (fun hc2 => ?_) (fun hc2 => ?_)
  · skip
    refine lv_iconst (v := nI 1) hx hb d_M_outside_10 (by decide) ?_
    refine lv_goto hx hb d_M_outside_11 (tgt := 15) (by decide) ?_
    exact k_zret (v := nI 1) hQ hx hb hr hlk hK hP hD hS () rfl (by decide) (by first | (rw [if_pos (by first | (left; assumption) | (right; exact Int32.not_le.mp (by assumption)))]; rfl) | (rw [if_neg (by intro hh; rcases hh with hh | hh; exact absurd hh (by assumption); exact absurd hh (Int32.not_lt.mpr (by assumption)))]; rfl)) d_M_outside_15
  · skip
    refine lv_iload_n hx hb d_M_outside_5 rfl (lv_at hl 0 rfl) ?_
    refine lv_iload_n hx hb d_M_outside_6 rfl (lv_at hl 2 rfl) ?_
    refine lv_icmp_le hx hb d_M_outside_7 (tgt := 14) (by decide) (fun hc7 => ?_) (fun hc7 => ?_)
    · skip
      refine lv_iconst (v := nI 0) hx hb d_M_outside_14 (by decide) ?_
      exact k_zret (v := nI 0) hQ hx hb hr hlk hK hP hD hS () rfl (by decide) (by first | (rw [if_pos (by first | (left; assumption) | (right; exact Int32.not_le.mp (by assumption)))]; rfl) | (rw [if_neg (by intro hh; rcases hh with hh | hh; exact absurd hh (by assumption); exact absurd hh (Int32.not_lt.mpr (by assumption)))]; rfl)) d_M_outside_15
    · skip
      refine lv_iconst (v := nI 1) hx hb d_M_outside_10 (by decide) ?_
      refine lv_goto hx hb d_M_outside_11 (tgt := 15) (by decide) ?_
      exact k_zret (v := nI 1) hQ hx hb hr hlk hK hP hD hS () rfl (by decide) (by first | (rw [if_pos (by first | (left; assumption) | (right; exact Int32.not_le.mp (by assumption)))]; rfl) | (rw [if_neg (by intro hh; rcases hh with hh | hh; exact absurd hh (by assumption); exact absurd hh (Int32.not_lt.mpr (by assumption)))]; rfl)) d_M_outside_15

set_option maxHeartbeats 4000000 in
set_option maxRecDepth 100000 in
theorem c_M_ends (l : Launch) (D : va_G) (tk : Nat → ClassId) (sz : Nat) (lv k : Nat) (ws : va_W) : Met l y_M_ends w_M_ends ({ frames := 1, cells := 0, slots := 0, locals := 22 }) (va_Pc [.int (nI lv), .int (nI k)] (k_pre D (TY tk) sz ws)) (va_Qi (fun (r : Int32) (_ : Unit) => r = if en lv k = true then 1 else 0) (fun u t => k_at D (TY tk) (va_A ws sz) ((fun _ => ws) u) t) (va_A ws sz)) 0 0 (va_A ws sz) := by
  refine k_ofW (fun A => va_Qi (fun (r : Int32) (_ : Unit) => r = if en lv k = true then 1 else 0) (fun u t => k_at D (TY tk) A ((fun _ => ws) u) t) A) (by decide) (Nat.le_of_ble_eq_true rfl) ?_
  intro p e s m args below meth c Q A ls hQ hx hb hr hlk hin hts hT hown hml hnw hP hK hD hA hsz hl
  have hS : va_S A s.heap s.heap [] := va_S.rf
  have hc0 : 0 + 0 ≤ 0 ∧ 0 + 0 ≤ 0 := ⟨by decide, by decide⟩
  have hl : lv_has ls 2 [(0, .int (nI lv)), (1, .int (nI k))] := hl
  have hP : va_P D CC ws s.heap := hP
  have hK : va_K D CC (TY tk) s := hK
  refine lv_bipush (v := nI 9) hx hb d_M_ends_0 (by decide) ?_
  refine lv_iload_n hx hb d_M_ends_2 rfl (lv_at hl 0 rfl) ?_
  refine k_calli (va_runS (As := [.int (nI 9), .int (nI lv)]) (rest := []) ⟨hx, hb, hml, hown, hts⟩ (c_M_mix l D tk s.heap.size (nI 9) (nI lv) ws) (cwS 2 hts (gS t_1079 t_1080 t_9 t_1081) rfl rfl rfl (by decide +kernel) ⟨Nat.le_of_ble_eq_true rfl, Nat.le_of_ble_eq_true rfl⟩) (k_preS hP hK hD hnw) rfl rfl hl.1 rfl (lv_room (Nat.le_of_ble_eq_true rfl)) d_M_ends_3 hc0) hD hS hA (fun _ _ H locs hp3 hP hD hK hS => ?_)
  subst hp3
  have hP : va_P D CC ws H := hP
  have hD : va_D A ws := hD
  refine lv_iload_n hx hb d_M_ends_6 rfl (lv_at hl 1 rfl) ?_
  refine k_calli (va_runS (As := [.int (mx (nI 9) (nI lv)), .int (nI k)]) (rest := []) ⟨hx, hb, hml, hown, hts⟩ (c_M_mix l D tk H.size (mx (nI 9) (nI lv)) (nI k) ws) (cwS 2 hts (gS t_1079 t_1080 t_9 t_1081) rfl rfl rfl (by decide +kernel) ⟨Nat.le_of_ble_eq_true rfl, Nat.le_of_ble_eq_true rfl⟩) (k_preS hP hK hD hnw) rfl rfl hl.1 rfl (lv_room (Nat.le_of_ble_eq_true rfl)) d_M_ends_7 hc0) hD hS hA (fun _ _ H locs hp7 hP hD hK hS => ?_)
  subst hp7
  have hP : va_P D CC ws H := hP
  have hD : va_D A ws := hD
  refine lv_iconst (v := nI 5) hx hb d_M_ends_10 (by decide) ?_
  refine k_calli (va_runS (As := [.int (mx (mx (nI 9) (nI lv)) (nI k)), .int (nI 5)]) (rest := []) ⟨hx, hb, hml, hown, hts⟩ (c_M_mix l D tk H.size (mx (mx (nI 9) (nI lv)) (nI k)) (nI 5) ws) (cwS 2 hts (gS t_1079 t_1080 t_9 t_1081) rfl rfl rfl (by decide +kernel) ⟨Nat.le_of_ble_eq_true rfl, Nat.le_of_ble_eq_true rfl⟩) (k_preS hP hK hD hnw) rfl rfl hl.1 rfl (lv_room (Nat.le_of_ble_eq_true rfl)) d_M_ends_11 hc0) hD hS hA (fun _ _ H locs hp11 hP hD hK hS => ?_)
  subst hp11
  have hP : va_P D CC ws H := hP
  have hD : va_D A ws := hD
  refine lv_iconst (v := nI 3) hx hb d_M_ends_14 (by decide) ?_
  refine lv_iand hx hb d_M_ends_15 ?_
  refine lv_if_ne hx hb d_M_ends_16 (tgt := 23) (by decide) (fun hc16 => ?_) (fun hc16 => ?_)
  · skip
    refine lv_iconst (v := nI 0) hx hb d_M_ends_23 (by decide) ?_
    exact k_zret (v := nI 0) hQ hx hb hr hlk hK hP hD hS () rfl (by decide) (by unfold en; simp only [decide_eq_true_eq]; first | rw [if_pos (by assumption)]; rfl | rw [if_neg (by assumption)]; rfl) d_M_ends_24
  · skip
    refine lv_iconst (v := nI 1) hx hb d_M_ends_19 (by decide) ?_
    refine lv_goto hx hb d_M_ends_20 (tgt := 24) (by decide) ?_
    exact k_zret (v := nI 1) hQ hx hb hr hlk hK hP hD hS () rfl (by decide) (by unfold en; simp only [decide_eq_true_eq]; first | rw [if_pos (by assumption)]; rfl | rw [if_neg (by assumption)]; rfl) d_M_ends_24

set_option maxHeartbeats 4000000 in
set_option maxRecDepth 100000 in
theorem c_M_leafOf (l : Launch) (D : va_G) (tk : Nat → ClassId) (sz : Nat) (v : Nat) (r0 : Int32) (ws : va_W) : Met l y_M_leafOf w_M_leafOf ({ frames := 1, cells := 0, slots := 0, locals := 22 }) (va_Pc [.int (nI v), .int r0] (k_pre D (TY tk) sz ws)) (va_Qi (fun (r : Int32) (_ : Unit) => r = lf v r0) (fun u t => k_at D (TY tk) (va_A ws sz) ((fun _ => ws) u) t) (va_A ws sz)) 0 0 (va_A ws sz) := by
  refine k_ofW (fun A => va_Qi (fun (r : Int32) (_ : Unit) => r = lf v r0) (fun u t => k_at D (TY tk) A ((fun _ => ws) u) t) A) (by decide) (Nat.le_of_ble_eq_true rfl) ?_
  intro p e s m args below meth c Q A ls hQ hx hb hr hlk hin hts hT hown hml hnw hP hK hD hA hsz hl
  have hS : va_S A s.heap s.heap [] := va_S.rf
  have hc0 : 0 + 0 ≤ 0 ∧ 0 + 0 ≤ 0 := ⟨by decide, by decide⟩
  have hl : lv_has ls 2 [(0, .int (nI v)), (1, .int r0)] := hl
  have hP : va_P D CC ws s.heap := hP
  have hK : va_K D CC (TY tk) s := hK
  refine lv_bipush (v := nI 7) hx hb d_M_leafOf_0 (by decide) ?_
  refine lv_iload_n hx hb d_M_leafOf_2 rfl (lv_at hl 0 rfl) ?_
  refine k_calli (va_runS (As := [.int (nI 7), .int (nI v)]) (rest := []) ⟨hx, hb, hml, hown, hts⟩ (c_M_mix l D tk s.heap.size (nI 7) (nI v) ws) (cwS 2 hts (gS t_1079 t_1080 t_9 t_1081) rfl rfl rfl (by decide +kernel) ⟨Nat.le_of_ble_eq_true rfl, Nat.le_of_ble_eq_true rfl⟩) (k_preS hP hK hD hnw) rfl rfl hl.1 rfl (lv_room (Nat.le_of_ble_eq_true rfl)) d_M_leafOf_3 hc0) hD hS hA (fun _ _ H locs hp3 hP hD hK hS => ?_)
  subst hp3
  have hP : va_P D CC ws H := hP
  have hD : va_D A ws := hD
  refine lv_iload_n hx hb d_M_leafOf_6 rfl (lv_at hl 1 rfl) ?_
  refine k_calli (va_runS (As := [.int (mx (nI 7) (nI v)), .int r0]) (rest := []) ⟨hx, hb, hml, hown, hts⟩ (c_M_mix l D tk H.size (mx (nI 7) (nI v)) r0 ws) (cwS 2 hts (gS t_1079 t_1080 t_9 t_1081) rfl rfl rfl (by decide +kernel) ⟨Nat.le_of_ble_eq_true rfl, Nat.le_of_ble_eq_true rfl⟩) (k_preS hP hK hD hnw) rfl rfl hl.1 rfl (lv_room (Nat.le_of_ble_eq_true rfl)) d_M_leafOf_7 hc0) hD hS hA (fun _ _ H locs hp7 hP hD hK hS => ?_)
  subst hp7
  have hP : va_P D CC ws H := hP
  have hD : va_D A ws := hD
  exact k_iret (v := mx (mx (nI 7) (nI v)) r0) hQ hx hb hr hlk hK hP hD hS () rfl rfl d_M_leafOf_10

set_option maxHeartbeats 4000000 in
set_option maxRecDepth 100000 in
theorem c_M_join (l : Launch) (D : va_G) (tk : Nat → ClassId) (sz : Nat) (a b : Int32) (ws : va_W) : Met l y_M_join w_M_join ({ frames := 1, cells := 0, slots := 0, locals := 22 }) (va_Pc [.int a, .int b] (k_pre D (TY tk) sz ws)) (va_Qi (fun (r : Int32) (_ : Unit) => r = jn a b) (fun u t => k_at D (TY tk) (va_A ws sz) ((fun _ => ws) u) t) (va_A ws sz)) 0 0 (va_A ws sz) := by
  refine k_ofW (fun A => va_Qi (fun (r : Int32) (_ : Unit) => r = jn a b) (fun u t => k_at D (TY tk) A ((fun _ => ws) u) t) A) (by decide) (Nat.le_of_ble_eq_true rfl) ?_
  intro p e s m args below meth c Q A ls hQ hx hb hr hlk hin hts hT hown hml hnw hP hK hD hA hsz hl
  have hS : va_S A s.heap s.heap [] := va_S.rf
  have hc0 : 0 + 0 ≤ 0 ∧ 0 + 0 ≤ 0 := ⟨by decide, by decide⟩
  have hl : lv_has ls 2 [(0, .int a), (1, .int b)] := hl
  have hP : va_P D CC ws s.heap := hP
  have hK : va_K D CC (TY tk) s := hK
  refine lv_bipush (v := nI 8) hx hb d_M_join_0 (by decide) ?_
  refine lv_iload_n hx hb d_M_join_2 rfl (lv_at hl 0 rfl) ?_
  refine k_calli (va_runS (As := [.int (nI 8), .int a]) (rest := []) ⟨hx, hb, hml, hown, hts⟩ (c_M_mix l D tk s.heap.size (nI 8) a ws) (cwS 2 hts (gS t_1079 t_1080 t_9 t_1081) rfl rfl rfl (by decide +kernel) ⟨Nat.le_of_ble_eq_true rfl, Nat.le_of_ble_eq_true rfl⟩) (k_preS hP hK hD hnw) rfl rfl hl.1 rfl (lv_room (Nat.le_of_ble_eq_true rfl)) d_M_join_3 hc0) hD hS hA (fun _ _ H locs hp3 hP hD hK hS => ?_)
  subst hp3
  have hP : va_P D CC ws H := hP
  have hD : va_D A ws := hD
  refine lv_iload_n hx hb d_M_join_6 rfl (lv_at hl 1 rfl) ?_
  refine k_calli (va_runS (As := [.int (mx (nI 8) a), .int b]) (rest := []) ⟨hx, hb, hml, hown, hts⟩ (c_M_mix l D tk H.size (mx (nI 8) a) b ws) (cwS 2 hts (gS t_1079 t_1080 t_9 t_1081) rfl rfl rfl (by decide +kernel) ⟨Nat.le_of_ble_eq_true rfl, Nat.le_of_ble_eq_true rfl⟩) (k_preS hP hK hD hnw) rfl rfl hl.1 rfl (lv_room (Nat.le_of_ble_eq_true rfl)) d_M_join_7 hc0) hD hS hA (fun _ _ H locs hp7 hP hD hK hS => ?_)
  subst hp7
  have hP : va_P D CC ws H := hP
  have hD : va_D A ws := hD
  exact k_iret (v := mx (mx (nI 8) a) b) hQ hx hb hr hlk hK hP hD hS () rfl rfl d_M_join_10
end
section
set_option maxHeartbeats 4000000 in
set_option maxRecDepth 100000 in
theorem c_M_half (l : Launch) (D : va_G) (tk : Nat → ClassId) (sz : Nat) (n : Nat) (hn : n ≤ 16) (ws : va_W) : Met l y_M_half w_M_half ({ frames := 0, cells := 0, slots := 0, locals := 0 }) (va_Pc [.int (nI n)] (k_pre D (TY tk) sz ws)) (va_Qi (fun (r : Int32) (_ : Unit) => r = nI (hf n)) (fun u t => k_at D (TY tk) (va_A ws sz) ((fun _ => ws) u) t) (va_A ws sz)) 0 0 (va_A ws sz) := by
  refine k_ofW (fun A => va_Qi (fun (r : Int32) (_ : Unit) => r = nI (hf n)) (fun u t => k_at D (TY tk) A ((fun _ => ws) u) t) A) (by decide) (Nat.le_of_ble_eq_true rfl) ?_
  intro p e s m args below meth c Q A ls hQ hx hb hr hlk hin hts hT hown hml hnw hP hK hD hA hsz hl
  have hS : va_S A s.heap s.heap [] := va_S.rf
  have hc0 : 0 + 0 ≤ 0 ∧ 0 + 0 ≤ 0 := ⟨by decide, by decide⟩
  have hl : lv_has ls 2 [(0, .int (nI n))] := hl
  have hP : va_P D CC ws s.heap := hP
  have hK : va_K D CC (TY tk) s := hK
  refine lv_iconst (v := nI 1) hx hb d_M_half_0 (by decide) ?_
  refine lv_istore_n (lv' := [(1, .int (nI 1)), (0, .int (nI n))]) hx hb d_M_half_1 rfl hl (by decide) rfl (fun ls hl => ?_)
  refine lv_iconst (v := nI 2) hx hb d_M_half_2 (by decide) ?_
  refine lv_iload_n hx hb d_M_half_3 rfl (lv_at hl 0 rfl) ?_
  refine st_imul hx hb d_M_half_4 ?_
  refine lv_iload_n hx hb d_M_half_5 rfl (lv_at hl 1 rfl) ?_
  refine st_icmp_ge hx hb (by omega) (by omega) d_M_half_6 (tgt := 16) (by decide) (fun hc6 => ?_) (fun hc6 => ?_)
  · skip
    refine lv_iload_n hx hb d_M_half_16 rfl (lv_at hl 0 rfl) ?_
    exact k_iret (v := nI 1) hQ hx hb hr hlk hK hP hD hS () rfl (congrArg nI (by unfold hf; repeat (first | rw [if_pos (by omega)] | rw [if_neg (by omega)]))) d_M_half_17
  · skip
    refine lv_iconst (v := nI 2) hx hb d_M_half_9 (by decide) ?_
    refine lv_iload_n hx hb d_M_half_10 rfl (lv_at hl 0 rfl) ?_
    refine st_imul hx hb d_M_half_11 ?_
    refine lv_istore_n (lv' := [(1, .int (nI 2)), (0, .int (nI n))]) hx hb d_M_half_12 rfl hl (by decide) rfl (fun ls hl => ?_)
    refine lv_goto hx hb d_M_half_13 (tgt := 2) (by decide) ?_
    refine lv_iconst (v := nI 2) hx hb d_M_half_2 (by decide) ?_
    refine lv_iload_n hx hb d_M_half_3 rfl (lv_at hl 0 rfl) ?_
    refine st_imul hx hb d_M_half_4 ?_
    refine lv_iload_n hx hb d_M_half_5 rfl (lv_at hl 1 rfl) ?_
    refine st_icmp_ge hx hb (by omega) (by omega) d_M_half_6 (tgt := 16) (by decide) (fun hc6 => ?_) (fun hc6 => ?_)
    · skip
      refine lv_iload_n hx hb d_M_half_16 rfl (lv_at hl 0 rfl) ?_
      exact k_iret (v := nI 2) hQ hx hb hr hlk hK hP hD hS () rfl (congrArg nI (by unfold hf; repeat (first | rw [if_pos (by omega)] | rw [if_neg (by omega)]))) d_M_half_17
    · skip
      refine lv_iconst (v := nI 2) hx hb d_M_half_9 (by decide) ?_
      refine lv_iload_n hx hb d_M_half_10 rfl (lv_at hl 0 rfl) ?_
      refine st_imul hx hb d_M_half_11 ?_
      refine lv_istore_n (lv' := [(1, .int (nI 4)), (0, .int (nI n))]) hx hb d_M_half_12 rfl hl (by decide) rfl (fun ls hl => ?_)
      refine lv_goto hx hb d_M_half_13 (tgt := 2) (by decide) ?_
      refine lv_iconst (v := nI 2) hx hb d_M_half_2 (by decide) ?_
      refine lv_iload_n hx hb d_M_half_3 rfl (lv_at hl 0 rfl) ?_
      refine st_imul hx hb d_M_half_4 ?_
      refine lv_iload_n hx hb d_M_half_5 rfl (lv_at hl 1 rfl) ?_
      refine st_icmp_ge hx hb (by omega) (by omega) d_M_half_6 (tgt := 16) (by decide) (fun hc6 => ?_) (fun hc6 => ?_)
      · skip
        refine lv_iload_n hx hb d_M_half_16 rfl (lv_at hl 0 rfl) ?_
        exact k_iret (v := nI 4) hQ hx hb hr hlk hK hP hD hS () rfl (congrArg nI (by unfold hf; repeat (first | rw [if_pos (by omega)] | rw [if_neg (by omega)]))) d_M_half_17
      · skip
        refine lv_iconst (v := nI 2) hx hb d_M_half_9 (by decide) ?_
        refine lv_iload_n hx hb d_M_half_10 rfl (lv_at hl 0 rfl) ?_
        refine st_imul hx hb d_M_half_11 ?_
        refine lv_istore_n (lv' := [(1, .int (nI 8)), (0, .int (nI n))]) hx hb d_M_half_12 rfl hl (by decide) rfl (fun ls hl => ?_)
        refine lv_goto hx hb d_M_half_13 (tgt := 2) (by decide) ?_
        refine lv_iconst (v := nI 2) hx hb d_M_half_2 (by decide) ?_
        refine lv_iload_n hx hb d_M_half_3 rfl (lv_at hl 0 rfl) ?_
        refine st_imul hx hb d_M_half_4 ?_
        refine lv_iload_n hx hb d_M_half_5 rfl (lv_at hl 1 rfl) ?_
        refine st_icmp_ge hx hb (by omega) (by omega) d_M_half_6 (tgt := 16) (by decide) (fun hc6 => ?_) (fun hc6 => absurd hc6 (by omega))
        refine lv_iload_n hx hb d_M_half_16 rfl (lv_at hl 0 rfl) ?_
        exact k_iret (v := nI 8) hQ hx hb hr hlk hK hP hD hS () rfl (congrArg nI (by unfold hf; repeat (first | rw [if_pos (by omega)] | rw [if_neg (by omega)]))) d_M_half_17

set_option maxHeartbeats 4000000 in
set_option maxRecDepth 100000 in
theorem c_M_thrown (l : Launch) (D : va_G) (tk : Nat → ClassId) (sz : Nat) (h : Nat) (ad : Nat → Nat) (g : Nat → Nat → Int32) (la : Nat → Int64) (tl : va_W)  : Met l y_M_thrown w_M_thrown ({ frames := 0, cells := 0, slots := 0, locals := 0 }) (va_Pc [.ref h] (k_pre D (TY tk) sz (wM tk h ad g la ++ tl))) (va_Qi (fun (r : Int32) (_ : Unit) => r = g 0 0) (fun u t => k_at D (TY tk) (va_A (wM tk h ad g la ++ tl) sz) ((fun _ => wM tk h ad g la ++ tl) u) t) (va_A (wM tk h ad g la ++ tl) sz)) 0 0 (va_A (wM tk h ad g la ++ tl) sz) := by
  refine k_ofW (fun A => va_Qi (fun (r : Int32) (_ : Unit) => r = g 0 0) (fun u t => k_at D (TY tk) A ((fun _ => wM tk h ad g la ++ tl) u) t) A) (by decide) (Nat.le_of_ble_eq_true rfl) ?_
  intro p e s m args below meth c Q A ls hQ hx hb hr hlk hin hts hT hown hml hnw hP hK hD hA hsz hl
  have hS : va_S A s.heap s.heap [] := va_S.rf
  have hc0 : 0 + 0 ≤ 0 ∧ 0 + 0 ≤ 0 := ⟨by decide, by decide⟩
  have hl : lv_has ls 1 [(0, .ref h)] := hl
  have hP : va_P D CC (wM tk h ad g la ++ tl) s.heap := hP
  have hK : va_K D CC (TY tk) s := hK
  refine lv_aload_n hx hb d_M_thrown_0 rfl (lv_at hl 0 rfl) ?_
  refine gf_M_73 (v := .int (g 0 0)) hx hb hT hown hK hP 0 rfl rfl d_M_thrown_1 ?_
  exact k_iret (v := g 0 0) hQ hx hb hr hlk hK hP hD hS () rfl rfl d_M_thrown_4

set_option maxHeartbeats 4000000 in
set_option maxRecDepth 100000 in
theorem c_M_refuse (l : Launch) (D : va_G) (tk : Nat → ClassId) (sz : Nat) (h : Nat) (ad : Nat → Nat) (g : Nat → Nat → Int32) (la : Nat → Int64) (tl : va_W) (why : Int32) : Met l y_M_refuse w_M_refuse ({ frames := 0, cells := 0, slots := 0, locals := 0 }) (va_Pc [.ref h, .int why] (k_pre D (TY tk) sz (wM tk h ad g la ++ tl))) (va_Qi (fun (r : Int32) (_ : Unit) => r = 0) (fun u t => k_at D (TY tk) (va_A (wM tk h ad g la ++ tl) sz) ((fun _ => wM tk h ad (mup g 0 0 why) la ++ tl) u) t) (va_A (wM tk h ad g la ++ tl) sz)) 0 0 (va_A (wM tk h ad g la ++ tl) sz) := by
  refine k_ofW (fun A => va_Qi (fun (r : Int32) (_ : Unit) => r = 0) (fun u t => k_at D (TY tk) A ((fun _ => wM tk h ad (mup g 0 0 why) la ++ tl) u) t) A) (by decide) (Nat.le_of_ble_eq_true rfl) ?_
  intro p e s m args below meth c Q A ls hQ hx hb hr hlk hin hts hT hown hml hnw hP hK hD hA hsz hl
  have hS : va_S A s.heap s.heap [] := va_S.rf
  have hc0 : 0 + 0 ≤ 0 ∧ 0 + 0 ≤ 0 := ⟨by decide, by decide⟩
  have hl : lv_has ls 2 [(0, .ref h), (1, .int why)] := hl
  have hP : va_P D CC (wM tk h ad g la ++ tl) s.heap := hP
  have hK : va_K D CC (TY tk) s := hK
  refine lv_aload_n hx hb d_M_refuse_0 rfl (lv_at hl 0 rfl) ?_
  refine lv_iload_n hx hb d_M_refuse_1 rfl (lv_at hl 1 rfl) ?_
  refine pf_M_73 hx hb hT hown hK hP hD hS 0 rfl (Nat.le_of_ble_eq_true rfl) d_M_refuse_2 (fun H locs hP hD hS => ?_)
  have hP : va_P D CC (wM tk h ad (mup g 0 0 why) la ++ tl) H := hP
  have hD : va_D A (wM tk h ad (mup g 0 0 why) la ++ tl) := hD
  refine lv_iconst (v := nI 0) hx hb d_M_refuse_5 (by decide) ?_
  exact k_iret (v := nI 0) hQ hx hb hr hlk hK hP hD hS () rfl rfl d_M_refuse_6

/-- booleans are 0 or 1 -/
def bz (f : Nat → Int32) : Prop := ∀ j, f j = 0 ∨ f j = 1
theorem bz_n {f : Nat → Int32} (h : bz f) (j : Nat) : vp_nar .boolean (f j) = f j := by
  rcases h j with e | e <;> rw [e] <;> decide
theorem bz_up {f : Nat → Int32} (h : bz f) (k : Nat) {x : Int32} (hx : x = 0 ∨ x = 1) : bz (upd f k x) := by
  intro j
  unfold upd
  split
  · exact hx
  · exact h j
def kyM (g : Nat → Nat → Int32) (key : Int32) : Int32 := if key < nI 0 ∨ nI 47 < key then nI 1 else if g 3 0 = nI 16 then nI 2 else nI 0
theorem kyM_0 {g : Nat → Nat → Int32} {key : Int32} (h : kyM g key = 0) : ∃ k : Nat, k < 48 ∧ key = nI k := by
  unfold kyM at h
  split at h
  · exact absurd h (by decide)
  · next h1 =>
    obtain ⟨j, hj, e⟩ := nI_of2 (M := 47) (n := 47) (by decide) (fun q => h1 (Or.inl q)) (Int32.not_lt.mp (fun q => h1 (Or.inr q)))
    exact ⟨j, by omega, e⟩
def putM (g : Nat → Nat → Int32) (key v : Int32) : Nat → Nat → Int32 := if kyM g key = 0 then mup (mup (mup g 0 0 0) 1 (768 + key.toNatClampNeg) 1) 2 (768 + key.toNatClampNeg) v else mup g 0 0 (kyM g key)
def delM (g : Nat → Nat → Int32) (key : Int32) : Nat → Nat → Int32 := if kyM g key = 0 then mup (mup g 0 0 0) 1 (768 + key.toNatClampNeg) 0 else mup g 0 0 (kyM g key)
def cpK (g : Nat → Nat → Int32) (f t k : Nat) : Nat → Nat → Int32 := fun x => if x = 1 ∨ x = 2 then (fun j => if 48 * t ≤ j ∧ j < 48 * t + k then g x (48 * f + (j - 48 * t)) else g x j) else g x
theorem cpK_0 (g : Nat → Nat → Int32) (f t : Nat) : cpK g f t 0 = g := by
  funext x
  unfold cpK
  split
  · funext j; rw [if_neg (by omega)]
  · rfl
theorem cpK_z {g : Nat → Nat → Int32} (h : bz (g 1)) (f t k : Nat) : bz (cpK g f t k 1) := by
  intro j
  unfold cpK
  rw [if_pos (Or.inl rfl)]
  split
  · exact h _
  · exact h _
theorem cpK_step (g : Nat → Nat → Int32) {f t k : Nat} (hft : f ≠ t) (hk : k < 48) : mup (mup (cpK g f t k) 1 (48 * t + k) (cpK g f t k 1 (48 * f + k))) 2 (48 * t + k) (cpK g f t k 2 (48 * f + k)) = cpK g f t (k + 1) := by
  have key : ∀ x, x = 1 ∨ x = 2 → ∀ j, upd (cpK g f t k x) (48 * t + k) (cpK g f t k x (48 * f + k)) j = cpK g f t (k + 1) x j := by
    intro x hx j
    unfold upd cpK
    rw [if_pos hx, if_pos hx]
    by_cases hj : j = 48 * t + k
    · rw [if_pos hj, if_neg (by omega), if_pos (by omega)]
      congr 1
      omega
    · rw [if_neg hj]
      by_cases h2 : 48 * t ≤ j ∧ j < 48 * t + k
      · rw [if_pos h2, if_pos (by omega)]
      · rw [if_neg h2, if_neg (by omega)]
  funext x j
  by_cases h1 : x = 1
  · subst h1
    rw [mup_ne (by decide), mup_eq]
    exact key 1 (Or.inl rfl) j
  · by_cases h2 : x = 2
    · subst h2
      rw [mup_eq, mup_ne (by decide)]
      exact key 2 (Or.inr rfl) j
    · rw [mup_ne h2, mup_ne h1]
      unfold cpK
      rw [if_neg (by omega), if_neg (by omega)]
/-- a write of the reference -/
def wrM (f : Int32) : Bool × Int32 := if f = 0 then (true, 0) else (decide (¬ f - 1 = 0), f - 1)

set_option maxHeartbeats 4000000 in
set_option maxRecDepth 100000 in
theorem c_M_keyed (l : Launch) (D : va_G) (tk : Nat → ClassId) (sz : Nat) (h : Nat) (ad : Nat → Nat) (g : Nat → Nat → Int32) (la : Nat → Int64) (tl : va_W) (key : Int32) : Met l y_M_keyed w_M_keyed ({ frames := 1, cells := 0, slots := 0, locals := 22 }) (va_Pc [.ref h, .int key] (k_pre D (TY tk) sz (wM tk h ad g la ++ tl))) (va_Qi (fun (r : Int32) (_ : Unit) => r = kyM g key) (fun u t => k_at D (TY tk) (va_A (wM tk h ad g la ++ tl) sz) ((fun _ => wM tk h ad g la ++ tl) u) t) (va_A (wM tk h ad g la ++ tl) sz)) 0 0 (va_A (wM tk h ad g la ++ tl) sz) := by
  refine k_ofW (fun A => va_Qi (fun (r : Int32) (_ : Unit) => r = kyM g key) (fun u t => k_at D (TY tk) A ((fun _ => wM tk h ad g la ++ tl) u) t) A) (by decide) (Nat.le_of_ble_eq_true rfl) ?_
  intro p e s m args below meth c Q A ls hQ hx hb hr hlk hin hts hT hown hml hnw hP hK hD hA hsz hl
  have hS : va_S A s.heap s.heap [] := va_S.rf
  have hc0 : 0 + 0 ≤ 0 ∧ 0 + 0 ≤ 0 := ⟨by decide, by decide⟩
  have hl : lv_has ls 2 [(0, .ref h), (1, .int key)] := hl
  have hP : va_P D CC (wM tk h ad g la ++ tl) s.heap := hP
  have hK : va_K D CC (TY tk) s := hK
  refine lv_iload_n hx hb d_M_keyed_0 rfl (lv_at hl 1 rfl) ?_
  refine lv_iconst (v := nI 0) hx hb d_M_keyed_1 (by decide) ?_
  refine lv_bipush (v := nI 47) hx hb d_M_keyed_2 (by decide) ?_
  refine k_calli (va_runS (As := [.int key, .int (nI 0), .int (nI 47)]) (rest := []) ⟨hx, hb, hml, hown, hts⟩ (c_M_outside l D tk s.heap.size key (nI 0) (nI 47) (wM tk h ad g la ++ tl)) (cwS 3 hts (gS t_1041 t_1042 t_9 t_1043) rfl rfl rfl (by decide +kernel) ⟨Nat.le_of_ble_eq_true rfl, Nat.le_of_ble_eq_true rfl⟩) (k_preS hP hK hD hnw) rfl rfl hl.1 rfl (lv_room (Nat.le_of_ble_eq_true rfl)) d_M_keyed_4 hc0) hD hS hA (fun _ _ H locs hp4 hP hD hK hS => ?_)
  subst hp4
  have hP : va_P D CC (wM tk h ad g la ++ tl) H := hP
  have hD : va_D A (wM tk h ad g la ++ tl) := hD
  refine lv_if_eq hx hb d_M_keyed_7 (tgt := 14) (by decide) (fun hc7 => ?_) (fun hc7 => ?_)
  · skip
    have hn : ¬ (key < nI 0 ∨ nI 47 < key) := fun q => by rw [if_pos q] at hc7; exact absurd hc7 (by decide)
    refine lv_aload_n hx hb d_M_keyed_14 rfl (lv_at hl 0 rfl) ?_
    refine gf_M_69 (v := .int (g 3 0)) hx hb hT hown hK hP 0 rfl rfl d_M_keyed_15 ?_
    refine lv_bipush (v := nI 16) hx hb d_M_keyed_18 (by decide) ?_
    refine lv_icmp_ne hx hb d_M_keyed_20 (tgt := 27) (by decide) (fun hc20 => ?_) (fun hc20 => ?_)
    · skip
      refine lv_iconst (v := nI 0) hx hb d_M_keyed_27 (by decide) ?_
      exact k_iret (v := nI 0) hQ hx hb hr hlk hK hP hD hS () rfl (by unfold kyM; (iterate 4 (try (first | rw [if_pos (by assumption)] | rw [if_neg (by assumption)]))); try rfl) d_M_keyed_28
    · skip
      refine lv_iconst (v := nI 2) hx hb d_M_keyed_23 (by decide) ?_
      refine lv_goto hx hb d_M_keyed_24 (tgt := 28) (by decide) ?_
      exact k_iret (v := nI 2) hQ hx hb hr hlk hK hP hD hS () rfl (by unfold kyM; (iterate 4 (try (first | rw [if_pos (by assumption)] | rw [if_neg (by assumption)]))); try rfl) d_M_keyed_28
  · skip
    have hn : key < nI 0 ∨ nI 47 < key := Classical.byContradiction (fun q => hc7 (by rw [if_neg q]))
    refine lv_iconst (v := nI 1) hx hb d_M_keyed_10 (by decide) ?_
    refine lv_goto hx hb d_M_keyed_11 (tgt := 28) (by decide) ?_
    exact k_iret (v := nI 1) hQ hx hb hr hlk hK hP hD hS () rfl (by unfold kyM; (iterate 4 (try (first | rw [if_pos (by assumption)] | rw [if_neg (by assumption)]))); try rfl) d_M_keyed_28

set_option maxHeartbeats 4000000 in
set_option maxRecDepth 100000 in
theorem c_M_put (l : Launch) (D : va_G) (tk : Nat → ClassId) (sz : Nat) (h : Nat) (ad : Nat → Nat) (g : Nat → Nat → Int32) (la : Nat → Int64) (tl : va_W) (key v : Int32) : Met l y_M_put w_M_put ({ frames := 2, cells := 0, slots := 0, locals := 43 }) (va_Pc [.ref h, .int key, .int v] (k_pre D (TY tk) sz (wM tk h ad g la ++ tl))) (va_Qv (fun (_ : Unit) => True) (fun u t => k_at D (TY tk) (va_A (wM tk h ad g la ++ tl) sz) ((fun _ => wM tk h ad (putM g key v) la ++ tl) u) t) (va_A (wM tk h ad g la ++ tl) sz)) 0 0 (va_A (wM tk h ad g la ++ tl) sz) := by
  refine k_ofW (fun A => va_Qv (fun (_ : Unit) => True) (fun u t => k_at D (TY tk) A ((fun _ => wM tk h ad (putM g key v) la ++ tl) u) t) A) (by decide) (Nat.le_of_ble_eq_true rfl) ?_
  intro p e s m args below meth c Q A ls hQ hx hb hr hlk hin hts hT hown hml hnw hP hK hD hA hsz hl
  have hS : va_S A s.heap s.heap [] := va_S.rf
  have hc0 : 0 + 0 ≤ 0 ∧ 0 + 0 ≤ 0 := ⟨by decide, by decide⟩
  have hl : lv_has ls 3 [(0, .ref h), (1, .int key), (2, .int v)] := hl
  have hP : va_P D CC (wM tk h ad g la ++ tl) s.heap := hP
  have hK : va_K D CC (TY tk) s := hK
  refine lv_aload_n hx hb d_M_put_0 rfl (lv_at hl 0 rfl) ?_
  refine lv_aload_n hx hb d_M_put_1 rfl (lv_at hl 0 rfl) ?_
  refine lv_iload_n hx hb d_M_put_2 rfl (lv_at hl 1 rfl) ?_
  refine k_calli (va_runV (As := [.int key]) (rest := [.ref h]) ⟨hx, hb, hml, hown, hts⟩ (c_M_keyed l D tk s.heap.size h ad g la tl key ) (cwV 1 hts (gV t_1037 t_1039 s_15 t_9 t_1040) rfl rfl rfl (by decide +kernel) ⟨Nat.le_of_ble_eq_true rfl, Nat.le_of_ble_eq_true rfl⟩) (k_preV hP hK hD hnw 0 rfl rfl) rfl rfl hl.1 rfl (lv_room (Nat.le_of_ble_eq_true rfl)) d_M_put_3 hc0) hD hS hA (fun _ _ H locs hp3 hP hD hK hS => ?_)
  subst hp3
  have hP : va_P D CC (wM tk h ad g la ++ tl) H := hP
  have hD : va_D A (wM tk h ad g la ++ tl) := hD
  refine pf_M_73 hx hb hT hown hK hP hD hS 0 rfl (Nat.le_of_ble_eq_true rfl) d_M_put_6 (fun H locs hP hD hS => ?_)
  have hP : va_P D CC (wM tk h ad (mup g 0 0 (kyM g key)) la ++ tl) H := hP
  have hD : va_D A (wM tk h ad (mup g 0 0 (kyM g key)) la ++ tl) := hD
  refine lv_aload_n hx hb d_M_put_9 rfl (lv_at hl 0 rfl) ?_
  refine gf_M_73 (v := .int (kyM g key)) hx hb hT hown hK hP 0 rfl rfl d_M_put_10 ?_
  refine lv_if_eq hx hb d_M_put_13 (tgt := 17) (by decide) (fun hc13 => ?_) (fun hc13 => ?_)
  · skip
    obtain ⟨k, hk, rfl⟩ := kyM_0 hc13
    rw [hc13] at hP hD
    refine lv_aload_n hx hb d_M_put_17 rfl (lv_at hl 0 rfl) ?_
    refine gf_M_7 (v := .ref (ad 1)) hx hb hT hown hK hP 0 rfl rfl d_M_put_18 ?_
    refine lv_sipush (v := nI 768) hx hb d_M_put_21 (by decide) ?_
    refine lv_iload_n hx hb d_M_put_24 rfl (lv_at hl 1 rfl) ?_
    refine st_iadd hx hb d_M_put_25 ?_
    refine lv_iconst (v := nI 1) hx hb d_M_put_26 (by decide) ?_
    refine st_zast hx hb hK hP hD hS 1 1 rfl rfl (by decide) (by omega) (by decide) d_M_put_27 (fun H locs hP hD hS => ?_)
    have hP : va_P D CC (wM tk h ad (mup (mup g 0 0 0) 1 (768 + k) (nI 1)) la ++ tl) H := hP
    have hD : va_D A (wM tk h ad (mup (mup g 0 0 0) 1 (768 + k) (nI 1)) la ++ tl) := hD
    refine lv_aload_n hx hb d_M_put_28 rfl (lv_at hl 0 rfl) ?_
    refine gf_M_13 (v := .ref (ad 2)) hx hb hT hown hK hP 0 rfl rfl d_M_put_29 ?_
    refine lv_sipush (v := nI 768) hx hb d_M_put_32 (by decide) ?_
    refine lv_iload_n hx hb d_M_put_35 rfl (lv_at hl 1 rfl) ?_
    refine st_iadd hx hb d_M_put_36 ?_
    refine lv_iload_n hx hb d_M_put_37 rfl (lv_at hl 2 rfl) ?_
    refine st_iast hx hb hK hP hD hS 2 0 rfl rfl (by omega) (by decide) d_M_put_38 (fun H locs hP hD hS => ?_)
    have hP : va_P D CC (wM tk h ad (mup (mup (mup g 0 0 0) 1 (768 + k) (nI 1)) 2 (768 + k) v) la ++ tl) H := hP
    have hD : va_D A (wM tk h ad (mup (mup (mup g 0 0 0) 1 (768 + k) (nI 1)) 2 (768 + k) v) la ++ tl) := hD
    exact k_vret hQ hx hb hr hlk hK hP hD hS () (by unfold putM; (try rw [nI_clamp (by omega)]); (iterate 4 (try (first | rw [if_pos (by assumption)] | rw [if_neg (by assumption)]))); try rfl) trivial d_M_put_39
  · skip
    exact k_vret hQ hx hb hr hlk hK hP hD hS () (by unfold putM; (try rw [nI_clamp (by omega)]); (iterate 4 (try (first | rw [if_pos (by assumption)] | rw [if_neg (by assumption)]))); try rfl) trivial d_M_put_16

set_option maxHeartbeats 4000000 in
set_option maxRecDepth 100000 in
theorem c_M_delete (l : Launch) (D : va_G) (tk : Nat → ClassId) (sz : Nat) (h : Nat) (ad : Nat → Nat) (g : Nat → Nat → Int32) (la : Nat → Int64) (tl : va_W) (hz : bz (g 1)) (key : Int32) : Met l y_M_delete w_M_delete ({ frames := 2, cells := 0, slots := 0, locals := 43 }) (va_Pc [.ref h, .int key] (k_pre D (TY tk) sz (wM tk h ad g la ++ tl))) (va_Qi (fun (r : Int32) (_ : Unit) => r = if kyM g key = 0 then g 1 (768 + key.toNatClampNeg) else 0) (fun u t => k_at D (TY tk) (va_A (wM tk h ad g la ++ tl) sz) ((fun _ => wM tk h ad (delM g key) la ++ tl) u) t) (va_A (wM tk h ad g la ++ tl) sz)) 0 0 (va_A (wM tk h ad g la ++ tl) sz) := by
  refine k_ofW (fun A => va_Qi (fun (r : Int32) (_ : Unit) => r = if kyM g key = 0 then g 1 (768 + key.toNatClampNeg) else 0) (fun u t => k_at D (TY tk) A ((fun _ => wM tk h ad (delM g key) la ++ tl) u) t) A) (by decide) (Nat.le_of_ble_eq_true rfl) ?_
  intro p e s m args below meth c Q A ls hQ hx hb hr hlk hin hts hT hown hml hnw hP hK hD hA hsz hl
  have hS : va_S A s.heap s.heap [] := va_S.rf
  have hc0 : 0 + 0 ≤ 0 ∧ 0 + 0 ≤ 0 := ⟨by decide, by decide⟩
  have hl : lv_has ls 3 [(0, .ref h), (1, .int key)] := hl
  have hP : va_P D CC (wM tk h ad g la ++ tl) s.heap := hP
  have hK : va_K D CC (TY tk) s := hK
  refine lv_aload_n hx hb d_M_delete_0 rfl (lv_at hl 0 rfl) ?_
  refine lv_aload_n hx hb d_M_delete_1 rfl (lv_at hl 0 rfl) ?_
  refine lv_iload_n hx hb d_M_delete_2 rfl (lv_at hl 1 rfl) ?_
  refine k_calli (va_runV (As := [.int key]) (rest := [.ref h]) ⟨hx, hb, hml, hown, hts⟩ (c_M_keyed l D tk s.heap.size h ad g la tl key ) (cwV 1 hts (gV t_1037 t_1039 s_15 t_9 t_1040) rfl rfl rfl (by decide +kernel) ⟨Nat.le_of_ble_eq_true rfl, Nat.le_of_ble_eq_true rfl⟩) (k_preV hP hK hD hnw 0 rfl rfl) rfl rfl hl.1 rfl (lv_room (Nat.le_of_ble_eq_true rfl)) d_M_delete_3 hc0) hD hS hA (fun _ _ H locs hp3 hP hD hK hS => ?_)
  subst hp3
  have hP : va_P D CC (wM tk h ad g la ++ tl) H := hP
  have hD : va_D A (wM tk h ad g la ++ tl) := hD
  refine pf_M_73 hx hb hT hown hK hP hD hS 0 rfl (Nat.le_of_ble_eq_true rfl) d_M_delete_6 (fun H locs hP hD hS => ?_)
  have hP : va_P D CC (wM tk h ad (mup g 0 0 (kyM g key)) la ++ tl) H := hP
  have hD : va_D A (wM tk h ad (mup g 0 0 (kyM g key)) la ++ tl) := hD
  refine lv_aload_n hx hb d_M_delete_9 rfl (lv_at hl 0 rfl) ?_
  refine gf_M_73 (v := .int (kyM g key)) hx hb hT hown hK hP 0 rfl rfl d_M_delete_10 ?_
  refine lv_if_eq hx hb d_M_delete_13 (tgt := 18) (by decide) (fun hc13 => ?_) (fun hc13 => ?_)
  · skip
    obtain ⟨k, hk, rfl⟩ := kyM_0 hc13
    rw [hc13] at hP hD
    refine lv_aload_n hx hb d_M_delete_18 rfl (lv_at hl 0 rfl) ?_
    refine gf_M_7 (v := .ref (ad 1)) hx hb hT hown hK hP 0 rfl rfl d_M_delete_19 ?_
    refine lv_sipush (v := nI 768) hx hb d_M_delete_22 (by decide) ?_
    refine lv_iload_n hx hb d_M_delete_25 rfl (lv_at hl 1 rfl) ?_
    refine st_iadd hx hb d_M_delete_26 ?_
    refine st_zald hx hb hK hP 1 1 rfl rfl (by omega) (by decide) d_M_delete_27 ?_
    refine lv_istore_n (lv' := [(2, .int (g 1 (768 + k))), (0, .ref h), (1, .int (nI k))]) hx hb d_M_delete_28 rfl hl (by decide) rfl (fun ls hl => ?_)
    refine lv_aload_n hx hb d_M_delete_29 rfl (lv_at hl 1 rfl) ?_
    refine gf_M_7 (v := .ref (ad 1)) hx hb hT hown hK hP 0 rfl rfl d_M_delete_30 ?_
    refine lv_sipush (v := nI 768) hx hb d_M_delete_33 (by decide) ?_
    refine lv_iload_n hx hb d_M_delete_36 rfl (lv_at hl 2 rfl) ?_
    refine st_iadd hx hb d_M_delete_37 ?_
    refine lv_iconst (v := nI 0) hx hb d_M_delete_38 (by decide) ?_
    refine st_zast hx hb hK hP hD hS 1 1 rfl rfl (by decide) (by omega) (by decide) d_M_delete_39 (fun H locs hP hD hS => ?_)
    have hP : va_P D CC (wM tk h ad (mup (mup g 0 0 0) 1 (768 + k) (nI 0)) la ++ tl) H := hP
    have hD : va_D A (wM tk h ad (mup (mup g 0 0 0) 1 (768 + k) (nI 0)) la ++ tl) := hD
    refine lv_iload_n hx hb d_M_delete_40 rfl (lv_at hl 0 rfl) ?_
    exact k_zret (v := g 1 (768 + k)) hQ hx hb hr hlk hK hP hD hS () (by unfold delM; (try rw [nI_clamp (by omega)]); (iterate 4 (try (first | rw [if_pos (by assumption)] | rw [if_neg (by assumption)]))); try rfl) (by first | decide | (rcases hz (768 + k) with q | q <;> rw [q] <;> decide)) (by (try rw [nI_clamp (by omega)]); (iterate 4 (try (first | rw [if_pos (by assumption)] | rw [if_neg (by assumption)]))); try rfl) d_M_delete_41
  · skip
    refine lv_iconst (v := nI 0) hx hb d_M_delete_16 (by decide) ?_
    exact k_zret (v := nI 0) hQ hx hb hr hlk hK hP hD hS () (by unfold delM; (try rw [nI_clamp (by omega)]); (iterate 4 (try (first | rw [if_pos (by assumption)] | rw [if_neg (by assumption)]))); try rfl) (by first | decide | (rcases hz (768 + k) with q | q <;> rw [q] <;> decide)) (by (try rw [nI_clamp (by omega)]); (iterate 4 (try (first | rw [if_pos (by assumption)] | rw [if_neg (by assumption)]))); try rfl) d_M_delete_17

set_option maxHeartbeats 4000000 in
set_option maxRecDepth 100000 in
theorem c_M_copy (l : Launch) (D : va_G) (tk : Nat → ClassId) (sz : Nat) (h : Nat) (ad : Nat → Nat) (g : Nat → Nat → Int32) (la : Nat → Int64) (tl : va_W) (f d : Nat) (hf : f ≤ 16) (ht : d ≤ 16) (hft : f ≠ d) (hz : bz (g 1)) : Met l y_M_copy w_M_copy ({ frames := 0, cells := 0, slots := 0, locals := 0 }) (va_Pc [.ref h, .int (nI f), .int (nI d)] (k_pre D (TY tk) sz (wM tk h ad g la ++ tl))) (va_Qv (fun (_ : Unit) => True) (fun u t => k_at D (TY tk) (va_A (wM tk h ad g la ++ tl) sz) ((fun _ => wM tk h ad (cpK g f d 48) la ++ tl) u) t) (va_A (wM tk h ad g la ++ tl) sz)) 0 0 (va_A (wM tk h ad g la ++ tl) sz) := by
  refine k_ofW (fun A => va_Qv (fun (_ : Unit) => True) (fun u t => k_at D (TY tk) A ((fun _ => wM tk h ad (cpK g f d 48) la ++ tl) u) t) A) (by decide) (Nat.le_of_ble_eq_true rfl) ?_
  intro p e s m args below meth c Q A ls hQ hx hb hr hlk hin hts hT hown hml hnw hP hK hD hA hsz hl
  have hS : va_S A s.heap s.heap [] := va_S.rf
  have hc0 : 0 + 0 ≤ 0 ∧ 0 + 0 ≤ 0 := ⟨by decide, by decide⟩
  have hl : lv_has ls 4 [(0, .ref h), (1, .int (nI f)), (2, .int (nI d))] := hl
  have hP : va_P D CC (wM tk h ad g la ++ tl) s.heap := hP
  have hK : va_K D CC (TY tk) s := hK
  refine lv_iconst (v := nI 0) hx hb d_M_copy_0 (by decide) ?_
  refine lv_istore_n (lv' := [(3, .int (nI 0)), (0, .ref h), (1, .int (nI f)), (2, .int (nI d))]) hx hb d_M_copy_1 rfl hl (by decide) rfl (fun ls hl => ?_)
  have hP : va_P D CC (wM tk h ad (cpK g f d 0) la ++ tl) s.heap := by rw [cpK_0]; exact hP
  have hD : va_D A (wM tk h ad (cpK g f d 0) la ++ tl) := by rw [cpK_0]; exact hD
  have key2 : ∀ (n2 : Nat) (k : Nat) (ls : Array Slot) (H : Heap) (locs : List Loc), 48 - k < n2 → (k ≤ 48) → lv_has ls 4 [(0, .ref h), (1, .int (nI f)), (2, .int (nI d)), (3, .int (nI k))] → va_P D CC (wM tk h ad (cpK g f d k) la ++ tl) H → va_D A (wM tk h ad (cpK g f d k) la ++ tl) → va_S A s.heap H locs → W p l e ({ frames := 0, cells := 0, slots := 0, locals := 0 } : Room) s m args below meth c H locs 0 0 Q (F0 m 2 ls []) := by
    intro n2
    induction n2 with
    | zero => intro k ls H locs hn; exact absurd hn (Nat.not_lt_zero _)
    | succ n2 ih2 =>
      intro k ls H locs hn2 hk hl hP hD hS
      refine lv_iload_n hx hb d_M_copy_2 rfl (lv_at hl 3 rfl) ?_
      refine lv_bipush (v := nI 48) hx hb d_M_copy_3 (by decide) ?_
      refine st_icmp_ge hx hb (by omega) (by omega) d_M_copy_5 (tgt := 58) (by decide) (fun hc5 => ?_) (fun hc5 => ?_)
      · skip
        exact k_vret hQ hx hb hr hlk hK hP hD hS () ((show k = 48 by omega) ▸ rfl) trivial d_M_copy_58
      · skip
        refine lv_aload_n hx hb d_M_copy_8 rfl (lv_at hl 0 rfl) ?_
        refine gf_M_7 (v := .ref (ad 1)) hx hb hT hown hK hP 0 rfl rfl d_M_copy_9 ?_
        refine lv_bipush (v := nI 48) hx hb d_M_copy_12 (by decide) ?_
        refine lv_iload_n hx hb d_M_copy_14 rfl (lv_at hl 2 rfl) ?_
        refine st_imul hx hb d_M_copy_15 ?_
        refine lv_iload_n hx hb d_M_copy_16 rfl (lv_at hl 3 rfl) ?_
        refine st_iadd hx hb d_M_copy_17 ?_
        refine lv_aload_n hx hb d_M_copy_18 rfl (lv_at hl 0 rfl) ?_
        refine gf_M_7 (v := .ref (ad 1)) hx hb hT hown hK hP 0 rfl rfl d_M_copy_19 ?_
        refine lv_bipush (v := nI 48) hx hb d_M_copy_22 (by decide) ?_
        refine lv_iload_n hx hb d_M_copy_24 rfl (lv_at hl 1 rfl) ?_
        refine st_imul hx hb d_M_copy_25 ?_
        refine lv_iload_n hx hb d_M_copy_26 rfl (lv_at hl 3 rfl) ?_
        refine st_iadd hx hb d_M_copy_27 ?_
        refine st_zald hx hb hK hP 1 1 rfl rfl (by omega) (by decide) d_M_copy_28 ?_
        refine st_zast hx hb hK hP hD hS 1 1 rfl rfl (bz_n (cpK_z hz f d k) _) (by omega) (by decide) d_M_copy_29 (fun H locs hP hD hS => ?_)
        have hP : va_P D CC (wM tk h ad (mup (cpK g f d k) 1 ((48 * d) + k) ((cpK g f d k) 1 ((48 * f) + k))) la ++ tl) H := hP
        have hD : va_D A (wM tk h ad (mup (cpK g f d k) 1 ((48 * d) + k) ((cpK g f d k) 1 ((48 * f) + k))) la ++ tl) := hD
        refine lv_aload_n hx hb d_M_copy_30 rfl (lv_at hl 0 rfl) ?_
        refine gf_M_13 (v := .ref (ad 2)) hx hb hT hown hK hP 0 rfl rfl d_M_copy_31 ?_
        refine lv_bipush (v := nI 48) hx hb d_M_copy_34 (by decide) ?_
        refine lv_iload_n hx hb d_M_copy_36 rfl (lv_at hl 2 rfl) ?_
        refine st_imul hx hb d_M_copy_37 ?_
        refine lv_iload_n hx hb d_M_copy_38 rfl (lv_at hl 3 rfl) ?_
        refine st_iadd hx hb d_M_copy_39 ?_
        refine lv_aload_n hx hb d_M_copy_40 rfl (lv_at hl 0 rfl) ?_
        refine gf_M_13 (v := .ref (ad 2)) hx hb hT hown hK hP 0 rfl rfl d_M_copy_41 ?_
        refine lv_bipush (v := nI 48) hx hb d_M_copy_44 (by decide) ?_
        refine lv_iload_n hx hb d_M_copy_46 rfl (lv_at hl 1 rfl) ?_
        refine st_imul hx hb d_M_copy_47 ?_
        refine lv_iload_n hx hb d_M_copy_48 rfl (lv_at hl 3 rfl) ?_
        refine st_iadd hx hb d_M_copy_49 ?_
        refine st_iald hx hb hK hP 2 0 rfl rfl (by omega) (by decide) d_M_copy_50 ?_
        refine st_iast hx hb hK hP hD hS 2 0 rfl rfl (by omega) (by decide) d_M_copy_51 (fun H locs hP hD hS => ?_)
        have hP : va_P D CC (wM tk h ad (mup (mup (cpK g f d k) 1 ((48 * d) + k) ((cpK g f d k) 1 ((48 * f) + k))) 2 ((48 * d) + k) ((cpK g f d k) 2 ((48 * f) + k))) la ++ tl) H := hP
        have hD : va_D A (wM tk h ad (mup (mup (cpK g f d k) 1 ((48 * d) + k) ((cpK g f d k) 1 ((48 * f) + k))) 2 ((48 * d) + k) ((cpK g f d k) 2 ((48 * f) + k))) la ++ tl) := hD
        refine lv_iinc (k := 3) (v := nI (k + 1)) (lv' := [(3, .int (nI (k + 1))), (0, .ref h), (1, .int (nI f)), (2, .int (nI d))]) hx hb d_M_copy_52 hl rfl (nI_add _ _) (by decide) rfl (fun ls hl => ?_)
        refine lv_goto hx hb d_M_copy_55 (tgt := 2) (by decide) ?_
        rw [cpK_step g hft (by omega)] at hP hD
        exact ih2 (k + 1) ls _ _ (by first | omega | simp_all) (by omega) (lv_sub hl [1, 2, 3, 0] rfl) hP hD hS
  exact key2 _ 0 ls _ _ (Nat.lt_succ_self _) (by omega) (lv_sub hl [1, 2, 3, 0] rfl) hP hD hS
end
section
theorem mup_mup (g : Nat → Nat → Int32) (a i : Nat) (v w : Int32) : mup (mup g a i v) a i w = mup g a i w := by
  funext x j
  by_cases h : x = a
  · subst h
    rw [mup_eq, mup_eq, mup_eq]
    unfold upd
    split <;> rfl
  · rw [mup_ne h, mup_ne h, mup_ne h]
def ivM (g : Nat → Nat → Int32) (v : Int32) : Int32 := if v < nI 0 ∨ g 3 0 - nI 1 < v then nI 0 else nI 1
def wrZ (f : Nat) : Int32 := if (wr f).1 = true then nI 1 else nI 0
def itM (g : Nat → Nat → Int32) (lv n k : Nat) (v : Int32) : Nat → Nat → Int32 := mup (mup (mup g 13 (48 * lv + n) (nI k)) 14 (48 * lv + n) v) 12 lv (nI (n + 1))
def chE (lv mp : Nat) (low : Int32) (hi : Nat) : Int32 := ((nI lv ||| (nI mp <<< (nI 3 &&& 31))) ||| ((low + nI 1) <<< (nI 12 &&& 31))) ||| (nI hi <<< (nI 18 &&& 31))
def ouM (g : Nat → Nat → Int32) (n : Nat) (b : Int32) : Nat → Nat → Int32 := mup (mup g 22 n (b &&& nI 255)) 21 0 (nI (n + 1))
def oiM (g : Nat → Nat → Int32) (n : Nat) (v : Int32) : Nat → Nat → Int32 := ouM (ouM (ouM (ouM g n (v >>> (nI 24 &&& 31))) (n + 1) (v >>> (nI 16 &&& 31))) (n + 1 + 1) (v >>> (nI 8 &&& 31))) (n + 1 + 1 + 1) (v >>> (nI 0 &&& 31))
def sdM (g : Nat → Nat → Int32) (b f k : Nat) (z : Int32) : Nat → Nat → Int32 := mup (mup (mup (mup g 18 b (nI f)) 19 b (nI k)) 20 b z) 17 0 (nI (b + 1))

set_option maxHeartbeats 4000000 in
set_option maxRecDepth 100000 in
theorem c_M_isVersion (l : Launch) (D : va_G) (tk : Nat → ClassId) (sz : Nat) (h : Nat) (ad : Nat → Nat) (g : Nat → Nat → Int32) (la : Nat → Int64) (tl : va_W) (v : Int32) : Met l y_M_isVersion w_M_isVersion ({ frames := 1, cells := 0, slots := 0, locals := 22 }) (va_Pc [.ref h, .int v] (k_pre D (TY tk) sz (wM tk h ad g la ++ tl))) (va_Qi (fun (r : Int32) (_ : Unit) => r = ivM g v) (fun u t => k_at D (TY tk) (va_A (wM tk h ad g la ++ tl) sz) ((fun _ => wM tk h ad g la ++ tl) u) t) (va_A (wM tk h ad g la ++ tl) sz)) 0 0 (va_A (wM tk h ad g la ++ tl) sz) := by
  refine k_ofW (fun A => va_Qi (fun (r : Int32) (_ : Unit) => r = ivM g v) (fun u t => k_at D (TY tk) A ((fun _ => wM tk h ad g la ++ tl) u) t) A) (by decide) (Nat.le_of_ble_eq_true rfl) ?_
  intro p e s m args below meth c Q A ls hQ hx hb hr hlk hin hts hT hown hml hnw hP hK hD hA hsz hl
  have hS : va_S A s.heap s.heap [] := va_S.rf
  have hc0 : 0 + 0 ≤ 0 ∧ 0 + 0 ≤ 0 := ⟨by decide, by decide⟩
  have hl : lv_has ls 2 [(0, .ref h), (1, .int v)] := hl
  have hP : va_P D CC (wM tk h ad g la ++ tl) s.heap := hP
  have hK : va_K D CC (TY tk) s := hK
  refine lv_iload_n hx hb d_M_isVersion_0 rfl (lv_at hl 1 rfl) ?_
  refine lv_iconst (v := nI 0) hx hb d_M_isVersion_1 (by decide) ?_
  refine lv_aload_n hx hb d_M_isVersion_2 rfl (lv_at hl 0 rfl) ?_
  refine gf_M_69 (v := .int (g 3 0)) hx hb hT hown hK hP 0 rfl rfl d_M_isVersion_3 ?_
  refine lv_iconst (v := nI 1) hx hb d_M_isVersion_6 (by decide) ?_
  refine lv_isub hx hb d_M_isVersion_7 ?_
  refine k_calli (va_runS (As := [.int v, .int (nI 0), .int ((g 3 0) - (nI 1))]) (rest := []) ⟨hx, hb, hml, hown, hts⟩ (c_M_outside l D tk s.heap.size v (nI 0) ((g 3 0) - (nI 1)) (wM tk h ad g la ++ tl)) (cwS 3 hts (gS t_1041 t_1042 t_9 t_1043) rfl rfl rfl (by decide +kernel) ⟨Nat.le_of_ble_eq_true rfl, Nat.le_of_ble_eq_true rfl⟩) (k_preS hP hK hD hnw) rfl rfl hl.1 rfl (lv_room (Nat.le_of_ble_eq_true rfl)) d_M_isVersion_8 hc0) hD hS hA (fun _ _ H locs hp8 hP hD hK hS => ?_)
  subst hp8
  have hP : va_P D CC (wM tk h ad g la ++ tl) H := hP
  have hD : va_D A (wM tk h ad g la ++ tl) := hD
  refine lv_if_ne hx hb d_M_isVersion_11 (tgt := 18) (by decide) (fun hc11 => ?_) (fun hc11 => ?_)
  · skip
    have hn : v < nI 0 ∨ g 3 0 - nI 1 < v := Classical.byContradiction (fun q => hc11 (by rw [if_neg q]))
    refine lv_iconst (v := nI 0) hx hb d_M_isVersion_18 (by decide) ?_
    exact k_zret (v := nI 0) hQ hx hb hr hlk hK hP hD hS () rfl (by decide) (by unfold ivM; (iterate 4 (try (first | rw [if_pos (by assumption)] | rw [if_neg (by assumption)]))); try rfl) d_M_isVersion_19
  · skip
    have hn : ¬ (v < nI 0 ∨ g 3 0 - nI 1 < v) := fun q => by rw [if_pos q] at hc11; exact absurd hc11 (by decide)
    refine lv_iconst (v := nI 1) hx hb d_M_isVersion_14 (by decide) ?_
    refine lv_goto hx hb d_M_isVersion_15 (tgt := 19) (by decide) ?_
    exact k_zret (v := nI 1) hQ hx hb hr hlk hK hP hD hS () rfl (by decide) (by unfold ivM; (iterate 4 (try (first | rw [if_pos (by assumption)] | rw [if_neg (by assumption)]))); try rfl) d_M_isVersion_19

set_option maxHeartbeats 4000000 in
set_option maxRecDepth 100000 in
theorem c_M_rollback (l : Launch) (D : va_G) (tk : Nat → ClassId) (sz : Nat) (h : Nat) (ad : Nat → Nat) (g : Nat → Nat → Int32) (la : Nat → Int64) (tl : va_W) (V : Nat) (hV1 : 1 ≤ V) (hV2 : V ≤ 16) (hV : g 3 0 = nI V) (hz : bz (g 1)) : Met l y_M_rollback w_M_rollback ({ frames := 1, cells := 0, slots := 0, locals := 23 }) (va_Pc [.ref h] (k_pre D (TY tk) sz (wM tk h ad g la ++ tl))) (va_Qv (fun (_ : Unit) => True) (fun u t => k_at D (TY tk) (va_A (wM tk h ad g la ++ tl) sz) ((fun _ => wM tk h ad (cpK (mup g 0 0 (nI 0)) (V - 1) 16 48) la ++ tl) u) t) (va_A (wM tk h ad g la ++ tl) sz)) 0 0 (va_A (wM tk h ad g la ++ tl) sz) := by
  refine k_ofW (fun A => va_Qv (fun (_ : Unit) => True) (fun u t => k_at D (TY tk) A ((fun _ => wM tk h ad (cpK (mup g 0 0 (nI 0)) (V - 1) 16 48) la ++ tl) u) t) A) (by decide) (Nat.le_of_ble_eq_true rfl) ?_
  intro p e s m args below meth c Q A ls hQ hx hb hr hlk hin hts hT hown hml hnw hP hK hD hA hsz hl
  have hS : va_S A s.heap s.heap [] := va_S.rf
  have hc0 : 0 + 0 ≤ 0 ∧ 0 + 0 ≤ 0 := ⟨by decide, by decide⟩
  have hl : lv_has ls 1 [(0, .ref h)] := hl
  have hP : va_P D CC (wM tk h ad g la ++ tl) s.heap := hP
  have hK : va_K D CC (TY tk) s := hK
  refine lv_aload_n hx hb d_M_rollback_0 rfl (lv_at hl 0 rfl) ?_
  refine lv_iconst (v := nI 0) hx hb d_M_rollback_1 (by decide) ?_
  refine pf_M_73 hx hb hT hown hK hP hD hS 0 rfl (Nat.le_of_ble_eq_true rfl) d_M_rollback_2 (fun H locs hP hD hS => ?_)
  have hP : va_P D CC (wM tk h ad (mup g 0 0 (nI 0)) la ++ tl) H := hP
  have hD : va_D A (wM tk h ad (mup g 0 0 (nI 0)) la ++ tl) := hD
  refine lv_aload_n hx hb d_M_rollback_5 rfl (lv_at hl 0 rfl) ?_
  refine lv_aload_n hx hb d_M_rollback_6 rfl (lv_at hl 0 rfl) ?_
  refine gf_M_69 (v := .int (g 3 0)) hx hb hT hown hK hP 0 rfl rfl d_M_rollback_7 ?_
  refine st_top (show g 3 0 = nI V from hV) ?_
  refine lv_iconst (v := nI 1) hx hb d_M_rollback_10 (by decide) ?_
  refine st_isub hx hb (by omega) d_M_rollback_11 ?_
  refine lv_bipush (v := nI 16) hx hb d_M_rollback_12 (by decide) ?_
  refine k_callv (va_runV (As := [.int (nI (V - 1)), .int (nI 16)]) (rest := []) ⟨hx, hb, hml, hown, hts⟩ (c_M_copy l D tk H.size h ad (mup g 0 0 (nI 0)) la tl (V - 1) 16 (by omega) (by omega) (by omega) hz) (cwV 2 hts (gV t_1052 t_1054 s_16 t_9 t_1055) rfl rfl rfl (by decide +kernel) ⟨Nat.le_of_ble_eq_true rfl, Nat.le_of_ble_eq_true rfl⟩) (k_preV hP hK hD hnw 0 rfl rfl) rfl rfl hl.1 rfl (lv_room (Nat.le_of_ble_eq_true rfl)) d_M_rollback_14 hc0) hD hS hA (fun _ H locs hp14 hP hD hK hS => ?_)
  have hP : va_P D CC (wM tk h ad (cpK (mup g 0 0 (nI 0)) (V - 1) 16 48) la ++ tl) H := hP
  have hD : va_D A (wM tk h ad (cpK (mup g 0 0 (nI 0)) (V - 1) 16 48) la ++ tl) := hD
  exact k_vret hQ hx hb hr hlk hK hP hD hS () rfl trivial d_M_rollback_17

set_option maxHeartbeats 4000000 in
set_option maxRecDepth 100000 in
theorem c_M_writes (l : Launch) (D : va_G) (tk : Nat → ClassId) (sz : Nat) (h : Nat) (ad : Nat → Nat) (g : Nat → Nat → Int32) (la : Nat → Int64) (tl : va_W) (f : Nat) (hf : f ≤ 40) (hg : g 5 0 = nI f) : Met l y_M_writes w_M_writes ({ frames := 0, cells := 0, slots := 0, locals := 0 }) (va_Pc [.ref h] (k_pre D (TY tk) sz (wM tk h ad g la ++ tl))) (va_Qi (fun (r : Int32) (_ : Unit) => r = wrZ f) (fun u t => k_at D (TY tk) (va_A (wM tk h ad g la ++ tl) sz) ((fun _ => wM tk h ad (mup g 5 0 (nI (wr f).2)) la ++ tl) u) t) (va_A (wM tk h ad g la ++ tl) sz)) 0 0 (va_A (wM tk h ad g la ++ tl) sz) := by
  refine k_ofW (fun A => va_Qi (fun (r : Int32) (_ : Unit) => r = wrZ f) (fun u t => k_at D (TY tk) A ((fun _ => wM tk h ad (mup g 5 0 (nI (wr f).2)) la ++ tl) u) t) A) (by decide) (Nat.le_of_ble_eq_true rfl) ?_
  intro p e s m args below meth c Q A ls hQ hx hb hr hlk hin hts hT hown hml hnw hP hK hD hA hsz hl
  have hS : va_S A s.heap s.heap [] := va_S.rf
  have hc0 : 0 + 0 ≤ 0 ∧ 0 + 0 ≤ 0 := ⟨by decide, by decide⟩
  have hl : lv_has ls 2 [(0, .ref h)] := hl
  have hP : va_P D CC (wM tk h ad g la ++ tl) s.heap := hP
  have hK : va_K D CC (TY tk) s := hK
  refine lv_aload_n hx hb d_M_writes_0 rfl (lv_at hl 0 rfl) ?_
  refine lv_aload_n hx hb d_M_writes_1 rfl (lv_at hl 0 rfl) ?_
  refine gf_M_114 (v := .int (g 5 0)) hx hb hT hown hK hP 0 rfl rfl d_M_writes_2 ?_
  refine st_top (show g 5 0 = nI f from hg) ?_
  refine st_if_le hx hb (by omega) d_M_writes_5 (tgt := 17) (by decide) (fun hc5 => ?_) (fun hc5 => ?_)
  · skip
    refine lv_iconst (v := -1) hx hb d_M_writes_17 (by decide) ?_
    refine pf_M_114 hx hb hT hown hK hP hD hS 0 rfl (Nat.le_of_ble_eq_true rfl) d_M_writes_18 (fun H locs hP hD hS => ?_)
    have hP : va_P D CC (wM tk h ad (mup g 5 0 (-1)) la ++ tl) H := hP
    have hD : va_D A (wM tk h ad (mup g 5 0 (-1)) la ++ tl) := hD
    refine lv_aload_n hx hb d_M_writes_21 rfl (lv_at hl 0 rfl) ?_
    refine gf_M_114 (v := .int (-1)) hx hb hT hown hK hP 0 rfl rfl d_M_writes_22 ?_
    refine lv_if_eq hx hb d_M_writes_25 (tgt := 32) (by decide) (fun hc25 => absurd hc25 (by decide)) (fun hc25 => ?_)
    refine lv_iconst (v := nI 1) hx hb d_M_writes_28 (by decide) ?_
    refine lv_goto hx hb d_M_writes_29 (tgt := 33) (by decide) ?_
    refine lv_istore_n (lv' := [(1, .int (nI 1)), (0, .ref h)]) hx hb d_M_writes_33 rfl hl (by decide) rfl (fun ls hl => ?_)
    refine lv_aload_n hx hb d_M_writes_34 rfl (lv_at hl 1 rfl) ?_
    refine lv_aload_n hx hb d_M_writes_35 rfl (lv_at hl 1 rfl) ?_
    refine gf_M_114 (v := .int (-1)) hx hb hT hown hK hP 0 rfl rfl d_M_writes_36 ?_
    refine lv_iconst (v := nI 1) hx hb d_M_writes_39 (by decide) ?_
    refine lv_icmp_ge hx hb d_M_writes_40 (tgt := 47) (by decide) (fun hc40 => absurd hc40 (by decide)) (fun hc40 => ?_)
    refine lv_iconst (v := nI 0) hx hb d_M_writes_43 (by decide) ?_
    refine lv_goto hx hb d_M_writes_44 (tgt := 51) (by decide) ?_
    refine pf_M_114 hx hb hT hown hK hP hD hS 0 rfl (Nat.le_of_ble_eq_true rfl) d_M_writes_51 (fun H locs hP hD hS => ?_)
    have hP : va_P D CC (wM tk h ad (mup (mup g 5 0 (-1)) 5 0 (nI 0)) la ++ tl) H := hP
    have hD : va_D A (wM tk h ad (mup (mup g 5 0 (-1)) 5 0 (nI 0)) la ++ tl) := hD
    refine lv_iload_n hx hb d_M_writes_54 rfl (lv_at hl 0 rfl) ?_
    exact k_zret (v := nI 1) hQ hx hb hr hlk hK hP hD hS () (by rw [mup_mup, show nI (wr f).2 = nI 0 from congrArg nI (by unfold wr; split <;> simp <;> omega)]) (by decide) (by unfold wrZ; rw [if_pos (by unfold wr; split <;> simp <;> omega)]) d_M_writes_55
  · skip
    refine lv_aload_n hx hb d_M_writes_8 rfl (lv_at hl 0 rfl) ?_
    refine gf_M_114 (v := .int (g 5 0)) hx hb hT hown hK hP 0 rfl rfl d_M_writes_9 ?_
    refine st_top (show g 5 0 = nI f from hg) ?_
    refine lv_iconst (v := nI 1) hx hb d_M_writes_12 (by decide) ?_
    refine st_isub hx hb (by omega) d_M_writes_13 ?_
    refine lv_goto hx hb d_M_writes_14 (tgt := 18) (by decide) ?_
    refine pf_M_114 hx hb hT hown hK hP hD hS 0 rfl (Nat.le_of_ble_eq_true rfl) d_M_writes_18 (fun H locs hP hD hS => ?_)
    have hP : va_P D CC (wM tk h ad (mup g 5 0 (nI (f - 1))) la ++ tl) H := hP
    have hD : va_D A (wM tk h ad (mup g 5 0 (nI (f - 1))) la ++ tl) := hD
    refine lv_aload_n hx hb d_M_writes_21 rfl (lv_at hl 0 rfl) ?_
    refine gf_M_114 (v := .int (nI (f - 1))) hx hb hT hown hK hP 0 rfl rfl d_M_writes_22 ?_
    refine st_if_eq hx hb (by omega) d_M_writes_25 (tgt := 32) (by decide) (fun hc25 => ?_) (fun hc25 => ?_)
    · skip
      refine lv_iconst (v := nI 0) hx hb d_M_writes_32 (by decide) ?_
      refine lv_istore_n (lv' := [(1, .int (nI 0)), (0, .ref h)]) hx hb d_M_writes_33 rfl hl (by decide) rfl (fun ls hl => ?_)
      refine lv_aload_n hx hb d_M_writes_34 rfl (lv_at hl 1 rfl) ?_
      refine lv_aload_n hx hb d_M_writes_35 rfl (lv_at hl 1 rfl) ?_
      refine gf_M_114 (v := .int (nI (f - 1))) hx hb hT hown hK hP 0 rfl rfl d_M_writes_36 ?_
      refine lv_iconst (v := nI 1) hx hb d_M_writes_39 (by decide) ?_
      refine st_icmp_ge hx hb (by omega) (by omega) d_M_writes_40 (tgt := 47) (by decide) (fun hc40 => ?_) (fun hc40 => ?_)
      · skip
        refine lv_aload_n hx hb d_M_writes_47 rfl (lv_at hl 1 rfl) ?_
        refine gf_M_114 (v := .int (nI (f - 1))) hx hb hT hown hK hP 0 rfl rfl d_M_writes_48 ?_
        refine pf_M_114 hx hb hT hown hK hP hD hS 0 rfl (Nat.le_of_ble_eq_true rfl) d_M_writes_51 (fun H locs hP hD hS => ?_)
        have hP : va_P D CC (wM tk h ad (mup (mup g 5 0 (nI (f - 1))) 5 0 (nI (f - 1))) la ++ tl) H := hP
        have hD : va_D A (wM tk h ad (mup (mup g 5 0 (nI (f - 1))) 5 0 (nI (f - 1))) la ++ tl) := hD
        refine lv_iload_n hx hb d_M_writes_54 rfl (lv_at hl 0 rfl) ?_
        exact k_zret (v := nI 0) hQ hx hb hr hlk hK hP hD hS () (by rw [mup_mup, show nI (wr f).2 = nI (f - 1) from congrArg nI (by unfold wr; split <;> simp <;> omega)]) (by decide) (by unfold wrZ; rw [if_neg (by unfold wr; split <;> simp <;> omega)]) d_M_writes_55
      · skip
        refine lv_iconst (v := nI 0) hx hb d_M_writes_43 (by decide) ?_
        refine lv_goto hx hb d_M_writes_44 (tgt := 51) (by decide) ?_
        refine pf_M_114 hx hb hT hown hK hP hD hS 0 rfl (Nat.le_of_ble_eq_true rfl) d_M_writes_51 (fun H locs hP hD hS => ?_)
        have hP : va_P D CC (wM tk h ad (mup (mup g 5 0 (nI (f - 1))) 5 0 (nI 0)) la ++ tl) H := hP
        have hD : va_D A (wM tk h ad (mup (mup g 5 0 (nI (f - 1))) 5 0 (nI 0)) la ++ tl) := hD
        refine lv_iload_n hx hb d_M_writes_54 rfl (lv_at hl 0 rfl) ?_
        exact k_zret (v := nI 0) hQ hx hb hr hlk hK hP hD hS () (by rw [mup_mup, show nI (wr f).2 = nI 0 from congrArg nI (by unfold wr; split <;> simp <;> omega)]) (by decide) (by unfold wrZ; rw [if_neg (by unfold wr; split <;> simp <;> omega)]) d_M_writes_55
    · skip
      refine lv_iconst (v := nI 1) hx hb d_M_writes_28 (by decide) ?_
      refine lv_goto hx hb d_M_writes_29 (tgt := 33) (by decide) ?_
      refine lv_istore_n (lv' := [(1, .int (nI 1)), (0, .ref h)]) hx hb d_M_writes_33 rfl hl (by decide) rfl (fun ls hl => ?_)
      refine lv_aload_n hx hb d_M_writes_34 rfl (lv_at hl 1 rfl) ?_
      refine lv_aload_n hx hb d_M_writes_35 rfl (lv_at hl 1 rfl) ?_
      refine gf_M_114 (v := .int (nI (f - 1))) hx hb hT hown hK hP 0 rfl rfl d_M_writes_36 ?_
      refine lv_iconst (v := nI 1) hx hb d_M_writes_39 (by decide) ?_
      refine st_icmp_ge hx hb (by omega) (by omega) d_M_writes_40 (tgt := 47) (by decide) (fun hc40 => ?_) (fun hc40 => ?_)
      · skip
        refine lv_aload_n hx hb d_M_writes_47 rfl (lv_at hl 1 rfl) ?_
        refine gf_M_114 (v := .int (nI (f - 1))) hx hb hT hown hK hP 0 rfl rfl d_M_writes_48 ?_
        refine pf_M_114 hx hb hT hown hK hP hD hS 0 rfl (Nat.le_of_ble_eq_true rfl) d_M_writes_51 (fun H locs hP hD hS => ?_)
        have hP : va_P D CC (wM tk h ad (mup (mup g 5 0 (nI (f - 1))) 5 0 (nI (f - 1))) la ++ tl) H := hP
        have hD : va_D A (wM tk h ad (mup (mup g 5 0 (nI (f - 1))) 5 0 (nI (f - 1))) la ++ tl) := hD
        refine lv_iload_n hx hb d_M_writes_54 rfl (lv_at hl 0 rfl) ?_
        exact k_zret (v := nI 1) hQ hx hb hr hlk hK hP hD hS () (by rw [mup_mup, show nI (wr f).2 = nI (f - 1) from congrArg nI (by unfold wr; split <;> simp <;> omega)]) (by decide) (by unfold wrZ; rw [if_pos (by unfold wr; split <;> simp <;> omega)]) d_M_writes_55
      · skip
        refine lv_iconst (v := nI 0) hx hb d_M_writes_43 (by decide) ?_
        refine lv_goto hx hb d_M_writes_44 (tgt := 51) (by decide) ?_
        refine pf_M_114 hx hb hT hown hK hP hD hS 0 rfl (Nat.le_of_ble_eq_true rfl) d_M_writes_51 (fun H locs hP hD hS => ?_)
        have hP : va_P D CC (wM tk h ad (mup (mup g 5 0 (nI (f - 1))) 5 0 (nI 0)) la ++ tl) H := hP
        have hD : va_D A (wM tk h ad (mup (mup g 5 0 (nI (f - 1))) 5 0 (nI 0)) la ++ tl) := hD
        refine lv_iload_n hx hb d_M_writes_54 rfl (lv_at hl 0 rfl) ?_
        exact k_zret (v := nI 1) hQ hx hb hr hlk hK hP hD hS () (by rw [mup_mup, show nI (wr f).2 = nI 0 from congrArg nI (by unfold wr; split <;> simp <;> omega)]) (by decide) (by unfold wrZ; rw [if_pos (by unfold wr; split <;> simp <;> omega)]) d_M_writes_55

set_option maxHeartbeats 4000000 in
set_option maxRecDepth 100000 in
theorem c_M_chunks (l : Launch) (D : va_G) (tk : Nat → ClassId) (sz : Nat) (h : Nat) (ad : Nat → Nat) (g : Nat → Nat → Int32) (la : Nat → Int64) (tl : va_W)  : Met l y_M_chunks w_M_chunks ({ frames := 0, cells := 0, slots := 0, locals := 0 }) (va_Pc [.ref h] (k_pre D (TY tk) sz (wM tk h ad g la ++ tl))) (va_Qi (fun (r : Int32) (_ : Unit) => r = g 6 0) (fun u t => k_at D (TY tk) (va_A (wM tk h ad g la ++ tl) sz) ((fun _ => wM tk h ad (mup g 0 0 (nI 0)) la ++ tl) u) t) (va_A (wM tk h ad g la ++ tl) sz)) 0 0 (va_A (wM tk h ad g la ++ tl) sz) := by
  refine k_ofW (fun A => va_Qi (fun (r : Int32) (_ : Unit) => r = g 6 0) (fun u t => k_at D (TY tk) A ((fun _ => wM tk h ad (mup g 0 0 (nI 0)) la ++ tl) u) t) A) (by decide) (Nat.le_of_ble_eq_true rfl) ?_
  intro p e s m args below meth c Q A ls hQ hx hb hr hlk hin hts hT hown hml hnw hP hK hD hA hsz hl
  have hS : va_S A s.heap s.heap [] := va_S.rf
  have hc0 : 0 + 0 ≤ 0 ∧ 0 + 0 ≤ 0 := ⟨by decide, by decide⟩
  have hl : lv_has ls 1 [(0, .ref h)] := hl
  have hP : va_P D CC (wM tk h ad g la ++ tl) s.heap := hP
  have hK : va_K D CC (TY tk) s := hK
  refine lv_aload_n hx hb d_M_chunks_0 rfl (lv_at hl 0 rfl) ?_
  refine lv_iconst (v := nI 0) hx hb d_M_chunks_1 (by decide) ?_
  refine pf_M_73 hx hb hT hown hK hP hD hS 0 rfl (Nat.le_of_ble_eq_true rfl) d_M_chunks_2 (fun H locs hP hD hS => ?_)
  have hP : va_P D CC (wM tk h ad (mup g 0 0 (nI 0)) la ++ tl) H := hP
  have hD : va_D A (wM tk h ad (mup g 0 0 (nI 0)) la ++ tl) := hD
  refine lv_aload_n hx hb d_M_chunks_5 rfl (lv_at hl 0 rfl) ?_
  refine gf_M_111 (v := .int (g 6 0)) hx hb hT hown hK hP 0 rfl rfl d_M_chunks_6 ?_
  exact k_iret (v := g 6 0) hQ hx hb hr hlk hK hP hD hS () rfl rfl d_M_chunks_9

set_option maxHeartbeats 4000000 in
set_option maxRecDepth 100000 in
theorem c_M_versions (l : Launch) (D : va_G) (tk : Nat → ClassId) (sz : Nat) (h : Nat) (ad : Nat → Nat) (g : Nat → Nat → Int32) (la : Nat → Int64) (tl : va_W)  : Met l y_M_versions w_M_versions ({ frames := 0, cells := 0, slots := 0, locals := 0 }) (va_Pc [.ref h] (k_pre D (TY tk) sz (wM tk h ad g la ++ tl))) (va_Qi (fun (r : Int32) (_ : Unit) => r = g 3 0) (fun u t => k_at D (TY tk) (va_A (wM tk h ad g la ++ tl) sz) ((fun _ => wM tk h ad (mup g 0 0 (nI 0)) la ++ tl) u) t) (va_A (wM tk h ad g la ++ tl) sz)) 0 0 (va_A (wM tk h ad g la ++ tl) sz) := by
  refine k_ofW (fun A => va_Qi (fun (r : Int32) (_ : Unit) => r = g 3 0) (fun u t => k_at D (TY tk) A ((fun _ => wM tk h ad (mup g 0 0 (nI 0)) la ++ tl) u) t) A) (by decide) (Nat.le_of_ble_eq_true rfl) ?_
  intro p e s m args below meth c Q A ls hQ hx hb hr hlk hin hts hT hown hml hnw hP hK hD hA hsz hl
  have hS : va_S A s.heap s.heap [] := va_S.rf
  have hc0 : 0 + 0 ≤ 0 ∧ 0 + 0 ≤ 0 := ⟨by decide, by decide⟩
  have hl : lv_has ls 1 [(0, .ref h)] := hl
  have hP : va_P D CC (wM tk h ad g la ++ tl) s.heap := hP
  have hK : va_K D CC (TY tk) s := hK
  refine lv_aload_n hx hb d_M_versions_0 rfl (lv_at hl 0 rfl) ?_
  refine lv_iconst (v := nI 0) hx hb d_M_versions_1 (by decide) ?_
  refine pf_M_73 hx hb hT hown hK hP hD hS 0 rfl (Nat.le_of_ble_eq_true rfl) d_M_versions_2 (fun H locs hP hD hS => ?_)
  have hP : va_P D CC (wM tk h ad (mup g 0 0 (nI 0)) la ++ tl) H := hP
  have hD : va_D A (wM tk h ad (mup g 0 0 (nI 0)) la ++ tl) := hD
  refine lv_aload_n hx hb d_M_versions_5 rfl (lv_at hl 0 rfl) ?_
  refine gf_M_69 (v := .int (g 3 0)) hx hb hT hown hK hP 0 rfl rfl d_M_versions_6 ?_
  exact k_iret (v := g 3 0) hQ hx hb hr hlk hK hP hD hS () rfl rfl d_M_versions_9

set_option maxHeartbeats 4000000 in
set_option maxRecDepth 100000 in
theorem c_M_shown (l : Launch) (D : va_G) (tk : Nat → ClassId) (sz : Nat) (h : Nat) (ad : Nat → Nat) (g : Nat → Nat → Int32) (la : Nat → Int64) (tl : va_W)  : Met l y_M_shown w_M_shown ({ frames := 0, cells := 0, slots := 0, locals := 0 }) (va_Pc [.ref h] (k_pre D (TY tk) sz (wM tk h ad g la ++ tl))) (va_Qi (fun (r : Int32) (_ : Unit) => r = g 28 0) (fun u t => k_at D (TY tk) (va_A (wM tk h ad g la ++ tl) sz) ((fun _ => wM tk h ad (mup g 0 0 (nI 0)) la ++ tl) u) t) (va_A (wM tk h ad g la ++ tl) sz)) 0 0 (va_A (wM tk h ad g la ++ tl) sz) := by
  refine k_ofW (fun A => va_Qi (fun (r : Int32) (_ : Unit) => r = g 28 0) (fun u t => k_at D (TY tk) A ((fun _ => wM tk h ad (mup g 0 0 (nI 0)) la ++ tl) u) t) A) (by decide) (Nat.le_of_ble_eq_true rfl) ?_
  intro p e s m args below meth c Q A ls hQ hx hb hr hlk hin hts hT hown hml hnw hP hK hD hA hsz hl
  have hS : va_S A s.heap s.heap [] := va_S.rf
  have hc0 : 0 + 0 ≤ 0 ∧ 0 + 0 ≤ 0 := ⟨by decide, by decide⟩
  have hl : lv_has ls 1 [(0, .ref h)] := hl
  have hP : va_P D CC (wM tk h ad g la ++ tl) s.heap := hP
  have hK : va_K D CC (TY tk) s := hK
  refine lv_aload_n hx hb d_M_shown_0 rfl (lv_at hl 0 rfl) ?_
  refine lv_iconst (v := nI 0) hx hb d_M_shown_1 (by decide) ?_
  refine pf_M_73 hx hb hT hown hK hP hD hS 0 rfl (Nat.le_of_ble_eq_true rfl) d_M_shown_2 (fun H locs hP hD hS => ?_)
  have hP : va_P D CC (wM tk h ad (mup g 0 0 (nI 0)) la ++ tl) H := hP
  have hD : va_D A (wM tk h ad (mup g 0 0 (nI 0)) la ++ tl) := hD
  refine lv_aload_n hx hb d_M_shown_5 rfl (lv_at hl 0 rfl) ?_
  refine gf_M_226 (v := .int (g 28 0)) hx hb hT hown hK hP 0 rfl rfl d_M_shown_6 ?_
  exact k_iret (v := g 28 0) hQ hx hb hr hlk hK hP hD hS () rfl rfl d_M_shown_9

set_option maxHeartbeats 4000000 in
set_option maxRecDepth 100000 in
theorem c_M_item (l : Launch) (D : va_G) (tk : Nat → ClassId) (sz : Nat) (h : Nat) (ad : Nat → Nat) (g : Nat → Nat → Int32) (la : Nat → Int64) (tl : va_W) (lv n k : Nat) (v : Int32) (hlv : lv < 8) (hn : n < 48) (hg : g 12 lv = nI n) : Met l y_M_item w_M_item ({ frames := 0, cells := 0, slots := 0, locals := 0 }) (va_Pc [.ref h, .int (nI lv), .int (nI k), .int v] (k_pre D (TY tk) sz (wM tk h ad g la ++ tl))) (va_Qv (fun (_ : Unit) => True) (fun u t => k_at D (TY tk) (va_A (wM tk h ad g la ++ tl) sz) ((fun _ => wM tk h ad (itM g lv n k v) la ++ tl) u) t) (va_A (wM tk h ad g la ++ tl) sz)) 0 0 (va_A (wM tk h ad g la ++ tl) sz) := by
  refine k_ofW (fun A => va_Qv (fun (_ : Unit) => True) (fun u t => k_at D (TY tk) A ((fun _ => wM tk h ad (itM g lv n k v) la ++ tl) u) t) A) (by decide) (Nat.le_of_ble_eq_true rfl) ?_
  intro p e s m args below meth c Q A ls hQ hx hb hr hlk hin hts hT hown hml hnw hP hK hD hA hsz hl
  have hS : va_S A s.heap s.heap [] := va_S.rf
  have hc0 : 0 + 0 ≤ 0 ∧ 0 + 0 ≤ 0 := ⟨by decide, by decide⟩
  have hl : lv_has ls 4 [(0, .ref h), (1, .int (nI lv)), (2, .int (nI k)), (3, .int v)] := hl
  have hP : va_P D CC (wM tk h ad g la ++ tl) s.heap := hP
  have hK : va_K D CC (TY tk) s := hK
  refine lv_aload_n hx hb d_M_item_0 rfl (lv_at hl 0 rfl) ?_
  refine gf_M_33 (v := .ref (ad 13)) hx hb hT hown hK hP 0 rfl rfl d_M_item_1 ?_
  refine lv_bipush (v := nI 48) hx hb d_M_item_4 (by decide) ?_
  refine lv_iload_n hx hb d_M_item_6 rfl (lv_at hl 1 rfl) ?_
  refine st_imul hx hb d_M_item_7 ?_
  refine lv_aload_n hx hb d_M_item_8 rfl (lv_at hl 0 rfl) ?_
  refine gf_M_30 (v := .ref (ad 12)) hx hb hT hown hK hP 0 rfl rfl d_M_item_9 ?_
  refine lv_iload_n hx hb d_M_item_12 rfl (lv_at hl 1 rfl) ?_
  refine st_iald hx hb hK hP 7 0 rfl rfl (by omega) (by decide) d_M_item_13 ?_
  refine st_top (show g 12 lv = nI n from hg) ?_
  refine st_iadd hx hb d_M_item_14 ?_
  refine lv_iload_n hx hb d_M_item_15 rfl (lv_at hl 2 rfl) ?_
  refine st_iast hx hb hK hP hD hS 8 0 rfl rfl (by omega) (by decide) d_M_item_16 (fun H locs hP hD hS => ?_)
  have hP : va_P D CC (wM tk h ad (mup g 13 ((48 * lv) + n) (nI k)) la ++ tl) H := hP
  have hD : va_D A (wM tk h ad (mup g 13 ((48 * lv) + n) (nI k)) la ++ tl) := hD
  refine lv_aload_n hx hb d_M_item_17 rfl (lv_at hl 0 rfl) ?_
  refine gf_M_36 (v := .ref (ad 14)) hx hb hT hown hK hP 0 rfl rfl d_M_item_18 ?_
  refine lv_bipush (v := nI 48) hx hb d_M_item_21 (by decide) ?_
  refine lv_iload_n hx hb d_M_item_23 rfl (lv_at hl 1 rfl) ?_
  refine st_imul hx hb d_M_item_24 ?_
  refine lv_aload_n hx hb d_M_item_25 rfl (lv_at hl 0 rfl) ?_
  refine gf_M_30 (v := .ref (ad 12)) hx hb hT hown hK hP 0 rfl rfl d_M_item_26 ?_
  refine lv_iload_n hx hb d_M_item_29 rfl (lv_at hl 1 rfl) ?_
  refine st_iald hx hb hK hP 7 0 rfl rfl (by omega) (by decide) d_M_item_30 ?_
  refine st_top (show g 12 lv = nI n from hg) ?_
  refine st_iadd hx hb d_M_item_31 ?_
  refine lv_iload_n hx hb d_M_item_32 rfl (lv_at hl 3 rfl) ?_
  refine st_iast hx hb hK hP hD hS 9 0 rfl rfl (by omega) (by decide) d_M_item_33 (fun H locs hP hD hS => ?_)
  have hP : va_P D CC (wM tk h ad (mup (mup g 13 ((48 * lv) + n) (nI k)) 14 ((48 * lv) + n) v) la ++ tl) H := hP
  have hD : va_D A (wM tk h ad (mup (mup g 13 ((48 * lv) + n) (nI k)) 14 ((48 * lv) + n) v) la ++ tl) := hD
  refine lv_aload_n hx hb d_M_item_34 rfl (lv_at hl 0 rfl) ?_
  refine gf_M_30 (v := .ref (ad 12)) hx hb hT hown hK hP 0 rfl rfl d_M_item_35 ?_
  refine lv_iload_n hx hb d_M_item_38 rfl (lv_at hl 1 rfl) ?_
  refine lv_dup2_11 hx hb d_M_item_39 rfl rfl ?_
  refine st_iald hx hb hK hP 7 0 rfl rfl (by omega) (by decide) d_M_item_40 ?_
  refine st_top (show g 12 lv = nI n from hg) ?_
  refine lv_iconst (v := nI 1) hx hb d_M_item_41 (by decide) ?_
  refine st_iadd hx hb d_M_item_42 ?_
  refine st_iast hx hb hK hP hD hS 7 0 rfl rfl (by omega) (by decide) d_M_item_43 (fun H locs hP hD hS => ?_)
  have hP : va_P D CC (wM tk h ad (mup (mup (mup g 13 ((48 * lv) + n) (nI k)) 14 ((48 * lv) + n) v) 12 lv (nI (n + 1))) la ++ tl) H := hP
  have hD : va_D A (wM tk h ad (mup (mup (mup g 13 ((48 * lv) + n) (nI k)) 14 ((48 * lv) + n) v) 12 lv (nI (n + 1))) la ++ tl) := hD
  exact k_vret hQ hx hb hr hlk hK hP hD hS () rfl trivial d_M_item_44

set_option maxHeartbeats 4000000 in
set_option maxRecDepth 100000 in
theorem c_M_store (l : Launch) (D : va_G) (tk : Nat → ClassId) (sz : Nat) (h : Nat) (ad : Nat → Nat) (g : Nat → Nat → Int32) (la : Nat → Int64) (tl : va_W) (lv hi ch mp : Nat) (low : Int32) (hch : ch < 3400) (hg : g 6 0 = nI ch) (hm : g 8 0 = nI mp) : Met l y_M_store w_M_store ({ frames := 0, cells := 0, slots := 0, locals := 0 }) (va_Pc [.ref h, .int (nI lv), .int low, .int (nI hi)] (k_pre D (TY tk) sz (wM tk h ad g la ++ tl))) (va_Qv (fun (_ : Unit) => True) (fun u t => k_at D (TY tk) (va_A (wM tk h ad g la ++ tl) sz) ((fun _ => wM tk h ad (mup (mup g 7 ch (chE lv mp low hi)) 6 0 (nI (ch + 1))) la ++ tl) u) t) (va_A (wM tk h ad g la ++ tl) sz)) 0 0 (va_A (wM tk h ad g la ++ tl) sz) := by
  refine k_ofW (fun A => va_Qv (fun (_ : Unit) => True) (fun u t => k_at D (TY tk) A ((fun _ => wM tk h ad (mup (mup g 7 ch (chE lv mp low hi)) 6 0 (nI (ch + 1))) la ++ tl) u) t) A) (by decide) (Nat.le_of_ble_eq_true rfl) ?_
  intro p e s m args below meth c Q A ls hQ hx hb hr hlk hin hts hT hown hml hnw hP hK hD hA hsz hl
  have hS : va_S A s.heap s.heap [] := va_S.rf
  have hc0 : 0 + 0 ≤ 0 ∧ 0 + 0 ≤ 0 := ⟨by decide, by decide⟩
  have hl : lv_has ls 4 [(0, .ref h), (1, .int (nI lv)), (2, .int low), (3, .int (nI hi))] := hl
  have hP : va_P D CC (wM tk h ad g la ++ tl) s.heap := hP
  have hK : va_K D CC (TY tk) s := hK
  refine lv_aload_n hx hb d_M_store_0 rfl (lv_at hl 0 rfl) ?_
  refine gf_M_20 (v := .ref (ad 7)) hx hb hT hown hK hP 0 rfl rfl d_M_store_1 ?_
  refine lv_aload_n hx hb d_M_store_4 rfl (lv_at hl 0 rfl) ?_
  refine gf_M_111 (v := .int (g 6 0)) hx hb hT hown hK hP 0 rfl rfl d_M_store_5 ?_
  refine st_top (show g 6 0 = nI ch from hg) ?_
  refine lv_iload_n hx hb d_M_store_8 rfl (lv_at hl 1 rfl) ?_
  refine lv_aload_n hx hb d_M_store_9 rfl (lv_at hl 0 rfl) ?_
  refine gf_M_117 (v := .int (g 8 0)) hx hb hT hown hK hP 0 rfl rfl d_M_store_10 ?_
  refine st_top (show g 8 0 = nI mp from hm) ?_
  refine lv_iconst (v := nI 3) hx hb d_M_store_13 (by decide) ?_
  refine lv_ishl hx hb d_M_store_14 ?_
  refine lv_ior hx hb d_M_store_15 ?_
  refine lv_iload_n hx hb d_M_store_16 rfl (lv_at hl 2 rfl) ?_
  refine lv_iconst (v := nI 1) hx hb d_M_store_17 (by decide) ?_
  refine lv_iadd hx hb d_M_store_18 ?_
  refine lv_bipush (v := nI 12) hx hb d_M_store_19 (by decide) ?_
  refine lv_ishl hx hb d_M_store_21 ?_
  refine lv_ior hx hb d_M_store_22 ?_
  refine lv_iload_n hx hb d_M_store_23 rfl (lv_at hl 3 rfl) ?_
  refine lv_bipush (v := nI 18) hx hb d_M_store_24 (by decide) ?_
  refine lv_ishl hx hb d_M_store_26 ?_
  refine lv_ior hx hb d_M_store_27 ?_
  refine st_iast hx hb hK hP hD hS 4 0 rfl rfl (by omega) (by decide) d_M_store_28 (fun H locs hP hD hS => ?_)
  have hP : va_P D CC (wM tk h ad (mup g 7 ch ((((nI lv) ||| ((nI mp) <<< ((nI 3) &&& 31))) ||| ((low + (nI 1)) <<< ((nI 12) &&& 31))) ||| ((nI hi) <<< ((nI 18) &&& 31)))) la ++ tl) H := hP
  have hD : va_D A (wM tk h ad (mup g 7 ch ((((nI lv) ||| ((nI mp) <<< ((nI 3) &&& 31))) ||| ((low + (nI 1)) <<< ((nI 12) &&& 31))) ||| ((nI hi) <<< ((nI 18) &&& 31)))) la ++ tl) := hD
  refine lv_aload_n hx hb d_M_store_29 rfl (lv_at hl 0 rfl) ?_
  refine lv_dup hx hb d_M_store_30 rfl ?_
  refine gf_M_111 (v := .int (g 6 0)) hx hb hT hown hK hP 0 rfl rfl d_M_store_31 ?_
  refine st_top (show g 6 0 = nI ch from hg) ?_
  refine lv_iconst (v := nI 1) hx hb d_M_store_34 (by decide) ?_
  refine st_iadd hx hb d_M_store_35 ?_
  refine pf_M_111 hx hb hT hown hK hP hD hS 0 rfl (Nat.le_of_ble_eq_true rfl) d_M_store_36 (fun H locs hP hD hS => ?_)
  have hP : va_P D CC (wM tk h ad (mup (mup g 7 ch ((((nI lv) ||| ((nI mp) <<< ((nI 3) &&& 31))) ||| ((low + (nI 1)) <<< ((nI 12) &&& 31))) ||| ((nI hi) <<< ((nI 18) &&& 31)))) 6 0 (nI (ch + 1))) la ++ tl) H := hP
  have hD : va_D A (wM tk h ad (mup (mup g 7 ch ((((nI lv) ||| ((nI mp) <<< ((nI 3) &&& 31))) ||| ((low + (nI 1)) <<< ((nI 12) &&& 31))) ||| ((nI hi) <<< ((nI 18) &&& 31)))) 6 0 (nI (ch + 1))) la ++ tl) := hD
  exact k_vret hQ hx hb hr hlk hK hP hD hS () rfl trivial d_M_store_39

set_option maxHeartbeats 4000000 in
set_option maxRecDepth 100000 in
theorem c_M_out (l : Launch) (D : va_G) (tk : Nat → ClassId) (sz : Nat) (h : Nat) (ad : Nat → Nat) (g : Nat → Nat → Int32) (la : Nat → Int64) (tl : va_W) (n : Nat) (b : Int32) (hn : n < 420) (hg : g 21 0 = nI n) : Met l y_M_out w_M_out ({ frames := 0, cells := 0, slots := 0, locals := 0 }) (va_Pc [.ref h, .int b] (k_pre D (TY tk) sz (wM tk h ad g la ++ tl))) (va_Qv (fun (_ : Unit) => True) (fun u t => k_at D (TY tk) (va_A (wM tk h ad g la ++ tl) sz) ((fun _ => wM tk h ad (ouM g n b) la ++ tl) u) t) (va_A (wM tk h ad g la ++ tl) sz)) 0 0 (va_A (wM tk h ad g la ++ tl) sz) := by
  refine k_ofW (fun A => va_Qv (fun (_ : Unit) => True) (fun u t => k_at D (TY tk) A ((fun _ => wM tk h ad (ouM g n b) la ++ tl) u) t) A) (by decide) (Nat.le_of_ble_eq_true rfl) ?_
  intro p e s m args below meth c Q A ls hQ hx hb hr hlk hin hts hT hown hml hnw hP hK hD hA hsz hl
  have hS : va_S A s.heap s.heap [] := va_S.rf
  have hc0 : 0 + 0 ≤ 0 ∧ 0 + 0 ≤ 0 := ⟨by decide, by decide⟩
  have hl : lv_has ls 2 [(0, .ref h), (1, .int b)] := hl
  have hP : va_P D CC (wM tk h ad g la ++ tl) s.heap := hP
  have hK : va_K D CC (TY tk) s := hK
  refine lv_aload_n hx hb d_M_out_0 rfl (lv_at hl 0 rfl) ?_
  refine gf_M_54 (v := .ref (ad 22)) hx hb hT hown hK hP 0 rfl rfl d_M_out_1 ?_
  refine lv_aload_n hx hb d_M_out_4 rfl (lv_at hl 0 rfl) ?_
  refine gf_M_165 (v := .int (g 21 0)) hx hb hT hown hK hP 0 rfl rfl d_M_out_5 ?_
  refine st_top (show g 21 0 = nI n from hg) ?_
  refine lv_iload_n hx hb d_M_out_8 rfl (lv_at hl 1 rfl) ?_
  refine lv_sipush (v := nI 255) hx hb d_M_out_9 (by decide) ?_
  refine lv_iand hx hb d_M_out_12 ?_
  refine st_iast hx hb hK hP hD hS 15 0 rfl rfl (by omega) (by decide) d_M_out_13 (fun H locs hP hD hS => ?_)
  have hP : va_P D CC (wM tk h ad (mup g 22 n (b &&& (nI 255))) la ++ tl) H := hP
  have hD : va_D A (wM tk h ad (mup g 22 n (b &&& (nI 255))) la ++ tl) := hD
  refine lv_aload_n hx hb d_M_out_14 rfl (lv_at hl 0 rfl) ?_
  refine lv_dup hx hb d_M_out_15 rfl ?_
  refine gf_M_165 (v := .int (g 21 0)) hx hb hT hown hK hP 0 rfl rfl d_M_out_16 ?_
  refine st_top (show g 21 0 = nI n from hg) ?_
  refine lv_iconst (v := nI 1) hx hb d_M_out_19 (by decide) ?_
  refine st_iadd hx hb d_M_out_20 ?_
  refine pf_M_165 hx hb hT hown hK hP hD hS 0 rfl (Nat.le_of_ble_eq_true rfl) d_M_out_21 (fun H locs hP hD hS => ?_)
  have hP : va_P D CC (wM tk h ad (mup (mup g 22 n (b &&& (nI 255))) 21 0 (nI (n + 1))) la ++ tl) H := hP
  have hD : va_D A (wM tk h ad (mup (mup g 22 n (b &&& (nI 255))) 21 0 (nI (n + 1))) la ++ tl) := hD
  exact k_vret hQ hx hb hr hlk hK hP hD hS () rfl trivial d_M_out_24

set_option maxHeartbeats 4000000 in
set_option maxRecDepth 100000 in
theorem c_M_side (l : Launch) (D : va_G) (tk : Nat → ClassId) (sz : Nat) (h : Nat) (ad : Nat → Nat) (g : Nat → Nat → Int32) (la : Nat → Int64) (tl : va_W) (b f k : Nat) (z : Int32) (hzb : vp_nar .boolean z = z) (hbb : b < 8) (hg : g 17 0 = nI b) : Met l y_M_side w_M_side ({ frames := 0, cells := 0, slots := 0, locals := 0 }) (va_Pc [.ref h, .int (nI f), .int (nI k), .int z] (k_pre D (TY tk) sz (wM tk h ad g la ++ tl))) (va_Qv (fun (_ : Unit) => True) (fun u t => k_at D (TY tk) (va_A (wM tk h ad g la ++ tl) sz) ((fun _ => wM tk h ad (sdM g b f k z) la ++ tl) u) t) (va_A (wM tk h ad g la ++ tl) sz)) 0 0 (va_A (wM tk h ad g la ++ tl) sz) := by
  refine k_ofW (fun A => va_Qv (fun (_ : Unit) => True) (fun u t => k_at D (TY tk) A ((fun _ => wM tk h ad (sdM g b f k z) la ++ tl) u) t) A) (by decide) (Nat.le_of_ble_eq_true rfl) ?_
  intro p e s m args below meth c Q A ls hQ hx hb hr hlk hin hts hT hown hml hnw hP hK hD hA hsz hl
  have hS : va_S A s.heap s.heap [] := va_S.rf
  have hc0 : 0 + 0 ≤ 0 ∧ 0 + 0 ≤ 0 := ⟨by decide, by decide⟩
  have hl : lv_has ls 4 [(0, .ref h), (1, .int (nI f)), (2, .int (nI k)), (3, .int z)] := hl
  have hP : va_P D CC (wM tk h ad g la ++ tl) s.heap := hP
  have hK : va_K D CC (TY tk) s := hK
  refine lv_aload_n hx hb d_M_side_0 rfl (lv_at hl 0 rfl) ?_
  refine gf_M_45 (v := .ref (ad 18)) hx hb hT hown hK hP 0 rfl rfl d_M_side_1 ?_
  refine lv_aload_n hx hb d_M_side_4 rfl (lv_at hl 0 rfl) ?_
  refine gf_M_155 (v := .int (g 17 0)) hx hb hT hown hK hP 0 rfl rfl d_M_side_5 ?_
  refine st_top (show g 17 0 = nI b from hg) ?_
  refine lv_iload_n hx hb d_M_side_8 rfl (lv_at hl 1 rfl) ?_
  refine st_iast hx hb hK hP hD hS 12 0 rfl rfl (by omega) (by decide) d_M_side_9 (fun H locs hP hD hS => ?_)
  have hP : va_P D CC (wM tk h ad (mup g 18 b (nI f)) la ++ tl) H := hP
  have hD : va_D A (wM tk h ad (mup g 18 b (nI f)) la ++ tl) := hD
  refine lv_aload_n hx hb d_M_side_10 rfl (lv_at hl 0 rfl) ?_
  refine gf_M_48 (v := .ref (ad 19)) hx hb hT hown hK hP 0 rfl rfl d_M_side_11 ?_
  refine lv_aload_n hx hb d_M_side_14 rfl (lv_at hl 0 rfl) ?_
  refine gf_M_155 (v := .int (g 17 0)) hx hb hT hown hK hP 0 rfl rfl d_M_side_15 ?_
  refine st_top (show g 17 0 = nI b from hg) ?_
  refine lv_iload_n hx hb d_M_side_18 rfl (lv_at hl 2 rfl) ?_
  refine st_iast hx hb hK hP hD hS 13 0 rfl rfl (by omega) (by decide) d_M_side_19 (fun H locs hP hD hS => ?_)
  have hP : va_P D CC (wM tk h ad (mup (mup g 18 b (nI f)) 19 b (nI k)) la ++ tl) H := hP
  have hD : va_D A (wM tk h ad (mup (mup g 18 b (nI f)) 19 b (nI k)) la ++ tl) := hD
  refine lv_aload_n hx hb d_M_side_20 rfl (lv_at hl 0 rfl) ?_
  refine gf_M_51 (v := .ref (ad 20)) hx hb hT hown hK hP 0 rfl rfl d_M_side_21 ?_
  refine lv_aload_n hx hb d_M_side_24 rfl (lv_at hl 0 rfl) ?_
  refine gf_M_155 (v := .int (g 17 0)) hx hb hT hown hK hP 0 rfl rfl d_M_side_25 ?_
  refine st_top (show g 17 0 = nI b from hg) ?_
  refine lv_iload_n hx hb d_M_side_28 rfl (lv_at hl 3 rfl) ?_
  refine st_zast hx hb hK hP hD hS 14 1 rfl rfl hzb (by omega) (by decide) d_M_side_29 (fun H locs hP hD hS => ?_)
  have hP : va_P D CC (wM tk h ad (mup (mup (mup g 18 b (nI f)) 19 b (nI k)) 20 b z) la ++ tl) H := hP
  have hD : va_D A (wM tk h ad (mup (mup (mup g 18 b (nI f)) 19 b (nI k)) 20 b z) la ++ tl) := hD
  refine lv_aload_n hx hb d_M_side_30 rfl (lv_at hl 0 rfl) ?_
  refine lv_dup hx hb d_M_side_31 rfl ?_
  refine gf_M_155 (v := .int (g 17 0)) hx hb hT hown hK hP 0 rfl rfl d_M_side_32 ?_
  refine st_top (show g 17 0 = nI b from hg) ?_
  refine lv_iconst (v := nI 1) hx hb d_M_side_35 (by decide) ?_
  refine st_iadd hx hb d_M_side_36 ?_
  refine pf_M_155 hx hb hT hown hK hP hD hS 0 rfl (Nat.le_of_ble_eq_true rfl) d_M_side_37 (fun H locs hP hD hS => ?_)
  have hP : va_P D CC (wM tk h ad (mup (mup (mup (mup g 18 b (nI f)) 19 b (nI k)) 20 b z) 17 0 (nI (b + 1))) la ++ tl) H := hP
  have hD : va_D A (wM tk h ad (mup (mup (mup (mup g 18 b (nI f)) 19 b (nI k)) 20 b z) 17 0 (nI (b + 1))) la ++ tl) := hD
  exact k_vret hQ hx hb hr hlk hK hP hD hS () rfl trivial d_M_side_40

set_option maxHeartbeats 4000000 in
set_option maxRecDepth 100000 in
theorem c_M_outInt (l : Launch) (D : va_G) (tk : Nat → ClassId) (sz : Nat) (h : Nat) (ad : Nat → Nat) (g : Nat → Nat → Int32) (la : Nat → Int64) (tl : va_W) (n : Nat) (v : Int32) (hn : n + 3 < 420) (hg : g 21 0 = nI n) : Met l y_M_outInt w_M_outInt ({ frames := 1, cells := 0, slots := 0, locals := 21 }) (va_Pc [.ref h, .int v] (k_pre D (TY tk) sz (wM tk h ad g la ++ tl))) (va_Qv (fun (_ : Unit) => True) (fun u t => k_at D (TY tk) (va_A (wM tk h ad g la ++ tl) sz) ((fun _ => wM tk h ad (oiM g n v) la ++ tl) u) t) (va_A (wM tk h ad g la ++ tl) sz)) 0 0 (va_A (wM tk h ad g la ++ tl) sz) := by
  refine k_ofW (fun A => va_Qv (fun (_ : Unit) => True) (fun u t => k_at D (TY tk) A ((fun _ => wM tk h ad (oiM g n v) la ++ tl) u) t) A) (by decide) (Nat.le_of_ble_eq_true rfl) ?_
  intro p e s m args below meth c Q A ls hQ hx hb hr hlk hin hts hT hown hml hnw hP hK hD hA hsz hl
  have hS : va_S A s.heap s.heap [] := va_S.rf
  have hc0 : 0 + 0 ≤ 0 ∧ 0 + 0 ≤ 0 := ⟨by decide, by decide⟩
  have hl : lv_has ls 3 [(0, .ref h), (1, .int v)] := hl
  have hP : va_P D CC (wM tk h ad g la ++ tl) s.heap := hP
  have hK : va_K D CC (TY tk) s := hK
  refine lv_iconst (v := nI 3) hx hb d_M_outInt_0 (by decide) ?_
  refine lv_istore_n (lv' := [(2, .int (nI 3)), (0, .ref h), (1, .int v)]) hx hb d_M_outInt_1 rfl hl (by decide) rfl (fun ls hl => ?_)
  refine lv_iload_n hx hb d_M_outInt_2 rfl (lv_at hl 0 rfl) ?_
  refine st_if_lt hx hb (by omega) d_M_outInt_3 (tgt := 22) (by decide) (fun hc3 => (by exfalso; first | exact hc3 | omega)) (fun hc3 => ?_)
  refine lv_aload_n hx hb d_M_outInt_6 rfl (lv_at hl 1 rfl) ?_
  refine lv_iload_n hx hb d_M_outInt_7 rfl (lv_at hl 2 rfl) ?_
  refine lv_bipush (v := nI 8) hx hb d_M_outInt_8 (by decide) ?_
  refine lv_iload_n hx hb d_M_outInt_10 rfl (lv_at hl 0 rfl) ?_
  refine st_imul hx hb d_M_outInt_11 ?_
  refine lv_ishr hx hb d_M_outInt_12 ?_
  refine k_callv (va_runV (As := [.int (v >>> ((nI 24) &&& 31))]) (rest := []) ⟨hx, hb, hml, hown, hts⟩ (c_M_out l D tk s.heap.size h ad g la tl n (v >>> ((nI 24) &&& 31)) (by omega) hg) (cwV 1 hts (gV t_1168 t_1170 s_32 t_9 t_1171) rfl rfl rfl (by decide +kernel) ⟨Nat.le_of_ble_eq_true rfl, Nat.le_of_ble_eq_true rfl⟩) (k_preV hP hK hD hnw 0 rfl rfl) rfl rfl hl.1 rfl (lv_room (Nat.le_of_ble_eq_true rfl)) d_M_outInt_13 hc0) hD hS hA (fun _ H locs hp13 hP hD hK hS => ?_)
  have hP : va_P D CC (wM tk h ad (ouM g n (v >>> ((nI 24) &&& 31))) la ++ tl) H := hP
  have hD : va_D A (wM tk h ad (ouM g n (v >>> ((nI 24) &&& 31))) la ++ tl) := hD
  refine lv_iinc (k := 0) (v := nI 2) (lv' := [(2, .int (nI 2)), (0, .ref h), (1, .int v)]) hx hb d_M_outInt_16 hl rfl (by decide) (by decide) rfl (fun ls hl => ?_)
  refine lv_goto hx hb d_M_outInt_19 (tgt := 2) (by decide) ?_
  refine lv_iload_n hx hb d_M_outInt_2 rfl (lv_at hl 0 rfl) ?_
  refine st_if_lt hx hb (by omega) d_M_outInt_3 (tgt := 22) (by decide) (fun hc3 => (by exfalso; first | exact hc3 | omega)) (fun hc3 => ?_)
  refine lv_aload_n hx hb d_M_outInt_6 rfl (lv_at hl 1 rfl) ?_
  refine lv_iload_n hx hb d_M_outInt_7 rfl (lv_at hl 2 rfl) ?_
  refine lv_bipush (v := nI 8) hx hb d_M_outInt_8 (by decide) ?_
  refine lv_iload_n hx hb d_M_outInt_10 rfl (lv_at hl 0 rfl) ?_
  refine st_imul hx hb d_M_outInt_11 ?_
  refine lv_ishr hx hb d_M_outInt_12 ?_
  refine k_callv (va_runV (As := [.int (v >>> ((nI 16) &&& 31))]) (rest := []) ⟨hx, hb, hml, hown, hts⟩ (c_M_out l D tk H.size h ad (ouM g n (v >>> ((nI 24) &&& 31))) la tl (n + 1) (v >>> ((nI 16) &&& 31)) (by omega) rfl) (cwV 1 hts (gV t_1168 t_1170 s_32 t_9 t_1171) rfl rfl rfl (by decide +kernel) ⟨Nat.le_of_ble_eq_true rfl, Nat.le_of_ble_eq_true rfl⟩) (k_preV hP hK hD hnw 0 rfl rfl) rfl rfl hl.1 rfl (lv_room (Nat.le_of_ble_eq_true rfl)) d_M_outInt_13 hc0) hD hS hA (fun _ H locs hp13 hP hD hK hS => ?_)
  have hP : va_P D CC (wM tk h ad (ouM (ouM g n (v >>> ((nI 24) &&& 31))) (n + 1) (v >>> ((nI 16) &&& 31))) la ++ tl) H := hP
  have hD : va_D A (wM tk h ad (ouM (ouM g n (v >>> ((nI 24) &&& 31))) (n + 1) (v >>> ((nI 16) &&& 31))) la ++ tl) := hD
  refine lv_iinc (k := 0) (v := nI 1) (lv' := [(2, .int (nI 1)), (0, .ref h), (1, .int v)]) hx hb d_M_outInt_16 hl rfl (by decide) (by decide) rfl (fun ls hl => ?_)
  refine lv_goto hx hb d_M_outInt_19 (tgt := 2) (by decide) ?_
  refine lv_iload_n hx hb d_M_outInt_2 rfl (lv_at hl 0 rfl) ?_
  refine st_if_lt hx hb (by omega) d_M_outInt_3 (tgt := 22) (by decide) (fun hc3 => (by exfalso; first | exact hc3 | omega)) (fun hc3 => ?_)
  refine lv_aload_n hx hb d_M_outInt_6 rfl (lv_at hl 1 rfl) ?_
  refine lv_iload_n hx hb d_M_outInt_7 rfl (lv_at hl 2 rfl) ?_
  refine lv_bipush (v := nI 8) hx hb d_M_outInt_8 (by decide) ?_
  refine lv_iload_n hx hb d_M_outInt_10 rfl (lv_at hl 0 rfl) ?_
  refine st_imul hx hb d_M_outInt_11 ?_
  refine lv_ishr hx hb d_M_outInt_12 ?_
  refine k_callv (va_runV (As := [.int (v >>> ((nI 8) &&& 31))]) (rest := []) ⟨hx, hb, hml, hown, hts⟩ (c_M_out l D tk H.size h ad (ouM (ouM g n (v >>> ((nI 24) &&& 31))) (n + 1) (v >>> ((nI 16) &&& 31))) la tl ((n + 1) + 1) (v >>> ((nI 8) &&& 31)) (by omega) rfl) (cwV 1 hts (gV t_1168 t_1170 s_32 t_9 t_1171) rfl rfl rfl (by decide +kernel) ⟨Nat.le_of_ble_eq_true rfl, Nat.le_of_ble_eq_true rfl⟩) (k_preV hP hK hD hnw 0 rfl rfl) rfl rfl hl.1 rfl (lv_room (Nat.le_of_ble_eq_true rfl)) d_M_outInt_13 hc0) hD hS hA (fun _ H locs hp13 hP hD hK hS => ?_)
  have hP : va_P D CC (wM tk h ad (ouM (ouM (ouM g n (v >>> ((nI 24) &&& 31))) (n + 1) (v >>> ((nI 16) &&& 31))) ((n + 1) + 1) (v >>> ((nI 8) &&& 31))) la ++ tl) H := hP
  have hD : va_D A (wM tk h ad (ouM (ouM (ouM g n (v >>> ((nI 24) &&& 31))) (n + 1) (v >>> ((nI 16) &&& 31))) ((n + 1) + 1) (v >>> ((nI 8) &&& 31))) la ++ tl) := hD
  refine lv_iinc (k := 0) (v := nI 0) (lv' := [(2, .int (nI 0)), (0, .ref h), (1, .int v)]) hx hb d_M_outInt_16 hl rfl (by decide) (by decide) rfl (fun ls hl => ?_)
  refine lv_goto hx hb d_M_outInt_19 (tgt := 2) (by decide) ?_
  refine lv_iload_n hx hb d_M_outInt_2 rfl (lv_at hl 0 rfl) ?_
  refine st_if_lt hx hb (by omega) d_M_outInt_3 (tgt := 22) (by decide) (fun hc3 => (by exfalso; first | exact hc3 | omega)) (fun hc3 => ?_)
  refine lv_aload_n hx hb d_M_outInt_6 rfl (lv_at hl 1 rfl) ?_
  refine lv_iload_n hx hb d_M_outInt_7 rfl (lv_at hl 2 rfl) ?_
  refine lv_bipush (v := nI 8) hx hb d_M_outInt_8 (by decide) ?_
  refine lv_iload_n hx hb d_M_outInt_10 rfl (lv_at hl 0 rfl) ?_
  refine st_imul hx hb d_M_outInt_11 ?_
  refine lv_ishr hx hb d_M_outInt_12 ?_
  refine k_callv (va_runV (As := [.int (v >>> ((nI 0) &&& 31))]) (rest := []) ⟨hx, hb, hml, hown, hts⟩ (c_M_out l D tk H.size h ad (ouM (ouM (ouM g n (v >>> ((nI 24) &&& 31))) (n + 1) (v >>> ((nI 16) &&& 31))) ((n + 1) + 1) (v >>> ((nI 8) &&& 31))) la tl (((n + 1) + 1) + 1) (v >>> ((nI 0) &&& 31)) (by omega) rfl) (cwV 1 hts (gV t_1168 t_1170 s_32 t_9 t_1171) rfl rfl rfl (by decide +kernel) ⟨Nat.le_of_ble_eq_true rfl, Nat.le_of_ble_eq_true rfl⟩) (k_preV hP hK hD hnw 0 rfl rfl) rfl rfl hl.1 rfl (lv_room (Nat.le_of_ble_eq_true rfl)) d_M_outInt_13 hc0) hD hS hA (fun _ H locs hp13 hP hD hK hS => ?_)
  have hP : va_P D CC (wM tk h ad (ouM (ouM (ouM (ouM g n (v >>> ((nI 24) &&& 31))) (n + 1) (v >>> ((nI 16) &&& 31))) ((n + 1) + 1) (v >>> ((nI 8) &&& 31))) (((n + 1) + 1) + 1) (v >>> ((nI 0) &&& 31))) la ++ tl) H := hP
  have hD : va_D A (wM tk h ad (ouM (ouM (ouM (ouM g n (v >>> ((nI 24) &&& 31))) (n + 1) (v >>> ((nI 16) &&& 31))) ((n + 1) + 1) (v >>> ((nI 8) &&& 31))) (((n + 1) + 1) + 1) (v >>> ((nI 0) &&& 31))) la ++ tl) := hD
  refine lv_iinc (k := 0) (v := -1) (lv' := [(2, .int (-1)), (0, .ref h), (1, .int v)]) hx hb d_M_outInt_16 hl rfl (by decide) (by decide) rfl (fun ls hl => ?_)
  refine lv_goto hx hb d_M_outInt_19 (tgt := 2) (by decide) ?_
  refine lv_iload_n hx hb d_M_outInt_2 rfl (lv_at hl 0 rfl) ?_
  refine lv_if_lt hx hb d_M_outInt_3 (tgt := 22) (by decide) (fun hc3 => ?_) (fun hc3 => absurd hc3 (by decide))
  exact k_vret hQ hx hb hr hlk hK hP hD hS () rfl trivial d_M_outInt_22

theorem m_idx {x i : Int32} {n N : Nat} (hg : x = nI n) (hn : n ≤ N) (h : ¬ (i < nI 0 ∨ x - nI 1 < i)) (hN : N < 2 ^ 30 := by decide) : ∃ j : Nat, j < n ∧ i = nI j := by
  have h0 : ¬ i < 0 := fun q => h (Or.inl q)
  obtain ⟨j, hj, e⟩ := nI_of h0
  refine ⟨j, ?_, e⟩
  have h1 : ¬ x - nI 1 < i := fun q => h (Or.inr q)
  rw [Int32.lt_iff_toInt_lt, e, nI_toInt hj, hg] at h1
  by_cases hz : n = 0
  · subst hz
    exfalso
    have : (nI 0 - nI 1).toInt = -1 := by decide
    rw [this] at h1
    omega
  · rw [pk_sub (by omega), nI_toInt (by omega)] at h1
    omega

set_option maxHeartbeats 4000000 in
set_option maxRecDepth 100000 in
theorem c_M_proof (l : Launch) (D : va_G) (tk : Nat → ClassId) (sz : Nat) (h : Nat) (ad : Nat → Nat) (g : Nat → Nat → Int32) (la : Nat → Int64) (tl : va_W) (n : Nat) (hn : n ≤ 420) (hg : g 21 0 = nI n) (i : Int32) : Met l y_M_proof w_M_proof ({ frames := 1, cells := 0, slots := 0, locals := 22 }) (va_Pc [.ref h, .int i] (k_pre D (TY tk) sz (wM tk h ad g la ++ tl))) (va_Qi (fun (r : Int32) (_ : Unit) => r = if i < nI 0 ∨ g 21 0 - nI 1 < i then (-1) else g 22 i.toNatClampNeg) (fun u t => k_at D (TY tk) (va_A (wM tk h ad g la ++ tl) sz) ((fun _ => wM tk h ad (mup g 0 0 (nI 0)) la ++ tl) u) t) (va_A (wM tk h ad g la ++ tl) sz)) 0 0 (va_A (wM tk h ad g la ++ tl) sz) := by
  refine k_ofW (fun A => va_Qi (fun (r : Int32) (_ : Unit) => r = if i < nI 0 ∨ g 21 0 - nI 1 < i then (-1) else g 22 i.toNatClampNeg) (fun u t => k_at D (TY tk) A ((fun _ => wM tk h ad (mup g 0 0 (nI 0)) la ++ tl) u) t) A) (by decide) (Nat.le_of_ble_eq_true rfl) ?_
  intro p e s m args below meth c Q A ls hQ hx hb hr hlk hin hts hT hown hml hnw hP hK hD hA hsz hl
  have hS : va_S A s.heap s.heap [] := va_S.rf
  have hc0 : 0 + 0 ≤ 0 ∧ 0 + 0 ≤ 0 := ⟨by decide, by decide⟩
  have hl : lv_has ls 2 [(0, .ref h), (1, .int i)] := hl
  have hP : va_P D CC (wM tk h ad g la ++ tl) s.heap := hP
  have hK : va_K D CC (TY tk) s := hK
  refine lv_aload_n hx hb d_M_proof_0 rfl (lv_at hl 0 rfl) ?_
  refine lv_iconst (v := nI 0) hx hb d_M_proof_1 (by decide) ?_
  refine pf_M_73 hx hb hT hown hK hP hD hS 0 rfl (Nat.le_of_ble_eq_true rfl) d_M_proof_2 (fun H locs hP hD hS => ?_)
  have hP : va_P D CC (wM tk h ad (mup g 0 0 (nI 0)) la ++ tl) H := hP
  have hD : va_D A (wM tk h ad (mup g 0 0 (nI 0)) la ++ tl) := hD
  refine lv_iload_n hx hb d_M_proof_5 rfl (lv_at hl 1 rfl) ?_
  refine lv_iconst (v := nI 0) hx hb d_M_proof_6 (by decide) ?_
  refine lv_aload_n hx hb d_M_proof_7 rfl (lv_at hl 0 rfl) ?_
  refine gf_M_165 (v := .int (g 21 0)) hx hb hT hown hK hP 0 rfl rfl d_M_proof_8 ?_
  refine lv_iconst (v := nI 1) hx hb d_M_proof_11 (by decide) ?_
  refine lv_isub hx hb d_M_proof_12 ?_
  refine k_calli (va_runS (As := [.int i, .int (nI 0), .int ((g 21 0) - (nI 1))]) (rest := []) ⟨hx, hb, hml, hown, hts⟩ (c_M_outside l D tk H.size i (nI 0) ((g 21 0) - (nI 1)) (wM tk h ad (mup g 0 0 (nI 0)) la ++ tl)) (cwS 3 hts (gS t_1041 t_1042 t_9 t_1043) rfl rfl rfl (by decide +kernel) ⟨Nat.le_of_ble_eq_true rfl, Nat.le_of_ble_eq_true rfl⟩) (k_preS hP hK hD hnw) rfl rfl hl.1 rfl (lv_room (Nat.le_of_ble_eq_true rfl)) d_M_proof_13 hc0) hD hS hA (fun _ _ H locs hp13 hP hD hK hS => ?_)
  subst hp13
  have hP : va_P D CC (wM tk h ad (mup g 0 0 (nI 0)) la ++ tl) H := hP
  have hD : va_D A (wM tk h ad (mup g 0 0 (nI 0)) la ++ tl) := hD
  refine lv_if_eq hx hb d_M_proof_16 (tgt := 23) (by decide) (fun hc16 => ?_) (fun hc16 => ?_)
  · skip
    have hn9 : ¬ (i < nI 0 ∨ g 21 0 - nI 1 < i) := fun q => by rw [if_pos q] at hc16; exact absurd hc16 (by decide)
    obtain ⟨j, hj, rfl⟩ := m_idx hg hn hn9
    refine lv_aload_n hx hb d_M_proof_23 rfl (lv_at hl 0 rfl) ?_
    refine gf_M_54 (v := .ref (ad 22)) hx hb hT hown hK hP 0 rfl rfl d_M_proof_24 ?_
    refine lv_iload_n hx hb d_M_proof_27 rfl (lv_at hl 1 rfl) ?_
    refine st_iald hx hb hK hP 15 0 rfl rfl (by omega) (by decide) d_M_proof_28 ?_
    exact k_iret (v := g 22 j) hQ hx hb hr hlk hK hP hD hS () rfl (by (try rw [nI_clamp (by omega)]); (iterate 4 (try (first | rw [if_pos (by assumption)] | rw [if_neg (by assumption)]))); try rfl) d_M_proof_29
  · skip
    have hn9 : i < nI 0 ∨ g 21 0 - nI 1 < i := Classical.byContradiction (fun q => hc16 (by rw [if_neg q]))
    refine lv_iconst (v := -1) hx hb d_M_proof_19 (by decide) ?_
    refine lv_goto hx hb d_M_proof_20 (tgt := 29) (by decide) ?_
    exact k_iret (v := -1) hQ hx hb hr hlk hK hP hD hS () rfl (by (try rw [nI_clamp (by omega)]); (iterate 4 (try (first | rw [if_pos (by assumption)] | rw [if_neg (by assumption)]))); try rfl) d_M_proof_29

set_option maxHeartbeats 4000000 in
set_option maxRecDepth 100000 in
theorem c_M_fail (l : Launch) (D : va_G) (tk : Nat → ClassId) (sz : Nat) (h : Nat) (ad : Nat → Nat) (g : Nat → Nat → Int32) (la : Nat → Int64) (tl : va_W) (n : Int32) : Met l y_M_fail w_M_fail ({ frames := 1, cells := 0, slots := 0, locals := 22 }) (va_Pc [.ref h, .int n] (k_pre D (TY tk) sz (wM tk h ad g la ++ tl))) (va_Qi (fun (r : Int32) (_ : Unit) => r = if n < nI 1 ∨ nI 40 < n then nI 0 else nI 1) (fun u t => k_at D (TY tk) (va_A (wM tk h ad g la ++ tl) sz) ((fun _ => wM tk h ad (if n < nI 1 ∨ nI 40 < n then mup g 0 0 (nI 0) else mup (mup g 0 0 (nI 0)) 5 0 n) la ++ tl) u) t) (va_A (wM tk h ad g la ++ tl) sz)) 0 0 (va_A (wM tk h ad g la ++ tl) sz) := by
  refine k_ofW (fun A => va_Qi (fun (r : Int32) (_ : Unit) => r = if n < nI 1 ∨ nI 40 < n then nI 0 else nI 1) (fun u t => k_at D (TY tk) A ((fun _ => wM tk h ad (if n < nI 1 ∨ nI 40 < n then mup g 0 0 (nI 0) else mup (mup g 0 0 (nI 0)) 5 0 n) la ++ tl) u) t) A) (by decide) (Nat.le_of_ble_eq_true rfl) ?_
  intro p e s m args below meth c Q A ls hQ hx hb hr hlk hin hts hT hown hml hnw hP hK hD hA hsz hl
  have hS : va_S A s.heap s.heap [] := va_S.rf
  have hc0 : 0 + 0 ≤ 0 ∧ 0 + 0 ≤ 0 := ⟨by decide, by decide⟩
  have hl : lv_has ls 2 [(0, .ref h), (1, .int n)] := hl
  have hP : va_P D CC (wM tk h ad g la ++ tl) s.heap := hP
  have hK : va_K D CC (TY tk) s := hK
  refine lv_aload_n hx hb d_M_fail_0 rfl (lv_at hl 0 rfl) ?_
  refine lv_iconst (v := nI 0) hx hb d_M_fail_1 (by decide) ?_
  refine pf_M_73 hx hb hT hown hK hP hD hS 0 rfl (Nat.le_of_ble_eq_true rfl) d_M_fail_2 (fun H locs hP hD hS => ?_)
  have hP : va_P D CC (wM tk h ad (mup g 0 0 (nI 0)) la ++ tl) H := hP
  have hD : va_D A (wM tk h ad (mup g 0 0 (nI 0)) la ++ tl) := hD
  refine lv_iload_n hx hb d_M_fail_5 rfl (lv_at hl 1 rfl) ?_
  refine lv_iconst (v := nI 1) hx hb d_M_fail_6 (by decide) ?_
  refine lv_bipush (v := nI 40) hx hb d_M_fail_7 (by decide) ?_
  refine k_calli (va_runS (As := [.int n, .int (nI 1), .int (nI 40)]) (rest := []) ⟨hx, hb, hml, hown, hts⟩ (c_M_outside l D tk H.size n (nI 1) (nI 40) (wM tk h ad (mup g 0 0 (nI 0)) la ++ tl)) (cwS 3 hts (gS t_1041 t_1042 t_9 t_1043) rfl rfl rfl (by decide +kernel) ⟨Nat.le_of_ble_eq_true rfl, Nat.le_of_ble_eq_true rfl⟩) (k_preS hP hK hD hnw) rfl rfl hl.1 rfl (lv_room (Nat.le_of_ble_eq_true rfl)) d_M_fail_9 hc0) hD hS hA (fun _ _ H locs hp9 hP hD hK hS => ?_)
  subst hp9
  have hP : va_P D CC (wM tk h ad (mup g 0 0 (nI 0)) la ++ tl) H := hP
  have hD : va_D A (wM tk h ad (mup g 0 0 (nI 0)) la ++ tl) := hD
  refine lv_if_eq hx hb d_M_fail_12 (tgt := 17) (by decide) (fun hc12 => ?_) (fun hc12 => ?_)
  · skip
    have hn9 : ¬ (n < nI 1 ∨ nI 40 < n) := fun q => by rw [if_pos q] at hc12; exact absurd hc12 (by decide)
    refine lv_aload_n hx hb d_M_fail_17 rfl (lv_at hl 0 rfl) ?_
    refine lv_iload_n hx hb d_M_fail_18 rfl (lv_at hl 1 rfl) ?_
    refine pf_M_114 hx hb hT hown hK hP hD hS 0 rfl (Nat.le_of_ble_eq_true rfl) d_M_fail_19 (fun H locs hP hD hS => ?_)
    have hP : va_P D CC (wM tk h ad (mup (mup g 0 0 (nI 0)) 5 0 n) la ++ tl) H := hP
    have hD : va_D A (wM tk h ad (mup (mup g 0 0 (nI 0)) 5 0 n) la ++ tl) := hD
    refine lv_iconst (v := nI 1) hx hb d_M_fail_22 (by decide) ?_
    exact k_zret (v := nI 1) hQ hx hb hr hlk hK hP hD hS () (by (iterate 4 (try (first | rw [if_pos (by assumption)] | rw [if_neg (by assumption)]))); try rfl) (by decide) (by (iterate 4 (try (first | rw [if_pos (by assumption)] | rw [if_neg (by assumption)]))); try rfl) d_M_fail_23
  · skip
    have hn9 : n < nI 1 ∨ nI 40 < n := Classical.byContradiction (fun q => hc12 (by rw [if_neg q]))
    refine lv_iconst (v := nI 0) hx hb d_M_fail_15 (by decide) ?_
    exact k_zret (v := nI 0) hQ hx hb hr hlk hK hP hD hS () (by (iterate 4 (try (first | rw [if_pos (by assumption)] | rw [if_neg (by assumption)]))); try rfl) (by decide) (by (iterate 4 (try (first | rw [if_pos (by assumption)] | rw [if_neg (by assumption)]))); try rfl) d_M_fail_16

set_option maxHeartbeats 4000000 in
set_option maxRecDepth 100000 in
theorem c_M_root (l : Launch) (D : va_G) (tk : Nat → ClassId) (sz : Nat) (h : Nat) (ad : Nat → Nat) (g : Nat → Nat → Int32) (la : Nat → Int64) (tl : va_W) (V : Nat) (hV1 : 1 ≤ V) (hV2 : V ≤ 16) (hV : g 3 0 = nI V) (v : Int32) : Met l y_M_root w_M_root ({ frames := 2, cells := 0, slots := 0, locals := 43 }) (va_Pc [.ref h, .int v] (k_pre D (TY tk) sz (wM tk h ad g la ++ tl))) (va_Qi (fun (r : Int32) (_ : Unit) => r = if v < nI 0 ∨ g 3 0 - nI 1 < v then 0 else g 4 v.toNatClampNeg) (fun u t => k_at D (TY tk) (va_A (wM tk h ad g la ++ tl) sz) ((fun _ => wM tk h ad (if v < nI 0 ∨ g 3 0 - nI 1 < v then mup g 0 0 (nI 1) else mup g 0 0 (nI 0)) la ++ tl) u) t) (va_A (wM tk h ad g la ++ tl) sz)) 0 0 (va_A (wM tk h ad g la ++ tl) sz) := by
  refine k_ofW (fun A => va_Qi (fun (r : Int32) (_ : Unit) => r = if v < nI 0 ∨ g 3 0 - nI 1 < v then 0 else g 4 v.toNatClampNeg) (fun u t => k_at D (TY tk) A ((fun _ => wM tk h ad (if v < nI 0 ∨ g 3 0 - nI 1 < v then mup g 0 0 (nI 1) else mup g 0 0 (nI 0)) la ++ tl) u) t) A) (by decide) (Nat.le_of_ble_eq_true rfl) ?_
  intro p e s m args below meth c Q A ls hQ hx hb hr hlk hin hts hT hown hml hnw hP hK hD hA hsz hl
  have hS : va_S A s.heap s.heap [] := va_S.rf
  have hc0 : 0 + 0 ≤ 0 ∧ 0 + 0 ≤ 0 := ⟨by decide, by decide⟩
  have hl : lv_has ls 2 [(0, .ref h), (1, .int v)] := hl
  have hP : va_P D CC (wM tk h ad g la ++ tl) s.heap := hP
  have hK : va_K D CC (TY tk) s := hK
  refine lv_aload_n hx hb d_M_root_0 rfl (lv_at hl 0 rfl) ?_
  refine lv_iload_n hx hb d_M_root_1 rfl (lv_at hl 1 rfl) ?_
  refine k_calli (va_runV (As := [.int v]) (rest := []) ⟨hx, hb, hml, hown, hts⟩ (c_M_isVersion l D tk s.heap.size h ad g la tl v ) (cwV 1 hts (gV t_1123 t_1125 s_27 t_9 t_1126) rfl rfl rfl (by decide +kernel) ⟨Nat.le_of_ble_eq_true rfl, Nat.le_of_ble_eq_true rfl⟩) (k_preV hP hK hD hnw 0 rfl rfl) rfl rfl hl.1 rfl (lv_room (Nat.le_of_ble_eq_true rfl)) d_M_root_2 hc0) hD hS hA (fun _ _ H locs hp2 hP hD hK hS => ?_)
  subst hp2
  have hP : va_P D CC (wM tk h ad g la ++ tl) H := hP
  have hD : va_D A (wM tk h ad g la ++ tl) := hD
  refine lv_if_ne hx hb d_M_root_5 (tgt := 14) (by decide) (fun hc5 => ?_) (fun hc5 => ?_)
  · skip
    have hn9 : ¬ (v < nI 0 ∨ g 3 0 - nI 1 < v) := fun q => hc5 (by unfold ivM; rw [if_pos q]; rfl)
    obtain ⟨j, hj, rfl⟩ := m_idx hV hV2 hn9
    refine lv_aload_n hx hb d_M_root_14 rfl (lv_at hl 0 rfl) ?_
    refine lv_iconst (v := nI 0) hx hb d_M_root_15 (by decide) ?_
    refine pf_M_73 hx hb hT hown hK hP hD hS 0 rfl (Nat.le_of_ble_eq_true rfl) d_M_root_16 (fun H locs hP hD hS => ?_)
    have hP : va_P D CC (wM tk h ad (mup g 0 0 (nI 0)) la ++ tl) H := hP
    have hD : va_D A (wM tk h ad (mup g 0 0 (nI 0)) la ++ tl) := hD
    refine lv_aload_n hx hb d_M_root_19 rfl (lv_at hl 0 rfl) ?_
    refine gf_M_17 (v := .ref (ad 4)) hx hb hT hown hK hP 0 rfl rfl d_M_root_20 ?_
    refine lv_iload_n hx hb d_M_root_23 rfl (lv_at hl 1 rfl) ?_
    refine st_iald hx hb hK hP 3 0 rfl rfl (by omega) (by decide) d_M_root_24 ?_
    exact k_iret (v := g 4 j) hQ hx hb hr hlk hK hP hD hS () (by (iterate 4 (try (first | rw [if_pos (by assumption)] | rw [if_neg (by assumption)]))); try rfl) (by (try rw [nI_clamp (by omega)]); (iterate 4 (try (first | rw [if_pos (by assumption)] | rw [if_neg (by assumption)]))); try rfl) d_M_root_25
  · skip
    have hn9 : v < nI 0 ∨ g 3 0 - nI 1 < v := Classical.byContradiction (fun q => by unfold ivM at hc5; rw [if_neg q] at hc5; exact absurd hc5 (by decide))
    refine lv_aload_n hx hb d_M_root_8 rfl (lv_at hl 0 rfl) ?_
    refine lv_iconst (v := nI 1) hx hb d_M_root_9 (by decide) ?_
    refine k_calli (va_runV (As := [.int (nI 1)]) (rest := []) ⟨hx, hb, hml, hown, hts⟩ (c_M_refuse l D tk H.size h ad g la tl (nI 1) ) (cwV 1 hts (gV t_1060 t_1062 s_17 t_9 t_1063) rfl rfl rfl (by decide +kernel) ⟨Nat.le_of_ble_eq_true rfl, Nat.le_of_ble_eq_true rfl⟩) (k_preV hP hK hD hnw 0 rfl rfl) rfl rfl hl.1 rfl (lv_room (Nat.le_of_ble_eq_true rfl)) d_M_root_10 hc0) hD hS hA (fun _ _ H locs hp10 hP hD hK hS => ?_)
    subst hp10
    have hP : va_P D CC (wM tk h ad (mup g 0 0 (nI 1)) la ++ tl) H := hP
    have hD : va_D A (wM tk h ad (mup g 0 0 (nI 1)) la ++ tl) := hD
    exact k_iret (v := 0) hQ hx hb hr hlk hK hP hD hS () (by (iterate 4 (try (first | rw [if_pos (by assumption)] | rw [if_neg (by assumption)]))); try rfl) (by (try rw [nI_clamp (by omega)]); (iterate 4 (try (first | rw [if_pos (by assumption)] | rw [if_neg (by assumption)]))); try rfl) d_M_root_13
end
section
/-- a hash over the places a, a + 1 .. of the level rows -/
def it_ {α : Type} (f : α → Nat → α) : Nat → Nat → α → α
  | _, 0, h => h
  | a, n + 1, h => it_ f (a + 1) n (f h a)
def hsA (g : Nat → Nat → Int32) (a n : Nat) (h : Int32) : Int32 := it_ (fun x j => mx (mx x (g 13 j)) (g 14 j)) a n h
theorem hsA_go (g : Nat → Nat → Int32) {k E : Nat} (h : k < E) (x : Int32) : hsA g k (E - k) x = hsA g (k + 1) (E - (k + 1)) (mx (mx x (g 13 k)) (g 14 k)) := by
  have e : E - k = E - (k + 1) + 1 := by omega
  unfold hsA
  rw [e, it_]
theorem hsA_0 (g : Nat → Nat → Int32) (k : Nat) (x : Int32) : hsA g k 0 x = x := by
  unfold hsA
  rw [it_]
/-- the first place from i on where f says so, or the last place -/
def fsF (f : Nat → Bool) (n : Nat) : Nat → Nat → Nat
  | 0, i => i
  | q + 1, i => if i + 1 < n ∧ f i = false then fsF f n q (i + 1) else i
def fs_ (f : Nat → Bool) (n i : Nat) : Nat := fsF f n (n - i) i
theorem fs_go {f : Nat → Bool} {n i : Nat} (h : i + 1 < n) (hf : f i = false) : fs_ f n i = fs_ f n (i + 1) := by
  unfold fs_
  rw [show n - i = n - (i + 1) + 1 by omega]
  conv => lhs; unfold fsF
  rw [if_pos ⟨h, hf⟩]
theorem fs_stop {f : Nat → Bool} {n i : Nat} (h : n ≤ i + 1 ∨ f i = true) : fs_ f n i = i := by
  unfold fs_
  cases e : n - i with
  | zero => rfl
  | succ q =>
    unfold fsF
    rw [if_neg]
    rintro ⟨h1, h2⟩
    rcases h with h | h
    · omega
    · rw [h2] at h; cases h
theorem fs_le {f : Nat → Bool} {n : Nat} : ∀ (q i : Nat), i < n → n - i = q → i ≤ fs_ f n i ∧ fs_ f n i < n := by
  intro q
  induction q with
  | zero => intro i h1 h2; omega
  | succ q ih =>
    intro i h1 h2
    by_cases h : i + 1 < n ∧ f i = false
    · rw [fs_go h.1 h.2]
      have := ih (i + 1) h.1 (by omega)
      omega
    · rw [fs_stop]
      · omega
      · by_cases h3 : i + 1 < n
        · right
          cases e : f i with
          | true => rfl
          | false => exact absurd ⟨h3, e⟩ h
        · left; omega
/-- back to the place behind the last one ahead of i where f says so -/
def co_ (f : Nat → Bool) : Nat → Nat
  | 0 => 0
  | i + 1 => if f i = true then i + 1 else co_ f i
theorem co_le {f : Nat → Bool} : ∀ i, co_ f i ≤ i := by
  intro i
  induction i with
  | zero => exact Nat.le_refl _
  | succ i ih => unfold co_; split <;> omega
def rgF (g : Nat → Nat → Int32) (v : Nat) (lo hi : Int32) : Nat → Nat
  | 0 => 0
  | k + 1 => if g 1 (48 * v + k) = 0 ∨ nI k < lo ∨ hi < nI k then rgF g v lo hi k else rgF g v lo hi k + 1
theorem rgF_succ (g : Nat → Nat → Int32) (v : Nat) (lo hi : Int32) (k : Nat) : rgF g v lo hi (k + 1) = if g 1 (48 * v + k) = 0 ∨ nI k < lo ∨ hi < nI k then rgF g v lo hi k else rgF g v lo hi k + 1 := rfl
theorem rgF_le (g : Nat → Nat → Int32) (v : Nat) (lo hi : Int32) : ∀ k, rgF g v lo hi k ≤ k := by
  intro k
  induction k with
  | zero => exact Nat.le_refl _
  | succ k ih => unfold rgF; split <;> omega
def tkF (g : Nat → Nat → Int32) (t0 : Nat) (w : Int32) : Nat → Nat → Nat → Int32
  | 0 => g
  | k + 1 => tkF (mup (mup g 24 t0 ((w >>> (nI (8 * k) &&& 31)) &&& nI 255)) 23 0 (nI (t0 + 1))) (t0 + 1) w k
def cyF (g : Nat → Nat → Int32) (i mask : Int32) (k : Nat) : Nat → Nat → Int32 := fun x => if x = 24 then (fun j => if j < k then (if nI j = i then g 22 j ^^^ (mask &&& nI 255) else g 22 j) else g 24 j) else g x
theorem cyF_0 (g : Nat → Nat → Int32) (i mask : Int32) : cyF g i mask 0 = g := by
  funext x
  unfold cyF
  split
  · next h => subst h; funext j; rw [if_neg (by omega)]
  · rfl
theorem cyF_ne (g : Nat → Nat → Int32) (i mask : Int32) (k : Nat) {x : Nat} (h : x ≠ 24) : cyF g i mask k x = g x := by unfold cyF; rw [if_neg h]
theorem cyF_step (g : Nat → Nat → Int32) (i mask : Int32) (k : Nat) {v : Int32} (hv : v = if nI k = i then g 22 k ^^^ (mask &&& nI 255) else g 22 k) : mup (cyF g i mask k) 24 k v = cyF g i mask (k + 1) := by
  funext x j
  by_cases h : x = 24
  · subst h
    rw [mup_eq]
    unfold upd cyF
    rw [if_pos rfl, if_pos rfl]
    by_cases hj : j = k
    · subst hj; rw [if_pos rfl, if_pos (Nat.lt_succ_self _), hv]
    · rw [if_neg hj]
      by_cases h2 : j < k
      · rw [if_pos h2, if_pos (show j < k + 1 by omega)]
      · rw [if_neg h2, if_neg (show ¬ j < k + 1 by omega)]
  · rw [mup_ne h, cyF_ne _ _ _ _ h, cyF_ne _ _ _ _ h]

set_option maxHeartbeats 4000000 in
set_option maxRecDepth 100000 in
theorem c_M_hashOf (l : Launch) (D : va_G) (tk : Nat → ClassId) (sz : Nat) (h : Nat) (ad : Nat → Nat) (g : Nat → Nat → Int32) (la : Nat → Int64) (tl : va_W) (lv fr to : Nat) (hlv : lv < 8) (hfr : fr ≤ to) (hto : to ≤ 48) : Met l y_M_hashOf w_M_hashOf ({ frames := 1, cells := 0, slots := 0, locals := 22 }) (va_Pc [.ref h, .int (nI lv), .int (nI fr), .int (nI to)] (k_pre D (TY tk) sz (wM tk h ad g la ++ tl))) (va_Qi (fun (r : Int32) (_ : Unit) => r = hsA g (48 * lv + fr) (to - fr) (mx (nI 6) (nI lv))) (fun u t => k_at D (TY tk) (va_A (wM tk h ad g la ++ tl) sz) ((fun _ => wM tk h ad g la ++ tl) u) t) (va_A (wM tk h ad g la ++ tl) sz)) 0 0 (va_A (wM tk h ad g la ++ tl) sz) := by
  refine k_ofW (fun A => va_Qi (fun (r : Int32) (_ : Unit) => r = hsA g (48 * lv + fr) (to - fr) (mx (nI 6) (nI lv))) (fun u t => k_at D (TY tk) A ((fun _ => wM tk h ad g la ++ tl) u) t) A) (by decide) (Nat.le_of_ble_eq_true rfl) ?_
  intro p e s m args below meth c Q A ls hQ hx hb hr hlk hin hts hT hown hml hnw hP hK hD hA hsz hl
  have hS : va_S A s.heap s.heap [] := va_S.rf
  have hc0 : 0 + 0 ≤ 0 ∧ 0 + 0 ≤ 0 := ⟨by decide, by decide⟩
  replace hl : lv_has ls 6 [(0, .ref h), (1, .int (nI lv)), (2, .int (nI fr)), (3, .int (nI to))] := hl
  replace hP : va_P D CC (wM tk h ad g la ++ tl) s.heap := hP
  replace hK : va_K D CC (TY tk) s := hK
  refine lv_bipush (v := nI 6) hx hb d_M_hashOf_0 (by decide) ?_
  refine lv_iload_n hx hb d_M_hashOf_2 rfl (lv_at hl 1 rfl) ?_
  refine k_calli (va_runS (As := [.int (nI 6), .int (nI lv)]) (rest := []) ⟨hx, hb, hml, hown, hts⟩ (c_M_mix l D tk s.heap.size (nI 6) (nI lv) (wM tk h ad g la ++ tl)) (cwS 2 hts (gS t_1079 t_1080 t_9 t_1081) rfl rfl rfl (by decide +kernel) ⟨Nat.le_of_ble_eq_true rfl, Nat.le_of_ble_eq_true rfl⟩) (k_preS hP hK hD hnw) rfl rfl hl.1 rfl (lv_room (Nat.le_of_ble_eq_true rfl)) d_M_hashOf_3 hc0) hD hS hA (fun _ _ H locs hp3 hP hD hK hS => ?_)
  subst hp3
  replace hP : va_P D CC (wM tk h ad g la ++ tl) H := hP
  replace hD : va_D A (wM tk h ad g la ++ tl) := hD
  refine lv_istore (lv' := [(4, .int (mx (nI 6) (nI lv))), (0, .ref h), (1, .int (nI lv)), (2, .int (nI fr)), (3, .int (nI to))]) hx hb d_M_hashOf_6 hl (by decide) rfl (fun ls hl => ?_)
  refine lv_bipush (v := nI 48) hx hb d_M_hashOf_8 (by decide) ?_
  refine lv_iload_n hx hb d_M_hashOf_10 rfl (lv_at hl 2 rfl) ?_
  refine st_imul hx hb d_M_hashOf_11 ?_
  refine lv_iload_n hx hb d_M_hashOf_12 rfl (lv_at hl 3 rfl) ?_
  refine st_iadd hx hb d_M_hashOf_13 ?_
  refine lv_istore (lv' := [(5, .int (nI ((48 * lv) + fr))), (4, .int (mx (nI 6) (nI lv))), (0, .ref h), (1, .int (nI lv)), (2, .int (nI fr)), (3, .int (nI to))]) hx hb d_M_hashOf_14 hl (by decide) rfl (fun ls hl => ?_)
  have key16 : ∀ (n16 : Nat) (k : Nat) (x : Int32) (ls : Array Slot) (H : Heap) (locs : List Loc), 48 * lv + to - k < n16 → (48 * lv + fr ≤ k ∧ k ≤ 48 * lv + to) → (hsA g k (48 * lv + to - k) x = hsA g (48 * lv + fr) (to - fr) (mx (nI 6) (nI lv))) → lv_has ls 6 [(0, .ref h), (1, .int (nI lv)), (2, .int (nI fr)), (3, .int (nI to)), (4, .int x), (5, .int (nI k))] → va_P D CC (wM tk h ad g la ++ tl) H → va_D A (wM tk h ad g la ++ tl) → va_S A s.heap H locs → W p l e ({ frames := 1, cells := 0, slots := 0, locals := 22 } : Room) s m args below meth c H locs 0 0 Q (F0 m 16 ls []) := by
    intro n16
    induction n16 with
    | zero => intro k x ls H locs hn; exact absurd hn (Nat.not_lt_zero _)
    | succ n16 ih16 =>
      intro k x ls H locs hn16 hk hR hl hP hD hS
      refine lv_iload hx hb d_M_hashOf_16 (lv_at hl 5 rfl) ?_
      refine lv_bipush (v := nI 48) hx hb d_M_hashOf_18 (by decide) ?_
      refine lv_iload_n hx hb d_M_hashOf_20 rfl (lv_at hl 1 rfl) ?_
      refine st_imul hx hb d_M_hashOf_21 ?_
      refine lv_iload_n hx hb d_M_hashOf_22 rfl (lv_at hl 3 rfl) ?_
      refine st_iadd hx hb d_M_hashOf_23 ?_
      refine st_icmp_ge hx hb (by omega) (by omega) d_M_hashOf_24 (tgt := 57) (by decide) (fun hc24 => ?_) (fun hc24 => ?_)
      · skip
        refine lv_iload hx hb d_M_hashOf_57 (lv_at hl 4 rfl) ?_
        exact k_iret (v := x) hQ hx hb hr hlk hK hP hD hS () rfl (by rw [← hR, show 48 * lv + to - k = 0 by omega, hsA_0]) d_M_hashOf_59
      · skip
        refine lv_iload hx hb d_M_hashOf_27 (lv_at hl 4 rfl) ?_
        refine lv_aload_n hx hb d_M_hashOf_29 rfl (lv_at hl 0 rfl) ?_
        refine gf_M_33 (v := .ref (ad 13)) hx hb hT hown hK hP 0 rfl rfl d_M_hashOf_30 ?_
        refine lv_iload hx hb d_M_hashOf_33 (lv_at hl 5 rfl) ?_
        refine st_iald hx hb hK hP 8 0 rfl rfl (by omega) (by decide) d_M_hashOf_35 ?_
        refine k_calli (va_runS (As := [.int x, .int (g 13 k)]) (rest := []) ⟨hx, hb, hml, hown, hts⟩ (c_M_mix l D tk H.size x (g 13 k) (wM tk h ad g la ++ tl)) (cwS 2 hts (gS t_1079 t_1080 t_9 t_1081) rfl rfl rfl (by decide +kernel) ⟨Nat.le_of_ble_eq_true rfl, Nat.le_of_ble_eq_true rfl⟩) (k_preS hP hK hD hnw) rfl rfl hl.1 rfl (lv_room (Nat.le_of_ble_eq_true rfl)) d_M_hashOf_36 hc0) hD hS hA (fun _ _ H locs hp36 hP hD hK hS => ?_)
        subst hp36
        replace hP : va_P D CC (wM tk h ad g la ++ tl) H := hP
        replace hD : va_D A (wM tk h ad g la ++ tl) := hD
        refine lv_aload_n hx hb d_M_hashOf_39 rfl (lv_at hl 0 rfl) ?_
        refine gf_M_36 (v := .ref (ad 14)) hx hb hT hown hK hP 0 rfl rfl d_M_hashOf_40 ?_
        refine lv_iload hx hb d_M_hashOf_43 (lv_at hl 5 rfl) ?_
        refine st_iald hx hb hK hP 9 0 rfl rfl (by omega) (by decide) d_M_hashOf_45 ?_
        refine k_calli (va_runS (As := [.int (mx x (g 13 k)), .int (g 14 k)]) (rest := []) ⟨hx, hb, hml, hown, hts⟩ (c_M_mix l D tk H.size (mx x (g 13 k)) (g 14 k) (wM tk h ad g la ++ tl)) (cwS 2 hts (gS t_1079 t_1080 t_9 t_1081) rfl rfl rfl (by decide +kernel) ⟨Nat.le_of_ble_eq_true rfl, Nat.le_of_ble_eq_true rfl⟩) (k_preS hP hK hD hnw) rfl rfl hl.1 rfl (lv_room (Nat.le_of_ble_eq_true rfl)) d_M_hashOf_46 hc0) hD hS hA (fun _ _ H locs hp46 hP hD hK hS => ?_)
        subst hp46
        replace hP : va_P D CC (wM tk h ad g la ++ tl) H := hP
        replace hD : va_D A (wM tk h ad g la ++ tl) := hD
        refine lv_istore (lv' := [(4, .int (mx (mx x (g 13 k)) (g 14 k))), (0, .ref h), (1, .int (nI lv)), (2, .int (nI fr)), (3, .int (nI to)), (5, .int (nI k))]) hx hb d_M_hashOf_49 hl (by decide) rfl (fun ls hl => ?_)
        refine lv_iinc (k := 5) (v := nI (k + 1)) (lv' := [(5, .int (nI (k + 1))), (4, .int (mx (mx x (g 13 k)) (g 14 k))), (0, .ref h), (1, .int (nI lv)), (2, .int (nI fr)), (3, .int (nI to))]) hx hb d_M_hashOf_51 hl rfl (nI_add _ _) (by decide) rfl (fun ls hl => ?_)
        refine lv_goto hx hb d_M_hashOf_54 (tgt := 16) (by decide) ?_
        exact ih16 (k + 1) (mx (mx x (g 13 k)) (g 14 k)) ls _ _ (by first | omega | simp_all) (by omega) ((hsA_go g (k := k) (E := 48 * lv + to) (by omega) x).symm.trans hR) (lv_sub hl [2, 3, 4, 5, 1, 0] rfl) hP hD hS
  exact key16 _ (48 * lv + fr) (mx (nI 6) (nI lv)) ls _ _ (Nat.lt_succ_self _) (by omega) (by rw [show 48 * lv + to - (48 * lv + fr) = to - fr by omega]) (lv_sub hl [2, 3, 4, 5, 1, 0] rfl) hP hD hS

set_option maxHeartbeats 4000000 in
set_option maxRecDepth 100000 in
theorem c_M_chunkEnd (l : Launch) (D : va_G) (tk : Nat → ClassId) (sz : Nat) (h : Nat) (ad : Nat → Nat) (g : Nat → Nat → Int32) (la : Nat → Int64) (tl : va_W) (lv n i : Nat) (ky : Nat → Nat) (hlv : lv < 8) (hn1 : 1 ≤ n) (hn : n ≤ 48) (hi : i < n) (hg : g 12 lv = nI n) (hky : ∀ j, j < n → g 13 (48 * lv + j) = nI (ky j)) : Met l y_M_chunkEnd w_M_chunkEnd ({ frames := 2, cells := 0, slots := 0, locals := 43 }) (va_Pc [.ref h, .int (nI lv), .int (nI i)] (k_pre D (TY tk) sz (wM tk h ad g la ++ tl))) (va_Qi (fun (r : Int32) (_ : Unit) => r = nI (fs_ (fun j => en lv (ky j)) n i + 1)) (fun u t => k_at D (TY tk) (va_A (wM tk h ad g la ++ tl) sz) ((fun _ => wM tk h ad g la ++ tl) u) t) (va_A (wM tk h ad g la ++ tl) sz)) 0 0 (va_A (wM tk h ad g la ++ tl) sz) := by
  refine k_ofW (fun A => va_Qi (fun (r : Int32) (_ : Unit) => r = nI (fs_ (fun j => en lv (ky j)) n i + 1)) (fun u t => k_at D (TY tk) A ((fun _ => wM tk h ad g la ++ tl) u) t) A) (by decide) (Nat.le_of_ble_eq_true rfl) ?_
  intro p e s m args below meth c Q A ls hQ hx hb hr hlk hin hts hT hown hml hnw hP hK hD hA hsz hl
  have hS : va_S A s.heap s.heap [] := va_S.rf
  have hc0 : 0 + 0 ≤ 0 ∧ 0 + 0 ≤ 0 := ⟨by decide, by decide⟩
  replace hl : lv_has ls 4 [(0, .ref h), (1, .int (nI lv)), (2, .int (nI i))] := hl
  replace hP : va_P D CC (wM tk h ad g la ++ tl) s.heap := hP
  replace hK : va_K D CC (TY tk) s := hK
  refine lv_iload_n hx hb d_M_chunkEnd_0 rfl (lv_at hl 2 rfl) ?_
  refine lv_istore_n (lv' := [(3, .int (nI i)), (0, .ref h), (1, .int (nI lv)), (2, .int (nI i))]) hx hb d_M_chunkEnd_1 rfl hl (by decide) rfl (fun ls hl => ?_)
  have key2 : ∀ (n2 : Nat) (k : Nat) (ls : Array Slot) (H : Heap) (locs : List Loc), n - k < n2 → (i ≤ k ∧ k < n) → (fs_ (fun j => en lv (ky j)) n k = fs_ (fun j => en lv (ky j)) n i) → lv_has ls 4 [(0, .ref h), (1, .int (nI lv)), (2, .int (nI i)), (3, .int (nI k))] → va_P D CC (wM tk h ad g la ++ tl) H → va_D A (wM tk h ad g la ++ tl) → va_S A s.heap H locs → W p l e ({ frames := 2, cells := 0, slots := 0, locals := 43 } : Room) s m args below meth c H locs 0 0 Q (F0 m 2 ls []) := by
    intro n2
    induction n2 with
    | zero => intro k ls H locs hn; exact absurd hn (Nat.not_lt_zero _)
    | succ n2 ih2 =>
      intro k ls H locs hn2 hk hR hl hP hD hS
      refine lv_iload_n hx hb d_M_chunkEnd_2 rfl (lv_at hl 3 rfl) ?_
      refine lv_aload_n hx hb d_M_chunkEnd_3 rfl (lv_at hl 0 rfl) ?_
      refine gf_M_30 (v := .ref (ad 12)) hx hb hT hown hK hP 0 rfl rfl d_M_chunkEnd_4 ?_
      refine lv_iload_n hx hb d_M_chunkEnd_7 rfl (lv_at hl 1 rfl) ?_
      refine st_iald hx hb hK hP 7 0 rfl rfl (by omega) (by decide) d_M_chunkEnd_8 ?_
      refine st_top (show g 12 lv = nI n from hg) ?_
      refine lv_iconst (v := nI 1) hx hb d_M_chunkEnd_9 (by decide) ?_
      refine st_isub hx hb (by omega) d_M_chunkEnd_10 ?_
      refine st_icmp_ge hx hb (by omega) (by omega) d_M_chunkEnd_11 (tgt := 38) (by decide) (fun hc11 => ?_) (fun hc11 => ?_)
      · skip
        refine lv_iload_n hx hb d_M_chunkEnd_38 rfl (lv_at hl 3 rfl) ?_
        refine lv_iconst (v := nI 1) hx hb d_M_chunkEnd_39 (by decide) ?_
        refine st_iadd hx hb d_M_chunkEnd_40 ?_
        exact k_iret (v := nI (k + 1)) hQ hx hb hr hlk hK hP hD hS () rfl (by rw [← hR, fs_stop (by first | (right; assumption) | (left; omega))]) d_M_chunkEnd_41
      · skip
        refine lv_iload_n hx hb d_M_chunkEnd_14 rfl (lv_at hl 1 rfl) ?_
        refine lv_aload_n hx hb d_M_chunkEnd_15 rfl (lv_at hl 0 rfl) ?_
        refine gf_M_33 (v := .ref (ad 13)) hx hb hT hown hK hP 0 rfl rfl d_M_chunkEnd_16 ?_
        refine lv_bipush (v := nI 48) hx hb d_M_chunkEnd_19 (by decide) ?_
        refine lv_iload_n hx hb d_M_chunkEnd_21 rfl (lv_at hl 1 rfl) ?_
        refine st_imul hx hb d_M_chunkEnd_22 ?_
        refine lv_iload_n hx hb d_M_chunkEnd_23 rfl (lv_at hl 3 rfl) ?_
        refine st_iadd hx hb d_M_chunkEnd_24 ?_
        refine st_iald hx hb hK hP 8 0 rfl rfl (by omega) (by decide) d_M_chunkEnd_25 ?_
        refine st_top (show g 13 ((48 * lv) + k) = nI (ky k) from hky k (by omega)) ?_
        refine k_calli (va_runS (As := [.int (nI lv), .int (nI (ky k))]) (rest := []) ⟨hx, hb, hml, hown, hts⟩ (c_M_ends l D tk H.size lv (ky k) (wM tk h ad g la ++ tl)) (cwS 2 hts (gS t_1076 t_1077 t_9 t_1078) rfl rfl rfl (by decide +kernel) ⟨Nat.le_of_ble_eq_true rfl, Nat.le_of_ble_eq_true rfl⟩) (k_preS hP hK hD hnw) rfl rfl hl.1 rfl (lv_room (Nat.le_of_ble_eq_true rfl)) d_M_chunkEnd_26 hc0) hD hS hA (fun _ _ H locs hp26 hP hD hK hS => ?_)
        subst hp26
        replace hP : va_P D CC (wM tk h ad g la ++ tl) H := hP
        replace hD : va_D A (wM tk h ad g la ++ tl) := hD
        refine lv_if_ne hx hb d_M_chunkEnd_29 (tgt := 38) (by decide) (fun hc29 => ?_) (fun hc29 => ?_)
        · skip
          have hef : en lv (ky k) = true := Classical.byContradiction (fun q => hc29 (by rw [if_neg q]))
          refine lv_iload_n hx hb d_M_chunkEnd_38 rfl (lv_at hl 3 rfl) ?_
          refine lv_iconst (v := nI 1) hx hb d_M_chunkEnd_39 (by decide) ?_
          refine st_iadd hx hb d_M_chunkEnd_40 ?_
          exact k_iret (v := nI (k + 1)) hQ hx hb hr hlk hK hP hD hS () rfl (by rw [← hR, fs_stop (by first | (right; assumption) | (left; omega))]) d_M_chunkEnd_41
        · skip
          refine lv_iinc (k := 3) (v := nI (k + 1)) (lv' := [(3, .int (nI (k + 1))), (0, .ref h), (1, .int (nI lv)), (2, .int (nI i))]) hx hb d_M_chunkEnd_32 hl rfl (nI_add _ _) (by decide) rfl (fun ls hl => ?_)
          refine lv_goto hx hb d_M_chunkEnd_35 (tgt := 2) (by decide) ?_
          have hef : en lv (ky k) = false := by
            cases hq : en lv (ky k) with
            | false => rfl
            | true => rw [if_pos hq] at hc29; exact absurd hc29 (by decide)
          exact ih2 (k + 1) ls _ _ (by first | omega | simp_all) (by omega) ((fs_go (f := (fun j => en lv (ky j))) (by omega) hef).symm.trans hR) (lv_sub hl [1, 2, 3, 0] rfl) hP hD hS
  exact key2 _ i ls _ _ (Nat.lt_succ_self _) (by omega) rfl (lv_sub hl [1, 2, 3, 0] rfl) hP hD hS

set_option maxHeartbeats 4000000 in
set_option maxRecDepth 100000 in
theorem c_M_chunkOf (l : Launch) (D : va_G) (tk : Nat → ClassId) (sz : Nat) (h : Nat) (ad : Nat → Nat) (g : Nat → Nat → Int32) (la : Nat → Int64) (tl : va_W) (lv n i : Nat) (ky : Nat → Nat) (hlv : lv < 8) (hn : n ≤ 48) (hi : i < n) (hky : ∀ j, j < n → g 13 (48 * lv + j) = nI (ky j)) : Met l y_M_chunkOf w_M_chunkOf ({ frames := 2, cells := 0, slots := 0, locals := 43 }) (va_Pc [.ref h, .int (nI lv), .int (nI i)] (k_pre D (TY tk) sz (wM tk h ad g la ++ tl))) (va_Qi (fun (r : Int32) (_ : Unit) => r = nI (co_ (fun j => en lv (ky j)) i)) (fun u t => k_at D (TY tk) (va_A (wM tk h ad g la ++ tl) sz) ((fun _ => wM tk h ad g la ++ tl) u) t) (va_A (wM tk h ad g la ++ tl) sz)) 0 0 (va_A (wM tk h ad g la ++ tl) sz) := by
  refine k_ofW (fun A => va_Qi (fun (r : Int32) (_ : Unit) => r = nI (co_ (fun j => en lv (ky j)) i)) (fun u t => k_at D (TY tk) A ((fun _ => wM tk h ad g la ++ tl) u) t) A) (by decide) (Nat.le_of_ble_eq_true rfl) ?_
  intro p e s m args below meth c Q A ls hQ hx hb hr hlk hin hts hT hown hml hnw hP hK hD hA hsz hl
  have hS : va_S A s.heap s.heap [] := va_S.rf
  have hc0 : 0 + 0 ≤ 0 ∧ 0 + 0 ≤ 0 := ⟨by decide, by decide⟩
  replace hl : lv_has ls 4 [(0, .ref h), (1, .int (nI lv)), (2, .int (nI i))] := hl
  replace hP : va_P D CC (wM tk h ad g la ++ tl) s.heap := hP
  replace hK : va_K D CC (TY tk) s := hK
  refine lv_iload_n hx hb d_M_chunkOf_0 rfl (lv_at hl 2 rfl) ?_
  refine lv_istore_n (lv' := [(3, .int (nI i)), (0, .ref h), (1, .int (nI lv)), (2, .int (nI i))]) hx hb d_M_chunkOf_1 rfl hl (by decide) rfl (fun ls hl => ?_)
  have key2 : ∀ (n2 : Nat) (k : Nat) (ls : Array Slot) (H : Heap) (locs : List Loc), k < n2 → (k ≤ i) → (co_ (fun j => en lv (ky j)) k = co_ (fun j => en lv (ky j)) i) → lv_has ls 4 [(0, .ref h), (1, .int (nI lv)), (2, .int (nI i)), (3, .int (nI k))] → va_P D CC (wM tk h ad g la ++ tl) H → va_D A (wM tk h ad g la ++ tl) → va_S A s.heap H locs → W p l e ({ frames := 2, cells := 0, slots := 0, locals := 43 } : Room) s m args below meth c H locs 0 0 Q (F0 m 2 ls []) := by
    intro n2
    induction n2 with
    | zero => intro k ls H locs hn; exact absurd hn (Nat.not_lt_zero _)
    | succ n2 ih2 =>
      intro k ls H locs hn2 hk hR hl hP hD hS
      refine lv_iload_n hx hb d_M_chunkOf_2 rfl (lv_at hl 3 rfl) ?_
      refine st_if_le hx hb (by omega) d_M_chunkOf_3 (tgt := 32) (by decide) (fun hc3 => ?_) (fun hc3 => ?_)
      · skip
        refine lv_iload_n hx hb d_M_chunkOf_32 rfl (lv_at hl 3 rfl) ?_
        exact k_iret (v := nI k) hQ hx hb hr hlk hK hP hD hS () rfl (by rw [← hR]; first | (rw [show k = 0 by omega]; rfl) | (obtain ⟨q, rfl⟩ : ∃ q, k = q + 1 := ⟨k - 1, by omega⟩; unfold co_; rw [if_pos (by simpa using hef)])) d_M_chunkOf_33
      · skip
        refine lv_iload_n hx hb d_M_chunkOf_6 rfl (lv_at hl 1 rfl) ?_
        refine lv_aload_n hx hb d_M_chunkOf_7 rfl (lv_at hl 0 rfl) ?_
        refine gf_M_33 (v := .ref (ad 13)) hx hb hT hown hK hP 0 rfl rfl d_M_chunkOf_8 ?_
        refine lv_bipush (v := nI 48) hx hb d_M_chunkOf_11 (by decide) ?_
        refine lv_iload_n hx hb d_M_chunkOf_13 rfl (lv_at hl 1 rfl) ?_
        refine st_imul hx hb d_M_chunkOf_14 ?_
        refine lv_iload_n hx hb d_M_chunkOf_15 rfl (lv_at hl 3 rfl) ?_
        refine st_iadd hx hb d_M_chunkOf_16 ?_
        refine lv_iconst (v := nI 1) hx hb d_M_chunkOf_17 (by decide) ?_
        refine st_isub hx hb (by omega) d_M_chunkOf_18 ?_
        refine st_iald hx hb hK hP 8 0 rfl rfl (by omega) (by decide) d_M_chunkOf_19 ?_
        refine st_top (show g 13 (((48 * lv) + k) - 1) = nI (ky (k - 1)) from by rw [show 48 * lv + k - 1 = 48 * lv + (k - 1) by omega]; exact hky (k - 1) (by omega)) ?_
        refine k_calli (va_runS (As := [.int (nI lv), .int (nI (ky (k - 1)))]) (rest := []) ⟨hx, hb, hml, hown, hts⟩ (c_M_ends l D tk H.size lv (ky (k - 1)) (wM tk h ad g la ++ tl)) (cwS 2 hts (gS t_1076 t_1077 t_9 t_1078) rfl rfl rfl (by decide +kernel) ⟨Nat.le_of_ble_eq_true rfl, Nat.le_of_ble_eq_true rfl⟩) (k_preS hP hK hD hnw) rfl rfl hl.1 rfl (lv_room (Nat.le_of_ble_eq_true rfl)) d_M_chunkOf_20 hc0) hD hS hA (fun _ _ H locs hp20 hP hD hK hS => ?_)
        subst hp20
        replace hP : va_P D CC (wM tk h ad g la ++ tl) H := hP
        replace hD : va_D A (wM tk h ad g la ++ tl) := hD
        refine lv_if_ne hx hb d_M_chunkOf_23 (tgt := 32) (by decide) (fun hc23 => ?_) (fun hc23 => ?_)
        · skip
          have hef : en lv (ky (k - 1)) = true := Classical.byContradiction (fun q => hc23 (by rw [if_neg q]))
          refine lv_iload_n hx hb d_M_chunkOf_32 rfl (lv_at hl 3 rfl) ?_
          exact k_iret (v := nI k) hQ hx hb hr hlk hK hP hD hS () rfl (by rw [← hR]; first | (rw [show k = 0 by omega]; rfl) | (obtain ⟨q, rfl⟩ : ∃ q, k = q + 1 := ⟨k - 1, by omega⟩; unfold co_; rw [if_pos (by simpa using hef)])) d_M_chunkOf_33
        · skip
          refine lv_iinc (k := 3) (v := nI (k - 1)) (lv' := [(3, .int (nI (k - 1))), (0, .ref h), (1, .int (nI lv)), (2, .int (nI i))]) hx hb d_M_chunkOf_26 hl rfl (sb_m1 (by omega)) (by decide) rfl (fun ls hl => ?_)
          refine lv_goto hx hb d_M_chunkOf_29 (tgt := 2) (by decide) ?_
          have hef : ¬ en lv (ky (k - 1)) = true := fun q => by rw [if_pos q] at hc23; exact absurd hc23 (by decide)
          exact ih2 (k - 1) ls _ _ (by first | omega | simp_all) (by omega) (by
            obtain ⟨k, rfl⟩ : ∃ q, k = q + 1 := ⟨k - 1, by omega⟩
            rw [← hR]; conv => rhs; unfold co_
            rw [if_neg (by simpa using hef)]; rfl) (lv_sub hl [1, 2, 3, 0] rfl) hP hD hS
  exact key2 _ i ls _ _ (Nat.lt_succ_self _) (by omega) rfl (lv_sub hl [1, 2, 3, 0] rfl) hP hD hS

set_option maxHeartbeats 4000000 in
set_option maxRecDepth 100000 in
theorem c_M_choose13 (l : Launch) (D : va_G) (tk : Nat → ClassId) (sz : Nat) (h : Nat) (ad : Nat → Nat) (g : Nat → Nat → Int32) (la : Nat → Int64) (tl : va_W) (fr to key : Nat) (ky : Nat → Nat) (hto : to ≤ 384) (hfr : fr < to) (hkb : key < 256) (hky : ∀ j, fr ≤ j → j < to → g 13 j = nI (ky j) ∧ ky j < 256) : Met l y_M_choose w_M_choose ({ frames := 0, cells := 0, slots := 0, locals := 0 }) (va_Pc [.ref (ad 13), .int (nI fr), .int (nI to), .int (nI key)] (k_pre D (TY tk) sz (wM tk h ad g la ++ tl))) (va_Qi (fun (r : Int32) (_ : Unit) => r = nI (fs_ (fun j => decide (key ≤ ky j)) to fr)) (fun u t => k_at D (TY tk) (va_A (wM tk h ad g la ++ tl) sz) ((fun _ => wM tk h ad g la ++ tl) u) t) (va_A (wM tk h ad g la ++ tl) sz)) 0 0 (va_A (wM tk h ad g la ++ tl) sz) := by
  refine k_ofW (fun A => va_Qi (fun (r : Int32) (_ : Unit) => r = nI (fs_ (fun j => decide (key ≤ ky j)) to fr)) (fun u t => k_at D (TY tk) A ((fun _ => wM tk h ad g la ++ tl) u) t) A) (by decide) (Nat.le_of_ble_eq_true rfl) ?_
  intro p e s m args below meth c Q A ls hQ hx hb hr hlk hin hts hT hown hml hnw hP hK hD hA hsz hl
  have hS : va_S A s.heap s.heap [] := va_S.rf
  have hc0 : 0 + 0 ≤ 0 ∧ 0 + 0 ≤ 0 := ⟨by decide, by decide⟩
  replace hl : lv_has ls 5 [(0, .ref (ad 13)), (1, .int (nI fr)), (2, .int (nI to)), (3, .int (nI key))] := hl
  replace hP : va_P D CC (wM tk h ad g la ++ tl) s.heap := hP
  replace hK : va_K D CC (TY tk) s := hK
  refine lv_iload_n hx hb d_M_choose_0 rfl (lv_at hl 1 rfl) ?_
  refine lv_istore (lv' := [(4, .int (nI fr)), (0, .ref (ad 13)), (1, .int (nI fr)), (2, .int (nI to)), (3, .int (nI key))]) hx hb d_M_choose_1 hl (by decide) rfl (fun ls hl => ?_)
  have key3 : ∀ (n3 : Nat) (k : Nat) (ls : Array Slot) (H : Heap) (locs : List Loc), to - k < n3 → (fr ≤ k ∧ k < to) → (fs_ (fun j => decide (key ≤ ky j)) to k = fs_ (fun j => decide (key ≤ ky j)) to fr) → lv_has ls 5 [(0, .ref (ad 13)), (1, .int (nI fr)), (2, .int (nI to)), (3, .int (nI key)), (4, .int (nI k))] → va_P D CC (wM tk h ad g la ++ tl) H → va_D A (wM tk h ad g la ++ tl) → va_S A s.heap H locs → W p l e ({ frames := 0, cells := 0, slots := 0, locals := 0 } : Room) s m args below meth c H locs 0 0 Q (F0 m 3 ls []) := by
    intro n3
    induction n3 with
    | zero => intro k ls H locs hn; exact absurd hn (Nat.not_lt_zero _)
    | succ n3 ih3 =>
      intro k ls H locs hn3 hk hR hl hP hD hS
      refine lv_iload hx hb d_M_choose_3 (lv_at hl 4 rfl) ?_
      refine lv_iload_n hx hb d_M_choose_5 rfl (lv_at hl 2 rfl) ?_
      refine lv_iconst (v := nI 1) hx hb d_M_choose_6 (by decide) ?_
      refine st_isub hx hb (by omega) d_M_choose_7 ?_
      refine st_icmp_ge hx hb (by omega) (by omega) d_M_choose_8 (tgt := 25) (by decide) (fun hc8 => ?_) (fun hc8 => ?_)
      · skip
        refine lv_iload hx hb d_M_choose_25 (lv_at hl 4 rfl) ?_
        exact k_iret (v := nI k) hQ hx hb hr hlk hK hP hD hS () rfl (by rw [← hR, fs_stop (by first | (left; omega) | (right; exact decide_eq_true (by omega)))]) d_M_choose_27
      · skip
        refine lv_aload_n hx hb d_M_choose_11 rfl (lv_at hl 0 rfl) ?_
        refine lv_iload hx hb d_M_choose_12 (lv_at hl 4 rfl) ?_
        refine st_iald hx hb hK hP 8 0 rfl rfl (by omega) (by decide) d_M_choose_14 ?_
        refine st_top (show g 13 k = nI (ky k) from (hky k hk.1 (by omega)).1) ?_
        have hkyb := (hky k hk.1 (by omega)).2
        refine lv_iload_n hx hb d_M_choose_15 rfl (lv_at hl 3 rfl) ?_
        refine st_icmp_ge hx hb (by omega) (by omega) d_M_choose_16 (tgt := 25) (by decide) (fun hc16 => ?_) (fun hc16 => ?_)
        · skip
          refine lv_iload hx hb d_M_choose_25 (lv_at hl 4 rfl) ?_
          exact k_iret (v := nI k) hQ hx hb hr hlk hK hP hD hS () rfl (by rw [← hR, fs_stop (by first | (left; omega) | (right; exact decide_eq_true (by omega)))]) d_M_choose_27
        · skip
          refine lv_iinc (k := 4) (v := nI (k + 1)) (lv' := [(4, .int (nI (k + 1))), (0, .ref (ad 13)), (1, .int (nI fr)), (2, .int (nI to)), (3, .int (nI key))]) hx hb d_M_choose_19 hl rfl (nI_add _ _) (by decide) rfl (fun ls hl => ?_)
          refine lv_goto hx hb d_M_choose_22 (tgt := 3) (by decide) ?_
          exact ih3 (k + 1) ls _ _ (by first | omega | simp_all) (by omega) ((fs_go (f := (fun j => decide (key ≤ ky j))) (by omega) (decide_eq_false (by omega))).symm.trans hR) (lv_sub hl [1, 2, 3, 4, 0] rfl) hP hD hS
  exact key3 _ fr ls _ _ (Nat.lt_succ_self _) (by omega) rfl (lv_sub hl [1, 2, 3, 4, 0] rfl) hP hD hS

set_option maxHeartbeats 4000000 in
set_option maxRecDepth 100000 in
theorem c_M_choose30 (l : Launch) (D : va_G) (tk : Nat → ClassId) (sz : Nat) (h : Nat) (ad : Nat → Nat) (g : Nat → Nat → Int32) (la : Nat → Int64) (tl : va_W) (fr to key : Nat) (ky : Nat → Nat) (hto : to ≤ 48) (hfr : fr < to) (hkb : key < 256) (hky : ∀ j, fr ≤ j → j < to → g 30 j = nI (ky j) ∧ ky j < 256) : Met l y_M_choose w_M_choose ({ frames := 0, cells := 0, slots := 0, locals := 0 }) (va_Pc [.ref (ad 30), .int (nI fr), .int (nI to), .int (nI key)] (k_pre D (TY tk) sz (wM tk h ad g la ++ tl))) (va_Qi (fun (r : Int32) (_ : Unit) => r = nI (fs_ (fun j => decide (key ≤ ky j)) to fr)) (fun u t => k_at D (TY tk) (va_A (wM tk h ad g la ++ tl) sz) ((fun _ => wM tk h ad g la ++ tl) u) t) (va_A (wM tk h ad g la ++ tl) sz)) 0 0 (va_A (wM tk h ad g la ++ tl) sz) := by
  refine k_ofW (fun A => va_Qi (fun (r : Int32) (_ : Unit) => r = nI (fs_ (fun j => decide (key ≤ ky j)) to fr)) (fun u t => k_at D (TY tk) A ((fun _ => wM tk h ad g la ++ tl) u) t) A) (by decide) (Nat.le_of_ble_eq_true rfl) ?_
  intro p e s m args below meth c Q A ls hQ hx hb hr hlk hin hts hT hown hml hnw hP hK hD hA hsz hl
  have hS : va_S A s.heap s.heap [] := va_S.rf
  have hc0 : 0 + 0 ≤ 0 ∧ 0 + 0 ≤ 0 := ⟨by decide, by decide⟩
  replace hl : lv_has ls 5 [(0, .ref (ad 30)), (1, .int (nI fr)), (2, .int (nI to)), (3, .int (nI key))] := hl
  replace hP : va_P D CC (wM tk h ad g la ++ tl) s.heap := hP
  replace hK : va_K D CC (TY tk) s := hK
  refine lv_iload_n hx hb d_M_choose_0 rfl (lv_at hl 1 rfl) ?_
  refine lv_istore (lv' := [(4, .int (nI fr)), (0, .ref (ad 30)), (1, .int (nI fr)), (2, .int (nI to)), (3, .int (nI key))]) hx hb d_M_choose_1 hl (by decide) rfl (fun ls hl => ?_)
  have key3 : ∀ (n3 : Nat) (k : Nat) (ls : Array Slot) (H : Heap) (locs : List Loc), to - k < n3 → (fr ≤ k ∧ k < to) → (fs_ (fun j => decide (key ≤ ky j)) to k = fs_ (fun j => decide (key ≤ ky j)) to fr) → lv_has ls 5 [(0, .ref (ad 30)), (1, .int (nI fr)), (2, .int (nI to)), (3, .int (nI key)), (4, .int (nI k))] → va_P D CC (wM tk h ad g la ++ tl) H → va_D A (wM tk h ad g la ++ tl) → va_S A s.heap H locs → W p l e ({ frames := 0, cells := 0, slots := 0, locals := 0 } : Room) s m args below meth c H locs 0 0 Q (F0 m 3 ls []) := by
    intro n3
    induction n3 with
    | zero => intro k ls H locs hn; exact absurd hn (Nat.not_lt_zero _)
    | succ n3 ih3 =>
      intro k ls H locs hn3 hk hR hl hP hD hS
      refine lv_iload hx hb d_M_choose_3 (lv_at hl 4 rfl) ?_
      refine lv_iload_n hx hb d_M_choose_5 rfl (lv_at hl 2 rfl) ?_
      refine lv_iconst (v := nI 1) hx hb d_M_choose_6 (by decide) ?_
      refine st_isub hx hb (by omega) d_M_choose_7 ?_
      refine st_icmp_ge hx hb (by omega) (by omega) d_M_choose_8 (tgt := 25) (by decide) (fun hc8 => ?_) (fun hc8 => ?_)
      · skip
        refine lv_iload hx hb d_M_choose_25 (lv_at hl 4 rfl) ?_
        exact k_iret (v := nI k) hQ hx hb hr hlk hK hP hD hS () rfl (by rw [← hR, fs_stop (by first | (left; omega) | (right; exact decide_eq_true (by omega)))]) d_M_choose_27
      · skip
        refine lv_aload_n hx hb d_M_choose_11 rfl (lv_at hl 0 rfl) ?_
        refine lv_iload hx hb d_M_choose_12 (lv_at hl 4 rfl) ?_
        refine st_iald hx hb hK hP 18 0 rfl rfl (by omega) (by decide) d_M_choose_14 ?_
        refine st_top (show g 30 k = nI (ky k) from (hky k hk.1 (by omega)).1) ?_
        have hkyb := (hky k hk.1 (by omega)).2
        refine lv_iload_n hx hb d_M_choose_15 rfl (lv_at hl 3 rfl) ?_
        refine st_icmp_ge hx hb (by omega) (by omega) d_M_choose_16 (tgt := 25) (by decide) (fun hc16 => ?_) (fun hc16 => ?_)
        · skip
          refine lv_iload hx hb d_M_choose_25 (lv_at hl 4 rfl) ?_
          exact k_iret (v := nI k) hQ hx hb hr hlk hK hP hD hS () rfl (by rw [← hR, fs_stop (by first | (left; omega) | (right; exact decide_eq_true (by omega)))]) d_M_choose_27
        · skip
          refine lv_iinc (k := 4) (v := nI (k + 1)) (lv' := [(4, .int (nI (k + 1))), (0, .ref (ad 30)), (1, .int (nI fr)), (2, .int (nI to)), (3, .int (nI key))]) hx hb d_M_choose_19 hl rfl (nI_add _ _) (by decide) rfl (fun ls hl => ?_)
          refine lv_goto hx hb d_M_choose_22 (tgt := 3) (by decide) ?_
          exact ih3 (k + 1) ls _ _ (by first | omega | simp_all) (by omega) ((fs_go (f := (fun j => decide (key ≤ ky j))) (by omega) (decide_eq_false (by omega))).symm.trans hR) (lv_sub hl [1, 2, 3, 4, 0] rfl) hP hD hS
  exact key3 _ fr ls _ _ (Nat.lt_succ_self _) (by omega) rfl (lv_sub hl [1, 2, 3, 4, 0] rfl) hP hD hS

set_option maxHeartbeats 4000000 in
set_option maxRecDepth 100000 in
theorem c_M_range (l : Launch) (D : va_G) (tk : Nat → ClassId) (sz : Nat) (h : Nat) (ad : Nat → Nat) (g : Nat → Nat → Int32) (la : Nat → Int64) (tl : va_W) (V : Nat) (hV1 : 1 ≤ V) (hV2 : V ≤ 16) (hV : g 3 0 = nI V) (v lo hi : Int32) : Met l y_M_range w_M_range ({ frames := 2, cells := 0, slots := 0, locals := 43 }) (va_Pc [.ref h, .int v, .int lo, .int hi] (k_pre D (TY tk) sz (wM tk h ad g la ++ tl))) (va_Qi (fun (r : Int32) (_ : Unit) => r = if v < nI 0 ∨ g 3 0 - nI 1 < v then 0 else nI (rgF g v.toNatClampNeg lo hi 48)) (fun u t => k_at D (TY tk) (va_A (wM tk h ad g la ++ tl) sz) ((fun _ => wM tk h ad (if v < nI 0 ∨ g 3 0 - nI 1 < v then mup g 0 0 (nI 1) else mup g 0 0 (nI 0)) la ++ tl) u) t) (va_A (wM tk h ad g la ++ tl) sz)) 0 0 (va_A (wM tk h ad g la ++ tl) sz) := by
  refine k_ofW (fun A => va_Qi (fun (r : Int32) (_ : Unit) => r = if v < nI 0 ∨ g 3 0 - nI 1 < v then 0 else nI (rgF g v.toNatClampNeg lo hi 48)) (fun u t => k_at D (TY tk) A ((fun _ => wM tk h ad (if v < nI 0 ∨ g 3 0 - nI 1 < v then mup g 0 0 (nI 1) else mup g 0 0 (nI 0)) la ++ tl) u) t) A) (by decide) (Nat.le_of_ble_eq_true rfl) ?_
  intro p e s m args below meth c Q A ls hQ hx hb hr hlk hin hts hT hown hml hnw hP hK hD hA hsz hl
  have hS : va_S A s.heap s.heap [] := va_S.rf
  have hc0 : 0 + 0 ≤ 0 ∧ 0 + 0 ≤ 0 := ⟨by decide, by decide⟩
  replace hl : lv_has ls 6 [(0, .ref h), (1, .int v), (2, .int lo), (3, .int hi)] := hl
  replace hP : va_P D CC (wM tk h ad g la ++ tl) s.heap := hP
  replace hK : va_K D CC (TY tk) s := hK
  refine lv_aload_n hx hb d_M_range_0 rfl (lv_at hl 0 rfl) ?_
  refine lv_iload_n hx hb d_M_range_1 rfl (lv_at hl 1 rfl) ?_
  refine k_calli (va_runV (As := [.int v]) (rest := []) ⟨hx, hb, hml, hown, hts⟩ (c_M_isVersion l D tk s.heap.size h ad g la tl v ) (cwV 1 hts (gV t_1123 t_1125 s_27 t_9 t_1126) rfl rfl rfl (by decide +kernel) ⟨Nat.le_of_ble_eq_true rfl, Nat.le_of_ble_eq_true rfl⟩) (k_preV hP hK hD hnw 0 rfl rfl) rfl rfl hl.1 rfl (lv_room (Nat.le_of_ble_eq_true rfl)) d_M_range_2 hc0) hD hS hA (fun _ _ H locs hp2 hP hD hK hS => ?_)
  subst hp2
  replace hP : va_P D CC (wM tk h ad g la ++ tl) H := hP
  replace hD : va_D A (wM tk h ad g la ++ tl) := hD
  refine lv_if_ne hx hb d_M_range_5 (tgt := 14) (by decide) (fun hc5 => ?_) (fun hc5 => ?_)
  · skip
    have hn9 : ¬ (v < nI 0 ∨ g 3 0 - nI 1 < v) := fun q => hc5 (by unfold ivM; rw [if_pos q]; rfl)
    obtain ⟨j, hj, rfl⟩ := m_idx hV hV2 hn9
    refine lv_aload_n hx hb d_M_range_14 rfl (lv_at hl 0 rfl) ?_
    refine lv_iconst (v := nI 0) hx hb d_M_range_15 (by decide) ?_
    refine pf_M_73 hx hb hT hown hK hP hD hS 0 rfl (Nat.le_of_ble_eq_true rfl) d_M_range_16 (fun H locs hP hD hS => ?_)
    replace hP : va_P D CC (wM tk h ad (mup g 0 0 (nI 0)) la ++ tl) H := hP
    replace hD : va_D A (wM tk h ad (mup g 0 0 (nI 0)) la ++ tl) := hD
    refine lv_iconst (v := nI 0) hx hb d_M_range_19 (by decide) ?_
    refine lv_istore (lv' := [(4, .int (nI 0)), (0, .ref h), (1, .int (nI j)), (2, .int lo), (3, .int hi)]) hx hb d_M_range_20 hl (by decide) rfl (fun ls hl => ?_)
    refine lv_iconst (v := nI 0) hx hb d_M_range_22 (by decide) ?_
    refine lv_istore (lv' := [(5, .int (nI 0)), (4, .int (nI 0)), (0, .ref h), (1, .int (nI j)), (2, .int lo), (3, .int hi)]) hx hb d_M_range_23 hl (by decide) rfl (fun ls hl => ?_)
    have key25 : ∀ (n25 : Nat) (k : Nat) (ls : Array Slot) (H : Heap) (locs : List Loc), 48 - k < n25 → (k ≤ 48) → lv_has ls 6 [(0, .ref h), (1, .int (nI j)), (2, .int lo), (3, .int hi), (4, .int (nI (rgF g j lo hi k))), (5, .int (nI k))] → va_P D CC (wM tk h ad (mup g 0 0 (nI 0)) la ++ tl) H → va_D A (wM tk h ad (mup g 0 0 (nI 0)) la ++ tl) → va_S A s.heap H locs → W p l e ({ frames := 2, cells := 0, slots := 0, locals := 43 } : Room) s m args below meth c H locs 0 0 Q (F0 m 25 ls []) := by
      intro n25
      induction n25 with
      | zero => intro k ls H locs hn; exact absurd hn (Nat.not_lt_zero _)
      | succ n25 ih25 =>
        intro k ls H locs hn25 hk hl hP hD hS
        refine lv_iload hx hb d_M_range_25 (lv_at hl 5 rfl) ?_
        refine lv_bipush (v := nI 48) hx hb d_M_range_27 (by decide) ?_
        refine st_icmp_ge hx hb (by omega) (by omega) d_M_range_29 (tgt := 76) (by decide) (fun hc29 => ?_) (fun hc29 => ?_)
        · skip
          refine lv_iload hx hb d_M_range_76 (lv_at hl 4 rfl) ?_
          exact k_iret (v := nI (rgF g j lo hi k)) hQ hx hb hr hlk hK hP hD hS () (by (iterate 4 (try (first | rw [if_pos (by assumption)] | rw [if_neg (by assumption)]))); try rfl) (by (try rw [nI_clamp (by omega)]); (try rw [show k = 48 by omega]); (iterate 4 (try (first | rw [if_pos (by assumption)] | rw [if_neg (by assumption)]))); try rfl) d_M_range_78
        · skip
          refine lv_aload_n hx hb d_M_range_32 rfl (lv_at hl 0 rfl) ?_
          refine gf_M_7 (v := .ref (ad 1)) hx hb hT hown hK hP 0 rfl rfl d_M_range_33 ?_
          refine lv_bipush (v := nI 48) hx hb d_M_range_36 (by decide) ?_
          refine lv_iload_n hx hb d_M_range_38 rfl (lv_at hl 1 rfl) ?_
          refine st_imul hx hb d_M_range_39 ?_
          refine lv_iload hx hb d_M_range_40 (lv_at hl 5 rfl) ?_
          refine st_iadd hx hb d_M_range_42 ?_
          refine st_zald hx hb hK hP 1 1 rfl rfl (by omega) (by decide) d_M_range_43 ?_
          refine lv_if_eq hx hb d_M_range_44 (tgt := 66) (by decide) (fun hc44 => ?_) (fun hc44 => ?_)
          · skip
            refine lv_iload hx hb d_M_range_66 (lv_at hl 4 rfl) ?_
            refine lv_istore (lv' := [(4, .int (nI (rgF g j lo hi k))), (0, .ref h), (1, .int (nI j)), (2, .int lo), (3, .int hi), (5, .int (nI k))]) hx hb d_M_range_68 hl (by decide) rfl (fun ls hl => ?_)
            refine lv_iinc (k := 5) (v := nI (k + 1)) (lv' := [(5, .int (nI (k + 1))), (4, .int (nI (rgF g j lo hi k))), (0, .ref h), (1, .int (nI j)), (2, .int lo), (3, .int hi)]) hx hb d_M_range_70 hl rfl (nI_add _ _) (by decide) rfl (fun ls hl => ?_)
            refine lv_goto hx hb d_M_range_73 (tgt := 25) (by decide) ?_
            have hrr : rgF g j lo hi k = rgF g j lo hi (k + 1) := by rw [rgF_succ]; first | rw [if_pos (by first | (left; assumption) | (right; left; assumption) | (right; right; assumption))] | rw [if_neg (by rintro (q | q | q) <;> contradiction)]
            rw [hrr] at hl
            exact ih25 (k + 1) ls _ _ (by first | omega | simp_all) (by omega) (lv_sub hl [2, 3, 4, 5, 1, 0] rfl) hP hD hS
          · skip
            refine lv_iload hx hb d_M_range_47 (lv_at hl 5 rfl) ?_
            refine lv_iload_n hx hb d_M_range_49 rfl (lv_at hl 2 rfl) ?_
            refine lv_icmp_lt hx hb d_M_range_50 (tgt := 66) (by decide) (fun hc50 => ?_) (fun hc50 => ?_)
            · skip
              refine lv_iload hx hb d_M_range_66 (lv_at hl 4 rfl) ?_
              refine lv_istore (lv' := [(4, .int (nI (rgF g j lo hi k))), (0, .ref h), (1, .int (nI j)), (2, .int lo), (3, .int hi), (5, .int (nI k))]) hx hb d_M_range_68 hl (by decide) rfl (fun ls hl => ?_)
              refine lv_iinc (k := 5) (v := nI (k + 1)) (lv' := [(5, .int (nI (k + 1))), (4, .int (nI (rgF g j lo hi k))), (0, .ref h), (1, .int (nI j)), (2, .int lo), (3, .int hi)]) hx hb d_M_range_70 hl rfl (nI_add _ _) (by decide) rfl (fun ls hl => ?_)
              refine lv_goto hx hb d_M_range_73 (tgt := 25) (by decide) ?_
              have hrr : rgF g j lo hi k = rgF g j lo hi (k + 1) := by rw [rgF_succ]; first | rw [if_pos (by first | (left; assumption) | (right; left; assumption) | (right; right; assumption))] | rw [if_neg (by rintro (q | q | q) <;> contradiction)]
              rw [hrr] at hl
              exact ih25 (k + 1) ls _ _ (by first | omega | simp_all) (by omega) (lv_sub hl [2, 3, 4, 5, 1, 0] rfl) hP hD hS
            · skip
              refine lv_iload hx hb d_M_range_53 (lv_at hl 5 rfl) ?_
              refine lv_iload_n hx hb d_M_range_55 rfl (lv_at hl 3 rfl) ?_
              refine lv_icmp_gt hx hb d_M_range_56 (tgt := 66) (by decide) (fun hc56 => ?_) (fun hc56 => ?_)
              · skip
                refine lv_iload hx hb d_M_range_66 (lv_at hl 4 rfl) ?_
                refine lv_istore (lv' := [(4, .int (nI (rgF g j lo hi k))), (0, .ref h), (1, .int (nI j)), (2, .int lo), (3, .int hi), (5, .int (nI k))]) hx hb d_M_range_68 hl (by decide) rfl (fun ls hl => ?_)
                refine lv_iinc (k := 5) (v := nI (k + 1)) (lv' := [(5, .int (nI (k + 1))), (4, .int (nI (rgF g j lo hi k))), (0, .ref h), (1, .int (nI j)), (2, .int lo), (3, .int hi)]) hx hb d_M_range_70 hl rfl (nI_add _ _) (by decide) rfl (fun ls hl => ?_)
                refine lv_goto hx hb d_M_range_73 (tgt := 25) (by decide) ?_
                have hrr : rgF g j lo hi k = rgF g j lo hi (k + 1) := by rw [rgF_succ]; first | rw [if_pos (by first | (left; assumption) | (right; left; assumption) | (right; right; assumption))] | rw [if_neg (by rintro (q | q | q) <;> contradiction)]
                rw [hrr] at hl
                exact ih25 (k + 1) ls _ _ (by first | omega | simp_all) (by omega) (lv_sub hl [2, 3, 4, 5, 1, 0] rfl) hP hD hS
              · skip
                refine lv_iload hx hb d_M_range_59 (lv_at hl 4 rfl) ?_
                refine lv_iconst (v := nI 1) hx hb d_M_range_61 (by decide) ?_
                refine st_iadd hx hb d_M_range_62 ?_
                refine lv_goto hx hb d_M_range_63 (tgt := 68) (by decide) ?_
                refine lv_istore (lv' := [(4, .int (nI ((rgF g j lo hi k) + 1))), (0, .ref h), (1, .int (nI j)), (2, .int lo), (3, .int hi), (5, .int (nI k))]) hx hb d_M_range_68 hl (by decide) rfl (fun ls hl => ?_)
                refine lv_iinc (k := 5) (v := nI (k + 1)) (lv' := [(5, .int (nI (k + 1))), (4, .int (nI ((rgF g j lo hi k) + 1))), (0, .ref h), (1, .int (nI j)), (2, .int lo), (3, .int hi)]) hx hb d_M_range_70 hl rfl (nI_add _ _) (by decide) rfl (fun ls hl => ?_)
                refine lv_goto hx hb d_M_range_73 (tgt := 25) (by decide) ?_
                have hrr : (rgF g j lo hi k) + 1 = rgF g j lo hi (k + 1) := by rw [rgF_succ]; first | rw [if_pos (by first | (left; assumption) | (right; left; assumption) | (right; right; assumption))] | rw [if_neg (by rintro (q | q | q) <;> contradiction)]
                rw [hrr] at hl
                exact ih25 (k + 1) ls _ _ (by first | omega | simp_all) (by omega) (lv_sub hl [2, 3, 4, 5, 1, 0] rfl) hP hD hS
    exact key25 _ 0 ls _ _ (Nat.lt_succ_self _) (by omega) (lv_sub hl [2, 3, 4, 5, 1, 0] rfl) hP hD hS
  · skip
    have hn9 : v < nI 0 ∨ g 3 0 - nI 1 < v := Classical.byContradiction (fun q => by unfold ivM at hc5; rw [if_neg q] at hc5; exact absurd hc5 (by decide))
    refine lv_aload_n hx hb d_M_range_8 rfl (lv_at hl 0 rfl) ?_
    refine lv_iconst (v := nI 1) hx hb d_M_range_9 (by decide) ?_
    refine k_calli (va_runV (As := [.int (nI 1)]) (rest := []) ⟨hx, hb, hml, hown, hts⟩ (c_M_refuse l D tk H.size h ad g la tl (nI 1) ) (cwV 1 hts (gV t_1060 t_1062 s_17 t_9 t_1063) rfl rfl rfl (by decide +kernel) ⟨Nat.le_of_ble_eq_true rfl, Nat.le_of_ble_eq_true rfl⟩) (k_preV hP hK hD hnw 0 rfl rfl) rfl rfl hl.1 rfl (lv_room (Nat.le_of_ble_eq_true rfl)) d_M_range_10 hc0) hD hS hA (fun _ _ H locs hp10 hP hD hK hS => ?_)
    subst hp10
    replace hP : va_P D CC (wM tk h ad (mup g 0 0 (nI 1)) la ++ tl) H := hP
    replace hD : va_D A (wM tk h ad (mup g 0 0 (nI 1)) la ++ tl) := hD
    exact k_iret (v := 0) hQ hx hb hr hlk hK hP hD hS () (by (iterate 4 (try (first | rw [if_pos (by assumption)] | rw [if_neg (by assumption)]))); try rfl) (by (try rw [nI_clamp (by omega)]); (try rw [show k = 48 by omega]); (iterate 4 (try (first | rw [if_pos (by assumption)] | rw [if_neg (by assumption)]))); try rfl) d_M_range_13
end
