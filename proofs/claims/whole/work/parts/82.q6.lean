section QQ
variable {p : Program} {l : Launch} {e : Env} {s : State} {m : MethodId} {below : List Frame} {meth : Method} {c : Code} {H : Heap} {locs : List Loc} {cells slots : Nat} {Q : State → Prop}
variable {b L : Nat} {xs : Nat → Int32} {D : va_G} {tk : Nat → ClassId} {ac am : Nat → Nat} {gc gm : Nat → Nat → Int32} {rr : Nat → Nat → Option Nat} {ao h : Nat} {fo : Nat → Int64} {la : Nat → Int64} {tl : va_W} {pc : Nat} {ls : Array Slot} {rest : List Value} {lv : List (Nat × Value)}
variable {n : Nat} {S : List ck_I} {ca : Nat → Nat} {bl : Nat → Nat → Option Nat} {f : Nat} {fm : Nat → Nat → Option Int32} {E : List (Nat × Nat × Nat × Nat)} {mp : Nat} {Xs : Nat → List kv_I} {V : Nat} {f0 : Nat → Option Int32} {B : List Int32} {ft : Nat → Int32} {t0 : Nat}

/-- the law goes on from pc: n calls are done, the index is 5 * i -/
def GO (p : Program) (l : Launch) (e : Env) (s : State) (m : MethodId) (below : List Frame) (meth : Method) (c : Code) (Q : State → Prop) (b : Nat) (D : va_G) (tk : Nat → ClassId) (ac am : Nat → Nat) (ao h : Nat) (n i cells slots pc : Nat) : Prop :=
  ∀ (gc : Nat → Nat → Int32) (rr : Nat → Nat → Option Nat) (fo : Nat → Int64) (gm : Nat → Nat → Int32) (la : Nat → Int64) (tl : va_W) (ls : Array Slot) (H : Heap) (locs : List Loc), J tk tl gc rr gm la n → lv_has ls 7 [(0, .ref b), (1, .ref (ac 0)), (2, .ref h), (3, .ref ao), (4, .int (nI (5 * i)))] → va_P D CC (wL tk ac gc rr ao fo h am gm la tl) H → va_D (AL s) (wL tk ac gc rr ao fo h am gm la tl) → va_S (AL s) s.heap H locs → W p l e room_1 s m #[Value.ref b] below meth c H locs cells slots Q (F0 m pc ls [])
set_option maxHeartbeats 4000000 in
set_option maxRecDepth 100000 in
theorem go_put (C : LC p l s m c b L xs D tk) (hn : 5 * n + 5 ≤ L) (hcl : cells + 156 ≤ 601024) (hsl : slots + 5856 ≤ 7293034) (kk : GO p l e s m below meth c Q b D tk ac am ao h (n + 1) n (cells + 156) (slots + 5856) 1056) : GO p l e s m below meth c Q b D tk ac am ao h n n cells slots 128 := by
  intro gc rr fo gm la tl ls H locs hJ hl hP hD hS
  obtain ⟨S, ca, bl, f, fm, E, mp, Xs, V, f0, B, ft, t0, hJ⟩ := hJ
  have C0 := C
  obtain ⟨⟨hx, hb, hml, hown⟩, hT, hnw, hxF, hK, ⟨hX, hbl, hL⟩, htr⟩ := C
  have hts := hts_of hT
  refine lv_aload_n hx hb d_law_128 rfl (lv_at hl 1 rfl) ?_
  refine q_arg C0 hS hl (i0 := 0) rfl (i4 := 4) rfl (j := 1) (by decide) (by omega) d_law_129 d_law_130 d_law_132 d_law_133 d_law_134 ?_
  refine q_arg C0 hS hl (i0 := 0) rfl (i4 := 4) rfl (j := 2) (by decide) (by omega) d_law_135 d_law_136 d_law_138 d_law_139 d_law_140 ?_
  refine q_put C0 hP hD hS hl hJ hcl hsl (fun r gc2 rr2 fo2 tl2 H locs hR hP hD hS => ?_)
  refine lv_istore (lv' := [(5, .int r), (0, .ref b), (1, .ref (ac 0)), (2, .ref h), (3, .ref ao), (4, .int (nI (5 * n)))]) hx hb d_law_144 hl (by decide) rfl (fun ls hl => ?_)
  refine lv_aload_n hx hb d_law_146 rfl (lv_at hl 3 rfl) ?_
  refine q_arg C0 hS hl (i0 := 1) rfl (i4 := 5) rfl (j := 1) (by decide) (by omega) d_law_147 d_law_148 d_law_150 d_law_151 d_law_152 ?_
  refine q_arg C0 hS hl (i0 := 1) rfl (i4 := 5) rfl (j := 2) (by decide) (by omega) d_law_153 d_law_154 d_law_156 d_law_157 d_law_158 ?_
  have hP2 := vP_perm (wL_pm tk ac gc2 rr2 ao fo2 h am gm la tl2) hP
  have hD2 := vD_perm (wL_pm tk ac gc2 rr2 ao fo2 h am gm la tl2) hD
  refine k_callv (va_runV (As := [.int (xs (5 * n + 1)), .int (xs (5 * n + 2))]) (rest := []) ⟨hx, hb, hml, hown, hts⟩ (c_M_put l D tk H.size h am gm la (wR tk ac gc2 rr2 ao fo2 tl2) (xs (5 * n + 1)) (xs (5 * n + 2))) (cwV 2 hts (gV t_1033 t_1034 t_1035 t_9 t_1036) rfl rfl rfl (by decide +kernel) ⟨Nat.le_of_ble_eq_true rfl, Nat.le_of_ble_eq_true rfl⟩) (k_preV hP2 hK hD2 hnw 0 rfl rfl) rfl rfl hl.1 rfl (lv_room (Nat.le_of_ble_eq_true rfl)) d_law_159 ⟨by show cells + 156 + 0 ≤ 601024; omega, by show slots + 5856 + 0 ≤ 7293034; omega⟩) hD2 hS AL_in (fun u9 H locs hpM hP hD hK hS => ?_)
  replace hP := vP_perm (wL_pm tk ac gc2 rr2 ao fo2 h am (putM gm (xs (5 * n + 1)) (xs (5 * n + 2))) la tl2).symm hP
  replace hD := vD_perm (wL_pm tk ac gc2 rr2 ao fo2 h am (putM gm (xs (5 * n + 1)) (xs (5 * n + 2))) la tl2).symm hD
  obtain ⟨hJ2, h02, ho2⟩ := hR 0 (putM gm (xs (5 * n + 1)) (xs (5 * n + 2))) la ⟨rfl, rfl⟩
  refine q_thr C0 hP hD hS hl (by omega) (by omega) (i2 := 3) rfl (i5 := 0) rfl h02 d_law_162 d_law_163 d_law_166 d_law_168 (fun H locs hP hD hS => ?_)
  refine lv_goto hx hb d_law_173 (tgt := 1056) (by decide) ?_
  exact kk gc2 rr2 fo2 (putM gm (xs (5 * n + 1)) (xs (5 * n + 2))) la tl2 ls H locs hJ2 (lv_sub hl [1, 2, 3, 4, 5] rfl) hP hD hS
set_option maxHeartbeats 4000000 in
set_option maxRecDepth 100000 in
theorem go_delete (C : LC p l s m c b L xs D tk) (hn : 5 * n + 5 ≤ L) (hcl : cells + 156 ≤ 601024) (hsl : slots + 5856 ≤ 7293034) (kk : GO p l e s m below meth c Q b D tk ac am ao h (n + 1) n (cells + 156) (slots + 5856) 1056) : GO p l e s m below meth c Q b D tk ac am ao h n n cells slots 176 := by
  intro gc rr fo gm la tl ls H locs hJ hl hP hD hS
  obtain ⟨S, ca, bl, f, fm, E, mp, Xs, V, f0, B, ft, t0, hJ⟩ := hJ
  have C0 := C
  obtain ⟨⟨hx, hb, hml, hown⟩, hT, hnw, hxF, hK, ⟨hX, hbl, hL⟩, htr⟩ := C
  have hts := hts_of hT
  refine lv_aload_n hx hb d_law_176 rfl (lv_at hl 1 rfl) ?_
  refine q_arg C0 hS hl (i0 := 0) rfl (i4 := 4) rfl (j := 1) (by decide) (by omega) d_law_177 d_law_178 d_law_180 d_law_181 d_law_182 ?_
  refine lv_aload_n hx hb d_law_183 rfl (lv_at hl 3 rfl) ?_
  refine q_delete C0 hP hD hS hl hJ hcl hsl (fun r gc2 rr2 fo2 tl2 H locs hR hP hD hS => ?_)
  refine lv_istore (lv' := [(5, .int r), (0, .ref b), (1, .ref (ac 0)), (2, .ref h), (3, .ref ao), (4, .int (nI (5 * n)))]) hx hb d_law_187 hl (by decide) rfl (fun ls hl => ?_)
  refine lv_aload_n hx hb d_law_189 rfl (lv_at hl 3 rfl) ?_
  refine q_arg C0 hS hl (i0 := 1) rfl (i4 := 5) rfl (j := 1) (by decide) (by omega) d_law_190 d_law_191 d_law_193 d_law_194 d_law_195 ?_
  have hP2 := vP_perm (wL_pm tk ac gc2 rr2 ao fo2 h am gm la tl2) hP
  have hD2 := vD_perm (wL_pm tk ac gc2 rr2 ao fo2 h am gm la tl2) hD
  refine k_calli (va_runV (As := [.int (xs (5 * n + 1))]) (rest := []) ⟨hx, hb, hml, hown, hts⟩ (c_M_delete l D tk H.size h am gm la (wR tk ac gc2 rr2 ao fo2 tl2) hJ.2.2.1.1.2 (xs (5 * n + 1))) (cwV 1 hts (gV t_1044 t_1045 t_1046 t_9 t_1047) rfl rfl rfl (by decide +kernel) ⟨Nat.le_of_ble_eq_true rfl, Nat.le_of_ble_eq_true rfl⟩) (k_preV hP2 hK hD2 hnw 0 rfl rfl) rfl rfl hl.1 rfl (lv_room (Nat.le_of_ble_eq_true rfl)) d_law_196 ⟨by show cells + 156 + 0 ≤ 601024; omega, by show slots + 5856 + 0 ≤ 7293034; omega⟩) hD2 hS AL_in (fun r6 u9 H locs hpM hP hD hK hS => ?_)
  replace hP := vP_perm (wL_pm tk ac gc2 rr2 ao fo2 h am (delM gm (xs (5 * n + 1))) la tl2).symm hP
  replace hD := vD_perm (wL_pm tk ac gc2 rr2 ao fo2 h am (delM gm (xs (5 * n + 1))) la tl2).symm hD
  obtain ⟨hJ2, h02, ho2⟩ := hR r6 (delM gm (xs (5 * n + 1))) la ⟨hpM, rfl, rfl⟩
  refine lv_istore (lv' := [(6, .int r6), (5, .int r), (0, .ref b), (1, .ref (ac 0)), (2, .ref h), (3, .ref ao), (4, .int (nI (5 * n)))]) hx hb d_law_199 hl (by decide) rfl (fun ls hl => ?_)
  refine q_thr C0 hP hD hS hl (by omega) (by omega) (i2 := 4) rfl (i5 := 1) rfl h02 d_law_201 d_law_202 d_law_205 d_law_207 (fun H locs hP hD hS => ?_)
  refine q_cmz C0 hP hD hS hl (i3 := 5) rfl (i5 := 1) rfl (i6 := 0) rfl ho2 d_law_212 d_law_214 d_law_217 d_law_218 d_law_219 d_law_220 d_law_222 d_law_225 d_law_226 d_law_229 d_law_230 d_law_231 ?_
  refine lv_goto hx hb d_law_236 (tgt := 1056) (by decide) ?_
  exact kk gc2 rr2 fo2 (delM gm (xs (5 * n + 1))) la tl2 ls H locs hJ2 (lv_sub hl [2, 3, 4, 5, 6] rfl) hP hD hS
set_option maxHeartbeats 4000000 in
set_option maxRecDepth 100000 in
theorem go_commit (C : LC p l s m c b L xs D tk) (hn : 5 * n + 5 ≤ L) (hcl : cells + 156 ≤ 601024) (hsl : slots + 5856 ≤ 7293034) (kk : GO p l e s m below meth c Q b D tk ac am ao h (n + 1) n (cells + 156) (slots + 5856) 1056) : GO p l e s m below meth c Q b D tk ac am ao h n n cells slots 239 := by
  intro gc rr fo gm la tl ls H locs hJ hl hP hD hS
  obtain ⟨S, ca, bl, f, fm, E, mp, Xs, V, f0, B, ft, t0, hJ⟩ := hJ
  have C0 := C
  obtain ⟨⟨hx, hb, hml, hown⟩, hT, hnw, hxF, hK, ⟨hX, hbl, hL⟩, htr⟩ := C
  have hts := hts_of hT
  have hmp : mp < 180 := by
    obtain ⟨-, ⟨⟨-, hV16⟩, -⟩, -, -, d, a, -, -, e3⟩ := hJ
    omega
  have hEl : E.length + 17 ≤ 3400 := by
    have := hJ.1.2.2.2.2.2.2
    omega
  refine lv_aload_n hx hb d_law_239 rfl (lv_at hl 1 rfl) ?_
  refine lv_aload_n hx hb d_law_240 rfl (lv_at hl 3 rfl) ?_
  refine q_commit C0 hP hD hS hl hJ hcl hsl (by omega) (fun r gc2 rr2 fo2 tl2 H locs hR hP hD hS => ?_)
  refine lv_istore (lv' := [(5, .int r), (0, .ref b), (1, .ref (ac 0)), (2, .ref h), (3, .ref ao), (4, .int (nI (5 * n)))]) hx hb d_law_244 hl (by decide) rfl (fun ls hl => ?_)
  refine lv_aload_n hx hb d_law_246 rfl (lv_at hl 3 rfl) ?_
  have hP2 := vP_perm (wL_pm tk ac gc2 rr2 ao fo2 h am gm la tl2) hP
  have hD2 := vD_perm (wL_pm tk ac gc2 rr2 ao fo2 h am gm la tl2) hD
  refine k_calli (va_runV (As := []) (rest := []) ⟨hx, hb, hml, hown, hts⟩ (c_M_commit l D tk H.size h am gm la (wR tk ac gc2 rr2 ao fo2 tl2) E fm f0 mp f V hJ.2.1.2.1.2 hJ.2.1.1.1 hJ.2.1.1.2 hJ.1.2.1 hJ.1.2.2.1 hEl hmp hJ.1.2.2.2.2.1 hJ.1.2.2.2.2.2.1 hJ.1.1.2.2.2.2 hJ.2.2.1.2.2 hJ.2.2.1.1.2) (cwV 0 hts (gV t_1056 t_1057 t_1058 t_9 t_1059) rfl rfl rfl (by decide +kernel) ⟨Nat.le_of_ble_eq_true rfl, Nat.le_of_ble_eq_true rfl⟩) (k_preV hP2 hK hD2 hnw 0 rfl rfl) rfl rfl hl.1 rfl (lv_room (Nat.le_of_ble_eq_true rfl)) d_law_247 ⟨by show cells + 156 + 0 ≤ 601024; omega, by show slots + 5856 + 0 ≤ 7293034; omega⟩) hD2 hS AL_in (fun r6 u9 H locs hpM hP hD hK hS => ?_)
  replace hP := vP_perm (wL_pm tk ac gc2 rr2 ao fo2 h am u9.1 u9.2.1 tl2).symm hP
  replace hD := vD_perm (wL_pm tk ac gc2 rr2 ao fo2 h am u9.1 u9.2.1 tl2).symm hD
  obtain ⟨hJ2, h02, ho2⟩ := hR r6 u9.1 u9.2.1 ⟨fun q => ⟨(hpM.1 q).1, by rw [(hpM.1 q).2]⟩, fun q => ⟨u9.2.2, hpM.2 q⟩⟩
  refine lv_istore (lv' := [(6, .int r6), (5, .int r), (0, .ref b), (1, .ref (ac 0)), (2, .ref h), (3, .ref ao), (4, .int (nI (5 * n)))]) hx hb d_law_250 hl (by decide) rfl (fun ls hl => ?_)
  refine q_thr C0 hP hD hS hl (by omega) (by omega) (i2 := 4) rfl (i5 := 1) rfl h02 d_law_252 d_law_253 d_law_256 d_law_258 (fun H locs hP hD hS => ?_)
  refine q_cmp C0 hP hD hS hl (i3 := 5) rfl (i5 := 1) rfl (i6 := 0) rfl ho2 d_law_263 d_law_265 d_law_268 d_law_269 d_law_270 d_law_271 d_law_273 d_law_274 d_law_275 ?_
  refine lv_goto hx hb d_law_280 (tgt := 1056) (by decide) ?_
  exact kk gc2 rr2 fo2 u9.1 u9.2.1 tl2 ls H locs hJ2 (lv_sub hl [2, 3, 4, 5, 6] rfl) hP hD hS
set_option maxHeartbeats 4000000 in
set_option maxRecDepth 100000 in
theorem go_get (C : LC p l s m c b L xs D tk) (hn : 5 * n + 5 ≤ L) (hcl : cells + 156 ≤ 601024) (hsl : slots + 5856 ≤ 7293034) (kk : GO p l e s m below meth c Q b D tk ac am ao h (n + 1) n (cells + 156) (slots + 5856) 1056) : GO p l e s m below meth c Q b D tk ac am ao h n n cells slots 345 := by
  intro gc rr fo gm la tl ls H locs hJ hl hP hD hS
  obtain ⟨S, ca, bl, f, fm, E, mp, Xs, V, f0, B, ft, t0, hJ⟩ := hJ
  have C0 := C
  obtain ⟨⟨hx, hb, hml, hown⟩, hT, hnw, hxF, hK, ⟨hX, hbl, hL⟩, htr⟩ := C
  have hts := hts_of hT
  have dgb : Decidable (gbM gm (xs (5 * n + 1)) (xs (5 * n + 2))) := Classical.propDecidable _
  refine lv_aload_n hx hb d_law_345 rfl (lv_at hl 1 rfl) ?_
  refine q_arg C0 hS hl (i0 := 0) rfl (i4 := 4) rfl (j := 1) (by decide) (by omega) d_law_346 d_law_347 d_law_349 d_law_350 d_law_351 ?_
  refine q_arg C0 hS hl (i0 := 0) rfl (i4 := 4) rfl (j := 2) (by decide) (by omega) d_law_352 d_law_353 d_law_355 d_law_356 d_law_357 ?_
  refine lv_aload_n hx hb d_law_358 rfl (lv_at hl 3 rfl) ?_
  refine q_get C0 hP hD hS hl hJ hcl hsl dgb (fun r gc2 rr2 fo2 tl2 H locs hR hP hD hS => ?_)
  refine lv_istore (lv' := [(5, .int r), (0, .ref b), (1, .ref (ac 0)), (2, .ref h), (3, .ref ao), (4, .int (nI (5 * n)))]) hx hb d_law_362 hl (by decide) rfl (fun ls hl => ?_)
  refine lv_aload_n hx hb d_law_364 rfl (lv_at hl 3 rfl) ?_
  refine q_arg C0 hS hl (i0 := 1) rfl (i4 := 5) rfl (j := 1) (by decide) (by omega) d_law_365 d_law_366 d_law_368 d_law_369 d_law_370 ?_
  refine q_arg C0 hS hl (i0 := 1) rfl (i4 := 5) rfl (j := 2) (by decide) (by omega) d_law_371 d_law_372 d_law_374 d_law_375 d_law_376 ?_
  have hP2 := vP_perm (wL_pm tk ac gc2 rr2 ao fo2 h am gm la tl2) hP
  have hD2 := vD_perm (wL_pm tk ac gc2 rr2 ao fo2 h am gm la tl2) hD
  refine k_calli (va_runV (As := [.int (xs (5 * n + 1)), .int (xs (5 * n + 2))]) (rest := []) ⟨hx, hb, hml, hown, hts⟩ (c_M_get l D tk H.size h am gm la (wR tk ac gc2 rr2 ao fo2 tl2) V hJ.2.1.1.1 hJ.2.1.1.2 hJ.2.1.2.1.2 (xs (5 * n + 1)) (xs (5 * n + 2)) dgb) (cwV 2 hts (gV t_1119 t_1120 t_1121 t_9 t_1122) rfl rfl rfl (by decide +kernel) ⟨Nat.le_of_ble_eq_true rfl, Nat.le_of_ble_eq_true rfl⟩) (k_preV hP2 hK hD2 hnw 0 rfl rfl) rfl rfl hl.1 rfl (lv_room (Nat.le_of_ble_eq_true rfl)) d_law_377 ⟨by show cells + 156 + 0 ≤ 601024; omega, by show slots + 5856 + 0 ≤ 7293034; omega⟩) hD2 hS AL_in (fun r6 u9 H locs hpM hP hD hK hS => ?_)
  replace hP := vP_perm (wL_pm tk ac gc2 rr2 ao fo2 h am (if gbM gm (xs (5 * n + 1)) (xs (5 * n + 2)) then mup gm 0 0 (nI 1) else if gm 1 (giM (xs (5 * n + 1)) (xs (5 * n + 2))) = 0 then mup gm 0 0 (nI 2) else mup gm 0 0 (nI 0)) la tl2).symm hP
  replace hD := vD_perm (wL_pm tk ac gc2 rr2 ao fo2 h am (if gbM gm (xs (5 * n + 1)) (xs (5 * n + 2)) then mup gm 0 0 (nI 1) else if gm 1 (giM (xs (5 * n + 1)) (xs (5 * n + 2))) = 0 then mup gm 0 0 (nI 2) else mup gm 0 0 (nI 0)) la tl2).symm hD
  obtain ⟨hJ2, h02, ho2⟩ := hR r6 _ la ⟨hpM, rfl, rfl⟩
  refine lv_istore (lv' := [(6, .int r6), (5, .int r), (0, .ref b), (1, .ref (ac 0)), (2, .ref h), (3, .ref ao), (4, .int (nI (5 * n)))]) hx hb d_law_380 hl (by decide) rfl (fun ls hl => ?_)
  refine q_thr C0 hP hD hS hl (by omega) (by omega) (i2 := 4) rfl (i5 := 1) rfl h02 d_law_382 d_law_383 d_law_386 d_law_388 (fun H locs hP hD hS => ?_)
  refine q_cmp C0 hP hD hS hl (i3 := 5) rfl (i5 := 1) rfl (i6 := 0) rfl ho2 d_law_393 d_law_395 d_law_398 d_law_399 d_law_400 d_law_401 d_law_403 d_law_404 d_law_405 ?_
  refine lv_goto hx hb d_law_410 (tgt := 1056) (by decide) ?_
  exact kk gc2 rr2 fo2 (if gbM gm (xs (5 * n + 1)) (xs (5 * n + 2)) then mup gm 0 0 (nI 1) else if gm 1 (giM (xs (5 * n + 1)) (xs (5 * n + 2))) = 0 then mup gm 0 0 (nI 2) else mup gm 0 0 (nI 0)) la tl2 ls H locs hJ2 (lv_sub hl [2, 3, 4, 5, 6] rfl) hP hD hS
set_option maxHeartbeats 4000000 in
set_option maxRecDepth 100000 in
theorem go_range (C : LC p l s m c b L xs D tk) (hn : 5 * n + 5 ≤ L) (hcl : cells + 156 ≤ 601024) (hsl : slots + 5856 ≤ 7293034) (kk : GO p l e s m below meth c Q b D tk ac am ao h (n + 1) n (cells + 156) (slots + 5856) 1056) : GO p l e s m below meth c Q b D tk ac am ao h n n cells slots 413 := by
  intro gc rr fo gm la tl ls H locs hJ hl hP hD hS
  obtain ⟨S, ca, bl, f, fm, E, mp, Xs, V, f0, B, ft, t0, hJ⟩ := hJ
  have C0 := C
  obtain ⟨⟨hx, hb, hml, hown⟩, hT, hnw, hxF, hK, ⟨hX, hbl, hL⟩, htr⟩ := C
  have hts := hts_of hT
  refine lv_aload_n hx hb d_law_413 rfl (lv_at hl 1 rfl) ?_
  refine q_arg C0 hS hl (i0 := 0) rfl (i4 := 4) rfl (j := 1) (by decide) (by omega) d_law_414 d_law_415 d_law_417 d_law_418 d_law_419 ?_
  refine q_arg C0 hS hl (i0 := 0) rfl (i4 := 4) rfl (j := 2) (by decide) (by omega) d_law_420 d_law_421 d_law_423 d_law_424 d_law_425 ?_
  refine q_arg C0 hS hl (i0 := 0) rfl (i4 := 4) rfl (j := 3) (by decide) (by omega) d_law_426 d_law_427 d_law_429 d_law_430 d_law_431 ?_
  refine lv_aload_n hx hb d_law_432 rfl (lv_at hl 3 rfl) ?_
  refine q_range C0 hP hD hS hl hJ hcl hsl (fun r gc2 rr2 fo2 tl2 H locs hR hP hD hS => ?_)
  refine lv_istore (lv' := [(5, .int r), (0, .ref b), (1, .ref (ac 0)), (2, .ref h), (3, .ref ao), (4, .int (nI (5 * n)))]) hx hb d_law_436 hl (by decide) rfl (fun ls hl => ?_)
  refine lv_aload_n hx hb d_law_438 rfl (lv_at hl 3 rfl) ?_
  refine q_arg C0 hS hl (i0 := 1) rfl (i4 := 5) rfl (j := 1) (by decide) (by omega) d_law_439 d_law_440 d_law_442 d_law_443 d_law_444 ?_
  refine q_arg C0 hS hl (i0 := 1) rfl (i4 := 5) rfl (j := 2) (by decide) (by omega) d_law_445 d_law_446 d_law_448 d_law_449 d_law_450 ?_
  refine q_arg C0 hS hl (i0 := 1) rfl (i4 := 5) rfl (j := 3) (by decide) (by omega) d_law_451 d_law_452 d_law_454 d_law_455 d_law_456 ?_
  have hP2 := vP_perm (wL_pm tk ac gc2 rr2 ao fo2 h am gm la tl2) hP
  have hD2 := vD_perm (wL_pm tk ac gc2 rr2 ao fo2 h am gm la tl2) hD
  refine k_calli (va_runV (As := [.int (xs (5 * n + 1)), .int (xs (5 * n + 2)), .int (xs (5 * n + 3))]) (rest := []) ⟨hx, hb, hml, hown, hts⟩ (c_M_range l D tk H.size h am gm la (wR tk ac gc2 rr2 ao fo2 tl2) V hJ.2.1.1.1 hJ.2.1.1.2 hJ.2.1.2.1.2 (xs (5 * n + 1)) (xs (5 * n + 2)) (xs (5 * n + 3))) (cwV 3 hts (gV t_1127 t_1128 t_1129 t_9 t_1130) rfl rfl rfl (by decide +kernel) ⟨Nat.le_of_ble_eq_true rfl, Nat.le_of_ble_eq_true rfl⟩) (k_preV hP2 hK hD2 hnw 0 rfl rfl) rfl rfl hl.1 rfl (lv_room (Nat.le_of_ble_eq_true rfl)) d_law_457 ⟨by show cells + 156 + 0 ≤ 601024; omega, by show slots + 5856 + 0 ≤ 7293034; omega⟩) hD2 hS AL_in (fun r6 u9 H locs hpM hP hD hK hS => ?_)
  replace hP := vP_perm (wL_pm tk ac gc2 rr2 ao fo2 h am (if (xs (5 * n + 1)) < nI 0 ∨ gm 3 0 - nI 1 < (xs (5 * n + 1)) then mup gm 0 0 (nI 1) else mup gm 0 0 (nI 0)) la tl2).symm hP
  replace hD := vD_perm (wL_pm tk ac gc2 rr2 ao fo2 h am (if (xs (5 * n + 1)) < nI 0 ∨ gm 3 0 - nI 1 < (xs (5 * n + 1)) then mup gm 0 0 (nI 1) else mup gm 0 0 (nI 0)) la tl2).symm hD
  obtain ⟨hJ2, h02, ho2⟩ := hR r6 _ la ⟨hpM, rfl, rfl⟩
  refine lv_istore (lv' := [(6, .int r6), (5, .int r), (0, .ref b), (1, .ref (ac 0)), (2, .ref h), (3, .ref ao), (4, .int (nI (5 * n)))]) hx hb d_law_460 hl (by decide) rfl (fun ls hl => ?_)
  refine q_thr C0 hP hD hS hl (by omega) (by omega) (i2 := 4) rfl (i5 := 1) rfl h02 d_law_462 d_law_463 d_law_466 d_law_468 (fun H locs hP hD hS => ?_)
  refine q_cmp C0 hP hD hS hl (i3 := 5) rfl (i5 := 1) rfl (i6 := 0) rfl ho2 d_law_473 d_law_475 d_law_478 d_law_479 d_law_480 d_law_481 d_law_483 d_law_484 d_law_485 ?_
  refine lv_goto hx hb d_law_490 (tgt := 1056) (by decide) ?_
  exact kk gc2 rr2 fo2 (if (xs (5 * n + 1)) < nI 0 ∨ gm 3 0 - nI 1 < (xs (5 * n + 1)) then mup gm 0 0 (nI 1) else mup gm 0 0 (nI 0)) la tl2 ls H locs hJ2 (lv_sub hl [2, 3, 4, 5, 6] rfl) hP hD hS
set_option maxHeartbeats 4000000 in
set_option maxRecDepth 100000 in
theorem go_root (C : LC p l s m c b L xs D tk) (hn : 5 * n + 5 ≤ L) (hcl : cells + 156 ≤ 601024) (hsl : slots + 5856 ≤ 7293034) (kk : GO p l e s m below meth c Q b D tk ac am ao h (n + 1) n (cells + 156) (slots + 5856) 1056) : GO p l e s m below meth c Q b D tk ac am ao h n n cells slots 493 := by
  intro gc rr fo gm la tl ls H locs hJ hl hP hD hS
  obtain ⟨S, ca, bl, f, fm, E, mp, Xs, V, f0, B, ft, t0, hJ⟩ := hJ
  have C0 := C
  obtain ⟨⟨hx, hb, hml, hown⟩, hT, hnw, hxF, hK, ⟨hX, hbl, hL⟩, htr⟩ := C
  have hts := hts_of hT
  refine lv_aload_n hx hb d_law_493 rfl (lv_at hl 1 rfl) ?_
  refine q_arg C0 hS hl (i0 := 0) rfl (i4 := 4) rfl (j := 1) (by decide) (by omega) d_law_494 d_law_495 d_law_497 d_law_498 d_law_499 ?_
  refine lv_aload_n hx hb d_law_500 rfl (lv_at hl 3 rfl) ?_
  refine q_root C0 hP hD hS hl hJ hcl hsl (fun r gc2 rr2 fo2 tl2 H locs hR hP hD hS => ?_)
  refine lv_istore (lv' := [(5, .int r), (0, .ref b), (1, .ref (ac 0)), (2, .ref h), (3, .ref ao), (4, .int (nI (5 * n)))]) hx hb d_law_504 hl (by decide) rfl (fun ls hl => ?_)
  refine lv_aload_n hx hb d_law_506 rfl (lv_at hl 3 rfl) ?_
  refine q_arg C0 hS hl (i0 := 1) rfl (i4 := 5) rfl (j := 1) (by decide) (by omega) d_law_507 d_law_508 d_law_510 d_law_511 d_law_512 ?_
  have hP2 := vP_perm (wL_pm tk ac gc2 rr2 ao fo2 h am gm la tl2) hP
  have hD2 := vD_perm (wL_pm tk ac gc2 rr2 ao fo2 h am gm la tl2) hD
  refine k_calli (va_runV (As := [.int (xs (5 * n + 1))]) (rest := []) ⟨hx, hb, hml, hown, hts⟩ (c_M_root l D tk H.size h am gm la (wR tk ac gc2 rr2 ao fo2 tl2) V hJ.2.1.1.1 hJ.2.1.1.2 hJ.2.1.2.1.2 (xs (5 * n + 1))) (cwV 1 hts (gV t_1131 t_1132 t_1133 t_9 t_1134) rfl rfl rfl (by decide +kernel) ⟨Nat.le_of_ble_eq_true rfl, Nat.le_of_ble_eq_true rfl⟩) (k_preV hP2 hK hD2 hnw 0 rfl rfl) rfl rfl hl.1 rfl (lv_room (Nat.le_of_ble_eq_true rfl)) d_law_513 ⟨by show cells + 156 + 0 ≤ 601024; omega, by show slots + 5856 + 0 ≤ 7293034; omega⟩) hD2 hS AL_in (fun r6 u9 H locs hpM hP hD hK hS => ?_)
  replace hP := vP_perm (wL_pm tk ac gc2 rr2 ao fo2 h am (if (xs (5 * n + 1)) < nI 0 ∨ gm 3 0 - nI 1 < (xs (5 * n + 1)) then mup gm 0 0 (nI 1) else mup gm 0 0 (nI 0)) la tl2).symm hP
  replace hD := vD_perm (wL_pm tk ac gc2 rr2 ao fo2 h am (if (xs (5 * n + 1)) < nI 0 ∨ gm 3 0 - nI 1 < (xs (5 * n + 1)) then mup gm 0 0 (nI 1) else mup gm 0 0 (nI 0)) la tl2).symm hD
  obtain ⟨hJ2, h02, ho2⟩ := hR r6 _ la ⟨hpM, rfl, rfl⟩
  refine lv_istore (lv' := [(6, .int r6), (5, .int r), (0, .ref b), (1, .ref (ac 0)), (2, .ref h), (3, .ref ao), (4, .int (nI (5 * n)))]) hx hb d_law_516 hl (by decide) rfl (fun ls hl => ?_)
  refine q_thr C0 hP hD hS hl (by omega) (by omega) (i2 := 4) rfl (i5 := 1) rfl h02 d_law_518 d_law_519 d_law_522 d_law_524 (fun H locs hP hD hS => ?_)
  refine q_cmp C0 hP hD hS hl (i3 := 5) rfl (i5 := 1) rfl (i6 := 0) rfl ho2 d_law_529 d_law_531 d_law_534 d_law_535 d_law_536 d_law_537 d_law_539 d_law_540 d_law_541 ?_
  refine lv_goto hx hb d_law_546 (tgt := 1056) (by decide) ?_
  exact kk gc2 rr2 fo2 (if (xs (5 * n + 1)) < nI 0 ∨ gm 3 0 - nI 1 < (xs (5 * n + 1)) then mup gm 0 0 (nI 1) else mup gm 0 0 (nI 0)) la tl2 ls H locs hJ2 (lv_sub hl [2, 3, 4, 5, 6] rfl) hP hD hS
set_option maxHeartbeats 4000000 in
set_option maxRecDepth 100000 in
theorem go_digest (C : LC p l s m c b L xs D tk) (hn : 5 * n + 5 ≤ L) (hcl : cells + 156 ≤ 601024) (hsl : slots + 5856 ≤ 7293034) (kk : GO p l e s m below meth c Q b D tk ac am ao h (n + 1) n (cells + 156) (slots + 5856) 1056) : GO p l e s m below meth c Q b D tk ac am ao h n n cells slots 549 := by
  intro gc rr fo gm la tl ls H locs hJ hl hP hD hS
  obtain ⟨S, ca, bl, f, fm, E, mp, Xs, V, f0, B, ft, t0, hJ⟩ := hJ
  have C0 := C
  obtain ⟨⟨hx, hb, hml, hown⟩, hT, hnw, hxF, hK, ⟨hX, hbl, hL⟩, htr⟩ := C
  have hts := hts_of hT
  refine lv_aload_n hx hb d_law_549 rfl (lv_at hl 1 rfl) ?_
  refine q_arg C0 hS hl (i0 := 0) rfl (i4 := 4) rfl (j := 1) (by decide) (by omega) d_law_550 d_law_551 d_law_553 d_law_554 d_law_555 ?_
  refine lv_aload_n hx hb d_law_556 rfl (lv_at hl 3 rfl) ?_
  refine q_digest C0 hP hD hS hl hJ hcl hsl (fun r gc2 rr2 fo2 tl2 H locs hR hP hD hS => ?_)
  refine lv_istore (lv' := [(5, .int r), (0, .ref b), (1, .ref (ac 0)), (2, .ref h), (3, .ref ao), (4, .int (nI (5 * n)))]) hx hb d_law_560 hl (by decide) rfl (fun ls hl => ?_)
  refine lv_aload_n hx hb d_law_562 rfl (lv_at hl 3 rfl) ?_
  refine q_arg C0 hS hl (i0 := 1) rfl (i4 := 5) rfl (j := 1) (by decide) (by omega) d_law_563 d_law_564 d_law_566 d_law_567 d_law_568 ?_
  have hP2 := vP_perm (wL_pm tk ac gc2 rr2 ao fo2 h am gm la tl2) hP
  have hD2 := vD_perm (wL_pm tk ac gc2 rr2 ao fo2 h am gm la tl2) hD
  refine k_calli (va_runV (As := [.int (xs (5 * n + 1))]) (rest := []) ⟨hx, hb, hml, hown, hts⟩ (c_M_digest l D tk H.size h am gm la (wR tk ac gc2 rr2 ao fo2 tl2) V hJ.2.1.1.1 hJ.2.1.1.2 hJ.2.1.2.1.2 (xs (5 * n + 1))) (cwV 1 hts (gV t_1135 t_1136 t_1137 t_9 t_1138) rfl rfl rfl (by decide +kernel) ⟨Nat.le_of_ble_eq_true rfl, Nat.le_of_ble_eq_true rfl⟩) (k_preV hP2 hK hD2 hnw 0 rfl rfl) rfl rfl hl.1 rfl (lv_room (Nat.le_of_ble_eq_true rfl)) d_law_569 ⟨by show cells + 156 + 0 ≤ 601024; omega, by show slots + 5856 + 0 ≤ 7293034; omega⟩) hD2 hS AL_in (fun r6 u9 H locs hpM hP hD hK hS => ?_)
  replace hP := vP_perm (wL_pm tk ac gc2 rr2 ao fo2 h am u9 la tl2).symm hP
  replace hD := vD_perm (wL_pm tk ac gc2 rr2 ao fo2 h am u9 la tl2).symm hD
  obtain ⟨hJ2, h02, ho2⟩ := hR r6 u9 la ⟨hpM, rfl⟩
  refine lv_istore (lv' := [(6, .int r6), (5, .int r), (0, .ref b), (1, .ref (ac 0)), (2, .ref h), (3, .ref ao), (4, .int (nI (5 * n)))]) hx hb d_law_572 hl (by decide) rfl (fun ls hl => ?_)
  refine q_thr C0 hP hD hS hl (by omega) (by omega) (i2 := 4) rfl (i5 := 1) rfl h02 d_law_574 d_law_575 d_law_578 d_law_580 (fun H locs hP hD hS => ?_)
  refine q_cmp C0 hP hD hS hl (i3 := 5) rfl (i5 := 1) rfl (i6 := 0) rfl ho2 d_law_585 d_law_587 d_law_590 d_law_591 d_law_592 d_law_593 d_law_595 d_law_596 d_law_597 ?_
  refine lv_goto hx hb d_law_602 (tgt := 1056) (by decide) ?_
  exact kk gc2 rr2 fo2 u9 la tl2 ls H locs hJ2 (lv_sub hl [2, 3, 4, 5, 6] rfl) hP hD hS
set_option maxHeartbeats 4000000 in
set_option maxRecDepth 100000 in
theorem go_prove (C : LC p l s m c b L xs D tk) (hn : 5 * n + 5 ≤ L) (hcl : cells + 156 ≤ 601024) (hsl : slots + 5856 ≤ 7293034) (kk : GO p l e s m below meth c Q b D tk ac am ao h (n + 1) n (cells + 156) (slots + 5856) 1056) : GO p l e s m below meth c Q b D tk ac am ao h n n cells slots 605 := by
  intro gc rr fo gm la tl ls H locs hJ hl hP hD hS
  obtain ⟨S, ca, bl, f, fm, E, mp, Xs, V, f0, B, ft, t0, hJ⟩ := hJ
  have C0 := C
  obtain ⟨⟨hx, hb, hml, hown⟩, hT, hnw, hxF, hK, ⟨hX, hbl, hL⟩, htr⟩ := C
  have hts := hts_of hT
  refine lv_aload_n hx hb d_law_605 rfl (lv_at hl 1 rfl) ?_
  refine q_arg C0 hS hl (i0 := 0) rfl (i4 := 4) rfl (j := 1) (by decide) (by omega) d_law_606 d_law_607 d_law_609 d_law_610 d_law_611 ?_
  refine q_arg C0 hS hl (i0 := 0) rfl (i4 := 4) rfl (j := 2) (by decide) (by omega) d_law_612 d_law_613 d_law_615 d_law_616 d_law_617 ?_
  refine q_arg C0 hS hl (i0 := 0) rfl (i4 := 4) rfl (j := 3) (by decide) (by omega) d_law_618 d_law_619 d_law_621 d_law_622 d_law_623 ?_
  refine lv_aload_n hx hb d_law_624 rfl (lv_at hl 3 rfl) ?_
  refine q_prove C0 hP hD hS hl hJ hcl hsl (fun r gc2 rr2 fo2 tl2 H locs hR hP hD hS => ?_)
  refine lv_istore (lv' := [(5, .int r), (0, .ref b), (1, .ref (ac 0)), (2, .ref h), (3, .ref ao), (4, .int (nI (5 * n)))]) hx hb d_law_628 hl (by decide) rfl (fun ls hl => ?_)
  refine lv_aload_n hx hb d_law_630 rfl (lv_at hl 3 rfl) ?_
  refine q_arg C0 hS hl (i0 := 1) rfl (i4 := 5) rfl (j := 1) (by decide) (by omega) d_law_631 d_law_632 d_law_634 d_law_635 d_law_636 ?_
  refine q_arg C0 hS hl (i0 := 1) rfl (i4 := 5) rfl (j := 2) (by decide) (by omega) d_law_637 d_law_638 d_law_640 d_law_641 d_law_642 ?_
  refine q_arg C0 hS hl (i0 := 1) rfl (i4 := 5) rfl (j := 3) (by decide) (by omega) d_law_643 d_law_644 d_law_646 d_law_647 d_law_648 ?_
  have hP2 := vP_perm (wL_pm tk ac gc2 rr2 ao fo2 h am gm la tl2) hP
  have hD2 := vD_perm (wL_pm tk ac gc2 rr2 ao fo2 h am gm la tl2) hD
  refine k_calli (va_runV (As := [.int (xs (5 * n + 1)), .int (xs (5 * n + 2)), .int (xs (5 * n + 3))]) (rest := []) ⟨hx, hb, hml, hown, hts⟩ (c_M_prove l D tk H.size h am gm la (wR tk ac gc2 rr2 ao fo2 tl2) V hJ.2.1.1.1 hJ.2.1.1.2 hJ.2.1.2.1.2 (fun j => gt_ (Xs j)) hJ.2.1.2.2.2.2.2 (xs (5 * n + 1)) (xs (5 * n + 2)) (xs (5 * n + 3))) (cwV 3 hts (gV t_1149 t_1150 t_1151 t_9 t_1152) rfl rfl rfl (by decide +kernel) ⟨Nat.le_of_ble_eq_true rfl, Nat.le_of_ble_eq_true rfl⟩) (k_preV hP2 hK hD2 hnw 0 rfl rfl) rfl rfl hl.1 rfl (lv_room (Nat.le_of_ble_eq_true rfl)) d_law_649 ⟨by show cells + 156 + 0 ≤ 601024; omega, by show slots + 5856 + 0 ≤ 7293034; omega⟩) hD2 hS AL_in (fun r6 u9 H locs hpM hP hD hK hS => ?_)
  replace hP := vP_perm (wL_pm tk ac gc2 rr2 ao fo2 h am u9 la tl2).symm hP
  replace hD := vD_perm (wL_pm tk ac gc2 rr2 ao fo2 h am u9 la tl2).symm hD
  obtain ⟨hJ2, h02, ho2⟩ := hR r6 u9 la ⟨hpM, rfl⟩
  refine lv_istore (lv' := [(6, .int r6), (5, .int r), (0, .ref b), (1, .ref (ac 0)), (2, .ref h), (3, .ref ao), (4, .int (nI (5 * n)))]) hx hb d_law_652 hl (by decide) rfl (fun ls hl => ?_)
  refine q_thr C0 hP hD hS hl (by omega) (by omega) (i2 := 4) rfl (i5 := 1) rfl h02 d_law_654 d_law_655 d_law_658 d_law_660 (fun H locs hP hD hS => ?_)
  refine q_cmp C0 hP hD hS hl (i3 := 5) rfl (i5 := 1) rfl (i6 := 0) rfl ho2 d_law_665 d_law_667 d_law_670 d_law_671 d_law_672 d_law_673 d_law_675 d_law_676 d_law_677 ?_
  refine lv_goto hx hb d_law_682 (tgt := 1056) (by decide) ?_
  exact kk gc2 rr2 fo2 u9 la tl2 ls H locs hJ2 (lv_sub hl [2, 3, 4, 5, 6] rfl) hP hD hS
set_option maxHeartbeats 4000000 in
set_option maxRecDepth 100000 in
theorem go_proveGrowth (C : LC p l s m c b L xs D tk) (hn : 5 * n + 5 ≤ L) (hcl : cells + 156 ≤ 601024) (hsl : slots + 5856 ≤ 7293034) (kk : GO p l e s m below meth c Q b D tk ac am ao h (n + 1) n (cells + 156) (slots + 5856) 1056) : GO p l e s m below meth c Q b D tk ac am ao h n n cells slots 685 := by
  intro gc rr fo gm la tl ls H locs hJ hl hP hD hS
  obtain ⟨S, ca, bl, f, fm, E, mp, Xs, V, f0, B, ft, t0, hJ⟩ := hJ
  have C0 := C
  obtain ⟨⟨hx, hb, hml, hown⟩, hT, hnw, hxF, hK, ⟨hX, hbl, hL⟩, htr⟩ := C
  have hts := hts_of hT
  refine lv_aload_n hx hb d_law_685 rfl (lv_at hl 1 rfl) ?_
  refine q_arg C0 hS hl (i0 := 0) rfl (i4 := 4) rfl (j := 1) (by decide) (by omega) d_law_686 d_law_687 d_law_689 d_law_690 d_law_691 ?_
  refine q_arg C0 hS hl (i0 := 0) rfl (i4 := 4) rfl (j := 2) (by decide) (by omega) d_law_692 d_law_693 d_law_695 d_law_696 d_law_697 ?_
  refine lv_aload_n hx hb d_law_698 rfl (lv_at hl 3 rfl) ?_
  refine q_proveGrowth C0 hP hD hS hl hJ hcl hsl (fun r gc2 rr2 fo2 tl2 H locs hR hP hD hS => ?_)
  refine lv_istore (lv' := [(5, .int r), (0, .ref b), (1, .ref (ac 0)), (2, .ref h), (3, .ref ao), (4, .int (nI (5 * n)))]) hx hb d_law_702 hl (by decide) rfl (fun ls hl => ?_)
  refine lv_aload_n hx hb d_law_704 rfl (lv_at hl 3 rfl) ?_
  refine q_arg C0 hS hl (i0 := 1) rfl (i4 := 5) rfl (j := 1) (by decide) (by omega) d_law_705 d_law_706 d_law_708 d_law_709 d_law_710 ?_
  refine q_arg C0 hS hl (i0 := 1) rfl (i4 := 5) rfl (j := 2) (by decide) (by omega) d_law_711 d_law_712 d_law_714 d_law_715 d_law_716 ?_
  have hP2 := vP_perm (wL_pm tk ac gc2 rr2 ao fo2 h am gm la tl2) hP
  have hD2 := vD_perm (wL_pm tk ac gc2 rr2 ao fo2 h am gm la tl2) hD
  refine k_calli (va_runV (As := [.int (xs (5 * n + 1)), .int (xs (5 * n + 2))]) (rest := []) ⟨hx, hb, hml, hown, hts⟩ (c_M_proveGrowth l D tk H.size h am gm la (wR tk ac gc2 rr2 ao fo2 tl2) V hJ.2.1.1.1 hJ.2.1.1.2 hJ.2.1.2.1.2 (xs (5 * n + 1)) (xs (5 * n + 2))) (cwV 2 hts (gV t_1187 t_1188 t_1189 t_9 t_1190) rfl rfl rfl (by decide +kernel) ⟨Nat.le_of_ble_eq_true rfl, Nat.le_of_ble_eq_true rfl⟩) (k_preV hP2 hK hD2 hnw 0 rfl rfl) rfl rfl hl.1 rfl (lv_room (Nat.le_of_ble_eq_true rfl)) d_law_717 ⟨by show cells + 156 + 0 ≤ 601024; omega, by show slots + 5856 + 0 ≤ 7293034; omega⟩) hD2 hS AL_in (fun r6 u9 H locs hpM hP hD hK hS => ?_)
  replace hP := vP_perm (wL_pm tk ac gc2 rr2 ao fo2 h am u9 la tl2).symm hP
  replace hD := vD_perm (wL_pm tk ac gc2 rr2 ao fo2 h am u9 la tl2).symm hD
  obtain ⟨hJ2, h02, ho2⟩ := hR r6 u9 la ⟨hpM, rfl⟩
  refine lv_istore (lv' := [(6, .int r6), (5, .int r), (0, .ref b), (1, .ref (ac 0)), (2, .ref h), (3, .ref ao), (4, .int (nI (5 * n)))]) hx hb d_law_720 hl (by decide) rfl (fun ls hl => ?_)
  refine q_thr C0 hP hD hS hl (by omega) (by omega) (i2 := 4) rfl (i5 := 1) rfl h02 d_law_722 d_law_723 d_law_726 d_law_728 (fun H locs hP hD hS => ?_)
  refine q_cmp C0 hP hD hS hl (i3 := 5) rfl (i5 := 1) rfl (i6 := 0) rfl ho2 d_law_733 d_law_735 d_law_738 d_law_739 d_law_740 d_law_741 d_law_743 d_law_744 d_law_745 ?_
  refine lv_goto hx hb d_law_750 (tgt := 1056) (by decide) ?_
  exact kk gc2 rr2 fo2 u9 la tl2 ls H locs hJ2 (lv_sub hl [2, 3, 4, 5, 6] rfl) hP hD hS
set_option maxHeartbeats 4000000 in
set_option maxRecDepth 100000 in
theorem go_verify (C : LC p l s m c b L xs D tk) (hn : 5 * n + 5 ≤ L) (hcl : cells + 156 ≤ 601024) (hsl : slots + 5856 ≤ 7293034) (kk : GO p l e s m below meth c Q b D tk ac am ao h (n + 1) n (cells + 156) (slots + 5856) 1056) : GO p l e s m below meth c Q b D tk ac am ao h n n cells slots 852 := by
  intro gc rr fo gm la tl ls H locs hJ hl hP hD hS
  obtain ⟨S, ca, bl, f, fm, E, mp, Xs, V, f0, B, ft, t0, hJ⟩ := hJ
  have C0 := C
  obtain ⟨⟨hx, hb, hml, hown⟩, hT, hnw, hxF, hK, ⟨hX, hbl, hL⟩, htr⟩ := C
  have hts := hts_of hT
  refine lv_aload_n hx hb d_law_852 rfl (lv_at hl 1 rfl) ?_
  refine q_arg C0 hS hl (i0 := 0) rfl (i4 := 4) rfl (j := 1) (by decide) (by omega) d_law_853 d_law_854 d_law_856 d_law_857 d_law_858 ?_
  refine q_arg C0 hS hl (i0 := 0) rfl (i4 := 4) rfl (j := 2) (by decide) (by omega) d_law_859 d_law_860 d_law_862 d_law_863 d_law_864 ?_
  refine q_arg C0 hS hl (i0 := 0) rfl (i4 := 4) rfl (j := 3) (by decide) (by omega) d_law_865 d_law_866 d_law_868 d_law_869 d_law_870 ?_
  refine q_arg C0 hS hl (i0 := 0) rfl (i4 := 4) rfl (j := 4) (by decide) (by omega) d_law_871 d_law_872 d_law_874 d_law_875 d_law_876 ?_
  refine lv_aload_n hx hb d_law_877 rfl (lv_at hl 3 rfl) ?_
  refine q_verify C0 hP hD hS hl hJ hcl hsl (fun r gc2 rr2 fo2 tl2 H locs hR hP hD hS => ?_)
  refine lv_istore (lv' := [(5, .int r), (0, .ref b), (1, .ref (ac 0)), (2, .ref h), (3, .ref ao), (4, .int (nI (5 * n)))]) hx hb d_law_881 hl (by decide) rfl (fun ls hl => ?_)
  refine lv_aload_n hx hb d_law_883 rfl (lv_at hl 3 rfl) ?_
  refine q_arg C0 hS hl (i0 := 1) rfl (i4 := 5) rfl (j := 1) (by decide) (by omega) d_law_884 d_law_885 d_law_887 d_law_888 d_law_889 ?_
  refine q_arg C0 hS hl (i0 := 1) rfl (i4 := 5) rfl (j := 2) (by decide) (by omega) d_law_890 d_law_891 d_law_893 d_law_894 d_law_895 ?_
  refine q_arg C0 hS hl (i0 := 1) rfl (i4 := 5) rfl (j := 3) (by decide) (by omega) d_law_896 d_law_897 d_law_899 d_law_900 d_law_901 ?_
  refine q_arg C0 hS hl (i0 := 1) rfl (i4 := 5) rfl (j := 4) (by decide) (by omega) d_law_902 d_law_903 d_law_905 d_law_906 d_law_907 ?_
  have hP2 := vP_perm (wL_pm tk ac gc2 rr2 ao fo2 h am gm la tl2) hP
  have hD2 := vD_perm (wL_pm tk ac gc2 rr2 ao fo2 h am gm la tl2) hD
  refine k_calli (va_runV (As := [.int (xs (5 * n + 1)), .int (xs (5 * n + 2)), .int (xs (5 * n + 3)), .int (xs (5 * n + 4))]) (rest := []) ⟨hx, hb, hml, hown, hts⟩ (c_M_verify l D tk H.size h am gm la (wR tk ac gc2 rr2 ao fo2 tl2) t0 hJ.2.2.2.1.2.1.1 hJ.2.2.2.1.2.1.2.2.2.1 (tkR_byt hJ.2.2.2.1.2.1.2) (xs (5 * n + 1)) (xs (5 * n + 2)) (xs (5 * n + 3)) (xs (5 * n + 4))) (cwV 4 hts (gV t_1207 t_1208 t_1209 t_9 t_1210) rfl rfl rfl (by decide +kernel) ⟨Nat.le_of_ble_eq_true rfl, Nat.le_of_ble_eq_true rfl⟩) (k_preV hP2 hK hD2 hnw 0 rfl rfl) rfl rfl hl.1 rfl (lv_room (Nat.le_of_ble_eq_true rfl)) d_law_908 ⟨by show cells + 156 + 0 ≤ 601024; omega, by show slots + 5856 + 0 ≤ 7293034; omega⟩) hD2 hS AL_in (fun r6 u9 H locs hpM hP hD hK hS => ?_)
  replace hP := vP_perm (wL_pm tk ac gc2 rr2 ao fo2 h am u9 la tl2).symm hP
  replace hD := vD_perm (wL_pm tk ac gc2 rr2 ao fo2 h am u9 la tl2).symm hD
  obtain ⟨hJ2, h02, ho2⟩ := hR r6 u9 la ⟨hpM, rfl⟩
  refine lv_istore (lv' := [(6, .int r6), (5, .int r), (0, .ref b), (1, .ref (ac 0)), (2, .ref h), (3, .ref ao), (4, .int (nI (5 * n)))]) hx hb d_law_911 hl (by decide) rfl (fun ls hl => ?_)
  refine q_thr C0 hP hD hS hl (by omega) (by omega) (i2 := 4) rfl (i5 := 1) rfl h02 d_law_913 d_law_914 d_law_917 d_law_919 (fun H locs hP hD hS => ?_)
  refine q_cmp C0 hP hD hS hl (i3 := 5) rfl (i5 := 1) rfl (i6 := 0) rfl ho2 d_law_924 d_law_926 d_law_929 d_law_930 d_law_931 d_law_932 d_law_934 d_law_935 d_law_936 ?_
  refine lv_goto hx hb d_law_941 (tgt := 1056) (by decide) ?_
  exact kk gc2 rr2 fo2 u9 la tl2 ls H locs hJ2 (lv_sub hl [2, 3, 4, 5, 6] rfl) hP hD hS
set_option maxHeartbeats 4000000 in
set_option maxRecDepth 100000 in
theorem go_verifyGrowth (C : LC p l s m c b L xs D tk) (hn : 5 * n + 5 ≤ L) (hcl : cells + 156 ≤ 601024) (hsl : slots + 5856 ≤ 7293034) (kk : GO p l e s m below meth c Q b D tk ac am ao h (n + 1) n (cells + 156) (slots + 5856) 1056) : GO p l e s m below meth c Q b D tk ac am ao h n n cells slots 957 := by
  intro gc rr fo gm la tl ls H locs hJ hl hP hD hS
  obtain ⟨S, ca, bl, f, fm, E, mp, Xs, V, f0, B, ft, t0, hJ⟩ := hJ
  have C0 := C
  obtain ⟨⟨hx, hb, hml, hown⟩, hT, hnw, hxF, hK, ⟨hX, hbl, hL⟩, htr⟩ := C
  have hts := hts_of hT
  refine lv_aload_n hx hb d_law_957 rfl (lv_at hl 1 rfl) ?_
  refine q_arg C0 hS hl (i0 := 0) rfl (i4 := 4) rfl (j := 1) (by decide) (by omega) d_law_958 d_law_959 d_law_961 d_law_962 d_law_963 ?_
  refine q_arg C0 hS hl (i0 := 0) rfl (i4 := 4) rfl (j := 2) (by decide) (by omega) d_law_964 d_law_965 d_law_967 d_law_968 d_law_969 ?_
  refine q_arg C0 hS hl (i0 := 0) rfl (i4 := 4) rfl (j := 3) (by decide) (by omega) d_law_970 d_law_971 d_law_973 d_law_974 d_law_975 ?_
  refine q_arg C0 hS hl (i0 := 0) rfl (i4 := 4) rfl (j := 4) (by decide) (by omega) d_law_976 d_law_977 d_law_979 d_law_980 d_law_981 ?_
  refine lv_aload_n hx hb d_law_982 rfl (lv_at hl 3 rfl) ?_
  refine q_verifyGrowth C0 hP hD hS hl hJ hcl hsl (fun _ _ => Classical.propDecidable _) (fun r gc2 rr2 fo2 tl2 H locs hR hP hD hS => ?_)
  refine lv_istore (lv' := [(5, .int r), (0, .ref b), (1, .ref (ac 0)), (2, .ref h), (3, .ref ao), (4, .int (nI (5 * n)))]) hx hb d_law_986 hl (by decide) rfl (fun ls hl => ?_)
  refine lv_aload_n hx hb d_law_988 rfl (lv_at hl 3 rfl) ?_
  refine q_arg C0 hS hl (i0 := 1) rfl (i4 := 5) rfl (j := 1) (by decide) (by omega) d_law_989 d_law_990 d_law_992 d_law_993 d_law_994 ?_
  refine q_arg C0 hS hl (i0 := 1) rfl (i4 := 5) rfl (j := 2) (by decide) (by omega) d_law_995 d_law_996 d_law_998 d_law_999 d_law_1000 ?_
  refine q_arg C0 hS hl (i0 := 1) rfl (i4 := 5) rfl (j := 3) (by decide) (by omega) d_law_1001 d_law_1002 d_law_1004 d_law_1005 d_law_1006 ?_
  refine q_arg C0 hS hl (i0 := 1) rfl (i4 := 5) rfl (j := 4) (by decide) (by omega) d_law_1007 d_law_1008 d_law_1010 d_law_1011 d_law_1012 ?_
  have hP2 := vP_perm (wL_pm tk ac gc2 rr2 ao fo2 h am gm la tl2) hP
  have hD2 := vD_perm (wL_pm tk ac gc2 rr2 ao fo2 h am gm la tl2) hD
  refine k_calli (va_runV (As := [.int (xs (5 * n + 1)), .int (xs (5 * n + 2)), .int (xs (5 * n + 3)), .int (xs (5 * n + 4))]) (rest := []) ⟨hx, hb, hml, hown, hts⟩ (c_M_verifyGrowth l D tk H.size h am gm la (wR tk ac gc2 rr2 ao fo2 tl2) t0 hJ.2.2.2.1.2.1.1 hJ.2.2.2.1.2.1.2.2.2.1 (tkR_byt hJ.2.2.2.1.2.1.2) (xs (5 * n + 1)) (xs (5 * n + 2)) (xs (5 * n + 3)) (xs (5 * n + 4)) (fun _ _ => Classical.propDecidable _)) (cwV 4 hts (gV t_1239 t_1240 t_1241 t_9 t_1242) rfl rfl rfl (by decide +kernel) ⟨Nat.le_of_ble_eq_true rfl, Nat.le_of_ble_eq_true rfl⟩) (k_preV hP2 hK hD2 hnw 0 rfl rfl) rfl rfl hl.1 rfl (lv_room (Nat.le_of_ble_eq_true rfl)) d_law_1013 ⟨by show cells + 156 + 0 ≤ 601024; omega, by show slots + 5856 + 0 ≤ 7293034; omega⟩) hD2 hS AL_in (fun r6 u9 H locs hpM hP hD hK hS => ?_)
  replace hP := vP_perm (wL_pm tk ac gc2 rr2 ao fo2 h am u9 la tl2).symm hP
  replace hD := vD_perm (wL_pm tk ac gc2 rr2 ao fo2 h am u9 la tl2).symm hD
  obtain ⟨hJ2, h02, ho2⟩ := hR r6 u9 la ⟨hpM, rfl⟩
  refine lv_istore (lv' := [(6, .int r6), (5, .int r), (0, .ref b), (1, .ref (ac 0)), (2, .ref h), (3, .ref ao), (4, .int (nI (5 * n)))]) hx hb d_law_1016 hl (by decide) rfl (fun ls hl => ?_)
  refine q_thr C0 hP hD hS hl (by omega) (by omega) (i2 := 4) rfl (i5 := 1) rfl h02 d_law_1018 d_law_1019 d_law_1022 d_law_1024 (fun H locs hP hD hS => ?_)
  refine q_cmz C0 hP hD hS hl (i3 := 5) rfl (i5 := 1) rfl (i6 := 0) rfl ho2 d_law_1029 d_law_1031 d_law_1034 d_law_1035 d_law_1036 d_law_1037 d_law_1039 d_law_1042 d_law_1043 d_law_1046 d_law_1047 d_law_1048 ?_
  refine lv_goto hx hb d_law_1053 (tgt := 1056) (by decide) ?_
  exact kk gc2 rr2 fo2 u9 la tl2 ls H locs hJ2 (lv_sub hl [2, 3, 4, 5, 6] rfl) hP hD hS
end QQ
