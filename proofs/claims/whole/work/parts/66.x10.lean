section XM
variable {p : Program} {l : Launch} {e : Env} {R : Room} {s : State} {m : MethodId} {args : Array Value} {below : List Frame} {meth : Method} {c : Code}
variable {cc : ByteArray} {pc : Nat} {ls : Array Slot} {D : va_G} {A : Nat → Prop} {tk : Nat → ClassId} {ws : va_W}
theorem x_throwN {cls Y : String} {names : List String} {icl ild ict ix nL : Nat} {bytes : ByteArray} {tx : String} {q0 : Nat} {free : Addr → Prop} (hx : p.tables.exec = Jvm.exec) (hb : c.code = cc) (hml : c.maxLocals = nL) (hls : ls.size = nL) (htr : ∀ e : Env, l.admits e → e.platform.stackTraces = false) (hown : s.vm.findClass "SealedBook" = some m.cls)
    (hcls : Jvm.Bundle.fit cls = true) (hY : Jvm.Bundle.fit Y = true) (hnames : ∀ n ∈ names, Jvm.Bundle.fit n = true) (b0 : decode bytes 0 = .ok (.aload_n 0, 1)) (b1 : decode bytes 1 = .ok (.aload_n 1, 1)) (b2 : decode bytes 2 = .ok (.invokespecial ix, 3)) (b5 : decode bytes 5 = .ok (.return_, 1)) (hat : ∀ a ∈ xnAtoms "SealedBook" ict cls Y ix bytes names, a.before args s = true) (hcl : (Cond.classLink "SealedBook" icl cls).before args s = true) (hinst : (Cond.instantiable cls 6).before args s = true) (hini : (Cond.initialized cls).before args s = true) (hZ : vk_R "SealedBook" ild tx q0 s)
    (hout : c.exceptionTable.isEmpty = true) (hlk : meth.locks = false) (hK : va_K D CC (TY tk) s) (hP : va_P D CC ws s.heap) (hD : va_D A ws)
    (hdn : decode cc pc = .ok (.new icl, 3)) (hdd : decode cc (pc + 3) = .ok (.dup, 1)) (hdl : decode cc (pc + 3 + 1) = .ok (.ldc ild, 2)) (hdi : decode cc (pc + 3 + 1 + 2) = .ok (.invokespecial ict, 3)) (hda : decode cc (pc + 3 + 1 + 2 + 3) = .ok (.athrow, 1))
    (hRf : names.length + 4 < R.frames) (hRl : 1 + (13 * (names.length + 2) + 42) ≤ R.locals) (hRc : 0 + 1 ≤ R.cells) (hRs : 0 + 6 ≤ R.slots) :
    W p l e R s m args below meth c s.heap [] 0 0 (MQT below (Qx cls D tk ws A) args s 1 6 free) (F0 m pc ls []) := by
  obtain ⟨cX, kX, hcX, hkX, -⟩ := Cond.instantiable_spec hinst
  refine W.newcK (g := F0 m pc ls []) hx hb hown hcl hinst hini rfl hdn hRc hRs hcX rfl (fun H1 kC hkC hcell hsz hold => ?_)
  refine W.eq (g2 := F0 m (pc + 3) ls [.ref s.heap.size]) rfl ?_
  refine lv_dup hx hb hdd rfl ?_
  refine va_ldcS hx hb hown hZ hdl ?_
  intro T hT X
  have ekC : kX = kC := Option.some.inj (hkX.symm.trans hkC)
  subst ekC
  have hout9 : ∀ z ∈ c.exceptionTable.toList, covers z (pc + 3 + 1 + 2 + 3) = false := by
    intro z hz
    have e0 : c.exceptionTable = #[] := Array.isEmpty_iff.mp hout
    rw [e0] at hz
    cases hz
  obtain ⟨U, st, hrun, hend, hWU, hsame, ce, hce, oc1, oc2, oc3⟩ := x_ctor X hx (htr e X.admits) hown hcls hY hnames b0 b1 b2 b5 hat (fun x hx => by cases hx) (a := s.heap.size) hcX hkX (by rw [hT]; exact hcell) (Nat.le_refl _) (msg := .ref q0) rfl
    (g := F0 m (pc + 3 + 1 + 2) ls [.ref q0, .ref s.heap.size, .ref s.heap.size]) rfl (hls.trans hml.symm) rfl rfl (rest := []) rfl (by rw [hb]; exact hdi) (by rw [hb]; exact hda) hout9 hRf (by show 2 * 0 + (1 + 0) + _ ≤ _; omega) hlk
  have hkp := x_kept hsame
  have hlt : ∀ (k : Nat) (q : Nat × va_E), ws[k]? = some q → U.heap[q.1]? = s.heap[q.1]? := fun k q hq => hkp q.1 (hP k q hq).lt
  refine ⟨U, st, .threw s.heap.size, hrun, hend, ⟨s.heap.size, rfl, Nat.le_refl _, ⟨ce, hce, by rw [oc3]; rfl, ?_, ?_⟩, ⟨?_, va_K.moved hWU.alike hK, hD⟩, ?_, fun q h1 _ => hkp q h1⟩, [], ⟨⟨_, rfl⟩, hWU, hsame⟩, fun q hq => by cases hq⟩
  · rw [hWU.alike.findClass]; exact oc1
  · rw [hWU.alike.assignable]; exact oc2
  · exact fun k q hq => (hP k q hq).kept (hlt k q hq)
  · exact Nat.le_of_lt (Array.getElem?_eq_some_iff.mp hce).1
end XM

set_option maxHeartbeats 4000000 in
set_option maxRecDepth 100000 in
theorem x_K_requireValue (l : Launch) (htr : ∀ e : Env, l.admits e → e.platform.stackTraces = false) (D : va_G) (tk : Nat → ClassId) (sz : Nat) (ws : va_W) : MetT l y_K_requireValue w_K_requireValue ({ frames := 7, cells := 1, slots := 6, locals := 100 }) (va_Pc [.int (nI 0)] (k_preT D (TY tk) sz ws)) (Qx "java/util/NoSuchElementException" D tk ws (va_A ws sz)) 1 6 (va_A ws sz) := by
  refine k_ofT (l := l) (rm := ({ frames := 7, cells := 1, slots := 6, locals := 100 } : Room)) (mc := 1) (ms := 6) (av := [.int (nI 0)]) (y := y_K_requireValue) (cc := prog_1_method_25_code) (maxL := 1) (ret := none) (ws := ws) (sz := sz) (D := D) (tk := tk) "java/util/NoSuchElementException" (by decide) (Nat.le_of_ble_eq_true rfl) ?_
  intro p e s m args below meth c Q A ls hQ hx hb hr hlk hin hts hT hown hml hnw hP hK hD hA hsz hl hAe hxF hex
  have hS : va_S A s.heap s.heap [] := va_S.rf
  have hc0 : 0 + 0 ≤ 1 ∧ 0 + 0 ≤ 6 := ⟨by decide, by decide⟩
  replace hl : lv_has ls 1 [(0, .int (nI 0))] := hl
  replace hP : va_P D CC ws s.heap := hP
  replace hK : va_K D CC (TY tk) s := hK
  have hP0 := hP
  refine lv_iload_n hx hb d_K_requireValue_0 rfl (lv_at hl 0 rfl) ?_
  refine st_if_ne hx hb (by omega) d_K_requireValue_1 (tgt := 14) (by decide) (fun hc1 => (by exfalso; first | exact hc1 | omega)) (fun hc1 => ?_)
  obtain ⟨q0, hZ⟩ := hxF.2.2.1.2.2
  subst hQ
  exact x_throwN (cls := "java/util/NoSuchElementException") (Y := "java/lang/RuntimeException") (names := ["java/lang/Exception"]) (icl := 207) (ild := 209) (ict := 211) (ix := 13) (bytes := prog_27_method_4_code) hx hb hml hl.1 htr hown (by decide) (by decide) (by decide) (by decide +kernel) (by decide +kernel) (by decide +kernel) (by decide +kernel) (fun a ha => (xo_NSE a ha).elim (hT a) (fun z => z.elim (xW_ok hxF a) (xL_ok hxF a))) (hT _ t_754) (hT _ t_755) (hT _ t_27) hZ hex hlk hK hP hD d_K_requireValue_4 d_K_requireValue_7 d_K_requireValue_8 d_K_requireValue_10 d_K_requireValue_13 (by decide) (by decide) (by decide) (by decide)

set_option maxHeartbeats 4000000 in
set_option maxRecDepth 100000 in
theorem x_K_get_no1 (l : Launch) (htr : ∀ e : Env, l.admits e → e.platform.stackTraces = false) (D : va_G) (tk : Nat → ClassId) (sz : Nat) (ad : Nat → Nat) (g : Nat → Nat → Int32) (rr : Nat → Nat → Option Nat) (tl : va_W) (k : Nat) (hk : k < 48) (h3 : g 3 k = nI 0) : MetT l y_K_get w_K_get ({ frames := 8, cells := 1, slots := 6, locals := 120 }) (va_Pc [.ref (ad 0), .int (-1), .int (nI k)] (k_preT D (TY tk) sz (wC tk ad g rr ++ tl))) (Qx "java/util/NoSuchElementException" D tk (wC tk ad g rr ++ tl) (va_A (wC tk ad g rr ++ tl) sz)) 1 6 (va_A (wC tk ad g rr ++ tl) sz) := by
  refine k_ofT (l := l) (rm := ({ frames := 8, cells := 1, slots := 6, locals := 120 } : Room)) (mc := 1) (ms := 6) (av := [.ref (ad 0), .int (-1), .int (nI k)]) (y := y_K_get) (cc := prog_1_method_9_code) (maxL := 4) (ret := (some .int)) (ws := wC tk ad g rr ++ tl) (sz := sz) (D := D) (tk := tk) "java/util/NoSuchElementException" (by decide) (Nat.le_of_ble_eq_true rfl) ?_
  intro p e s m args below meth c Q A ls hQ hx hb hr hlk hin hts hT hown hml hnw hP hK hD hA hsz hl hAe hxF hex
  have hS : va_S A s.heap s.heap [] := va_S.rf
  have hc0 : 0 + 0 ≤ 1 ∧ 0 + 0 ≤ 6 := ⟨by decide, by decide⟩
  replace hl : lv_has ls 4 [(0, .ref (ad 0)), (1, .int (-1)), (2, .int (nI k))] := hl
  replace hP : va_P D CC (wC tk ad g rr ++ tl) s.heap := hP
  replace hK : va_K D CC (TY tk) s := hK
  have hP0 := hP
  refine lv_iload_n hx hb d_K_get_0 rfl (lv_at hl 1 rfl) ?_
  refine lv_iconst (v := -1) hx hb d_K_get_1 (by decide) ?_
  refine lv_icmp_eq hx hb d_K_get_2 (tgt := 10) (by decide) (fun hc2 => ?_) (fun hc2 => absurd hc2 (by decide))
  refine lv_iload_n hx hb d_K_get_10 rfl (lv_at hl 2 rfl) ?_
  refine k_callv (va_runS (As := [.int (nI k)]) (rest := []) ⟨hx, hb, hml, hown, hts⟩ (c_K_requireKey1 l D tk s.heap.size k (by omega) (wC tk ad g rr ++ tl)) (cwS 1 hts (gS t_287 t_288 t_1 t_289) rfl rfl rfl (by decide +kernel) ⟨Nat.le_of_ble_eq_true rfl, Nat.le_of_ble_eq_true rfl⟩) (k_preS hP hK hD hnw) rfl rfl hl.1 rfl (lv_room (Nat.le_of_ble_eq_true rfl)) d_K_get_11 ⟨by show _ ≤ 1; omega, by show _ ≤ 6; omega⟩) hD hS hA (fun _ H locs hp11 hP hD hK hS => ?_)
  replace hP : va_P D CC (wC tk ad g rr ++ tl) H := hP
  replace hD : va_D A (wC tk ad g rr ++ tl) := hD
  refine lv_iload_n hx hb d_K_get_14 rfl (lv_at hl 1 rfl) ?_
  refine lv_iconst (v := -1) hx hb d_K_get_15 (by decide) ?_
  refine lv_icmp_ne hx hb d_K_get_16 (tgt := 41) (by decide) (fun hc16 => absurd hc16 (by decide)) (fun hc16 => ?_)
  refine lv_aload_n hx hb d_K_get_19 rfl (lv_at hl 0 rfl) ?_
  refine gf_K_26 (v := .ref (ad 5)) hx hb hT hown hK hP 0 rfl rfl d_K_get_20 ?_
  refine gf_K_107 (v := .ref (ad 6)) hx hb hT hown hK hP 5 rfl rfl d_K_get_23 ?_
  refine lv_iload_n hx hb d_K_get_26 rfl (lv_at hl 2 rfl) ?_
  refine st_zald hx hb hK hP 6 1 rfl rfl (by omega) (by decide) d_K_get_27 ?_
  refine st_top (show g 3 k = nI 0 from h3) ?_
  refine x_callS (As := [.int (nI 0)]) (rest := []) ⟨hx, hb, hml, hown, hts⟩ (x_K_requireValue l htr D tk H.size (wC tk ad g rr ++ tl)) (cwS 1 hts (gS t_751 t_752 t_1 t_753) rfl rfl rfl (by decide +kernel) ⟨Nat.le_of_ble_eq_true rfl, Nat.le_of_ble_eq_true rfl⟩) (x_preS hP hK hD hnw hxF (st_kept hP0 (by rw [← hAe]; exact hS))) rfl rfl hl.1 rfl (lv_room (Nat.le_of_ble_eq_true rfl)) d_K_get_28 ⟨by decide, by decide⟩ (fun x st₀ t L hst hWt hq hL => ?_)
  exact x_out hQ hq hst hWt hS hD hA hL rfl rfl rfl hex hlk

set_option maxHeartbeats 4000000 in
set_option maxRecDepth 100000 in
theorem x_K_get_no2 (l : Launch) (htr : ∀ e : Env, l.admits e → e.platform.stackTraces = false) (D : va_G) (tk : Nat → ClassId) (sz : Nat) (ad : Nat → Nat) (g : Nat → Nat → Int32) (rr : Nat → Nat → Option Nat) (tl : va_W) (S : List ck_I) (ca : Nat → Nat) (bl : Nat → Nat → Option Nat) (hst : sI tk tl S ca bl) (Xs : Nat → List kv_I) (V : Nat) (hV1 : 1 ≤ V) (hV2 : V ≤ 16) (hh : ∀ v, v < V → so (Xs v) ∧ tOf S ca (Xs v) (rr 1 v)) (hV : g 2 0 = nI V) (j k : Nat) (hj : j < V) (hk : k < 48) (hgv : gt_ (Xs j) k = none) : MetT l y_K_get w_K_get ({ frames := 8, cells := 1, slots := 6, locals := 120 }) (va_Pc [.ref (ad 0), .int (nI j), .int (nI k)] (k_preT D (TY tk) sz (wC tk ad g rr ++ tl))) (Qx "java/util/NoSuchElementException" D tk (wC tk ad g rr ++ tl) (va_A (wC tk ad g rr ++ tl) sz)) 1 6 (va_A (wC tk ad g rr ++ tl) sz) := by
  refine k_ofT (l := l) (rm := ({ frames := 8, cells := 1, slots := 6, locals := 120 } : Room)) (mc := 1) (ms := 6) (av := [.ref (ad 0), .int (nI j), .int (nI k)]) (y := y_K_get) (cc := prog_1_method_9_code) (maxL := 4) (ret := (some .int)) (ws := wC tk ad g rr ++ tl) (sz := sz) (D := D) (tk := tk) "java/util/NoSuchElementException" (by decide) (Nat.le_of_ble_eq_true rfl) ?_
  intro p e s m args below meth c Q A ls hQ hx hb hr hlk hin hts hT hown hml hnw hP hK hD hA hsz hl hAe hxF hex
  have hS : va_S A s.heap s.heap [] := va_S.rf
  have hc0 : 0 + 0 ≤ 1 ∧ 0 + 0 ≤ 6 := ⟨by decide, by decide⟩
  replace hl : lv_has ls 4 [(0, .ref (ad 0)), (1, .int (nI j)), (2, .int (nI k))] := hl
  replace hP : va_P D CC (wC tk ad g rr ++ tl) s.heap := hP
  replace hK : va_K D CC (TY tk) s := hK
  have hP0 := hP
  refine lv_iload_n hx hb d_K_get_0 rfl (lv_at hl 1 rfl) ?_
  refine lv_iconst (v := -1) hx hb d_K_get_1 (by decide) ?_
  refine lv_icmp_eq hx hb d_K_get_2 (tgt := 10) (by decide) (fun hc2 => (by first | exact absurd hc2 (nI_nm1 (by omega)) | exact absurd (nI_nm1 (by omega)) hc2)) (fun hc2 => ?_)
  refine lv_aload_n hx hb d_K_get_5 rfl (lv_at hl 0 rfl) ?_
  refine lv_iload_n hx hb d_K_get_6 rfl (lv_at hl 1 rfl) ?_
  refine k_callv (va_runV (As := [.int (nI j)]) (rest := []) ⟨hx, hb, hml, hown, hts⟩ (c_K_requireVersion1 l D tk s.heap.size ad g rr tl  V hV2 hV j (by omega)) (cwV 1 hts (gV t_747 t_749 s_4 t_1 t_750) rfl rfl rfl (by decide +kernel) ⟨Nat.le_of_ble_eq_true rfl, Nat.le_of_ble_eq_true rfl⟩) (k_preV hP hK hD hnw 0 rfl rfl) rfl rfl hl.1 rfl (lv_room (Nat.le_of_ble_eq_true rfl)) d_K_get_7 ⟨by show _ ≤ 1; omega, by show _ ≤ 6; omega⟩) hD hS hA (fun _ H locs hp7 hP hD hK hS => ?_)
  replace hP : va_P D CC (wC tk ad g rr ++ tl) H := hP
  replace hD : va_D A (wC tk ad g rr ++ tl) := hD
  refine lv_iload_n hx hb d_K_get_10 rfl (lv_at hl 2 rfl) ?_
  refine k_callv (va_runS (As := [.int (nI k)]) (rest := []) ⟨hx, hb, hml, hown, hts⟩ (c_K_requireKey1 l D tk H.size k (by omega) (wC tk ad g rr ++ tl)) (cwS 1 hts (gS t_287 t_288 t_1 t_289) rfl rfl rfl (by decide +kernel) ⟨Nat.le_of_ble_eq_true rfl, Nat.le_of_ble_eq_true rfl⟩) (k_preS hP hK hD hnw) rfl rfl hl.1 rfl (lv_room (Nat.le_of_ble_eq_true rfl)) d_K_get_11 ⟨by show _ ≤ 1; omega, by show _ ≤ 6; omega⟩) hD hS hA (fun _ H locs hp11 hP hD hK hS => ?_)
  replace hP : va_P D CC (wC tk ad g rr ++ tl) H := hP
  replace hD : va_D A (wC tk ad g rr ++ tl) := hD
  refine lv_iload_n hx hb d_K_get_14 rfl (lv_at hl 1 rfl) ?_
  refine lv_iconst (v := -1) hx hb d_K_get_15 (by decide) ?_
  refine lv_icmp_ne hx hb d_K_get_16 (tgt := 41) (by decide) (fun hc16 => ?_) (fun hc16 => (by first | exact absurd hc16 (nI_nm1 (by omega)) | exact absurd (nI_nm1 (by omega)) hc16))
  refine lv_aload_n hx hb d_K_get_41 rfl (lv_at hl 0 rfl) ?_
  refine gf_K_19 (v := .ref (ad 3)) hx hb hT hown hK hP 0 rfl rfl d_K_get_42 ?_
  refine gf_K_93 (v := .ref (ad 4)) hx hb hT hown hK hP 3 rfl rfl d_K_get_45 ?_
  refine lv_iload_n hx hb d_K_get_48 rfl (lv_at hl 1 rfl) ?_
  refine st_aald hx hb hK hP 4 3 rfl rfl (by omega) (by decide) d_K_get_49 ?_
  refine lv_iload_n hx hb d_K_get_50 rfl (lv_at hl 2 rfl) ?_
  refine k_callq (va_runS (As := [va_rf (rr 1 j), .int (nI k)]) (rest := []) ⟨hx, hb, hml, hown, hts⟩ (c_K_bottomFor l D tk H.size (wC tk ad g rr ++ tl) S ca bl (sI_C hst) (Xs j) ((hh j hj).1) (rr 1 j) ((hh j hj).2) k (by omega)) (cwS 2 hts (gS t_770 t_214 t_1 t_215) rfl rfl rfl (by decide +kernel) ⟨Nat.le_of_ble_eq_true rfl, Nat.le_of_ble_eq_true rfl⟩) (k_preS hP hK hD hnw) rfl rfl hl.1 rfl (lv_room (Nat.le_of_ble_eq_true rfl)) d_K_get_51 ⟨by show _ ≤ 1; omega, by show _ ≤ 6; omega⟩) hD hS hA (fun r51 Y9 H locs ⟨hbo, hgt⟩ hP hD hK hS => ?_)
  replace hP : va_P D CC (wC tk ad g rr ++ tl) H := hP
  replace hD : va_D A (wC tk ad g rr ++ tl) := hD
  refine sq_astore_n (lv' := [(3, va_rf r51), (0, .ref (ad 0)), (1, .int (nI j)), (2, .int (nI k))]) hx hb d_K_get_54 rfl hl (by decide) rfl (fun ls hl => ?_)
  refine sq_aload_n hx hb d_K_get_55 rfl (lv_at hl 0 rfl) ?_
  refine lv_iload_n hx hb d_K_get_56 rfl (lv_at hl 3 rfl) ?_
  refine k_calli (va_runS (As := [va_rf r51, .int (nI k)]) (rest := []) ⟨hx, hb, hml, hown, hts⟩ (c_K_holds l D tk H.size (wC tk ad g rr ++ tl) S ca bl (sI_C hst) r51 Y9 hbo k (by omega)) (cwS 2 hts (gS t_771 t_225 t_1 t_226) rfl rfl rfl (by decide +kernel) ⟨Nat.le_of_ble_eq_true rfl, Nat.le_of_ble_eq_true rfl⟩) (k_preS hP hK hD hnw) rfl rfl hl.1 rfl (lv_room (Nat.le_of_ble_eq_true rfl)) d_K_get_57 ⟨by show _ ≤ 1; omega, by show _ ≤ 6; omega⟩) hD hS hA (fun _ _ H locs hp57 hP hD hK hS => ?_)
  subst hp57
  replace hP : va_P D CC (wC tk ad g rr ++ tl) H := hP
  replace hD : va_D A (wC tk ad g rr ++ tl) := hD
  refine st_top (show (if gt_ Y9 k = none then nI 0 else nI 1) = nI 0 from by rw [if_pos (by rw [hgt, hgv])]) ?_
  refine x_callS (As := [.int (nI 0)]) (rest := []) ⟨hx, hb, hml, hown, hts⟩ (x_K_requireValue l htr D tk H.size (wC tk ad g rr ++ tl)) (cwS 1 hts (gS t_751 t_752 t_1 t_753) rfl rfl rfl (by decide +kernel) ⟨Nat.le_of_ble_eq_true rfl, Nat.le_of_ble_eq_true rfl⟩) (x_preS hP hK hD hnw hxF (st_kept hP0 (by rw [← hAe]; exact hS))) rfl rfl hl.1 rfl (lv_room (Nat.le_of_ble_eq_true rfl)) d_K_get_60 ⟨by decide, by decide⟩ (fun x st₀ t L hst hWt hq hL => ?_)
  exact x_out hQ hq hst hWt hS hD hA hL rfl rfl rfl hex hlk
