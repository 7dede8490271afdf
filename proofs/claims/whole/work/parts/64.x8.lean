set_option maxHeartbeats 4000000 in
set_option maxRecDepth 100000 in
theorem x_K_require (l : Launch) (htr : ∀ e : Env, l.admits e → e.platform.stackTraces = false) (D : va_G) (tk : Nat → ClassId) (sz : Nat) (ws : va_W) : MetT l y_K_require w_K_require ({ frames := 6, cells := 1, slots := 6, locals := 90 }) (va_Pc [.int (nI 0)] (k_preT D (TY tk) sz ws)) (Qx "java/lang/IllegalArgumentException" D tk ws (va_A ws sz)) 1 6 (va_A ws sz) := by
  refine k_ofT (l := l) (rm := ({ frames := 6, cells := 1, slots := 6, locals := 90 } : Room)) (mc := 1) (ms := 6) (av := [.int (nI 0)]) (y := y_K_require) (cc := prog_1_method_24_code) (maxL := 1) (ret := none) (ws := ws) (sz := sz) (D := D) (tk := tk) "java/lang/IllegalArgumentException" (by decide) (Nat.le_of_ble_eq_true rfl) ?_
  intro p e s m args below meth c Q A ls hQ hx hb hr hlk hin hts hT hown hml hnw hP hK hD hA hsz hl hAe hxF hex
  have hS : va_S A s.heap s.heap [] := va_S.rf
  have hc0 : 0 + 0 ≤ 1 ∧ 0 + 0 ≤ 6 := ⟨by decide, by decide⟩
  replace hl : lv_has ls 1 [(0, .int (nI 0))] := hl
  replace hP : va_P D CC ws s.heap := hP
  replace hK : va_K D CC (TY tk) s := hK
  have hP0 := hP
  refine lv_iload_n hx hb d_K_require_0 rfl (lv_at hl 0 rfl) ?_
  refine st_if_ne hx hb (by omega) d_K_require_1 (tgt := 14) (by decide) (fun hc1 => (by exfalso; first | exact hc1 | omega)) (fun hc1 => ?_)
  obtain ⟨q0, hZ⟩ := hxF.2.2.1.1
  subst hQ
  exact x_throw (cls := "java/lang/IllegalArgumentException") (names := ["java/lang/RuntimeException", "java/lang/Exception"]) (icl := 202) (ild := 204) (ict := 206) hx hb hml hl.1 htr hown (by decide) (by decide) (fun a ha => (xo_IAE a ha).elim (hT a) (fun z => z.elim (xW_ok hxF a) (xL_ok hxF a))) (hT _ t_293) (hT _ t_294) (hT _ t_13) hZ hex hlk hK hP hD d_K_require_4 d_K_require_7 d_K_require_8 d_K_require_10 d_K_require_13 (by decide) (by decide) (by decide) (by decide)

set_option maxHeartbeats 4000000 in
set_option maxRecDepth 100000 in
theorem x_K_requireKey (l : Launch) (htr : ∀ e : Env, l.admits e → e.platform.stackTraces = false) (D : va_G) (tk : Nat → ClassId) (sz : Nat) (key : Int32) (hbad : ¬ (¬ key < 0 ∧ ¬ nI 48 ≤ key)) (ws : va_W) : MetT l y_K_requireKey w_K_requireKey ({ frames := 7, cells := 1, slots := 6, locals := 110 }) (va_Pc [.int key] (k_preT D (TY tk) sz ws)) (Qx "java/lang/IllegalArgumentException" D tk ws (va_A ws sz)) 1 6 (va_A ws sz) := by
  refine k_ofT (l := l) (rm := ({ frames := 7, cells := 1, slots := 6, locals := 110 } : Room)) (mc := 1) (ms := 6) (av := [.int key]) (y := y_K_requireKey) (cc := prog_1_method_23_code) (maxL := 1) (ret := none) (ws := ws) (sz := sz) (D := D) (tk := tk) "java/lang/IllegalArgumentException" (by decide) (Nat.le_of_ble_eq_true rfl) ?_
  intro p e s m args below meth c Q A ls hQ hx hb hr hlk hin hts hT hown hml hnw hP hK hD hA hsz hl hAe hxF hex
  have hS : va_S A s.heap s.heap [] := va_S.rf
  have hc0 : 0 + 0 ≤ 1 ∧ 0 + 0 ≤ 6 := ⟨by decide, by decide⟩
  replace hl : lv_has ls 1 [(0, .int key)] := hl
  replace hP : va_P D CC ws s.heap := hP
  replace hK : va_K D CC (TY tk) s := hK
  have hP0 := hP
  refine lv_iload_n hx hb d_K_requireKey_0 rfl (lv_at hl 0 rfl) ?_
  refine lv_if_lt hx hb d_K_requireKey_1 (tgt := 14) (by decide) (fun hc1 => ?_) (fun hc1 => ?_)
  · skip
    refine lv_iconst (v := nI 0) hx hb d_K_requireKey_14 (by decide) ?_
    refine x_callS (As := [.int (nI 0)]) (rest := []) ⟨hx, hb, hml, hown, hts⟩ (x_K_require l htr D tk s.heap.size ws) (cwS 1 hts (gS t_290 t_291 t_1 t_292) rfl rfl rfl (by decide +kernel) ⟨Nat.le_of_ble_eq_true rfl, Nat.le_of_ble_eq_true rfl⟩) (x_preS hP hK hD hnw hxF (st_kept hP0 (by rw [← hAe]; exact hS))) rfl rfl hl.1 rfl (lv_room (Nat.le_of_ble_eq_true rfl)) d_K_requireKey_15 ⟨by decide, by decide⟩ (fun x st₀ t L hst hWt hq hL => ?_)
    exact x_out hQ hq hst hWt hS hD hA hL rfl rfl rfl hex hlk
  · skip
    refine lv_iload_n hx hb d_K_requireKey_4 rfl (lv_at hl 0 rfl) ?_
    refine lv_bipush (v := nI 48) hx hb d_K_requireKey_5 (by decide) ?_
    refine lv_icmp_ge hx hb d_K_requireKey_7 (tgt := 14) (by decide) (fun hc7 => ?_) (fun hc7 => ?_)
    · skip
      refine lv_iconst (v := nI 0) hx hb d_K_requireKey_14 (by decide) ?_
      refine x_callS (As := [.int (nI 0)]) (rest := []) ⟨hx, hb, hml, hown, hts⟩ (x_K_require l htr D tk s.heap.size ws) (cwS 1 hts (gS t_290 t_291 t_1 t_292) rfl rfl rfl (by decide +kernel) ⟨Nat.le_of_ble_eq_true rfl, Nat.le_of_ble_eq_true rfl⟩) (x_preS hP hK hD hnw hxF (st_kept hP0 (by rw [← hAe]; exact hS))) rfl rfl hl.1 rfl (lv_room (Nat.le_of_ble_eq_true rfl)) d_K_requireKey_15 ⟨by decide, by decide⟩ (fun x st₀ t L hst hWt hq hL => ?_)
      exact x_out hQ hq hst hWt hS hD hA hL rfl rfl rfl hex hlk
    · skip
      refine lv_iconst (v := nI 1) hx hb d_K_requireKey_10 (by decide) ?_
      refine lv_goto hx hb d_K_requireKey_11 (tgt := 15) (by decide) ?_
      exact absurd ⟨hc1, hc7⟩ hbad

set_option maxHeartbeats 4000000 in
set_option maxRecDepth 100000 in
theorem x_K_requireRoom (l : Launch) (htr : ∀ e : Env, l.admits e → e.platform.stackTraces = false) (D : va_G) (tk : Nat → ClassId) (sz : Nat) (ad : Nat → Nat) (g : Nat → Nat → Int32) (rr : Nat → Nat → Option Nat) (tl : va_W) (hV : g 2 0 = nI 16) : MetT l y_K_requireRoom w_K_requireRoom ({ frames := 6, cells := 1, slots := 6, locals := 90 }) (va_Pc [.ref (ad 0)] (k_preT D (TY tk) sz (wC tk ad g rr ++ tl))) (Qx "java/lang/IllegalStateException" D tk (wC tk ad g rr ++ tl) (va_A (wC tk ad g rr ++ tl) sz)) 1 6 (va_A (wC tk ad g rr ++ tl) sz) := by
  refine k_ofT (l := l) (rm := ({ frames := 6, cells := 1, slots := 6, locals := 90 } : Room)) (mc := 1) (ms := 6) (av := [.ref (ad 0)]) (y := y_K_requireRoom) (cc := prog_1_method_21_code) (maxL := 1) (ret := none) (ws := wC tk ad g rr ++ tl) (sz := sz) (D := D) (tk := tk) "java/lang/IllegalStateException" (by decide) (Nat.le_of_ble_eq_true rfl) ?_
  intro p e s m args below meth c Q A ls hQ hx hb hr hlk hin hts hT hown hml hnw hP hK hD hA hsz hl hAe hxF hex
  have hS : va_S A s.heap s.heap [] := va_S.rf
  have hc0 : 0 + 0 ≤ 1 ∧ 0 + 0 ≤ 6 := ⟨by decide, by decide⟩
  replace hl : lv_has ls 1 [(0, .ref (ad 0))] := hl
  replace hP : va_P D CC (wC tk ad g rr ++ tl) s.heap := hP
  replace hK : va_K D CC (TY tk) s := hK
  have hP0 := hP
  refine lv_aload_n hx hb d_K_requireRoom_0 rfl (lv_at hl 0 rfl) ?_
  refine gf_K_19 (v := .ref (ad 3)) hx hb hT hown hK hP 0 rfl rfl d_K_requireRoom_1 ?_
  refine gf_K_89 (v := .int (g 2 0)) hx hb hT hown hK hP 3 rfl rfl d_K_requireRoom_4 ?_
  refine st_top (show g 2 0 = nI 16 from hV) ?_
  refine lv_bipush (v := nI 16) hx hb d_K_requireRoom_7 (by decide) ?_
  refine st_icmp_lt hx hb (by omega) (by omega) d_K_requireRoom_9 (tgt := 22) (by decide) (fun hc9 => (by exfalso; first | exact hc9 | omega)) (fun hc9 => ?_)
  obtain ⟨q0, hZ⟩ := hxF.2.2.1.2.1
  subst hQ
  exact x_throw (cls := "java/lang/IllegalStateException") (names := ["java/lang/RuntimeException", "java/lang/Exception"]) (icl := 195) (ild := 197) (ict := 199) hx hb hml hl.1 htr hown (by decide) (by decide) (fun a ha => (xo_ISE a ha).elim (hT a) (fun z => z.elim (xW_ok hxF a) (xL_ok hxF a))) (hT _ t_365) (hT _ t_366) (hT _ t_14) hZ hex hlk hK hP hD d_K_requireRoom_12 d_K_requireRoom_15 d_K_requireRoom_16 d_K_requireRoom_18 d_K_requireRoom_21 (by decide) (by decide) (by decide) (by decide)

set_option maxHeartbeats 4000000 in
set_option maxRecDepth 100000 in
theorem x_K_requireVersion (l : Launch) (htr : ∀ e : Env, l.admits e → e.platform.stackTraces = false) (D : va_G) (tk : Nat → ClassId) (sz : Nat) (ad : Nat → Nat) (g : Nat → Nat → Int32) (rr : Nat → Nat → Option Nat) (tl : va_W) (v : Int32) (hbad : ¬ (¬ v < 0 ∧ ¬ g 2 0 ≤ v)) : MetT l y_K_requireVersion w_K_requireVersion ({ frames := 7, cells := 1, slots := 6, locals := 110 }) (va_Pc [.ref (ad 0), .int v] (k_preT D (TY tk) sz (wC tk ad g rr ++ tl))) (Qx "java/lang/IllegalArgumentException" D tk (wC tk ad g rr ++ tl) (va_A (wC tk ad g rr ++ tl) sz)) 1 6 (va_A (wC tk ad g rr ++ tl) sz) := by
  refine k_ofT (l := l) (rm := ({ frames := 7, cells := 1, slots := 6, locals := 110 } : Room)) (mc := 1) (ms := 6) (av := [.ref (ad 0), .int v]) (y := y_K_requireVersion) (cc := prog_1_method_22_code) (maxL := 2) (ret := none) (ws := wC tk ad g rr ++ tl) (sz := sz) (D := D) (tk := tk) "java/lang/IllegalArgumentException" (by decide) (Nat.le_of_ble_eq_true rfl) ?_
  intro p e s m args below meth c Q A ls hQ hx hb hr hlk hin hts hT hown hml hnw hP hK hD hA hsz hl hAe hxF hex
  have hS : va_S A s.heap s.heap [] := va_S.rf
  have hc0 : 0 + 0 ≤ 1 ∧ 0 + 0 ≤ 6 := ⟨by decide, by decide⟩
  replace hl : lv_has ls 2 [(0, .ref (ad 0)), (1, .int v)] := hl
  replace hP : va_P D CC (wC tk ad g rr ++ tl) s.heap := hP
  replace hK : va_K D CC (TY tk) s := hK
  have hP0 := hP
  refine lv_iload_n hx hb d_K_requireVersion_0 rfl (lv_at hl 1 rfl) ?_
  refine lv_if_lt hx hb d_K_requireVersion_1 (tgt := 19) (by decide) (fun hc1 => ?_) (fun hc1 => ?_)
  · skip
    refine lv_iconst (v := nI 0) hx hb d_K_requireVersion_19 (by decide) ?_
    refine x_callS (As := [.int (nI 0)]) (rest := []) ⟨hx, hb, hml, hown, hts⟩ (x_K_require l htr D tk s.heap.size (wC tk ad g rr ++ tl)) (cwS 1 hts (gS t_290 t_291 t_1 t_292) rfl rfl rfl (by decide +kernel) ⟨Nat.le_of_ble_eq_true rfl, Nat.le_of_ble_eq_true rfl⟩) (x_preS hP hK hD hnw hxF (st_kept hP0 (by rw [← hAe]; exact hS))) rfl rfl hl.1 rfl (lv_room (Nat.le_of_ble_eq_true rfl)) d_K_requireVersion_20 ⟨by decide, by decide⟩ (fun x st₀ t L hst hWt hq hL => ?_)
    exact x_out hQ hq hst hWt hS hD hA hL rfl rfl rfl hex hlk
  · skip
    refine lv_iload_n hx hb d_K_requireVersion_4 rfl (lv_at hl 1 rfl) ?_
    refine lv_aload_n hx hb d_K_requireVersion_5 rfl (lv_at hl 0 rfl) ?_
    refine gf_K_19 (v := .ref (ad 3)) hx hb hT hown hK hP 0 rfl rfl d_K_requireVersion_6 ?_
    refine gf_K_89 (v := .int (g 2 0)) hx hb hT hown hK hP 3 rfl rfl d_K_requireVersion_9 ?_
    refine lv_icmp_ge hx hb d_K_requireVersion_12 (tgt := 19) (by decide) (fun hc12 => ?_) (fun hc12 => ?_)
    · skip
      refine lv_iconst (v := nI 0) hx hb d_K_requireVersion_19 (by decide) ?_
      refine x_callS (As := [.int (nI 0)]) (rest := []) ⟨hx, hb, hml, hown, hts⟩ (x_K_require l htr D tk s.heap.size (wC tk ad g rr ++ tl)) (cwS 1 hts (gS t_290 t_291 t_1 t_292) rfl rfl rfl (by decide +kernel) ⟨Nat.le_of_ble_eq_true rfl, Nat.le_of_ble_eq_true rfl⟩) (x_preS hP hK hD hnw hxF (st_kept hP0 (by rw [← hAe]; exact hS))) rfl rfl hl.1 rfl (lv_room (Nat.le_of_ble_eq_true rfl)) d_K_requireVersion_20 ⟨by decide, by decide⟩ (fun x st₀ t L hst hWt hq hL => ?_)
      exact x_out hQ hq hst hWt hS hD hA hL rfl rfl rfl hex hlk
    · skip
      refine lv_iconst (v := nI 1) hx hb d_K_requireVersion_15 (by decide) ?_
      refine lv_goto hx hb d_K_requireVersion_16 (tgt := 20) (by decide) ?_
      exact absurd ⟨hc1, hc12⟩ hbad

set_option maxHeartbeats 4000000 in
set_option maxRecDepth 100000 in
theorem x_K_put_key (l : Launch) (htr : ∀ e : Env, l.admits e → e.platform.stackTraces = false) (D : va_G) (tk : Nat → ClassId) (sz : Nat) (ad : Nat → Nat) (g : Nat → Nat → Int32) (rr : Nat → Nat → Option Nat) (tl : va_W) (key : Int32) (hbad : ¬ (¬ key < 0 ∧ ¬ nI 48 ≤ key)) (v : Int32) : MetT l y_K_put w_K_put ({ frames := 8, cells := 1, slots := 6, locals := 130 }) (va_Pc [.ref (ad 0), .int key, .int v] (k_preT D (TY tk) sz (wC tk ad g rr ++ tl))) (Qx "java/lang/IllegalArgumentException" D tk (wC tk ad g rr ++ tl) (va_A (wC tk ad g rr ++ tl) sz)) 1 6 (va_A (wC tk ad g rr ++ tl) sz) := by
  refine k_ofT (l := l) (rm := ({ frames := 8, cells := 1, slots := 6, locals := 130 } : Room)) (mc := 1) (ms := 6) (av := [.ref (ad 0), .int key, .int v]) (y := y_K_put) (cc := prog_1_method_2_code) (maxL := 3) (ret := none) (ws := wC tk ad g rr ++ tl) (sz := sz) (D := D) (tk := tk) "java/lang/IllegalArgumentException" (by decide) (Nat.le_of_ble_eq_true rfl) ?_
  intro p e s m args below meth c Q A ls hQ hx hb hr hlk hin hts hT hown hml hnw hP hK hD hA hsz hl hAe hxF hex
  have hS : va_S A s.heap s.heap [] := va_S.rf
  have hc0 : 0 + 0 ≤ 1 ∧ 0 + 0 ≤ 6 := ⟨by decide, by decide⟩
  replace hl : lv_has ls 3 [(0, .ref (ad 0)), (1, .int key), (2, .int v)] := hl
  replace hP : va_P D CC (wC tk ad g rr ++ tl) s.heap := hP
  replace hK : va_K D CC (TY tk) s := hK
  have hP0 := hP
  refine lv_iload_n hx hb d_K_put_0 rfl (lv_at hl 1 rfl) ?_
  refine x_callS (As := [.int key]) (rest := []) ⟨hx, hb, hml, hown, hts⟩ (x_K_requireKey l htr D tk s.heap.size key hbad (wC tk ad g rr ++ tl)) (cwS 1 hts (gS t_287 t_288 t_1 t_289) rfl rfl rfl (by decide +kernel) ⟨Nat.le_of_ble_eq_true rfl, Nat.le_of_ble_eq_true rfl⟩) (x_preS hP hK hD hnw hxF (st_kept hP0 (by rw [← hAe]; exact hS))) rfl rfl hl.1 rfl (lv_room (Nat.le_of_ble_eq_true rfl)) d_K_put_1 ⟨by decide, by decide⟩ (fun x st₀ t L hst hWt hq hL => ?_)
  exact x_out hQ hq hst hWt hS hD hA hL rfl rfl rfl hex hlk

set_option maxHeartbeats 4000000 in
set_option maxRecDepth 100000 in
theorem x_K_put_room (l : Launch) (htr : ∀ e : Env, l.admits e → e.platform.stackTraces = false) (D : va_G) (tk : Nat → ClassId) (sz : Nat) (ad : Nat → Nat) (g : Nat → Nat → Int32) (rr : Nat → Nat → Option Nat) (tl : va_W) (hV : g 2 0 = nI 16) (k : Nat) (hk : k < 48) (v : Int32) : MetT l y_K_put w_K_put ({ frames := 7, cells := 1, slots := 6, locals := 110 }) (va_Pc [.ref (ad 0), .int (nI k), .int v] (k_preT D (TY tk) sz (wC tk ad g rr ++ tl))) (Qx "java/lang/IllegalStateException" D tk (wC tk ad g rr ++ tl) (va_A (wC tk ad g rr ++ tl) sz)) 1 6 (va_A (wC tk ad g rr ++ tl) sz) := by
  refine k_ofT (l := l) (rm := ({ frames := 7, cells := 1, slots := 6, locals := 110 } : Room)) (mc := 1) (ms := 6) (av := [.ref (ad 0), .int (nI k), .int v]) (y := y_K_put) (cc := prog_1_method_2_code) (maxL := 3) (ret := none) (ws := wC tk ad g rr ++ tl) (sz := sz) (D := D) (tk := tk) "java/lang/IllegalStateException" (by decide) (Nat.le_of_ble_eq_true rfl) ?_
  intro p e s m args below meth c Q A ls hQ hx hb hr hlk hin hts hT hown hml hnw hP hK hD hA hsz hl hAe hxF hex
  have hS : va_S A s.heap s.heap [] := va_S.rf
  have hc0 : 0 + 0 ≤ 1 ∧ 0 + 0 ≤ 6 := ⟨by decide, by decide⟩
  replace hl : lv_has ls 3 [(0, .ref (ad 0)), (1, .int (nI k)), (2, .int v)] := hl
  replace hP : va_P D CC (wC tk ad g rr ++ tl) s.heap := hP
  replace hK : va_K D CC (TY tk) s := hK
  have hP0 := hP
  refine lv_iload_n hx hb d_K_put_0 rfl (lv_at hl 1 rfl) ?_
  refine k_callv (va_runS (As := [.int (nI k)]) (rest := []) ⟨hx, hb, hml, hown, hts⟩ (c_K_requireKey1 l D tk s.heap.size k (by omega) (wC tk ad g rr ++ tl)) (cwS 1 hts (gS t_287 t_288 t_1 t_289) rfl rfl rfl (by decide +kernel) ⟨Nat.le_of_ble_eq_true rfl, Nat.le_of_ble_eq_true rfl⟩) (k_preS hP hK hD hnw) rfl rfl hl.1 rfl (lv_room (Nat.le_of_ble_eq_true rfl)) d_K_put_1 ⟨by show _ ≤ 1; omega, by show _ ≤ 6; omega⟩) hD hS hA (fun _ H locs hp1 hP hD hK hS => ?_)
  replace hP : va_P D CC (wC tk ad g rr ++ tl) H := hP
  replace hD : va_D A (wC tk ad g rr ++ tl) := hD
  refine lv_aload_n hx hb d_K_put_4 rfl (lv_at hl 0 rfl) ?_
  refine x_callV (As := []) (rest := []) ⟨hx, hb, hml, hown, hts⟩ (x_K_requireRoom l htr D tk H.size ad g rr tl hV) (cwV 0 hts (gV t_361 t_363 s_1 t_1 t_364) rfl rfl rfl (by decide +kernel) ⟨Nat.le_of_ble_eq_true rfl, Nat.le_of_ble_eq_true rfl⟩) (x_preV hP hK hD hnw hxF (st_kept hP0 (by rw [← hAe]; exact hS)) 0 rfl rfl) rfl rfl hl.1 rfl (lv_room (Nat.le_of_ble_eq_true rfl)) d_K_put_5 ⟨by decide, by decide⟩ (fun x st₀ t L hst hWt hq hL => ?_)
  exact x_out hQ hq hst hWt hS hD hA hL rfl rfl rfl hex hlk

set_option maxHeartbeats 4000000 in
set_option maxRecDepth 100000 in
theorem x_K_delete_key (l : Launch) (htr : ∀ e : Env, l.admits e → e.platform.stackTraces = false) (D : va_G) (tk : Nat → ClassId) (sz : Nat) (ad : Nat → Nat) (g : Nat → Nat → Int32) (rr : Nat → Nat → Option Nat) (tl : va_W) (key : Int32) (hbad : ¬ (¬ key < 0 ∧ ¬ nI 48 ≤ key)) : MetT l y_K_delete w_K_delete ({ frames := 8, cells := 1, slots := 6, locals := 130 }) (va_Pc [.ref (ad 0), .int key] (k_preT D (TY tk) sz (wC tk ad g rr ++ tl))) (Qx "java/lang/IllegalArgumentException" D tk (wC tk ad g rr ++ tl) (va_A (wC tk ad g rr ++ tl) sz)) 1 6 (va_A (wC tk ad g rr ++ tl) sz) := by
  refine k_ofT (l := l) (rm := ({ frames := 8, cells := 1, slots := 6, locals := 130 } : Room)) (mc := 1) (ms := 6) (av := [.ref (ad 0), .int key]) (y := y_K_delete) (cc := prog_1_method_3_code) (maxL := 2) (ret := (some .boolean)) (ws := wC tk ad g rr ++ tl) (sz := sz) (D := D) (tk := tk) "java/lang/IllegalArgumentException" (by decide) (Nat.le_of_ble_eq_true rfl) ?_
  intro p e s m args below meth c Q A ls hQ hx hb hr hlk hin hts hT hown hml hnw hP hK hD hA hsz hl hAe hxF hex
  have hS : va_S A s.heap s.heap [] := va_S.rf
  have hc0 : 0 + 0 ≤ 1 ∧ 0 + 0 ≤ 6 := ⟨by decide, by decide⟩
  replace hl : lv_has ls 2 [(0, .ref (ad 0)), (1, .int key)] := hl
  replace hP : va_P D CC (wC tk ad g rr ++ tl) s.heap := hP
  replace hK : va_K D CC (TY tk) s := hK
  have hP0 := hP
  refine lv_iload_n hx hb d_K_delete_0 rfl (lv_at hl 1 rfl) ?_
  refine x_callS (As := [.int key]) (rest := []) ⟨hx, hb, hml, hown, hts⟩ (x_K_requireKey l htr D tk s.heap.size key hbad (wC tk ad g rr ++ tl)) (cwS 1 hts (gS t_287 t_288 t_1 t_289) rfl rfl rfl (by decide +kernel) ⟨Nat.le_of_ble_eq_true rfl, Nat.le_of_ble_eq_true rfl⟩) (x_preS hP hK hD hnw hxF (st_kept hP0 (by rw [← hAe]; exact hS))) rfl rfl hl.1 rfl (lv_room (Nat.le_of_ble_eq_true rfl)) d_K_delete_1 ⟨by decide, by decide⟩ (fun x st₀ t L hst hWt hq hL => ?_)
  exact x_out hQ hq hst hWt hS hD hA hL rfl rfl rfl hex hlk

set_option maxHeartbeats 4000000 in
set_option maxRecDepth 100000 in
theorem x_K_delete_room (l : Launch) (htr : ∀ e : Env, l.admits e → e.platform.stackTraces = false) (D : va_G) (tk : Nat → ClassId) (sz : Nat) (ad : Nat → Nat) (g : Nat → Nat → Int32) (rr : Nat → Nat → Option Nat) (tl : va_W) (hV : g 2 0 = nI 16) (k : Nat) (hk : k < 48) : MetT l y_K_delete w_K_delete ({ frames := 7, cells := 1, slots := 6, locals := 110 }) (va_Pc [.ref (ad 0), .int (nI k)] (k_preT D (TY tk) sz (wC tk ad g rr ++ tl))) (Qx "java/lang/IllegalStateException" D tk (wC tk ad g rr ++ tl) (va_A (wC tk ad g rr ++ tl) sz)) 1 6 (va_A (wC tk ad g rr ++ tl) sz) := by
  refine k_ofT (l := l) (rm := ({ frames := 7, cells := 1, slots := 6, locals := 110 } : Room)) (mc := 1) (ms := 6) (av := [.ref (ad 0), .int (nI k)]) (y := y_K_delete) (cc := prog_1_method_3_code) (maxL := 2) (ret := (some .boolean)) (ws := wC tk ad g rr ++ tl) (sz := sz) (D := D) (tk := tk) "java/lang/IllegalStateException" (by decide) (Nat.le_of_ble_eq_true rfl) ?_
  intro p e s m args below meth c Q A ls hQ hx hb hr hlk hin hts hT hown hml hnw hP hK hD hA hsz hl hAe hxF hex
  have hS : va_S A s.heap s.heap [] := va_S.rf
  have hc0 : 0 + 0 ≤ 1 ∧ 0 + 0 ≤ 6 := ⟨by decide, by decide⟩
  replace hl : lv_has ls 2 [(0, .ref (ad 0)), (1, .int (nI k))] := hl
  replace hP : va_P D CC (wC tk ad g rr ++ tl) s.heap := hP
  replace hK : va_K D CC (TY tk) s := hK
  have hP0 := hP
  refine lv_iload_n hx hb d_K_delete_0 rfl (lv_at hl 1 rfl) ?_
  refine k_callv (va_runS (As := [.int (nI k)]) (rest := []) ⟨hx, hb, hml, hown, hts⟩ (c_K_requireKey1 l D tk s.heap.size k (by omega) (wC tk ad g rr ++ tl)) (cwS 1 hts (gS t_287 t_288 t_1 t_289) rfl rfl rfl (by decide +kernel) ⟨Nat.le_of_ble_eq_true rfl, Nat.le_of_ble_eq_true rfl⟩) (k_preS hP hK hD hnw) rfl rfl hl.1 rfl (lv_room (Nat.le_of_ble_eq_true rfl)) d_K_delete_1 ⟨by show _ ≤ 1; omega, by show _ ≤ 6; omega⟩) hD hS hA (fun _ H locs hp1 hP hD hK hS => ?_)
  replace hP : va_P D CC (wC tk ad g rr ++ tl) H := hP
  replace hD : va_D A (wC tk ad g rr ++ tl) := hD
  refine lv_aload_n hx hb d_K_delete_4 rfl (lv_at hl 0 rfl) ?_
  refine x_callV (As := []) (rest := []) ⟨hx, hb, hml, hown, hts⟩ (x_K_requireRoom l htr D tk H.size ad g rr tl hV) (cwV 0 hts (gV t_361 t_363 s_1 t_1 t_364) rfl rfl rfl (by decide +kernel) ⟨Nat.le_of_ble_eq_true rfl, Nat.le_of_ble_eq_true rfl⟩) (x_preV hP hK hD hnw hxF (st_kept hP0 (by rw [← hAe]; exact hS)) 0 rfl rfl) rfl rfl hl.1 rfl (lv_room (Nat.le_of_ble_eq_true rfl)) d_K_delete_5 ⟨by decide, by decide⟩ (fun x st₀ t L hst hWt hq hL => ?_)
  exact x_out hQ hq hst hWt hS hD hA hL rfl rfl rfl hex hlk

set_option maxHeartbeats 4000000 in
set_option maxRecDepth 100000 in
theorem x_K_commit (l : Launch) (htr : ∀ e : Env, l.admits e → e.platform.stackTraces = false) (D : va_G) (tk : Nat → ClassId) (sz : Nat) (ad : Nat → Nat) (g : Nat → Nat → Int32) (rr : Nat → Nat → Option Nat) (tl : va_W) (hV : g 2 0 = nI 16) : MetT l y_K_commit w_K_commit ({ frames := 7, cells := 1, slots := 6, locals := 110 }) (va_Pc [.ref (ad 0)] (k_preT D (TY tk) sz (wC tk ad g rr ++ tl))) (Qx "java/lang/IllegalStateException" D tk (wC tk ad g rr ++ tl) (va_A (wC tk ad g rr ++ tl) sz)) 1 6 (va_A (wC tk ad g rr ++ tl) sz) := by
  refine k_ofT (l := l) (rm := ({ frames := 7, cells := 1, slots := 6, locals := 110 } : Room)) (mc := 1) (ms := 6) (av := [.ref (ad 0)]) (y := y_K_commit) (cc := prog_1_method_4_code) (maxL := 1) (ret := (some .int)) (ws := wC tk ad g rr ++ tl) (sz := sz) (D := D) (tk := tk) "java/lang/IllegalStateException" (by decide) (Nat.le_of_ble_eq_true rfl) ?_
  intro p e s m args below meth c Q A ls hQ hx hb hr hlk hin hts hT hown hml hnw hP hK hD hA hsz hl hAe hxF hex
  have hS : va_S A s.heap s.heap [] := va_S.rf
  have hc0 : 0 + 0 ≤ 1 ∧ 0 + 0 ≤ 6 := ⟨by decide, by decide⟩
  replace hl : lv_has ls 1 [(0, .ref (ad 0))] := hl
  replace hP : va_P D CC (wC tk ad g rr ++ tl) s.heap := hP
  replace hK : va_K D CC (TY tk) s := hK
  have hP0 := hP
  refine lv_aload_n hx hb d_K_commit_0 rfl (lv_at hl 0 rfl) ?_
  refine x_callV (As := []) (rest := []) ⟨hx, hb, hml, hown, hts⟩ (x_K_requireRoom l htr D tk s.heap.size ad g rr tl hV) (cwV 0 hts (gV t_361 t_363 s_1 t_1 t_364) rfl rfl rfl (by decide +kernel) ⟨Nat.le_of_ble_eq_true rfl, Nat.le_of_ble_eq_true rfl⟩) (x_preV hP hK hD hnw hxF (st_kept hP0 (by rw [← hAe]; exact hS)) 0 rfl rfl) rfl rfl hl.1 rfl (lv_room (Nat.le_of_ble_eq_true rfl)) d_K_commit_1 ⟨by decide, by decide⟩ (fun x st₀ t L hst hWt hq hL => ?_)
  exact x_out hQ hq hst hWt hS hD hA hL rfl rfl rfl hex hlk

set_option maxHeartbeats 4000000 in
set_option maxRecDepth 100000 in
theorem x_K_root (l : Launch) (htr : ∀ e : Env, l.admits e → e.platform.stackTraces = false) (D : va_G) (tk : Nat → ClassId) (sz : Nat) (ad : Nat → Nat) (g : Nat → Nat → Int32) (rr : Nat → Nat → Option Nat) (tl : va_W) (v : Int32) (hbad : ¬ (¬ v < 0 ∧ ¬ g 2 0 ≤ v)) : MetT l y_K_root w_K_root ({ frames := 8, cells := 1, slots := 6, locals := 131 }) (va_Pc [.ref (ad 0), .int v] (k_preT D (TY tk) sz (wC tk ad g rr ++ tl))) (Qx "java/lang/IllegalArgumentException" D tk (wC tk ad g rr ++ tl) (va_A (wC tk ad g rr ++ tl) sz)) 1 6 (va_A (wC tk ad g rr ++ tl) sz) := by
  refine k_ofT (l := l) (rm := ({ frames := 8, cells := 1, slots := 6, locals := 131 } : Room)) (mc := 1) (ms := 6) (av := [.ref (ad 0), .int v]) (y := y_K_root) (cc := prog_1_method_11_code) (maxL := 2) (ret := (some .int)) (ws := wC tk ad g rr ++ tl) (sz := sz) (D := D) (tk := tk) "java/lang/IllegalArgumentException" (by decide) (Nat.le_of_ble_eq_true rfl) ?_
  intro p e s m args below meth c Q A ls hQ hx hb hr hlk hin hts hT hown hml hnw hP hK hD hA hsz hl hAe hxF hex
  have hS : va_S A s.heap s.heap [] := va_S.rf
  have hc0 : 0 + 0 ≤ 1 ∧ 0 + 0 ≤ 6 := ⟨by decide, by decide⟩
  replace hl : lv_has ls 2 [(0, .ref (ad 0)), (1, .int v)] := hl
  replace hP : va_P D CC (wC tk ad g rr ++ tl) s.heap := hP
  replace hK : va_K D CC (TY tk) s := hK
  have hP0 := hP
  refine lv_aload_n hx hb d_K_root_0 rfl (lv_at hl 0 rfl) ?_
  refine lv_iload_n hx hb d_K_root_1 rfl (lv_at hl 1 rfl) ?_
  refine x_callV (As := [.int v]) (rest := []) ⟨hx, hb, hml, hown, hts⟩ (x_K_requireVersion l htr D tk s.heap.size ad g rr tl v hbad) (cwV 1 hts (gV t_747 t_749 s_4 t_1 t_750) rfl rfl rfl (by decide +kernel) ⟨Nat.le_of_ble_eq_true rfl, Nat.le_of_ble_eq_true rfl⟩) (x_preV hP hK hD hnw hxF (st_kept hP0 (by rw [← hAe]; exact hS)) 0 rfl rfl) rfl rfl hl.1 rfl (lv_room (Nat.le_of_ble_eq_true rfl)) d_K_root_2 ⟨by decide, by decide⟩ (fun x st₀ t L hst hWt hq hL => ?_)
  exact x_out hQ hq hst hWt hS hD hA hL rfl rfl rfl hex hlk

set_option maxHeartbeats 4000000 in
set_option maxRecDepth 100000 in
theorem x_K_range (l : Launch) (htr : ∀ e : Env, l.admits e → e.platform.stackTraces = false) (D : va_G) (tk : Nat → ClassId) (sz : Nat) (ad : Nat → Nat) (g : Nat → Nat → Int32) (rr : Nat → Nat → Option Nat) (tl : va_W) (v lo hi : Int32) (hbad : ¬ (¬ v < 0 ∧ ¬ g 2 0 ≤ v)) : MetT l y_K_range w_K_range ({ frames := 8, cells := 1, slots := 6, locals := 131 }) (va_Pc [.ref (ad 0), .int v, .int lo, .int hi] (k_preT D (TY tk) sz (wC tk ad g rr ++ tl))) (Qx "java/lang/IllegalArgumentException" D tk (wC tk ad g rr ++ tl) (va_A (wC tk ad g rr ++ tl) sz)) 1 6 (va_A (wC tk ad g rr ++ tl) sz) := by
  refine k_ofT (l := l) (rm := ({ frames := 8, cells := 1, slots := 6, locals := 131 } : Room)) (mc := 1) (ms := 6) (av := [.ref (ad 0), .int v, .int lo, .int hi]) (y := y_K_range) (cc := prog_1_method_10_code) (maxL := 7) (ret := (some .int)) (ws := wC tk ad g rr ++ tl) (sz := sz) (D := D) (tk := tk) "java/lang/IllegalArgumentException" (by decide) (Nat.le_of_ble_eq_true rfl) ?_
  intro p e s m args below meth c Q A ls hQ hx hb hr hlk hin hts hT hown hml hnw hP hK hD hA hsz hl hAe hxF hex
  have hS : va_S A s.heap s.heap [] := va_S.rf
  have hc0 : 0 + 0 ≤ 1 ∧ 0 + 0 ≤ 6 := ⟨by decide, by decide⟩
  replace hl : lv_has ls 7 [(0, .ref (ad 0)), (1, .int v), (2, .int lo), (3, .int hi)] := hl
  replace hP : va_P D CC (wC tk ad g rr ++ tl) s.heap := hP
  replace hK : va_K D CC (TY tk) s := hK
  have hP0 := hP
  refine lv_aload_n hx hb d_K_range_0 rfl (lv_at hl 0 rfl) ?_
  refine lv_iload_n hx hb d_K_range_1 rfl (lv_at hl 1 rfl) ?_
  refine x_callV (As := [.int v]) (rest := []) ⟨hx, hb, hml, hown, hts⟩ (x_K_requireVersion l htr D tk s.heap.size ad g rr tl v hbad) (cwV 1 hts (gV t_747 t_749 s_4 t_1 t_750) rfl rfl rfl (by decide +kernel) ⟨Nat.le_of_ble_eq_true rfl, Nat.le_of_ble_eq_true rfl⟩) (x_preV hP hK hD hnw hxF (st_kept hP0 (by rw [← hAe]; exact hS)) 0 rfl rfl) rfl rfl hl.1 rfl (lv_room (Nat.le_of_ble_eq_true rfl)) d_K_range_2 ⟨by decide, by decide⟩ (fun x st₀ t L hst hWt hq hL => ?_)
  exact x_out hQ hq hst hWt hS hD hA hL rfl rfl rfl hex hlk

set_option maxHeartbeats 4000000 in
set_option maxRecDepth 100000 in
theorem x_K_digest (l : Launch) (htr : ∀ e : Env, l.admits e → e.platform.stackTraces = false) (D : va_G) (tk : Nat → ClassId) (sz : Nat) (ad : Nat → Nat) (g : Nat → Nat → Int32) (rr : Nat → Nat → Option Nat) (tl : va_W) (n : Int32) (hbad : ¬ (¬ n < 0 ∧ ¬ g 2 0 < n)) : MetT l y_K_digest w_K_digest ({ frames := 7, cells := 1, slots := 6, locals := 110 }) (va_Pc [.ref (ad 0), .int n] (k_preT D (TY tk) sz (wC tk ad g rr ++ tl))) (Qx "java/lang/IllegalArgumentException" D tk (wC tk ad g rr ++ tl) (va_A (wC tk ad g rr ++ tl) sz)) 1 6 (va_A (wC tk ad g rr ++ tl) sz) := by
  refine k_ofT (l := l) (rm := ({ frames := 7, cells := 1, slots := 6, locals := 110 } : Room)) (mc := 1) (ms := 6) (av := [.ref (ad 0), .int n]) (y := y_K_digest) (cc := prog_1_method_12_code) (maxL := 2) (ret := (some .int)) (ws := wC tk ad g rr ++ tl) (sz := sz) (D := D) (tk := tk) "java/lang/IllegalArgumentException" (by decide) (Nat.le_of_ble_eq_true rfl) ?_
  intro p e s m args below meth c Q A ls hQ hx hb hr hlk hin hts hT hown hml hnw hP hK hD hA hsz hl hAe hxF hex
  have hS : va_S A s.heap s.heap [] := va_S.rf
  have hc0 : 0 + 0 ≤ 1 ∧ 0 + 0 ≤ 6 := ⟨by decide, by decide⟩
  replace hl : lv_has ls 2 [(0, .ref (ad 0)), (1, .int n)] := hl
  replace hP : va_P D CC (wC tk ad g rr ++ tl) s.heap := hP
  replace hK : va_K D CC (TY tk) s := hK
  have hP0 := hP
  refine lv_iload_n hx hb d_K_digest_0 rfl (lv_at hl 1 rfl) ?_
  refine lv_if_lt hx hb d_K_digest_1 (tgt := 19) (by decide) (fun hc1 => ?_) (fun hc1 => ?_)
  · skip
    refine lv_iconst (v := nI 0) hx hb d_K_digest_19 (by decide) ?_
    refine x_callS (As := [.int (nI 0)]) (rest := []) ⟨hx, hb, hml, hown, hts⟩ (x_K_require l htr D tk s.heap.size (wC tk ad g rr ++ tl)) (cwS 1 hts (gS t_290 t_291 t_1 t_292) rfl rfl rfl (by decide +kernel) ⟨Nat.le_of_ble_eq_true rfl, Nat.le_of_ble_eq_true rfl⟩) (x_preS hP hK hD hnw hxF (st_kept hP0 (by rw [← hAe]; exact hS))) rfl rfl hl.1 rfl (lv_room (Nat.le_of_ble_eq_true rfl)) d_K_digest_20 ⟨by decide, by decide⟩ (fun x st₀ t L hst hWt hq hL => ?_)
    exact x_out hQ hq hst hWt hS hD hA hL rfl rfl rfl hex hlk
  · skip
    refine lv_iload_n hx hb d_K_digest_4 rfl (lv_at hl 1 rfl) ?_
    refine lv_aload_n hx hb d_K_digest_5 rfl (lv_at hl 0 rfl) ?_
    refine gf_K_19 (v := .ref (ad 3)) hx hb hT hown hK hP 0 rfl rfl d_K_digest_6 ?_
    refine gf_K_89 (v := .int (g 2 0)) hx hb hT hown hK hP 3 rfl rfl d_K_digest_9 ?_
    refine lv_icmp_gt hx hb d_K_digest_12 (tgt := 19) (by decide) (fun hc12 => ?_) (fun hc12 => ?_)
    · skip
      refine lv_iconst (v := nI 0) hx hb d_K_digest_19 (by decide) ?_
      refine x_callS (As := [.int (nI 0)]) (rest := []) ⟨hx, hb, hml, hown, hts⟩ (x_K_require l htr D tk s.heap.size (wC tk ad g rr ++ tl)) (cwS 1 hts (gS t_290 t_291 t_1 t_292) rfl rfl rfl (by decide +kernel) ⟨Nat.le_of_ble_eq_true rfl, Nat.le_of_ble_eq_true rfl⟩) (x_preS hP hK hD hnw hxF (st_kept hP0 (by rw [← hAe]; exact hS))) rfl rfl hl.1 rfl (lv_room (Nat.le_of_ble_eq_true rfl)) d_K_digest_20 ⟨by decide, by decide⟩ (fun x st₀ t L hst hWt hq hL => ?_)
      exact x_out hQ hq hst hWt hS hD hA hL rfl rfl rfl hex hlk
    · skip
      refine lv_iconst (v := nI 1) hx hb d_K_digest_15 (by decide) ?_
      refine lv_goto hx hb d_K_digest_16 (tgt := 20) (by decide) ?_
      exact absurd ⟨hc1, hc12⟩ hbad

set_option maxHeartbeats 4000000 in
set_option maxRecDepth 100000 in
theorem x_K_prove_n (l : Launch) (htr : ∀ e : Env, l.admits e → e.platform.stackTraces = false) (D : va_G) (tk : Nat → ClassId) (sz : Nat) (ad : Nat → Nat) (g : Nat → Nat → Int32) (rr : Nat → Nat → Option Nat) (tl : va_W) (n v key : Int32) (hbad : ¬ (¬ g 2 0 < n ∧ ¬ v < 0 ∧ ¬ n ≤ v)) : MetT l y_K_prove w_K_prove ({ frames := 7, cells := 1, slots := 6, locals := 110 }) (va_Pc [.ref (ad 0), .int n, .int v, .int key] (k_preT D (TY tk) sz (wC tk ad g rr ++ tl))) (Qx "java/lang/IllegalArgumentException" D tk (wC tk ad g rr ++ tl) (va_A (wC tk ad g rr ++ tl) sz)) 1 6 (va_A (wC tk ad g rr ++ tl) sz) := by
  refine k_ofT (l := l) (rm := ({ frames := 7, cells := 1, slots := 6, locals := 110 } : Room)) (mc := 1) (ms := 6) (av := [.ref (ad 0), .int n, .int v, .int key]) (y := y_K_prove) (cc := prog_1_method_13_code) (maxL := 4) (ret := (some .int)) (ws := wC tk ad g rr ++ tl) (sz := sz) (D := D) (tk := tk) "java/lang/IllegalArgumentException" (by decide) (Nat.le_of_ble_eq_true rfl) ?_
  intro p e s m args below meth c Q A ls hQ hx hb hr hlk hin hts hT hown hml hnw hP hK hD hA hsz hl hAe hxF hex
  have hS : va_S A s.heap s.heap [] := va_S.rf
  have hc0 : 0 + 0 ≤ 1 ∧ 0 + 0 ≤ 6 := ⟨by decide, by decide⟩
  replace hl : lv_has ls 4 [(0, .ref (ad 0)), (1, .int n), (2, .int v), (3, .int key)] := hl
  replace hP : va_P D CC (wC tk ad g rr ++ tl) s.heap := hP
  replace hK : va_K D CC (TY tk) s := hK
  have hP0 := hP
  refine lv_iload_n hx hb d_K_prove_0 rfl (lv_at hl 1 rfl) ?_
  refine lv_aload_n hx hb d_K_prove_1 rfl (lv_at hl 0 rfl) ?_
  refine gf_K_19 (v := .ref (ad 3)) hx hb hT hown hK hP 0 rfl rfl d_K_prove_2 ?_
  refine gf_K_89 (v := .int (g 2 0)) hx hb hT hown hK hP 3 rfl rfl d_K_prove_5 ?_
  refine lv_icmp_gt hx hb d_K_prove_8 (tgt := 24) (by decide) (fun hc8 => ?_) (fun hc8 => ?_)
  · skip
    refine lv_iconst (v := nI 0) hx hb d_K_prove_24 (by decide) ?_
    refine x_callS (As := [.int (nI 0)]) (rest := []) ⟨hx, hb, hml, hown, hts⟩ (x_K_require l htr D tk s.heap.size (wC tk ad g rr ++ tl)) (cwS 1 hts (gS t_290 t_291 t_1 t_292) rfl rfl rfl (by decide +kernel) ⟨Nat.le_of_ble_eq_true rfl, Nat.le_of_ble_eq_true rfl⟩) (x_preS hP hK hD hnw hxF (st_kept hP0 (by rw [← hAe]; exact hS))) rfl rfl hl.1 rfl (lv_room (Nat.le_of_ble_eq_true rfl)) d_K_prove_25 ⟨by decide, by decide⟩ (fun x st₀ t L hst hWt hq hL => ?_)
    exact x_out hQ hq hst hWt hS hD hA hL rfl rfl rfl hex hlk
  · skip
    refine lv_iload_n hx hb d_K_prove_11 rfl (lv_at hl 2 rfl) ?_
    refine lv_if_lt hx hb d_K_prove_12 (tgt := 24) (by decide) (fun hc12 => ?_) (fun hc12 => ?_)
    · skip
      refine lv_iconst (v := nI 0) hx hb d_K_prove_24 (by decide) ?_
      refine x_callS (As := [.int (nI 0)]) (rest := []) ⟨hx, hb, hml, hown, hts⟩ (x_K_require l htr D tk s.heap.size (wC tk ad g rr ++ tl)) (cwS 1 hts (gS t_290 t_291 t_1 t_292) rfl rfl rfl (by decide +kernel) ⟨Nat.le_of_ble_eq_true rfl, Nat.le_of_ble_eq_true rfl⟩) (x_preS hP hK hD hnw hxF (st_kept hP0 (by rw [← hAe]; exact hS))) rfl rfl hl.1 rfl (lv_room (Nat.le_of_ble_eq_true rfl)) d_K_prove_25 ⟨by decide, by decide⟩ (fun x st₀ t L hst hWt hq hL => ?_)
      exact x_out hQ hq hst hWt hS hD hA hL rfl rfl rfl hex hlk
    · skip
      refine lv_iload_n hx hb d_K_prove_15 rfl (lv_at hl 2 rfl) ?_
      refine lv_iload_n hx hb d_K_prove_16 rfl (lv_at hl 1 rfl) ?_
      refine lv_icmp_ge hx hb d_K_prove_17 (tgt := 24) (by decide) (fun hc17 => ?_) (fun hc17 => ?_)
      · skip
        refine lv_iconst (v := nI 0) hx hb d_K_prove_24 (by decide) ?_
        refine x_callS (As := [.int (nI 0)]) (rest := []) ⟨hx, hb, hml, hown, hts⟩ (x_K_require l htr D tk s.heap.size (wC tk ad g rr ++ tl)) (cwS 1 hts (gS t_290 t_291 t_1 t_292) rfl rfl rfl (by decide +kernel) ⟨Nat.le_of_ble_eq_true rfl, Nat.le_of_ble_eq_true rfl⟩) (x_preS hP hK hD hnw hxF (st_kept hP0 (by rw [← hAe]; exact hS))) rfl rfl hl.1 rfl (lv_room (Nat.le_of_ble_eq_true rfl)) d_K_prove_25 ⟨by decide, by decide⟩ (fun x st₀ t L hst hWt hq hL => ?_)
        exact x_out hQ hq hst hWt hS hD hA hL rfl rfl rfl hex hlk
      · skip
        refine lv_iconst (v := nI 1) hx hb d_K_prove_20 (by decide) ?_
        refine lv_goto hx hb d_K_prove_21 (tgt := 25) (by decide) ?_
        exact absurd ⟨hc8, hc12, hc17⟩ hbad

set_option maxHeartbeats 4000000 in
set_option maxRecDepth 100000 in
theorem x_K_prove_key (l : Launch) (htr : ∀ e : Env, l.admits e → e.platform.stackTraces = false) (D : va_G) (tk : Nat → ClassId) (sz : Nat) (ad : Nat → Nat) (g : Nat → Nat → Int32) (rr : Nat → Nat → Option Nat) (tl : va_W) (V : Nat) (hV2 : V ≤ 16) (hV : g 2 0 = nI V) (n9 v9 : Nat) (hn9 : n9 ≤ V) (hv9 : v9 < n9) (key : Int32) (hbad : ¬ (¬ key < 0 ∧ ¬ nI 48 ≤ key)) : MetT l y_K_prove w_K_prove ({ frames := 8, cells := 1, slots := 6, locals := 130 }) (va_Pc [.ref (ad 0), .int (nI n9), .int (nI v9), .int key] (k_preT D (TY tk) sz (wC tk ad g rr ++ tl))) (Qx "java/lang/IllegalArgumentException" D tk (wC tk ad g rr ++ tl) (va_A (wC tk ad g rr ++ tl) sz)) 1 6 (va_A (wC tk ad g rr ++ tl) sz) := by
  refine k_ofT (l := l) (rm := ({ frames := 8, cells := 1, slots := 6, locals := 130 } : Room)) (mc := 1) (ms := 6) (av := [.ref (ad 0), .int (nI n9), .int (nI v9), .int key]) (y := y_K_prove) (cc := prog_1_method_13_code) (maxL := 4) (ret := (some .int)) (ws := wC tk ad g rr ++ tl) (sz := sz) (D := D) (tk := tk) "java/lang/IllegalArgumentException" (by decide) (Nat.le_of_ble_eq_true rfl) ?_
  intro p e s m args below meth c Q A ls hQ hx hb hr hlk hin hts hT hown hml hnw hP hK hD hA hsz hl hAe hxF hex
  have hS : va_S A s.heap s.heap [] := va_S.rf
  have hc0 : 0 + 0 ≤ 1 ∧ 0 + 0 ≤ 6 := ⟨by decide, by decide⟩
  replace hl : lv_has ls 4 [(0, .ref (ad 0)), (1, .int (nI n9)), (2, .int (nI v9)), (3, .int key)] := hl
  replace hP : va_P D CC (wC tk ad g rr ++ tl) s.heap := hP
  replace hK : va_K D CC (TY tk) s := hK
  have hP0 := hP
  refine lv_iload_n hx hb d_K_prove_0 rfl (lv_at hl 1 rfl) ?_
  refine lv_aload_n hx hb d_K_prove_1 rfl (lv_at hl 0 rfl) ?_
  refine gf_K_19 (v := .ref (ad 3)) hx hb hT hown hK hP 0 rfl rfl d_K_prove_2 ?_
  refine gf_K_89 (v := .int (g 2 0)) hx hb hT hown hK hP 3 rfl rfl d_K_prove_5 ?_
  refine st_top (show g 2 0 = nI V from hV) ?_
  refine st_icmp_gt hx hb (by omega) (by omega) d_K_prove_8 (tgt := 24) (by decide) (fun hc8 => absurd hc8 (by omega)) (fun hc8 => ?_)
  refine lv_iload_n hx hb d_K_prove_11 rfl (lv_at hl 2 rfl) ?_
  refine st_if_lt hx hb (by omega) d_K_prove_12 (tgt := 24) (by decide) (fun hc12 => hc12.elim) (fun hc12 => ?_)
  refine lv_iload_n hx hb d_K_prove_15 rfl (lv_at hl 2 rfl) ?_
  refine lv_iload_n hx hb d_K_prove_16 rfl (lv_at hl 1 rfl) ?_
  refine st_icmp_ge hx hb (by omega) (by omega) d_K_prove_17 (tgt := 24) (by decide) (fun hc17 => absurd hc17 (by omega)) (fun hc17 => ?_)
  refine lv_iconst (v := nI 1) hx hb d_K_prove_20 (by decide) ?_
  refine lv_goto hx hb d_K_prove_21 (tgt := 25) (by decide) ?_
  refine k_callv (va_runS (As := [.int (nI 1)]) (rest := []) ⟨hx, hb, hml, hown, hts⟩ (c_K_require1 l D tk s.heap.size (wC tk ad g rr ++ tl)) (cwS 1 hts (gS t_290 t_291 t_1 t_292) rfl rfl rfl (by decide +kernel) ⟨Nat.le_of_ble_eq_true rfl, Nat.le_of_ble_eq_true rfl⟩) (k_preS hP hK hD hnw) rfl rfl hl.1 rfl (lv_room (Nat.le_of_ble_eq_true rfl)) d_K_prove_25 ⟨by show _ ≤ 1; omega, by show _ ≤ 6; omega⟩) hD hS hA (fun _ H locs hp25 hP hD hK hS => ?_)
  replace hP : va_P D CC (wC tk ad g rr ++ tl) H := hP
  replace hD : va_D A (wC tk ad g rr ++ tl) := hD
  refine lv_iload_n hx hb d_K_prove_28 rfl (lv_at hl 3 rfl) ?_
  refine x_callS (As := [.int key]) (rest := []) ⟨hx, hb, hml, hown, hts⟩ (x_K_requireKey l htr D tk H.size key hbad (wC tk ad g rr ++ tl)) (cwS 1 hts (gS t_287 t_288 t_1 t_289) rfl rfl rfl (by decide +kernel) ⟨Nat.le_of_ble_eq_true rfl, Nat.le_of_ble_eq_true rfl⟩) (x_preS hP hK hD hnw hxF (st_kept hP0 (by rw [← hAe]; exact hS))) rfl rfl hl.1 rfl (lv_room (Nat.le_of_ble_eq_true rfl)) d_K_prove_29 ⟨by decide, by decide⟩ (fun x st₀ t L hst hWt hq hL => ?_)
  exact x_out hQ hq hst hWt hS hD hA hL rfl rfl rfl hex hlk

set_option maxHeartbeats 4000000 in
set_option maxRecDepth 100000 in
theorem x_K_proveGrowth (l : Launch) (htr : ∀ e : Env, l.admits e → e.platform.stackTraces = false) (D : va_G) (tk : Nat → ClassId) (sz : Nat) (ad : Nat → Nat) (g : Nat → Nat → Int32) (rr : Nat → Nat → Option Nat) (tl : va_W) (m9 n : Int32) (hbad : ¬ (¬ m9 ≤ 0 ∧ ¬ n ≤ m9 ∧ ¬ g 2 0 < n)) : MetT l y_K_proveGrowth w_K_proveGrowth ({ frames := 7, cells := 1, slots := 6, locals := 110 }) (va_Pc [.ref (ad 0), .int m9, .int n] (k_preT D (TY tk) sz (wC tk ad g rr ++ tl))) (Qx "java/lang/IllegalArgumentException" D tk (wC tk ad g rr ++ tl) (va_A (wC tk ad g rr ++ tl) sz)) 1 6 (va_A (wC tk ad g rr ++ tl) sz) := by
  refine k_ofT (l := l) (rm := ({ frames := 7, cells := 1, slots := 6, locals := 110 } : Room)) (mc := 1) (ms := 6) (av := [.ref (ad 0), .int m9, .int n]) (y := y_K_proveGrowth) (cc := prog_1_method_14_code) (maxL := 3) (ret := (some .int)) (ws := wC tk ad g rr ++ tl) (sz := sz) (D := D) (tk := tk) "java/lang/IllegalArgumentException" (by decide) (Nat.le_of_ble_eq_true rfl) ?_
  intro p e s m args below meth c Q A ls hQ hx hb hr hlk hin hts hT hown hml hnw hP hK hD hA hsz hl hAe hxF hex
  have hS : va_S A s.heap s.heap [] := va_S.rf
  have hc0 : 0 + 0 ≤ 1 ∧ 0 + 0 ≤ 6 := ⟨by decide, by decide⟩
  replace hl : lv_has ls 3 [(0, .ref (ad 0)), (1, .int m9), (2, .int n)] := hl
  replace hP : va_P D CC (wC tk ad g rr ++ tl) s.heap := hP
  replace hK : va_K D CC (TY tk) s := hK
  have hP0 := hP
  refine lv_iload_n hx hb d_K_proveGrowth_0 rfl (lv_at hl 1 rfl) ?_
  refine lv_if_le hx hb d_K_proveGrowth_1 (tgt := 24) (by decide) (fun hc1 => ?_) (fun hc1 => ?_)
  · skip
    refine lv_iconst (v := nI 0) hx hb d_K_proveGrowth_24 (by decide) ?_
    refine x_callS (As := [.int (nI 0)]) (rest := []) ⟨hx, hb, hml, hown, hts⟩ (x_K_require l htr D tk s.heap.size (wC tk ad g rr ++ tl)) (cwS 1 hts (gS t_290 t_291 t_1 t_292) rfl rfl rfl (by decide +kernel) ⟨Nat.le_of_ble_eq_true rfl, Nat.le_of_ble_eq_true rfl⟩) (x_preS hP hK hD hnw hxF (st_kept hP0 (by rw [← hAe]; exact hS))) rfl rfl hl.1 rfl (lv_room (Nat.le_of_ble_eq_true rfl)) d_K_proveGrowth_25 ⟨by decide, by decide⟩ (fun x st₀ t L hst hWt hq hL => ?_)
    exact x_out hQ hq hst hWt hS hD hA hL rfl rfl rfl hex hlk
  · skip
    refine lv_iload_n hx hb d_K_proveGrowth_4 rfl (lv_at hl 1 rfl) ?_
    refine lv_iload_n hx hb d_K_proveGrowth_5 rfl (lv_at hl 2 rfl) ?_
    refine lv_icmp_ge hx hb d_K_proveGrowth_6 (tgt := 24) (by decide) (fun hc6 => ?_) (fun hc6 => ?_)
    · skip
      refine lv_iconst (v := nI 0) hx hb d_K_proveGrowth_24 (by decide) ?_
      refine x_callS (As := [.int (nI 0)]) (rest := []) ⟨hx, hb, hml, hown, hts⟩ (x_K_require l htr D tk s.heap.size (wC tk ad g rr ++ tl)) (cwS 1 hts (gS t_290 t_291 t_1 t_292) rfl rfl rfl (by decide +kernel) ⟨Nat.le_of_ble_eq_true rfl, Nat.le_of_ble_eq_true rfl⟩) (x_preS hP hK hD hnw hxF (st_kept hP0 (by rw [← hAe]; exact hS))) rfl rfl hl.1 rfl (lv_room (Nat.le_of_ble_eq_true rfl)) d_K_proveGrowth_25 ⟨by decide, by decide⟩ (fun x st₀ t L hst hWt hq hL => ?_)
      exact x_out hQ hq hst hWt hS hD hA hL rfl rfl rfl hex hlk
    · skip
      refine lv_iload_n hx hb d_K_proveGrowth_9 rfl (lv_at hl 2 rfl) ?_
      refine lv_aload_n hx hb d_K_proveGrowth_10 rfl (lv_at hl 0 rfl) ?_
      refine gf_K_19 (v := .ref (ad 3)) hx hb hT hown hK hP 0 rfl rfl d_K_proveGrowth_11 ?_
      refine gf_K_89 (v := .int (g 2 0)) hx hb hT hown hK hP 3 rfl rfl d_K_proveGrowth_14 ?_
      refine lv_icmp_gt hx hb d_K_proveGrowth_17 (tgt := 24) (by decide) (fun hc17 => ?_) (fun hc17 => ?_)
      · skip
        refine lv_iconst (v := nI 0) hx hb d_K_proveGrowth_24 (by decide) ?_
        refine x_callS (As := [.int (nI 0)]) (rest := []) ⟨hx, hb, hml, hown, hts⟩ (x_K_require l htr D tk s.heap.size (wC tk ad g rr ++ tl)) (cwS 1 hts (gS t_290 t_291 t_1 t_292) rfl rfl rfl (by decide +kernel) ⟨Nat.le_of_ble_eq_true rfl, Nat.le_of_ble_eq_true rfl⟩) (x_preS hP hK hD hnw hxF (st_kept hP0 (by rw [← hAe]; exact hS))) rfl rfl hl.1 rfl (lv_room (Nat.le_of_ble_eq_true rfl)) d_K_proveGrowth_25 ⟨by decide, by decide⟩ (fun x st₀ t L hst hWt hq hL => ?_)
        exact x_out hQ hq hst hWt hS hD hA hL rfl rfl rfl hex hlk
      · skip
        refine lv_iconst (v := nI 1) hx hb d_K_proveGrowth_20 (by decide) ?_
        refine lv_goto hx hb d_K_proveGrowth_21 (tgt := 25) (by decide) ?_
        exact absurd ⟨hc1, hc6, hc17⟩ hbad

set_option maxHeartbeats 4000000 in
set_option maxRecDepth 100000 in
theorem x_K_verify_n (l : Launch) (htr : ∀ e : Env, l.admits e → e.platform.stackTraces = false) (D : va_G) (tk : Nat → ClassId) (sz : Nat) (ad : Nat → Nat) (g : Nat → Nat → Int32) (rr : Nat → Nat → Option Nat) (tl : va_W) (dg n v key : Int32) (hbad : ¬ (¬ n < nI 1 ∧ ¬ nI 16 < n ∧ ¬ v < 0 ∧ ¬ n ≤ v)) : MetT l y_K_verify w_K_verify ({ frames := 7, cells := 1, slots := 6, locals := 110 }) (va_Pc [.ref (ad 0), .int dg, .int n, .int v, .int key] (k_preT D (TY tk) sz (wC tk ad g rr ++ tl))) (Qx "java/lang/IllegalArgumentException" D tk (wC tk ad g rr ++ tl) (va_A (wC tk ad g rr ++ tl) sz)) 1 6 (va_A (wC tk ad g rr ++ tl) sz) := by
  refine k_ofT (l := l) (rm := ({ frames := 7, cells := 1, slots := 6, locals := 110 } : Room)) (mc := 1) (ms := 6) (av := [.ref (ad 0), .int dg, .int n, .int v, .int key]) (y := y_K_verify) (cc := prog_1_method_18_code) (maxL := 6) (ret := (some .int)) (ws := wC tk ad g rr ++ tl) (sz := sz) (D := D) (tk := tk) "java/lang/IllegalArgumentException" (by decide) (Nat.le_of_ble_eq_true rfl) ?_
  intro p e s m args below meth c Q A ls hQ hx hb hr hlk hin hts hT hown hml hnw hP hK hD hA hsz hl hAe hxF hex
  have hS : va_S A s.heap s.heap [] := va_S.rf
  have hc0 : 0 + 0 ≤ 1 ∧ 0 + 0 ≤ 6 := ⟨by decide, by decide⟩
  replace hl : lv_has ls 6 [(0, .ref (ad 0)), (1, .int dg), (2, .int n), (3, .int v), (4, .int key)] := hl
  replace hP : va_P D CC (wC tk ad g rr ++ tl) s.heap := hP
  replace hK : va_K D CC (TY tk) s := hK
  have hP0 := hP
  refine lv_iload_n hx hb d_K_verify_0 rfl (lv_at hl 2 rfl) ?_
  refine lv_iconst (v := nI 1) hx hb d_K_verify_1 (by decide) ?_
  refine lv_icmp_lt hx hb d_K_verify_2 (tgt := 24) (by decide) (fun hc2 => ?_) (fun hc2 => ?_)
  · skip
    refine lv_iconst (v := nI 0) hx hb d_K_verify_24 (by decide) ?_
    refine x_callS (As := [.int (nI 0)]) (rest := []) ⟨hx, hb, hml, hown, hts⟩ (x_K_require l htr D tk s.heap.size (wC tk ad g rr ++ tl)) (cwS 1 hts (gS t_290 t_291 t_1 t_292) rfl rfl rfl (by decide +kernel) ⟨Nat.le_of_ble_eq_true rfl, Nat.le_of_ble_eq_true rfl⟩) (x_preS hP hK hD hnw hxF (st_kept hP0 (by rw [← hAe]; exact hS))) rfl rfl hl.1 rfl (lv_room (Nat.le_of_ble_eq_true rfl)) d_K_verify_25 ⟨by decide, by decide⟩ (fun x st₀ t L hst hWt hq hL => ?_)
    exact x_out hQ hq hst hWt hS hD hA hL rfl rfl rfl hex hlk
  · skip
    refine lv_iload_n hx hb d_K_verify_5 rfl (lv_at hl 2 rfl) ?_
    refine lv_bipush (v := nI 16) hx hb d_K_verify_6 (by decide) ?_
    refine lv_icmp_gt hx hb d_K_verify_8 (tgt := 24) (by decide) (fun hc8 => ?_) (fun hc8 => ?_)
    · skip
      refine lv_iconst (v := nI 0) hx hb d_K_verify_24 (by decide) ?_
      refine x_callS (As := [.int (nI 0)]) (rest := []) ⟨hx, hb, hml, hown, hts⟩ (x_K_require l htr D tk s.heap.size (wC tk ad g rr ++ tl)) (cwS 1 hts (gS t_290 t_291 t_1 t_292) rfl rfl rfl (by decide +kernel) ⟨Nat.le_of_ble_eq_true rfl, Nat.le_of_ble_eq_true rfl⟩) (x_preS hP hK hD hnw hxF (st_kept hP0 (by rw [← hAe]; exact hS))) rfl rfl hl.1 rfl (lv_room (Nat.le_of_ble_eq_true rfl)) d_K_verify_25 ⟨by decide, by decide⟩ (fun x st₀ t L hst hWt hq hL => ?_)
      exact x_out hQ hq hst hWt hS hD hA hL rfl rfl rfl hex hlk
    · skip
      refine lv_iload_n hx hb d_K_verify_11 rfl (lv_at hl 3 rfl) ?_
      refine lv_if_lt hx hb d_K_verify_12 (tgt := 24) (by decide) (fun hc12 => ?_) (fun hc12 => ?_)
      · skip
        refine lv_iconst (v := nI 0) hx hb d_K_verify_24 (by decide) ?_
        refine x_callS (As := [.int (nI 0)]) (rest := []) ⟨hx, hb, hml, hown, hts⟩ (x_K_require l htr D tk s.heap.size (wC tk ad g rr ++ tl)) (cwS 1 hts (gS t_290 t_291 t_1 t_292) rfl rfl rfl (by decide +kernel) ⟨Nat.le_of_ble_eq_true rfl, Nat.le_of_ble_eq_true rfl⟩) (x_preS hP hK hD hnw hxF (st_kept hP0 (by rw [← hAe]; exact hS))) rfl rfl hl.1 rfl (lv_room (Nat.le_of_ble_eq_true rfl)) d_K_verify_25 ⟨by decide, by decide⟩ (fun x st₀ t L hst hWt hq hL => ?_)
        exact x_out hQ hq hst hWt hS hD hA hL rfl rfl rfl hex hlk
      · skip
        refine lv_iload_n hx hb d_K_verify_15 rfl (lv_at hl 3 rfl) ?_
        refine lv_iload_n hx hb d_K_verify_16 rfl (lv_at hl 2 rfl) ?_
        refine lv_icmp_ge hx hb d_K_verify_17 (tgt := 24) (by decide) (fun hc17 => ?_) (fun hc17 => ?_)
        · skip
          refine lv_iconst (v := nI 0) hx hb d_K_verify_24 (by decide) ?_
          refine x_callS (As := [.int (nI 0)]) (rest := []) ⟨hx, hb, hml, hown, hts⟩ (x_K_require l htr D tk s.heap.size (wC tk ad g rr ++ tl)) (cwS 1 hts (gS t_290 t_291 t_1 t_292) rfl rfl rfl (by decide +kernel) ⟨Nat.le_of_ble_eq_true rfl, Nat.le_of_ble_eq_true rfl⟩) (x_preS hP hK hD hnw hxF (st_kept hP0 (by rw [← hAe]; exact hS))) rfl rfl hl.1 rfl (lv_room (Nat.le_of_ble_eq_true rfl)) d_K_verify_25 ⟨by decide, by decide⟩ (fun x st₀ t L hst hWt hq hL => ?_)
          exact x_out hQ hq hst hWt hS hD hA hL rfl rfl rfl hex hlk
        · skip
          refine lv_iconst (v := nI 1) hx hb d_K_verify_20 (by decide) ?_
          refine lv_goto hx hb d_K_verify_21 (tgt := 25) (by decide) ?_
          exact absurd ⟨hc2, hc8, hc12, hc17⟩ hbad

set_option maxHeartbeats 4000000 in
set_option maxRecDepth 100000 in
theorem x_K_verify_key (l : Launch) (htr : ∀ e : Env, l.admits e → e.platform.stackTraces = false) (D : va_G) (tk : Nat → ClassId) (sz : Nat) (ad : Nat → Nat) (g : Nat → Nat → Int32) (rr : Nat → Nat → Option Nat) (tl : va_W) (dg : Int32) (n9 v9 : Nat) (hn9 : n9 ≤ 16) (hv9 : v9 < n9) (key : Int32) (hbad : ¬ (¬ key < 0 ∧ ¬ nI 48 ≤ key)) : MetT l y_K_verify w_K_verify ({ frames := 8, cells := 1, slots := 6, locals := 130 }) (va_Pc [.ref (ad 0), .int dg, .int (nI n9), .int (nI v9), .int key] (k_preT D (TY tk) sz (wC tk ad g rr ++ tl))) (Qx "java/lang/IllegalArgumentException" D tk (wC tk ad g rr ++ tl) (va_A (wC tk ad g rr ++ tl) sz)) 1 6 (va_A (wC tk ad g rr ++ tl) sz) := by
  refine k_ofT (l := l) (rm := ({ frames := 8, cells := 1, slots := 6, locals := 130 } : Room)) (mc := 1) (ms := 6) (av := [.ref (ad 0), .int dg, .int (nI n9), .int (nI v9), .int key]) (y := y_K_verify) (cc := prog_1_method_18_code) (maxL := 6) (ret := (some .int)) (ws := wC tk ad g rr ++ tl) (sz := sz) (D := D) (tk := tk) "java/lang/IllegalArgumentException" (by decide) (Nat.le_of_ble_eq_true rfl) ?_
  intro p e s m args below meth c Q A ls hQ hx hb hr hlk hin hts hT hown hml hnw hP hK hD hA hsz hl hAe hxF hex
  have hS : va_S A s.heap s.heap [] := va_S.rf
  have hc0 : 0 + 0 ≤ 1 ∧ 0 + 0 ≤ 6 := ⟨by decide, by decide⟩
  replace hl : lv_has ls 6 [(0, .ref (ad 0)), (1, .int dg), (2, .int (nI n9)), (3, .int (nI v9)), (4, .int key)] := hl
  replace hP : va_P D CC (wC tk ad g rr ++ tl) s.heap := hP
  replace hK : va_K D CC (TY tk) s := hK
  have hP0 := hP
  refine lv_iload_n hx hb d_K_verify_0 rfl (lv_at hl 2 rfl) ?_
  refine lv_iconst (v := nI 1) hx hb d_K_verify_1 (by decide) ?_
  refine st_icmp_lt hx hb (by omega) (by omega) d_K_verify_2 (tgt := 24) (by decide) (fun hc2 => absurd hc2 (by omega)) (fun hc2 => ?_)
  refine lv_iload_n hx hb d_K_verify_5 rfl (lv_at hl 2 rfl) ?_
  refine lv_bipush (v := nI 16) hx hb d_K_verify_6 (by decide) ?_
  refine st_icmp_gt hx hb (by omega) (by omega) d_K_verify_8 (tgt := 24) (by decide) (fun hc8 => absurd hc8 (by omega)) (fun hc8 => ?_)
  refine lv_iload_n hx hb d_K_verify_11 rfl (lv_at hl 3 rfl) ?_
  refine st_if_lt hx hb (by omega) d_K_verify_12 (tgt := 24) (by decide) (fun hc12 => hc12.elim) (fun hc12 => ?_)
  refine lv_iload_n hx hb d_K_verify_15 rfl (lv_at hl 3 rfl) ?_
  refine lv_iload_n hx hb d_K_verify_16 rfl (lv_at hl 2 rfl) ?_
  refine st_icmp_ge hx hb (by omega) (by omega) d_K_verify_17 (tgt := 24) (by decide) (fun hc17 => absurd hc17 (by omega)) (fun hc17 => ?_)
  refine lv_iconst (v := nI 1) hx hb d_K_verify_20 (by decide) ?_
  refine lv_goto hx hb d_K_verify_21 (tgt := 25) (by decide) ?_
  refine k_callv (va_runS (As := [.int (nI 1)]) (rest := []) ⟨hx, hb, hml, hown, hts⟩ (c_K_require1 l D tk s.heap.size (wC tk ad g rr ++ tl)) (cwS 1 hts (gS t_290 t_291 t_1 t_292) rfl rfl rfl (by decide +kernel) ⟨Nat.le_of_ble_eq_true rfl, Nat.le_of_ble_eq_true rfl⟩) (k_preS hP hK hD hnw) rfl rfl hl.1 rfl (lv_room (Nat.le_of_ble_eq_true rfl)) d_K_verify_25 ⟨by show _ ≤ 1; omega, by show _ ≤ 6; omega⟩) hD hS hA (fun _ H locs hp25 hP hD hK hS => ?_)
  replace hP : va_P D CC (wC tk ad g rr ++ tl) H := hP
  replace hD : va_D A (wC tk ad g rr ++ tl) := hD
  refine lv_iload hx hb d_K_verify_28 (lv_at hl 4 rfl) ?_
  refine x_callS (As := [.int key]) (rest := []) ⟨hx, hb, hml, hown, hts⟩ (x_K_requireKey l htr D tk H.size key hbad (wC tk ad g rr ++ tl)) (cwS 1 hts (gS t_287 t_288 t_1 t_289) rfl rfl rfl (by decide +kernel) ⟨Nat.le_of_ble_eq_true rfl, Nat.le_of_ble_eq_true rfl⟩) (x_preS hP hK hD hnw hxF (st_kept hP0 (by rw [← hAe]; exact hS))) rfl rfl hl.1 rfl (lv_room (Nat.le_of_ble_eq_true rfl)) d_K_verify_30 ⟨by decide, by decide⟩ (fun x st₀ t L hst hWt hq hL => ?_)
  exact x_out hQ hq hst hWt hS hD hA hL rfl rfl rfl hex hlk

set_option maxHeartbeats 4000000 in
set_option maxRecDepth 100000 in
theorem x_K_verifyGrowth (l : Launch) (htr : ∀ e : Env, l.admits e → e.platform.stackTraces = false) (D : va_G) (tk : Nat → ClassId) (sz : Nat) (ad : Nat → Nat) (g : Nat → Nat → Int32) (rr : Nat → Nat → Option Nat) (tl : va_W) (one m9 other n : Int32) (hbad : ¬ (¬ m9 ≤ 0 ∧ ¬ n ≤ m9 ∧ ¬ nI 16 < n)) : MetT l y_K_verifyGrowth w_K_verifyGrowth ({ frames := 7, cells := 1, slots := 6, locals := 110 }) (va_Pc [.ref (ad 0), .int one, .int m9, .int other, .int n] (k_preT D (TY tk) sz (wC tk ad g rr ++ tl))) (Qx "java/lang/IllegalArgumentException" D tk (wC tk ad g rr ++ tl) (va_A (wC tk ad g rr ++ tl) sz)) 1 6 (va_A (wC tk ad g rr ++ tl) sz) := by
  refine k_ofT (l := l) (rm := ({ frames := 7, cells := 1, slots := 6, locals := 110 } : Room)) (mc := 1) (ms := 6) (av := [.ref (ad 0), .int one, .int m9, .int other, .int n]) (y := y_K_verifyGrowth) (cc := prog_1_method_20_code) (maxL := 6) (ret := (some .boolean)) (ws := wC tk ad g rr ++ tl) (sz := sz) (D := D) (tk := tk) "java/lang/IllegalArgumentException" (by decide) (Nat.le_of_ble_eq_true rfl) ?_
  intro p e s m args below meth c Q A ls hQ hx hb hr hlk hin hts hT hown hml hnw hP hK hD hA hsz hl hAe hxF hex
  have hS : va_S A s.heap s.heap [] := va_S.rf
  have hc0 : 0 + 0 ≤ 1 ∧ 0 + 0 ≤ 6 := ⟨by decide, by decide⟩
  replace hl : lv_has ls 6 [(0, .ref (ad 0)), (1, .int one), (2, .int m9), (3, .int other), (4, .int n)] := hl
  replace hP : va_P D CC (wC tk ad g rr ++ tl) s.heap := hP
  replace hK : va_K D CC (TY tk) s := hK
  have hP0 := hP
  refine lv_iload_n hx hb d_K_verifyGrowth_0 rfl (lv_at hl 2 rfl) ?_
  refine lv_if_le hx hb d_K_verifyGrowth_1 (tgt := 21) (by decide) (fun hc1 => ?_) (fun hc1 => ?_)
  · skip
    refine lv_iconst (v := nI 0) hx hb d_K_verifyGrowth_21 (by decide) ?_
    refine x_callS (As := [.int (nI 0)]) (rest := []) ⟨hx, hb, hml, hown, hts⟩ (x_K_require l htr D tk s.heap.size (wC tk ad g rr ++ tl)) (cwS 1 hts (gS t_290 t_291 t_1 t_292) rfl rfl rfl (by decide +kernel) ⟨Nat.le_of_ble_eq_true rfl, Nat.le_of_ble_eq_true rfl⟩) (x_preS hP hK hD hnw hxF (st_kept hP0 (by rw [← hAe]; exact hS))) rfl rfl hl.1 rfl (lv_room (Nat.le_of_ble_eq_true rfl)) d_K_verifyGrowth_22 ⟨by decide, by decide⟩ (fun x st₀ t L hst hWt hq hL => ?_)
    exact x_out hQ hq hst hWt hS hD hA hL rfl rfl rfl hex hlk
  · skip
    refine lv_iload_n hx hb d_K_verifyGrowth_4 rfl (lv_at hl 2 rfl) ?_
    refine lv_iload hx hb d_K_verifyGrowth_5 (lv_at hl 4 rfl) ?_
    refine lv_icmp_ge hx hb d_K_verifyGrowth_7 (tgt := 21) (by decide) (fun hc7 => ?_) (fun hc7 => ?_)
    · skip
      refine lv_iconst (v := nI 0) hx hb d_K_verifyGrowth_21 (by decide) ?_
      refine x_callS (As := [.int (nI 0)]) (rest := []) ⟨hx, hb, hml, hown, hts⟩ (x_K_require l htr D tk s.heap.size (wC tk ad g rr ++ tl)) (cwS 1 hts (gS t_290 t_291 t_1 t_292) rfl rfl rfl (by decide +kernel) ⟨Nat.le_of_ble_eq_true rfl, Nat.le_of_ble_eq_true rfl⟩) (x_preS hP hK hD hnw hxF (st_kept hP0 (by rw [← hAe]; exact hS))) rfl rfl hl.1 rfl (lv_room (Nat.le_of_ble_eq_true rfl)) d_K_verifyGrowth_22 ⟨by decide, by decide⟩ (fun x st₀ t L hst hWt hq hL => ?_)
      exact x_out hQ hq hst hWt hS hD hA hL rfl rfl rfl hex hlk
    · skip
      refine lv_iload hx hb d_K_verifyGrowth_10 (lv_at hl 4 rfl) ?_
      refine lv_bipush (v := nI 16) hx hb d_K_verifyGrowth_12 (by decide) ?_
      refine lv_icmp_gt hx hb d_K_verifyGrowth_14 (tgt := 21) (by decide) (fun hc14 => ?_) (fun hc14 => ?_)
      · skip
        refine lv_iconst (v := nI 0) hx hb d_K_verifyGrowth_21 (by decide) ?_
        refine x_callS (As := [.int (nI 0)]) (rest := []) ⟨hx, hb, hml, hown, hts⟩ (x_K_require l htr D tk s.heap.size (wC tk ad g rr ++ tl)) (cwS 1 hts (gS t_290 t_291 t_1 t_292) rfl rfl rfl (by decide +kernel) ⟨Nat.le_of_ble_eq_true rfl, Nat.le_of_ble_eq_true rfl⟩) (x_preS hP hK hD hnw hxF (st_kept hP0 (by rw [← hAe]; exact hS))) rfl rfl hl.1 rfl (lv_room (Nat.le_of_ble_eq_true rfl)) d_K_verifyGrowth_22 ⟨by decide, by decide⟩ (fun x st₀ t L hst hWt hq hL => ?_)
        exact x_out hQ hq hst hWt hS hD hA hL rfl rfl rfl hex hlk
      · skip
        refine lv_iconst (v := nI 1) hx hb d_K_verifyGrowth_17 (by decide) ?_
        refine lv_goto hx hb d_K_verifyGrowth_18 (tgt := 22) (by decide) ?_
        exact absurd ⟨hc1, hc7, hc14⟩ hbad

set_option maxHeartbeats 4000000 in
set_option maxRecDepth 100000 in
theorem x_K_get_v (l : Launch) (htr : ∀ e : Env, l.admits e → e.platform.stackTraces = false) (D : va_G) (tk : Nat → ClassId) (sz : Nat) (ad : Nat → Nat) (g : Nat → Nat → Int32) (rr : Nat → Nat → Option Nat) (tl : va_W) (v key : Int32) (hv1 : ¬ v = -1) (hbad : ¬ (¬ v < 0 ∧ ¬ g 2 0 ≤ v)) : MetT l y_K_get w_K_get ({ frames := 8, cells := 1, slots := 6, locals := 131 }) (va_Pc [.ref (ad 0), .int v, .int key] (k_preT D (TY tk) sz (wC tk ad g rr ++ tl))) (Qx "java/lang/IllegalArgumentException" D tk (wC tk ad g rr ++ tl) (va_A (wC tk ad g rr ++ tl) sz)) 1 6 (va_A (wC tk ad g rr ++ tl) sz) := by
  refine k_ofT (l := l) (rm := ({ frames := 8, cells := 1, slots := 6, locals := 131 } : Room)) (mc := 1) (ms := 6) (av := [.ref (ad 0), .int v, .int key]) (y := y_K_get) (cc := prog_1_method_9_code) (maxL := 4) (ret := (some .int)) (ws := wC tk ad g rr ++ tl) (sz := sz) (D := D) (tk := tk) "java/lang/IllegalArgumentException" (by decide) (Nat.le_of_ble_eq_true rfl) ?_
  intro p e s m args below meth c Q A ls hQ hx hb hr hlk hin hts hT hown hml hnw hP hK hD hA hsz hl hAe hxF hex
  have hS : va_S A s.heap s.heap [] := va_S.rf
  have hc0 : 0 + 0 ≤ 1 ∧ 0 + 0 ≤ 6 := ⟨by decide, by decide⟩
  replace hl : lv_has ls 4 [(0, .ref (ad 0)), (1, .int v), (2, .int key)] := hl
  replace hP : va_P D CC (wC tk ad g rr ++ tl) s.heap := hP
  replace hK : va_K D CC (TY tk) s := hK
  have hP0 := hP
  refine lv_iload_n hx hb d_K_get_0 rfl (lv_at hl 1 rfl) ?_
  refine lv_iconst (v := -1) hx hb d_K_get_1 (by decide) ?_
  refine lv_icmp_eq hx hb d_K_get_2 (tgt := 10) (by decide) (fun hc2 => absurd hc2 hv1) (fun hc2 => ?_)
  refine lv_aload_n hx hb d_K_get_5 rfl (lv_at hl 0 rfl) ?_
  refine lv_iload_n hx hb d_K_get_6 rfl (lv_at hl 1 rfl) ?_
  refine x_callV (As := [.int v]) (rest := []) ⟨hx, hb, hml, hown, hts⟩ (x_K_requireVersion l htr D tk s.heap.size ad g rr tl v hbad) (cwV 1 hts (gV t_747 t_749 s_4 t_1 t_750) rfl rfl rfl (by decide +kernel) ⟨Nat.le_of_ble_eq_true rfl, Nat.le_of_ble_eq_true rfl⟩) (x_preV hP hK hD hnw hxF (st_kept hP0 (by rw [← hAe]; exact hS)) 0 rfl rfl) rfl rfl hl.1 rfl (lv_room (Nat.le_of_ble_eq_true rfl)) d_K_get_7 ⟨by decide, by decide⟩ (fun x st₀ t L hst hWt hq hL => ?_)
  exact x_out hQ hq hst hWt hS hD hA hL rfl rfl rfl hex hlk

set_option maxHeartbeats 4000000 in
set_option maxRecDepth 100000 in
theorem x_K_get_key1 (l : Launch) (htr : ∀ e : Env, l.admits e → e.platform.stackTraces = false) (D : va_G) (tk : Nat → ClassId) (sz : Nat) (ad : Nat → Nat) (g : Nat → Nat → Int32) (rr : Nat → Nat → Option Nat) (tl : va_W) (key : Int32) (hbad : ¬ (¬ key < 0 ∧ ¬ nI 48 ≤ key)) : MetT l y_K_get w_K_get ({ frames := 8, cells := 1, slots := 6, locals := 130 }) (va_Pc [.ref (ad 0), .int (-1), .int key] (k_preT D (TY tk) sz (wC tk ad g rr ++ tl))) (Qx "java/lang/IllegalArgumentException" D tk (wC tk ad g rr ++ tl) (va_A (wC tk ad g rr ++ tl) sz)) 1 6 (va_A (wC tk ad g rr ++ tl) sz) := by
  refine k_ofT (l := l) (rm := ({ frames := 8, cells := 1, slots := 6, locals := 130 } : Room)) (mc := 1) (ms := 6) (av := [.ref (ad 0), .int (-1), .int key]) (y := y_K_get) (cc := prog_1_method_9_code) (maxL := 4) (ret := (some .int)) (ws := wC tk ad g rr ++ tl) (sz := sz) (D := D) (tk := tk) "java/lang/IllegalArgumentException" (by decide) (Nat.le_of_ble_eq_true rfl) ?_
  intro p e s m args below meth c Q A ls hQ hx hb hr hlk hin hts hT hown hml hnw hP hK hD hA hsz hl hAe hxF hex
  have hS : va_S A s.heap s.heap [] := va_S.rf
  have hc0 : 0 + 0 ≤ 1 ∧ 0 + 0 ≤ 6 := ⟨by decide, by decide⟩
  replace hl : lv_has ls 4 [(0, .ref (ad 0)), (1, .int (-1)), (2, .int key)] := hl
  replace hP : va_P D CC (wC tk ad g rr ++ tl) s.heap := hP
  replace hK : va_K D CC (TY tk) s := hK
  have hP0 := hP
  refine lv_iload_n hx hb d_K_get_0 rfl (lv_at hl 1 rfl) ?_
  refine lv_iconst (v := -1) hx hb d_K_get_1 (by decide) ?_
  refine lv_icmp_eq hx hb d_K_get_2 (tgt := 10) (by decide) (fun hc2 => ?_) (fun hc2 => absurd hc2 (by decide))
  refine lv_iload_n hx hb d_K_get_10 rfl (lv_at hl 2 rfl) ?_
  refine x_callS (As := [.int key]) (rest := []) ⟨hx, hb, hml, hown, hts⟩ (x_K_requireKey l htr D tk s.heap.size key hbad (wC tk ad g rr ++ tl)) (cwS 1 hts (gS t_287 t_288 t_1 t_289) rfl rfl rfl (by decide +kernel) ⟨Nat.le_of_ble_eq_true rfl, Nat.le_of_ble_eq_true rfl⟩) (x_preS hP hK hD hnw hxF (st_kept hP0 (by rw [← hAe]; exact hS))) rfl rfl hl.1 rfl (lv_room (Nat.le_of_ble_eq_true rfl)) d_K_get_11 ⟨by decide, by decide⟩ (fun x st₀ t L hst hWt hq hL => ?_)
  exact x_out hQ hq hst hWt hS hD hA hL rfl rfl rfl hex hlk

set_option maxHeartbeats 4000000 in
set_option maxRecDepth 100000 in
theorem x_K_get_key2 (l : Launch) (htr : ∀ e : Env, l.admits e → e.platform.stackTraces = false) (D : va_G) (tk : Nat → ClassId) (sz : Nat) (ad : Nat → Nat) (g : Nat → Nat → Int32) (rr : Nat → Nat → Option Nat) (tl : va_W) (V : Nat) (hV2 : V ≤ 16) (hV : g 2 0 = nI V) (j : Nat) (hj : j < V) (key : Int32) (hbad : ¬ (¬ key < 0 ∧ ¬ nI 48 ≤ key)) : MetT l y_K_get w_K_get ({ frames := 8, cells := 1, slots := 6, locals := 130 }) (va_Pc [.ref (ad 0), .int (nI j), .int key] (k_preT D (TY tk) sz (wC tk ad g rr ++ tl))) (Qx "java/lang/IllegalArgumentException" D tk (wC tk ad g rr ++ tl) (va_A (wC tk ad g rr ++ tl) sz)) 1 6 (va_A (wC tk ad g rr ++ tl) sz) := by
  refine k_ofT (l := l) (rm := ({ frames := 8, cells := 1, slots := 6, locals := 130 } : Room)) (mc := 1) (ms := 6) (av := [.ref (ad 0), .int (nI j), .int key]) (y := y_K_get) (cc := prog_1_method_9_code) (maxL := 4) (ret := (some .int)) (ws := wC tk ad g rr ++ tl) (sz := sz) (D := D) (tk := tk) "java/lang/IllegalArgumentException" (by decide) (Nat.le_of_ble_eq_true rfl) ?_
  intro p e s m args below meth c Q A ls hQ hx hb hr hlk hin hts hT hown hml hnw hP hK hD hA hsz hl hAe hxF hex
  have hS : va_S A s.heap s.heap [] := va_S.rf
  have hc0 : 0 + 0 ≤ 1 ∧ 0 + 0 ≤ 6 := ⟨by decide, by decide⟩
  replace hl : lv_has ls 4 [(0, .ref (ad 0)), (1, .int (nI j)), (2, .int key)] := hl
  replace hP : va_P D CC (wC tk ad g rr ++ tl) s.heap := hP
  replace hK : va_K D CC (TY tk) s := hK
  have hP0 := hP
  refine lv_iload_n hx hb d_K_get_0 rfl (lv_at hl 1 rfl) ?_
  refine lv_iconst (v := -1) hx hb d_K_get_1 (by decide) ?_
  refine lv_icmp_eq hx hb d_K_get_2 (tgt := 10) (by decide) (fun hc2 => (by first | exact absurd hc2 (nI_nm1 (by omega)) | exact absurd (nI_nm1 (by omega)) hc2)) (fun hc2 => ?_)
  refine lv_aload_n hx hb d_K_get_5 rfl (lv_at hl 0 rfl) ?_
  refine lv_iload_n hx hb d_K_get_6 rfl (lv_at hl 1 rfl) ?_
  refine k_callv (va_runV (As := [.int (nI j)]) (rest := []) ⟨hx, hb, hml, hown, hts⟩ (c_K_requireVersion1 l D tk s.heap.size ad g rr tl  V hV2 hV j (by omega)) (cwV 1 hts (gV t_747 t_749 s_4 t_1 t_750) rfl rfl rfl (by decide +kernel) ⟨Nat.le_of_ble_eq_true rfl, Nat.le_of_ble_eq_true rfl⟩) (k_preV hP hK hD hnw 0 rfl rfl) rfl rfl hl.1 rfl (lv_room (Nat.le_of_ble_eq_true rfl)) d_K_get_7 ⟨by show _ ≤ 1; omega, by show _ ≤ 6; omega⟩) hD hS hA (fun _ H locs hp7 hP hD hK hS => ?_)
  replace hP : va_P D CC (wC tk ad g rr ++ tl) H := hP
  replace hD : va_D A (wC tk ad g rr ++ tl) := hD
  refine lv_iload_n hx hb d_K_get_10 rfl (lv_at hl 2 rfl) ?_
  refine x_callS (As := [.int key]) (rest := []) ⟨hx, hb, hml, hown, hts⟩ (x_K_requireKey l htr D tk H.size key hbad (wC tk ad g rr ++ tl)) (cwS 1 hts (gS t_287 t_288 t_1 t_289) rfl rfl rfl (by decide +kernel) ⟨Nat.le_of_ble_eq_true rfl, Nat.le_of_ble_eq_true rfl⟩) (x_preS hP hK hD hnw hxF (st_kept hP0 (by rw [← hAe]; exact hS))) rfl rfl hl.1 rfl (lv_room (Nat.le_of_ble_eq_true rfl)) d_K_get_11 ⟨by decide, by decide⟩ (fun x st₀ t L hst hWt hq hL => ?_)
  exact x_out hQ hq hst hWt hS hD hA hL rfl rfl rfl hex hlk
