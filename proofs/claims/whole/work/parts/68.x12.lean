theorem sC_out (tk : Nat → ClassId) (ad : Nat → Nat) (g : Nat → Nat → Int32) (rr : Nat → Nat → Option Nat) (ao : Nat) (x y : va_E) (t2 : va_W) : (wC tk ad g rr ++ ((ao, x) :: t2)).set 18 (ao, y) = wC tk ad g rr ++ ((ao, y) :: t2) := rfl

set_option maxHeartbeats 4000000 in
set_option maxRecDepth 100000 in
theorem l_put_key (l : Launch) (htr : ∀ e : Env, l.admits e → e.platform.stackTraces = false) (D : va_G) (tk : Nat → ClassId) (sz : Nat) (ad : Nat → Nat) (g : Nat → Nat → Int32) (rr : Nat → Nat → Option Nat) (ao : Nat) (fo : Nat → Int64) (t2 : va_W) (key : Int32) (hbad : ¬ (¬ key < 0 ∧ ¬ nI 48 ≤ key)) (v : Int32) : Met l y_L_put w_L_put ({ frames := 9, cells := 1, slots := 6, locals := 152 }) (va_Pc [.ref (ad 0), .int key, .int v] (k_preT D (TY tk) sz (wC tk ad g rr ++ ((ao, .inl (tk 2, 1, .inr (.inl fo))) :: t2)))) (va_Qi (fun (r : Int32) (_ : Unit) => r = nI 1) (fun u t => k_at D (TY tk) (va_A (wC tk ad g rr ++ ((ao, .inl (tk 2, 1, .inr (.inl fo))) :: t2)) sz) ((fun _ => (wC tk ad g rr ++ ((ao, .inl (tk 2, 1, .inr (.inl fo))) :: t2) : va_W)) u) t) (va_A (wC tk ad g rr ++ ((ao, .inl (tk 2, 1, .inr (.inl fo))) :: t2)) sz)) 1 6 (va_A (wC tk ad g rr ++ ((ao, .inl (tk 2, 1, .inr (.inl fo))) :: t2)) sz) := by
  refine k_ofL (l := l) (rm := ({ frames := 9, cells := 1, slots := 6, locals := 152 } : Room)) (mc := 1) (ms := 6) (av := [.ref (ad 0), .int key, .int v]) (y := y_L_put) (cc := method_3_code) (maxL := 4) (ret := (some .int)) (ws := wC tk ad g rr ++ ((ao, .inl (tk 2, 1, .inr (.inl fo))) :: t2)) (sz := sz) (D := D) (tk := tk) (fun A => va_Qi (fun (r : Int32) (_ : Unit) => r = nI 1) (fun u t => k_at D (TY tk) A ((fun _ => (wC tk ad g rr ++ ((ao, .inl (tk 2, 1, .inr (.inl fo))) :: t2) : va_W)) u) t) A) (by decide) (Nat.le_of_ble_eq_true rfl) ?_
  intro p e s m args below meth c Q A ls hQ hx hb hr hlk hin hts hT hown hml hnw hP hK hD hA hsz hl hAe hxF hex
  have hS : va_S A s.heap s.heap [] := va_S.rf
  have hc0 : 0 + 0 ≤ 1 ∧ 0 + 0 ≤ 6 := ⟨by decide, by decide⟩
  replace hl : lv_has ls 4 [(0, .ref (ad 0)), (1, .int key), (2, .int v)] := hl
  replace hP : va_P D CC (wC tk ad g rr ++ ((ao, .inl (tk 2, 1, .inr (.inl fo))) :: t2)) s.heap := hP
  replace hK : va_K D CC (TY tk) s := hK
  have hP0 := hP
  refine lv_aload_n hx hb d_L_put_0 rfl (lv_at hl 0 rfl) ?_
  refine lv_iload_n hx hb d_L_put_1 rfl (lv_at hl 1 rfl) ?_
  refine lv_iload_n hx hb d_L_put_2 rfl (lv_at hl 2 rfl) ?_
  refine x_callV (As := [.int key, .int v]) (rest := []) ⟨hx, hb, hml, hown, hts⟩ (x_K_put_key l htr D tk s.heap.size ad g rr ((ao, .inl (tk 2, 1, .inr (.inl fo))) :: t2) key hbad v) (cwV 2 hts (gV t_283 t_284 t_285 t_1 t_286) rfl rfl rfl (by decide +kernel) ⟨Nat.le_of_ble_eq_true rfl, Nat.le_of_ble_eq_true rfl⟩) (x_preV hP hK hD hnw hxF (st_kept hP0 (by rw [← hAe]; exact hS)) 0 rfl rfl) rfl rfl hl.1 rfl (lv_room (Nat.le_of_ble_eq_true rfl)) d_L_put_3 ⟨by decide, by decide⟩ (fun x st₀ t L hst hWt hq hL => ?_)
  obtain ⟨_, hob, hP, hD, hK, hS⟩ := x_join hq hst hWt hS hD hA hL
  refine x_catchA hex rfl (by show 0 ≤ 3 ∧ 3 < 6; decide) (by decide) hown (hT _ t_281) hob hWt ?_
  refine W.eq (g2 := F0 m 9 ls [.ref x]) rfl ?_
  refine lv_astore_n (lv' := [(3, .ref x), (0, .ref (ad 0)), (1, .int key), (2, .int v)]) hx hb d_L_put_9 rfl hl (by decide) rfl (fun ls hl => ?_)
  refine lv_iconst (v := nI 1) hx hb d_L_put_10 (by decide) ?_
  refine W_up (c2 := 1) (s2 := 6) (by omega) (by omega) ?_
  exact k_iret (v := nI 1) hQ hx hb hr hlk hK hP hD hS () rfl rfl d_L_put_11

set_option maxHeartbeats 4000000 in
set_option maxRecDepth 100000 in
theorem l_put_room (l : Launch) (htr : ∀ e : Env, l.admits e → e.platform.stackTraces = false) (D : va_G) (tk : Nat → ClassId) (sz : Nat) (ad : Nat → Nat) (g : Nat → Nat → Int32) (rr : Nat → Nat → Option Nat) (ao : Nat) (fo : Nat → Int64) (t2 : va_W) (hV : g 2 0 = nI 16) (k : Nat) (hk : k < 48) (v : Int32) : Met l y_L_put w_L_put ({ frames := 8, cells := 1, slots := 6, locals := 132 }) (va_Pc [.ref (ad 0), .int (nI k), .int v] (k_preT D (TY tk) sz (wC tk ad g rr ++ ((ao, .inl (tk 2, 1, .inr (.inl fo))) :: t2)))) (va_Qi (fun (r : Int32) (_ : Unit) => r = nI 2) (fun u t => k_at D (TY tk) (va_A (wC tk ad g rr ++ ((ao, .inl (tk 2, 1, .inr (.inl fo))) :: t2)) sz) ((fun _ => (wC tk ad g rr ++ ((ao, .inl (tk 2, 1, .inr (.inl fo))) :: t2) : va_W)) u) t) (va_A (wC tk ad g rr ++ ((ao, .inl (tk 2, 1, .inr (.inl fo))) :: t2)) sz)) 1 6 (va_A (wC tk ad g rr ++ ((ao, .inl (tk 2, 1, .inr (.inl fo))) :: t2)) sz) := by
  refine k_ofL (l := l) (rm := ({ frames := 8, cells := 1, slots := 6, locals := 132 } : Room)) (mc := 1) (ms := 6) (av := [.ref (ad 0), .int (nI k), .int v]) (y := y_L_put) (cc := method_3_code) (maxL := 4) (ret := (some .int)) (ws := wC tk ad g rr ++ ((ao, .inl (tk 2, 1, .inr (.inl fo))) :: t2)) (sz := sz) (D := D) (tk := tk) (fun A => va_Qi (fun (r : Int32) (_ : Unit) => r = nI 2) (fun u t => k_at D (TY tk) A ((fun _ => (wC tk ad g rr ++ ((ao, .inl (tk 2, 1, .inr (.inl fo))) :: t2) : va_W)) u) t) A) (by decide) (Nat.le_of_ble_eq_true rfl) ?_
  intro p e s m args below meth c Q A ls hQ hx hb hr hlk hin hts hT hown hml hnw hP hK hD hA hsz hl hAe hxF hex
  have hS : va_S A s.heap s.heap [] := va_S.rf
  have hc0 : 0 + 0 ≤ 1 ∧ 0 + 0 ≤ 6 := ⟨by decide, by decide⟩
  replace hl : lv_has ls 4 [(0, .ref (ad 0)), (1, .int (nI k)), (2, .int v)] := hl
  replace hP : va_P D CC (wC tk ad g rr ++ ((ao, .inl (tk 2, 1, .inr (.inl fo))) :: t2)) s.heap := hP
  replace hK : va_K D CC (TY tk) s := hK
  have hP0 := hP
  refine lv_aload_n hx hb d_L_put_0 rfl (lv_at hl 0 rfl) ?_
  refine lv_iload_n hx hb d_L_put_1 rfl (lv_at hl 1 rfl) ?_
  refine lv_iload_n hx hb d_L_put_2 rfl (lv_at hl 2 rfl) ?_
  refine x_callV (As := [.int (nI k), .int v]) (rest := []) ⟨hx, hb, hml, hown, hts⟩ (x_K_put_room l htr D tk s.heap.size ad g rr ((ao, .inl (tk 2, 1, .inr (.inl fo))) :: t2) hV k hk v) (cwV 2 hts (gV t_283 t_284 t_285 t_1 t_286) rfl rfl rfl (by decide +kernel) ⟨Nat.le_of_ble_eq_true rfl, Nat.le_of_ble_eq_true rfl⟩) (x_preV hP hK hD hnw hxF (st_kept hP0 (by rw [← hAe]; exact hS)) 0 rfl rfl) rfl rfl hl.1 rfl (lv_room (Nat.le_of_ble_eq_true rfl)) d_L_put_3 ⟨by decide, by decide⟩ (fun x st₀ t L hst hWt hq hL => ?_)
  obtain ⟨_, hob, hP, hD, hK, hS⟩ := x_join hq hst hWt hS hD hA hL
  refine x_catchB hex rfl (by show 0 ≤ 3 ∧ 3 < 6; decide) (by decide) (by decide) hown (hT _ t_281) (hT _ t_282) hxF.2.1.1 hob hWt ?_
  refine W.eq (g2 := F0 m 12 ls [.ref x]) rfl ?_
  refine lv_astore_n (lv' := [(3, .ref x), (0, .ref (ad 0)), (1, .int (nI k)), (2, .int v)]) hx hb d_L_put_12 rfl hl (by decide) rfl (fun ls hl => ?_)
  refine lv_iconst (v := nI 2) hx hb d_L_put_13 (by decide) ?_
  refine W_up (c2 := 1) (s2 := 6) (by omega) (by omega) ?_
  exact k_iret (v := nI 2) hQ hx hb hr hlk hK hP hD hS () rfl rfl d_L_put_14

set_option maxHeartbeats 4000000 in
set_option maxRecDepth 100000 in
theorem l_delete_key (l : Launch) (htr : ∀ e : Env, l.admits e → e.platform.stackTraces = false) (D : va_G) (tk : Nat → ClassId) (sz : Nat) (ad : Nat → Nat) (g : Nat → Nat → Int32) (rr : Nat → Nat → Option Nat) (ao : Nat) (fo : Nat → Int64) (t2 : va_W) (key : Int32) (hbad : ¬ (¬ key < 0 ∧ ¬ nI 48 ≤ key)) : Met l y_L_delete w_L_delete ({ frames := 9, cells := 1, slots := 6, locals := 151 }) (va_Pc [.ref (ad 0), .int key, .ref ao] (k_preT D (TY tk) sz (wC tk ad g rr ++ ((ao, .inl (tk 2, 1, .inr (.inl fo))) :: t2)))) (va_Qi (fun (r : Int32) (_ : Unit) => r = nI 1) (fun u t => k_at D (TY tk) (va_A (wC tk ad g rr ++ ((ao, .inl (tk 2, 1, .inr (.inl fo))) :: t2)) sz) ((fun _ => (wC tk ad g rr ++ ((ao, .inl (tk 2, 1, .inr (.inl fo))) :: t2) : va_W)) u) t) (va_A (wC tk ad g rr ++ ((ao, .inl (tk 2, 1, .inr (.inl fo))) :: t2)) sz)) 1 6 (va_A (wC tk ad g rr ++ ((ao, .inl (tk 2, 1, .inr (.inl fo))) :: t2)) sz) := by
  refine k_ofL (l := l) (rm := ({ frames := 9, cells := 1, slots := 6, locals := 151 } : Room)) (mc := 1) (ms := 6) (av := [.ref (ad 0), .int key, .ref ao]) (y := y_L_delete) (cc := method_4_code) (maxL := 4) (ret := (some .int)) (ws := wC tk ad g rr ++ ((ao, .inl (tk 2, 1, .inr (.inl fo))) :: t2)) (sz := sz) (D := D) (tk := tk) (fun A => va_Qi (fun (r : Int32) (_ : Unit) => r = nI 1) (fun u t => k_at D (TY tk) A ((fun _ => (wC tk ad g rr ++ ((ao, .inl (tk 2, 1, .inr (.inl fo))) :: t2) : va_W)) u) t) A) (by decide) (Nat.le_of_ble_eq_true rfl) ?_
  intro p e s m args below meth c Q A ls hQ hx hb hr hlk hin hts hT hown hml hnw hP hK hD hA hsz hl hAe hxF hex
  have hS : va_S A s.heap s.heap [] := va_S.rf
  have hc0 : 0 + 0 ≤ 1 ∧ 0 + 0 ≤ 6 := ⟨by decide, by decide⟩
  replace hl : lv_has ls 4 [(0, .ref (ad 0)), (1, .int key), (2, .ref ao)] := hl
  replace hP : va_P D CC (wC tk ad g rr ++ ((ao, .inl (tk 2, 1, .inr (.inl fo))) :: t2)) s.heap := hP
  replace hK : va_K D CC (TY tk) s := hK
  have hP0 := hP
  refine lv_aload_n hx hb d_L_delete_0 rfl (lv_at hl 2 rfl) ?_
  refine lv_iconst (v := nI 0) hx hb d_L_delete_1 (by decide) ?_
  refine lv_aload_n hx hb d_L_delete_2 rfl (lv_at hl 0 rfl) ?_
  refine lv_iload_n hx hb d_L_delete_3 rfl (lv_at hl 1 rfl) ?_
  refine x_callV (As := [.int key]) (rest := [.int (nI 0), .ref ao]) ⟨hx, hb, hml, hown, hts⟩ (x_K_delete_key l htr D tk s.heap.size ad g rr ((ao, .inl (tk 2, 1, .inr (.inl fo))) :: t2) key hbad) (cwV 1 hts (gV t_388 t_389 t_390 t_1 t_391) rfl rfl rfl (by decide +kernel) ⟨Nat.le_of_ble_eq_true rfl, Nat.le_of_ble_eq_true rfl⟩) (x_preV hP hK hD hnw hxF (st_kept hP0 (by rw [← hAe]; exact hS)) 0 rfl rfl) rfl rfl hl.1 rfl (lv_room (Nat.le_of_ble_eq_true rfl)) d_L_delete_4 ⟨by decide, by decide⟩ (fun x st₀ t L hst hWt hq hL => ?_)
  obtain ⟨_, hob, hP, hD, hK, hS⟩ := x_join hq hst hWt hS hD hA hL
  refine x_catchA hex rfl (by show 0 ≤ 4 ∧ 4 < 16; decide) (by decide) hown (hT _ t_281) hob hWt ?_
  refine W.eq (g2 := F0 m 19 ls [.ref x]) rfl ?_
  refine lv_astore_n (lv' := [(3, .ref x), (0, .ref (ad 0)), (1, .int key), (2, .ref ao)]) hx hb d_L_delete_19 rfl hl (by decide) rfl (fun ls hl => ?_)
  refine lv_iconst (v := nI 1) hx hb d_L_delete_20 (by decide) ?_
  refine W_up (c2 := 1) (s2 := 6) (by omega) (by omega) ?_
  exact k_iret (v := nI 1) hQ hx hb hr hlk hK hP hD hS () rfl rfl d_L_delete_21

set_option maxHeartbeats 4000000 in
set_option maxRecDepth 100000 in
theorem l_delete_room (l : Launch) (htr : ∀ e : Env, l.admits e → e.platform.stackTraces = false) (D : va_G) (tk : Nat → ClassId) (sz : Nat) (ad : Nat → Nat) (g : Nat → Nat → Int32) (rr : Nat → Nat → Option Nat) (ao : Nat) (fo : Nat → Int64) (t2 : va_W) (hV : g 2 0 = nI 16) (k : Nat) (hk : k < 48) : Met l y_L_delete w_L_delete ({ frames := 8, cells := 1, slots := 6, locals := 131 }) (va_Pc [.ref (ad 0), .int (nI k), .ref ao] (k_preT D (TY tk) sz (wC tk ad g rr ++ ((ao, .inl (tk 2, 1, .inr (.inl fo))) :: t2)))) (va_Qi (fun (r : Int32) (_ : Unit) => r = nI 2) (fun u t => k_at D (TY tk) (va_A (wC tk ad g rr ++ ((ao, .inl (tk 2, 1, .inr (.inl fo))) :: t2)) sz) ((fun _ => (wC tk ad g rr ++ ((ao, .inl (tk 2, 1, .inr (.inl fo))) :: t2) : va_W)) u) t) (va_A (wC tk ad g rr ++ ((ao, .inl (tk 2, 1, .inr (.inl fo))) :: t2)) sz)) 1 6 (va_A (wC tk ad g rr ++ ((ao, .inl (tk 2, 1, .inr (.inl fo))) :: t2)) sz) := by
  refine k_ofL (l := l) (rm := ({ frames := 8, cells := 1, slots := 6, locals := 131 } : Room)) (mc := 1) (ms := 6) (av := [.ref (ad 0), .int (nI k), .ref ao]) (y := y_L_delete) (cc := method_4_code) (maxL := 4) (ret := (some .int)) (ws := wC tk ad g rr ++ ((ao, .inl (tk 2, 1, .inr (.inl fo))) :: t2)) (sz := sz) (D := D) (tk := tk) (fun A => va_Qi (fun (r : Int32) (_ : Unit) => r = nI 2) (fun u t => k_at D (TY tk) A ((fun _ => (wC tk ad g rr ++ ((ao, .inl (tk 2, 1, .inr (.inl fo))) :: t2) : va_W)) u) t) A) (by decide) (Nat.le_of_ble_eq_true rfl) ?_
  intro p e s m args below meth c Q A ls hQ hx hb hr hlk hin hts hT hown hml hnw hP hK hD hA hsz hl hAe hxF hex
  have hS : va_S A s.heap s.heap [] := va_S.rf
  have hc0 : 0 + 0 ≤ 1 ∧ 0 + 0 ≤ 6 := ⟨by decide, by decide⟩
  replace hl : lv_has ls 4 [(0, .ref (ad 0)), (1, .int (nI k)), (2, .ref ao)] := hl
  replace hP : va_P D CC (wC tk ad g rr ++ ((ao, .inl (tk 2, 1, .inr (.inl fo))) :: t2)) s.heap := hP
  replace hK : va_K D CC (TY tk) s := hK
  have hP0 := hP
  refine lv_aload_n hx hb d_L_delete_0 rfl (lv_at hl 2 rfl) ?_
  refine lv_iconst (v := nI 0) hx hb d_L_delete_1 (by decide) ?_
  refine lv_aload_n hx hb d_L_delete_2 rfl (lv_at hl 0 rfl) ?_
  refine lv_iload_n hx hb d_L_delete_3 rfl (lv_at hl 1 rfl) ?_
  refine x_callV (As := [.int (nI k)]) (rest := [.int (nI 0), .ref ao]) ⟨hx, hb, hml, hown, hts⟩ (x_K_delete_room l htr D tk s.heap.size ad g rr ((ao, .inl (tk 2, 1, .inr (.inl fo))) :: t2) hV k hk) (cwV 1 hts (gV t_388 t_389 t_390 t_1 t_391) rfl rfl rfl (by decide +kernel) ⟨Nat.le_of_ble_eq_true rfl, Nat.le_of_ble_eq_true rfl⟩) (x_preV hP hK hD hnw hxF (st_kept hP0 (by rw [← hAe]; exact hS)) 0 rfl rfl) rfl rfl hl.1 rfl (lv_room (Nat.le_of_ble_eq_true rfl)) d_L_delete_4 ⟨by decide, by decide⟩ (fun x st₀ t L hst hWt hq hL => ?_)
  obtain ⟨_, hob, hP, hD, hK, hS⟩ := x_join hq hst hWt hS hD hA hL
  refine x_catchB hex rfl (by show 0 ≤ 4 ∧ 4 < 16; decide) (by decide) (by decide) hown (hT _ t_281) (hT _ t_282) hxF.2.1.1 hob hWt ?_
  refine W.eq (g2 := F0 m 22 ls [.ref x]) rfl ?_
  refine lv_astore_n (lv' := [(3, .ref x), (0, .ref (ad 0)), (1, .int (nI k)), (2, .ref ao)]) hx hb d_L_delete_22 rfl hl (by decide) rfl (fun ls hl => ?_)
  refine lv_iconst (v := nI 2) hx hb d_L_delete_23 (by decide) ?_
  refine W_up (c2 := 1) (s2 := 6) (by omega) (by omega) ?_
  exact k_iret (v := nI 2) hQ hx hb hr hlk hK hP hD hS () rfl rfl d_L_delete_24

set_option maxHeartbeats 4000000 in
set_option maxRecDepth 100000 in
theorem l_commit_room (l : Launch) (htr : ∀ e : Env, l.admits e → e.platform.stackTraces = false) (D : va_G) (tk : Nat → ClassId) (sz : Nat) (ad : Nat → Nat) (g : Nat → Nat → Int32) (rr : Nat → Nat → Option Nat) (ao : Nat) (fo : Nat → Int64) (t2 : va_W) (hV : g 2 0 = nI 16) : Met l y_L_commit w_L_commit ({ frames := 8, cells := 1, slots := 6, locals := 130 }) (va_Pc [.ref (ad 0), .ref ao] (k_preT D (TY tk) sz (wC tk ad g rr ++ ((ao, .inl (tk 2, 1, .inr (.inl fo))) :: t2)))) (va_Qi (fun (r : Int32) (_ : Unit) => r = nI 1) (fun u t => k_at D (TY tk) (va_A (wC tk ad g rr ++ ((ao, .inl (tk 2, 1, .inr (.inl fo))) :: t2)) sz) ((fun _ => (wC tk ad g rr ++ ((ao, .inl (tk 2, 1, .inr (.inl fo))) :: t2) : va_W)) u) t) (va_A (wC tk ad g rr ++ ((ao, .inl (tk 2, 1, .inr (.inl fo))) :: t2)) sz)) 1 6 (va_A (wC tk ad g rr ++ ((ao, .inl (tk 2, 1, .inr (.inl fo))) :: t2)) sz) := by
  refine k_ofL (l := l) (rm := ({ frames := 8, cells := 1, slots := 6, locals := 130 } : Room)) (mc := 1) (ms := 6) (av := [.ref (ad 0), .ref ao]) (y := y_L_commit) (cc := method_5_code) (maxL := 3) (ret := (some .int)) (ws := wC tk ad g rr ++ ((ao, .inl (tk 2, 1, .inr (.inl fo))) :: t2)) (sz := sz) (D := D) (tk := tk) (fun A => va_Qi (fun (r : Int32) (_ : Unit) => r = nI 1) (fun u t => k_at D (TY tk) A ((fun _ => (wC tk ad g rr ++ ((ao, .inl (tk 2, 1, .inr (.inl fo))) :: t2) : va_W)) u) t) A) (by decide) (Nat.le_of_ble_eq_true rfl) ?_
  intro p e s m args below meth c Q A ls hQ hx hb hr hlk hin hts hT hown hml hnw hP hK hD hA hsz hl hAe hxF hex
  have hS : va_S A s.heap s.heap [] := va_S.rf
  have hc0 : 0 + 0 ≤ 1 ∧ 0 + 0 ≤ 6 := ⟨by decide, by decide⟩
  replace hl : lv_has ls 3 [(0, .ref (ad 0)), (1, .ref ao)] := hl
  replace hP : va_P D CC (wC tk ad g rr ++ ((ao, .inl (tk 2, 1, .inr (.inl fo))) :: t2)) s.heap := hP
  replace hK : va_K D CC (TY tk) s := hK
  have hP0 := hP
  refine lv_aload_n hx hb d_L_commit_0 rfl (lv_at hl 1 rfl) ?_
  refine lv_iconst (v := nI 0) hx hb d_L_commit_1 (by decide) ?_
  refine lv_aload_n hx hb d_L_commit_2 rfl (lv_at hl 0 rfl) ?_
  refine x_callV (As := []) (rest := [.int (nI 0), .ref ao]) ⟨hx, hb, hml, hown, hts⟩ (x_K_commit l htr D tk s.heap.size ad g rr ((ao, .inl (tk 2, 1, .inr (.inl fo))) :: t2) hV) (cwV 0 hts (gV t_399 t_400 t_401 t_1 t_402) rfl rfl rfl (by decide +kernel) ⟨Nat.le_of_ble_eq_true rfl, Nat.le_of_ble_eq_true rfl⟩) (x_preV hP hK hD hnw hxF (st_kept hP0 (by rw [← hAe]; exact hS)) 0 rfl rfl) rfl rfl hl.1 rfl (lv_room (Nat.le_of_ble_eq_true rfl)) d_L_commit_3 ⟨by decide, by decide⟩ (fun x st₀ t L hst hWt hq hL => ?_)
  obtain ⟨_, hob, hP, hD, hK, hS⟩ := x_join hq hst hWt hS hD hA hL
  refine x_catchA hex rfl (by show 0 ≤ 3 ∧ 3 < 8; decide) (by decide) hown (hT _ t_282) hob hWt ?_
  refine W.eq (g2 := F0 m 11 ls [.ref x]) rfl ?_
  refine lv_astore_n (lv' := [(2, .ref x), (0, .ref (ad 0)), (1, .ref ao)]) hx hb d_L_commit_11 rfl hl (by decide) rfl (fun ls hl => ?_)
  refine lv_iconst (v := nI 1) hx hb d_L_commit_12 (by decide) ?_
  refine W_up (c2 := 1) (s2 := 6) (by omega) (by omega) ?_
  exact k_iret (v := nI 1) hQ hx hb hr hlk hK hP hD hS () rfl rfl d_L_commit_13

set_option maxHeartbeats 4000000 in
set_option maxRecDepth 100000 in
theorem l_get_v (l : Launch) (htr : ∀ e : Env, l.admits e → e.platform.stackTraces = false) (D : va_G) (tk : Nat → ClassId) (sz : Nat) (ad : Nat → Nat) (g : Nat → Nat → Int32) (rr : Nat → Nat → Option Nat) (ao : Nat) (fo : Nat → Int64) (t2 : va_W) (v key : Int32) (hv1 : ¬ v = -1) (hbad : ¬ (¬ v < 0 ∧ ¬ g 2 0 ≤ v)) : Met l y_L_get w_L_get ({ frames := 9, cells := 1, slots := 6, locals := 154 }) (va_Pc [.ref (ad 0), .int v, .int key, .ref ao] (k_preT D (TY tk) sz (wC tk ad g rr ++ ((ao, .inl (tk 2, 1, .inr (.inl fo))) :: t2)))) (va_Qi (fun (r : Int32) (_ : Unit) => r = nI 1) (fun u t => k_at D (TY tk) (va_A (wC tk ad g rr ++ ((ao, .inl (tk 2, 1, .inr (.inl fo))) :: t2)) sz) ((fun _ => (wC tk ad g rr ++ ((ao, .inl (tk 2, 1, .inr (.inl fo))) :: t2) : va_W)) u) t) (va_A (wC tk ad g rr ++ ((ao, .inl (tk 2, 1, .inr (.inl fo))) :: t2)) sz)) 1 6 (va_A (wC tk ad g rr ++ ((ao, .inl (tk 2, 1, .inr (.inl fo))) :: t2)) sz) := by
  refine k_ofL (l := l) (rm := ({ frames := 9, cells := 1, slots := 6, locals := 154 } : Room)) (mc := 1) (ms := 6) (av := [.ref (ad 0), .int v, .int key, .ref ao]) (y := y_L_get) (cc := method_6_code) (maxL := 5) (ret := (some .int)) (ws := wC tk ad g rr ++ ((ao, .inl (tk 2, 1, .inr (.inl fo))) :: t2)) (sz := sz) (D := D) (tk := tk) (fun A => va_Qi (fun (r : Int32) (_ : Unit) => r = nI 1) (fun u t => k_at D (TY tk) A ((fun _ => (wC tk ad g rr ++ ((ao, .inl (tk 2, 1, .inr (.inl fo))) :: t2) : va_W)) u) t) A) (by decide) (Nat.le_of_ble_eq_true rfl) ?_
  intro p e s m args below meth c Q A ls hQ hx hb hr hlk hin hts hT hown hml hnw hP hK hD hA hsz hl hAe hxF hex
  have hS : va_S A s.heap s.heap [] := va_S.rf
  have hc0 : 0 + 0 ≤ 1 ∧ 0 + 0 ≤ 6 := ⟨by decide, by decide⟩
  replace hl : lv_has ls 5 [(0, .ref (ad 0)), (1, .int v), (2, .int key), (3, .ref ao)] := hl
  replace hP : va_P D CC (wC tk ad g rr ++ ((ao, .inl (tk 2, 1, .inr (.inl fo))) :: t2)) s.heap := hP
  replace hK : va_K D CC (TY tk) s := hK
  have hP0 := hP
  refine lv_aload_n hx hb d_L_get_0 rfl (lv_at hl 3 rfl) ?_
  refine lv_iconst (v := nI 0) hx hb d_L_get_1 (by decide) ?_
  refine lv_aload_n hx hb d_L_get_2 rfl (lv_at hl 0 rfl) ?_
  refine lv_iload_n hx hb d_L_get_3 rfl (lv_at hl 1 rfl) ?_
  refine lv_iload_n hx hb d_L_get_4 rfl (lv_at hl 2 rfl) ?_
  refine x_callV (As := [.int v, .int key]) (rest := [.int (nI 0), .ref ao]) ⟨hx, hb, hml, hown, hts⟩ (x_K_get_v l htr D tk s.heap.size ad g rr ((ao, .inl (tk 2, 1, .inr (.inl fo))) :: t2) v key hv1 hbad) (cwV 2 hts (gV t_743 t_744 t_745 t_1 t_746) rfl rfl rfl (by decide +kernel) ⟨Nat.le_of_ble_eq_true rfl, Nat.le_of_ble_eq_true rfl⟩) (x_preV hP hK hD hnw hxF (st_kept hP0 (by rw [← hAe]; exact hS)) 0 rfl rfl) rfl rfl hl.1 rfl (lv_room (Nat.le_of_ble_eq_true rfl)) d_L_get_5 ⟨by decide, by decide⟩ (fun x st₀ t L hst hWt hq hL => ?_)
  obtain ⟨_, hob, hP, hD, hK, hS⟩ := x_join hq hst hWt hS hD hA hL
  refine x_catchA hex rfl (by show 0 ≤ 5 ∧ 5 < 10; decide) (by decide) hown (hT _ t_281) hob hWt ?_
  refine W.eq (g2 := F0 m 13 ls [.ref x]) rfl ?_
  refine lv_astore (lv' := [(4, .ref x), (0, .ref (ad 0)), (1, .int v), (2, .int key), (3, .ref ao)]) hx hb d_L_get_13 hl (by decide) rfl (fun ls hl => ?_)
  refine lv_iconst (v := nI 1) hx hb d_L_get_15 (by decide) ?_
  refine W_up (c2 := 1) (s2 := 6) (by omega) (by omega) ?_
  exact k_iret (v := nI 1) hQ hx hb hr hlk hK hP hD hS () rfl rfl d_L_get_16

set_option maxHeartbeats 4000000 in
set_option maxRecDepth 100000 in
theorem l_get_key1 (l : Launch) (htr : ∀ e : Env, l.admits e → e.platform.stackTraces = false) (D : va_G) (tk : Nat → ClassId) (sz : Nat) (ad : Nat → Nat) (g : Nat → Nat → Int32) (rr : Nat → Nat → Option Nat) (ao : Nat) (fo : Nat → Int64) (t2 : va_W) (key : Int32) (hbad : ¬ (¬ key < 0 ∧ ¬ nI 48 ≤ key)) : Met l y_L_get w_L_get ({ frames := 9, cells := 1, slots := 6, locals := 153 }) (va_Pc [.ref (ad 0), .int (-1), .int key, .ref ao] (k_preT D (TY tk) sz (wC tk ad g rr ++ ((ao, .inl (tk 2, 1, .inr (.inl fo))) :: t2)))) (va_Qi (fun (r : Int32) (_ : Unit) => r = nI 1) (fun u t => k_at D (TY tk) (va_A (wC tk ad g rr ++ ((ao, .inl (tk 2, 1, .inr (.inl fo))) :: t2)) sz) ((fun _ => (wC tk ad g rr ++ ((ao, .inl (tk 2, 1, .inr (.inl fo))) :: t2) : va_W)) u) t) (va_A (wC tk ad g rr ++ ((ao, .inl (tk 2, 1, .inr (.inl fo))) :: t2)) sz)) 1 6 (va_A (wC tk ad g rr ++ ((ao, .inl (tk 2, 1, .inr (.inl fo))) :: t2)) sz) := by
  refine k_ofL (l := l) (rm := ({ frames := 9, cells := 1, slots := 6, locals := 153 } : Room)) (mc := 1) (ms := 6) (av := [.ref (ad 0), .int (-1), .int key, .ref ao]) (y := y_L_get) (cc := method_6_code) (maxL := 5) (ret := (some .int)) (ws := wC tk ad g rr ++ ((ao, .inl (tk 2, 1, .inr (.inl fo))) :: t2)) (sz := sz) (D := D) (tk := tk) (fun A => va_Qi (fun (r : Int32) (_ : Unit) => r = nI 1) (fun u t => k_at D (TY tk) A ((fun _ => (wC tk ad g rr ++ ((ao, .inl (tk 2, 1, .inr (.inl fo))) :: t2) : va_W)) u) t) A) (by decide) (Nat.le_of_ble_eq_true rfl) ?_
  intro p e s m args below meth c Q A ls hQ hx hb hr hlk hin hts hT hown hml hnw hP hK hD hA hsz hl hAe hxF hex
  have hS : va_S A s.heap s.heap [] := va_S.rf
  have hc0 : 0 + 0 ≤ 1 ∧ 0 + 0 ≤ 6 := ⟨by decide, by decide⟩
  replace hl : lv_has ls 5 [(0, .ref (ad 0)), (1, .int (-1)), (2, .int key), (3, .ref ao)] := hl
  replace hP : va_P D CC (wC tk ad g rr ++ ((ao, .inl (tk 2, 1, .inr (.inl fo))) :: t2)) s.heap := hP
  replace hK : va_K D CC (TY tk) s := hK
  have hP0 := hP
  refine lv_aload_n hx hb d_L_get_0 rfl (lv_at hl 3 rfl) ?_
  refine lv_iconst (v := nI 0) hx hb d_L_get_1 (by decide) ?_
  refine lv_aload_n hx hb d_L_get_2 rfl (lv_at hl 0 rfl) ?_
  refine lv_iload_n hx hb d_L_get_3 rfl (lv_at hl 1 rfl) ?_
  refine lv_iload_n hx hb d_L_get_4 rfl (lv_at hl 2 rfl) ?_
  refine x_callV (As := [.int (-1), .int key]) (rest := [.int (nI 0), .ref ao]) ⟨hx, hb, hml, hown, hts⟩ (x_K_get_key1 l htr D tk s.heap.size ad g rr ((ao, .inl (tk 2, 1, .inr (.inl fo))) :: t2) key hbad) (cwV 2 hts (gV t_743 t_744 t_745 t_1 t_746) rfl rfl rfl (by decide +kernel) ⟨Nat.le_of_ble_eq_true rfl, Nat.le_of_ble_eq_true rfl⟩) (x_preV hP hK hD hnw hxF (st_kept hP0 (by rw [← hAe]; exact hS)) 0 rfl rfl) rfl rfl hl.1 rfl (lv_room (Nat.le_of_ble_eq_true rfl)) d_L_get_5 ⟨by decide, by decide⟩ (fun x st₀ t L hst hWt hq hL => ?_)
  obtain ⟨_, hob, hP, hD, hK, hS⟩ := x_join hq hst hWt hS hD hA hL
  refine x_catchA hex rfl (by show 0 ≤ 5 ∧ 5 < 10; decide) (by decide) hown (hT _ t_281) hob hWt ?_
  refine W.eq (g2 := F0 m 13 ls [.ref x]) rfl ?_
  refine lv_astore (lv' := [(4, .ref x), (0, .ref (ad 0)), (1, .int (-1)), (2, .int key), (3, .ref ao)]) hx hb d_L_get_13 hl (by decide) rfl (fun ls hl => ?_)
  refine lv_iconst (v := nI 1) hx hb d_L_get_15 (by decide) ?_
  refine W_up (c2 := 1) (s2 := 6) (by omega) (by omega) ?_
  exact k_iret (v := nI 1) hQ hx hb hr hlk hK hP hD hS () rfl rfl d_L_get_16

set_option maxHeartbeats 4000000 in
set_option maxRecDepth 100000 in
theorem l_get_key2 (l : Launch) (htr : ∀ e : Env, l.admits e → e.platform.stackTraces = false) (D : va_G) (tk : Nat → ClassId) (sz : Nat) (ad : Nat → Nat) (g : Nat → Nat → Int32) (rr : Nat → Nat → Option Nat) (ao : Nat) (fo : Nat → Int64) (t2 : va_W) (V : Nat) (hV2 : V ≤ 16) (hV : g 2 0 = nI V) (j : Nat) (hj : j < V) (key : Int32) (hbad : ¬ (¬ key < 0 ∧ ¬ nI 48 ≤ key)) : Met l y_L_get w_L_get ({ frames := 9, cells := 1, slots := 6, locals := 153 }) (va_Pc [.ref (ad 0), .int (nI j), .int key, .ref ao] (k_preT D (TY tk) sz (wC tk ad g rr ++ ((ao, .inl (tk 2, 1, .inr (.inl fo))) :: t2)))) (va_Qi (fun (r : Int32) (_ : Unit) => r = nI 1) (fun u t => k_at D (TY tk) (va_A (wC tk ad g rr ++ ((ao, .inl (tk 2, 1, .inr (.inl fo))) :: t2)) sz) ((fun _ => (wC tk ad g rr ++ ((ao, .inl (tk 2, 1, .inr (.inl fo))) :: t2) : va_W)) u) t) (va_A (wC tk ad g rr ++ ((ao, .inl (tk 2, 1, .inr (.inl fo))) :: t2)) sz)) 1 6 (va_A (wC tk ad g rr ++ ((ao, .inl (tk 2, 1, .inr (.inl fo))) :: t2)) sz) := by
  refine k_ofL (l := l) (rm := ({ frames := 9, cells := 1, slots := 6, locals := 153 } : Room)) (mc := 1) (ms := 6) (av := [.ref (ad 0), .int (nI j), .int key, .ref ao]) (y := y_L_get) (cc := method_6_code) (maxL := 5) (ret := (some .int)) (ws := wC tk ad g rr ++ ((ao, .inl (tk 2, 1, .inr (.inl fo))) :: t2)) (sz := sz) (D := D) (tk := tk) (fun A => va_Qi (fun (r : Int32) (_ : Unit) => r = nI 1) (fun u t => k_at D (TY tk) A ((fun _ => (wC tk ad g rr ++ ((ao, .inl (tk 2, 1, .inr (.inl fo))) :: t2) : va_W)) u) t) A) (by decide) (Nat.le_of_ble_eq_true rfl) ?_
  intro p e s m args below meth c Q A ls hQ hx hb hr hlk hin hts hT hown hml hnw hP hK hD hA hsz hl hAe hxF hex
  have hS : va_S A s.heap s.heap [] := va_S.rf
  have hc0 : 0 + 0 ≤ 1 ∧ 0 + 0 ≤ 6 := ⟨by decide, by decide⟩
  replace hl : lv_has ls 5 [(0, .ref (ad 0)), (1, .int (nI j)), (2, .int key), (3, .ref ao)] := hl
  replace hP : va_P D CC (wC tk ad g rr ++ ((ao, .inl (tk 2, 1, .inr (.inl fo))) :: t2)) s.heap := hP
  replace hK : va_K D CC (TY tk) s := hK
  have hP0 := hP
  refine lv_aload_n hx hb d_L_get_0 rfl (lv_at hl 3 rfl) ?_
  refine lv_iconst (v := nI 0) hx hb d_L_get_1 (by decide) ?_
  refine lv_aload_n hx hb d_L_get_2 rfl (lv_at hl 0 rfl) ?_
  refine lv_iload_n hx hb d_L_get_3 rfl (lv_at hl 1 rfl) ?_
  refine lv_iload_n hx hb d_L_get_4 rfl (lv_at hl 2 rfl) ?_
  refine x_callV (As := [.int (nI j), .int key]) (rest := [.int (nI 0), .ref ao]) ⟨hx, hb, hml, hown, hts⟩ (x_K_get_key2 l htr D tk s.heap.size ad g rr ((ao, .inl (tk 2, 1, .inr (.inl fo))) :: t2) V hV2 hV j hj key hbad) (cwV 2 hts (gV t_743 t_744 t_745 t_1 t_746) rfl rfl rfl (by decide +kernel) ⟨Nat.le_of_ble_eq_true rfl, Nat.le_of_ble_eq_true rfl⟩) (x_preV hP hK hD hnw hxF (st_kept hP0 (by rw [← hAe]; exact hS)) 0 rfl rfl) rfl rfl hl.1 rfl (lv_room (Nat.le_of_ble_eq_true rfl)) d_L_get_5 ⟨by decide, by decide⟩ (fun x st₀ t L hst hWt hq hL => ?_)
  obtain ⟨_, hob, hP, hD, hK, hS⟩ := x_join hq hst hWt hS hD hA hL
  refine x_catchA hex rfl (by show 0 ≤ 5 ∧ 5 < 10; decide) (by decide) hown (hT _ t_281) hob hWt ?_
  refine W.eq (g2 := F0 m 13 ls [.ref x]) rfl ?_
  refine lv_astore (lv' := [(4, .ref x), (0, .ref (ad 0)), (1, .int (nI j)), (2, .int key), (3, .ref ao)]) hx hb d_L_get_13 hl (by decide) rfl (fun ls hl => ?_)
  refine lv_iconst (v := nI 1) hx hb d_L_get_15 (by decide) ?_
  refine W_up (c2 := 1) (s2 := 6) (by omega) (by omega) ?_
  exact k_iret (v := nI 1) hQ hx hb hr hlk hK hP hD hS () rfl rfl d_L_get_16

set_option maxHeartbeats 4000000 in
set_option maxRecDepth 100000 in
theorem l_get_no1 (l : Launch) (htr : ∀ e : Env, l.admits e → e.platform.stackTraces = false) (D : va_G) (tk : Nat → ClassId) (sz : Nat) (ad : Nat → Nat) (g : Nat → Nat → Int32) (rr : Nat → Nat → Option Nat) (ao : Nat) (fo : Nat → Int64) (t2 : va_W) (k : Nat) (hk : k < 48) (h3 : g 3 k = nI 0) : Met l y_L_get w_L_get ({ frames := 9, cells := 1, slots := 6, locals := 143 }) (va_Pc [.ref (ad 0), .int (-1), .int (nI k), .ref ao] (k_preT D (TY tk) sz (wC tk ad g rr ++ ((ao, .inl (tk 2, 1, .inr (.inl fo))) :: t2)))) (va_Qi (fun (r : Int32) (_ : Unit) => r = nI 2) (fun u t => k_at D (TY tk) (va_A (wC tk ad g rr ++ ((ao, .inl (tk 2, 1, .inr (.inl fo))) :: t2)) sz) ((fun _ => (wC tk ad g rr ++ ((ao, .inl (tk 2, 1, .inr (.inl fo))) :: t2) : va_W)) u) t) (va_A (wC tk ad g rr ++ ((ao, .inl (tk 2, 1, .inr (.inl fo))) :: t2)) sz)) 1 6 (va_A (wC tk ad g rr ++ ((ao, .inl (tk 2, 1, .inr (.inl fo))) :: t2)) sz) := by
  refine k_ofL (l := l) (rm := ({ frames := 9, cells := 1, slots := 6, locals := 143 } : Room)) (mc := 1) (ms := 6) (av := [.ref (ad 0), .int (-1), .int (nI k), .ref ao]) (y := y_L_get) (cc := method_6_code) (maxL := 5) (ret := (some .int)) (ws := wC tk ad g rr ++ ((ao, .inl (tk 2, 1, .inr (.inl fo))) :: t2)) (sz := sz) (D := D) (tk := tk) (fun A => va_Qi (fun (r : Int32) (_ : Unit) => r = nI 2) (fun u t => k_at D (TY tk) A ((fun _ => (wC tk ad g rr ++ ((ao, .inl (tk 2, 1, .inr (.inl fo))) :: t2) : va_W)) u) t) A) (by decide) (Nat.le_of_ble_eq_true rfl) ?_
  intro p e s m args below meth c Q A ls hQ hx hb hr hlk hin hts hT hown hml hnw hP hK hD hA hsz hl hAe hxF hex
  have hS : va_S A s.heap s.heap [] := va_S.rf
  have hc0 : 0 + 0 ≤ 1 ∧ 0 + 0 ≤ 6 := ⟨by decide, by decide⟩
  replace hl : lv_has ls 5 [(0, .ref (ad 0)), (1, .int (-1)), (2, .int (nI k)), (3, .ref ao)] := hl
  replace hP : va_P D CC (wC tk ad g rr ++ ((ao, .inl (tk 2, 1, .inr (.inl fo))) :: t2)) s.heap := hP
  replace hK : va_K D CC (TY tk) s := hK
  have hP0 := hP
  refine lv_aload_n hx hb d_L_get_0 rfl (lv_at hl 3 rfl) ?_
  refine lv_iconst (v := nI 0) hx hb d_L_get_1 (by decide) ?_
  refine lv_aload_n hx hb d_L_get_2 rfl (lv_at hl 0 rfl) ?_
  refine lv_iload_n hx hb d_L_get_3 rfl (lv_at hl 1 rfl) ?_
  refine lv_iload_n hx hb d_L_get_4 rfl (lv_at hl 2 rfl) ?_
  refine x_callV (As := [.int (-1), .int (nI k)]) (rest := [.int (nI 0), .ref ao]) ⟨hx, hb, hml, hown, hts⟩ (x_K_get_no1 l htr D tk s.heap.size ad g rr ((ao, .inl (tk 2, 1, .inr (.inl fo))) :: t2) k hk h3) (cwV 2 hts (gV t_743 t_744 t_745 t_1 t_746) rfl rfl rfl (by decide +kernel) ⟨Nat.le_of_ble_eq_true rfl, Nat.le_of_ble_eq_true rfl⟩) (x_preV hP hK hD hnw hxF (st_kept hP0 (by rw [← hAe]; exact hS)) 0 rfl rfl) rfl rfl hl.1 rfl (lv_room (Nat.le_of_ble_eq_true rfl)) d_L_get_5 ⟨by decide, by decide⟩ (fun x st₀ t L hst hWt hq hL => ?_)
  obtain ⟨_, hob, hP, hD, hK, hS⟩ := x_join hq hst hWt hS hD hA hL
  refine x_catchB hex rfl (by show 0 ≤ 5 ∧ 5 < 10; decide) (by decide) (by decide) hown (hT _ t_281) (hT _ t_742) hxF.2.1.2 hob hWt ?_
  refine W.eq (g2 := F0 m 17 ls [.ref x]) rfl ?_
  refine lv_astore (lv' := [(4, .ref x), (0, .ref (ad 0)), (1, .int (-1)), (2, .int (nI k)), (3, .ref ao)]) hx hb d_L_get_17 hl (by decide) rfl (fun ls hl => ?_)
  refine lv_iconst (v := nI 2) hx hb d_L_get_19 (by decide) ?_
  refine W_up (c2 := 1) (s2 := 6) (by omega) (by omega) ?_
  exact k_iret (v := nI 2) hQ hx hb hr hlk hK hP hD hS () rfl rfl d_L_get_20

set_option maxHeartbeats 4000000 in
set_option maxRecDepth 100000 in
theorem l_get_no2 (l : Launch) (htr : ∀ e : Env, l.admits e → e.platform.stackTraces = false) (D : va_G) (tk : Nat → ClassId) (sz : Nat) (ad : Nat → Nat) (g : Nat → Nat → Int32) (rr : Nat → Nat → Option Nat) (ao : Nat) (fo : Nat → Int64) (t2 : va_W) (S : List ck_I) (ca : Nat → Nat) (bl : Nat → Nat → Option Nat) (hst : sI tk ((ao, .inl (tk 2, 1, .inr (.inl fo))) :: t2) S ca bl) (Xs : Nat → List kv_I) (V : Nat) (hV1 : 1 ≤ V) (hV2 : V ≤ 16) (hh : ∀ v, v < V → so (Xs v) ∧ tOf S ca (Xs v) (rr 1 v)) (hV : g 2 0 = nI V) (j k : Nat) (hj : j < V) (hk : k < 48) (hgv : gt_ (Xs j) k = none) : Met l y_L_get w_L_get ({ frames := 9, cells := 1, slots := 6, locals := 143 }) (va_Pc [.ref (ad 0), .int (nI j), .int (nI k), .ref ao] (k_preT D (TY tk) sz (wC tk ad g rr ++ ((ao, .inl (tk 2, 1, .inr (.inl fo))) :: t2)))) (va_Qi (fun (r : Int32) (_ : Unit) => r = nI 2) (fun u t => k_at D (TY tk) (va_A (wC tk ad g rr ++ ((ao, .inl (tk 2, 1, .inr (.inl fo))) :: t2)) sz) ((fun _ => (wC tk ad g rr ++ ((ao, .inl (tk 2, 1, .inr (.inl fo))) :: t2) : va_W)) u) t) (va_A (wC tk ad g rr ++ ((ao, .inl (tk 2, 1, .inr (.inl fo))) :: t2)) sz)) 1 6 (va_A (wC tk ad g rr ++ ((ao, .inl (tk 2, 1, .inr (.inl fo))) :: t2)) sz) := by
  refine k_ofL (l := l) (rm := ({ frames := 9, cells := 1, slots := 6, locals := 143 } : Room)) (mc := 1) (ms := 6) (av := [.ref (ad 0), .int (nI j), .int (nI k), .ref ao]) (y := y_L_get) (cc := method_6_code) (maxL := 5) (ret := (some .int)) (ws := wC tk ad g rr ++ ((ao, .inl (tk 2, 1, .inr (.inl fo))) :: t2)) (sz := sz) (D := D) (tk := tk) (fun A => va_Qi (fun (r : Int32) (_ : Unit) => r = nI 2) (fun u t => k_at D (TY tk) A ((fun _ => (wC tk ad g rr ++ ((ao, .inl (tk 2, 1, .inr (.inl fo))) :: t2) : va_W)) u) t) A) (by decide) (Nat.le_of_ble_eq_true rfl) ?_
  intro p e s m args below meth c Q A ls hQ hx hb hr hlk hin hts hT hown hml hnw hP hK hD hA hsz hl hAe hxF hex
  have hS : va_S A s.heap s.heap [] := va_S.rf
  have hc0 : 0 + 0 ≤ 1 ∧ 0 + 0 ≤ 6 := ⟨by decide, by decide⟩
  replace hl : lv_has ls 5 [(0, .ref (ad 0)), (1, .int (nI j)), (2, .int (nI k)), (3, .ref ao)] := hl
  replace hP : va_P D CC (wC tk ad g rr ++ ((ao, .inl (tk 2, 1, .inr (.inl fo))) :: t2)) s.heap := hP
  replace hK : va_K D CC (TY tk) s := hK
  have hP0 := hP
  refine lv_aload_n hx hb d_L_get_0 rfl (lv_at hl 3 rfl) ?_
  refine lv_iconst (v := nI 0) hx hb d_L_get_1 (by decide) ?_
  refine lv_aload_n hx hb d_L_get_2 rfl (lv_at hl 0 rfl) ?_
  refine lv_iload_n hx hb d_L_get_3 rfl (lv_at hl 1 rfl) ?_
  refine lv_iload_n hx hb d_L_get_4 rfl (lv_at hl 2 rfl) ?_
  refine x_callV (As := [.int (nI j), .int (nI k)]) (rest := [.int (nI 0), .ref ao]) ⟨hx, hb, hml, hown, hts⟩ (x_K_get_no2 l htr D tk s.heap.size ad g rr ((ao, .inl (tk 2, 1, .inr (.inl fo))) :: t2) S ca bl hst Xs V hV1 hV2 hh hV j k hj hk hgv) (cwV 2 hts (gV t_743 t_744 t_745 t_1 t_746) rfl rfl rfl (by decide +kernel) ⟨Nat.le_of_ble_eq_true rfl, Nat.le_of_ble_eq_true rfl⟩) (x_preV hP hK hD hnw hxF (st_kept hP0 (by rw [← hAe]; exact hS)) 0 rfl rfl) rfl rfl hl.1 rfl (lv_room (Nat.le_of_ble_eq_true rfl)) d_L_get_5 ⟨by decide, by decide⟩ (fun x st₀ t L hst hWt hq hL => ?_)
  obtain ⟨_, hob, hP, hD, hK, hS⟩ := x_join hq hst hWt hS hD hA hL
  refine x_catchB hex rfl (by show 0 ≤ 5 ∧ 5 < 10; decide) (by decide) (by decide) hown (hT _ t_281) (hT _ t_742) hxF.2.1.2 hob hWt ?_
  refine W.eq (g2 := F0 m 17 ls [.ref x]) rfl ?_
  refine lv_astore (lv' := [(4, .ref x), (0, .ref (ad 0)), (1, .int (nI j)), (2, .int (nI k)), (3, .ref ao)]) hx hb d_L_get_17 hl (by decide) rfl (fun ls hl => ?_)
  refine lv_iconst (v := nI 2) hx hb d_L_get_19 (by decide) ?_
  refine W_up (c2 := 1) (s2 := 6) (by omega) (by omega) ?_
  exact k_iret (v := nI 2) hQ hx hb hr hlk hK hP hD hS () rfl rfl d_L_get_20

set_option maxHeartbeats 4000000 in
set_option maxRecDepth 100000 in
theorem l_range_v (l : Launch) (htr : ∀ e : Env, l.admits e → e.platform.stackTraces = false) (D : va_G) (tk : Nat → ClassId) (sz : Nat) (ad : Nat → Nat) (g : Nat → Nat → Int32) (rr : Nat → Nat → Option Nat) (ao : Nat) (fo : Nat → Int64) (t2 : va_W) (v lo hi : Int32) (hbad : ¬ (¬ v < 0 ∧ ¬ g 2 0 ≤ v)) : Met l y_L_range w_L_range ({ frames := 9, cells := 1, slots := 6, locals := 157 }) (va_Pc [.ref (ad 0), .int v, .int lo, .int hi, .ref ao] (k_preT D (TY tk) sz (wC tk ad g rr ++ ((ao, .inl (tk 2, 1, .inr (.inl fo))) :: t2)))) (va_Qi (fun (r : Int32) (_ : Unit) => r = nI 1) (fun u t => k_at D (TY tk) (va_A (wC tk ad g rr ++ ((ao, .inl (tk 2, 1, .inr (.inl fo))) :: t2)) sz) ((fun _ => (wC tk ad g rr ++ ((ao, .inl (tk 2, 1, .inr (.inl fo))) :: t2) : va_W)) u) t) (va_A (wC tk ad g rr ++ ((ao, .inl (tk 2, 1, .inr (.inl fo))) :: t2)) sz)) 1 6 (va_A (wC tk ad g rr ++ ((ao, .inl (tk 2, 1, .inr (.inl fo))) :: t2)) sz) := by
  refine k_ofL (l := l) (rm := ({ frames := 9, cells := 1, slots := 6, locals := 157 } : Room)) (mc := 1) (ms := 6) (av := [.ref (ad 0), .int v, .int lo, .int hi, .ref ao]) (y := y_L_range) (cc := method_7_code) (maxL := 6) (ret := (some .int)) (ws := wC tk ad g rr ++ ((ao, .inl (tk 2, 1, .inr (.inl fo))) :: t2)) (sz := sz) (D := D) (tk := tk) (fun A => va_Qi (fun (r : Int32) (_ : Unit) => r = nI 1) (fun u t => k_at D (TY tk) A ((fun _ => (wC tk ad g rr ++ ((ao, .inl (tk 2, 1, .inr (.inl fo))) :: t2) : va_W)) u) t) A) (by decide) (Nat.le_of_ble_eq_true rfl) ?_
  intro p e s m args below meth c Q A ls hQ hx hb hr hlk hin hts hT hown hml hnw hP hK hD hA hsz hl hAe hxF hex
  have hS : va_S A s.heap s.heap [] := va_S.rf
  have hc0 : 0 + 0 ≤ 1 ∧ 0 + 0 ≤ 6 := ⟨by decide, by decide⟩
  replace hl : lv_has ls 6 [(0, .ref (ad 0)), (1, .int v), (2, .int lo), (3, .int hi), (4, .ref ao)] := hl
  replace hP : va_P D CC (wC tk ad g rr ++ ((ao, .inl (tk 2, 1, .inr (.inl fo))) :: t2)) s.heap := hP
  replace hK : va_K D CC (TY tk) s := hK
  have hP0 := hP
  refine lv_aload hx hb d_L_range_0 (lv_at hl 4 rfl) ?_
  refine lv_iconst (v := nI 0) hx hb d_L_range_2 (by decide) ?_
  refine lv_aload_n hx hb d_L_range_3 rfl (lv_at hl 0 rfl) ?_
  refine lv_iload_n hx hb d_L_range_4 rfl (lv_at hl 1 rfl) ?_
  refine lv_iload_n hx hb d_L_range_5 rfl (lv_at hl 2 rfl) ?_
  refine lv_iload_n hx hb d_L_range_6 rfl (lv_at hl 3 rfl) ?_
  refine x_callV (As := [.int v, .int lo, .int hi]) (rest := [.int (nI 0), .ref ao]) ⟨hx, hb, hml, hown, hts⟩ (x_K_range l htr D tk s.heap.size ad g rr ((ao, .inl (tk 2, 1, .inr (.inl fo))) :: t2) v lo hi hbad) (cwV 3 hts (gV t_776 t_777 t_778 t_1 t_779) rfl rfl rfl (by decide +kernel) ⟨Nat.le_of_ble_eq_true rfl, Nat.le_of_ble_eq_true rfl⟩) (x_preV hP hK hD hnw hxF (st_kept hP0 (by rw [← hAe]; exact hS)) 0 rfl rfl) rfl rfl hl.1 rfl (lv_room (Nat.le_of_ble_eq_true rfl)) d_L_range_7 ⟨by decide, by decide⟩ (fun x st₀ t L hst hWt hq hL => ?_)
  obtain ⟨_, hob, hP, hD, hK, hS⟩ := x_join hq hst hWt hS hD hA hL
  refine x_catchA hex rfl (by show 0 ≤ 7 ∧ 7 < 12; decide) (by decide) hown (hT _ t_281) hob hWt ?_
  refine W.eq (g2 := F0 m 15 ls [.ref x]) rfl ?_
  refine lv_astore (lv' := [(5, .ref x), (0, .ref (ad 0)), (1, .int v), (2, .int lo), (3, .int hi), (4, .ref ao)]) hx hb d_L_range_15 hl (by decide) rfl (fun ls hl => ?_)
  refine lv_iconst (v := nI 1) hx hb d_L_range_17 (by decide) ?_
  refine W_up (c2 := 1) (s2 := 6) (by omega) (by omega) ?_
  exact k_iret (v := nI 1) hQ hx hb hr hlk hK hP hD hS () rfl rfl d_L_range_18

set_option maxHeartbeats 4000000 in
set_option maxRecDepth 100000 in
theorem l_root_v (l : Launch) (htr : ∀ e : Env, l.admits e → e.platform.stackTraces = false) (D : va_G) (tk : Nat → ClassId) (sz : Nat) (ad : Nat → Nat) (g : Nat → Nat → Int32) (rr : Nat → Nat → Option Nat) (ao : Nat) (fo : Nat → Int64) (t2 : va_W) (v : Int32) (hbad : ¬ (¬ v < 0 ∧ ¬ g 2 0 ≤ v)) : Met l y_L_root w_L_root ({ frames := 9, cells := 1, slots := 6, locals := 152 }) (va_Pc [.ref (ad 0), .int v, .ref ao] (k_preT D (TY tk) sz (wC tk ad g rr ++ ((ao, .inl (tk 2, 1, .inr (.inl fo))) :: t2)))) (va_Qi (fun (r : Int32) (_ : Unit) => r = nI 1) (fun u t => k_at D (TY tk) (va_A (wC tk ad g rr ++ ((ao, .inl (tk 2, 1, .inr (.inl fo))) :: t2)) sz) ((fun _ => (wC tk ad g rr ++ ((ao, .inl (tk 2, 1, .inr (.inl fo))) :: t2) : va_W)) u) t) (va_A (wC tk ad g rr ++ ((ao, .inl (tk 2, 1, .inr (.inl fo))) :: t2)) sz)) 1 6 (va_A (wC tk ad g rr ++ ((ao, .inl (tk 2, 1, .inr (.inl fo))) :: t2)) sz) := by
  refine k_ofL (l := l) (rm := ({ frames := 9, cells := 1, slots := 6, locals := 152 } : Room)) (mc := 1) (ms := 6) (av := [.ref (ad 0), .int v, .ref ao]) (y := y_L_root) (cc := method_8_code) (maxL := 4) (ret := (some .int)) (ws := wC tk ad g rr ++ ((ao, .inl (tk 2, 1, .inr (.inl fo))) :: t2)) (sz := sz) (D := D) (tk := tk) (fun A => va_Qi (fun (r : Int32) (_ : Unit) => r = nI 1) (fun u t => k_at D (TY tk) A ((fun _ => (wC tk ad g rr ++ ((ao, .inl (tk 2, 1, .inr (.inl fo))) :: t2) : va_W)) u) t) A) (by decide) (Nat.le_of_ble_eq_true rfl) ?_
  intro p e s m args below meth c Q A ls hQ hx hb hr hlk hin hts hT hown hml hnw hP hK hD hA hsz hl hAe hxF hex
  have hS : va_S A s.heap s.heap [] := va_S.rf
  have hc0 : 0 + 0 ≤ 1 ∧ 0 + 0 ≤ 6 := ⟨by decide, by decide⟩
  replace hl : lv_has ls 4 [(0, .ref (ad 0)), (1, .int v), (2, .ref ao)] := hl
  replace hP : va_P D CC (wC tk ad g rr ++ ((ao, .inl (tk 2, 1, .inr (.inl fo))) :: t2)) s.heap := hP
  replace hK : va_K D CC (TY tk) s := hK
  have hP0 := hP
  refine lv_aload_n hx hb d_L_root_0 rfl (lv_at hl 2 rfl) ?_
  refine lv_iconst (v := nI 0) hx hb d_L_root_1 (by decide) ?_
  refine lv_aload_n hx hb d_L_root_2 rfl (lv_at hl 0 rfl) ?_
  refine lv_iload_n hx hb d_L_root_3 rfl (lv_at hl 1 rfl) ?_
  refine x_callV (As := [.int v]) (rest := [.int (nI 0), .ref ao]) ⟨hx, hb, hml, hown, hts⟩ (x_K_root l htr D tk s.heap.size ad g rr ((ao, .inl (tk 2, 1, .inr (.inl fo))) :: t2) v hbad) (cwV 1 hts (gV t_785 t_786 t_787 t_1 t_788) rfl rfl rfl (by decide +kernel) ⟨Nat.le_of_ble_eq_true rfl, Nat.le_of_ble_eq_true rfl⟩) (x_preV hP hK hD hnw hxF (st_kept hP0 (by rw [← hAe]; exact hS)) 0 rfl rfl) rfl rfl hl.1 rfl (lv_room (Nat.le_of_ble_eq_true rfl)) d_L_root_4 ⟨by decide, by decide⟩ (fun x st₀ t L hst hWt hq hL => ?_)
  obtain ⟨_, hob, hP, hD, hK, hS⟩ := x_join hq hst hWt hS hD hA hL
  refine x_catchA hex rfl (by show 0 ≤ 4 ∧ 4 < 9; decide) (by decide) hown (hT _ t_281) hob hWt ?_
  refine W.eq (g2 := F0 m 12 ls [.ref x]) rfl ?_
  refine lv_astore_n (lv' := [(3, .ref x), (0, .ref (ad 0)), (1, .int v), (2, .ref ao)]) hx hb d_L_root_12 rfl hl (by decide) rfl (fun ls hl => ?_)
  refine lv_iconst (v := nI 1) hx hb d_L_root_13 (by decide) ?_
  refine W_up (c2 := 1) (s2 := 6) (by omega) (by omega) ?_
  exact k_iret (v := nI 1) hQ hx hb hr hlk hK hP hD hS () rfl rfl d_L_root_14

set_option maxHeartbeats 4000000 in
set_option maxRecDepth 100000 in
theorem l_digest_n (l : Launch) (htr : ∀ e : Env, l.admits e → e.platform.stackTraces = false) (D : va_G) (tk : Nat → ClassId) (sz : Nat) (ad : Nat → Nat) (g : Nat → Nat → Int32) (rr : Nat → Nat → Option Nat) (ao : Nat) (fo : Nat → Int64) (t2 : va_W) (n : Int32) (hbad : ¬ (¬ n < 0 ∧ ¬ g 2 0 < n)) : Met l y_L_digest w_L_digest ({ frames := 8, cells := 1, slots := 6, locals := 131 }) (va_Pc [.ref (ad 0), .int n, .ref ao] (k_preT D (TY tk) sz (wC tk ad g rr ++ ((ao, .inl (tk 2, 1, .inr (.inl fo))) :: t2)))) (va_Qi (fun (r : Int32) (_ : Unit) => r = nI 1) (fun u t => k_at D (TY tk) (va_A (wC tk ad g rr ++ ((ao, .inl (tk 2, 1, .inr (.inl fo))) :: t2)) sz) ((fun _ => (wC tk ad g rr ++ ((ao, .inl (tk 2, 1, .inr (.inl fo))) :: t2) : va_W)) u) t) (va_A (wC tk ad g rr ++ ((ao, .inl (tk 2, 1, .inr (.inl fo))) :: t2)) sz)) 1 6 (va_A (wC tk ad g rr ++ ((ao, .inl (tk 2, 1, .inr (.inl fo))) :: t2)) sz) := by
  refine k_ofL (l := l) (rm := ({ frames := 8, cells := 1, slots := 6, locals := 131 } : Room)) (mc := 1) (ms := 6) (av := [.ref (ad 0), .int n, .ref ao]) (y := y_L_digest) (cc := method_9_code) (maxL := 4) (ret := (some .int)) (ws := wC tk ad g rr ++ ((ao, .inl (tk 2, 1, .inr (.inl fo))) :: t2)) (sz := sz) (D := D) (tk := tk) (fun A => va_Qi (fun (r : Int32) (_ : Unit) => r = nI 1) (fun u t => k_at D (TY tk) A ((fun _ => (wC tk ad g rr ++ ((ao, .inl (tk 2, 1, .inr (.inl fo))) :: t2) : va_W)) u) t) A) (by decide) (Nat.le_of_ble_eq_true rfl) ?_
  intro p e s m args below meth c Q A ls hQ hx hb hr hlk hin hts hT hown hml hnw hP hK hD hA hsz hl hAe hxF hex
  have hS : va_S A s.heap s.heap [] := va_S.rf
  have hc0 : 0 + 0 ≤ 1 ∧ 0 + 0 ≤ 6 := ⟨by decide, by decide⟩
  replace hl : lv_has ls 4 [(0, .ref (ad 0)), (1, .int n), (2, .ref ao)] := hl
  replace hP : va_P D CC (wC tk ad g rr ++ ((ao, .inl (tk 2, 1, .inr (.inl fo))) :: t2)) s.heap := hP
  replace hK : va_K D CC (TY tk) s := hK
  have hP0 := hP
  refine lv_aload_n hx hb d_L_digest_0 rfl (lv_at hl 2 rfl) ?_
  refine lv_iconst (v := nI 0) hx hb d_L_digest_1 (by decide) ?_
  refine lv_aload_n hx hb d_L_digest_2 rfl (lv_at hl 0 rfl) ?_
  refine lv_iload_n hx hb d_L_digest_3 rfl (lv_at hl 1 rfl) ?_
  refine x_callV (As := [.int n]) (rest := [.int (nI 0), .ref ao]) ⟨hx, hb, hml, hown, hts⟩ (x_K_digest l htr D tk s.heap.size ad g rr ((ao, .inl (tk 2, 1, .inr (.inl fo))) :: t2) n hbad) (cwV 1 hts (gV t_796 t_797 t_798 t_1 t_799) rfl rfl rfl (by decide +kernel) ⟨Nat.le_of_ble_eq_true rfl, Nat.le_of_ble_eq_true rfl⟩) (x_preV hP hK hD hnw hxF (st_kept hP0 (by rw [← hAe]; exact hS)) 0 rfl rfl) rfl rfl hl.1 rfl (lv_room (Nat.le_of_ble_eq_true rfl)) d_L_digest_4 ⟨by decide, by decide⟩ (fun x st₀ t L hst hWt hq hL => ?_)
  obtain ⟨_, hob, hP, hD, hK, hS⟩ := x_join hq hst hWt hS hD hA hL
  refine x_catchA hex rfl (by show 0 ≤ 4 ∧ 4 < 9; decide) (by decide) hown (hT _ t_281) hob hWt ?_
  refine W.eq (g2 := F0 m 12 ls [.ref x]) rfl ?_
  refine lv_astore_n (lv' := [(3, .ref x), (0, .ref (ad 0)), (1, .int n), (2, .ref ao)]) hx hb d_L_digest_12 rfl hl (by decide) rfl (fun ls hl => ?_)
  refine lv_iconst (v := nI 1) hx hb d_L_digest_13 (by decide) ?_
  refine W_up (c2 := 1) (s2 := 6) (by omega) (by omega) ?_
  exact k_iret (v := nI 1) hQ hx hb hr hlk hK hP hD hS () rfl rfl d_L_digest_14

set_option maxHeartbeats 4000000 in
set_option maxRecDepth 100000 in
theorem l_prove_n (l : Launch) (htr : ∀ e : Env, l.admits e → e.platform.stackTraces = false) (D : va_G) (tk : Nat → ClassId) (sz : Nat) (ad : Nat → Nat) (g : Nat → Nat → Int32) (rr : Nat → Nat → Option Nat) (ao : Nat) (fo : Nat → Int64) (t2 : va_W) (n v key : Int32) (hbad : ¬ (¬ g 2 0 < n ∧ ¬ v < 0 ∧ ¬ n ≤ v)) : Met l y_L_prove w_L_prove ({ frames := 8, cells := 1, slots := 6, locals := 133 }) (va_Pc [.ref (ad 0), .int n, .int v, .int key, .ref ao] (k_preT D (TY tk) sz (wC tk ad g rr ++ ((ao, .inl (tk 2, 1, .inr (.inl fo))) :: t2)))) (va_Qi (fun (r : Int32) (_ : Unit) => r = nI 1) (fun u t => k_at D (TY tk) (va_A (wC tk ad g rr ++ ((ao, .inl (tk 2, 1, .inr (.inl fo))) :: t2)) sz) ((fun _ => (wC tk ad g rr ++ ((ao, .inl (tk 2, 1, .inr (.inl fo))) :: t2) : va_W)) u) t) (va_A (wC tk ad g rr ++ ((ao, .inl (tk 2, 1, .inr (.inl fo))) :: t2)) sz)) 1 6 (va_A (wC tk ad g rr ++ ((ao, .inl (tk 2, 1, .inr (.inl fo))) :: t2)) sz) := by
  refine k_ofL (l := l) (rm := ({ frames := 8, cells := 1, slots := 6, locals := 133 } : Room)) (mc := 1) (ms := 6) (av := [.ref (ad 0), .int n, .int v, .int key, .ref ao]) (y := y_L_prove) (cc := method_10_code) (maxL := 6) (ret := (some .int)) (ws := wC tk ad g rr ++ ((ao, .inl (tk 2, 1, .inr (.inl fo))) :: t2)) (sz := sz) (D := D) (tk := tk) (fun A => va_Qi (fun (r : Int32) (_ : Unit) => r = nI 1) (fun u t => k_at D (TY tk) A ((fun _ => (wC tk ad g rr ++ ((ao, .inl (tk 2, 1, .inr (.inl fo))) :: t2) : va_W)) u) t) A) (by decide) (Nat.le_of_ble_eq_true rfl) ?_
  intro p e s m args below meth c Q A ls hQ hx hb hr hlk hin hts hT hown hml hnw hP hK hD hA hsz hl hAe hxF hex
  have hS : va_S A s.heap s.heap [] := va_S.rf
  have hc0 : 0 + 0 ≤ 1 ∧ 0 + 0 ≤ 6 := ⟨by decide, by decide⟩
  replace hl : lv_has ls 6 [(0, .ref (ad 0)), (1, .int n), (2, .int v), (3, .int key), (4, .ref ao)] := hl
  replace hP : va_P D CC (wC tk ad g rr ++ ((ao, .inl (tk 2, 1, .inr (.inl fo))) :: t2)) s.heap := hP
  replace hK : va_K D CC (TY tk) s := hK
  have hP0 := hP
  refine lv_aload hx hb d_L_prove_0 (lv_at hl 4 rfl) ?_
  refine lv_iconst (v := nI 0) hx hb d_L_prove_2 (by decide) ?_
  refine lv_aload_n hx hb d_L_prove_3 rfl (lv_at hl 0 rfl) ?_
  refine lv_iload_n hx hb d_L_prove_4 rfl (lv_at hl 1 rfl) ?_
  refine lv_iload_n hx hb d_L_prove_5 rfl (lv_at hl 2 rfl) ?_
  refine lv_iload_n hx hb d_L_prove_6 rfl (lv_at hl 3 rfl) ?_
  refine x_callV (As := [.int n, .int v, .int key]) (rest := [.int (nI 0), .ref ao]) ⟨hx, hb, hml, hown, hts⟩ (x_K_prove_n l htr D tk s.heap.size ad g rr ((ao, .inl (tk 2, 1, .inr (.inl fo))) :: t2) n v key hbad) (cwV 3 hts (gV t_818 t_819 t_820 t_1 t_821) rfl rfl rfl (by decide +kernel) ⟨Nat.le_of_ble_eq_true rfl, Nat.le_of_ble_eq_true rfl⟩) (x_preV hP hK hD hnw hxF (st_kept hP0 (by rw [← hAe]; exact hS)) 0 rfl rfl) rfl rfl hl.1 rfl (lv_room (Nat.le_of_ble_eq_true rfl)) d_L_prove_7 ⟨by decide, by decide⟩ (fun x st₀ t L hst hWt hq hL => ?_)
  obtain ⟨_, hob, hP, hD, hK, hS⟩ := x_join hq hst hWt hS hD hA hL
  refine x_catchA hex rfl (by show 0 ≤ 7 ∧ 7 < 12; decide) (by decide) hown (hT _ t_281) hob hWt ?_
  refine W.eq (g2 := F0 m 15 ls [.ref x]) rfl ?_
  refine lv_astore (lv' := [(5, .ref x), (0, .ref (ad 0)), (1, .int n), (2, .int v), (3, .int key), (4, .ref ao)]) hx hb d_L_prove_15 hl (by decide) rfl (fun ls hl => ?_)
  refine lv_iconst (v := nI 1) hx hb d_L_prove_17 (by decide) ?_
  refine W_up (c2 := 1) (s2 := 6) (by omega) (by omega) ?_
  exact k_iret (v := nI 1) hQ hx hb hr hlk hK hP hD hS () rfl rfl d_L_prove_18

set_option maxHeartbeats 4000000 in
set_option maxRecDepth 100000 in
theorem l_prove_key (l : Launch) (htr : ∀ e : Env, l.admits e → e.platform.stackTraces = false) (D : va_G) (tk : Nat → ClassId) (sz : Nat) (ad : Nat → Nat) (g : Nat → Nat → Int32) (rr : Nat → Nat → Option Nat) (ao : Nat) (fo : Nat → Int64) (t2 : va_W) (V : Nat) (hV2 : V ≤ 16) (hV : g 2 0 = nI V) (n9 v9 : Nat) (hn9 : n9 ≤ V) (hv9 : v9 < n9) (key : Int32) (hbad : ¬ (¬ key < 0 ∧ ¬ nI 48 ≤ key)) : Met l y_L_prove w_L_prove ({ frames := 9, cells := 1, slots := 6, locals := 153 }) (va_Pc [.ref (ad 0), .int (nI n9), .int (nI v9), .int key, .ref ao] (k_preT D (TY tk) sz (wC tk ad g rr ++ ((ao, .inl (tk 2, 1, .inr (.inl fo))) :: t2)))) (va_Qi (fun (r : Int32) (_ : Unit) => r = nI 1) (fun u t => k_at D (TY tk) (va_A (wC tk ad g rr ++ ((ao, .inl (tk 2, 1, .inr (.inl fo))) :: t2)) sz) ((fun _ => (wC tk ad g rr ++ ((ao, .inl (tk 2, 1, .inr (.inl fo))) :: t2) : va_W)) u) t) (va_A (wC tk ad g rr ++ ((ao, .inl (tk 2, 1, .inr (.inl fo))) :: t2)) sz)) 1 6 (va_A (wC tk ad g rr ++ ((ao, .inl (tk 2, 1, .inr (.inl fo))) :: t2)) sz) := by
  refine k_ofL (l := l) (rm := ({ frames := 9, cells := 1, slots := 6, locals := 153 } : Room)) (mc := 1) (ms := 6) (av := [.ref (ad 0), .int (nI n9), .int (nI v9), .int key, .ref ao]) (y := y_L_prove) (cc := method_10_code) (maxL := 6) (ret := (some .int)) (ws := wC tk ad g rr ++ ((ao, .inl (tk 2, 1, .inr (.inl fo))) :: t2)) (sz := sz) (D := D) (tk := tk) (fun A => va_Qi (fun (r : Int32) (_ : Unit) => r = nI 1) (fun u t => k_at D (TY tk) A ((fun _ => (wC tk ad g rr ++ ((ao, .inl (tk 2, 1, .inr (.inl fo))) :: t2) : va_W)) u) t) A) (by decide) (Nat.le_of_ble_eq_true rfl) ?_
  intro p e s m args below meth c Q A ls hQ hx hb hr hlk hin hts hT hown hml hnw hP hK hD hA hsz hl hAe hxF hex
  have hS : va_S A s.heap s.heap [] := va_S.rf
  have hc0 : 0 + 0 ≤ 1 ∧ 0 + 0 ≤ 6 := ⟨by decide, by decide⟩
  replace hl : lv_has ls 6 [(0, .ref (ad 0)), (1, .int (nI n9)), (2, .int (nI v9)), (3, .int key), (4, .ref ao)] := hl
  replace hP : va_P D CC (wC tk ad g rr ++ ((ao, .inl (tk 2, 1, .inr (.inl fo))) :: t2)) s.heap := hP
  replace hK : va_K D CC (TY tk) s := hK
  have hP0 := hP
  refine lv_aload hx hb d_L_prove_0 (lv_at hl 4 rfl) ?_
  refine lv_iconst (v := nI 0) hx hb d_L_prove_2 (by decide) ?_
  refine lv_aload_n hx hb d_L_prove_3 rfl (lv_at hl 0 rfl) ?_
  refine lv_iload_n hx hb d_L_prove_4 rfl (lv_at hl 1 rfl) ?_
  refine lv_iload_n hx hb d_L_prove_5 rfl (lv_at hl 2 rfl) ?_
  refine lv_iload_n hx hb d_L_prove_6 rfl (lv_at hl 3 rfl) ?_
  refine x_callV (As := [.int (nI n9), .int (nI v9), .int key]) (rest := [.int (nI 0), .ref ao]) ⟨hx, hb, hml, hown, hts⟩ (x_K_prove_key l htr D tk s.heap.size ad g rr ((ao, .inl (tk 2, 1, .inr (.inl fo))) :: t2) V hV2 hV n9 v9 hn9 hv9 key hbad) (cwV 3 hts (gV t_818 t_819 t_820 t_1 t_821) rfl rfl rfl (by decide +kernel) ⟨Nat.le_of_ble_eq_true rfl, Nat.le_of_ble_eq_true rfl⟩) (x_preV hP hK hD hnw hxF (st_kept hP0 (by rw [← hAe]; exact hS)) 0 rfl rfl) rfl rfl hl.1 rfl (lv_room (Nat.le_of_ble_eq_true rfl)) d_L_prove_7 ⟨by decide, by decide⟩ (fun x st₀ t L hst hWt hq hL => ?_)
  obtain ⟨_, hob, hP, hD, hK, hS⟩ := x_join hq hst hWt hS hD hA hL
  refine x_catchA hex rfl (by show 0 ≤ 7 ∧ 7 < 12; decide) (by decide) hown (hT _ t_281) hob hWt ?_
  refine W.eq (g2 := F0 m 15 ls [.ref x]) rfl ?_
  refine lv_astore (lv' := [(5, .ref x), (0, .ref (ad 0)), (1, .int (nI n9)), (2, .int (nI v9)), (3, .int key), (4, .ref ao)]) hx hb d_L_prove_15 hl (by decide) rfl (fun ls hl => ?_)
  refine lv_iconst (v := nI 1) hx hb d_L_prove_17 (by decide) ?_
  refine W_up (c2 := 1) (s2 := 6) (by omega) (by omega) ?_
  exact k_iret (v := nI 1) hQ hx hb hr hlk hK hP hD hS () rfl rfl d_L_prove_18

set_option maxHeartbeats 4000000 in
set_option maxRecDepth 100000 in
theorem l_proveGrowth_n (l : Launch) (htr : ∀ e : Env, l.admits e → e.platform.stackTraces = false) (D : va_G) (tk : Nat → ClassId) (sz : Nat) (ad : Nat → Nat) (g : Nat → Nat → Int32) (rr : Nat → Nat → Option Nat) (ao : Nat) (fo : Nat → Int64) (t2 : va_W) (m9 n : Int32) (hbad : ¬ (¬ m9 ≤ 0 ∧ ¬ n ≤ m9 ∧ ¬ g 2 0 < n)) : Met l y_L_proveGrowth w_L_proveGrowth ({ frames := 8, cells := 1, slots := 6, locals := 132 }) (va_Pc [.ref (ad 0), .int m9, .int n, .ref ao] (k_preT D (TY tk) sz (wC tk ad g rr ++ ((ao, .inl (tk 2, 1, .inr (.inl fo))) :: t2)))) (va_Qi (fun (r : Int32) (_ : Unit) => r = nI 1) (fun u t => k_at D (TY tk) (va_A (wC tk ad g rr ++ ((ao, .inl (tk 2, 1, .inr (.inl fo))) :: t2)) sz) ((fun _ => (wC tk ad g rr ++ ((ao, .inl (tk 2, 1, .inr (.inl fo))) :: t2) : va_W)) u) t) (va_A (wC tk ad g rr ++ ((ao, .inl (tk 2, 1, .inr (.inl fo))) :: t2)) sz)) 1 6 (va_A (wC tk ad g rr ++ ((ao, .inl (tk 2, 1, .inr (.inl fo))) :: t2)) sz) := by
  refine k_ofL (l := l) (rm := ({ frames := 8, cells := 1, slots := 6, locals := 132 } : Room)) (mc := 1) (ms := 6) (av := [.ref (ad 0), .int m9, .int n, .ref ao]) (y := y_L_proveGrowth) (cc := method_11_code) (maxL := 5) (ret := (some .int)) (ws := wC tk ad g rr ++ ((ao, .inl (tk 2, 1, .inr (.inl fo))) :: t2)) (sz := sz) (D := D) (tk := tk) (fun A => va_Qi (fun (r : Int32) (_ : Unit) => r = nI 1) (fun u t => k_at D (TY tk) A ((fun _ => (wC tk ad g rr ++ ((ao, .inl (tk 2, 1, .inr (.inl fo))) :: t2) : va_W)) u) t) A) (by decide) (Nat.le_of_ble_eq_true rfl) ?_
  intro p e s m args below meth c Q A ls hQ hx hb hr hlk hin hts hT hown hml hnw hP hK hD hA hsz hl hAe hxF hex
  have hS : va_S A s.heap s.heap [] := va_S.rf
  have hc0 : 0 + 0 ≤ 1 ∧ 0 + 0 ≤ 6 := ⟨by decide, by decide⟩
  replace hl : lv_has ls 5 [(0, .ref (ad 0)), (1, .int m9), (2, .int n), (3, .ref ao)] := hl
  replace hP : va_P D CC (wC tk ad g rr ++ ((ao, .inl (tk 2, 1, .inr (.inl fo))) :: t2)) s.heap := hP
  replace hK : va_K D CC (TY tk) s := hK
  have hP0 := hP
  refine lv_aload_n hx hb d_L_proveGrowth_0 rfl (lv_at hl 3 rfl) ?_
  refine lv_iconst (v := nI 0) hx hb d_L_proveGrowth_1 (by decide) ?_
  refine lv_aload_n hx hb d_L_proveGrowth_2 rfl (lv_at hl 0 rfl) ?_
  refine lv_iload_n hx hb d_L_proveGrowth_3 rfl (lv_at hl 1 rfl) ?_
  refine lv_iload_n hx hb d_L_proveGrowth_4 rfl (lv_at hl 2 rfl) ?_
  refine x_callV (As := [.int m9, .int n]) (rest := [.int (nI 0), .ref ao]) ⟨hx, hb, hml, hown, hts⟩ (x_K_proveGrowth l htr D tk s.heap.size ad g rr ((ao, .inl (tk 2, 1, .inr (.inl fo))) :: t2) m9 n hbad) (cwV 2 hts (gV t_857 t_858 t_859 t_1 t_860) rfl rfl rfl (by decide +kernel) ⟨Nat.le_of_ble_eq_true rfl, Nat.le_of_ble_eq_true rfl⟩) (x_preV hP hK hD hnw hxF (st_kept hP0 (by rw [← hAe]; exact hS)) 0 rfl rfl) rfl rfl hl.1 rfl (lv_room (Nat.le_of_ble_eq_true rfl)) d_L_proveGrowth_5 ⟨by decide, by decide⟩ (fun x st₀ t L hst hWt hq hL => ?_)
  obtain ⟨_, hob, hP, hD, hK, hS⟩ := x_join hq hst hWt hS hD hA hL
  refine x_catchA hex rfl (by show 0 ≤ 5 ∧ 5 < 10; decide) (by decide) hown (hT _ t_281) hob hWt ?_
  refine W.eq (g2 := F0 m 13 ls [.ref x]) rfl ?_
  refine lv_astore (lv' := [(4, .ref x), (0, .ref (ad 0)), (1, .int m9), (2, .int n), (3, .ref ao)]) hx hb d_L_proveGrowth_13 hl (by decide) rfl (fun ls hl => ?_)
  refine lv_iconst (v := nI 1) hx hb d_L_proveGrowth_15 (by decide) ?_
  refine W_up (c2 := 1) (s2 := 6) (by omega) (by omega) ?_
  exact k_iret (v := nI 1) hQ hx hb hr hlk hK hP hD hS () rfl rfl d_L_proveGrowth_16

set_option maxHeartbeats 4000000 in
set_option maxRecDepth 100000 in
theorem l_verify_n (l : Launch) (htr : ∀ e : Env, l.admits e → e.platform.stackTraces = false) (D : va_G) (tk : Nat → ClassId) (sz : Nat) (ad : Nat → Nat) (g : Nat → Nat → Int32) (rr : Nat → Nat → Option Nat) (ao : Nat) (fo : Nat → Int64) (t2 : va_W) (dg n v key : Int32) (hbad : ¬ (¬ n < nI 1 ∧ ¬ nI 16 < n ∧ ¬ v < 0 ∧ ¬ n ≤ v)) : Met l y_L_verify w_L_verify ({ frames := 8, cells := 1, slots := 6, locals := 135 }) (va_Pc [.ref (ad 0), .int dg, .int n, .int v, .int key, .ref ao] (k_preT D (TY tk) sz (wC tk ad g rr ++ ((ao, .inl (tk 2, 1, .inr (.inl fo))) :: t2)))) (va_Qi (fun (r : Int32) (_ : Unit) => r = nI 1) (fun u t => k_at D (TY tk) (va_A (wC tk ad g rr ++ ((ao, .inl (tk 2, 1, .inr (.inl fo))) :: t2)) sz) ((fun _ => (wC tk ad g rr ++ ((ao, .inl (tk 2, 1, .inr (.inl fo))) :: t2) : va_W)) u) t) (va_A (wC tk ad g rr ++ ((ao, .inl (tk 2, 1, .inr (.inl fo))) :: t2)) sz)) 1 6 (va_A (wC tk ad g rr ++ ((ao, .inl (tk 2, 1, .inr (.inl fo))) :: t2)) sz) := by
  refine k_ofL (l := l) (rm := ({ frames := 8, cells := 1, slots := 6, locals := 135 } : Room)) (mc := 1) (ms := 6) (av := [.ref (ad 0), .int dg, .int n, .int v, .int key, .ref ao]) (y := y_L_verify) (cc := method_12_code) (maxL := 7) (ret := (some .int)) (ws := wC tk ad g rr ++ ((ao, .inl (tk 2, 1, .inr (.inl fo))) :: t2)) (sz := sz) (D := D) (tk := tk) (fun A => va_Qi (fun (r : Int32) (_ : Unit) => r = nI 1) (fun u t => k_at D (TY tk) A ((fun _ => (wC tk ad g rr ++ ((ao, .inl (tk 2, 1, .inr (.inl fo))) :: t2) : va_W)) u) t) A) (by decide) (Nat.le_of_ble_eq_true rfl) ?_
  intro p e s m args below meth c Q A ls hQ hx hb hr hlk hin hts hT hown hml hnw hP hK hD hA hsz hl hAe hxF hex
  have hS : va_S A s.heap s.heap [] := va_S.rf
  have hc0 : 0 + 0 ≤ 1 ∧ 0 + 0 ≤ 6 := ⟨by decide, by decide⟩
  replace hl : lv_has ls 7 [(0, .ref (ad 0)), (1, .int dg), (2, .int n), (3, .int v), (4, .int key), (5, .ref ao)] := hl
  replace hP : va_P D CC (wC tk ad g rr ++ ((ao, .inl (tk 2, 1, .inr (.inl fo))) :: t2)) s.heap := hP
  replace hK : va_K D CC (TY tk) s := hK
  have hP0 := hP
  refine lv_aload hx hb d_L_verify_0 (lv_at hl 5 rfl) ?_
  refine lv_iconst (v := nI 0) hx hb d_L_verify_2 (by decide) ?_
  refine lv_aload_n hx hb d_L_verify_3 rfl (lv_at hl 0 rfl) ?_
  refine lv_iload_n hx hb d_L_verify_4 rfl (lv_at hl 1 rfl) ?_
  refine lv_iload_n hx hb d_L_verify_5 rfl (lv_at hl 2 rfl) ?_
  refine lv_iload_n hx hb d_L_verify_6 rfl (lv_at hl 3 rfl) ?_
  refine lv_iload hx hb d_L_verify_7 (lv_at hl 4 rfl) ?_
  refine x_callV (As := [.int dg, .int n, .int v, .int key]) (rest := [.int (nI 0), .ref ao]) ⟨hx, hb, hml, hown, hts⟩ (x_K_verify_n l htr D tk s.heap.size ad g rr ((ao, .inl (tk 2, 1, .inr (.inl fo))) :: t2) dg n v key hbad) (cwV 4 hts (gV t_872 t_873 t_874 t_1 t_875) rfl rfl rfl (by decide +kernel) ⟨Nat.le_of_ble_eq_true rfl, Nat.le_of_ble_eq_true rfl⟩) (x_preV hP hK hD hnw hxF (st_kept hP0 (by rw [← hAe]; exact hS)) 0 rfl rfl) rfl rfl hl.1 rfl (lv_room (Nat.le_of_ble_eq_true rfl)) d_L_verify_9 ⟨by decide, by decide⟩ (fun x st₀ t L hst hWt hq hL => ?_)
  obtain ⟨_, hob, hP, hD, hK, hS⟩ := x_join hq hst hWt hS hD hA hL
  refine x_catchA hex rfl (by show 0 ≤ 9 ∧ 9 < 14; decide) (by decide) hown (hT _ t_281) hob hWt ?_
  refine W.eq (g2 := F0 m 17 ls [.ref x]) rfl ?_
  refine lv_astore (lv' := [(6, .ref x), (0, .ref (ad 0)), (1, .int dg), (2, .int n), (3, .int v), (4, .int key), (5, .ref ao)]) hx hb d_L_verify_17 hl (by decide) rfl (fun ls hl => ?_)
  refine lv_iconst (v := nI 1) hx hb d_L_verify_19 (by decide) ?_
  refine W_up (c2 := 1) (s2 := 6) (by omega) (by omega) ?_
  exact k_iret (v := nI 1) hQ hx hb hr hlk hK hP hD hS () rfl rfl d_L_verify_20

set_option maxHeartbeats 4000000 in
set_option maxRecDepth 100000 in
theorem l_verify_key (l : Launch) (htr : ∀ e : Env, l.admits e → e.platform.stackTraces = false) (D : va_G) (tk : Nat → ClassId) (sz : Nat) (ad : Nat → Nat) (g : Nat → Nat → Int32) (rr : Nat → Nat → Option Nat) (ao : Nat) (fo : Nat → Int64) (t2 : va_W) (dg : Int32) (n9 v9 : Nat) (hn9 : n9 ≤ 16) (hv9 : v9 < n9) (key : Int32) (hbad : ¬ (¬ key < 0 ∧ ¬ nI 48 ≤ key)) : Met l y_L_verify w_L_verify ({ frames := 9, cells := 1, slots := 6, locals := 155 }) (va_Pc [.ref (ad 0), .int dg, .int (nI n9), .int (nI v9), .int key, .ref ao] (k_preT D (TY tk) sz (wC tk ad g rr ++ ((ao, .inl (tk 2, 1, .inr (.inl fo))) :: t2)))) (va_Qi (fun (r : Int32) (_ : Unit) => r = nI 1) (fun u t => k_at D (TY tk) (va_A (wC tk ad g rr ++ ((ao, .inl (tk 2, 1, .inr (.inl fo))) :: t2)) sz) ((fun _ => (wC tk ad g rr ++ ((ao, .inl (tk 2, 1, .inr (.inl fo))) :: t2) : va_W)) u) t) (va_A (wC tk ad g rr ++ ((ao, .inl (tk 2, 1, .inr (.inl fo))) :: t2)) sz)) 1 6 (va_A (wC tk ad g rr ++ ((ao, .inl (tk 2, 1, .inr (.inl fo))) :: t2)) sz) := by
  refine k_ofL (l := l) (rm := ({ frames := 9, cells := 1, slots := 6, locals := 155 } : Room)) (mc := 1) (ms := 6) (av := [.ref (ad 0), .int dg, .int (nI n9), .int (nI v9), .int key, .ref ao]) (y := y_L_verify) (cc := method_12_code) (maxL := 7) (ret := (some .int)) (ws := wC tk ad g rr ++ ((ao, .inl (tk 2, 1, .inr (.inl fo))) :: t2)) (sz := sz) (D := D) (tk := tk) (fun A => va_Qi (fun (r : Int32) (_ : Unit) => r = nI 1) (fun u t => k_at D (TY tk) A ((fun _ => (wC tk ad g rr ++ ((ao, .inl (tk 2, 1, .inr (.inl fo))) :: t2) : va_W)) u) t) A) (by decide) (Nat.le_of_ble_eq_true rfl) ?_
  intro p e s m args below meth c Q A ls hQ hx hb hr hlk hin hts hT hown hml hnw hP hK hD hA hsz hl hAe hxF hex
  have hS : va_S A s.heap s.heap [] := va_S.rf
  have hc0 : 0 + 0 ≤ 1 ∧ 0 + 0 ≤ 6 := ⟨by decide, by decide⟩
  replace hl : lv_has ls 7 [(0, .ref (ad 0)), (1, .int dg), (2, .int (nI n9)), (3, .int (nI v9)), (4, .int key), (5, .ref ao)] := hl
  replace hP : va_P D CC (wC tk ad g rr ++ ((ao, .inl (tk 2, 1, .inr (.inl fo))) :: t2)) s.heap := hP
  replace hK : va_K D CC (TY tk) s := hK
  have hP0 := hP
  refine lv_aload hx hb d_L_verify_0 (lv_at hl 5 rfl) ?_
  refine lv_iconst (v := nI 0) hx hb d_L_verify_2 (by decide) ?_
  refine lv_aload_n hx hb d_L_verify_3 rfl (lv_at hl 0 rfl) ?_
  refine lv_iload_n hx hb d_L_verify_4 rfl (lv_at hl 1 rfl) ?_
  refine lv_iload_n hx hb d_L_verify_5 rfl (lv_at hl 2 rfl) ?_
  refine lv_iload_n hx hb d_L_verify_6 rfl (lv_at hl 3 rfl) ?_
  refine lv_iload hx hb d_L_verify_7 (lv_at hl 4 rfl) ?_
  refine x_callV (As := [.int dg, .int (nI n9), .int (nI v9), .int key]) (rest := [.int (nI 0), .ref ao]) ⟨hx, hb, hml, hown, hts⟩ (x_K_verify_key l htr D tk s.heap.size ad g rr ((ao, .inl (tk 2, 1, .inr (.inl fo))) :: t2) dg n9 v9 hn9 hv9 key hbad) (cwV 4 hts (gV t_872 t_873 t_874 t_1 t_875) rfl rfl rfl (by decide +kernel) ⟨Nat.le_of_ble_eq_true rfl, Nat.le_of_ble_eq_true rfl⟩) (x_preV hP hK hD hnw hxF (st_kept hP0 (by rw [← hAe]; exact hS)) 0 rfl rfl) rfl rfl hl.1 rfl (lv_room (Nat.le_of_ble_eq_true rfl)) d_L_verify_9 ⟨by decide, by decide⟩ (fun x st₀ t L hst hWt hq hL => ?_)
  obtain ⟨_, hob, hP, hD, hK, hS⟩ := x_join hq hst hWt hS hD hA hL
  refine x_catchA hex rfl (by show 0 ≤ 9 ∧ 9 < 14; decide) (by decide) hown (hT _ t_281) hob hWt ?_
  refine W.eq (g2 := F0 m 17 ls [.ref x]) rfl ?_
  refine lv_astore (lv' := [(6, .ref x), (0, .ref (ad 0)), (1, .int dg), (2, .int (nI n9)), (3, .int (nI v9)), (4, .int key), (5, .ref ao)]) hx hb d_L_verify_17 hl (by decide) rfl (fun ls hl => ?_)
  refine lv_iconst (v := nI 1) hx hb d_L_verify_19 (by decide) ?_
  refine W_up (c2 := 1) (s2 := 6) (by omega) (by omega) ?_
  exact k_iret (v := nI 1) hQ hx hb hr hlk hK hP hD hS () rfl rfl d_L_verify_20

set_option maxHeartbeats 4000000 in
set_option maxRecDepth 100000 in
theorem l_verifyGrowth_n (l : Launch) (htr : ∀ e : Env, l.admits e → e.platform.stackTraces = false) (D : va_G) (tk : Nat → ClassId) (sz : Nat) (ad : Nat → Nat) (g : Nat → Nat → Int32) (rr : Nat → Nat → Option Nat) (ao : Nat) (fo : Nat → Int64) (t2 : va_W) (one m9 other n : Int32) (hbad : ¬ (¬ m9 ≤ 0 ∧ ¬ n ≤ m9 ∧ ¬ nI 16 < n)) : Met l y_L_verifyGrowth w_L_verifyGrowth ({ frames := 8, cells := 1, slots := 6, locals := 135 }) (va_Pc [.ref (ad 0), .int one, .int m9, .int other, .int n, .ref ao] (k_preT D (TY tk) sz (wC tk ad g rr ++ ((ao, .inl (tk 2, 1, .inr (.inl fo))) :: t2)))) (va_Qi (fun (r : Int32) (_ : Unit) => r = nI 1) (fun u t => k_at D (TY tk) (va_A (wC tk ad g rr ++ ((ao, .inl (tk 2, 1, .inr (.inl fo))) :: t2)) sz) ((fun _ => (wC tk ad g rr ++ ((ao, .inl (tk 2, 1, .inr (.inl fo))) :: t2) : va_W)) u) t) (va_A (wC tk ad g rr ++ ((ao, .inl (tk 2, 1, .inr (.inl fo))) :: t2)) sz)) 1 6 (va_A (wC tk ad g rr ++ ((ao, .inl (tk 2, 1, .inr (.inl fo))) :: t2)) sz) := by
  refine k_ofL (l := l) (rm := ({ frames := 8, cells := 1, slots := 6, locals := 135 } : Room)) (mc := 1) (ms := 6) (av := [.ref (ad 0), .int one, .int m9, .int other, .int n, .ref ao]) (y := y_L_verifyGrowth) (cc := method_13_code) (maxL := 7) (ret := (some .int)) (ws := wC tk ad g rr ++ ((ao, .inl (tk 2, 1, .inr (.inl fo))) :: t2)) (sz := sz) (D := D) (tk := tk) (fun A => va_Qi (fun (r : Int32) (_ : Unit) => r = nI 1) (fun u t => k_at D (TY tk) A ((fun _ => (wC tk ad g rr ++ ((ao, .inl (tk 2, 1, .inr (.inl fo))) :: t2) : va_W)) u) t) A) (by decide) (Nat.le_of_ble_eq_true rfl) ?_
  intro p e s m args below meth c Q A ls hQ hx hb hr hlk hin hts hT hown hml hnw hP hK hD hA hsz hl hAe hxF hex
  have hS : va_S A s.heap s.heap [] := va_S.rf
  have hc0 : 0 + 0 ≤ 1 ∧ 0 + 0 ≤ 6 := ⟨by decide, by decide⟩
  replace hl : lv_has ls 7 [(0, .ref (ad 0)), (1, .int one), (2, .int m9), (3, .int other), (4, .int n), (5, .ref ao)] := hl
  replace hP : va_P D CC (wC tk ad g rr ++ ((ao, .inl (tk 2, 1, .inr (.inl fo))) :: t2)) s.heap := hP
  replace hK : va_K D CC (TY tk) s := hK
  have hP0 := hP
  refine lv_aload hx hb d_L_verifyGrowth_0 (lv_at hl 5 rfl) ?_
  refine lv_iconst (v := nI 0) hx hb d_L_verifyGrowth_2 (by decide) ?_
  refine lv_aload_n hx hb d_L_verifyGrowth_3 rfl (lv_at hl 0 rfl) ?_
  refine lv_iload_n hx hb d_L_verifyGrowth_4 rfl (lv_at hl 1 rfl) ?_
  refine lv_iload_n hx hb d_L_verifyGrowth_5 rfl (lv_at hl 2 rfl) ?_
  refine lv_iload_n hx hb d_L_verifyGrowth_6 rfl (lv_at hl 3 rfl) ?_
  refine lv_iload hx hb d_L_verifyGrowth_7 (lv_at hl 4 rfl) ?_
  refine x_callV (As := [.int one, .int m9, .int other, .int n]) (rest := [.int (nI 0), .ref ao]) ⟨hx, hb, hml, hown, hts⟩ (x_K_verifyGrowth l htr D tk s.heap.size ad g rr ((ao, .inl (tk 2, 1, .inr (.inl fo))) :: t2) one m9 other n hbad) (cwV 4 hts (gV t_913 t_914 t_915 t_1 t_916) rfl rfl rfl (by decide +kernel) ⟨Nat.le_of_ble_eq_true rfl, Nat.le_of_ble_eq_true rfl⟩) (x_preV hP hK hD hnw hxF (st_kept hP0 (by rw [← hAe]; exact hS)) 0 rfl rfl) rfl rfl hl.1 rfl (lv_room (Nat.le_of_ble_eq_true rfl)) d_L_verifyGrowth_9 ⟨by decide, by decide⟩ (fun x st₀ t L hst hWt hq hL => ?_)
  obtain ⟨_, hob, hP, hD, hK, hS⟩ := x_join hq hst hWt hS hD hA hL
  refine x_catchA hex rfl (by show 0 ≤ 9 ∧ 9 < 21; decide) (by decide) hown (hT _ t_281) hob hWt ?_
  refine W.eq (g2 := F0 m 24 ls [.ref x]) rfl ?_
  refine lv_astore (lv' := [(6, .ref x), (0, .ref (ad 0)), (1, .int one), (2, .int m9), (3, .int other), (4, .int n), (5, .ref ao)]) hx hb d_L_verifyGrowth_24 hl (by decide) rfl (fun ls hl => ?_)
  refine lv_iconst (v := nI 1) hx hb d_L_verifyGrowth_26 (by decide) ?_
  refine W_up (c2 := 1) (s2 := 6) (by omega) (by omega) ?_
  exact k_iret (v := nI 1) hQ hx hb hr hlk hK hP hD hS () rfl rfl d_L_verifyGrowth_27
