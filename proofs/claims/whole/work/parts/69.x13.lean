set_option maxHeartbeats 4000000 in
set_option maxRecDepth 100000 in
theorem l_put (l : Launch) (D : va_G) (tk : Nat → ClassId) (sz : Nat) (ad : Nat → Nat) (g : Nat → Nat → Int32) (rr : Nat → Nat → Option Nat) (ao : Nat) (fo : Nat → Int64) (t2 : va_W) (V : Nat) (hV2 : V < 16) (hV : g 2 0 = nI V) (k : Nat) (hk : k < 48) (v : Int32) : Met l y_L_put w_L_put ({ frames := 3, cells := 0, slots := 0, locals := 62 }) (va_Pc [.ref (ad 0), .int (nI k), .int v] (k_preT D (TY tk) sz (wC tk ad g rr ++ ((ao, .inl (tk 2, 1, .inr (.inl fo))) :: t2)))) (va_Qi (fun (r : Int32) (_ : Unit) => r = nI 0) (fun u t => k_at D (TY tk) (va_A (wC tk ad g rr ++ ((ao, .inl (tk 2, 1, .inr (.inl fo))) :: t2)) sz) ((fun _ => (wC tk ad (mup (mup g 3 k (nI 1)) 4 k v) rr ++ ((ao, .inl (tk 2, 1, .inr (.inl fo))) :: t2) : va_W)) u) t) (va_A (wC tk ad g rr ++ ((ao, .inl (tk 2, 1, .inr (.inl fo))) :: t2)) sz)) 0 0 (va_A (wC tk ad g rr ++ ((ao, .inl (tk 2, 1, .inr (.inl fo))) :: t2)) sz) := by
  refine k_ofL (l := l) (rm := ({ frames := 3, cells := 0, slots := 0, locals := 62 } : Room)) (mc := 0) (ms := 0) (av := [.ref (ad 0), .int (nI k), .int v]) (y := y_L_put) (cc := method_3_code) (maxL := 4) (ret := (some .int)) (ws := wC tk ad g rr ++ ((ao, .inl (tk 2, 1, .inr (.inl fo))) :: t2)) (sz := sz) (D := D) (tk := tk) (fun A => va_Qi (fun (r : Int32) (_ : Unit) => r = nI 0) (fun u t => k_at D (TY tk) A ((fun _ => (wC tk ad (mup (mup g 3 k (nI 1)) 4 k v) rr ++ ((ao, .inl (tk 2, 1, .inr (.inl fo))) :: t2) : va_W)) u) t) A) (by decide) (Nat.le_of_ble_eq_true rfl) ?_
  intro p e s m args below meth c Q A ls hQ hx hb hr hlk hin hts hT hown hml hnw hP hK hD hA hsz hl hAe hxF hex
  have hS : va_S A s.heap s.heap [] := va_S.rf
  have hc0 : 0 + 0 ≤ 0 ∧ 0 + 0 ≤ 0 := ⟨by decide, by decide⟩
  replace hl : lv_has ls 4 [(0, .ref (ad 0)), (1, .int (nI k)), (2, .int v)] := hl
  replace hP : va_P D CC (wC tk ad g rr ++ ((ao, .inl (tk 2, 1, .inr (.inl fo))) :: t2)) s.heap := hP
  replace hK : va_K D CC (TY tk) s := hK
  have hP0 := hP
  refine lv_aload_n hx hb d_L_put_0 rfl (lv_at hl 0 rfl) ?_
  refine lv_iload_n hx hb d_L_put_1 rfl (lv_at hl 1 rfl) ?_
  refine lv_iload_n hx hb d_L_put_2 rfl (lv_at hl 2 rfl) ?_
  refine k_callv (va_runV (As := [.int (nI k), .int v]) (rest := []) ⟨hx, hb, hml, hown, hts⟩ (c_K_put1 l D tk s.heap.size ad g rr ((ao, .inl (tk 2, 1, .inr (.inl fo))) :: t2) V hV2 hV k hk v) (cwV 2 hts (gV t_283 t_284 t_285 t_1 t_286) rfl rfl rfl (by decide +kernel) ⟨Nat.le_of_ble_eq_true rfl, Nat.le_of_ble_eq_true rfl⟩) (k_preV hP hK hD hnw 0 rfl rfl) rfl rfl hl.1 rfl (lv_room (Nat.le_of_ble_eq_true rfl)) d_L_put_3 hc0) hD hS hA (fun _ H locs hp3 hP hD hK hS => ?_)
  replace hP : va_P D CC (wC tk ad (mup (mup g 3 k (nI 1)) 4 k v) rr ++ ((ao, .inl (tk 2, 1, .inr (.inl fo))) :: t2)) H := hP
  replace hD : va_D A (wC tk ad (mup (mup g 3 k (nI 1)) 4 k v) rr ++ ((ao, .inl (tk 2, 1, .inr (.inl fo))) :: t2)) := hD
  refine lv_goto hx hb d_L_put_6 (tgt := 15) (by decide) ?_
  refine lv_iconst (v := nI 0) hx hb d_L_put_15 (by decide) ?_
  refine W_up (c2 := 0) (s2 := 0) (by omega) (by omega) ?_
  exact k_iret (v := nI 0) hQ hx hb hr hlk hK hP hD hS () rfl rfl d_L_put_16

set_option maxHeartbeats 4000000 in
set_option maxRecDepth 100000 in
theorem l_delete (l : Launch) (D : va_G) (tk : Nat → ClassId) (sz : Nat) (ad : Nat → Nat) (g : Nat → Nat → Int32) (rr : Nat → Nat → Option Nat) (ao : Nat) (fo : Nat → Int64) (t2 : va_W) (V : Nat) (hV2 : V < 16) (hV : g 2 0 = nI V) (hz : bz (g 3)) (k : Nat) (hk : k < 48) : Met l y_L_delete w_L_delete ({ frames := 3, cells := 0, slots := 0, locals := 61 }) (va_Pc [.ref (ad 0), .int (nI k), .ref ao] (k_preT D (TY tk) sz (wC tk ad g rr ++ ((ao, .inl (tk 2, 1, .inr (.inl fo))) :: t2)))) (va_Qi (fun (r : Int32) (_ : Unit) => r = nI 0) (fun u t => k_at D (TY tk) (va_A (wC tk ad g rr ++ ((ao, .inl (tk 2, 1, .inr (.inl fo))) :: t2)) sz) ((fun _ => (wC tk ad (mup g 3 k (nI 0)) rr ++ ((ao, .inl (tk 2, 1, .inr (.inl (vp_updL fo 0 (if g 3 k = 0 then 0 else 1))))) :: t2) : va_W)) u) t) (va_A (wC tk ad g rr ++ ((ao, .inl (tk 2, 1, .inr (.inl fo))) :: t2)) sz)) 0 0 (va_A (wC tk ad g rr ++ ((ao, .inl (tk 2, 1, .inr (.inl fo))) :: t2)) sz) := by
  refine k_ofL (l := l) (rm := ({ frames := 3, cells := 0, slots := 0, locals := 61 } : Room)) (mc := 0) (ms := 0) (av := [.ref (ad 0), .int (nI k), .ref ao]) (y := y_L_delete) (cc := method_4_code) (maxL := 4) (ret := (some .int)) (ws := wC tk ad g rr ++ ((ao, .inl (tk 2, 1, .inr (.inl fo))) :: t2)) (sz := sz) (D := D) (tk := tk) (fun A => va_Qi (fun (r : Int32) (_ : Unit) => r = nI 0) (fun u t => k_at D (TY tk) A ((fun _ => (wC tk ad (mup g 3 k (nI 0)) rr ++ ((ao, .inl (tk 2, 1, .inr (.inl (vp_updL fo 0 (if g 3 k = 0 then 0 else 1))))) :: t2) : va_W)) u) t) A) (by decide) (Nat.le_of_ble_eq_true rfl) ?_
  intro p e s m args below meth c Q A ls hQ hx hb hr hlk hin hts hT hown hml hnw hP hK hD hA hsz hl hAe hxF hex
  have hS : va_S A s.heap s.heap [] := va_S.rf
  have hc0 : 0 + 0 ≤ 0 ∧ 0 + 0 ≤ 0 := ⟨by decide, by decide⟩
  replace hl : lv_has ls 4 [(0, .ref (ad 0)), (1, .int (nI k)), (2, .ref ao)] := hl
  replace hP : va_P D CC (wC tk ad g rr ++ ((ao, .inl (tk 2, 1, .inr (.inl fo))) :: t2)) s.heap := hP
  replace hK : va_K D CC (TY tk) s := hK
  have hP0 := hP
  refine lv_aload_n hx hb d_L_delete_0 rfl (lv_at hl 2 rfl) ?_
  refine lv_iconst (v := nI 0) hx hb d_L_delete_1 (by decide) ?_
  refine lv_aload_n hx hb d_L_delete_2 rfl (lv_at hl 0 rfl) ?_
  refine lv_iload_n hx hb d_L_delete_3 rfl (lv_at hl 1 rfl) ?_
  refine k_calli (va_runV (As := [.int (nI k)]) (rest := [.int (nI 0), .ref ao]) ⟨hx, hb, hml, hown, hts⟩ (c_K_delete1 l D tk s.heap.size ad g rr ((ao, .inl (tk 2, 1, .inr (.inl fo))) :: t2) V hV2 hV hz k hk) (cwV 1 hts (gV t_388 t_389 t_390 t_1 t_391) rfl rfl rfl (by decide +kernel) ⟨Nat.le_of_ble_eq_true rfl, Nat.le_of_ble_eq_true rfl⟩) (k_preV hP hK hD hnw 0 rfl rfl) rfl rfl hl.1 rfl (lv_room (Nat.le_of_ble_eq_true rfl)) d_L_delete_4 hc0) hD hS hA (fun _ _ H locs hp4 hP hD hK hS => ?_)
  subst hp4
  replace hP : va_P D CC (wC tk ad (mup g 3 k (nI 0)) rr ++ ((ao, .inl (tk 2, 1, .inr (.inl fo))) :: t2)) H := hP
  replace hD : va_D A (wC tk ad (mup g 3 k (nI 0)) rr ++ ((ao, .inl (tk 2, 1, .inr (.inl fo))) :: t2)) := hD
  refine lv_if_eq hx hb d_L_delete_7 (tgt := 14) (by decide) (fun hc7 => ?_) (fun hc7 => ?_)
  · skip
    refine lv_lconst (v := 0) hx hb d_L_delete_14 (by decide) ?_
    refine st_last hx hb hK hP hD hS 18 2 rfl rfl (by omega) (by decide) d_L_delete_15 (fun H locs hP hD hS => ?_)
    replace hP : va_P D CC (wC tk ad (mup g 3 k (nI 0)) rr ++ ((ao, .inl (tk 2, 1, .inr (.inl (vp_updL fo 0 0)))) :: t2)) H := Eq.mp (congrArg (fun w => va_P D CC w H) (sC_out tk ad (mup g 3 k (nI 0)) rr ao _ _ t2)) hP
    replace hD : va_D A (wC tk ad (mup g 3 k (nI 0)) rr ++ ((ao, .inl (tk 2, 1, .inr (.inl (vp_updL fo 0 0)))) :: t2)) := Eq.mp (congrArg (fun w => va_D A w) (sC_out tk ad (mup g 3 k (nI 0)) rr ao _ _ t2)) hD
    refine lv_goto hx hb d_L_delete_16 (tgt := 25) (by decide) ?_
    refine lv_iconst (v := nI 0) hx hb d_L_delete_25 (by decide) ?_
    refine W_up (c2 := 0) (s2 := 0) (by omega) (by omega) ?_
    exact k_iret (v := nI 0) hQ hx hb hr hlk hK hP hD hS () (by first | rw [if_pos hc7] | rw [if_neg hc7]) rfl d_L_delete_26
  · skip
    refine lv_lconst (v := 1) hx hb d_L_delete_10 (by decide) ?_
    refine lv_goto hx hb d_L_delete_11 (tgt := 15) (by decide) ?_
    refine st_last hx hb hK hP hD hS 18 2 rfl rfl (by omega) (by decide) d_L_delete_15 (fun H locs hP hD hS => ?_)
    replace hP : va_P D CC (wC tk ad (mup g 3 k (nI 0)) rr ++ ((ao, .inl (tk 2, 1, .inr (.inl (vp_updL fo 0 1)))) :: t2)) H := Eq.mp (congrArg (fun w => va_P D CC w H) (sC_out tk ad (mup g 3 k (nI 0)) rr ao _ _ t2)) hP
    replace hD : va_D A (wC tk ad (mup g 3 k (nI 0)) rr ++ ((ao, .inl (tk 2, 1, .inr (.inl (vp_updL fo 0 1)))) :: t2)) := Eq.mp (congrArg (fun w => va_D A w) (sC_out tk ad (mup g 3 k (nI 0)) rr ao _ _ t2)) hD
    refine lv_goto hx hb d_L_delete_16 (tgt := 25) (by decide) ?_
    refine lv_iconst (v := nI 0) hx hb d_L_delete_25 (by decide) ?_
    refine W_up (c2 := 0) (s2 := 0) (by omega) (by omega) ?_
    exact k_iret (v := nI 0) hQ hx hb hr hlk hK hP hD hS () (by first | rw [if_pos hc7] | rw [if_neg hc7]) rfl d_L_delete_26

set_option maxHeartbeats 4000000 in
set_option maxRecDepth 100000 in
theorem l_get1 (l : Launch) (D : va_G) (tk : Nat → ClassId) (sz : Nat) (ad : Nat → Nat) (g : Nat → Nat → Int32) (rr : Nat → Nat → Option Nat) (ao : Nat) (fo : Nat → Int64) (t2 : va_W) (k : Nat) (hk : k < 48) (h3 : g 3 k = nI 1) : Met l y_L_get w_L_get ({ frames := 3, cells := 0, slots := 0, locals := 63 }) (va_Pc [.ref (ad 0), .int (-1), .int (nI k), .ref ao] (k_preT D (TY tk) sz (wC tk ad g rr ++ ((ao, .inl (tk 2, 1, .inr (.inl fo))) :: t2)))) (va_Qi (fun (r : Int32) (_ : Unit) => r = nI 0) (fun u t => k_at D (TY tk) (va_A (wC tk ad g rr ++ ((ao, .inl (tk 2, 1, .inr (.inl fo))) :: t2)) sz) ((fun _ => (wC tk ad g rr ++ ((ao, .inl (tk 2, 1, .inr (.inl (vp_updL fo 0 ((g 4 k).toInt64))))) :: t2) : va_W)) u) t) (va_A (wC tk ad g rr ++ ((ao, .inl (tk 2, 1, .inr (.inl fo))) :: t2)) sz)) 0 0 (va_A (wC tk ad g rr ++ ((ao, .inl (tk 2, 1, .inr (.inl fo))) :: t2)) sz) := by
  refine k_ofL (l := l) (rm := ({ frames := 3, cells := 0, slots := 0, locals := 63 } : Room)) (mc := 0) (ms := 0) (av := [.ref (ad 0), .int (-1), .int (nI k), .ref ao]) (y := y_L_get) (cc := method_6_code) (maxL := 5) (ret := (some .int)) (ws := wC tk ad g rr ++ ((ao, .inl (tk 2, 1, .inr (.inl fo))) :: t2)) (sz := sz) (D := D) (tk := tk) (fun A => va_Qi (fun (r : Int32) (_ : Unit) => r = nI 0) (fun u t => k_at D (TY tk) A ((fun _ => (wC tk ad g rr ++ ((ao, .inl (tk 2, 1, .inr (.inl (vp_updL fo 0 ((g 4 k).toInt64))))) :: t2) : va_W)) u) t) A) (by decide) (Nat.le_of_ble_eq_true rfl) ?_
  intro p e s m args below meth c Q A ls hQ hx hb hr hlk hin hts hT hown hml hnw hP hK hD hA hsz hl hAe hxF hex
  have hS : va_S A s.heap s.heap [] := va_S.rf
  have hc0 : 0 + 0 ≤ 0 ∧ 0 + 0 ≤ 0 := ⟨by decide, by decide⟩
  replace hl : lv_has ls 5 [(0, .ref (ad 0)), (1, .int (-1)), (2, .int (nI k)), (3, .ref ao)] := hl
  replace hP : va_P D CC (wC tk ad g rr ++ ((ao, .inl (tk 2, 1, .inr (.inl fo))) :: t2)) s.heap := hP
  replace hK : va_K D CC (TY tk) s := hK
  have hP0 := hP
  refine lv_aload_n hx hb d_L_get_0 rfl (lv_at hl 3 rfl) ?_
  refine lv_iconst (v := nI 0) hx hb d_L_get_1 (by decide) ?_
  refine lv_aload_n hx hb d_L_get_2 rfl (lv_at hl 0 rfl) ?_
  refine lv_iload_n hx hb d_L_get_3 rfl (lv_at hl 1 rfl) ?_
  refine lv_iload_n hx hb d_L_get_4 rfl (lv_at hl 2 rfl) ?_
  refine k_calli (va_runV (As := [.int (-1), .int (nI k)]) (rest := [.int (nI 0), .ref ao]) ⟨hx, hb, hml, hown, hts⟩ (c_K_get1 l D tk s.heap.size ad g rr ((ao, .inl (tk 2, 1, .inr (.inl fo))) :: t2) k hk h3) (cwV 2 hts (gV t_743 t_744 t_745 t_1 t_746) rfl rfl rfl (by decide +kernel) ⟨Nat.le_of_ble_eq_true rfl, Nat.le_of_ble_eq_true rfl⟩) (k_preV hP hK hD hnw 0 rfl rfl) rfl rfl hl.1 rfl (lv_room (Nat.le_of_ble_eq_true rfl)) d_L_get_5 hc0) hD hS hA (fun _ _ H locs hp5 hP hD hK hS => ?_)
  subst hp5
  replace hP : va_P D CC (wC tk ad g rr ++ ((ao, .inl (tk 2, 1, .inr (.inl fo))) :: t2)) H := hP
  replace hD : va_D A (wC tk ad g rr ++ ((ao, .inl (tk 2, 1, .inr (.inl fo))) :: t2)) := hD
  refine lv_i2l (v := (g 4 k).toInt64) hx hb d_L_get_8 rfl ?_
  refine st_last hx hb hK hP hD hS 18 2 rfl rfl (by omega) (by decide) d_L_get_9 (fun H locs hP hD hS => ?_)
  replace hP : va_P D CC (wC tk ad g rr ++ ((ao, .inl (tk 2, 1, .inr (.inl (vp_updL fo 0 ((g 4 k).toInt64))))) :: t2)) H := Eq.mp (congrArg (fun w => va_P D CC w H) (sC_out tk ad g rr ao _ _ t2)) hP
  replace hD : va_D A (wC tk ad g rr ++ ((ao, .inl (tk 2, 1, .inr (.inl (vp_updL fo 0 ((g 4 k).toInt64))))) :: t2)) := Eq.mp (congrArg (fun w => va_D A w) (sC_out tk ad g rr ao _ _ t2)) hD
  refine lv_goto hx hb d_L_get_10 (tgt := 21) (by decide) ?_
  refine lv_iconst (v := nI 0) hx hb d_L_get_21 (by decide) ?_
  refine W_up (c2 := 0) (s2 := 0) (by omega) (by omega) ?_
  exact k_iret (v := nI 0) hQ hx hb hr hlk hK hP hD hS () rfl rfl d_L_get_22

set_option maxHeartbeats 4000000 in
set_option maxRecDepth 100000 in
theorem l_get2 (l : Launch) (D : va_G) (tk : Nat → ClassId) (sz : Nat) (ad : Nat → Nat) (g : Nat → Nat → Int32) (rr : Nat → Nat → Option Nat) (ao : Nat) (fo : Nat → Int64) (t2 : va_W) (S : List ck_I) (ca : Nat → Nat) (bl : Nat → Nat → Option Nat) (hst : sI tk ((ao, .inl (tk 2, 1, .inr (.inl fo))) :: t2) S ca bl) (Xs : Nat → List kv_I) (V : Nat) (hV1 : 1 ≤ V) (hV2 : V ≤ 16) (hh : ∀ v, v < V → so (Xs v) ∧ tOf S ca (Xs v) (rr 1 v)) (hV : g 2 0 = nI V) (j k : Nat) (hj : j < V) (hk : k < 48) (v : Int32) (hgv : gt_ (Xs j) k = some v) : Met l y_L_get w_L_get ({ frames := 4, cells := 0, slots := 0, locals := 89 }) (va_Pc [.ref (ad 0), .int (nI j), .int (nI k), .ref ao] (k_preT D (TY tk) sz (wC tk ad g rr ++ ((ao, .inl (tk 2, 1, .inr (.inl fo))) :: t2)))) (va_Qi (fun (r : Int32) (_ : Unit) => r = nI 0) (fun u t => k_at D (TY tk) (va_A (wC tk ad g rr ++ ((ao, .inl (tk 2, 1, .inr (.inl fo))) :: t2)) sz) ((fun _ => (wC tk ad g rr ++ ((ao, .inl (tk 2, 1, .inr (.inl (vp_updL fo 0 v.toInt64)))) :: t2) : va_W)) u) t) (va_A (wC tk ad g rr ++ ((ao, .inl (tk 2, 1, .inr (.inl fo))) :: t2)) sz)) 0 0 (va_A (wC tk ad g rr ++ ((ao, .inl (tk 2, 1, .inr (.inl fo))) :: t2)) sz) := by
  refine k_ofL (l := l) (rm := ({ frames := 4, cells := 0, slots := 0, locals := 89 } : Room)) (mc := 0) (ms := 0) (av := [.ref (ad 0), .int (nI j), .int (nI k), .ref ao]) (y := y_L_get) (cc := method_6_code) (maxL := 5) (ret := (some .int)) (ws := wC tk ad g rr ++ ((ao, .inl (tk 2, 1, .inr (.inl fo))) :: t2)) (sz := sz) (D := D) (tk := tk) (fun A => va_Qi (fun (r : Int32) (_ : Unit) => r = nI 0) (fun u t => k_at D (TY tk) A ((fun _ => (wC tk ad g rr ++ ((ao, .inl (tk 2, 1, .inr (.inl (vp_updL fo 0 v.toInt64)))) :: t2) : va_W)) u) t) A) (by decide) (Nat.le_of_ble_eq_true rfl) ?_
  intro p e s m args below meth c Q A ls hQ hx hb hr hlk hin hts hT hown hml hnw hP hK hD hA hsz hl hAe hxF hex
  have hS : va_S A s.heap s.heap [] := va_S.rf
  have hc0 : 0 + 0 ≤ 0 ∧ 0 + 0 ≤ 0 := ⟨by decide, by decide⟩
  replace hl : lv_has ls 5 [(0, .ref (ad 0)), (1, .int (nI j)), (2, .int (nI k)), (3, .ref ao)] := hl
  replace hP : va_P D CC (wC tk ad g rr ++ ((ao, .inl (tk 2, 1, .inr (.inl fo))) :: t2)) s.heap := hP
  replace hK : va_K D CC (TY tk) s := hK
  have hP0 := hP
  refine lv_aload_n hx hb d_L_get_0 rfl (lv_at hl 3 rfl) ?_
  refine lv_iconst (v := nI 0) hx hb d_L_get_1 (by decide) ?_
  refine lv_aload_n hx hb d_L_get_2 rfl (lv_at hl 0 rfl) ?_
  refine lv_iload_n hx hb d_L_get_3 rfl (lv_at hl 1 rfl) ?_
  refine lv_iload_n hx hb d_L_get_4 rfl (lv_at hl 2 rfl) ?_
  refine k_calli (va_runV (As := [.int (nI j), .int (nI k)]) (rest := [.int (nI 0), .ref ao]) ⟨hx, hb, hml, hown, hts⟩ (c_K_get2 l D tk s.heap.size ad g rr ((ao, .inl (tk 2, 1, .inr (.inl fo))) :: t2) S ca bl hst Xs V hV1 hV2 hh hV j k hj hk v hgv) (cwV 2 hts (gV t_743 t_744 t_745 t_1 t_746) rfl rfl rfl (by decide +kernel) ⟨Nat.le_of_ble_eq_true rfl, Nat.le_of_ble_eq_true rfl⟩) (k_preV hP hK hD hnw 0 rfl rfl) rfl rfl hl.1 rfl (lv_room (Nat.le_of_ble_eq_true rfl)) d_L_get_5 hc0) hD hS hA (fun r9 _ H locs hp9 hP hD hK hS => ?_)
  subst r9
  replace hP : va_P D CC (wC tk ad g rr ++ ((ao, .inl (tk 2, 1, .inr (.inl fo))) :: t2)) H := hP
  replace hD : va_D A (wC tk ad g rr ++ ((ao, .inl (tk 2, 1, .inr (.inl fo))) :: t2)) := hD
  refine lv_i2l (v := v.toInt64) hx hb d_L_get_8 rfl ?_
  refine st_last hx hb hK hP hD hS 18 2 rfl rfl (by omega) (by decide) d_L_get_9 (fun H locs hP hD hS => ?_)
  replace hP : va_P D CC (wC tk ad g rr ++ ((ao, .inl (tk 2, 1, .inr (.inl (vp_updL fo 0 v.toInt64)))) :: t2)) H := Eq.mp (congrArg (fun w => va_P D CC w H) (sC_out tk ad g rr ao _ _ t2)) hP
  replace hD : va_D A (wC tk ad g rr ++ ((ao, .inl (tk 2, 1, .inr (.inl (vp_updL fo 0 v.toInt64)))) :: t2)) := Eq.mp (congrArg (fun w => va_D A w) (sC_out tk ad g rr ao _ _ t2)) hD
  refine lv_goto hx hb d_L_get_10 (tgt := 21) (by decide) ?_
  refine lv_iconst (v := nI 0) hx hb d_L_get_21 (by decide) ?_
  refine W_up (c2 := 0) (s2 := 0) (by omega) (by omega) ?_
  exact k_iret (v := nI 0) hQ hx hb hr hlk hK hP hD hS () rfl rfl d_L_get_22

set_option maxHeartbeats 4000000 in
set_option maxRecDepth 100000 in
theorem l_range (l : Launch) (D : va_G) (tk : Nat → ClassId) (sz : Nat) (ad : Nat → Nat) (g : Nat → Nat → Int32) (rr : Nat → Nat → Option Nat) (ao : Nat) (fo : Nat → Int64) (t2 : va_W) (S : List ck_I) (ca : Nat → Nat) (bl : Nat → Nat → Option Nat) (hst : sI tk ((ao, .inl (tk 2, 1, .inr (.inl fo))) :: t2) S ca bl) (Xs : Nat → List kv_I) (V : Nat) (hV1 : 1 ≤ V) (hV2 : V ≤ 16) (hh : ∀ v, v < V → so (Xs v) ∧ tOf S ca (Xs v) (rr 1 v)) (hV : g 2 0 = nI V) (j : Nat) (hj : j < V) (lo hi : Int32) : Met l y_L_range w_L_range ({ frames := 4, cells := 0, slots := 0, locals := 92 }) (va_Pc [.ref (ad 0), .int (nI j), .int lo, .int hi, .ref ao] (k_preT D (TY tk) sz (wC tk ad g rr ++ ((ao, .inl (tk 2, 1, .inr (.inl fo))) :: t2)))) (va_Qi (fun (r : Int32) (_ : Unit) => r = nI 0) (fun u t => k_at D (TY tk) (va_A (wC tk ad g rr ++ ((ao, .inl (tk 2, 1, .inr (.inl fo))) :: t2)) sz) ((fun _ => (wC tk ad g rr ++ ((ao, .inl (tk 2, 1, .inr (.inl (vp_updL fo 0 ((nI (rgC (Xs j) lo hi 48)).toInt64))))) :: t2) : va_W)) u) t) (va_A (wC tk ad g rr ++ ((ao, .inl (tk 2, 1, .inr (.inl fo))) :: t2)) sz)) 0 0 (va_A (wC tk ad g rr ++ ((ao, .inl (tk 2, 1, .inr (.inl fo))) :: t2)) sz) := by
  refine k_ofL (l := l) (rm := ({ frames := 4, cells := 0, slots := 0, locals := 92 } : Room)) (mc := 0) (ms := 0) (av := [.ref (ad 0), .int (nI j), .int lo, .int hi, .ref ao]) (y := y_L_range) (cc := method_7_code) (maxL := 6) (ret := (some .int)) (ws := wC tk ad g rr ++ ((ao, .inl (tk 2, 1, .inr (.inl fo))) :: t2)) (sz := sz) (D := D) (tk := tk) (fun A => va_Qi (fun (r : Int32) (_ : Unit) => r = nI 0) (fun u t => k_at D (TY tk) A ((fun _ => (wC tk ad g rr ++ ((ao, .inl (tk 2, 1, .inr (.inl (vp_updL fo 0 ((nI (rgC (Xs j) lo hi 48)).toInt64))))) :: t2) : va_W)) u) t) A) (by decide) (Nat.le_of_ble_eq_true rfl) ?_
  intro p e s m args below meth c Q A ls hQ hx hb hr hlk hin hts hT hown hml hnw hP hK hD hA hsz hl hAe hxF hex
  have hS : va_S A s.heap s.heap [] := va_S.rf
  have hc0 : 0 + 0 ≤ 0 ∧ 0 + 0 ≤ 0 := ⟨by decide, by decide⟩
  replace hl : lv_has ls 6 [(0, .ref (ad 0)), (1, .int (nI j)), (2, .int lo), (3, .int hi), (4, .ref ao)] := hl
  replace hP : va_P D CC (wC tk ad g rr ++ ((ao, .inl (tk 2, 1, .inr (.inl fo))) :: t2)) s.heap := hP
  replace hK : va_K D CC (TY tk) s := hK
  have hP0 := hP
  refine lv_aload hx hb d_L_range_0 (lv_at hl 4 rfl) ?_
  refine lv_iconst (v := nI 0) hx hb d_L_range_2 (by decide) ?_
  refine lv_aload_n hx hb d_L_range_3 rfl (lv_at hl 0 rfl) ?_
  refine lv_iload_n hx hb d_L_range_4 rfl (lv_at hl 1 rfl) ?_
  refine lv_iload_n hx hb d_L_range_5 rfl (lv_at hl 2 rfl) ?_
  refine lv_iload_n hx hb d_L_range_6 rfl (lv_at hl 3 rfl) ?_
  refine k_calli (va_runV (As := [.int (nI j), .int lo, .int hi]) (rest := [.int (nI 0), .ref ao]) ⟨hx, hb, hml, hown, hts⟩ (c_K_range1 l D tk s.heap.size ad g rr ((ao, .inl (tk 2, 1, .inr (.inl fo))) :: t2) S ca bl hst Xs V hV1 hV2 hh hV j hj lo hi) (cwV 3 hts (gV t_776 t_777 t_778 t_1 t_779) rfl rfl rfl (by decide +kernel) ⟨Nat.le_of_ble_eq_true rfl, Nat.le_of_ble_eq_true rfl⟩) (k_preV hP hK hD hnw 0 rfl rfl) rfl rfl hl.1 rfl (lv_room (Nat.le_of_ble_eq_true rfl)) d_L_range_7 hc0) hD hS hA (fun _ _ H locs hp7 hP hD hK hS => ?_)
  subst hp7
  replace hP : va_P D CC (wC tk ad g rr ++ ((ao, .inl (tk 2, 1, .inr (.inl fo))) :: t2)) H := hP
  replace hD : va_D A (wC tk ad g rr ++ ((ao, .inl (tk 2, 1, .inr (.inl fo))) :: t2)) := hD
  refine lv_i2l (v := (nI (rgC (Xs j) lo hi 48)).toInt64) hx hb d_L_range_10 rfl ?_
  refine st_last hx hb hK hP hD hS 18 2 rfl rfl (by omega) (by decide) d_L_range_11 (fun H locs hP hD hS => ?_)
  replace hP : va_P D CC (wC tk ad g rr ++ ((ao, .inl (tk 2, 1, .inr (.inl (vp_updL fo 0 ((nI (rgC (Xs j) lo hi 48)).toInt64))))) :: t2)) H := Eq.mp (congrArg (fun w => va_P D CC w H) (sC_out tk ad g rr ao _ _ t2)) hP
  replace hD : va_D A (wC tk ad g rr ++ ((ao, .inl (tk 2, 1, .inr (.inl (vp_updL fo 0 ((nI (rgC (Xs j) lo hi 48)).toInt64))))) :: t2)) := Eq.mp (congrArg (fun w => va_D A w) (sC_out tk ad g rr ao _ _ t2)) hD
  refine lv_goto hx hb d_L_range_12 (tgt := 19) (by decide) ?_
  refine lv_iconst (v := nI 0) hx hb d_L_range_19 (by decide) ?_
  refine W_up (c2 := 0) (s2 := 0) (by omega) (by omega) ?_
  exact k_iret (v := nI 0) hQ hx hb hr hlk hK hP hD hS () rfl rfl d_L_range_20

set_option maxHeartbeats 4000000 in
set_option maxRecDepth 100000 in
theorem l_root (l : Launch) (D : va_G) (tk : Nat → ClassId) (sz : Nat) (ad : Nat → Nat) (g : Nat → Nat → Int32) (rr : Nat → Nat → Option Nat) (ao : Nat) (fo : Nat → Int64) (t2 : va_W) (S : List ck_I) (ca : Nat → Nat) (bl : Nat → Nat → Option Nat) (hst : sI tk ((ao, .inl (tk 2, 1, .inr (.inl fo))) :: t2) S ca bl) (Xs : Nat → List kv_I) (V : Nat) (hV1 : 1 ≤ V) (hV2 : V ≤ 16) (hh : ∀ v, v < V → so (Xs v) ∧ tOf S ca (Xs v) (rr 1 v)) (hV : g 2 0 = nI V) (j : Nat) (hj : j < V) : Met l y_L_root w_L_root ({ frames := 3, cells := 0, slots := 0, locals := 62 }) (va_Pc [.ref (ad 0), .int (nI j), .ref ao] (k_preT D (TY tk) sz (wC tk ad g rr ++ ((ao, .inl (tk 2, 1, .inr (.inl fo))) :: t2)))) (va_Qi (fun (r : Int32) (_ : Unit) => r = nI 0) (fun u t => k_at D (TY tk) (va_A (wC tk ad g rr ++ ((ao, .inl (tk 2, 1, .inr (.inl fo))) :: t2)) sz) ((fun _ => (wC tk ad g rr ++ ((ao, .inl (tk 2, 1, .inr (.inl (vp_updL fo 0 ((rt (Xs j)).toInt64))))) :: t2) : va_W)) u) t) (va_A (wC tk ad g rr ++ ((ao, .inl (tk 2, 1, .inr (.inl fo))) :: t2)) sz)) 0 0 (va_A (wC tk ad g rr ++ ((ao, .inl (tk 2, 1, .inr (.inl fo))) :: t2)) sz) := by
  refine k_ofL (l := l) (rm := ({ frames := 3, cells := 0, slots := 0, locals := 62 } : Room)) (mc := 0) (ms := 0) (av := [.ref (ad 0), .int (nI j), .ref ao]) (y := y_L_root) (cc := method_8_code) (maxL := 4) (ret := (some .int)) (ws := wC tk ad g rr ++ ((ao, .inl (tk 2, 1, .inr (.inl fo))) :: t2)) (sz := sz) (D := D) (tk := tk) (fun A => va_Qi (fun (r : Int32) (_ : Unit) => r = nI 0) (fun u t => k_at D (TY tk) A ((fun _ => (wC tk ad g rr ++ ((ao, .inl (tk 2, 1, .inr (.inl (vp_updL fo 0 ((rt (Xs j)).toInt64))))) :: t2) : va_W)) u) t) A) (by decide) (Nat.le_of_ble_eq_true rfl) ?_
  intro p e s m args below meth c Q A ls hQ hx hb hr hlk hin hts hT hown hml hnw hP hK hD hA hsz hl hAe hxF hex
  have hS : va_S A s.heap s.heap [] := va_S.rf
  have hc0 : 0 + 0 ≤ 0 ∧ 0 + 0 ≤ 0 := ⟨by decide, by decide⟩
  replace hl : lv_has ls 4 [(0, .ref (ad 0)), (1, .int (nI j)), (2, .ref ao)] := hl
  replace hP : va_P D CC (wC tk ad g rr ++ ((ao, .inl (tk 2, 1, .inr (.inl fo))) :: t2)) s.heap := hP
  replace hK : va_K D CC (TY tk) s := hK
  have hP0 := hP
  refine lv_aload_n hx hb d_L_root_0 rfl (lv_at hl 2 rfl) ?_
  refine lv_iconst (v := nI 0) hx hb d_L_root_1 (by decide) ?_
  refine lv_aload_n hx hb d_L_root_2 rfl (lv_at hl 0 rfl) ?_
  refine lv_iload_n hx hb d_L_root_3 rfl (lv_at hl 1 rfl) ?_
  refine k_calli (va_runV (As := [.int (nI j)]) (rest := [.int (nI 0), .ref ao]) ⟨hx, hb, hml, hown, hts⟩ (c_K_root1 l D tk s.heap.size ad g rr ((ao, .inl (tk 2, 1, .inr (.inl fo))) :: t2) S ca bl hst Xs V hV1 hV2 hh hV j hj) (cwV 1 hts (gV t_785 t_786 t_787 t_1 t_788) rfl rfl rfl (by decide +kernel) ⟨Nat.le_of_ble_eq_true rfl, Nat.le_of_ble_eq_true rfl⟩) (k_preV hP hK hD hnw 0 rfl rfl) rfl rfl hl.1 rfl (lv_room (Nat.le_of_ble_eq_true rfl)) d_L_root_4 hc0) hD hS hA (fun r9 _ H locs hp9 hP hD hK hS => ?_)
  subst r9
  replace hP : va_P D CC (wC tk ad g rr ++ ((ao, .inl (tk 2, 1, .inr (.inl fo))) :: t2)) H := hP
  replace hD : va_D A (wC tk ad g rr ++ ((ao, .inl (tk 2, 1, .inr (.inl fo))) :: t2)) := hD
  refine lv_i2l (v := (rt (Xs j)).toInt64) hx hb d_L_root_7 rfl ?_
  refine st_last hx hb hK hP hD hS 18 2 rfl rfl (by omega) (by decide) d_L_root_8 (fun H locs hP hD hS => ?_)
  replace hP : va_P D CC (wC tk ad g rr ++ ((ao, .inl (tk 2, 1, .inr (.inl (vp_updL fo 0 ((rt (Xs j)).toInt64))))) :: t2)) H := Eq.mp (congrArg (fun w => va_P D CC w H) (sC_out tk ad g rr ao _ _ t2)) hP
  replace hD : va_D A (wC tk ad g rr ++ ((ao, .inl (tk 2, 1, .inr (.inl (vp_updL fo 0 ((rt (Xs j)).toInt64))))) :: t2)) := Eq.mp (congrArg (fun w => va_D A w) (sC_out tk ad g rr ao _ _ t2)) hD
  refine lv_goto hx hb d_L_root_9 (tgt := 15) (by decide) ?_
  refine lv_iconst (v := nI 0) hx hb d_L_root_15 (by decide) ?_
  refine W_up (c2 := 0) (s2 := 0) (by omega) (by omega) ?_
  exact k_iret (v := nI 0) hQ hx hb hr hlk hK hP hD hS () rfl rfl d_L_root_16

set_option maxHeartbeats 4000000 in
set_option maxRecDepth 100000 in
theorem l_digest (l : Launch) (D : va_G) (tk : Nat → ClassId) (sz : Nat) (ad : Nat → Nat) (g : Nat → Nat → Int32) (rr : Nat → Nat → Option Nat) (ao : Nat) (fo : Nat → Int64) (t2 : va_W) (S : List ck_I) (ca : Nat → Nat) (bl : Nat → Nat → Option Nat) (hst : sI tk ((ao, .inl (tk 2, 1, .inr (.inl fo))) :: t2) S ca bl) (Xs : Nat → List kv_I) (V : Nat) (hV1 : 1 ≤ V) (hV2 : V ≤ 16) (hh : ∀ v, v < V → so (Xs v) ∧ tOf S ca (Xs v) (rr 1 v)) (hV : g 2 0 = nI V) (n : Nat) (hn : n ≤ V) : Met l y_L_digest w_L_digest ({ frames := 8, cells := 0, slots := 0, locals := 179 }) (va_Pc [.ref (ad 0), .int (nI n), .ref ao] (k_preT D (TY tk) sz (wC tk ad g rr ++ ((ao, .inl (tk 2, 1, .inr (.inl fo))) :: t2)))) (va_Qi (fun (r : Int32) (_ : Unit) => r = nI 0) (fun u t => k_at D (TY tk) (va_A (wC tk ad g rr ++ ((ao, .inl (tk 2, 1, .inr (.inl fo))) :: t2)) sz) ((fun _ => (wC tk ad g rr ++ ((ao, .inl (tk 2, 1, .inr (.inl (vp_updL fo 0 ((show Int32 from if n = 0 then 0 else slC (fun v => rt (Xs v)) 4 0 n).toInt64))))) :: t2) : va_W)) u) t) (va_A (wC tk ad g rr ++ ((ao, .inl (tk 2, 1, .inr (.inl fo))) :: t2)) sz)) 0 0 (va_A (wC tk ad g rr ++ ((ao, .inl (tk 2, 1, .inr (.inl fo))) :: t2)) sz) := by
  refine k_ofL (l := l) (rm := ({ frames := 8, cells := 0, slots := 0, locals := 179 } : Room)) (mc := 0) (ms := 0) (av := [.ref (ad 0), .int (nI n), .ref ao]) (y := y_L_digest) (cc := method_9_code) (maxL := 4) (ret := (some .int)) (ws := wC tk ad g rr ++ ((ao, .inl (tk 2, 1, .inr (.inl fo))) :: t2)) (sz := sz) (D := D) (tk := tk) (fun A => va_Qi (fun (r : Int32) (_ : Unit) => r = nI 0) (fun u t => k_at D (TY tk) A ((fun _ => (wC tk ad g rr ++ ((ao, .inl (tk 2, 1, .inr (.inl (vp_updL fo 0 ((show Int32 from if n = 0 then 0 else slC (fun v => rt (Xs v)) 4 0 n).toInt64))))) :: t2) : va_W)) u) t) A) (by decide) (Nat.le_of_ble_eq_true rfl) ?_
  intro p e s m args below meth c Q A ls hQ hx hb hr hlk hin hts hT hown hml hnw hP hK hD hA hsz hl hAe hxF hex
  have hS : va_S A s.heap s.heap [] := va_S.rf
  have hc0 : 0 + 0 ≤ 0 ∧ 0 + 0 ≤ 0 := ⟨by decide, by decide⟩
  replace hl : lv_has ls 4 [(0, .ref (ad 0)), (1, .int (nI n)), (2, .ref ao)] := hl
  replace hP : va_P D CC (wC tk ad g rr ++ ((ao, .inl (tk 2, 1, .inr (.inl fo))) :: t2)) s.heap := hP
  replace hK : va_K D CC (TY tk) s := hK
  have hP0 := hP
  refine lv_aload_n hx hb d_L_digest_0 rfl (lv_at hl 2 rfl) ?_
  refine lv_iconst (v := nI 0) hx hb d_L_digest_1 (by decide) ?_
  refine lv_aload_n hx hb d_L_digest_2 rfl (lv_at hl 0 rfl) ?_
  refine lv_iload_n hx hb d_L_digest_3 rfl (lv_at hl 1 rfl) ?_
  refine k_calli (va_runV (As := [.int (nI n)]) (rest := [.int (nI 0), .ref ao]) ⟨hx, hb, hml, hown, hts⟩ (c_K_digest1 l D tk s.heap.size ad g rr ((ao, .inl (tk 2, 1, .inr (.inl fo))) :: t2) S ca bl hst Xs V hV1 hV2 hh hV n hn) (cwV 1 hts (gV t_796 t_797 t_798 t_1 t_799) rfl rfl rfl (by decide +kernel) ⟨Nat.le_of_ble_eq_true rfl, Nat.le_of_ble_eq_true rfl⟩) (k_preV hP hK hD hnw 0 rfl rfl) rfl rfl hl.1 rfl (lv_room (Nat.le_of_ble_eq_true rfl)) d_L_digest_4 hc0) hD hS hA (fun r9 _ H locs hp9 hP hD hK hS => ?_)
  subst r9
  replace hP : va_P D CC (wC tk ad g rr ++ ((ao, .inl (tk 2, 1, .inr (.inl fo))) :: t2)) H := hP
  replace hD : va_D A (wC tk ad g rr ++ ((ao, .inl (tk 2, 1, .inr (.inl fo))) :: t2)) := hD
  refine lv_i2l (v := (if n = 0 then 0 else slC (fun v => rt (Xs v)) 4 0 n).toInt64) hx hb d_L_digest_7 rfl ?_
  refine st_last hx hb hK hP hD hS 18 2 rfl rfl (by omega) (by decide) d_L_digest_8 (fun H locs hP hD hS => ?_)
  replace hP : va_P D CC (wC tk ad g rr ++ ((ao, .inl (tk 2, 1, .inr (.inl (vp_updL fo 0 ((if n = 0 then 0 else slC (fun v => rt (Xs v)) 4 0 n).toInt64))))) :: t2)) H := Eq.mp (congrArg (fun w => va_P D CC w H) (sC_out tk ad g rr ao _ _ t2)) hP
  replace hD : va_D A (wC tk ad g rr ++ ((ao, .inl (tk 2, 1, .inr (.inl (vp_updL fo 0 ((if n = 0 then 0 else slC (fun v => rt (Xs v)) 4 0 n).toInt64))))) :: t2)) := Eq.mp (congrArg (fun w => va_D A w) (sC_out tk ad g rr ao _ _ t2)) hD
  refine lv_goto hx hb d_L_digest_9 (tgt := 15) (by decide) ?_
  refine lv_iconst (v := nI 0) hx hb d_L_digest_15 (by decide) ?_
  refine W_up (c2 := 0) (s2 := 0) (by omega) (by omega) ?_
  exact k_iret (v := nI 0) hQ hx hb hr hlk hK hP hD hS () rfl rfl d_L_digest_16

set_option maxHeartbeats 4000000 in
set_option maxRecDepth 100000 in
theorem l_prove (l : Launch) (D : va_G) (tk : Nat → ClassId) (sz : Nat) (ad : Nat → Nat) (g : Nat → Nat → Int32) (rr : Nat → Nat → Option Nat) (ao : Nat) (fo : Nat → Int64) (t2 : va_W) (S : List ck_I) (ca : Nat → Nat) (bl : Nat → Nat → Option Nat) (hst : sI tk ((ao, .inl (tk 2, 1, .inr (.inl fo))) :: t2) S ca bl) (Xs : Nat → List kv_I) (V : Nat) (hV1 : 1 ≤ V) (hV2 : V ≤ 16) (hh : ∀ v, v < V → so (Xs v) ∧ tOf S ca (Xs v) (rr 1 v)) (hV : g 2 0 = nI V) (n9 v9 key : Nat) (hn9 : n9 ≤ V) (hv9 : v9 < n9) (hkey : key < 48) : Met l y_L_prove w_L_prove ({ frames := 13, cells := 0, slots := 0, locals := 311 }) (va_Pc [.ref (ad 0), .int (nI n9), .int (nI v9), .int (nI key), .ref ao] (k_preT D (TY tk) sz (wC tk ad g rr ++ ((ao, .inl (tk 2, 1, .inr (.inl fo))) :: t2)))) (va_Qi (fun (r : Int32) (u : Nat → Nat → Int32) => r = nI 0 ∧ frx [8, 9] g u ∧ prfC u (prB (fun v => rt (Xs v)) n9 v9 key (Xs v9))) (fun u t => k_at D (TY tk) (va_A (wC tk ad g rr ++ ((ao, .inl (tk 2, 1, .inr (.inl fo))) :: t2)) sz) ((fun (u : Nat → Nat → Int32) => (wC tk ad u rr ++ ((ao, .inl (tk 2, 1, .inr (.inl (vp_updL fo 0 ((nI (prB (fun v => rt (Xs v)) n9 v9 key (Xs v9)).length).toInt64))))) :: t2) : va_W)) u) t) (va_A (wC tk ad g rr ++ ((ao, .inl (tk 2, 1, .inr (.inl fo))) :: t2)) sz)) 0 0 (va_A (wC tk ad g rr ++ ((ao, .inl (tk 2, 1, .inr (.inl fo))) :: t2)) sz) := by
  refine k_ofL (l := l) (rm := ({ frames := 13, cells := 0, slots := 0, locals := 311 } : Room)) (mc := 0) (ms := 0) (av := [.ref (ad 0), .int (nI n9), .int (nI v9), .int (nI key), .ref ao]) (y := y_L_prove) (cc := method_10_code) (maxL := 6) (ret := (some .int)) (ws := wC tk ad g rr ++ ((ao, .inl (tk 2, 1, .inr (.inl fo))) :: t2)) (sz := sz) (D := D) (tk := tk) (fun A => va_Qi (fun (r : Int32) (u : Nat → Nat → Int32) => r = nI 0 ∧ frx [8, 9] g u ∧ prfC u (prB (fun v => rt (Xs v)) n9 v9 key (Xs v9))) (fun u t => k_at D (TY tk) A ((fun (u : Nat → Nat → Int32) => (wC tk ad u rr ++ ((ao, .inl (tk 2, 1, .inr (.inl (vp_updL fo 0 ((nI (prB (fun v => rt (Xs v)) n9 v9 key (Xs v9)).length).toInt64))))) :: t2) : va_W)) u) t) A) (by decide) (Nat.le_of_ble_eq_true rfl) ?_
  intro p e s m args below meth c Q A ls hQ hx hb hr hlk hin hts hT hown hml hnw hP hK hD hA hsz hl hAe hxF hex
  have hS : va_S A s.heap s.heap [] := va_S.rf
  have hc0 : 0 + 0 ≤ 0 ∧ 0 + 0 ≤ 0 := ⟨by decide, by decide⟩
  replace hl : lv_has ls 6 [(0, .ref (ad 0)), (1, .int (nI n9)), (2, .int (nI v9)), (3, .int (nI key)), (4, .ref ao)] := hl
  replace hP : va_P D CC (wC tk ad g rr ++ ((ao, .inl (tk 2, 1, .inr (.inl fo))) :: t2)) s.heap := hP
  replace hK : va_K D CC (TY tk) s := hK
  have hP0 := hP
  refine lv_aload hx hb d_L_prove_0 (lv_at hl 4 rfl) ?_
  refine lv_iconst (v := nI 0) hx hb d_L_prove_2 (by decide) ?_
  refine lv_aload_n hx hb d_L_prove_3 rfl (lv_at hl 0 rfl) ?_
  refine lv_iload_n hx hb d_L_prove_4 rfl (lv_at hl 1 rfl) ?_
  refine lv_iload_n hx hb d_L_prove_5 rfl (lv_at hl 2 rfl) ?_
  refine lv_iload_n hx hb d_L_prove_6 rfl (lv_at hl 3 rfl) ?_
  refine k_calli (va_runV (As := [.int (nI n9), .int (nI v9), .int (nI key)]) (rest := [.int (nI 0), .ref ao]) ⟨hx, hb, hml, hown, hts⟩ (c_K_prove1 l D tk s.heap.size ad g rr ((ao, .inl (tk 2, 1, .inr (.inl fo))) :: t2) S ca bl hst Xs V hV1 hV2 hh hV n9 v9 key hn9 hv9 hkey) (cwV 3 hts (gV t_818 t_819 t_820 t_1 t_821) rfl rfl rfl (by decide +kernel) ⟨Nat.le_of_ble_eq_true rfl, Nat.le_of_ble_eq_true rfl⟩) (k_preV hP hK hD hnw 0 rfl rfl) rfl rfl hl.1 rfl (lv_room (Nat.le_of_ble_eq_true rfl)) d_L_prove_7 hc0) hD hS hA (fun r9 u9 H locs ⟨h91, h92, h93⟩ hP hD hK hS => ?_)
  subst r9
  replace hP : va_P D CC (wC tk ad u9 rr ++ ((ao, .inl (tk 2, 1, .inr (.inl fo))) :: t2)) H := hP
  replace hD : va_D A (wC tk ad u9 rr ++ ((ao, .inl (tk 2, 1, .inr (.inl fo))) :: t2)) := hD
  refine lv_i2l (v := (nI (prB (fun v => rt (Xs v)) n9 v9 key (Xs v9)).length).toInt64) hx hb d_L_prove_10 rfl ?_
  refine st_last hx hb hK hP hD hS 18 2 rfl rfl (by omega) (by decide) d_L_prove_11 (fun H locs hP hD hS => ?_)
  replace hP : va_P D CC (wC tk ad u9 rr ++ ((ao, .inl (tk 2, 1, .inr (.inl (vp_updL fo 0 ((nI (prB (fun v => rt (Xs v)) n9 v9 key (Xs v9)).length).toInt64))))) :: t2)) H := Eq.mp (congrArg (fun w => va_P D CC w H) (sC_out tk ad u9 rr ao _ _ t2)) hP
  replace hD : va_D A (wC tk ad u9 rr ++ ((ao, .inl (tk 2, 1, .inr (.inl (vp_updL fo 0 ((nI (prB (fun v => rt (Xs v)) n9 v9 key (Xs v9)).length).toInt64))))) :: t2)) := Eq.mp (congrArg (fun w => va_D A w) (sC_out tk ad u9 rr ao _ _ t2)) hD
  refine lv_goto hx hb d_L_prove_12 (tgt := 19) (by decide) ?_
  refine lv_iconst (v := nI 0) hx hb d_L_prove_19 (by decide) ?_
  refine W_up (c2 := 0) (s2 := 0) (by omega) (by omega) ?_
  exact k_iret (v := nI 0) hQ hx hb hr hlk hK hP hD hS u9 rfl (⟨rfl, h91, h92⟩) d_L_prove_20

set_option maxHeartbeats 4000000 in
set_option maxRecDepth 100000 in
theorem l_proveGrowth (l : Launch) (D : va_G) (tk : Nat → ClassId) (sz : Nat) (ad : Nat → Nat) (g : Nat → Nat → Int32) (rr : Nat → Nat → Option Nat) (ao : Nat) (fo : Nat → Int64) (t2 : va_W) (S : List ck_I) (ca : Nat → Nat) (bl : Nat → Nat → Option Nat) (hst : sI tk ((ao, .inl (tk 2, 1, .inr (.inl fo))) :: t2) S ca bl) (Xs : Nat → List kv_I) (V : Nat) (hV1 : 1 ≤ V) (hV2 : V ≤ 16) (hh : ∀ v, v < V → so (Xs v) ∧ tOf S ca (Xs v) (rr 1 v)) (hV : g 2 0 = nI V) (m9 n9 : Nat) (hm1 : 1 ≤ m9) (hm2 : m9 < n9) (hn9 : n9 ≤ V) : Met l y_L_proveGrowth w_L_proveGrowth ({ frames := 14, cells := 0, slots := 0, locals := 333 }) (va_Pc [.ref (ad 0), .int (nI m9), .int (nI n9), .ref ao] (k_preT D (TY tk) sz (wC tk ad g rr ++ ((ao, .inl (tk 2, 1, .inr (.inl fo))) :: t2)))) (va_Qi (fun (r : Int32) (u : Nat → Nat → Int32) => r = nI 0 ∧ frx [8, 9] g u ∧ prfC u ([nI (grL 5 0 n9 m9).length &&& nI 255] ++ bi (fun v => rt (Xs v)) (grL 5 0 n9 m9))) (fun u t => k_at D (TY tk) (va_A (wC tk ad g rr ++ ((ao, .inl (tk 2, 1, .inr (.inl fo))) :: t2)) sz) ((fun (u : Nat → Nat → Int32) => (wC tk ad u rr ++ ((ao, .inl (tk 2, 1, .inr (.inl (vp_updL fo 0 ((nI ([nI (grL 5 0 n9 m9).length &&& nI 255] ++ bi (fun v => rt (Xs v)) (grL 5 0 n9 m9)).length).toInt64))))) :: t2) : va_W)) u) t) (va_A (wC tk ad g rr ++ ((ao, .inl (tk 2, 1, .inr (.inl fo))) :: t2)) sz)) 0 0 (va_A (wC tk ad g rr ++ ((ao, .inl (tk 2, 1, .inr (.inl fo))) :: t2)) sz) := by
  refine k_ofL (l := l) (rm := ({ frames := 14, cells := 0, slots := 0, locals := 333 } : Room)) (mc := 0) (ms := 0) (av := [.ref (ad 0), .int (nI m9), .int (nI n9), .ref ao]) (y := y_L_proveGrowth) (cc := method_11_code) (maxL := 5) (ret := (some .int)) (ws := wC tk ad g rr ++ ((ao, .inl (tk 2, 1, .inr (.inl fo))) :: t2)) (sz := sz) (D := D) (tk := tk) (fun A => va_Qi (fun (r : Int32) (u : Nat → Nat → Int32) => r = nI 0 ∧ frx [8, 9] g u ∧ prfC u ([nI (grL 5 0 n9 m9).length &&& nI 255] ++ bi (fun v => rt (Xs v)) (grL 5 0 n9 m9))) (fun u t => k_at D (TY tk) A ((fun (u : Nat → Nat → Int32) => (wC tk ad u rr ++ ((ao, .inl (tk 2, 1, .inr (.inl (vp_updL fo 0 ((nI ([nI (grL 5 0 n9 m9).length &&& nI 255] ++ bi (fun v => rt (Xs v)) (grL 5 0 n9 m9)).length).toInt64))))) :: t2) : va_W)) u) t) A) (by decide) (Nat.le_of_ble_eq_true rfl) ?_
  intro p e s m args below meth c Q A ls hQ hx hb hr hlk hin hts hT hown hml hnw hP hK hD hA hsz hl hAe hxF hex
  have hS : va_S A s.heap s.heap [] := va_S.rf
  have hc0 : 0 + 0 ≤ 0 ∧ 0 + 0 ≤ 0 := ⟨by decide, by decide⟩
  replace hl : lv_has ls 5 [(0, .ref (ad 0)), (1, .int (nI m9)), (2, .int (nI n9)), (3, .ref ao)] := hl
  replace hP : va_P D CC (wC tk ad g rr ++ ((ao, .inl (tk 2, 1, .inr (.inl fo))) :: t2)) s.heap := hP
  replace hK : va_K D CC (TY tk) s := hK
  have hP0 := hP
  refine lv_aload_n hx hb d_L_proveGrowth_0 rfl (lv_at hl 3 rfl) ?_
  refine lv_iconst (v := nI 0) hx hb d_L_proveGrowth_1 (by decide) ?_
  refine lv_aload_n hx hb d_L_proveGrowth_2 rfl (lv_at hl 0 rfl) ?_
  refine lv_iload_n hx hb d_L_proveGrowth_3 rfl (lv_at hl 1 rfl) ?_
  refine lv_iload_n hx hb d_L_proveGrowth_4 rfl (lv_at hl 2 rfl) ?_
  refine k_calli (va_runV (As := [.int (nI m9), .int (nI n9)]) (rest := [.int (nI 0), .ref ao]) ⟨hx, hb, hml, hown, hts⟩ (c_K_proveGrowth1 l D tk s.heap.size ad g rr ((ao, .inl (tk 2, 1, .inr (.inl fo))) :: t2) S ca bl hst Xs V hV1 hV2 hh hV m9 n9 hm1 hm2 hn9) (cwV 2 hts (gV t_857 t_858 t_859 t_1 t_860) rfl rfl rfl (by decide +kernel) ⟨Nat.le_of_ble_eq_true rfl, Nat.le_of_ble_eq_true rfl⟩) (k_preV hP hK hD hnw 0 rfl rfl) rfl rfl hl.1 rfl (lv_room (Nat.le_of_ble_eq_true rfl)) d_L_proveGrowth_5 hc0) hD hS hA (fun r9 u9 H locs ⟨h91, h92, h93⟩ hP hD hK hS => ?_)
  subst r9
  replace hP : va_P D CC (wC tk ad u9 rr ++ ((ao, .inl (tk 2, 1, .inr (.inl fo))) :: t2)) H := hP
  replace hD : va_D A (wC tk ad u9 rr ++ ((ao, .inl (tk 2, 1, .inr (.inl fo))) :: t2)) := hD
  refine lv_i2l (v := (nI ([nI (grL 5 0 n9 m9).length &&& nI 255] ++ bi (fun v => rt (Xs v)) (grL 5 0 n9 m9)).length).toInt64) hx hb d_L_proveGrowth_8 rfl ?_
  refine st_last hx hb hK hP hD hS 18 2 rfl rfl (by omega) (by decide) d_L_proveGrowth_9 (fun H locs hP hD hS => ?_)
  replace hP : va_P D CC (wC tk ad u9 rr ++ ((ao, .inl (tk 2, 1, .inr (.inl (vp_updL fo 0 ((nI ([nI (grL 5 0 n9 m9).length &&& nI 255] ++ bi (fun v => rt (Xs v)) (grL 5 0 n9 m9)).length).toInt64))))) :: t2)) H := Eq.mp (congrArg (fun w => va_P D CC w H) (sC_out tk ad u9 rr ao _ _ t2)) hP
  replace hD : va_D A (wC tk ad u9 rr ++ ((ao, .inl (tk 2, 1, .inr (.inl (vp_updL fo 0 ((nI ([nI (grL 5 0 n9 m9).length &&& nI 255] ++ bi (fun v => rt (Xs v)) (grL 5 0 n9 m9)).length).toInt64))))) :: t2)) := Eq.mp (congrArg (fun w => va_D A w) (sC_out tk ad u9 rr ao _ _ t2)) hD
  refine lv_goto hx hb d_L_proveGrowth_10 (tgt := 17) (by decide) ?_
  refine lv_iconst (v := nI 0) hx hb d_L_proveGrowth_17 (by decide) ?_
  refine W_up (c2 := 0) (s2 := 0) (by omega) (by omega) ?_
  exact k_iret (v := nI 0) hQ hx hb hr hlk hK hP hD hS u9 rfl (⟨rfl, h91, h92⟩) d_L_proveGrowth_18

set_option maxHeartbeats 4000000 in
set_option maxRecDepth 100000 in
theorem l_verify (l : Launch) (D : va_G) (tk : Nat → ClassId) (sz : Nat) (ad : Nat → Nat) (g : Nat → Nat → Int32) (rr : Nat → Nat → Option Nat) (ao : Nat) (fo : Nat → Int64) (t2 : va_W) (f : Nat → Int32) (t0 : Nat) (ht0 : t0 ≤ 400) (hby : byF f t0) (p9 : Nat) (hv : vS g f t0 p9) (dg : Int32) (n9 v9 key : Nat) (hn9 : n9 ≤ 16) (hv9 : v9 < n9) (hkey : key < 48) : Met l y_L_verify w_L_verify ({ frames := 9, cells := 0, slots := 0, locals := 215 }) (va_Pc [.ref (ad 0), .int dg, .int (nI n9), .int (nI v9), .int (nI key), .ref ao] (k_preT D (TY tk) sz (wC tk ad g rr ++ ((ao, .inl (tk 2, 1, .inr (.inl fo))) :: t2)))) (va_Qi (fun (r : Int32) (u : Int32 × (Nat → Nat → Int32)) => r = nI 0 ∧ vrC f t0 dg n9 v9 key g u.2 u.1) (fun u t => k_at D (TY tk) (va_A (wC tk ad g rr ++ ((ao, .inl (tk 2, 1, .inr (.inl fo))) :: t2)) sz) ((fun (u : Int32 × (Nat → Nat → Int32)) => (wC tk ad u.2 rr ++ ((ao, .inl (tk 2, 1, .inr (.inl (vp_updL fo 0 u.1.toInt64)))) :: t2) : va_W)) u) t) (va_A (wC tk ad g rr ++ ((ao, .inl (tk 2, 1, .inr (.inl fo))) :: t2)) sz)) 0 0 (va_A (wC tk ad g rr ++ ((ao, .inl (tk 2, 1, .inr (.inl fo))) :: t2)) sz) := by
  refine k_ofL (l := l) (rm := ({ frames := 9, cells := 0, slots := 0, locals := 215 } : Room)) (mc := 0) (ms := 0) (av := [.ref (ad 0), .int dg, .int (nI n9), .int (nI v9), .int (nI key), .ref ao]) (y := y_L_verify) (cc := method_12_code) (maxL := 7) (ret := (some .int)) (ws := wC tk ad g rr ++ ((ao, .inl (tk 2, 1, .inr (.inl fo))) :: t2)) (sz := sz) (D := D) (tk := tk) (fun A => va_Qi (fun (r : Int32) (u : Int32 × (Nat → Nat → Int32)) => r = nI 0 ∧ vrC f t0 dg n9 v9 key g u.2 u.1) (fun u t => k_at D (TY tk) A ((fun (u : Int32 × (Nat → Nat → Int32)) => (wC tk ad u.2 rr ++ ((ao, .inl (tk 2, 1, .inr (.inl (vp_updL fo 0 u.1.toInt64)))) :: t2) : va_W)) u) t) A) (by decide) (Nat.le_of_ble_eq_true rfl) ?_
  intro p e s m args below meth c Q A ls hQ hx hb hr hlk hin hts hT hown hml hnw hP hK hD hA hsz hl hAe hxF hex
  have hS : va_S A s.heap s.heap [] := va_S.rf
  have hc0 : 0 + 0 ≤ 0 ∧ 0 + 0 ≤ 0 := ⟨by decide, by decide⟩
  replace hl : lv_has ls 7 [(0, .ref (ad 0)), (1, .int dg), (2, .int (nI n9)), (3, .int (nI v9)), (4, .int (nI key)), (5, .ref ao)] := hl
  replace hP : va_P D CC (wC tk ad g rr ++ ((ao, .inl (tk 2, 1, .inr (.inl fo))) :: t2)) s.heap := hP
  replace hK : va_K D CC (TY tk) s := hK
  have hP0 := hP
  refine lv_aload hx hb d_L_verify_0 (lv_at hl 5 rfl) ?_
  refine lv_iconst (v := nI 0) hx hb d_L_verify_2 (by decide) ?_
  refine lv_aload_n hx hb d_L_verify_3 rfl (lv_at hl 0 rfl) ?_
  refine lv_iload_n hx hb d_L_verify_4 rfl (lv_at hl 1 rfl) ?_
  refine lv_iload_n hx hb d_L_verify_5 rfl (lv_at hl 2 rfl) ?_
  refine lv_iload_n hx hb d_L_verify_6 rfl (lv_at hl 3 rfl) ?_
  refine lv_iload hx hb d_L_verify_7 (lv_at hl 4 rfl) ?_
  refine k_calli (va_runV (As := [.int dg, .int (nI n9), .int (nI v9), .int (nI key)]) (rest := [.int (nI 0), .ref ao]) ⟨hx, hb, hml, hown, hts⟩ (c_K_verify1 l D tk s.heap.size ad g rr ((ao, .inl (tk 2, 1, .inr (.inl fo))) :: t2) f t0 ht0 hby p9 hv dg n9 v9 key hn9 hv9 hkey) (cwV 4 hts (gV t_872 t_873 t_874 t_1 t_875) rfl rfl rfl (by decide +kernel) ⟨Nat.le_of_ble_eq_true rfl, Nat.le_of_ble_eq_true rfl⟩) (k_preV hP hK hD hnw 0 rfl rfl) rfl rfl hl.1 rfl (lv_room (Nat.le_of_ble_eq_true rfl)) d_L_verify_9 hc0) hD hS hA (fun r9 u9 H locs h91 hP hD hK hS => ?_)
  replace hP : va_P D CC (wC tk ad u9 rr ++ ((ao, .inl (tk 2, 1, .inr (.inl fo))) :: t2)) H := hP
  replace hD : va_D A (wC tk ad u9 rr ++ ((ao, .inl (tk 2, 1, .inr (.inl fo))) :: t2)) := hD
  refine lv_i2l (v := r9.toInt64) hx hb d_L_verify_12 rfl ?_
  refine st_last hx hb hK hP hD hS 18 2 rfl rfl (by omega) (by decide) d_L_verify_13 (fun H locs hP hD hS => ?_)
  replace hP : va_P D CC (wC tk ad u9 rr ++ ((ao, .inl (tk 2, 1, .inr (.inl (vp_updL fo 0 r9.toInt64)))) :: t2)) H := Eq.mp (congrArg (fun w => va_P D CC w H) (sC_out tk ad u9 rr ao _ _ t2)) hP
  replace hD : va_D A (wC tk ad u9 rr ++ ((ao, .inl (tk 2, 1, .inr (.inl (vp_updL fo 0 r9.toInt64)))) :: t2)) := Eq.mp (congrArg (fun w => va_D A w) (sC_out tk ad u9 rr ao _ _ t2)) hD
  refine lv_goto hx hb d_L_verify_14 (tgt := 21) (by decide) ?_
  refine lv_iconst (v := nI 0) hx hb d_L_verify_21 (by decide) ?_
  refine W_up (c2 := 0) (s2 := 0) (by omega) (by omega) ?_
  exact k_iret (v := nI 0) hQ hx hb hr hlk hK hP hD hS (r9, u9) rfl (⟨rfl, h91⟩) d_L_verify_22

set_option maxHeartbeats 4000000 in
set_option maxRecDepth 100000 in
theorem l_verifyGrowth (l : Launch) (D : va_G) (tk : Nat → ClassId) (sz : Nat) (ad : Nat → Nat) (g : Nat → Nat → Int32) (rr : Nat → Nat → Option Nat) (ao : Nat) (fo : Nat → Int64) (t2 : va_W) (f : Nat → Int32) (t0 : Nat) (ht0 : t0 ≤ 400) (hby : byF f t0) (p9 : Nat) (hv : vS g f t0 p9) (one : Int32) (m9 : Nat) (other : Int32) (n9 : Nat) (hm1 : 1 ≤ m9) (hm2 : m9 < n9) (hn9 : n9 ≤ 16) (_dec : Decidable (vgC f t0 one other m9 n9)) : Met l y_L_verifyGrowth w_L_verifyGrowth ({ frames := 10, cells := 0, slots := 0, locals := 244 }) (va_Pc [.ref (ad 0), .int one, .int (nI m9), .int other, .int (nI n9), .ref ao] (k_preT D (TY tk) sz (wC tk ad g rr ++ ((ao, .inl (tk 2, 1, .inr (.inl fo))) :: t2)))) (va_Qi (fun (r : Int32) (u : Nat → Nat → Int32) => r = nI 0 ∧ frx [11, 18, 19, 20] g u ∧ u 20 0 = nI 0) (fun u t => k_at D (TY tk) (va_A (wC tk ad g rr ++ ((ao, .inl (tk 2, 1, .inr (.inl fo))) :: t2)) sz) ((fun (u : Nat → Nat → Int32) => (wC tk ad u rr ++ ((ao, .inl (tk 2, 1, .inr (.inl (vp_updL fo 0 (if vgC f t0 one other m9 n9 then 1 else 0))))) :: t2) : va_W)) u) t) (va_A (wC tk ad g rr ++ ((ao, .inl (tk 2, 1, .inr (.inl fo))) :: t2)) sz)) 0 0 (va_A (wC tk ad g rr ++ ((ao, .inl (tk 2, 1, .inr (.inl fo))) :: t2)) sz) := by
  refine k_ofL (l := l) (rm := ({ frames := 10, cells := 0, slots := 0, locals := 244 } : Room)) (mc := 0) (ms := 0) (av := [.ref (ad 0), .int one, .int (nI m9), .int other, .int (nI n9), .ref ao]) (y := y_L_verifyGrowth) (cc := method_13_code) (maxL := 7) (ret := (some .int)) (ws := wC tk ad g rr ++ ((ao, .inl (tk 2, 1, .inr (.inl fo))) :: t2)) (sz := sz) (D := D) (tk := tk) (fun A => va_Qi (fun (r : Int32) (u : Nat → Nat → Int32) => r = nI 0 ∧ frx [11, 18, 19, 20] g u ∧ u 20 0 = nI 0) (fun u t => k_at D (TY tk) A ((fun (u : Nat → Nat → Int32) => (wC tk ad u rr ++ ((ao, .inl (tk 2, 1, .inr (.inl (vp_updL fo 0 (if vgC f t0 one other m9 n9 then 1 else 0))))) :: t2) : va_W)) u) t) A) (by decide) (Nat.le_of_ble_eq_true rfl) ?_
  intro p e s m args below meth c Q A ls hQ hx hb hr hlk hin hts hT hown hml hnw hP hK hD hA hsz hl hAe hxF hex
  have hS : va_S A s.heap s.heap [] := va_S.rf
  have hc0 : 0 + 0 ≤ 0 ∧ 0 + 0 ≤ 0 := ⟨by decide, by decide⟩
  replace hl : lv_has ls 7 [(0, .ref (ad 0)), (1, .int one), (2, .int (nI m9)), (3, .int other), (4, .int (nI n9)), (5, .ref ao)] := hl
  replace hP : va_P D CC (wC tk ad g rr ++ ((ao, .inl (tk 2, 1, .inr (.inl fo))) :: t2)) s.heap := hP
  replace hK : va_K D CC (TY tk) s := hK
  have hP0 := hP
  refine lv_aload hx hb d_L_verifyGrowth_0 (lv_at hl 5 rfl) ?_
  refine lv_iconst (v := nI 0) hx hb d_L_verifyGrowth_2 (by decide) ?_
  refine lv_aload_n hx hb d_L_verifyGrowth_3 rfl (lv_at hl 0 rfl) ?_
  refine lv_iload_n hx hb d_L_verifyGrowth_4 rfl (lv_at hl 1 rfl) ?_
  refine lv_iload_n hx hb d_L_verifyGrowth_5 rfl (lv_at hl 2 rfl) ?_
  refine lv_iload_n hx hb d_L_verifyGrowth_6 rfl (lv_at hl 3 rfl) ?_
  refine lv_iload hx hb d_L_verifyGrowth_7 (lv_at hl 4 rfl) ?_
  refine k_calli (va_runV (As := [.int one, .int (nI m9), .int other, .int (nI n9)]) (rest := [.int (nI 0), .ref ao]) ⟨hx, hb, hml, hown, hts⟩ (c_K_verifyGrowth1 l D tk s.heap.size ad g rr ((ao, .inl (tk 2, 1, .inr (.inl fo))) :: t2) f t0 ht0 hby p9 hv one m9 other n9 hm1 hm2 hn9 _dec) (cwV 4 hts (gV t_913 t_914 t_915 t_1 t_916) rfl rfl rfl (by decide +kernel) ⟨Nat.le_of_ble_eq_true rfl, Nat.le_of_ble_eq_true rfl⟩) (k_preV hP hK hD hnw 0 rfl rfl) rfl rfl hl.1 rfl (lv_room (Nat.le_of_ble_eq_true rfl)) d_L_verifyGrowth_9 hc0) hD hS hA (fun r9 u9 H locs ⟨h91, h92, h93⟩ hP hD hK hS => ?_)
  subst r9
  replace hP : va_P D CC (wC tk ad u9 rr ++ ((ao, .inl (tk 2, 1, .inr (.inl fo))) :: t2)) H := hP
  replace hD : va_D A (wC tk ad u9 rr ++ ((ao, .inl (tk 2, 1, .inr (.inl fo))) :: t2)) := hD
  refine lv_if_eq hx hb d_L_verifyGrowth_12 (tgt := 19) (by decide) (fun hc12 => ?_) (fun hc12 => ?_)
  · skip
    refine lv_lconst (v := 0) hx hb d_L_verifyGrowth_19 (by decide) ?_
    refine st_last hx hb hK hP hD hS 18 2 rfl rfl (by omega) (by decide) d_L_verifyGrowth_20 (fun H locs hP hD hS => ?_)
    replace hP : va_P D CC (wC tk ad u9 rr ++ ((ao, .inl (tk 2, 1, .inr (.inl (vp_updL fo 0 0)))) :: t2)) H := Eq.mp (congrArg (fun w => va_P D CC w H) (sC_out tk ad u9 rr ao _ _ t2)) hP
    replace hD : va_D A (wC tk ad u9 rr ++ ((ao, .inl (tk 2, 1, .inr (.inl (vp_updL fo 0 0)))) :: t2)) := Eq.mp (congrArg (fun w => va_D A w) (sC_out tk ad u9 rr ao _ _ t2)) hD
    refine lv_goto hx hb d_L_verifyGrowth_21 (tgt := 28) (by decide) ?_
    refine lv_iconst (v := nI 0) hx hb d_L_verifyGrowth_28 (by decide) ?_
    refine W_up (c2 := 0) (s2 := 0) (by omega) (by omega) ?_
    exact k_iret (v := nI 0) hQ hx hb hr hlk hK hP hD hS u9 (by first | rw [if_neg (fun q => by rw [if_pos q] at hc12; exact absurd hc12 (by decide))] | rw [if_pos (Classical.byContradiction (fun q => hc12 (by rw [if_neg q]; rfl)))]) (⟨rfl, h91, h92⟩) d_L_verifyGrowth_29
  · skip
    refine lv_lconst (v := 1) hx hb d_L_verifyGrowth_15 (by decide) ?_
    refine lv_goto hx hb d_L_verifyGrowth_16 (tgt := 20) (by decide) ?_
    refine st_last hx hb hK hP hD hS 18 2 rfl rfl (by omega) (by decide) d_L_verifyGrowth_20 (fun H locs hP hD hS => ?_)
    replace hP : va_P D CC (wC tk ad u9 rr ++ ((ao, .inl (tk 2, 1, .inr (.inl (vp_updL fo 0 1)))) :: t2)) H := Eq.mp (congrArg (fun w => va_P D CC w H) (sC_out tk ad u9 rr ao _ _ t2)) hP
    replace hD : va_D A (wC tk ad u9 rr ++ ((ao, .inl (tk 2, 1, .inr (.inl (vp_updL fo 0 1)))) :: t2)) := Eq.mp (congrArg (fun w => va_D A w) (sC_out tk ad u9 rr ao _ _ t2)) hD
    refine lv_goto hx hb d_L_verifyGrowth_21 (tgt := 28) (by decide) ?_
    refine lv_iconst (v := nI 0) hx hb d_L_verifyGrowth_28 (by decide) ?_
    refine W_up (c2 := 0) (s2 := 0) (by omega) (by omega) ?_
    exact k_iret (v := nI 0) hQ hx hb hr hlk hK hP hD hS u9 (by first | rw [if_neg (fun q => by rw [if_pos q] at hc12; exact absurd hc12 (by decide))] | rw [if_pos (Classical.byContradiction (fun q => hc12 (by rw [if_neg q]; rfl)))]) (⟨rfl, h91, h92⟩) d_L_verifyGrowth_29

set_option maxHeartbeats 4000000 in
set_option maxRecDepth 100000 in
theorem l_commit (l : Launch) (D : va_G) (tk : Nat → ClassId) (sz : Nat) (ad : Nat → Nat) (g : Nat → Nat → Int32) (rr : Nat → Nat → Option Nat) (ao : Nat) (fo : Nat → Int64) (t2 : va_W) (S : List ck_I) (ca : Nat → Nat) (bl : Nat → Nat → Option Nat) (f : Nat) (hstI : stI tk ((ao, .inl (tk 2, 1, .inr (.inl fo))) :: t2) g rr S ca bl f) (hSl : S.length + 40 < 8704) (Xs : Nat → List kv_I) (V : Nat) (hV1 : 1 ≤ V) (hV2 : V < 16) (hV : g 2 0 = nI V) (hh : ∀ v, v < V → so (Xs v) ∧ tOf S ca (Xs v) (rr 1 v)) (hz : bz (g 3)) (fm : Nat → Option Int32) (hf : ∀ k, k < 48 → (g 3 k = 0 ↔ fm k = none) ∧ ∀ v, fm k = some v → g 4 k = v) : Met l y_L_commit w_L_commit ({ frames := 8, cells := 156, slots := 5850, locals := 230 }) (va_Pc [.ref (ad 0), .ref ao] (k_preT D (TY tk) sz (wC tk ad g rr ++ ((ao, .inl (tk 2, 1, .inr (.inl fo))) :: t2)))) (va_Qi (fun (r : Int32) (u : Int32 × KS × va_W) => r = nI 0 ∧ cmC tk ((ao, .inl (tk 2, 1, .inr (.inl fo))) :: t2) g rr S ca f Xs V (ol fm 48) u.1 u.2.1 ∧ u.2.1.2.2.1 = ((ao, .inl (tk 2, 1, .inr (.inl fo))) :: t2) ++ u.2.2) (fun u t => k_at D (TY tk) (va_A (wC tk ad g rr ++ ((ao, .inl (tk 2, 1, .inr (.inl fo))) :: t2)) sz) ((fun (u : Int32 × KS × va_W) => (wC tk ad u.2.1.1 u.2.1.2.1 ++ ((ao, .inl (tk 2, 1, .inr (.inl (vp_updL fo 0 u.1.toInt64)))) :: (t2 ++ u.2.2)) : va_W)) u) t) (va_A (wC tk ad g rr ++ ((ao, .inl (tk 2, 1, .inr (.inl fo))) :: t2)) sz)) 156 5850 (va_A (wC tk ad g rr ++ ((ao, .inl (tk 2, 1, .inr (.inl fo))) :: t2)) sz) := by
  refine k_ofL (l := l) (rm := ({ frames := 8, cells := 156, slots := 5850, locals := 230 } : Room)) (mc := 156) (ms := 5850) (av := [.ref (ad 0), .ref ao]) (y := y_L_commit) (cc := method_5_code) (maxL := 3) (ret := (some .int)) (ws := wC tk ad g rr ++ ((ao, .inl (tk 2, 1, .inr (.inl fo))) :: t2)) (sz := sz) (D := D) (tk := tk) (fun A => va_Qi (fun (r : Int32) (u : Int32 × KS × va_W) => r = nI 0 ∧ cmC tk ((ao, .inl (tk 2, 1, .inr (.inl fo))) :: t2) g rr S ca f Xs V (ol fm 48) u.1 u.2.1 ∧ u.2.1.2.2.1 = ((ao, .inl (tk 2, 1, .inr (.inl fo))) :: t2) ++ u.2.2) (fun u t => k_at D (TY tk) A ((fun (u : Int32 × KS × va_W) => (wC tk ad u.2.1.1 u.2.1.2.1 ++ ((ao, .inl (tk 2, 1, .inr (.inl (vp_updL fo 0 u.1.toInt64)))) :: (t2 ++ u.2.2)) : va_W)) u) t) A) (by decide) (Nat.le_of_ble_eq_true rfl) ?_
  intro p e s m args below meth c Q A ls hQ hx hb hr hlk hin hts hT hown hml hnw hP hK hD hA hsz hl hAe hxF hex
  have hS : va_S A s.heap s.heap [] := va_S.rf
  have hc0 : 0 + 0 ≤ 156 ∧ 0 + 0 ≤ 5850 := ⟨by decide, by decide⟩
  replace hl : lv_has ls 3 [(0, .ref (ad 0)), (1, .ref ao)] := hl
  replace hP : va_P D CC (wC tk ad g rr ++ ((ao, .inl (tk 2, 1, .inr (.inl fo))) :: t2)) s.heap := hP
  replace hK : va_K D CC (TY tk) s := hK
  have hP0 := hP
  refine lv_aload_n hx hb d_L_commit_0 rfl (lv_at hl 1 rfl) ?_
  refine lv_iconst (v := nI 0) hx hb d_L_commit_1 (by decide) ?_
  refine lv_aload_n hx hb d_L_commit_2 rfl (lv_at hl 0 rfl) ?_
  refine k_calli (va_runV (As := []) (rest := [.int (nI 0), .ref ao]) ⟨hx, hb, hml, hown, hts⟩ (c_K_commit1 l D tk s.heap.size ad g rr ((ao, .inl (tk 2, 1, .inr (.inl fo))) :: t2) S ca bl f hstI hSl Xs V hV1 hV2 hV hh hz fm hf) (cwV 0 hts (gV t_399 t_400 t_401 t_1 t_402) rfl rfl rfl (by decide +kernel) ⟨Nat.le_of_ble_eq_true rfl, Nat.le_of_ble_eq_true rfl⟩) (k_preV hP hK hD hnw 0 rfl rfl) rfl rfl hl.1 rfl (lv_room (Nat.le_of_ble_eq_true rfl)) d_L_commit_3 ⟨by show _ ≤ 156; omega, by show _ ≤ 5850; omega⟩) hD hS hA (fun r9 u9 H locs h91 hP hD hK hS => ?_)
  obtain ⟨cs9, hcs9⟩ : ∃ cs, u9.2.2.1 = ((ao, .inl (tk 2, 1, .inr (.inl fo))) :: t2) ++ cs := by obtain ⟨_, _, h8, _⟩ := h91; exact h8.1
  replace hP : va_P D CC (wC tk ad u9.1 u9.2.1 ++ u9.2.2.1) H := hP
  replace hD : va_D A (wC tk ad u9.1 u9.2.1 ++ u9.2.2.1) := hD
  rw [hcs9] at hP hD
  replace hP : va_P D CC (wC tk ad u9.1 u9.2.1 ++ ((ao, .inl (tk 2, 1, .inr (.inl fo))) :: (t2 ++ cs9))) H := hP
  replace hD : va_D A (wC tk ad u9.1 u9.2.1 ++ ((ao, .inl (tk 2, 1, .inr (.inl fo))) :: (t2 ++ cs9))) := hD
  refine lv_i2l (v := r9.toInt64) hx hb d_L_commit_6 rfl ?_
  refine st_last hx hb hK hP hD hS 18 2 rfl rfl (by omega) (by decide) d_L_commit_7 (fun H locs hP hD hS => ?_)
  replace hP : va_P D CC (wC tk ad u9.1 u9.2.1 ++ ((ao, .inl (tk 2, 1, .inr (.inl (vp_updL fo 0 r9.toInt64)))) :: (t2 ++ cs9))) H := Eq.mp (congrArg (fun w => va_P D CC w H) (sC_out tk ad u9.1 u9.2.1 ao _ _ (t2 ++ cs9))) hP
  replace hD : va_D A (wC tk ad u9.1 u9.2.1 ++ ((ao, .inl (tk 2, 1, .inr (.inl (vp_updL fo 0 r9.toInt64)))) :: (t2 ++ cs9))) := Eq.mp (congrArg (fun w => va_D A w) (sC_out tk ad u9.1 u9.2.1 ao _ _ (t2 ++ cs9))) hD
  refine lv_goto hx hb d_L_commit_8 (tgt := 14) (by decide) ?_
  refine lv_iconst (v := nI 0) hx hb d_L_commit_14 (by decide) ?_
  refine W_up (c2 := 156) (s2 := 5850) (by omega) (by omega) ?_
  exact k_iret (v := nI 0) hQ hx hb hr hlk hK hP hD hS (r9, u9, cs9) rfl (⟨rfl, h91, hcs9⟩) d_L_commit_15
