theorem gy (ws cs : va_W) (k : Nat) : (ws ++ cs)[ws.length + k]? = cs[k]? := by
  rw [List.getElem?_append_right (by omega)]
  congr 1
  omega
theorem sy (ws cs : va_W) (k : Nat) (y : Nat × va_E) : (ws ++ cs).set (ws.length + k) y = ws ++ cs.set k y := by
  rw [List.set_append_right _ _ (by omega), show ws.length + k - ws.length = k by omega]

set_option maxHeartbeats 4000000 in
set_option maxRecDepth 100000 in
theorem c_B_init (l : Launch) (D : va_G) (tk : Nat → ClassId) (sz : Nat) (ws : va_W) (h : Nat) : Met l y_B_init w_B_init ({ frames := 1, cells := 1, slots := 400, locals := 12 }) (va_Pc [.ref h] (k_pre D (TY tk) sz (ws ++ [(h, .inr (0, [.null, .int 0]))]))) (va_Qv (fun (_ : Nat → Nat) => True) (fun u t => k_at D (TY tk) (va_A (ws ++ [(h, .inr (0, [.null, .int 0]))]) sz) ((fun (u : Nat → Nat) => (ws ++ [(h, .inr (0, [.ref (u 0), .int (nI 0)])), (u 0, .inl (tk 0, 400, .inl (fun _ => 0)))] : va_W)) u) t) (va_A (ws ++ [(h, .inr (0, [.null, .int 0]))]) sz)) 1 400 (va_A (ws ++ [(h, .inr (0, [.null, .int 0]))]) sz) := by
  refine k_ofW (l := l) (rm := ({ frames := 1, cells := 1, slots := 400, locals := 12 } : Room)) (mc := 1) (ms := 400) (av := [.ref h]) (y := y_B_init) (cc := prog_2_method_1_code) (maxL := 1) (ret := none) (ws := ws ++ [(h, .inr (0, [.null, .int 0]))]) (sz := sz) (D := D) (tys := TY tk) (fun A => va_Qv (fun (_ : Nat → Nat) => True) (fun u t => k_at D (TY tk) A ((fun (u : Nat → Nat) => (ws ++ [(h, .inr (0, [.ref (u 0), .int (nI 0)])), (u 0, .inl (tk 0, 400, .inl (fun _ => 0)))] : va_W)) u) t) A) (by decide) (Nat.le_of_ble_eq_true rfl) ?_
  intro p e s m args below meth c Q A ls hQ hx hb hr hlk hin hts hT hown hml hnw hP hK hD hA hsz hl
  have hS : va_S A s.heap s.heap [] := va_S.rf
  have hc0 : 0 + 0 ≤ 1 ∧ 0 + 0 ≤ 400 := ⟨by decide, by decide⟩
  replace hl : lv_has ls 1 [(0, .ref h)] := hl
  replace hP : va_P D CC (ws ++ [(h, .inr (0, [.null, .int 0]))]) s.heap := hP
  replace hK : va_K D CC (TY tk) s := hK
  refine lv_aload_n hx hb d_B_init_0 rfl (lv_at hl 0 rfl) ?_
  refine W.objInit hx hb hown (hT _ t_127) (hT _ t_34) (hT _ t_35) rfl (by rw [hml]; exact hl.1) rfl d_B_init_1 (Nat.le_of_ble_eq_true rfl) (Nat.le_of_ble_eq_true rfl) ?_
  refine W.eq (g2 := F0 m 4 ls []) rfl ?_
  refine lv_aload_n hx hb d_B_init_4 rfl (lv_at hl 0 rfl) ?_
  refine lv_sipush (v := nI 400) hx hb d_B_init_5 (by decide) ?_
  refine k_nI (N := 400) hx hb hT hK hP hD hS hA (by omega) (by show _ ≤ 1; omega) (by show _ ≤ 400; omega) d_B_init_8 (fun q1 H hP hD hS => ?_)
  rw [List.append_assoc] at hP hD
  replace hP : va_P D CC (ws ++ [(h, .inr (0, [.null, .int 0])), (q1, .inl (tk 0, 400, .inl (fun _ => 0)))]) H := hP
  replace hD : va_D A (ws ++ [(h, .inr (0, [.null, .int 0])), (q1, .inl (tk 0, 400, .inl (fun _ => 0)))]) := hD
  refine pf_B_9 hx hb hT hown hK hP hD hS hin (ws.length + 0) (gy ws [(h, .inr (0, [.null, .int 0])), (q1, .inl (tk 0, 400, .inl (fun _ => 0)))] 0) (Nat.le_of_ble_eq_true rfl) d_B_init_10 (fun H locs hP hD hS => ?_)
  replace hP : va_P D CC (ws ++ [(h, .inr (0, [.ref q1, .int 0])), (q1, .inl (tk 0, 400, .inl (fun _ => 0)))]) H := Eq.mp (congrArg (fun w => va_P D CC w H) (sy ws [(h, .inr (0, [.null, .int 0])), (q1, .inl (tk 0, 400, .inl (fun _ => 0)))] 0 _)) hP
  replace hD : va_D A (ws ++ [(h, .inr (0, [.ref q1, .int 0])), (q1, .inl (tk 0, 400, .inl (fun _ => 0)))]) := Eq.mp (congrArg (fun w => va_D A w) (sy ws [(h, .inr (0, [.null, .int 0])), (q1, .inl (tk 0, 400, .inl (fun _ => 0)))] 0 _)) hD
  refine lv_aload_n hx hb d_B_init_13 rfl (lv_at hl 0 rfl) ?_
  refine lv_iconst (v := nI 0) hx hb d_B_init_14 (by decide) ?_
  refine pf_B_15 hx hb hT hown hK hP hD hS (ws.length + 0) (gy ws [(h, .inr (0, [.ref q1, .int 0])), (q1, .inl (tk 0, 400, .inl (fun _ => 0)))] 0) (Nat.le_of_ble_eq_true rfl) d_B_init_15 (fun H locs hP hD hS => ?_)
  replace hP : va_P D CC (ws ++ [(h, .inr (0, [.ref q1, .int (nI 0)])), (q1, .inl (tk 0, 400, .inl (fun _ => 0)))]) H := Eq.mp (congrArg (fun w => va_P D CC w H) (sy ws [(h, .inr (0, [.ref q1, .int 0])), (q1, .inl (tk 0, 400, .inl (fun _ => 0)))] 0 _)) hP
  replace hD : va_D A (ws ++ [(h, .inr (0, [.ref q1, .int (nI 0)])), (q1, .inl (tk 0, 400, .inl (fun _ => 0)))]) := Eq.mp (congrArg (fun w => va_D A w) (sy ws [(h, .inr (0, [.ref q1, .int 0])), (q1, .inl (tk 0, 400, .inl (fun _ => 0)))] 0 _)) hD
  refine W_up (c2 := 1) (s2 := 400) (by omega) (by omega) ?_
  exact k_vret hQ hx hb hr hlk hK hP hD hS (fun j => match j with | _ => q1) rfl trivial d_B_init_18

set_option maxHeartbeats 4000000 in
set_option maxRecDepth 100000 in
theorem c_S_init (l : Launch) (D : va_G) (tk : Nat → ClassId) (sz : Nat) (ws : va_W) (h : Nat) : Met l y_S_init w_S_init ({ frames := 1, cells := 1, slots := 48, locals := 12 }) (va_Pc [.ref h] (k_pre D (TY tk) sz (ws ++ [(h, .inr (5, [.null, .int 0, .int 0]))]))) (va_Qv (fun (_ : Nat → Nat) => True) (fun u t => k_at D (TY tk) (va_A (ws ++ [(h, .inr (5, [.null, .int 0, .int 0]))]) sz) ((fun (u : Nat → Nat) => (ws ++ [(h, .inr (5, [.ref (u 0), .int (nI 0), .int (nI 0)])), (u 0, .inl (tk 3, 48, .inr (.inr (.inr (.inr (fun _ => none))))))] : va_W)) u) t) (va_A (ws ++ [(h, .inr (5, [.null, .int 0, .int 0]))]) sz)) 1 48 (va_A (ws ++ [(h, .inr (5, [.null, .int 0, .int 0]))]) sz) := by
  refine k_ofW (l := l) (rm := ({ frames := 1, cells := 1, slots := 48, locals := 12 } : Room)) (mc := 1) (ms := 48) (av := [.ref h]) (y := y_S_init) (cc := prog_7_method_1_code) (maxL := 1) (ret := none) (ws := ws ++ [(h, .inr (5, [.null, .int 0, .int 0]))]) (sz := sz) (D := D) (tys := TY tk) (fun A => va_Qv (fun (_ : Nat → Nat) => True) (fun u t => k_at D (TY tk) A ((fun (u : Nat → Nat) => (ws ++ [(h, .inr (5, [.ref (u 0), .int (nI 0), .int (nI 0)])), (u 0, .inl (tk 3, 48, .inr (.inr (.inr (.inr (fun _ => none))))))] : va_W)) u) t) A) (by decide) (Nat.le_of_ble_eq_true rfl) ?_
  intro p e s m args below meth c Q A ls hQ hx hb hr hlk hin hts hT hown hml hnw hP hK hD hA hsz hl
  have hS : va_S A s.heap s.heap [] := va_S.rf
  have hc0 : 0 + 0 ≤ 1 ∧ 0 + 0 ≤ 48 := ⟨by decide, by decide⟩
  replace hl : lv_has ls 1 [(0, .ref h)] := hl
  replace hP : va_P D CC (ws ++ [(h, .inr (5, [.null, .int 0, .int 0]))]) s.heap := hP
  replace hK : va_K D CC (TY tk) s := hK
  refine lv_aload_n hx hb d_S_init_0 rfl (lv_at hl 0 rfl) ?_
  refine W.objInit hx hb hown (hT _ t_41) (hT _ t_34) (hT _ t_35) rfl (by rw [hml]; exact hl.1) rfl d_S_init_1 (Nat.le_of_ble_eq_true rfl) (Nat.le_of_ble_eq_true rfl) ?_
  refine W.eq (g2 := F0 m 4 ls []) rfl ?_
  refine lv_aload_n hx hb d_S_init_4 rfl (lv_at hl 0 rfl) ?_
  refine lv_bipush (v := nI 48) hx hb d_S_init_5 (by decide) ?_
  refine k_nA (N := 48) hx hb hown (hT _ t_42) hnw hK hP hD hS hA (by omega) (by show _ ≤ 1; omega) (by show _ ≤ 48; omega) d_S_init_7 (fun q1 H hP hD hS => ?_)
  rw [List.append_assoc] at hP hD
  replace hP : va_P D CC (ws ++ [(h, .inr (5, [.null, .int 0, .int 0])), (q1, .inl (tk 3, 48, .inr (.inr (.inr (.inr (fun _ => none))))))]) H := hP
  replace hD : va_D A (ws ++ [(h, .inr (5, [.null, .int 0, .int 0])), (q1, .inl (tk 3, 48, .inr (.inr (.inr (.inr (fun _ => none))))))]) := hD
  refine pf_S_11 hx hb hT hown hK hP hD hS hin (ws.length + 0) (gy ws [(h, .inr (5, [.null, .int 0, .int 0])), (q1, .inl (tk 3, 48, .inr (.inr (.inr (.inr (fun _ => none))))))] 0) (Nat.le_of_ble_eq_true rfl) d_S_init_10 (fun H locs hP hD hS => ?_)
  replace hP : va_P D CC (ws ++ [(h, .inr (5, [.ref q1, .int 0, .int 0])), (q1, .inl (tk 3, 48, .inr (.inr (.inr (.inr (fun _ => none))))))]) H := Eq.mp (congrArg (fun w => va_P D CC w H) (sy ws [(h, .inr (5, [.null, .int 0, .int 0])), (q1, .inl (tk 3, 48, .inr (.inr (.inr (.inr (fun _ => none))))))] 0 _)) hP
  replace hD : va_D A (ws ++ [(h, .inr (5, [.ref q1, .int 0, .int 0])), (q1, .inl (tk 3, 48, .inr (.inr (.inr (.inr (fun _ => none))))))]) := Eq.mp (congrArg (fun w => va_D A w) (sy ws [(h, .inr (5, [.null, .int 0, .int 0])), (q1, .inl (tk 3, 48, .inr (.inr (.inr (.inr (fun _ => none))))))] 0 _)) hD
  refine lv_aload_n hx hb d_S_init_13 rfl (lv_at hl 0 rfl) ?_
  refine lv_iconst (v := nI 0) hx hb d_S_init_14 (by decide) ?_
  refine pf_S_17 hx hb hT hown hK hP hD hS (ws.length + 0) (gy ws [(h, .inr (5, [.ref q1, .int 0, .int 0])), (q1, .inl (tk 3, 48, .inr (.inr (.inr (.inr (fun _ => none))))))] 0) (Nat.le_of_ble_eq_true rfl) d_S_init_15 (fun H locs hP hD hS => ?_)
  replace hP : va_P D CC (ws ++ [(h, .inr (5, [.ref q1, .int (nI 0), .int 0])), (q1, .inl (tk 3, 48, .inr (.inr (.inr (.inr (fun _ => none))))))]) H := Eq.mp (congrArg (fun w => va_P D CC w H) (sy ws [(h, .inr (5, [.ref q1, .int 0, .int 0])), (q1, .inl (tk 3, 48, .inr (.inr (.inr (.inr (fun _ => none))))))] 0 _)) hP
  replace hD : va_D A (ws ++ [(h, .inr (5, [.ref q1, .int (nI 0), .int 0])), (q1, .inl (tk 3, 48, .inr (.inr (.inr (.inr (fun _ => none))))))]) := Eq.mp (congrArg (fun w => va_D A w) (sy ws [(h, .inr (5, [.ref q1, .int 0, .int 0])), (q1, .inl (tk 3, 48, .inr (.inr (.inr (.inr (fun _ => none))))))] 0 _)) hD
  refine lv_aload_n hx hb d_S_init_18 rfl (lv_at hl 0 rfl) ?_
  refine lv_iconst (v := nI 0) hx hb d_S_init_19 (by decide) ?_
  refine pf_S_21 hx hb hT hown hK hP hD hS (ws.length + 0) (gy ws [(h, .inr (5, [.ref q1, .int (nI 0), .int 0])), (q1, .inl (tk 3, 48, .inr (.inr (.inr (.inr (fun _ => none))))))] 0) (Nat.le_of_ble_eq_true rfl) d_S_init_20 (fun H locs hP hD hS => ?_)
  replace hP : va_P D CC (ws ++ [(h, .inr (5, [.ref q1, .int (nI 0), .int (nI 0)])), (q1, .inl (tk 3, 48, .inr (.inr (.inr (.inr (fun _ => none))))))]) H := Eq.mp (congrArg (fun w => va_P D CC w H) (sy ws [(h, .inr (5, [.ref q1, .int (nI 0), .int 0])), (q1, .inl (tk 3, 48, .inr (.inr (.inr (.inr (fun _ => none))))))] 0 _)) hP
  replace hD : va_D A (ws ++ [(h, .inr (5, [.ref q1, .int (nI 0), .int (nI 0)])), (q1, .inl (tk 3, 48, .inr (.inr (.inr (.inr (fun _ => none))))))]) := Eq.mp (congrArg (fun w => va_D A w) (sy ws [(h, .inr (5, [.ref q1, .int (nI 0), .int 0])), (q1, .inl (tk 3, 48, .inr (.inr (.inr (.inr (fun _ => none))))))] 0 _)) hD
  refine W_up (c2 := 1) (s2 := 48) (by omega) (by omega) ?_
  exact k_vret hQ hx hb hr hlk hK hP hD hS (fun j => match j with | _ => q1) rfl trivial d_S_init_23

set_option maxHeartbeats 4000000 in
set_option maxRecDepth 100000 in
theorem c_H_init (l : Launch) (D : va_G) (tk : Nat → ClassId) (sz : Nat) (ws : va_W) (h : Nat) : Met l y_H_init w_H_init ({ frames := 1, cells := 1, slots := 16, locals := 12 }) (va_Pc [.ref h] (k_pre D (TY tk) sz (ws ++ [(h, .inr (2, [.null, .int 0]))]))) (va_Qv (fun (_ : Nat → Nat) => True) (fun u t => k_at D (TY tk) (va_A (ws ++ [(h, .inr (2, [.null, .int 0]))]) sz) ((fun (u : Nat → Nat) => (ws ++ [(h, .inr (2, [.ref (u 0), .int (nI 1)])), (u 0, .inl (tk 3, 16, .inr (.inr (.inr (.inr (fun _ => none))))))] : va_W)) u) t) (va_A (ws ++ [(h, .inr (2, [.null, .int 0]))]) sz)) 1 16 (va_A (ws ++ [(h, .inr (2, [.null, .int 0]))]) sz) := by
  refine k_ofW (l := l) (rm := ({ frames := 1, cells := 1, slots := 16, locals := 12 } : Room)) (mc := 1) (ms := 16) (av := [.ref h]) (y := y_H_init) (cc := prog_4_method_1_code) (maxL := 1) (ret := none) (ws := ws ++ [(h, .inr (2, [.null, .int 0]))]) (sz := sz) (D := D) (tys := TY tk) (fun A => va_Qv (fun (_ : Nat → Nat) => True) (fun u t => k_at D (TY tk) A ((fun (u : Nat → Nat) => (ws ++ [(h, .inr (2, [.ref (u 0), .int (nI 1)])), (u 0, .inl (tk 3, 16, .inr (.inr (.inr (.inr (fun _ => none))))))] : va_W)) u) t) A) (by decide) (Nat.le_of_ble_eq_true rfl) ?_
  intro p e s m args below meth c Q A ls hQ hx hb hr hlk hin hts hT hown hml hnw hP hK hD hA hsz hl
  have hS : va_S A s.heap s.heap [] := va_S.rf
  have hc0 : 0 + 0 ≤ 1 ∧ 0 + 0 ≤ 16 := ⟨by decide, by decide⟩
  replace hl : lv_has ls 1 [(0, .ref h)] := hl
  replace hP : va_P D CC (ws ++ [(h, .inr (2, [.null, .int 0]))]) s.heap := hP
  replace hK : va_K D CC (TY tk) s := hK
  refine lv_aload_n hx hb d_H_init_0 rfl (lv_at hl 0 rfl) ?_
  refine W.objInit hx hb hown (hT _ t_61) (hT _ t_34) (hT _ t_35) rfl (by rw [hml]; exact hl.1) rfl d_H_init_1 (Nat.le_of_ble_eq_true rfl) (Nat.le_of_ble_eq_true rfl) ?_
  refine W.eq (g2 := F0 m 4 ls []) rfl ?_
  refine lv_aload_n hx hb d_H_init_4 rfl (lv_at hl 0 rfl) ?_
  refine lv_bipush (v := nI 16) hx hb d_H_init_5 (by decide) ?_
  refine k_nA (N := 16) hx hb hown (hT _ t_62) hnw hK hP hD hS hA (by omega) (by show _ ≤ 1; omega) (by show _ ≤ 16; omega) d_H_init_7 (fun q1 H hP hD hS => ?_)
  rw [List.append_assoc] at hP hD
  replace hP : va_P D CC (ws ++ [(h, .inr (2, [.null, .int 0])), (q1, .inl (tk 3, 16, .inr (.inr (.inr (.inr (fun _ => none))))))]) H := hP
  replace hD : va_D A (ws ++ [(h, .inr (2, [.null, .int 0])), (q1, .inl (tk 3, 16, .inr (.inr (.inr (.inr (fun _ => none))))))]) := hD
  refine pf_H_11 hx hb hT hown hK hP hD hS hin (ws.length + 0) (gy ws [(h, .inr (2, [.null, .int 0])), (q1, .inl (tk 3, 16, .inr (.inr (.inr (.inr (fun _ => none))))))] 0) (Nat.le_of_ble_eq_true rfl) d_H_init_10 (fun H locs hP hD hS => ?_)
  replace hP : va_P D CC (ws ++ [(h, .inr (2, [.ref q1, .int 0])), (q1, .inl (tk 3, 16, .inr (.inr (.inr (.inr (fun _ => none))))))]) H := Eq.mp (congrArg (fun w => va_P D CC w H) (sy ws [(h, .inr (2, [.null, .int 0])), (q1, .inl (tk 3, 16, .inr (.inr (.inr (.inr (fun _ => none))))))] 0 _)) hP
  replace hD : va_D A (ws ++ [(h, .inr (2, [.ref q1, .int 0])), (q1, .inl (tk 3, 16, .inr (.inr (.inr (.inr (fun _ => none))))))]) := Eq.mp (congrArg (fun w => va_D A w) (sy ws [(h, .inr (2, [.null, .int 0])), (q1, .inl (tk 3, 16, .inr (.inr (.inr (.inr (fun _ => none))))))] 0 _)) hD
  refine lv_aload_n hx hb d_H_init_13 rfl (lv_at hl 0 rfl) ?_
  refine lv_iconst (v := nI 1) hx hb d_H_init_14 (by decide) ?_
  refine pf_H_17 hx hb hT hown hK hP hD hS (ws.length + 0) (gy ws [(h, .inr (2, [.ref q1, .int 0])), (q1, .inl (tk 3, 16, .inr (.inr (.inr (.inr (fun _ => none))))))] 0) (Nat.le_of_ble_eq_true rfl) d_H_init_15 (fun H locs hP hD hS => ?_)
  replace hP : va_P D CC (ws ++ [(h, .inr (2, [.ref q1, .int (nI 1)])), (q1, .inl (tk 3, 16, .inr (.inr (.inr (.inr (fun _ => none))))))]) H := Eq.mp (congrArg (fun w => va_P D CC w H) (sy ws [(h, .inr (2, [.ref q1, .int 0])), (q1, .inl (tk 3, 16, .inr (.inr (.inr (.inr (fun _ => none))))))] 0 _)) hP
  replace hD : va_D A (ws ++ [(h, .inr (2, [.ref q1, .int (nI 1)])), (q1, .inl (tk 3, 16, .inr (.inr (.inr (.inr (fun _ => none))))))]) := Eq.mp (congrArg (fun w => va_D A w) (sy ws [(h, .inr (2, [.ref q1, .int 0])), (q1, .inl (tk 3, 16, .inr (.inr (.inr (.inr (fun _ => none))))))] 0 _)) hD
  refine W_up (c2 := 1) (s2 := 16) (by omega) (by omega) ?_
  exact k_vret hQ hx hb hr hlk hK hP hD hS (fun j => match j with | _ => q1) rfl trivial d_H_init_18

set_option maxHeartbeats 4000000 in
set_option maxRecDepth 100000 in
theorem c_T_init (l : Launch) (D : va_G) (tk : Nat → ClassId) (sz : Nat) (ws : va_W) (h : Nat) : Met l y_T_init w_T_init ({ frames := 1, cells := 2, slots := 96, locals := 12 }) (va_Pc [.ref h] (k_pre D (TY tk) sz (ws ++ [(h, .inr (6, [.null, .null]))]))) (va_Qv (fun (_ : Nat → Nat) => True) (fun u t => k_at D (TY tk) (va_A (ws ++ [(h, .inr (6, [.null, .null]))]) sz) ((fun (u : Nat → Nat) => (ws ++ [(h, .inr (6, [.ref (u 0), .ref (u 1)])), (u 0, .inl (tk 1, 48, .inl (fun _ => 0))), (u 1, .inl (tk 0, 48, .inl (fun _ => 0)))] : va_W)) u) t) (va_A (ws ++ [(h, .inr (6, [.null, .null]))]) sz)) 2 96 (va_A (ws ++ [(h, .inr (6, [.null, .null]))]) sz) := by
  refine k_ofW (l := l) (rm := ({ frames := 1, cells := 2, slots := 96, locals := 12 } : Room)) (mc := 2) (ms := 96) (av := [.ref h]) (y := y_T_init) (cc := prog_8_method_1_code) (maxL := 1) (ret := none) (ws := ws ++ [(h, .inr (6, [.null, .null]))]) (sz := sz) (D := D) (tys := TY tk) (fun A => va_Qv (fun (_ : Nat → Nat) => True) (fun u t => k_at D (TY tk) A ((fun (u : Nat → Nat) => (ws ++ [(h, .inr (6, [.ref (u 0), .ref (u 1)])), (u 0, .inl (tk 1, 48, .inl (fun _ => 0))), (u 1, .inl (tk 0, 48, .inl (fun _ => 0)))] : va_W)) u) t) A) (by decide) (Nat.le_of_ble_eq_true rfl) ?_
  intro p e s m args below meth c Q A ls hQ hx hb hr hlk hin hts hT hown hml hnw hP hK hD hA hsz hl
  have hS : va_S A s.heap s.heap [] := va_S.rf
  have hc0 : 0 + 0 ≤ 2 ∧ 0 + 0 ≤ 96 := ⟨by decide, by decide⟩
  replace hl : lv_has ls 1 [(0, .ref h)] := hl
  replace hP : va_P D CC (ws ++ [(h, .inr (6, [.null, .null]))]) s.heap := hP
  replace hK : va_K D CC (TY tk) s := hK
  refine lv_aload_n hx hb d_T_init_0 rfl (lv_at hl 0 rfl) ?_
  refine W.objInit hx hb hown (hT _ t_78) (hT _ t_34) (hT _ t_35) rfl (by rw [hml]; exact hl.1) rfl d_T_init_1 (Nat.le_of_ble_eq_true rfl) (Nat.le_of_ble_eq_true rfl) ?_
  refine W.eq (g2 := F0 m 4 ls []) rfl ?_
  refine lv_aload_n hx hb d_T_init_4 rfl (lv_at hl 0 rfl) ?_
  refine lv_bipush (v := nI 48) hx hb d_T_init_5 (by decide) ?_
  refine k_nZ (N := 48) hx hb hT hK hP hD hS hA (by omega) (by show _ ≤ 2; omega) (by show _ ≤ 96; omega) d_T_init_7 (fun q1 H hP hD hS => ?_)
  rw [List.append_assoc] at hP hD
  replace hP : va_P D CC (ws ++ [(h, .inr (6, [.null, .null])), (q1, .inl (tk 1, 48, .inl (fun _ => 0)))]) H := hP
  replace hD : va_D A (ws ++ [(h, .inr (6, [.null, .null])), (q1, .inl (tk 1, 48, .inl (fun _ => 0)))]) := hD
  refine pf_T_9 hx hb hT hown hK hP hD hS hin (ws.length + 0) (gy ws [(h, .inr (6, [.null, .null])), (q1, .inl (tk 1, 48, .inl (fun _ => 0)))] 0) (Nat.le_of_ble_eq_true rfl) d_T_init_9 (fun H locs hP hD hS => ?_)
  replace hP : va_P D CC (ws ++ [(h, .inr (6, [.ref q1, .null])), (q1, .inl (tk 1, 48, .inl (fun _ => 0)))]) H := Eq.mp (congrArg (fun w => va_P D CC w H) (sy ws [(h, .inr (6, [.null, .null])), (q1, .inl (tk 1, 48, .inl (fun _ => 0)))] 0 _)) hP
  replace hD : va_D A (ws ++ [(h, .inr (6, [.ref q1, .null])), (q1, .inl (tk 1, 48, .inl (fun _ => 0)))]) := Eq.mp (congrArg (fun w => va_D A w) (sy ws [(h, .inr (6, [.null, .null])), (q1, .inl (tk 1, 48, .inl (fun _ => 0)))] 0 _)) hD
  refine lv_aload_n hx hb d_T_init_12 rfl (lv_at hl 0 rfl) ?_
  refine lv_bipush (v := nI 48) hx hb d_T_init_13 (by decide) ?_
  refine k_nI (N := 48) hx hb hT hK hP hD hS hA (by omega) (by show _ ≤ 2; omega) (by show _ ≤ 96; omega) d_T_init_15 (fun q2 H hP hD hS => ?_)
  rw [List.append_assoc] at hP hD
  replace hP : va_P D CC (ws ++ [(h, .inr (6, [.ref q1, .null])), (q1, .inl (tk 1, 48, .inl (fun _ => 0))), (q2, .inl (tk 0, 48, .inl (fun _ => 0)))]) H := hP
  replace hD : va_D A (ws ++ [(h, .inr (6, [.ref q1, .null])), (q1, .inl (tk 1, 48, .inl (fun _ => 0))), (q2, .inl (tk 0, 48, .inl (fun _ => 0)))]) := hD
  refine pf_T_15 hx hb hT hown hK hP hD hS hin (ws.length + 0) (gy ws [(h, .inr (6, [.ref q1, .null])), (q1, .inl (tk 1, 48, .inl (fun _ => 0))), (q2, .inl (tk 0, 48, .inl (fun _ => 0)))] 0) (Nat.le_of_ble_eq_true rfl) d_T_init_17 (fun H locs hP hD hS => ?_)
  replace hP : va_P D CC (ws ++ [(h, .inr (6, [.ref q1, .ref q2])), (q1, .inl (tk 1, 48, .inl (fun _ => 0))), (q2, .inl (tk 0, 48, .inl (fun _ => 0)))]) H := Eq.mp (congrArg (fun w => va_P D CC w H) (sy ws [(h, .inr (6, [.ref q1, .null])), (q1, .inl (tk 1, 48, .inl (fun _ => 0))), (q2, .inl (tk 0, 48, .inl (fun _ => 0)))] 0 _)) hP
  replace hD : va_D A (ws ++ [(h, .inr (6, [.ref q1, .ref q2])), (q1, .inl (tk 1, 48, .inl (fun _ => 0))), (q2, .inl (tk 0, 48, .inl (fun _ => 0)))]) := Eq.mp (congrArg (fun w => va_D A w) (sy ws [(h, .inr (6, [.ref q1, .null])), (q1, .inl (tk 1, 48, .inl (fun _ => 0))), (q2, .inl (tk 0, 48, .inl (fun _ => 0)))] 0 _)) hD
  refine W_up (c2 := 2) (s2 := 96) (by omega) (by omega) ?_
  exact k_vret hQ hx hb hr hlk hK hP hD hS (fun j => match j with | 0 => q1 | _ => q2) rfl trivial d_T_init_20

set_option maxHeartbeats 4000000 in
set_option maxRecDepth 100000 in
theorem c_R_init (l : Launch) (D : va_G) (tk : Nat → ClassId) (sz : Nat) (ws : va_W) (h : Nat) : Met l y_R_init w_R_init ({ frames := 1, cells := 3, slots := 144, locals := 12 }) (va_Pc [.ref h] (k_pre D (TY tk) sz (ws ++ [(h, .inr (4, [.null, .null, .null, .int 0]))]))) (va_Qv (fun (_ : Nat → Nat) => True) (fun u t => k_at D (TY tk) (va_A (ws ++ [(h, .inr (4, [.null, .null, .null, .int 0]))]) sz) ((fun (u : Nat → Nat) => (ws ++ [(h, .inr (4, [.ref (u 0), .ref (u 1), .ref (u 2), .int (nI 0)])), (u 0, .inl (tk 0, 48, .inl (fun _ => 0))), (u 1, .inl (tk 0, 48, .inl (fun _ => 0))), (u 2, .inl (tk 3, 48, .inr (.inr (.inr (.inr (fun _ => none))))))] : va_W)) u) t) (va_A (ws ++ [(h, .inr (4, [.null, .null, .null, .int 0]))]) sz)) 3 144 (va_A (ws ++ [(h, .inr (4, [.null, .null, .null, .int 0]))]) sz) := by
  refine k_ofW (l := l) (rm := ({ frames := 1, cells := 3, slots := 144, locals := 12 } : Room)) (mc := 3) (ms := 144) (av := [.ref h]) (y := y_R_init) (cc := prog_6_method_1_code) (maxL := 1) (ret := none) (ws := ws ++ [(h, .inr (4, [.null, .null, .null, .int 0]))]) (sz := sz) (D := D) (tys := TY tk) (fun A => va_Qv (fun (_ : Nat → Nat) => True) (fun u t => k_at D (TY tk) A ((fun (u : Nat → Nat) => (ws ++ [(h, .inr (4, [.ref (u 0), .ref (u 1), .ref (u 2), .int (nI 0)])), (u 0, .inl (tk 0, 48, .inl (fun _ => 0))), (u 1, .inl (tk 0, 48, .inl (fun _ => 0))), (u 2, .inl (tk 3, 48, .inr (.inr (.inr (.inr (fun _ => none))))))] : va_W)) u) t) A) (by decide) (Nat.le_of_ble_eq_true rfl) ?_
  intro p e s m args below meth c Q A ls hQ hx hb hr hlk hin hts hT hown hml hnw hP hK hD hA hsz hl
  have hS : va_S A s.heap s.heap [] := va_S.rf
  have hc0 : 0 + 0 ≤ 3 ∧ 0 + 0 ≤ 144 := ⟨by decide, by decide⟩
  replace hl : lv_has ls 1 [(0, .ref h)] := hl
  replace hP : va_P D CC (ws ++ [(h, .inr (4, [.null, .null, .null, .int 0]))]) s.heap := hP
  replace hK : va_K D CC (TY tk) s := hK
  refine lv_aload_n hx hb d_R_init_0 rfl (lv_at hl 0 rfl) ?_
  refine W.objInit hx hb hown (hT _ t_95) (hT _ t_34) (hT _ t_35) rfl (by rw [hml]; exact hl.1) rfl d_R_init_1 (Nat.le_of_ble_eq_true rfl) (Nat.le_of_ble_eq_true rfl) ?_
  refine W.eq (g2 := F0 m 4 ls []) rfl ?_
  refine lv_aload_n hx hb d_R_init_4 rfl (lv_at hl 0 rfl) ?_
  refine lv_bipush (v := nI 48) hx hb d_R_init_5 (by decide) ?_
  refine k_nI (N := 48) hx hb hT hK hP hD hS hA (by omega) (by show _ ≤ 3; omega) (by show _ ≤ 144; omega) d_R_init_7 (fun q1 H hP hD hS => ?_)
  rw [List.append_assoc] at hP hD
  replace hP : va_P D CC (ws ++ [(h, .inr (4, [.null, .null, .null, .int 0])), (q1, .inl (tk 0, 48, .inl (fun _ => 0)))]) H := hP
  replace hD : va_D A (ws ++ [(h, .inr (4, [.null, .null, .null, .int 0])), (q1, .inl (tk 0, 48, .inl (fun _ => 0)))]) := hD
  refine pf_R_9 hx hb hT hown hK hP hD hS hin (ws.length + 0) (gy ws [(h, .inr (4, [.null, .null, .null, .int 0])), (q1, .inl (tk 0, 48, .inl (fun _ => 0)))] 0) (Nat.le_of_ble_eq_true rfl) d_R_init_9 (fun H locs hP hD hS => ?_)
  replace hP : va_P D CC (ws ++ [(h, .inr (4, [.ref q1, .null, .null, .int 0])), (q1, .inl (tk 0, 48, .inl (fun _ => 0)))]) H := Eq.mp (congrArg (fun w => va_P D CC w H) (sy ws [(h, .inr (4, [.null, .null, .null, .int 0])), (q1, .inl (tk 0, 48, .inl (fun _ => 0)))] 0 _)) hP
  replace hD : va_D A (ws ++ [(h, .inr (4, [.ref q1, .null, .null, .int 0])), (q1, .inl (tk 0, 48, .inl (fun _ => 0)))]) := Eq.mp (congrArg (fun w => va_D A w) (sy ws [(h, .inr (4, [.null, .null, .null, .int 0])), (q1, .inl (tk 0, 48, .inl (fun _ => 0)))] 0 _)) hD
  refine lv_aload_n hx hb d_R_init_12 rfl (lv_at hl 0 rfl) ?_
  refine lv_bipush (v := nI 48) hx hb d_R_init_13 (by decide) ?_
  refine k_nI (N := 48) hx hb hT hK hP hD hS hA (by omega) (by show _ ≤ 3; omega) (by show _ ≤ 144; omega) d_R_init_15 (fun q2 H hP hD hS => ?_)
  rw [List.append_assoc] at hP hD
  replace hP : va_P D CC (ws ++ [(h, .inr (4, [.ref q1, .null, .null, .int 0])), (q1, .inl (tk 0, 48, .inl (fun _ => 0))), (q2, .inl (tk 0, 48, .inl (fun _ => 0)))]) H := hP
  replace hD : va_D A (ws ++ [(h, .inr (4, [.ref q1, .null, .null, .int 0])), (q1, .inl (tk 0, 48, .inl (fun _ => 0))), (q2, .inl (tk 0, 48, .inl (fun _ => 0)))]) := hD
  refine pf_R_15 hx hb hT hown hK hP hD hS hin (ws.length + 0) (gy ws [(h, .inr (4, [.ref q1, .null, .null, .int 0])), (q1, .inl (tk 0, 48, .inl (fun _ => 0))), (q2, .inl (tk 0, 48, .inl (fun _ => 0)))] 0) (Nat.le_of_ble_eq_true rfl) d_R_init_17 (fun H locs hP hD hS => ?_)
  replace hP : va_P D CC (ws ++ [(h, .inr (4, [.ref q1, .ref q2, .null, .int 0])), (q1, .inl (tk 0, 48, .inl (fun _ => 0))), (q2, .inl (tk 0, 48, .inl (fun _ => 0)))]) H := Eq.mp (congrArg (fun w => va_P D CC w H) (sy ws [(h, .inr (4, [.ref q1, .null, .null, .int 0])), (q1, .inl (tk 0, 48, .inl (fun _ => 0))), (q2, .inl (tk 0, 48, .inl (fun _ => 0)))] 0 _)) hP
  replace hD : va_D A (ws ++ [(h, .inr (4, [.ref q1, .ref q2, .null, .int 0])), (q1, .inl (tk 0, 48, .inl (fun _ => 0))), (q2, .inl (tk 0, 48, .inl (fun _ => 0)))]) := Eq.mp (congrArg (fun w => va_D A w) (sy ws [(h, .inr (4, [.ref q1, .null, .null, .int 0])), (q1, .inl (tk 0, 48, .inl (fun _ => 0))), (q2, .inl (tk 0, 48, .inl (fun _ => 0)))] 0 _)) hD
  refine lv_aload_n hx hb d_R_init_20 rfl (lv_at hl 0 rfl) ?_
  refine lv_bipush (v := nI 48) hx hb d_R_init_21 (by decide) ?_
  refine k_nA (N := 48) hx hb hown (hT _ t_96) hnw hK hP hD hS hA (by omega) (by show _ ≤ 3; omega) (by show _ ≤ 144; omega) d_R_init_23 (fun q3 H hP hD hS => ?_)
  rw [List.append_assoc] at hP hD
  replace hP : va_P D CC (ws ++ [(h, .inr (4, [.ref q1, .ref q2, .null, .int 0])), (q1, .inl (tk 0, 48, .inl (fun _ => 0))), (q2, .inl (tk 0, 48, .inl (fun _ => 0))), (q3, .inl (tk 3, 48, .inr (.inr (.inr (.inr (fun _ => none))))))]) H := hP
  replace hD : va_D A (ws ++ [(h, .inr (4, [.ref q1, .ref q2, .null, .int 0])), (q1, .inl (tk 0, 48, .inl (fun _ => 0))), (q2, .inl (tk 0, 48, .inl (fun _ => 0))), (q3, .inl (tk 3, 48, .inr (.inr (.inr (.inr (fun _ => none))))))]) := hD
  refine pf_R_20 hx hb hT hown hK hP hD hS hin (ws.length + 0) (gy ws [(h, .inr (4, [.ref q1, .ref q2, .null, .int 0])), (q1, .inl (tk 0, 48, .inl (fun _ => 0))), (q2, .inl (tk 0, 48, .inl (fun _ => 0))), (q3, .inl (tk 3, 48, .inr (.inr (.inr (.inr (fun _ => none))))))] 0) (Nat.le_of_ble_eq_true rfl) d_R_init_26 (fun H locs hP hD hS => ?_)
  replace hP : va_P D CC (ws ++ [(h, .inr (4, [.ref q1, .ref q2, .ref q3, .int 0])), (q1, .inl (tk 0, 48, .inl (fun _ => 0))), (q2, .inl (tk 0, 48, .inl (fun _ => 0))), (q3, .inl (tk 3, 48, .inr (.inr (.inr (.inr (fun _ => none))))))]) H := Eq.mp (congrArg (fun w => va_P D CC w H) (sy ws [(h, .inr (4, [.ref q1, .ref q2, .null, .int 0])), (q1, .inl (tk 0, 48, .inl (fun _ => 0))), (q2, .inl (tk 0, 48, .inl (fun _ => 0))), (q3, .inl (tk 3, 48, .inr (.inr (.inr (.inr (fun _ => none))))))] 0 _)) hP
  replace hD : va_D A (ws ++ [(h, .inr (4, [.ref q1, .ref q2, .ref q3, .int 0])), (q1, .inl (tk 0, 48, .inl (fun _ => 0))), (q2, .inl (tk 0, 48, .inl (fun _ => 0))), (q3, .inl (tk 3, 48, .inr (.inr (.inr (.inr (fun _ => none))))))]) := Eq.mp (congrArg (fun w => va_D A w) (sy ws [(h, .inr (4, [.ref q1, .ref q2, .null, .int 0])), (q1, .inl (tk 0, 48, .inl (fun _ => 0))), (q2, .inl (tk 0, 48, .inl (fun _ => 0))), (q3, .inl (tk 3, 48, .inr (.inr (.inr (.inr (fun _ => none))))))] 0 _)) hD
  refine lv_aload_n hx hb d_R_init_29 rfl (lv_at hl 0 rfl) ?_
  refine lv_iconst (v := nI 0) hx hb d_R_init_30 (by decide) ?_
  refine pf_R_24 hx hb hT hown hK hP hD hS (ws.length + 0) (gy ws [(h, .inr (4, [.ref q1, .ref q2, .ref q3, .int 0])), (q1, .inl (tk 0, 48, .inl (fun _ => 0))), (q2, .inl (tk 0, 48, .inl (fun _ => 0))), (q3, .inl (tk 3, 48, .inr (.inr (.inr (.inr (fun _ => none))))))] 0) (Nat.le_of_ble_eq_true rfl) d_R_init_31 (fun H locs hP hD hS => ?_)
  replace hP : va_P D CC (ws ++ [(h, .inr (4, [.ref q1, .ref q2, .ref q3, .int (nI 0)])), (q1, .inl (tk 0, 48, .inl (fun _ => 0))), (q2, .inl (tk 0, 48, .inl (fun _ => 0))), (q3, .inl (tk 3, 48, .inr (.inr (.inr (.inr (fun _ => none))))))]) H := Eq.mp (congrArg (fun w => va_P D CC w H) (sy ws [(h, .inr (4, [.ref q1, .ref q2, .ref q3, .int 0])), (q1, .inl (tk 0, 48, .inl (fun _ => 0))), (q2, .inl (tk 0, 48, .inl (fun _ => 0))), (q3, .inl (tk 3, 48, .inr (.inr (.inr (.inr (fun _ => none))))))] 0 _)) hP
  replace hD : va_D A (ws ++ [(h, .inr (4, [.ref q1, .ref q2, .ref q3, .int (nI 0)])), (q1, .inl (tk 0, 48, .inl (fun _ => 0))), (q2, .inl (tk 0, 48, .inl (fun _ => 0))), (q3, .inl (tk 3, 48, .inr (.inr (.inr (.inr (fun _ => none))))))]) := Eq.mp (congrArg (fun w => va_D A w) (sy ws [(h, .inr (4, [.ref q1, .ref q2, .ref q3, .int 0])), (q1, .inl (tk 0, 48, .inl (fun _ => 0))), (q2, .inl (tk 0, 48, .inl (fun _ => 0))), (q3, .inl (tk 3, 48, .inr (.inr (.inr (.inr (fun _ => none))))))] 0 _)) hD
  refine W_up (c2 := 3) (s2 := 144) (by omega) (by omega) ?_
  exact k_vret hQ hx hb hr hlk hK hP hD hS (fun j => match j with | 0 => q1 | 1 => q2 | _ => q3) rfl trivial d_R_init_34
