/-- the greatest power of 2 below n (n at most 16) -/
def hf (n : Nat) : Nat := if n ≤ 2 then 1 else if n ≤ 4 then 2 else if n ≤ 8 then 4 else 8
def lf (v : Nat) (r : Int32) : Int32 := mx (mx 7 (nI v)) r
def jn (a b : Int32) : Int32 := mx (mx 8 a) b

set_option maxHeartbeats 4000000 in
set_option maxRecDepth 100000 in
theorem c_M_mix (l : Launch) (D : va_G) (tk : Nat → ClassId) (sz : Nat) (h x : Int32) (ws : va_W) : Met l y_M_mix w_M_mix ({ frames := 0, cells := 0, slots := 0, locals := 0 }) (va_Pc [.int h, .int x] (k_pre D (TY tk) sz ws)) (va_Qi (fun (r : Int32) (_ : Unit) => r = mx h x) (fun u t => k_at D (TY tk) (va_A ws sz) ((fun _ => ws) u) t) (va_A ws sz)) 0 0 (va_A ws sz) := by
  refine k_ofW (fun A => va_Qi (fun (r : Int32) (_ : Unit) => r = mx h x) (fun u t => k_at D (TY tk) A ((fun _ => ws) u) t) A) (by decide) (Nat.le_of_ble_eq_true rfl) ?_
  intro p e s m args below meth c Q A ls hQ hx hb hr hlk hin hts hT hown hml hnw hP hK hD hA hsz hl
  have hS : va_S A s.heap s.heap [] := va_S.rf
  have hc0 : 0 + 0 ≤ 0 ∧ 0 + 0 ≤ 0 := ⟨by decide, by decide⟩
  have hl : lv_has ls 3 [(0, .int h), (1, .int x)] := hl
  have hP : va_P D CC ws s.heap := hP
  have hK : va_K D CC (TY tk) s := hK
  refine lv_iload_n hx hb d_M_mix_0 rfl (lv_at hl 0 rfl) ?_
  refine lv_iload_n hx hb d_M_mix_1 rfl (lv_at hl 1 rfl) ?_
  refine lv_ixor hx hb d_M_mix_2 ?_
  refine lv_ldc (v := 73244475) hx hb hown (hT _ t_1082) d_M_mix_3 ?_
  refine lv_imul hx hb d_M_mix_5 ?_
  refine lv_istore_n (lv' := [(2, .int ((h ^^^ x) * 73244475)), (0, .int h), (1, .int x)]) hx hb d_M_mix_6 rfl hl (by decide) rfl (fun ls hl => ?_)
  refine lv_iload_n hx hb d_M_mix_7 rfl (lv_at hl 0 rfl) ?_
  refine lv_iload_n hx hb d_M_mix_8 rfl (lv_at hl 0 rfl) ?_
  refine lv_bipush (v := nI 15) hx hb d_M_mix_9 (by decide) ?_
  refine lv_iushr (v := (((h ^^^ x) * 73244475).toUInt32 >>> ((nI 15).toUInt32 &&& Int32.toUInt32 31)).toInt32) hx hb d_M_mix_11 rfl ?_
  refine lv_ixor hx hb d_M_mix_12 ?_
  exact k_iret (v := ((h ^^^ x) * 73244475) ^^^ ((((h ^^^ x) * 73244475).toUInt32 >>> ((nI 15).toUInt32 &&& Int32.toUInt32 31)).toInt32)) hQ hx hb hr hlk hK hP hD hS () rfl rfl d_M_mix_13

set_option maxHeartbeats 4000000 in
set_option maxRecDepth 100000 in
theorem c_M_outside (l : Launch) (D : va_G) (tk : Nat → ClassId) (sz : Nat) (v a b : Int32) (ws : va_W) : Met l y_M_outside w_M_outside ({ frames := 0, cells := 0, slots := 0, locals := 0 }) (va_Pc [.int v, .int a, .int b] (k_pre D (TY tk) sz ws)) (va_Qi (fun (r : Int32) (_ : Unit) => r = if v < a ∨ b < v then 1 else 0) (fun u t => k_at D (TY tk) (va_A ws sz) ((fun _ => ws) u) t) (va_A ws sz)) 0 0 (va_A ws sz) := by
  refine k_ofW (fun A => va_Qi (fun (r : Int32) (_ : Unit) => r = if v < a ∨ b < v then 1 else 0) (fun u t => k_at D (TY tk) A ((fun _ => ws) u) t) A) (by decide) (Nat.le_of_ble_eq_true rfl) ?_
  intro p e s m args below meth c Q A ls hQ hx hb hr hlk hin hts hT hown hml hnw hP hK hD hA hsz hl
  have hS : va_S A s.heap s.heap [] := va_S.rf
  have hc0 : 0 + 0 ≤ 0 ∧ 0 + 0 ≤ 0 := ⟨by decide, by decide⟩
  have hl : lv_has ls 3 [(0, .int v), (1, .int a), (2, .int b)] := hl
  have hP : va_P D CC ws s.heap := hP
  have hK : va_K D CC (TY tk) s := hK
  refine lv_iload_n hx hb d_M_outside_0 rfl (lv_at hl 0 rfl) ?_
  refine lv_iload_n hx hb d_M_outside_1 rfl (lv_at hl 1 rfl) ?_
  refine lv_icmp_lt hx hb d_M_outside_2 (tgt := 10) (by decide) (fun hc2 => ?_) (fun hc2 => ?_)
  · skip
    refine lv_iconst (v := nI 1) hx hb d_M_outside_10 (by decide) ?_
    refine lv_goto hx hb d_M_outside_11 (tgt := 15) (by decide) ?_
    exact k_zret (v := nI 1) hQ hx hb hr hlk hK hP hD hS () rfl (by decide) (by first | (rw [if_pos (by first | (left; assumption) | (right; exact Int32.not_le.mp (by assumption)))]; rfl) | (rw [if_neg (by intro hh; rcases hh with hh | hh; exact absurd hh (by assumption); exact absurd hh (Int32.not_lt.mpr (by assumption)))]; rfl)) d_M_outside_15
  · skip
    refine lv_iload_n hx hb d_M_outside_5 rfl (lv_at hl 0 rfl) ?_
    refine lv_iload_n hx hb d_M_outside_6 rfl (lv_at hl 2 rfl) ?_
    refine lv_icmp_le hx hb d_M_outside_7 (tgt := 14) (by decide) (fun hc7 => ?_) (fun hc7 => ?_)
    · skip
      refine lv_iconst (v := nI 0) hx hb d_M_outside_14 (by decide) ?_
      exact k_zret (v := nI 0) hQ hx hb hr hlk hK hP hD hS () rfl (by decide) (by first | (rw [if_pos (by first | (left; assumption) | (right; exact Int32.not_le.mp (by assumption)))]; rfl) | (rw [if_neg (by intro hh; rcases hh with hh | hh; exact absurd hh (by assumption); exact absurd hh (Int32.not_lt.mpr (by assumption)))]; rfl)) d_M_outside_15
    · skip
      refine lv_iconst (v := nI 1) hx hb d_M_outside_10 (by decide) ?_
      refine lv_goto hx hb d_M_outside_11 (tgt := 15) (by decide) ?_
      exact k_zret (v := nI 1) hQ hx hb hr hlk hK hP hD hS () rfl (by decide) (by first | (rw [if_pos (by first | (left; assumption) | (right; exact Int32.not_le.mp (by assumption)))]; rfl) | (rw [if_neg (by intro hh; rcases hh with hh | hh; exact absurd hh (by assumption); exact absurd hh (Int32.not_lt.mpr (by assumption)))]; rfl)) d_M_outside_15

set_option maxHeartbeats 4000000 in
set_option maxRecDepth 100000 in
theorem c_M_ends (l : Launch) (D : va_G) (tk : Nat → ClassId) (sz : Nat) (lv k : Nat) (ws : va_W) : Met l y_M_ends w_M_ends ({ frames := 1, cells := 0, slots := 0, locals := 22 }) (va_Pc [.int (nI lv), .int (nI k)] (k_pre D (TY tk) sz ws)) (va_Qi (fun (r : Int32) (_ : Unit) => r = if en lv k = true then 1 else 0) (fun u t => k_at D (TY tk) (va_A ws sz) ((fun _ => ws) u) t) (va_A ws sz)) 0 0 (va_A ws sz) := by
  refine k_ofW (fun A => va_Qi (fun (r : Int32) (_ : Unit) => r = if en lv k = true then 1 else 0) (fun u t => k_at D (TY tk) A ((fun _ => ws) u) t) A) (by decide) (Nat.le_of_ble_eq_true rfl) ?_
  intro p e s m args below meth c Q A ls hQ hx hb hr hlk hin hts hT hown hml hnw hP hK hD hA hsz hl
  have hS : va_S A s.heap s.heap [] := va_S.rf
  have hc0 : 0 + 0 ≤ 0 ∧ 0 + 0 ≤ 0 := ⟨by decide, by decide⟩
  have hl : lv_has ls 2 [(0, .int (nI lv)), (1, .int (nI k))] := hl
  have hP : va_P D CC ws s.heap := hP
  have hK : va_K D CC (TY tk) s := hK
  refine lv_bipush (v := nI 9) hx hb d_M_ends_0 (by decide) ?_
  refine lv_iload_n hx hb d_M_ends_2 rfl (lv_at hl 0 rfl) ?_
  refine k_calli (va_runS (As := [.int (nI 9), .int (nI lv)]) (rest := []) ⟨hx, hb, hml, hown, hts⟩ (c_M_mix l D tk s.heap.size (nI 9) (nI lv) ws) (cwS 2 hts (gS t_1079 t_1080 t_9 t_1081) rfl rfl rfl (by decide +kernel) ⟨Nat.le_of_ble_eq_true rfl, Nat.le_of_ble_eq_true rfl⟩) (k_preS hP hK hD hnw) rfl rfl hl.1 rfl (lv_room (Nat.le_of_ble_eq_true rfl)) d_M_ends_3 hc0) hD hS hA (fun _ _ H locs hp3 hP hD hK hS => ?_)
  subst hp3
  have hP : va_P D CC ws H := hP
  have hD : va_D A ws := hD
  refine lv_iload_n hx hb d_M_ends_6 rfl (lv_at hl 1 rfl) ?_
  refine k_calli (va_runS (As := [.int (mx (nI 9) (nI lv)), .int (nI k)]) (rest := []) ⟨hx, hb, hml, hown, hts⟩ (c_M_mix l D tk H.size (mx (nI 9) (nI lv)) (nI k) ws) (cwS 2 hts (gS t_1079 t_1080 t_9 t_1081) rfl rfl rfl (by decide +kernel) ⟨Nat.le_of_ble_eq_true rfl, Nat.le_of_ble_eq_true rfl⟩) (k_preS hP hK hD hnw) rfl rfl hl.1 rfl (lv_room (Nat.le_of_ble_eq_true rfl)) d_M_ends_7 hc0) hD hS hA (fun _ _ H locs hp7 hP hD hK hS => ?_)
  subst hp7
  have hP : va_P D CC ws H := hP
  have hD : va_D A ws := hD
  refine lv_iconst (v := nI 5) hx hb d_M_ends_10 (by decide) ?_
  refine k_calli (va_runS (As := [.int (mx (mx (nI 9) (nI lv)) (nI k)), .int (nI 5)]) (rest := []) ⟨hx, hb, hml, hown, hts⟩ (c_M_mix l D tk H.size (mx (mx (nI 9) (nI lv)) (nI k)) (nI 5) ws) (cwS 2 hts (gS t_1079 t_1080 t_9 t_1081) rfl rfl rfl (by decide +kernel) ⟨Nat.le_of_ble_eq_true rfl, Nat.le_of_ble_eq_true rfl⟩) (k_preS hP hK hD hnw) rfl rfl hl.1 rfl (lv_room (Nat.le_of_ble_eq_true rfl)) d_M_ends_11 hc0) hD hS hA (fun _ _ H locs hp11 hP hD hK hS => ?_)
  subst hp11
  have hP : va_P D CC ws H := hP
  have hD : va_D A ws := hD
  refine lv_iconst (v := nI 3) hx hb d_M_ends_14 (by decide) ?_
  refine lv_iand hx hb d_M_ends_15 ?_
  refine lv_if_ne hx hb d_M_ends_16 (tgt := 23) (by decide) (fun hc16 => ?_) (fun hc16 => ?_)
  · skip
    refine lv_iconst (v := nI 0) hx hb d_M_ends_23 (by decide) ?_
    exact k_zret (v := nI 0) hQ hx hb hr hlk hK hP hD hS () rfl (by decide) (by unfold en; simp only [decide_eq_true_eq]; first | rw [if_pos (by assumption)]; rfl | rw [if_neg (by assumption)]; rfl) d_M_ends_24
  · skip
    refine lv_iconst (v := nI 1) hx hb d_M_ends_19 (by decide) ?_
    refine lv_goto hx hb d_M_ends_20 (tgt := 24) (by decide) ?_
    exact k_zret (v := nI 1) hQ hx hb hr hlk hK hP hD hS () rfl (by decide) (by unfold en; simp only [decide_eq_true_eq]; first | rw [if_pos (by assumption)]; rfl | rw [if_neg (by assumption)]; rfl) d_M_ends_24

set_option maxHeartbeats 4000000 in
set_option maxRecDepth 100000 in
theorem c_M_leafOf (l : Launch) (D : va_G) (tk : Nat → ClassId) (sz : Nat) (v : Nat) (r0 : Int32) (ws : va_W) : Met l y_M_leafOf w_M_leafOf ({ frames := 1, cells := 0, slots := 0, locals := 22 }) (va_Pc [.int (nI v), .int r0] (k_pre D (TY tk) sz ws)) (va_Qi (fun (r : Int32) (_ : Unit) => r = lf v r0) (fun u t => k_at D (TY tk) (va_A ws sz) ((fun _ => ws) u) t) (va_A ws sz)) 0 0 (va_A ws sz) := by
  refine k_ofW (fun A => va_Qi (fun (r : Int32) (_ : Unit) => r = lf v r0) (fun u t => k_at D (TY tk) A ((fun _ => ws) u) t) A) (by decide) (Nat.le_of_ble_eq_true rfl) ?_
  intro p e s m args below meth c Q A ls hQ hx hb hr hlk hin hts hT hown hml hnw hP hK hD hA hsz hl
  have hS : va_S A s.heap s.heap [] := va_S.rf
  have hc0 : 0 + 0 ≤ 0 ∧ 0 + 0 ≤ 0 := ⟨by decide, by decide⟩
  have hl : lv_has ls 2 [(0, .int (nI v)), (1, .int r0)] := hl
  have hP : va_P D CC ws s.heap := hP
  have hK : va_K D CC (TY tk) s := hK
  refine lv_bipush (v := nI 7) hx hb d_M_leafOf_0 (by decide) ?_
  refine lv_iload_n hx hb d_M_leafOf_2 rfl (lv_at hl 0 rfl) ?_
  refine k_calli (va_runS (As := [.int (nI 7), .int (nI v)]) (rest := []) ⟨hx, hb, hml, hown, hts⟩ (c_M_mix l D tk s.heap.size (nI 7) (nI v) ws) (cwS 2 hts (gS t_1079 t_1080 t_9 t_1081) rfl rfl rfl (by decide +kernel) ⟨Nat.le_of_ble_eq_true rfl, Nat.le_of_ble_eq_true rfl⟩) (k_preS hP hK hD hnw) rfl rfl hl.1 rfl (lv_room (Nat.le_of_ble_eq_true rfl)) d_M_leafOf_3 hc0) hD hS hA (fun _ _ H locs hp3 hP hD hK hS => ?_)
  subst hp3
  have hP : va_P D CC ws H := hP
  have hD : va_D A ws := hD
  refine lv_iload_n hx hb d_M_leafOf_6 rfl (lv_at hl 1 rfl) ?_
  refine k_calli (va_runS (As := [.int (mx (nI 7) (nI v)), .int r0]) (rest := []) ⟨hx, hb, hml, hown, hts⟩ (c_M_mix l D tk H.size (mx (nI 7) (nI v)) r0 ws) (cwS 2 hts (gS t_1079 t_1080 t_9 t_1081) rfl rfl rfl (by decide +kernel) ⟨Nat.le_of_ble_eq_true rfl, Nat.le_of_ble_eq_true rfl⟩) (k_preS hP hK hD hnw) rfl rfl hl.1 rfl (lv_room (Nat.le_of_ble_eq_true rfl)) d_M_leafOf_7 hc0) hD hS hA (fun _ _ H locs hp7 hP hD hK hS => ?_)
  subst hp7
  have hP : va_P D CC ws H := hP
  have hD : va_D A ws := hD
  exact k_iret (v := mx (mx (nI 7) (nI v)) r0) hQ hx hb hr hlk hK hP hD hS () rfl rfl d_M_leafOf_10

set_option maxHeartbeats 4000000 in
set_option maxRecDepth 100000 in
theorem c_M_join (l : Launch) (D : va_G) (tk : Nat → ClassId) (sz : Nat) (a b : Int32) (ws : va_W) : Met l y_M_join w_M_join ({ frames := 1, cells := 0, slots := 0, locals := 22 }) (va_Pc [.int a, .int b] (k_pre D (TY tk) sz ws)) (va_Qi (fun (r : Int32) (_ : Unit) => r = jn a b) (fun u t => k_at D (TY tk) (va_A ws sz) ((fun _ => ws) u) t) (va_A ws sz)) 0 0 (va_A ws sz) := by
  refine k_ofW (fun A => va_Qi (fun (r : Int32) (_ : Unit) => r = jn a b) (fun u t => k_at D (TY tk) A ((fun _ => ws) u) t) A) (by decide) (Nat.le_of_ble_eq_true rfl) ?_
  intro p e s m args below meth c Q A ls hQ hx hb hr hlk hin hts hT hown hml hnw hP hK hD hA hsz hl
  have hS : va_S A s.heap s.heap [] := va_S.rf
  have hc0 : 0 + 0 ≤ 0 ∧ 0 + 0 ≤ 0 := ⟨by decide, by decide⟩
  have hl : lv_has ls 2 [(0, .int a), (1, .int b)] := hl
  have hP : va_P D CC ws s.heap := hP
  have hK : va_K D CC (TY tk) s := hK
  refine lv_bipush (v := nI 8) hx hb d_M_join_0 (by decide) ?_
  refine lv_iload_n hx hb d_M_join_2 rfl (lv_at hl 0 rfl) ?_
  refine k_calli (va_runS (As := [.int (nI 8), .int a]) (rest := []) ⟨hx, hb, hml, hown, hts⟩ (c_M_mix l D tk s.heap.size (nI 8) a ws) (cwS 2 hts (gS t_1079 t_1080 t_9 t_1081) rfl rfl rfl (by decide +kernel) ⟨Nat.le_of_ble_eq_true rfl, Nat.le_of_ble_eq_true rfl⟩) (k_preS hP hK hD hnw) rfl rfl hl.1 rfl (lv_room (Nat.le_of_ble_eq_true rfl)) d_M_join_3 hc0) hD hS hA (fun _ _ H locs hp3 hP hD hK hS => ?_)
  subst hp3
  have hP : va_P D CC ws H := hP
  have hD : va_D A ws := hD
  refine lv_iload_n hx hb d_M_join_6 rfl (lv_at hl 1 rfl) ?_
  refine k_calli (va_runS (As := [.int (mx (nI 8) a), .int b]) (rest := []) ⟨hx, hb, hml, hown, hts⟩ (c_M_mix l D tk H.size (mx (nI 8) a) b ws) (cwS 2 hts (gS t_1079 t_1080 t_9 t_1081) rfl rfl rfl (by decide +kernel) ⟨Nat.le_of_ble_eq_true rfl, Nat.le_of_ble_eq_true rfl⟩) (k_preS hP hK hD hnw) rfl rfl hl.1 rfl (lv_room (Nat.le_of_ble_eq_true rfl)) d_M_join_7 hc0) hD hS hA (fun _ _ H locs hp7 hP hD hK hS => ?_)
  subst hp7
  have hP : va_P D CC ws H := hP
  have hD : va_D A ws := hD
  exact k_iret (v := mx (mx (nI 8) a) b) hQ hx hb hr hlk hK hP hD hS () rfl rfl d_M_join_10
