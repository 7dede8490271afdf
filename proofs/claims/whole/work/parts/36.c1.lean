theorem m_out {x i : Int32} {n N : Nat} (hg : x = nI n) (hn : n ≤ N) (h0 : ¬ i < 0) (h : x ≤ i) (hN : N < 2 ^ 30 := by decide) : x - nI 1 < i := by
  obtain ⟨j, hj, e⟩ := nI_of h0
  subst e; subst hg
  rw [Int32.le_iff_toInt_le, nI_toInt (by omega), nI_toInt hj] at h
  rw [Int32.lt_iff_toInt_lt, nI_toInt hj]
  by_cases hz : n = 0
  · subst hz
    have : (nI 0 - nI 1).toInt = -1 := by decide
    rw [this]; omega
  · rw [pk_sub (by omega), nI_toInt (by omega)]; omega
theorem m_inn {x i : Int32} {n N : Nat} (hg : x = nI n) (hn : n ≤ N) (h0 : ¬ i < 0) (h : ¬ x ≤ i) (hN : N < 2 ^ 30 := by decide) : ¬ (i < nI 0 ∨ x - nI 1 < i) := by
  intro q
  rcases q with q | q
  · exact h0 q
  obtain ⟨j, hj, e⟩ := nI_of h0
  subst e; subst hg
  rw [Int32.le_iff_toInt_le, nI_toInt (by omega), nI_toInt hj] at h
  have hz : n ≠ 0 := by rintro rfl; omega
  rw [Int32.lt_iff_toInt_lt, nI_toInt hj, pk_sub (by omega), nI_toInt (by omega)] at q
  omega

set_option maxHeartbeats 4000000 in
set_option maxRecDepth 100000 in
theorem c_K_mix (l : Launch) (D : va_G) (tk : Nat → ClassId) (sz : Nat) (h x : Int32) (ws : va_W) : Met l y_K_mix w_K_mix ({ frames := 0, cells := 0, slots := 0, locals := 0 }) (va_Pc [.int h, .int x] (k_pre D (TY tk) sz ws)) (va_Qi (fun (r : Int32) (_ : Unit) => r = mx h x) (fun u t => k_at D (TY tk) (va_A ws sz) ((fun _ => ws) u) t) (va_A ws sz)) 0 0 (va_A ws sz) := by
  refine k_ofW (fun A => va_Qi (fun (r : Int32) (_ : Unit) => r = mx h x) (fun u t => k_at D (TY tk) A ((fun _ => ws) u) t) A) (by decide) (Nat.le_of_ble_eq_true rfl) ?_
  intro p e s m args below meth c Q A ls hQ hx hb hr hlk hin hts hT hown hml hnw hP hK hD hA hsz hl
  have hS : va_S A s.heap s.heap [] := va_S.rf
  have hc0 : 0 + 0 ≤ 0 ∧ 0 + 0 ≤ 0 := ⟨by decide, by decide⟩
  replace hl : lv_has ls 3 [(0, .int h), (1, .int x)] := hl
  replace hP : va_P D CC ws s.heap := hP
  replace hK : va_K D CC (TY tk) s := hK
  refine lv_iload_n hx hb d_K_mix_0 rfl (lv_at hl 0 rfl) ?_
  refine lv_iload_n hx hb d_K_mix_1 rfl (lv_at hl 1 rfl) ?_
  refine lv_ixor hx hb d_K_mix_2 ?_
  refine lv_ldc (v := 73244475) hx hb hown (hT _ t_425) d_K_mix_3 ?_
  refine lv_imul hx hb d_K_mix_5 ?_
  refine lv_istore_n (lv' := [(2, .int ((h ^^^ x) * 73244475)), (0, .int h), (1, .int x)]) hx hb d_K_mix_6 rfl hl (by decide) rfl (fun ls hl => ?_)
  refine lv_iload_n hx hb d_K_mix_7 rfl (lv_at hl 0 rfl) ?_
  refine lv_iload_n hx hb d_K_mix_8 rfl (lv_at hl 0 rfl) ?_
  refine lv_bipush (v := nI 15) hx hb d_K_mix_9 (by decide) ?_
  refine lv_iushr (v := (((h ^^^ x) * 73244475).toUInt32 >>> ((nI 15).toUInt32 &&& Int32.toUInt32 31)).toInt32) hx hb d_K_mix_11 rfl ?_
  refine lv_ixor hx hb d_K_mix_12 ?_
  exact k_iret (v := ((h ^^^ x) * 73244475) ^^^ ((((h ^^^ x) * 73244475).toUInt32 >>> ((nI 15).toUInt32 &&& Int32.toUInt32 31)).toInt32)) hQ hx hb hr hlk hK hP hD hS () rfl rfl d_K_mix_13

set_option maxHeartbeats 4000000 in
set_option maxRecDepth 100000 in
theorem c_K_endsChunk (l : Launch) (D : va_G) (tk : Nat → ClassId) (sz : Nat) (lv k : Nat) (ws : va_W) : Met l y_K_endsChunk w_K_endsChunk ({ frames := 1, cells := 0, slots := 0, locals := 22 }) (va_Pc [.int (nI lv), .int (nI k)] (k_pre D (TY tk) sz ws)) (va_Qi (fun (r : Int32) (_ : Unit) => r = if en lv k = true then 1 else 0) (fun u t => k_at D (TY tk) (va_A ws sz) ((fun _ => ws) u) t) (va_A ws sz)) 0 0 (va_A ws sz) := by
  refine k_ofW (fun A => va_Qi (fun (r : Int32) (_ : Unit) => r = if en lv k = true then 1 else 0) (fun u t => k_at D (TY tk) A ((fun _ => ws) u) t) A) (by decide) (Nat.le_of_ble_eq_true rfl) ?_
  intro p e s m args below meth c Q A ls hQ hx hb hr hlk hin hts hT hown hml hnw hP hK hD hA hsz hl
  have hS : va_S A s.heap s.heap [] := va_S.rf
  have hc0 : 0 + 0 ≤ 0 ∧ 0 + 0 ≤ 0 := ⟨by decide, by decide⟩
  replace hl : lv_has ls 2 [(0, .int (nI lv)), (1, .int (nI k))] := hl
  replace hP : va_P D CC ws s.heap := hP
  replace hK : va_K D CC (TY tk) s := hK
  refine lv_bipush (v := nI 9) hx hb d_K_endsChunk_0 (by decide) ?_
  refine lv_iload_n hx hb d_K_endsChunk_2 rfl (lv_at hl 0 rfl) ?_
  refine k_calli (va_runS (As := [.int (nI 9), .int (nI lv)]) (rest := []) ⟨hx, hb, hml, hown, hts⟩ (c_K_mix l D tk s.heap.size (nI 9) (nI lv) ws) (cwS 2 hts (gS t_422 t_423 t_1 t_424) rfl rfl rfl (by decide +kernel) ⟨Nat.le_of_ble_eq_true rfl, Nat.le_of_ble_eq_true rfl⟩) (k_preS hP hK hD hnw) rfl rfl hl.1 rfl (lv_room (Nat.le_of_ble_eq_true rfl)) d_K_endsChunk_3 hc0) hD hS hA (fun _ _ H locs hp3 hP hD hK hS => ?_)
  subst hp3
  replace hP : va_P D CC ws H := hP
  replace hD : va_D A ws := hD
  refine lv_iload_n hx hb d_K_endsChunk_6 rfl (lv_at hl 1 rfl) ?_
  refine k_calli (va_runS (As := [.int (mx (nI 9) (nI lv)), .int (nI k)]) (rest := []) ⟨hx, hb, hml, hown, hts⟩ (c_K_mix l D tk H.size (mx (nI 9) (nI lv)) (nI k) ws) (cwS 2 hts (gS t_422 t_423 t_1 t_424) rfl rfl rfl (by decide +kernel) ⟨Nat.le_of_ble_eq_true rfl, Nat.le_of_ble_eq_true rfl⟩) (k_preS hP hK hD hnw) rfl rfl hl.1 rfl (lv_room (Nat.le_of_ble_eq_true rfl)) d_K_endsChunk_7 hc0) hD hS hA (fun _ _ H locs hp7 hP hD hK hS => ?_)
  subst hp7
  replace hP : va_P D CC ws H := hP
  replace hD : va_D A ws := hD
  refine lv_iconst (v := nI 5) hx hb d_K_endsChunk_10 (by decide) ?_
  refine k_calli (va_runS (As := [.int (mx (mx (nI 9) (nI lv)) (nI k)), .int (nI 5)]) (rest := []) ⟨hx, hb, hml, hown, hts⟩ (c_K_mix l D tk H.size (mx (mx (nI 9) (nI lv)) (nI k)) (nI 5) ws) (cwS 2 hts (gS t_422 t_423 t_1 t_424) rfl rfl rfl (by decide +kernel) ⟨Nat.le_of_ble_eq_true rfl, Nat.le_of_ble_eq_true rfl⟩) (k_preS hP hK hD hnw) rfl rfl hl.1 rfl (lv_room (Nat.le_of_ble_eq_true rfl)) d_K_endsChunk_11 hc0) hD hS hA (fun _ _ H locs hp11 hP hD hK hS => ?_)
  subst hp11
  replace hP : va_P D CC ws H := hP
  replace hD : va_D A ws := hD
  refine lv_iconst (v := nI 3) hx hb d_K_endsChunk_14 (by decide) ?_
  refine lv_iand hx hb d_K_endsChunk_15 ?_
  refine lv_if_ne hx hb d_K_endsChunk_16 (tgt := 23) (by decide) (fun hc16 => ?_) (fun hc16 => ?_)
  · skip
    refine lv_iconst (v := nI 0) hx hb d_K_endsChunk_23 (by decide) ?_
    exact k_zret (v := nI 0) hQ hx hb hr hlk hK hP hD hS () rfl (by decide) (by unfold en; simp only [decide_eq_true_eq]; first | rw [if_pos (by assumption)]; rfl | rw [if_neg (by assumption)]; rfl) d_K_endsChunk_24
  · skip
    refine lv_iconst (v := nI 1) hx hb d_K_endsChunk_19 (by decide) ?_
    refine lv_goto hx hb d_K_endsChunk_20 (tgt := 24) (by decide) ?_
    exact k_zret (v := nI 1) hQ hx hb hr hlk hK hP hD hS () rfl (by decide) (by unfold en; simp only [decide_eq_true_eq]; first | rw [if_pos (by assumption)]; rfl | rw [if_neg (by assumption)]; rfl) d_K_endsChunk_24

set_option maxHeartbeats 4000000 in
set_option maxRecDepth 100000 in
theorem c_K_leafOf (l : Launch) (D : va_G) (tk : Nat → ClassId) (sz : Nat) (v : Nat) (r0 : Int32) (ws : va_W) : Met l y_K_leafOf w_K_leafOf ({ frames := 1, cells := 0, slots := 0, locals := 22 }) (va_Pc [.int (nI v), .int r0] (k_pre D (TY tk) sz ws)) (va_Qi (fun (r : Int32) (_ : Unit) => r = lf v r0) (fun u t => k_at D (TY tk) (va_A ws sz) ((fun _ => ws) u) t) (va_A ws sz)) 0 0 (va_A ws sz) := by
  refine k_ofW (fun A => va_Qi (fun (r : Int32) (_ : Unit) => r = lf v r0) (fun u t => k_at D (TY tk) A ((fun _ => ws) u) t) A) (by decide) (Nat.le_of_ble_eq_true rfl) ?_
  intro p e s m args below meth c Q A ls hQ hx hb hr hlk hin hts hT hown hml hnw hP hK hD hA hsz hl
  have hS : va_S A s.heap s.heap [] := va_S.rf
  have hc0 : 0 + 0 ≤ 0 ∧ 0 + 0 ≤ 0 := ⟨by decide, by decide⟩
  replace hl : lv_has ls 2 [(0, .int (nI v)), (1, .int r0)] := hl
  replace hP : va_P D CC ws s.heap := hP
  replace hK : va_K D CC (TY tk) s := hK
  refine lv_bipush (v := nI 7) hx hb d_K_leafOf_0 (by decide) ?_
  refine lv_iload_n hx hb d_K_leafOf_2 rfl (lv_at hl 0 rfl) ?_
  refine k_calli (va_runS (As := [.int (nI 7), .int (nI v)]) (rest := []) ⟨hx, hb, hml, hown, hts⟩ (c_K_mix l D tk s.heap.size (nI 7) (nI v) ws) (cwS 2 hts (gS t_422 t_423 t_1 t_424) rfl rfl rfl (by decide +kernel) ⟨Nat.le_of_ble_eq_true rfl, Nat.le_of_ble_eq_true rfl⟩) (k_preS hP hK hD hnw) rfl rfl hl.1 rfl (lv_room (Nat.le_of_ble_eq_true rfl)) d_K_leafOf_3 hc0) hD hS hA (fun _ _ H locs hp3 hP hD hK hS => ?_)
  subst hp3
  replace hP : va_P D CC ws H := hP
  replace hD : va_D A ws := hD
  refine lv_iload_n hx hb d_K_leafOf_6 rfl (lv_at hl 1 rfl) ?_
  refine k_calli (va_runS (As := [.int (mx (nI 7) (nI v)), .int r0]) (rest := []) ⟨hx, hb, hml, hown, hts⟩ (c_K_mix l D tk H.size (mx (nI 7) (nI v)) r0 ws) (cwS 2 hts (gS t_422 t_423 t_1 t_424) rfl rfl rfl (by decide +kernel) ⟨Nat.le_of_ble_eq_true rfl, Nat.le_of_ble_eq_true rfl⟩) (k_preS hP hK hD hnw) rfl rfl hl.1 rfl (lv_room (Nat.le_of_ble_eq_true rfl)) d_K_leafOf_7 hc0) hD hS hA (fun _ _ H locs hp7 hP hD hK hS => ?_)
  subst hp7
  replace hP : va_P D CC ws H := hP
  replace hD : va_D A ws := hD
  exact k_iret (v := mx (mx (nI 7) (nI v)) r0) hQ hx hb hr hlk hK hP hD hS () rfl rfl d_K_leafOf_10

set_option maxHeartbeats 4000000 in
set_option maxRecDepth 100000 in
theorem c_K_join (l : Launch) (D : va_G) (tk : Nat → ClassId) (sz : Nat) (a b : Int32) (ws : va_W) : Met l y_K_join w_K_join ({ frames := 1, cells := 0, slots := 0, locals := 22 }) (va_Pc [.int a, .int b] (k_pre D (TY tk) sz ws)) (va_Qi (fun (r : Int32) (_ : Unit) => r = jn a b) (fun u t => k_at D (TY tk) (va_A ws sz) ((fun _ => ws) u) t) (va_A ws sz)) 0 0 (va_A ws sz) := by
  refine k_ofW (fun A => va_Qi (fun (r : Int32) (_ : Unit) => r = jn a b) (fun u t => k_at D (TY tk) A ((fun _ => ws) u) t) A) (by decide) (Nat.le_of_ble_eq_true rfl) ?_
  intro p e s m args below meth c Q A ls hQ hx hb hr hlk hin hts hT hown hml hnw hP hK hD hA hsz hl
  have hS : va_S A s.heap s.heap [] := va_S.rf
  have hc0 : 0 + 0 ≤ 0 ∧ 0 + 0 ≤ 0 := ⟨by decide, by decide⟩
  replace hl : lv_has ls 2 [(0, .int a), (1, .int b)] := hl
  replace hP : va_P D CC ws s.heap := hP
  replace hK : va_K D CC (TY tk) s := hK
  refine lv_bipush (v := nI 8) hx hb d_K_join_0 (by decide) ?_
  refine lv_iload_n hx hb d_K_join_2 rfl (lv_at hl 0 rfl) ?_
  refine k_calli (va_runS (As := [.int (nI 8), .int a]) (rest := []) ⟨hx, hb, hml, hown, hts⟩ (c_K_mix l D tk s.heap.size (nI 8) a ws) (cwS 2 hts (gS t_422 t_423 t_1 t_424) rfl rfl rfl (by decide +kernel) ⟨Nat.le_of_ble_eq_true rfl, Nat.le_of_ble_eq_true rfl⟩) (k_preS hP hK hD hnw) rfl rfl hl.1 rfl (lv_room (Nat.le_of_ble_eq_true rfl)) d_K_join_3 hc0) hD hS hA (fun _ _ H locs hp3 hP hD hK hS => ?_)
  subst hp3
  replace hP : va_P D CC ws H := hP
  replace hD : va_D A ws := hD
  refine lv_iload_n hx hb d_K_join_6 rfl (lv_at hl 1 rfl) ?_
  refine k_calli (va_runS (As := [.int (mx (nI 8) a), .int b]) (rest := []) ⟨hx, hb, hml, hown, hts⟩ (c_K_mix l D tk H.size (mx (nI 8) a) b ws) (cwS 2 hts (gS t_422 t_423 t_1 t_424) rfl rfl rfl (by decide +kernel) ⟨Nat.le_of_ble_eq_true rfl, Nat.le_of_ble_eq_true rfl⟩) (k_preS hP hK hD hnw) rfl rfl hl.1 rfl (lv_room (Nat.le_of_ble_eq_true rfl)) d_K_join_7 hc0) hD hS hA (fun _ _ H locs hp7 hP hD hK hS => ?_)
  subst hp7
  replace hP : va_P D CC ws H := hP
  replace hD : va_D A ws := hD
  exact k_iret (v := mx (mx (nI 8) a) b) hQ hx hb hr hlk hK hP hD hS () rfl rfl d_K_join_10

set_option maxHeartbeats 4000000 in
set_option maxRecDepth 100000 in
theorem c_K_half (l : Launch) (D : va_G) (tk : Nat → ClassId) (sz : Nat) (n : Nat) (hn : n ≤ 16) (ws : va_W) : Met l y_K_half w_K_half ({ frames := 0, cells := 0, slots := 0, locals := 0 }) (va_Pc [.int (nI n)] (k_pre D (TY tk) sz ws)) (va_Qi (fun (r : Int32) (_ : Unit) => r = nI (hf n)) (fun u t => k_at D (TY tk) (va_A ws sz) ((fun _ => ws) u) t) (va_A ws sz)) 0 0 (va_A ws sz) := by
  refine k_ofW (fun A => va_Qi (fun (r : Int32) (_ : Unit) => r = nI (hf n)) (fun u t => k_at D (TY tk) A ((fun _ => ws) u) t) A) (by decide) (Nat.le_of_ble_eq_true rfl) ?_
  intro p e s m args below meth c Q A ls hQ hx hb hr hlk hin hts hT hown hml hnw hP hK hD hA hsz hl
  have hS : va_S A s.heap s.heap [] := va_S.rf
  have hc0 : 0 + 0 ≤ 0 ∧ 0 + 0 ≤ 0 := ⟨by decide, by decide⟩
  replace hl : lv_has ls 2 [(0, .int (nI n))] := hl
  replace hP : va_P D CC ws s.heap := hP
  replace hK : va_K D CC (TY tk) s := hK
  refine lv_iconst (v := nI 1) hx hb d_K_half_0 (by decide) ?_
  refine lv_istore_n (lv' := [(1, .int (nI 1)), (0, .int (nI n))]) hx hb d_K_half_1 rfl hl (by decide) rfl (fun ls hl => ?_)
  refine lv_iload_n hx hb d_K_half_2 rfl (lv_at hl 0 rfl) ?_
  refine lv_iconst (v := nI 2) hx hb d_K_half_3 (by decide) ?_
  refine st_imul hx hb d_K_half_4 ?_
  refine lv_iload_n hx hb d_K_half_5 rfl (lv_at hl 1 rfl) ?_
  refine st_icmp_ge hx hb (by omega) (by omega) d_K_half_6 (tgt := 22) (by decide) (fun hc6 => ?_) (fun hc6 => ?_)
  · skip
    refine lv_iload_n hx hb d_K_half_22 rfl (lv_at hl 0 rfl) ?_
    exact k_iret (v := nI 1) hQ hx hb hr hlk hK hP hD hS () rfl (congrArg nI (by unfold hf; repeat (first | rw [if_pos (by omega)] | rw [if_neg (by omega)]))) d_K_half_23
  · skip
    refine lv_iload_n hx hb d_K_half_9 rfl (lv_at hl 0 rfl) ?_
    refine lv_bipush (v := nI 16) hx hb d_K_half_10 (by decide) ?_
    refine st_icmp_ge hx hb (by omega) (by omega) d_K_half_12 (tgt := 22) (by decide) (fun hc12 => (by exfalso; first | exact hc12 | omega)) (fun hc12 => ?_)
    refine lv_iload_n hx hb d_K_half_15 rfl (lv_at hl 0 rfl) ?_
    refine lv_iconst (v := nI 2) hx hb d_K_half_16 (by decide) ?_
    refine st_imul hx hb d_K_half_17 ?_
    refine lv_istore_n (lv' := [(1, .int (nI 2)), (0, .int (nI n))]) hx hb d_K_half_18 rfl hl (by decide) rfl (fun ls hl => ?_)
    refine lv_goto hx hb d_K_half_19 (tgt := 2) (by decide) ?_
    refine lv_iload_n hx hb d_K_half_2 rfl (lv_at hl 0 rfl) ?_
    refine lv_iconst (v := nI 2) hx hb d_K_half_3 (by decide) ?_
    refine st_imul hx hb d_K_half_4 ?_
    refine lv_iload_n hx hb d_K_half_5 rfl (lv_at hl 1 rfl) ?_
    refine st_icmp_ge hx hb (by omega) (by omega) d_K_half_6 (tgt := 22) (by decide) (fun hc6 => ?_) (fun hc6 => ?_)
    · skip
      refine lv_iload_n hx hb d_K_half_22 rfl (lv_at hl 0 rfl) ?_
      exact k_iret (v := nI 2) hQ hx hb hr hlk hK hP hD hS () rfl (congrArg nI (by unfold hf; repeat (first | rw [if_pos (by omega)] | rw [if_neg (by omega)]))) d_K_half_23
    · skip
      refine lv_iload_n hx hb d_K_half_9 rfl (lv_at hl 0 rfl) ?_
      refine lv_bipush (v := nI 16) hx hb d_K_half_10 (by decide) ?_
      refine st_icmp_ge hx hb (by omega) (by omega) d_K_half_12 (tgt := 22) (by decide) (fun hc12 => (by exfalso; first | exact hc12 | omega)) (fun hc12 => ?_)
      refine lv_iload_n hx hb d_K_half_15 rfl (lv_at hl 0 rfl) ?_
      refine lv_iconst (v := nI 2) hx hb d_K_half_16 (by decide) ?_
      refine st_imul hx hb d_K_half_17 ?_
      refine lv_istore_n (lv' := [(1, .int (nI 4)), (0, .int (nI n))]) hx hb d_K_half_18 rfl hl (by decide) rfl (fun ls hl => ?_)
      refine lv_goto hx hb d_K_half_19 (tgt := 2) (by decide) ?_
      refine lv_iload_n hx hb d_K_half_2 rfl (lv_at hl 0 rfl) ?_
      refine lv_iconst (v := nI 2) hx hb d_K_half_3 (by decide) ?_
      refine st_imul hx hb d_K_half_4 ?_
      refine lv_iload_n hx hb d_K_half_5 rfl (lv_at hl 1 rfl) ?_
      refine st_icmp_ge hx hb (by omega) (by omega) d_K_half_6 (tgt := 22) (by decide) (fun hc6 => ?_) (fun hc6 => ?_)
      · skip
        refine lv_iload_n hx hb d_K_half_22 rfl (lv_at hl 0 rfl) ?_
        exact k_iret (v := nI 4) hQ hx hb hr hlk hK hP hD hS () rfl (congrArg nI (by unfold hf; repeat (first | rw [if_pos (by omega)] | rw [if_neg (by omega)]))) d_K_half_23
      · skip
        refine lv_iload_n hx hb d_K_half_9 rfl (lv_at hl 0 rfl) ?_
        refine lv_bipush (v := nI 16) hx hb d_K_half_10 (by decide) ?_
        refine st_icmp_ge hx hb (by omega) (by omega) d_K_half_12 (tgt := 22) (by decide) (fun hc12 => (by exfalso; first | exact hc12 | omega)) (fun hc12 => ?_)
        refine lv_iload_n hx hb d_K_half_15 rfl (lv_at hl 0 rfl) ?_
        refine lv_iconst (v := nI 2) hx hb d_K_half_16 (by decide) ?_
        refine st_imul hx hb d_K_half_17 ?_
        refine lv_istore_n (lv' := [(1, .int (nI 8)), (0, .int (nI n))]) hx hb d_K_half_18 rfl hl (by decide) rfl (fun ls hl => ?_)
        refine lv_goto hx hb d_K_half_19 (tgt := 2) (by decide) ?_
        refine lv_iload_n hx hb d_K_half_2 rfl (lv_at hl 0 rfl) ?_
        refine lv_iconst (v := nI 2) hx hb d_K_half_3 (by decide) ?_
        refine st_imul hx hb d_K_half_4 ?_
        refine lv_iload_n hx hb d_K_half_5 rfl (lv_at hl 1 rfl) ?_
        refine st_icmp_ge hx hb (by omega) (by omega) d_K_half_6 (tgt := 22) (by decide) (fun hc6 => ?_) (fun hc6 => absurd hc6 (by omega))
        refine lv_iload_n hx hb d_K_half_22 rfl (lv_at hl 0 rfl) ?_
        exact k_iret (v := nI 8) hQ hx hb hr hlk hK hP hD hS () rfl (congrArg nI (by unfold hf; repeat (first | rw [if_pos (by omega)] | rw [if_neg (by omega)]))) d_K_half_23

set_option maxHeartbeats 4000000 in
set_option maxRecDepth 100000 in
theorem c_K_chunks (l : Launch) (D : va_G) (tk : Nat → ClassId) (sz : Nat) (ad : Nat → Nat) (g : Nat → Nat → Int32) (rr : Nat → Nat → Option Nat) (tl : va_W)  : Met l y_K_chunks w_K_chunks ({ frames := 0, cells := 0, slots := 0, locals := 0 }) (va_Pc [.ref (ad 0)] (k_pre D (TY tk) sz (wC tk ad g rr ++ tl))) (va_Qi (fun (r : Int32) (_ : Unit) => r = g 0 0) (fun u t => k_at D (TY tk) (va_A (wC tk ad g rr ++ tl) sz) ((fun _ => wC tk ad g rr ++ tl) u) t) (va_A (wC tk ad g rr ++ tl) sz)) 0 0 (va_A (wC tk ad g rr ++ tl) sz) := by
  refine k_ofW (fun A => va_Qi (fun (r : Int32) (_ : Unit) => r = g 0 0) (fun u t => k_at D (TY tk) A ((fun _ => wC tk ad g rr ++ tl) u) t) A) (by decide) (Nat.le_of_ble_eq_true rfl) ?_
  intro p e s m args below meth c Q A ls hQ hx hb hr hlk hin hts hT hown hml hnw hP hK hD hA hsz hl
  have hS : va_S A s.heap s.heap [] := va_S.rf
  have hc0 : 0 + 0 ≤ 0 ∧ 0 + 0 ≤ 0 := ⟨by decide, by decide⟩
  replace hl : lv_has ls 1 [(0, .ref (ad 0))] := hl
  replace hP : va_P D CC (wC tk ad g rr ++ tl) s.heap := hP
  replace hK : va_K D CC (TY tk) s := hK
  refine lv_aload_n hx hb d_K_chunks_0 rfl (lv_at hl 0 rfl) ?_
  refine gf_K_10 (v := .ref (ad 1)) hx hb hT hown hK hP 0 rfl rfl d_K_chunks_1 ?_
  refine gf_K_103 (v := .int (g 0 0)) hx hb hT hown hK hP 1 rfl rfl d_K_chunks_4 ?_
  exact k_iret (v := g 0 0) hQ hx hb hr hlk hK hP hD hS () rfl rfl d_K_chunks_7

set_option maxHeartbeats 4000000 in
set_option maxRecDepth 100000 in
theorem c_K_versions (l : Launch) (D : va_G) (tk : Nat → ClassId) (sz : Nat) (ad : Nat → Nat) (g : Nat → Nat → Int32) (rr : Nat → Nat → Option Nat) (tl : va_W)  : Met l y_K_versions w_K_versions ({ frames := 0, cells := 0, slots := 0, locals := 0 }) (va_Pc [.ref (ad 0)] (k_pre D (TY tk) sz (wC tk ad g rr ++ tl))) (va_Qi (fun (r : Int32) (_ : Unit) => r = g 2 0) (fun u t => k_at D (TY tk) (va_A (wC tk ad g rr ++ tl) sz) ((fun _ => wC tk ad g rr ++ tl) u) t) (va_A (wC tk ad g rr ++ tl) sz)) 0 0 (va_A (wC tk ad g rr ++ tl) sz) := by
  refine k_ofW (fun A => va_Qi (fun (r : Int32) (_ : Unit) => r = g 2 0) (fun u t => k_at D (TY tk) A ((fun _ => wC tk ad g rr ++ tl) u) t) A) (by decide) (Nat.le_of_ble_eq_true rfl) ?_
  intro p e s m args below meth c Q A ls hQ hx hb hr hlk hin hts hT hown hml hnw hP hK hD hA hsz hl
  have hS : va_S A s.heap s.heap [] := va_S.rf
  have hc0 : 0 + 0 ≤ 0 ∧ 0 + 0 ≤ 0 := ⟨by decide, by decide⟩
  replace hl : lv_has ls 1 [(0, .ref (ad 0))] := hl
  replace hP : va_P D CC (wC tk ad g rr ++ tl) s.heap := hP
  replace hK : va_K D CC (TY tk) s := hK
  refine lv_aload_n hx hb d_K_versions_0 rfl (lv_at hl 0 rfl) ?_
  refine gf_K_19 (v := .ref (ad 3)) hx hb hT hown hK hP 0 rfl rfl d_K_versions_1 ?_
  refine gf_K_89 (v := .int (g 2 0)) hx hb hT hown hK hP 3 rfl rfl d_K_versions_4 ?_
  exact k_iret (v := g 2 0) hQ hx hb hr hlk hK hP hD hS () rfl rfl d_K_versions_7

set_option maxHeartbeats 4000000 in
set_option maxRecDepth 100000 in
theorem c_K_shown (l : Launch) (D : va_G) (tk : Nat → ClassId) (sz : Nat) (ad : Nat → Nat) (g : Nat → Nat → Int32) (rr : Nat → Nat → Option Nat) (tl : va_W)  : Met l y_K_shown w_K_shown ({ frames := 0, cells := 0, slots := 0, locals := 0 }) (va_Pc [.ref (ad 0)] (k_pre D (TY tk) sz (wC tk ad g rr ++ tl))) (va_Qi (fun (r : Int32) (_ : Unit) => r = g 10 0) (fun u t => k_at D (TY tk) (va_A (wC tk ad g rr ++ tl) sz) ((fun _ => wC tk ad g rr ++ tl) u) t) (va_A (wC tk ad g rr ++ tl) sz)) 0 0 (va_A (wC tk ad g rr ++ tl) sz) := by
  refine k_ofW (fun A => va_Qi (fun (r : Int32) (_ : Unit) => r = g 10 0) (fun u t => k_at D (TY tk) A ((fun _ => wC tk ad g rr ++ tl) u) t) A) (by decide) (Nat.le_of_ble_eq_true rfl) ?_
  intro p e s m args below meth c Q A ls hQ hx hb hr hlk hin hts hT hown hml hnw hP hK hD hA hsz hl
  have hS : va_S A s.heap s.heap [] := va_S.rf
  have hc0 : 0 + 0 ≤ 0 ∧ 0 + 0 ≤ 0 := ⟨by decide, by decide⟩
  replace hl : lv_has ls 1 [(0, .ref (ad 0))] := hl
  replace hP : va_P D CC (wC tk ad g rr ++ tl) s.heap := hP
  replace hK : va_K D CC (TY tk) s := hK
  refine lv_aload_n hx hb d_K_shown_0 rfl (lv_at hl 0 rfl) ?_
  refine gf_K_47 (v := .ref (ad 15)) hx hb hT hown hK hP 0 rfl rfl d_K_shown_1 ?_
  refine gf_K_189 (v := .int (g 10 0)) hx hb hT hown hK hP 15 rfl rfl d_K_shown_4 ?_
  exact k_iret (v := g 10 0) hQ hx hb hr hlk hK hP hD hS () rfl rfl d_K_shown_7

set_option maxHeartbeats 4000000 in
set_option maxRecDepth 100000 in
theorem c_K_fail (l : Launch) (D : va_G) (tk : Nat → ClassId) (sz : Nat) (ad : Nat → Nat) (g : Nat → Nat → Int32) (rr : Nat → Nat → Option Nat) (tl : va_W) (n : Int32) : Met l y_K_fail w_K_fail ({ frames := 0, cells := 0, slots := 0, locals := 0 }) (va_Pc [.ref (ad 0), .int n] (k_pre D (TY tk) sz (wC tk ad g rr ++ tl))) (va_Qi (fun (r : Int32) (_ : Unit) => r = if n < nI 1 ∨ nI 40 < n then nI 0 else nI 1) (fun u t => k_at D (TY tk) (va_A (wC tk ad g rr ++ tl) sz) ((fun _ => wC tk ad (if n < nI 1 ∨ nI 40 < n then g else mup g 1 0 n) rr ++ tl) u) t) (va_A (wC tk ad g rr ++ tl) sz)) 0 0 (va_A (wC tk ad g rr ++ tl) sz) := by
  refine k_ofW (fun A => va_Qi (fun (r : Int32) (_ : Unit) => r = if n < nI 1 ∨ nI 40 < n then nI 0 else nI 1) (fun u t => k_at D (TY tk) A ((fun _ => wC tk ad (if n < nI 1 ∨ nI 40 < n then g else mup g 1 0 n) rr ++ tl) u) t) A) (by decide) (Nat.le_of_ble_eq_true rfl) ?_
  intro p e s m args below meth c Q A ls hQ hx hb hr hlk hin hts hT hown hml hnw hP hK hD hA hsz hl
  have hS : va_S A s.heap s.heap [] := va_S.rf
  have hc0 : 0 + 0 ≤ 0 ∧ 0 + 0 ≤ 0 := ⟨by decide, by decide⟩
  replace hl : lv_has ls 2 [(0, .ref (ad 0)), (1, .int n)] := hl
  replace hP : va_P D CC (wC tk ad g rr ++ tl) s.heap := hP
  replace hK : va_K D CC (TY tk) s := hK
  refine lv_iload_n hx hb d_K_fail_0 rfl (lv_at hl 1 rfl) ?_
  refine lv_iconst (v := nI 1) hx hb d_K_fail_1 (by decide) ?_
  refine lv_icmp_lt hx hb d_K_fail_2 (tgt := 11) (by decide) (fun hc2 => ?_) (fun hc2 => ?_)
  · skip
    have hn9 : n < nI 1 ∨ nI 40 < n := Or.inl hc2
    refine lv_iconst (v := nI 0) hx hb d_K_fail_11 (by decide) ?_
    exact k_zret (v := nI 0) hQ hx hb hr hlk hK hP hD hS () (by (iterate 4 (try (first | rw [if_pos (by assumption)] | rw [if_neg (by assumption)]))); try rfl) (by decide) (by (iterate 4 (try (first | rw [if_pos (by assumption)] | rw [if_neg (by assumption)]))); try rfl) d_K_fail_12
  · skip
    refine lv_iload_n hx hb d_K_fail_5 rfl (lv_at hl 1 rfl) ?_
    refine lv_bipush (v := nI 40) hx hb d_K_fail_6 (by decide) ?_
    refine lv_icmp_le hx hb d_K_fail_8 (tgt := 13) (by decide) (fun hc8 => ?_) (fun hc8 => ?_)
    · skip
      have hn9 : ¬ (n < nI 1 ∨ nI 40 < n) := fun q => q.elim hc2 (fun q => absurd q (Int32.not_lt.mpr hc8))
      refine lv_aload_n hx hb d_K_fail_13 rfl (lv_at hl 0 rfl) ?_
      refine gf_K_10 (v := .ref (ad 1)) hx hb hT hown hK hP 0 rfl rfl d_K_fail_14 ?_
      refine lv_iload_n hx hb d_K_fail_17 rfl (lv_at hl 1 rfl) ?_
      refine pf_K_100 hx hb hT hown hK hP hD hS 1 rfl (Nat.le_of_ble_eq_true rfl) d_K_fail_18 (fun H locs hP hD hS => ?_)
      replace hP : va_P D CC (wC tk ad (mup g 1 0 n) rr ++ tl) H := Eq.mp (congrArg (fun w => va_P D CC w H) (sC_1_2 tk ad g rr tl n)) hP
      replace hD : va_D A (wC tk ad (mup g 1 0 n) rr ++ tl) := Eq.mp (congrArg (fun w => va_D A w) (sC_1_2 tk ad g rr tl n)) hD
      refine lv_iconst (v := nI 1) hx hb d_K_fail_21 (by decide) ?_
      exact k_zret (v := nI 1) hQ hx hb hr hlk hK hP hD hS () (by (iterate 4 (try (first | rw [if_pos (by assumption)] | rw [if_neg (by assumption)]))); try rfl) (by decide) (by (iterate 4 (try (first | rw [if_pos (by assumption)] | rw [if_neg (by assumption)]))); try rfl) d_K_fail_22
    · skip
      have hn9 : n < nI 1 ∨ nI 40 < n := Or.inr (Int32.not_le.mp hc8)
      refine lv_iconst (v := nI 0) hx hb d_K_fail_11 (by decide) ?_
      exact k_zret (v := nI 0) hQ hx hb hr hlk hK hP hD hS () (by (iterate 4 (try (first | rw [if_pos (by assumption)] | rw [if_neg (by assumption)]))); try rfl) (by decide) (by (iterate 4 (try (first | rw [if_pos (by assumption)] | rw [if_neg (by assumption)]))); try rfl) d_K_fail_12

set_option maxHeartbeats 4000000 in
set_option maxRecDepth 100000 in
theorem c_S_write (l : Launch) (D : va_G) (tk : Nat → ClassId) (sz : Nat) (ad : Nat → Nat) (g : Nat → Nat → Int32) (rr : Nat → Nat → Option Nat) (tl : va_W) (f : Nat) (hf : f ≤ 40) (hg : g 1 0 = nI f) : Met l y_S_write w_S_write ({ frames := 0, cells := 0, slots := 0, locals := 0 }) (va_Pc [.ref (ad 1)] (k_pre D (TY tk) sz (wC tk ad g rr ++ tl))) (va_Qi (fun (r : Int32) (_ : Unit) => r = wrZ f) (fun u t => k_at D (TY tk) (va_A (wC tk ad g rr ++ tl) sz) ((fun _ => wC tk ad (mup g 1 0 (nI (wr f).2)) rr ++ tl) u) t) (va_A (wC tk ad g rr ++ tl) sz)) 0 0 (va_A (wC tk ad g rr ++ tl) sz) := by
  refine k_ofW (fun A => va_Qi (fun (r : Int32) (_ : Unit) => r = wrZ f) (fun u t => k_at D (TY tk) A ((fun _ => wC tk ad (mup g 1 0 (nI (wr f).2)) rr ++ tl) u) t) A) (by decide) (Nat.le_of_ble_eq_true rfl) ?_
  intro p e s m args below meth c Q A ls hQ hx hb hr hlk hin hts hT hown hml hnw hP hK hD hA hsz hl
  have hS : va_S A s.heap s.heap [] := va_S.rf
  have hc0 : 0 + 0 ≤ 0 ∧ 0 + 0 ≤ 0 := ⟨by decide, by decide⟩
  replace hl : lv_has ls 1 [(0, .ref (ad 1))] := hl
  replace hP : va_P D CC (wC tk ad g rr ++ tl) s.heap := hP
  replace hK : va_K D CC (TY tk) s := hK
  refine lv_aload_n hx hb d_S_write_0 rfl (lv_at hl 0 rfl) ?_
  refine gf_S_21 (v := .int (g 1 0)) hx hb hT hown hK hP 1 rfl rfl d_S_write_1 ?_
  refine st_top (show g 1 0 = nI f from hg) ?_
  refine st_if_ne hx hb (by omega) d_S_write_4 (tgt := 9) (by decide) (fun hc4 => ?_) (fun hc4 => ?_)
  · skip
    refine lv_aload_n hx hb d_S_write_9 rfl (lv_at hl 0 rfl) ?_
    refine lv_dup hx hb d_S_write_10 rfl ?_
    refine gf_S_21 (v := .int (g 1 0)) hx hb hT hown hK hP 1 rfl rfl d_S_write_11 ?_
    refine st_top (show g 1 0 = nI f from hg) ?_
    refine lv_iconst (v := nI 1) hx hb d_S_write_14 (by decide) ?_
    refine st_isub hx hb (by omega) d_S_write_15 ?_
    refine pf_S_21 hx hb hT hown hK hP hD hS 1 rfl (Nat.le_of_ble_eq_true rfl) d_S_write_16 (fun H locs hP hD hS => ?_)
    replace hP : va_P D CC (wC tk ad (mup g 1 0 (nI (f - 1))) rr ++ tl) H := Eq.mp (congrArg (fun w => va_P D CC w H) (sC_1_2 tk ad g rr tl (nI (f - 1)))) hP
    replace hD : va_D A (wC tk ad (mup g 1 0 (nI (f - 1))) rr ++ tl) := Eq.mp (congrArg (fun w => va_D A w) (sC_1_2 tk ad g rr tl (nI (f - 1)))) hD
    refine lv_aload_n hx hb d_S_write_19 rfl (lv_at hl 0 rfl) ?_
    refine gf_S_21 (v := .int ((mup g 1 0 (nI (f - 1))) 1 0)) hx hb hT hown hK hP 1 rfl rfl d_S_write_20 ?_
    refine st_top (show (mup g 1 0 (nI (f - 1))) 1 0 = nI (f - 1) from rd_eq) ?_
    refine st_if_le hx hb (by omega) d_S_write_23 (tgt := 30) (by decide) (fun hc23 => ?_) (fun hc23 => ?_)
    · skip
      refine lv_iconst (v := nI 0) hx hb d_S_write_30 (by decide) ?_
      exact k_zret (v := nI 0) hQ hx hb hr hlk hK hP hD hS () (by rw [show nI (wr f).2 = nI (f - 1) from congrArg nI (by unfold wr; split <;> simp <;> omega)]) (by decide) (by unfold wrZ; rw [if_neg (by unfold wr; split <;> simp <;> omega)]) d_S_write_31
    · skip
      refine lv_iconst (v := nI 1) hx hb d_S_write_26 (by decide) ?_
      refine lv_goto hx hb d_S_write_27 (tgt := 31) (by decide) ?_
      exact k_zret (v := nI 1) hQ hx hb hr hlk hK hP hD hS () (by rw [show nI (wr f).2 = nI (f - 1) from congrArg nI (by unfold wr; split <;> simp <;> omega)]) (by decide) (by unfold wrZ; rw [if_pos (by unfold wr; split <;> simp <;> omega)]) d_S_write_31
  · skip
    refine lv_iconst (v := nI 1) hx hb d_S_write_7 (by decide) ?_
    exact k_zret (v := nI 1) hQ hx hb hr hlk hK hP hD hS () (by rw [show (wr f).2 = f by unfold wr; split <;> simp <;> omega, ← hg]; exact congrArg (fun z => wC tk ad z rr ++ tl) (mup_same g 1 0)) (by decide) (by unfold wrZ; rw [if_pos (by unfold wr; split <;> simp <;> omega)]) d_S_write_8

set_option maxHeartbeats 4000000 in
set_option maxRecDepth 100000 in
theorem c_T_set (l : Launch) (D : va_G) (tk : Nat → ClassId) (sz : Nat) (ad : Nat → Nat) (g : Nat → Nat → Int32) (rr : Nat → Nat → Option Nat) (tl : va_W) (k : Nat) (hk : k < 48) (v : Int32) : Met l y_T_set w_T_set ({ frames := 0, cells := 0, slots := 0, locals := 0 }) (va_Pc [.ref (ad 5), .int (nI k), .int v] (k_pre D (TY tk) sz (wC tk ad g rr ++ tl))) (va_Qv (fun (_ : Unit) => True) (fun u t => k_at D (TY tk) (va_A (wC tk ad g rr ++ tl) sz) ((fun _ => wC tk ad (mup (mup g 3 k (nI 1)) 4 k v) rr ++ tl) u) t) (va_A (wC tk ad g rr ++ tl) sz)) 0 0 (va_A (wC tk ad g rr ++ tl) sz) := by
  refine k_ofW (fun A => va_Qv (fun (_ : Unit) => True) (fun u t => k_at D (TY tk) A ((fun _ => wC tk ad (mup (mup g 3 k (nI 1)) 4 k v) rr ++ tl) u) t) A) (by decide) (Nat.le_of_ble_eq_true rfl) ?_
  intro p e s m args below meth c Q A ls hQ hx hb hr hlk hin hts hT hown hml hnw hP hK hD hA hsz hl
  have hS : va_S A s.heap s.heap [] := va_S.rf
  have hc0 : 0 + 0 ≤ 0 ∧ 0 + 0 ≤ 0 := ⟨by decide, by decide⟩
  replace hl : lv_has ls 3 [(0, .ref (ad 5)), (1, .int (nI k)), (2, .int v)] := hl
  replace hP : va_P D CC (wC tk ad g rr ++ tl) s.heap := hP
  replace hK : va_K D CC (TY tk) s := hK
  refine lv_aload_n hx hb d_T_set_0 rfl (lv_at hl 0 rfl) ?_
  refine gf_T_9 (v := .ref (ad 6)) hx hb hT hown hK hP 5 rfl rfl d_T_set_1 ?_
  refine lv_iload_n hx hb d_T_set_4 rfl (lv_at hl 1 rfl) ?_
  refine lv_iconst (v := nI 1) hx hb d_T_set_5 (by decide) ?_
  refine st_zast hx hb hK hP hD hS 6 1 rfl rfl (by decide) (by omega) (by decide) d_T_set_6 (fun H locs hP hD hS => ?_)
  replace hP : va_P D CC (wC tk ad (mup g 3 k (nI 1)) rr ++ tl) H := Eq.mp (congrArg (fun w => va_P D CC w H) (sC_6 tk ad g rr tl k (nI 1))) hP
  replace hD : va_D A (wC tk ad (mup g 3 k (nI 1)) rr ++ tl) := Eq.mp (congrArg (fun w => va_D A w) (sC_6 tk ad g rr tl k (nI 1))) hD
  refine lv_aload_n hx hb d_T_set_7 rfl (lv_at hl 0 rfl) ?_
  refine gf_T_15 (v := .ref (ad 7)) hx hb hT hown hK hP 5 rfl rfl d_T_set_8 ?_
  refine lv_iload_n hx hb d_T_set_11 rfl (lv_at hl 1 rfl) ?_
  refine lv_iload_n hx hb d_T_set_12 rfl (lv_at hl 2 rfl) ?_
  refine st_iast hx hb hK hP hD hS 7 0 rfl rfl (by omega) (by decide) d_T_set_13 (fun H locs hP hD hS => ?_)
  replace hP : va_P D CC (wC tk ad (mup (mup g 3 k (nI 1)) 4 k v) rr ++ tl) H := Eq.mp (congrArg (fun w => va_P D CC w H) (sC_7 tk ad (mup g 3 k (nI 1)) rr tl k v)) hP
  replace hD : va_D A (wC tk ad (mup (mup g 3 k (nI 1)) 4 k v) rr ++ tl) := Eq.mp (congrArg (fun w => va_D A w) (sC_7 tk ad (mup g 3 k (nI 1)) rr tl k v)) hD
  exact k_vret hQ hx hb hr hlk hK hP hD hS () rfl trivial d_T_set_14

set_option maxHeartbeats 4000000 in
set_option maxRecDepth 100000 in
theorem c_T_unset (l : Launch) (D : va_G) (tk : Nat → ClassId) (sz : Nat) (ad : Nat → Nat) (g : Nat → Nat → Int32) (rr : Nat → Nat → Option Nat) (tl : va_W) (hz : bz (g 3)) (k : Nat) (hk : k < 48) : Met l y_T_unset w_T_unset ({ frames := 0, cells := 0, slots := 0, locals := 0 }) (va_Pc [.ref (ad 5), .int (nI k)] (k_pre D (TY tk) sz (wC tk ad g rr ++ tl))) (va_Qi (fun (r : Int32) (_ : Unit) => r = g 3 k) (fun u t => k_at D (TY tk) (va_A (wC tk ad g rr ++ tl) sz) ((fun _ => wC tk ad (mup g 3 k (nI 0)) rr ++ tl) u) t) (va_A (wC tk ad g rr ++ tl) sz)) 0 0 (va_A (wC tk ad g rr ++ tl) sz) := by
  refine k_ofW (fun A => va_Qi (fun (r : Int32) (_ : Unit) => r = g 3 k) (fun u t => k_at D (TY tk) A ((fun _ => wC tk ad (mup g 3 k (nI 0)) rr ++ tl) u) t) A) (by decide) (Nat.le_of_ble_eq_true rfl) ?_
  intro p e s m args below meth c Q A ls hQ hx hb hr hlk hin hts hT hown hml hnw hP hK hD hA hsz hl
  have hS : va_S A s.heap s.heap [] := va_S.rf
  have hc0 : 0 + 0 ≤ 0 ∧ 0 + 0 ≤ 0 := ⟨by decide, by decide⟩
  replace hl : lv_has ls 3 [(0, .ref (ad 5)), (1, .int (nI k))] := hl
  replace hP : va_P D CC (wC tk ad g rr ++ tl) s.heap := hP
  replace hK : va_K D CC (TY tk) s := hK
  refine lv_aload_n hx hb d_T_unset_0 rfl (lv_at hl 0 rfl) ?_
  refine gf_T_9 (v := .ref (ad 6)) hx hb hT hown hK hP 5 rfl rfl d_T_unset_1 ?_
  refine lv_iload_n hx hb d_T_unset_4 rfl (lv_at hl 1 rfl) ?_
  refine st_zald hx hb hK hP 6 1 rfl rfl (by omega) (by decide) d_T_unset_5 ?_
  refine lv_istore_n (lv' := [(2, .int (g 3 k)), (0, .ref (ad 5)), (1, .int (nI k))]) hx hb d_T_unset_6 rfl hl (by decide) rfl (fun ls hl => ?_)
  refine lv_aload_n hx hb d_T_unset_7 rfl (lv_at hl 1 rfl) ?_
  refine gf_T_9 (v := .ref (ad 6)) hx hb hT hown hK hP 5 rfl rfl d_T_unset_8 ?_
  refine lv_iload_n hx hb d_T_unset_11 rfl (lv_at hl 2 rfl) ?_
  refine lv_iconst (v := nI 0) hx hb d_T_unset_12 (by decide) ?_
  refine st_zast hx hb hK hP hD hS 6 1 rfl rfl (by decide) (by omega) (by decide) d_T_unset_13 (fun H locs hP hD hS => ?_)
  replace hP : va_P D CC (wC tk ad (mup g 3 k (nI 0)) rr ++ tl) H := Eq.mp (congrArg (fun w => va_P D CC w H) (sC_6 tk ad g rr tl k (nI 0))) hP
  replace hD : va_D A (wC tk ad (mup g 3 k (nI 0)) rr ++ tl) := Eq.mp (congrArg (fun w => va_D A w) (sC_6 tk ad g rr tl k (nI 0))) hD
  refine lv_iload_n hx hb d_T_unset_14 rfl (lv_at hl 0 rfl) ?_
  exact k_zret (v := g 3 k) hQ hx hb hr hlk hK hP hD hS () rfl (by rcases hz k with q | q <;> rw [q] <;> decide) rfl d_T_unset_15

set_option maxHeartbeats 4000000 in
set_option maxRecDepth 100000 in
theorem c_R_set (l : Launch) (D : va_G) (tk : Nat → ClassId) (sz : Nat) (ad : Nat → Nat) (g : Nat → Nat → Int32) (rr : Nat → Nat → Option Nat) (tl : va_W) (k : Nat) (hk : k < 48) (key v : Int32) (x : Option Nat) (hx9 : ∀ v, x = some v → ∃ (qk : Nat) (vs : List Value), tl[qk]? = some (v, .inr (1, vs))) : Met l y_R_set w_R_set ({ frames := 0, cells := 0, slots := 0, locals := 0 }) (va_Pc [.ref (ad 8), .int (nI k), .int key, .int v, va_rf x] (k_pre D (TY tk) sz (wC tk ad g rr ++ tl))) (va_Qv (fun (_ : Unit) => True) (fun u t => k_at D (TY tk) (va_A (wC tk ad g rr ++ tl) sz) ((fun _ => wC tk ad (mup (mup g 6 k key) 7 k v) (rup rr 2 k x) ++ tl) u) t) (va_A (wC tk ad g rr ++ tl) sz)) 0 0 (va_A (wC tk ad g rr ++ tl) sz) := by
  refine k_ofW (fun A => va_Qv (fun (_ : Unit) => True) (fun u t => k_at D (TY tk) A ((fun _ => wC tk ad (mup (mup g 6 k key) 7 k v) (rup rr 2 k x) ++ tl) u) t) A) (by decide) (by cases x <;> exact Nat.le_of_ble_eq_true rfl) ?_
  intro p e s m args below meth c Q A ls hQ hx hb hr hlk hin hts hT hown hml hnw hP hK hD hA hsz hl
  have hS : va_S A s.heap s.heap [] := va_S.rf
  have hc0 : 0 + 0 ≤ 0 ∧ 0 + 0 ≤ 0 := ⟨by decide, by decide⟩
  replace hl : lv_has ls 5 [(0, .ref (ad 8)), (1, .int (nI k)), (2, .int key), (3, .int v), (4, va_rf x)] := by cases x <;> exact hl
  replace hP : va_P D CC (wC tk ad g rr ++ tl) s.heap := hP
  replace hK : va_K D CC (TY tk) s := hK
  refine lv_aload_n hx hb d_R_set_0 rfl (lv_at hl 0 rfl) ?_
  refine gf_R_9 (v := .ref (ad 9)) hx hb hT hown hK hP 8 rfl rfl d_R_set_1 ?_
  refine lv_iload_n hx hb d_R_set_4 rfl (lv_at hl 1 rfl) ?_
  refine lv_iload_n hx hb d_R_set_5 rfl (lv_at hl 2 rfl) ?_
  refine st_iast hx hb hK hP hD hS 9 0 rfl rfl (by omega) (by decide) d_R_set_6 (fun H locs hP hD hS => ?_)
  replace hP : va_P D CC (wC tk ad (mup g 6 k key) rr ++ tl) H := Eq.mp (congrArg (fun w => va_P D CC w H) (sC_9 tk ad g rr tl k key)) hP
  replace hD : va_D A (wC tk ad (mup g 6 k key) rr ++ tl) := Eq.mp (congrArg (fun w => va_D A w) (sC_9 tk ad g rr tl k key)) hD
  refine lv_aload_n hx hb d_R_set_7 rfl (lv_at hl 0 rfl) ?_
  refine gf_R_15 (v := .ref (ad 10)) hx hb hT hown hK hP 8 rfl rfl d_R_set_8 ?_
  refine lv_iload_n hx hb d_R_set_11 rfl (lv_at hl 1 rfl) ?_
  refine lv_iload_n hx hb d_R_set_12 rfl (lv_at hl 3 rfl) ?_
  refine st_iast hx hb hK hP hD hS 10 0 rfl rfl (by omega) (by decide) d_R_set_13 (fun H locs hP hD hS => ?_)
  replace hP : va_P D CC (wC tk ad (mup (mup g 6 k key) 7 k v) rr ++ tl) H := Eq.mp (congrArg (fun w => va_P D CC w H) (sC_10 tk ad (mup g 6 k key) rr tl k v)) hP
  replace hD : va_D A (wC tk ad (mup (mup g 6 k key) 7 k v) rr ++ tl) := Eq.mp (congrArg (fun w => va_D A w) (sC_10 tk ad (mup g 6 k key) rr tl k v)) hD
  refine lv_aload_n hx hb d_R_set_14 rfl (lv_at hl 0 rfl) ?_
  refine gf_R_20 (v := .ref (ad 11)) hx hb hT hown hK hP 8 rfl rfl d_R_set_15 ?_
  refine lv_iload_n hx hb d_R_set_18 rfl (lv_at hl 1 rfl) ?_
  refine sq_aload hx hb d_R_set_19 (lv_at hl 4 rfl) ?_
  refine st_aastO hx hb hK hP hD hS 11 3 rfl rfl (x := x) (fun v q => let ⟨qk, vs, h⟩ := hx9 v q; ⟨qk + 18, vs, h⟩) (by omega) (by decide) d_R_set_21 (fun H locs hP hD hS => ?_)
  replace hP : va_P D CC (wC tk ad (mup (mup g 6 k key) 7 k v) (rup rr 2 k x) ++ tl) H := Eq.mp (congrArg (fun w => va_P D CC w H) (sC_11 tk ad (mup (mup g 6 k key) 7 k v) rr tl k x)) hP
  replace hD : va_D A (wC tk ad (mup (mup g 6 k key) 7 k v) (rup rr 2 k x) ++ tl) := Eq.mp (congrArg (fun w => va_D A w) (sC_11 tk ad (mup (mup g 6 k key) 7 k v) rr tl k x)) hD
  exact k_vret hQ hx hb hr hlk hK hP hD hS () rfl trivial d_R_set_22

set_option maxHeartbeats 4000000 in
set_option maxRecDepth 100000 in
theorem c_H_add (l : Launch) (D : va_G) (tk : Nat → ClassId) (sz : Nat) (ad : Nat → Nat) (g : Nat → Nat → Int32) (rr : Nat → Nat → Option Nat) (tl : va_W) (V : Nat) (hV2 : V < 16) (hV : g 2 0 = nI V) (x : Option Nat) (hx9 : ∀ v, x = some v → ∃ (qk : Nat) (vs : List Value), tl[qk]? = some (v, .inr (1, vs))) : Met l y_H_add w_H_add ({ frames := 0, cells := 0, slots := 0, locals := 0 }) (va_Pc [.ref (ad 3), va_rf x] (k_pre D (TY tk) sz (wC tk ad g rr ++ tl))) (va_Qv (fun (_ : Unit) => True) (fun u t => k_at D (TY tk) (va_A (wC tk ad g rr ++ tl) sz) ((fun _ => wC tk ad (mup g 2 0 (nI (V + 1))) (rup rr 1 V x) ++ tl) u) t) (va_A (wC tk ad g rr ++ tl) sz)) 0 0 (va_A (wC tk ad g rr ++ tl) sz) := by
  refine k_ofW (fun A => va_Qv (fun (_ : Unit) => True) (fun u t => k_at D (TY tk) A ((fun _ => wC tk ad (mup g 2 0 (nI (V + 1))) (rup rr 1 V x) ++ tl) u) t) A) (by decide) (by cases x <;> exact Nat.le_of_ble_eq_true rfl) ?_
  intro p e s m args below meth c Q A ls hQ hx hb hr hlk hin hts hT hown hml hnw hP hK hD hA hsz hl
  have hS : va_S A s.heap s.heap [] := va_S.rf
  have hc0 : 0 + 0 ≤ 0 ∧ 0 + 0 ≤ 0 := ⟨by decide, by decide⟩
  replace hl : lv_has ls 2 [(0, .ref (ad 3)), (1, va_rf x)] := by cases x <;> exact hl
  replace hP : va_P D CC (wC tk ad g rr ++ tl) s.heap := hP
  replace hK : va_K D CC (TY tk) s := hK
  refine lv_aload_n hx hb d_H_add_0 rfl (lv_at hl 0 rfl) ?_
  refine gf_H_17 (v := .int (g 2 0)) hx hb hT hown hK hP 3 rfl rfl d_H_add_1 ?_
  refine st_top (show g 2 0 = nI V from hV) ?_
  refine lv_bipush (v := nI 16) hx hb d_H_add_4 (by decide) ?_
  refine st_icmp_ge hx hb (by omega) (by omega) d_H_add_6 (tgt := 29) (by decide) (fun hc6 => absurd hc6 (by omega)) (fun hc6 => ?_)
  refine lv_aload_n hx hb d_H_add_9 rfl (lv_at hl 0 rfl) ?_
  refine gf_H_11 (v := .ref (ad 4)) hx hb hT hown hK hP 3 rfl rfl d_H_add_10 ?_
  refine lv_aload_n hx hb d_H_add_13 rfl (lv_at hl 0 rfl) ?_
  refine gf_H_17 (v := .int (g 2 0)) hx hb hT hown hK hP 3 rfl rfl d_H_add_14 ?_
  refine st_top (show g 2 0 = nI V from hV) ?_
  refine sq_aload_n hx hb d_H_add_17 rfl (lv_at hl 1 rfl) ?_
  refine st_aastO hx hb hK hP hD hS 4 3 rfl rfl (x := x) (fun v q => let ⟨qk, vs, h⟩ := hx9 v q; ⟨qk + 18, vs, h⟩) (by omega) (by decide) d_H_add_18 (fun H locs hP hD hS => ?_)
  replace hP : va_P D CC (wC tk ad g (rup rr 1 V x) ++ tl) H := Eq.mp (congrArg (fun w => va_P D CC w H) (sC_4 tk ad g rr tl V x)) hP
  replace hD : va_D A (wC tk ad g (rup rr 1 V x) ++ tl) := Eq.mp (congrArg (fun w => va_D A w) (sC_4 tk ad g rr tl V x)) hD
  refine lv_aload_n hx hb d_H_add_19 rfl (lv_at hl 0 rfl) ?_
  refine lv_dup hx hb d_H_add_20 rfl ?_
  refine gf_H_17 (v := .int (g 2 0)) hx hb hT hown hK hP 3 rfl rfl d_H_add_21 ?_
  refine st_top (show g 2 0 = nI V from hV) ?_
  refine lv_iconst (v := nI 1) hx hb d_H_add_24 (by decide) ?_
  refine st_iadd hx hb d_H_add_25 ?_
  refine pf_H_17 hx hb hT hown hK hP hD hS 3 rfl (Nat.le_of_ble_eq_true rfl) d_H_add_26 (fun H locs hP hD hS => ?_)
  replace hP : va_P D CC (wC tk ad (mup g 2 0 (nI (V + 1))) (rup rr 1 V x) ++ tl) H := Eq.mp (congrArg (fun w => va_P D CC w H) (sC_3_1 tk ad g (rup rr 1 V x) tl (nI (V + 1)))) hP
  replace hD : va_D A (wC tk ad (mup g 2 0 (nI (V + 1))) (rup rr 1 V x) ++ tl) := Eq.mp (congrArg (fun w => va_D A w) (sC_3_1 tk ad g (rup rr 1 V x) tl (nI (V + 1)))) hD
  exact k_vret hQ hx hb hr hlk hK hP hD hS () rfl trivial d_H_add_29

set_option maxHeartbeats 4000000 in
set_option maxRecDepth 100000 in
theorem c_R_top (l : Launch) (D : va_G) (tk : Nat → ClassId) (sz : Nat) (ad : Nat → Nat) (g : Nat → Nat → Int32) (rr : Nat → Nat → Option Nat) (tl : va_W) (n : Nat) (hn : n ≤ 48) (hg : g 5 0 = nI n) : Met l y_R_top w_R_top ({ frames := 0, cells := 0, slots := 0, locals := 0 }) (va_Pc [.ref (ad 8)] (k_pre D (TY tk) sz (wC tk ad g rr ++ tl))) (va_Qq (fun (r : Option Nat) (_ : Unit) => r = if n = 0 then none else rr 2 0) (fun u t => k_at D (TY tk) (va_A (wC tk ad g rr ++ tl) sz) ((fun _ => wC tk ad g rr ++ tl) u) t) (va_A (wC tk ad g rr ++ tl) sz)) 0 0 (va_A (wC tk ad g rr ++ tl) sz) := by
  refine k_ofW (fun A => va_Qq (fun (r : Option Nat) (_ : Unit) => r = if n = 0 then none else rr 2 0) (fun u t => k_at D (TY tk) A ((fun _ => wC tk ad g rr ++ tl) u) t) A) (by decide) (Nat.le_of_ble_eq_true rfl) ?_
  intro p e s m args below meth c Q A ls hQ hx hb hr hlk hin hts hT hown hml hnw hP hK hD hA hsz hl
  have hS : va_S A s.heap s.heap [] := va_S.rf
  have hc0 : 0 + 0 ≤ 0 ∧ 0 + 0 ≤ 0 := ⟨by decide, by decide⟩
  replace hl : lv_has ls 1 [(0, .ref (ad 8))] := hl
  replace hP : va_P D CC (wC tk ad g rr ++ tl) s.heap := hP
  replace hK : va_K D CC (TY tk) s := hK
  refine lv_aload_n hx hb d_R_top_0 rfl (lv_at hl 0 rfl) ?_
  refine gf_R_24 (v := .int (g 5 0)) hx hb hT hown hK hP 8 rfl rfl d_R_top_1 ?_
  refine st_top (show g 5 0 = nI n from hg) ?_
  refine st_if_ne hx hb (by omega) d_R_top_4 (tgt := 11) (by decide) (fun hc4 => ?_) (fun hc4 => ?_)
  · skip
    refine lv_aload_n hx hb d_R_top_11 rfl (lv_at hl 0 rfl) ?_
    refine gf_R_20 (v := .ref (ad 11)) hx hb hT hown hK hP 8 rfl rfl d_R_top_12 ?_
    refine lv_iconst (v := nI 0) hx hb d_R_top_15 (by decide) ?_
    refine st_aald hx hb hK hP 11 3 rfl rfl (by omega) (by decide) d_R_top_16 ?_
    exact k_aret (r := (rr 2 0)) hQ hx hb hr (Or.inl ⟨_, rfl⟩) hlk hK hP hD hS () rfl (by first | rw [if_pos (by omega)] | rw [if_neg (by omega)]) d_R_top_17
  · skip
    refine lv_null hx hb d_R_top_7 ?_
    refine lv_goto hx hb d_R_top_8 (tgt := 17) (by decide) ?_
    exact k_aret (r := none) hQ hx hb hr (Or.inl ⟨_, rfl⟩) hlk hK hP hD hS () rfl (by first | rw [if_pos (by omega)] | rw [if_neg (by omega)]) d_R_top_17

/-- the bytes of a word, highest first, appended at n: size in field s, cells in field c -/
def ub (w : Int32) (k : Nat) : Int32 := (w.toUInt32 >>> ((nI (8 * k)).toUInt32 &&& Int32.toUInt32 31)).toInt32 &&& nI 255
def apC (s0 c0 : Nat) (g : Nat → Nat → Int32) (n : Nat) (w : Int32) : Nat → Nat → Nat → Int32
  | 0 => g
  | k + 1 => apC s0 c0 (mup (mup g c0 n (ub w k)) s0 0 (nI (n + 1))) (n + 1) w k

set_option maxHeartbeats 4000000 in
set_option maxRecDepth 100000 in
theorem c_B_clearP (l : Launch) (D : va_G) (tk : Nat → ClassId) (sz : Nat) (ad : Nat → Nat) (g : Nat → Nat → Int32) (rr : Nat → Nat → Option Nat) (tl : va_W)  : Met l y_B_clear w_B_clear ({ frames := 0, cells := 0, slots := 0, locals := 0 }) (va_Pc [.ref (ad 13)] (k_pre D (TY tk) sz (wC tk ad g rr ++ tl))) (va_Qv (fun (_ : Unit) => True) (fun u t => k_at D (TY tk) (va_A (wC tk ad g rr ++ tl) sz) ((fun _ => wC tk ad (mup g 8 0 (nI 0)) rr ++ tl) u) t) (va_A (wC tk ad g rr ++ tl) sz)) 0 0 (va_A (wC tk ad g rr ++ tl) sz) := by
  refine k_ofW (fun A => va_Qv (fun (_ : Unit) => True) (fun u t => k_at D (TY tk) A ((fun _ => wC tk ad (mup g 8 0 (nI 0)) rr ++ tl) u) t) A) (by decide) (Nat.le_of_ble_eq_true rfl) ?_
  intro p e s m args below meth c Q A ls hQ hx hb hr hlk hin hts hT hown hml hnw hP hK hD hA hsz hl
  have hS : va_S A s.heap s.heap [] := va_S.rf
  have hc0 : 0 + 0 ≤ 0 ∧ 0 + 0 ≤ 0 := ⟨by decide, by decide⟩
  replace hl : lv_has ls 1 [(0, .ref (ad 13))] := hl
  replace hP : va_P D CC (wC tk ad g rr ++ tl) s.heap := hP
  replace hK : va_K D CC (TY tk) s := hK
  refine lv_aload_n hx hb d_B_clear_0 rfl (lv_at hl 0 rfl) ?_
  refine lv_iconst (v := nI 0) hx hb d_B_clear_1 (by decide) ?_
  refine pf_B_15 hx hb hT hown hK hP hD hS 13 rfl (Nat.le_of_ble_eq_true rfl) d_B_clear_2 (fun H locs hP hD hS => ?_)
  replace hP : va_P D CC (wC tk ad (mup g 8 0 (nI 0)) rr ++ tl) H := Eq.mp (congrArg (fun w => va_P D CC w H) (sC_13_1 tk ad g rr tl (nI 0))) hP
  replace hD : va_D A (wC tk ad (mup g 8 0 (nI 0)) rr ++ tl) := Eq.mp (congrArg (fun w => va_D A w) (sC_13_1 tk ad g rr tl (nI 0))) hD
  exact k_vret hQ hx hb hr hlk hK hP hD hS () rfl trivial d_B_clear_5

set_option maxHeartbeats 4000000 in
set_option maxRecDepth 100000 in
theorem c_B_atP (l : Launch) (D : va_G) (tk : Nat → ClassId) (sz : Nat) (ad : Nat → Nat) (g : Nat → Nat → Int32) (rr : Nat → Nat → Option Nat) (tl : va_W) (n : Nat) (hn : n ≤ 400) (hg : g 8 0 = nI n) (i : Int32) : Met l y_B_at w_B_at ({ frames := 0, cells := 0, slots := 0, locals := 0 }) (va_Pc [.ref (ad 13), .int i] (k_pre D (TY tk) sz (wC tk ad g rr ++ tl))) (va_Qi (fun (r : Int32) (_ : Unit) => r = if i < nI 0 ∨ g 8 0 - nI 1 < i then (-1) else g 9 i.toNatClampNeg) (fun u t => k_at D (TY tk) (va_A (wC tk ad g rr ++ tl) sz) ((fun _ => wC tk ad g rr ++ tl) u) t) (va_A (wC tk ad g rr ++ tl) sz)) 0 0 (va_A (wC tk ad g rr ++ tl) sz) := by
  refine k_ofW (fun A => va_Qi (fun (r : Int32) (_ : Unit) => r = if i < nI 0 ∨ g 8 0 - nI 1 < i then (-1) else g 9 i.toNatClampNeg) (fun u t => k_at D (TY tk) A ((fun _ => wC tk ad g rr ++ tl) u) t) A) (by decide) (Nat.le_of_ble_eq_true rfl) ?_
  intro p e s m args below meth c Q A ls hQ hx hb hr hlk hin hts hT hown hml hnw hP hK hD hA hsz hl
  have hS : va_S A s.heap s.heap [] := va_S.rf
  have hc0 : 0 + 0 ≤ 0 ∧ 0 + 0 ≤ 0 := ⟨by decide, by decide⟩
  replace hl : lv_has ls 2 [(0, .ref (ad 13)), (1, .int i)] := hl
  replace hP : va_P D CC (wC tk ad g rr ++ tl) s.heap := hP
  replace hK : va_K D CC (TY tk) s := hK
  refine lv_iload_n hx hb d_B_at_0 rfl (lv_at hl 1 rfl) ?_
  refine lv_if_lt hx hb d_B_at_1 (tgt := 21) (by decide) (fun hc1 => ?_) (fun hc1 => ?_)
  · skip
    have hn9 : i < nI 0 ∨ g 8 0 - nI 1 < i := Or.inl hc1
    refine lv_iconst (v := -1) hx hb d_B_at_21 (by decide) ?_
    exact k_iret (v := -1) hQ hx hb hr hlk hK hP hD hS () rfl (by (try rw [nI_clamp (by omega)]); (iterate 4 (try (first | rw [if_pos (by assumption)] | rw [if_neg (by assumption)]))); try rfl) d_B_at_22
  · skip
    refine lv_iload_n hx hb d_B_at_4 rfl (lv_at hl 1 rfl) ?_
    refine lv_aload_n hx hb d_B_at_5 rfl (lv_at hl 0 rfl) ?_
    refine gf_B_15 (v := .int (g 8 0)) hx hb hT hown hK hP 13 rfl rfl d_B_at_6 ?_
    refine lv_icmp_ge hx hb d_B_at_9 (tgt := 21) (by decide) (fun hc9 => ?_) (fun hc9 => ?_)
    · skip
      have hn9 : i < nI 0 ∨ g 8 0 - nI 1 < i := Or.inr (m_out hg hn hc1 hc9)
      refine lv_iconst (v := -1) hx hb d_B_at_21 (by decide) ?_
      exact k_iret (v := -1) hQ hx hb hr hlk hK hP hD hS () rfl (by (try rw [nI_clamp (by omega)]); (iterate 4 (try (first | rw [if_pos (by assumption)] | rw [if_neg (by assumption)]))); try rfl) d_B_at_22
    · skip
      have hn9 : ¬ (i < nI 0 ∨ g 8 0 - nI 1 < i) := m_inn hg hn hc1 hc9
      obtain ⟨j, hj, rfl⟩ := m_idx hg hn hn9
      refine lv_aload_n hx hb d_B_at_12 rfl (lv_at hl 0 rfl) ?_
      refine gf_B_9 (v := .ref (ad 14)) hx hb hT hown hK hP 13 rfl rfl d_B_at_13 ?_
      refine lv_iload_n hx hb d_B_at_16 rfl (lv_at hl 1 rfl) ?_
      refine st_iald hx hb hK hP 14 0 rfl rfl (by omega) (by decide) d_B_at_17 ?_
      refine lv_goto hx hb d_B_at_18 (tgt := 22) (by decide) ?_
      exact k_iret (v := g 9 j) hQ hx hb hr hlk hK hP hD hS () rfl (by (try rw [nI_clamp (by omega)]); (iterate 4 (try (first | rw [if_pos (by assumption)] | rw [if_neg (by assumption)]))); try rfl) d_B_at_22

set_option maxHeartbeats 4000000 in
set_option maxRecDepth 100000 in
theorem c_B_appendP1 (l : Launch) (D : va_G) (tk : Nat → ClassId) (sz : Nat) (ad : Nat → Nat) (g : Nat → Nat → Int32) (rr : Nat → Nat → Option Nat) (tl : va_W) (n : Nat) (hn : n + 1 ≤ 400) (hg : g 8 0 = nI n) (w : Int32) : Met l y_B_append w_B_append ({ frames := 0, cells := 0, slots := 0, locals := 0 }) (va_Pc [.ref (ad 13), .int w, .int (nI 1)] (k_pre D (TY tk) sz (wC tk ad g rr ++ tl))) (va_Qv (fun (_ : Unit) => True) (fun u t => k_at D (TY tk) (va_A (wC tk ad g rr ++ tl) sz) ((fun _ => wC tk ad (apC 8 9 g n w 1) rr ++ tl) u) t) (va_A (wC tk ad g rr ++ tl) sz)) 0 0 (va_A (wC tk ad g rr ++ tl) sz) := by
  refine k_ofW (fun A => va_Qv (fun (_ : Unit) => True) (fun u t => k_at D (TY tk) A ((fun _ => wC tk ad (apC 8 9 g n w 1) rr ++ tl) u) t) A) (by decide) (Nat.le_of_ble_eq_true rfl) ?_
  intro p e s m args below meth c Q A ls hQ hx hb hr hlk hin hts hT hown hml hnw hP hK hD hA hsz hl
  have hS : va_S A s.heap s.heap [] := va_S.rf
  have hc0 : 0 + 0 ≤ 0 ∧ 0 + 0 ≤ 0 := ⟨by decide, by decide⟩
  replace hl : lv_has ls 4 [(0, .ref (ad 13)), (1, .int w), (2, .int (nI 1))] := hl
  replace hP : va_P D CC (wC tk ad g rr ++ tl) s.heap := hP
  replace hK : va_K D CC (TY tk) s := hK
  refine lv_bipush (v := nI 8) hx hb d_B_append_0 (by decide) ?_
  refine lv_iload_n hx hb d_B_append_2 rfl (lv_at hl 2 rfl) ?_
  refine lv_iconst (v := nI 1) hx hb d_B_append_3 (by decide) ?_
  refine st_isub hx hb (by omega) d_B_append_4 ?_
  refine st_imul hx hb d_B_append_5 ?_
  refine lv_istore_n (lv' := [(3, .int (nI 0)), (0, .ref (ad 13)), (1, .int w), (2, .int (nI 1))]) hx hb d_B_append_6 rfl hl (by decide) rfl (fun ls hl => ?_)
  refine lv_iload_n hx hb d_B_append_7 rfl (lv_at hl 0 rfl) ?_
  refine st_if_lt hx hb (by omega) d_B_append_8 (tgt := 53) (by decide) (fun hc8 => (by exfalso; first | exact hc8 | omega)) (fun hc8 => ?_)
  refine lv_aload_n hx hb d_B_append_11 rfl (lv_at hl 1 rfl) ?_
  refine gf_B_15 (v := .int (g 8 0)) hx hb hT hown hK hP 13 rfl rfl d_B_append_12 ?_
  refine st_top (show g 8 0 = nI n from hg) ?_
  refine lv_sipush (v := nI 400) hx hb d_B_append_15 (by decide) ?_
  refine st_icmp_ge hx hb (by omega) (by omega) d_B_append_18 (tgt := 47) (by decide) (fun hc18 => absurd hc18 (by omega)) (fun hc18 => ?_)
  refine lv_aload_n hx hb d_B_append_21 rfl (lv_at hl 1 rfl) ?_
  refine gf_B_9 (v := .ref (ad 14)) hx hb hT hown hK hP 13 rfl rfl d_B_append_22 ?_
  refine lv_aload_n hx hb d_B_append_25 rfl (lv_at hl 1 rfl) ?_
  refine gf_B_15 (v := .int (g 8 0)) hx hb hT hown hK hP 13 rfl rfl d_B_append_26 ?_
  refine st_top (show g 8 0 = nI n from hg) ?_
  refine lv_iload_n hx hb d_B_append_29 rfl (lv_at hl 2 rfl) ?_
  refine lv_iload_n hx hb d_B_append_30 rfl (lv_at hl 0 rfl) ?_
  refine lv_iushr (v := (w.toUInt32 >>> ((nI 0).toUInt32 &&& Int32.toUInt32 31)).toInt32) hx hb d_B_append_31 rfl ?_
  refine lv_sipush (v := nI 255) hx hb d_B_append_32 (by decide) ?_
  refine lv_iand hx hb d_B_append_35 ?_
  refine st_iast hx hb hK hP hD hS 14 0 rfl rfl (by omega) (by decide) d_B_append_36 (fun H locs hP hD hS => ?_)
  replace hP : va_P D CC (wC tk ad (mup g 9 n (((w.toUInt32 >>> ((nI 0).toUInt32 &&& Int32.toUInt32 31)).toInt32) &&& (nI 255))) rr ++ tl) H := Eq.mp (congrArg (fun w => va_P D CC w H) (sC_14 tk ad g rr tl n (((w.toUInt32 >>> ((nI 0).toUInt32 &&& Int32.toUInt32 31)).toInt32) &&& (nI 255)))) hP
  replace hD : va_D A (wC tk ad (mup g 9 n (((w.toUInt32 >>> ((nI 0).toUInt32 &&& Int32.toUInt32 31)).toInt32) &&& (nI 255))) rr ++ tl) := Eq.mp (congrArg (fun w => va_D A w) (sC_14 tk ad g rr tl n (((w.toUInt32 >>> ((nI 0).toUInt32 &&& Int32.toUInt32 31)).toInt32) &&& (nI 255)))) hD
  refine lv_aload_n hx hb d_B_append_37 rfl (lv_at hl 1 rfl) ?_
  refine lv_dup hx hb d_B_append_38 rfl ?_
  refine gf_B_15 (v := .int ((mup g 9 n (((w.toUInt32 >>> ((nI 0).toUInt32 &&& Int32.toUInt32 31)).toInt32) &&& (nI 255))) 8 0)) hx hb hT hown hK hP 13 rfl rfl d_B_append_39 ?_
  refine st_top (show (mup g 9 n (((w.toUInt32 >>> ((nI 0).toUInt32 &&& Int32.toUInt32 31)).toInt32) &&& (nI 255))) 8 0 = g 8 0 from (rd_ne (by decide) rfl)) ?_
  refine st_top (show g 8 0 = nI n from hg) ?_
  refine lv_iconst (v := nI 1) hx hb d_B_append_42 (by decide) ?_
  refine st_iadd hx hb d_B_append_43 ?_
  refine pf_B_15 hx hb hT hown hK hP hD hS 13 rfl (Nat.le_of_ble_eq_true rfl) d_B_append_44 (fun H locs hP hD hS => ?_)
  replace hP : va_P D CC (wC tk ad (mup (mup g 9 n (((w.toUInt32 >>> ((nI 0).toUInt32 &&& Int32.toUInt32 31)).toInt32) &&& (nI 255))) 8 0 (nI (n + 1))) rr ++ tl) H := Eq.mp (congrArg (fun w => va_P D CC w H) (sC_13_1 tk ad (mup g 9 n (((w.toUInt32 >>> ((nI 0).toUInt32 &&& Int32.toUInt32 31)).toInt32) &&& (nI 255))) rr tl (nI (n + 1)))) hP
  replace hD : va_D A (wC tk ad (mup (mup g 9 n (((w.toUInt32 >>> ((nI 0).toUInt32 &&& Int32.toUInt32 31)).toInt32) &&& (nI 255))) 8 0 (nI (n + 1))) rr ++ tl) := Eq.mp (congrArg (fun w => va_D A w) (sC_13_1 tk ad (mup g 9 n (((w.toUInt32 >>> ((nI 0).toUInt32 &&& Int32.toUInt32 31)).toInt32) &&& (nI 255))) rr tl (nI (n + 1)))) hD
  refine lv_iinc (k := 0) (v := -8) (lv' := [(3, .int (-8)), (0, .ref (ad 13)), (1, .int w), (2, .int (nI 1))]) hx hb d_B_append_47 hl rfl (by decide) (by decide) rfl (fun ls hl => ?_)
  refine lv_goto hx hb d_B_append_50 (tgt := 7) (by decide) ?_
  refine lv_iload_n hx hb d_B_append_7 rfl (lv_at hl 0 rfl) ?_
  refine lv_if_lt hx hb d_B_append_8 (tgt := 53) (by decide) (fun hc8 => ?_) (fun hc8 => absurd hc8 (by decide))
  exact k_vret hQ hx hb hr hlk hK hP hD hS () rfl trivial d_B_append_53

set_option maxHeartbeats 4000000 in
set_option maxRecDepth 100000 in
theorem c_B_appendP4 (l : Launch) (D : va_G) (tk : Nat → ClassId) (sz : Nat) (ad : Nat → Nat) (g : Nat → Nat → Int32) (rr : Nat → Nat → Option Nat) (tl : va_W) (n : Nat) (hn : n + 4 ≤ 400) (hg : g 8 0 = nI n) (w : Int32) : Met l y_B_append w_B_append ({ frames := 0, cells := 0, slots := 0, locals := 0 }) (va_Pc [.ref (ad 13), .int w, .int (nI 4)] (k_pre D (TY tk) sz (wC tk ad g rr ++ tl))) (va_Qv (fun (_ : Unit) => True) (fun u t => k_at D (TY tk) (va_A (wC tk ad g rr ++ tl) sz) ((fun _ => wC tk ad (apC 8 9 g n w 4) rr ++ tl) u) t) (va_A (wC tk ad g rr ++ tl) sz)) 0 0 (va_A (wC tk ad g rr ++ tl) sz) := by
  refine k_ofW (fun A => va_Qv (fun (_ : Unit) => True) (fun u t => k_at D (TY tk) A ((fun _ => wC tk ad (apC 8 9 g n w 4) rr ++ tl) u) t) A) (by decide) (Nat.le_of_ble_eq_true rfl) ?_
  intro p e s m args below meth c Q A ls hQ hx hb hr hlk hin hts hT hown hml hnw hP hK hD hA hsz hl
  have hS : va_S A s.heap s.heap [] := va_S.rf
  have hc0 : 0 + 0 ≤ 0 ∧ 0 + 0 ≤ 0 := ⟨by decide, by decide⟩
  replace hl : lv_has ls 4 [(0, .ref (ad 13)), (1, .int w), (2, .int (nI 4))] := hl
  replace hP : va_P D CC (wC tk ad g rr ++ tl) s.heap := hP
  replace hK : va_K D CC (TY tk) s := hK
  refine lv_bipush (v := nI 8) hx hb d_B_append_0 (by decide) ?_
  refine lv_iload_n hx hb d_B_append_2 rfl (lv_at hl 2 rfl) ?_
  refine lv_iconst (v := nI 1) hx hb d_B_append_3 (by decide) ?_
  refine st_isub hx hb (by omega) d_B_append_4 ?_
  refine st_imul hx hb d_B_append_5 ?_
  refine lv_istore_n (lv' := [(3, .int (nI 24)), (0, .ref (ad 13)), (1, .int w), (2, .int (nI 4))]) hx hb d_B_append_6 rfl hl (by decide) rfl (fun ls hl => ?_)
  refine lv_iload_n hx hb d_B_append_7 rfl (lv_at hl 0 rfl) ?_
  refine st_if_lt hx hb (by omega) d_B_append_8 (tgt := 53) (by decide) (fun hc8 => (by exfalso; first | exact hc8 | omega)) (fun hc8 => ?_)
  refine lv_aload_n hx hb d_B_append_11 rfl (lv_at hl 1 rfl) ?_
  refine gf_B_15 (v := .int (g 8 0)) hx hb hT hown hK hP 13 rfl rfl d_B_append_12 ?_
  refine st_top (show g 8 0 = nI n from hg) ?_
  refine lv_sipush (v := nI 400) hx hb d_B_append_15 (by decide) ?_
  refine st_icmp_ge hx hb (by omega) (by omega) d_B_append_18 (tgt := 47) (by decide) (fun hc18 => absurd hc18 (by omega)) (fun hc18 => ?_)
  refine lv_aload_n hx hb d_B_append_21 rfl (lv_at hl 1 rfl) ?_
  refine gf_B_9 (v := .ref (ad 14)) hx hb hT hown hK hP 13 rfl rfl d_B_append_22 ?_
  refine lv_aload_n hx hb d_B_append_25 rfl (lv_at hl 1 rfl) ?_
  refine gf_B_15 (v := .int (g 8 0)) hx hb hT hown hK hP 13 rfl rfl d_B_append_26 ?_
  refine st_top (show g 8 0 = nI n from hg) ?_
  refine lv_iload_n hx hb d_B_append_29 rfl (lv_at hl 2 rfl) ?_
  refine lv_iload_n hx hb d_B_append_30 rfl (lv_at hl 0 rfl) ?_
  refine lv_iushr (v := (w.toUInt32 >>> ((nI 24).toUInt32 &&& Int32.toUInt32 31)).toInt32) hx hb d_B_append_31 rfl ?_
  refine lv_sipush (v := nI 255) hx hb d_B_append_32 (by decide) ?_
  refine lv_iand hx hb d_B_append_35 ?_
  refine st_iast hx hb hK hP hD hS 14 0 rfl rfl (by omega) (by decide) d_B_append_36 (fun H locs hP hD hS => ?_)
  replace hP : va_P D CC (wC tk ad (mup g 9 n (((w.toUInt32 >>> ((nI 24).toUInt32 &&& Int32.toUInt32 31)).toInt32) &&& (nI 255))) rr ++ tl) H := Eq.mp (congrArg (fun w => va_P D CC w H) (sC_14 tk ad g rr tl n (((w.toUInt32 >>> ((nI 24).toUInt32 &&& Int32.toUInt32 31)).toInt32) &&& (nI 255)))) hP
  replace hD : va_D A (wC tk ad (mup g 9 n (((w.toUInt32 >>> ((nI 24).toUInt32 &&& Int32.toUInt32 31)).toInt32) &&& (nI 255))) rr ++ tl) := Eq.mp (congrArg (fun w => va_D A w) (sC_14 tk ad g rr tl n (((w.toUInt32 >>> ((nI 24).toUInt32 &&& Int32.toUInt32 31)).toInt32) &&& (nI 255)))) hD
  refine lv_aload_n hx hb d_B_append_37 rfl (lv_at hl 1 rfl) ?_
  refine lv_dup hx hb d_B_append_38 rfl ?_
  refine gf_B_15 (v := .int ((mup g 9 n (((w.toUInt32 >>> ((nI 24).toUInt32 &&& Int32.toUInt32 31)).toInt32) &&& (nI 255))) 8 0)) hx hb hT hown hK hP 13 rfl rfl d_B_append_39 ?_
  refine st_top (show (mup g 9 n (((w.toUInt32 >>> ((nI 24).toUInt32 &&& Int32.toUInt32 31)).toInt32) &&& (nI 255))) 8 0 = g 8 0 from (rd_ne (by decide) rfl)) ?_
  refine st_top (show g 8 0 = nI n from hg) ?_
  refine lv_iconst (v := nI 1) hx hb d_B_append_42 (by decide) ?_
  refine st_iadd hx hb d_B_append_43 ?_
  refine pf_B_15 hx hb hT hown hK hP hD hS 13 rfl (Nat.le_of_ble_eq_true rfl) d_B_append_44 (fun H locs hP hD hS => ?_)
  replace hP : va_P D CC (wC tk ad (mup (mup g 9 n (((w.toUInt32 >>> ((nI 24).toUInt32 &&& Int32.toUInt32 31)).toInt32) &&& (nI 255))) 8 0 (nI (n + 1))) rr ++ tl) H := Eq.mp (congrArg (fun w => va_P D CC w H) (sC_13_1 tk ad (mup g 9 n (((w.toUInt32 >>> ((nI 24).toUInt32 &&& Int32.toUInt32 31)).toInt32) &&& (nI 255))) rr tl (nI (n + 1)))) hP
  replace hD : va_D A (wC tk ad (mup (mup g 9 n (((w.toUInt32 >>> ((nI 24).toUInt32 &&& Int32.toUInt32 31)).toInt32) &&& (nI 255))) 8 0 (nI (n + 1))) rr ++ tl) := Eq.mp (congrArg (fun w => va_D A w) (sC_13_1 tk ad (mup g 9 n (((w.toUInt32 >>> ((nI 24).toUInt32 &&& Int32.toUInt32 31)).toInt32) &&& (nI 255))) rr tl (nI (n + 1)))) hD
  refine lv_iinc (k := 0) (v := nI 16) (lv' := [(3, .int (nI 16)), (0, .ref (ad 13)), (1, .int w), (2, .int (nI 4))]) hx hb d_B_append_47 hl rfl (by decide) (by decide) rfl (fun ls hl => ?_)
  refine lv_goto hx hb d_B_append_50 (tgt := 7) (by decide) ?_
  refine lv_iload_n hx hb d_B_append_7 rfl (lv_at hl 0 rfl) ?_
  refine st_if_lt hx hb (by omega) d_B_append_8 (tgt := 53) (by decide) (fun hc8 => (by exfalso; first | exact hc8 | omega)) (fun hc8 => ?_)
  refine lv_aload_n hx hb d_B_append_11 rfl (lv_at hl 1 rfl) ?_
  refine gf_B_15 (v := .int ((mup (mup g 9 n (((w.toUInt32 >>> ((nI 24).toUInt32 &&& Int32.toUInt32 31)).toInt32) &&& (nI 255))) 8 0 (nI (n + 1))) 8 0)) hx hb hT hown hK hP 13 rfl rfl d_B_append_12 ?_
  refine st_top (show (mup (mup g 9 n (((w.toUInt32 >>> ((nI 24).toUInt32 &&& Int32.toUInt32 31)).toInt32) &&& (nI 255))) 8 0 (nI (n + 1))) 8 0 = nI (n + 1) from rd_eq) ?_
  refine lv_sipush (v := nI 400) hx hb d_B_append_15 (by decide) ?_
  refine st_icmp_ge hx hb (by omega) (by omega) d_B_append_18 (tgt := 47) (by decide) (fun hc18 => absurd hc18 (by omega)) (fun hc18 => ?_)
  refine lv_aload_n hx hb d_B_append_21 rfl (lv_at hl 1 rfl) ?_
  refine gf_B_9 (v := .ref (ad 14)) hx hb hT hown hK hP 13 rfl rfl d_B_append_22 ?_
  refine lv_aload_n hx hb d_B_append_25 rfl (lv_at hl 1 rfl) ?_
  refine gf_B_15 (v := .int ((mup (mup g 9 n (((w.toUInt32 >>> ((nI 24).toUInt32 &&& Int32.toUInt32 31)).toInt32) &&& (nI 255))) 8 0 (nI (n + 1))) 8 0)) hx hb hT hown hK hP 13 rfl rfl d_B_append_26 ?_
  refine st_top (show (mup (mup g 9 n (((w.toUInt32 >>> ((nI 24).toUInt32 &&& Int32.toUInt32 31)).toInt32) &&& (nI 255))) 8 0 (nI (n + 1))) 8 0 = nI (n + 1) from rd_eq) ?_
  refine lv_iload_n hx hb d_B_append_29 rfl (lv_at hl 2 rfl) ?_
  refine lv_iload_n hx hb d_B_append_30 rfl (lv_at hl 0 rfl) ?_
  refine lv_iushr (v := (w.toUInt32 >>> ((nI 16).toUInt32 &&& Int32.toUInt32 31)).toInt32) hx hb d_B_append_31 rfl ?_
  refine lv_sipush (v := nI 255) hx hb d_B_append_32 (by decide) ?_
  refine lv_iand hx hb d_B_append_35 ?_
  refine st_iast hx hb hK hP hD hS 14 0 rfl rfl (by omega) (by decide) d_B_append_36 (fun H locs hP hD hS => ?_)
  replace hP : va_P D CC (wC tk ad (mup (mup (mup g 9 n (((w.toUInt32 >>> ((nI 24).toUInt32 &&& Int32.toUInt32 31)).toInt32) &&& (nI 255))) 8 0 (nI (n + 1))) 9 (n + 1) (((w.toUInt32 >>> ((nI 16).toUInt32 &&& Int32.toUInt32 31)).toInt32) &&& (nI 255))) rr ++ tl) H := Eq.mp (congrArg (fun w => va_P D CC w H) (sC_14 tk ad (mup (mup g 9 n (((w.toUInt32 >>> ((nI 24).toUInt32 &&& Int32.toUInt32 31)).toInt32) &&& (nI 255))) 8 0 (nI (n + 1))) rr tl (n + 1) (((w.toUInt32 >>> ((nI 16).toUInt32 &&& Int32.toUInt32 31)).toInt32) &&& (nI 255)))) hP
  replace hD : va_D A (wC tk ad (mup (mup (mup g 9 n (((w.toUInt32 >>> ((nI 24).toUInt32 &&& Int32.toUInt32 31)).toInt32) &&& (nI 255))) 8 0 (nI (n + 1))) 9 (n + 1) (((w.toUInt32 >>> ((nI 16).toUInt32 &&& Int32.toUInt32 31)).toInt32) &&& (nI 255))) rr ++ tl) := Eq.mp (congrArg (fun w => va_D A w) (sC_14 tk ad (mup (mup g 9 n (((w.toUInt32 >>> ((nI 24).toUInt32 &&& Int32.toUInt32 31)).toInt32) &&& (nI 255))) 8 0 (nI (n + 1))) rr tl (n + 1) (((w.toUInt32 >>> ((nI 16).toUInt32 &&& Int32.toUInt32 31)).toInt32) &&& (nI 255)))) hD
  refine lv_aload_n hx hb d_B_append_37 rfl (lv_at hl 1 rfl) ?_
  refine lv_dup hx hb d_B_append_38 rfl ?_
  refine gf_B_15 (v := .int ((mup (mup (mup g 9 n (((w.toUInt32 >>> ((nI 24).toUInt32 &&& Int32.toUInt32 31)).toInt32) &&& (nI 255))) 8 0 (nI (n + 1))) 9 (n + 1) (((w.toUInt32 >>> ((nI 16).toUInt32 &&& Int32.toUInt32 31)).toInt32) &&& (nI 255))) 8 0)) hx hb hT hown hK hP 13 rfl rfl d_B_append_39 ?_
  refine st_top (show (mup (mup (mup g 9 n (((w.toUInt32 >>> ((nI 24).toUInt32 &&& Int32.toUInt32 31)).toInt32) &&& (nI 255))) 8 0 (nI (n + 1))) 9 (n + 1) (((w.toUInt32 >>> ((nI 16).toUInt32 &&& Int32.toUInt32 31)).toInt32) &&& (nI 255))) 8 0 = nI (n + 1) from (rd_ne (by decide) rd_eq)) ?_
  refine lv_iconst (v := nI 1) hx hb d_B_append_42 (by decide) ?_
  refine st_iadd hx hb d_B_append_43 ?_
  refine pf_B_15 hx hb hT hown hK hP hD hS 13 rfl (Nat.le_of_ble_eq_true rfl) d_B_append_44 (fun H locs hP hD hS => ?_)
  replace hP : va_P D CC (wC tk ad (mup (mup (mup (mup g 9 n (((w.toUInt32 >>> ((nI 24).toUInt32 &&& Int32.toUInt32 31)).toInt32) &&& (nI 255))) 8 0 (nI (n + 1))) 9 (n + 1) (((w.toUInt32 >>> ((nI 16).toUInt32 &&& Int32.toUInt32 31)).toInt32) &&& (nI 255))) 8 0 (nI ((n + 1) + 1))) rr ++ tl) H := Eq.mp (congrArg (fun w => va_P D CC w H) (sC_13_1 tk ad (mup (mup (mup g 9 n (((w.toUInt32 >>> ((nI 24).toUInt32 &&& Int32.toUInt32 31)).toInt32) &&& (nI 255))) 8 0 (nI (n + 1))) 9 (n + 1) (((w.toUInt32 >>> ((nI 16).toUInt32 &&& Int32.toUInt32 31)).toInt32) &&& (nI 255))) rr tl (nI ((n + 1) + 1)))) hP
  replace hD : va_D A (wC tk ad (mup (mup (mup (mup g 9 n (((w.toUInt32 >>> ((nI 24).toUInt32 &&& Int32.toUInt32 31)).toInt32) &&& (nI 255))) 8 0 (nI (n + 1))) 9 (n + 1) (((w.toUInt32 >>> ((nI 16).toUInt32 &&& Int32.toUInt32 31)).toInt32) &&& (nI 255))) 8 0 (nI ((n + 1) + 1))) rr ++ tl) := Eq.mp (congrArg (fun w => va_D A w) (sC_13_1 tk ad (mup (mup (mup g 9 n (((w.toUInt32 >>> ((nI 24).toUInt32 &&& Int32.toUInt32 31)).toInt32) &&& (nI 255))) 8 0 (nI (n + 1))) 9 (n + 1) (((w.toUInt32 >>> ((nI 16).toUInt32 &&& Int32.toUInt32 31)).toInt32) &&& (nI 255))) rr tl (nI ((n + 1) + 1)))) hD
  refine lv_iinc (k := 0) (v := nI 8) (lv' := [(3, .int (nI 8)), (0, .ref (ad 13)), (1, .int w), (2, .int (nI 4))]) hx hb d_B_append_47 hl rfl (by decide) (by decide) rfl (fun ls hl => ?_)
  refine lv_goto hx hb d_B_append_50 (tgt := 7) (by decide) ?_
  refine lv_iload_n hx hb d_B_append_7 rfl (lv_at hl 0 rfl) ?_
  refine st_if_lt hx hb (by omega) d_B_append_8 (tgt := 53) (by decide) (fun hc8 => (by exfalso; first | exact hc8 | omega)) (fun hc8 => ?_)
  refine lv_aload_n hx hb d_B_append_11 rfl (lv_at hl 1 rfl) ?_
  refine gf_B_15 (v := .int ((mup (mup (mup (mup g 9 n (((w.toUInt32 >>> ((nI 24).toUInt32 &&& Int32.toUInt32 31)).toInt32) &&& (nI 255))) 8 0 (nI (n + 1))) 9 (n + 1) (((w.toUInt32 >>> ((nI 16).toUInt32 &&& Int32.toUInt32 31)).toInt32) &&& (nI 255))) 8 0 (nI ((n + 1) + 1))) 8 0)) hx hb hT hown hK hP 13 rfl rfl d_B_append_12 ?_
  refine st_top (show (mup (mup (mup (mup g 9 n (((w.toUInt32 >>> ((nI 24).toUInt32 &&& Int32.toUInt32 31)).toInt32) &&& (nI 255))) 8 0 (nI (n + 1))) 9 (n + 1) (((w.toUInt32 >>> ((nI 16).toUInt32 &&& Int32.toUInt32 31)).toInt32) &&& (nI 255))) 8 0 (nI ((n + 1) + 1))) 8 0 = nI ((n + 1) + 1) from rd_eq) ?_
  refine lv_sipush (v := nI 400) hx hb d_B_append_15 (by decide) ?_
  refine st_icmp_ge hx hb (by omega) (by omega) d_B_append_18 (tgt := 47) (by decide) (fun hc18 => absurd hc18 (by omega)) (fun hc18 => ?_)
  refine lv_aload_n hx hb d_B_append_21 rfl (lv_at hl 1 rfl) ?_
  refine gf_B_9 (v := .ref (ad 14)) hx hb hT hown hK hP 13 rfl rfl d_B_append_22 ?_
  refine lv_aload_n hx hb d_B_append_25 rfl (lv_at hl 1 rfl) ?_
  refine gf_B_15 (v := .int ((mup (mup (mup (mup g 9 n (((w.toUInt32 >>> ((nI 24).toUInt32 &&& Int32.toUInt32 31)).toInt32) &&& (nI 255))) 8 0 (nI (n + 1))) 9 (n + 1) (((w.toUInt32 >>> ((nI 16).toUInt32 &&& Int32.toUInt32 31)).toInt32) &&& (nI 255))) 8 0 (nI ((n + 1) + 1))) 8 0)) hx hb hT hown hK hP 13 rfl rfl d_B_append_26 ?_
  refine st_top (show (mup (mup (mup (mup g 9 n (((w.toUInt32 >>> ((nI 24).toUInt32 &&& Int32.toUInt32 31)).toInt32) &&& (nI 255))) 8 0 (nI (n + 1))) 9 (n + 1) (((w.toUInt32 >>> ((nI 16).toUInt32 &&& Int32.toUInt32 31)).toInt32) &&& (nI 255))) 8 0 (nI ((n + 1) + 1))) 8 0 = nI ((n + 1) + 1) from rd_eq) ?_
  refine lv_iload_n hx hb d_B_append_29 rfl (lv_at hl 2 rfl) ?_
  refine lv_iload_n hx hb d_B_append_30 rfl (lv_at hl 0 rfl) ?_
  refine lv_iushr (v := (w.toUInt32 >>> ((nI 8).toUInt32 &&& Int32.toUInt32 31)).toInt32) hx hb d_B_append_31 rfl ?_
  refine lv_sipush (v := nI 255) hx hb d_B_append_32 (by decide) ?_
  refine lv_iand hx hb d_B_append_35 ?_
  refine st_iast hx hb hK hP hD hS 14 0 rfl rfl (by omega) (by decide) d_B_append_36 (fun H locs hP hD hS => ?_)
  replace hP : va_P D CC (wC tk ad (mup (mup (mup (mup (mup g 9 n (((w.toUInt32 >>> ((nI 24).toUInt32 &&& Int32.toUInt32 31)).toInt32) &&& (nI 255))) 8 0 (nI (n + 1))) 9 (n + 1) (((w.toUInt32 >>> ((nI 16).toUInt32 &&& Int32.toUInt32 31)).toInt32) &&& (nI 255))) 8 0 (nI ((n + 1) + 1))) 9 ((n + 1) + 1) (((w.toUInt32 >>> ((nI 8).toUInt32 &&& Int32.toUInt32 31)).toInt32) &&& (nI 255))) rr ++ tl) H := Eq.mp (congrArg (fun w => va_P D CC w H) (sC_14 tk ad (mup (mup (mup (mup g 9 n (((w.toUInt32 >>> ((nI 24).toUInt32 &&& Int32.toUInt32 31)).toInt32) &&& (nI 255))) 8 0 (nI (n + 1))) 9 (n + 1) (((w.toUInt32 >>> ((nI 16).toUInt32 &&& Int32.toUInt32 31)).toInt32) &&& (nI 255))) 8 0 (nI ((n + 1) + 1))) rr tl ((n + 1) + 1) (((w.toUInt32 >>> ((nI 8).toUInt32 &&& Int32.toUInt32 31)).toInt32) &&& (nI 255)))) hP
  replace hD : va_D A (wC tk ad (mup (mup (mup (mup (mup g 9 n (((w.toUInt32 >>> ((nI 24).toUInt32 &&& Int32.toUInt32 31)).toInt32) &&& (nI 255))) 8 0 (nI (n + 1))) 9 (n + 1) (((w.toUInt32 >>> ((nI 16).toUInt32 &&& Int32.toUInt32 31)).toInt32) &&& (nI 255))) 8 0 (nI ((n + 1) + 1))) 9 ((n + 1) + 1) (((w.toUInt32 >>> ((nI 8).toUInt32 &&& Int32.toUInt32 31)).toInt32) &&& (nI 255))) rr ++ tl) := Eq.mp (congrArg (fun w => va_D A w) (sC_14 tk ad (mup (mup (mup (mup g 9 n (((w.toUInt32 >>> ((nI 24).toUInt32 &&& Int32.toUInt32 31)).toInt32) &&& (nI 255))) 8 0 (nI (n + 1))) 9 (n + 1) (((w.toUInt32 >>> ((nI 16).toUInt32 &&& Int32.toUInt32 31)).toInt32) &&& (nI 255))) 8 0 (nI ((n + 1) + 1))) rr tl ((n + 1) + 1) (((w.toUInt32 >>> ((nI 8).toUInt32 &&& Int32.toUInt32 31)).toInt32) &&& (nI 255)))) hD
  refine lv_aload_n hx hb d_B_append_37 rfl (lv_at hl 1 rfl) ?_
  refine lv_dup hx hb d_B_append_38 rfl ?_
  refine gf_B_15 (v := .int ((mup (mup (mup (mup (mup g 9 n (((w.toUInt32 >>> ((nI 24).toUInt32 &&& Int32.toUInt32 31)).toInt32) &&& (nI 255))) 8 0 (nI (n + 1))) 9 (n + 1) (((w.toUInt32 >>> ((nI 16).toUInt32 &&& Int32.toUInt32 31)).toInt32) &&& (nI 255))) 8 0 (nI ((n + 1) + 1))) 9 ((n + 1) + 1) (((w.toUInt32 >>> ((nI 8).toUInt32 &&& Int32.toUInt32 31)).toInt32) &&& (nI 255))) 8 0)) hx hb hT hown hK hP 13 rfl rfl d_B_append_39 ?_
  refine st_top (show (mup (mup (mup (mup (mup g 9 n (((w.toUInt32 >>> ((nI 24).toUInt32 &&& Int32.toUInt32 31)).toInt32) &&& (nI 255))) 8 0 (nI (n + 1))) 9 (n + 1) (((w.toUInt32 >>> ((nI 16).toUInt32 &&& Int32.toUInt32 31)).toInt32) &&& (nI 255))) 8 0 (nI ((n + 1) + 1))) 9 ((n + 1) + 1) (((w.toUInt32 >>> ((nI 8).toUInt32 &&& Int32.toUInt32 31)).toInt32) &&& (nI 255))) 8 0 = nI ((n + 1) + 1) from (rd_ne (by decide) rd_eq)) ?_
  refine lv_iconst (v := nI 1) hx hb d_B_append_42 (by decide) ?_
  refine st_iadd hx hb d_B_append_43 ?_
  refine pf_B_15 hx hb hT hown hK hP hD hS 13 rfl (Nat.le_of_ble_eq_true rfl) d_B_append_44 (fun H locs hP hD hS => ?_)
  replace hP : va_P D CC (wC tk ad (mup (mup (mup (mup (mup (mup g 9 n (((w.toUInt32 >>> ((nI 24).toUInt32 &&& Int32.toUInt32 31)).toInt32) &&& (nI 255))) 8 0 (nI (n + 1))) 9 (n + 1) (((w.toUInt32 >>> ((nI 16).toUInt32 &&& Int32.toUInt32 31)).toInt32) &&& (nI 255))) 8 0 (nI ((n + 1) + 1))) 9 ((n + 1) + 1) (((w.toUInt32 >>> ((nI 8).toUInt32 &&& Int32.toUInt32 31)).toInt32) &&& (nI 255))) 8 0 (nI (((n + 1) + 1) + 1))) rr ++ tl) H := Eq.mp (congrArg (fun w => va_P D CC w H) (sC_13_1 tk ad (mup (mup (mup (mup (mup g 9 n (((w.toUInt32 >>> ((nI 24).toUInt32 &&& Int32.toUInt32 31)).toInt32) &&& (nI 255))) 8 0 (nI (n + 1))) 9 (n + 1) (((w.toUInt32 >>> ((nI 16).toUInt32 &&& Int32.toUInt32 31)).toInt32) &&& (nI 255))) 8 0 (nI ((n + 1) + 1))) 9 ((n + 1) + 1) (((w.toUInt32 >>> ((nI 8).toUInt32 &&& Int32.toUInt32 31)).toInt32) &&& (nI 255))) rr tl (nI (((n + 1) + 1) + 1)))) hP
  replace hD : va_D A (wC tk ad (mup (mup (mup (mup (mup (mup g 9 n (((w.toUInt32 >>> ((nI 24).toUInt32 &&& Int32.toUInt32 31)).toInt32) &&& (nI 255))) 8 0 (nI (n + 1))) 9 (n + 1) (((w.toUInt32 >>> ((nI 16).toUInt32 &&& Int32.toUInt32 31)).toInt32) &&& (nI 255))) 8 0 (nI ((n + 1) + 1))) 9 ((n + 1) + 1) (((w.toUInt32 >>> ((nI 8).toUInt32 &&& Int32.toUInt32 31)).toInt32) &&& (nI 255))) 8 0 (nI (((n + 1) + 1) + 1))) rr ++ tl) := Eq.mp (congrArg (fun w => va_D A w) (sC_13_1 tk ad (mup (mup (mup (mup (mup g 9 n (((w.toUInt32 >>> ((nI 24).toUInt32 &&& Int32.toUInt32 31)).toInt32) &&& (nI 255))) 8 0 (nI (n + 1))) 9 (n + 1) (((w.toUInt32 >>> ((nI 16).toUInt32 &&& Int32.toUInt32 31)).toInt32) &&& (nI 255))) 8 0 (nI ((n + 1) + 1))) 9 ((n + 1) + 1) (((w.toUInt32 >>> ((nI 8).toUInt32 &&& Int32.toUInt32 31)).toInt32) &&& (nI 255))) rr tl (nI (((n + 1) + 1) + 1)))) hD
  refine lv_iinc (k := 0) (v := nI 0) (lv' := [(3, .int (nI 0)), (0, .ref (ad 13)), (1, .int w), (2, .int (nI 4))]) hx hb d_B_append_47 hl rfl (by decide) (by decide) rfl (fun ls hl => ?_)
  refine lv_goto hx hb d_B_append_50 (tgt := 7) (by decide) ?_
  refine lv_iload_n hx hb d_B_append_7 rfl (lv_at hl 0 rfl) ?_
  refine st_if_lt hx hb (by omega) d_B_append_8 (tgt := 53) (by decide) (fun hc8 => (by exfalso; first | exact hc8 | omega)) (fun hc8 => ?_)
  refine lv_aload_n hx hb d_B_append_11 rfl (lv_at hl 1 rfl) ?_
  refine gf_B_15 (v := .int ((mup (mup (mup (mup (mup (mup g 9 n (((w.toUInt32 >>> ((nI 24).toUInt32 &&& Int32.toUInt32 31)).toInt32) &&& (nI 255))) 8 0 (nI (n + 1))) 9 (n + 1) (((w.toUInt32 >>> ((nI 16).toUInt32 &&& Int32.toUInt32 31)).toInt32) &&& (nI 255))) 8 0 (nI ((n + 1) + 1))) 9 ((n + 1) + 1) (((w.toUInt32 >>> ((nI 8).toUInt32 &&& Int32.toUInt32 31)).toInt32) &&& (nI 255))) 8 0 (nI (((n + 1) + 1) + 1))) 8 0)) hx hb hT hown hK hP 13 rfl rfl d_B_append_12 ?_
  refine st_top (show (mup (mup (mup (mup (mup (mup g 9 n (((w.toUInt32 >>> ((nI 24).toUInt32 &&& Int32.toUInt32 31)).toInt32) &&& (nI 255))) 8 0 (nI (n + 1))) 9 (n + 1) (((w.toUInt32 >>> ((nI 16).toUInt32 &&& Int32.toUInt32 31)).toInt32) &&& (nI 255))) 8 0 (nI ((n + 1) + 1))) 9 ((n + 1) + 1) (((w.toUInt32 >>> ((nI 8).toUInt32 &&& Int32.toUInt32 31)).toInt32) &&& (nI 255))) 8 0 (nI (((n + 1) + 1) + 1))) 8 0 = nI (((n + 1) + 1) + 1) from rd_eq) ?_
  refine lv_sipush (v := nI 400) hx hb d_B_append_15 (by decide) ?_
  refine st_icmp_ge hx hb (by omega) (by omega) d_B_append_18 (tgt := 47) (by decide) (fun hc18 => absurd hc18 (by omega)) (fun hc18 => ?_)
  refine lv_aload_n hx hb d_B_append_21 rfl (lv_at hl 1 rfl) ?_
  refine gf_B_9 (v := .ref (ad 14)) hx hb hT hown hK hP 13 rfl rfl d_B_append_22 ?_
  refine lv_aload_n hx hb d_B_append_25 rfl (lv_at hl 1 rfl) ?_
  refine gf_B_15 (v := .int ((mup (mup (mup (mup (mup (mup g 9 n (((w.toUInt32 >>> ((nI 24).toUInt32 &&& Int32.toUInt32 31)).toInt32) &&& (nI 255))) 8 0 (nI (n + 1))) 9 (n + 1) (((w.toUInt32 >>> ((nI 16).toUInt32 &&& Int32.toUInt32 31)).toInt32) &&& (nI 255))) 8 0 (nI ((n + 1) + 1))) 9 ((n + 1) + 1) (((w.toUInt32 >>> ((nI 8).toUInt32 &&& Int32.toUInt32 31)).toInt32) &&& (nI 255))) 8 0 (nI (((n + 1) + 1) + 1))) 8 0)) hx hb hT hown hK hP 13 rfl rfl d_B_append_26 ?_
  refine st_top (show (mup (mup (mup (mup (mup (mup g 9 n (((w.toUInt32 >>> ((nI 24).toUInt32 &&& Int32.toUInt32 31)).toInt32) &&& (nI 255))) 8 0 (nI (n + 1))) 9 (n + 1) (((w.toUInt32 >>> ((nI 16).toUInt32 &&& Int32.toUInt32 31)).toInt32) &&& (nI 255))) 8 0 (nI ((n + 1) + 1))) 9 ((n + 1) + 1) (((w.toUInt32 >>> ((nI 8).toUInt32 &&& Int32.toUInt32 31)).toInt32) &&& (nI 255))) 8 0 (nI (((n + 1) + 1) + 1))) 8 0 = nI (((n + 1) + 1) + 1) from rd_eq) ?_
  refine lv_iload_n hx hb d_B_append_29 rfl (lv_at hl 2 rfl) ?_
  refine lv_iload_n hx hb d_B_append_30 rfl (lv_at hl 0 rfl) ?_
  refine lv_iushr (v := (w.toUInt32 >>> ((nI 0).toUInt32 &&& Int32.toUInt32 31)).toInt32) hx hb d_B_append_31 rfl ?_
  refine lv_sipush (v := nI 255) hx hb d_B_append_32 (by decide) ?_
  refine lv_iand hx hb d_B_append_35 ?_
  refine st_iast hx hb hK hP hD hS 14 0 rfl rfl (by omega) (by decide) d_B_append_36 (fun H locs hP hD hS => ?_)
  replace hP : va_P D CC (wC tk ad (mup (mup (mup (mup (mup (mup (mup g 9 n (((w.toUInt32 >>> ((nI 24).toUInt32 &&& Int32.toUInt32 31)).toInt32) &&& (nI 255))) 8 0 (nI (n + 1))) 9 (n + 1) (((w.toUInt32 >>> ((nI 16).toUInt32 &&& Int32.toUInt32 31)).toInt32) &&& (nI 255))) 8 0 (nI ((n + 1) + 1))) 9 ((n + 1) + 1) (((w.toUInt32 >>> ((nI 8).toUInt32 &&& Int32.toUInt32 31)).toInt32) &&& (nI 255))) 8 0 (nI (((n + 1) + 1) + 1))) 9 (((n + 1) + 1) + 1) (((w.toUInt32 >>> ((nI 0).toUInt32 &&& Int32.toUInt32 31)).toInt32) &&& (nI 255))) rr ++ tl) H := Eq.mp (congrArg (fun w => va_P D CC w H) (sC_14 tk ad (mup (mup (mup (mup (mup (mup g 9 n (((w.toUInt32 >>> ((nI 24).toUInt32 &&& Int32.toUInt32 31)).toInt32) &&& (nI 255))) 8 0 (nI (n + 1))) 9 (n + 1) (((w.toUInt32 >>> ((nI 16).toUInt32 &&& Int32.toUInt32 31)).toInt32) &&& (nI 255))) 8 0 (nI ((n + 1) + 1))) 9 ((n + 1) + 1) (((w.toUInt32 >>> ((nI 8).toUInt32 &&& Int32.toUInt32 31)).toInt32) &&& (nI 255))) 8 0 (nI (((n + 1) + 1) + 1))) rr tl (((n + 1) + 1) + 1) (((w.toUInt32 >>> ((nI 0).toUInt32 &&& Int32.toUInt32 31)).toInt32) &&& (nI 255)))) hP
  replace hD : va_D A (wC tk ad (mup (mup (mup (mup (mup (mup (mup g 9 n (((w.toUInt32 >>> ((nI 24).toUInt32 &&& Int32.toUInt32 31)).toInt32) &&& (nI 255))) 8 0 (nI (n + 1))) 9 (n + 1) (((w.toUInt32 >>> ((nI 16).toUInt32 &&& Int32.toUInt32 31)).toInt32) &&& (nI 255))) 8 0 (nI ((n + 1) + 1))) 9 ((n + 1) + 1) (((w.toUInt32 >>> ((nI 8).toUInt32 &&& Int32.toUInt32 31)).toInt32) &&& (nI 255))) 8 0 (nI (((n + 1) + 1) + 1))) 9 (((n + 1) + 1) + 1) (((w.toUInt32 >>> ((nI 0).toUInt32 &&& Int32.toUInt32 31)).toInt32) &&& (nI 255))) rr ++ tl) := Eq.mp (congrArg (fun w => va_D A w) (sC_14 tk ad (mup (mup (mup (mup (mup (mup g 9 n (((w.toUInt32 >>> ((nI 24).toUInt32 &&& Int32.toUInt32 31)).toInt32) &&& (nI 255))) 8 0 (nI (n + 1))) 9 (n + 1) (((w.toUInt32 >>> ((nI 16).toUInt32 &&& Int32.toUInt32 31)).toInt32) &&& (nI 255))) 8 0 (nI ((n + 1) + 1))) 9 ((n + 1) + 1) (((w.toUInt32 >>> ((nI 8).toUInt32 &&& Int32.toUInt32 31)).toInt32) &&& (nI 255))) 8 0 (nI (((n + 1) + 1) + 1))) rr tl (((n + 1) + 1) + 1) (((w.toUInt32 >>> ((nI 0).toUInt32 &&& Int32.toUInt32 31)).toInt32) &&& (nI 255)))) hD
  refine lv_aload_n hx hb d_B_append_37 rfl (lv_at hl 1 rfl) ?_
  refine lv_dup hx hb d_B_append_38 rfl ?_
  refine gf_B_15 (v := .int ((mup (mup (mup (mup (mup (mup (mup g 9 n (((w.toUInt32 >>> ((nI 24).toUInt32 &&& Int32.toUInt32 31)).toInt32) &&& (nI 255))) 8 0 (nI (n + 1))) 9 (n + 1) (((w.toUInt32 >>> ((nI 16).toUInt32 &&& Int32.toUInt32 31)).toInt32) &&& (nI 255))) 8 0 (nI ((n + 1) + 1))) 9 ((n + 1) + 1) (((w.toUInt32 >>> ((nI 8).toUInt32 &&& Int32.toUInt32 31)).toInt32) &&& (nI 255))) 8 0 (nI (((n + 1) + 1) + 1))) 9 (((n + 1) + 1) + 1) (((w.toUInt32 >>> ((nI 0).toUInt32 &&& Int32.toUInt32 31)).toInt32) &&& (nI 255))) 8 0)) hx hb hT hown hK hP 13 rfl rfl d_B_append_39 ?_
  refine st_top (show (mup (mup (mup (mup (mup (mup (mup g 9 n (((w.toUInt32 >>> ((nI 24).toUInt32 &&& Int32.toUInt32 31)).toInt32) &&& (nI 255))) 8 0 (nI (n + 1))) 9 (n + 1) (((w.toUInt32 >>> ((nI 16).toUInt32 &&& Int32.toUInt32 31)).toInt32) &&& (nI 255))) 8 0 (nI ((n + 1) + 1))) 9 ((n + 1) + 1) (((w.toUInt32 >>> ((nI 8).toUInt32 &&& Int32.toUInt32 31)).toInt32) &&& (nI 255))) 8 0 (nI (((n + 1) + 1) + 1))) 9 (((n + 1) + 1) + 1) (((w.toUInt32 >>> ((nI 0).toUInt32 &&& Int32.toUInt32 31)).toInt32) &&& (nI 255))) 8 0 = nI (((n + 1) + 1) + 1) from (rd_ne (by decide) rd_eq)) ?_
  refine lv_iconst (v := nI 1) hx hb d_B_append_42 (by decide) ?_
  refine st_iadd hx hb d_B_append_43 ?_
  refine pf_B_15 hx hb hT hown hK hP hD hS 13 rfl (Nat.le_of_ble_eq_true rfl) d_B_append_44 (fun H locs hP hD hS => ?_)
  replace hP : va_P D CC (wC tk ad (mup (mup (mup (mup (mup (mup (mup (mup g 9 n (((w.toUInt32 >>> ((nI 24).toUInt32 &&& Int32.toUInt32 31)).toInt32) &&& (nI 255))) 8 0 (nI (n + 1))) 9 (n + 1) (((w.toUInt32 >>> ((nI 16).toUInt32 &&& Int32.toUInt32 31)).toInt32) &&& (nI 255))) 8 0 (nI ((n + 1) + 1))) 9 ((n + 1) + 1) (((w.toUInt32 >>> ((nI 8).toUInt32 &&& Int32.toUInt32 31)).toInt32) &&& (nI 255))) 8 0 (nI (((n + 1) + 1) + 1))) 9 (((n + 1) + 1) + 1) (((w.toUInt32 >>> ((nI 0).toUInt32 &&& Int32.toUInt32 31)).toInt32) &&& (nI 255))) 8 0 (nI ((((n + 1) + 1) + 1) + 1))) rr ++ tl) H := Eq.mp (congrArg (fun w => va_P D CC w H) (sC_13_1 tk ad (mup (mup (mup (mup (mup (mup (mup g 9 n (((w.toUInt32 >>> ((nI 24).toUInt32 &&& Int32.toUInt32 31)).toInt32) &&& (nI 255))) 8 0 (nI (n + 1))) 9 (n + 1) (((w.toUInt32 >>> ((nI 16).toUInt32 &&& Int32.toUInt32 31)).toInt32) &&& (nI 255))) 8 0 (nI ((n + 1) + 1))) 9 ((n + 1) + 1) (((w.toUInt32 >>> ((nI 8).toUInt32 &&& Int32.toUInt32 31)).toInt32) &&& (nI 255))) 8 0 (nI (((n + 1) + 1) + 1))) 9 (((n + 1) + 1) + 1) (((w.toUInt32 >>> ((nI 0).toUInt32 &&& Int32.toUInt32 31)).toInt32) &&& (nI 255))) rr tl (nI ((((n + 1) + 1) + 1) + 1)))) hP
  replace hD : va_D A (wC tk ad (mup (mup (mup (mup (mup (mup (mup (mup g 9 n (((w.toUInt32 >>> ((nI 24).toUInt32 &&& Int32.toUInt32 31)).toInt32) &&& (nI 255))) 8 0 (nI (n + 1))) 9 (n + 1) (((w.toUInt32 >>> ((nI 16).toUInt32 &&& Int32.toUInt32 31)).toInt32) &&& (nI 255))) 8 0 (nI ((n + 1) + 1))) 9 ((n + 1) + 1) (((w.toUInt32 >>> ((nI 8).toUInt32 &&& Int32.toUInt32 31)).toInt32) &&& (nI 255))) 8 0 (nI (((n + 1) + 1) + 1))) 9 (((n + 1) + 1) + 1) (((w.toUInt32 >>> ((nI 0).toUInt32 &&& Int32.toUInt32 31)).toInt32) &&& (nI 255))) 8 0 (nI ((((n + 1) + 1) + 1) + 1))) rr ++ tl) := Eq.mp (congrArg (fun w => va_D A w) (sC_13_1 tk ad (mup (mup (mup (mup (mup (mup (mup g 9 n (((w.toUInt32 >>> ((nI 24).toUInt32 &&& Int32.toUInt32 31)).toInt32) &&& (nI 255))) 8 0 (nI (n + 1))) 9 (n + 1) (((w.toUInt32 >>> ((nI 16).toUInt32 &&& Int32.toUInt32 31)).toInt32) &&& (nI 255))) 8 0 (nI ((n + 1) + 1))) 9 ((n + 1) + 1) (((w.toUInt32 >>> ((nI 8).toUInt32 &&& Int32.toUInt32 31)).toInt32) &&& (nI 255))) 8 0 (nI (((n + 1) + 1) + 1))) 9 (((n + 1) + 1) + 1) (((w.toUInt32 >>> ((nI 0).toUInt32 &&& Int32.toUInt32 31)).toInt32) &&& (nI 255))) rr tl (nI ((((n + 1) + 1) + 1) + 1)))) hD
  refine lv_iinc (k := 0) (v := -8) (lv' := [(3, .int (-8)), (0, .ref (ad 13)), (1, .int w), (2, .int (nI 4))]) hx hb d_B_append_47 hl rfl (by decide) (by decide) rfl (fun ls hl => ?_)
  refine lv_goto hx hb d_B_append_50 (tgt := 7) (by decide) ?_
  refine lv_iload_n hx hb d_B_append_7 rfl (lv_at hl 0 rfl) ?_
  refine lv_if_lt hx hb d_B_append_8 (tgt := 53) (by decide) (fun hc8 => ?_) (fun hc8 => absurd hc8 (by decide))
  exact k_vret hQ hx hb hr hlk hK hP hD hS () rfl trivial d_B_append_53

set_option maxHeartbeats 4000000 in
set_option maxRecDepth 100000 in
theorem c_B_clearV (l : Launch) (D : va_G) (tk : Nat → ClassId) (sz : Nat) (ad : Nat → Nat) (g : Nat → Nat → Int32) (rr : Nat → Nat → Option Nat) (tl : va_W)  : Met l y_B_clear w_B_clear ({ frames := 0, cells := 0, slots := 0, locals := 0 }) (va_Pc [.ref (ad 16)] (k_pre D (TY tk) sz (wC tk ad g rr ++ tl))) (va_Qv (fun (_ : Unit) => True) (fun u t => k_at D (TY tk) (va_A (wC tk ad g rr ++ tl) sz) ((fun _ => wC tk ad (mup g 20 0 (nI 0)) rr ++ tl) u) t) (va_A (wC tk ad g rr ++ tl) sz)) 0 0 (va_A (wC tk ad g rr ++ tl) sz) := by
  refine k_ofW (fun A => va_Qv (fun (_ : Unit) => True) (fun u t => k_at D (TY tk) A ((fun _ => wC tk ad (mup g 20 0 (nI 0)) rr ++ tl) u) t) A) (by decide) (Nat.le_of_ble_eq_true rfl) ?_
  intro p e s m args below meth c Q A ls hQ hx hb hr hlk hin hts hT hown hml hnw hP hK hD hA hsz hl
  have hS : va_S A s.heap s.heap [] := va_S.rf
  have hc0 : 0 + 0 ≤ 0 ∧ 0 + 0 ≤ 0 := ⟨by decide, by decide⟩
  replace hl : lv_has ls 1 [(0, .ref (ad 16))] := hl
  replace hP : va_P D CC (wC tk ad g rr ++ tl) s.heap := hP
  replace hK : va_K D CC (TY tk) s := hK
  refine lv_aload_n hx hb d_B_clear_0 rfl (lv_at hl 0 rfl) ?_
  refine lv_iconst (v := nI 0) hx hb d_B_clear_1 (by decide) ?_
  refine pf_B_15 hx hb hT hown hK hP hD hS 16 rfl (Nat.le_of_ble_eq_true rfl) d_B_clear_2 (fun H locs hP hD hS => ?_)
  replace hP : va_P D CC (wC tk ad (mup g 20 0 (nI 0)) rr ++ tl) H := Eq.mp (congrArg (fun w => va_P D CC w H) (sC_16_1 tk ad g rr tl (nI 0))) hP
  replace hD : va_D A (wC tk ad (mup g 20 0 (nI 0)) rr ++ tl) := Eq.mp (congrArg (fun w => va_D A w) (sC_16_1 tk ad g rr tl (nI 0))) hD
  exact k_vret hQ hx hb hr hlk hK hP hD hS () rfl trivial d_B_clear_5

set_option maxHeartbeats 4000000 in
set_option maxRecDepth 100000 in
theorem c_B_atV (l : Launch) (D : va_G) (tk : Nat → ClassId) (sz : Nat) (ad : Nat → Nat) (g : Nat → Nat → Int32) (rr : Nat → Nat → Option Nat) (tl : va_W) (n : Nat) (hn : n ≤ 400) (hg : g 20 0 = nI n) (i : Int32) : Met l y_B_at w_B_at ({ frames := 0, cells := 0, slots := 0, locals := 0 }) (va_Pc [.ref (ad 16), .int i] (k_pre D (TY tk) sz (wC tk ad g rr ++ tl))) (va_Qi (fun (r : Int32) (_ : Unit) => r = if i < nI 0 ∨ g 20 0 - nI 1 < i then (-1) else g 21 i.toNatClampNeg) (fun u t => k_at D (TY tk) (va_A (wC tk ad g rr ++ tl) sz) ((fun _ => wC tk ad g rr ++ tl) u) t) (va_A (wC tk ad g rr ++ tl) sz)) 0 0 (va_A (wC tk ad g rr ++ tl) sz) := by
  refine k_ofW (fun A => va_Qi (fun (r : Int32) (_ : Unit) => r = if i < nI 0 ∨ g 20 0 - nI 1 < i then (-1) else g 21 i.toNatClampNeg) (fun u t => k_at D (TY tk) A ((fun _ => wC tk ad g rr ++ tl) u) t) A) (by decide) (Nat.le_of_ble_eq_true rfl) ?_
  intro p e s m args below meth c Q A ls hQ hx hb hr hlk hin hts hT hown hml hnw hP hK hD hA hsz hl
  have hS : va_S A s.heap s.heap [] := va_S.rf
  have hc0 : 0 + 0 ≤ 0 ∧ 0 + 0 ≤ 0 := ⟨by decide, by decide⟩
  replace hl : lv_has ls 2 [(0, .ref (ad 16)), (1, .int i)] := hl
  replace hP : va_P D CC (wC tk ad g rr ++ tl) s.heap := hP
  replace hK : va_K D CC (TY tk) s := hK
  refine lv_iload_n hx hb d_B_at_0 rfl (lv_at hl 1 rfl) ?_
  refine lv_if_lt hx hb d_B_at_1 (tgt := 21) (by decide) (fun hc1 => ?_) (fun hc1 => ?_)
  · skip
    have hn9 : i < nI 0 ∨ g 20 0 - nI 1 < i := Or.inl hc1
    refine lv_iconst (v := -1) hx hb d_B_at_21 (by decide) ?_
    exact k_iret (v := -1) hQ hx hb hr hlk hK hP hD hS () rfl (by (try rw [nI_clamp (by omega)]); (iterate 4 (try (first | rw [if_pos (by assumption)] | rw [if_neg (by assumption)]))); try rfl) d_B_at_22
  · skip
    refine lv_iload_n hx hb d_B_at_4 rfl (lv_at hl 1 rfl) ?_
    refine lv_aload_n hx hb d_B_at_5 rfl (lv_at hl 0 rfl) ?_
    refine gf_B_15 (v := .int (g 20 0)) hx hb hT hown hK hP 16 rfl rfl d_B_at_6 ?_
    refine lv_icmp_ge hx hb d_B_at_9 (tgt := 21) (by decide) (fun hc9 => ?_) (fun hc9 => ?_)
    · skip
      have hn9 : i < nI 0 ∨ g 20 0 - nI 1 < i := Or.inr (m_out hg hn hc1 hc9)
      refine lv_iconst (v := -1) hx hb d_B_at_21 (by decide) ?_
      exact k_iret (v := -1) hQ hx hb hr hlk hK hP hD hS () rfl (by (try rw [nI_clamp (by omega)]); (iterate 4 (try (first | rw [if_pos (by assumption)] | rw [if_neg (by assumption)]))); try rfl) d_B_at_22
    · skip
      have hn9 : ¬ (i < nI 0 ∨ g 20 0 - nI 1 < i) := m_inn hg hn hc1 hc9
      obtain ⟨j, hj, rfl⟩ := m_idx hg hn hn9
      refine lv_aload_n hx hb d_B_at_12 rfl (lv_at hl 0 rfl) ?_
      refine gf_B_9 (v := .ref (ad 17)) hx hb hT hown hK hP 16 rfl rfl d_B_at_13 ?_
      refine lv_iload_n hx hb d_B_at_16 rfl (lv_at hl 1 rfl) ?_
      refine st_iald hx hb hK hP 17 0 rfl rfl (by omega) (by decide) d_B_at_17 ?_
      refine lv_goto hx hb d_B_at_18 (tgt := 22) (by decide) ?_
      exact k_iret (v := g 21 j) hQ hx hb hr hlk hK hP hD hS () rfl (by (try rw [nI_clamp (by omega)]); (iterate 4 (try (first | rw [if_pos (by assumption)] | rw [if_neg (by assumption)]))); try rfl) d_B_at_22

set_option maxHeartbeats 4000000 in
set_option maxRecDepth 100000 in
theorem c_B_appendV1 (l : Launch) (D : va_G) (tk : Nat → ClassId) (sz : Nat) (ad : Nat → Nat) (g : Nat → Nat → Int32) (rr : Nat → Nat → Option Nat) (tl : va_W) (n : Nat) (hn : n + 1 ≤ 400) (hg : g 20 0 = nI n) (w : Int32) : Met l y_B_append w_B_append ({ frames := 0, cells := 0, slots := 0, locals := 0 }) (va_Pc [.ref (ad 16), .int w, .int (nI 1)] (k_pre D (TY tk) sz (wC tk ad g rr ++ tl))) (va_Qv (fun (_ : Unit) => True) (fun u t => k_at D (TY tk) (va_A (wC tk ad g rr ++ tl) sz) ((fun _ => wC tk ad (apC 20 21 g n w 1) rr ++ tl) u) t) (va_A (wC tk ad g rr ++ tl) sz)) 0 0 (va_A (wC tk ad g rr ++ tl) sz) := by
  refine k_ofW (fun A => va_Qv (fun (_ : Unit) => True) (fun u t => k_at D (TY tk) A ((fun _ => wC tk ad (apC 20 21 g n w 1) rr ++ tl) u) t) A) (by decide) (Nat.le_of_ble_eq_true rfl) ?_
  intro p e s m args below meth c Q A ls hQ hx hb hr hlk hin hts hT hown hml hnw hP hK hD hA hsz hl
  have hS : va_S A s.heap s.heap [] := va_S.rf
  have hc0 : 0 + 0 ≤ 0 ∧ 0 + 0 ≤ 0 := ⟨by decide, by decide⟩
  replace hl : lv_has ls 4 [(0, .ref (ad 16)), (1, .int w), (2, .int (nI 1))] := hl
  replace hP : va_P D CC (wC tk ad g rr ++ tl) s.heap := hP
  replace hK : va_K D CC (TY tk) s := hK
  refine lv_bipush (v := nI 8) hx hb d_B_append_0 (by decide) ?_
  refine lv_iload_n hx hb d_B_append_2 rfl (lv_at hl 2 rfl) ?_
  refine lv_iconst (v := nI 1) hx hb d_B_append_3 (by decide) ?_
  refine st_isub hx hb (by omega) d_B_append_4 ?_
  refine st_imul hx hb d_B_append_5 ?_
  refine lv_istore_n (lv' := [(3, .int (nI 0)), (0, .ref (ad 16)), (1, .int w), (2, .int (nI 1))]) hx hb d_B_append_6 rfl hl (by decide) rfl (fun ls hl => ?_)
  refine lv_iload_n hx hb d_B_append_7 rfl (lv_at hl 0 rfl) ?_
  refine st_if_lt hx hb (by omega) d_B_append_8 (tgt := 53) (by decide) (fun hc8 => (by exfalso; first | exact hc8 | omega)) (fun hc8 => ?_)
  refine lv_aload_n hx hb d_B_append_11 rfl (lv_at hl 1 rfl) ?_
  refine gf_B_15 (v := .int (g 20 0)) hx hb hT hown hK hP 16 rfl rfl d_B_append_12 ?_
  refine st_top (show g 20 0 = nI n from hg) ?_
  refine lv_sipush (v := nI 400) hx hb d_B_append_15 (by decide) ?_
  refine st_icmp_ge hx hb (by omega) (by omega) d_B_append_18 (tgt := 47) (by decide) (fun hc18 => absurd hc18 (by omega)) (fun hc18 => ?_)
  refine lv_aload_n hx hb d_B_append_21 rfl (lv_at hl 1 rfl) ?_
  refine gf_B_9 (v := .ref (ad 17)) hx hb hT hown hK hP 16 rfl rfl d_B_append_22 ?_
  refine lv_aload_n hx hb d_B_append_25 rfl (lv_at hl 1 rfl) ?_
  refine gf_B_15 (v := .int (g 20 0)) hx hb hT hown hK hP 16 rfl rfl d_B_append_26 ?_
  refine st_top (show g 20 0 = nI n from hg) ?_
  refine lv_iload_n hx hb d_B_append_29 rfl (lv_at hl 2 rfl) ?_
  refine lv_iload_n hx hb d_B_append_30 rfl (lv_at hl 0 rfl) ?_
  refine lv_iushr (v := (w.toUInt32 >>> ((nI 0).toUInt32 &&& Int32.toUInt32 31)).toInt32) hx hb d_B_append_31 rfl ?_
  refine lv_sipush (v := nI 255) hx hb d_B_append_32 (by decide) ?_
  refine lv_iand hx hb d_B_append_35 ?_
  refine st_iast hx hb hK hP hD hS 17 0 rfl rfl (by omega) (by decide) d_B_append_36 (fun H locs hP hD hS => ?_)
  replace hP : va_P D CC (wC tk ad (mup g 21 n (((w.toUInt32 >>> ((nI 0).toUInt32 &&& Int32.toUInt32 31)).toInt32) &&& (nI 255))) rr ++ tl) H := Eq.mp (congrArg (fun w => va_P D CC w H) (sC_17 tk ad g rr tl n (((w.toUInt32 >>> ((nI 0).toUInt32 &&& Int32.toUInt32 31)).toInt32) &&& (nI 255)))) hP
  replace hD : va_D A (wC tk ad (mup g 21 n (((w.toUInt32 >>> ((nI 0).toUInt32 &&& Int32.toUInt32 31)).toInt32) &&& (nI 255))) rr ++ tl) := Eq.mp (congrArg (fun w => va_D A w) (sC_17 tk ad g rr tl n (((w.toUInt32 >>> ((nI 0).toUInt32 &&& Int32.toUInt32 31)).toInt32) &&& (nI 255)))) hD
  refine lv_aload_n hx hb d_B_append_37 rfl (lv_at hl 1 rfl) ?_
  refine lv_dup hx hb d_B_append_38 rfl ?_
  refine gf_B_15 (v := .int ((mup g 21 n (((w.toUInt32 >>> ((nI 0).toUInt32 &&& Int32.toUInt32 31)).toInt32) &&& (nI 255))) 20 0)) hx hb hT hown hK hP 16 rfl rfl d_B_append_39 ?_
  refine st_top (show (mup g 21 n (((w.toUInt32 >>> ((nI 0).toUInt32 &&& Int32.toUInt32 31)).toInt32) &&& (nI 255))) 20 0 = g 20 0 from (rd_ne (by decide) rfl)) ?_
  refine st_top (show g 20 0 = nI n from hg) ?_
  refine lv_iconst (v := nI 1) hx hb d_B_append_42 (by decide) ?_
  refine st_iadd hx hb d_B_append_43 ?_
  refine pf_B_15 hx hb hT hown hK hP hD hS 16 rfl (Nat.le_of_ble_eq_true rfl) d_B_append_44 (fun H locs hP hD hS => ?_)
  replace hP : va_P D CC (wC tk ad (mup (mup g 21 n (((w.toUInt32 >>> ((nI 0).toUInt32 &&& Int32.toUInt32 31)).toInt32) &&& (nI 255))) 20 0 (nI (n + 1))) rr ++ tl) H := Eq.mp (congrArg (fun w => va_P D CC w H) (sC_16_1 tk ad (mup g 21 n (((w.toUInt32 >>> ((nI 0).toUInt32 &&& Int32.toUInt32 31)).toInt32) &&& (nI 255))) rr tl (nI (n + 1)))) hP
  replace hD : va_D A (wC tk ad (mup (mup g 21 n (((w.toUInt32 >>> ((nI 0).toUInt32 &&& Int32.toUInt32 31)).toInt32) &&& (nI 255))) 20 0 (nI (n + 1))) rr ++ tl) := Eq.mp (congrArg (fun w => va_D A w) (sC_16_1 tk ad (mup g 21 n (((w.toUInt32 >>> ((nI 0).toUInt32 &&& Int32.toUInt32 31)).toInt32) &&& (nI 255))) rr tl (nI (n + 1)))) hD
  refine lv_iinc (k := 0) (v := -8) (lv' := [(3, .int (-8)), (0, .ref (ad 16)), (1, .int w), (2, .int (nI 1))]) hx hb d_B_append_47 hl rfl (by decide) (by decide) rfl (fun ls hl => ?_)
  refine lv_goto hx hb d_B_append_50 (tgt := 7) (by decide) ?_
  refine lv_iload_n hx hb d_B_append_7 rfl (lv_at hl 0 rfl) ?_
  refine lv_if_lt hx hb d_B_append_8 (tgt := 53) (by decide) (fun hc8 => ?_) (fun hc8 => absurd hc8 (by decide))
  exact k_vret hQ hx hb hr hlk hK hP hD hS () rfl trivial d_B_append_53

set_option maxHeartbeats 4000000 in
set_option maxRecDepth 100000 in
theorem c_B_appendV2 (l : Launch) (D : va_G) (tk : Nat → ClassId) (sz : Nat) (ad : Nat → Nat) (g : Nat → Nat → Int32) (rr : Nat → Nat → Option Nat) (tl : va_W) (n : Nat) (hn : n + 2 ≤ 400) (hg : g 20 0 = nI n) (w : Int32) : Met l y_B_append w_B_append ({ frames := 0, cells := 0, slots := 0, locals := 0 }) (va_Pc [.ref (ad 16), .int w, .int (nI 2)] (k_pre D (TY tk) sz (wC tk ad g rr ++ tl))) (va_Qv (fun (_ : Unit) => True) (fun u t => k_at D (TY tk) (va_A (wC tk ad g rr ++ tl) sz) ((fun _ => wC tk ad (apC 20 21 g n w 2) rr ++ tl) u) t) (va_A (wC tk ad g rr ++ tl) sz)) 0 0 (va_A (wC tk ad g rr ++ tl) sz) := by
  refine k_ofW (fun A => va_Qv (fun (_ : Unit) => True) (fun u t => k_at D (TY tk) A ((fun _ => wC tk ad (apC 20 21 g n w 2) rr ++ tl) u) t) A) (by decide) (Nat.le_of_ble_eq_true rfl) ?_
  intro p e s m args below meth c Q A ls hQ hx hb hr hlk hin hts hT hown hml hnw hP hK hD hA hsz hl
  have hS : va_S A s.heap s.heap [] := va_S.rf
  have hc0 : 0 + 0 ≤ 0 ∧ 0 + 0 ≤ 0 := ⟨by decide, by decide⟩
  replace hl : lv_has ls 4 [(0, .ref (ad 16)), (1, .int w), (2, .int (nI 2))] := hl
  replace hP : va_P D CC (wC tk ad g rr ++ tl) s.heap := hP
  replace hK : va_K D CC (TY tk) s := hK
  refine lv_bipush (v := nI 8) hx hb d_B_append_0 (by decide) ?_
  refine lv_iload_n hx hb d_B_append_2 rfl (lv_at hl 2 rfl) ?_
  refine lv_iconst (v := nI 1) hx hb d_B_append_3 (by decide) ?_
  refine st_isub hx hb (by omega) d_B_append_4 ?_
  refine st_imul hx hb d_B_append_5 ?_
  refine lv_istore_n (lv' := [(3, .int (nI 8)), (0, .ref (ad 16)), (1, .int w), (2, .int (nI 2))]) hx hb d_B_append_6 rfl hl (by decide) rfl (fun ls hl => ?_)
  refine lv_iload_n hx hb d_B_append_7 rfl (lv_at hl 0 rfl) ?_
  refine st_if_lt hx hb (by omega) d_B_append_8 (tgt := 53) (by decide) (fun hc8 => (by exfalso; first | exact hc8 | omega)) (fun hc8 => ?_)
  refine lv_aload_n hx hb d_B_append_11 rfl (lv_at hl 1 rfl) ?_
  refine gf_B_15 (v := .int (g 20 0)) hx hb hT hown hK hP 16 rfl rfl d_B_append_12 ?_
  refine st_top (show g 20 0 = nI n from hg) ?_
  refine lv_sipush (v := nI 400) hx hb d_B_append_15 (by decide) ?_
  refine st_icmp_ge hx hb (by omega) (by omega) d_B_append_18 (tgt := 47) (by decide) (fun hc18 => absurd hc18 (by omega)) (fun hc18 => ?_)
  refine lv_aload_n hx hb d_B_append_21 rfl (lv_at hl 1 rfl) ?_
  refine gf_B_9 (v := .ref (ad 17)) hx hb hT hown hK hP 16 rfl rfl d_B_append_22 ?_
  refine lv_aload_n hx hb d_B_append_25 rfl (lv_at hl 1 rfl) ?_
  refine gf_B_15 (v := .int (g 20 0)) hx hb hT hown hK hP 16 rfl rfl d_B_append_26 ?_
  refine st_top (show g 20 0 = nI n from hg) ?_
  refine lv_iload_n hx hb d_B_append_29 rfl (lv_at hl 2 rfl) ?_
  refine lv_iload_n hx hb d_B_append_30 rfl (lv_at hl 0 rfl) ?_
  refine lv_iushr (v := (w.toUInt32 >>> ((nI 8).toUInt32 &&& Int32.toUInt32 31)).toInt32) hx hb d_B_append_31 rfl ?_
  refine lv_sipush (v := nI 255) hx hb d_B_append_32 (by decide) ?_
  refine lv_iand hx hb d_B_append_35 ?_
  refine st_iast hx hb hK hP hD hS 17 0 rfl rfl (by omega) (by decide) d_B_append_36 (fun H locs hP hD hS => ?_)
  replace hP : va_P D CC (wC tk ad (mup g 21 n (((w.toUInt32 >>> ((nI 8).toUInt32 &&& Int32.toUInt32 31)).toInt32) &&& (nI 255))) rr ++ tl) H := Eq.mp (congrArg (fun w => va_P D CC w H) (sC_17 tk ad g rr tl n (((w.toUInt32 >>> ((nI 8).toUInt32 &&& Int32.toUInt32 31)).toInt32) &&& (nI 255)))) hP
  replace hD : va_D A (wC tk ad (mup g 21 n (((w.toUInt32 >>> ((nI 8).toUInt32 &&& Int32.toUInt32 31)).toInt32) &&& (nI 255))) rr ++ tl) := Eq.mp (congrArg (fun w => va_D A w) (sC_17 tk ad g rr tl n (((w.toUInt32 >>> ((nI 8).toUInt32 &&& Int32.toUInt32 31)).toInt32) &&& (nI 255)))) hD
  refine lv_aload_n hx hb d_B_append_37 rfl (lv_at hl 1 rfl) ?_
  refine lv_dup hx hb d_B_append_38 rfl ?_
  refine gf_B_15 (v := .int ((mup g 21 n (((w.toUInt32 >>> ((nI 8).toUInt32 &&& Int32.toUInt32 31)).toInt32) &&& (nI 255))) 20 0)) hx hb hT hown hK hP 16 rfl rfl d_B_append_39 ?_
  refine st_top (show (mup g 21 n (((w.toUInt32 >>> ((nI 8).toUInt32 &&& Int32.toUInt32 31)).toInt32) &&& (nI 255))) 20 0 = g 20 0 from (rd_ne (by decide) rfl)) ?_
  refine st_top (show g 20 0 = nI n from hg) ?_
  refine lv_iconst (v := nI 1) hx hb d_B_append_42 (by decide) ?_
  refine st_iadd hx hb d_B_append_43 ?_
  refine pf_B_15 hx hb hT hown hK hP hD hS 16 rfl (Nat.le_of_ble_eq_true rfl) d_B_append_44 (fun H locs hP hD hS => ?_)
  replace hP : va_P D CC (wC tk ad (mup (mup g 21 n (((w.toUInt32 >>> ((nI 8).toUInt32 &&& Int32.toUInt32 31)).toInt32) &&& (nI 255))) 20 0 (nI (n + 1))) rr ++ tl) H := Eq.mp (congrArg (fun w => va_P D CC w H) (sC_16_1 tk ad (mup g 21 n (((w.toUInt32 >>> ((nI 8).toUInt32 &&& Int32.toUInt32 31)).toInt32) &&& (nI 255))) rr tl (nI (n + 1)))) hP
  replace hD : va_D A (wC tk ad (mup (mup g 21 n (((w.toUInt32 >>> ((nI 8).toUInt32 &&& Int32.toUInt32 31)).toInt32) &&& (nI 255))) 20 0 (nI (n + 1))) rr ++ tl) := Eq.mp (congrArg (fun w => va_D A w) (sC_16_1 tk ad (mup g 21 n (((w.toUInt32 >>> ((nI 8).toUInt32 &&& Int32.toUInt32 31)).toInt32) &&& (nI 255))) rr tl (nI (n + 1)))) hD
  refine lv_iinc (k := 0) (v := nI 0) (lv' := [(3, .int (nI 0)), (0, .ref (ad 16)), (1, .int w), (2, .int (nI 2))]) hx hb d_B_append_47 hl rfl (by decide) (by decide) rfl (fun ls hl => ?_)
  refine lv_goto hx hb d_B_append_50 (tgt := 7) (by decide) ?_
  refine lv_iload_n hx hb d_B_append_7 rfl (lv_at hl 0 rfl) ?_
  refine st_if_lt hx hb (by omega) d_B_append_8 (tgt := 53) (by decide) (fun hc8 => (by exfalso; first | exact hc8 | omega)) (fun hc8 => ?_)
  refine lv_aload_n hx hb d_B_append_11 rfl (lv_at hl 1 rfl) ?_
  refine gf_B_15 (v := .int ((mup (mup g 21 n (((w.toUInt32 >>> ((nI 8).toUInt32 &&& Int32.toUInt32 31)).toInt32) &&& (nI 255))) 20 0 (nI (n + 1))) 20 0)) hx hb hT hown hK hP 16 rfl rfl d_B_append_12 ?_
  refine st_top (show (mup (mup g 21 n (((w.toUInt32 >>> ((nI 8).toUInt32 &&& Int32.toUInt32 31)).toInt32) &&& (nI 255))) 20 0 (nI (n + 1))) 20 0 = nI (n + 1) from rd_eq) ?_
  refine lv_sipush (v := nI 400) hx hb d_B_append_15 (by decide) ?_
  refine st_icmp_ge hx hb (by omega) (by omega) d_B_append_18 (tgt := 47) (by decide) (fun hc18 => absurd hc18 (by omega)) (fun hc18 => ?_)
  refine lv_aload_n hx hb d_B_append_21 rfl (lv_at hl 1 rfl) ?_
  refine gf_B_9 (v := .ref (ad 17)) hx hb hT hown hK hP 16 rfl rfl d_B_append_22 ?_
  refine lv_aload_n hx hb d_B_append_25 rfl (lv_at hl 1 rfl) ?_
  refine gf_B_15 (v := .int ((mup (mup g 21 n (((w.toUInt32 >>> ((nI 8).toUInt32 &&& Int32.toUInt32 31)).toInt32) &&& (nI 255))) 20 0 (nI (n + 1))) 20 0)) hx hb hT hown hK hP 16 rfl rfl d_B_append_26 ?_
  refine st_top (show (mup (mup g 21 n (((w.toUInt32 >>> ((nI 8).toUInt32 &&& Int32.toUInt32 31)).toInt32) &&& (nI 255))) 20 0 (nI (n + 1))) 20 0 = nI (n + 1) from rd_eq) ?_
  refine lv_iload_n hx hb d_B_append_29 rfl (lv_at hl 2 rfl) ?_
  refine lv_iload_n hx hb d_B_append_30 rfl (lv_at hl 0 rfl) ?_
  refine lv_iushr (v := (w.toUInt32 >>> ((nI 0).toUInt32 &&& Int32.toUInt32 31)).toInt32) hx hb d_B_append_31 rfl ?_
  refine lv_sipush (v := nI 255) hx hb d_B_append_32 (by decide) ?_
  refine lv_iand hx hb d_B_append_35 ?_
  refine st_iast hx hb hK hP hD hS 17 0 rfl rfl (by omega) (by decide) d_B_append_36 (fun H locs hP hD hS => ?_)
  replace hP : va_P D CC (wC tk ad (mup (mup (mup g 21 n (((w.toUInt32 >>> ((nI 8).toUInt32 &&& Int32.toUInt32 31)).toInt32) &&& (nI 255))) 20 0 (nI (n + 1))) 21 (n + 1) (((w.toUInt32 >>> ((nI 0).toUInt32 &&& Int32.toUInt32 31)).toInt32) &&& (nI 255))) rr ++ tl) H := Eq.mp (congrArg (fun w => va_P D CC w H) (sC_17 tk ad (mup (mup g 21 n (((w.toUInt32 >>> ((nI 8).toUInt32 &&& Int32.toUInt32 31)).toInt32) &&& (nI 255))) 20 0 (nI (n + 1))) rr tl (n + 1) (((w.toUInt32 >>> ((nI 0).toUInt32 &&& Int32.toUInt32 31)).toInt32) &&& (nI 255)))) hP
  replace hD : va_D A (wC tk ad (mup (mup (mup g 21 n (((w.toUInt32 >>> ((nI 8).toUInt32 &&& Int32.toUInt32 31)).toInt32) &&& (nI 255))) 20 0 (nI (n + 1))) 21 (n + 1) (((w.toUInt32 >>> ((nI 0).toUInt32 &&& Int32.toUInt32 31)).toInt32) &&& (nI 255))) rr ++ tl) := Eq.mp (congrArg (fun w => va_D A w) (sC_17 tk ad (mup (mup g 21 n (((w.toUInt32 >>> ((nI 8).toUInt32 &&& Int32.toUInt32 31)).toInt32) &&& (nI 255))) 20 0 (nI (n + 1))) rr tl (n + 1) (((w.toUInt32 >>> ((nI 0).toUInt32 &&& Int32.toUInt32 31)).toInt32) &&& (nI 255)))) hD
  refine lv_aload_n hx hb d_B_append_37 rfl (lv_at hl 1 rfl) ?_
  refine lv_dup hx hb d_B_append_38 rfl ?_
  refine gf_B_15 (v := .int ((mup (mup (mup g 21 n (((w.toUInt32 >>> ((nI 8).toUInt32 &&& Int32.toUInt32 31)).toInt32) &&& (nI 255))) 20 0 (nI (n + 1))) 21 (n + 1) (((w.toUInt32 >>> ((nI 0).toUInt32 &&& Int32.toUInt32 31)).toInt32) &&& (nI 255))) 20 0)) hx hb hT hown hK hP 16 rfl rfl d_B_append_39 ?_
  refine st_top (show (mup (mup (mup g 21 n (((w.toUInt32 >>> ((nI 8).toUInt32 &&& Int32.toUInt32 31)).toInt32) &&& (nI 255))) 20 0 (nI (n + 1))) 21 (n + 1) (((w.toUInt32 >>> ((nI 0).toUInt32 &&& Int32.toUInt32 31)).toInt32) &&& (nI 255))) 20 0 = nI (n + 1) from (rd_ne (by decide) rd_eq)) ?_
  refine lv_iconst (v := nI 1) hx hb d_B_append_42 (by decide) ?_
  refine st_iadd hx hb d_B_append_43 ?_
  refine pf_B_15 hx hb hT hown hK hP hD hS 16 rfl (Nat.le_of_ble_eq_true rfl) d_B_append_44 (fun H locs hP hD hS => ?_)
  replace hP : va_P D CC (wC tk ad (mup (mup (mup (mup g 21 n (((w.toUInt32 >>> ((nI 8).toUInt32 &&& Int32.toUInt32 31)).toInt32) &&& (nI 255))) 20 0 (nI (n + 1))) 21 (n + 1) (((w.toUInt32 >>> ((nI 0).toUInt32 &&& Int32.toUInt32 31)).toInt32) &&& (nI 255))) 20 0 (nI ((n + 1) + 1))) rr ++ tl) H := Eq.mp (congrArg (fun w => va_P D CC w H) (sC_16_1 tk ad (mup (mup (mup g 21 n (((w.toUInt32 >>> ((nI 8).toUInt32 &&& Int32.toUInt32 31)).toInt32) &&& (nI 255))) 20 0 (nI (n + 1))) 21 (n + 1) (((w.toUInt32 >>> ((nI 0).toUInt32 &&& Int32.toUInt32 31)).toInt32) &&& (nI 255))) rr tl (nI ((n + 1) + 1)))) hP
  replace hD : va_D A (wC tk ad (mup (mup (mup (mup g 21 n (((w.toUInt32 >>> ((nI 8).toUInt32 &&& Int32.toUInt32 31)).toInt32) &&& (nI 255))) 20 0 (nI (n + 1))) 21 (n + 1) (((w.toUInt32 >>> ((nI 0).toUInt32 &&& Int32.toUInt32 31)).toInt32) &&& (nI 255))) 20 0 (nI ((n + 1) + 1))) rr ++ tl) := Eq.mp (congrArg (fun w => va_D A w) (sC_16_1 tk ad (mup (mup (mup g 21 n (((w.toUInt32 >>> ((nI 8).toUInt32 &&& Int32.toUInt32 31)).toInt32) &&& (nI 255))) 20 0 (nI (n + 1))) 21 (n + 1) (((w.toUInt32 >>> ((nI 0).toUInt32 &&& Int32.toUInt32 31)).toInt32) &&& (nI 255))) rr tl (nI ((n + 1) + 1)))) hD
  refine lv_iinc (k := 0) (v := -8) (lv' := [(3, .int (-8)), (0, .ref (ad 16)), (1, .int w), (2, .int (nI 2))]) hx hb d_B_append_47 hl rfl (by decide) (by decide) rfl (fun ls hl => ?_)
  refine lv_goto hx hb d_B_append_50 (tgt := 7) (by decide) ?_
  refine lv_iload_n hx hb d_B_append_7 rfl (lv_at hl 0 rfl) ?_
  refine lv_if_lt hx hb d_B_append_8 (tgt := 53) (by decide) (fun hc8 => ?_) (fun hc8 => absurd hc8 (by decide))
  exact k_vret hQ hx hb hr hlk hK hP hD hS () rfl trivial d_B_append_53

set_option maxHeartbeats 4000000 in
set_option maxRecDepth 100000 in
theorem c_B_appendV3 (l : Launch) (D : va_G) (tk : Nat → ClassId) (sz : Nat) (ad : Nat → Nat) (g : Nat → Nat → Int32) (rr : Nat → Nat → Option Nat) (tl : va_W) (n : Nat) (hn : n + 3 ≤ 400) (hg : g 20 0 = nI n) (w : Int32) : Met l y_B_append w_B_append ({ frames := 0, cells := 0, slots := 0, locals := 0 }) (va_Pc [.ref (ad 16), .int w, .int (nI 3)] (k_pre D (TY tk) sz (wC tk ad g rr ++ tl))) (va_Qv (fun (_ : Unit) => True) (fun u t => k_at D (TY tk) (va_A (wC tk ad g rr ++ tl) sz) ((fun _ => wC tk ad (apC 20 21 g n w 3) rr ++ tl) u) t) (va_A (wC tk ad g rr ++ tl) sz)) 0 0 (va_A (wC tk ad g rr ++ tl) sz) := by
  refine k_ofW (fun A => va_Qv (fun (_ : Unit) => True) (fun u t => k_at D (TY tk) A ((fun _ => wC tk ad (apC 20 21 g n w 3) rr ++ tl) u) t) A) (by decide) (Nat.le_of_ble_eq_true rfl) ?_
  intro p e s m args below meth c Q A ls hQ hx hb hr hlk hin hts hT hown hml hnw hP hK hD hA hsz hl
  have hS : va_S A s.heap s.heap [] := va_S.rf
  have hc0 : 0 + 0 ≤ 0 ∧ 0 + 0 ≤ 0 := ⟨by decide, by decide⟩
  replace hl : lv_has ls 4 [(0, .ref (ad 16)), (1, .int w), (2, .int (nI 3))] := hl
  replace hP : va_P D CC (wC tk ad g rr ++ tl) s.heap := hP
  replace hK : va_K D CC (TY tk) s := hK
  refine lv_bipush (v := nI 8) hx hb d_B_append_0 (by decide) ?_
  refine lv_iload_n hx hb d_B_append_2 rfl (lv_at hl 2 rfl) ?_
  refine lv_iconst (v := nI 1) hx hb d_B_append_3 (by decide) ?_
  refine st_isub hx hb (by omega) d_B_append_4 ?_
  refine st_imul hx hb d_B_append_5 ?_
  refine lv_istore_n (lv' := [(3, .int (nI 16)), (0, .ref (ad 16)), (1, .int w), (2, .int (nI 3))]) hx hb d_B_append_6 rfl hl (by decide) rfl (fun ls hl => ?_)
  refine lv_iload_n hx hb d_B_append_7 rfl (lv_at hl 0 rfl) ?_
  refine st_if_lt hx hb (by omega) d_B_append_8 (tgt := 53) (by decide) (fun hc8 => (by exfalso; first | exact hc8 | omega)) (fun hc8 => ?_)
  refine lv_aload_n hx hb d_B_append_11 rfl (lv_at hl 1 rfl) ?_
  refine gf_B_15 (v := .int (g 20 0)) hx hb hT hown hK hP 16 rfl rfl d_B_append_12 ?_
  refine st_top (show g 20 0 = nI n from hg) ?_
  refine lv_sipush (v := nI 400) hx hb d_B_append_15 (by decide) ?_
  refine st_icmp_ge hx hb (by omega) (by omega) d_B_append_18 (tgt := 47) (by decide) (fun hc18 => absurd hc18 (by omega)) (fun hc18 => ?_)
  refine lv_aload_n hx hb d_B_append_21 rfl (lv_at hl 1 rfl) ?_
  refine gf_B_9 (v := .ref (ad 17)) hx hb hT hown hK hP 16 rfl rfl d_B_append_22 ?_
  refine lv_aload_n hx hb d_B_append_25 rfl (lv_at hl 1 rfl) ?_
  refine gf_B_15 (v := .int (g 20 0)) hx hb hT hown hK hP 16 rfl rfl d_B_append_26 ?_
  refine st_top (show g 20 0 = nI n from hg) ?_
  refine lv_iload_n hx hb d_B_append_29 rfl (lv_at hl 2 rfl) ?_
  refine lv_iload_n hx hb d_B_append_30 rfl (lv_at hl 0 rfl) ?_
  refine lv_iushr (v := (w.toUInt32 >>> ((nI 16).toUInt32 &&& Int32.toUInt32 31)).toInt32) hx hb d_B_append_31 rfl ?_
  refine lv_sipush (v := nI 255) hx hb d_B_append_32 (by decide) ?_
  refine lv_iand hx hb d_B_append_35 ?_
  refine st_iast hx hb hK hP hD hS 17 0 rfl rfl (by omega) (by decide) d_B_append_36 (fun H locs hP hD hS => ?_)
  replace hP : va_P D CC (wC tk ad (mup g 21 n (((w.toUInt32 >>> ((nI 16).toUInt32 &&& Int32.toUInt32 31)).toInt32) &&& (nI 255))) rr ++ tl) H := Eq.mp (congrArg (fun w => va_P D CC w H) (sC_17 tk ad g rr tl n (((w.toUInt32 >>> ((nI 16).toUInt32 &&& Int32.toUInt32 31)).toInt32) &&& (nI 255)))) hP
  replace hD : va_D A (wC tk ad (mup g 21 n (((w.toUInt32 >>> ((nI 16).toUInt32 &&& Int32.toUInt32 31)).toInt32) &&& (nI 255))) rr ++ tl) := Eq.mp (congrArg (fun w => va_D A w) (sC_17 tk ad g rr tl n (((w.toUInt32 >>> ((nI 16).toUInt32 &&& Int32.toUInt32 31)).toInt32) &&& (nI 255)))) hD
  refine lv_aload_n hx hb d_B_append_37 rfl (lv_at hl 1 rfl) ?_
  refine lv_dup hx hb d_B_append_38 rfl ?_
  refine gf_B_15 (v := .int ((mup g 21 n (((w.toUInt32 >>> ((nI 16).toUInt32 &&& Int32.toUInt32 31)).toInt32) &&& (nI 255))) 20 0)) hx hb hT hown hK hP 16 rfl rfl d_B_append_39 ?_
  refine st_top (show (mup g 21 n (((w.toUInt32 >>> ((nI 16).toUInt32 &&& Int32.toUInt32 31)).toInt32) &&& (nI 255))) 20 0 = g 20 0 from (rd_ne (by decide) rfl)) ?_
  refine st_top (show g 20 0 = nI n from hg) ?_
  refine lv_iconst (v := nI 1) hx hb d_B_append_42 (by decide) ?_
  refine st_iadd hx hb d_B_append_43 ?_
  refine pf_B_15 hx hb hT hown hK hP hD hS 16 rfl (Nat.le_of_ble_eq_true rfl) d_B_append_44 (fun H locs hP hD hS => ?_)
  replace hP : va_P D CC (wC tk ad (mup (mup g 21 n (((w.toUInt32 >>> ((nI 16).toUInt32 &&& Int32.toUInt32 31)).toInt32) &&& (nI 255))) 20 0 (nI (n + 1))) rr ++ tl) H := Eq.mp (congrArg (fun w => va_P D CC w H) (sC_16_1 tk ad (mup g 21 n (((w.toUInt32 >>> ((nI 16).toUInt32 &&& Int32.toUInt32 31)).toInt32) &&& (nI 255))) rr tl (nI (n + 1)))) hP
  replace hD : va_D A (wC tk ad (mup (mup g 21 n (((w.toUInt32 >>> ((nI 16).toUInt32 &&& Int32.toUInt32 31)).toInt32) &&& (nI 255))) 20 0 (nI (n + 1))) rr ++ tl) := Eq.mp (congrArg (fun w => va_D A w) (sC_16_1 tk ad (mup g 21 n (((w.toUInt32 >>> ((nI 16).toUInt32 &&& Int32.toUInt32 31)).toInt32) &&& (nI 255))) rr tl (nI (n + 1)))) hD
  refine lv_iinc (k := 0) (v := nI 8) (lv' := [(3, .int (nI 8)), (0, .ref (ad 16)), (1, .int w), (2, .int (nI 3))]) hx hb d_B_append_47 hl rfl (by decide) (by decide) rfl (fun ls hl => ?_)
  refine lv_goto hx hb d_B_append_50 (tgt := 7) (by decide) ?_
  refine lv_iload_n hx hb d_B_append_7 rfl (lv_at hl 0 rfl) ?_
  refine st_if_lt hx hb (by omega) d_B_append_8 (tgt := 53) (by decide) (fun hc8 => (by exfalso; first | exact hc8 | omega)) (fun hc8 => ?_)
  refine lv_aload_n hx hb d_B_append_11 rfl (lv_at hl 1 rfl) ?_
  refine gf_B_15 (v := .int ((mup (mup g 21 n (((w.toUInt32 >>> ((nI 16).toUInt32 &&& Int32.toUInt32 31)).toInt32) &&& (nI 255))) 20 0 (nI (n + 1))) 20 0)) hx hb hT hown hK hP 16 rfl rfl d_B_append_12 ?_
  refine st_top (show (mup (mup g 21 n (((w.toUInt32 >>> ((nI 16).toUInt32 &&& Int32.toUInt32 31)).toInt32) &&& (nI 255))) 20 0 (nI (n + 1))) 20 0 = nI (n + 1) from rd_eq) ?_
  refine lv_sipush (v := nI 400) hx hb d_B_append_15 (by decide) ?_
  refine st_icmp_ge hx hb (by omega) (by omega) d_B_append_18 (tgt := 47) (by decide) (fun hc18 => absurd hc18 (by omega)) (fun hc18 => ?_)
  refine lv_aload_n hx hb d_B_append_21 rfl (lv_at hl 1 rfl) ?_
  refine gf_B_9 (v := .ref (ad 17)) hx hb hT hown hK hP 16 rfl rfl d_B_append_22 ?_
  refine lv_aload_n hx hb d_B_append_25 rfl (lv_at hl 1 rfl) ?_
  refine gf_B_15 (v := .int ((mup (mup g 21 n (((w.toUInt32 >>> ((nI 16).toUInt32 &&& Int32.toUInt32 31)).toInt32) &&& (nI 255))) 20 0 (nI (n + 1))) 20 0)) hx hb hT hown hK hP 16 rfl rfl d_B_append_26 ?_
  refine st_top (show (mup (mup g 21 n (((w.toUInt32 >>> ((nI 16).toUInt32 &&& Int32.toUInt32 31)).toInt32) &&& (nI 255))) 20 0 (nI (n + 1))) 20 0 = nI (n + 1) from rd_eq) ?_
  refine lv_iload_n hx hb d_B_append_29 rfl (lv_at hl 2 rfl) ?_
  refine lv_iload_n hx hb d_B_append_30 rfl (lv_at hl 0 rfl) ?_
  refine lv_iushr (v := (w.toUInt32 >>> ((nI 8).toUInt32 &&& Int32.toUInt32 31)).toInt32) hx hb d_B_append_31 rfl ?_
  refine lv_sipush (v := nI 255) hx hb d_B_append_32 (by decide) ?_
  refine lv_iand hx hb d_B_append_35 ?_
  refine st_iast hx hb hK hP hD hS 17 0 rfl rfl (by omega) (by decide) d_B_append_36 (fun H locs hP hD hS => ?_)
  replace hP : va_P D CC (wC tk ad (mup (mup (mup g 21 n (((w.toUInt32 >>> ((nI 16).toUInt32 &&& Int32.toUInt32 31)).toInt32) &&& (nI 255))) 20 0 (nI (n + 1))) 21 (n + 1) (((w.toUInt32 >>> ((nI 8).toUInt32 &&& Int32.toUInt32 31)).toInt32) &&& (nI 255))) rr ++ tl) H := Eq.mp (congrArg (fun w => va_P D CC w H) (sC_17 tk ad (mup (mup g 21 n (((w.toUInt32 >>> ((nI 16).toUInt32 &&& Int32.toUInt32 31)).toInt32) &&& (nI 255))) 20 0 (nI (n + 1))) rr tl (n + 1) (((w.toUInt32 >>> ((nI 8).toUInt32 &&& Int32.toUInt32 31)).toInt32) &&& (nI 255)))) hP
  replace hD : va_D A (wC tk ad (mup (mup (mup g 21 n (((w.toUInt32 >>> ((nI 16).toUInt32 &&& Int32.toUInt32 31)).toInt32) &&& (nI 255))) 20 0 (nI (n + 1))) 21 (n + 1) (((w.toUInt32 >>> ((nI 8).toUInt32 &&& Int32.toUInt32 31)).toInt32) &&& (nI 255))) rr ++ tl) := Eq.mp (congrArg (fun w => va_D A w) (sC_17 tk ad (mup (mup g 21 n (((w.toUInt32 >>> ((nI 16).toUInt32 &&& Int32.toUInt32 31)).toInt32) &&& (nI 255))) 20 0 (nI (n + 1))) rr tl (n + 1) (((w.toUInt32 >>> ((nI 8).toUInt32 &&& Int32.toUInt32 31)).toInt32) &&& (nI 255)))) hD
  refine lv_aload_n hx hb d_B_append_37 rfl (lv_at hl 1 rfl) ?_
  refine lv_dup hx hb d_B_append_38 rfl ?_
  refine gf_B_15 (v := .int ((mup (mup (mup g 21 n (((w.toUInt32 >>> ((nI 16).toUInt32 &&& Int32.toUInt32 31)).toInt32) &&& (nI 255))) 20 0 (nI (n + 1))) 21 (n + 1) (((w.toUInt32 >>> ((nI 8).toUInt32 &&& Int32.toUInt32 31)).toInt32) &&& (nI 255))) 20 0)) hx hb hT hown hK hP 16 rfl rfl d_B_append_39 ?_
  refine st_top (show (mup (mup (mup g 21 n (((w.toUInt32 >>> ((nI 16).toUInt32 &&& Int32.toUInt32 31)).toInt32) &&& (nI 255))) 20 0 (nI (n + 1))) 21 (n + 1) (((w.toUInt32 >>> ((nI 8).toUInt32 &&& Int32.toUInt32 31)).toInt32) &&& (nI 255))) 20 0 = nI (n + 1) from (rd_ne (by decide) rd_eq)) ?_
  refine lv_iconst (v := nI 1) hx hb d_B_append_42 (by decide) ?_
  refine st_iadd hx hb d_B_append_43 ?_
  refine pf_B_15 hx hb hT hown hK hP hD hS 16 rfl (Nat.le_of_ble_eq_true rfl) d_B_append_44 (fun H locs hP hD hS => ?_)
  replace hP : va_P D CC (wC tk ad (mup (mup (mup (mup g 21 n (((w.toUInt32 >>> ((nI 16).toUInt32 &&& Int32.toUInt32 31)).toInt32) &&& (nI 255))) 20 0 (nI (n + 1))) 21 (n + 1) (((w.toUInt32 >>> ((nI 8).toUInt32 &&& Int32.toUInt32 31)).toInt32) &&& (nI 255))) 20 0 (nI ((n + 1) + 1))) rr ++ tl) H := Eq.mp (congrArg (fun w => va_P D CC w H) (sC_16_1 tk ad (mup (mup (mup g 21 n (((w.toUInt32 >>> ((nI 16).toUInt32 &&& Int32.toUInt32 31)).toInt32) &&& (nI 255))) 20 0 (nI (n + 1))) 21 (n + 1) (((w.toUInt32 >>> ((nI 8).toUInt32 &&& Int32.toUInt32 31)).toInt32) &&& (nI 255))) rr tl (nI ((n + 1) + 1)))) hP
  replace hD : va_D A (wC tk ad (mup (mup (mup (mup g 21 n (((w.toUInt32 >>> ((nI 16).toUInt32 &&& Int32.toUInt32 31)).toInt32) &&& (nI 255))) 20 0 (nI (n + 1))) 21 (n + 1) (((w.toUInt32 >>> ((nI 8).toUInt32 &&& Int32.toUInt32 31)).toInt32) &&& (nI 255))) 20 0 (nI ((n + 1) + 1))) rr ++ tl) := Eq.mp (congrArg (fun w => va_D A w) (sC_16_1 tk ad (mup (mup (mup g 21 n (((w.toUInt32 >>> ((nI 16).toUInt32 &&& Int32.toUInt32 31)).toInt32) &&& (nI 255))) 20 0 (nI (n + 1))) 21 (n + 1) (((w.toUInt32 >>> ((nI 8).toUInt32 &&& Int32.toUInt32 31)).toInt32) &&& (nI 255))) rr tl (nI ((n + 1) + 1)))) hD
  refine lv_iinc (k := 0) (v := nI 0) (lv' := [(3, .int (nI 0)), (0, .ref (ad 16)), (1, .int w), (2, .int (nI 3))]) hx hb d_B_append_47 hl rfl (by decide) (by decide) rfl (fun ls hl => ?_)
  refine lv_goto hx hb d_B_append_50 (tgt := 7) (by decide) ?_
  refine lv_iload_n hx hb d_B_append_7 rfl (lv_at hl 0 rfl) ?_
  refine st_if_lt hx hb (by omega) d_B_append_8 (tgt := 53) (by decide) (fun hc8 => (by exfalso; first | exact hc8 | omega)) (fun hc8 => ?_)
  refine lv_aload_n hx hb d_B_append_11 rfl (lv_at hl 1 rfl) ?_
  refine gf_B_15 (v := .int ((mup (mup (mup (mup g 21 n (((w.toUInt32 >>> ((nI 16).toUInt32 &&& Int32.toUInt32 31)).toInt32) &&& (nI 255))) 20 0 (nI (n + 1))) 21 (n + 1) (((w.toUInt32 >>> ((nI 8).toUInt32 &&& Int32.toUInt32 31)).toInt32) &&& (nI 255))) 20 0 (nI ((n + 1) + 1))) 20 0)) hx hb hT hown hK hP 16 rfl rfl d_B_append_12 ?_
  refine st_top (show (mup (mup (mup (mup g 21 n (((w.toUInt32 >>> ((nI 16).toUInt32 &&& Int32.toUInt32 31)).toInt32) &&& (nI 255))) 20 0 (nI (n + 1))) 21 (n + 1) (((w.toUInt32 >>> ((nI 8).toUInt32 &&& Int32.toUInt32 31)).toInt32) &&& (nI 255))) 20 0 (nI ((n + 1) + 1))) 20 0 = nI ((n + 1) + 1) from rd_eq) ?_
  refine lv_sipush (v := nI 400) hx hb d_B_append_15 (by decide) ?_
  refine st_icmp_ge hx hb (by omega) (by omega) d_B_append_18 (tgt := 47) (by decide) (fun hc18 => absurd hc18 (by omega)) (fun hc18 => ?_)
  refine lv_aload_n hx hb d_B_append_21 rfl (lv_at hl 1 rfl) ?_
  refine gf_B_9 (v := .ref (ad 17)) hx hb hT hown hK hP 16 rfl rfl d_B_append_22 ?_
  refine lv_aload_n hx hb d_B_append_25 rfl (lv_at hl 1 rfl) ?_
  refine gf_B_15 (v := .int ((mup (mup (mup (mup g 21 n (((w.toUInt32 >>> ((nI 16).toUInt32 &&& Int32.toUInt32 31)).toInt32) &&& (nI 255))) 20 0 (nI (n + 1))) 21 (n + 1) (((w.toUInt32 >>> ((nI 8).toUInt32 &&& Int32.toUInt32 31)).toInt32) &&& (nI 255))) 20 0 (nI ((n + 1) + 1))) 20 0)) hx hb hT hown hK hP 16 rfl rfl d_B_append_26 ?_
  refine st_top (show (mup (mup (mup (mup g 21 n (((w.toUInt32 >>> ((nI 16).toUInt32 &&& Int32.toUInt32 31)).toInt32) &&& (nI 255))) 20 0 (nI (n + 1))) 21 (n + 1) (((w.toUInt32 >>> ((nI 8).toUInt32 &&& Int32.toUInt32 31)).toInt32) &&& (nI 255))) 20 0 (nI ((n + 1) + 1))) 20 0 = nI ((n + 1) + 1) from rd_eq) ?_
  refine lv_iload_n hx hb d_B_append_29 rfl (lv_at hl 2 rfl) ?_
  refine lv_iload_n hx hb d_B_append_30 rfl (lv_at hl 0 rfl) ?_
  refine lv_iushr (v := (w.toUInt32 >>> ((nI 0).toUInt32 &&& Int32.toUInt32 31)).toInt32) hx hb d_B_append_31 rfl ?_
  refine lv_sipush (v := nI 255) hx hb d_B_append_32 (by decide) ?_
  refine lv_iand hx hb d_B_append_35 ?_
  refine st_iast hx hb hK hP hD hS 17 0 rfl rfl (by omega) (by decide) d_B_append_36 (fun H locs hP hD hS => ?_)
  replace hP : va_P D CC (wC tk ad (mup (mup (mup (mup (mup g 21 n (((w.toUInt32 >>> ((nI 16).toUInt32 &&& Int32.toUInt32 31)).toInt32) &&& (nI 255))) 20 0 (nI (n + 1))) 21 (n + 1) (((w.toUInt32 >>> ((nI 8).toUInt32 &&& Int32.toUInt32 31)).toInt32) &&& (nI 255))) 20 0 (nI ((n + 1) + 1))) 21 ((n + 1) + 1) (((w.toUInt32 >>> ((nI 0).toUInt32 &&& Int32.toUInt32 31)).toInt32) &&& (nI 255))) rr ++ tl) H := Eq.mp (congrArg (fun w => va_P D CC w H) (sC_17 tk ad (mup (mup (mup (mup g 21 n (((w.toUInt32 >>> ((nI 16).toUInt32 &&& Int32.toUInt32 31)).toInt32) &&& (nI 255))) 20 0 (nI (n + 1))) 21 (n + 1) (((w.toUInt32 >>> ((nI 8).toUInt32 &&& Int32.toUInt32 31)).toInt32) &&& (nI 255))) 20 0 (nI ((n + 1) + 1))) rr tl ((n + 1) + 1) (((w.toUInt32 >>> ((nI 0).toUInt32 &&& Int32.toUInt32 31)).toInt32) &&& (nI 255)))) hP
  replace hD : va_D A (wC tk ad (mup (mup (mup (mup (mup g 21 n (((w.toUInt32 >>> ((nI 16).toUInt32 &&& Int32.toUInt32 31)).toInt32) &&& (nI 255))) 20 0 (nI (n + 1))) 21 (n + 1) (((w.toUInt32 >>> ((nI 8).toUInt32 &&& Int32.toUInt32 31)).toInt32) &&& (nI 255))) 20 0 (nI ((n + 1) + 1))) 21 ((n + 1) + 1) (((w.toUInt32 >>> ((nI 0).toUInt32 &&& Int32.toUInt32 31)).toInt32) &&& (nI 255))) rr ++ tl) := Eq.mp (congrArg (fun w => va_D A w) (sC_17 tk ad (mup (mup (mup (mup g 21 n (((w.toUInt32 >>> ((nI 16).toUInt32 &&& Int32.toUInt32 31)).toInt32) &&& (nI 255))) 20 0 (nI (n + 1))) 21 (n + 1) (((w.toUInt32 >>> ((nI 8).toUInt32 &&& Int32.toUInt32 31)).toInt32) &&& (nI 255))) 20 0 (nI ((n + 1) + 1))) rr tl ((n + 1) + 1) (((w.toUInt32 >>> ((nI 0).toUInt32 &&& Int32.toUInt32 31)).toInt32) &&& (nI 255)))) hD
  refine lv_aload_n hx hb d_B_append_37 rfl (lv_at hl 1 rfl) ?_
  refine lv_dup hx hb d_B_append_38 rfl ?_
  refine gf_B_15 (v := .int ((mup (mup (mup (mup (mup g 21 n (((w.toUInt32 >>> ((nI 16).toUInt32 &&& Int32.toUInt32 31)).toInt32) &&& (nI 255))) 20 0 (nI (n + 1))) 21 (n + 1) (((w.toUInt32 >>> ((nI 8).toUInt32 &&& Int32.toUInt32 31)).toInt32) &&& (nI 255))) 20 0 (nI ((n + 1) + 1))) 21 ((n + 1) + 1) (((w.toUInt32 >>> ((nI 0).toUInt32 &&& Int32.toUInt32 31)).toInt32) &&& (nI 255))) 20 0)) hx hb hT hown hK hP 16 rfl rfl d_B_append_39 ?_
  refine st_top (show (mup (mup (mup (mup (mup g 21 n (((w.toUInt32 >>> ((nI 16).toUInt32 &&& Int32.toUInt32 31)).toInt32) &&& (nI 255))) 20 0 (nI (n + 1))) 21 (n + 1) (((w.toUInt32 >>> ((nI 8).toUInt32 &&& Int32.toUInt32 31)).toInt32) &&& (nI 255))) 20 0 (nI ((n + 1) + 1))) 21 ((n + 1) + 1) (((w.toUInt32 >>> ((nI 0).toUInt32 &&& Int32.toUInt32 31)).toInt32) &&& (nI 255))) 20 0 = nI ((n + 1) + 1) from (rd_ne (by decide) rd_eq)) ?_
  refine lv_iconst (v := nI 1) hx hb d_B_append_42 (by decide) ?_
  refine st_iadd hx hb d_B_append_43 ?_
  refine pf_B_15 hx hb hT hown hK hP hD hS 16 rfl (Nat.le_of_ble_eq_true rfl) d_B_append_44 (fun H locs hP hD hS => ?_)
  replace hP : va_P D CC (wC tk ad (mup (mup (mup (mup (mup (mup g 21 n (((w.toUInt32 >>> ((nI 16).toUInt32 &&& Int32.toUInt32 31)).toInt32) &&& (nI 255))) 20 0 (nI (n + 1))) 21 (n + 1) (((w.toUInt32 >>> ((nI 8).toUInt32 &&& Int32.toUInt32 31)).toInt32) &&& (nI 255))) 20 0 (nI ((n + 1) + 1))) 21 ((n + 1) + 1) (((w.toUInt32 >>> ((nI 0).toUInt32 &&& Int32.toUInt32 31)).toInt32) &&& (nI 255))) 20 0 (nI (((n + 1) + 1) + 1))) rr ++ tl) H := Eq.mp (congrArg (fun w => va_P D CC w H) (sC_16_1 tk ad (mup (mup (mup (mup (mup g 21 n (((w.toUInt32 >>> ((nI 16).toUInt32 &&& Int32.toUInt32 31)).toInt32) &&& (nI 255))) 20 0 (nI (n + 1))) 21 (n + 1) (((w.toUInt32 >>> ((nI 8).toUInt32 &&& Int32.toUInt32 31)).toInt32) &&& (nI 255))) 20 0 (nI ((n + 1) + 1))) 21 ((n + 1) + 1) (((w.toUInt32 >>> ((nI 0).toUInt32 &&& Int32.toUInt32 31)).toInt32) &&& (nI 255))) rr tl (nI (((n + 1) + 1) + 1)))) hP
  replace hD : va_D A (wC tk ad (mup (mup (mup (mup (mup (mup g 21 n (((w.toUInt32 >>> ((nI 16).toUInt32 &&& Int32.toUInt32 31)).toInt32) &&& (nI 255))) 20 0 (nI (n + 1))) 21 (n + 1) (((w.toUInt32 >>> ((nI 8).toUInt32 &&& Int32.toUInt32 31)).toInt32) &&& (nI 255))) 20 0 (nI ((n + 1) + 1))) 21 ((n + 1) + 1) (((w.toUInt32 >>> ((nI 0).toUInt32 &&& Int32.toUInt32 31)).toInt32) &&& (nI 255))) 20 0 (nI (((n + 1) + 1) + 1))) rr ++ tl) := Eq.mp (congrArg (fun w => va_D A w) (sC_16_1 tk ad (mup (mup (mup (mup (mup g 21 n (((w.toUInt32 >>> ((nI 16).toUInt32 &&& Int32.toUInt32 31)).toInt32) &&& (nI 255))) 20 0 (nI (n + 1))) 21 (n + 1) (((w.toUInt32 >>> ((nI 8).toUInt32 &&& Int32.toUInt32 31)).toInt32) &&& (nI 255))) 20 0 (nI ((n + 1) + 1))) 21 ((n + 1) + 1) (((w.toUInt32 >>> ((nI 0).toUInt32 &&& Int32.toUInt32 31)).toInt32) &&& (nI 255))) rr tl (nI (((n + 1) + 1) + 1)))) hD
  refine lv_iinc (k := 0) (v := -8) (lv' := [(3, .int (-8)), (0, .ref (ad 16)), (1, .int w), (2, .int (nI 3))]) hx hb d_B_append_47 hl rfl (by decide) (by decide) rfl (fun ls hl => ?_)
  refine lv_goto hx hb d_B_append_50 (tgt := 7) (by decide) ?_
  refine lv_iload_n hx hb d_B_append_7 rfl (lv_at hl 0 rfl) ?_
  refine lv_if_lt hx hb d_B_append_8 (tgt := 53) (by decide) (fun hc8 => ?_) (fun hc8 => absurd hc8 (by decide))
  exact k_vret hQ hx hb hr hlk hK hP hD hS () rfl trivial d_B_append_53

set_option maxHeartbeats 4000000 in
set_option maxRecDepth 100000 in
theorem c_B_appendV4 (l : Launch) (D : va_G) (tk : Nat → ClassId) (sz : Nat) (ad : Nat → Nat) (g : Nat → Nat → Int32) (rr : Nat → Nat → Option Nat) (tl : va_W) (n : Nat) (hn : n + 4 ≤ 400) (hg : g 20 0 = nI n) (w : Int32) : Met l y_B_append w_B_append ({ frames := 0, cells := 0, slots := 0, locals := 0 }) (va_Pc [.ref (ad 16), .int w, .int (nI 4)] (k_pre D (TY tk) sz (wC tk ad g rr ++ tl))) (va_Qv (fun (_ : Unit) => True) (fun u t => k_at D (TY tk) (va_A (wC tk ad g rr ++ tl) sz) ((fun _ => wC tk ad (apC 20 21 g n w 4) rr ++ tl) u) t) (va_A (wC tk ad g rr ++ tl) sz)) 0 0 (va_A (wC tk ad g rr ++ tl) sz) := by
  refine k_ofW (fun A => va_Qv (fun (_ : Unit) => True) (fun u t => k_at D (TY tk) A ((fun _ => wC tk ad (apC 20 21 g n w 4) rr ++ tl) u) t) A) (by decide) (Nat.le_of_ble_eq_true rfl) ?_
  intro p e s m args below meth c Q A ls hQ hx hb hr hlk hin hts hT hown hml hnw hP hK hD hA hsz hl
  have hS : va_S A s.heap s.heap [] := va_S.rf
  have hc0 : 0 + 0 ≤ 0 ∧ 0 + 0 ≤ 0 := ⟨by decide, by decide⟩
  replace hl : lv_has ls 4 [(0, .ref (ad 16)), (1, .int w), (2, .int (nI 4))] := hl
  replace hP : va_P D CC (wC tk ad g rr ++ tl) s.heap := hP
  replace hK : va_K D CC (TY tk) s := hK
  refine lv_bipush (v := nI 8) hx hb d_B_append_0 (by decide) ?_
  refine lv_iload_n hx hb d_B_append_2 rfl (lv_at hl 2 rfl) ?_
  refine lv_iconst (v := nI 1) hx hb d_B_append_3 (by decide) ?_
  refine st_isub hx hb (by omega) d_B_append_4 ?_
  refine st_imul hx hb d_B_append_5 ?_
  refine lv_istore_n (lv' := [(3, .int (nI 24)), (0, .ref (ad 16)), (1, .int w), (2, .int (nI 4))]) hx hb d_B_append_6 rfl hl (by decide) rfl (fun ls hl => ?_)
  refine lv_iload_n hx hb d_B_append_7 rfl (lv_at hl 0 rfl) ?_
  refine st_if_lt hx hb (by omega) d_B_append_8 (tgt := 53) (by decide) (fun hc8 => (by exfalso; first | exact hc8 | omega)) (fun hc8 => ?_)
  refine lv_aload_n hx hb d_B_append_11 rfl (lv_at hl 1 rfl) ?_
  refine gf_B_15 (v := .int (g 20 0)) hx hb hT hown hK hP 16 rfl rfl d_B_append_12 ?_
  refine st_top (show g 20 0 = nI n from hg) ?_
  refine lv_sipush (v := nI 400) hx hb d_B_append_15 (by decide) ?_
  refine st_icmp_ge hx hb (by omega) (by omega) d_B_append_18 (tgt := 47) (by decide) (fun hc18 => absurd hc18 (by omega)) (fun hc18 => ?_)
  refine lv_aload_n hx hb d_B_append_21 rfl (lv_at hl 1 rfl) ?_
  refine gf_B_9 (v := .ref (ad 17)) hx hb hT hown hK hP 16 rfl rfl d_B_append_22 ?_
  refine lv_aload_n hx hb d_B_append_25 rfl (lv_at hl 1 rfl) ?_
  refine gf_B_15 (v := .int (g 20 0)) hx hb hT hown hK hP 16 rfl rfl d_B_append_26 ?_
  refine st_top (show g 20 0 = nI n from hg) ?_
  refine lv_iload_n hx hb d_B_append_29 rfl (lv_at hl 2 rfl) ?_
  refine lv_iload_n hx hb d_B_append_30 rfl (lv_at hl 0 rfl) ?_
  refine lv_iushr (v := (w.toUInt32 >>> ((nI 24).toUInt32 &&& Int32.toUInt32 31)).toInt32) hx hb d_B_append_31 rfl ?_
  refine lv_sipush (v := nI 255) hx hb d_B_append_32 (by decide) ?_
  refine lv_iand hx hb d_B_append_35 ?_
  refine st_iast hx hb hK hP hD hS 17 0 rfl rfl (by omega) (by decide) d_B_append_36 (fun H locs hP hD hS => ?_)
  replace hP : va_P D CC (wC tk ad (mup g 21 n (((w.toUInt32 >>> ((nI 24).toUInt32 &&& Int32.toUInt32 31)).toInt32) &&& (nI 255))) rr ++ tl) H := Eq.mp (congrArg (fun w => va_P D CC w H) (sC_17 tk ad g rr tl n (((w.toUInt32 >>> ((nI 24).toUInt32 &&& Int32.toUInt32 31)).toInt32) &&& (nI 255)))) hP
  replace hD : va_D A (wC tk ad (mup g 21 n (((w.toUInt32 >>> ((nI 24).toUInt32 &&& Int32.toUInt32 31)).toInt32) &&& (nI 255))) rr ++ tl) := Eq.mp (congrArg (fun w => va_D A w) (sC_17 tk ad g rr tl n (((w.toUInt32 >>> ((nI 24).toUInt32 &&& Int32.toUInt32 31)).toInt32) &&& (nI 255)))) hD
  refine lv_aload_n hx hb d_B_append_37 rfl (lv_at hl 1 rfl) ?_
  refine lv_dup hx hb d_B_append_38 rfl ?_
  refine gf_B_15 (v := .int ((mup g 21 n (((w.toUInt32 >>> ((nI 24).toUInt32 &&& Int32.toUInt32 31)).toInt32) &&& (nI 255))) 20 0)) hx hb hT hown hK hP 16 rfl rfl d_B_append_39 ?_
  refine st_top (show (mup g 21 n (((w.toUInt32 >>> ((nI 24).toUInt32 &&& Int32.toUInt32 31)).toInt32) &&& (nI 255))) 20 0 = g 20 0 from (rd_ne (by decide) rfl)) ?_
  refine st_top (show g 20 0 = nI n from hg) ?_
  refine lv_iconst (v := nI 1) hx hb d_B_append_42 (by decide) ?_
  refine st_iadd hx hb d_B_append_43 ?_
  refine pf_B_15 hx hb hT hown hK hP hD hS 16 rfl (Nat.le_of_ble_eq_true rfl) d_B_append_44 (fun H locs hP hD hS => ?_)
  replace hP : va_P D CC (wC tk ad (mup (mup g 21 n (((w.toUInt32 >>> ((nI 24).toUInt32 &&& Int32.toUInt32 31)).toInt32) &&& (nI 255))) 20 0 (nI (n + 1))) rr ++ tl) H := Eq.mp (congrArg (fun w => va_P D CC w H) (sC_16_1 tk ad (mup g 21 n (((w.toUInt32 >>> ((nI 24).toUInt32 &&& Int32.toUInt32 31)).toInt32) &&& (nI 255))) rr tl (nI (n + 1)))) hP
  replace hD : va_D A (wC tk ad (mup (mup g 21 n (((w.toUInt32 >>> ((nI 24).toUInt32 &&& Int32.toUInt32 31)).toInt32) &&& (nI 255))) 20 0 (nI (n + 1))) rr ++ tl) := Eq.mp (congrArg (fun w => va_D A w) (sC_16_1 tk ad (mup g 21 n (((w.toUInt32 >>> ((nI 24).toUInt32 &&& Int32.toUInt32 31)).toInt32) &&& (nI 255))) rr tl (nI (n + 1)))) hD
  refine lv_iinc (k := 0) (v := nI 16) (lv' := [(3, .int (nI 16)), (0, .ref (ad 16)), (1, .int w), (2, .int (nI 4))]) hx hb d_B_append_47 hl rfl (by decide) (by decide) rfl (fun ls hl => ?_)
  refine lv_goto hx hb d_B_append_50 (tgt := 7) (by decide) ?_
  refine lv_iload_n hx hb d_B_append_7 rfl (lv_at hl 0 rfl) ?_
  refine st_if_lt hx hb (by omega) d_B_append_8 (tgt := 53) (by decide) (fun hc8 => (by exfalso; first | exact hc8 | omega)) (fun hc8 => ?_)
  refine lv_aload_n hx hb d_B_append_11 rfl (lv_at hl 1 rfl) ?_
  refine gf_B_15 (v := .int ((mup (mup g 21 n (((w.toUInt32 >>> ((nI 24).toUInt32 &&& Int32.toUInt32 31)).toInt32) &&& (nI 255))) 20 0 (nI (n + 1))) 20 0)) hx hb hT hown hK hP 16 rfl rfl d_B_append_12 ?_
  refine st_top (show (mup (mup g 21 n (((w.toUInt32 >>> ((nI 24).toUInt32 &&& Int32.toUInt32 31)).toInt32) &&& (nI 255))) 20 0 (nI (n + 1))) 20 0 = nI (n + 1) from rd_eq) ?_
  refine lv_sipush (v := nI 400) hx hb d_B_append_15 (by decide) ?_
  refine st_icmp_ge hx hb (by omega) (by omega) d_B_append_18 (tgt := 47) (by decide) (fun hc18 => absurd hc18 (by omega)) (fun hc18 => ?_)
  refine lv_aload_n hx hb d_B_append_21 rfl (lv_at hl 1 rfl) ?_
  refine gf_B_9 (v := .ref (ad 17)) hx hb hT hown hK hP 16 rfl rfl d_B_append_22 ?_
  refine lv_aload_n hx hb d_B_append_25 rfl (lv_at hl 1 rfl) ?_
  refine gf_B_15 (v := .int ((mup (mup g 21 n (((w.toUInt32 >>> ((nI 24).toUInt32 &&& Int32.toUInt32 31)).toInt32) &&& (nI 255))) 20 0 (nI (n + 1))) 20 0)) hx hb hT hown hK hP 16 rfl rfl d_B_append_26 ?_
  refine st_top (show (mup (mup g 21 n (((w.toUInt32 >>> ((nI 24).toUInt32 &&& Int32.toUInt32 31)).toInt32) &&& (nI 255))) 20 0 (nI (n + 1))) 20 0 = nI (n + 1) from rd_eq) ?_
  refine lv_iload_n hx hb d_B_append_29 rfl (lv_at hl 2 rfl) ?_
  refine lv_iload_n hx hb d_B_append_30 rfl (lv_at hl 0 rfl) ?_
  refine lv_iushr (v := (w.toUInt32 >>> ((nI 16).toUInt32 &&& Int32.toUInt32 31)).toInt32) hx hb d_B_append_31 rfl ?_
  refine lv_sipush (v := nI 255) hx hb d_B_append_32 (by decide) ?_
  refine lv_iand hx hb d_B_append_35 ?_
  refine st_iast hx hb hK hP hD hS 17 0 rfl rfl (by omega) (by decide) d_B_append_36 (fun H locs hP hD hS => ?_)
  replace hP : va_P D CC (wC tk ad (mup (mup (mup g 21 n (((w.toUInt32 >>> ((nI 24).toUInt32 &&& Int32.toUInt32 31)).toInt32) &&& (nI 255))) 20 0 (nI (n + 1))) 21 (n + 1) (((w.toUInt32 >>> ((nI 16).toUInt32 &&& Int32.toUInt32 31)).toInt32) &&& (nI 255))) rr ++ tl) H := Eq.mp (congrArg (fun w => va_P D CC w H) (sC_17 tk ad (mup (mup g 21 n (((w.toUInt32 >>> ((nI 24).toUInt32 &&& Int32.toUInt32 31)).toInt32) &&& (nI 255))) 20 0 (nI (n + 1))) rr tl (n + 1) (((w.toUInt32 >>> ((nI 16).toUInt32 &&& Int32.toUInt32 31)).toInt32) &&& (nI 255)))) hP
  replace hD : va_D A (wC tk ad (mup (mup (mup g 21 n (((w.toUInt32 >>> ((nI 24).toUInt32 &&& Int32.toUInt32 31)).toInt32) &&& (nI 255))) 20 0 (nI (n + 1))) 21 (n + 1) (((w.toUInt32 >>> ((nI 16).toUInt32 &&& Int32.toUInt32 31)).toInt32) &&& (nI 255))) rr ++ tl) := Eq.mp (congrArg (fun w => va_D A w) (sC_17 tk ad (mup (mup g 21 n (((w.toUInt32 >>> ((nI 24).toUInt32 &&& Int32.toUInt32 31)).toInt32) &&& (nI 255))) 20 0 (nI (n + 1))) rr tl (n + 1) (((w.toUInt32 >>> ((nI 16).toUInt32 &&& Int32.toUInt32 31)).toInt32) &&& (nI 255)))) hD
  refine lv_aload_n hx hb d_B_append_37 rfl (lv_at hl 1 rfl) ?_
  refine lv_dup hx hb d_B_append_38 rfl ?_
  refine gf_B_15 (v := .int ((mup (mup (mup g 21 n (((w.toUInt32 >>> ((nI 24).toUInt32 &&& Int32.toUInt32 31)).toInt32) &&& (nI 255))) 20 0 (nI (n + 1))) 21 (n + 1) (((w.toUInt32 >>> ((nI 16).toUInt32 &&& Int32.toUInt32 31)).toInt32) &&& (nI 255))) 20 0)) hx hb hT hown hK hP 16 rfl rfl d_B_append_39 ?_
  refine st_top (show (mup (mup (mup g 21 n (((w.toUInt32 >>> ((nI 24).toUInt32 &&& Int32.toUInt32 31)).toInt32) &&& (nI 255))) 20 0 (nI (n + 1))) 21 (n + 1) (((w.toUInt32 >>> ((nI 16).toUInt32 &&& Int32.toUInt32 31)).toInt32) &&& (nI 255))) 20 0 = nI (n + 1) from (rd_ne (by decide) rd_eq)) ?_
  refine lv_iconst (v := nI 1) hx hb d_B_append_42 (by decide) ?_
  refine st_iadd hx hb d_B_append_43 ?_
  refine pf_B_15 hx hb hT hown hK hP hD hS 16 rfl (Nat.le_of_ble_eq_true rfl) d_B_append_44 (fun H locs hP hD hS => ?_)
  replace hP : va_P D CC (wC tk ad (mup (mup (mup (mup g 21 n (((w.toUInt32 >>> ((nI 24).toUInt32 &&& Int32.toUInt32 31)).toInt32) &&& (nI 255))) 20 0 (nI (n + 1))) 21 (n + 1) (((w.toUInt32 >>> ((nI 16).toUInt32 &&& Int32.toUInt32 31)).toInt32) &&& (nI 255))) 20 0 (nI ((n + 1) + 1))) rr ++ tl) H := Eq.mp (congrArg (fun w => va_P D CC w H) (sC_16_1 tk ad (mup (mup (mup g 21 n (((w.toUInt32 >>> ((nI 24).toUInt32 &&& Int32.toUInt32 31)).toInt32) &&& (nI 255))) 20 0 (nI (n + 1))) 21 (n + 1) (((w.toUInt32 >>> ((nI 16).toUInt32 &&& Int32.toUInt32 31)).toInt32) &&& (nI 255))) rr tl (nI ((n + 1) + 1)))) hP
  replace hD : va_D A (wC tk ad (mup (mup (mup (mup g 21 n (((w.toUInt32 >>> ((nI 24).toUInt32 &&& Int32.toUInt32 31)).toInt32) &&& (nI 255))) 20 0 (nI (n + 1))) 21 (n + 1) (((w.toUInt32 >>> ((nI 16).toUInt32 &&& Int32.toUInt32 31)).toInt32) &&& (nI 255))) 20 0 (nI ((n + 1) + 1))) rr ++ tl) := Eq.mp (congrArg (fun w => va_D A w) (sC_16_1 tk ad (mup (mup (mup g 21 n (((w.toUInt32 >>> ((nI 24).toUInt32 &&& Int32.toUInt32 31)).toInt32) &&& (nI 255))) 20 0 (nI (n + 1))) 21 (n + 1) (((w.toUInt32 >>> ((nI 16).toUInt32 &&& Int32.toUInt32 31)).toInt32) &&& (nI 255))) rr tl (nI ((n + 1) + 1)))) hD
  refine lv_iinc (k := 0) (v := nI 8) (lv' := [(3, .int (nI 8)), (0, .ref (ad 16)), (1, .int w), (2, .int (nI 4))]) hx hb d_B_append_47 hl rfl (by decide) (by decide) rfl (fun ls hl => ?_)
  refine lv_goto hx hb d_B_append_50 (tgt := 7) (by decide) ?_
  refine lv_iload_n hx hb d_B_append_7 rfl (lv_at hl 0 rfl) ?_
  refine st_if_lt hx hb (by omega) d_B_append_8 (tgt := 53) (by decide) (fun hc8 => (by exfalso; first | exact hc8 | omega)) (fun hc8 => ?_)
  refine lv_aload_n hx hb d_B_append_11 rfl (lv_at hl 1 rfl) ?_
  refine gf_B_15 (v := .int ((mup (mup (mup (mup g 21 n (((w.toUInt32 >>> ((nI 24).toUInt32 &&& Int32.toUInt32 31)).toInt32) &&& (nI 255))) 20 0 (nI (n + 1))) 21 (n + 1) (((w.toUInt32 >>> ((nI 16).toUInt32 &&& Int32.toUInt32 31)).toInt32) &&& (nI 255))) 20 0 (nI ((n + 1) + 1))) 20 0)) hx hb hT hown hK hP 16 rfl rfl d_B_append_12 ?_
  refine st_top (show (mup (mup (mup (mup g 21 n (((w.toUInt32 >>> ((nI 24).toUInt32 &&& Int32.toUInt32 31)).toInt32) &&& (nI 255))) 20 0 (nI (n + 1))) 21 (n + 1) (((w.toUInt32 >>> ((nI 16).toUInt32 &&& Int32.toUInt32 31)).toInt32) &&& (nI 255))) 20 0 (nI ((n + 1) + 1))) 20 0 = nI ((n + 1) + 1) from rd_eq) ?_
  refine lv_sipush (v := nI 400) hx hb d_B_append_15 (by decide) ?_
  refine st_icmp_ge hx hb (by omega) (by omega) d_B_append_18 (tgt := 47) (by decide) (fun hc18 => absurd hc18 (by omega)) (fun hc18 => ?_)
  refine lv_aload_n hx hb d_B_append_21 rfl (lv_at hl 1 rfl) ?_
  refine gf_B_9 (v := .ref (ad 17)) hx hb hT hown hK hP 16 rfl rfl d_B_append_22 ?_
  refine lv_aload_n hx hb d_B_append_25 rfl (lv_at hl 1 rfl) ?_
  refine gf_B_15 (v := .int ((mup (mup (mup (mup g 21 n (((w.toUInt32 >>> ((nI 24).toUInt32 &&& Int32.toUInt32 31)).toInt32) &&& (nI 255))) 20 0 (nI (n + 1))) 21 (n + 1) (((w.toUInt32 >>> ((nI 16).toUInt32 &&& Int32.toUInt32 31)).toInt32) &&& (nI 255))) 20 0 (nI ((n + 1) + 1))) 20 0)) hx hb hT hown hK hP 16 rfl rfl d_B_append_26 ?_
  refine st_top (show (mup (mup (mup (mup g 21 n (((w.toUInt32 >>> ((nI 24).toUInt32 &&& Int32.toUInt32 31)).toInt32) &&& (nI 255))) 20 0 (nI (n + 1))) 21 (n + 1) (((w.toUInt32 >>> ((nI 16).toUInt32 &&& Int32.toUInt32 31)).toInt32) &&& (nI 255))) 20 0 (nI ((n + 1) + 1))) 20 0 = nI ((n + 1) + 1) from rd_eq) ?_
  refine lv_iload_n hx hb d_B_append_29 rfl (lv_at hl 2 rfl) ?_
  refine lv_iload_n hx hb d_B_append_30 rfl (lv_at hl 0 rfl) ?_
  refine lv_iushr (v := (w.toUInt32 >>> ((nI 8).toUInt32 &&& Int32.toUInt32 31)).toInt32) hx hb d_B_append_31 rfl ?_
  refine lv_sipush (v := nI 255) hx hb d_B_append_32 (by decide) ?_
  refine lv_iand hx hb d_B_append_35 ?_
  refine st_iast hx hb hK hP hD hS 17 0 rfl rfl (by omega) (by decide) d_B_append_36 (fun H locs hP hD hS => ?_)
  replace hP : va_P D CC (wC tk ad (mup (mup (mup (mup (mup g 21 n (((w.toUInt32 >>> ((nI 24).toUInt32 &&& Int32.toUInt32 31)).toInt32) &&& (nI 255))) 20 0 (nI (n + 1))) 21 (n + 1) (((w.toUInt32 >>> ((nI 16).toUInt32 &&& Int32.toUInt32 31)).toInt32) &&& (nI 255))) 20 0 (nI ((n + 1) + 1))) 21 ((n + 1) + 1) (((w.toUInt32 >>> ((nI 8).toUInt32 &&& Int32.toUInt32 31)).toInt32) &&& (nI 255))) rr ++ tl) H := Eq.mp (congrArg (fun w => va_P D CC w H) (sC_17 tk ad (mup (mup (mup (mup g 21 n (((w.toUInt32 >>> ((nI 24).toUInt32 &&& Int32.toUInt32 31)).toInt32) &&& (nI 255))) 20 0 (nI (n + 1))) 21 (n + 1) (((w.toUInt32 >>> ((nI 16).toUInt32 &&& Int32.toUInt32 31)).toInt32) &&& (nI 255))) 20 0 (nI ((n + 1) + 1))) rr tl ((n + 1) + 1) (((w.toUInt32 >>> ((nI 8).toUInt32 &&& Int32.toUInt32 31)).toInt32) &&& (nI 255)))) hP
  replace hD : va_D A (wC tk ad (mup (mup (mup (mup (mup g 21 n (((w.toUInt32 >>> ((nI 24).toUInt32 &&& Int32.toUInt32 31)).toInt32) &&& (nI 255))) 20 0 (nI (n + 1))) 21 (n + 1) (((w.toUInt32 >>> ((nI 16).toUInt32 &&& Int32.toUInt32 31)).toInt32) &&& (nI 255))) 20 0 (nI ((n + 1) + 1))) 21 ((n + 1) + 1) (((w.toUInt32 >>> ((nI 8).toUInt32 &&& Int32.toUInt32 31)).toInt32) &&& (nI 255))) rr ++ tl) := Eq.mp (congrArg (fun w => va_D A w) (sC_17 tk ad (mup (mup (mup (mup g 21 n (((w.toUInt32 >>> ((nI 24).toUInt32 &&& Int32.toUInt32 31)).toInt32) &&& (nI 255))) 20 0 (nI (n + 1))) 21 (n + 1) (((w.toUInt32 >>> ((nI 16).toUInt32 &&& Int32.toUInt32 31)).toInt32) &&& (nI 255))) 20 0 (nI ((n + 1) + 1))) rr tl ((n + 1) + 1) (((w.toUInt32 >>> ((nI 8).toUInt32 &&& Int32.toUInt32 31)).toInt32) &&& (nI 255)))) hD
  refine lv_aload_n hx hb d_B_append_37 rfl (lv_at hl 1 rfl) ?_
  refine lv_dup hx hb d_B_append_38 rfl ?_
  refine gf_B_15 (v := .int ((mup (mup (mup (mup (mup g 21 n (((w.toUInt32 >>> ((nI 24).toUInt32 &&& Int32.toUInt32 31)).toInt32) &&& (nI 255))) 20 0 (nI (n + 1))) 21 (n + 1) (((w.toUInt32 >>> ((nI 16).toUInt32 &&& Int32.toUInt32 31)).toInt32) &&& (nI 255))) 20 0 (nI ((n + 1) + 1))) 21 ((n + 1) + 1) (((w.toUInt32 >>> ((nI 8).toUInt32 &&& Int32.toUInt32 31)).toInt32) &&& (nI 255))) 20 0)) hx hb hT hown hK hP 16 rfl rfl d_B_append_39 ?_
  refine st_top (show (mup (mup (mup (mup (mup g 21 n (((w.toUInt32 >>> ((nI 24).toUInt32 &&& Int32.toUInt32 31)).toInt32) &&& (nI 255))) 20 0 (nI (n + 1))) 21 (n + 1) (((w.toUInt32 >>> ((nI 16).toUInt32 &&& Int32.toUInt32 31)).toInt32) &&& (nI 255))) 20 0 (nI ((n + 1) + 1))) 21 ((n + 1) + 1) (((w.toUInt32 >>> ((nI 8).toUInt32 &&& Int32.toUInt32 31)).toInt32) &&& (nI 255))) 20 0 = nI ((n + 1) + 1) from (rd_ne (by decide) rd_eq)) ?_
  refine lv_iconst (v := nI 1) hx hb d_B_append_42 (by decide) ?_
  refine st_iadd hx hb d_B_append_43 ?_
  refine pf_B_15 hx hb hT hown hK hP hD hS 16 rfl (Nat.le_of_ble_eq_true rfl) d_B_append_44 (fun H locs hP hD hS => ?_)
  replace hP : va_P D CC (wC tk ad (mup (mup (mup (mup (mup (mup g 21 n (((w.toUInt32 >>> ((nI 24).toUInt32 &&& Int32.toUInt32 31)).toInt32) &&& (nI 255))) 20 0 (nI (n + 1))) 21 (n + 1) (((w.toUInt32 >>> ((nI 16).toUInt32 &&& Int32.toUInt32 31)).toInt32) &&& (nI 255))) 20 0 (nI ((n + 1) + 1))) 21 ((n + 1) + 1) (((w.toUInt32 >>> ((nI 8).toUInt32 &&& Int32.toUInt32 31)).toInt32) &&& (nI 255))) 20 0 (nI (((n + 1) + 1) + 1))) rr ++ tl) H := Eq.mp (congrArg (fun w => va_P D CC w H) (sC_16_1 tk ad (mup (mup (mup (mup (mup g 21 n (((w.toUInt32 >>> ((nI 24).toUInt32 &&& Int32.toUInt32 31)).toInt32) &&& (nI 255))) 20 0 (nI (n + 1))) 21 (n + 1) (((w.toUInt32 >>> ((nI 16).toUInt32 &&& Int32.toUInt32 31)).toInt32) &&& (nI 255))) 20 0 (nI ((n + 1) + 1))) 21 ((n + 1) + 1) (((w.toUInt32 >>> ((nI 8).toUInt32 &&& Int32.toUInt32 31)).toInt32) &&& (nI 255))) rr tl (nI (((n + 1) + 1) + 1)))) hP
  replace hD : va_D A (wC tk ad (mup (mup (mup (mup (mup (mup g 21 n (((w.toUInt32 >>> ((nI 24).toUInt32 &&& Int32.toUInt32 31)).toInt32) &&& (nI 255))) 20 0 (nI (n + 1))) 21 (n + 1) (((w.toUInt32 >>> ((nI 16).toUInt32 &&& Int32.toUInt32 31)).toInt32) &&& (nI 255))) 20 0 (nI ((n + 1) + 1))) 21 ((n + 1) + 1) (((w.toUInt32 >>> ((nI 8).toUInt32 &&& Int32.toUInt32 31)).toInt32) &&& (nI 255))) 20 0 (nI (((n + 1) + 1) + 1))) rr ++ tl) := Eq.mp (congrArg (fun w => va_D A w) (sC_16_1 tk ad (mup (mup (mup (mup (mup g 21 n (((w.toUInt32 >>> ((nI 24).toUInt32 &&& Int32.toUInt32 31)).toInt32) &&& (nI 255))) 20 0 (nI (n + 1))) 21 (n + 1) (((w.toUInt32 >>> ((nI 16).toUInt32 &&& Int32.toUInt32 31)).toInt32) &&& (nI 255))) 20 0 (nI ((n + 1) + 1))) 21 ((n + 1) + 1) (((w.toUInt32 >>> ((nI 8).toUInt32 &&& Int32.toUInt32 31)).toInt32) &&& (nI 255))) rr tl (nI (((n + 1) + 1) + 1)))) hD
  refine lv_iinc (k := 0) (v := nI 0) (lv' := [(3, .int (nI 0)), (0, .ref (ad 16)), (1, .int w), (2, .int (nI 4))]) hx hb d_B_append_47 hl rfl (by decide) (by decide) rfl (fun ls hl => ?_)
  refine lv_goto hx hb d_B_append_50 (tgt := 7) (by decide) ?_
  refine lv_iload_n hx hb d_B_append_7 rfl (lv_at hl 0 rfl) ?_
  refine st_if_lt hx hb (by omega) d_B_append_8 (tgt := 53) (by decide) (fun hc8 => (by exfalso; first | exact hc8 | omega)) (fun hc8 => ?_)
  refine lv_aload_n hx hb d_B_append_11 rfl (lv_at hl 1 rfl) ?_
  refine gf_B_15 (v := .int ((mup (mup (mup (mup (mup (mup g 21 n (((w.toUInt32 >>> ((nI 24).toUInt32 &&& Int32.toUInt32 31)).toInt32) &&& (nI 255))) 20 0 (nI (n + 1))) 21 (n + 1) (((w.toUInt32 >>> ((nI 16).toUInt32 &&& Int32.toUInt32 31)).toInt32) &&& (nI 255))) 20 0 (nI ((n + 1) + 1))) 21 ((n + 1) + 1) (((w.toUInt32 >>> ((nI 8).toUInt32 &&& Int32.toUInt32 31)).toInt32) &&& (nI 255))) 20 0 (nI (((n + 1) + 1) + 1))) 20 0)) hx hb hT hown hK hP 16 rfl rfl d_B_append_12 ?_
  refine st_top (show (mup (mup (mup (mup (mup (mup g 21 n (((w.toUInt32 >>> ((nI 24).toUInt32 &&& Int32.toUInt32 31)).toInt32) &&& (nI 255))) 20 0 (nI (n + 1))) 21 (n + 1) (((w.toUInt32 >>> ((nI 16).toUInt32 &&& Int32.toUInt32 31)).toInt32) &&& (nI 255))) 20 0 (nI ((n + 1) + 1))) 21 ((n + 1) + 1) (((w.toUInt32 >>> ((nI 8).toUInt32 &&& Int32.toUInt32 31)).toInt32) &&& (nI 255))) 20 0 (nI (((n + 1) + 1) + 1))) 20 0 = nI (((n + 1) + 1) + 1) from rd_eq) ?_
  refine lv_sipush (v := nI 400) hx hb d_B_append_15 (by decide) ?_
  refine st_icmp_ge hx hb (by omega) (by omega) d_B_append_18 (tgt := 47) (by decide) (fun hc18 => absurd hc18 (by omega)) (fun hc18 => ?_)
  refine lv_aload_n hx hb d_B_append_21 rfl (lv_at hl 1 rfl) ?_
  refine gf_B_9 (v := .ref (ad 17)) hx hb hT hown hK hP 16 rfl rfl d_B_append_22 ?_
  refine lv_aload_n hx hb d_B_append_25 rfl (lv_at hl 1 rfl) ?_
  refine gf_B_15 (v := .int ((mup (mup (mup (mup (mup (mup g 21 n (((w.toUInt32 >>> ((nI 24).toUInt32 &&& Int32.toUInt32 31)).toInt32) &&& (nI 255))) 20 0 (nI (n + 1))) 21 (n + 1) (((w.toUInt32 >>> ((nI 16).toUInt32 &&& Int32.toUInt32 31)).toInt32) &&& (nI 255))) 20 0 (nI ((n + 1) + 1))) 21 ((n + 1) + 1) (((w.toUInt32 >>> ((nI 8).toUInt32 &&& Int32.toUInt32 31)).toInt32) &&& (nI 255))) 20 0 (nI (((n + 1) + 1) + 1))) 20 0)) hx hb hT hown hK hP 16 rfl rfl d_B_append_26 ?_
  refine st_top (show (mup (mup (mup (mup (mup (mup g 21 n (((w.toUInt32 >>> ((nI 24).toUInt32 &&& Int32.toUInt32 31)).toInt32) &&& (nI 255))) 20 0 (nI (n + 1))) 21 (n + 1) (((w.toUInt32 >>> ((nI 16).toUInt32 &&& Int32.toUInt32 31)).toInt32) &&& (nI 255))) 20 0 (nI ((n + 1) + 1))) 21 ((n + 1) + 1) (((w.toUInt32 >>> ((nI 8).toUInt32 &&& Int32.toUInt32 31)).toInt32) &&& (nI 255))) 20 0 (nI (((n + 1) + 1) + 1))) 20 0 = nI (((n + 1) + 1) + 1) from rd_eq) ?_
  refine lv_iload_n hx hb d_B_append_29 rfl (lv_at hl 2 rfl) ?_
  refine lv_iload_n hx hb d_B_append_30 rfl (lv_at hl 0 rfl) ?_
  refine lv_iushr (v := (w.toUInt32 >>> ((nI 0).toUInt32 &&& Int32.toUInt32 31)).toInt32) hx hb d_B_append_31 rfl ?_
  refine lv_sipush (v := nI 255) hx hb d_B_append_32 (by decide) ?_
  refine lv_iand hx hb d_B_append_35 ?_
  refine st_iast hx hb hK hP hD hS 17 0 rfl rfl (by omega) (by decide) d_B_append_36 (fun H locs hP hD hS => ?_)
  replace hP : va_P D CC (wC tk ad (mup (mup (mup (mup (mup (mup (mup g 21 n (((w.toUInt32 >>> ((nI 24).toUInt32 &&& Int32.toUInt32 31)).toInt32) &&& (nI 255))) 20 0 (nI (n + 1))) 21 (n + 1) (((w.toUInt32 >>> ((nI 16).toUInt32 &&& Int32.toUInt32 31)).toInt32) &&& (nI 255))) 20 0 (nI ((n + 1) + 1))) 21 ((n + 1) + 1) (((w.toUInt32 >>> ((nI 8).toUInt32 &&& Int32.toUInt32 31)).toInt32) &&& (nI 255))) 20 0 (nI (((n + 1) + 1) + 1))) 21 (((n + 1) + 1) + 1) (((w.toUInt32 >>> ((nI 0).toUInt32 &&& Int32.toUInt32 31)).toInt32) &&& (nI 255))) rr ++ tl) H := Eq.mp (congrArg (fun w => va_P D CC w H) (sC_17 tk ad (mup (mup (mup (mup (mup (mup g 21 n (((w.toUInt32 >>> ((nI 24).toUInt32 &&& Int32.toUInt32 31)).toInt32) &&& (nI 255))) 20 0 (nI (n + 1))) 21 (n + 1) (((w.toUInt32 >>> ((nI 16).toUInt32 &&& Int32.toUInt32 31)).toInt32) &&& (nI 255))) 20 0 (nI ((n + 1) + 1))) 21 ((n + 1) + 1) (((w.toUInt32 >>> ((nI 8).toUInt32 &&& Int32.toUInt32 31)).toInt32) &&& (nI 255))) 20 0 (nI (((n + 1) + 1) + 1))) rr tl (((n + 1) + 1) + 1) (((w.toUInt32 >>> ((nI 0).toUInt32 &&& Int32.toUInt32 31)).toInt32) &&& (nI 255)))) hP
  replace hD : va_D A (wC tk ad (mup (mup (mup (mup (mup (mup (mup g 21 n (((w.toUInt32 >>> ((nI 24).toUInt32 &&& Int32.toUInt32 31)).toInt32) &&& (nI 255))) 20 0 (nI (n + 1))) 21 (n + 1) (((w.toUInt32 >>> ((nI 16).toUInt32 &&& Int32.toUInt32 31)).toInt32) &&& (nI 255))) 20 0 (nI ((n + 1) + 1))) 21 ((n + 1) + 1) (((w.toUInt32 >>> ((nI 8).toUInt32 &&& Int32.toUInt32 31)).toInt32) &&& (nI 255))) 20 0 (nI (((n + 1) + 1) + 1))) 21 (((n + 1) + 1) + 1) (((w.toUInt32 >>> ((nI 0).toUInt32 &&& Int32.toUInt32 31)).toInt32) &&& (nI 255))) rr ++ tl) := Eq.mp (congrArg (fun w => va_D A w) (sC_17 tk ad (mup (mup (mup (mup (mup (mup g 21 n (((w.toUInt32 >>> ((nI 24).toUInt32 &&& Int32.toUInt32 31)).toInt32) &&& (nI 255))) 20 0 (nI (n + 1))) 21 (n + 1) (((w.toUInt32 >>> ((nI 16).toUInt32 &&& Int32.toUInt32 31)).toInt32) &&& (nI 255))) 20 0 (nI ((n + 1) + 1))) 21 ((n + 1) + 1) (((w.toUInt32 >>> ((nI 8).toUInt32 &&& Int32.toUInt32 31)).toInt32) &&& (nI 255))) 20 0 (nI (((n + 1) + 1) + 1))) rr tl (((n + 1) + 1) + 1) (((w.toUInt32 >>> ((nI 0).toUInt32 &&& Int32.toUInt32 31)).toInt32) &&& (nI 255)))) hD
  refine lv_aload_n hx hb d_B_append_37 rfl (lv_at hl 1 rfl) ?_
  refine lv_dup hx hb d_B_append_38 rfl ?_
  refine gf_B_15 (v := .int ((mup (mup (mup (mup (mup (mup (mup g 21 n (((w.toUInt32 >>> ((nI 24).toUInt32 &&& Int32.toUInt32 31)).toInt32) &&& (nI 255))) 20 0 (nI (n + 1))) 21 (n + 1) (((w.toUInt32 >>> ((nI 16).toUInt32 &&& Int32.toUInt32 31)).toInt32) &&& (nI 255))) 20 0 (nI ((n + 1) + 1))) 21 ((n + 1) + 1) (((w.toUInt32 >>> ((nI 8).toUInt32 &&& Int32.toUInt32 31)).toInt32) &&& (nI 255))) 20 0 (nI (((n + 1) + 1) + 1))) 21 (((n + 1) + 1) + 1) (((w.toUInt32 >>> ((nI 0).toUInt32 &&& Int32.toUInt32 31)).toInt32) &&& (nI 255))) 20 0)) hx hb hT hown hK hP 16 rfl rfl d_B_append_39 ?_
  refine st_top (show (mup (mup (mup (mup (mup (mup (mup g 21 n (((w.toUInt32 >>> ((nI 24).toUInt32 &&& Int32.toUInt32 31)).toInt32) &&& (nI 255))) 20 0 (nI (n + 1))) 21 (n + 1) (((w.toUInt32 >>> ((nI 16).toUInt32 &&& Int32.toUInt32 31)).toInt32) &&& (nI 255))) 20 0 (nI ((n + 1) + 1))) 21 ((n + 1) + 1) (((w.toUInt32 >>> ((nI 8).toUInt32 &&& Int32.toUInt32 31)).toInt32) &&& (nI 255))) 20 0 (nI (((n + 1) + 1) + 1))) 21 (((n + 1) + 1) + 1) (((w.toUInt32 >>> ((nI 0).toUInt32 &&& Int32.toUInt32 31)).toInt32) &&& (nI 255))) 20 0 = nI (((n + 1) + 1) + 1) from (rd_ne (by decide) rd_eq)) ?_
  refine lv_iconst (v := nI 1) hx hb d_B_append_42 (by decide) ?_
  refine st_iadd hx hb d_B_append_43 ?_
  refine pf_B_15 hx hb hT hown hK hP hD hS 16 rfl (Nat.le_of_ble_eq_true rfl) d_B_append_44 (fun H locs hP hD hS => ?_)
  replace hP : va_P D CC (wC tk ad (mup (mup (mup (mup (mup (mup (mup (mup g 21 n (((w.toUInt32 >>> ((nI 24).toUInt32 &&& Int32.toUInt32 31)).toInt32) &&& (nI 255))) 20 0 (nI (n + 1))) 21 (n + 1) (((w.toUInt32 >>> ((nI 16).toUInt32 &&& Int32.toUInt32 31)).toInt32) &&& (nI 255))) 20 0 (nI ((n + 1) + 1))) 21 ((n + 1) + 1) (((w.toUInt32 >>> ((nI 8).toUInt32 &&& Int32.toUInt32 31)).toInt32) &&& (nI 255))) 20 0 (nI (((n + 1) + 1) + 1))) 21 (((n + 1) + 1) + 1) (((w.toUInt32 >>> ((nI 0).toUInt32 &&& Int32.toUInt32 31)).toInt32) &&& (nI 255))) 20 0 (nI ((((n + 1) + 1) + 1) + 1))) rr ++ tl) H := Eq.mp (congrArg (fun w => va_P D CC w H) (sC_16_1 tk ad (mup (mup (mup (mup (mup (mup (mup g 21 n (((w.toUInt32 >>> ((nI 24).toUInt32 &&& Int32.toUInt32 31)).toInt32) &&& (nI 255))) 20 0 (nI (n + 1))) 21 (n + 1) (((w.toUInt32 >>> ((nI 16).toUInt32 &&& Int32.toUInt32 31)).toInt32) &&& (nI 255))) 20 0 (nI ((n + 1) + 1))) 21 ((n + 1) + 1) (((w.toUInt32 >>> ((nI 8).toUInt32 &&& Int32.toUInt32 31)).toInt32) &&& (nI 255))) 20 0 (nI (((n + 1) + 1) + 1))) 21 (((n + 1) + 1) + 1) (((w.toUInt32 >>> ((nI 0).toUInt32 &&& Int32.toUInt32 31)).toInt32) &&& (nI 255))) rr tl (nI ((((n + 1) + 1) + 1) + 1)))) hP
  replace hD : va_D A (wC tk ad (mup (mup (mup (mup (mup (mup (mup (mup g 21 n (((w.toUInt32 >>> ((nI 24).toUInt32 &&& Int32.toUInt32 31)).toInt32) &&& (nI 255))) 20 0 (nI (n + 1))) 21 (n + 1) (((w.toUInt32 >>> ((nI 16).toUInt32 &&& Int32.toUInt32 31)).toInt32) &&& (nI 255))) 20 0 (nI ((n + 1) + 1))) 21 ((n + 1) + 1) (((w.toUInt32 >>> ((nI 8).toUInt32 &&& Int32.toUInt32 31)).toInt32) &&& (nI 255))) 20 0 (nI (((n + 1) + 1) + 1))) 21 (((n + 1) + 1) + 1) (((w.toUInt32 >>> ((nI 0).toUInt32 &&& Int32.toUInt32 31)).toInt32) &&& (nI 255))) 20 0 (nI ((((n + 1) + 1) + 1) + 1))) rr ++ tl) := Eq.mp (congrArg (fun w => va_D A w) (sC_16_1 tk ad (mup (mup (mup (mup (mup (mup (mup g 21 n (((w.toUInt32 >>> ((nI 24).toUInt32 &&& Int32.toUInt32 31)).toInt32) &&& (nI 255))) 20 0 (nI (n + 1))) 21 (n + 1) (((w.toUInt32 >>> ((nI 16).toUInt32 &&& Int32.toUInt32 31)).toInt32) &&& (nI 255))) 20 0 (nI ((n + 1) + 1))) 21 ((n + 1) + 1) (((w.toUInt32 >>> ((nI 8).toUInt32 &&& Int32.toUInt32 31)).toInt32) &&& (nI 255))) 20 0 (nI (((n + 1) + 1) + 1))) 21 (((n + 1) + 1) + 1) (((w.toUInt32 >>> ((nI 0).toUInt32 &&& Int32.toUInt32 31)).toInt32) &&& (nI 255))) rr tl (nI ((((n + 1) + 1) + 1) + 1)))) hD
  refine lv_iinc (k := 0) (v := -8) (lv' := [(3, .int (-8)), (0, .ref (ad 16)), (1, .int w), (2, .int (nI 4))]) hx hb d_B_append_47 hl rfl (by decide) (by decide) rfl (fun ls hl => ?_)
  refine lv_goto hx hb d_B_append_50 (tgt := 7) (by decide) ?_
  refine lv_iload_n hx hb d_B_append_7 rfl (lv_at hl 0 rfl) ?_
  refine lv_if_lt hx hb d_B_append_8 (tgt := 53) (by decide) (fun hc8 => ?_) (fun hc8 => absurd hc8 (by decide))
  exact k_vret hQ hx hb hr hlk hK hP hD hS () rfl trivial d_B_append_53

set_option maxHeartbeats 4000000 in
set_option maxRecDepth 100000 in
theorem c_B_flip (l : Launch) (D : va_G) (tk : Nat → ClassId) (sz : Nat) (ad : Nat → Nat) (g : Nat → Nat → Int32) (rr : Nat → Nat → Option Nat) (tl : va_W) (n : Nat) (hn : n ≤ 400) (hg : g 20 0 = nI n) (i msk : Int32) : Met l y_B_flip w_B_flip ({ frames := 0, cells := 0, slots := 0, locals := 0 }) (va_Pc [.ref (ad 16), .int i, .int msk] (k_pre D (TY tk) sz (wC tk ad g rr ++ tl))) (va_Qv (fun (_ : Unit) => True) (fun u t => k_at D (TY tk) (va_A (wC tk ad g rr ++ tl) sz) ((fun _ => wC tk ad (if i < nI 0 ∨ g 20 0 - nI 1 < i then g else mup g 21 i.toNatClampNeg (g 21 i.toNatClampNeg ^^^ (msk &&& nI 255))) rr ++ tl) u) t) (va_A (wC tk ad g rr ++ tl) sz)) 0 0 (va_A (wC tk ad g rr ++ tl) sz) := by
  refine k_ofW (fun A => va_Qv (fun (_ : Unit) => True) (fun u t => k_at D (TY tk) A ((fun _ => wC tk ad (if i < nI 0 ∨ g 20 0 - nI 1 < i then g else mup g 21 i.toNatClampNeg (g 21 i.toNatClampNeg ^^^ (msk &&& nI 255))) rr ++ tl) u) t) A) (by decide) (Nat.le_of_ble_eq_true rfl) ?_
  intro p e s m args below meth c Q A ls hQ hx hb hr hlk hin hts hT hown hml hnw hP hK hD hA hsz hl
  have hS : va_S A s.heap s.heap [] := va_S.rf
  have hc0 : 0 + 0 ≤ 0 ∧ 0 + 0 ≤ 0 := ⟨by decide, by decide⟩
  replace hl : lv_has ls 3 [(0, .ref (ad 16)), (1, .int i), (2, .int msk)] := hl
  replace hP : va_P D CC (wC tk ad g rr ++ tl) s.heap := hP
  replace hK : va_K D CC (TY tk) s := hK
  refine lv_iload_n hx hb d_B_flip_0 rfl (lv_at hl 1 rfl) ?_
  refine lv_if_lt hx hb d_B_flip_1 (tgt := 26) (by decide) (fun hc1 => ?_) (fun hc1 => ?_)
  · skip
    have hn9 : i < nI 0 ∨ g 20 0 - nI 1 < i := Or.inl hc1
    exact k_vret hQ hx hb hr hlk hK hP hD hS () (by (try rw [nI_clamp (by omega)]); (iterate 4 (try (first | rw [if_pos (by assumption)] | rw [if_neg (by assumption)]))); try rfl) trivial d_B_flip_26
  · skip
    refine lv_iload_n hx hb d_B_flip_4 rfl (lv_at hl 1 rfl) ?_
    refine lv_aload_n hx hb d_B_flip_5 rfl (lv_at hl 0 rfl) ?_
    refine gf_B_15 (v := .int (g 20 0)) hx hb hT hown hK hP 16 rfl rfl d_B_flip_6 ?_
    refine lv_icmp_ge hx hb d_B_flip_9 (tgt := 26) (by decide) (fun hc9 => ?_) (fun hc9 => ?_)
    · skip
      have hn9 : i < nI 0 ∨ g 20 0 - nI 1 < i := Or.inr (m_out hg hn hc1 hc9)
      exact k_vret hQ hx hb hr hlk hK hP hD hS () (by (try rw [nI_clamp (by omega)]); (iterate 4 (try (first | rw [if_pos (by assumption)] | rw [if_neg (by assumption)]))); try rfl) trivial d_B_flip_26
    · skip
      have hn9 : ¬ (i < nI 0 ∨ g 20 0 - nI 1 < i) := m_inn hg hn hc1 hc9
      obtain ⟨j, hj, rfl⟩ := m_idx hg hn hn9
      refine lv_aload_n hx hb d_B_flip_12 rfl (lv_at hl 0 rfl) ?_
      refine gf_B_9 (v := .ref (ad 17)) hx hb hT hown hK hP 16 rfl rfl d_B_flip_13 ?_
      refine lv_iload_n hx hb d_B_flip_16 rfl (lv_at hl 1 rfl) ?_
      refine lv_dup2_11 hx hb d_B_flip_17 rfl rfl ?_
      refine st_iald hx hb hK hP 17 0 rfl rfl (by omega) (by decide) d_B_flip_18 ?_
      refine lv_iload_n hx hb d_B_flip_19 rfl (lv_at hl 2 rfl) ?_
      refine lv_sipush (v := nI 255) hx hb d_B_flip_20 (by decide) ?_
      refine lv_iand hx hb d_B_flip_23 ?_
      refine lv_ixor hx hb d_B_flip_24 ?_
      refine st_iast hx hb hK hP hD hS 17 0 rfl rfl (by omega) (by decide) d_B_flip_25 (fun H locs hP hD hS => ?_)
      replace hP : va_P D CC (wC tk ad (mup g 21 j ((g 21 j) ^^^ (msk &&& (nI 255)))) rr ++ tl) H := Eq.mp (congrArg (fun w => va_P D CC w H) (sC_17 tk ad g rr tl j ((g 21 j) ^^^ (msk &&& (nI 255))))) hP
      replace hD : va_D A (wC tk ad (mup g 21 j ((g 21 j) ^^^ (msk &&& (nI 255)))) rr ++ tl) := Eq.mp (congrArg (fun w => va_D A w) (sC_17 tk ad g rr tl j ((g 21 j) ^^^ (msk &&& (nI 255))))) hD
      exact k_vret hQ hx hb hr hlk hK hP hD hS () (by (try rw [nI_clamp (by omega)]); (iterate 4 (try (first | rw [if_pos (by assumption)] | rw [if_neg (by assumption)]))); try rfl) trivial d_B_flip_26

set_option maxHeartbeats 4000000 in
set_option maxRecDepth 100000 in
theorem c_B_countInts (l : Launch) (D : va_G) (tk : Nat → ClassId) (sz : Nat) (ad : Nat → Nat) (g : Nat → Nat → Int32) (rr : Nat → Nat → Option Nat) (tl : va_W) (n : Nat) (hn1 : 1 ≤ n) (hn : n ≤ 400) (hg : g 8 0 = nI n) : Met l y_B_countInts w_B_countInts ({ frames := 0, cells := 0, slots := 0, locals := 0 }) (va_Pc [.ref (ad 13)] (k_pre D (TY tk) sz (wC tk ad g rr ++ tl))) (va_Qv (fun (_ : Unit) => True) (fun u t => k_at D (TY tk) (va_A (wC tk ad g rr ++ tl) sz) ((fun _ => wC tk ad (mup g 9 0 (nI (n - 1) / nI 4)) rr ++ tl) u) t) (va_A (wC tk ad g rr ++ tl) sz)) 0 0 (va_A (wC tk ad g rr ++ tl) sz) := by
  refine k_ofW (fun A => va_Qv (fun (_ : Unit) => True) (fun u t => k_at D (TY tk) A ((fun _ => wC tk ad (mup g 9 0 (nI (n - 1) / nI 4)) rr ++ tl) u) t) A) (by decide) (Nat.le_of_ble_eq_true rfl) ?_
  intro p e s m args below meth c Q A ls hQ hx hb hr hlk hin hts hT hown hml hnw hP hK hD hA hsz hl
  have hS : va_S A s.heap s.heap [] := va_S.rf
  have hc0 : 0 + 0 ≤ 0 ∧ 0 + 0 ≤ 0 := ⟨by decide, by decide⟩
  replace hl : lv_has ls 1 [(0, .ref (ad 13))] := hl
  replace hP : va_P D CC (wC tk ad g rr ++ tl) s.heap := hP
  replace hK : va_K D CC (TY tk) s := hK
  refine lv_aload_n hx hb d_B_countInts_0 rfl (lv_at hl 0 rfl) ?_
  refine gf_B_9 (v := .ref (ad 14)) hx hb hT hown hK hP 13 rfl rfl d_B_countInts_1 ?_
  refine lv_iconst (v := nI 0) hx hb d_B_countInts_4 (by decide) ?_
  refine lv_aload_n hx hb d_B_countInts_5 rfl (lv_at hl 0 rfl) ?_
  refine gf_B_15 (v := .int (g 8 0)) hx hb hT hown hK hP 13 rfl rfl d_B_countInts_6 ?_
  refine st_top (show g 8 0 = nI n from hg) ?_
  refine lv_iconst (v := nI 1) hx hb d_B_countInts_9 (by decide) ?_
  refine st_isub hx hb (by omega) d_B_countInts_10 ?_
  refine lv_iconst (v := nI 4) hx hb d_B_countInts_11 (by decide) ?_
  refine lv_idiv hx hb d_B_countInts_12 (by decide) ?_
  refine st_iast hx hb hK hP hD hS 14 0 rfl rfl (by omega) (by decide) d_B_countInts_13 (fun H locs hP hD hS => ?_)
  replace hP : va_P D CC (wC tk ad (mup g 9 0 ((nI (n - 1)) / (nI 4))) rr ++ tl) H := Eq.mp (congrArg (fun w => va_P D CC w H) (sC_14 tk ad g rr tl 0 ((nI (n - 1)) / (nI 4)))) hP
  replace hD : va_D A (wC tk ad (mup g 9 0 ((nI (n - 1)) / (nI 4))) rr ++ tl) := Eq.mp (congrArg (fun w => va_D A w) (sC_14 tk ad g rr tl 0 ((nI (n - 1)) / (nI 4)))) hD
  exact k_vret hQ hx hb hr hlk hK hP hD hS () rfl trivial d_B_countInts_14
