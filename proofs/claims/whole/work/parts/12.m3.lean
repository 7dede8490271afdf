theorem mup_mup (g : Nat → Nat → Int32) (a i : Nat) (v w : Int32) : mup (mup g a i v) a i w = mup g a i w := by
  funext x j
  by_cases h : x = a
  · subst h
    rw [mup_eq, mup_eq, mup_eq]
    unfold upd
    split <;> rfl
  · rw [mup_ne h, mup_ne h, mup_ne h]
def ivM (g : Nat → Nat → Int32) (v : Int32) : Int32 := if v < nI 0 ∨ g 3 0 - nI 1 < v then nI 0 else nI 1
def wrZ (f : Nat) : Int32 := if (wr f).1 = true then nI 1 else nI 0
def itM (g : Nat → Nat → Int32) (lv n k : Nat) (v : Int32) : Nat → Nat → Int32 := mup (mup (mup g 13 (48 * lv + n) (nI k)) 14 (48 * lv + n) v) 12 lv (nI (n + 1))
def chE (lv mp : Nat) (low : Int32) (hi : Nat) : Int32 := ((nI lv ||| (nI mp <<< (nI 3 &&& 31))) ||| ((low + nI 1) <<< (nI 12 &&& 31))) ||| (nI hi <<< (nI 18 &&& 31))
def ouM (g : Nat → Nat → Int32) (n : Nat) (b : Int32) : Nat → Nat → Int32 := mup (mup g 22 n (b &&& nI 255)) 21 0 (nI (n + 1))
def oiM (g : Nat → Nat → Int32) (n : Nat) (v : Int32) : Nat → Nat → Int32 := ouM (ouM (ouM (ouM g n (v >>> (nI 24 &&& 31))) (n + 1) (v >>> (nI 16 &&& 31))) (n + 1 + 1) (v >>> (nI 8 &&& 31))) (n + 1 + 1 + 1) (v >>> (nI 0 &&& 31))
def sdM (g : Nat → Nat → Int32) (b f k : Nat) (z : Int32) : Nat → Nat → Int32 := mup (mup (mup (mup g 18 b (nI f)) 19 b (nI k)) 20 b z) 17 0 (nI (b + 1))

set_option maxHeartbeats 4000000 in
set_option maxRecDepth 100000 in
theorem c_M_isVersion (l : Launch) (D : va_G) (tk : Nat → ClassId) (sz : Nat) (h : Nat) (ad : Nat → Nat) (g : Nat → Nat → Int32) (la : Nat → Int64) (tl : va_W) (v : Int32) : Met l y_M_isVersion w_M_isVersion ({ frames := 1, cells := 0, slots := 0, locals := 22 }) (va_Pc [.ref h, .int v] (k_pre D (TY tk) sz (wM tk h ad g la ++ tl))) (va_Qi (fun (r : Int32) (_ : Unit) => r = ivM g v) (fun u t => k_at D (TY tk) (va_A (wM tk h ad g la ++ tl) sz) ((fun _ => wM tk h ad g la ++ tl) u) t) (va_A (wM tk h ad g la ++ tl) sz)) 0 0 (va_A (wM tk h ad g la ++ tl) sz) := by
  refine k_ofW (fun A => va_Qi (fun (r : Int32) (_ : Unit) => r = ivM g v) (fun u t => k_at D (TY tk) A ((fun _ => wM tk h ad g la ++ tl) u) t) A) (by decide) (Nat.le_of_ble_eq_true rfl) ?_
  intro p e s m args below meth c Q A ls hQ hx hb hr hlk hin hts hT hown hml hnw hP hK hD hA hsz hl
  have hS : va_S A s.heap s.heap [] := va_S.rf
  have hc0 : 0 + 0 ≤ 0 ∧ 0 + 0 ≤ 0 := ⟨by decide, by decide⟩
  have hl : lv_has ls 2 [(0, .ref h), (1, .int v)] := hl
  have hP : va_P D CC (wM tk h ad g la ++ tl) s.heap := hP
  have hK : va_K D CC (TY tk) s := hK
  refine lv_iload_n hx hb d_M_isVersion_0 rfl (lv_at hl 1 rfl) ?_
  refine lv_iconst (v := nI 0) hx hb d_M_isVersion_1 (by decide) ?_
  refine lv_aload_n hx hb d_M_isVersion_2 rfl (lv_at hl 0 rfl) ?_
  refine gf_M_69 (v := .int (g 3 0)) hx hb hT hown hK hP 0 rfl rfl d_M_isVersion_3 ?_
  refine lv_iconst (v := nI 1) hx hb d_M_isVersion_6 (by decide) ?_
  refine lv_isub hx hb d_M_isVersion_7 ?_
  refine k_calli (va_runS (As := [.int v, .int (nI 0), .int ((g 3 0) - (nI 1))]) (rest := []) ⟨hx, hb, hml, hown, hts⟩ (c_M_outside l D tk s.heap.size v (nI 0) ((g 3 0) - (nI 1)) (wM tk h ad g la ++ tl)) (cwS 3 hts (gS t_1041 t_1042 t_9 t_1043) rfl rfl rfl (by decide +kernel) ⟨Nat.le_of_ble_eq_true rfl, Nat.le_of_ble_eq_true rfl⟩) (k_preS hP hK hD hnw) rfl rfl hl.1 rfl (lv_room (Nat.le_of_ble_eq_true rfl)) d_M_isVersion_8 hc0) hD hS hA (fun _ _ H locs hp8 hP hD hK hS => ?_)
  subst hp8
  have hP : va_P D CC (wM tk h ad g la ++ tl) H := hP
  have hD : va_D A (wM tk h ad g la ++ tl) := hD
  refine lv_if_ne hx hb d_M_isVersion_11 (tgt := 18) (by decide) (fun hc11 => ?_) (fun hc11 => ?_)
  · skip
    have hn : v < nI 0 ∨ g 3 0 - nI 1 < v := Classical.byContradiction (fun q => hc11 (by rw [if_neg q]))
    refine lv_iconst (v := nI 0) hx hb d_M_isVersion_18 (by decide) ?_
    exact k_zret (v := nI 0) hQ hx hb hr hlk hK hP hD hS () rfl (by decide) (by unfold ivM; (iterate 4 (try (first | rw [if_pos (by assumption)] | rw [if_neg (by assumption)]))); try rfl) d_M_isVersion_19
  · skip
    have hn : ¬ (v < nI 0 ∨ g 3 0 - nI 1 < v) := fun q => by rw [if_pos q] at hc11; exact absurd hc11 (by decide)
    refine lv_iconst (v := nI 1) hx hb d_M_isVersion_14 (by decide) ?_
    refine lv_goto hx hb d_M_isVersion_15 (tgt := 19) (by decide) ?_
    exact k_zret (v := nI 1) hQ hx hb hr hlk hK hP hD hS () rfl (by decide) (by unfold ivM; (iterate 4 (try (first | rw [if_pos (by assumption)] | rw [if_neg (by assumption)]))); try rfl) d_M_isVersion_19

set_option maxHeartbeats 4000000 in
set_option maxRecDepth 100000 in
theorem c_M_rollback (l : Launch) (D : va_G) (tk : Nat → ClassId) (sz : Nat) (h : Nat) (ad : Nat → Nat) (g : Nat → Nat → Int32) (la : Nat → Int64) (tl : va_W) (V : Nat) (hV1 : 1 ≤ V) (hV2 : V ≤ 16) (hV : g 3 0 = nI V) (hz : bz (g 1)) : Met l y_M_rollback w_M_rollback ({ frames := 1, cells := 0, slots := 0, locals := 23 }) (va_Pc [.ref h] (k_pre D (TY tk) sz (wM tk h ad g la ++ tl))) (va_Qv (fun (_ : Unit) => True) (fun u t => k_at D (TY tk) (va_A (wM tk h ad g la ++ tl) sz) ((fun _ => wM tk h ad (cpK (mup g 0 0 (nI 0)) (V - 1) 16 48) la ++ tl) u) t) (va_A (wM tk h ad g la ++ tl) sz)) 0 0 (va_A (wM tk h ad g la ++ tl) sz) := by
  refine k_ofW (fun A => va_Qv (fun (_ : Unit) => True) (fun u t => k_at D (TY tk) A ((fun _ => wM tk h ad (cpK (mup g 0 0 (nI 0)) (V - 1) 16 48) la ++ tl) u) t) A) (by decide) (Nat.le_of_ble_eq_true rfl) ?_
  intro p e s m args below meth c Q A ls hQ hx hb hr hlk hin hts hT hown hml hnw hP hK hD hA hsz hl
  have hS : va_S A s.heap s.heap [] := va_S.rf
  have hc0 : 0 + 0 ≤ 0 ∧ 0 + 0 ≤ 0 := ⟨by decide, by decide⟩
  have hl : lv_has ls 1 [(0, .ref h)] := hl
  have hP : va_P D CC (wM tk h ad g la ++ tl) s.heap := hP
  have hK : va_K D CC (TY tk) s := hK
  refine lv_aload_n hx hb d_M_rollback_0 rfl (lv_at hl 0 rfl) ?_
  refine lv_iconst (v := nI 0) hx hb d_M_rollback_1 (by decide) ?_
  refine pf_M_73 hx hb hT hown hK hP hD hS 0 rfl (Nat.le_of_ble_eq_true rfl) d_M_rollback_2 (fun H locs hP hD hS => ?_)
  have hP : va_P D CC (wM tk h ad (mup g 0 0 (nI 0)) la ++ tl) H := hP
  have hD : va_D A (wM tk h ad (mup g 0 0 (nI 0)) la ++ tl) := hD
  refine lv_aload_n hx hb d_M_rollback_5 rfl (lv_at hl 0 rfl) ?_
  refine lv_aload_n hx hb d_M_rollback_6 rfl (lv_at hl 0 rfl) ?_
  refine gf_M_69 (v := .int (g 3 0)) hx hb hT hown hK hP 0 rfl rfl d_M_rollback_7 ?_
  refine st_top (show g 3 0 = nI V from hV) ?_
  refine lv_iconst (v := nI 1) hx hb d_M_rollback_10 (by decide) ?_
  refine st_isub hx hb (by omega) d_M_rollback_11 ?_
  refine lv_bipush (v := nI 16) hx hb d_M_rollback_12 (by decide) ?_
  refine k_callv (va_runV (As := [.int (nI (V - 1)), .int (nI 16)]) (rest := []) ⟨hx, hb, hml, hown, hts⟩ (c_M_copy l D tk H.size h ad (mup g 0 0 (nI 0)) la tl (V - 1) 16 (by omega) (by omega) (by omega) hz) (cwV 2 hts (gV t_1052 t_1054 s_16 t_9 t_1055) rfl rfl rfl (by decide +kernel) ⟨Nat.le_of_ble_eq_true rfl, Nat.le_of_ble_eq_true rfl⟩) (k_preV hP hK hD hnw 0 rfl rfl) rfl rfl hl.1 rfl (lv_room (Nat.le_of_ble_eq_true rfl)) d_M_rollback_14 hc0) hD hS hA (fun _ H locs hp14 hP hD hK hS => ?_)
  have hP : va_P D CC (wM tk h ad (cpK (mup g 0 0 (nI 0)) (V - 1) 16 48) la ++ tl) H := hP
  have hD : va_D A (wM tk h ad (cpK (mup g 0 0 (nI 0)) (V - 1) 16 48) la ++ tl) := hD
  exact k_vret hQ hx hb hr hlk hK hP hD hS () rfl trivial d_M_rollback_17

set_option maxHeartbeats 4000000 in
set_option maxRecDepth 100000 in
theorem c_M_writes (l : Launch) (D : va_G) (tk : Nat → ClassId) (sz : Nat) (h : Nat) (ad : Nat → Nat) (g : Nat → Nat → Int32) (la : Nat → Int64) (tl : va_W) (f : Nat) (hf : f ≤ 40) (hg : g 5 0 = nI f) : Met l y_M_writes w_M_writes ({ frames := 0, cells := 0, slots := 0, locals := 0 }) (va_Pc [.ref h] (k_pre D (TY tk) sz (wM tk h ad g la ++ tl))) (va_Qi (fun (r : Int32) (_ : Unit) => r = wrZ f) (fun u t => k_at D (TY tk) (va_A (wM tk h ad g la ++ tl) sz) ((fun _ => wM tk h ad (mup g 5 0 (nI (wr f).2)) la ++ tl) u) t) (va_A (wM tk h ad g la ++ tl) sz)) 0 0 (va_A (wM tk h ad g la ++ tl) sz) := by
  refine k_ofW (fun A => va_Qi (fun (r : Int32) (_ : Unit) => r = wrZ f) (fun u t => k_at D (TY tk) A ((fun _ => wM tk h ad (mup g 5 0 (nI (wr f).2)) la ++ tl) u) t) A) (by decide) (Nat.le_of_ble_eq_true rfl) ?_
  intro p e s m args below meth c Q A ls hQ hx hb hr hlk hin hts hT hown hml hnw hP hK hD hA hsz hl
  have hS : va_S A s.heap s.heap [] := va_S.rf
  have hc0 : 0 + 0 ≤ 0 ∧ 0 + 0 ≤ 0 := ⟨by decide, by decide⟩
  have hl : lv_has ls 2 [(0, .ref h)] := hl
  have hP : va_P D CC (wM tk h ad g la ++ tl) s.heap := hP
  have hK : va_K D CC (TY tk) s := hK
  refine lv_aload_n hx hb d_M_writes_0 rfl (lv_at hl 0 rfl) ?_
  refine lv_aload_n hx hb d_M_writes_1 rfl (lv_at hl 0 rfl) ?_
  refine gf_M_114 (v := .int (g 5 0)) hx hb hT hown hK hP 0 rfl rfl d_M_writes_2 ?_
  refine st_top (show g 5 0 = nI f from hg) ?_
  refine st_if_le hx hb (by omega) d_M_writes_5 (tgt := 17) (by decide) (fun hc5 => ?_) (fun hc5 => ?_)
  · skip
    refine lv_iconst (v := -1) hx hb d_M_writes_17 (by decide) ?_
    refine pf_M_114 hx hb hT hown hK hP hD hS 0 rfl (Nat.le_of_ble_eq_true rfl) d_M_writes_18 (fun H locs hP hD hS => ?_)
    have hP : va_P D CC (wM tk h ad (mup g 5 0 (-1)) la ++ tl) H := hP
    have hD : va_D A (wM tk h ad (mup g 5 0 (-1)) la ++ tl) := hD
    refine lv_aload_n hx hb d_M_writes_21 rfl (lv_at hl 0 rfl) ?_
    refine gf_M_114 (v := .int (-1)) hx hb hT hown hK hP 0 rfl rfl d_M_writes_22 ?_
    refine lv_if_eq hx hb d_M_writes_25 (tgt := 32) (by decide) (fun hc25 => absurd hc25 (by decide)) (fun hc25 => ?_)
    refine lv_iconst (v := nI 1) hx hb d_M_writes_28 (by decide) ?_
    refine lv_goto hx hb d_M_writes_29 (tgt := 33) (by decide) ?_
    refine lv_istore_n (lv' := [(1, .int (nI 1)), (0, .ref h)]) hx hb d_M_writes_33 rfl hl (by decide) rfl (fun ls hl => ?_)
    refine lv_aload_n hx hb d_M_writes_34 rfl (lv_at hl 1 rfl) ?_
    refine lv_aload_n hx hb d_M_writes_35 rfl (lv_at hl 1 rfl) ?_
    refine gf_M_114 (v := .int (-1)) hx hb hT hown hK hP 0 rfl rfl d_M_writes_36 ?_
    refine lv_iconst (v := nI 1) hx hb d_M_writes_39 (by decide) ?_
    refine lv_icmp_ge hx hb d_M_writes_40 (tgt := 47) (by decide) (fun hc40 => absurd hc40 (by decide)) (fun hc40 => ?_)
    refine lv_iconst (v := nI 0) hx hb d_M_writes_43 (by decide) ?_
    refine lv_goto hx hb d_M_writes_44 (tgt := 51) (by decide) ?_
    refine pf_M_114 hx hb hT hown hK hP hD hS 0 rfl (Nat.le_of_ble_eq_true rfl) d_M_writes_51 (fun H locs hP hD hS => ?_)
    have hP : va_P D CC (wM tk h ad (mup (mup g 5 0 (-1)) 5 0 (nI 0)) la ++ tl) H := hP
    have hD : va_D A (wM tk h ad (mup (mup g 5 0 (-1)) 5 0 (nI 0)) la ++ tl) := hD
    refine lv_iload_n hx hb d_M_writes_54 rfl (lv_at hl 0 rfl) ?_
    exact k_zret (v := nI 1) hQ hx hb hr hlk hK hP hD hS () (by rw [mup_mup, show nI (wr f).2 = nI 0 from congrArg nI (by unfold wr; split <;> simp <;> omega)]) (by decide) (by unfold wrZ; rw [if_pos (by unfold wr; split <;> simp <;> omega)]) d_M_writes_55
  · skip
    refine lv_aload_n hx hb d_M_writes_8 rfl (lv_at hl 0 rfl) ?_
    refine gf_M_114 (v := .int (g 5 0)) hx hb hT hown hK hP 0 rfl rfl d_M_writes_9 ?_
    refine st_top (show g 5 0 = nI f from hg) ?_
    refine lv_iconst (v := nI 1) hx hb d_M_writes_12 (by decide) ?_
    refine st_isub hx hb (by omega) d_M_writes_13 ?_
    refine lv_goto hx hb d_M_writes_14 (tgt := 18) (by decide) ?_
    refine pf_M_114 hx hb hT hown hK hP hD hS 0 rfl (Nat.le_of_ble_eq_true rfl) d_M_writes_18 (fun H locs hP hD hS => ?_)
    have hP : va_P D CC (wM tk h ad (mup g 5 0 (nI (f - 1))) la ++ tl) H := hP
    have hD : va_D A (wM tk h ad (mup g 5 0 (nI (f - 1))) la ++ tl) := hD
    refine lv_aload_n hx hb d_M_writes_21 rfl (lv_at hl 0 rfl) ?_
    refine gf_M_114 (v := .int (nI (f - 1))) hx hb hT hown hK hP 0 rfl rfl d_M_writes_22 ?_
    refine st_if_eq hx hb (by omega) d_M_writes_25 (tgt := 32) (by decide) (fun hc25 => ?_) (fun hc25 => ?_)
    · skip
      refine lv_iconst (v := nI 0) hx hb d_M_writes_32 (by decide) ?_
      refine lv_istore_n (lv' := [(1, .int (nI 0)), (0, .ref h)]) hx hb d_M_writes_33 rfl hl (by decide) rfl (fun ls hl => ?_)
      refine lv_aload_n hx hb d_M_writes_34 rfl (lv_at hl 1 rfl) ?_
      refine lv_aload_n hx hb d_M_writes_35 rfl (lv_at hl 1 rfl) ?_
      refine gf_M_114 (v := .int (nI (f - 1))) hx hb hT hown hK hP 0 rfl rfl d_M_writes_36 ?_
      refine lv_iconst (v := nI 1) hx hb d_M_writes_39 (by decide) ?_
      refine st_icmp_ge hx hb (by omega) (by omega) d_M_writes_40 (tgt := 47) (by decide) (fun hc40 => ?_) (fun hc40 => ?_)
      · skip
        refine lv_aload_n hx hb d_M_writes_47 rfl (lv_at hl 1 rfl) ?_
        refine gf_M_114 (v := .int (nI (f - 1))) hx hb hT hown hK hP 0 rfl rfl d_M_writes_48 ?_
        refine pf_M_114 hx hb hT hown hK hP hD hS 0 rfl (Nat.le_of_ble_eq_true rfl) d_M_writes_51 (fun H locs hP hD hS => ?_)
        have hP : va_P D CC (wM tk h ad (mup (mup g 5 0 (nI (f - 1))) 5 0 (nI (f - 1))) la ++ tl) H := hP
        have hD : va_D A (wM tk h ad (mup (mup g 5 0 (nI (f - 1))) 5 0 (nI (f - 1))) la ++ tl) := hD
        refine lv_iload_n hx hb d_M_writes_54 rfl (lv_at hl 0 rfl) ?_
        exact k_zret (v := nI 0) hQ hx hb hr hlk hK hP hD hS () (by rw [mup_mup, show nI (wr f).2 = nI (f - 1) from congrArg nI (by unfold wr; split <;> simp <;> omega)]) (by decide) (by unfold wrZ; rw [if_neg (by unfold wr; split <;> simp <;> omega)]) d_M_writes_55
      · skip
        refine lv_iconst (v := nI 0) hx hb d_M_writes_43 (by decide) ?_
        refine lv_goto hx hb d_M_writes_44 (tgt := 51) (by decide) ?_
        refine pf_M_114 hx hb hT hown hK hP hD hS 0 rfl (Nat.le_of_ble_eq_true rfl) d_M_writes_51 (fun H locs hP hD hS => ?_)
        have hP : va_P D CC (wM tk h ad (mup (mup g 5 0 (nI (f - 1))) 5 0 (nI 0)) la ++ tl) H := hP
        have hD : va_D A (wM tk h ad (mup (mup g 5 0 (nI (f - 1))) 5 0 (nI 0)) la ++ tl) := hD
        refine lv_iload_n hx hb d_M_writes_54 rfl (lv_at hl 0 rfl) ?_
        exact k_zret (v := nI 0) hQ hx hb hr hlk hK hP hD hS () (by rw [mup_mup, show nI (wr f).2 = nI 0 from congrArg nI (by unfold wr; split <;> simp <;> omega)]) (by decide) (by unfold wrZ; rw [if_neg (by unfold wr; split <;> simp <;> omega)]) d_M_writes_55
    · skip
      refine lv_iconst (v := nI 1) hx hb d_M_writes_28 (by decide) ?_
      refine lv_goto hx hb d_M_writes_29 (tgt := 33) (by decide) ?_
      refine lv_istore_n (lv' := [(1, .int (nI 1)), (0, .ref h)]) hx hb d_M_writes_33 rfl hl (by decide) rfl (fun ls hl => ?_)
      refine lv_aload_n hx hb d_M_writes_34 rfl (lv_at hl 1 rfl) ?_
      refine lv_aload_n hx hb d_M_writes_35 rfl (lv_at hl 1 rfl) ?_
      refine gf_M_114 (v := .int (nI (f - 1))) hx hb hT hown hK hP 0 rfl rfl d_M_writes_36 ?_
      refine lv_iconst (v := nI 1) hx hb d_M_writes_39 (by decide) ?_
      refine st_icmp_ge hx hb (by omega) (by omega) d_M_writes_40 (tgt := 47) (by decide) (fun hc40 => ?_) (fun hc40 => ?_)
      · skip
        refine lv_aload_n hx hb d_M_writes_47 rfl (lv_at hl 1 rfl) ?_
        refine gf_M_114 (v := .int (nI (f - 1))) hx hb hT hown hK hP 0 rfl rfl d_M_writes_48 ?_
        refine pf_M_114 hx hb hT hown hK hP hD hS 0 rfl (Nat.le_of_ble_eq_true rfl) d_M_writes_51 (fun H locs hP hD hS => ?_)
        have hP : va_P D CC (wM tk h ad (mup (mup g 5 0 (nI (f - 1))) 5 0 (nI (f - 1))) la ++ tl) H := hP
        have hD : va_D A (wM tk h ad (mup (mup g 5 0 (nI (f - 1))) 5 0 (nI (f - 1))) la ++ tl) := hD
        refine lv_iload_n hx hb d_M_writes_54 rfl (lv_at hl 0 rfl) ?_
        exact k_zret (v := nI 1) hQ hx hb hr hlk hK hP hD hS () (by rw [mup_mup, show nI (wr f).2 = nI (f - 1) from congrArg nI (by unfold wr; split <;> simp <;> omega)]) (by decide) (by unfold wrZ; rw [if_pos (by unfold wr; split <;> simp <;> omega)]) d_M_writes_55
      · skip
        refine lv_iconst (v := nI 0) hx hb d_M_writes_43 (by decide) ?_
        refine lv_goto hx hb d_M_writes_44 (tgt := 51) (by decide) ?_
        refine pf_M_114 hx hb hT hown hK hP hD hS 0 rfl (Nat.le_of_ble_eq_true rfl) d_M_writes_51 (fun H locs hP hD hS => ?_)
        have hP : va_P D CC (wM tk h ad (mup (mup g 5 0 (nI (f - 1))) 5 0 (nI 0)) la ++ tl) H := hP
        have hD : va_D A (wM tk h ad (mup (mup g 5 0 (nI (f - 1))) 5 0 (nI 0)) la ++ tl) := hD
        refine lv_iload_n hx hb d_M_writes_54 rfl (lv_at hl 0 rfl) ?_
        exact k_zret (v := nI 1) hQ hx hb hr hlk hK hP hD hS () (by rw [mup_mup, show nI (wr f).2 = nI 0 from congrArg nI (by unfold wr; split <;> simp <;> omega)]) (by decide) (by unfold wrZ; rw [if_pos (by unfold wr; split <;> simp <;> omega)]) d_M_writes_55

set_option maxHeartbeats 4000000 in
set_option maxRecDepth 100000 in
theorem c_M_chunks (l : Launch) (D : va_G) (tk : Nat → ClassId) (sz : Nat) (h : Nat) (ad : Nat → Nat) (g : Nat → Nat → Int32) (la : Nat → Int64) (tl : va_W)  : Met l y_M_chunks w_M_chunks ({ frames := 0, cells := 0, slots := 0, locals := 0 }) (va_Pc [.ref h] (k_pre D (TY tk) sz (wM tk h ad g la ++ tl))) (va_Qi (fun (r : Int32) (_ : Unit) => r = g 6 0) (fun u t => k_at D (TY tk) (va_A (wM tk h ad g la ++ tl) sz) ((fun _ => wM tk h ad (mup g 0 0 (nI 0)) la ++ tl) u) t) (va_A (wM tk h ad g la ++ tl) sz)) 0 0 (va_A (wM tk h ad g la ++ tl) sz) := by
  refine k_ofW (fun A => va_Qi (fun (r : Int32) (_ : Unit) => r = g 6 0) (fun u t => k_at D (TY tk) A ((fun _ => wM tk h ad (mup g 0 0 (nI 0)) la ++ tl) u) t) A) (by decide) (Nat.le_of_ble_eq_true rfl) ?_
  intro p e s m args below meth c Q A ls hQ hx hb hr hlk hin hts hT hown hml hnw hP hK hD hA hsz hl
  have hS : va_S A s.heap s.heap [] := va_S.rf
  have hc0 : 0 + 0 ≤ 0 ∧ 0 + 0 ≤ 0 := ⟨by decide, by decide⟩
  have hl : lv_has ls 1 [(0, .ref h)] := hl
  have hP : va_P D CC (wM tk h ad g la ++ tl) s.heap := hP
  have hK : va_K D CC (TY tk) s := hK
  refine lv_aload_n hx hb d_M_chunks_0 rfl (lv_at hl 0 rfl) ?_
  refine lv_iconst (v := nI 0) hx hb d_M_chunks_1 (by decide) ?_
  refine pf_M_73 hx hb hT hown hK hP hD hS 0 rfl (Nat.le_of_ble_eq_true rfl) d_M_chunks_2 (fun H locs hP hD hS => ?_)
  have hP : va_P D CC (wM tk h ad (mup g 0 0 (nI 0)) la ++ tl) H := hP
  have hD : va_D A (wM tk h ad (mup g 0 0 (nI 0)) la ++ tl) := hD
  refine lv_aload_n hx hb d_M_chunks_5 rfl (lv_at hl 0 rfl) ?_
  refine gf_M_111 (v := .int (g 6 0)) hx hb hT hown hK hP 0 rfl rfl d_M_chunks_6 ?_
  exact k_iret (v := g 6 0) hQ hx hb hr hlk hK hP hD hS () rfl rfl d_M_chunks_9

set_option maxHeartbeats 4000000 in
set_option maxRecDepth 100000 in
theorem c_M_versions (l : Launch) (D : va_G) (tk : Nat → ClassId) (sz : Nat) (h : Nat) (ad : Nat → Nat) (g : Nat → Nat → Int32) (la : Nat → Int64) (tl : va_W)  : Met l y_M_versions w_M_versions ({ frames := 0, cells := 0, slots := 0, locals := 0 }) (va_Pc [.ref h] (k_pre D (TY tk) sz (wM tk h ad g la ++ tl))) (va_Qi (fun (r : Int32) (_ : Unit) => r = g 3 0) (fun u t => k_at D (TY tk) (va_A (wM tk h ad g la ++ tl) sz) ((fun _ => wM tk h ad (mup g 0 0 (nI 0)) la ++ tl) u) t) (va_A (wM tk h ad g la ++ tl) sz)) 0 0 (va_A (wM tk h ad g la ++ tl) sz) := by
  refine k_ofW (fun A => va_Qi (fun (r : Int32) (_ : Unit) => r = g 3 0) (fun u t => k_at D (TY tk) A ((fun _ => wM tk h ad (mup g 0 0 (nI 0)) la ++ tl) u) t) A) (by decide) (Nat.le_of_ble_eq_true rfl) ?_
  intro p e s m args below meth c Q A ls hQ hx hb hr hlk hin hts hT hown hml hnw hP hK hD hA hsz hl
  have hS : va_S A s.heap s.heap [] := va_S.rf
  have hc0 : 0 + 0 ≤ 0 ∧ 0 + 0 ≤ 0 := ⟨by decide, by decide⟩
  have hl : lv_has ls 1 [(0, .ref h)] := hl
  have hP : va_P D CC (wM tk h ad g la ++ tl) s.heap := hP
  have hK : va_K D CC (TY tk) s := hK
  refine lv_aload_n hx hb d_M_versions_0 rfl (lv_at hl 0 rfl) ?_
  refine lv_iconst (v := nI 0) hx hb d_M_versions_1 (by decide) ?_
  refine pf_M_73 hx hb hT hown hK hP hD hS 0 rfl (Nat.le_of_ble_eq_true rfl) d_M_versions_2 (fun H locs hP hD hS => ?_)
  have hP : va_P D CC (wM tk h ad (mup g 0 0 (nI 0)) la ++ tl) H := hP
  have hD : va_D A (wM tk h ad (mup g 0 0 (nI 0)) la ++ tl) := hD
  refine lv_aload_n hx hb d_M_versions_5 rfl (lv_at hl 0 rfl) ?_
  refine gf_M_69 (v := .int (g 3 0)) hx hb hT hown hK hP 0 rfl rfl d_M_versions_6 ?_
  exact k_iret (v := g 3 0) hQ hx hb hr hlk hK hP hD hS () rfl rfl d_M_versions_9

set_option maxHeartbeats 4000000 in
set_option maxRecDepth 100000 in
theorem c_M_shown (l : Launch) (D : va_G) (tk : Nat → ClassId) (sz : Nat) (h : Nat) (ad : Nat → Nat) (g : Nat → Nat → Int32) (la : Nat → Int64) (tl : va_W)  : Met l y_M_shown w_M_shown ({ frames := 0, cells := 0, slots := 0, locals := 0 }) (va_Pc [.ref h] (k_pre D (TY tk) sz (wM tk h ad g la ++ tl))) (va_Qi (fun (r : Int32) (_ : Unit) => r = g 28 0) (fun u t => k_at D (TY tk) (va_A (wM tk h ad g la ++ tl) sz) ((fun _ => wM tk h ad (mup g 0 0 (nI 0)) la ++ tl) u) t) (va_A (wM tk h ad g la ++ tl) sz)) 0 0 (va_A (wM tk h ad g la ++ tl) sz) := by
  refine k_ofW (fun A => va_Qi (fun (r : Int32) (_ : Unit) => r = g 28 0) (fun u t => k_at D (TY tk) A ((fun _ => wM tk h ad (mup g 0 0 (nI 0)) la ++ tl) u) t) A) (by decide) (Nat.le_of_ble_eq_true rfl) ?_
  intro p e s m args below meth c Q A ls hQ hx hb hr hlk hin hts hT hown hml hnw hP hK hD hA hsz hl
  have hS : va_S A s.heap s.heap [] := va_S.rf
  have hc0 : 0 + 0 ≤ 0 ∧ 0 + 0 ≤ 0 := ⟨by decide, by decide⟩
  have hl : lv_has ls 1 [(0, .ref h)] := hl
  have hP : va_P D CC (wM tk h ad g la ++ tl) s.heap := hP
  have hK : va_K D CC (TY tk) s := hK
  refine lv_aload_n hx hb d_M_shown_0 rfl (lv_at hl 0 rfl) ?_
  refine lv_iconst (v := nI 0) hx hb d_M_shown_1 (by decide) ?_
  refine pf_M_73 hx hb hT hown hK hP hD hS 0 rfl (Nat.le_of_ble_eq_true rfl) d_M_shown_2 (fun H locs hP hD hS => ?_)
  have hP : va_P D CC (wM tk h ad (mup g 0 0 (nI 0)) la ++ tl) H := hP
  have hD : va_D A (wM tk h ad (mup g 0 0 (nI 0)) la ++ tl) := hD
  refine lv_aload_n hx hb d_M_shown_5 rfl (lv_at hl 0 rfl) ?_
  refine gf_M_226 (v := .int (g 28 0)) hx hb hT hown hK hP 0 rfl rfl d_M_shown_6 ?_
  exact k_iret (v := g 28 0) hQ hx hb hr hlk hK hP hD hS () rfl rfl d_M_shown_9

set_option maxHeartbeats 4000000 in
set_option maxRecDepth 100000 in
theorem c_M_item (l : Launch) (D : va_G) (tk : Nat → ClassId) (sz : Nat) (h : Nat) (ad : Nat → Nat) (g : Nat → Nat → Int32) (la : Nat → Int64) (tl : va_W) (lv n k : Nat) (v : Int32) (hlv : lv < 8) (hn : n < 48) (hg : g 12 lv = nI n) : Met l y_M_item w_M_item ({ frames := 0, cells := 0, slots := 0, locals := 0 }) (va_Pc [.ref h, .int (nI lv), .int (nI k), .int v] (k_pre D (TY tk) sz (wM tk h ad g la ++ tl))) (va_Qv (fun (_ : Unit) => True) (fun u t => k_at D (TY tk) (va_A (wM tk h ad g la ++ tl) sz) ((fun _ => wM tk h ad (itM g lv n k v) la ++ tl) u) t) (va_A (wM tk h ad g la ++ tl) sz)) 0 0 (va_A (wM tk h ad g la ++ tl) sz) := by
  refine k_ofW (fun A => va_Qv (fun (_ : Unit) => True) (fun u t => k_at D (TY tk) A ((fun _ => wM tk h ad (itM g lv n k v) la ++ tl) u) t) A) (by decide) (Nat.le_of_ble_eq_true rfl) ?_
  intro p e s m args below meth c Q A ls hQ hx hb hr hlk hin hts hT hown hml hnw hP hK hD hA hsz hl
  have hS : va_S A s.heap s.heap [] := va_S.rf
  have hc0 : 0 + 0 ≤ 0 ∧ 0 + 0 ≤ 0 := ⟨by decide, by decide⟩
  have hl : lv_has ls 4 [(0, .ref h), (1, .int (nI lv)), (2, .int (nI k)), (3, .int v)] := hl
  have hP : va_P D CC (wM tk h ad g la ++ tl) s.heap := hP
  have hK : va_K D CC (TY tk) s := hK
  refine lv_aload_n hx hb d_M_item_0 rfl (lv_at hl 0 rfl) ?_
  refine gf_M_33 (v := .ref (ad 13)) hx hb hT hown hK hP 0 rfl rfl d_M_item_1 ?_
  refine lv_bipush (v := nI 48) hx hb d_M_item_4 (by decide) ?_
  refine lv_iload_n hx hb d_M_item_6 rfl (lv_at hl 1 rfl) ?_
  refine st_imul hx hb d_M_item_7 ?_
  refine lv_aload_n hx hb d_M_item_8 rfl (lv_at hl 0 rfl) ?_
  refine gf_M_30 (v := .ref (ad 12)) hx hb hT hown hK hP 0 rfl rfl d_M_item_9 ?_
  refine lv_iload_n hx hb d_M_item_12 rfl (lv_at hl 1 rfl) ?_
  refine st_iald hx hb hK hP 7 0 rfl rfl (by omega) (by decide) d_M_item_13 ?_
  refine st_top (show g 12 lv = nI n from hg) ?_
  refine st_iadd hx hb d_M_item_14 ?_
  refine lv_iload_n hx hb d_M_item_15 rfl (lv_at hl 2 rfl) ?_
  refine st_iast hx hb hK hP hD hS 8 0 rfl rfl (by omega) (by decide) d_M_item_16 (fun H locs hP hD hS => ?_)
  have hP : va_P D CC (wM tk h ad (mup g 13 ((48 * lv) + n) (nI k)) la ++ tl) H := hP
  have hD : va_D A (wM tk h ad (mup g 13 ((48 * lv) + n) (nI k)) la ++ tl) := hD
  refine lv_aload_n hx hb d_M_item_17 rfl (lv_at hl 0 rfl) ?_
  refine gf_M_36 (v := .ref (ad 14)) hx hb hT hown hK hP 0 rfl rfl d_M_item_18 ?_
  refine lv_bipush (v := nI 48) hx hb d_M_item_21 (by decide) ?_
  refine lv_iload_n hx hb d_M_item_23 rfl (lv_at hl 1 rfl) ?_
  refine st_imul hx hb d_M_item_24 ?_
  refine lv_aload_n hx hb d_M_item_25 rfl (lv_at hl 0 rfl) ?_
  refine gf_M_30 (v := .ref (ad 12)) hx hb hT hown hK hP 0 rfl rfl d_M_item_26 ?_
  refine lv_iload_n hx hb d_M_item_29 rfl (lv_at hl 1 rfl) ?_
  refine st_iald hx hb hK hP 7 0 rfl rfl (by omega) (by decide) d_M_item_30 ?_
  refine st_top (show g 12 lv = nI n from hg) ?_
  refine st_iadd hx hb d_M_item_31 ?_
  refine lv_iload_n hx hb d_M_item_32 rfl (lv_at hl 3 rfl) ?_
  refine st_iast hx hb hK hP hD hS 9 0 rfl rfl (by omega) (by decide) d_M_item_33 (fun H locs hP hD hS => ?_)
  have hP : va_P D CC (wM tk h ad (mup (mup g 13 ((48 * lv) + n) (nI k)) 14 ((48 * lv) + n) v) la ++ tl) H := hP
  have hD : va_D A (wM tk h ad (mup (mup g 13 ((48 * lv) + n) (nI k)) 14 ((48 * lv) + n) v) la ++ tl) := hD
  refine lv_aload_n hx hb d_M_item_34 rfl (lv_at hl 0 rfl) ?_
  refine gf_M_30 (v := .ref (ad 12)) hx hb hT hown hK hP 0 rfl rfl d_M_item_35 ?_
  refine lv_iload_n hx hb d_M_item_38 rfl (lv_at hl 1 rfl) ?_
  refine lv_dup2_11 hx hb d_M_item_39 rfl rfl ?_
  refine st_iald hx hb hK hP 7 0 rfl rfl (by omega) (by decide) d_M_item_40 ?_
  refine st_top (show g 12 lv = nI n from hg) ?_
  refine lv_iconst (v := nI 1) hx hb d_M_item_41 (by decide) ?_
  refine st_iadd hx hb d_M_item_42 ?_
  refine st_iast hx hb hK hP hD hS 7 0 rfl rfl (by omega) (by decide) d_M_item_43 (fun H locs hP hD hS => ?_)
  have hP : va_P D CC (wM tk h ad (mup (mup (mup g 13 ((48 * lv) + n) (nI k)) 14 ((48 * lv) + n) v) 12 lv (nI (n + 1))) la ++ tl) H := hP
  have hD : va_D A (wM tk h ad (mup (mup (mup g 13 ((48 * lv) + n) (nI k)) 14 ((48 * lv) + n) v) 12 lv (nI (n + 1))) la ++ tl) := hD
  exact k_vret hQ hx hb hr hlk hK hP hD hS () rfl trivial d_M_item_44

set_option maxHeartbeats 4000000 in
set_option maxRecDepth 100000 in
theorem c_M_store (l : Launch) (D : va_G) (tk : Nat → ClassId) (sz : Nat) (h : Nat) (ad : Nat → Nat) (g : Nat → Nat → Int32) (la : Nat → Int64) (tl : va_W) (lv hi ch mp : Nat) (low : Int32) (hch : ch < 3400) (hg : g 6 0 = nI ch) (hm : g 8 0 = nI mp) : Met l y_M_store w_M_store ({ frames := 0, cells := 0, slots := 0, locals := 0 }) (va_Pc [.ref h, .int (nI lv), .int low, .int (nI hi)] (k_pre D (TY tk) sz (wM tk h ad g la ++ tl))) (va_Qv (fun (_ : Unit) => True) (fun u t => k_at D (TY tk) (va_A (wM tk h ad g la ++ tl) sz) ((fun _ => wM tk h ad (mup (mup g 7 ch (chE lv mp low hi)) 6 0 (nI (ch + 1))) la ++ tl) u) t) (va_A (wM tk h ad g la ++ tl) sz)) 0 0 (va_A (wM tk h ad g la ++ tl) sz) := by
  refine k_ofW (fun A => va_Qv (fun (_ : Unit) => True) (fun u t => k_at D (TY tk) A ((fun _ => wM tk h ad (mup (mup g 7 ch (chE lv mp low hi)) 6 0 (nI (ch + 1))) la ++ tl) u) t) A) (by decide) (Nat.le_of_ble_eq_true rfl) ?_
  intro p e s m args below meth c Q A ls hQ hx hb hr hlk hin hts hT hown hml hnw hP hK hD hA hsz hl
  have hS : va_S A s.heap s.heap [] := va_S.rf
  have hc0 : 0 + 0 ≤ 0 ∧ 0 + 0 ≤ 0 := ⟨by decide, by decide⟩
  have hl : lv_has ls 4 [(0, .ref h), (1, .int (nI lv)), (2, .int low), (3, .int (nI hi))] := hl
  have hP : va_P D CC (wM tk h ad g la ++ tl) s.heap := hP
  have hK : va_K D CC (TY tk) s := hK
  refine lv_aload_n hx hb d_M_store_0 rfl (lv_at hl 0 rfl) ?_
  refine gf_M_20 (v := .ref (ad 7)) hx hb hT hown hK hP 0 rfl rfl d_M_store_1 ?_
  refine lv_aload_n hx hb d_M_store_4 rfl (lv_at hl 0 rfl) ?_
  refine gf_M_111 (v := .int (g 6 0)) hx hb hT hown hK hP 0 rfl rfl d_M_store_5 ?_
  refine st_top (show g 6 0 = nI ch from hg) ?_
  refine lv_iload_n hx hb d_M_store_8 rfl (lv_at hl 1 rfl) ?_
  refine lv_aload_n hx hb d_M_store_9 rfl (lv_at hl 0 rfl) ?_
  refine gf_M_117 (v := .int (g 8 0)) hx hb hT hown hK hP 0 rfl rfl d_M_store_10 ?_
  refine st_top (show g 8 0 = nI mp from hm) ?_
  refine lv_iconst (v := nI 3) hx hb d_M_store_13 (by decide) ?_
  refine lv_ishl hx hb d_M_store_14 ?_
  refine lv_ior hx hb d_M_store_15 ?_
  refine lv_iload_n hx hb d_M_store_16 rfl (lv_at hl 2 rfl) ?_
  refine lv_iconst (v := nI 1) hx hb d_M_store_17 (by decide) ?_
  refine lv_iadd hx hb d_M_store_18 ?_
  refine lv_bipush (v := nI 12) hx hb d_M_store_19 (by decide) ?_
  refine lv_ishl hx hb d_M_store_21 ?_
  refine lv_ior hx hb d_M_store_22 ?_
  refine lv_iload_n hx hb d_M_store_23 rfl (lv_at hl 3 rfl) ?_
  refine lv_bipush (v := nI 18) hx hb d_M_store_24 (by decide) ?_
  refine lv_ishl hx hb d_M_store_26 ?_
  refine lv_ior hx hb d_M_store_27 ?_
  refine st_iast hx hb hK hP hD hS 4 0 rfl rfl (by omega) (by decide) d_M_store_28 (fun H locs hP hD hS => ?_)
  have hP : va_P D CC (wM tk h ad (mup g 7 ch ((((nI lv) ||| ((nI mp) <<< ((nI 3) &&& 31))) ||| ((low + (nI 1)) <<< ((nI 12) &&& 31))) ||| ((nI hi) <<< ((nI 18) &&& 31)))) la ++ tl) H := hP
  have hD : va_D A (wM tk h ad (mup g 7 ch ((((nI lv) ||| ((nI mp) <<< ((nI 3) &&& 31))) ||| ((low + (nI 1)) <<< ((nI 12) &&& 31))) ||| ((nI hi) <<< ((nI 18) &&& 31)))) la ++ tl) := hD
  refine lv_aload_n hx hb d_M_store_29 rfl (lv_at hl 0 rfl) ?_
  refine lv_dup hx hb d_M_store_30 rfl ?_
  refine gf_M_111 (v := .int (g 6 0)) hx hb hT hown hK hP 0 rfl rfl d_M_store_31 ?_
  refine st_top (show g 6 0 = nI ch from hg) ?_
  refine lv_iconst (v := nI 1) hx hb d_M_store_34 (by decide) ?_
  refine st_iadd hx hb d_M_store_35 ?_
  refine pf_M_111 hx hb hT hown hK hP hD hS 0 rfl (Nat.le_of_ble_eq_true rfl) d_M_store_36 (fun H locs hP hD hS => ?_)
  have hP : va_P D CC (wM tk h ad (mup (mup g 7 ch ((((nI lv) ||| ((nI mp) <<< ((nI 3) &&& 31))) ||| ((low + (nI 1)) <<< ((nI 12) &&& 31))) ||| ((nI hi) <<< ((nI 18) &&& 31)))) 6 0 (nI (ch + 1))) la ++ tl) H := hP
  have hD : va_D A (wM tk h ad (mup (mup g 7 ch ((((nI lv) ||| ((nI mp) <<< ((nI 3) &&& 31))) ||| ((low + (nI 1)) <<< ((nI 12) &&& 31))) ||| ((nI hi) <<< ((nI 18) &&& 31)))) 6 0 (nI (ch + 1))) la ++ tl) := hD
  exact k_vret hQ hx hb hr hlk hK hP hD hS () rfl trivial d_M_store_39

set_option maxHeartbeats 4000000 in
set_option maxRecDepth 100000 in
theorem c_M_out (l : Launch) (D : va_G) (tk : Nat → ClassId) (sz : Nat) (h : Nat) (ad : Nat → Nat) (g : Nat → Nat → Int32) (la : Nat → Int64) (tl : va_W) (n : Nat) (b : Int32) (hn : n < 420) (hg : g 21 0 = nI n) : Met l y_M_out w_M_out ({ frames := 0, cells := 0, slots := 0, locals := 0 }) (va_Pc [.ref h, .int b] (k_pre D (TY tk) sz (wM tk h ad g la ++ tl))) (va_Qv (fun (_ : Unit) => True) (fun u t => k_at D (TY tk) (va_A (wM tk h ad g la ++ tl) sz) ((fun _ => wM tk h ad (ouM g n b) la ++ tl) u) t) (va_A (wM tk h ad g la ++ tl) sz)) 0 0 (va_A (wM tk h ad g la ++ tl) sz) := by
  refine k_ofW (fun A => va_Qv (fun (_ : Unit) => True) (fun u t => k_at D (TY tk) A ((fun _ => wM tk h ad (ouM g n b) la ++ tl) u) t) A) (by decide) (Nat.le_of_ble_eq_true rfl) ?_
  intro p e s m args below meth c Q A ls hQ hx hb hr hlk hin hts hT hown hml hnw hP hK hD hA hsz hl
  have hS : va_S A s.heap s.heap [] := va_S.rf
  have hc0 : 0 + 0 ≤ 0 ∧ 0 + 0 ≤ 0 := ⟨by decide, by decide⟩
  have hl : lv_has ls 2 [(0, .ref h), (1, .int b)] := hl
  have hP : va_P D CC (wM tk h ad g la ++ tl) s.heap := hP
  have hK : va_K D CC (TY tk) s := hK
  refine lv_aload_n hx hb d_M_out_0 rfl (lv_at hl 0 rfl) ?_
  refine gf_M_54 (v := .ref (ad 22)) hx hb hT hown hK hP 0 rfl rfl d_M_out_1 ?_
  refine lv_aload_n hx hb d_M_out_4 rfl (lv_at hl 0 rfl) ?_
  refine gf_M_165 (v := .int (g 21 0)) hx hb hT hown hK hP 0 rfl rfl d_M_out_5 ?_
  refine st_top (show g 21 0 = nI n from hg) ?_
  refine lv_iload_n hx hb d_M_out_8 rfl (lv_at hl 1 rfl) ?_
  refine lv_sipush (v := nI 255) hx hb d_M_out_9 (by decide) ?_
  refine lv_iand hx hb d_M_out_12 ?_
  refine st_iast hx hb hK hP hD hS 15 0 rfl rfl (by omega) (by decide) d_M_out_13 (fun H locs hP hD hS => ?_)
  have hP : va_P D CC (wM tk h ad (mup g 22 n (b &&& (nI 255))) la ++ tl) H := hP
  have hD : va_D A (wM tk h ad (mup g 22 n (b &&& (nI 255))) la ++ tl) := hD
  refine lv_aload_n hx hb d_M_out_14 rfl (lv_at hl 0 rfl) ?_
  refine lv_dup hx hb d_M_out_15 rfl ?_
  refine gf_M_165 (v := .int (g 21 0)) hx hb hT hown hK hP 0 rfl rfl d_M_out_16 ?_
  refine st_top (show g 21 0 = nI n from hg) ?_
  refine lv_iconst (v := nI 1) hx hb d_M_out_19 (by decide) ?_
  refine st_iadd hx hb d_M_out_20 ?_
  refine pf_M_165 hx hb hT hown hK hP hD hS 0 rfl (Nat.le_of_ble_eq_true rfl) d_M_out_21 (fun H locs hP hD hS => ?_)
  have hP : va_P D CC (wM tk h ad (mup (mup g 22 n (b &&& (nI 255))) 21 0 (nI (n + 1))) la ++ tl) H := hP
  have hD : va_D A (wM tk h ad (mup (mup g 22 n (b &&& (nI 255))) 21 0 (nI (n + 1))) la ++ tl) := hD
  exact k_vret hQ hx hb hr hlk hK hP hD hS () rfl trivial d_M_out_24

set_option maxHeartbeats 4000000 in
set_option maxRecDepth 100000 in
theorem c_M_side (l : Launch) (D : va_G) (tk : Nat → ClassId) (sz : Nat) (h : Nat) (ad : Nat → Nat) (g : Nat → Nat → Int32) (la : Nat → Int64) (tl : va_W) (b f k : Nat) (z : Int32) (hzb : vp_nar .boolean z = z) (hbb : b < 8) (hg : g 17 0 = nI b) : Met l y_M_side w_M_side ({ frames := 0, cells := 0, slots := 0, locals := 0 }) (va_Pc [.ref h, .int (nI f), .int (nI k), .int z] (k_pre D (TY tk) sz (wM tk h ad g la ++ tl))) (va_Qv (fun (_ : Unit) => True) (fun u t => k_at D (TY tk) (va_A (wM tk h ad g la ++ tl) sz) ((fun _ => wM tk h ad (sdM g b f k z) la ++ tl) u) t) (va_A (wM tk h ad g la ++ tl) sz)) 0 0 (va_A (wM tk h ad g la ++ tl) sz) := by
  refine k_ofW (fun A => va_Qv (fun (_ : Unit) => True) (fun u t => k_at D (TY tk) A ((fun _ => wM tk h ad (sdM g b f k z) la ++ tl) u) t) A) (by decide) (Nat.le_of_ble_eq_true rfl) ?_
  intro p e s m args below meth c Q A ls hQ hx hb hr hlk hin hts hT hown hml hnw hP hK hD hA hsz hl
  have hS : va_S A s.heap s.heap [] := va_S.rf
  have hc0 : 0 + 0 ≤ 0 ∧ 0 + 0 ≤ 0 := ⟨by decide, by decide⟩
  have hl : lv_has ls 4 [(0, .ref h), (1, .int (nI f)), (2, .int (nI k)), (3, .int z)] := hl
  have hP : va_P D CC (wM tk h ad g la ++ tl) s.heap := hP
  have hK : va_K D CC (TY tk) s := hK
  refine lv_aload_n hx hb d_M_side_0 rfl (lv_at hl 0 rfl) ?_
  refine gf_M_45 (v := .ref (ad 18)) hx hb hT hown hK hP 0 rfl rfl d_M_side_1 ?_
  refine lv_aload_n hx hb d_M_side_4 rfl (lv_at hl 0 rfl) ?_
  refine gf_M_155 (v := .int (g 17 0)) hx hb hT hown hK hP 0 rfl rfl d_M_side_5 ?_
  refine st_top (show g 17 0 = nI b from hg) ?_
  refine lv_iload_n hx hb d_M_side_8 rfl (lv_at hl 1 rfl) ?_
  refine st_iast hx hb hK hP hD hS 12 0 rfl rfl (by omega) (by decide) d_M_side_9 (fun H locs hP hD hS => ?_)
  have hP : va_P D CC (wM tk h ad (mup g 18 b (nI f)) la ++ tl) H := hP
  have hD : va_D A (wM tk h ad (mup g 18 b (nI f)) la ++ tl) := hD
  refine lv_aload_n hx hb d_M_side_10 rfl (lv_at hl 0 rfl) ?_
  refine gf_M_48 (v := .ref (ad 19)) hx hb hT hown hK hP 0 rfl rfl d_M_side_11 ?_
  refine lv_aload_n hx hb d_M_side_14 rfl (lv_at hl 0 rfl) ?_
  refine gf_M_155 (v := .int (g 17 0)) hx hb hT hown hK hP 0 rfl rfl d_M_side_15 ?_
  refine st_top (show g 17 0 = nI b from hg) ?_
  refine lv_iload_n hx hb d_M_side_18 rfl (lv_at hl 2 rfl) ?_
  refine st_iast hx hb hK hP hD hS 13 0 rfl rfl (by omega) (by decide) d_M_side_19 (fun H locs hP hD hS => ?_)
  have hP : va_P D CC (wM tk h ad (mup (mup g 18 b (nI f)) 19 b (nI k)) la ++ tl) H := hP
  have hD : va_D A (wM tk h ad (mup (mup g 18 b (nI f)) 19 b (nI k)) la ++ tl) := hD
  refine lv_aload_n hx hb d_M_side_20 rfl (lv_at hl 0 rfl) ?_
  refine gf_M_51 (v := .ref (ad 20)) hx hb hT hown hK hP 0 rfl rfl d_M_side_21 ?_
  refine lv_aload_n hx hb d_M_side_24 rfl (lv_at hl 0 rfl) ?_
  refine gf_M_155 (v := .int (g 17 0)) hx hb hT hown hK hP 0 rfl rfl d_M_side_25 ?_
  refine st_top (show g 17 0 = nI b from hg) ?_
  refine lv_iload_n hx hb d_M_side_28 rfl (lv_at hl 3 rfl) ?_
  refine st_zast hx hb hK hP hD hS 14 1 rfl rfl hzb (by omega) (by decide) d_M_side_29 (fun H locs hP hD hS => ?_)
  have hP : va_P D CC (wM tk h ad (mup (mup (mup g 18 b (nI f)) 19 b (nI k)) 20 b z) la ++ tl) H := hP
  have hD : va_D A (wM tk h ad (mup (mup (mup g 18 b (nI f)) 19 b (nI k)) 20 b z) la ++ tl) := hD
  refine lv_aload_n hx hb d_M_side_30 rfl (lv_at hl 0 rfl) ?_
  refine lv_dup hx hb d_M_side_31 rfl ?_
  refine gf_M_155 (v := .int (g 17 0)) hx hb hT hown hK hP 0 rfl rfl d_M_side_32 ?_
  refine st_top (show g 17 0 = nI b from hg) ?_
  refine lv_iconst (v := nI 1) hx hb d_M_side_35 (by decide) ?_
  refine st_iadd hx hb d_M_side_36 ?_
  refine pf_M_155 hx hb hT hown hK hP hD hS 0 rfl (Nat.le_of_ble_eq_true rfl) d_M_side_37 (fun H locs hP hD hS => ?_)
  have hP : va_P D CC (wM tk h ad (mup (mup (mup (mup g 18 b (nI f)) 19 b (nI k)) 20 b z) 17 0 (nI (b + 1))) la ++ tl) H := hP
  have hD : va_D A (wM tk h ad (mup (mup (mup (mup g 18 b (nI f)) 19 b (nI k)) 20 b z) 17 0 (nI (b + 1))) la ++ tl) := hD
  exact k_vret hQ hx hb hr hlk hK hP hD hS () rfl trivial d_M_side_40

set_option maxHeartbeats 4000000 in
set_option maxRecDepth 100000 in
theorem c_M_outInt (l : Launch) (D : va_G) (tk : Nat → ClassId) (sz : Nat) (h : Nat) (ad : Nat → Nat) (g : Nat → Nat → Int32) (la : Nat → Int64) (tl : va_W) (n : Nat) (v : Int32) (hn : n + 3 < 420) (hg : g 21 0 = nI n) : Met l y_M_outInt w_M_outInt ({ frames := 1, cells := 0, slots := 0, locals := 21 }) (va_Pc [.ref h, .int v] (k_pre D (TY tk) sz (wM tk h ad g la ++ tl))) (va_Qv (fun (_ : Unit) => True) (fun u t => k_at D (TY tk) (va_A (wM tk h ad g la ++ tl) sz) ((fun _ => wM tk h ad (oiM g n v) la ++ tl) u) t) (va_A (wM tk h ad g la ++ tl) sz)) 0 0 (va_A (wM tk h ad g la ++ tl) sz) := by
  refine k_ofW (fun A => va_Qv (fun (_ : Unit) => True) (fun u t => k_at D (TY tk) A ((fun _ => wM tk h ad (oiM g n v) la ++ tl) u) t) A) (by decide) (Nat.le_of_ble_eq_true rfl) ?_
  intro p e s m args below meth c Q A ls hQ hx hb hr hlk hin hts hT hown hml hnw hP hK hD hA hsz hl
  have hS : va_S A s.heap s.heap [] := va_S.rf
  have hc0 : 0 + 0 ≤ 0 ∧ 0 + 0 ≤ 0 := ⟨by decide, by decide⟩
  have hl : lv_has ls 3 [(0, .ref h), (1, .int v)] := hl
  have hP : va_P D CC (wM tk h ad g la ++ tl) s.heap := hP
  have hK : va_K D CC (TY tk) s := hK
  refine lv_iconst (v := nI 3) hx hb d_M_outInt_0 (by decide) ?_
  refine lv_istore_n (lv' := [(2, .int (nI 3)), (0, .ref h), (1, .int v)]) hx hb d_M_outInt_1 rfl hl (by decide) rfl (fun ls hl => ?_)
  refine lv_iload_n hx hb d_M_outInt_2 rfl (lv_at hl 0 rfl) ?_
  refine st_if_lt hx hb (by omega) d_M_outInt_3 (tgt := 22) (by decide) (fun hc3 => (by exfalso; first | exact hc3 | omega)) (fun hc3 => ?_)
  refine lv_aload_n hx hb d_M_outInt_6 rfl (lv_at hl 1 rfl) ?_
  refine lv_iload_n hx hb d_M_outInt_7 rfl (lv_at hl 2 rfl) ?_
  refine lv_bipush (v := nI 8) hx hb d_M_outInt_8 (by decide) ?_
  refine lv_iload_n hx hb d_M_outInt_10 rfl (lv_at hl 0 rfl) ?_
  refine st_imul hx hb d_M_outInt_11 ?_
  refine lv_ishr hx hb d_M_outInt_12 ?_
  refine k_callv (va_runV (As := [.int (v >>> ((nI 24) &&& 31))]) (rest := []) ⟨hx, hb, hml, hown, hts⟩ (c_M_out l D tk s.heap.size h ad g la tl n (v >>> ((nI 24) &&& 31)) (by omega) hg) (cwV 1 hts (gV t_1168 t_1170 s_32 t_9 t_1171) rfl rfl rfl (by decide +kernel) ⟨Nat.le_of_ble_eq_true rfl, Nat.le_of_ble_eq_true rfl⟩) (k_preV hP hK hD hnw 0 rfl rfl) rfl rfl hl.1 rfl (lv_room (Nat.le_of_ble_eq_true rfl)) d_M_outInt_13 hc0) hD hS hA (fun _ H locs hp13 hP hD hK hS => ?_)
  have hP : va_P D CC (wM tk h ad (ouM g n (v >>> ((nI 24) &&& 31))) la ++ tl) H := hP
  have hD : va_D A (wM tk h ad (ouM g n (v >>> ((nI 24) &&& 31))) la ++ tl) := hD
  refine lv_iinc (k := 0) (v := nI 2) (lv' := [(2, .int (nI 2)), (0, .ref h), (1, .int v)]) hx hb d_M_outInt_16 hl rfl (by decide) (by decide) rfl (fun ls hl => ?_)
  refine lv_goto hx hb d_M_outInt_19 (tgt := 2) (by decide) ?_
  refine lv_iload_n hx hb d_M_outInt_2 rfl (lv_at hl 0 rfl) ?_
  refine st_if_lt hx hb (by omega) d_M_outInt_3 (tgt := 22) (by decide) (fun hc3 => (by exfalso; first | exact hc3 | omega)) (fun hc3 => ?_)
  refine lv_aload_n hx hb d_M_outInt_6 rfl (lv_at hl 1 rfl) ?_
  refine lv_iload_n hx hb d_M_outInt_7 rfl (lv_at hl 2 rfl) ?_
  refine lv_bipush (v := nI 8) hx hb d_M_outInt_8 (by decide) ?_
  refine lv_iload_n hx hb d_M_outInt_10 rfl (lv_at hl 0 rfl) ?_
  refine st_imul hx hb d_M_outInt_11 ?_
  refine lv_ishr hx hb d_M_outInt_12 ?_
  refine k_callv (va_runV (As := [.int (v >>> ((nI 16) &&& 31))]) (rest := []) ⟨hx, hb, hml, hown, hts⟩ (c_M_out l D tk H.size h ad (ouM g n (v >>> ((nI 24) &&& 31))) la tl (n + 1) (v >>> ((nI 16) &&& 31)) (by omega) rfl) (cwV 1 hts (gV t_1168 t_1170 s_32 t_9 t_1171) rfl rfl rfl (by decide +kernel) ⟨Nat.le_of_ble_eq_true rfl, Nat.le_of_ble_eq_true rfl⟩) (k_preV hP hK hD hnw 0 rfl rfl) rfl rfl hl.1 rfl (lv_room (Nat.le_of_ble_eq_true rfl)) d_M_outInt_13 hc0) hD hS hA (fun _ H locs hp13 hP hD hK hS => ?_)
  have hP : va_P D CC (wM tk h ad (ouM (ouM g n (v >>> ((nI 24) &&& 31))) (n + 1) (v >>> ((nI 16) &&& 31))) la ++ tl) H := hP
  have hD : va_D A (wM tk h ad (ouM (ouM g n (v >>> ((nI 24) &&& 31))) (n + 1) (v >>> ((nI 16) &&& 31))) la ++ tl) := hD
  refine lv_iinc (k := 0) (v := nI 1) (lv' := [(2, .int (nI 1)), (0, .ref h), (1, .int v)]) hx hb d_M_outInt_16 hl rfl (by decide) (by decide) rfl (fun ls hl => ?_)
  refine lv_goto hx hb d_M_outInt_19 (tgt := 2) (by decide) ?_
  refine lv_iload_n hx hb d_M_outInt_2 rfl (lv_at hl 0 rfl) ?_
  refine st_if_lt hx hb (by omega) d_M_outInt_3 (tgt := 22) (by decide) (fun hc3 => (by exfalso; first | exact hc3 | omega)) (fun hc3 => ?_)
  refine lv_aload_n hx hb d_M_outInt_6 rfl (lv_at hl 1 rfl) ?_
  refine lv_iload_n hx hb d_M_outInt_7 rfl (lv_at hl 2 rfl) ?_
  refine lv_bipush (v := nI 8) hx hb d_M_outInt_8 (by decide) ?_
  refine lv_iload_n hx hb d_M_outInt_10 rfl (lv_at hl 0 rfl) ?_
  refine st_imul hx hb d_M_outInt_11 ?_
  refine lv_ishr hx hb d_M_outInt_12 ?_
  refine k_callv (va_runV (As := [.int (v >>> ((nI 8) &&& 31))]) (rest := []) ⟨hx, hb, hml, hown, hts⟩ (c_M_out l D tk H.size h ad (ouM (ouM g n (v >>> ((nI 24) &&& 31))) (n + 1) (v >>> ((nI 16) &&& 31))) la tl ((n + 1) + 1) (v >>> ((nI 8) &&& 31)) (by omega) rfl) (cwV 1 hts (gV t_1168 t_1170 s_32 t_9 t_1171) rfl rfl rfl (by decide +kernel) ⟨Nat.le_of_ble_eq_true rfl, Nat.le_of_ble_eq_true rfl⟩) (k_preV hP hK hD hnw 0 rfl rfl) rfl rfl hl.1 rfl (lv_room (Nat.le_of_ble_eq_true rfl)) d_M_outInt_13 hc0) hD hS hA (fun _ H locs hp13 hP hD hK hS => ?_)
  have hP : va_P D CC (wM tk h ad (ouM (ouM (ouM g n (v >>> ((nI 24) &&& 31))) (n + 1) (v >>> ((nI 16) &&& 31))) ((n + 1) + 1) (v >>> ((nI 8) &&& 31))) la ++ tl) H := hP
  have hD : va_D A (wM tk h ad (ouM (ouM (ouM g n (v >>> ((nI 24) &&& 31))) (n + 1) (v >>> ((nI 16) &&& 31))) ((n + 1) + 1) (v >>> ((nI 8) &&& 31))) la ++ tl) := hD
  refine lv_iinc (k := 0) (v := nI 0) (lv' := [(2, .int (nI 0)), (0, .ref h), (1, .int v)]) hx hb d_M_outInt_16 hl rfl (by decide) (by decide) rfl (fun ls hl => ?_)
  refine lv_goto hx hb d_M_outInt_19 (tgt := 2) (by decide) ?_
  refine lv_iload_n hx hb d_M_outInt_2 rfl (lv_at hl 0 rfl) ?_
  refine st_if_lt hx hb (by omega) d_M_outInt_3 (tgt := 22) (by decide) (fun hc3 => (by exfalso; first | exact hc3 | omega)) (fun hc3 => ?_)
  refine lv_aload_n hx hb d_M_outInt_6 rfl (lv_at hl 1 rfl) ?_
  refine lv_iload_n hx hb d_M_outInt_7 rfl (lv_at hl 2 rfl) ?_
  refine lv_bipush (v := nI 8) hx hb d_M_outInt_8 (by decide) ?_
  refine lv_iload_n hx hb d_M_outInt_10 rfl (lv_at hl 0 rfl) ?_
  refine st_imul hx hb d_M_outInt_11 ?_
  refine lv_ishr hx hb d_M_outInt_12 ?_
  refine k_callv (va_runV (As := [.int (v >>> ((nI 0) &&& 31))]) (rest := []) ⟨hx, hb, hml, hown, hts⟩ (c_M_out l D tk H.size h ad (ouM (ouM (ouM g n (v >>> ((nI 24) &&& 31))) (n + 1) (v >>> ((nI 16) &&& 31))) ((n + 1) + 1) (v >>> ((nI 8) &&& 31))) la tl (((n + 1) + 1) + 1) (v >>> ((nI 0) &&& 31)) (by omega) rfl) (cwV 1 hts (gV t_1168 t_1170 s_32 t_9 t_1171) rfl rfl rfl (by decide +kernel) ⟨Nat.le_of_ble_eq_true rfl, Nat.le_of_ble_eq_true rfl⟩) (k_preV hP hK hD hnw 0 rfl rfl) rfl rfl hl.1 rfl (lv_room (Nat.le_of_ble_eq_true rfl)) d_M_outInt_13 hc0) hD hS hA (fun _ H locs hp13 hP hD hK hS => ?_)
  have hP : va_P D CC (wM tk h ad (ouM (ouM (ouM (ouM g n (v >>> ((nI 24) &&& 31))) (n + 1) (v >>> ((nI 16) &&& 31))) ((n + 1) + 1) (v >>> ((nI 8) &&& 31))) (((n + 1) + 1) + 1) (v >>> ((nI 0) &&& 31))) la ++ tl) H := hP
  have hD : va_D A (wM tk h ad (ouM (ouM (ouM (ouM g n (v >>> ((nI 24) &&& 31))) (n + 1) (v >>> ((nI 16) &&& 31))) ((n + 1) + 1) (v >>> ((nI 8) &&& 31))) (((n + 1) + 1) + 1) (v >>> ((nI 0) &&& 31))) la ++ tl) := hD
  refine lv_iinc (k := 0) (v := -1) (lv' := [(2, .int (-1)), (0, .ref h), (1, .int v)]) hx hb d_M_outInt_16 hl rfl (by decide) (by decide) rfl (fun ls hl => ?_)
  refine lv_goto hx hb d_M_outInt_19 (tgt := 2) (by decide) ?_
  refine lv_iload_n hx hb d_M_outInt_2 rfl (lv_at hl 0 rfl) ?_
  refine lv_if_lt hx hb d_M_outInt_3 (tgt := 22) (by decide) (fun hc3 => ?_) (fun hc3 => absurd hc3 (by decide))
  exact k_vret hQ hx hb hr hlk hK hP hD hS () rfl trivial d_M_outInt_22

theorem m_idx {x i : Int32} {n N : Nat} (hg : x = nI n) (hn : n ≤ N) (h : ¬ (i < nI 0 ∨ x - nI 1 < i)) (hN : N < 2 ^ 30 := by decide) : ∃ j : Nat, j < n ∧ i = nI j := by
  have h0 : ¬ i < 0 := fun q => h (Or.inl q)
  obtain ⟨j, hj, e⟩ := nI_of h0
  refine ⟨j, ?_, e⟩
  have h1 : ¬ x - nI 1 < i := fun q => h (Or.inr q)
  rw [Int32.lt_iff_toInt_lt, e, nI_toInt hj, hg] at h1
  by_cases hz : n = 0
  · subst hz
    exfalso
    have : (nI 0 - nI 1).toInt = -1 := by decide
    rw [this] at h1
    omega
  · rw [pk_sub (by omega), nI_toInt (by omega)] at h1
    omega

set_option maxHeartbeats 4000000 in
set_option maxRecDepth 100000 in
theorem c_M_proof (l : Launch) (D : va_G) (tk : Nat → ClassId) (sz : Nat) (h : Nat) (ad : Nat → Nat) (g : Nat → Nat → Int32) (la : Nat → Int64) (tl : va_W) (n : Nat) (hn : n ≤ 420) (hg : g 21 0 = nI n) (i : Int32) : Met l y_M_proof w_M_proof ({ frames := 1, cells := 0, slots := 0, locals := 22 }) (va_Pc [.ref h, .int i] (k_pre D (TY tk) sz (wM tk h ad g la ++ tl))) (va_Qi (fun (r : Int32) (_ : Unit) => r = if i < nI 0 ∨ g 21 0 - nI 1 < i then (-1) else g 22 i.toNatClampNeg) (fun u t => k_at D (TY tk) (va_A (wM tk h ad g la ++ tl) sz) ((fun _ => wM tk h ad (mup g 0 0 (nI 0)) la ++ tl) u) t) (va_A (wM tk h ad g la ++ tl) sz)) 0 0 (va_A (wM tk h ad g la ++ tl) sz) := by
  refine k_ofW (fun A => va_Qi (fun (r : Int32) (_ : Unit) => r = if i < nI 0 ∨ g 21 0 - nI 1 < i then (-1) else g 22 i.toNatClampNeg) (fun u t => k_at D (TY tk) A ((fun _ => wM tk h ad (mup g 0 0 (nI 0)) la ++ tl) u) t) A) (by decide) (Nat.le_of_ble_eq_true rfl) ?_
  intro p e s m args below meth c Q A ls hQ hx hb hr hlk hin hts hT hown hml hnw hP hK hD hA hsz hl
  have hS : va_S A s.heap s.heap [] := va_S.rf
  have hc0 : 0 + 0 ≤ 0 ∧ 0 + 0 ≤ 0 := ⟨by decide, by decide⟩
  have hl : lv_has ls 2 [(0, .ref h), (1, .int i)] := hl
  have hP : va_P D CC (wM tk h ad g la ++ tl) s.heap := hP
  have hK : va_K D CC (TY tk) s := hK
  refine lv_aload_n hx hb d_M_proof_0 rfl (lv_at hl 0 rfl) ?_
  refine lv_iconst (v := nI 0) hx hb d_M_proof_1 (by decide) ?_
  refine pf_M_73 hx hb hT hown hK hP hD hS 0 rfl (Nat.le_of_ble_eq_true rfl) d_M_proof_2 (fun H locs hP hD hS => ?_)
  have hP : va_P D CC (wM tk h ad (mup g 0 0 (nI 0)) la ++ tl) H := hP
  have hD : va_D A (wM tk h ad (mup g 0 0 (nI 0)) la ++ tl) := hD
  refine lv_iload_n hx hb d_M_proof_5 rfl (lv_at hl 1 rfl) ?_
  refine lv_iconst (v := nI 0) hx hb d_M_proof_6 (by decide) ?_
  refine lv_aload_n hx hb d_M_proof_7 rfl (lv_at hl 0 rfl) ?_
  refine gf_M_165 (v := .int (g 21 0)) hx hb hT hown hK hP 0 rfl rfl d_M_proof_8 ?_
  refine lv_iconst (v := nI 1) hx hb d_M_proof_11 (by decide) ?_
  refine lv_isub hx hb d_M_proof_12 ?_
  refine k_calli (va_runS (As := [.int i, .int (nI 0), .int ((g 21 0) - (nI 1))]) (rest := []) ⟨hx, hb, hml, hown, hts⟩ (c_M_outside l D tk H.size i (nI 0) ((g 21 0) - (nI 1)) (wM tk h ad (mup g 0 0 (nI 0)) la ++ tl)) (cwS 3 hts (gS t_1041 t_1042 t_9 t_1043) rfl rfl rfl (by decide +kernel) ⟨Nat.le_of_ble_eq_true rfl, Nat.le_of_ble_eq_true rfl⟩) (k_preS hP hK hD hnw) rfl rfl hl.1 rfl (lv_room (Nat.le_of_ble_eq_true rfl)) d_M_proof_13 hc0) hD hS hA (fun _ _ H locs hp13 hP hD hK hS => ?_)
  subst hp13
  have hP : va_P D CC (wM tk h ad (mup g 0 0 (nI 0)) la ++ tl) H := hP
  have hD : va_D A (wM tk h ad (mup g 0 0 (nI 0)) la ++ tl) := hD
  refine lv_if_eq hx hb d_M_proof_16 (tgt := 23) (by decide) (fun hc16 => ?_) (fun hc16 => ?_)
  · skip
    have hn9 : ¬ (i < nI 0 ∨ g 21 0 - nI 1 < i) := fun q => by rw [if_pos q] at hc16; exact absurd hc16 (by decide)
    obtain ⟨j, hj, rfl⟩ := m_idx hg hn hn9
    refine lv_aload_n hx hb d_M_proof_23 rfl (lv_at hl 0 rfl) ?_
    refine gf_M_54 (v := .ref (ad 22)) hx hb hT hown hK hP 0 rfl rfl d_M_proof_24 ?_
    refine lv_iload_n hx hb d_M_proof_27 rfl (lv_at hl 1 rfl) ?_
    refine st_iald hx hb hK hP 15 0 rfl rfl (by omega) (by decide) d_M_proof_28 ?_
    exact k_iret (v := g 22 j) hQ hx hb hr hlk hK hP hD hS () rfl (by (try rw [nI_clamp (by omega)]); (iterate 4 (try (first | rw [if_pos (by assumption)] | rw [if_neg (by assumption)]))); try rfl) d_M_proof_29
  · skip
    have hn9 : i < nI 0 ∨ g 21 0 - nI 1 < i := Classical.byContradiction (fun q => hc16 (by rw [if_neg q]))
    refine lv_iconst (v := -1) hx hb d_M_proof_19 (by decide) ?_
    refine lv_goto hx hb d_M_proof_20 (tgt := 29) (by decide) ?_
    exact k_iret (v := -1) hQ hx hb hr hlk hK hP hD hS () rfl (by (try rw [nI_clamp (by omega)]); (iterate 4 (try (first | rw [if_pos (by assumption)] | rw [if_neg (by assumption)]))); try rfl) d_M_proof_29

set_option maxHeartbeats 4000000 in
set_option maxRecDepth 100000 in
theorem c_M_fail (l : Launch) (D : va_G) (tk : Nat → ClassId) (sz : Nat) (h : Nat) (ad : Nat → Nat) (g : Nat → Nat → Int32) (la : Nat → Int64) (tl : va_W) (n : Int32) : Met l y_M_fail w_M_fail ({ frames := 1, cells := 0, slots := 0, locals := 22 }) (va_Pc [.ref h, .int n] (k_pre D (TY tk) sz (wM tk h ad g la ++ tl))) (va_Qi (fun (r : Int32) (_ : Unit) => r = if n < nI 1 ∨ nI 40 < n then nI 0 else nI 1) (fun u t => k_at D (TY tk) (va_A (wM tk h ad g la ++ tl) sz) ((fun _ => wM tk h ad (if n < nI 1 ∨ nI 40 < n then mup g 0 0 (nI 0) else mup (mup g 0 0 (nI 0)) 5 0 n) la ++ tl) u) t) (va_A (wM tk h ad g la ++ tl) sz)) 0 0 (va_A (wM tk h ad g la ++ tl) sz) := by
  refine k_ofW (fun A => va_Qi (fun (r : Int32) (_ : Unit) => r = if n < nI 1 ∨ nI 40 < n then nI 0 else nI 1) (fun u t => k_at D (TY tk) A ((fun _ => wM tk h ad (if n < nI 1 ∨ nI 40 < n then mup g 0 0 (nI 0) else mup (mup g 0 0 (nI 0)) 5 0 n) la ++ tl) u) t) A) (by decide) (Nat.le_of_ble_eq_true rfl) ?_
  intro p e s m args below meth c Q A ls hQ hx hb hr hlk hin hts hT hown hml hnw hP hK hD hA hsz hl
  have hS : va_S A s.heap s.heap [] := va_S.rf
  have hc0 : 0 + 0 ≤ 0 ∧ 0 + 0 ≤ 0 := ⟨by decide, by decide⟩
  have hl : lv_has ls 2 [(0, .ref h), (1, .int n)] := hl
  have hP : va_P D CC (wM tk h ad g la ++ tl) s.heap := hP
  have hK : va_K D CC (TY tk) s := hK
  refine lv_aload_n hx hb d_M_fail_0 rfl (lv_at hl 0 rfl) ?_
  refine lv_iconst (v := nI 0) hx hb d_M_fail_1 (by decide) ?_
  refine pf_M_73 hx hb hT hown hK hP hD hS 0 rfl (Nat.le_of_ble_eq_true rfl) d_M_fail_2 (fun H locs hP hD hS => ?_)
  have hP : va_P D CC (wM tk h ad (mup g 0 0 (nI 0)) la ++ tl) H := hP
  have hD : va_D A (wM tk h ad (mup g 0 0 (nI 0)) la ++ tl) := hD
  refine lv_iload_n hx hb d_M_fail_5 rfl (lv_at hl 1 rfl) ?_
  refine lv_iconst (v := nI 1) hx hb d_M_fail_6 (by decide) ?_
  refine lv_bipush (v := nI 40) hx hb d_M_fail_7 (by decide) ?_
  refine k_calli (va_runS (As := [.int n, .int (nI 1), .int (nI 40)]) (rest := []) ⟨hx, hb, hml, hown, hts⟩ (c_M_outside l D tk H.size n (nI 1) (nI 40) (wM tk h ad (mup g 0 0 (nI 0)) la ++ tl)) (cwS 3 hts (gS t_1041 t_1042 t_9 t_1043) rfl rfl rfl (by decide +kernel) ⟨Nat.le_of_ble_eq_true rfl, Nat.le_of_ble_eq_true rfl⟩) (k_preS hP hK hD hnw) rfl rfl hl.1 rfl (lv_room (Nat.le_of_ble_eq_true rfl)) d_M_fail_9 hc0) hD hS hA (fun _ _ H locs hp9 hP hD hK hS => ?_)
  subst hp9
  have hP : va_P D CC (wM tk h ad (mup g 0 0 (nI 0)) la ++ tl) H := hP
  have hD : va_D A (wM tk h ad (mup g 0 0 (nI 0)) la ++ tl) := hD
  refine lv_if_eq hx hb d_M_fail_12 (tgt := 17) (by decide) (fun hc12 => ?_) (fun hc12 => ?_)
  · skip
    have hn9 : ¬ (n < nI 1 ∨ nI 40 < n) := fun q => by rw [if_pos q] at hc12; exact absurd hc12 (by decide)
    refine lv_aload_n hx hb d_M_fail_17 rfl (lv_at hl 0 rfl) ?_
    refine lv_iload_n hx hb d_M_fail_18 rfl (lv_at hl 1 rfl) ?_
    refine pf_M_114 hx hb hT hown hK hP hD hS 0 rfl (Nat.le_of_ble_eq_true rfl) d_M_fail_19 (fun H locs hP hD hS => ?_)
    have hP : va_P D CC (wM tk h ad (mup (mup g 0 0 (nI 0)) 5 0 n) la ++ tl) H := hP
    have hD : va_D A (wM tk h ad (mup (mup g 0 0 (nI 0)) 5 0 n) la ++ tl) := hD
    refine lv_iconst (v := nI 1) hx hb d_M_fail_22 (by decide) ?_
    exact k_zret (v := nI 1) hQ hx hb hr hlk hK hP hD hS () (by (iterate 4 (try (first | rw [if_pos (by assumption)] | rw [if_neg (by assumption)]))); try rfl) (by decide) (by (iterate 4 (try (first | rw [if_pos (by assumption)] | rw [if_neg (by assumption)]))); try rfl) d_M_fail_23
  · skip
    have hn9 : n < nI 1 ∨ nI 40 < n := Classical.byContradiction (fun q => hc12 (by rw [if_neg q]))
    refine lv_iconst (v := nI 0) hx hb d_M_fail_15 (by decide) ?_
    exact k_zret (v := nI 0) hQ hx hb hr hlk hK hP hD hS () (by (iterate 4 (try (first | rw [if_pos (by assumption)] | rw [if_neg (by assumption)]))); try rfl) (by decide) (by (iterate 4 (try (first | rw [if_pos (by assumption)] | rw [if_neg (by assumption)]))); try rfl) d_M_fail_16

set_option maxHeartbeats 4000000 in
set_option maxRecDepth 100000 in
theorem c_M_root (l : Launch) (D : va_G) (tk : Nat → ClassId) (sz : Nat) (h : Nat) (ad : Nat → Nat) (g : Nat → Nat → Int32) (la : Nat → Int64) (tl : va_W) (V : Nat) (hV1 : 1 ≤ V) (hV2 : V ≤ 16) (hV : g 3 0 = nI V) (v : Int32) : Met l y_M_root w_M_root ({ frames := 2, cells := 0, slots := 0, locals := 43 }) (va_Pc [.ref h, .int v] (k_pre D (TY tk) sz (wM tk h ad g la ++ tl))) (va_Qi (fun (r : Int32) (_ : Unit) => r = if v < nI 0 ∨ g 3 0 - nI 1 < v then 0 else g 4 v.toNatClampNeg) (fun u t => k_at D (TY tk) (va_A (wM tk h ad g la ++ tl) sz) ((fun _ => wM tk h ad (if v < nI 0 ∨ g 3 0 - nI 1 < v then mup g 0 0 (nI 1) else mup g 0 0 (nI 0)) la ++ tl) u) t) (va_A (wM tk h ad g la ++ tl) sz)) 0 0 (va_A (wM tk h ad g la ++ tl) sz) := by
  refine k_ofW (fun A => va_Qi (fun (r : Int32) (_ : Unit) => r = if v < nI 0 ∨ g 3 0 - nI 1 < v then 0 else g 4 v.toNatClampNeg) (fun u t => k_at D (TY tk) A ((fun _ => wM tk h ad (if v < nI 0 ∨ g 3 0 - nI 1 < v then mup g 0 0 (nI 1) else mup g 0 0 (nI 0)) la ++ tl) u) t) A) (by decide) (Nat.le_of_ble_eq_true rfl) ?_
  intro p e s m args below meth c Q A ls hQ hx hb hr hlk hin hts hT hown hml hnw hP hK hD hA hsz hl
  have hS : va_S A s.heap s.heap [] := va_S.rf
  have hc0 : 0 + 0 ≤ 0 ∧ 0 + 0 ≤ 0 := ⟨by decide, by decide⟩
  have hl : lv_has ls 2 [(0, .ref h), (1, .int v)] := hl
  have hP : va_P D CC (wM tk h ad g la ++ tl) s.heap := hP
  have hK : va_K D CC (TY tk) s := hK
  refine lv_aload_n hx hb d_M_root_0 rfl (lv_at hl 0 rfl) ?_
  refine lv_iload_n hx hb d_M_root_1 rfl (lv_at hl 1 rfl) ?_
  refine k_calli (va_runV (As := [.int v]) (rest := []) ⟨hx, hb, hml, hown, hts⟩ (c_M_isVersion l D tk s.heap.size h ad g la tl v ) (cwV 1 hts (gV t_1123 t_1125 s_27 t_9 t_1126) rfl rfl rfl (by decide +kernel) ⟨Nat.le_of_ble_eq_true rfl, Nat.le_of_ble_eq_true rfl⟩) (k_preV hP hK hD hnw 0 rfl rfl) rfl rfl hl.1 rfl (lv_room (Nat.le_of_ble_eq_true rfl)) d_M_root_2 hc0) hD hS hA (fun _ _ H locs hp2 hP hD hK hS => ?_)
  subst hp2
  have hP : va_P D CC (wM tk h ad g la ++ tl) H := hP
  have hD : va_D A (wM tk h ad g la ++ tl) := hD
  refine lv_if_ne hx hb d_M_root_5 (tgt := 14) (by decide) (fun hc5 => ?_) (fun hc5 => ?_)
  · skip
    have hn9 : ¬ (v < nI 0 ∨ g 3 0 - nI 1 < v) := fun q => hc5 (by unfold ivM; rw [if_pos q]; rfl)
    obtain ⟨j, hj, rfl⟩ := m_idx hV hV2 hn9
    refine lv_aload_n hx hb d_M_root_14 rfl (lv_at hl 0 rfl) ?_
    refine lv_iconst (v := nI 0) hx hb d_M_root_15 (by decide) ?_
    refine pf_M_73 hx hb hT hown hK hP hD hS 0 rfl (Nat.le_of_ble_eq_true rfl) d_M_root_16 (fun H locs hP hD hS => ?_)
    have hP : va_P D CC (wM tk h ad (mup g 0 0 (nI 0)) la ++ tl) H := hP
    have hD : va_D A (wM tk h ad (mup g 0 0 (nI 0)) la ++ tl) := hD
    refine lv_aload_n hx hb d_M_root_19 rfl (lv_at hl 0 rfl) ?_
    refine gf_M_17 (v := .ref (ad 4)) hx hb hT hown hK hP 0 rfl rfl d_M_root_20 ?_
    refine lv_iload_n hx hb d_M_root_23 rfl (lv_at hl 1 rfl) ?_
    refine st_iald hx hb hK hP 3 0 rfl rfl (by omega) (by decide) d_M_root_24 ?_
    exact k_iret (v := g 4 j) hQ hx hb hr hlk hK hP hD hS () (by (iterate 4 (try (first | rw [if_pos (by assumption)] | rw [if_neg (by assumption)]))); try rfl) (by (try rw [nI_clamp (by omega)]); (iterate 4 (try (first | rw [if_pos (by assumption)] | rw [if_neg (by assumption)]))); try rfl) d_M_root_25
  · skip
    have hn9 : v < nI 0 ∨ g 3 0 - nI 1 < v := Classical.byContradiction (fun q => by unfold ivM at hc5; rw [if_neg q] at hc5; exact absurd hc5 (by decide))
    refine lv_aload_n hx hb d_M_root_8 rfl (lv_at hl 0 rfl) ?_
    refine lv_iconst (v := nI 1) hx hb d_M_root_9 (by decide) ?_
    refine k_calli (va_runV (As := [.int (nI 1)]) (rest := []) ⟨hx, hb, hml, hown, hts⟩ (c_M_refuse l D tk H.size h ad g la tl (nI 1) ) (cwV 1 hts (gV t_1060 t_1062 s_17 t_9 t_1063) rfl rfl rfl (by decide +kernel) ⟨Nat.le_of_ble_eq_true rfl, Nat.le_of_ble_eq_true rfl⟩) (k_preV hP hK hD hnw 0 rfl rfl) rfl rfl hl.1 rfl (lv_room (Nat.le_of_ble_eq_true rfl)) d_M_root_10 hc0) hD hS hA (fun _ _ H locs hp10 hP hD hK hS => ?_)
    subst hp10
    have hP : va_P D CC (wM tk h ad (mup g 0 0 (nI 1)) la ++ tl) H := hP
    have hD : va_D A (wM tk h ad (mup g 0 0 (nI 1)) la ++ tl) := hD
    exact k_iret (v := 0) hQ hx hb hr hlk hK hP hD hS () (by (iterate 4 (try (first | rw [if_pos (by assumption)] | rw [if_neg (by assumption)]))); try rfl) (by (try rw [nI_clamp (by omega)]); (iterate 4 (try (first | rw [if_pos (by assumption)] | rw [if_neg (by assumption)]))); try rfl) d_M_root_13
