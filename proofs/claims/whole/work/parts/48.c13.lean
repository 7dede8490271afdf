theorem gSu {y0 : Cond} {own : String} {idx : Nat} {y : MethodName} {bytes : ByteArray} {maxL : Nat} {ret : Option FieldType} (h1 : Cond.methodLink own idx y ∈ TT) (h2 : Cond.static y ∈ TT) (h4 : Cond.initialized y.cls ∈ TT) (h5 : Cond.code y bytes maxL ret ∈ TT) : GoodIn (y0 :: TT) (va_wsS own idx y (Cond.code y bytes maxL ret :: TT)) := by
  have g : ∀ w ∈ TT, w ∈ (y0 :: TT) ∧ ((w.onTables && w.keeps) = true ∨ ∃ ty, w = .arrayClass ty) := fun w h => ⟨List.mem_cons_of_mem _ h, good_of_word (List.mem_filter.mp h).2⟩
  intro w hw
  unfold va_wsS at hw
  simp only [List.cons_append, List.nil_append, List.mem_cons] at hw
  rcases hw with rfl | rfl | rfl | rfl | hw
  · exact g _ h1
  · exact g _ h2
  · exact g _ h4
  · exact g _ h5
  · exact g _ hw

theorem gx (tk : Nat → ClassId) (ad : Nat → Nat) (g : Nat → Nat → Int32) (rr : Nat → Nat → Option Nat) (tl cs : va_W) (k : Nat) : (wC tk ad g rr ++ (tl ++ cs))[tl.length + k + 18]? = cs[k]? := by
  rw [wC_tl, List.getElem?_append_right (by omega)]
  congr 1
  omega
theorem sx (tk : Nat → ClassId) (ad : Nat → Nat) (g : Nat → Nat → Int32) (rr : Nat → Nat → Option Nat) (tl cs : va_W) (k : Nat) (y : Nat × va_E) : (wC tk ad g rr ++ (tl ++ cs)).set (tl.length + k + 18) y = wC tk ad g rr ++ (tl ++ cs.set k y) := by
  have e : (wC tk ad g rr).length = 18 := rfl
  rw [List.set_append_right _ _ (by rw [e]; omega), List.set_append_right _ _ (by rw [e]; omega), e, show tl.length + k + 18 - 18 - tl.length = k by omega]
theorem nx_c {tk : Nat → ClassId} {ad : Nat → Nat} {g : Nat → Nat → Int32} {rr : Nat → Nat → Option Nat} {tl cs : va_W} {v : Nat} (h : ∃ (qk : Nat) (vs : List Value), tl[qk]? = some (v, .inr (1, vs))) : ∃ (qk : Nat) (vs : List Value), (wC tk ad g rr ++ (tl ++ cs))[qk]? = some (v, .inr (1, vs)) := by
  obtain ⟨qk, vs, e⟩ := h
  refine ⟨qk + 18, vs, ?_⟩
  rw [wC_tl, List.getElem?_append_left (List.getElem?_eq_some_iff.mp e).1]
  exact e
theorem up_b {bf r : Nat → Option Nat} {a0 k : Nat} (h : (∀ j, j < k → bf j = r (a0 + j)) ∧ ∀ j, k ≤ j → bf j = none) : (∀ j, j < k + 1 → va_up bf k (r (a0 + k)) j = r (a0 + j)) ∧ ∀ j, k + 1 ≤ j → va_up bf k (r (a0 + k)) j = none := by
  unfold va_up
  refine ⟨fun j hj => ?_, fun j hj => ?_⟩
  · by_cases e : j = k
    · subst e; rw [if_pos rfl]
    · rw [if_neg e]; exact h.1 j (by omega)
  · rw [if_neg (by omega)]; exact h.2 j (by omega)

set_option maxHeartbeats 4000000 in
set_option maxRecDepth 100000 in
theorem c_C_init (l : Launch) (D : va_G) (tk : Nat → ClassId) (sz : Nat) (ad : Nat → Nat) (g : Nat → Nat → Int32) (rr : Nat → Nat → Option Nat) (tl : va_W) (h lv a0 : Nat) (P : List kv_I) (hv : Int32) (old : Option Nat) (hP0 : 0 < P.length) (hP9 : a0 + P.length ≤ 48) (hn9 : ¬ (a0 = 0 ∧ P.length = 48)) (hbl : ∀ j, j < P.length → ∀ v, rr 2 (a0 + j) = some v → ∃ (qk : Nat) (vs : List Value), tl[qk]? = some (v, .inr (1, vs))) : Met l y_C_init w_C_init ({ frames := 3, cells := 3, slots := 144, locals := 106 }) (va_Pc [.ref h, .ref (ad 8), .int (nI lv), .int (nI a0), .int (nI (a0 + P.length)), .int hv, va_rf old] (k_pre D (TY tk) sz (wC tk ad g rr ++ (tl ++ [(h, .inr (1, [.int 0, .int 0, .null, .null, .null, .null]))])))) (va_Qv (fun (u : Nat × Nat × Nat × (Nat → Option Nat)) => (∀ j, j < P.length → u.2.2.2 j = rr 2 (a0 + j)) ∧ ∀ j, P.length ≤ j → u.2.2.2 j = none) (fun u t => k_at D (TY tk) (va_A (wC tk ad g rr ++ (tl ++ [(h, .inr (1, [.int 0, .int 0, .null, .null, .null, .null]))])) sz) ((fun (u : Nat × Nat × Nat × (Nat → Option Nat)) => (wC tk ad g rr ++ (tl ++ [(h, .inr (1, [.int (nI lv), .int hv, .ref u.1, .ref u.2.1, .ref u.2.2.1, va_rf old])), (u.1, .inl (tk 0, P.length, .inl (va_cpy (g 6) (fun _ => 0) a0 0 P.length))), (u.2.1, .inl (tk 0, P.length, .inl (va_cpy (g 7) (fun _ => 0) a0 0 P.length))), (u.2.2.1, .inl (tk 3, P.length, .inr (.inr (.inr (.inr u.2.2.2)))))]) : va_W)) u) t) (va_A (wC tk ad g rr ++ (tl ++ [(h, .inr (1, [.int 0, .int 0, .null, .null, .null, .null]))])) sz)) 3 144 (va_A (wC tk ad g rr ++ (tl ++ [(h, .inr (1, [.int 0, .int 0, .null, .null, .null, .null]))])) sz) := by
  refine k_ofW (l := l) (rm := ({ frames := 3, cells := 3, slots := 144, locals := 106 } : Room)) (mc := 3) (ms := 144) (av := [.ref h, .ref (ad 8), .int (nI lv), .int (nI a0), .int (nI (a0 + P.length)), .int hv, va_rf old]) (y := y_C_init) (cc := prog_3_method_1_code) (maxL := 8) (ret := none) (ws := wC tk ad g rr ++ (tl ++ [(h, .inr (1, [.int 0, .int 0, .null, .null, .null, .null]))])) (sz := sz) (D := D) (tys := TY tk) (fun A => va_Qv (fun (u : Nat × Nat × Nat × (Nat → Option Nat)) => (∀ j, j < P.length → u.2.2.2 j = rr 2 (a0 + j)) ∧ ∀ j, P.length ≤ j → u.2.2.2 j = none) (fun u t => k_at D (TY tk) A ((fun (u : Nat × Nat × Nat × (Nat → Option Nat)) => (wC tk ad g rr ++ (tl ++ [(h, .inr (1, [.int (nI lv), .int hv, .ref u.1, .ref u.2.1, .ref u.2.2.1, va_rf old])), (u.1, .inl (tk 0, P.length, .inl (va_cpy (g 6) (fun _ => 0) a0 0 P.length))), (u.2.1, .inl (tk 0, P.length, .inl (va_cpy (g 7) (fun _ => 0) a0 0 P.length))), (u.2.2.1, .inl (tk 3, P.length, .inr (.inr (.inr (.inr u.2.2.2)))))]) : va_W)) u) t) A) (by decide) (by cases old <;> exact Nat.le_of_ble_eq_true rfl) ?_
  intro p e s m args below meth c Q A ls hQ hx hb hr hlk hin hts hT hown hml hnw hP hK hD hA hsz hl
  have hS : va_S A s.heap s.heap [] := va_S.rf
  have hc0 : 0 + 0 ≤ 3 ∧ 0 + 0 ≤ 144 := ⟨by decide, by decide⟩
  replace hl : lv_has ls 8 [(0, .ref h), (1, .ref (ad 8)), (2, .int (nI lv)), (3, .int (nI a0)), (4, .int (nI (a0 + P.length))), (5, .int hv), (6, va_rf old)] := by cases old <;> exact hl
  replace hP : va_P D CC (wC tk ad g rr ++ (tl ++ [(h, .inr (1, [.int 0, .int 0, .null, .null, .null, .null]))])) s.heap := hP
  replace hK : va_K D CC (TY tk) s := hK
  refine lv_aload_n hx hb d_C_init_0 rfl (lv_at hl 0 rfl) ?_
  refine W.objInit hx hb hown (hT _ t_447) (hT _ t_34) (hT _ t_35) rfl (by rw [hml]; exact hl.1) rfl d_C_init_1 (Nat.le_of_ble_eq_true rfl) (Nat.le_of_ble_eq_true rfl) ?_
  refine W.eq (g2 := F0 m 4 ls []) rfl ?_
  refine lv_aload_n hx hb d_C_init_4 rfl (lv_at hl 0 rfl) ?_
  refine lv_iload_n hx hb d_C_init_5 rfl (lv_at hl 2 rfl) ?_
  refine pf_C_7 hx hb hT hown hK hP hD hS hin (tl.length + 0 + 18) (gx tk ad g rr tl [(h, .inr (1, [.int 0, .int 0, .null, .null, .null, .null]))] 0) (Nat.le_of_ble_eq_true rfl) d_C_init_6 (fun H locs hP hD hS => ?_)
  replace hP : va_P D CC (wC tk ad g rr ++ (tl ++ [(h, .inr (1, [.int (nI lv), .int 0, .null, .null, .null, .null]))])) H := Eq.mp (congrArg (fun w => va_P D CC w H) (sx tk ad g rr tl [(h, .inr (1, [.int 0, .int 0, .null, .null, .null, .null]))] 0 _)) hP
  replace hD : va_D A (wC tk ad g rr ++ (tl ++ [(h, .inr (1, [.int (nI lv), .int 0, .null, .null, .null, .null]))])) := Eq.mp (congrArg (fun w => va_D A w) (sx tk ad g rr tl [(h, .inr (1, [.int 0, .int 0, .null, .null, .null, .null]))] 0 _)) hD
  refine lv_aload_n hx hb d_C_init_9 rfl (lv_at hl 0 rfl) ?_
  refine lv_iload hx hb d_C_init_10 (lv_at hl 5 rfl) ?_
  refine pf_C_13 hx hb hT hown hK hP hD hS hin (tl.length + 0 + 18) (gx tk ad g rr tl [(h, .inr (1, [.int (nI lv), .int 0, .null, .null, .null, .null]))] 0) (Nat.le_of_ble_eq_true rfl) d_C_init_12 (fun H locs hP hD hS => ?_)
  replace hP : va_P D CC (wC tk ad g rr ++ (tl ++ [(h, .inr (1, [.int (nI lv), .int hv, .null, .null, .null, .null]))])) H := Eq.mp (congrArg (fun w => va_P D CC w H) (sx tk ad g rr tl [(h, .inr (1, [.int (nI lv), .int 0, .null, .null, .null, .null]))] 0 _)) hP
  replace hD : va_D A (wC tk ad g rr ++ (tl ++ [(h, .inr (1, [.int (nI lv), .int hv, .null, .null, .null, .null]))])) := Eq.mp (congrArg (fun w => va_D A w) (sx tk ad g rr tl [(h, .inr (1, [.int (nI lv), .int 0, .null, .null, .null, .null]))] 0 _)) hD
  refine lv_aload_n hx hb d_C_init_15 rfl (lv_at hl 0 rfl) ?_
  refine sq_aload hx hb d_C_init_16 (lv_at hl 6 rfl) ?_
  refine pn_C_16 hx hb hT hown hK hP hD hS hin (tl.length + 0 + 18) (gx tk ad g rr tl [(h, .inr (1, [.int (nI lv), .int hv, .null, .null, .null, .null]))] 0) (Nat.le_of_ble_eq_true rfl) old d_C_init_18 (fun H locs hP hD hS => ?_)
  replace hP : va_P D CC (wC tk ad g rr ++ (tl ++ [(h, .inr (1, [.int (nI lv), .int hv, .null, .null, .null, va_rf old]))])) H := Eq.mp (congrArg (fun w => va_P D CC w H) (sx tk ad g rr tl [(h, .inr (1, [.int (nI lv), .int hv, .null, .null, .null, .null]))] 0 _)) hP
  replace hD : va_D A (wC tk ad g rr ++ (tl ++ [(h, .inr (1, [.int (nI lv), .int hv, .null, .null, .null, va_rf old]))])) := Eq.mp (congrArg (fun w => va_D A w) (sx tk ad g rr tl [(h, .inr (1, [.int (nI lv), .int hv, .null, .null, .null, .null]))] 0 _)) hD
  refine lv_aload_n hx hb d_C_init_21 rfl (lv_at hl 0 rfl) ?_
  refine lv_aload_n hx hb d_C_init_22 rfl (lv_at hl 1 rfl) ?_
  refine gf_C_20 (v := .ref (ad 9)) hx hb hT hown hK hP 8 rfl rfl d_C_init_23 ?_
  refine lv_iload_n hx hb d_C_init_26 rfl (lv_at hl 3 rfl) ?_
  refine lv_iload hx hb d_C_init_27 (lv_at hl 4 rfl) ?_
  refine k_callq (va_runS (As := [.ref (ad 9), .int (nI a0), .int (nI (a0 + P.length))]) (rest := [.ref h]) ⟨hx, hb, hml, hown, hts⟩ (c_A_copyOfRange l D tk H.size (wC tk ad g rr ++ (tl ++ [(h, .inr (1, [.int (nI lv), .int hv, .null, .null, .null, va_rf old]))])) (ad 9) 9 (g 6) rfl a0 (a0 + P.length) (by omega) (by omega) (by omega)) (va_cwS 3 hts (gSu t_448 t_449 t_16 t_450) rfl rfl rfl (by decide +kernel) ⟨Nat.le_of_ble_eq_true rfl, Nat.le_of_ble_eq_true rfl⟩) (k_preS hP hK hD hnw) rfl rfl hl.1 rfl (lv_room (Nat.le_of_ble_eq_true rfl)) d_C_init_29 ⟨by show _ ≤ 3; omega, by show _ ≤ 144; omega⟩) hD hS hA (fun _ u29 H locs hp29 hP hD hK hS => ?_)
  subst hp29
  rw [List.append_assoc, List.append_assoc, show a0 + P.length - a0 = P.length by omega] at hP hD
  replace hP : va_P D CC (wC tk ad g rr ++ (tl ++ [(h, .inr (1, [.int (nI lv), .int hv, .null, .null, .null, va_rf old])), (u29, .inl (tk 0, P.length, .inl (va_cpy (g 6) (fun _ => 0) a0 0 P.length)))])) H := hP
  replace hD : va_D A (wC tk ad g rr ++ (tl ++ [(h, .inr (1, [.int (nI lv), .int hv, .null, .null, .null, va_rf old])), (u29, .inl (tk 0, P.length, .inl (va_cpy (g 6) (fun _ => 0) a0 0 P.length)))])) := hD
  refine pf_C_32 hx hb hT hown hK hP hD hS hin (tl.length + 0 + 18) (gx tk ad g rr tl [(h, .inr (1, [.int (nI lv), .int hv, .null, .null, .null, va_rf old])), (u29, .inl (tk 0, P.length, .inl (va_cpy (g 6) (fun _ => 0) a0 0 P.length)))] 0) (Nat.le_of_ble_eq_true rfl) d_C_init_32 (fun H locs hP hD hS => ?_)
  replace hP : va_P D CC (wC tk ad g rr ++ (tl ++ [(h, .inr (1, [.int (nI lv), .int hv, .ref u29, .null, .null, va_rf old])), (u29, .inl (tk 0, P.length, .inl (va_cpy (g 6) (fun _ => 0) a0 0 P.length)))])) H := Eq.mp (congrArg (fun w => va_P D CC w H) (sx tk ad g rr tl [(h, .inr (1, [.int (nI lv), .int hv, .null, .null, .null, va_rf old])), (u29, .inl (tk 0, P.length, .inl (va_cpy (g 6) (fun _ => 0) a0 0 P.length)))] 0 _)) hP
  replace hD : va_D A (wC tk ad g rr ++ (tl ++ [(h, .inr (1, [.int (nI lv), .int hv, .ref u29, .null, .null, va_rf old])), (u29, .inl (tk 0, P.length, .inl (va_cpy (g 6) (fun _ => 0) a0 0 P.length)))])) := Eq.mp (congrArg (fun w => va_D A w) (sx tk ad g rr tl [(h, .inr (1, [.int (nI lv), .int hv, .null, .null, .null, va_rf old])), (u29, .inl (tk 0, P.length, .inl (va_cpy (g 6) (fun _ => 0) a0 0 P.length)))] 0 _)) hD
  refine lv_aload_n hx hb d_C_init_35 rfl (lv_at hl 0 rfl) ?_
  refine lv_aload_n hx hb d_C_init_36 rfl (lv_at hl 1 rfl) ?_
  refine gf_C_33 (v := .ref (ad 10)) hx hb hT hown hK hP 8 rfl rfl d_C_init_37 ?_
  refine lv_iload_n hx hb d_C_init_40 rfl (lv_at hl 3 rfl) ?_
  refine lv_iload hx hb d_C_init_41 (lv_at hl 4 rfl) ?_
  refine k_callq (va_runS (As := [.ref (ad 10), .int (nI a0), .int (nI (a0 + P.length))]) (rest := [.ref h]) ⟨hx, hb, hml, hown, hts⟩ (c_A_copyOfRange l D tk H.size (wC tk ad g rr ++ (tl ++ [(h, .inr (1, [.int (nI lv), .int hv, .ref u29, .null, .null, va_rf old])), (u29, .inl (tk 0, P.length, .inl (va_cpy (g 6) (fun _ => 0) a0 0 P.length)))])) (ad 10) 10 (g 7) rfl a0 (a0 + P.length) (by omega) (by omega) (by omega)) (va_cwS 3 hts (gSu t_448 t_449 t_16 t_450) rfl rfl rfl (by decide +kernel) ⟨Nat.le_of_ble_eq_true rfl, Nat.le_of_ble_eq_true rfl⟩) (k_preS hP hK hD hnw) rfl rfl hl.1 rfl (lv_room (Nat.le_of_ble_eq_true rfl)) d_C_init_43 ⟨by show _ ≤ 3; omega, by show _ ≤ 144; omega⟩) hD hS hA (fun _ u43 H locs hp43 hP hD hK hS => ?_)
  subst hp43
  rw [List.append_assoc, List.append_assoc, show a0 + P.length - a0 = P.length by omega] at hP hD
  replace hP : va_P D CC (wC tk ad g rr ++ (tl ++ [(h, .inr (1, [.int (nI lv), .int hv, .ref u29, .null, .null, va_rf old])), (u29, .inl (tk 0, P.length, .inl (va_cpy (g 6) (fun _ => 0) a0 0 P.length))), (u43, .inl (tk 0, P.length, .inl (va_cpy (g 7) (fun _ => 0) a0 0 P.length)))])) H := hP
  replace hD : va_D A (wC tk ad g rr ++ (tl ++ [(h, .inr (1, [.int (nI lv), .int hv, .ref u29, .null, .null, va_rf old])), (u29, .inl (tk 0, P.length, .inl (va_cpy (g 6) (fun _ => 0) a0 0 P.length))), (u43, .inl (tk 0, P.length, .inl (va_cpy (g 7) (fun _ => 0) a0 0 P.length)))])) := hD
  refine pf_C_36 hx hb hT hown hK hP hD hS hin (tl.length + 0 + 18) (gx tk ad g rr tl [(h, .inr (1, [.int (nI lv), .int hv, .ref u29, .null, .null, va_rf old])), (u29, .inl (tk 0, P.length, .inl (va_cpy (g 6) (fun _ => 0) a0 0 P.length))), (u43, .inl (tk 0, P.length, .inl (va_cpy (g 7) (fun _ => 0) a0 0 P.length)))] 0) (Nat.le_of_ble_eq_true rfl) d_C_init_46 (fun H locs hP hD hS => ?_)
  replace hP : va_P D CC (wC tk ad g rr ++ (tl ++ [(h, .inr (1, [.int (nI lv), .int hv, .ref u29, .ref u43, .null, va_rf old])), (u29, .inl (tk 0, P.length, .inl (va_cpy (g 6) (fun _ => 0) a0 0 P.length))), (u43, .inl (tk 0, P.length, .inl (va_cpy (g 7) (fun _ => 0) a0 0 P.length)))])) H := Eq.mp (congrArg (fun w => va_P D CC w H) (sx tk ad g rr tl [(h, .inr (1, [.int (nI lv), .int hv, .ref u29, .null, .null, va_rf old])), (u29, .inl (tk 0, P.length, .inl (va_cpy (g 6) (fun _ => 0) a0 0 P.length))), (u43, .inl (tk 0, P.length, .inl (va_cpy (g 7) (fun _ => 0) a0 0 P.length)))] 0 _)) hP
  replace hD : va_D A (wC tk ad g rr ++ (tl ++ [(h, .inr (1, [.int (nI lv), .int hv, .ref u29, .ref u43, .null, va_rf old])), (u29, .inl (tk 0, P.length, .inl (va_cpy (g 6) (fun _ => 0) a0 0 P.length))), (u43, .inl (tk 0, P.length, .inl (va_cpy (g 7) (fun _ => 0) a0 0 P.length)))])) := Eq.mp (congrArg (fun w => va_D A w) (sx tk ad g rr tl [(h, .inr (1, [.int (nI lv), .int hv, .ref u29, .null, .null, va_rf old])), (u29, .inl (tk 0, P.length, .inl (va_cpy (g 6) (fun _ => 0) a0 0 P.length))), (u43, .inl (tk 0, P.length, .inl (va_cpy (g 7) (fun _ => 0) a0 0 P.length)))] 0 _)) hD
  refine lv_aload_n hx hb d_C_init_49 rfl (lv_at hl 0 rfl) ?_
  refine lv_iload hx hb d_C_init_50 (lv_at hl 4 rfl) ?_
  refine lv_iload_n hx hb d_C_init_52 rfl (lv_at hl 3 rfl) ?_
  refine st_isub hx hb (by omega) d_C_init_53 ?_
  refine st_top (show nI ((a0 + P.length) - a0) = nI P.length from congrArg nI (by omega)) ?_
  refine k_nA (N := P.length) hx hb hown (hT _ t_696) hnw hK hP hD hS hA (by omega) (by show _ ≤ 3; omega) (by show _ ≤ 144; omega) d_C_init_54 (fun q1 H hP hD hS => ?_)
  rw [List.append_assoc, List.append_assoc] at hP hD
  replace hP : va_P D CC (wC tk ad g rr ++ (tl ++ [(h, .inr (1, [.int (nI lv), .int hv, .ref u29, .ref u43, .null, va_rf old])), (u29, .inl (tk 0, P.length, .inl (va_cpy (g 6) (fun _ => 0) a0 0 P.length))), (u43, .inl (tk 0, P.length, .inl (va_cpy (g 7) (fun _ => 0) a0 0 P.length))), (q1, .inl (tk 3, P.length, .inr (.inr (.inr (.inr (fun _ => none))))))])) H := hP
  replace hD : va_D A (wC tk ad g rr ++ (tl ++ [(h, .inr (1, [.int (nI lv), .int hv, .ref u29, .ref u43, .null, va_rf old])), (u29, .inl (tk 0, P.length, .inl (va_cpy (g 6) (fun _ => 0) a0 0 P.length))), (u43, .inl (tk 0, P.length, .inl (va_cpy (g 7) (fun _ => 0) a0 0 P.length))), (q1, .inl (tk 3, P.length, .inr (.inr (.inr (.inr (fun _ => none))))))])) := hD
  refine pf_C_37 hx hb hT hown hK hP hD hS hin (tl.length + 0 + 18) (gx tk ad g rr tl [(h, .inr (1, [.int (nI lv), .int hv, .ref u29, .ref u43, .null, va_rf old])), (u29, .inl (tk 0, P.length, .inl (va_cpy (g 6) (fun _ => 0) a0 0 P.length))), (u43, .inl (tk 0, P.length, .inl (va_cpy (g 7) (fun _ => 0) a0 0 P.length))), (q1, .inl (tk 3, P.length, .inr (.inr (.inr (.inr (fun _ => none))))))] 0) (Nat.le_of_ble_eq_true rfl) d_C_init_57 (fun H locs hP hD hS => ?_)
  replace hP : va_P D CC (wC tk ad g rr ++ (tl ++ [(h, .inr (1, [.int (nI lv), .int hv, .ref u29, .ref u43, .ref q1, va_rf old])), (u29, .inl (tk 0, P.length, .inl (va_cpy (g 6) (fun _ => 0) a0 0 P.length))), (u43, .inl (tk 0, P.length, .inl (va_cpy (g 7) (fun _ => 0) a0 0 P.length))), (q1, .inl (tk 3, P.length, .inr (.inr (.inr (.inr (fun _ => none))))))])) H := Eq.mp (congrArg (fun w => va_P D CC w H) (sx tk ad g rr tl [(h, .inr (1, [.int (nI lv), .int hv, .ref u29, .ref u43, .null, va_rf old])), (u29, .inl (tk 0, P.length, .inl (va_cpy (g 6) (fun _ => 0) a0 0 P.length))), (u43, .inl (tk 0, P.length, .inl (va_cpy (g 7) (fun _ => 0) a0 0 P.length))), (q1, .inl (tk 3, P.length, .inr (.inr (.inr (.inr (fun _ => none))))))] 0 _)) hP
  replace hD : va_D A (wC tk ad g rr ++ (tl ++ [(h, .inr (1, [.int (nI lv), .int hv, .ref u29, .ref u43, .ref q1, va_rf old])), (u29, .inl (tk 0, P.length, .inl (va_cpy (g 6) (fun _ => 0) a0 0 P.length))), (u43, .inl (tk 0, P.length, .inl (va_cpy (g 7) (fun _ => 0) a0 0 P.length))), (q1, .inl (tk 3, P.length, .inr (.inr (.inr (.inr (fun _ => none))))))])) := Eq.mp (congrArg (fun w => va_D A w) (sx tk ad g rr tl [(h, .inr (1, [.int (nI lv), .int hv, .ref u29, .ref u43, .null, va_rf old])), (u29, .inl (tk 0, P.length, .inl (va_cpy (g 6) (fun _ => 0) a0 0 P.length))), (u43, .inl (tk 0, P.length, .inl (va_cpy (g 7) (fun _ => 0) a0 0 P.length))), (q1, .inl (tk 3, P.length, .inr (.inr (.inr (.inr (fun _ => none))))))] 0 _)) hD
  refine lv_iconst (v := nI 0) hx hb d_C_init_60 (by decide) ?_
  refine lv_istore (lv' := [(7, .int (nI 0)), (0, .ref h), (1, .ref (ad 8)), (2, .int (nI lv)), (3, .int (nI a0)), (4, .int (nI (a0 + P.length))), (5, .int hv), (6, va_rf old)]) hx hb d_C_init_61 hl (by decide) (by generalize old = z9; cases z9 <;> rfl) (fun ls hl => ?_)
  have key63 : ∀ (n63 : Nat) (k : Nat) (bf : Nat → Option Nat) (ls : Array Slot) (H : Heap) (locs : List Loc), P.length - k < n63 → (k ≤ P.length) → ((∀ j, j < k → bf j = rr 2 (a0 + j)) ∧ ∀ j, k ≤ j → bf j = none) → lv_has ls 8 [(0, .ref h), (1, .ref (ad 8)), (3, .int (nI a0)), (7, .int (nI k))] → va_P D CC (wC tk ad g rr ++ (tl ++ [(h, .inr (1, [.int (nI lv), .int hv, .ref u29, .ref u43, .ref q1, va_rf old])), (u29, .inl (tk 0, P.length, .inl (va_cpy (g 6) (fun _ => 0) a0 0 P.length))), (u43, .inl (tk 0, P.length, .inl (va_cpy (g 7) (fun _ => 0) a0 0 P.length))), (q1, .inl (tk 3, P.length, .inr (.inr (.inr (.inr bf)))))])) H → va_D A (wC tk ad g rr ++ (tl ++ [(h, .inr (1, [.int (nI lv), .int hv, .ref u29, .ref u43, .ref q1, va_rf old])), (u29, .inl (tk 0, P.length, .inl (va_cpy (g 6) (fun _ => 0) a0 0 P.length))), (u43, .inl (tk 0, P.length, .inl (va_cpy (g 7) (fun _ => 0) a0 0 P.length))), (q1, .inl (tk 3, P.length, .inr (.inr (.inr (.inr bf)))))])) → va_S A s.heap H locs → W p l e ({ frames := 3, cells := 3, slots := 144, locals := 106 } : Room) s m args below meth c H locs (0 + 1 + 1 + 1) (0 + 48 + 48 + P.length) Q (F0 m 63 ls []) := by
    intro n63
    induction n63 with
    | zero => intro k bf ls H locs hn; exact absurd hn (Nat.not_lt_zero _)
    | succ n63 ih63 =>
      intro k bf ls H locs hn63 hk hbf hl hP hD hS
      refine lv_iload hx hb d_C_init_63 (lv_at hl 3 rfl) ?_
      refine lv_aload_n hx hb d_C_init_65 rfl (lv_at hl 0 rfl) ?_
      refine gf_C_37 (v := .ref q1) hx hb hT hown hK hP (tl.length + 0 + 18) (gx tk ad g rr tl [(h, .inr (1, [.int (nI lv), .int hv, .ref u29, .ref u43, .ref q1, va_rf old])), (u29, .inl (tk 0, P.length, .inl (va_cpy (g 6) (fun _ => 0) a0 0 P.length))), (u43, .inl (tk 0, P.length, .inl (va_cpy (g 7) (fun _ => 0) a0 0 P.length))), (q1, .inl (tk 3, P.length, .inr (.inr (.inr (.inr bf)))))] 0) rfl d_C_init_66 ?_
      refine va_alen (v := nI P.length) hx hb hK hP (tl.length + 3 + 18) 3 (gx tk ad g rr tl [(h, .inr (1, [.int (nI lv), .int hv, .ref u29, .ref u43, .ref q1, va_rf old])), (u29, .inl (tk 0, P.length, .inl (va_cpy (g 6) (fun _ => 0) a0 0 P.length))), (u43, .inl (tk 0, P.length, .inl (va_cpy (g 7) (fun _ => 0) a0 0 P.length))), (q1, .inl (tk 3, P.length, .inr (.inr (.inr (.inr bf)))))] 3) rfl rfl d_C_init_69 ?_
      refine st_icmp_ge hx hb (by omega) (by omega) d_C_init_70 (tgt := 95) (by decide) (fun hc70 => ?_) (fun hc70 => ?_)
      · skip
        refine W_up (c2 := 3) (s2 := 144) (by omega) (by omega) ?_
        exact k_vret hQ hx hb hr hlk hK hP hD hS (u29, u43, q1, bf) rfl ((show k = P.length by omega) ▸ hbf) d_C_init_95
      · skip
        refine lv_aload_n hx hb d_C_init_73 rfl (lv_at hl 0 rfl) ?_
        refine gf_C_37 (v := .ref q1) hx hb hT hown hK hP (tl.length + 0 + 18) (gx tk ad g rr tl [(h, .inr (1, [.int (nI lv), .int hv, .ref u29, .ref u43, .ref q1, va_rf old])), (u29, .inl (tk 0, P.length, .inl (va_cpy (g 6) (fun _ => 0) a0 0 P.length))), (u43, .inl (tk 0, P.length, .inl (va_cpy (g 7) (fun _ => 0) a0 0 P.length))), (q1, .inl (tk 3, P.length, .inr (.inr (.inr (.inr bf)))))] 0) rfl d_C_init_74 ?_
        refine lv_iload hx hb d_C_init_77 (lv_at hl 3 rfl) ?_
        refine lv_aload_n hx hb d_C_init_79 rfl (lv_at hl 1 rfl) ?_
        refine gf_C_41 (v := .ref (ad 11)) hx hb hT hown hK hP 8 rfl rfl d_C_init_80 ?_
        refine lv_iload_n hx hb d_C_init_83 rfl (lv_at hl 2 rfl) ?_
        refine lv_iload hx hb d_C_init_84 (lv_at hl 3 rfl) ?_
        refine st_iadd hx hb d_C_init_86 ?_
        refine st_aald hx hb hK hP 11 3 rfl rfl (by omega) (by decide) d_C_init_87 ?_
        refine st_aastO hx hb hK hP hD hS (tl.length + 3 + 18) 3 (gx tk ad g rr tl [(h, .inr (1, [.int (nI lv), .int hv, .ref u29, .ref u43, .ref q1, va_rf old])), (u29, .inl (tk 0, P.length, .inl (va_cpy (g 6) (fun _ => 0) a0 0 P.length))), (u43, .inl (tk 0, P.length, .inl (va_cpy (g 7) (fun _ => 0) a0 0 P.length))), (q1, .inl (tk 3, P.length, .inr (.inr (.inr (.inr bf)))))] 3) rfl (x := (rr 2 (a0 + k))) (fun v q => nx_c (hbl k (by omega) v q)) (by omega) (by omega) d_C_init_88 (fun H locs hP hD hS => ?_)
        replace hP : va_P D CC (wC tk ad g rr ++ (tl ++ [(h, .inr (1, [.int (nI lv), .int hv, .ref u29, .ref u43, .ref q1, va_rf old])), (u29, .inl (tk 0, P.length, .inl (va_cpy (g 6) (fun _ => 0) a0 0 P.length))), (u43, .inl (tk 0, P.length, .inl (va_cpy (g 7) (fun _ => 0) a0 0 P.length))), (q1, .inl (tk 3, P.length, .inr (.inr (.inr (.inr (va_up bf k (rr 2 (a0 + k))))))))])) H := Eq.mp (congrArg (fun w => va_P D CC w H) (sx tk ad g rr tl [(h, .inr (1, [.int (nI lv), .int hv, .ref u29, .ref u43, .ref q1, va_rf old])), (u29, .inl (tk 0, P.length, .inl (va_cpy (g 6) (fun _ => 0) a0 0 P.length))), (u43, .inl (tk 0, P.length, .inl (va_cpy (g 7) (fun _ => 0) a0 0 P.length))), (q1, .inl (tk 3, P.length, .inr (.inr (.inr (.inr bf)))))] 3 _)) hP
        replace hD : va_D A (wC tk ad g rr ++ (tl ++ [(h, .inr (1, [.int (nI lv), .int hv, .ref u29, .ref u43, .ref q1, va_rf old])), (u29, .inl (tk 0, P.length, .inl (va_cpy (g 6) (fun _ => 0) a0 0 P.length))), (u43, .inl (tk 0, P.length, .inl (va_cpy (g 7) (fun _ => 0) a0 0 P.length))), (q1, .inl (tk 3, P.length, .inr (.inr (.inr (.inr (va_up bf k (rr 2 (a0 + k))))))))])) := Eq.mp (congrArg (fun w => va_D A w) (sx tk ad g rr tl [(h, .inr (1, [.int (nI lv), .int hv, .ref u29, .ref u43, .ref q1, va_rf old])), (u29, .inl (tk 0, P.length, .inl (va_cpy (g 6) (fun _ => 0) a0 0 P.length))), (u43, .inl (tk 0, P.length, .inl (va_cpy (g 7) (fun _ => 0) a0 0 P.length))), (q1, .inl (tk 3, P.length, .inr (.inr (.inr (.inr bf)))))] 3 _)) hD
        refine lv_iinc (k := 3) (v := nI (k + 1)) (lv' := [(7, .int (nI (k + 1))), (0, .ref h), (1, .ref (ad 8)), (3, .int (nI a0))]) hx hb d_C_init_89 hl rfl (nI_add _ _) (by decide) rfl (fun ls hl => ?_)
        refine lv_goto hx hb d_C_init_92 (tgt := 63) (by decide) ?_
        exact ih63 (k + 1) (va_up bf k (rr 2 (a0 + k))) ls _ _ (by omega) (by omega) (up_b hbf) (lv_sub hl [1, 2, 3, 0] rfl) hP hD hS
  exact key63 _ 0 (fun _ => none) ls _ _ (Nat.lt_succ_self _) (Nat.zero_le _) (⟨fun j hj => absurd hj (Nat.not_lt_zero _), fun j _ => rfl⟩) (lv_sub hl [1, 2, 4, 0] rfl) hP hD hS
