set_option maxHeartbeats 4000000 in
set_option maxRecDepth 100000 in
theorem c_K_prove1 (l : Launch) (D : va_G) (tk : Nat → ClassId) (sz : Nat) (ad : Nat → Nat) (g : Nat → Nat → Int32) (rr : Nat → Nat → Option Nat) (tl : va_W) (S : List ck_I) (ca : Nat → Nat) (bl : Nat → Nat → Option Nat) (hst : sI tk tl S ca bl) (Xs : Nat → List kv_I) (V : Nat) (hV1 : 1 ≤ V) (hV2 : V ≤ 16) (hh : ∀ v, v < V → so (Xs v) ∧ tOf S ca (Xs v) (rr 1 v)) (hV : g 2 0 = nI V) (n9 v9 key : Nat) (hn9 : n9 ≤ V) (hv9 : v9 < n9) (hkey : key < 48) : Met l y_K_prove w_K_prove ({ frames := 12, cells := 0, slots := 0, locals := 288 }) (va_Pc [.ref (ad 0), .int (nI n9), .int (nI v9), .int (nI key)] (k_pre D (TY tk) sz (wC tk ad g rr ++ tl))) (va_Qi (fun (r : Int32) (u : Nat → Nat → Int32) => frx [8, 9] g u ∧ prfC u (prB (fun v => rt (Xs v)) n9 v9 key (Xs v9)) ∧ r = nI (prB (fun v => rt (Xs v)) n9 v9 key (Xs v9)).length) (fun u t => k_at D (TY tk) (va_A (wC tk ad g rr ++ tl) sz) ((fun u => wC tk ad u rr ++ tl) u) t) (va_A (wC tk ad g rr ++ tl) sz)) 0 0 (va_A (wC tk ad g rr ++ tl) sz) := by
  refine k_ofW (fun A => va_Qi (fun (r : Int32) (u : Nat → Nat → Int32) => frx [8, 9] g u ∧ prfC u (prB (fun v => rt (Xs v)) n9 v9 key (Xs v9)) ∧ r = nI (prB (fun v => rt (Xs v)) n9 v9 key (Xs v9)).length) (fun u t => k_at D (TY tk) A ((fun u => wC tk ad u rr ++ tl) u) t) A) (by decide) (Nat.le_of_ble_eq_true rfl) ?_
  intro p e s m args below meth c Q A ls hQ hx hb hr hlk hin hts hT hown hml hnw hP hK hD hA hsz hl
  have hS : va_S A s.heap s.heap [] := va_S.rf
  have hc0 : 0 + 0 ≤ 0 ∧ 0 + 0 ≤ 0 := ⟨by decide, by decide⟩
  replace hl : lv_has ls 4 [(0, .ref (ad 0)), (1, .int (nI n9)), (2, .int (nI v9)), (3, .int (nI key))] := hl
  replace hP : va_P D CC (wC tk ad g rr ++ tl) s.heap := hP
  replace hK : va_K D CC (TY tk) s := hK
  refine lv_iload_n hx hb d_K_prove_0 rfl (lv_at hl 1 rfl) ?_
  refine lv_aload_n hx hb d_K_prove_1 rfl (lv_at hl 0 rfl) ?_
  refine gf_K_19 (v := .ref (ad 3)) hx hb hT hown hK hP 0 rfl rfl d_K_prove_2 ?_
  refine gf_K_89 (v := .int (g 2 0)) hx hb hT hown hK hP 3 rfl rfl d_K_prove_5 ?_
  refine st_top (show g 2 0 = nI V from hV) ?_
  refine st_icmp_gt hx hb (by omega) (by omega) d_K_prove_8 (tgt := 24) (by decide) (fun hc8 => absurd hc8 (by omega)) (fun hc8 => ?_)
  refine lv_iload_n hx hb d_K_prove_11 rfl (lv_at hl 2 rfl) ?_
  refine st_if_lt hx hb (by omega) d_K_prove_12 (tgt := 24) (by decide) (fun hc12 => hc12.elim) (fun hc12 => ?_)
  refine lv_iload_n hx hb d_K_prove_15 rfl (lv_at hl 2 rfl) ?_
  refine lv_iload_n hx hb d_K_prove_16 rfl (lv_at hl 1 rfl) ?_
  refine st_icmp_ge hx hb (by omega) (by omega) d_K_prove_17 (tgt := 24) (by decide) (fun hc17 => absurd hc17 (by omega)) (fun hc17 => ?_)
  refine lv_iconst (v := nI 1) hx hb d_K_prove_20 (by decide) ?_
  refine lv_goto hx hb d_K_prove_21 (tgt := 25) (by decide) ?_
  refine k_callv (va_runS (As := [.int (nI 1)]) (rest := []) ⟨hx, hb, hml, hown, hts⟩ (c_K_require1 l D tk s.heap.size (wC tk ad g rr ++ tl)) (cwS 1 hts (gS t_290 t_291 t_1 t_292) rfl rfl rfl (by decide +kernel) ⟨Nat.le_of_ble_eq_true rfl, Nat.le_of_ble_eq_true rfl⟩) (k_preS hP hK hD hnw) rfl rfl hl.1 rfl (lv_room (Nat.le_of_ble_eq_true rfl)) d_K_prove_25 hc0) hD hS hA (fun _ H locs hp25 hP hD hK hS => ?_)
  replace hP : va_P D CC (wC tk ad g rr ++ tl) H := hP
  replace hD : va_D A (wC tk ad g rr ++ tl) := hD
  refine lv_iload_n hx hb d_K_prove_28 rfl (lv_at hl 3 rfl) ?_
  refine k_callv (va_runS (As := [.int (nI key)]) (rest := []) ⟨hx, hb, hml, hown, hts⟩ (c_K_requireKey1 l D tk H.size key (by omega) (wC tk ad g rr ++ tl)) (cwS 1 hts (gS t_287 t_288 t_1 t_289) rfl rfl rfl (by decide +kernel) ⟨Nat.le_of_ble_eq_true rfl, Nat.le_of_ble_eq_true rfl⟩) (k_preS hP hK hD hnw) rfl rfl hl.1 rfl (lv_room (Nat.le_of_ble_eq_true rfl)) d_K_prove_29 hc0) hD hS hA (fun _ H locs hp29 hP hD hK hS => ?_)
  replace hP : va_P D CC (wC tk ad g rr ++ tl) H := hP
  replace hD : va_D A (wC tk ad g rr ++ tl) := hD
  refine lv_aload_n hx hb d_K_prove_32 rfl (lv_at hl 0 rfl) ?_
  refine gf_K_40 (v := .ref (ad 12)) hx hb hT hown hK hP 0 rfl rfl d_K_prove_33 ?_
  refine lv_aload_n hx hb d_K_prove_36 rfl (lv_at hl 0 rfl) ?_
  refine gf_K_19 (v := .ref (ad 3)) hx hb hT hown hK hP 0 rfl rfl d_K_prove_37 ?_
  refine lv_iload_n hx hb d_K_prove_40 rfl (lv_at hl 1 rfl) ?_
  refine lv_iload_n hx hb d_K_prove_41 rfl (lv_at hl 2 rfl) ?_
  refine lv_iload_n hx hb d_K_prove_42 rfl (lv_at hl 3 rfl) ?_
  refine k_callv (va_runV (As := [.ref (ad 3), .int (nI n9), .int (nI v9), .int (nI key)]) (rest := []) ⟨hx, hb, hml, hown, hts⟩ (c_P_makeProof l D tk H.size ad g rr tl S ca bl hst Xs V hV1 hV2 hh n9 v9 key hn9 hv9 hkey) (cwV 4 hts (gV t_822 t_823 t_824 t_6 t_825) rfl rfl rfl (by decide +kernel) ⟨Nat.le_of_ble_eq_true rfl, Nat.le_of_ble_eq_true rfl⟩) (k_preV hP hK hD hnw 12 rfl rfl) rfl rfl hl.1 rfl (lv_room (Nat.le_of_ble_eq_true rfl)) d_K_prove_43 hc0) hD hS hA (fun w43 H locs ⟨hfw, hpw⟩ hP hD hK hS => ?_)
  replace hP : va_P D CC (wC tk ad w43 rr ++ tl) H := hP
  replace hD : va_D A (wC tk ad w43 rr ++ tl) := hD
  refine lv_aload_n hx hb d_K_prove_46 rfl (lv_at hl 0 rfl) ?_
  refine gf_K_40 (v := .ref (ad 12)) hx hb hT hown hK hP 0 rfl rfl d_K_prove_47 ?_
  refine gf_K_154 (v := .ref (ad 13)) hx hb hT hown hK hP 12 rfl rfl d_K_prove_50 ?_
  refine gf_K_158 (v := .int (w43 8 0)) hx hb hT hown hK hP 13 rfl rfl d_K_prove_53 ?_
  exact k_iret (v := w43 8 0) hQ hx hb hr hlk hK hP hD hS w43 rfl (⟨hfw, hpw, hpw.1⟩) d_K_prove_56

set_option maxHeartbeats 4000000 in
set_option maxRecDepth 100000 in
theorem c_K_proveGrowth1 (l : Launch) (D : va_G) (tk : Nat → ClassId) (sz : Nat) (ad : Nat → Nat) (g : Nat → Nat → Int32) (rr : Nat → Nat → Option Nat) (tl : va_W) (S : List ck_I) (ca : Nat → Nat) (bl : Nat → Nat → Option Nat) (hst : sI tk tl S ca bl) (Xs : Nat → List kv_I) (V : Nat) (hV1 : 1 ≤ V) (hV2 : V ≤ 16) (hh : ∀ v, v < V → so (Xs v) ∧ tOf S ca (Xs v) (rr 1 v)) (hV : g 2 0 = nI V) (m9 n9 : Nat) (hm1 : 1 ≤ m9) (hm2 : m9 < n9) (hn9 : n9 ≤ V) : Met l y_K_proveGrowth w_K_proveGrowth ({ frames := 13, cells := 0, slots := 0, locals := 311 }) (va_Pc [.ref (ad 0), .int (nI m9), .int (nI n9)] (k_pre D (TY tk) sz (wC tk ad g rr ++ tl))) (va_Qi (fun (r : Int32) (u : Nat → Nat → Int32) => frx [8, 9] g u ∧ prfC u ([nI (grL 5 0 n9 m9).length &&& nI 255] ++ bi (fun v => rt (Xs v)) (grL 5 0 n9 m9)) ∧ r = nI ([nI (grL 5 0 n9 m9).length &&& nI 255] ++ bi (fun v => rt (Xs v)) (grL 5 0 n9 m9)).length) (fun u t => k_at D (TY tk) (va_A (wC tk ad g rr ++ tl) sz) ((fun u => wC tk ad u rr ++ tl) u) t) (va_A (wC tk ad g rr ++ tl) sz)) 0 0 (va_A (wC tk ad g rr ++ tl) sz) := by
  refine k_ofW (fun A => va_Qi (fun (r : Int32) (u : Nat → Nat → Int32) => frx [8, 9] g u ∧ prfC u ([nI (grL 5 0 n9 m9).length &&& nI 255] ++ bi (fun v => rt (Xs v)) (grL 5 0 n9 m9)) ∧ r = nI ([nI (grL 5 0 n9 m9).length &&& nI 255] ++ bi (fun v => rt (Xs v)) (grL 5 0 n9 m9)).length) (fun u t => k_at D (TY tk) A ((fun u => wC tk ad u rr ++ tl) u) t) A) (by decide) (Nat.le_of_ble_eq_true rfl) ?_
  intro p e s m args below meth c Q A ls hQ hx hb hr hlk hin hts hT hown hml hnw hP hK hD hA hsz hl
  have hS : va_S A s.heap s.heap [] := va_S.rf
  have hc0 : 0 + 0 ≤ 0 ∧ 0 + 0 ≤ 0 := ⟨by decide, by decide⟩
  replace hl : lv_has ls 3 [(0, .ref (ad 0)), (1, .int (nI m9)), (2, .int (nI n9))] := hl
  replace hP : va_P D CC (wC tk ad g rr ++ tl) s.heap := hP
  replace hK : va_K D CC (TY tk) s := hK
  refine lv_iload_n hx hb d_K_proveGrowth_0 rfl (lv_at hl 1 rfl) ?_
  refine st_if_le hx hb (by omega) d_K_proveGrowth_1 (tgt := 24) (by decide) (fun hc1 => absurd hc1 (by omega)) (fun hc1 => ?_)
  refine lv_iload_n hx hb d_K_proveGrowth_4 rfl (lv_at hl 1 rfl) ?_
  refine lv_iload_n hx hb d_K_proveGrowth_5 rfl (lv_at hl 2 rfl) ?_
  refine st_icmp_ge hx hb (by omega) (by omega) d_K_proveGrowth_6 (tgt := 24) (by decide) (fun hc6 => absurd hc6 (by omega)) (fun hc6 => ?_)
  refine lv_iload_n hx hb d_K_proveGrowth_9 rfl (lv_at hl 2 rfl) ?_
  refine lv_aload_n hx hb d_K_proveGrowth_10 rfl (lv_at hl 0 rfl) ?_
  refine gf_K_19 (v := .ref (ad 3)) hx hb hT hown hK hP 0 rfl rfl d_K_proveGrowth_11 ?_
  refine gf_K_89 (v := .int (g 2 0)) hx hb hT hown hK hP 3 rfl rfl d_K_proveGrowth_14 ?_
  refine st_top (show g 2 0 = nI V from hV) ?_
  refine st_icmp_gt hx hb (by omega) (by omega) d_K_proveGrowth_17 (tgt := 24) (by decide) (fun hc17 => absurd hc17 (by omega)) (fun hc17 => ?_)
  refine lv_iconst (v := nI 1) hx hb d_K_proveGrowth_20 (by decide) ?_
  refine lv_goto hx hb d_K_proveGrowth_21 (tgt := 25) (by decide) ?_
  refine k_callv (va_runS (As := [.int (nI 1)]) (rest := []) ⟨hx, hb, hml, hown, hts⟩ (c_K_require1 l D tk s.heap.size (wC tk ad g rr ++ tl)) (cwS 1 hts (gS t_290 t_291 t_1 t_292) rfl rfl rfl (by decide +kernel) ⟨Nat.le_of_ble_eq_true rfl, Nat.le_of_ble_eq_true rfl⟩) (k_preS hP hK hD hnw) rfl rfl hl.1 rfl (lv_room (Nat.le_of_ble_eq_true rfl)) d_K_proveGrowth_25 hc0) hD hS hA (fun _ H locs hp25 hP hD hK hS => ?_)
  replace hP : va_P D CC (wC tk ad g rr ++ tl) H := hP
  replace hD : va_D A (wC tk ad g rr ++ tl) := hD
  refine lv_aload_n hx hb d_K_proveGrowth_28 rfl (lv_at hl 0 rfl) ?_
  refine gf_K_40 (v := .ref (ad 12)) hx hb hT hown hK hP 0 rfl rfl d_K_proveGrowth_29 ?_
  refine lv_aload_n hx hb d_K_proveGrowth_32 rfl (lv_at hl 0 rfl) ?_
  refine gf_K_19 (v := .ref (ad 3)) hx hb hT hown hK hP 0 rfl rfl d_K_proveGrowth_33 ?_
  refine lv_iload_n hx hb d_K_proveGrowth_36 rfl (lv_at hl 1 rfl) ?_
  refine lv_iload_n hx hb d_K_proveGrowth_37 rfl (lv_at hl 2 rfl) ?_
  refine k_callv (va_runV (As := [.ref (ad 3), .int (nI m9), .int (nI n9)]) (rest := []) ⟨hx, hb, hml, hown, hts⟩ (c_P_makeGrowth l D tk H.size ad g rr tl S ca bl hst Xs V hV1 hV2 hh m9 n9 hm1 hm2 hn9) (cwV 3 hts (gV t_861 t_862 t_863 t_6 t_864) rfl rfl rfl (by decide +kernel) ⟨Nat.le_of_ble_eq_true rfl, Nat.le_of_ble_eq_true rfl⟩) (k_preV hP hK hD hnw 12 rfl rfl) rfl rfl hl.1 rfl (lv_room (Nat.le_of_ble_eq_true rfl)) d_K_proveGrowth_38 hc0) hD hS hA (fun w38 H locs ⟨hfw, hpw⟩ hP hD hK hS => ?_)
  replace hP : va_P D CC (wC tk ad w38 rr ++ tl) H := hP
  replace hD : va_D A (wC tk ad w38 rr ++ tl) := hD
  refine lv_aload_n hx hb d_K_proveGrowth_41 rfl (lv_at hl 0 rfl) ?_
  refine gf_K_40 (v := .ref (ad 12)) hx hb hT hown hK hP 0 rfl rfl d_K_proveGrowth_42 ?_
  refine gf_K_154 (v := .ref (ad 13)) hx hb hT hown hK hP 12 rfl rfl d_K_proveGrowth_45 ?_
  refine gf_K_158 (v := .int (w38 8 0)) hx hb hT hown hK hP 13 rfl rfl d_K_proveGrowth_48 ?_
  exact k_iret (v := w38 8 0) hQ hx hb hr hlk hK hP hD hS w38 rfl (⟨hfw, hpw, hpw.1⟩) d_K_proveGrowth_51

set_option maxHeartbeats 4000000 in
set_option maxRecDepth 100000 in
theorem c_K_proof (l : Launch) (D : va_G) (tk : Nat → ClassId) (sz : Nat) (ad : Nat → Nat) (g : Nat → Nat → Int32) (rr : Nat → Nat → Option Nat) (tl : va_W) (n : Nat) (hn : n ≤ 400) (hg : g 8 0 = nI n) (i : Int32) : Met l y_K_proof w_K_proof ({ frames := 1, cells := 0, slots := 0, locals := 21 }) (va_Pc [.ref (ad 0), .int i] (k_pre D (TY tk) sz (wC tk ad g rr ++ tl))) (va_Qi (fun (r : Int32) (_ : Unit) => r = if i < nI 0 ∨ g 8 0 - nI 1 < i then (-1) else g 9 i.toNatClampNeg) (fun u t => k_at D (TY tk) (va_A (wC tk ad g rr ++ tl) sz) ((fun _ => wC tk ad g rr ++ tl) u) t) (va_A (wC tk ad g rr ++ tl) sz)) 0 0 (va_A (wC tk ad g rr ++ tl) sz) := by
  refine k_ofW (fun A => va_Qi (fun (r : Int32) (_ : Unit) => r = if i < nI 0 ∨ g 8 0 - nI 1 < i then (-1) else g 9 i.toNatClampNeg) (fun u t => k_at D (TY tk) A ((fun _ => wC tk ad g rr ++ tl) u) t) A) (by decide) (Nat.le_of_ble_eq_true rfl) ?_
  intro p e s m args below meth c Q A ls hQ hx hb hr hlk hin hts hT hown hml hnw hP hK hD hA hsz hl
  have hS : va_S A s.heap s.heap [] := va_S.rf
  have hc0 : 0 + 0 ≤ 0 ∧ 0 + 0 ≤ 0 := ⟨by decide, by decide⟩
  replace hl : lv_has ls 2 [(0, .ref (ad 0)), (1, .int i)] := hl
  replace hP : va_P D CC (wC tk ad g rr ++ tl) s.heap := hP
  replace hK : va_K D CC (TY tk) s := hK
  refine lv_aload_n hx hb d_K_proof_0 rfl (lv_at hl 0 rfl) ?_
  refine gf_K_40 (v := .ref (ad 12)) hx hb hT hown hK hP 0 rfl rfl d_K_proof_1 ?_
  refine gf_K_154 (v := .ref (ad 13)) hx hb hT hown hK hP 12 rfl rfl d_K_proof_4 ?_
  refine lv_iload_n hx hb d_K_proof_7 rfl (lv_at hl 1 rfl) ?_
  refine k_calli (va_runV (As := [.int i]) (rest := []) ⟨hx, hb, hml, hown, hts⟩ (c_B_atP l D tk s.heap.size ad g rr tl n hn hg i) (cwV 1 hts (gV t_247 t_248 t_249 t_7 t_250) rfl rfl rfl (by decide +kernel) ⟨Nat.le_of_ble_eq_true rfl, Nat.le_of_ble_eq_true rfl⟩) (k_preV hP hK hD hnw 13 rfl rfl) rfl rfl hl.1 rfl (lv_room (Nat.le_of_ble_eq_true rfl)) d_K_proof_8 hc0) hD hS hA (fun r8 _ H locs hp8 hP hD hK hS => ?_)
  replace hP : va_P D CC (wC tk ad g rr ++ tl) H := hP
  replace hD : va_D A (wC tk ad g rr ++ tl) := hD
  exact k_iret (v := r8) hQ hx hb hr hlk hK hP hD hS () rfl hp8 d_K_proof_11

theorem tk_room {t0 j : Nat} (ht : t0 ≤ 400) (hj : j ≤ 4) (h : nI t0 + nI j ≤ nI 400) : t0 + j ≤ 400 := by
  rw [nI_add] at h
  exact (nI_leI (by omega) (by decide)).mp h

set_option maxHeartbeats 4000000 in
set_option maxRecDepth 100000 in
theorem c_K_take1 (l : Launch) (D : va_G) (tk : Nat → ClassId) (sz : Nat) (ad : Nat → Nat) (g : Nat → Nat → Int32) (rr : Nat → Nat → Option Nat) (tl : va_W) (t0 : Nat) (ht0 : t0 ≤ 400) (hg : g 20 0 = nI t0) (w : Int32) : Met l y_K_take w_K_take ({ frames := 1, cells := 0, slots := 0, locals := 23 }) (va_Pc [.ref (ad 0), .int w, .int (nI 1)] (k_pre D (TY tk) sz (wC tk ad g rr ++ tl))) (va_Qi (fun (r : Int32) (_ : Unit) => r = if ¬ t0 + 1 ≤ 400 then nI 0 else nI 1) (fun u t => k_at D (TY tk) (va_A (wC tk ad g rr ++ tl) sz) ((fun _ => wC tk ad (if ¬ t0 + 1 ≤ 400 then g else apC 20 21 g t0 w 1) rr ++ tl) u) t) (va_A (wC tk ad g rr ++ tl) sz)) 0 0 (va_A (wC tk ad g rr ++ tl) sz) := by
  refine k_ofW (fun A => va_Qi (fun (r : Int32) (_ : Unit) => r = if ¬ t0 + 1 ≤ 400 then nI 0 else nI 1) (fun u t => k_at D (TY tk) A ((fun _ => wC tk ad (if ¬ t0 + 1 ≤ 400 then g else apC 20 21 g t0 w 1) rr ++ tl) u) t) A) (by decide) (Nat.le_of_ble_eq_true rfl) ?_
  intro p e s m args below meth c Q A ls hQ hx hb hr hlk hin hts hT hown hml hnw hP hK hD hA hsz hl
  have hS : va_S A s.heap s.heap [] := va_S.rf
  have hc0 : 0 + 0 ≤ 0 ∧ 0 + 0 ≤ 0 := ⟨by decide, by decide⟩
  replace hl : lv_has ls 3 [(0, .ref (ad 0)), (1, .int w), (2, .int (nI 1))] := hl
  replace hP : va_P D CC (wC tk ad g rr ++ tl) s.heap := hP
  replace hK : va_K D CC (TY tk) s := hK
  refine lv_iload_n hx hb d_K_take_0 rfl (lv_at hl 2 rfl) ?_
  refine lv_iconst (v := nI 1) hx hb d_K_take_1 (by decide) ?_
  refine st_icmp_lt hx hb (by omega) (by omega) d_K_take_2 (tgt := 28) (by decide) (fun hc2 => (by exfalso; first | exact hc2 | omega)) (fun hc2 => ?_)
  refine lv_iload_n hx hb d_K_take_5 rfl (lv_at hl 2 rfl) ?_
  refine lv_iconst (v := nI 4) hx hb d_K_take_6 (by decide) ?_
  refine st_icmp_gt hx hb (by omega) (by omega) d_K_take_7 (tgt := 28) (by decide) (fun hc7 => (by exfalso; first | exact hc7 | omega)) (fun hc7 => ?_)
  refine lv_aload_n hx hb d_K_take_10 rfl (lv_at hl 0 rfl) ?_
  refine gf_K_47 (v := .ref (ad 15)) hx hb hT hown hK hP 0 rfl rfl d_K_take_11 ?_
  refine gf_K_168 (v := .ref (ad 16)) hx hb hT hown hK hP 15 rfl rfl d_K_take_14 ?_
  refine gf_K_158 (v := .int (g 20 0)) hx hb hT hown hK hP 16 rfl rfl d_K_take_17 ?_
  refine st_top (show g 20 0 = nI t0 from hg) ?_
  refine lv_iload_n hx hb d_K_take_20 rfl (lv_at hl 2 rfl) ?_
  refine st_iadd hx hb d_K_take_21 ?_
  refine lv_sipush (v := nI 400) hx hb d_K_take_22 (by decide) ?_
  refine st_icmp_le hx hb (by omega) (by omega) d_K_take_25 (tgt := 30) (by decide) (fun hc25 => ?_) (fun hc25 => ?_)
  · skip
    refine lv_aload_n hx hb d_K_take_30 rfl (lv_at hl 0 rfl) ?_
    refine gf_K_47 (v := .ref (ad 15)) hx hb hT hown hK hP 0 rfl rfl d_K_take_31 ?_
    refine gf_K_168 (v := .ref (ad 16)) hx hb hT hown hK hP 15 rfl rfl d_K_take_34 ?_
    refine lv_iload_n hx hb d_K_take_37 rfl (lv_at hl 1 rfl) ?_
    refine lv_iload_n hx hb d_K_take_38 rfl (lv_at hl 2 rfl) ?_
    refine k_callv (va_runV (As := [.int w, .int (nI 1)]) (rest := []) ⟨hx, hb, hml, hown, hts⟩ (c_B_appendV1 l D tk s.heap.size ad g rr tl t0 (by omega) hg w) (cwV 2 hts (gV t_255 t_256 t_257 t_7 t_258) rfl rfl rfl (by decide +kernel) ⟨Nat.le_of_ble_eq_true rfl, Nat.le_of_ble_eq_true rfl⟩) (k_preV hP hK hD hnw 16 rfl rfl) rfl rfl hl.1 rfl (lv_room (Nat.le_of_ble_eq_true rfl)) d_K_take_39 hc0) hD hS hA (fun _ H locs hp39 hP hD hK hS => ?_)
    replace hP : va_P D CC (wC tk ad (apC 20 21 g t0 w 1) rr ++ tl) H := hP
    replace hD : va_D A (wC tk ad (apC 20 21 g t0 w 1) rr ++ tl) := hD
    refine lv_iconst (v := nI 1) hx hb d_K_take_42 (by decide) ?_
    exact k_zret (v := nI 1) hQ hx hb hr hlk hK hP hD hS () (by first | rw [if_pos (by omega)] | rw [if_neg (by omega)]) (by decide) (by first | rw [if_pos (by omega)] | rw [if_neg (by omega)]) d_K_take_43
  · skip
    refine lv_iconst (v := nI 0) hx hb d_K_take_28 (by decide) ?_
    exact k_zret (v := nI 0) hQ hx hb hr hlk hK hP hD hS () (by first | rw [if_pos (by omega)] | rw [if_neg (by omega)]) (by decide) (by first | rw [if_pos (by omega)] | rw [if_neg (by omega)]) d_K_take_29

set_option maxHeartbeats 4000000 in
set_option maxRecDepth 100000 in
theorem c_K_take2 (l : Launch) (D : va_G) (tk : Nat → ClassId) (sz : Nat) (ad : Nat → Nat) (g : Nat → Nat → Int32) (rr : Nat → Nat → Option Nat) (tl : va_W) (t0 : Nat) (ht0 : t0 ≤ 400) (hg : g 20 0 = nI t0) (w : Int32) : Met l y_K_take w_K_take ({ frames := 1, cells := 0, slots := 0, locals := 23 }) (va_Pc [.ref (ad 0), .int w, .int (nI 2)] (k_pre D (TY tk) sz (wC tk ad g rr ++ tl))) (va_Qi (fun (r : Int32) (_ : Unit) => r = if ¬ t0 + 2 ≤ 400 then nI 0 else nI 1) (fun u t => k_at D (TY tk) (va_A (wC tk ad g rr ++ tl) sz) ((fun _ => wC tk ad (if ¬ t0 + 2 ≤ 400 then g else apC 20 21 g t0 w 2) rr ++ tl) u) t) (va_A (wC tk ad g rr ++ tl) sz)) 0 0 (va_A (wC tk ad g rr ++ tl) sz) := by
  refine k_ofW (fun A => va_Qi (fun (r : Int32) (_ : Unit) => r = if ¬ t0 + 2 ≤ 400 then nI 0 else nI 1) (fun u t => k_at D (TY tk) A ((fun _ => wC tk ad (if ¬ t0 + 2 ≤ 400 then g else apC 20 21 g t0 w 2) rr ++ tl) u) t) A) (by decide) (Nat.le_of_ble_eq_true rfl) ?_
  intro p e s m args below meth c Q A ls hQ hx hb hr hlk hin hts hT hown hml hnw hP hK hD hA hsz hl
  have hS : va_S A s.heap s.heap [] := va_S.rf
  have hc0 : 0 + 0 ≤ 0 ∧ 0 + 0 ≤ 0 := ⟨by decide, by decide⟩
  replace hl : lv_has ls 3 [(0, .ref (ad 0)), (1, .int w), (2, .int (nI 2))] := hl
  replace hP : va_P D CC (wC tk ad g rr ++ tl) s.heap := hP
  replace hK : va_K D CC (TY tk) s := hK
  refine lv_iload_n hx hb d_K_take_0 rfl (lv_at hl 2 rfl) ?_
  refine lv_iconst (v := nI 1) hx hb d_K_take_1 (by decide) ?_
  refine st_icmp_lt hx hb (by omega) (by omega) d_K_take_2 (tgt := 28) (by decide) (fun hc2 => (by exfalso; first | exact hc2 | omega)) (fun hc2 => ?_)
  refine lv_iload_n hx hb d_K_take_5 rfl (lv_at hl 2 rfl) ?_
  refine lv_iconst (v := nI 4) hx hb d_K_take_6 (by decide) ?_
  refine st_icmp_gt hx hb (by omega) (by omega) d_K_take_7 (tgt := 28) (by decide) (fun hc7 => (by exfalso; first | exact hc7 | omega)) (fun hc7 => ?_)
  refine lv_aload_n hx hb d_K_take_10 rfl (lv_at hl 0 rfl) ?_
  refine gf_K_47 (v := .ref (ad 15)) hx hb hT hown hK hP 0 rfl rfl d_K_take_11 ?_
  refine gf_K_168 (v := .ref (ad 16)) hx hb hT hown hK hP 15 rfl rfl d_K_take_14 ?_
  refine gf_K_158 (v := .int (g 20 0)) hx hb hT hown hK hP 16 rfl rfl d_K_take_17 ?_
  refine st_top (show g 20 0 = nI t0 from hg) ?_
  refine lv_iload_n hx hb d_K_take_20 rfl (lv_at hl 2 rfl) ?_
  refine st_iadd hx hb d_K_take_21 ?_
  refine lv_sipush (v := nI 400) hx hb d_K_take_22 (by decide) ?_
  refine st_icmp_le hx hb (by omega) (by omega) d_K_take_25 (tgt := 30) (by decide) (fun hc25 => ?_) (fun hc25 => ?_)
  · skip
    refine lv_aload_n hx hb d_K_take_30 rfl (lv_at hl 0 rfl) ?_
    refine gf_K_47 (v := .ref (ad 15)) hx hb hT hown hK hP 0 rfl rfl d_K_take_31 ?_
    refine gf_K_168 (v := .ref (ad 16)) hx hb hT hown hK hP 15 rfl rfl d_K_take_34 ?_
    refine lv_iload_n hx hb d_K_take_37 rfl (lv_at hl 1 rfl) ?_
    refine lv_iload_n hx hb d_K_take_38 rfl (lv_at hl 2 rfl) ?_
    refine k_callv (va_runV (As := [.int w, .int (nI 2)]) (rest := []) ⟨hx, hb, hml, hown, hts⟩ (c_B_appendV2 l D tk s.heap.size ad g rr tl t0 (by omega) hg w) (cwV 2 hts (gV t_255 t_256 t_257 t_7 t_258) rfl rfl rfl (by decide +kernel) ⟨Nat.le_of_ble_eq_true rfl, Nat.le_of_ble_eq_true rfl⟩) (k_preV hP hK hD hnw 16 rfl rfl) rfl rfl hl.1 rfl (lv_room (Nat.le_of_ble_eq_true rfl)) d_K_take_39 hc0) hD hS hA (fun _ H locs hp39 hP hD hK hS => ?_)
    replace hP : va_P D CC (wC tk ad (apC 20 21 g t0 w 2) rr ++ tl) H := hP
    replace hD : va_D A (wC tk ad (apC 20 21 g t0 w 2) rr ++ tl) := hD
    refine lv_iconst (v := nI 1) hx hb d_K_take_42 (by decide) ?_
    exact k_zret (v := nI 1) hQ hx hb hr hlk hK hP hD hS () (by first | rw [if_pos (by omega)] | rw [if_neg (by omega)]) (by decide) (by first | rw [if_pos (by omega)] | rw [if_neg (by omega)]) d_K_take_43
  · skip
    refine lv_iconst (v := nI 0) hx hb d_K_take_28 (by decide) ?_
    exact k_zret (v := nI 0) hQ hx hb hr hlk hK hP hD hS () (by first | rw [if_pos (by omega)] | rw [if_neg (by omega)]) (by decide) (by first | rw [if_pos (by omega)] | rw [if_neg (by omega)]) d_K_take_29

set_option maxHeartbeats 4000000 in
set_option maxRecDepth 100000 in
theorem c_K_take3 (l : Launch) (D : va_G) (tk : Nat → ClassId) (sz : Nat) (ad : Nat → Nat) (g : Nat → Nat → Int32) (rr : Nat → Nat → Option Nat) (tl : va_W) (t0 : Nat) (ht0 : t0 ≤ 400) (hg : g 20 0 = nI t0) (w : Int32) : Met l y_K_take w_K_take ({ frames := 1, cells := 0, slots := 0, locals := 23 }) (va_Pc [.ref (ad 0), .int w, .int (nI 3)] (k_pre D (TY tk) sz (wC tk ad g rr ++ tl))) (va_Qi (fun (r : Int32) (_ : Unit) => r = if ¬ t0 + 3 ≤ 400 then nI 0 else nI 1) (fun u t => k_at D (TY tk) (va_A (wC tk ad g rr ++ tl) sz) ((fun _ => wC tk ad (if ¬ t0 + 3 ≤ 400 then g else apC 20 21 g t0 w 3) rr ++ tl) u) t) (va_A (wC tk ad g rr ++ tl) sz)) 0 0 (va_A (wC tk ad g rr ++ tl) sz) := by
  refine k_ofW (fun A => va_Qi (fun (r : Int32) (_ : Unit) => r = if ¬ t0 + 3 ≤ 400 then nI 0 else nI 1) (fun u t => k_at D (TY tk) A ((fun _ => wC tk ad (if ¬ t0 + 3 ≤ 400 then g else apC 20 21 g t0 w 3) rr ++ tl) u) t) A) (by decide) (Nat.le_of_ble_eq_true rfl) ?_
  intro p e s m args below meth c Q A ls hQ hx hb hr hlk hin hts hT hown hml hnw hP hK hD hA hsz hl
  have hS : va_S A s.heap s.heap [] := va_S.rf
  have hc0 : 0 + 0 ≤ 0 ∧ 0 + 0 ≤ 0 := ⟨by decide, by decide⟩
  replace hl : lv_has ls 3 [(0, .ref (ad 0)), (1, .int w), (2, .int (nI 3))] := hl
  replace hP : va_P D CC (wC tk ad g rr ++ tl) s.heap := hP
  replace hK : va_K D CC (TY tk) s := hK
  refine lv_iload_n hx hb d_K_take_0 rfl (lv_at hl 2 rfl) ?_
  refine lv_iconst (v := nI 1) hx hb d_K_take_1 (by decide) ?_
  refine st_icmp_lt hx hb (by omega) (by omega) d_K_take_2 (tgt := 28) (by decide) (fun hc2 => (by exfalso; first | exact hc2 | omega)) (fun hc2 => ?_)
  refine lv_iload_n hx hb d_K_take_5 rfl (lv_at hl 2 rfl) ?_
  refine lv_iconst (v := nI 4) hx hb d_K_take_6 (by decide) ?_
  refine st_icmp_gt hx hb (by omega) (by omega) d_K_take_7 (tgt := 28) (by decide) (fun hc7 => (by exfalso; first | exact hc7 | omega)) (fun hc7 => ?_)
  refine lv_aload_n hx hb d_K_take_10 rfl (lv_at hl 0 rfl) ?_
  refine gf_K_47 (v := .ref (ad 15)) hx hb hT hown hK hP 0 rfl rfl d_K_take_11 ?_
  refine gf_K_168 (v := .ref (ad 16)) hx hb hT hown hK hP 15 rfl rfl d_K_take_14 ?_
  refine gf_K_158 (v := .int (g 20 0)) hx hb hT hown hK hP 16 rfl rfl d_K_take_17 ?_
  refine st_top (show g 20 0 = nI t0 from hg) ?_
  refine lv_iload_n hx hb d_K_take_20 rfl (lv_at hl 2 rfl) ?_
  refine st_iadd hx hb d_K_take_21 ?_
  refine lv_sipush (v := nI 400) hx hb d_K_take_22 (by decide) ?_
  refine st_icmp_le hx hb (by omega) (by omega) d_K_take_25 (tgt := 30) (by decide) (fun hc25 => ?_) (fun hc25 => ?_)
  · skip
    refine lv_aload_n hx hb d_K_take_30 rfl (lv_at hl 0 rfl) ?_
    refine gf_K_47 (v := .ref (ad 15)) hx hb hT hown hK hP 0 rfl rfl d_K_take_31 ?_
    refine gf_K_168 (v := .ref (ad 16)) hx hb hT hown hK hP 15 rfl rfl d_K_take_34 ?_
    refine lv_iload_n hx hb d_K_take_37 rfl (lv_at hl 1 rfl) ?_
    refine lv_iload_n hx hb d_K_take_38 rfl (lv_at hl 2 rfl) ?_
    refine k_callv (va_runV (As := [.int w, .int (nI 3)]) (rest := []) ⟨hx, hb, hml, hown, hts⟩ (c_B_appendV3 l D tk s.heap.size ad g rr tl t0 (by omega) hg w) (cwV 2 hts (gV t_255 t_256 t_257 t_7 t_258) rfl rfl rfl (by decide +kernel) ⟨Nat.le_of_ble_eq_true rfl, Nat.le_of_ble_eq_true rfl⟩) (k_preV hP hK hD hnw 16 rfl rfl) rfl rfl hl.1 rfl (lv_room (Nat.le_of_ble_eq_true rfl)) d_K_take_39 hc0) hD hS hA (fun _ H locs hp39 hP hD hK hS => ?_)
    replace hP : va_P D CC (wC tk ad (apC 20 21 g t0 w 3) rr ++ tl) H := hP
    replace hD : va_D A (wC tk ad (apC 20 21 g t0 w 3) rr ++ tl) := hD
    refine lv_iconst (v := nI 1) hx hb d_K_take_42 (by decide) ?_
    exact k_zret (v := nI 1) hQ hx hb hr hlk hK hP hD hS () (by first | rw [if_pos (by omega)] | rw [if_neg (by omega)]) (by decide) (by first | rw [if_pos (by omega)] | rw [if_neg (by omega)]) d_K_take_43
  · skip
    refine lv_iconst (v := nI 0) hx hb d_K_take_28 (by decide) ?_
    exact k_zret (v := nI 0) hQ hx hb hr hlk hK hP hD hS () (by first | rw [if_pos (by omega)] | rw [if_neg (by omega)]) (by decide) (by first | rw [if_pos (by omega)] | rw [if_neg (by omega)]) d_K_take_29

set_option maxHeartbeats 4000000 in
set_option maxRecDepth 100000 in
theorem c_K_take4 (l : Launch) (D : va_G) (tk : Nat → ClassId) (sz : Nat) (ad : Nat → Nat) (g : Nat → Nat → Int32) (rr : Nat → Nat → Option Nat) (tl : va_W) (t0 : Nat) (ht0 : t0 ≤ 400) (hg : g 20 0 = nI t0) (w : Int32) : Met l y_K_take w_K_take ({ frames := 1, cells := 0, slots := 0, locals := 23 }) (va_Pc [.ref (ad 0), .int w, .int (nI 4)] (k_pre D (TY tk) sz (wC tk ad g rr ++ tl))) (va_Qi (fun (r : Int32) (_ : Unit) => r = if ¬ t0 + 4 ≤ 400 then nI 0 else nI 1) (fun u t => k_at D (TY tk) (va_A (wC tk ad g rr ++ tl) sz) ((fun _ => wC tk ad (if ¬ t0 + 4 ≤ 400 then g else apC 20 21 g t0 w 4) rr ++ tl) u) t) (va_A (wC tk ad g rr ++ tl) sz)) 0 0 (va_A (wC tk ad g rr ++ tl) sz) := by
  refine k_ofW (fun A => va_Qi (fun (r : Int32) (_ : Unit) => r = if ¬ t0 + 4 ≤ 400 then nI 0 else nI 1) (fun u t => k_at D (TY tk) A ((fun _ => wC tk ad (if ¬ t0 + 4 ≤ 400 then g else apC 20 21 g t0 w 4) rr ++ tl) u) t) A) (by decide) (Nat.le_of_ble_eq_true rfl) ?_
  intro p e s m args below meth c Q A ls hQ hx hb hr hlk hin hts hT hown hml hnw hP hK hD hA hsz hl
  have hS : va_S A s.heap s.heap [] := va_S.rf
  have hc0 : 0 + 0 ≤ 0 ∧ 0 + 0 ≤ 0 := ⟨by decide, by decide⟩
  replace hl : lv_has ls 3 [(0, .ref (ad 0)), (1, .int w), (2, .int (nI 4))] := hl
  replace hP : va_P D CC (wC tk ad g rr ++ tl) s.heap := hP
  replace hK : va_K D CC (TY tk) s := hK
  refine lv_iload_n hx hb d_K_take_0 rfl (lv_at hl 2 rfl) ?_
  refine lv_iconst (v := nI 1) hx hb d_K_take_1 (by decide) ?_
  refine st_icmp_lt hx hb (by omega) (by omega) d_K_take_2 (tgt := 28) (by decide) (fun hc2 => (by exfalso; first | exact hc2 | omega)) (fun hc2 => ?_)
  refine lv_iload_n hx hb d_K_take_5 rfl (lv_at hl 2 rfl) ?_
  refine lv_iconst (v := nI 4) hx hb d_K_take_6 (by decide) ?_
  refine st_icmp_gt hx hb (by omega) (by omega) d_K_take_7 (tgt := 28) (by decide) (fun hc7 => (by exfalso; first | exact hc7 | omega)) (fun hc7 => ?_)
  refine lv_aload_n hx hb d_K_take_10 rfl (lv_at hl 0 rfl) ?_
  refine gf_K_47 (v := .ref (ad 15)) hx hb hT hown hK hP 0 rfl rfl d_K_take_11 ?_
  refine gf_K_168 (v := .ref (ad 16)) hx hb hT hown hK hP 15 rfl rfl d_K_take_14 ?_
  refine gf_K_158 (v := .int (g 20 0)) hx hb hT hown hK hP 16 rfl rfl d_K_take_17 ?_
  refine st_top (show g 20 0 = nI t0 from hg) ?_
  refine lv_iload_n hx hb d_K_take_20 rfl (lv_at hl 2 rfl) ?_
  refine st_iadd hx hb d_K_take_21 ?_
  refine lv_sipush (v := nI 400) hx hb d_K_take_22 (by decide) ?_
  refine st_icmp_le hx hb (by omega) (by omega) d_K_take_25 (tgt := 30) (by decide) (fun hc25 => ?_) (fun hc25 => ?_)
  · skip
    refine lv_aload_n hx hb d_K_take_30 rfl (lv_at hl 0 rfl) ?_
    refine gf_K_47 (v := .ref (ad 15)) hx hb hT hown hK hP 0 rfl rfl d_K_take_31 ?_
    refine gf_K_168 (v := .ref (ad 16)) hx hb hT hown hK hP 15 rfl rfl d_K_take_34 ?_
    refine lv_iload_n hx hb d_K_take_37 rfl (lv_at hl 1 rfl) ?_
    refine lv_iload_n hx hb d_K_take_38 rfl (lv_at hl 2 rfl) ?_
    refine k_callv (va_runV (As := [.int w, .int (nI 4)]) (rest := []) ⟨hx, hb, hml, hown, hts⟩ (c_B_appendV4 l D tk s.heap.size ad g rr tl t0 (by omega) hg w) (cwV 2 hts (gV t_255 t_256 t_257 t_7 t_258) rfl rfl rfl (by decide +kernel) ⟨Nat.le_of_ble_eq_true rfl, Nat.le_of_ble_eq_true rfl⟩) (k_preV hP hK hD hnw 16 rfl rfl) rfl rfl hl.1 rfl (lv_room (Nat.le_of_ble_eq_true rfl)) d_K_take_39 hc0) hD hS hA (fun _ H locs hp39 hP hD hK hS => ?_)
    replace hP : va_P D CC (wC tk ad (apC 20 21 g t0 w 4) rr ++ tl) H := hP
    replace hD : va_D A (wC tk ad (apC 20 21 g t0 w 4) rr ++ tl) := hD
    refine lv_iconst (v := nI 1) hx hb d_K_take_42 (by decide) ?_
    exact k_zret (v := nI 1) hQ hx hb hr hlk hK hP hD hS () (by first | rw [if_pos (by omega)] | rw [if_neg (by omega)]) (by decide) (by first | rw [if_pos (by omega)] | rw [if_neg (by omega)]) d_K_take_43
  · skip
    refine lv_iconst (v := nI 0) hx hb d_K_take_28 (by decide) ?_
    exact k_zret (v := nI 0) hQ hx hb hr hlk hK hP hD hS () (by first | rw [if_pos (by omega)] | rw [if_neg (by omega)]) (by decide) (by first | rw [if_pos (by omega)] | rw [if_neg (by omega)]) d_K_take_29

set_option maxHeartbeats 4000000 in
set_option maxRecDepth 100000 in
theorem c_K_take0 (l : Launch) (D : va_G) (tk : Nat → ClassId) (sz : Nat) (ad : Nat → Nat) (g : Nat → Nat → Int32) (rr : Nat → Nat → Option Nat) (tl : va_W) (w n : Int32) (hn : n < nI 1 ∨ nI 4 < n) : Met l y_K_take w_K_take ({ frames := 0, cells := 0, slots := 0, locals := 0 }) (va_Pc [.ref (ad 0), .int w, .int n] (k_pre D (TY tk) sz (wC tk ad g rr ++ tl))) (va_Qi (fun (r : Int32) (_ : Unit) => r = nI 0) (fun u t => k_at D (TY tk) (va_A (wC tk ad g rr ++ tl) sz) ((fun _ => wC tk ad g rr ++ tl) u) t) (va_A (wC tk ad g rr ++ tl) sz)) 0 0 (va_A (wC tk ad g rr ++ tl) sz) := by
  refine k_ofW (fun A => va_Qi (fun (r : Int32) (_ : Unit) => r = nI 0) (fun u t => k_at D (TY tk) A ((fun _ => wC tk ad g rr ++ tl) u) t) A) (by decide) (Nat.le_of_ble_eq_true rfl) ?_
  intro p e s m args below meth c Q A ls hQ hx hb hr hlk hin hts hT hown hml hnw hP hK hD hA hsz hl
  have hS : va_S A s.heap s.heap [] := va_S.rf
  have hc0 : 0 + 0 ≤ 0 ∧ 0 + 0 ≤ 0 := ⟨by decide, by decide⟩
  replace hl : lv_has ls 3 [(0, .ref (ad 0)), (1, .int w), (2, .int n)] := hl
  replace hP : va_P D CC (wC tk ad g rr ++ tl) s.heap := hP
  replace hK : va_K D CC (TY tk) s := hK
  refine lv_iload_n hx hb d_K_take_0 rfl (lv_at hl 2 rfl) ?_
  refine lv_iconst (v := nI 1) hx hb d_K_take_1 (by decide) ?_
  refine lv_icmp_lt hx hb d_K_take_2 (tgt := 28) (by decide) (fun hc2 => ?_) (fun hc2 => ?_)
  · skip
    refine lv_iconst (v := nI 0) hx hb d_K_take_28 (by decide) ?_
    exact k_zret (v := nI 0) hQ hx hb hr hlk hK hP hD hS () rfl (by decide) rfl d_K_take_29
  · skip
    refine lv_iload_n hx hb d_K_take_5 rfl (lv_at hl 2 rfl) ?_
    refine lv_iconst (v := nI 4) hx hb d_K_take_6 (by decide) ?_
    refine lv_icmp_gt hx hb d_K_take_7 (tgt := 28) (by decide) (fun hc7 => ?_) (fun hc7 => absurd (hn.resolve_left hc2) (Int32.not_lt.mpr (Int32.not_lt.mp hc7)))
    refine lv_iconst (v := nI 0) hx hb d_K_take_28 (by decide) ?_
    exact k_zret (v := nI 0) hQ hx hb hr hlk hK hP hD hS () rfl (by decide) rfl d_K_take_29

set_option maxHeartbeats 4000000 in
set_option maxRecDepth 100000 in
theorem c_K_get1 (l : Launch) (D : va_G) (tk : Nat → ClassId) (sz : Nat) (ad : Nat → Nat) (g : Nat → Nat → Int32) (rr : Nat → Nat → Option Nat) (tl : va_W) (k : Nat) (hk : k < 48) (h3 : g 3 k = nI 1) : Met l y_K_get w_K_get ({ frames := 2, cells := 0, slots := 0, locals := 40 }) (va_Pc [.ref (ad 0), .int (-1), .int (nI k)] (k_pre D (TY tk) sz (wC tk ad g rr ++ tl))) (va_Qi (fun (r : Int32) (_ : Unit) => r = g 4 k) (fun u t => k_at D (TY tk) (va_A (wC tk ad g rr ++ tl) sz) ((fun _ => wC tk ad g rr ++ tl) u) t) (va_A (wC tk ad g rr ++ tl) sz)) 0 0 (va_A (wC tk ad g rr ++ tl) sz) := by
  refine k_ofW (fun A => va_Qi (fun (r : Int32) (_ : Unit) => r = g 4 k) (fun u t => k_at D (TY tk) A ((fun _ => wC tk ad g rr ++ tl) u) t) A) (by decide) (Nat.le_of_ble_eq_true rfl) ?_
  intro p e s m args below meth c Q A ls hQ hx hb hr hlk hin hts hT hown hml hnw hP hK hD hA hsz hl
  have hS : va_S A s.heap s.heap [] := va_S.rf
  have hc0 : 0 + 0 ≤ 0 ∧ 0 + 0 ≤ 0 := ⟨by decide, by decide⟩
  replace hl : lv_has ls 4 [(0, .ref (ad 0)), (1, .int (-1)), (2, .int (nI k))] := hl
  replace hP : va_P D CC (wC tk ad g rr ++ tl) s.heap := hP
  replace hK : va_K D CC (TY tk) s := hK
  refine lv_iload_n hx hb d_K_get_0 rfl (lv_at hl 1 rfl) ?_
  refine lv_iconst (v := -1) hx hb d_K_get_1 (by decide) ?_
  refine lv_icmp_eq hx hb d_K_get_2 (tgt := 10) (by decide) (fun hc2 => ?_) (fun hc2 => absurd hc2 (by decide))
  refine lv_iload_n hx hb d_K_get_10 rfl (lv_at hl 2 rfl) ?_
  refine k_callv (va_runS (As := [.int (nI k)]) (rest := []) ⟨hx, hb, hml, hown, hts⟩ (c_K_requireKey1 l D tk s.heap.size k (by omega) (wC tk ad g rr ++ tl)) (cwS 1 hts (gS t_287 t_288 t_1 t_289) rfl rfl rfl (by decide +kernel) ⟨Nat.le_of_ble_eq_true rfl, Nat.le_of_ble_eq_true rfl⟩) (k_preS hP hK hD hnw) rfl rfl hl.1 rfl (lv_room (Nat.le_of_ble_eq_true rfl)) d_K_get_11 hc0) hD hS hA (fun _ H locs hp11 hP hD hK hS => ?_)
  replace hP : va_P D CC (wC tk ad g rr ++ tl) H := hP
  replace hD : va_D A (wC tk ad g rr ++ tl) := hD
  refine lv_iload_n hx hb d_K_get_14 rfl (lv_at hl 1 rfl) ?_
  refine lv_iconst (v := -1) hx hb d_K_get_15 (by decide) ?_
  refine lv_icmp_ne hx hb d_K_get_16 (tgt := 41) (by decide) (fun hc16 => absurd hc16 (by decide)) (fun hc16 => ?_)
  refine lv_aload_n hx hb d_K_get_19 rfl (lv_at hl 0 rfl) ?_
  refine gf_K_26 (v := .ref (ad 5)) hx hb hT hown hK hP 0 rfl rfl d_K_get_20 ?_
  refine gf_K_107 (v := .ref (ad 6)) hx hb hT hown hK hP 5 rfl rfl d_K_get_23 ?_
  refine lv_iload_n hx hb d_K_get_26 rfl (lv_at hl 2 rfl) ?_
  refine st_zald hx hb hK hP 6 1 rfl rfl (by omega) (by decide) d_K_get_27 ?_
  refine st_top (show g 3 k = nI 1 from h3) ?_
  refine k_callv (va_runS (As := [.int (nI 1)]) (rest := []) ⟨hx, hb, hml, hown, hts⟩ (c_K_requireValue1 l D tk H.size (wC tk ad g rr ++ tl)) (cwS 1 hts (gS t_751 t_752 t_1 t_753) rfl rfl rfl (by decide +kernel) ⟨Nat.le_of_ble_eq_true rfl, Nat.le_of_ble_eq_true rfl⟩) (k_preS hP hK hD hnw) rfl rfl hl.1 rfl (lv_room (Nat.le_of_ble_eq_true rfl)) d_K_get_28 hc0) hD hS hA (fun _ H locs hp28 hP hD hK hS => ?_)
  replace hP : va_P D CC (wC tk ad g rr ++ tl) H := hP
  replace hD : va_D A (wC tk ad g rr ++ tl) := hD
  refine lv_aload_n hx hb d_K_get_31 rfl (lv_at hl 0 rfl) ?_
  refine gf_K_26 (v := .ref (ad 5)) hx hb hT hown hK hP 0 rfl rfl d_K_get_32 ?_
  refine gf_K_115 (v := .ref (ad 7)) hx hb hT hown hK hP 5 rfl rfl d_K_get_35 ?_
  refine lv_iload_n hx hb d_K_get_38 rfl (lv_at hl 2 rfl) ?_
  refine st_iald hx hb hK hP 7 0 rfl rfl (by omega) (by decide) d_K_get_39 ?_
  exact k_iret (v := g 4 k) hQ hx hb hr hlk hK hP hD hS () rfl rfl d_K_get_40

set_option maxHeartbeats 4000000 in
set_option maxRecDepth 100000 in
theorem c_K_get2 (l : Launch) (D : va_G) (tk : Nat → ClassId) (sz : Nat) (ad : Nat → Nat) (g : Nat → Nat → Int32) (rr : Nat → Nat → Option Nat) (tl : va_W) (S : List ck_I) (ca : Nat → Nat) (bl : Nat → Nat → Option Nat) (hst : sI tk tl S ca bl) (Xs : Nat → List kv_I) (V : Nat) (hV1 : 1 ≤ V) (hV2 : V ≤ 16) (hh : ∀ v, v < V → so (Xs v) ∧ tOf S ca (Xs v) (rr 1 v)) (hV : g 2 0 = nI V) (j k : Nat) (hj : j < V) (hk : k < 48) (v : Int32) (hgv : gt_ (Xs j) k = some v) : Met l y_K_get w_K_get ({ frames := 3, cells := 0, slots := 0, locals := 66 }) (va_Pc [.ref (ad 0), .int (nI j), .int (nI k)] (k_pre D (TY tk) sz (wC tk ad g rr ++ tl))) (va_Qi (fun (r : Int32) (_ : Unit) => r = v) (fun u t => k_at D (TY tk) (va_A (wC tk ad g rr ++ tl) sz) ((fun _ => wC tk ad g rr ++ tl) u) t) (va_A (wC tk ad g rr ++ tl) sz)) 0 0 (va_A (wC tk ad g rr ++ tl) sz) := by
  refine k_ofW (fun A => va_Qi (fun (r : Int32) (_ : Unit) => r = v) (fun u t => k_at D (TY tk) A ((fun _ => wC tk ad g rr ++ tl) u) t) A) (by decide) (Nat.le_of_ble_eq_true rfl) ?_
  intro p e s m args below meth c Q A ls hQ hx hb hr hlk hin hts hT hown hml hnw hP hK hD hA hsz hl
  have hS : va_S A s.heap s.heap [] := va_S.rf
  have hc0 : 0 + 0 ≤ 0 ∧ 0 + 0 ≤ 0 := ⟨by decide, by decide⟩
  replace hl : lv_has ls 4 [(0, .ref (ad 0)), (1, .int (nI j)), (2, .int (nI k))] := hl
  replace hP : va_P D CC (wC tk ad g rr ++ tl) s.heap := hP
  replace hK : va_K D CC (TY tk) s := hK
  refine lv_iload_n hx hb d_K_get_0 rfl (lv_at hl 1 rfl) ?_
  refine lv_iconst (v := -1) hx hb d_K_get_1 (by decide) ?_
  refine lv_icmp_eq hx hb d_K_get_2 (tgt := 10) (by decide) (fun hc2 => (by first | exact absurd hc2 (nI_nm1 (by omega)) | exact absurd (nI_nm1 (by omega)) hc2)) (fun hc2 => ?_)
  refine lv_aload_n hx hb d_K_get_5 rfl (lv_at hl 0 rfl) ?_
  refine lv_iload_n hx hb d_K_get_6 rfl (lv_at hl 1 rfl) ?_
  refine k_callv (va_runV (As := [.int (nI j)]) (rest := []) ⟨hx, hb, hml, hown, hts⟩ (c_K_requireVersion1 l D tk s.heap.size ad g rr tl  V hV2 hV j (by omega)) (cwV 1 hts (gV t_747 t_749 s_4 t_1 t_750) rfl rfl rfl (by decide +kernel) ⟨Nat.le_of_ble_eq_true rfl, Nat.le_of_ble_eq_true rfl⟩) (k_preV hP hK hD hnw 0 rfl rfl) rfl rfl hl.1 rfl (lv_room (Nat.le_of_ble_eq_true rfl)) d_K_get_7 hc0) hD hS hA (fun _ H locs hp7 hP hD hK hS => ?_)
  replace hP : va_P D CC (wC tk ad g rr ++ tl) H := hP
  replace hD : va_D A (wC tk ad g rr ++ tl) := hD
  refine lv_iload_n hx hb d_K_get_10 rfl (lv_at hl 2 rfl) ?_
  refine k_callv (va_runS (As := [.int (nI k)]) (rest := []) ⟨hx, hb, hml, hown, hts⟩ (c_K_requireKey1 l D tk H.size k (by omega) (wC tk ad g rr ++ tl)) (cwS 1 hts (gS t_287 t_288 t_1 t_289) rfl rfl rfl (by decide +kernel) ⟨Nat.le_of_ble_eq_true rfl, Nat.le_of_ble_eq_true rfl⟩) (k_preS hP hK hD hnw) rfl rfl hl.1 rfl (lv_room (Nat.le_of_ble_eq_true rfl)) d_K_get_11 hc0) hD hS hA (fun _ H locs hp11 hP hD hK hS => ?_)
  replace hP : va_P D CC (wC tk ad g rr ++ tl) H := hP
  replace hD : va_D A (wC tk ad g rr ++ tl) := hD
  refine lv_iload_n hx hb d_K_get_14 rfl (lv_at hl 1 rfl) ?_
  refine lv_iconst (v := -1) hx hb d_K_get_15 (by decide) ?_
  refine lv_icmp_ne hx hb d_K_get_16 (tgt := 41) (by decide) (fun hc16 => ?_) (fun hc16 => (by first | exact absurd hc16 (nI_nm1 (by omega)) | exact absurd (nI_nm1 (by omega)) hc16))
  refine lv_aload_n hx hb d_K_get_41 rfl (lv_at hl 0 rfl) ?_
  refine gf_K_19 (v := .ref (ad 3)) hx hb hT hown hK hP 0 rfl rfl d_K_get_42 ?_
  refine gf_K_93 (v := .ref (ad 4)) hx hb hT hown hK hP 3 rfl rfl d_K_get_45 ?_
  refine lv_iload_n hx hb d_K_get_48 rfl (lv_at hl 1 rfl) ?_
  refine st_aald hx hb hK hP 4 3 rfl rfl (by omega) (by decide) d_K_get_49 ?_
  refine lv_iload_n hx hb d_K_get_50 rfl (lv_at hl 2 rfl) ?_
  refine k_callq (va_runS (As := [va_rf (rr 1 j), .int (nI k)]) (rest := []) ⟨hx, hb, hml, hown, hts⟩ (c_K_bottomFor l D tk H.size (wC tk ad g rr ++ tl) S ca bl (sI_C hst) (Xs j) ((hh j hj).1) (rr 1 j) ((hh j hj).2) k (by omega)) (cwS 2 hts (gS t_770 t_214 t_1 t_215) rfl rfl rfl (by decide +kernel) ⟨Nat.le_of_ble_eq_true rfl, Nat.le_of_ble_eq_true rfl⟩) (k_preS hP hK hD hnw) rfl rfl hl.1 rfl (lv_room (Nat.le_of_ble_eq_true rfl)) d_K_get_51 hc0) hD hS hA (fun r51 Y9 H locs ⟨hbo, hgt⟩ hP hD hK hS => ?_)
  replace hP : va_P D CC (wC tk ad g rr ++ tl) H := hP
  replace hD : va_D A (wC tk ad g rr ++ tl) := hD
  refine sq_astore_n (lv' := [(3, va_rf r51), (0, .ref (ad 0)), (1, .int (nI j)), (2, .int (nI k))]) hx hb d_K_get_54 rfl hl (by decide) rfl (fun ls hl => ?_)
  refine sq_aload_n hx hb d_K_get_55 rfl (lv_at hl 0 rfl) ?_
  refine lv_iload_n hx hb d_K_get_56 rfl (lv_at hl 3 rfl) ?_
  refine k_calli (va_runS (As := [va_rf r51, .int (nI k)]) (rest := []) ⟨hx, hb, hml, hown, hts⟩ (c_K_holds l D tk H.size (wC tk ad g rr ++ tl) S ca bl (sI_C hst) r51 Y9 hbo k (by omega)) (cwS 2 hts (gS t_771 t_225 t_1 t_226) rfl rfl rfl (by decide +kernel) ⟨Nat.le_of_ble_eq_true rfl, Nat.le_of_ble_eq_true rfl⟩) (k_preS hP hK hD hnw) rfl rfl hl.1 rfl (lv_room (Nat.le_of_ble_eq_true rfl)) d_K_get_57 hc0) hD hS hA (fun _ _ H locs hp57 hP hD hK hS => ?_)
  subst hp57
  replace hP : va_P D CC (wC tk ad g rr ++ tl) H := hP
  replace hD : va_D A (wC tk ad g rr ++ tl) := hD
  refine st_top (show (if gt_ Y9 k = none then nI 0 else nI 1) = nI 1 from by rw [if_neg (by rw [hgt, hgv]; simp)]) ?_
  refine k_callv (va_runS (As := [.int (nI 1)]) (rest := []) ⟨hx, hb, hml, hown, hts⟩ (c_K_requireValue1 l D tk H.size (wC tk ad g rr ++ tl)) (cwS 1 hts (gS t_751 t_752 t_1 t_753) rfl rfl rfl (by decide +kernel) ⟨Nat.le_of_ble_eq_true rfl, Nat.le_of_ble_eq_true rfl⟩) (k_preS hP hK hD hnw) rfl rfl hl.1 rfl (lv_room (Nat.le_of_ble_eq_true rfl)) d_K_get_60 hc0) hD hS hA (fun _ H locs hp60 hP hD hK hS => ?_)
  replace hP : va_P D CC (wC tk ad g rr ++ tl) H := hP
  replace hD : va_D A (wC tk ad g rr ++ tl) := hD
  refine sq_aload_n hx hb d_K_get_63 rfl (lv_at hl 0 rfl) ?_
  refine lv_iload_n hx hb d_K_get_64 rfl (lv_at hl 3 rfl) ?_
  refine k_calli (va_runS (As := [va_rf r51, .int (nI k)]) (rest := []) ⟨hx, hb, hml, hown, hts⟩ (c_K_valueIn l D tk H.size (wC tk ad g rr ++ tl) S ca bl (sI_C hst) r51 Y9 hbo k (by omega)) (cwS 2 hts (gS t_772 t_229 t_1 t_230) rfl rfl rfl (by decide +kernel) ⟨Nat.le_of_ble_eq_true rfl, Nat.le_of_ble_eq_true rfl⟩) (k_preS hP hK hD hnw) rfl rfl hl.1 rfl (lv_room (Nat.le_of_ble_eq_true rfl)) d_K_get_65 hc0) hD hS hA (fun r65 _ H locs hp65 hP hD hK hS => ?_)
  replace hP : va_P D CC (wC tk ad g rr ++ tl) H := hP
  replace hD : va_D A (wC tk ad g rr ++ tl) := hD
  exact k_iret (v := r65) hQ hx hb hr hlk hK hP hD hS () rfl (hp65 v (by rw [hgt]; exact hgv)) d_K_get_68

def rgC (X : List kv_I) (lo hi : Int32) : Nat → Nat
  | 0 => 0
  | k + 1 => if gt_ X k = none ∨ nI k < lo ∨ hi < nI k then rgC X lo hi k else rgC X lo hi k + 1
theorem rgC_le (X : List kv_I) (lo hi : Int32) : ∀ k, rgC X lo hi k ≤ k := by
  intro k
  induction k with
  | zero => exact Nat.le_refl _
  | succ k ih => rw [rgC]; split <;> omega
theorem rgC_lo {X : List kv_I} {lo hi : Int32} : ∀ k, (∀ j, j < k → nI j < lo) → rgC X lo hi k = 0 := by
  intro k
  induction k with
  | zero => intro _; rfl
  | succ k ih =>
    intro h
    rw [rgC, if_pos (Or.inr (Or.inl (h k (by omega))))]
    exact ih (fun j hj => h j (by omega))
theorem rgC_hi {X : List kv_I} {lo hi : Int32} {a : Nat} : ∀ k, a ≤ k → (∀ j, a ≤ j → j < k → hi < nI j) → rgC X lo hi k = rgC X lo hi a := by
  intro k
  induction k with
  | zero => intro h _; rw [Nat.le_zero.mp h]
  | succ k ih =>
    intro h h2
    by_cases e : a = k + 1
    · rw [e]
    · rw [rgC, if_pos (Or.inr (Or.inr (h2 k (by omega) (by omega))))]
      exact ih (by omega) (fun j h3 h4 => h2 j h3 (by omega))
/-- the greater of a number and 0, the smaller of a number and 47 -/
theorem mx0 (x : Int32) : ∃ a : Nat, a < 2 ^ 31 ∧ (if x < nI 0 then nI 0 else x) = nI a ∧ ∀ j, j < a → j < 2 ^ 31 → nI j < x := by
  by_cases h : x < nI 0
  · exact ⟨0, by decide, by rw [if_pos h], fun j hj => absurd hj (Nat.not_lt_zero _)⟩
  · obtain ⟨j, hj, e⟩ := nI_of (x := x) h
    refine ⟨j, hj, by rw [if_neg h, e], fun i hi hi2 => ?_⟩
    rw [e]
    exact nI_lt hi hj
