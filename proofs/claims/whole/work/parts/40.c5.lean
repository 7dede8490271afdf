theorem wyl_le : ∀ (d p q v : Nat), q ≤ 2 ^ d → q ≤ 16 → (wyL (d + 1) p q v).length ≤ d := by
  intro d
  induction d with
  | zero =>
    intro p q v h _
    have : 2 ^ 0 = 1 := rfl
    rw [wyL_0 (by omega)]; exact Nat.le_refl _
  | succ d ih =>
    intro p q v h h3
    by_cases hq : q ≤ 1
    · rw [wyL_0 hq]; exact Nat.zero_le _
    · have hb := hf_b (q := q) (by omega) h3
      have h4 := hf_2 (by omega) h3 h
      by_cases hv : v < p + hf q
      · rw [wyL_l hq hv, List.length_cons]
        have := ih p (hf q) v h4.1 (by omega)
        omega
      · rw [wyL_r hq hv, List.length_cons]
        have := ih (p + hf q) (q - hf q) v h4.2 (by omega)
        omega
theorem grl_le : ∀ (d p q m : Nat), m ≤ q → 1 ≤ m → q ≤ 2 ^ d → q ≤ 16 → (grL (d + 1) p q m).length ≤ d + 1 := by
  intro d
  induction d with
  | zero =>
    intro p q m h1 h2 h _
    have : 2 ^ 0 = 1 := rfl
    rw [grL, if_pos (by omega)]
    split <;> simp
  | succ d ih =>
    intro p q m h1 h2 h h3
    rw [grL]
    split
    · split <;> simp
    · next hm =>
      have hb := hf_b (q := q) (by omega) h3
      have h4 := hf_2 (by omega) h3 h
      split
      · next h5 =>
        have := ih p (hf q) m h5 h2 h4.1 (by omega)
        rw [List.length_cons]; omega
      · next h5 =>
        have := ih (p + hf q) (q - hf q) (m - hf q) (by omega) (by omega) h4.2 (by omega)
        rw [List.length_cons]; omega
theorem bi_nil (f : Nat → Int32) : bi f [] = [] := rfl
theorem bi_gr0 {f : Nat → Int32} {d p q : Nat} : bi f (grL (d + 1) p q q) = if 0 < p then ib (slM f p q) else [] := by
  rw [grL, if_pos rfl]
  split
  · rw [bi_cons, bi_nil, List.nil_append]
  · exact bi_nil f
theorem bi_gr {f : Nat → Int32} {d p q m : Nat} (h : ¬ m = q) : bi f (grL (d + 1) p q m) = if m ≤ hf q then bi f (grL d p (hf q) m) ++ ib (slM f (p + hf q) (q - hf q)) else bi f (grL d (p + hf q) (q - hf q) (m - hf q)) ++ ib (slM f p (hf q)) := by
  rw [grL, if_neg h]
  split
  · rw [bi_cons]
  · rw [bi_cons]
theorem prfC_0 (g : Nat → Nat → Int32) : prfC (mup g 8 0 (nI 0)) [] := ⟨rd_eq, fun i x h => by simp at h⟩
theorem prfC_s {u : Nat → Nat → Int32} {y x : Int32} {r : List Int32} (h : prfC u ([y] ++ r)) : prfC (mup u 9 0 x) ([x] ++ r) := by
  refine ⟨by rw [mup_ne (by decide)]; exact h.1, fun i z hz => ?_⟩
  rw [mup_eq]
  unfold upd
  cases i with
  | zero => rw [if_pos rfl]; exact Option.some.inj hz
  | succ i => rw [if_neg (by omega)]; exact h.2 (i + 1) z hz
theorem nI_div4 {L : Nat} (h : L ≤ 5) : nI (4 * L) / nI 4 = nI L &&& nI 255 := by
  have : ∀ L, L ≤ 5 → nI (4 * L) / nI 4 = nI L &&& nI 255 := by decide +kernel
  exact this L h

set_option maxHeartbeats 4000000 in
set_option maxRecDepth 100000 in
theorem c_P_addWay0 (l : Launch) (D : va_G) (tk : Nat → ClassId) (sz : Nat) (ad : Nat → Nat) (g : Nat → Nat → Int32) (rr : Nat → Nat → Option Nat) (tl : va_W) (S : List ck_I) (ca : Nat → Nat) (bl : Nat → Nat → Option Nat) (hst : sI tk tl S ca bl) (Xs : Nat → List kv_I) (V : Nat) (hV1 : 1 ≤ V) (hV2 : V ≤ 16) (hh : ∀ v, v < V → so (Xs v) ∧ tOf S ca (Xs v) (rr 1 v)) (B : List Int32) (hB : prfC g B) (hn : B.length + 0 ≤ 400) (p9 q9 v9 : Nat) (hq1 : 1 ≤ q9) (hq2 : q9 ≤ 1) (hpq : p9 + q9 ≤ V) (hv1 : p9 ≤ v9) (hv2 : v9 < p9 + q9) : Met l y_P_addWay w_P_addWay ({ frames := 0, cells := 0, slots := 0, locals := 0 }) (va_Pc [.ref (ad 12), .ref (ad 3), .int (nI p9), .int (nI q9), .int (nI v9)] (k_pre D (TY tk) sz (wC tk ad g rr ++ tl))) (va_Qv (fun (u : Nat → Nat → Int32) => frx [8, 9] g u ∧ prfC u (B ++ bi (fun v => rt (Xs v)) (wyL 1 p9 q9 v9))) (fun u t => k_at D (TY tk) (va_A (wC tk ad g rr ++ tl) sz) ((fun u => wC tk ad u rr ++ tl) u) t) (va_A (wC tk ad g rr ++ tl) sz)) 0 0 (va_A (wC tk ad g rr ++ tl) sz) := by
  refine k_ofW (fun A => va_Qv (fun (u : Nat → Nat → Int32) => frx [8, 9] g u ∧ prfC u (B ++ bi (fun v => rt (Xs v)) (wyL 1 p9 q9 v9))) (fun u t => k_at D (TY tk) A ((fun u => wC tk ad u rr ++ tl) u) t) A) (by decide) (Nat.le_of_ble_eq_true rfl) ?_
  intro p e s m args below meth c Q A ls hQ hx hb hr hlk hin hts hT hown hml hnw hP hK hD hA hsz hl
  have hS : va_S A s.heap s.heap [] := va_S.rf
  have hc0 : 0 + 0 ≤ 0 ∧ 0 + 0 ≤ 0 := ⟨by decide, by decide⟩
  replace hl : lv_has ls 7 [(0, .ref (ad 12)), (1, .ref (ad 3)), (2, .int (nI p9)), (3, .int (nI q9)), (4, .int (nI v9))] := hl
  replace hP : va_P D CC (wC tk ad g rr ++ tl) s.heap := hP
  replace hK : va_K D CC (TY tk) s := hK
  refine lv_iload_n hx hb d_P_addWay_0 rfl (lv_at hl 3 rfl) ?_
  refine lv_iconst (v := nI 2) hx hb d_P_addWay_1 (by decide) ?_
  refine st_icmp_ge hx hb (by omega) (by omega) d_P_addWay_2 (tgt := 6) (by decide) (fun hc2 => absurd hc2 (by omega)) (fun hc2 => ?_)
  exact k_vret hQ hx hb hr hlk hK hP hD hS g rfl (⟨frx_r, by rw [wyL_0 (by omega), bi_nil, List.append_nil]; exact hB⟩) d_P_addWay_5

set_option maxHeartbeats 4000000 in
set_option maxRecDepth 100000 in
theorem c_P_addWay1 (l : Launch) (D : va_G) (tk : Nat → ClassId) (sz : Nat) (ad : Nat → Nat) (g : Nat → Nat → Int32) (rr : Nat → Nat → Option Nat) (tl : va_W) (S : List ck_I) (ca : Nat → Nat) (bl : Nat → Nat → Option Nat) (hst : sI tk tl S ca bl) (Xs : Nat → List kv_I) (V : Nat) (hV1 : 1 ≤ V) (hV2 : V ≤ 16) (hh : ∀ v, v < V → so (Xs v) ∧ tOf S ca (Xs v) (rr 1 v)) (B : List Int32) (hB : prfC g B) (hn : B.length + 4 ≤ 400) (p9 q9 v9 : Nat) (hq1 : 1 ≤ q9) (hq2 : q9 ≤ 2) (hpq : p9 + q9 ≤ V) (hv1 : p9 ≤ v9) (hv2 : v9 < p9 + q9) : Met l y_P_addWay w_P_addWay ({ frames := 7, cells := 0, slots := 0, locals := 158 }) (va_Pc [.ref (ad 12), .ref (ad 3), .int (nI p9), .int (nI q9), .int (nI v9)] (k_pre D (TY tk) sz (wC tk ad g rr ++ tl))) (va_Qv (fun (u : Nat → Nat → Int32) => frx [8, 9] g u ∧ prfC u (B ++ bi (fun v => rt (Xs v)) (wyL 2 p9 q9 v9))) (fun u t => k_at D (TY tk) (va_A (wC tk ad g rr ++ tl) sz) ((fun u => wC tk ad u rr ++ tl) u) t) (va_A (wC tk ad g rr ++ tl) sz)) 0 0 (va_A (wC tk ad g rr ++ tl) sz) := by
  refine k_ofW (fun A => va_Qv (fun (u : Nat → Nat → Int32) => frx [8, 9] g u ∧ prfC u (B ++ bi (fun v => rt (Xs v)) (wyL 2 p9 q9 v9))) (fun u t => k_at D (TY tk) A ((fun u => wC tk ad u rr ++ tl) u) t) A) (by decide) (Nat.le_of_ble_eq_true rfl) ?_
  intro p e s m args below meth c Q A ls hQ hx hb hr hlk hin hts hT hown hml hnw hP hK hD hA hsz hl
  have hS : va_S A s.heap s.heap [] := va_S.rf
  have hc0 : 0 + 0 ≤ 0 ∧ 0 + 0 ≤ 0 := ⟨by decide, by decide⟩
  replace hl : lv_has ls 7 [(0, .ref (ad 12)), (1, .ref (ad 3)), (2, .int (nI p9)), (3, .int (nI q9)), (4, .int (nI v9))] := hl
  replace hP : va_P D CC (wC tk ad g rr ++ tl) s.heap := hP
  replace hK : va_K D CC (TY tk) s := hK
  refine lv_iload_n hx hb d_P_addWay_0 rfl (lv_at hl 3 rfl) ?_
  refine lv_iconst (v := nI 2) hx hb d_P_addWay_1 (by decide) ?_
  refine st_icmp_ge hx hb (by omega) (by omega) d_P_addWay_2 (tgt := 6) (by decide) (fun hc2 => ?_) (fun hc2 => ?_)
  · skip
    refine lv_iload_n hx hb d_P_addWay_6 rfl (lv_at hl 3 rfl) ?_
    refine k_calli (va_runSN (As := [.int (nI q9)]) (rest := []) ⟨hx, hb, hml, hown, hts⟩ (c_K_half l D tk s.heap.size q9 (by omega) (wC tk ad g rr ++ tl)) ⟨(va_cnB 1 hts (gB t_810) rfl rfl rfl (hnw.1 _ _ _ _ n_839) (hT _ t_1) (by decide +kernel) ⟨Nat.le_of_ble_eq_true rfl, Nat.le_of_ble_eq_true rfl⟩), hT _ t_809, trivial⟩ (k_preS hP hK hD hnw) rfl rfl hl.1 rfl (lv_room (Nat.le_of_ble_eq_true rfl)) d_P_addWay_7 hc0) hD hS hA (fun _ _ H locs hp7 hP hD hK hS => ?_)
    subst hp7
    have hhf := hf_b (q := q9) (by omega) (by omega)
    replace hP : va_P D CC (wC tk ad g rr ++ tl) H := hP
    replace hD : va_D A (wC tk ad g rr ++ tl) := hD
    refine lv_istore (lv' := [(5, .int (nI (hf q9))), (0, .ref (ad 12)), (1, .ref (ad 3)), (2, .int (nI p9)), (3, .int (nI q9)), (4, .int (nI v9))]) hx hb d_P_addWay_10 hl (by decide) rfl (fun ls hl => ?_)
    refine lv_iload_n hx hb d_P_addWay_12 rfl (lv_at hl 3 rfl) ?_
    refine lv_iload hx hb d_P_addWay_13 (lv_at hl 0 rfl) ?_
    refine st_iadd hx hb d_P_addWay_15 ?_
    refine lv_istore (lv' := [(6, .int (nI (p9 + (hf q9)))), (5, .int (nI (hf q9))), (0, .ref (ad 12)), (1, .ref (ad 3)), (2, .int (nI p9)), (3, .int (nI q9)), (4, .int (nI v9))]) hx hb d_P_addWay_16 hl (by decide) rfl (fun ls hl => ?_)
    refine lv_iload hx hb d_P_addWay_18 (lv_at hl 6 rfl) ?_
    refine lv_iload hx hb d_P_addWay_20 (lv_at hl 0 rfl) ?_
    refine st_icmp_ge hx hb (by omega) (by omega) d_P_addWay_22 (tgt := 55) (by decide) (fun hc22 => ?_) (fun hc22 => ?_)
    · skip
      refine lv_aload_n hx hb d_P_addWay_55 rfl (lv_at hl 2 rfl) ?_
      refine lv_aload_n hx hb d_P_addWay_56 rfl (lv_at hl 3 rfl) ?_
      refine lv_iload hx hb d_P_addWay_57 (lv_at hl 0 rfl) ?_
      refine lv_iload_n hx hb d_P_addWay_59 rfl (lv_at hl 5 rfl) ?_
      refine lv_iload hx hb d_P_addWay_60 (lv_at hl 1 rfl) ?_
      refine st_isub hx hb (by omega) d_P_addWay_62 ?_
      refine lv_iload hx hb d_P_addWay_63 (lv_at hl 6 rfl) ?_
      refine k_callv (va_runV (As := [.ref (ad 3), .int (nI (p9 + (hf q9))), .int (nI (q9 - (hf q9))), .int (nI v9)]) (rest := []) ⟨hx, hb, hml, hown, hts⟩ (c_P_addWay0 l D tk H.size ad g rr tl S ca bl hst Xs V hV1 hV2 hh B hB (by omega) (p9 + (hf q9)) (q9 - (hf q9)) v9 (by omega) (by omega) (by omega) (by omega) (by omega)) (cwV 4 hts (gV t_835 t_837 s_6 t_6 t_838) rfl rfl rfl (by decide +kernel) ⟨Nat.le_of_ble_eq_true rfl, Nat.le_of_ble_eq_true rfl⟩) (k_preV hP hK hD hnw 12 rfl rfl) rfl rfl hl.1 rfl (lv_room (Nat.le_of_ble_eq_true rfl)) d_P_addWay_65 hc0) hD hS hA (fun u1 H locs hw1 hP hD hK hS => ?_)
      have hF1 : frx [8, 9] g u1 := frx_t frx_r hw1.1 (fun x h9 => ⟨h9, h9⟩)
      have hB1 : prfC u1 (B ++ bi (fun v => rt (Xs v)) (wyL 1 (p9 + (hf q9)) (q9 - (hf q9)) v9)) := hw1.2
      have hwl1 : (wyL 1 (p9 + (hf q9)) (q9 - (hf q9)) v9).length ≤ 0 := wyl_le 0 (p9 + (hf q9)) (q9 - (hf q9)) v9 (by omega) (by omega)
      replace hP : va_P D CC (wC tk ad u1 rr ++ tl) H := hP
      replace hD : va_D A (wC tk ad u1 rr ++ tl) := hD
      refine lv_aload_n hx hb d_P_addWay_68 rfl (lv_at hl 2 rfl) ?_
      refine gf_P_10 (v := .ref (ad 13)) hx hb hT hown hK hP 12 rfl rfl d_P_addWay_69 ?_
      refine lv_aload_n hx hb d_P_addWay_72 rfl (lv_at hl 3 rfl) ?_
      refine lv_iload_n hx hb d_P_addWay_73 rfl (lv_at hl 4 rfl) ?_
      refine lv_iload hx hb d_P_addWay_74 (lv_at hl 1 rfl) ?_
      refine k_calli (va_runVN (As := [.int (nI p9), .int (nI (hf q9))]) (rest := [.ref (ad 13)]) ⟨hx, hb, hml, hown, hts⟩ (c_H_seal4 l D tk H.size ad u1 rr tl S ca bl hst Xs V hV1 hV2 hh p9 (hf q9) (by omega) (by omega) (by omega)) ⟨(va_cnB 2 hts (gB t_803) rfl rfl rfl (hnw.1 _ _ _ _ n_840) (hT _ t_3) (by decide +kernel) ⟨Nat.le_of_ble_eq_true rfl, Nat.le_of_ble_eq_true rfl⟩), hT _ t_802, hT _ s_5⟩ (k_preV hP hK hD hnw 3 rfl rfl) rfl rfl hl.1 rfl (lv_room (Nat.le_of_ble_eq_true rfl)) d_P_addWay_76 hc0) hD hS hA (fun _ _ H locs hp76 hP hD hK hS => ?_)
      subst hp76
      replace hP : va_P D CC (wC tk ad u1 rr ++ tl) H := hP
      replace hD : va_D A (wC tk ad u1 rr ++ tl) := hD
      refine k_callv (va_runV (As := [.int (slC (fun v => rt (Xs v)) 4 p9 (hf q9))]) (rest := []) ⟨hx, hb, hml, hown, hts⟩ (c_B_appendInt l D tk H.size ad u1 rr tl (B ++ bi (fun v => rt (Xs v)) (wyL 1 (p9 + (hf q9)) (q9 - (hf q9)) v9)) hB1 (by first | omega | (simp only [List.length_append, bi_len]; omega)) (slC (fun v => rt (Xs v)) 4 p9 (hf q9))) (cwV 1 hts (gV t_841 t_842 t_843 t_7 t_844) rfl rfl rfl (by decide +kernel) ⟨Nat.le_of_ble_eq_true rfl, Nat.le_of_ble_eq_true rfl⟩) (k_preV hP hK hD hnw 13 rfl rfl) rfl rfl hl.1 rfl (lv_room (Nat.le_of_ble_eq_true rfl)) d_P_addWay_79 hc0) hD hS hA (fun _ H locs hp79 hP hD hK hS => ?_)
      replace hP : va_P D CC (wC tk ad (apC 8 9 u1 (B ++ bi (fun v => rt (Xs v)) (wyL 1 (p9 + (hf q9)) (q9 - (hf q9)) v9)).length (slC (fun v => rt (Xs v)) 4 p9 (hf q9)) 4) rr ++ tl) H := hP
      replace hD : va_D A (wC tk ad (apC 8 9 u1 (B ++ bi (fun v => rt (Xs v)) (wyL 1 (p9 + (hf q9)) (q9 - (hf q9)) v9)).length (slC (fun v => rt (Xs v)) 4 p9 (hf q9)) 4) rr ++ tl) := hD
      have hB2 : prfC (apC 8 9 u1 (B ++ bi (fun v => rt (Xs v)) (wyL 1 (p9 + (hf q9)) (q9 - (hf q9)) v9)).length (slC (fun v => rt (Xs v)) 4 p9 (hf q9)) 4) ((B ++ bi (fun v => rt (Xs v)) (wyL 1 (p9 + (hf q9)) (q9 - (hf q9)) v9)) ++ ib (slC (fun v => rt (Xs v)) 4 p9 (hf q9))) := prfC_i hB1 (slC (fun v => rt (Xs v)) 4 p9 (hf q9))
      have hF2 : frx [8, 9] g (apC 8 9 u1 (B ++ bi (fun v => rt (Xs v)) (wyL 1 (p9 + (hf q9)) (q9 - (hf q9)) v9)).length (slC (fun v => rt (Xs v)) 4 p9 (hf q9)) 4) := apC_fr 8 9 g _ _ _ _ hF1
      generalize (apC 8 9 u1 (B ++ bi (fun v => rt (Xs v)) (wyL 1 (p9 + (hf q9)) (q9 - (hf q9)) v9)).length (slC (fun v => rt (Xs v)) 4 p9 (hf q9)) 4) = u2 at hP hD hB2 hF2
      replace hP : va_P D CC (wC tk ad u2 rr ++ tl) H := hP
      replace hD : va_D A (wC tk ad u2 rr ++ tl) := hD
      exact k_vret hQ hx hb hr hlk hK hP hD hS u2 rfl (⟨hF2, by rw [bi_wy (by omega)]; first | (rw [if_pos (by omega), ← sl_eq _ _ _ (by omega) (by omega), ← List.append_assoc]; exact hB2) | (rw [if_neg (by omega), ← sl_eq _ _ _ (by omega) (by omega), ← List.append_assoc]; exact hB2)⟩) d_P_addWay_82
    · skip
      refine lv_aload_n hx hb d_P_addWay_25 rfl (lv_at hl 2 rfl) ?_
      refine lv_aload_n hx hb d_P_addWay_26 rfl (lv_at hl 3 rfl) ?_
      refine lv_iload_n hx hb d_P_addWay_27 rfl (lv_at hl 4 rfl) ?_
      refine lv_iload hx hb d_P_addWay_28 (lv_at hl 1 rfl) ?_
      refine lv_iload hx hb d_P_addWay_30 (lv_at hl 6 rfl) ?_
      refine k_callv (va_runV (As := [.ref (ad 3), .int (nI p9), .int (nI (hf q9)), .int (nI v9)]) (rest := []) ⟨hx, hb, hml, hown, hts⟩ (c_P_addWay0 l D tk H.size ad g rr tl S ca bl hst Xs V hV1 hV2 hh B hB (by omega) p9 (hf q9) v9 (by omega) (by omega) (by omega) (by omega) (by omega)) (cwV 4 hts (gV t_835 t_837 s_6 t_6 t_838) rfl rfl rfl (by decide +kernel) ⟨Nat.le_of_ble_eq_true rfl, Nat.le_of_ble_eq_true rfl⟩) (k_preV hP hK hD hnw 12 rfl rfl) rfl rfl hl.1 rfl (lv_room (Nat.le_of_ble_eq_true rfl)) d_P_addWay_32 hc0) hD hS hA (fun u3 H locs hw3 hP hD hK hS => ?_)
      have hF3 : frx [8, 9] g u3 := frx_t frx_r hw3.1 (fun x h9 => ⟨h9, h9⟩)
      have hB3 : prfC u3 (B ++ bi (fun v => rt (Xs v)) (wyL 1 p9 (hf q9) v9)) := hw3.2
      have hwl3 : (wyL 1 p9 (hf q9) v9).length ≤ 0 := wyl_le 0 p9 (hf q9) v9 (by omega) (by omega)
      replace hP : va_P D CC (wC tk ad u3 rr ++ tl) H := hP
      replace hD : va_D A (wC tk ad u3 rr ++ tl) := hD
      refine lv_aload_n hx hb d_P_addWay_35 rfl (lv_at hl 2 rfl) ?_
      refine gf_P_10 (v := .ref (ad 13)) hx hb hT hown hK hP 12 rfl rfl d_P_addWay_36 ?_
      refine lv_aload_n hx hb d_P_addWay_39 rfl (lv_at hl 3 rfl) ?_
      refine lv_iload hx hb d_P_addWay_40 (lv_at hl 0 rfl) ?_
      refine lv_iload_n hx hb d_P_addWay_42 rfl (lv_at hl 5 rfl) ?_
      refine lv_iload hx hb d_P_addWay_43 (lv_at hl 1 rfl) ?_
      refine st_isub hx hb (by omega) d_P_addWay_45 ?_
      refine k_calli (va_runVN (As := [.int (nI (p9 + (hf q9))), .int (nI (q9 - (hf q9)))]) (rest := [.ref (ad 13)]) ⟨hx, hb, hml, hown, hts⟩ (c_H_seal4 l D tk H.size ad u3 rr tl S ca bl hst Xs V hV1 hV2 hh (p9 + (hf q9)) (q9 - (hf q9)) (by omega) (by omega) (by omega)) ⟨(va_cnB 2 hts (gB t_803) rfl rfl rfl (hnw.1 _ _ _ _ n_840) (hT _ t_3) (by decide +kernel) ⟨Nat.le_of_ble_eq_true rfl, Nat.le_of_ble_eq_true rfl⟩), hT _ t_802, hT _ s_5⟩ (k_preV hP hK hD hnw 3 rfl rfl) rfl rfl hl.1 rfl (lv_room (Nat.le_of_ble_eq_true rfl)) d_P_addWay_46 hc0) hD hS hA (fun _ _ H locs hp46 hP hD hK hS => ?_)
      subst hp46
      replace hP : va_P D CC (wC tk ad u3 rr ++ tl) H := hP
      replace hD : va_D A (wC tk ad u3 rr ++ tl) := hD
      refine k_callv (va_runV (As := [.int (slC (fun v => rt (Xs v)) 4 (p9 + (hf q9)) (q9 - (hf q9)))]) (rest := []) ⟨hx, hb, hml, hown, hts⟩ (c_B_appendInt l D tk H.size ad u3 rr tl (B ++ bi (fun v => rt (Xs v)) (wyL 1 p9 (hf q9) v9)) hB3 (by first | omega | (simp only [List.length_append, bi_len]; omega)) (slC (fun v => rt (Xs v)) 4 (p9 + (hf q9)) (q9 - (hf q9)))) (cwV 1 hts (gV t_841 t_842 t_843 t_7 t_844) rfl rfl rfl (by decide +kernel) ⟨Nat.le_of_ble_eq_true rfl, Nat.le_of_ble_eq_true rfl⟩) (k_preV hP hK hD hnw 13 rfl rfl) rfl rfl hl.1 rfl (lv_room (Nat.le_of_ble_eq_true rfl)) d_P_addWay_49 hc0) hD hS hA (fun _ H locs hp49 hP hD hK hS => ?_)
      replace hP : va_P D CC (wC tk ad (apC 8 9 u3 (B ++ bi (fun v => rt (Xs v)) (wyL 1 p9 (hf q9) v9)).length (slC (fun v => rt (Xs v)) 4 (p9 + (hf q9)) (q9 - (hf q9))) 4) rr ++ tl) H := hP
      replace hD : va_D A (wC tk ad (apC 8 9 u3 (B ++ bi (fun v => rt (Xs v)) (wyL 1 p9 (hf q9) v9)).length (slC (fun v => rt (Xs v)) 4 (p9 + (hf q9)) (q9 - (hf q9))) 4) rr ++ tl) := hD
      have hB4 : prfC (apC 8 9 u3 (B ++ bi (fun v => rt (Xs v)) (wyL 1 p9 (hf q9) v9)).length (slC (fun v => rt (Xs v)) 4 (p9 + (hf q9)) (q9 - (hf q9))) 4) ((B ++ bi (fun v => rt (Xs v)) (wyL 1 p9 (hf q9) v9)) ++ ib (slC (fun v => rt (Xs v)) 4 (p9 + (hf q9)) (q9 - (hf q9)))) := prfC_i hB3 (slC (fun v => rt (Xs v)) 4 (p9 + (hf q9)) (q9 - (hf q9)))
      have hF4 : frx [8, 9] g (apC 8 9 u3 (B ++ bi (fun v => rt (Xs v)) (wyL 1 p9 (hf q9) v9)).length (slC (fun v => rt (Xs v)) 4 (p9 + (hf q9)) (q9 - (hf q9))) 4) := apC_fr 8 9 g _ _ _ _ hF3
      generalize (apC 8 9 u3 (B ++ bi (fun v => rt (Xs v)) (wyL 1 p9 (hf q9) v9)).length (slC (fun v => rt (Xs v)) 4 (p9 + (hf q9)) (q9 - (hf q9))) 4) = u4 at hP hD hB4 hF4
      replace hP : va_P D CC (wC tk ad u4 rr ++ tl) H := hP
      replace hD : va_D A (wC tk ad u4 rr ++ tl) := hD
      refine lv_goto hx hb d_P_addWay_52 (tgt := 82) (by decide) ?_
      exact k_vret hQ hx hb hr hlk hK hP hD hS u4 rfl (⟨hF4, by rw [bi_wy (by omega)]; first | (rw [if_pos (by omega), ← sl_eq _ _ _ (by omega) (by omega), ← List.append_assoc]; exact hB4) | (rw [if_neg (by omega), ← sl_eq _ _ _ (by omega) (by omega), ← List.append_assoc]; exact hB4)⟩) d_P_addWay_82
  · skip
    exact k_vret hQ hx hb hr hlk hK hP hD hS g rfl (⟨frx_r, by rw [wyL_0 (by omega), bi_nil, List.append_nil]; exact hB⟩) d_P_addWay_5

set_option maxHeartbeats 4000000 in
set_option maxRecDepth 100000 in
theorem c_P_addWay2 (l : Launch) (D : va_G) (tk : Nat → ClassId) (sz : Nat) (ad : Nat → Nat) (g : Nat → Nat → Int32) (rr : Nat → Nat → Option Nat) (tl : va_W) (S : List ck_I) (ca : Nat → Nat) (bl : Nat → Nat → Option Nat) (hst : sI tk tl S ca bl) (Xs : Nat → List kv_I) (V : Nat) (hV1 : 1 ≤ V) (hV2 : V ≤ 16) (hh : ∀ v, v < V → so (Xs v) ∧ tOf S ca (Xs v) (rr 1 v)) (B : List Int32) (hB : prfC g B) (hn : B.length + 8 ≤ 400) (p9 q9 v9 : Nat) (hq1 : 1 ≤ q9) (hq2 : q9 ≤ 4) (hpq : p9 + q9 ≤ V) (hv1 : p9 ≤ v9) (hv2 : v9 < p9 + q9) : Met l y_P_addWay w_P_addWay ({ frames := 8, cells := 0, slots := 0, locals := 184 }) (va_Pc [.ref (ad 12), .ref (ad 3), .int (nI p9), .int (nI q9), .int (nI v9)] (k_pre D (TY tk) sz (wC tk ad g rr ++ tl))) (va_Qv (fun (u : Nat → Nat → Int32) => frx [8, 9] g u ∧ prfC u (B ++ bi (fun v => rt (Xs v)) (wyL 3 p9 q9 v9))) (fun u t => k_at D (TY tk) (va_A (wC tk ad g rr ++ tl) sz) ((fun u => wC tk ad u rr ++ tl) u) t) (va_A (wC tk ad g rr ++ tl) sz)) 0 0 (va_A (wC tk ad g rr ++ tl) sz) := by
  refine k_ofW (fun A => va_Qv (fun (u : Nat → Nat → Int32) => frx [8, 9] g u ∧ prfC u (B ++ bi (fun v => rt (Xs v)) (wyL 3 p9 q9 v9))) (fun u t => k_at D (TY tk) A ((fun u => wC tk ad u rr ++ tl) u) t) A) (by decide) (Nat.le_of_ble_eq_true rfl) ?_
  intro p e s m args below meth c Q A ls hQ hx hb hr hlk hin hts hT hown hml hnw hP hK hD hA hsz hl
  have hS : va_S A s.heap s.heap [] := va_S.rf
  have hc0 : 0 + 0 ≤ 0 ∧ 0 + 0 ≤ 0 := ⟨by decide, by decide⟩
  replace hl : lv_has ls 7 [(0, .ref (ad 12)), (1, .ref (ad 3)), (2, .int (nI p9)), (3, .int (nI q9)), (4, .int (nI v9))] := hl
  replace hP : va_P D CC (wC tk ad g rr ++ tl) s.heap := hP
  replace hK : va_K D CC (TY tk) s := hK
  refine lv_iload_n hx hb d_P_addWay_0 rfl (lv_at hl 3 rfl) ?_
  refine lv_iconst (v := nI 2) hx hb d_P_addWay_1 (by decide) ?_
  refine st_icmp_ge hx hb (by omega) (by omega) d_P_addWay_2 (tgt := 6) (by decide) (fun hc2 => ?_) (fun hc2 => ?_)
  · skip
    refine lv_iload_n hx hb d_P_addWay_6 rfl (lv_at hl 3 rfl) ?_
    refine k_calli (va_runSN (As := [.int (nI q9)]) (rest := []) ⟨hx, hb, hml, hown, hts⟩ (c_K_half l D tk s.heap.size q9 (by omega) (wC tk ad g rr ++ tl)) ⟨(va_cnB 1 hts (gB t_810) rfl rfl rfl (hnw.1 _ _ _ _ n_839) (hT _ t_1) (by decide +kernel) ⟨Nat.le_of_ble_eq_true rfl, Nat.le_of_ble_eq_true rfl⟩), hT _ t_809, trivial⟩ (k_preS hP hK hD hnw) rfl rfl hl.1 rfl (lv_room (Nat.le_of_ble_eq_true rfl)) d_P_addWay_7 hc0) hD hS hA (fun _ _ H locs hp7 hP hD hK hS => ?_)
    subst hp7
    have hhf := hf_b (q := q9) (by omega) (by omega)
    replace hP : va_P D CC (wC tk ad g rr ++ tl) H := hP
    replace hD : va_D A (wC tk ad g rr ++ tl) := hD
    refine lv_istore (lv' := [(5, .int (nI (hf q9))), (0, .ref (ad 12)), (1, .ref (ad 3)), (2, .int (nI p9)), (3, .int (nI q9)), (4, .int (nI v9))]) hx hb d_P_addWay_10 hl (by decide) rfl (fun ls hl => ?_)
    refine lv_iload_n hx hb d_P_addWay_12 rfl (lv_at hl 3 rfl) ?_
    refine lv_iload hx hb d_P_addWay_13 (lv_at hl 0 rfl) ?_
    refine st_iadd hx hb d_P_addWay_15 ?_
    refine lv_istore (lv' := [(6, .int (nI (p9 + (hf q9)))), (5, .int (nI (hf q9))), (0, .ref (ad 12)), (1, .ref (ad 3)), (2, .int (nI p9)), (3, .int (nI q9)), (4, .int (nI v9))]) hx hb d_P_addWay_16 hl (by decide) rfl (fun ls hl => ?_)
    refine lv_iload hx hb d_P_addWay_18 (lv_at hl 6 rfl) ?_
    refine lv_iload hx hb d_P_addWay_20 (lv_at hl 0 rfl) ?_
    refine st_icmp_ge hx hb (by omega) (by omega) d_P_addWay_22 (tgt := 55) (by decide) (fun hc22 => ?_) (fun hc22 => ?_)
    · skip
      refine lv_aload_n hx hb d_P_addWay_55 rfl (lv_at hl 2 rfl) ?_
      refine lv_aload_n hx hb d_P_addWay_56 rfl (lv_at hl 3 rfl) ?_
      refine lv_iload hx hb d_P_addWay_57 (lv_at hl 0 rfl) ?_
      refine lv_iload_n hx hb d_P_addWay_59 rfl (lv_at hl 5 rfl) ?_
      refine lv_iload hx hb d_P_addWay_60 (lv_at hl 1 rfl) ?_
      refine st_isub hx hb (by omega) d_P_addWay_62 ?_
      refine lv_iload hx hb d_P_addWay_63 (lv_at hl 6 rfl) ?_
      refine k_callv (va_runV (As := [.ref (ad 3), .int (nI (p9 + (hf q9))), .int (nI (q9 - (hf q9))), .int (nI v9)]) (rest := []) ⟨hx, hb, hml, hown, hts⟩ (c_P_addWay1 l D tk H.size ad g rr tl S ca bl hst Xs V hV1 hV2 hh B hB (by omega) (p9 + (hf q9)) (q9 - (hf q9)) v9 (by omega) (by omega) (by omega) (by omega) (by omega)) (cwV 4 hts (gV t_835 t_837 s_6 t_6 t_838) rfl rfl rfl (by decide +kernel) ⟨Nat.le_of_ble_eq_true rfl, Nat.le_of_ble_eq_true rfl⟩) (k_preV hP hK hD hnw 12 rfl rfl) rfl rfl hl.1 rfl (lv_room (Nat.le_of_ble_eq_true rfl)) d_P_addWay_65 hc0) hD hS hA (fun u1 H locs hw1 hP hD hK hS => ?_)
      have hF1 : frx [8, 9] g u1 := frx_t frx_r hw1.1 (fun x h9 => ⟨h9, h9⟩)
      have hB1 : prfC u1 (B ++ bi (fun v => rt (Xs v)) (wyL 2 (p9 + (hf q9)) (q9 - (hf q9)) v9)) := hw1.2
      have hwl1 : (wyL 2 (p9 + (hf q9)) (q9 - (hf q9)) v9).length ≤ 1 := wyl_le 1 (p9 + (hf q9)) (q9 - (hf q9)) v9 (by omega) (by omega)
      replace hP : va_P D CC (wC tk ad u1 rr ++ tl) H := hP
      replace hD : va_D A (wC tk ad u1 rr ++ tl) := hD
      refine lv_aload_n hx hb d_P_addWay_68 rfl (lv_at hl 2 rfl) ?_
      refine gf_P_10 (v := .ref (ad 13)) hx hb hT hown hK hP 12 rfl rfl d_P_addWay_69 ?_
      refine lv_aload_n hx hb d_P_addWay_72 rfl (lv_at hl 3 rfl) ?_
      refine lv_iload_n hx hb d_P_addWay_73 rfl (lv_at hl 4 rfl) ?_
      refine lv_iload hx hb d_P_addWay_74 (lv_at hl 1 rfl) ?_
      refine k_calli (va_runVN (As := [.int (nI p9), .int (nI (hf q9))]) (rest := [.ref (ad 13)]) ⟨hx, hb, hml, hown, hts⟩ (c_H_seal4 l D tk H.size ad u1 rr tl S ca bl hst Xs V hV1 hV2 hh p9 (hf q9) (by omega) (by omega) (by omega)) ⟨(va_cnB 2 hts (gB t_803) rfl rfl rfl (hnw.1 _ _ _ _ n_840) (hT _ t_3) (by decide +kernel) ⟨Nat.le_of_ble_eq_true rfl, Nat.le_of_ble_eq_true rfl⟩), hT _ t_802, hT _ s_5⟩ (k_preV hP hK hD hnw 3 rfl rfl) rfl rfl hl.1 rfl (lv_room (Nat.le_of_ble_eq_true rfl)) d_P_addWay_76 hc0) hD hS hA (fun _ _ H locs hp76 hP hD hK hS => ?_)
      subst hp76
      replace hP : va_P D CC (wC tk ad u1 rr ++ tl) H := hP
      replace hD : va_D A (wC tk ad u1 rr ++ tl) := hD
      refine k_callv (va_runV (As := [.int (slC (fun v => rt (Xs v)) 4 p9 (hf q9))]) (rest := []) ⟨hx, hb, hml, hown, hts⟩ (c_B_appendInt l D tk H.size ad u1 rr tl (B ++ bi (fun v => rt (Xs v)) (wyL 2 (p9 + (hf q9)) (q9 - (hf q9)) v9)) hB1 (by first | omega | (simp only [List.length_append, bi_len]; omega)) (slC (fun v => rt (Xs v)) 4 p9 (hf q9))) (cwV 1 hts (gV t_841 t_842 t_843 t_7 t_844) rfl rfl rfl (by decide +kernel) ⟨Nat.le_of_ble_eq_true rfl, Nat.le_of_ble_eq_true rfl⟩) (k_preV hP hK hD hnw 13 rfl rfl) rfl rfl hl.1 rfl (lv_room (Nat.le_of_ble_eq_true rfl)) d_P_addWay_79 hc0) hD hS hA (fun _ H locs hp79 hP hD hK hS => ?_)
      replace hP : va_P D CC (wC tk ad (apC 8 9 u1 (B ++ bi (fun v => rt (Xs v)) (wyL 2 (p9 + (hf q9)) (q9 - (hf q9)) v9)).length (slC (fun v => rt (Xs v)) 4 p9 (hf q9)) 4) rr ++ tl) H := hP
      replace hD : va_D A (wC tk ad (apC 8 9 u1 (B ++ bi (fun v => rt (Xs v)) (wyL 2 (p9 + (hf q9)) (q9 - (hf q9)) v9)).length (slC (fun v => rt (Xs v)) 4 p9 (hf q9)) 4) rr ++ tl) := hD
      have hB2 : prfC (apC 8 9 u1 (B ++ bi (fun v => rt (Xs v)) (wyL 2 (p9 + (hf q9)) (q9 - (hf q9)) v9)).length (slC (fun v => rt (Xs v)) 4 p9 (hf q9)) 4) ((B ++ bi (fun v => rt (Xs v)) (wyL 2 (p9 + (hf q9)) (q9 - (hf q9)) v9)) ++ ib (slC (fun v => rt (Xs v)) 4 p9 (hf q9))) := prfC_i hB1 (slC (fun v => rt (Xs v)) 4 p9 (hf q9))
      have hF2 : frx [8, 9] g (apC 8 9 u1 (B ++ bi (fun v => rt (Xs v)) (wyL 2 (p9 + (hf q9)) (q9 - (hf q9)) v9)).length (slC (fun v => rt (Xs v)) 4 p9 (hf q9)) 4) := apC_fr 8 9 g _ _ _ _ hF1
      generalize (apC 8 9 u1 (B ++ bi (fun v => rt (Xs v)) (wyL 2 (p9 + (hf q9)) (q9 - (hf q9)) v9)).length (slC (fun v => rt (Xs v)) 4 p9 (hf q9)) 4) = u2 at hP hD hB2 hF2
      replace hP : va_P D CC (wC tk ad u2 rr ++ tl) H := hP
      replace hD : va_D A (wC tk ad u2 rr ++ tl) := hD
      exact k_vret hQ hx hb hr hlk hK hP hD hS u2 rfl (⟨hF2, by rw [bi_wy (by omega)]; first | (rw [if_pos (by omega), ← sl_eq _ _ _ (by omega) (by omega), ← List.append_assoc]; exact hB2) | (rw [if_neg (by omega), ← sl_eq _ _ _ (by omega) (by omega), ← List.append_assoc]; exact hB2)⟩) d_P_addWay_82
    · skip
      refine lv_aload_n hx hb d_P_addWay_25 rfl (lv_at hl 2 rfl) ?_
      refine lv_aload_n hx hb d_P_addWay_26 rfl (lv_at hl 3 rfl) ?_
      refine lv_iload_n hx hb d_P_addWay_27 rfl (lv_at hl 4 rfl) ?_
      refine lv_iload hx hb d_P_addWay_28 (lv_at hl 1 rfl) ?_
      refine lv_iload hx hb d_P_addWay_30 (lv_at hl 6 rfl) ?_
      refine k_callv (va_runV (As := [.ref (ad 3), .int (nI p9), .int (nI (hf q9)), .int (nI v9)]) (rest := []) ⟨hx, hb, hml, hown, hts⟩ (c_P_addWay1 l D tk H.size ad g rr tl S ca bl hst Xs V hV1 hV2 hh B hB (by omega) p9 (hf q9) v9 (by omega) (by omega) (by omega) (by omega) (by omega)) (cwV 4 hts (gV t_835 t_837 s_6 t_6 t_838) rfl rfl rfl (by decide +kernel) ⟨Nat.le_of_ble_eq_true rfl, Nat.le_of_ble_eq_true rfl⟩) (k_preV hP hK hD hnw 12 rfl rfl) rfl rfl hl.1 rfl (lv_room (Nat.le_of_ble_eq_true rfl)) d_P_addWay_32 hc0) hD hS hA (fun u3 H locs hw3 hP hD hK hS => ?_)
      have hF3 : frx [8, 9] g u3 := frx_t frx_r hw3.1 (fun x h9 => ⟨h9, h9⟩)
      have hB3 : prfC u3 (B ++ bi (fun v => rt (Xs v)) (wyL 2 p9 (hf q9) v9)) := hw3.2
      have hwl3 : (wyL 2 p9 (hf q9) v9).length ≤ 1 := wyl_le 1 p9 (hf q9) v9 (by omega) (by omega)
      replace hP : va_P D CC (wC tk ad u3 rr ++ tl) H := hP
      replace hD : va_D A (wC tk ad u3 rr ++ tl) := hD
      refine lv_aload_n hx hb d_P_addWay_35 rfl (lv_at hl 2 rfl) ?_
      refine gf_P_10 (v := .ref (ad 13)) hx hb hT hown hK hP 12 rfl rfl d_P_addWay_36 ?_
      refine lv_aload_n hx hb d_P_addWay_39 rfl (lv_at hl 3 rfl) ?_
      refine lv_iload hx hb d_P_addWay_40 (lv_at hl 0 rfl) ?_
      refine lv_iload_n hx hb d_P_addWay_42 rfl (lv_at hl 5 rfl) ?_
      refine lv_iload hx hb d_P_addWay_43 (lv_at hl 1 rfl) ?_
      refine st_isub hx hb (by omega) d_P_addWay_45 ?_
      refine k_calli (va_runVN (As := [.int (nI (p9 + (hf q9))), .int (nI (q9 - (hf q9)))]) (rest := [.ref (ad 13)]) ⟨hx, hb, hml, hown, hts⟩ (c_H_seal4 l D tk H.size ad u3 rr tl S ca bl hst Xs V hV1 hV2 hh (p9 + (hf q9)) (q9 - (hf q9)) (by omega) (by omega) (by omega)) ⟨(va_cnB 2 hts (gB t_803) rfl rfl rfl (hnw.1 _ _ _ _ n_840) (hT _ t_3) (by decide +kernel) ⟨Nat.le_of_ble_eq_true rfl, Nat.le_of_ble_eq_true rfl⟩), hT _ t_802, hT _ s_5⟩ (k_preV hP hK hD hnw 3 rfl rfl) rfl rfl hl.1 rfl (lv_room (Nat.le_of_ble_eq_true rfl)) d_P_addWay_46 hc0) hD hS hA (fun _ _ H locs hp46 hP hD hK hS => ?_)
      subst hp46
      replace hP : va_P D CC (wC tk ad u3 rr ++ tl) H := hP
      replace hD : va_D A (wC tk ad u3 rr ++ tl) := hD
      refine k_callv (va_runV (As := [.int (slC (fun v => rt (Xs v)) 4 (p9 + (hf q9)) (q9 - (hf q9)))]) (rest := []) ⟨hx, hb, hml, hown, hts⟩ (c_B_appendInt l D tk H.size ad u3 rr tl (B ++ bi (fun v => rt (Xs v)) (wyL 2 p9 (hf q9) v9)) hB3 (by first | omega | (simp only [List.length_append, bi_len]; omega)) (slC (fun v => rt (Xs v)) 4 (p9 + (hf q9)) (q9 - (hf q9)))) (cwV 1 hts (gV t_841 t_842 t_843 t_7 t_844) rfl rfl rfl (by decide +kernel) ⟨Nat.le_of_ble_eq_true rfl, Nat.le_of_ble_eq_true rfl⟩) (k_preV hP hK hD hnw 13 rfl rfl) rfl rfl hl.1 rfl (lv_room (Nat.le_of_ble_eq_true rfl)) d_P_addWay_49 hc0) hD hS hA (fun _ H locs hp49 hP hD hK hS => ?_)
      replace hP : va_P D CC (wC tk ad (apC 8 9 u3 (B ++ bi (fun v => rt (Xs v)) (wyL 2 p9 (hf q9) v9)).length (slC (fun v => rt (Xs v)) 4 (p9 + (hf q9)) (q9 - (hf q9))) 4) rr ++ tl) H := hP
      replace hD : va_D A (wC tk ad (apC 8 9 u3 (B ++ bi (fun v => rt (Xs v)) (wyL 2 p9 (hf q9) v9)).length (slC (fun v => rt (Xs v)) 4 (p9 + (hf q9)) (q9 - (hf q9))) 4) rr ++ tl) := hD
      have hB4 : prfC (apC 8 9 u3 (B ++ bi (fun v => rt (Xs v)) (wyL 2 p9 (hf q9) v9)).length (slC (fun v => rt (Xs v)) 4 (p9 + (hf q9)) (q9 - (hf q9))) 4) ((B ++ bi (fun v => rt (Xs v)) (wyL 2 p9 (hf q9) v9)) ++ ib (slC (fun v => rt (Xs v)) 4 (p9 + (hf q9)) (q9 - (hf q9)))) := prfC_i hB3 (slC (fun v => rt (Xs v)) 4 (p9 + (hf q9)) (q9 - (hf q9)))
      have hF4 : frx [8, 9] g (apC 8 9 u3 (B ++ bi (fun v => rt (Xs v)) (wyL 2 p9 (hf q9) v9)).length (slC (fun v => rt (Xs v)) 4 (p9 + (hf q9)) (q9 - (hf q9))) 4) := apC_fr 8 9 g _ _ _ _ hF3
      generalize (apC 8 9 u3 (B ++ bi (fun v => rt (Xs v)) (wyL 2 p9 (hf q9) v9)).length (slC (fun v => rt (Xs v)) 4 (p9 + (hf q9)) (q9 - (hf q9))) 4) = u4 at hP hD hB4 hF4
      replace hP : va_P D CC (wC tk ad u4 rr ++ tl) H := hP
      replace hD : va_D A (wC tk ad u4 rr ++ tl) := hD
      refine lv_goto hx hb d_P_addWay_52 (tgt := 82) (by decide) ?_
      exact k_vret hQ hx hb hr hlk hK hP hD hS u4 rfl (⟨hF4, by rw [bi_wy (by omega)]; first | (rw [if_pos (by omega), ← sl_eq _ _ _ (by omega) (by omega), ← List.append_assoc]; exact hB4) | (rw [if_neg (by omega), ← sl_eq _ _ _ (by omega) (by omega), ← List.append_assoc]; exact hB4)⟩) d_P_addWay_82
  · skip
    exact k_vret hQ hx hb hr hlk hK hP hD hS g rfl (⟨frx_r, by rw [wyL_0 (by omega), bi_nil, List.append_nil]; exact hB⟩) d_P_addWay_5

set_option maxHeartbeats 4000000 in
set_option maxRecDepth 100000 in
theorem c_P_addWay3 (l : Launch) (D : va_G) (tk : Nat → ClassId) (sz : Nat) (ad : Nat → Nat) (g : Nat → Nat → Int32) (rr : Nat → Nat → Option Nat) (tl : va_W) (S : List ck_I) (ca : Nat → Nat) (bl : Nat → Nat → Option Nat) (hst : sI tk tl S ca bl) (Xs : Nat → List kv_I) (V : Nat) (hV1 : 1 ≤ V) (hV2 : V ≤ 16) (hh : ∀ v, v < V → so (Xs v) ∧ tOf S ca (Xs v) (rr 1 v)) (B : List Int32) (hB : prfC g B) (hn : B.length + 12 ≤ 400) (p9 q9 v9 : Nat) (hq1 : 1 ≤ q9) (hq2 : q9 ≤ 8) (hpq : p9 + q9 ≤ V) (hv1 : p9 ≤ v9) (hv2 : v9 < p9 + q9) : Met l y_P_addWay w_P_addWay ({ frames := 9, cells := 0, slots := 0, locals := 210 }) (va_Pc [.ref (ad 12), .ref (ad 3), .int (nI p9), .int (nI q9), .int (nI v9)] (k_pre D (TY tk) sz (wC tk ad g rr ++ tl))) (va_Qv (fun (u : Nat → Nat → Int32) => frx [8, 9] g u ∧ prfC u (B ++ bi (fun v => rt (Xs v)) (wyL 4 p9 q9 v9))) (fun u t => k_at D (TY tk) (va_A (wC tk ad g rr ++ tl) sz) ((fun u => wC tk ad u rr ++ tl) u) t) (va_A (wC tk ad g rr ++ tl) sz)) 0 0 (va_A (wC tk ad g rr ++ tl) sz) := by
  refine k_ofW (fun A => va_Qv (fun (u : Nat → Nat → Int32) => frx [8, 9] g u ∧ prfC u (B ++ bi (fun v => rt (Xs v)) (wyL 4 p9 q9 v9))) (fun u t => k_at D (TY tk) A ((fun u => wC tk ad u rr ++ tl) u) t) A) (by decide) (Nat.le_of_ble_eq_true rfl) ?_
  intro p e s m args below meth c Q A ls hQ hx hb hr hlk hin hts hT hown hml hnw hP hK hD hA hsz hl
  have hS : va_S A s.heap s.heap [] := va_S.rf
  have hc0 : 0 + 0 ≤ 0 ∧ 0 + 0 ≤ 0 := ⟨by decide, by decide⟩
  replace hl : lv_has ls 7 [(0, .ref (ad 12)), (1, .ref (ad 3)), (2, .int (nI p9)), (3, .int (nI q9)), (4, .int (nI v9))] := hl
  replace hP : va_P D CC (wC tk ad g rr ++ tl) s.heap := hP
  replace hK : va_K D CC (TY tk) s := hK
  refine lv_iload_n hx hb d_P_addWay_0 rfl (lv_at hl 3 rfl) ?_
  refine lv_iconst (v := nI 2) hx hb d_P_addWay_1 (by decide) ?_
  refine st_icmp_ge hx hb (by omega) (by omega) d_P_addWay_2 (tgt := 6) (by decide) (fun hc2 => ?_) (fun hc2 => ?_)
  · skip
    refine lv_iload_n hx hb d_P_addWay_6 rfl (lv_at hl 3 rfl) ?_
    refine k_calli (va_runSN (As := [.int (nI q9)]) (rest := []) ⟨hx, hb, hml, hown, hts⟩ (c_K_half l D tk s.heap.size q9 (by omega) (wC tk ad g rr ++ tl)) ⟨(va_cnB 1 hts (gB t_810) rfl rfl rfl (hnw.1 _ _ _ _ n_839) (hT _ t_1) (by decide +kernel) ⟨Nat.le_of_ble_eq_true rfl, Nat.le_of_ble_eq_true rfl⟩), hT _ t_809, trivial⟩ (k_preS hP hK hD hnw) rfl rfl hl.1 rfl (lv_room (Nat.le_of_ble_eq_true rfl)) d_P_addWay_7 hc0) hD hS hA (fun _ _ H locs hp7 hP hD hK hS => ?_)
    subst hp7
    have hhf := hf_b (q := q9) (by omega) (by omega)
    replace hP : va_P D CC (wC tk ad g rr ++ tl) H := hP
    replace hD : va_D A (wC tk ad g rr ++ tl) := hD
    refine lv_istore (lv' := [(5, .int (nI (hf q9))), (0, .ref (ad 12)), (1, .ref (ad 3)), (2, .int (nI p9)), (3, .int (nI q9)), (4, .int (nI v9))]) hx hb d_P_addWay_10 hl (by decide) rfl (fun ls hl => ?_)
    refine lv_iload_n hx hb d_P_addWay_12 rfl (lv_at hl 3 rfl) ?_
    refine lv_iload hx hb d_P_addWay_13 (lv_at hl 0 rfl) ?_
    refine st_iadd hx hb d_P_addWay_15 ?_
    refine lv_istore (lv' := [(6, .int (nI (p9 + (hf q9)))), (5, .int (nI (hf q9))), (0, .ref (ad 12)), (1, .ref (ad 3)), (2, .int (nI p9)), (3, .int (nI q9)), (4, .int (nI v9))]) hx hb d_P_addWay_16 hl (by decide) rfl (fun ls hl => ?_)
    refine lv_iload hx hb d_P_addWay_18 (lv_at hl 6 rfl) ?_
    refine lv_iload hx hb d_P_addWay_20 (lv_at hl 0 rfl) ?_
    refine st_icmp_ge hx hb (by omega) (by omega) d_P_addWay_22 (tgt := 55) (by decide) (fun hc22 => ?_) (fun hc22 => ?_)
    · skip
      refine lv_aload_n hx hb d_P_addWay_55 rfl (lv_at hl 2 rfl) ?_
      refine lv_aload_n hx hb d_P_addWay_56 rfl (lv_at hl 3 rfl) ?_
      refine lv_iload hx hb d_P_addWay_57 (lv_at hl 0 rfl) ?_
      refine lv_iload_n hx hb d_P_addWay_59 rfl (lv_at hl 5 rfl) ?_
      refine lv_iload hx hb d_P_addWay_60 (lv_at hl 1 rfl) ?_
      refine st_isub hx hb (by omega) d_P_addWay_62 ?_
      refine lv_iload hx hb d_P_addWay_63 (lv_at hl 6 rfl) ?_
      refine k_callv (va_runV (As := [.ref (ad 3), .int (nI (p9 + (hf q9))), .int (nI (q9 - (hf q9))), .int (nI v9)]) (rest := []) ⟨hx, hb, hml, hown, hts⟩ (c_P_addWay2 l D tk H.size ad g rr tl S ca bl hst Xs V hV1 hV2 hh B hB (by omega) (p9 + (hf q9)) (q9 - (hf q9)) v9 (by omega) (by omega) (by omega) (by omega) (by omega)) (cwV 4 hts (gV t_835 t_837 s_6 t_6 t_838) rfl rfl rfl (by decide +kernel) ⟨Nat.le_of_ble_eq_true rfl, Nat.le_of_ble_eq_true rfl⟩) (k_preV hP hK hD hnw 12 rfl rfl) rfl rfl hl.1 rfl (lv_room (Nat.le_of_ble_eq_true rfl)) d_P_addWay_65 hc0) hD hS hA (fun u1 H locs hw1 hP hD hK hS => ?_)
      have hF1 : frx [8, 9] g u1 := frx_t frx_r hw1.1 (fun x h9 => ⟨h9, h9⟩)
      have hB1 : prfC u1 (B ++ bi (fun v => rt (Xs v)) (wyL 3 (p9 + (hf q9)) (q9 - (hf q9)) v9)) := hw1.2
      have hwl1 : (wyL 3 (p9 + (hf q9)) (q9 - (hf q9)) v9).length ≤ 2 := wyl_le 2 (p9 + (hf q9)) (q9 - (hf q9)) v9 (by omega) (by omega)
      replace hP : va_P D CC (wC tk ad u1 rr ++ tl) H := hP
      replace hD : va_D A (wC tk ad u1 rr ++ tl) := hD
      refine lv_aload_n hx hb d_P_addWay_68 rfl (lv_at hl 2 rfl) ?_
      refine gf_P_10 (v := .ref (ad 13)) hx hb hT hown hK hP 12 rfl rfl d_P_addWay_69 ?_
      refine lv_aload_n hx hb d_P_addWay_72 rfl (lv_at hl 3 rfl) ?_
      refine lv_iload_n hx hb d_P_addWay_73 rfl (lv_at hl 4 rfl) ?_
      refine lv_iload hx hb d_P_addWay_74 (lv_at hl 1 rfl) ?_
      refine k_calli (va_runVN (As := [.int (nI p9), .int (nI (hf q9))]) (rest := [.ref (ad 13)]) ⟨hx, hb, hml, hown, hts⟩ (c_H_seal4 l D tk H.size ad u1 rr tl S ca bl hst Xs V hV1 hV2 hh p9 (hf q9) (by omega) (by omega) (by omega)) ⟨(va_cnB 2 hts (gB t_803) rfl rfl rfl (hnw.1 _ _ _ _ n_840) (hT _ t_3) (by decide +kernel) ⟨Nat.le_of_ble_eq_true rfl, Nat.le_of_ble_eq_true rfl⟩), hT _ t_802, hT _ s_5⟩ (k_preV hP hK hD hnw 3 rfl rfl) rfl rfl hl.1 rfl (lv_room (Nat.le_of_ble_eq_true rfl)) d_P_addWay_76 hc0) hD hS hA (fun _ _ H locs hp76 hP hD hK hS => ?_)
      subst hp76
      replace hP : va_P D CC (wC tk ad u1 rr ++ tl) H := hP
      replace hD : va_D A (wC tk ad u1 rr ++ tl) := hD
      refine k_callv (va_runV (As := [.int (slC (fun v => rt (Xs v)) 4 p9 (hf q9))]) (rest := []) ⟨hx, hb, hml, hown, hts⟩ (c_B_appendInt l D tk H.size ad u1 rr tl (B ++ bi (fun v => rt (Xs v)) (wyL 3 (p9 + (hf q9)) (q9 - (hf q9)) v9)) hB1 (by first | omega | (simp only [List.length_append, bi_len]; omega)) (slC (fun v => rt (Xs v)) 4 p9 (hf q9))) (cwV 1 hts (gV t_841 t_842 t_843 t_7 t_844) rfl rfl rfl (by decide +kernel) ⟨Nat.le_of_ble_eq_true rfl, Nat.le_of_ble_eq_true rfl⟩) (k_preV hP hK hD hnw 13 rfl rfl) rfl rfl hl.1 rfl (lv_room (Nat.le_of_ble_eq_true rfl)) d_P_addWay_79 hc0) hD hS hA (fun _ H locs hp79 hP hD hK hS => ?_)
      replace hP : va_P D CC (wC tk ad (apC 8 9 u1 (B ++ bi (fun v => rt (Xs v)) (wyL 3 (p9 + (hf q9)) (q9 - (hf q9)) v9)).length (slC (fun v => rt (Xs v)) 4 p9 (hf q9)) 4) rr ++ tl) H := hP
      replace hD : va_D A (wC tk ad (apC 8 9 u1 (B ++ bi (fun v => rt (Xs v)) (wyL 3 (p9 + (hf q9)) (q9 - (hf q9)) v9)).length (slC (fun v => rt (Xs v)) 4 p9 (hf q9)) 4) rr ++ tl) := hD
      have hB2 : prfC (apC 8 9 u1 (B ++ bi (fun v => rt (Xs v)) (wyL 3 (p9 + (hf q9)) (q9 - (hf q9)) v9)).length (slC (fun v => rt (Xs v)) 4 p9 (hf q9)) 4) ((B ++ bi (fun v => rt (Xs v)) (wyL 3 (p9 + (hf q9)) (q9 - (hf q9)) v9)) ++ ib (slC (fun v => rt (Xs v)) 4 p9 (hf q9))) := prfC_i hB1 (slC (fun v => rt (Xs v)) 4 p9 (hf q9))
      have hF2 : frx [8, 9] g (apC 8 9 u1 (B ++ bi (fun v => rt (Xs v)) (wyL 3 (p9 + (hf q9)) (q9 - (hf q9)) v9)).length (slC (fun v => rt (Xs v)) 4 p9 (hf q9)) 4) := apC_fr 8 9 g _ _ _ _ hF1
      generalize (apC 8 9 u1 (B ++ bi (fun v => rt (Xs v)) (wyL 3 (p9 + (hf q9)) (q9 - (hf q9)) v9)).length (slC (fun v => rt (Xs v)) 4 p9 (hf q9)) 4) = u2 at hP hD hB2 hF2
      replace hP : va_P D CC (wC tk ad u2 rr ++ tl) H := hP
      replace hD : va_D A (wC tk ad u2 rr ++ tl) := hD
      exact k_vret hQ hx hb hr hlk hK hP hD hS u2 rfl (⟨hF2, by rw [bi_wy (by omega)]; first | (rw [if_pos (by omega), ← sl_eq _ _ _ (by omega) (by omega), ← List.append_assoc]; exact hB2) | (rw [if_neg (by omega), ← sl_eq _ _ _ (by omega) (by omega), ← List.append_assoc]; exact hB2)⟩) d_P_addWay_82
    · skip
      refine lv_aload_n hx hb d_P_addWay_25 rfl (lv_at hl 2 rfl) ?_
      refine lv_aload_n hx hb d_P_addWay_26 rfl (lv_at hl 3 rfl) ?_
      refine lv_iload_n hx hb d_P_addWay_27 rfl (lv_at hl 4 rfl) ?_
      refine lv_iload hx hb d_P_addWay_28 (lv_at hl 1 rfl) ?_
      refine lv_iload hx hb d_P_addWay_30 (lv_at hl 6 rfl) ?_
      refine k_callv (va_runV (As := [.ref (ad 3), .int (nI p9), .int (nI (hf q9)), .int (nI v9)]) (rest := []) ⟨hx, hb, hml, hown, hts⟩ (c_P_addWay2 l D tk H.size ad g rr tl S ca bl hst Xs V hV1 hV2 hh B hB (by omega) p9 (hf q9) v9 (by omega) (by omega) (by omega) (by omega) (by omega)) (cwV 4 hts (gV t_835 t_837 s_6 t_6 t_838) rfl rfl rfl (by decide +kernel) ⟨Nat.le_of_ble_eq_true rfl, Nat.le_of_ble_eq_true rfl⟩) (k_preV hP hK hD hnw 12 rfl rfl) rfl rfl hl.1 rfl (lv_room (Nat.le_of_ble_eq_true rfl)) d_P_addWay_32 hc0) hD hS hA (fun u3 H locs hw3 hP hD hK hS => ?_)
      have hF3 : frx [8, 9] g u3 := frx_t frx_r hw3.1 (fun x h9 => ⟨h9, h9⟩)
      have hB3 : prfC u3 (B ++ bi (fun v => rt (Xs v)) (wyL 3 p9 (hf q9) v9)) := hw3.2
      have hwl3 : (wyL 3 p9 (hf q9) v9).length ≤ 2 := wyl_le 2 p9 (hf q9) v9 (by omega) (by omega)
      replace hP : va_P D CC (wC tk ad u3 rr ++ tl) H := hP
      replace hD : va_D A (wC tk ad u3 rr ++ tl) := hD
      refine lv_aload_n hx hb d_P_addWay_35 rfl (lv_at hl 2 rfl) ?_
      refine gf_P_10 (v := .ref (ad 13)) hx hb hT hown hK hP 12 rfl rfl d_P_addWay_36 ?_
      refine lv_aload_n hx hb d_P_addWay_39 rfl (lv_at hl 3 rfl) ?_
      refine lv_iload hx hb d_P_addWay_40 (lv_at hl 0 rfl) ?_
      refine lv_iload_n hx hb d_P_addWay_42 rfl (lv_at hl 5 rfl) ?_
      refine lv_iload hx hb d_P_addWay_43 (lv_at hl 1 rfl) ?_
      refine st_isub hx hb (by omega) d_P_addWay_45 ?_
      refine k_calli (va_runVN (As := [.int (nI (p9 + (hf q9))), .int (nI (q9 - (hf q9)))]) (rest := [.ref (ad 13)]) ⟨hx, hb, hml, hown, hts⟩ (c_H_seal4 l D tk H.size ad u3 rr tl S ca bl hst Xs V hV1 hV2 hh (p9 + (hf q9)) (q9 - (hf q9)) (by omega) (by omega) (by omega)) ⟨(va_cnB 2 hts (gB t_803) rfl rfl rfl (hnw.1 _ _ _ _ n_840) (hT _ t_3) (by decide +kernel) ⟨Nat.le_of_ble_eq_true rfl, Nat.le_of_ble_eq_true rfl⟩), hT _ t_802, hT _ s_5⟩ (k_preV hP hK hD hnw 3 rfl rfl) rfl rfl hl.1 rfl (lv_room (Nat.le_of_ble_eq_true rfl)) d_P_addWay_46 hc0) hD hS hA (fun _ _ H locs hp46 hP hD hK hS => ?_)
      subst hp46
      replace hP : va_P D CC (wC tk ad u3 rr ++ tl) H := hP
      replace hD : va_D A (wC tk ad u3 rr ++ tl) := hD
      refine k_callv (va_runV (As := [.int (slC (fun v => rt (Xs v)) 4 (p9 + (hf q9)) (q9 - (hf q9)))]) (rest := []) ⟨hx, hb, hml, hown, hts⟩ (c_B_appendInt l D tk H.size ad u3 rr tl (B ++ bi (fun v => rt (Xs v)) (wyL 3 p9 (hf q9) v9)) hB3 (by first | omega | (simp only [List.length_append, bi_len]; omega)) (slC (fun v => rt (Xs v)) 4 (p9 + (hf q9)) (q9 - (hf q9)))) (cwV 1 hts (gV t_841 t_842 t_843 t_7 t_844) rfl rfl rfl (by decide +kernel) ⟨Nat.le_of_ble_eq_true rfl, Nat.le_of_ble_eq_true rfl⟩) (k_preV hP hK hD hnw 13 rfl rfl) rfl rfl hl.1 rfl (lv_room (Nat.le_of_ble_eq_true rfl)) d_P_addWay_49 hc0) hD hS hA (fun _ H locs hp49 hP hD hK hS => ?_)
      replace hP : va_P D CC (wC tk ad (apC 8 9 u3 (B ++ bi (fun v => rt (Xs v)) (wyL 3 p9 (hf q9) v9)).length (slC (fun v => rt (Xs v)) 4 (p9 + (hf q9)) (q9 - (hf q9))) 4) rr ++ tl) H := hP
      replace hD : va_D A (wC tk ad (apC 8 9 u3 (B ++ bi (fun v => rt (Xs v)) (wyL 3 p9 (hf q9) v9)).length (slC (fun v => rt (Xs v)) 4 (p9 + (hf q9)) (q9 - (hf q9))) 4) rr ++ tl) := hD
      have hB4 : prfC (apC 8 9 u3 (B ++ bi (fun v => rt (Xs v)) (wyL 3 p9 (hf q9) v9)).length (slC (fun v => rt (Xs v)) 4 (p9 + (hf q9)) (q9 - (hf q9))) 4) ((B ++ bi (fun v => rt (Xs v)) (wyL 3 p9 (hf q9) v9)) ++ ib (slC (fun v => rt (Xs v)) 4 (p9 + (hf q9)) (q9 - (hf q9)))) := prfC_i hB3 (slC (fun v => rt (Xs v)) 4 (p9 + (hf q9)) (q9 - (hf q9)))
      have hF4 : frx [8, 9] g (apC 8 9 u3 (B ++ bi (fun v => rt (Xs v)) (wyL 3 p9 (hf q9) v9)).length (slC (fun v => rt (Xs v)) 4 (p9 + (hf q9)) (q9 - (hf q9))) 4) := apC_fr 8 9 g _ _ _ _ hF3
      generalize (apC 8 9 u3 (B ++ bi (fun v => rt (Xs v)) (wyL 3 p9 (hf q9) v9)).length (slC (fun v => rt (Xs v)) 4 (p9 + (hf q9)) (q9 - (hf q9))) 4) = u4 at hP hD hB4 hF4
      replace hP : va_P D CC (wC tk ad u4 rr ++ tl) H := hP
      replace hD : va_D A (wC tk ad u4 rr ++ tl) := hD
      refine lv_goto hx hb d_P_addWay_52 (tgt := 82) (by decide) ?_
      exact k_vret hQ hx hb hr hlk hK hP hD hS u4 rfl (⟨hF4, by rw [bi_wy (by omega)]; first | (rw [if_pos (by omega), ← sl_eq _ _ _ (by omega) (by omega), ← List.append_assoc]; exact hB4) | (rw [if_neg (by omega), ← sl_eq _ _ _ (by omega) (by omega), ← List.append_assoc]; exact hB4)⟩) d_P_addWay_82
  · skip
    exact k_vret hQ hx hb hr hlk hK hP hD hS g rfl (⟨frx_r, by rw [wyL_0 (by omega), bi_nil, List.append_nil]; exact hB⟩) d_P_addWay_5

set_option maxHeartbeats 4000000 in
set_option maxRecDepth 100000 in
theorem c_P_addWay4 (l : Launch) (D : va_G) (tk : Nat → ClassId) (sz : Nat) (ad : Nat → Nat) (g : Nat → Nat → Int32) (rr : Nat → Nat → Option Nat) (tl : va_W) (S : List ck_I) (ca : Nat → Nat) (bl : Nat → Nat → Option Nat) (hst : sI tk tl S ca bl) (Xs : Nat → List kv_I) (V : Nat) (hV1 : 1 ≤ V) (hV2 : V ≤ 16) (hh : ∀ v, v < V → so (Xs v) ∧ tOf S ca (Xs v) (rr 1 v)) (B : List Int32) (hB : prfC g B) (hn : B.length + 16 ≤ 400) (p9 q9 v9 : Nat) (hq1 : 1 ≤ q9) (hq2 : q9 ≤ 16) (hpq : p9 + q9 ≤ V) (hv1 : p9 ≤ v9) (hv2 : v9 < p9 + q9) : Met l y_P_addWay w_P_addWay ({ frames := 10, cells := 0, slots := 0, locals := 236 }) (va_Pc [.ref (ad 12), .ref (ad 3), .int (nI p9), .int (nI q9), .int (nI v9)] (k_pre D (TY tk) sz (wC tk ad g rr ++ tl))) (va_Qv (fun (u : Nat → Nat → Int32) => frx [8, 9] g u ∧ prfC u (B ++ bi (fun v => rt (Xs v)) (wyL 5 p9 q9 v9))) (fun u t => k_at D (TY tk) (va_A (wC tk ad g rr ++ tl) sz) ((fun u => wC tk ad u rr ++ tl) u) t) (va_A (wC tk ad g rr ++ tl) sz)) 0 0 (va_A (wC tk ad g rr ++ tl) sz) := by
  refine k_ofW (fun A => va_Qv (fun (u : Nat → Nat → Int32) => frx [8, 9] g u ∧ prfC u (B ++ bi (fun v => rt (Xs v)) (wyL 5 p9 q9 v9))) (fun u t => k_at D (TY tk) A ((fun u => wC tk ad u rr ++ tl) u) t) A) (by decide) (Nat.le_of_ble_eq_true rfl) ?_
  intro p e s m args below meth c Q A ls hQ hx hb hr hlk hin hts hT hown hml hnw hP hK hD hA hsz hl
  have hS : va_S A s.heap s.heap [] := va_S.rf
  have hc0 : 0 + 0 ≤ 0 ∧ 0 + 0 ≤ 0 := ⟨by decide, by decide⟩
  replace hl : lv_has ls 7 [(0, .ref (ad 12)), (1, .ref (ad 3)), (2, .int (nI p9)), (3, .int (nI q9)), (4, .int (nI v9))] := hl
  replace hP : va_P D CC (wC tk ad g rr ++ tl) s.heap := hP
  replace hK : va_K D CC (TY tk) s := hK
  refine lv_iload_n hx hb d_P_addWay_0 rfl (lv_at hl 3 rfl) ?_
  refine lv_iconst (v := nI 2) hx hb d_P_addWay_1 (by decide) ?_
  refine st_icmp_ge hx hb (by omega) (by omega) d_P_addWay_2 (tgt := 6) (by decide) (fun hc2 => ?_) (fun hc2 => ?_)
  · skip
    refine lv_iload_n hx hb d_P_addWay_6 rfl (lv_at hl 3 rfl) ?_
    refine k_calli (va_runSN (As := [.int (nI q9)]) (rest := []) ⟨hx, hb, hml, hown, hts⟩ (c_K_half l D tk s.heap.size q9 (by omega) (wC tk ad g rr ++ tl)) ⟨(va_cnB 1 hts (gB t_810) rfl rfl rfl (hnw.1 _ _ _ _ n_839) (hT _ t_1) (by decide +kernel) ⟨Nat.le_of_ble_eq_true rfl, Nat.le_of_ble_eq_true rfl⟩), hT _ t_809, trivial⟩ (k_preS hP hK hD hnw) rfl rfl hl.1 rfl (lv_room (Nat.le_of_ble_eq_true rfl)) d_P_addWay_7 hc0) hD hS hA (fun _ _ H locs hp7 hP hD hK hS => ?_)
    subst hp7
    have hhf := hf_b (q := q9) (by omega) (by omega)
    replace hP : va_P D CC (wC tk ad g rr ++ tl) H := hP
    replace hD : va_D A (wC tk ad g rr ++ tl) := hD
    refine lv_istore (lv' := [(5, .int (nI (hf q9))), (0, .ref (ad 12)), (1, .ref (ad 3)), (2, .int (nI p9)), (3, .int (nI q9)), (4, .int (nI v9))]) hx hb d_P_addWay_10 hl (by decide) rfl (fun ls hl => ?_)
    refine lv_iload_n hx hb d_P_addWay_12 rfl (lv_at hl 3 rfl) ?_
    refine lv_iload hx hb d_P_addWay_13 (lv_at hl 0 rfl) ?_
    refine st_iadd hx hb d_P_addWay_15 ?_
    refine lv_istore (lv' := [(6, .int (nI (p9 + (hf q9)))), (5, .int (nI (hf q9))), (0, .ref (ad 12)), (1, .ref (ad 3)), (2, .int (nI p9)), (3, .int (nI q9)), (4, .int (nI v9))]) hx hb d_P_addWay_16 hl (by decide) rfl (fun ls hl => ?_)
    refine lv_iload hx hb d_P_addWay_18 (lv_at hl 6 rfl) ?_
    refine lv_iload hx hb d_P_addWay_20 (lv_at hl 0 rfl) ?_
    refine st_icmp_ge hx hb (by omega) (by omega) d_P_addWay_22 (tgt := 55) (by decide) (fun hc22 => ?_) (fun hc22 => ?_)
    · skip
      refine lv_aload_n hx hb d_P_addWay_55 rfl (lv_at hl 2 rfl) ?_
      refine lv_aload_n hx hb d_P_addWay_56 rfl (lv_at hl 3 rfl) ?_
      refine lv_iload hx hb d_P_addWay_57 (lv_at hl 0 rfl) ?_
      refine lv_iload_n hx hb d_P_addWay_59 rfl (lv_at hl 5 rfl) ?_
      refine lv_iload hx hb d_P_addWay_60 (lv_at hl 1 rfl) ?_
      refine st_isub hx hb (by omega) d_P_addWay_62 ?_
      refine lv_iload hx hb d_P_addWay_63 (lv_at hl 6 rfl) ?_
      refine k_callv (va_runV (As := [.ref (ad 3), .int (nI (p9 + (hf q9))), .int (nI (q9 - (hf q9))), .int (nI v9)]) (rest := []) ⟨hx, hb, hml, hown, hts⟩ (c_P_addWay3 l D tk H.size ad g rr tl S ca bl hst Xs V hV1 hV2 hh B hB (by omega) (p9 + (hf q9)) (q9 - (hf q9)) v9 (by omega) (by omega) (by omega) (by omega) (by omega)) (cwV 4 hts (gV t_835 t_837 s_6 t_6 t_838) rfl rfl rfl (by decide +kernel) ⟨Nat.le_of_ble_eq_true rfl, Nat.le_of_ble_eq_true rfl⟩) (k_preV hP hK hD hnw 12 rfl rfl) rfl rfl hl.1 rfl (lv_room (Nat.le_of_ble_eq_true rfl)) d_P_addWay_65 hc0) hD hS hA (fun u1 H locs hw1 hP hD hK hS => ?_)
      have hF1 : frx [8, 9] g u1 := frx_t frx_r hw1.1 (fun x h9 => ⟨h9, h9⟩)
      have hB1 : prfC u1 (B ++ bi (fun v => rt (Xs v)) (wyL 4 (p9 + (hf q9)) (q9 - (hf q9)) v9)) := hw1.2
      have hwl1 : (wyL 4 (p9 + (hf q9)) (q9 - (hf q9)) v9).length ≤ 3 := wyl_le 3 (p9 + (hf q9)) (q9 - (hf q9)) v9 (by omega) (by omega)
      replace hP : va_P D CC (wC tk ad u1 rr ++ tl) H := hP
      replace hD : va_D A (wC tk ad u1 rr ++ tl) := hD
      refine lv_aload_n hx hb d_P_addWay_68 rfl (lv_at hl 2 rfl) ?_
      refine gf_P_10 (v := .ref (ad 13)) hx hb hT hown hK hP 12 rfl rfl d_P_addWay_69 ?_
      refine lv_aload_n hx hb d_P_addWay_72 rfl (lv_at hl 3 rfl) ?_
      refine lv_iload_n hx hb d_P_addWay_73 rfl (lv_at hl 4 rfl) ?_
      refine lv_iload hx hb d_P_addWay_74 (lv_at hl 1 rfl) ?_
      refine k_calli (va_runVN (As := [.int (nI p9), .int (nI (hf q9))]) (rest := [.ref (ad 13)]) ⟨hx, hb, hml, hown, hts⟩ (c_H_seal4 l D tk H.size ad u1 rr tl S ca bl hst Xs V hV1 hV2 hh p9 (hf q9) (by omega) (by omega) (by omega)) ⟨(va_cnB 2 hts (gB t_803) rfl rfl rfl (hnw.1 _ _ _ _ n_840) (hT _ t_3) (by decide +kernel) ⟨Nat.le_of_ble_eq_true rfl, Nat.le_of_ble_eq_true rfl⟩), hT _ t_802, hT _ s_5⟩ (k_preV hP hK hD hnw 3 rfl rfl) rfl rfl hl.1 rfl (lv_room (Nat.le_of_ble_eq_true rfl)) d_P_addWay_76 hc0) hD hS hA (fun _ _ H locs hp76 hP hD hK hS => ?_)
      subst hp76
      replace hP : va_P D CC (wC tk ad u1 rr ++ tl) H := hP
      replace hD : va_D A (wC tk ad u1 rr ++ tl) := hD
      refine k_callv (va_runV (As := [.int (slC (fun v => rt (Xs v)) 4 p9 (hf q9))]) (rest := []) ⟨hx, hb, hml, hown, hts⟩ (c_B_appendInt l D tk H.size ad u1 rr tl (B ++ bi (fun v => rt (Xs v)) (wyL 4 (p9 + (hf q9)) (q9 - (hf q9)) v9)) hB1 (by first | omega | (simp only [List.length_append, bi_len]; omega)) (slC (fun v => rt (Xs v)) 4 p9 (hf q9))) (cwV 1 hts (gV t_841 t_842 t_843 t_7 t_844) rfl rfl rfl (by decide +kernel) ⟨Nat.le_of_ble_eq_true rfl, Nat.le_of_ble_eq_true rfl⟩) (k_preV hP hK hD hnw 13 rfl rfl) rfl rfl hl.1 rfl (lv_room (Nat.le_of_ble_eq_true rfl)) d_P_addWay_79 hc0) hD hS hA (fun _ H locs hp79 hP hD hK hS => ?_)
      replace hP : va_P D CC (wC tk ad (apC 8 9 u1 (B ++ bi (fun v => rt (Xs v)) (wyL 4 (p9 + (hf q9)) (q9 - (hf q9)) v9)).length (slC (fun v => rt (Xs v)) 4 p9 (hf q9)) 4) rr ++ tl) H := hP
      replace hD : va_D A (wC tk ad (apC 8 9 u1 (B ++ bi (fun v => rt (Xs v)) (wyL 4 (p9 + (hf q9)) (q9 - (hf q9)) v9)).length (slC (fun v => rt (Xs v)) 4 p9 (hf q9)) 4) rr ++ tl) := hD
      have hB2 : prfC (apC 8 9 u1 (B ++ bi (fun v => rt (Xs v)) (wyL 4 (p9 + (hf q9)) (q9 - (hf q9)) v9)).length (slC (fun v => rt (Xs v)) 4 p9 (hf q9)) 4) ((B ++ bi (fun v => rt (Xs v)) (wyL 4 (p9 + (hf q9)) (q9 - (hf q9)) v9)) ++ ib (slC (fun v => rt (Xs v)) 4 p9 (hf q9))) := prfC_i hB1 (slC (fun v => rt (Xs v)) 4 p9 (hf q9))
      have hF2 : frx [8, 9] g (apC 8 9 u1 (B ++ bi (fun v => rt (Xs v)) (wyL 4 (p9 + (hf q9)) (q9 - (hf q9)) v9)).length (slC (fun v => rt (Xs v)) 4 p9 (hf q9)) 4) := apC_fr 8 9 g _ _ _ _ hF1
      generalize (apC 8 9 u1 (B ++ bi (fun v => rt (Xs v)) (wyL 4 (p9 + (hf q9)) (q9 - (hf q9)) v9)).length (slC (fun v => rt (Xs v)) 4 p9 (hf q9)) 4) = u2 at hP hD hB2 hF2
      replace hP : va_P D CC (wC tk ad u2 rr ++ tl) H := hP
      replace hD : va_D A (wC tk ad u2 rr ++ tl) := hD
      exact k_vret hQ hx hb hr hlk hK hP hD hS u2 rfl (⟨hF2, by rw [bi_wy (by omega)]; first | (rw [if_pos (by omega), ← sl_eq _ _ _ (by omega) (by omega), ← List.append_assoc]; exact hB2) | (rw [if_neg (by omega), ← sl_eq _ _ _ (by omega) (by omega), ← List.append_assoc]; exact hB2)⟩) d_P_addWay_82
    · skip
      refine lv_aload_n hx hb d_P_addWay_25 rfl (lv_at hl 2 rfl) ?_
      refine lv_aload_n hx hb d_P_addWay_26 rfl (lv_at hl 3 rfl) ?_
      refine lv_iload_n hx hb d_P_addWay_27 rfl (lv_at hl 4 rfl) ?_
      refine lv_iload hx hb d_P_addWay_28 (lv_at hl 1 rfl) ?_
      refine lv_iload hx hb d_P_addWay_30 (lv_at hl 6 rfl) ?_
      refine k_callv (va_runV (As := [.ref (ad 3), .int (nI p9), .int (nI (hf q9)), .int (nI v9)]) (rest := []) ⟨hx, hb, hml, hown, hts⟩ (c_P_addWay3 l D tk H.size ad g rr tl S ca bl hst Xs V hV1 hV2 hh B hB (by omega) p9 (hf q9) v9 (by omega) (by omega) (by omega) (by omega) (by omega)) (cwV 4 hts (gV t_835 t_837 s_6 t_6 t_838) rfl rfl rfl (by decide +kernel) ⟨Nat.le_of_ble_eq_true rfl, Nat.le_of_ble_eq_true rfl⟩) (k_preV hP hK hD hnw 12 rfl rfl) rfl rfl hl.1 rfl (lv_room (Nat.le_of_ble_eq_true rfl)) d_P_addWay_32 hc0) hD hS hA (fun u3 H locs hw3 hP hD hK hS => ?_)
      have hF3 : frx [8, 9] g u3 := frx_t frx_r hw3.1 (fun x h9 => ⟨h9, h9⟩)
      have hB3 : prfC u3 (B ++ bi (fun v => rt (Xs v)) (wyL 4 p9 (hf q9) v9)) := hw3.2
      have hwl3 : (wyL 4 p9 (hf q9) v9).length ≤ 3 := wyl_le 3 p9 (hf q9) v9 (by omega) (by omega)
      replace hP : va_P D CC (wC tk ad u3 rr ++ tl) H := hP
      replace hD : va_D A (wC tk ad u3 rr ++ tl) := hD
      refine lv_aload_n hx hb d_P_addWay_35 rfl (lv_at hl 2 rfl) ?_
      refine gf_P_10 (v := .ref (ad 13)) hx hb hT hown hK hP 12 rfl rfl d_P_addWay_36 ?_
      refine lv_aload_n hx hb d_P_addWay_39 rfl (lv_at hl 3 rfl) ?_
      refine lv_iload hx hb d_P_addWay_40 (lv_at hl 0 rfl) ?_
      refine lv_iload_n hx hb d_P_addWay_42 rfl (lv_at hl 5 rfl) ?_
      refine lv_iload hx hb d_P_addWay_43 (lv_at hl 1 rfl) ?_
      refine st_isub hx hb (by omega) d_P_addWay_45 ?_
      refine k_calli (va_runVN (As := [.int (nI (p9 + (hf q9))), .int (nI (q9 - (hf q9)))]) (rest := [.ref (ad 13)]) ⟨hx, hb, hml, hown, hts⟩ (c_H_seal4 l D tk H.size ad u3 rr tl S ca bl hst Xs V hV1 hV2 hh (p9 + (hf q9)) (q9 - (hf q9)) (by omega) (by omega) (by omega)) ⟨(va_cnB 2 hts (gB t_803) rfl rfl rfl (hnw.1 _ _ _ _ n_840) (hT _ t_3) (by decide +kernel) ⟨Nat.le_of_ble_eq_true rfl, Nat.le_of_ble_eq_true rfl⟩), hT _ t_802, hT _ s_5⟩ (k_preV hP hK hD hnw 3 rfl rfl) rfl rfl hl.1 rfl (lv_room (Nat.le_of_ble_eq_true rfl)) d_P_addWay_46 hc0) hD hS hA (fun _ _ H locs hp46 hP hD hK hS => ?_)
      subst hp46
      replace hP : va_P D CC (wC tk ad u3 rr ++ tl) H := hP
      replace hD : va_D A (wC tk ad u3 rr ++ tl) := hD
      refine k_callv (va_runV (As := [.int (slC (fun v => rt (Xs v)) 4 (p9 + (hf q9)) (q9 - (hf q9)))]) (rest := []) ⟨hx, hb, hml, hown, hts⟩ (c_B_appendInt l D tk H.size ad u3 rr tl (B ++ bi (fun v => rt (Xs v)) (wyL 4 p9 (hf q9) v9)) hB3 (by first | omega | (simp only [List.length_append, bi_len]; omega)) (slC (fun v => rt (Xs v)) 4 (p9 + (hf q9)) (q9 - (hf q9)))) (cwV 1 hts (gV t_841 t_842 t_843 t_7 t_844) rfl rfl rfl (by decide +kernel) ⟨Nat.le_of_ble_eq_true rfl, Nat.le_of_ble_eq_true rfl⟩) (k_preV hP hK hD hnw 13 rfl rfl) rfl rfl hl.1 rfl (lv_room (Nat.le_of_ble_eq_true rfl)) d_P_addWay_49 hc0) hD hS hA (fun _ H locs hp49 hP hD hK hS => ?_)
      replace hP : va_P D CC (wC tk ad (apC 8 9 u3 (B ++ bi (fun v => rt (Xs v)) (wyL 4 p9 (hf q9) v9)).length (slC (fun v => rt (Xs v)) 4 (p9 + (hf q9)) (q9 - (hf q9))) 4) rr ++ tl) H := hP
      replace hD : va_D A (wC tk ad (apC 8 9 u3 (B ++ bi (fun v => rt (Xs v)) (wyL 4 p9 (hf q9) v9)).length (slC (fun v => rt (Xs v)) 4 (p9 + (hf q9)) (q9 - (hf q9))) 4) rr ++ tl) := hD
      have hB4 : prfC (apC 8 9 u3 (B ++ bi (fun v => rt (Xs v)) (wyL 4 p9 (hf q9) v9)).length (slC (fun v => rt (Xs v)) 4 (p9 + (hf q9)) (q9 - (hf q9))) 4) ((B ++ bi (fun v => rt (Xs v)) (wyL 4 p9 (hf q9) v9)) ++ ib (slC (fun v => rt (Xs v)) 4 (p9 + (hf q9)) (q9 - (hf q9)))) := prfC_i hB3 (slC (fun v => rt (Xs v)) 4 (p9 + (hf q9)) (q9 - (hf q9)))
      have hF4 : frx [8, 9] g (apC 8 9 u3 (B ++ bi (fun v => rt (Xs v)) (wyL 4 p9 (hf q9) v9)).length (slC (fun v => rt (Xs v)) 4 (p9 + (hf q9)) (q9 - (hf q9))) 4) := apC_fr 8 9 g _ _ _ _ hF3
      generalize (apC 8 9 u3 (B ++ bi (fun v => rt (Xs v)) (wyL 4 p9 (hf q9) v9)).length (slC (fun v => rt (Xs v)) 4 (p9 + (hf q9)) (q9 - (hf q9))) 4) = u4 at hP hD hB4 hF4
      replace hP : va_P D CC (wC tk ad u4 rr ++ tl) H := hP
      replace hD : va_D A (wC tk ad u4 rr ++ tl) := hD
      refine lv_goto hx hb d_P_addWay_52 (tgt := 82) (by decide) ?_
      exact k_vret hQ hx hb hr hlk hK hP hD hS u4 rfl (⟨hF4, by rw [bi_wy (by omega)]; first | (rw [if_pos (by omega), ← sl_eq _ _ _ (by omega) (by omega), ← List.append_assoc]; exact hB4) | (rw [if_neg (by omega), ← sl_eq _ _ _ (by omega) (by omega), ← List.append_assoc]; exact hB4)⟩) d_P_addWay_82
  · skip
    exact k_vret hQ hx hb hr hlk hK hP hD hS g rfl (⟨frx_r, by rw [wyL_0 (by omega), bi_nil, List.append_nil]; exact hB⟩) d_P_addWay_5

set_option maxHeartbeats 4000000 in
set_option maxRecDepth 100000 in
theorem c_P_addPart0 (l : Launch) (D : va_G) (tk : Nat → ClassId) (sz : Nat) (ad : Nat → Nat) (g : Nat → Nat → Int32) (rr : Nat → Nat → Option Nat) (tl : va_W) (S : List ck_I) (ca : Nat → Nat) (bl : Nat → Nat → Option Nat) (hst : sI tk tl S ca bl) (Xs : Nat → List kv_I) (V : Nat) (hV1 : 1 ≤ V) (hV2 : V ≤ 16) (hh : ∀ v, v < V → so (Xs v) ∧ tOf S ca (Xs v) (rr 1 v)) (B : List Int32) (hB : prfC g B) (hn : B.length + 4 ≤ 400) (p9 q9 m9 : Nat) (hq1 : 1 ≤ q9) (hq2 : q9 ≤ 1) (hpq : p9 + q9 ≤ V) (hm1 : 1 ≤ m9) (hm2 : m9 ≤ q9) : Met l y_P_addPart w_P_addPart ({ frames := 7, cells := 0, slots := 0, locals := 158 }) (va_Pc [.ref (ad 12), .ref (ad 3), .int (nI p9), .int (nI q9), .int (nI m9)] (k_pre D (TY tk) sz (wC tk ad g rr ++ tl))) (va_Qv (fun (u : Nat → Nat → Int32) => frx [8, 9] g u ∧ prfC u (B ++ bi (fun v => rt (Xs v)) (grL 1 p9 q9 m9))) (fun u t => k_at D (TY tk) (va_A (wC tk ad g rr ++ tl) sz) ((fun u => wC tk ad u rr ++ tl) u) t) (va_A (wC tk ad g rr ++ tl) sz)) 0 0 (va_A (wC tk ad g rr ++ tl) sz) := by
  refine k_ofW (fun A => va_Qv (fun (u : Nat → Nat → Int32) => frx [8, 9] g u ∧ prfC u (B ++ bi (fun v => rt (Xs v)) (grL 1 p9 q9 m9))) (fun u t => k_at D (TY tk) A ((fun u => wC tk ad u rr ++ tl) u) t) A) (by decide) (Nat.le_of_ble_eq_true rfl) ?_
  intro p e s m args below meth c Q A ls hQ hx hb hr hlk hin hts hT hown hml hnw hP hK hD hA hsz hl
  have hS : va_S A s.heap s.heap [] := va_S.rf
  have hc0 : 0 + 0 ≤ 0 ∧ 0 + 0 ≤ 0 := ⟨by decide, by decide⟩
  replace hl : lv_has ls 7 [(0, .ref (ad 12)), (1, .ref (ad 3)), (2, .int (nI p9)), (3, .int (nI q9)), (4, .int (nI m9))] := hl
  replace hP : va_P D CC (wC tk ad g rr ++ tl) s.heap := hP
  replace hK : va_K D CC (TY tk) s := hK
  refine lv_iload hx hb d_P_addPart_0 (lv_at hl 4 rfl) ?_
  refine lv_iload_n hx hb d_P_addPart_2 rfl (lv_at hl 3 rfl) ?_
  refine st_icmp_lt hx hb (by omega) (by omega) d_P_addPart_3 (tgt := 24) (by decide) (fun hc3 => absurd hc3 (by omega)) (fun hc3 => ?_)
  refine lv_iload_n hx hb d_P_addPart_6 rfl (lv_at hl 2 rfl) ?_
  refine st_if_le hx hb (by omega) d_P_addPart_7 (tgt := 23) (by decide) (fun hc7 => ?_) (fun hc7 => ?_)
  · skip
    exact k_vret hQ hx hb hr hlk hK hP hD hS g rfl (⟨frx_r, by obtain rfl : m9 = q9 := (by omega); rw [bi_gr0, if_neg (by omega), List.append_nil]; exact hB⟩) d_P_addPart_23
  · skip
    refine lv_aload_n hx hb d_P_addPart_10 rfl (lv_at hl 0 rfl) ?_
    refine gf_P_10 (v := .ref (ad 13)) hx hb hT hown hK hP 12 rfl rfl d_P_addPart_11 ?_
    refine lv_aload_n hx hb d_P_addPart_14 rfl (lv_at hl 1 rfl) ?_
    refine lv_iload_n hx hb d_P_addPart_15 rfl (lv_at hl 2 rfl) ?_
    refine lv_iload_n hx hb d_P_addPart_16 rfl (lv_at hl 3 rfl) ?_
    refine k_calli (va_runVN (As := [.int (nI p9), .int (nI q9)]) (rest := [.ref (ad 13)]) ⟨hx, hb, hml, hown, hts⟩ (c_H_seal4 l D tk s.heap.size ad g rr tl S ca bl hst Xs V hV1 hV2 hh p9 q9 (by omega) (by omega) (by omega)) ⟨(va_cnB 2 hts (gB t_803) rfl rfl rfl (hnw.1 _ _ _ _ n_840) (hT _ t_3) (by decide +kernel) ⟨Nat.le_of_ble_eq_true rfl, Nat.le_of_ble_eq_true rfl⟩), hT _ t_802, hT _ s_5⟩ (k_preV hP hK hD hnw 3 rfl rfl) rfl rfl hl.1 rfl (lv_room (Nat.le_of_ble_eq_true rfl)) d_P_addPart_17 hc0) hD hS hA (fun _ _ H locs hp17 hP hD hK hS => ?_)
    subst hp17
    replace hP : va_P D CC (wC tk ad g rr ++ tl) H := hP
    replace hD : va_D A (wC tk ad g rr ++ tl) := hD
    refine k_callv (va_runV (As := [.int (slC (fun v => rt (Xs v)) 4 p9 q9)]) (rest := []) ⟨hx, hb, hml, hown, hts⟩ (c_B_appendInt l D tk H.size ad g rr tl B hB (by first | omega | (simp only [List.length_append, bi_len]; omega)) (slC (fun v => rt (Xs v)) 4 p9 q9)) (cwV 1 hts (gV t_841 t_842 t_843 t_7 t_844) rfl rfl rfl (by decide +kernel) ⟨Nat.le_of_ble_eq_true rfl, Nat.le_of_ble_eq_true rfl⟩) (k_preV hP hK hD hnw 13 rfl rfl) rfl rfl hl.1 rfl (lv_room (Nat.le_of_ble_eq_true rfl)) d_P_addPart_20 hc0) hD hS hA (fun _ H locs hp20 hP hD hK hS => ?_)
    replace hP : va_P D CC (wC tk ad (apC 8 9 g B.length (slC (fun v => rt (Xs v)) 4 p9 q9) 4) rr ++ tl) H := hP
    replace hD : va_D A (wC tk ad (apC 8 9 g B.length (slC (fun v => rt (Xs v)) 4 p9 q9) 4) rr ++ tl) := hD
    have hB1 : prfC (apC 8 9 g B.length (slC (fun v => rt (Xs v)) 4 p9 q9) 4) (B ++ ib (slC (fun v => rt (Xs v)) 4 p9 q9)) := prfC_i hB (slC (fun v => rt (Xs v)) 4 p9 q9)
    have hF1 : frx [8, 9] g (apC 8 9 g B.length (slC (fun v => rt (Xs v)) 4 p9 q9) 4) := apC_fr 8 9 g _ _ _ _ frx_r
    generalize (apC 8 9 g B.length (slC (fun v => rt (Xs v)) 4 p9 q9) 4) = u1 at hP hD hB1 hF1
    replace hP : va_P D CC (wC tk ad u1 rr ++ tl) H := hP
    replace hD : va_D A (wC tk ad u1 rr ++ tl) := hD
    exact k_vret hQ hx hb hr hlk hK hP hD hS u1 rfl (⟨hF1, by first | (obtain rfl : m9 = q9 := (by omega); rw [bi_gr0, if_pos (by omega), ← sl_eq _ _ _ (by omega) (by omega)]; exact hB1) | (rw [bi_gr (by omega), if_pos (by omega), ← sl_eq _ _ _ (by omega) (by omega), ← List.append_assoc]; exact hB1) | (rw [bi_gr (by omega), if_neg (by omega), ← sl_eq _ _ _ (by omega) (by omega), ← List.append_assoc]; exact hB1)⟩) d_P_addPart_23

set_option maxHeartbeats 4000000 in
set_option maxRecDepth 100000 in
theorem c_P_addPart1 (l : Launch) (D : va_G) (tk : Nat → ClassId) (sz : Nat) (ad : Nat → Nat) (g : Nat → Nat → Int32) (rr : Nat → Nat → Option Nat) (tl : va_W) (S : List ck_I) (ca : Nat → Nat) (bl : Nat → Nat → Option Nat) (hst : sI tk tl S ca bl) (Xs : Nat → List kv_I) (V : Nat) (hV1 : 1 ≤ V) (hV2 : V ≤ 16) (hh : ∀ v, v < V → so (Xs v) ∧ tOf S ca (Xs v) (rr 1 v)) (B : List Int32) (hB : prfC g B) (hn : B.length + 8 ≤ 400) (p9 q9 m9 : Nat) (hq1 : 1 ≤ q9) (hq2 : q9 ≤ 2) (hpq : p9 + q9 ≤ V) (hm1 : 1 ≤ m9) (hm2 : m9 ≤ q9) : Met l y_P_addPart w_P_addPart ({ frames := 8, cells := 0, slots := 0, locals := 184 }) (va_Pc [.ref (ad 12), .ref (ad 3), .int (nI p9), .int (nI q9), .int (nI m9)] (k_pre D (TY tk) sz (wC tk ad g rr ++ tl))) (va_Qv (fun (u : Nat → Nat → Int32) => frx [8, 9] g u ∧ prfC u (B ++ bi (fun v => rt (Xs v)) (grL 2 p9 q9 m9))) (fun u t => k_at D (TY tk) (va_A (wC tk ad g rr ++ tl) sz) ((fun u => wC tk ad u rr ++ tl) u) t) (va_A (wC tk ad g rr ++ tl) sz)) 0 0 (va_A (wC tk ad g rr ++ tl) sz) := by
  refine k_ofW (fun A => va_Qv (fun (u : Nat → Nat → Int32) => frx [8, 9] g u ∧ prfC u (B ++ bi (fun v => rt (Xs v)) (grL 2 p9 q9 m9))) (fun u t => k_at D (TY tk) A ((fun u => wC tk ad u rr ++ tl) u) t) A) (by decide) (Nat.le_of_ble_eq_true rfl) ?_
  intro p e s m args below meth c Q A ls hQ hx hb hr hlk hin hts hT hown hml hnw hP hK hD hA hsz hl
  have hS : va_S A s.heap s.heap [] := va_S.rf
  have hc0 : 0 + 0 ≤ 0 ∧ 0 + 0 ≤ 0 := ⟨by decide, by decide⟩
  replace hl : lv_has ls 7 [(0, .ref (ad 12)), (1, .ref (ad 3)), (2, .int (nI p9)), (3, .int (nI q9)), (4, .int (nI m9))] := hl
  replace hP : va_P D CC (wC tk ad g rr ++ tl) s.heap := hP
  replace hK : va_K D CC (TY tk) s := hK
  refine lv_iload hx hb d_P_addPart_0 (lv_at hl 4 rfl) ?_
  refine lv_iload_n hx hb d_P_addPart_2 rfl (lv_at hl 3 rfl) ?_
  refine st_icmp_lt hx hb (by omega) (by omega) d_P_addPart_3 (tgt := 24) (by decide) (fun hc3 => ?_) (fun hc3 => ?_)
  · skip
    refine lv_iload_n hx hb d_P_addPart_24 rfl (lv_at hl 3 rfl) ?_
    refine k_calli (va_runSN (As := [.int (nI q9)]) (rest := []) ⟨hx, hb, hml, hown, hts⟩ (c_K_half l D tk s.heap.size q9 (by omega) (wC tk ad g rr ++ tl)) ⟨(va_cnB 1 hts (gB t_810) rfl rfl rfl (hnw.1 _ _ _ _ n_839) (hT _ t_1) (by decide +kernel) ⟨Nat.le_of_ble_eq_true rfl, Nat.le_of_ble_eq_true rfl⟩), hT _ t_809, trivial⟩ (k_preS hP hK hD hnw) rfl rfl hl.1 rfl (lv_room (Nat.le_of_ble_eq_true rfl)) d_P_addPart_25 hc0) hD hS hA (fun _ _ H locs hp25 hP hD hK hS => ?_)
    subst hp25
    have hhf := hf_b (q := q9) (by omega) (by omega)
    replace hP : va_P D CC (wC tk ad g rr ++ tl) H := hP
    replace hD : va_D A (wC tk ad g rr ++ tl) := hD
    refine lv_istore (lv' := [(5, .int (nI (hf q9))), (0, .ref (ad 12)), (1, .ref (ad 3)), (2, .int (nI p9)), (3, .int (nI q9)), (4, .int (nI m9))]) hx hb d_P_addPart_28 hl (by decide) rfl (fun ls hl => ?_)
    refine lv_iload_n hx hb d_P_addPart_30 rfl (lv_at hl 3 rfl) ?_
    refine lv_iload hx hb d_P_addPart_31 (lv_at hl 0 rfl) ?_
    refine st_iadd hx hb d_P_addPart_33 ?_
    refine lv_istore (lv' := [(6, .int (nI (p9 + (hf q9)))), (5, .int (nI (hf q9))), (0, .ref (ad 12)), (1, .ref (ad 3)), (2, .int (nI p9)), (3, .int (nI q9)), (4, .int (nI m9))]) hx hb d_P_addPart_34 hl (by decide) rfl (fun ls hl => ?_)
    refine lv_iload hx hb d_P_addPart_36 (lv_at hl 6 rfl) ?_
    refine lv_iload hx hb d_P_addPart_38 (lv_at hl 1 rfl) ?_
    refine st_icmp_gt hx hb (by omega) (by omega) d_P_addPart_40 (tgt := 73) (by decide) (fun hc40 => ?_) (fun hc40 => ?_)
    · skip
      refine lv_aload_n hx hb d_P_addPart_73 rfl (lv_at hl 2 rfl) ?_
      refine lv_aload_n hx hb d_P_addPart_74 rfl (lv_at hl 3 rfl) ?_
      refine lv_iload hx hb d_P_addPart_75 (lv_at hl 0 rfl) ?_
      refine lv_iload_n hx hb d_P_addPart_77 rfl (lv_at hl 5 rfl) ?_
      refine lv_iload hx hb d_P_addPart_78 (lv_at hl 1 rfl) ?_
      refine st_isub hx hb (by omega) d_P_addPart_80 ?_
      refine lv_iload hx hb d_P_addPart_81 (lv_at hl 6 rfl) ?_
      refine lv_iload hx hb d_P_addPart_83 (lv_at hl 1 rfl) ?_
      refine st_isub hx hb (by omega) d_P_addPart_85 ?_
      refine k_callv (va_runV (As := [.ref (ad 3), .int (nI (p9 + (hf q9))), .int (nI (q9 - (hf q9))), .int (nI (m9 - (hf q9)))]) (rest := []) ⟨hx, hb, hml, hown, hts⟩ (c_P_addPart0 l D tk H.size ad g rr tl S ca bl hst Xs V hV1 hV2 hh B hB (by omega) (p9 + (hf q9)) (q9 - (hf q9)) (m9 - (hf q9)) (by omega) (by omega) (by omega) (by omega) (by omega)) (cwV 4 hts (gV t_865 t_867 s_8 t_6 t_868) rfl rfl rfl (by decide +kernel) ⟨Nat.le_of_ble_eq_true rfl, Nat.le_of_ble_eq_true rfl⟩) (k_preV hP hK hD hnw 12 rfl rfl) rfl rfl hl.1 rfl (lv_room (Nat.le_of_ble_eq_true rfl)) d_P_addPart_86 hc0) hD hS hA (fun u1 H locs hw1 hP hD hK hS => ?_)
      have hF1 : frx [8, 9] g u1 := frx_t frx_r hw1.1 (fun x h9 => ⟨h9, h9⟩)
      have hB1 : prfC u1 (B ++ bi (fun v => rt (Xs v)) (grL 1 (p9 + (hf q9)) (q9 - (hf q9)) (m9 - (hf q9)))) := hw1.2
      have hwl1 : (grL 1 (p9 + (hf q9)) (q9 - (hf q9)) (m9 - (hf q9))).length ≤ 1 := grl_le 0 (p9 + (hf q9)) (q9 - (hf q9)) (m9 - (hf q9)) (by omega) (by omega) (by omega) (by omega)
      replace hP : va_P D CC (wC tk ad u1 rr ++ tl) H := hP
      replace hD : va_D A (wC tk ad u1 rr ++ tl) := hD
      refine lv_aload_n hx hb d_P_addPart_89 rfl (lv_at hl 2 rfl) ?_
      refine gf_P_10 (v := .ref (ad 13)) hx hb hT hown hK hP 12 rfl rfl d_P_addPart_90 ?_
      refine lv_aload_n hx hb d_P_addPart_93 rfl (lv_at hl 3 rfl) ?_
      refine lv_iload_n hx hb d_P_addPart_94 rfl (lv_at hl 4 rfl) ?_
      refine lv_iload hx hb d_P_addPart_95 (lv_at hl 1 rfl) ?_
      refine k_calli (va_runVN (As := [.int (nI p9), .int (nI (hf q9))]) (rest := [.ref (ad 13)]) ⟨hx, hb, hml, hown, hts⟩ (c_H_seal4 l D tk H.size ad u1 rr tl S ca bl hst Xs V hV1 hV2 hh p9 (hf q9) (by omega) (by omega) (by omega)) ⟨(va_cnB 2 hts (gB t_803) rfl rfl rfl (hnw.1 _ _ _ _ n_840) (hT _ t_3) (by decide +kernel) ⟨Nat.le_of_ble_eq_true rfl, Nat.le_of_ble_eq_true rfl⟩), hT _ t_802, hT _ s_5⟩ (k_preV hP hK hD hnw 3 rfl rfl) rfl rfl hl.1 rfl (lv_room (Nat.le_of_ble_eq_true rfl)) d_P_addPart_97 hc0) hD hS hA (fun _ _ H locs hp97 hP hD hK hS => ?_)
      subst hp97
      replace hP : va_P D CC (wC tk ad u1 rr ++ tl) H := hP
      replace hD : va_D A (wC tk ad u1 rr ++ tl) := hD
      refine k_callv (va_runV (As := [.int (slC (fun v => rt (Xs v)) 4 p9 (hf q9))]) (rest := []) ⟨hx, hb, hml, hown, hts⟩ (c_B_appendInt l D tk H.size ad u1 rr tl (B ++ bi (fun v => rt (Xs v)) (grL 1 (p9 + (hf q9)) (q9 - (hf q9)) (m9 - (hf q9)))) hB1 (by first | omega | (simp only [List.length_append, bi_len]; omega)) (slC (fun v => rt (Xs v)) 4 p9 (hf q9))) (cwV 1 hts (gV t_841 t_842 t_843 t_7 t_844) rfl rfl rfl (by decide +kernel) ⟨Nat.le_of_ble_eq_true rfl, Nat.le_of_ble_eq_true rfl⟩) (k_preV hP hK hD hnw 13 rfl rfl) rfl rfl hl.1 rfl (lv_room (Nat.le_of_ble_eq_true rfl)) d_P_addPart_100 hc0) hD hS hA (fun _ H locs hp100 hP hD hK hS => ?_)
      replace hP : va_P D CC (wC tk ad (apC 8 9 u1 (B ++ bi (fun v => rt (Xs v)) (grL 1 (p9 + (hf q9)) (q9 - (hf q9)) (m9 - (hf q9)))).length (slC (fun v => rt (Xs v)) 4 p9 (hf q9)) 4) rr ++ tl) H := hP
      replace hD : va_D A (wC tk ad (apC 8 9 u1 (B ++ bi (fun v => rt (Xs v)) (grL 1 (p9 + (hf q9)) (q9 - (hf q9)) (m9 - (hf q9)))).length (slC (fun v => rt (Xs v)) 4 p9 (hf q9)) 4) rr ++ tl) := hD
      have hB2 : prfC (apC 8 9 u1 (B ++ bi (fun v => rt (Xs v)) (grL 1 (p9 + (hf q9)) (q9 - (hf q9)) (m9 - (hf q9)))).length (slC (fun v => rt (Xs v)) 4 p9 (hf q9)) 4) ((B ++ bi (fun v => rt (Xs v)) (grL 1 (p9 + (hf q9)) (q9 - (hf q9)) (m9 - (hf q9)))) ++ ib (slC (fun v => rt (Xs v)) 4 p9 (hf q9))) := prfC_i hB1 (slC (fun v => rt (Xs v)) 4 p9 (hf q9))
      have hF2 : frx [8, 9] g (apC 8 9 u1 (B ++ bi (fun v => rt (Xs v)) (grL 1 (p9 + (hf q9)) (q9 - (hf q9)) (m9 - (hf q9)))).length (slC (fun v => rt (Xs v)) 4 p9 (hf q9)) 4) := apC_fr 8 9 g _ _ _ _ hF1
      generalize (apC 8 9 u1 (B ++ bi (fun v => rt (Xs v)) (grL 1 (p9 + (hf q9)) (q9 - (hf q9)) (m9 - (hf q9)))).length (slC (fun v => rt (Xs v)) 4 p9 (hf q9)) 4) = u2 at hP hD hB2 hF2
      replace hP : va_P D CC (wC tk ad u2 rr ++ tl) H := hP
      replace hD : va_D A (wC tk ad u2 rr ++ tl) := hD
      exact k_vret hQ hx hb hr hlk hK hP hD hS u2 rfl (⟨hF2, by first | (obtain rfl : m9 = q9 := (by omega); rw [bi_gr0, if_pos (by omega), ← sl_eq _ _ _ (by omega) (by omega)]; exact hB2) | (rw [bi_gr (by omega), if_pos (by omega), ← sl_eq _ _ _ (by omega) (by omega), ← List.append_assoc]; exact hB2) | (rw [bi_gr (by omega), if_neg (by omega), ← sl_eq _ _ _ (by omega) (by omega), ← List.append_assoc]; exact hB2)⟩) d_P_addPart_103
    · skip
      refine lv_aload_n hx hb d_P_addPart_43 rfl (lv_at hl 2 rfl) ?_
      refine lv_aload_n hx hb d_P_addPart_44 rfl (lv_at hl 3 rfl) ?_
      refine lv_iload_n hx hb d_P_addPart_45 rfl (lv_at hl 4 rfl) ?_
      refine lv_iload hx hb d_P_addPart_46 (lv_at hl 1 rfl) ?_
      refine lv_iload hx hb d_P_addPart_48 (lv_at hl 6 rfl) ?_
      refine k_callv (va_runV (As := [.ref (ad 3), .int (nI p9), .int (nI (hf q9)), .int (nI m9)]) (rest := []) ⟨hx, hb, hml, hown, hts⟩ (c_P_addPart0 l D tk H.size ad g rr tl S ca bl hst Xs V hV1 hV2 hh B hB (by omega) p9 (hf q9) m9 (by omega) (by omega) (by omega) (by omega) (by omega)) (cwV 4 hts (gV t_865 t_867 s_8 t_6 t_868) rfl rfl rfl (by decide +kernel) ⟨Nat.le_of_ble_eq_true rfl, Nat.le_of_ble_eq_true rfl⟩) (k_preV hP hK hD hnw 12 rfl rfl) rfl rfl hl.1 rfl (lv_room (Nat.le_of_ble_eq_true rfl)) d_P_addPart_50 hc0) hD hS hA (fun u3 H locs hw3 hP hD hK hS => ?_)
      have hF3 : frx [8, 9] g u3 := frx_t frx_r hw3.1 (fun x h9 => ⟨h9, h9⟩)
      have hB3 : prfC u3 (B ++ bi (fun v => rt (Xs v)) (grL 1 p9 (hf q9) m9)) := hw3.2
      have hwl3 : (grL 1 p9 (hf q9) m9).length ≤ 1 := grl_le 0 p9 (hf q9) m9 (by omega) (by omega) (by omega) (by omega)
      replace hP : va_P D CC (wC tk ad u3 rr ++ tl) H := hP
      replace hD : va_D A (wC tk ad u3 rr ++ tl) := hD
      refine lv_aload_n hx hb d_P_addPart_53 rfl (lv_at hl 2 rfl) ?_
      refine gf_P_10 (v := .ref (ad 13)) hx hb hT hown hK hP 12 rfl rfl d_P_addPart_54 ?_
      refine lv_aload_n hx hb d_P_addPart_57 rfl (lv_at hl 3 rfl) ?_
      refine lv_iload hx hb d_P_addPart_58 (lv_at hl 0 rfl) ?_
      refine lv_iload_n hx hb d_P_addPart_60 rfl (lv_at hl 5 rfl) ?_
      refine lv_iload hx hb d_P_addPart_61 (lv_at hl 1 rfl) ?_
      refine st_isub hx hb (by omega) d_P_addPart_63 ?_
      refine k_calli (va_runVN (As := [.int (nI (p9 + (hf q9))), .int (nI (q9 - (hf q9)))]) (rest := [.ref (ad 13)]) ⟨hx, hb, hml, hown, hts⟩ (c_H_seal4 l D tk H.size ad u3 rr tl S ca bl hst Xs V hV1 hV2 hh (p9 + (hf q9)) (q9 - (hf q9)) (by omega) (by omega) (by omega)) ⟨(va_cnB 2 hts (gB t_803) rfl rfl rfl (hnw.1 _ _ _ _ n_840) (hT _ t_3) (by decide +kernel) ⟨Nat.le_of_ble_eq_true rfl, Nat.le_of_ble_eq_true rfl⟩), hT _ t_802, hT _ s_5⟩ (k_preV hP hK hD hnw 3 rfl rfl) rfl rfl hl.1 rfl (lv_room (Nat.le_of_ble_eq_true rfl)) d_P_addPart_64 hc0) hD hS hA (fun _ _ H locs hp64 hP hD hK hS => ?_)
      subst hp64
      replace hP : va_P D CC (wC tk ad u3 rr ++ tl) H := hP
      replace hD : va_D A (wC tk ad u3 rr ++ tl) := hD
      refine k_callv (va_runV (As := [.int (slC (fun v => rt (Xs v)) 4 (p9 + (hf q9)) (q9 - (hf q9)))]) (rest := []) ⟨hx, hb, hml, hown, hts⟩ (c_B_appendInt l D tk H.size ad u3 rr tl (B ++ bi (fun v => rt (Xs v)) (grL 1 p9 (hf q9) m9)) hB3 (by first | omega | (simp only [List.length_append, bi_len]; omega)) (slC (fun v => rt (Xs v)) 4 (p9 + (hf q9)) (q9 - (hf q9)))) (cwV 1 hts (gV t_841 t_842 t_843 t_7 t_844) rfl rfl rfl (by decide +kernel) ⟨Nat.le_of_ble_eq_true rfl, Nat.le_of_ble_eq_true rfl⟩) (k_preV hP hK hD hnw 13 rfl rfl) rfl rfl hl.1 rfl (lv_room (Nat.le_of_ble_eq_true rfl)) d_P_addPart_67 hc0) hD hS hA (fun _ H locs hp67 hP hD hK hS => ?_)
      replace hP : va_P D CC (wC tk ad (apC 8 9 u3 (B ++ bi (fun v => rt (Xs v)) (grL 1 p9 (hf q9) m9)).length (slC (fun v => rt (Xs v)) 4 (p9 + (hf q9)) (q9 - (hf q9))) 4) rr ++ tl) H := hP
      replace hD : va_D A (wC tk ad (apC 8 9 u3 (B ++ bi (fun v => rt (Xs v)) (grL 1 p9 (hf q9) m9)).length (slC (fun v => rt (Xs v)) 4 (p9 + (hf q9)) (q9 - (hf q9))) 4) rr ++ tl) := hD
      have hB4 : prfC (apC 8 9 u3 (B ++ bi (fun v => rt (Xs v)) (grL 1 p9 (hf q9) m9)).length (slC (fun v => rt (Xs v)) 4 (p9 + (hf q9)) (q9 - (hf q9))) 4) ((B ++ bi (fun v => rt (Xs v)) (grL 1 p9 (hf q9) m9)) ++ ib (slC (fun v => rt (Xs v)) 4 (p9 + (hf q9)) (q9 - (hf q9)))) := prfC_i hB3 (slC (fun v => rt (Xs v)) 4 (p9 + (hf q9)) (q9 - (hf q9)))
      have hF4 : frx [8, 9] g (apC 8 9 u3 (B ++ bi (fun v => rt (Xs v)) (grL 1 p9 (hf q9) m9)).length (slC (fun v => rt (Xs v)) 4 (p9 + (hf q9)) (q9 - (hf q9))) 4) := apC_fr 8 9 g _ _ _ _ hF3
      generalize (apC 8 9 u3 (B ++ bi (fun v => rt (Xs v)) (grL 1 p9 (hf q9) m9)).length (slC (fun v => rt (Xs v)) 4 (p9 + (hf q9)) (q9 - (hf q9))) 4) = u4 at hP hD hB4 hF4
      replace hP : va_P D CC (wC tk ad u4 rr ++ tl) H := hP
      replace hD : va_D A (wC tk ad u4 rr ++ tl) := hD
      refine lv_goto hx hb d_P_addPart_70 (tgt := 103) (by decide) ?_
      exact k_vret hQ hx hb hr hlk hK hP hD hS u4 rfl (⟨hF4, by first | (obtain rfl : m9 = q9 := (by omega); rw [bi_gr0, if_pos (by omega), ← sl_eq _ _ _ (by omega) (by omega)]; exact hB4) | (rw [bi_gr (by omega), if_pos (by omega), ← sl_eq _ _ _ (by omega) (by omega), ← List.append_assoc]; exact hB4) | (rw [bi_gr (by omega), if_neg (by omega), ← sl_eq _ _ _ (by omega) (by omega), ← List.append_assoc]; exact hB4)⟩) d_P_addPart_103
  · skip
    refine lv_iload_n hx hb d_P_addPart_6 rfl (lv_at hl 2 rfl) ?_
    refine st_if_le hx hb (by omega) d_P_addPart_7 (tgt := 23) (by decide) (fun hc7 => ?_) (fun hc7 => ?_)
    · skip
      exact k_vret hQ hx hb hr hlk hK hP hD hS g rfl (⟨frx_r, by obtain rfl : m9 = q9 := (by omega); rw [bi_gr0, if_neg (by omega), List.append_nil]; exact hB⟩) d_P_addPart_23
    · skip
      refine lv_aload_n hx hb d_P_addPart_10 rfl (lv_at hl 0 rfl) ?_
      refine gf_P_10 (v := .ref (ad 13)) hx hb hT hown hK hP 12 rfl rfl d_P_addPart_11 ?_
      refine lv_aload_n hx hb d_P_addPart_14 rfl (lv_at hl 1 rfl) ?_
      refine lv_iload_n hx hb d_P_addPart_15 rfl (lv_at hl 2 rfl) ?_
      refine lv_iload_n hx hb d_P_addPart_16 rfl (lv_at hl 3 rfl) ?_
      refine k_calli (va_runVN (As := [.int (nI p9), .int (nI q9)]) (rest := [.ref (ad 13)]) ⟨hx, hb, hml, hown, hts⟩ (c_H_seal4 l D tk s.heap.size ad g rr tl S ca bl hst Xs V hV1 hV2 hh p9 q9 (by omega) (by omega) (by omega)) ⟨(va_cnB 2 hts (gB t_803) rfl rfl rfl (hnw.1 _ _ _ _ n_840) (hT _ t_3) (by decide +kernel) ⟨Nat.le_of_ble_eq_true rfl, Nat.le_of_ble_eq_true rfl⟩), hT _ t_802, hT _ s_5⟩ (k_preV hP hK hD hnw 3 rfl rfl) rfl rfl hl.1 rfl (lv_room (Nat.le_of_ble_eq_true rfl)) d_P_addPart_17 hc0) hD hS hA (fun _ _ H locs hp17 hP hD hK hS => ?_)
      subst hp17
      replace hP : va_P D CC (wC tk ad g rr ++ tl) H := hP
      replace hD : va_D A (wC tk ad g rr ++ tl) := hD
      refine k_callv (va_runV (As := [.int (slC (fun v => rt (Xs v)) 4 p9 q9)]) (rest := []) ⟨hx, hb, hml, hown, hts⟩ (c_B_appendInt l D tk H.size ad g rr tl B hB (by first | omega | (simp only [List.length_append, bi_len]; omega)) (slC (fun v => rt (Xs v)) 4 p9 q9)) (cwV 1 hts (gV t_841 t_842 t_843 t_7 t_844) rfl rfl rfl (by decide +kernel) ⟨Nat.le_of_ble_eq_true rfl, Nat.le_of_ble_eq_true rfl⟩) (k_preV hP hK hD hnw 13 rfl rfl) rfl rfl hl.1 rfl (lv_room (Nat.le_of_ble_eq_true rfl)) d_P_addPart_20 hc0) hD hS hA (fun _ H locs hp20 hP hD hK hS => ?_)
      replace hP : va_P D CC (wC tk ad (apC 8 9 g B.length (slC (fun v => rt (Xs v)) 4 p9 q9) 4) rr ++ tl) H := hP
      replace hD : va_D A (wC tk ad (apC 8 9 g B.length (slC (fun v => rt (Xs v)) 4 p9 q9) 4) rr ++ tl) := hD
      have hB5 : prfC (apC 8 9 g B.length (slC (fun v => rt (Xs v)) 4 p9 q9) 4) (B ++ ib (slC (fun v => rt (Xs v)) 4 p9 q9)) := prfC_i hB (slC (fun v => rt (Xs v)) 4 p9 q9)
      have hF5 : frx [8, 9] g (apC 8 9 g B.length (slC (fun v => rt (Xs v)) 4 p9 q9) 4) := apC_fr 8 9 g _ _ _ _ frx_r
      generalize (apC 8 9 g B.length (slC (fun v => rt (Xs v)) 4 p9 q9) 4) = u5 at hP hD hB5 hF5
      replace hP : va_P D CC (wC tk ad u5 rr ++ tl) H := hP
      replace hD : va_D A (wC tk ad u5 rr ++ tl) := hD
      exact k_vret hQ hx hb hr hlk hK hP hD hS u5 rfl (⟨hF5, by first | (obtain rfl : m9 = q9 := (by omega); rw [bi_gr0, if_pos (by omega), ← sl_eq _ _ _ (by omega) (by omega)]; exact hB5) | (rw [bi_gr (by omega), if_pos (by omega), ← sl_eq _ _ _ (by omega) (by omega), ← List.append_assoc]; exact hB5) | (rw [bi_gr (by omega), if_neg (by omega), ← sl_eq _ _ _ (by omega) (by omega), ← List.append_assoc]; exact hB5)⟩) d_P_addPart_23

set_option maxHeartbeats 4000000 in
set_option maxRecDepth 100000 in
theorem c_P_addPart2 (l : Launch) (D : va_G) (tk : Nat → ClassId) (sz : Nat) (ad : Nat → Nat) (g : Nat → Nat → Int32) (rr : Nat → Nat → Option Nat) (tl : va_W) (S : List ck_I) (ca : Nat → Nat) (bl : Nat → Nat → Option Nat) (hst : sI tk tl S ca bl) (Xs : Nat → List kv_I) (V : Nat) (hV1 : 1 ≤ V) (hV2 : V ≤ 16) (hh : ∀ v, v < V → so (Xs v) ∧ tOf S ca (Xs v) (rr 1 v)) (B : List Int32) (hB : prfC g B) (hn : B.length + 12 ≤ 400) (p9 q9 m9 : Nat) (hq1 : 1 ≤ q9) (hq2 : q9 ≤ 4) (hpq : p9 + q9 ≤ V) (hm1 : 1 ≤ m9) (hm2 : m9 ≤ q9) : Met l y_P_addPart w_P_addPart ({ frames := 9, cells := 0, slots := 0, locals := 210 }) (va_Pc [.ref (ad 12), .ref (ad 3), .int (nI p9), .int (nI q9), .int (nI m9)] (k_pre D (TY tk) sz (wC tk ad g rr ++ tl))) (va_Qv (fun (u : Nat → Nat → Int32) => frx [8, 9] g u ∧ prfC u (B ++ bi (fun v => rt (Xs v)) (grL 3 p9 q9 m9))) (fun u t => k_at D (TY tk) (va_A (wC tk ad g rr ++ tl) sz) ((fun u => wC tk ad u rr ++ tl) u) t) (va_A (wC tk ad g rr ++ tl) sz)) 0 0 (va_A (wC tk ad g rr ++ tl) sz) := by
  refine k_ofW (fun A => va_Qv (fun (u : Nat → Nat → Int32) => frx [8, 9] g u ∧ prfC u (B ++ bi (fun v => rt (Xs v)) (grL 3 p9 q9 m9))) (fun u t => k_at D (TY tk) A ((fun u => wC tk ad u rr ++ tl) u) t) A) (by decide) (Nat.le_of_ble_eq_true rfl) ?_
  intro p e s m args below meth c Q A ls hQ hx hb hr hlk hin hts hT hown hml hnw hP hK hD hA hsz hl
  have hS : va_S A s.heap s.heap [] := va_S.rf
  have hc0 : 0 + 0 ≤ 0 ∧ 0 + 0 ≤ 0 := ⟨by decide, by decide⟩
  replace hl : lv_has ls 7 [(0, .ref (ad 12)), (1, .ref (ad 3)), (2, .int (nI p9)), (3, .int (nI q9)), (4, .int (nI m9))] := hl
  replace hP : va_P D CC (wC tk ad g rr ++ tl) s.heap := hP
  replace hK : va_K D CC (TY tk) s := hK
  refine lv_iload hx hb d_P_addPart_0 (lv_at hl 4 rfl) ?_
  refine lv_iload_n hx hb d_P_addPart_2 rfl (lv_at hl 3 rfl) ?_
  refine st_icmp_lt hx hb (by omega) (by omega) d_P_addPart_3 (tgt := 24) (by decide) (fun hc3 => ?_) (fun hc3 => ?_)
  · skip
    refine lv_iload_n hx hb d_P_addPart_24 rfl (lv_at hl 3 rfl) ?_
    refine k_calli (va_runSN (As := [.int (nI q9)]) (rest := []) ⟨hx, hb, hml, hown, hts⟩ (c_K_half l D tk s.heap.size q9 (by omega) (wC tk ad g rr ++ tl)) ⟨(va_cnB 1 hts (gB t_810) rfl rfl rfl (hnw.1 _ _ _ _ n_839) (hT _ t_1) (by decide +kernel) ⟨Nat.le_of_ble_eq_true rfl, Nat.le_of_ble_eq_true rfl⟩), hT _ t_809, trivial⟩ (k_preS hP hK hD hnw) rfl rfl hl.1 rfl (lv_room (Nat.le_of_ble_eq_true rfl)) d_P_addPart_25 hc0) hD hS hA (fun _ _ H locs hp25 hP hD hK hS => ?_)
    subst hp25
    have hhf := hf_b (q := q9) (by omega) (by omega)
    replace hP : va_P D CC (wC tk ad g rr ++ tl) H := hP
    replace hD : va_D A (wC tk ad g rr ++ tl) := hD
    refine lv_istore (lv' := [(5, .int (nI (hf q9))), (0, .ref (ad 12)), (1, .ref (ad 3)), (2, .int (nI p9)), (3, .int (nI q9)), (4, .int (nI m9))]) hx hb d_P_addPart_28 hl (by decide) rfl (fun ls hl => ?_)
    refine lv_iload_n hx hb d_P_addPart_30 rfl (lv_at hl 3 rfl) ?_
    refine lv_iload hx hb d_P_addPart_31 (lv_at hl 0 rfl) ?_
    refine st_iadd hx hb d_P_addPart_33 ?_
    refine lv_istore (lv' := [(6, .int (nI (p9 + (hf q9)))), (5, .int (nI (hf q9))), (0, .ref (ad 12)), (1, .ref (ad 3)), (2, .int (nI p9)), (3, .int (nI q9)), (4, .int (nI m9))]) hx hb d_P_addPart_34 hl (by decide) rfl (fun ls hl => ?_)
    refine lv_iload hx hb d_P_addPart_36 (lv_at hl 6 rfl) ?_
    refine lv_iload hx hb d_P_addPart_38 (lv_at hl 1 rfl) ?_
    refine st_icmp_gt hx hb (by omega) (by omega) d_P_addPart_40 (tgt := 73) (by decide) (fun hc40 => ?_) (fun hc40 => ?_)
    · skip
      refine lv_aload_n hx hb d_P_addPart_73 rfl (lv_at hl 2 rfl) ?_
      refine lv_aload_n hx hb d_P_addPart_74 rfl (lv_at hl 3 rfl) ?_
      refine lv_iload hx hb d_P_addPart_75 (lv_at hl 0 rfl) ?_
      refine lv_iload_n hx hb d_P_addPart_77 rfl (lv_at hl 5 rfl) ?_
      refine lv_iload hx hb d_P_addPart_78 (lv_at hl 1 rfl) ?_
      refine st_isub hx hb (by omega) d_P_addPart_80 ?_
      refine lv_iload hx hb d_P_addPart_81 (lv_at hl 6 rfl) ?_
      refine lv_iload hx hb d_P_addPart_83 (lv_at hl 1 rfl) ?_
      refine st_isub hx hb (by omega) d_P_addPart_85 ?_
      refine k_callv (va_runV (As := [.ref (ad 3), .int (nI (p9 + (hf q9))), .int (nI (q9 - (hf q9))), .int (nI (m9 - (hf q9)))]) (rest := []) ⟨hx, hb, hml, hown, hts⟩ (c_P_addPart1 l D tk H.size ad g rr tl S ca bl hst Xs V hV1 hV2 hh B hB (by omega) (p9 + (hf q9)) (q9 - (hf q9)) (m9 - (hf q9)) (by omega) (by omega) (by omega) (by omega) (by omega)) (cwV 4 hts (gV t_865 t_867 s_8 t_6 t_868) rfl rfl rfl (by decide +kernel) ⟨Nat.le_of_ble_eq_true rfl, Nat.le_of_ble_eq_true rfl⟩) (k_preV hP hK hD hnw 12 rfl rfl) rfl rfl hl.1 rfl (lv_room (Nat.le_of_ble_eq_true rfl)) d_P_addPart_86 hc0) hD hS hA (fun u1 H locs hw1 hP hD hK hS => ?_)
      have hF1 : frx [8, 9] g u1 := frx_t frx_r hw1.1 (fun x h9 => ⟨h9, h9⟩)
      have hB1 : prfC u1 (B ++ bi (fun v => rt (Xs v)) (grL 2 (p9 + (hf q9)) (q9 - (hf q9)) (m9 - (hf q9)))) := hw1.2
      have hwl1 : (grL 2 (p9 + (hf q9)) (q9 - (hf q9)) (m9 - (hf q9))).length ≤ 2 := grl_le 1 (p9 + (hf q9)) (q9 - (hf q9)) (m9 - (hf q9)) (by omega) (by omega) (by omega) (by omega)
      replace hP : va_P D CC (wC tk ad u1 rr ++ tl) H := hP
      replace hD : va_D A (wC tk ad u1 rr ++ tl) := hD
      refine lv_aload_n hx hb d_P_addPart_89 rfl (lv_at hl 2 rfl) ?_
      refine gf_P_10 (v := .ref (ad 13)) hx hb hT hown hK hP 12 rfl rfl d_P_addPart_90 ?_
      refine lv_aload_n hx hb d_P_addPart_93 rfl (lv_at hl 3 rfl) ?_
      refine lv_iload_n hx hb d_P_addPart_94 rfl (lv_at hl 4 rfl) ?_
      refine lv_iload hx hb d_P_addPart_95 (lv_at hl 1 rfl) ?_
      refine k_calli (va_runVN (As := [.int (nI p9), .int (nI (hf q9))]) (rest := [.ref (ad 13)]) ⟨hx, hb, hml, hown, hts⟩ (c_H_seal4 l D tk H.size ad u1 rr tl S ca bl hst Xs V hV1 hV2 hh p9 (hf q9) (by omega) (by omega) (by omega)) ⟨(va_cnB 2 hts (gB t_803) rfl rfl rfl (hnw.1 _ _ _ _ n_840) (hT _ t_3) (by decide +kernel) ⟨Nat.le_of_ble_eq_true rfl, Nat.le_of_ble_eq_true rfl⟩), hT _ t_802, hT _ s_5⟩ (k_preV hP hK hD hnw 3 rfl rfl) rfl rfl hl.1 rfl (lv_room (Nat.le_of_ble_eq_true rfl)) d_P_addPart_97 hc0) hD hS hA (fun _ _ H locs hp97 hP hD hK hS => ?_)
      subst hp97
      replace hP : va_P D CC (wC tk ad u1 rr ++ tl) H := hP
      replace hD : va_D A (wC tk ad u1 rr ++ tl) := hD
      refine k_callv (va_runV (As := [.int (slC (fun v => rt (Xs v)) 4 p9 (hf q9))]) (rest := []) ⟨hx, hb, hml, hown, hts⟩ (c_B_appendInt l D tk H.size ad u1 rr tl (B ++ bi (fun v => rt (Xs v)) (grL 2 (p9 + (hf q9)) (q9 - (hf q9)) (m9 - (hf q9)))) hB1 (by first | omega | (simp only [List.length_append, bi_len]; omega)) (slC (fun v => rt (Xs v)) 4 p9 (hf q9))) (cwV 1 hts (gV t_841 t_842 t_843 t_7 t_844) rfl rfl rfl (by decide +kernel) ⟨Nat.le_of_ble_eq_true rfl, Nat.le_of_ble_eq_true rfl⟩) (k_preV hP hK hD hnw 13 rfl rfl) rfl rfl hl.1 rfl (lv_room (Nat.le_of_ble_eq_true rfl)) d_P_addPart_100 hc0) hD hS hA (fun _ H locs hp100 hP hD hK hS => ?_)
      replace hP : va_P D CC (wC tk ad (apC 8 9 u1 (B ++ bi (fun v => rt (Xs v)) (grL 2 (p9 + (hf q9)) (q9 - (hf q9)) (m9 - (hf q9)))).length (slC (fun v => rt (Xs v)) 4 p9 (hf q9)) 4) rr ++ tl) H := hP
      replace hD : va_D A (wC tk ad (apC 8 9 u1 (B ++ bi (fun v => rt (Xs v)) (grL 2 (p9 + (hf q9)) (q9 - (hf q9)) (m9 - (hf q9)))).length (slC (fun v => rt (Xs v)) 4 p9 (hf q9)) 4) rr ++ tl) := hD
      have hB2 : prfC (apC 8 9 u1 (B ++ bi (fun v => rt (Xs v)) (grL 2 (p9 + (hf q9)) (q9 - (hf q9)) (m9 - (hf q9)))).length (slC (fun v => rt (Xs v)) 4 p9 (hf q9)) 4) ((B ++ bi (fun v => rt (Xs v)) (grL 2 (p9 + (hf q9)) (q9 - (hf q9)) (m9 - (hf q9)))) ++ ib (slC (fun v => rt (Xs v)) 4 p9 (hf q9))) := prfC_i hB1 (slC (fun v => rt (Xs v)) 4 p9 (hf q9))
      have hF2 : frx [8, 9] g (apC 8 9 u1 (B ++ bi (fun v => rt (Xs v)) (grL 2 (p9 + (hf q9)) (q9 - (hf q9)) (m9 - (hf q9)))).length (slC (fun v => rt (Xs v)) 4 p9 (hf q9)) 4) := apC_fr 8 9 g _ _ _ _ hF1
      generalize (apC 8 9 u1 (B ++ bi (fun v => rt (Xs v)) (grL 2 (p9 + (hf q9)) (q9 - (hf q9)) (m9 - (hf q9)))).length (slC (fun v => rt (Xs v)) 4 p9 (hf q9)) 4) = u2 at hP hD hB2 hF2
      replace hP : va_P D CC (wC tk ad u2 rr ++ tl) H := hP
      replace hD : va_D A (wC tk ad u2 rr ++ tl) := hD
      exact k_vret hQ hx hb hr hlk hK hP hD hS u2 rfl (⟨hF2, by first | (obtain rfl : m9 = q9 := (by omega); rw [bi_gr0, if_pos (by omega), ← sl_eq _ _ _ (by omega) (by omega)]; exact hB2) | (rw [bi_gr (by omega), if_pos (by omega), ← sl_eq _ _ _ (by omega) (by omega), ← List.append_assoc]; exact hB2) | (rw [bi_gr (by omega), if_neg (by omega), ← sl_eq _ _ _ (by omega) (by omega), ← List.append_assoc]; exact hB2)⟩) d_P_addPart_103
    · skip
      refine lv_aload_n hx hb d_P_addPart_43 rfl (lv_at hl 2 rfl) ?_
      refine lv_aload_n hx hb d_P_addPart_44 rfl (lv_at hl 3 rfl) ?_
      refine lv_iload_n hx hb d_P_addPart_45 rfl (lv_at hl 4 rfl) ?_
      refine lv_iload hx hb d_P_addPart_46 (lv_at hl 1 rfl) ?_
      refine lv_iload hx hb d_P_addPart_48 (lv_at hl 6 rfl) ?_
      refine k_callv (va_runV (As := [.ref (ad 3), .int (nI p9), .int (nI (hf q9)), .int (nI m9)]) (rest := []) ⟨hx, hb, hml, hown, hts⟩ (c_P_addPart1 l D tk H.size ad g rr tl S ca bl hst Xs V hV1 hV2 hh B hB (by omega) p9 (hf q9) m9 (by omega) (by omega) (by omega) (by omega) (by omega)) (cwV 4 hts (gV t_865 t_867 s_8 t_6 t_868) rfl rfl rfl (by decide +kernel) ⟨Nat.le_of_ble_eq_true rfl, Nat.le_of_ble_eq_true rfl⟩) (k_preV hP hK hD hnw 12 rfl rfl) rfl rfl hl.1 rfl (lv_room (Nat.le_of_ble_eq_true rfl)) d_P_addPart_50 hc0) hD hS hA (fun u3 H locs hw3 hP hD hK hS => ?_)
      have hF3 : frx [8, 9] g u3 := frx_t frx_r hw3.1 (fun x h9 => ⟨h9, h9⟩)
      have hB3 : prfC u3 (B ++ bi (fun v => rt (Xs v)) (grL 2 p9 (hf q9) m9)) := hw3.2
      have hwl3 : (grL 2 p9 (hf q9) m9).length ≤ 2 := grl_le 1 p9 (hf q9) m9 (by omega) (by omega) (by omega) (by omega)
      replace hP : va_P D CC (wC tk ad u3 rr ++ tl) H := hP
      replace hD : va_D A (wC tk ad u3 rr ++ tl) := hD
      refine lv_aload_n hx hb d_P_addPart_53 rfl (lv_at hl 2 rfl) ?_
      refine gf_P_10 (v := .ref (ad 13)) hx hb hT hown hK hP 12 rfl rfl d_P_addPart_54 ?_
      refine lv_aload_n hx hb d_P_addPart_57 rfl (lv_at hl 3 rfl) ?_
      refine lv_iload hx hb d_P_addPart_58 (lv_at hl 0 rfl) ?_
      refine lv_iload_n hx hb d_P_addPart_60 rfl (lv_at hl 5 rfl) ?_
      refine lv_iload hx hb d_P_addPart_61 (lv_at hl 1 rfl) ?_
      refine st_isub hx hb (by omega) d_P_addPart_63 ?_
      refine k_calli (va_runVN (As := [.int (nI (p9 + (hf q9))), .int (nI (q9 - (hf q9)))]) (rest := [.ref (ad 13)]) ⟨hx, hb, hml, hown, hts⟩ (c_H_seal4 l D tk H.size ad u3 rr tl S ca bl hst Xs V hV1 hV2 hh (p9 + (hf q9)) (q9 - (hf q9)) (by omega) (by omega) (by omega)) ⟨(va_cnB 2 hts (gB t_803) rfl rfl rfl (hnw.1 _ _ _ _ n_840) (hT _ t_3) (by decide +kernel) ⟨Nat.le_of_ble_eq_true rfl, Nat.le_of_ble_eq_true rfl⟩), hT _ t_802, hT _ s_5⟩ (k_preV hP hK hD hnw 3 rfl rfl) rfl rfl hl.1 rfl (lv_room (Nat.le_of_ble_eq_true rfl)) d_P_addPart_64 hc0) hD hS hA (fun _ _ H locs hp64 hP hD hK hS => ?_)
      subst hp64
      replace hP : va_P D CC (wC tk ad u3 rr ++ tl) H := hP
      replace hD : va_D A (wC tk ad u3 rr ++ tl) := hD
      refine k_callv (va_runV (As := [.int (slC (fun v => rt (Xs v)) 4 (p9 + (hf q9)) (q9 - (hf q9)))]) (rest := []) ⟨hx, hb, hml, hown, hts⟩ (c_B_appendInt l D tk H.size ad u3 rr tl (B ++ bi (fun v => rt (Xs v)) (grL 2 p9 (hf q9) m9)) hB3 (by first | omega | (simp only [List.length_append, bi_len]; omega)) (slC (fun v => rt (Xs v)) 4 (p9 + (hf q9)) (q9 - (hf q9)))) (cwV 1 hts (gV t_841 t_842 t_843 t_7 t_844) rfl rfl rfl (by decide +kernel) ⟨Nat.le_of_ble_eq_true rfl, Nat.le_of_ble_eq_true rfl⟩) (k_preV hP hK hD hnw 13 rfl rfl) rfl rfl hl.1 rfl (lv_room (Nat.le_of_ble_eq_true rfl)) d_P_addPart_67 hc0) hD hS hA (fun _ H locs hp67 hP hD hK hS => ?_)
      replace hP : va_P D CC (wC tk ad (apC 8 9 u3 (B ++ bi (fun v => rt (Xs v)) (grL 2 p9 (hf q9) m9)).length (slC (fun v => rt (Xs v)) 4 (p9 + (hf q9)) (q9 - (hf q9))) 4) rr ++ tl) H := hP
      replace hD : va_D A (wC tk ad (apC 8 9 u3 (B ++ bi (fun v => rt (Xs v)) (grL 2 p9 (hf q9) m9)).length (slC (fun v => rt (Xs v)) 4 (p9 + (hf q9)) (q9 - (hf q9))) 4) rr ++ tl) := hD
      have hB4 : prfC (apC 8 9 u3 (B ++ bi (fun v => rt (Xs v)) (grL 2 p9 (hf q9) m9)).length (slC (fun v => rt (Xs v)) 4 (p9 + (hf q9)) (q9 - (hf q9))) 4) ((B ++ bi (fun v => rt (Xs v)) (grL 2 p9 (hf q9) m9)) ++ ib (slC (fun v => rt (Xs v)) 4 (p9 + (hf q9)) (q9 - (hf q9)))) := prfC_i hB3 (slC (fun v => rt (Xs v)) 4 (p9 + (hf q9)) (q9 - (hf q9)))
      have hF4 : frx [8, 9] g (apC 8 9 u3 (B ++ bi (fun v => rt (Xs v)) (grL 2 p9 (hf q9) m9)).length (slC (fun v => rt (Xs v)) 4 (p9 + (hf q9)) (q9 - (hf q9))) 4) := apC_fr 8 9 g _ _ _ _ hF3
      generalize (apC 8 9 u3 (B ++ bi (fun v => rt (Xs v)) (grL 2 p9 (hf q9) m9)).length (slC (fun v => rt (Xs v)) 4 (p9 + (hf q9)) (q9 - (hf q9))) 4) = u4 at hP hD hB4 hF4
      replace hP : va_P D CC (wC tk ad u4 rr ++ tl) H := hP
      replace hD : va_D A (wC tk ad u4 rr ++ tl) := hD
      refine lv_goto hx hb d_P_addPart_70 (tgt := 103) (by decide) ?_
      exact k_vret hQ hx hb hr hlk hK hP hD hS u4 rfl (⟨hF4, by first | (obtain rfl : m9 = q9 := (by omega); rw [bi_gr0, if_pos (by omega), ← sl_eq _ _ _ (by omega) (by omega)]; exact hB4) | (rw [bi_gr (by omega), if_pos (by omega), ← sl_eq _ _ _ (by omega) (by omega), ← List.append_assoc]; exact hB4) | (rw [bi_gr (by omega), if_neg (by omega), ← sl_eq _ _ _ (by omega) (by omega), ← List.append_assoc]; exact hB4)⟩) d_P_addPart_103
  · skip
    refine lv_iload_n hx hb d_P_addPart_6 rfl (lv_at hl 2 rfl) ?_
    refine st_if_le hx hb (by omega) d_P_addPart_7 (tgt := 23) (by decide) (fun hc7 => ?_) (fun hc7 => ?_)
    · skip
      exact k_vret hQ hx hb hr hlk hK hP hD hS g rfl (⟨frx_r, by obtain rfl : m9 = q9 := (by omega); rw [bi_gr0, if_neg (by omega), List.append_nil]; exact hB⟩) d_P_addPart_23
    · skip
      refine lv_aload_n hx hb d_P_addPart_10 rfl (lv_at hl 0 rfl) ?_
      refine gf_P_10 (v := .ref (ad 13)) hx hb hT hown hK hP 12 rfl rfl d_P_addPart_11 ?_
      refine lv_aload_n hx hb d_P_addPart_14 rfl (lv_at hl 1 rfl) ?_
      refine lv_iload_n hx hb d_P_addPart_15 rfl (lv_at hl 2 rfl) ?_
      refine lv_iload_n hx hb d_P_addPart_16 rfl (lv_at hl 3 rfl) ?_
      refine k_calli (va_runVN (As := [.int (nI p9), .int (nI q9)]) (rest := [.ref (ad 13)]) ⟨hx, hb, hml, hown, hts⟩ (c_H_seal4 l D tk s.heap.size ad g rr tl S ca bl hst Xs V hV1 hV2 hh p9 q9 (by omega) (by omega) (by omega)) ⟨(va_cnB 2 hts (gB t_803) rfl rfl rfl (hnw.1 _ _ _ _ n_840) (hT _ t_3) (by decide +kernel) ⟨Nat.le_of_ble_eq_true rfl, Nat.le_of_ble_eq_true rfl⟩), hT _ t_802, hT _ s_5⟩ (k_preV hP hK hD hnw 3 rfl rfl) rfl rfl hl.1 rfl (lv_room (Nat.le_of_ble_eq_true rfl)) d_P_addPart_17 hc0) hD hS hA (fun _ _ H locs hp17 hP hD hK hS => ?_)
      subst hp17
      replace hP : va_P D CC (wC tk ad g rr ++ tl) H := hP
      replace hD : va_D A (wC tk ad g rr ++ tl) := hD
      refine k_callv (va_runV (As := [.int (slC (fun v => rt (Xs v)) 4 p9 q9)]) (rest := []) ⟨hx, hb, hml, hown, hts⟩ (c_B_appendInt l D tk H.size ad g rr tl B hB (by first | omega | (simp only [List.length_append, bi_len]; omega)) (slC (fun v => rt (Xs v)) 4 p9 q9)) (cwV 1 hts (gV t_841 t_842 t_843 t_7 t_844) rfl rfl rfl (by decide +kernel) ⟨Nat.le_of_ble_eq_true rfl, Nat.le_of_ble_eq_true rfl⟩) (k_preV hP hK hD hnw 13 rfl rfl) rfl rfl hl.1 rfl (lv_room (Nat.le_of_ble_eq_true rfl)) d_P_addPart_20 hc0) hD hS hA (fun _ H locs hp20 hP hD hK hS => ?_)
      replace hP : va_P D CC (wC tk ad (apC 8 9 g B.length (slC (fun v => rt (Xs v)) 4 p9 q9) 4) rr ++ tl) H := hP
      replace hD : va_D A (wC tk ad (apC 8 9 g B.length (slC (fun v => rt (Xs v)) 4 p9 q9) 4) rr ++ tl) := hD
      have hB5 : prfC (apC 8 9 g B.length (slC (fun v => rt (Xs v)) 4 p9 q9) 4) (B ++ ib (slC (fun v => rt (Xs v)) 4 p9 q9)) := prfC_i hB (slC (fun v => rt (Xs v)) 4 p9 q9)
      have hF5 : frx [8, 9] g (apC 8 9 g B.length (slC (fun v => rt (Xs v)) 4 p9 q9) 4) := apC_fr 8 9 g _ _ _ _ frx_r
      generalize (apC 8 9 g B.length (slC (fun v => rt (Xs v)) 4 p9 q9) 4) = u5 at hP hD hB5 hF5
      replace hP : va_P D CC (wC tk ad u5 rr ++ tl) H := hP
      replace hD : va_D A (wC tk ad u5 rr ++ tl) := hD
      exact k_vret hQ hx hb hr hlk hK hP hD hS u5 rfl (⟨hF5, by first | (obtain rfl : m9 = q9 := (by omega); rw [bi_gr0, if_pos (by omega), ← sl_eq _ _ _ (by omega) (by omega)]; exact hB5) | (rw [bi_gr (by omega), if_pos (by omega), ← sl_eq _ _ _ (by omega) (by omega), ← List.append_assoc]; exact hB5) | (rw [bi_gr (by omega), if_neg (by omega), ← sl_eq _ _ _ (by omega) (by omega), ← List.append_assoc]; exact hB5)⟩) d_P_addPart_23

set_option maxHeartbeats 4000000 in
set_option maxRecDepth 100000 in
theorem c_P_addPart3 (l : Launch) (D : va_G) (tk : Nat → ClassId) (sz : Nat) (ad : Nat → Nat) (g : Nat → Nat → Int32) (rr : Nat → Nat → Option Nat) (tl : va_W) (S : List ck_I) (ca : Nat → Nat) (bl : Nat → Nat → Option Nat) (hst : sI tk tl S ca bl) (Xs : Nat → List kv_I) (V : Nat) (hV1 : 1 ≤ V) (hV2 : V ≤ 16) (hh : ∀ v, v < V → so (Xs v) ∧ tOf S ca (Xs v) (rr 1 v)) (B : List Int32) (hB : prfC g B) (hn : B.length + 16 ≤ 400) (p9 q9 m9 : Nat) (hq1 : 1 ≤ q9) (hq2 : q9 ≤ 8) (hpq : p9 + q9 ≤ V) (hm1 : 1 ≤ m9) (hm2 : m9 ≤ q9) : Met l y_P_addPart w_P_addPart ({ frames := 10, cells := 0, slots := 0, locals := 236 }) (va_Pc [.ref (ad 12), .ref (ad 3), .int (nI p9), .int (nI q9), .int (nI m9)] (k_pre D (TY tk) sz (wC tk ad g rr ++ tl))) (va_Qv (fun (u : Nat → Nat → Int32) => frx [8, 9] g u ∧ prfC u (B ++ bi (fun v => rt (Xs v)) (grL 4 p9 q9 m9))) (fun u t => k_at D (TY tk) (va_A (wC tk ad g rr ++ tl) sz) ((fun u => wC tk ad u rr ++ tl) u) t) (va_A (wC tk ad g rr ++ tl) sz)) 0 0 (va_A (wC tk ad g rr ++ tl) sz) := by
  refine k_ofW (fun A => va_Qv (fun (u : Nat → Nat → Int32) => frx [8, 9] g u ∧ prfC u (B ++ bi (fun v => rt (Xs v)) (grL 4 p9 q9 m9))) (fun u t => k_at D (TY tk) A ((fun u => wC tk ad u rr ++ tl) u) t) A) (by decide) (Nat.le_of_ble_eq_true rfl) ?_
  intro p e s m args below meth c Q A ls hQ hx hb hr hlk hin hts hT hown hml hnw hP hK hD hA hsz hl
  have hS : va_S A s.heap s.heap [] := va_S.rf
  have hc0 : 0 + 0 ≤ 0 ∧ 0 + 0 ≤ 0 := ⟨by decide, by decide⟩
  replace hl : lv_has ls 7 [(0, .ref (ad 12)), (1, .ref (ad 3)), (2, .int (nI p9)), (3, .int (nI q9)), (4, .int (nI m9))] := hl
  replace hP : va_P D CC (wC tk ad g rr ++ tl) s.heap := hP
  replace hK : va_K D CC (TY tk) s := hK
  refine lv_iload hx hb d_P_addPart_0 (lv_at hl 4 rfl) ?_
  refine lv_iload_n hx hb d_P_addPart_2 rfl (lv_at hl 3 rfl) ?_
  refine st_icmp_lt hx hb (by omega) (by omega) d_P_addPart_3 (tgt := 24) (by decide) (fun hc3 => ?_) (fun hc3 => ?_)
  · skip
    refine lv_iload_n hx hb d_P_addPart_24 rfl (lv_at hl 3 rfl) ?_
    refine k_calli (va_runSN (As := [.int (nI q9)]) (rest := []) ⟨hx, hb, hml, hown, hts⟩ (c_K_half l D tk s.heap.size q9 (by omega) (wC tk ad g rr ++ tl)) ⟨(va_cnB 1 hts (gB t_810) rfl rfl rfl (hnw.1 _ _ _ _ n_839) (hT _ t_1) (by decide +kernel) ⟨Nat.le_of_ble_eq_true rfl, Nat.le_of_ble_eq_true rfl⟩), hT _ t_809, trivial⟩ (k_preS hP hK hD hnw) rfl rfl hl.1 rfl (lv_room (Nat.le_of_ble_eq_true rfl)) d_P_addPart_25 hc0) hD hS hA (fun _ _ H locs hp25 hP hD hK hS => ?_)
    subst hp25
    have hhf := hf_b (q := q9) (by omega) (by omega)
    replace hP : va_P D CC (wC tk ad g rr ++ tl) H := hP
    replace hD : va_D A (wC tk ad g rr ++ tl) := hD
    refine lv_istore (lv' := [(5, .int (nI (hf q9))), (0, .ref (ad 12)), (1, .ref (ad 3)), (2, .int (nI p9)), (3, .int (nI q9)), (4, .int (nI m9))]) hx hb d_P_addPart_28 hl (by decide) rfl (fun ls hl => ?_)
    refine lv_iload_n hx hb d_P_addPart_30 rfl (lv_at hl 3 rfl) ?_
    refine lv_iload hx hb d_P_addPart_31 (lv_at hl 0 rfl) ?_
    refine st_iadd hx hb d_P_addPart_33 ?_
    refine lv_istore (lv' := [(6, .int (nI (p9 + (hf q9)))), (5, .int (nI (hf q9))), (0, .ref (ad 12)), (1, .ref (ad 3)), (2, .int (nI p9)), (3, .int (nI q9)), (4, .int (nI m9))]) hx hb d_P_addPart_34 hl (by decide) rfl (fun ls hl => ?_)
    refine lv_iload hx hb d_P_addPart_36 (lv_at hl 6 rfl) ?_
    refine lv_iload hx hb d_P_addPart_38 (lv_at hl 1 rfl) ?_
    refine st_icmp_gt hx hb (by omega) (by omega) d_P_addPart_40 (tgt := 73) (by decide) (fun hc40 => ?_) (fun hc40 => ?_)
    · skip
      refine lv_aload_n hx hb d_P_addPart_73 rfl (lv_at hl 2 rfl) ?_
      refine lv_aload_n hx hb d_P_addPart_74 rfl (lv_at hl 3 rfl) ?_
      refine lv_iload hx hb d_P_addPart_75 (lv_at hl 0 rfl) ?_
      refine lv_iload_n hx hb d_P_addPart_77 rfl (lv_at hl 5 rfl) ?_
      refine lv_iload hx hb d_P_addPart_78 (lv_at hl 1 rfl) ?_
      refine st_isub hx hb (by omega) d_P_addPart_80 ?_
      refine lv_iload hx hb d_P_addPart_81 (lv_at hl 6 rfl) ?_
      refine lv_iload hx hb d_P_addPart_83 (lv_at hl 1 rfl) ?_
      refine st_isub hx hb (by omega) d_P_addPart_85 ?_
      refine k_callv (va_runV (As := [.ref (ad 3), .int (nI (p9 + (hf q9))), .int (nI (q9 - (hf q9))), .int (nI (m9 - (hf q9)))]) (rest := []) ⟨hx, hb, hml, hown, hts⟩ (c_P_addPart2 l D tk H.size ad g rr tl S ca bl hst Xs V hV1 hV2 hh B hB (by omega) (p9 + (hf q9)) (q9 - (hf q9)) (m9 - (hf q9)) (by omega) (by omega) (by omega) (by omega) (by omega)) (cwV 4 hts (gV t_865 t_867 s_8 t_6 t_868) rfl rfl rfl (by decide +kernel) ⟨Nat.le_of_ble_eq_true rfl, Nat.le_of_ble_eq_true rfl⟩) (k_preV hP hK hD hnw 12 rfl rfl) rfl rfl hl.1 rfl (lv_room (Nat.le_of_ble_eq_true rfl)) d_P_addPart_86 hc0) hD hS hA (fun u1 H locs hw1 hP hD hK hS => ?_)
      have hF1 : frx [8, 9] g u1 := frx_t frx_r hw1.1 (fun x h9 => ⟨h9, h9⟩)
      have hB1 : prfC u1 (B ++ bi (fun v => rt (Xs v)) (grL 3 (p9 + (hf q9)) (q9 - (hf q9)) (m9 - (hf q9)))) := hw1.2
      have hwl1 : (grL 3 (p9 + (hf q9)) (q9 - (hf q9)) (m9 - (hf q9))).length ≤ 3 := grl_le 2 (p9 + (hf q9)) (q9 - (hf q9)) (m9 - (hf q9)) (by omega) (by omega) (by omega) (by omega)
      replace hP : va_P D CC (wC tk ad u1 rr ++ tl) H := hP
      replace hD : va_D A (wC tk ad u1 rr ++ tl) := hD
      refine lv_aload_n hx hb d_P_addPart_89 rfl (lv_at hl 2 rfl) ?_
      refine gf_P_10 (v := .ref (ad 13)) hx hb hT hown hK hP 12 rfl rfl d_P_addPart_90 ?_
      refine lv_aload_n hx hb d_P_addPart_93 rfl (lv_at hl 3 rfl) ?_
      refine lv_iload_n hx hb d_P_addPart_94 rfl (lv_at hl 4 rfl) ?_
      refine lv_iload hx hb d_P_addPart_95 (lv_at hl 1 rfl) ?_
      refine k_calli (va_runVN (As := [.int (nI p9), .int (nI (hf q9))]) (rest := [.ref (ad 13)]) ⟨hx, hb, hml, hown, hts⟩ (c_H_seal4 l D tk H.size ad u1 rr tl S ca bl hst Xs V hV1 hV2 hh p9 (hf q9) (by omega) (by omega) (by omega)) ⟨(va_cnB 2 hts (gB t_803) rfl rfl rfl (hnw.1 _ _ _ _ n_840) (hT _ t_3) (by decide +kernel) ⟨Nat.le_of_ble_eq_true rfl, Nat.le_of_ble_eq_true rfl⟩), hT _ t_802, hT _ s_5⟩ (k_preV hP hK hD hnw 3 rfl rfl) rfl rfl hl.1 rfl (lv_room (Nat.le_of_ble_eq_true rfl)) d_P_addPart_97 hc0) hD hS hA (fun _ _ H locs hp97 hP hD hK hS => ?_)
      subst hp97
      replace hP : va_P D CC (wC tk ad u1 rr ++ tl) H := hP
      replace hD : va_D A (wC tk ad u1 rr ++ tl) := hD
      refine k_callv (va_runV (As := [.int (slC (fun v => rt (Xs v)) 4 p9 (hf q9))]) (rest := []) ⟨hx, hb, hml, hown, hts⟩ (c_B_appendInt l D tk H.size ad u1 rr tl (B ++ bi (fun v => rt (Xs v)) (grL 3 (p9 + (hf q9)) (q9 - (hf q9)) (m9 - (hf q9)))) hB1 (by first | omega | (simp only [List.length_append, bi_len]; omega)) (slC (fun v => rt (Xs v)) 4 p9 (hf q9))) (cwV 1 hts (gV t_841 t_842 t_843 t_7 t_844) rfl rfl rfl (by decide +kernel) ⟨Nat.le_of_ble_eq_true rfl, Nat.le_of_ble_eq_true rfl⟩) (k_preV hP hK hD hnw 13 rfl rfl) rfl rfl hl.1 rfl (lv_room (Nat.le_of_ble_eq_true rfl)) d_P_addPart_100 hc0) hD hS hA (fun _ H locs hp100 hP hD hK hS => ?_)
      replace hP : va_P D CC (wC tk ad (apC 8 9 u1 (B ++ bi (fun v => rt (Xs v)) (grL 3 (p9 + (hf q9)) (q9 - (hf q9)) (m9 - (hf q9)))).length (slC (fun v => rt (Xs v)) 4 p9 (hf q9)) 4) rr ++ tl) H := hP
      replace hD : va_D A (wC tk ad (apC 8 9 u1 (B ++ bi (fun v => rt (Xs v)) (grL 3 (p9 + (hf q9)) (q9 - (hf q9)) (m9 - (hf q9)))).length (slC (fun v => rt (Xs v)) 4 p9 (hf q9)) 4) rr ++ tl) := hD
      have hB2 : prfC (apC 8 9 u1 (B ++ bi (fun v => rt (Xs v)) (grL 3 (p9 + (hf q9)) (q9 - (hf q9)) (m9 - (hf q9)))).length (slC (fun v => rt (Xs v)) 4 p9 (hf q9)) 4) ((B ++ bi (fun v => rt (Xs v)) (grL 3 (p9 + (hf q9)) (q9 - (hf q9)) (m9 - (hf q9)))) ++ ib (slC (fun v => rt (Xs v)) 4 p9 (hf q9))) := prfC_i hB1 (slC (fun v => rt (Xs v)) 4 p9 (hf q9))
      have hF2 : frx [8, 9] g (apC 8 9 u1 (B ++ bi (fun v => rt (Xs v)) (grL 3 (p9 + (hf q9)) (q9 - (hf q9)) (m9 - (hf q9)))).length (slC (fun v => rt (Xs v)) 4 p9 (hf q9)) 4) := apC_fr 8 9 g _ _ _ _ hF1
      generalize (apC 8 9 u1 (B ++ bi (fun v => rt (Xs v)) (grL 3 (p9 + (hf q9)) (q9 - (hf q9)) (m9 - (hf q9)))).length (slC (fun v => rt (Xs v)) 4 p9 (hf q9)) 4) = u2 at hP hD hB2 hF2
      replace hP : va_P D CC (wC tk ad u2 rr ++ tl) H := hP
      replace hD : va_D A (wC tk ad u2 rr ++ tl) := hD
      exact k_vret hQ hx hb hr hlk hK hP hD hS u2 rfl (⟨hF2, by first | (obtain rfl : m9 = q9 := (by omega); rw [bi_gr0, if_pos (by omega), ← sl_eq _ _ _ (by omega) (by omega)]; exact hB2) | (rw [bi_gr (by omega), if_pos (by omega), ← sl_eq _ _ _ (by omega) (by omega), ← List.append_assoc]; exact hB2) | (rw [bi_gr (by omega), if_neg (by omega), ← sl_eq _ _ _ (by omega) (by omega), ← List.append_assoc]; exact hB2)⟩) d_P_addPart_103
    · skip
      refine lv_aload_n hx hb d_P_addPart_43 rfl (lv_at hl 2 rfl) ?_
      refine lv_aload_n hx hb d_P_addPart_44 rfl (lv_at hl 3 rfl) ?_
      refine lv_iload_n hx hb d_P_addPart_45 rfl (lv_at hl 4 rfl) ?_
      refine lv_iload hx hb d_P_addPart_46 (lv_at hl 1 rfl) ?_
      refine lv_iload hx hb d_P_addPart_48 (lv_at hl 6 rfl) ?_
      refine k_callv (va_runV (As := [.ref (ad 3), .int (nI p9), .int (nI (hf q9)), .int (nI m9)]) (rest := []) ⟨hx, hb, hml, hown, hts⟩ (c_P_addPart2 l D tk H.size ad g rr tl S ca bl hst Xs V hV1 hV2 hh B hB (by omega) p9 (hf q9) m9 (by omega) (by omega) (by omega) (by omega) (by omega)) (cwV 4 hts (gV t_865 t_867 s_8 t_6 t_868) rfl rfl rfl (by decide +kernel) ⟨Nat.le_of_ble_eq_true rfl, Nat.le_of_ble_eq_true rfl⟩) (k_preV hP hK hD hnw 12 rfl rfl) rfl rfl hl.1 rfl (lv_room (Nat.le_of_ble_eq_true rfl)) d_P_addPart_50 hc0) hD hS hA (fun u3 H locs hw3 hP hD hK hS => ?_)
      have hF3 : frx [8, 9] g u3 := frx_t frx_r hw3.1 (fun x h9 => ⟨h9, h9⟩)
      have hB3 : prfC u3 (B ++ bi (fun v => rt (Xs v)) (grL 3 p9 (hf q9) m9)) := hw3.2
      have hwl3 : (grL 3 p9 (hf q9) m9).length ≤ 3 := grl_le 2 p9 (hf q9) m9 (by omega) (by omega) (by omega) (by omega)
      replace hP : va_P D CC (wC tk ad u3 rr ++ tl) H := hP
      replace hD : va_D A (wC tk ad u3 rr ++ tl) := hD
      refine lv_aload_n hx hb d_P_addPart_53 rfl (lv_at hl 2 rfl) ?_
      refine gf_P_10 (v := .ref (ad 13)) hx hb hT hown hK hP 12 rfl rfl d_P_addPart_54 ?_
      refine lv_aload_n hx hb d_P_addPart_57 rfl (lv_at hl 3 rfl) ?_
      refine lv_iload hx hb d_P_addPart_58 (lv_at hl 0 rfl) ?_
      refine lv_iload_n hx hb d_P_addPart_60 rfl (lv_at hl 5 rfl) ?_
      refine lv_iload hx hb d_P_addPart_61 (lv_at hl 1 rfl) ?_
      refine st_isub hx hb (by omega) d_P_addPart_63 ?_
      refine k_calli (va_runVN (As := [.int (nI (p9 + (hf q9))), .int (nI (q9 - (hf q9)))]) (rest := [.ref (ad 13)]) ⟨hx, hb, hml, hown, hts⟩ (c_H_seal4 l D tk H.size ad u3 rr tl S ca bl hst Xs V hV1 hV2 hh (p9 + (hf q9)) (q9 - (hf q9)) (by omega) (by omega) (by omega)) ⟨(va_cnB 2 hts (gB t_803) rfl rfl rfl (hnw.1 _ _ _ _ n_840) (hT _ t_3) (by decide +kernel) ⟨Nat.le_of_ble_eq_true rfl, Nat.le_of_ble_eq_true rfl⟩), hT _ t_802, hT _ s_5⟩ (k_preV hP hK hD hnw 3 rfl rfl) rfl rfl hl.1 rfl (lv_room (Nat.le_of_ble_eq_true rfl)) d_P_addPart_64 hc0) hD hS hA (fun _ _ H locs hp64 hP hD hK hS => ?_)
      subst hp64
      replace hP : va_P D CC (wC tk ad u3 rr ++ tl) H := hP
      replace hD : va_D A (wC tk ad u3 rr ++ tl) := hD
      refine k_callv (va_runV (As := [.int (slC (fun v => rt (Xs v)) 4 (p9 + (hf q9)) (q9 - (hf q9)))]) (rest := []) ⟨hx, hb, hml, hown, hts⟩ (c_B_appendInt l D tk H.size ad u3 rr tl (B ++ bi (fun v => rt (Xs v)) (grL 3 p9 (hf q9) m9)) hB3 (by first | omega | (simp only [List.length_append, bi_len]; omega)) (slC (fun v => rt (Xs v)) 4 (p9 + (hf q9)) (q9 - (hf q9)))) (cwV 1 hts (gV t_841 t_842 t_843 t_7 t_844) rfl rfl rfl (by decide +kernel) ⟨Nat.le_of_ble_eq_true rfl, Nat.le_of_ble_eq_true rfl⟩) (k_preV hP hK hD hnw 13 rfl rfl) rfl rfl hl.1 rfl (lv_room (Nat.le_of_ble_eq_true rfl)) d_P_addPart_67 hc0) hD hS hA (fun _ H locs hp67 hP hD hK hS => ?_)
      replace hP : va_P D CC (wC tk ad (apC 8 9 u3 (B ++ bi (fun v => rt (Xs v)) (grL 3 p9 (hf q9) m9)).length (slC (fun v => rt (Xs v)) 4 (p9 + (hf q9)) (q9 - (hf q9))) 4) rr ++ tl) H := hP
      replace hD : va_D A (wC tk ad (apC 8 9 u3 (B ++ bi (fun v => rt (Xs v)) (grL 3 p9 (hf q9) m9)).length (slC (fun v => rt (Xs v)) 4 (p9 + (hf q9)) (q9 - (hf q9))) 4) rr ++ tl) := hD
      have hB4 : prfC (apC 8 9 u3 (B ++ bi (fun v => rt (Xs v)) (grL 3 p9 (hf q9) m9)).length (slC (fun v => rt (Xs v)) 4 (p9 + (hf q9)) (q9 - (hf q9))) 4) ((B ++ bi (fun v => rt (Xs v)) (grL 3 p9 (hf q9) m9)) ++ ib (slC (fun v => rt (Xs v)) 4 (p9 + (hf q9)) (q9 - (hf q9)))) := prfC_i hB3 (slC (fun v => rt (Xs v)) 4 (p9 + (hf q9)) (q9 - (hf q9)))
      have hF4 : frx [8, 9] g (apC 8 9 u3 (B ++ bi (fun v => rt (Xs v)) (grL 3 p9 (hf q9) m9)).length (slC (fun v => rt (Xs v)) 4 (p9 + (hf q9)) (q9 - (hf q9))) 4) := apC_fr 8 9 g _ _ _ _ hF3
      generalize (apC 8 9 u3 (B ++ bi (fun v => rt (Xs v)) (grL 3 p9 (hf q9) m9)).length (slC (fun v => rt (Xs v)) 4 (p9 + (hf q9)) (q9 - (hf q9))) 4) = u4 at hP hD hB4 hF4
      replace hP : va_P D CC (wC tk ad u4 rr ++ tl) H := hP
      replace hD : va_D A (wC tk ad u4 rr ++ tl) := hD
      refine lv_goto hx hb d_P_addPart_70 (tgt := 103) (by decide) ?_
      exact k_vret hQ hx hb hr hlk hK hP hD hS u4 rfl (⟨hF4, by first | (obtain rfl : m9 = q9 := (by omega); rw [bi_gr0, if_pos (by omega), ← sl_eq _ _ _ (by omega) (by omega)]; exact hB4) | (rw [bi_gr (by omega), if_pos (by omega), ← sl_eq _ _ _ (by omega) (by omega), ← List.append_assoc]; exact hB4) | (rw [bi_gr (by omega), if_neg (by omega), ← sl_eq _ _ _ (by omega) (by omega), ← List.append_assoc]; exact hB4)⟩) d_P_addPart_103
  · skip
    refine lv_iload_n hx hb d_P_addPart_6 rfl (lv_at hl 2 rfl) ?_
    refine st_if_le hx hb (by omega) d_P_addPart_7 (tgt := 23) (by decide) (fun hc7 => ?_) (fun hc7 => ?_)
    · skip
      exact k_vret hQ hx hb hr hlk hK hP hD hS g rfl (⟨frx_r, by obtain rfl : m9 = q9 := (by omega); rw [bi_gr0, if_neg (by omega), List.append_nil]; exact hB⟩) d_P_addPart_23
    · skip
      refine lv_aload_n hx hb d_P_addPart_10 rfl (lv_at hl 0 rfl) ?_
      refine gf_P_10 (v := .ref (ad 13)) hx hb hT hown hK hP 12 rfl rfl d_P_addPart_11 ?_
      refine lv_aload_n hx hb d_P_addPart_14 rfl (lv_at hl 1 rfl) ?_
      refine lv_iload_n hx hb d_P_addPart_15 rfl (lv_at hl 2 rfl) ?_
      refine lv_iload_n hx hb d_P_addPart_16 rfl (lv_at hl 3 rfl) ?_
      refine k_calli (va_runVN (As := [.int (nI p9), .int (nI q9)]) (rest := [.ref (ad 13)]) ⟨hx, hb, hml, hown, hts⟩ (c_H_seal4 l D tk s.heap.size ad g rr tl S ca bl hst Xs V hV1 hV2 hh p9 q9 (by omega) (by omega) (by omega)) ⟨(va_cnB 2 hts (gB t_803) rfl rfl rfl (hnw.1 _ _ _ _ n_840) (hT _ t_3) (by decide +kernel) ⟨Nat.le_of_ble_eq_true rfl, Nat.le_of_ble_eq_true rfl⟩), hT _ t_802, hT _ s_5⟩ (k_preV hP hK hD hnw 3 rfl rfl) rfl rfl hl.1 rfl (lv_room (Nat.le_of_ble_eq_true rfl)) d_P_addPart_17 hc0) hD hS hA (fun _ _ H locs hp17 hP hD hK hS => ?_)
      subst hp17
      replace hP : va_P D CC (wC tk ad g rr ++ tl) H := hP
      replace hD : va_D A (wC tk ad g rr ++ tl) := hD
      refine k_callv (va_runV (As := [.int (slC (fun v => rt (Xs v)) 4 p9 q9)]) (rest := []) ⟨hx, hb, hml, hown, hts⟩ (c_B_appendInt l D tk H.size ad g rr tl B hB (by first | omega | (simp only [List.length_append, bi_len]; omega)) (slC (fun v => rt (Xs v)) 4 p9 q9)) (cwV 1 hts (gV t_841 t_842 t_843 t_7 t_844) rfl rfl rfl (by decide +kernel) ⟨Nat.le_of_ble_eq_true rfl, Nat.le_of_ble_eq_true rfl⟩) (k_preV hP hK hD hnw 13 rfl rfl) rfl rfl hl.1 rfl (lv_room (Nat.le_of_ble_eq_true rfl)) d_P_addPart_20 hc0) hD hS hA (fun _ H locs hp20 hP hD hK hS => ?_)
      replace hP : va_P D CC (wC tk ad (apC 8 9 g B.length (slC (fun v => rt (Xs v)) 4 p9 q9) 4) rr ++ tl) H := hP
      replace hD : va_D A (wC tk ad (apC 8 9 g B.length (slC (fun v => rt (Xs v)) 4 p9 q9) 4) rr ++ tl) := hD
      have hB5 : prfC (apC 8 9 g B.length (slC (fun v => rt (Xs v)) 4 p9 q9) 4) (B ++ ib (slC (fun v => rt (Xs v)) 4 p9 q9)) := prfC_i hB (slC (fun v => rt (Xs v)) 4 p9 q9)
      have hF5 : frx [8, 9] g (apC 8 9 g B.length (slC (fun v => rt (Xs v)) 4 p9 q9) 4) := apC_fr 8 9 g _ _ _ _ frx_r
      generalize (apC 8 9 g B.length (slC (fun v => rt (Xs v)) 4 p9 q9) 4) = u5 at hP hD hB5 hF5
      replace hP : va_P D CC (wC tk ad u5 rr ++ tl) H := hP
      replace hD : va_D A (wC tk ad u5 rr ++ tl) := hD
      exact k_vret hQ hx hb hr hlk hK hP hD hS u5 rfl (⟨hF5, by first | (obtain rfl : m9 = q9 := (by omega); rw [bi_gr0, if_pos (by omega), ← sl_eq _ _ _ (by omega) (by omega)]; exact hB5) | (rw [bi_gr (by omega), if_pos (by omega), ← sl_eq _ _ _ (by omega) (by omega), ← List.append_assoc]; exact hB5) | (rw [bi_gr (by omega), if_neg (by omega), ← sl_eq _ _ _ (by omega) (by omega), ← List.append_assoc]; exact hB5)⟩) d_P_addPart_23

set_option maxHeartbeats 4000000 in
set_option maxRecDepth 100000 in
theorem c_P_addPart4 (l : Launch) (D : va_G) (tk : Nat → ClassId) (sz : Nat) (ad : Nat → Nat) (g : Nat → Nat → Int32) (rr : Nat → Nat → Option Nat) (tl : va_W) (S : List ck_I) (ca : Nat → Nat) (bl : Nat → Nat → Option Nat) (hst : sI tk tl S ca bl) (Xs : Nat → List kv_I) (V : Nat) (hV1 : 1 ≤ V) (hV2 : V ≤ 16) (hh : ∀ v, v < V → so (Xs v) ∧ tOf S ca (Xs v) (rr 1 v)) (B : List Int32) (hB : prfC g B) (hn : B.length + 20 ≤ 400) (p9 q9 m9 : Nat) (hq1 : 1 ≤ q9) (hq2 : q9 ≤ 16) (hpq : p9 + q9 ≤ V) (hm1 : 1 ≤ m9) (hm2 : m9 ≤ q9) : Met l y_P_addPart w_P_addPart ({ frames := 11, cells := 0, slots := 0, locals := 262 }) (va_Pc [.ref (ad 12), .ref (ad 3), .int (nI p9), .int (nI q9), .int (nI m9)] (k_pre D (TY tk) sz (wC tk ad g rr ++ tl))) (va_Qv (fun (u : Nat → Nat → Int32) => frx [8, 9] g u ∧ prfC u (B ++ bi (fun v => rt (Xs v)) (grL 5 p9 q9 m9))) (fun u t => k_at D (TY tk) (va_A (wC tk ad g rr ++ tl) sz) ((fun u => wC tk ad u rr ++ tl) u) t) (va_A (wC tk ad g rr ++ tl) sz)) 0 0 (va_A (wC tk ad g rr ++ tl) sz) := by
  refine k_ofW (fun A => va_Qv (fun (u : Nat → Nat → Int32) => frx [8, 9] g u ∧ prfC u (B ++ bi (fun v => rt (Xs v)) (grL 5 p9 q9 m9))) (fun u t => k_at D (TY tk) A ((fun u => wC tk ad u rr ++ tl) u) t) A) (by decide) (Nat.le_of_ble_eq_true rfl) ?_
  intro p e s m args below meth c Q A ls hQ hx hb hr hlk hin hts hT hown hml hnw hP hK hD hA hsz hl
  have hS : va_S A s.heap s.heap [] := va_S.rf
  have hc0 : 0 + 0 ≤ 0 ∧ 0 + 0 ≤ 0 := ⟨by decide, by decide⟩
  replace hl : lv_has ls 7 [(0, .ref (ad 12)), (1, .ref (ad 3)), (2, .int (nI p9)), (3, .int (nI q9)), (4, .int (nI m9))] := hl
  replace hP : va_P D CC (wC tk ad g rr ++ tl) s.heap := hP
  replace hK : va_K D CC (TY tk) s := hK
  refine lv_iload hx hb d_P_addPart_0 (lv_at hl 4 rfl) ?_
  refine lv_iload_n hx hb d_P_addPart_2 rfl (lv_at hl 3 rfl) ?_
  refine st_icmp_lt hx hb (by omega) (by omega) d_P_addPart_3 (tgt := 24) (by decide) (fun hc3 => ?_) (fun hc3 => ?_)
  · skip
    refine lv_iload_n hx hb d_P_addPart_24 rfl (lv_at hl 3 rfl) ?_
    refine k_calli (va_runSN (As := [.int (nI q9)]) (rest := []) ⟨hx, hb, hml, hown, hts⟩ (c_K_half l D tk s.heap.size q9 (by omega) (wC tk ad g rr ++ tl)) ⟨(va_cnB 1 hts (gB t_810) rfl rfl rfl (hnw.1 _ _ _ _ n_839) (hT _ t_1) (by decide +kernel) ⟨Nat.le_of_ble_eq_true rfl, Nat.le_of_ble_eq_true rfl⟩), hT _ t_809, trivial⟩ (k_preS hP hK hD hnw) rfl rfl hl.1 rfl (lv_room (Nat.le_of_ble_eq_true rfl)) d_P_addPart_25 hc0) hD hS hA (fun _ _ H locs hp25 hP hD hK hS => ?_)
    subst hp25
    have hhf := hf_b (q := q9) (by omega) (by omega)
    replace hP : va_P D CC (wC tk ad g rr ++ tl) H := hP
    replace hD : va_D A (wC tk ad g rr ++ tl) := hD
    refine lv_istore (lv' := [(5, .int (nI (hf q9))), (0, .ref (ad 12)), (1, .ref (ad 3)), (2, .int (nI p9)), (3, .int (nI q9)), (4, .int (nI m9))]) hx hb d_P_addPart_28 hl (by decide) rfl (fun ls hl => ?_)
    refine lv_iload_n hx hb d_P_addPart_30 rfl (lv_at hl 3 rfl) ?_
    refine lv_iload hx hb d_P_addPart_31 (lv_at hl 0 rfl) ?_
    refine st_iadd hx hb d_P_addPart_33 ?_
    refine lv_istore (lv' := [(6, .int (nI (p9 + (hf q9)))), (5, .int (nI (hf q9))), (0, .ref (ad 12)), (1, .ref (ad 3)), (2, .int (nI p9)), (3, .int (nI q9)), (4, .int (nI m9))]) hx hb d_P_addPart_34 hl (by decide) rfl (fun ls hl => ?_)
    refine lv_iload hx hb d_P_addPart_36 (lv_at hl 6 rfl) ?_
    refine lv_iload hx hb d_P_addPart_38 (lv_at hl 1 rfl) ?_
    refine st_icmp_gt hx hb (by omega) (by omega) d_P_addPart_40 (tgt := 73) (by decide) (fun hc40 => ?_) (fun hc40 => ?_)
    · skip
      refine lv_aload_n hx hb d_P_addPart_73 rfl (lv_at hl 2 rfl) ?_
      refine lv_aload_n hx hb d_P_addPart_74 rfl (lv_at hl 3 rfl) ?_
      refine lv_iload hx hb d_P_addPart_75 (lv_at hl 0 rfl) ?_
      refine lv_iload_n hx hb d_P_addPart_77 rfl (lv_at hl 5 rfl) ?_
      refine lv_iload hx hb d_P_addPart_78 (lv_at hl 1 rfl) ?_
      refine st_isub hx hb (by omega) d_P_addPart_80 ?_
      refine lv_iload hx hb d_P_addPart_81 (lv_at hl 6 rfl) ?_
      refine lv_iload hx hb d_P_addPart_83 (lv_at hl 1 rfl) ?_
      refine st_isub hx hb (by omega) d_P_addPart_85 ?_
      refine k_callv (va_runV (As := [.ref (ad 3), .int (nI (p9 + (hf q9))), .int (nI (q9 - (hf q9))), .int (nI (m9 - (hf q9)))]) (rest := []) ⟨hx, hb, hml, hown, hts⟩ (c_P_addPart3 l D tk H.size ad g rr tl S ca bl hst Xs V hV1 hV2 hh B hB (by omega) (p9 + (hf q9)) (q9 - (hf q9)) (m9 - (hf q9)) (by omega) (by omega) (by omega) (by omega) (by omega)) (cwV 4 hts (gV t_865 t_867 s_8 t_6 t_868) rfl rfl rfl (by decide +kernel) ⟨Nat.le_of_ble_eq_true rfl, Nat.le_of_ble_eq_true rfl⟩) (k_preV hP hK hD hnw 12 rfl rfl) rfl rfl hl.1 rfl (lv_room (Nat.le_of_ble_eq_true rfl)) d_P_addPart_86 hc0) hD hS hA (fun u1 H locs hw1 hP hD hK hS => ?_)
      have hF1 : frx [8, 9] g u1 := frx_t frx_r hw1.1 (fun x h9 => ⟨h9, h9⟩)
      have hB1 : prfC u1 (B ++ bi (fun v => rt (Xs v)) (grL 4 (p9 + (hf q9)) (q9 - (hf q9)) (m9 - (hf q9)))) := hw1.2
      have hwl1 : (grL 4 (p9 + (hf q9)) (q9 - (hf q9)) (m9 - (hf q9))).length ≤ 4 := grl_le 3 (p9 + (hf q9)) (q9 - (hf q9)) (m9 - (hf q9)) (by omega) (by omega) (by omega) (by omega)
      replace hP : va_P D CC (wC tk ad u1 rr ++ tl) H := hP
      replace hD : va_D A (wC tk ad u1 rr ++ tl) := hD
      refine lv_aload_n hx hb d_P_addPart_89 rfl (lv_at hl 2 rfl) ?_
      refine gf_P_10 (v := .ref (ad 13)) hx hb hT hown hK hP 12 rfl rfl d_P_addPart_90 ?_
      refine lv_aload_n hx hb d_P_addPart_93 rfl (lv_at hl 3 rfl) ?_
      refine lv_iload_n hx hb d_P_addPart_94 rfl (lv_at hl 4 rfl) ?_
      refine lv_iload hx hb d_P_addPart_95 (lv_at hl 1 rfl) ?_
      refine k_calli (va_runVN (As := [.int (nI p9), .int (nI (hf q9))]) (rest := [.ref (ad 13)]) ⟨hx, hb, hml, hown, hts⟩ (c_H_seal4 l D tk H.size ad u1 rr tl S ca bl hst Xs V hV1 hV2 hh p9 (hf q9) (by omega) (by omega) (by omega)) ⟨(va_cnB 2 hts (gB t_803) rfl rfl rfl (hnw.1 _ _ _ _ n_840) (hT _ t_3) (by decide +kernel) ⟨Nat.le_of_ble_eq_true rfl, Nat.le_of_ble_eq_true rfl⟩), hT _ t_802, hT _ s_5⟩ (k_preV hP hK hD hnw 3 rfl rfl) rfl rfl hl.1 rfl (lv_room (Nat.le_of_ble_eq_true rfl)) d_P_addPart_97 hc0) hD hS hA (fun _ _ H locs hp97 hP hD hK hS => ?_)
      subst hp97
      replace hP : va_P D CC (wC tk ad u1 rr ++ tl) H := hP
      replace hD : va_D A (wC tk ad u1 rr ++ tl) := hD
      refine k_callv (va_runV (As := [.int (slC (fun v => rt (Xs v)) 4 p9 (hf q9))]) (rest := []) ⟨hx, hb, hml, hown, hts⟩ (c_B_appendInt l D tk H.size ad u1 rr tl (B ++ bi (fun v => rt (Xs v)) (grL 4 (p9 + (hf q9)) (q9 - (hf q9)) (m9 - (hf q9)))) hB1 (by first | omega | (simp only [List.length_append, bi_len]; omega)) (slC (fun v => rt (Xs v)) 4 p9 (hf q9))) (cwV 1 hts (gV t_841 t_842 t_843 t_7 t_844) rfl rfl rfl (by decide +kernel) ⟨Nat.le_of_ble_eq_true rfl, Nat.le_of_ble_eq_true rfl⟩) (k_preV hP hK hD hnw 13 rfl rfl) rfl rfl hl.1 rfl (lv_room (Nat.le_of_ble_eq_true rfl)) d_P_addPart_100 hc0) hD hS hA (fun _ H locs hp100 hP hD hK hS => ?_)
      replace hP : va_P D CC (wC tk ad (apC 8 9 u1 (B ++ bi (fun v => rt (Xs v)) (grL 4 (p9 + (hf q9)) (q9 - (hf q9)) (m9 - (hf q9)))).length (slC (fun v => rt (Xs v)) 4 p9 (hf q9)) 4) rr ++ tl) H := hP
      replace hD : va_D A (wC tk ad (apC 8 9 u1 (B ++ bi (fun v => rt (Xs v)) (grL 4 (p9 + (hf q9)) (q9 - (hf q9)) (m9 - (hf q9)))).length (slC (fun v => rt (Xs v)) 4 p9 (hf q9)) 4) rr ++ tl) := hD
      have hB2 : prfC (apC 8 9 u1 (B ++ bi (fun v => rt (Xs v)) (grL 4 (p9 + (hf q9)) (q9 - (hf q9)) (m9 - (hf q9)))).length (slC (fun v => rt (Xs v)) 4 p9 (hf q9)) 4) ((B ++ bi (fun v => rt (Xs v)) (grL 4 (p9 + (hf q9)) (q9 - (hf q9)) (m9 - (hf q9)))) ++ ib (slC (fun v => rt (Xs v)) 4 p9 (hf q9))) := prfC_i hB1 (slC (fun v => rt (Xs v)) 4 p9 (hf q9))
      have hF2 : frx [8, 9] g (apC 8 9 u1 (B ++ bi (fun v => rt (Xs v)) (grL 4 (p9 + (hf q9)) (q9 - (hf q9)) (m9 - (hf q9)))).length (slC (fun v => rt (Xs v)) 4 p9 (hf q9)) 4) := apC_fr 8 9 g _ _ _ _ hF1
      generalize (apC 8 9 u1 (B ++ bi (fun v => rt (Xs v)) (grL 4 (p9 + (hf q9)) (q9 - (hf q9)) (m9 - (hf q9)))).length (slC (fun v => rt (Xs v)) 4 p9 (hf q9)) 4) = u2 at hP hD hB2 hF2
      replace hP : va_P D CC (wC tk ad u2 rr ++ tl) H := hP
      replace hD : va_D A (wC tk ad u2 rr ++ tl) := hD
      exact k_vret hQ hx hb hr hlk hK hP hD hS u2 rfl (⟨hF2, by first | (obtain rfl : m9 = q9 := (by omega); rw [bi_gr0, if_pos (by omega), ← sl_eq _ _ _ (by omega) (by omega)]; exact hB2) | (rw [bi_gr (by omega), if_pos (by omega), ← sl_eq _ _ _ (by omega) (by omega), ← List.append_assoc]; exact hB2) | (rw [bi_gr (by omega), if_neg (by omega), ← sl_eq _ _ _ (by omega) (by omega), ← List.append_assoc]; exact hB2)⟩) d_P_addPart_103
    · skip
      refine lv_aload_n hx hb d_P_addPart_43 rfl (lv_at hl 2 rfl) ?_
      refine lv_aload_n hx hb d_P_addPart_44 rfl (lv_at hl 3 rfl) ?_
      refine lv_iload_n hx hb d_P_addPart_45 rfl (lv_at hl 4 rfl) ?_
      refine lv_iload hx hb d_P_addPart_46 (lv_at hl 1 rfl) ?_
      refine lv_iload hx hb d_P_addPart_48 (lv_at hl 6 rfl) ?_
      refine k_callv (va_runV (As := [.ref (ad 3), .int (nI p9), .int (nI (hf q9)), .int (nI m9)]) (rest := []) ⟨hx, hb, hml, hown, hts⟩ (c_P_addPart3 l D tk H.size ad g rr tl S ca bl hst Xs V hV1 hV2 hh B hB (by omega) p9 (hf q9) m9 (by omega) (by omega) (by omega) (by omega) (by omega)) (cwV 4 hts (gV t_865 t_867 s_8 t_6 t_868) rfl rfl rfl (by decide +kernel) ⟨Nat.le_of_ble_eq_true rfl, Nat.le_of_ble_eq_true rfl⟩) (k_preV hP hK hD hnw 12 rfl rfl) rfl rfl hl.1 rfl (lv_room (Nat.le_of_ble_eq_true rfl)) d_P_addPart_50 hc0) hD hS hA (fun u3 H locs hw3 hP hD hK hS => ?_)
      have hF3 : frx [8, 9] g u3 := frx_t frx_r hw3.1 (fun x h9 => ⟨h9, h9⟩)
      have hB3 : prfC u3 (B ++ bi (fun v => rt (Xs v)) (grL 4 p9 (hf q9) m9)) := hw3.2
      have hwl3 : (grL 4 p9 (hf q9) m9).length ≤ 4 := grl_le 3 p9 (hf q9) m9 (by omega) (by omega) (by omega) (by omega)
      replace hP : va_P D CC (wC tk ad u3 rr ++ tl) H := hP
      replace hD : va_D A (wC tk ad u3 rr ++ tl) := hD
      refine lv_aload_n hx hb d_P_addPart_53 rfl (lv_at hl 2 rfl) ?_
      refine gf_P_10 (v := .ref (ad 13)) hx hb hT hown hK hP 12 rfl rfl d_P_addPart_54 ?_
      refine lv_aload_n hx hb d_P_addPart_57 rfl (lv_at hl 3 rfl) ?_
      refine lv_iload hx hb d_P_addPart_58 (lv_at hl 0 rfl) ?_
      refine lv_iload_n hx hb d_P_addPart_60 rfl (lv_at hl 5 rfl) ?_
      refine lv_iload hx hb d_P_addPart_61 (lv_at hl 1 rfl) ?_
      refine st_isub hx hb (by omega) d_P_addPart_63 ?_
      refine k_calli (va_runVN (As := [.int (nI (p9 + (hf q9))), .int (nI (q9 - (hf q9)))]) (rest := [.ref (ad 13)]) ⟨hx, hb, hml, hown, hts⟩ (c_H_seal4 l D tk H.size ad u3 rr tl S ca bl hst Xs V hV1 hV2 hh (p9 + (hf q9)) (q9 - (hf q9)) (by omega) (by omega) (by omega)) ⟨(va_cnB 2 hts (gB t_803) rfl rfl rfl (hnw.1 _ _ _ _ n_840) (hT _ t_3) (by decide +kernel) ⟨Nat.le_of_ble_eq_true rfl, Nat.le_of_ble_eq_true rfl⟩), hT _ t_802, hT _ s_5⟩ (k_preV hP hK hD hnw 3 rfl rfl) rfl rfl hl.1 rfl (lv_room (Nat.le_of_ble_eq_true rfl)) d_P_addPart_64 hc0) hD hS hA (fun _ _ H locs hp64 hP hD hK hS => ?_)
      subst hp64
      replace hP : va_P D CC (wC tk ad u3 rr ++ tl) H := hP
      replace hD : va_D A (wC tk ad u3 rr ++ tl) := hD
      refine k_callv (va_runV (As := [.int (slC (fun v => rt (Xs v)) 4 (p9 + (hf q9)) (q9 - (hf q9)))]) (rest := []) ⟨hx, hb, hml, hown, hts⟩ (c_B_appendInt l D tk H.size ad u3 rr tl (B ++ bi (fun v => rt (Xs v)) (grL 4 p9 (hf q9) m9)) hB3 (by first | omega | (simp only [List.length_append, bi_len]; omega)) (slC (fun v => rt (Xs v)) 4 (p9 + (hf q9)) (q9 - (hf q9)))) (cwV 1 hts (gV t_841 t_842 t_843 t_7 t_844) rfl rfl rfl (by decide +kernel) ⟨Nat.le_of_ble_eq_true rfl, Nat.le_of_ble_eq_true rfl⟩) (k_preV hP hK hD hnw 13 rfl rfl) rfl rfl hl.1 rfl (lv_room (Nat.le_of_ble_eq_true rfl)) d_P_addPart_67 hc0) hD hS hA (fun _ H locs hp67 hP hD hK hS => ?_)
      replace hP : va_P D CC (wC tk ad (apC 8 9 u3 (B ++ bi (fun v => rt (Xs v)) (grL 4 p9 (hf q9) m9)).length (slC (fun v => rt (Xs v)) 4 (p9 + (hf q9)) (q9 - (hf q9))) 4) rr ++ tl) H := hP
      replace hD : va_D A (wC tk ad (apC 8 9 u3 (B ++ bi (fun v => rt (Xs v)) (grL 4 p9 (hf q9) m9)).length (slC (fun v => rt (Xs v)) 4 (p9 + (hf q9)) (q9 - (hf q9))) 4) rr ++ tl) := hD
      have hB4 : prfC (apC 8 9 u3 (B ++ bi (fun v => rt (Xs v)) (grL 4 p9 (hf q9) m9)).length (slC (fun v => rt (Xs v)) 4 (p9 + (hf q9)) (q9 - (hf q9))) 4) ((B ++ bi (fun v => rt (Xs v)) (grL 4 p9 (hf q9) m9)) ++ ib (slC (fun v => rt (Xs v)) 4 (p9 + (hf q9)) (q9 - (hf q9)))) := prfC_i hB3 (slC (fun v => rt (Xs v)) 4 (p9 + (hf q9)) (q9 - (hf q9)))
      have hF4 : frx [8, 9] g (apC 8 9 u3 (B ++ bi (fun v => rt (Xs v)) (grL 4 p9 (hf q9) m9)).length (slC (fun v => rt (Xs v)) 4 (p9 + (hf q9)) (q9 - (hf q9))) 4) := apC_fr 8 9 g _ _ _ _ hF3
      generalize (apC 8 9 u3 (B ++ bi (fun v => rt (Xs v)) (grL 4 p9 (hf q9) m9)).length (slC (fun v => rt (Xs v)) 4 (p9 + (hf q9)) (q9 - (hf q9))) 4) = u4 at hP hD hB4 hF4
      replace hP : va_P D CC (wC tk ad u4 rr ++ tl) H := hP
      replace hD : va_D A (wC tk ad u4 rr ++ tl) := hD
      refine lv_goto hx hb d_P_addPart_70 (tgt := 103) (by decide) ?_
      exact k_vret hQ hx hb hr hlk hK hP hD hS u4 rfl (⟨hF4, by first | (obtain rfl : m9 = q9 := (by omega); rw [bi_gr0, if_pos (by omega), ← sl_eq _ _ _ (by omega) (by omega)]; exact hB4) | (rw [bi_gr (by omega), if_pos (by omega), ← sl_eq _ _ _ (by omega) (by omega), ← List.append_assoc]; exact hB4) | (rw [bi_gr (by omega), if_neg (by omega), ← sl_eq _ _ _ (by omega) (by omega), ← List.append_assoc]; exact hB4)⟩) d_P_addPart_103
  · skip
    refine lv_iload_n hx hb d_P_addPart_6 rfl (lv_at hl 2 rfl) ?_
    refine st_if_le hx hb (by omega) d_P_addPart_7 (tgt := 23) (by decide) (fun hc7 => ?_) (fun hc7 => ?_)
    · skip
      exact k_vret hQ hx hb hr hlk hK hP hD hS g rfl (⟨frx_r, by obtain rfl : m9 = q9 := (by omega); rw [bi_gr0, if_neg (by omega), List.append_nil]; exact hB⟩) d_P_addPart_23
    · skip
      refine lv_aload_n hx hb d_P_addPart_10 rfl (lv_at hl 0 rfl) ?_
      refine gf_P_10 (v := .ref (ad 13)) hx hb hT hown hK hP 12 rfl rfl d_P_addPart_11 ?_
      refine lv_aload_n hx hb d_P_addPart_14 rfl (lv_at hl 1 rfl) ?_
      refine lv_iload_n hx hb d_P_addPart_15 rfl (lv_at hl 2 rfl) ?_
      refine lv_iload_n hx hb d_P_addPart_16 rfl (lv_at hl 3 rfl) ?_
      refine k_calli (va_runVN (As := [.int (nI p9), .int (nI q9)]) (rest := [.ref (ad 13)]) ⟨hx, hb, hml, hown, hts⟩ (c_H_seal4 l D tk s.heap.size ad g rr tl S ca bl hst Xs V hV1 hV2 hh p9 q9 (by omega) (by omega) (by omega)) ⟨(va_cnB 2 hts (gB t_803) rfl rfl rfl (hnw.1 _ _ _ _ n_840) (hT _ t_3) (by decide +kernel) ⟨Nat.le_of_ble_eq_true rfl, Nat.le_of_ble_eq_true rfl⟩), hT _ t_802, hT _ s_5⟩ (k_preV hP hK hD hnw 3 rfl rfl) rfl rfl hl.1 rfl (lv_room (Nat.le_of_ble_eq_true rfl)) d_P_addPart_17 hc0) hD hS hA (fun _ _ H locs hp17 hP hD hK hS => ?_)
      subst hp17
      replace hP : va_P D CC (wC tk ad g rr ++ tl) H := hP
      replace hD : va_D A (wC tk ad g rr ++ tl) := hD
      refine k_callv (va_runV (As := [.int (slC (fun v => rt (Xs v)) 4 p9 q9)]) (rest := []) ⟨hx, hb, hml, hown, hts⟩ (c_B_appendInt l D tk H.size ad g rr tl B hB (by first | omega | (simp only [List.length_append, bi_len]; omega)) (slC (fun v => rt (Xs v)) 4 p9 q9)) (cwV 1 hts (gV t_841 t_842 t_843 t_7 t_844) rfl rfl rfl (by decide +kernel) ⟨Nat.le_of_ble_eq_true rfl, Nat.le_of_ble_eq_true rfl⟩) (k_preV hP hK hD hnw 13 rfl rfl) rfl rfl hl.1 rfl (lv_room (Nat.le_of_ble_eq_true rfl)) d_P_addPart_20 hc0) hD hS hA (fun _ H locs hp20 hP hD hK hS => ?_)
      replace hP : va_P D CC (wC tk ad (apC 8 9 g B.length (slC (fun v => rt (Xs v)) 4 p9 q9) 4) rr ++ tl) H := hP
      replace hD : va_D A (wC tk ad (apC 8 9 g B.length (slC (fun v => rt (Xs v)) 4 p9 q9) 4) rr ++ tl) := hD
      have hB5 : prfC (apC 8 9 g B.length (slC (fun v => rt (Xs v)) 4 p9 q9) 4) (B ++ ib (slC (fun v => rt (Xs v)) 4 p9 q9)) := prfC_i hB (slC (fun v => rt (Xs v)) 4 p9 q9)
      have hF5 : frx [8, 9] g (apC 8 9 g B.length (slC (fun v => rt (Xs v)) 4 p9 q9) 4) := apC_fr 8 9 g _ _ _ _ frx_r
      generalize (apC 8 9 g B.length (slC (fun v => rt (Xs v)) 4 p9 q9) 4) = u5 at hP hD hB5 hF5
      replace hP : va_P D CC (wC tk ad u5 rr ++ tl) H := hP
      replace hD : va_D A (wC tk ad u5 rr ++ tl) := hD
      exact k_vret hQ hx hb hr hlk hK hP hD hS u5 rfl (⟨hF5, by first | (obtain rfl : m9 = q9 := (by omega); rw [bi_gr0, if_pos (by omega), ← sl_eq _ _ _ (by omega) (by omega)]; exact hB5) | (rw [bi_gr (by omega), if_pos (by omega), ← sl_eq _ _ _ (by omega) (by omega), ← List.append_assoc]; exact hB5) | (rw [bi_gr (by omega), if_neg (by omega), ← sl_eq _ _ _ (by omega) (by omega), ← List.append_assoc]; exact hB5)⟩) d_P_addPart_23

theorem frx_c {g : Nat → Nat → Int32} : frx [8, 9] g (mup g 8 0 (nI 0)) := frx_2 frx_r (by decide)

set_option maxHeartbeats 4000000 in
set_option maxRecDepth 100000 in
theorem c_P_makeGrowth (l : Launch) (D : va_G) (tk : Nat → ClassId) (sz : Nat) (ad : Nat → Nat) (g : Nat → Nat → Int32) (rr : Nat → Nat → Option Nat) (tl : va_W) (S : List ck_I) (ca : Nat → Nat) (bl : Nat → Nat → Option Nat) (hst : sI tk tl S ca bl) (Xs : Nat → List kv_I) (V : Nat) (hV1 : 1 ≤ V) (hV2 : V ≤ 16) (hh : ∀ v, v < V → so (Xs v) ∧ tOf S ca (Xs v) (rr 1 v)) (m9 n9 : Nat) (hm1 : 1 ≤ m9) (hm2 : m9 < n9) (hn9 : n9 ≤ V) : Met l y_P_makeGrowth w_P_makeGrowth ({ frames := 12, cells := 0, slots := 0, locals := 288 }) (va_Pc [.ref (ad 12), .ref (ad 3), .int (nI m9), .int (nI n9)] (k_pre D (TY tk) sz (wC tk ad g rr ++ tl))) (va_Qv (fun (u : Nat → Nat → Int32) => frx [8, 9] g u ∧ prfC u ([nI (grL 5 0 n9 m9).length &&& nI 255] ++ bi (fun v => rt (Xs v)) (grL 5 0 n9 m9))) (fun u t => k_at D (TY tk) (va_A (wC tk ad g rr ++ tl) sz) ((fun u => wC tk ad u rr ++ tl) u) t) (va_A (wC tk ad g rr ++ tl) sz)) 0 0 (va_A (wC tk ad g rr ++ tl) sz) := by
  refine k_ofW (fun A => va_Qv (fun (u : Nat → Nat → Int32) => frx [8, 9] g u ∧ prfC u ([nI (grL 5 0 n9 m9).length &&& nI 255] ++ bi (fun v => rt (Xs v)) (grL 5 0 n9 m9))) (fun u t => k_at D (TY tk) A ((fun u => wC tk ad u rr ++ tl) u) t) A) (by decide) (Nat.le_of_ble_eq_true rfl) ?_
  intro p e s m args below meth c Q A ls hQ hx hb hr hlk hin hts hT hown hml hnw hP hK hD hA hsz hl
  have hS : va_S A s.heap s.heap [] := va_S.rf
  have hc0 : 0 + 0 ≤ 0 ∧ 0 + 0 ≤ 0 := ⟨by decide, by decide⟩
  replace hl : lv_has ls 4 [(0, .ref (ad 12)), (1, .ref (ad 3)), (2, .int (nI m9)), (3, .int (nI n9))] := hl
  replace hP : va_P D CC (wC tk ad g rr ++ tl) s.heap := hP
  replace hK : va_K D CC (TY tk) s := hK
  refine lv_aload_n hx hb d_P_makeGrowth_0 rfl (lv_at hl 0 rfl) ?_
  refine gf_P_10 (v := .ref (ad 13)) hx hb hT hown hK hP 12 rfl rfl d_P_makeGrowth_1 ?_
  refine k_callv (va_runV (As := []) (rest := []) ⟨hx, hb, hml, hown, hts⟩ (c_B_clearP l D tk s.heap.size ad g rr tl) (cwV 0 hts (gV t_826 t_827 t_828 t_7 t_829) rfl rfl rfl (by decide +kernel) ⟨Nat.le_of_ble_eq_true rfl, Nat.le_of_ble_eq_true rfl⟩) (k_preV hP hK hD hnw 13 rfl rfl) rfl rfl hl.1 rfl (lv_room (Nat.le_of_ble_eq_true rfl)) d_P_makeGrowth_4 hc0) hD hS hA (fun _ H locs hp4 hP hD hK hS => ?_)
  replace hP : va_P D CC (wC tk ad (mup g 8 0 (nI 0)) rr ++ tl) H := hP
  replace hD : va_D A (wC tk ad (mup g 8 0 (nI 0)) rr ++ tl) := hD
  refine lv_aload_n hx hb d_P_makeGrowth_7 rfl (lv_at hl 0 rfl) ?_
  refine gf_P_10 (v := .ref (ad 13)) hx hb hT hown hK hP 12 rfl rfl d_P_makeGrowth_8 ?_
  refine lv_iconst (v := nI 0) hx hb d_P_makeGrowth_11 (by decide) ?_
  refine k_callv (va_runV (As := [.int (nI 0)]) (rest := []) ⟨hx, hb, hml, hown, hts⟩ (c_B_appendByte l D tk H.size ad (mup g 8 0 (nI 0)) rr tl ([] : List Int32) (prfC_0 g) (by simp only [List.length_nil]; omega) (nI 0)) (cwV 1 hts (gV t_830 t_831 t_832 t_7 t_833) rfl rfl rfl (by decide +kernel) ⟨Nat.le_of_ble_eq_true rfl, Nat.le_of_ble_eq_true rfl⟩) (k_preV hP hK hD hnw 13 rfl rfl) rfl rfl hl.1 rfl (lv_room (Nat.le_of_ble_eq_true rfl)) d_P_makeGrowth_12 hc0) hD hS hA (fun _ H locs hp12 hP hD hK hS => ?_)
  replace hP : va_P D CC (wC tk ad (apC 8 9 (mup g 8 0 (nI 0)) ([] : List Int32).length (nI 0) 1) rr ++ tl) H := hP
  replace hD : va_D A (wC tk ad (apC 8 9 (mup g 8 0 (nI 0)) ([] : List Int32).length (nI 0) 1) rr ++ tl) := hD
  have hB1 : prfC (apC 8 9 (mup g 8 0 (nI 0)) ([] : List Int32).length (nI 0) 1) (([] : List Int32) ++ [(nI 0) &&& nI 255]) := prfC_b (prfC_0 g) (nI 0)
  have hF1 : frx [8, 9] g (apC 8 9 (mup g 8 0 (nI 0)) ([] : List Int32).length (nI 0) 1) := apC_fr 8 9 g _ _ _ _ frx_c
  generalize (apC 8 9 (mup g 8 0 (nI 0)) ([] : List Int32).length (nI 0) 1) = u1 at hP hD hB1 hF1
  replace hP : va_P D CC (wC tk ad u1 rr ++ tl) H := hP
  replace hD : va_D A (wC tk ad u1 rr ++ tl) := hD
  refine lv_aload_n hx hb d_P_makeGrowth_15 rfl (lv_at hl 0 rfl) ?_
  refine lv_aload_n hx hb d_P_makeGrowth_16 rfl (lv_at hl 1 rfl) ?_
  refine lv_iconst (v := nI 0) hx hb d_P_makeGrowth_17 (by decide) ?_
  refine lv_iload_n hx hb d_P_makeGrowth_18 rfl (lv_at hl 3 rfl) ?_
  refine lv_iload_n hx hb d_P_makeGrowth_19 rfl (lv_at hl 2 rfl) ?_
  refine k_callv (va_runV (As := [.ref (ad 3), .int (nI 0), .int (nI n9), .int (nI m9)]) (rest := []) ⟨hx, hb, hml, hown, hts⟩ (c_P_addPart4 l D tk H.size ad u1 rr tl S ca bl hst Xs V hV1 hV2 hh (([] : List Int32) ++ [(nI 0) &&& nI 255]) hB1 (by simp only [List.length_append, List.length_singleton, List.length_nil]; omega) 0 n9 m9 (by omega) (by omega) (by omega) (by omega) (by omega)) (cwV 4 hts (gV t_865 t_867 s_8 t_6 t_868) rfl rfl rfl (by decide +kernel) ⟨Nat.le_of_ble_eq_true rfl, Nat.le_of_ble_eq_true rfl⟩) (k_preV hP hK hD hnw 12 rfl rfl) rfl rfl hl.1 rfl (lv_room (Nat.le_of_ble_eq_true rfl)) d_P_makeGrowth_20 hc0) hD hS hA (fun u2 H locs hw2 hP hD hK hS => ?_)
  have hF2 : frx [8, 9] g u2 := frx_t hF1 hw2.1 (fun x h9 => ⟨h9, h9⟩)
  have hB2 : prfC u2 ((([] : List Int32) ++ [(nI 0) &&& nI 255]) ++ bi (fun v => rt (Xs v)) (grL 5 0 n9 m9)) := hw2.2
  have hwl2 : (grL 5 0 n9 m9).length ≤ 5 := grl_le 4 0 n9 m9 (by omega) (by omega) (by omega) (by omega)
  replace hP : va_P D CC (wC tk ad u2 rr ++ tl) H := hP
  replace hD : va_D A (wC tk ad u2 rr ++ tl) := hD
  refine lv_aload_n hx hb d_P_makeGrowth_23 rfl (lv_at hl 0 rfl) ?_
  refine gf_P_10 (v := .ref (ad 13)) hx hb hT hown hK hP 12 rfl rfl d_P_makeGrowth_24 ?_
  refine k_callv (va_runV (As := []) (rest := []) ⟨hx, hb, hml, hown, hts⟩ (c_B_countInts l D tk H.size ad u2 rr tl ((([] : List Int32) ++ [(nI 0) &&& nI 255]) ++ bi (fun v => rt (Xs v)) (grL 5 0 n9 m9)).length (by simp only [List.length_append, List.length_singleton, List.length_nil]; omega) (by simp only [List.length_append, List.length_singleton, List.length_nil, bi_len]; omega) hB2.1) (cwV 0 hts (gV t_845 t_846 t_847 t_7 t_848) rfl rfl rfl (by decide +kernel) ⟨Nat.le_of_ble_eq_true rfl, Nat.le_of_ble_eq_true rfl⟩) (k_preV hP hK hD hnw 13 rfl rfl) rfl rfl hl.1 rfl (lv_room (Nat.le_of_ble_eq_true rfl)) d_P_makeGrowth_27 hc0) hD hS hA (fun _ H locs hp27 hP hD hK hS => ?_)
  replace hP : va_P D CC (wC tk ad (mup u2 9 0 (nI (((([] : List Int32) ++ [(nI 0) &&& nI 255]) ++ bi (fun v => rt (Xs v)) (grL 5 0 n9 m9)).length - 1) / nI 4)) rr ++ tl) H := hP
  replace hD : va_D A (wC tk ad (mup u2 9 0 (nI (((([] : List Int32) ++ [(nI 0) &&& nI 255]) ++ bi (fun v => rt (Xs v)) (grL 5 0 n9 m9)).length - 1) / nI 4)) rr ++ tl) := hD
  have hln3 : ((([] : List Int32) ++ [(nI 0) &&& nI 255]) ++ bi (fun v => rt (Xs v)) (grL 5 0 n9 m9)).length - 1 = 4 * (grL 5 0 n9 m9).length := by simp only [List.length_append, List.length_singleton, List.length_nil, bi_len]; omega
  have hB3 : prfC (mup u2 9 0 (nI (((([] : List Int32) ++ [(nI 0) &&& nI 255]) ++ bi (fun v => rt (Xs v)) (grL 5 0 n9 m9)).length - 1) / nI 4)) ([nI (grL 5 0 n9 m9).length &&& nI 255] ++ bi (fun v => rt (Xs v)) (grL 5 0 n9 m9)) := by rw [hln3, nI_div4 (by omega)]; exact prfC_s (by simpa only [List.nil_append, List.append_assoc] using hB2)
  have hF3 : frx [8, 9] g (mup u2 9 0 (nI (((([] : List Int32) ++ [(nI 0) &&& nI 255]) ++ bi (fun v => rt (Xs v)) (grL 5 0 n9 m9)).length - 1) / nI 4)) := frx_2 hF2 (by decide)
  generalize (mup u2 9 0 (nI (((([] : List Int32) ++ [(nI 0) &&& nI 255]) ++ bi (fun v => rt (Xs v)) (grL 5 0 n9 m9)).length - 1) / nI 4)) = u3 at hP hD hB3 hF3
  replace hP : va_P D CC (wC tk ad u3 rr ++ tl) H := hP
  replace hD : va_D A (wC tk ad u3 rr ++ tl) := hD
  exact k_vret hQ hx hb hr hlk hK hP hD hS u3 rfl (⟨hF3, hB3⟩) d_P_makeGrowth_30

def mpS (S : List ck_I) (ca : Nat → Nat) (X : List kv_I) (key : Nat) (cur : Option Nat) (n9 : Nat) : Prop := (cur = none ∧ n9 = 0) ∨ ∃ c l, cur = some (ca c) ∧ S[c]? = some (l, pc_ key (pa l X)) ∧ n9 = l + 1
theorem mpS_step {S : List ck_I} {ca : Nat → Nat} {bl : Nat → Nat → Option Nat} (h : st_ok S ca bl) {X : List kv_I} (hX : so X) (hX2 : X ≠ []) {key c l : Nat} (hc : S[c]? = some (l, pc_ key (pa l X))) : mpS S ca X key (bl c (pf key (im l (pc_ key (pa l X))))) l := by
  obtain ⟨u1, u2⟩ := un_step h hc key
  cases l with
  | zero => exact Or.inl ⟨(u1 rfl).1, rfl⟩
  | succ l' =>
    obtain ⟨d, hd1, hd2, _⟩ := u2 l' rfl
    rw [pc_down hX hX2 key l'] at hd1
    exact Or.inr ⟨d, l', hd2, hd1, rfl⟩
theorem mpS_init {S : List ck_I} {ca : Nat → Nat} {bl : Nat → Nat → Option Nat} (h : st_ok S ca bl) {X : List kv_I} (hX : so X) (key : Nat) {d l : Nat} (h2 : S[d]? = some (l, X)) : mpS S ca X key (some (ca d)) (l + 1) := by
  have e : pc_ key (pa l X) = X := by rw [(h.2.2 d l X h2).2.2.1]; rfl
  exact Or.inr ⟨d, l, rfl, by rw [e]; exact h2, rfl⟩
theorem mp_end {S : List ck_I} {ca : Nat → Nat} {X : List kv_I} {key n8 : Nat} {cur : Option Nat} {u : Nat → Nat → Int32} {Bq F : List Int32} (h : mpS S ca X key cur n8) (hc : cur = none) (ht : Bq ++ lvB key X n8 = F) (hB : prfC u Bq) : prfC u F := by
  have e9 : n8 = 0 := h.elim (fun q => q.2) (fun ⟨c, l, e, _⟩ => by rw [hc] at e; cases e)
  rw [e9, lvB, List.append_nil] at ht
  rw [← ht]; exact hB
theorem hg_nil {X : List kv_I} (h : X = []) : hg X = 0 := by unfold hg; rw [if_pos h]
theorem lv_room9 {f : Nat → Int32} {n v key l : Nat} {X : List kv_I} {B : List Int32} (h : so X) (hw : (wyL 5 0 n v).length ≤ 5) (e : B ++ lvB key X (l + 1) = prB f n v key X) : B.length + (1 + 5 * (im l (pc_ key (pa l X))).length) ≤ 400 := by
  have h1 := congrArg List.length e
  have h2 := prB_len (f4 := f) (n := n) (v := v) (key := key) h hw
  rw [lvB] at h1
  simp only [List.length_append, List.length_singleton, ckL_len] at h1
  omega
theorem mp_nz {S : List ck_I} {ca : Nat → Nat} {bl : Nat → Nat → Option Nat} (h : st_ok S ca bl) {X : List kv_I} {key c l : Nat} (hc : S[c]? = some (l, pc_ key (pa l X))) : X ≠ [] := by
  rintro rfl
  have := (h.2.2 c l _ hc).2.1
  rw [show pa l ([] : List kv_I) = [] from pa_nil.mpr rfl] at this
  exact this rfl

set_option maxHeartbeats 4000000 in
set_option maxRecDepth 100000 in
theorem c_P_makeProof (l : Launch) (D : va_G) (tk : Nat → ClassId) (sz : Nat) (ad : Nat → Nat) (g : Nat → Nat → Int32) (rr : Nat → Nat → Option Nat) (tl : va_W) (S : List ck_I) (ca : Nat → Nat) (bl : Nat → Nat → Option Nat) (hst : sI tk tl S ca bl) (Xs : Nat → List kv_I) (V : Nat) (hV1 : 1 ≤ V) (hV2 : V ≤ 16) (hh : ∀ v, v < V → so (Xs v) ∧ tOf S ca (Xs v) (rr 1 v)) (n9 v9 key : Nat) (hn9 : n9 ≤ V) (hv9 : v9 < n9) (hkey : key < 48) : Met l y_P_makeProof w_P_makeProof ({ frames := 11, cells := 0, slots := 0, locals := 262 }) (va_Pc [.ref (ad 12), .ref (ad 3), .int (nI n9), .int (nI v9), .int (nI key)] (k_pre D (TY tk) sz (wC tk ad g rr ++ tl))) (va_Qv (fun (u : Nat → Nat → Int32) => frx [8, 9] g u ∧ prfC u (prB (fun v => rt (Xs v)) n9 v9 key (Xs v9))) (fun u t => k_at D (TY tk) (va_A (wC tk ad g rr ++ tl) sz) ((fun u => wC tk ad u rr ++ tl) u) t) (va_A (wC tk ad g rr ++ tl) sz)) 0 0 (va_A (wC tk ad g rr ++ tl) sz) := by
  refine k_ofW (fun A => va_Qv (fun (u : Nat → Nat → Int32) => frx [8, 9] g u ∧ prfC u (prB (fun v => rt (Xs v)) n9 v9 key (Xs v9))) (fun u t => k_at D (TY tk) A ((fun u => wC tk ad u rr ++ tl) u) t) A) (by decide) (Nat.le_of_ble_eq_true rfl) ?_
  intro p e s m args below meth c Q A ls hQ hx hb hr hlk hin hts hT hown hml hnw hP hK hD hA hsz hl
  have hS : va_S A s.heap s.heap [] := va_S.rf
  have hc0 : 0 + 0 ≤ 0 ∧ 0 + 0 ≤ 0 := ⟨by decide, by decide⟩
  replace hl : lv_has ls 7 [(0, .ref (ad 12)), (1, .ref (ad 3)), (2, .int (nI n9)), (3, .int (nI v9)), (4, .int (nI key))] := hl
  replace hP : va_P D CC (wC tk ad g rr ++ tl) s.heap := hP
  replace hK : va_K D CC (TY tk) s := hK
  refine lv_aload_n hx hb d_P_makeProof_0 rfl (lv_at hl 0 rfl) ?_
  refine gf_P_10 (v := .ref (ad 13)) hx hb hT hown hK hP 12 rfl rfl d_P_makeProof_1 ?_
  refine k_callv (va_runV (As := []) (rest := []) ⟨hx, hb, hml, hown, hts⟩ (c_B_clearP l D tk s.heap.size ad g rr tl) (cwV 0 hts (gV t_826 t_827 t_828 t_7 t_829) rfl rfl rfl (by decide +kernel) ⟨Nat.le_of_ble_eq_true rfl, Nat.le_of_ble_eq_true rfl⟩) (k_preV hP hK hD hnw 13 rfl rfl) rfl rfl hl.1 rfl (lv_room (Nat.le_of_ble_eq_true rfl)) d_P_makeProof_4 hc0) hD hS hA (fun _ H locs hp4 hP hD hK hS => ?_)
  replace hP : va_P D CC (wC tk ad (mup g 8 0 (nI 0)) rr ++ tl) H := hP
  replace hD : va_D A (wC tk ad (mup g 8 0 (nI 0)) rr ++ tl) := hD
  refine lv_aload_n hx hb d_P_makeProof_7 rfl (lv_at hl 0 rfl) ?_
  refine gf_P_10 (v := .ref (ad 13)) hx hb hT hown hK hP 12 rfl rfl d_P_makeProof_8 ?_
  refine lv_iconst (v := nI 0) hx hb d_P_makeProof_11 (by decide) ?_
  refine k_callv (va_runV (As := [.int (nI 0)]) (rest := []) ⟨hx, hb, hml, hown, hts⟩ (c_B_appendByte l D tk H.size ad (mup g 8 0 (nI 0)) rr tl ([] : List Int32) (prfC_0 g) (by simp only [List.length_nil, List.length_append, List.length_singleton, bi_len]; omega) (nI 0)) (cwV 1 hts (gV t_830 t_831 t_832 t_7 t_833) rfl rfl rfl (by decide +kernel) ⟨Nat.le_of_ble_eq_true rfl, Nat.le_of_ble_eq_true rfl⟩) (k_preV hP hK hD hnw 13 rfl rfl) rfl rfl hl.1 rfl (lv_room (Nat.le_of_ble_eq_true rfl)) d_P_makeProof_12 hc0) hD hS hA (fun _ H locs hp12 hP hD hK hS => ?_)
  replace hP : va_P D CC (wC tk ad (apC 8 9 (mup g 8 0 (nI 0)) ([] : List Int32).length (nI 0) 1) rr ++ tl) H := hP
  replace hD : va_D A (wC tk ad (apC 8 9 (mup g 8 0 (nI 0)) ([] : List Int32).length (nI 0) 1) rr ++ tl) := hD
  have hB1 : prfC (apC 8 9 (mup g 8 0 (nI 0)) ([] : List Int32).length (nI 0) 1) (([] : List Int32) ++ [(nI 0) &&& nI 255]) := prfC_b (prfC_0 g) (nI 0)
  have hF1 : frx [8, 9] g (apC 8 9 (mup g 8 0 (nI 0)) ([] : List Int32).length (nI 0) 1) := apC_fr 8 9 g _ _ _ _ frx_c
  generalize (apC 8 9 (mup g 8 0 (nI 0)) ([] : List Int32).length (nI 0) 1) = u1 at hP hD hB1 hF1
  replace hP : va_P D CC (wC tk ad u1 rr ++ tl) H := hP
  replace hD : va_D A (wC tk ad u1 rr ++ tl) := hD
  refine lv_aload_n hx hb d_P_makeProof_15 rfl (lv_at hl 0 rfl) ?_
  refine lv_aload_n hx hb d_P_makeProof_16 rfl (lv_at hl 1 rfl) ?_
  refine lv_iconst (v := nI 0) hx hb d_P_makeProof_17 (by decide) ?_
  refine lv_iload_n hx hb d_P_makeProof_18 rfl (lv_at hl 2 rfl) ?_
  refine lv_iload_n hx hb d_P_makeProof_19 rfl (lv_at hl 3 rfl) ?_
  refine k_callv (va_runV (As := [.ref (ad 3), .int (nI 0), .int (nI n9), .int (nI v9)]) (rest := []) ⟨hx, hb, hml, hown, hts⟩ (c_P_addWay4 l D tk H.size ad u1 rr tl S ca bl hst Xs V hV1 hV2 hh (([] : List Int32) ++ [(nI 0) &&& nI 255]) hB1 (by simp only [List.length_append, List.length_singleton, List.length_nil]; omega) 0 n9 v9 (by omega) (by omega) (by omega) (by omega) (by omega)) (cwV 4 hts (gV t_835 t_837 s_6 t_6 t_838) rfl rfl rfl (by decide +kernel) ⟨Nat.le_of_ble_eq_true rfl, Nat.le_of_ble_eq_true rfl⟩) (k_preV hP hK hD hnw 12 rfl rfl) rfl rfl hl.1 rfl (lv_room (Nat.le_of_ble_eq_true rfl)) d_P_makeProof_20 hc0) hD hS hA (fun u2 H locs hw2 hP hD hK hS => ?_)
  have hF2 : frx [8, 9] g u2 := frx_t hF1 hw2.1 (fun x h9 => ⟨h9, h9⟩)
  have hB2 : prfC u2 ((([] : List Int32) ++ [(nI 0) &&& nI 255]) ++ bi (fun v => rt (Xs v)) (wyL 5 0 n9 v9)) := hw2.2
  have hwl2 : (wyL 5 0 n9 v9).length ≤ 4 := wyl_le 4 0 n9 v9 (by omega) (by omega)
  replace hP : va_P D CC (wC tk ad u2 rr ++ tl) H := hP
  replace hD : va_D A (wC tk ad u2 rr ++ tl) := hD
  refine lv_aload_n hx hb d_P_makeProof_23 rfl (lv_at hl 0 rfl) ?_
  refine gf_P_10 (v := .ref (ad 13)) hx hb hT hown hK hP 12 rfl rfl d_P_makeProof_24 ?_
  refine k_callv (va_runV (As := []) (rest := []) ⟨hx, hb, hml, hown, hts⟩ (c_B_countInts l D tk H.size ad u2 rr tl ((([] : List Int32) ++ [(nI 0) &&& nI 255]) ++ bi (fun v => rt (Xs v)) (wyL 5 0 n9 v9)).length (by simp only [List.length_append, List.length_singleton, List.length_nil]; omega) (by simp only [List.length_append, List.length_singleton, List.length_nil, bi_len]; omega) hB2.1) (cwV 0 hts (gV t_845 t_846 t_847 t_7 t_848) rfl rfl rfl (by decide +kernel) ⟨Nat.le_of_ble_eq_true rfl, Nat.le_of_ble_eq_true rfl⟩) (k_preV hP hK hD hnw 13 rfl rfl) rfl rfl hl.1 rfl (lv_room (Nat.le_of_ble_eq_true rfl)) d_P_makeProof_27 hc0) hD hS hA (fun _ H locs hp27 hP hD hK hS => ?_)
  replace hP : va_P D CC (wC tk ad (mup u2 9 0 (nI (((([] : List Int32) ++ [(nI 0) &&& nI 255]) ++ bi (fun v => rt (Xs v)) (wyL 5 0 n9 v9)).length - 1) / nI 4)) rr ++ tl) H := hP
  replace hD : va_D A (wC tk ad (mup u2 9 0 (nI (((([] : List Int32) ++ [(nI 0) &&& nI 255]) ++ bi (fun v => rt (Xs v)) (wyL 5 0 n9 v9)).length - 1) / nI 4)) rr ++ tl) := hD
  have hln3 : ((([] : List Int32) ++ [(nI 0) &&& nI 255]) ++ bi (fun v => rt (Xs v)) (wyL 5 0 n9 v9)).length - 1 = 4 * (wyL 5 0 n9 v9).length := by simp only [List.length_append, List.length_singleton, List.length_nil, bi_len]; omega
  have hB3 : prfC (mup u2 9 0 (nI (((([] : List Int32) ++ [(nI 0) &&& nI 255]) ++ bi (fun v => rt (Xs v)) (wyL 5 0 n9 v9)).length - 1) / nI 4)) ([nI (wyL 5 0 n9 v9).length &&& nI 255] ++ bi (fun v => rt (Xs v)) (wyL 5 0 n9 v9)) := by rw [hln3, nI_div4 (by omega)]; exact prfC_s (by simpa only [List.nil_append, List.append_assoc] using hB2)
  have hF3 : frx [8, 9] g (mup u2 9 0 (nI (((([] : List Int32) ++ [(nI 0) &&& nI 255]) ++ bi (fun v => rt (Xs v)) (wyL 5 0 n9 v9)).length - 1) / nI 4)) := frx_2 hF2 (by decide)
  generalize (mup u2 9 0 (nI (((([] : List Int32) ++ [(nI 0) &&& nI 255]) ++ bi (fun v => rt (Xs v)) (wyL 5 0 n9 v9)).length - 1) / nI 4)) = u3 at hP hD hB3 hF3
  replace hP : va_P D CC (wC tk ad u3 rr ++ tl) H := hP
  replace hD : va_D A (wC tk ad u3 rr ++ tl) := hD
  refine lv_aload_n hx hb d_P_makeProof_30 rfl (lv_at hl 1 rfl) ?_
  refine gf_P_30 (v := .ref (ad 4)) hx hb hT hown hK hP 3 rfl rfl d_P_makeProof_31 ?_
  refine lv_iload_n hx hb d_P_makeProof_34 rfl (lv_at hl 3 rfl) ?_
  refine st_aald hx hb hK hP 4 3 rfl rfl (by omega) (by decide) d_P_makeProof_35 ?_
  refine sq_astore (lv' := [(5, va_rf (rr 1 v9)), (0, .ref (ad 12)), (1, .ref (ad 3)), (2, .int (nI n9)), (3, .int (nI v9)), (4, .int (nI key))]) hx hb d_P_makeProof_36 hl (by decide) rfl (fun ls hl => ?_)
  refine lv_aload_n hx hb d_P_makeProof_38 rfl (lv_at hl 1 rfl) ?_
  refine gf_P_10 (v := .ref (ad 13)) hx hb hT hown hK hP 12 rfl rfl d_P_makeProof_39 ?_
  refine sq_aload hx hb d_P_makeProof_42 (lv_at hl 0 rfl) ?_
  refine sq_ifnonnull (r := rr 1 v9) hx hb d_P_makeProof_44 (tgt := 51) (by decide) (fun hc44 => ?_) (fun hc44 => ?_)
  · skip
    obtain ⟨d9, l9, h9a, h9b, h9c⟩ := tOf_some (hh v9 (by omega)).2 hc44
    obtain ⟨qt, kat, vat, bat, fkt, fvt, h1t, h2t, h3t, h4t, h5t⟩ := hst.2 d9 l9 (Xs v9) h9b
    refine sq_aload hx hb d_P_makeProof_51 (lv_at hl 0 rfl) ?_
    refine st_topq (show rr 1 v9 = some (ca d9) from h9a) ?_
    refine gf_P_36 (v := .int (nI l9)) hx hb hT hown hK hP (qt + 18) ((wC_tl tk ad u3 rr tl qt).trans h1t) rfl d_P_makeProof_53 ?_
    refine lv_iconst (v := nI 1) hx hb d_P_makeProof_56 (by decide) ?_
    refine st_iadd hx hb d_P_makeProof_57 ?_
    refine k_callv (va_runV (As := [.int (nI (l9 + 1))]) (rest := []) ⟨hx, hb, hml, hown, hts⟩ (c_B_appendByte l D tk H.size ad u3 rr tl ([nI (wyL 5 0 n9 v9).length &&& nI 255] ++ bi (fun v => rt (Xs v)) (wyL 5 0 n9 v9)) hB3 (by simp only [List.length_nil, List.length_append, List.length_singleton, bi_len]; omega) (nI (l9 + 1))) (cwV 1 hts (gV t_830 t_831 t_832 t_7 t_833) rfl rfl rfl (by decide +kernel) ⟨Nat.le_of_ble_eq_true rfl, Nat.le_of_ble_eq_true rfl⟩) (k_preV hP hK hD hnw 13 rfl rfl) rfl rfl hl.1 rfl (lv_room (Nat.le_of_ble_eq_true rfl)) d_P_makeProof_58 hc0) hD hS hA (fun _ H locs hp58 hP hD hK hS => ?_)
    replace hP : va_P D CC (wC tk ad (apC 8 9 u3 ([nI (wyL 5 0 n9 v9).length &&& nI 255] ++ bi (fun v => rt (Xs v)) (wyL 5 0 n9 v9)).length (nI (l9 + 1)) 1) rr ++ tl) H := hP
    replace hD : va_D A (wC tk ad (apC 8 9 u3 ([nI (wyL 5 0 n9 v9).length &&& nI 255] ++ bi (fun v => rt (Xs v)) (wyL 5 0 n9 v9)).length (nI (l9 + 1)) 1) rr ++ tl) := hD
    have hB4 : prfC (apC 8 9 u3 ([nI (wyL 5 0 n9 v9).length &&& nI 255] ++ bi (fun v => rt (Xs v)) (wyL 5 0 n9 v9)).length (nI (l9 + 1)) 1) (([nI (wyL 5 0 n9 v9).length &&& nI 255] ++ bi (fun v => rt (Xs v)) (wyL 5 0 n9 v9)) ++ [(nI (l9 + 1)) &&& nI 255]) := prfC_b hB3 (nI (l9 + 1))
    have hF4 : frx [8, 9] g (apC 8 9 u3 ([nI (wyL 5 0 n9 v9).length &&& nI 255] ++ bi (fun v => rt (Xs v)) (wyL 5 0 n9 v9)).length (nI (l9 + 1)) 1) := apC_fr 8 9 g _ _ _ _ hF3
    generalize (apC 8 9 u3 ([nI (wyL 5 0 n9 v9).length &&& nI 255] ++ bi (fun v => rt (Xs v)) (wyL 5 0 n9 v9)).length (nI (l9 + 1)) 1) = u4 at hP hD hB4 hF4
    replace hP : va_P D CC (wC tk ad u4 rr ++ tl) H := hP
    replace hD : va_D A (wC tk ad u4 rr ++ tl) := hD
    refine sq_aload hx hb d_P_makeProof_61 (lv_at hl 0 rfl) ?_
    refine sq_astore (lv' := [(6, va_rf (rr 1 v9)), (5, va_rf (rr 1 v9)), (0, .ref (ad 12)), (1, .ref (ad 3)), (2, .int (nI n9)), (3, .int (nI v9)), (4, .int (nI key))]) hx hb d_P_makeProof_63 hl (by decide) (by generalize rr 1 v9 = z9; cases z9 <;> rfl) (fun ls hl => ?_)
    have key65 : ∀ (n65 : Nat) (cur : Option Nat) (u : Nat → Nat → Int32) (Bq : List Int32) (n8 : Nat) (ls : Array Slot) (H : Heap) (locs : List Loc), n8 < n65 → (mpS S ca (Xs v9) key cur n8) → (frx [8, 9] g u) → (prfC u Bq) → (Bq ++ lvB key (Xs v9) n8 = prB (fun v => rt (Xs v)) n9 v9 key (Xs v9)) → lv_has ls 7 [(0, .ref (ad 12)), (1, .ref (ad 3)), (2, .int (nI n9)), (3, .int (nI v9)), (4, .int (nI key)), (6, va_rf cur)] → va_P D CC (wC tk ad u rr ++ tl) H → va_D A (wC tk ad u rr ++ tl) → va_S A s.heap H locs → W p l e ({ frames := 11, cells := 0, slots := 0, locals := 262 } : Room) s m args below meth c H locs 0 0 Q (F0 m 65 ls []) := by
      intro n65
      induction n65 with
      | zero => intro cur u Bq n8 ls H locs hn; exact absurd hn (Nat.not_lt_zero _)
      | succ n65 ih65 =>
        intro cur u Bq n8 ls H locs hn65 hcur hFi hBq htot hl hP hD hS
        refine sq_aload hx hb d_P_makeProof_65 (lv_at hl 5 rfl) ?_
        refine sq_ifnull (r := cur) hx hb d_P_makeProof_67 (tgt := 88) (by decide) (fun hc67 => ?_) (fun hc67 => ?_)
        · skip
          exact k_vret hQ hx hb hr hlk hK hP hD hS u rfl (⟨hFi, mp_end hcur hc67 htot hBq⟩) d_P_makeProof_88
        · skip
          obtain ⟨c9, l8, h8a, h8b, h8c⟩ := hcur.resolve_left (fun q => hc67 q.1)
          subst h8a
          have hX2 := mp_nz hst.1 h8b
          obtain ⟨q9z, ka9z, va9z, ba9z, fk9z, fv9z, h19z, h29z, h39z, h49z, h59z⟩ := hst.2 c9 l8 _ h8b
          replace hl : lv_has ls 7 [(0, .ref (ad 12)), (1, .ref (ad 3)), (2, .int (nI n9)), (3, .int (nI v9)), (4, .int (nI key)), (6, .ref (ca c9))] := hl
          refine lv_aload_n hx hb d_P_makeProof_70 rfl (lv_at hl 0 rfl) ?_
          refine lv_aload hx hb d_P_makeProof_71 (lv_at hl 5 rfl) ?_
          refine k_callv (va_runV (As := [.ref (ca c9)]) (rest := []) ⟨hx, hb, hml, hown, hts⟩ (c_P_addChunk l D tk H.size ad u rr tl (ca c9) l8 (im l8 (pc_ key (pa l8 (Xs v9)))) (bl c9) _ (hst.2 c9 l8 _ h8b) (im_l48 (hst.1.2.2 c9 l8 _ h8b).1) (im_key (hst.1.2.2 c9 l8 _ h8b).1) Bq hBq (lv_room9 (n := n9) (v := v9) (hh v9 (by omega)).1 (by omega) (by rw [h8c] at htot; exact htot))) (cwV 1 hts (gV t_849 t_851 s_7 t_6 t_852) rfl rfl rfl (by decide +kernel) ⟨Nat.le_of_ble_eq_true rfl, Nat.le_of_ble_eq_true rfl⟩) (k_preV hP hK hD hnw 12 rfl rfl) rfl rfl hl.1 rfl (lv_room (Nat.le_of_ble_eq_true rfl)) d_P_makeProof_73 hc0) hD hS hA (fun u5 H locs hw5 hP hD hK hS => ?_)
          have hF5 : frx [8, 9] g u5 := frx_t hFi hw5.1 (fun x h9 => ⟨h9, h9⟩)
          have hB5 : prfC u5 (Bq ++ ([nI (im l8 (pc_ key (pa l8 (Xs v9)))).length &&& nI 255] ++ ckL (im l8 (pc_ key (pa l8 (Xs v9)))))) := hw5.2
          replace hP : va_P D CC (wC tk ad u5 rr ++ tl) H := hP
          replace hD : va_D A (wC tk ad u5 rr ++ tl) := hD
          refine lv_aload hx hb d_P_makeProof_76 (lv_at hl 5 rfl) ?_
          refine lv_iload hx hb d_P_makeProof_78 (lv_at hl 4 rfl) ?_
          refine k_callq (va_runV (As := [.int (nI key)]) (rest := []) ⟨hx, hb, hml, hown, hts⟩ (c_C_under l D tk H.size (wC tk ad u5 rr ++ tl) (ca c9) l8 (im l8 (pc_ key (pa l8 (Xs v9)))) (bl c9) _ (cAt_C (hst.2 c9 l8 _ h8b)) (im_nn (hst.1.2.2 c9 l8 _ h8b).2.1) (im_l48 (hst.1.2.2 c9 l8 _ h8b).1) (im_key (hst.1.2.2 c9 l8 _ h8b).1) key hkey) (cwV 1 hts (gV t_853 t_217 t_218 t_15 t_219) rfl rfl rfl (by decide +kernel) ⟨Nat.le_of_ble_eq_true rfl, Nat.le_of_ble_eq_true rfl⟩) (k_preV hP hK hD hnw (q9z + 18) ((wC_tl tk ad u5 rr tl q9z).trans h19z) rfl) rfl rfl hl.1 rfl (lv_room (Nat.le_of_ble_eq_true rfl)) d_P_makeProof_80 hc0) hD hS hA (fun _ _ H locs hp80 hP hD hK hS => ?_)
          subst hp80
          replace hP : va_P D CC (wC tk ad u5 rr ++ tl) H := hP
          replace hD : va_D A (wC tk ad u5 rr ++ tl) := hD
          refine sq_astore (lv' := [(6, va_rf (bl c9 (pf key (im l8 (pc_ key (pa l8 (Xs v9))))))), (0, .ref (ad 12)), (1, .ref (ad 3)), (2, .int (nI n9)), (3, .int (nI v9)), (4, .int (nI key))]) hx hb d_P_makeProof_83 hl (by decide) rfl (fun ls hl => ?_)
          refine lv_goto hx hb d_P_makeProof_85 (tgt := 65) (by decide) ?_
          exact ih65 (bl c9 (pf key (im l8 (pc_ key (pa l8 (Xs v9)))))) u5 (Bq ++ ([nI (im l8 (pc_ key (pa l8 (Xs v9)))).length &&& nI 255] ++ ckL (im l8 (pc_ key (pa l8 (Xs v9)))))) l8 ls _ _ (by omega) (mpS_step hst.1 (hh v9 (by omega)).1 hX2 h8b) hF5 hB5 (by rw [h8c, lvB, ← List.append_assoc] at htot; exact htot) (lv_sub hl [1, 2, 3, 4, 5, 0] rfl) hP hD hS
    exact key65 _ (rr 1 v9) u4 (([nI (wyL 5 0 n9 v9).length &&& nI 255] ++ bi (fun v => rt (Xs v)) (wyL 5 0 n9 v9)) ++ [(nI (l9 + 1)) &&& nI 255]) (l9 + 1) ls _ _ (Nat.lt_succ_self _) (by rw [h9a]; exact mpS_init hst.1 (hh v9 (by omega)).1 key h9b) hF4 hB4 (by unfold prB; rw [← h9c]) (lv_sub hl [2, 3, 4, 5, 6, 0] rfl) hP hD hS
  · skip
    have hXn := tOf_none (hh v9 (by omega)).2 hc44
    refine lv_iconst (v := nI 0) hx hb d_P_makeProof_47 (by decide) ?_
    refine lv_goto hx hb d_P_makeProof_48 (tgt := 58) (by decide) ?_
    refine k_callv (va_runV (As := [.int (nI 0)]) (rest := []) ⟨hx, hb, hml, hown, hts⟩ (c_B_appendByte l D tk H.size ad u3 rr tl ([nI (wyL 5 0 n9 v9).length &&& nI 255] ++ bi (fun v => rt (Xs v)) (wyL 5 0 n9 v9)) hB3 (by simp only [List.length_nil, List.length_append, List.length_singleton, bi_len]; omega) (nI 0)) (cwV 1 hts (gV t_830 t_831 t_832 t_7 t_833) rfl rfl rfl (by decide +kernel) ⟨Nat.le_of_ble_eq_true rfl, Nat.le_of_ble_eq_true rfl⟩) (k_preV hP hK hD hnw 13 rfl rfl) rfl rfl hl.1 rfl (lv_room (Nat.le_of_ble_eq_true rfl)) d_P_makeProof_58 hc0) hD hS hA (fun _ H locs hp58 hP hD hK hS => ?_)
    replace hP : va_P D CC (wC tk ad (apC 8 9 u3 ([nI (wyL 5 0 n9 v9).length &&& nI 255] ++ bi (fun v => rt (Xs v)) (wyL 5 0 n9 v9)).length (nI 0) 1) rr ++ tl) H := hP
    replace hD : va_D A (wC tk ad (apC 8 9 u3 ([nI (wyL 5 0 n9 v9).length &&& nI 255] ++ bi (fun v => rt (Xs v)) (wyL 5 0 n9 v9)).length (nI 0) 1) rr ++ tl) := hD
    have hB6 : prfC (apC 8 9 u3 ([nI (wyL 5 0 n9 v9).length &&& nI 255] ++ bi (fun v => rt (Xs v)) (wyL 5 0 n9 v9)).length (nI 0) 1) (([nI (wyL 5 0 n9 v9).length &&& nI 255] ++ bi (fun v => rt (Xs v)) (wyL 5 0 n9 v9)) ++ [(nI 0) &&& nI 255]) := prfC_b hB3 (nI 0)
    have hF6 : frx [8, 9] g (apC 8 9 u3 ([nI (wyL 5 0 n9 v9).length &&& nI 255] ++ bi (fun v => rt (Xs v)) (wyL 5 0 n9 v9)).length (nI 0) 1) := apC_fr 8 9 g _ _ _ _ hF3
    generalize (apC 8 9 u3 ([nI (wyL 5 0 n9 v9).length &&& nI 255] ++ bi (fun v => rt (Xs v)) (wyL 5 0 n9 v9)).length (nI 0) 1) = u6 at hP hD hB6 hF6
    replace hP : va_P D CC (wC tk ad u6 rr ++ tl) H := hP
    replace hD : va_D A (wC tk ad u6 rr ++ tl) := hD
    refine sq_aload hx hb d_P_makeProof_61 (lv_at hl 0 rfl) ?_
    refine sq_astore (lv' := [(6, va_rf (rr 1 v9)), (5, va_rf (rr 1 v9)), (0, .ref (ad 12)), (1, .ref (ad 3)), (2, .int (nI n9)), (3, .int (nI v9)), (4, .int (nI key))]) hx hb d_P_makeProof_63 hl (by decide) (by generalize rr 1 v9 = z9; cases z9 <;> rfl) (fun ls hl => ?_)
    have key65 : ∀ (n65 : Nat) (cur : Option Nat) (u : Nat → Nat → Int32) (Bq : List Int32) (n8 : Nat) (ls : Array Slot) (H : Heap) (locs : List Loc), n8 < n65 → (mpS S ca (Xs v9) key cur n8) → (frx [8, 9] g u) → (prfC u Bq) → (Bq ++ lvB key (Xs v9) n8 = prB (fun v => rt (Xs v)) n9 v9 key (Xs v9)) → lv_has ls 7 [(0, .ref (ad 12)), (1, .ref (ad 3)), (2, .int (nI n9)), (3, .int (nI v9)), (4, .int (nI key)), (6, va_rf cur)] → va_P D CC (wC tk ad u rr ++ tl) H → va_D A (wC tk ad u rr ++ tl) → va_S A s.heap H locs → W p l e ({ frames := 11, cells := 0, slots := 0, locals := 262 } : Room) s m args below meth c H locs 0 0 Q (F0 m 65 ls []) := by
      intro n65
      induction n65 with
      | zero => intro cur u Bq n8 ls H locs hn; exact absurd hn (Nat.not_lt_zero _)
      | succ n65 ih65 =>
        intro cur u Bq n8 ls H locs hn65 hcur hFi hBq htot hl hP hD hS
        refine sq_aload hx hb d_P_makeProof_65 (lv_at hl 5 rfl) ?_
        refine sq_ifnull (r := cur) hx hb d_P_makeProof_67 (tgt := 88) (by decide) (fun hc67 => ?_) (fun hc67 => ?_)
        · skip
          exact k_vret hQ hx hb hr hlk hK hP hD hS u rfl (⟨hFi, mp_end hcur hc67 htot hBq⟩) d_P_makeProof_88
        · skip
          obtain ⟨c9, l8, h8a, h8b, h8c⟩ := hcur.resolve_left (fun q => hc67 q.1)
          subst h8a
          have hX2 := mp_nz hst.1 h8b
          obtain ⟨q9z, ka9z, va9z, ba9z, fk9z, fv9z, h19z, h29z, h39z, h49z, h59z⟩ := hst.2 c9 l8 _ h8b
          replace hl : lv_has ls 7 [(0, .ref (ad 12)), (1, .ref (ad 3)), (2, .int (nI n9)), (3, .int (nI v9)), (4, .int (nI key)), (6, .ref (ca c9))] := hl
          refine lv_aload_n hx hb d_P_makeProof_70 rfl (lv_at hl 0 rfl) ?_
          refine lv_aload hx hb d_P_makeProof_71 (lv_at hl 5 rfl) ?_
          refine k_callv (va_runV (As := [.ref (ca c9)]) (rest := []) ⟨hx, hb, hml, hown, hts⟩ (c_P_addChunk l D tk H.size ad u rr tl (ca c9) l8 (im l8 (pc_ key (pa l8 (Xs v9)))) (bl c9) _ (hst.2 c9 l8 _ h8b) (im_l48 (hst.1.2.2 c9 l8 _ h8b).1) (im_key (hst.1.2.2 c9 l8 _ h8b).1) Bq hBq (lv_room9 (n := n9) (v := v9) (hh v9 (by omega)).1 (by omega) (by rw [h8c] at htot; exact htot))) (cwV 1 hts (gV t_849 t_851 s_7 t_6 t_852) rfl rfl rfl (by decide +kernel) ⟨Nat.le_of_ble_eq_true rfl, Nat.le_of_ble_eq_true rfl⟩) (k_preV hP hK hD hnw 12 rfl rfl) rfl rfl hl.1 rfl (lv_room (Nat.le_of_ble_eq_true rfl)) d_P_makeProof_73 hc0) hD hS hA (fun u7 H locs hw7 hP hD hK hS => ?_)
          have hF7 : frx [8, 9] g u7 := frx_t hFi hw7.1 (fun x h9 => ⟨h9, h9⟩)
          have hB7 : prfC u7 (Bq ++ ([nI (im l8 (pc_ key (pa l8 (Xs v9)))).length &&& nI 255] ++ ckL (im l8 (pc_ key (pa l8 (Xs v9)))))) := hw7.2
          replace hP : va_P D CC (wC tk ad u7 rr ++ tl) H := hP
          replace hD : va_D A (wC tk ad u7 rr ++ tl) := hD
          refine lv_aload hx hb d_P_makeProof_76 (lv_at hl 5 rfl) ?_
          refine lv_iload hx hb d_P_makeProof_78 (lv_at hl 4 rfl) ?_
          refine k_callq (va_runV (As := [.int (nI key)]) (rest := []) ⟨hx, hb, hml, hown, hts⟩ (c_C_under l D tk H.size (wC tk ad u7 rr ++ tl) (ca c9) l8 (im l8 (pc_ key (pa l8 (Xs v9)))) (bl c9) _ (cAt_C (hst.2 c9 l8 _ h8b)) (im_nn (hst.1.2.2 c9 l8 _ h8b).2.1) (im_l48 (hst.1.2.2 c9 l8 _ h8b).1) (im_key (hst.1.2.2 c9 l8 _ h8b).1) key hkey) (cwV 1 hts (gV t_853 t_217 t_218 t_15 t_219) rfl rfl rfl (by decide +kernel) ⟨Nat.le_of_ble_eq_true rfl, Nat.le_of_ble_eq_true rfl⟩) (k_preV hP hK hD hnw (q9z + 18) ((wC_tl tk ad u7 rr tl q9z).trans h19z) rfl) rfl rfl hl.1 rfl (lv_room (Nat.le_of_ble_eq_true rfl)) d_P_makeProof_80 hc0) hD hS hA (fun _ _ H locs hp80 hP hD hK hS => ?_)
          subst hp80
          replace hP : va_P D CC (wC tk ad u7 rr ++ tl) H := hP
          replace hD : va_D A (wC tk ad u7 rr ++ tl) := hD
          refine sq_astore (lv' := [(6, va_rf (bl c9 (pf key (im l8 (pc_ key (pa l8 (Xs v9))))))), (0, .ref (ad 12)), (1, .ref (ad 3)), (2, .int (nI n9)), (3, .int (nI v9)), (4, .int (nI key))]) hx hb d_P_makeProof_83 hl (by decide) rfl (fun ls hl => ?_)
          refine lv_goto hx hb d_P_makeProof_85 (tgt := 65) (by decide) ?_
          exact ih65 (bl c9 (pf key (im l8 (pc_ key (pa l8 (Xs v9)))))) u7 (Bq ++ ([nI (im l8 (pc_ key (pa l8 (Xs v9)))).length &&& nI 255] ++ ckL (im l8 (pc_ key (pa l8 (Xs v9)))))) l8 ls _ _ (by omega) (mpS_step hst.1 (hh v9 (by omega)).1 hX2 h8b) hF7 hB7 (by rw [h8c, lvB, ← List.append_assoc] at htot; exact htot) (lv_sub hl [1, 2, 3, 4, 5, 0] rfl) hP hD hS
    exact key65 _ (rr 1 v9) u6 (([nI (wyL 5 0 n9 v9).length &&& nI 255] ++ bi (fun v => rt (Xs v)) (wyL 5 0 n9 v9)) ++ [(nI 0) &&& nI 255]) 0 ls _ _ (Nat.lt_succ_self _) (Or.inl ⟨hc44, rfl⟩) hF6 hB6 (by rw [lvB, List.append_nil]; unfold prB; rw [hg_nil hXn, lvB, List.append_nil]) (lv_sub hl [2, 3, 4, 5, 6, 0] rfl) hP hD hS
