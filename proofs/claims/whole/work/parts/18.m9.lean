theorem sd_bs {g : Nat → Nat → Int32} {L : List (Nat × Nat × Bool)} (h : bs g L) (f k : Nat) (z : Bool) : bs (sdM g L.length f k (b1_ z)) (L ++ [(f, k, z)]) := by
  obtain ⟨h1, h2⟩ := h
  have e18 : sdM g L.length f k (b1_ z) 18 = upd (g 18) L.length (nI f) := by unfold sdM; rw [mup_ne (by decide), mup_ne (by decide), mup_ne (by decide), mup_eq]
  have e19 : sdM g L.length f k (b1_ z) 19 = upd (g 19) L.length (nI k) := by unfold sdM; rw [mup_ne (by decide), mup_ne (by decide), mup_eq, mup_ne (by decide)]
  have e20 : sdM g L.length f k (b1_ z) 20 = upd (g 20) L.length (b1_ z) := by unfold sdM; rw [mup_ne (by decide), mup_eq, mup_ne (by decide), mup_ne (by decide)]
  refine ⟨?_, fun i x hx => ?_⟩
  · rw [List.length_append, List.length_singleton]
    unfold sdM
    rw [mup_eq]
    exact if_pos rfl
  · rw [e18, e19, e20]
    by_cases hi : i < L.length
    · rw [List.getElem?_append_left hi] at hx
      have hne : ¬ i = L.length := by omega
      obtain ⟨q1, q2, q3⟩ := h2 i x hx
      exact ⟨(if_neg hne).trans q1, (if_neg hne).trans q2, (if_neg hne).trans q3⟩
    · rw [List.getElem?_append_right (by omega)] at hx
      have q1 : i - L.length < 1 := (List.getElem?_eq_some_iff.mp hx).1
      have q2 : i = L.length := by omega
      subst q2
      rw [Nat.sub_self] at hx
      cases hx
      exact ⟨if_pos rfl, if_pos rfl, if_pos rfl⟩
theorem sdL_bs : ∀ (L L0 : List (Nat × Nat × Bool)) (g : Nat → Nat → Int32), bs g L0 → bs (sdL g L0.length L) (L0 ++ L) := by
  intro L
  induction L with
  | nil => intro L0 g h; rw [List.append_nil]; exact h
  | cons x L ih =>
    intro L0 g h
    have h2 := ih (L0 ++ [(x.1, x.2.1, x.2.2)]) _ (sd_bs h x.1 x.2.1 x.2.2)
    rw [List.length_append, List.length_singleton, List.append_assoc] at h2
    exact h2
theorem bs_way (g : Nat → Nat → Int32) (L : List (Nat × Nat × Bool)) : bs (sdL (mup g 17 0 (nI 0)) 0 L) L := sdL_bs L [] _ ⟨by rw [mup_eq]; exact if_pos rfl, fun i x hx => by simp at hx⟩
theorem sdM_fr (g : Nat → Nat → Int32) (b f k : Nat) (z : Int32) : frx [17, 18, 19, 20] g (sdM g b f k z) := fun x hx => by
  simp only [List.mem_cons, List.not_mem_nil, or_false, not_or] at hx
  unfold sdM
  rw [mup_ne hx.1, mup_ne hx.2.2.2, mup_ne hx.2.2.1, mup_ne hx.2.1]
theorem sdL_fr : ∀ (L : List (Nat × Nat × Bool)) (b : Nat) (g : Nat → Nat → Int32), frx [17, 18, 19, 20] g (sdL g b L) := by
  intro L
  induction L with
  | nil => intro b g; exact frx_r
  | cons x L ih => intro b g; exact frx_t (sdM_fr g b _ _ _) (ih _ _) (fun x h => ⟨h, h⟩)
theorem wy_fr (g : Nat → Nat → Int32) (L : List (Nat × Nat × Bool)) : frx [17, 18, 19, 20] g (sdL (mup g 17 0 (nI 0)) 0 L) := frx_t (L := [17]) frx_m (sdL_fr L 0 _) (fun x h => ⟨fun q => h (by simp at q ⊢; omega), h⟩)
theorem gr_ok9 : ∀ n, n < 17 → ∀ m, m < 17 → 1 ≤ m → m ≤ n → (grL 5 0 n m).length ≤ 5 ∧ ∀ x ∈ grL 5 0 n m, x.1 + x.2.1 ≤ 16 := by decide +kernel
theorem wy_ok9 : ∀ n, n < 17 → ∀ v, v < 16 → v < n → (wyL 5 0 n v).length ≤ 5 ∧ ∀ x ∈ wyL 5 0 n v, x.1 + x.2.1 ≤ 16 := by decide +kernel
theorem gr_args {m n : Int32} {V : Nat} (hV : V ≤ 16) (h1 : ¬ m < nI 1) (h2 : ¬ n ≤ m) (h3 : n ≤ nI V) : ∃ m' n' : Nat, 1 ≤ m' ∧ m' < n' ∧ n' ≤ V ∧ m = nI m' ∧ n = nI n' := by
  rw [Int32.lt_iff_toInt_lt, nI_toInt (by omega)] at h1
  rw [Int32.le_iff_toInt_le] at h2 h3
  rw [nI_toInt (by omega)] at h3
  have e0 : (0 : Int32).toInt = 0 := by decide
  obtain ⟨m', hm', em⟩ := nI_of (x := m) (by rw [Int32.lt_iff_toInt_lt, e0]; omega)
  obtain ⟨n', hn', en'⟩ := nI_of (x := n) (by rw [Int32.lt_iff_toInt_lt, e0]; omega)
  rw [em, nI_toInt hm'] at h1 h2
  rw [en', nI_toInt hn'] at h2 h3
  exact ⟨m', n', by omega, by omega, by omega, em, en'⟩
theorem gr_no {m' n' V : Nat} (hV : V ≤ 16) (h1 : 1 ≤ m') (h2 : m' < n') (h3 : n' ≤ V) : ¬ (nI m' < nI 1 ∨ nI n' ≤ nI m' ∨ ¬ nI n' ≤ nI V) := by
  rintro (q | q | q)
  · exact nI_nlt h1 (by omega) q
  · exact nI_ge h2 (by omega) q
  · exact q (nI_le h3 (by omega))

set_option maxHeartbeats 4000000 in
set_option maxRecDepth 100000 in
theorem c_M_proveGrowth (l : Launch) (D : va_G) (tk : Nat → ClassId) (sz : Nat) (h : Nat) (ad : Nat → Nat) (g : Nat → Nat → Int32) (la : Nat → Int64) (tl : va_W) (V : Nat) (hV1 : 1 ≤ V) (hV2 : V ≤ 16) (hV : g 3 0 = nI V) (ma na : Int32) : Met l y_M_proveGrowth w_M_proveGrowth ({ frames := 4, cells := 0, slots := 0, locals := 88 }) (va_Pc [.ref h, .int ma, .int na] (k_pre D (TY tk) sz (wM tk h ad g la ++ tl))) (va_Qi (fun (r : Int32) (u : Nat → Nat → Int32) => ((ma < nI 1 ∨ na ≤ ma ∨ ¬ na ≤ nI V) → r = 0 ∧ u = mup g 0 0 (nI 1)) ∧ ∀ m1 n1 : Nat, ma = nI m1 → na = nI n1 → 1 ≤ m1 → m1 < n1 → n1 ≤ V → prf u ([nI (grL 5 0 n1 m1).length &&& nI 255] ++ bi (g 4) (grL 5 0 n1 m1)) ∧ r = nI (1 + 4 * (grL 5 0 n1 m1).length) ∧ u 0 0 = nI 0 ∧ frx [0, 15, 16, 17, 18, 19, 20, 21, 22] g u) (fun u t => k_at D (TY tk) (va_A (wM tk h ad g la ++ tl) sz) ((fun u => wM tk h ad u la ++ tl) u) t) (va_A (wM tk h ad g la ++ tl) sz)) 0 0 (va_A (wM tk h ad g la ++ tl) sz) := by
  refine k_ofW (fun A => va_Qi (fun (r : Int32) (u : Nat → Nat → Int32) => ((ma < nI 1 ∨ na ≤ ma ∨ ¬ na ≤ nI V) → r = 0 ∧ u = mup g 0 0 (nI 1)) ∧ ∀ m1 n1 : Nat, ma = nI m1 → na = nI n1 → 1 ≤ m1 → m1 < n1 → n1 ≤ V → prf u ([nI (grL 5 0 n1 m1).length &&& nI 255] ++ bi (g 4) (grL 5 0 n1 m1)) ∧ r = nI (1 + 4 * (grL 5 0 n1 m1).length) ∧ u 0 0 = nI 0 ∧ frx [0, 15, 16, 17, 18, 19, 20, 21, 22] g u) (fun u t => k_at D (TY tk) A ((fun u => wM tk h ad u la ++ tl) u) t) A) (by decide) (Nat.le_of_ble_eq_true rfl) ?_
  intro p e s m args below meth c Q A ls hQ hx hb hr hlk hin hts hT hown hml hnw hP hK hD hA hsz hl
  have hS : va_S A s.heap s.heap [] := va_S.rf
  have hc0 : 0 + 0 ≤ 0 ∧ 0 + 0 ≤ 0 := ⟨by decide, by decide⟩
  replace hl : lv_has ls 3 [(0, .ref h), (1, .int ma), (2, .int na)] := hl
  replace hP : va_P D CC (wM tk h ad g la ++ tl) s.heap := hP
  replace hK : va_K D CC (TY tk) s := hK
  refine lv_iload_n hx hb d_M_proveGrowth_0 rfl (lv_at hl 1 rfl) ?_
  refine lv_iconst (v := nI 1) hx hb d_M_proveGrowth_1 (by decide) ?_
  refine lv_icmp_lt hx hb d_M_proveGrowth_2 (tgt := 18) (by decide) (fun hc2 => ?_) (fun hc2 => ?_)
  · skip
    refine lv_aload_n hx hb d_M_proveGrowth_18 rfl (lv_at hl 0 rfl) ?_
    refine lv_iconst (v := nI 1) hx hb d_M_proveGrowth_19 (by decide) ?_
    refine k_calli (va_runV (As := [.int (nI 1)]) (rest := []) ⟨hx, hb, hml, hown, hts⟩ (c_M_refuse l D tk s.heap.size h ad g la tl (nI 1) ) (cwV 1 hts (gV t_1060 t_1062 s_17 t_9 t_1063) rfl rfl rfl (by decide +kernel) ⟨Nat.le_of_ble_eq_true rfl, Nat.le_of_ble_eq_true rfl⟩) (k_preV hP hK hD hnw 0 rfl rfl) rfl rfl hl.1 rfl (lv_room (Nat.le_of_ble_eq_true rfl)) d_M_proveGrowth_20 hc0) hD hS hA (fun _ _ H locs hp20 hP hD hK hS => ?_)
    subst hp20
    replace hP : va_P D CC (wM tk h ad (mup g 0 0 (nI 1)) la ++ tl) H := hP
    replace hD : va_D A (wM tk h ad (mup g 0 0 (nI 1)) la ++ tl) := hD
    exact k_iret (v := 0) hQ hx hb hr hlk hK hP hD hS (mup g 0 0 (nI 1)) rfl (⟨fun _ => ⟨rfl, rfl⟩, fun m1 n1 e1 e2 q1 q2 q3 => absurd (show (ma < nI 1 ∨ na ≤ ma ∨ ¬ na ≤ nI V) from by first | (left; assumption) | (right; left; assumption) | (right; right; assumption)) (by rw [e1, e2]; exact gr_no hV2 q1 q2 q3)⟩) d_M_proveGrowth_23
  · skip
    refine lv_iload_n hx hb d_M_proveGrowth_5 rfl (lv_at hl 1 rfl) ?_
    refine lv_iload_n hx hb d_M_proveGrowth_6 rfl (lv_at hl 2 rfl) ?_
    refine lv_icmp_ge hx hb d_M_proveGrowth_7 (tgt := 18) (by decide) (fun hc7 => ?_) (fun hc7 => ?_)
    · skip
      refine lv_aload_n hx hb d_M_proveGrowth_18 rfl (lv_at hl 0 rfl) ?_
      refine lv_iconst (v := nI 1) hx hb d_M_proveGrowth_19 (by decide) ?_
      refine k_calli (va_runV (As := [.int (nI 1)]) (rest := []) ⟨hx, hb, hml, hown, hts⟩ (c_M_refuse l D tk s.heap.size h ad g la tl (nI 1) ) (cwV 1 hts (gV t_1060 t_1062 s_17 t_9 t_1063) rfl rfl rfl (by decide +kernel) ⟨Nat.le_of_ble_eq_true rfl, Nat.le_of_ble_eq_true rfl⟩) (k_preV hP hK hD hnw 0 rfl rfl) rfl rfl hl.1 rfl (lv_room (Nat.le_of_ble_eq_true rfl)) d_M_proveGrowth_20 hc0) hD hS hA (fun _ _ H locs hp20 hP hD hK hS => ?_)
      subst hp20
      replace hP : va_P D CC (wM tk h ad (mup g 0 0 (nI 1)) la ++ tl) H := hP
      replace hD : va_D A (wM tk h ad (mup g 0 0 (nI 1)) la ++ tl) := hD
      exact k_iret (v := 0) hQ hx hb hr hlk hK hP hD hS (mup g 0 0 (nI 1)) rfl (⟨fun _ => ⟨rfl, rfl⟩, fun m1 n1 e1 e2 q1 q2 q3 => absurd (show (ma < nI 1 ∨ na ≤ ma ∨ ¬ na ≤ nI V) from by first | (left; assumption) | (right; left; assumption) | (right; right; assumption)) (by rw [e1, e2]; exact gr_no hV2 q1 q2 q3)⟩) d_M_proveGrowth_23
    · skip
      refine lv_iload_n hx hb d_M_proveGrowth_10 rfl (lv_at hl 2 rfl) ?_
      refine lv_aload_n hx hb d_M_proveGrowth_11 rfl (lv_at hl 0 rfl) ?_
      refine gf_M_69 (v := .int (g 3 0)) hx hb hT hown hK hP 0 rfl rfl d_M_proveGrowth_12 ?_
      refine st_top (show g 3 0 = nI V from hV) ?_
      refine lv_icmp_le hx hb d_M_proveGrowth_15 (tgt := 24) (by decide) (fun hc15 => ?_) (fun hc15 => ?_)
      · skip
        obtain ⟨a1, a2, h1, h2, h3, rfl, rfl⟩ := gr_args hV2 hc2 hc7 hc15
        have hgk := gr_ok9 a2 (by omega) a1 (by omega) h1 (by omega)
        refine lv_aload_n hx hb d_M_proveGrowth_24 rfl (lv_at hl 0 rfl) ?_
        refine lv_iconst (v := nI 0) hx hb d_M_proveGrowth_25 (by decide) ?_
        refine pf_M_73 hx hb hT hown hK hP hD hS 0 rfl (Nat.le_of_ble_eq_true rfl) d_M_proveGrowth_26 (fun H locs hP hD hS => ?_)
        replace hP : va_P D CC (wM tk h ad (mup g 0 0 (nI 0)) la ++ tl) H := Eq.mp (congrArg (fun w => va_P D CC w H) (sM_0 tk h ad g la tl (nI 0))) hP
        replace hD : va_D A (wM tk h ad (mup g 0 0 (nI 0)) la ++ tl) := Eq.mp (congrArg (fun w => va_D A w) (sM_0 tk h ad g la tl (nI 0))) hD
        refine lv_aload_n hx hb d_M_proveGrowth_29 rfl (lv_at hl 0 rfl) ?_
        refine lv_iload_n hx hb d_M_proveGrowth_30 rfl (lv_at hl 1 rfl) ?_
        refine lv_iload_n hx hb d_M_proveGrowth_31 rfl (lv_at hl 2 rfl) ?_
        refine k_calli (va_runV (As := [.int (nI a1), .int (nI a2)]) (rest := []) ⟨hx, hb, hml, hown, hts⟩ (c_M_growth l D tk H.size h ad (mup g 0 0 (nI 0)) la tl a1 a2 (by omega) (by omega) (by omega)) (cwV 2 hts (gV t_1191 t_1193 s_36 t_9 t_1194) rfl rfl rfl (by decide +kernel) ⟨Nat.le_of_ble_eq_true rfl, Nat.le_of_ble_eq_true rfl⟩) (k_preV hP hK hD hnw 0 rfl rfl) rfl rfl hl.1 rfl (lv_room (Nat.le_of_ble_eq_true rfl)) d_M_proveGrowth_32 hc0) hD hS hA (fun _ _ H locs hp32 hP hD hK hS => ?_)
        subst hp32
        replace hP : va_P D CC (wM tk h ad (sdL (mup (mup g 0 0 (nI 0)) 17 0 (nI 0)) 0 (grL 5 0 a2 a1)) la ++ tl) H := hP
        replace hD : va_D A (wM tk h ad (sdL (mup (mup g 0 0 (nI 0)) 17 0 (nI 0)) 0 (grL 5 0 a2 a1)) la ++ tl) := hD
        refine lv_pop hx hb d_M_proveGrowth_35 rfl ?_
        refine lv_aload_n hx hb d_M_proveGrowth_36 rfl (lv_at hl 0 rfl) ?_
        refine k_callv (va_runV (As := []) (rest := []) ⟨hx, hb, hml, hown, hts⟩ (c_M_outBeside l D tk H.size h ad (sdL (mup (mup g 0 0 (nI 0)) 17 0 (nI 0)) 0 (grL 5 0 a2 a1)) la tl (grL 5 0 a2 a1) (bs_way _ _) hgk.1 hgk.2) (cwV 0 hts (gV t_1164 t_1166 s_31 t_9 t_1167) rfl rfl rfl (by decide +kernel) ⟨Nat.le_of_ble_eq_true rfl, Nat.le_of_ble_eq_true rfl⟩) (k_preV hP hK hD hnw 0 rfl rfl) rfl rfl hl.1 rfl (lv_room (Nat.le_of_ble_eq_true rfl)) d_M_proveGrowth_37 hc0) hD hS hA (fun u37 H locs hp37 hP hD hK hS => ?_)
        obtain ⟨hpr37, hfo37⟩ := hp37
        replace hP : va_P D CC (wM tk h ad u37 la ++ tl) H := hP
        replace hD : va_D A (wM tk h ad u37 la ++ tl) := hD
        have hg4 : sdL (mup (mup g 0 0 (nI 0)) 17 0 (nI 0)) 0 (grL 5 0 a2 a1) 4 = g 4 := (wy_fr _ _ 4 (by decide)).trans (mup_ne (by decide))
        refine lv_aload_n hx hb d_M_proveGrowth_40 rfl (lv_at hl 0 rfl) ?_
        refine gf_M_165 (v := .int (u37 21 0)) hx hb hT hown hK hP 0 rfl rfl d_M_proveGrowth_41 ?_
        exact k_iret (v := u37 21 0) hQ hx hb hr hlk hK hP hD hS u37 rfl (⟨fun q => absurd q (gr_no hV2 h1 h2 h3), fun m1 n1 e1 e2 q1 q2 q3 => by obtain rfl := (nI_eq (by omega) (by omega)).mp e1; obtain rfl := (nI_eq (by omega) (by omega)).mp e2; exact ⟨by rw [← hg4]; exact hpr37, by rw [hpr37.1, List.length_append, bi_len, List.length_singleton], (congrFun (hfo37 0 (by decide)) 0).trans ((congrFun (wy_fr _ _ 0 (by decide)) 0).trans rd_eq), frx_t (frx_t (L := [0]) frx_m (wy_fr _ _) (M := [0, 17, 18, 19, 20]) (fun x h => ⟨fun q => h (by simp at q ⊢; omega), fun q => h (by simp at q ⊢; omega)⟩)) hfo37 (fun x h => ⟨fun q => h (by simp at q ⊢; omega), fun q => h (by simp at q ⊢; omega)⟩)⟩⟩) d_M_proveGrowth_44
      · skip
        refine lv_aload_n hx hb d_M_proveGrowth_18 rfl (lv_at hl 0 rfl) ?_
        refine lv_iconst (v := nI 1) hx hb d_M_proveGrowth_19 (by decide) ?_
        refine k_calli (va_runV (As := [.int (nI 1)]) (rest := []) ⟨hx, hb, hml, hown, hts⟩ (c_M_refuse l D tk s.heap.size h ad g la tl (nI 1) ) (cwV 1 hts (gV t_1060 t_1062 s_17 t_9 t_1063) rfl rfl rfl (by decide +kernel) ⟨Nat.le_of_ble_eq_true rfl, Nat.le_of_ble_eq_true rfl⟩) (k_preV hP hK hD hnw 0 rfl rfl) rfl rfl hl.1 rfl (lv_room (Nat.le_of_ble_eq_true rfl)) d_M_proveGrowth_20 hc0) hD hS hA (fun _ _ H locs hp20 hP hD hK hS => ?_)
        subst hp20
        replace hP : va_P D CC (wM tk h ad (mup g 0 0 (nI 1)) la ++ tl) H := hP
        replace hD : va_D A (wM tk h ad (mup g 0 0 (nI 1)) la ++ tl) := hD
        exact k_iret (v := 0) hQ hx hb hr hlk hK hP hD hS (mup g 0 0 (nI 1)) rfl (⟨fun _ => ⟨rfl, rfl⟩, fun m1 n1 e1 e2 q1 q2 q3 => absurd (show (ma < nI 1 ∨ na ≤ ma ∨ ¬ na ≤ nI V) from by first | (left; assumption) | (right; left; assumption) | (right; right; assumption)) (by rw [e1, e2]; exact gr_no hV2 q1 q2 q3)⟩) d_M_proveGrowth_23
