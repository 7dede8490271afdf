def byt (g : Nat → Nat → Int32) (t0 : Nat) : Prop := ∀ i, i < t0 → ∃ c : Nat, c < 256 ∧ g 24 i = nI c
theorem rt_byte {g γ : Nat → Nat → Int32} {t0 : Nat} (hb : byt g t0) (h24 : γ 24 = g 24) (a : Nat) : rtM γ (rdM γ a t0) (nI 0) (nI 255) = if ¬ γ 26 0 = 0 ∧ a < t0 then nI 1 else nI 0 := by
  unfold rtM rdM
  by_cases h : a < t0
  · rw [if_pos h, h24]
    obtain ⟨c, hc, e⟩ := hb a h
    rw [e]
    by_cases h2 : γ 26 0 = 0
    · exact (if_neg (fun q => q.1 h2)).trans (if_neg (fun q => q.1 h2)).symm
    · refine (if_pos ⟨h2, ?_⟩).trans (if_pos ⟨h2, h⟩).symm
      rintro (q | q)
      · exact nI_pos (by omega) q
      · exact nI_nlt (by omega) (by omega) q
  · rw [if_neg h]
    exact (if_neg (fun q => q.2 (Or.inl (by decide)))).trans (if_neg (fun q => h q.2)).symm
theorem if_10 {c : Prop} [Decidable c] : (if c then nI 1 else nI 0) = 0 ↔ ¬ c := by
  split
  · next h => exact ⟨fun q => absurd q (by decide), fun q => absurd h q⟩
  · next h => exact ⟨fun _ => h, fun _ => rfl⟩
theorem b01 {c : Prop} [Decidable c] {x : Int32} (h : x = if c then nI 1 else nI 0) : x = 0 ∨ x = 1 := by
  rw [h]
  split
  · exact Or.inr rfl
  · exact Or.inl rfl
theorem ii_26 {g γ : Nat → Nat → Int32} {t0 : Nat} (hb : byt g t0) (h24 : γ 24 = g 24) (a : Nat) : iiM γ a t0 26 0 = if ¬ γ 26 0 = 0 ∧ a + 4 ≤ t0 then nI 1 else nI 0 := by
  have e1 := rt_byte hb h24 a
  have e2 := rt_byte (γ := inM γ a t0 (nI 0) (nI 255)) hb h24 (a + 1)
  have e3 := rt_byte (γ := inM (inM γ a t0 (nI 0) (nI 255)) (a + 1) t0 (nI 0) (nI 255)) hb h24 (a + 1 + 1)
  have e4 := rt_byte (γ := inM (inM (inM γ a t0 (nI 0) (nI 255)) (a + 1) t0 (nI 0) (nI 255)) (a + 1 + 1) t0 (nI 0) (nI 255)) hb h24 (a + 1 + 1 + 1)
  unfold iiM
  rw [inM_26, e4, inM_26, e3, inM_26, e2, inM_26, e1]
  simp only [if_10, Classical.not_not]
  by_cases h : γ 26 0 = 0
  · simp [h]
  · by_cases h2 : a + 4 ≤ t0
    · rw [if_pos ⟨⟨⟨⟨h, by omega⟩, by omega⟩, by omega⟩, by omega⟩, if_pos ⟨h, h2⟩]
    · rw [if_neg (fun q => h2 (by omega)), if_neg (fun q => h2 q.2)]
theorem ri_c {g γ : Nat → Nat → Int32} (h : γ 24 = g 24) (a t0 : Nat) : riM γ a t0 = riM g a t0 := by
  unfold riM rdM
  rw [h]
theorem in_25 (γ : Nat → Nat → Int32) (a t0 : Nat) (lo hi : Int32) : inM γ a t0 lo hi 25 0 = nI (a + 1) := by
  unfold inM
  rw [mup_ne (by decide), mup_eq]
  exact if_pos rfl
theorem ii_25 (γ : Nat → Nat → Int32) (a t0 : Nat) : iiM γ a t0 25 0 = nI (a + 4) := by
  unfold iiM
  rw [in_25]

theorem ib_start {g : Nat → Nat → Int32} {b0 t0 : Nat} (hb0 : b0 ≤ 8) : rtM (mup (mup g 25 0 (nI 0)) 26 0 (nI 1)) (rdM (mup (mup g 25 0 (nI 0)) 26 0 (nI 1)) 0 t0) (nI b0) (nI b0) = if rdM g 0 t0 = nI b0 ∧ 1 + 4 * 0 ≤ t0 then nI 1 else nI 0 := by
  have e : rdM (mup (mup g 25 0 (nI 0)) 26 0 (nI 1)) 0 t0 = rdM g 0 t0 := rfl
  rw [e]
  unfold rtM
  by_cases h : rdM g 0 t0 = nI b0
  · have ht : 0 < t0 := by
      apply Classical.byContradiction
      intro q
      unfold rdM at h
      rw [if_neg q] at h
      exact nI_nm1 (by omega) h.symm
    have c1 : ¬ mup (mup g 25 0 (nI 0)) 26 0 (nI 1) 26 0 = 0 ∧ ¬ (rdM g 0 t0 < nI b0 ∨ nI b0 < rdM g 0 t0) := by
      refine ⟨?_, ?_⟩
      · rw [mup_eq]
        show ¬ (if 0 = 0 then nI 1 else _) = 0
        rw [if_pos rfl]
        decide
      · rw [h]
        rintro (q | q) <;> exact Int32.lt_irrefl q
    exact (if_pos c1).trans (if_pos ⟨h, by omega⟩).symm
  · refine (if_neg ?_).trans (if_neg (fun q => h q.1)).symm
    rintro ⟨-, q⟩
    apply h
    apply Int32.le_antisymm
    · exact Int32.not_lt.mp (fun z => q (Or.inr z))
    · exact Int32.not_lt.mp (fun z => q (Or.inl z))

set_option maxHeartbeats 4000000 in
set_option maxRecDepth 100000 in
theorem c_M_inBeside (l : Launch) (D : va_G) (tk : Nat → ClassId) (sz : Nat) (h : Nat) (ad : Nat → Nat) (g : Nat → Nat → Int32) (la : Nat → Int64) (tl : va_W) (b0 t0 : Nat) (hb0 : b0 ≤ 8) (ht0 : t0 ≤ 420) (hgb : g 17 0 = nI b0) (hgt : g 23 0 = nI t0) (hby : byt g t0) : Met l y_M_inBeside w_M_inBeside ({ frames := 3, cells := 0, slots := 0, locals := 67 }) (va_Pc [.ref h] (k_pre D (TY tk) sz (wM tk h ad g la ++ tl))) (va_Qv (fun (u : Nat → Nat → Int32) => u 26 0 = (if (rdM g 0 t0 = nI b0 ∧ 1 + 4 * b0 ≤ t0) then nI 1 else nI 0) ∧ ((rdM g 0 t0 = nI b0 ∧ 1 + 4 * b0 ≤ t0) → u 25 0 = nI (1 + 4 * b0) ∧ ∀ j, j < b0 → u 27 j = riM g (1 + 4 * j) t0) ∧ frx [25, 26, 27] g u) (fun u t => k_at D (TY tk) (va_A (wM tk h ad g la ++ tl) sz) ((fun u => wM tk h ad u la ++ tl) u) t) (va_A (wM tk h ad g la ++ tl) sz)) 0 0 (va_A (wM tk h ad g la ++ tl) sz) := by
  refine k_ofW (fun A => va_Qv (fun (u : Nat → Nat → Int32) => u 26 0 = (if (rdM g 0 t0 = nI b0 ∧ 1 + 4 * b0 ≤ t0) then nI 1 else nI 0) ∧ ((rdM g 0 t0 = nI b0 ∧ 1 + 4 * b0 ≤ t0) → u 25 0 = nI (1 + 4 * b0) ∧ ∀ j, j < b0 → u 27 j = riM g (1 + 4 * j) t0) ∧ frx [25, 26, 27] g u) (fun u t => k_at D (TY tk) A ((fun u => wM tk h ad u la ++ tl) u) t) A) (by decide) (Nat.le_of_ble_eq_true rfl) ?_
  intro p e s m args below meth c Q A ls hQ hx hb hr hlk hin hts hT hown hml hnw hP hK hD hA hsz hl
  have hS : va_S A s.heap s.heap [] := va_S.rf
  have hc0 : 0 + 0 ≤ 0 ∧ 0 + 0 ≤ 0 := ⟨by decide, by decide⟩
  replace hl : lv_has ls 3 [(0, .ref h)] := hl
  replace hP : va_P D CC (wM tk h ad g la ++ tl) s.heap := hP
  replace hK : va_K D CC (TY tk) s := hK
  refine lv_aload_n hx hb d_M_inBeside_0 rfl (lv_at hl 0 rfl) ?_
  refine lv_iconst (v := nI 0) hx hb d_M_inBeside_1 (by decide) ?_
  refine pf_M_197 hx hb hT hown hK hP hD hS 0 rfl (Nat.le_of_ble_eq_true rfl) d_M_inBeside_2 (fun H locs hP hD hS => ?_)
  replace hP : va_P D CC (wM tk h ad (mup g 25 0 (nI 0)) la ++ tl) H := Eq.mp (congrArg (fun w => va_P D CC w H) (sM_25 tk h ad g la tl (nI 0))) hP
  replace hD : va_D A (wM tk h ad (mup g 25 0 (nI 0)) la ++ tl) := Eq.mp (congrArg (fun w => va_D A w) (sM_25 tk h ad g la tl (nI 0))) hD
  refine lv_aload_n hx hb d_M_inBeside_5 rfl (lv_at hl 0 rfl) ?_
  refine lv_iconst (v := nI 1) hx hb d_M_inBeside_6 (by decide) ?_
  refine pf_M_200 hx hb hT hown hK hP hD hS 0 rfl (Nat.le_of_ble_eq_true rfl) (by decide) (by decide) d_M_inBeside_7 (fun H locs hP hD hS => ?_)
  replace hP : va_P D CC (wM tk h ad (mup (mup g 25 0 (nI 0)) 26 0 (nI 1)) la ++ tl) H := Eq.mp (congrArg (fun w => va_P D CC w H) (sM_26 tk h ad (mup g 25 0 (nI 0)) la tl (nI 1))) hP
  replace hD : va_D A (wM tk h ad (mup (mup g 25 0 (nI 0)) 26 0 (nI 1)) la ++ tl) := Eq.mp (congrArg (fun w => va_D A w) (sM_26 tk h ad (mup g 25 0 (nI 0)) la tl (nI 1))) hD
  refine lv_aload_n hx hb d_M_inBeside_10 rfl (lv_at hl 0 rfl) ?_
  refine lv_aload_n hx hb d_M_inBeside_11 rfl (lv_at hl 0 rfl) ?_
  refine gf_M_155 (v := .int ((mup (mup g 25 0 (nI 0)) 26 0 (nI 1)) 17 0)) hx hb hT hown hK hP 0 rfl rfl d_M_inBeside_12 ?_
  refine st_top (show (mup (mup g 25 0 (nI 0)) 26 0 (nI 1)) 17 0 = g 17 0 from (rd_ne (by decide) (rd_ne (by decide) rfl))) ?_
  refine st_top (show g 17 0 = nI b0 from hgb) ?_
  refine lv_aload_n hx hb d_M_inBeside_15 rfl (lv_at hl 0 rfl) ?_
  refine gf_M_155 (v := .int ((mup (mup g 25 0 (nI 0)) 26 0 (nI 1)) 17 0)) hx hb hT hown hK hP 0 rfl rfl d_M_inBeside_16 ?_
  refine st_top (show (mup (mup g 25 0 (nI 0)) 26 0 (nI 1)) 17 0 = g 17 0 from (rd_ne (by decide) (rd_ne (by decide) rfl))) ?_
  refine st_top (show g 17 0 = nI b0 from hgb) ?_
  refine k_calli (va_runV (As := [.int (nI b0), .int (nI b0)]) (rest := []) ⟨hx, hb, hml, hown, hts⟩ (c_M_in l D tk H.size h ad (mup (mup g 25 0 (nI 0)) 26 0 (nI 1)) la tl 0 t0 (nI b0) (nI b0) (Or.inr rfl) (by omega) (by omega) rfl hgt) (cwV 2 hts (gV t_1215 t_1217 s_38 t_9 t_1218) rfl rfl rfl (by decide +kernel) ⟨Nat.le_of_ble_eq_true rfl, Nat.le_of_ble_eq_true rfl⟩) (k_preV hP hK hD hnw 0 rfl rfl) rfl rfl hl.1 rfl (lv_room (Nat.le_of_ble_eq_true rfl)) d_M_inBeside_19 hc0) hD hS hA (fun _ _ H locs hp19 hP hD hK hS => ?_)
  subst hp19
  replace hP : va_P D CC (wM tk h ad (inM (mup (mup g 25 0 (nI 0)) 26 0 (nI 1)) 0 t0 (nI b0) (nI b0)) la ++ tl) H := hP
  replace hD : va_D A (wM tk h ad (inM (mup (mup g 25 0 (nI 0)) 26 0 (nI 1)) 0 t0 (nI b0) (nI b0)) la ++ tl) := hD
  refine lv_istore_n (lv' := [(1, .int (rdM g 0 t0)), (0, .ref h)]) hx hb d_M_inBeside_22 rfl hl (by decide) rfl (fun ls hl => ?_)
  refine lv_iconst (v := nI 0) hx hb d_M_inBeside_23 (by decide) ?_
  refine lv_istore_n (lv' := [(2, .int (nI 0)), (1, .int (rdM g 0 t0)), (0, .ref h)]) hx hb d_M_inBeside_24 rfl hl (by decide) rfl (fun ls hl => ?_)
  have key25 : ∀ (n25 : Nat) (k : Nat) (γ : Nat → Nat → Int32) (ls : Array Slot) (H : Heap) (locs : List Loc), b0 - k < n25 → (k ≤ b0) → (γ 25 0 = nI (1 + 4 * k)) → (γ 26 0 = if (rdM g 0 t0 = nI b0 ∧ 1 + 4 * k ≤ t0) then nI 1 else nI 0) → (∀ j, j < k → γ 27 j = riM g (1 + 4 * j) t0) → (frx [25, 26, 27] g γ) → lv_has ls 3 [(0, .ref h), (1, .int (rdM g 0 t0)), (2, .int (nI k))] → va_P D CC (wM tk h ad γ la ++ tl) H → va_D A (wM tk h ad γ la ++ tl) → va_S A s.heap H locs → W p l e ({ frames := 3, cells := 0, slots := 0, locals := 67 } : Room) s m args below meth c H locs 0 0 Q (F0 m 25 ls []) := by
    intro n25
    induction n25 with
    | zero => intro k γ ls H locs hn; exact absurd hn (Nat.not_lt_zero _)
    | succ n25 ih25 =>
      intro k γ ls H locs hn25 hk h25 h26 hin9 hfr hl hP hD hS
      have h24 : γ 24 = g 24 := hfr 24 (by decide)
      refine lv_aload_n hx hb d_M_inBeside_25 rfl (lv_at hl 0 rfl) ?_
      refine gf_M_200 (v := .int (γ 26 0)) hx hb hT hown hK hP 0 rfl rfl d_M_inBeside_26 ?_
      refine lv_if_eq hx hb d_M_inBeside_29 (tgt := 53) (by decide) (fun hc29 => ?_) (fun hc29 => ?_)
      · skip
        have hng : ¬ (rdM g 0 t0 = nI b0 ∧ 1 + 4 * k ≤ t0) := by rw [h26] at hc29; exact if_10.mp hc29
        exact k_vret hQ hx hb hr hlk hK hP hD hS γ rfl (by first | exact ⟨h26.trans ((if_neg hng).trans (if_neg (fun q => hng ⟨q.1, by omega⟩)).symm), fun q => absurd ⟨q.1, by omega⟩ hng, hfr⟩ | exact ⟨h26, fun _ => ⟨h25, hin9⟩, hfr⟩) d_M_inBeside_53
      · skip
        have hgd : (rdM g 0 t0 = nI b0 ∧ 1 + 4 * k ≤ t0) := Classical.byContradiction (fun q => hc29 (by rw [h26]; exact if_10.mpr q))
        refine lv_iload_n hx hb d_M_inBeside_32 rfl (lv_at hl 2 rfl) ?_
        refine lv_iload_n hx hb d_M_inBeside_33 rfl (lv_at hl 1 rfl) ?_
        refine st_top (show rdM g 0 t0 = nI b0 from hgd.1) ?_
        refine st_icmp_ge hx hb (by omega) (by omega) d_M_inBeside_34 (tgt := 53) (by decide) (fun hc34 => ?_) (fun hc34 => ?_)
        · skip
          have hkb : k = b0 := by omega
          rw [hkb] at h25 h26 hin9
          exact k_vret hQ hx hb hr hlk hK hP hD hS γ rfl (by first | exact ⟨h26.trans ((if_neg hng).trans (if_neg (fun q => hng ⟨q.1, by omega⟩)).symm), fun q => absurd ⟨q.1, by omega⟩ hng, hfr⟩ | exact ⟨h26, fun _ => ⟨h25, hin9⟩, hfr⟩) d_M_inBeside_53
        · skip
          refine lv_aload_n hx hb d_M_inBeside_37 rfl (lv_at hl 0 rfl) ?_
          refine gf_M_60 (v := .ref (ad 27)) hx hb hT hown hK hP 0 rfl rfl d_M_inBeside_38 ?_
          refine lv_iload_n hx hb d_M_inBeside_41 rfl (lv_at hl 2 rfl) ?_
          refine lv_aload_n hx hb d_M_inBeside_42 rfl (lv_at hl 0 rfl) ?_
          refine k_calli (va_runV (As := []) (rest := [.int (nI k), .ref (ad 27)]) ⟨hx, hb, hml, hown, hts⟩ (c_M_inInt l D tk H.size h ad γ la tl (1 + 4 * k) t0 (b01 h26) (by omega) (by omega) h25 ((congrFun (hfr 23 (by decide)) 0).trans hgt)) (cwV 0 hts (gV t_1219 t_1221 s_39 t_9 t_1222) rfl rfl rfl (by decide +kernel) ⟨Nat.le_of_ble_eq_true rfl, Nat.le_of_ble_eq_true rfl⟩) (k_preV hP hK hD hnw 0 rfl rfl) rfl rfl hl.1 rfl (lv_room (Nat.le_of_ble_eq_true rfl)) d_M_inBeside_43 hc0) hD hS hA (fun _ _ H locs hp43 hP hD hK hS => ?_)
          subst hp43
          replace hP : va_P D CC (wM tk h ad (iiM γ (1 + 4 * k) t0) la ++ tl) H := hP
          replace hD : va_D A (wM tk h ad (iiM γ (1 + 4 * k) t0) la ++ tl) := hD
          refine st_top (show riM γ (1 + 4 * k) t0 = riM g (1 + 4 * k) t0 from ri_c h24 _ _) ?_
          refine st_iast hx hb hK hP hD hS 17 0 rfl rfl (by omega) (by decide) d_M_inBeside_46 (fun H locs hP hD hS => ?_)
          replace hP : va_P D CC (wM tk h ad (mup (iiM γ (1 + 4 * k) t0) 27 k (riM g (1 + 4 * k) t0)) la ++ tl) H := Eq.mp (congrArg (fun w => va_P D CC w H) (sM_27 tk h ad (iiM γ (1 + 4 * k) t0) la tl k (riM g (1 + 4 * k) t0))) hP
          replace hD : va_D A (wM tk h ad (mup (iiM γ (1 + 4 * k) t0) 27 k (riM g (1 + 4 * k) t0)) la ++ tl) := Eq.mp (congrArg (fun w => va_D A w) (sM_27 tk h ad (iiM γ (1 + 4 * k) t0) la tl k (riM g (1 + 4 * k) t0))) hD
          refine lv_iinc (k := 2) (v := nI (k + 1)) (lv' := [(2, .int (nI (k + 1))), (0, .ref h), (1, .int (rdM g 0 t0))]) hx hb d_M_inBeside_47 hl rfl (nI_add _ _) (by decide) rfl (fun ls hl => ?_)
          refine lv_goto hx hb d_M_inBeside_50 (tgt := 25) (by decide) ?_
          exact ih25 (k + 1) (mup (iiM γ (1 + 4 * k) t0) 27 k (riM g (1 + 4 * k) t0)) ls _ _ (by omega) (by omega) (by rw [mup_ne (by decide), ii_25, show 1 + 4 * k + 4 = 1 + 4 * (k + 1) by omega]) (by rw [mup_ne (by decide), ii_26 hby h24, show 1 + 4 * k + 4 = 1 + 4 * (k + 1) by omega]; by_cases q : 1 + 4 * (k + 1) ≤ t0; exact (if_pos ⟨hc29, q⟩).trans (if_pos ⟨hgd.1, q⟩).symm; exact (if_neg (fun z => q z.2)).trans (if_neg (fun z => q z.2)).symm) (fun j hj => by rw [mup_eq]; by_cases q : j = k; (rw [q]; exact (if_pos rfl).trans rfl); exact (if_neg q).trans ((congrFun (iiM_fr γ _ _ 27 (by decide)) j).trans (hin9 j (by omega)))) (fun z hz => by simp only [List.mem_cons, List.not_mem_nil, or_false, not_or] at hz; rw [mup_ne hz.2.2, iiM_fr γ _ _ z (by simp; omega), hfr z (by simp; omega)]) (lv_sub hl [1, 2, 0] rfl) hP hD hS
  exact key25 _ 0 (inM (mup (mup g 25 0 (nI 0)) 26 0 (nI 1)) 0 t0 (nI b0) (nI b0)) ls _ _ (Nat.lt_succ_self _) (by omega) rfl (by rw [inM_26]; exact ib_start hb0) (fun j hj => by omega) (fun z hz => by simp only [List.mem_cons, List.not_mem_nil, or_false, not_or] at hz; rw [inM_fr _ _ _ _ _ z (by simp; omega), mup_ne hz.2.1, mup_ne hz.1]) (lv_sub hl [2, 1, 0] rfl) hP hD hS
