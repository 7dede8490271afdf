theorem mn47 (x : Int32) : (∃ b : Nat, b < 48 ∧ (if nI 47 < x then nI 47 else x) = nI b ∧ (∀ j, j ≤ b → ¬ x < nI j) ∧ ∀ j, b < j → j < 48 → x < nI j) ∨ ((if nI 47 < x then nI 47 else x) < nI 0 ∧ ∀ j, j < 48 → x < nI j) := by
  by_cases h : nI 47 < x
  · rw [if_pos h]
    refine Or.inl ⟨47, by decide, rfl, fun j hj q => ?_, fun j h1 h2 => by omega⟩
    exact absurd (Int32.lt_trans h q) (nI_nlt hj (by decide))
  · rw [if_neg h]
    by_cases h0 : x < nI 0
    · refine Or.inr ⟨h0, fun j hj => ?_⟩
      have h1 : nI 0 ≤ nI j := nI_le (Nat.zero_le _) (by omega)
      exact Int32.lt_of_lt_of_le h0 h1
    · obtain ⟨b, hb, e⟩ := nI_of (x := x) h0
      subst e
      have hb2 : ¬ 47 < b := fun q => h (nI_lt q hb)
      refine Or.inl ⟨b, by omega, rfl, fun j hj => nI_nlt hj hb, fun j h1 h2 => nI_lt h1 (by omega)⟩

theorem rg_y {X : List kv_I} {lo hi : Int32} {k n : Nat} (h : (k ≤ 48 → n = rgC X lo hi k) ∧ n ≤ 48) (hk : k < 48) (h1 : ¬ nI k < lo) (h2 : ¬ hi < nI k) (h3 : ¬ gt_ X k = none) : (k + 1 ≤ 48 → n + 1 = rgC X lo hi (k + 1)) ∧ n + 1 ≤ 48 := by
  have e := h.1 (by omega)
  have h4 : rgC X lo hi k ≤ k := rgC_le X lo hi k
  refine ⟨fun _ => ?_, by omega⟩
  rw [rgC, if_neg (by rintro (q | q | q); exact h3 q; exact h1 q; exact h2 q), e]
theorem rg_n {X : List kv_I} {lo hi : Int32} {k n : Nat} (h : (k ≤ 48 → n = rgC X lo hi k) ∧ n ≤ 48) (hk : k < 48) (h3 : gt_ X k = none) : (k + 1 ≤ 48 → n = rgC X lo hi (k + 1)) ∧ n ≤ 48 := by
  refine ⟨fun _ => ?_, h.2⟩
  rw [rgC, if_pos (Or.inl h3)]
  exact h.1 (by omega)
/-- the end of the loop: all keys from here on lie above -/
theorem rg_end {X : List kv_I} {lo hi : Int32} {a k n : Nat} (hal : ∀ i, i < a → i < 2 ^ 31 → nI i < lo) (h : (k ≤ 48 → n = rgC X lo hi k) ∧ n ≤ 48) (hak : a ≤ k) (hk : k < 2 ^ 31) (hn : 48 < k → n = 0) (hc : (if nI 47 < hi then nI 47 else hi) < nI k) (hx : 48 < k → a = k) : n = rgC X lo hi 48 := by
  by_cases hk8 : k ≤ 48
  · rw [h.1 hk8]
    refine (rgC_hi 48 hk8 (fun j h1 h2 => ?_)).symm
    rcases mn47 hi with ⟨b, hb, e, _, e2⟩ | ⟨_, e2⟩
    · rw [e] at hc
      have := (nI_ltI (by omega) hk).mp hc
      exact e2 j (by omega) h2
    · exact e2 j h2
  · rw [hn (by omega)]
    have e := hx (by omega)
    exact (rgC_lo 48 (fun j hj => hal j (by omega) (by omega))).symm
theorem rg_in {hi : Int32} {k : Nat} (hk : k < 2 ^ 31) (h : ¬ (if nI 47 < hi then nI 47 else hi) < nI k) : k < 48 ∧ ¬ hi < nI k := by
  rcases mn47 hi with ⟨b, hb, e, e1, _⟩ | ⟨e1, _⟩
  · rw [e] at h
    have : ¬ b < k := fun q => h (nI_lt q hk)
    exact ⟨by omega, e1 k (by omega)⟩
  · exact absurd (Int32.lt_of_lt_of_le e1 (nI_le (Nat.zero_le _) hk)) h
theorem gz_n {X Y : List kv_I} {k : Nat} (e : gt_ Y k = gt_ X k) (h : (if gt_ Y k = none then nI 0 else nI 1) = 0) : gt_ X k = none := by
  by_cases q : gt_ Y k = none
  · rw [← e]; exact q
  · rw [if_neg q] at h; exact absurd h (by decide)
theorem gz_y {X Y : List kv_I} {k : Nat} (e : gt_ Y k = gt_ X k) (h : ¬ (if gt_ Y k = none then nI 0 else nI 1) = 0) : ¬ gt_ X k = none := by
  intro q
  rw [if_pos (e.trans q)] at h
  exact h rfl

theorem mx0_2 {x : Int32} {a : Nat} (ha : (if x < nI 0 then nI 0 else x) = nI a) : ∀ i, a ≤ i → i < 2 ^ 31 → ¬ nI i < x := by
  intro i h1 h2 q
  by_cases h : x < nI 0
  · exact absurd (Int32.lt_trans q h) (nI_pos (by omega))
  · rw [if_neg h] at ha
    rw [ha] at q
    exact nI_nlt h1 h2 q

set_option maxHeartbeats 4000000 in
set_option maxRecDepth 100000 in
theorem c_K_range1 (l : Launch) (D : va_G) (tk : Nat → ClassId) (sz : Nat) (ad : Nat → Nat) (g : Nat → Nat → Int32) (rr : Nat → Nat → Option Nat) (tl : va_W) (S : List ck_I) (ca : Nat → Nat) (bl : Nat → Nat → Option Nat) (hst : sI tk tl S ca bl) (Xs : Nat → List kv_I) (V : Nat) (hV1 : 1 ≤ V) (hV2 : V ≤ 16) (hh : ∀ v, v < V → so (Xs v) ∧ tOf S ca (Xs v) (rr 1 v)) (hV : g 2 0 = nI V) (j : Nat) (hj : j < V) (lo hi : Int32) : Met l y_K_range w_K_range ({ frames := 3, cells := 0, slots := 0, locals := 66 }) (va_Pc [.ref (ad 0), .int (nI j), .int lo, .int hi] (k_pre D (TY tk) sz (wC tk ad g rr ++ tl))) (va_Qi (fun (r : Int32) (_ : Unit) => r = nI (rgC (Xs j) lo hi 48)) (fun u t => k_at D (TY tk) (va_A (wC tk ad g rr ++ tl) sz) ((fun _ => wC tk ad g rr ++ tl) u) t) (va_A (wC tk ad g rr ++ tl) sz)) 0 0 (va_A (wC tk ad g rr ++ tl) sz) := by
  refine k_ofW (fun A => va_Qi (fun (r : Int32) (_ : Unit) => r = nI (rgC (Xs j) lo hi 48)) (fun u t => k_at D (TY tk) A ((fun _ => wC tk ad g rr ++ tl) u) t) A) (by decide) (Nat.le_of_ble_eq_true rfl) ?_
  intro p e s m args below meth c Q A ls hQ hx hb hr hlk hin hts hT hown hml hnw hP hK hD hA hsz hl
  have hS : va_S A s.heap s.heap [] := va_S.rf
  have hc0 : 0 + 0 ≤ 0 ∧ 0 + 0 ≤ 0 := ⟨by decide, by decide⟩
  replace hl : lv_has ls 7 [(0, .ref (ad 0)), (1, .int (nI j)), (2, .int lo), (3, .int hi)] := hl
  replace hP : va_P D CC (wC tk ad g rr ++ tl) s.heap := hP
  replace hK : va_K D CC (TY tk) s := hK
  refine lv_aload_n hx hb d_K_range_0 rfl (lv_at hl 0 rfl) ?_
  refine lv_iload_n hx hb d_K_range_1 rfl (lv_at hl 1 rfl) ?_
  refine k_callv (va_runV (As := [.int (nI j)]) (rest := []) ⟨hx, hb, hml, hown, hts⟩ (c_K_requireVersion1 l D tk s.heap.size ad g rr tl  V hV2 hV j (by omega)) (cwV 1 hts (gV t_747 t_749 s_4 t_1 t_750) rfl rfl rfl (by decide +kernel) ⟨Nat.le_of_ble_eq_true rfl, Nat.le_of_ble_eq_true rfl⟩) (k_preV hP hK hD hnw 0 rfl rfl) rfl rfl hl.1 rfl (lv_room (Nat.le_of_ble_eq_true rfl)) d_K_range_2 hc0) hD hS hA (fun _ H locs hp2 hP hD hK hS => ?_)
  replace hP : va_P D CC (wC tk ad g rr ++ tl) H := hP
  replace hD : va_D A (wC tk ad g rr ++ tl) := hD
  refine lv_iload_n hx hb d_K_range_5 rfl (lv_at hl 3 rfl) ?_
  refine lv_bipush (v := nI 47) hx hb d_K_range_6 (by decide) ?_
  refine va_mmin hx hb (hml.trans hl.1.symm) hown (hT _ t_780) (hT _ t_529) (hT _ t_23) (hT _ t_530) (Nat.le_of_ble_eq_true rfl) (Nat.le_of_ble_eq_true rfl) (Nat.le_of_ble_eq_true rfl) (Nat.le_of_ble_eq_true rfl) d_K_range_8 ?_
  refine lv_istore (lv' := [(4, .int (if (nI 47) < hi then (nI 47) else hi)), (0, .ref (ad 0)), (1, .int (nI j)), (2, .int lo), (3, .int hi)]) hx hb d_K_range_11 hl (by decide) rfl (fun ls hl => ?_)
  refine lv_iconst (v := nI 0) hx hb d_K_range_13 (by decide) ?_
  refine lv_istore (lv' := [(5, .int (nI 0)), (4, .int (if (nI 47) < hi then (nI 47) else hi)), (0, .ref (ad 0)), (1, .int (nI j)), (2, .int lo), (3, .int hi)]) hx hb d_K_range_14 hl (by decide) rfl (fun ls hl => ?_)
  refine lv_iload_n hx hb d_K_range_16 rfl (lv_at hl 4 rfl) ?_
  refine lv_iconst (v := nI 0) hx hb d_K_range_17 (by decide) ?_
  refine va_mmax hx hb (hml.trans hl.1.symm) hown (hT _ t_781) (hT _ t_511) (hT _ t_23) (hT _ t_512) (Nat.le_of_ble_eq_true rfl) (Nat.le_of_ble_eq_true rfl) (Nat.le_of_ble_eq_true rfl) (Nat.le_of_ble_eq_true rfl) d_K_range_18 ?_
  refine lv_istore (lv' := [(6, .int (if lo < (nI 0) then (nI 0) else lo)), (5, .int (nI 0)), (4, .int (if (nI 47) < hi then (nI 47) else hi)), (0, .ref (ad 0)), (1, .int (nI j)), (2, .int lo), (3, .int hi)]) hx hb d_K_range_21 hl (by decide) rfl (fun ls hl => ?_)
  obtain ⟨a, ha31, ha, hal⟩ := mx0 lo
  have hal2 : ∀ i, a ≤ i → i < 2 ^ 31 → ¬ nI i < lo := mx0_2 ha
  rw [ha] at hl
  have key23 : ∀ (n23 : Nat) (k : Nat) (n8 : Nat) (ls : Array Slot) (H : Heap) (locs : List Loc), 48 - k < n23 → (a ≤ k ∧ k < 2 ^ 31) → ((k ≤ 48 → n8 = rgC (Xs j) lo hi k) ∧ n8 ≤ 48) → ((48 < k → n8 = 0) ∧ (48 < k → a = k)) → lv_has ls 7 [(0, .ref (ad 0)), (1, .int (nI j)), (4, .int (if nI 47 < hi then nI 47 else hi)), (5, .int (nI n8)), (6, .int (nI k))] → va_P D CC (wC tk ad g rr ++ tl) H → va_D A (wC tk ad g rr ++ tl) → va_S A s.heap H locs → W p l e ({ frames := 3, cells := 0, slots := 0, locals := 66 } : Room) s m args below meth c H locs 0 0 Q (F0 m 23 ls []) := by
    intro n23
    induction n23 with
    | zero => intro k n8 ls H locs hn; exact absurd hn (Nat.not_lt_zero _)
    | succ n23 ih23 =>
      intro k n8 ls H locs hn23 hk hcnt hk9 hl hP hD hS
      refine lv_iload hx hb d_K_range_23 (lv_at hl 4 rfl) ?_
      refine lv_iload hx hb d_K_range_25 (lv_at hl 2 rfl) ?_
      refine lv_icmp_gt hx hb d_K_range_27 (tgt := 61) (by decide) (fun hc27 => ?_) (fun hc27 => ?_)
      · skip
        refine lv_iload hx hb d_K_range_61 (lv_at hl 3 rfl) ?_
        exact k_iret (v := nI n8) hQ hx hb hr hlk hK hP hD hS () rfl (congrArg nI (rg_end hal hcnt hk.1 hk.2 hk9.1 hc27 hk9.2)) d_K_range_63
      · skip
        have hkb := rg_in hk.2 hc27
        have hkl : ¬ nI k < lo := hal2 k hk.1 hk.2
        refine lv_aload_n hx hb d_K_range_30 rfl (lv_at hl 0 rfl) ?_
        refine gf_K_19 (v := .ref (ad 3)) hx hb hT hown hK hP 0 rfl rfl d_K_range_31 ?_
        refine gf_K_93 (v := .ref (ad 4)) hx hb hT hown hK hP 3 rfl rfl d_K_range_34 ?_
        refine lv_iload_n hx hb d_K_range_37 rfl (lv_at hl 1 rfl) ?_
        refine st_aald hx hb hK hP 4 3 rfl rfl (by omega) (by decide) d_K_range_38 ?_
        refine lv_iload hx hb d_K_range_39 (lv_at hl 4 rfl) ?_
        refine k_callq (va_runS (As := [va_rf (rr 1 j), .int (nI k)]) (rest := []) ⟨hx, hb, hml, hown, hts⟩ (c_K_bottomFor l D tk H.size (wC tk ad g rr ++ tl) S ca bl (sI_C hst) (Xs j) ((hh j hj).1) (rr 1 j) ((hh j hj).2) k (by omega)) (cwS 2 hts (gS t_770 t_214 t_1 t_215) rfl rfl rfl (by decide +kernel) ⟨Nat.le_of_ble_eq_true rfl, Nat.le_of_ble_eq_true rfl⟩) (k_preS hP hK hD hnw) rfl rfl hl.1 rfl (lv_room (Nat.le_of_ble_eq_true rfl)) d_K_range_41 hc0) hD hS hA (fun r41 Y9 H locs ⟨hbo, hgt⟩ hP hD hK hS => ?_)
        replace hP : va_P D CC (wC tk ad g rr ++ tl) H := hP
        replace hD : va_D A (wC tk ad g rr ++ tl) := hD
        refine lv_iload hx hb d_K_range_44 (lv_at hl 4 rfl) ?_
        refine k_calli (va_runS (As := [va_rf r41, .int (nI k)]) (rest := []) ⟨hx, hb, hml, hown, hts⟩ (c_K_holds l D tk H.size (wC tk ad g rr ++ tl) S ca bl (sI_C hst) r41 Y9 hbo k (by omega)) (cwS 2 hts (gS t_771 t_225 t_1 t_226) rfl rfl rfl (by decide +kernel) ⟨Nat.le_of_ble_eq_true rfl, Nat.le_of_ble_eq_true rfl⟩) (k_preS hP hK hD hnw) rfl rfl hl.1 rfl (lv_room (Nat.le_of_ble_eq_true rfl)) d_K_range_46 hc0) hD hS hA (fun _ _ H locs hp46 hP hD hK hS => ?_)
        subst hp46
        replace hP : va_P D CC (wC tk ad g rr ++ tl) H := hP
        replace hD : va_D A (wC tk ad g rr ++ tl) := hD
        refine lv_if_eq hx hb d_K_range_49 (tgt := 55) (by decide) (fun hc49 => ?_) (fun hc49 => ?_)
        · skip
          refine lv_iinc (k := 4) (v := nI (k + 1)) (lv' := [(6, .int (nI (k + 1))), (0, .ref (ad 0)), (1, .int (nI j)), (4, .int (if nI 47 < hi then nI 47 else hi)), (5, .int (nI n8))]) hx hb d_K_range_55 hl rfl (nI_add _ _) (by decide) rfl (fun ls hl => ?_)
          refine lv_goto hx hb d_K_range_58 (tgt := 23) (by decide) ?_
          exact ih23 (k + 1) n8 ls _ _ (by omega) (by omega) (rg_n hcnt hkb.1 (gz_n hgt hc49)) (⟨fun q => absurd q (by omega), fun q => absurd q (by omega)⟩) (lv_sub hl [1, 2, 3, 4, 0] rfl) hP hD hS
        · skip
          refine lv_iinc (k := 3) (v := nI (n8 + 1)) (lv' := [(5, .int (nI (n8 + 1))), (0, .ref (ad 0)), (1, .int (nI j)), (4, .int (if nI 47 < hi then nI 47 else hi)), (6, .int (nI k))]) hx hb d_K_range_52 hl rfl (nI_add _ _) (by decide) rfl (fun ls hl => ?_)
          refine lv_iinc (k := 4) (v := nI (k + 1)) (lv' := [(6, .int (nI (k + 1))), (5, .int (nI (n8 + 1))), (0, .ref (ad 0)), (1, .int (nI j)), (4, .int (if nI 47 < hi then nI 47 else hi))]) hx hb d_K_range_55 hl rfl (nI_add _ _) (by decide) rfl (fun ls hl => ?_)
          refine lv_goto hx hb d_K_range_58 (tgt := 23) (by decide) ?_
          exact ih23 (k + 1) (n8 + 1) ls _ _ (by omega) (by omega) (rg_y hcnt hkb.1 hkl hkb.2 (gz_y hgt hc49)) (⟨fun q => absurd q (by omega), fun q => absurd q (by omega)⟩) (lv_sub hl [2, 3, 4, 1, 0] rfl) hP hD hS
  exact key23 _ a 0 ls _ _ (Nat.lt_succ_self _) (⟨Nat.le_refl _, ha31⟩) (⟨fun _ => (rgC_lo a (fun i h1 => hal i h1 (by omega))).symm, Nat.zero_le _⟩) (⟨fun _ => rfl, fun _ => rfl⟩) (lv_sub hl [3, 4, 2, 1, 0] rfl) hP hD hS
