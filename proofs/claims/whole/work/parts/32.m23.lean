theorem pv_args {n v key : Int32} {V : Nat} (hV : V ≤ 16) (h1 : ¬ (n < nI 1 ∨ nI V < n)) (h2 : ¬ (v < nI 0 ∨ n - nI 1 < v)) (h3 : ¬ (key < nI 0 ∨ nI 47 < key)) : ∃ n1 v1 k1 : Nat, 1 ≤ n1 ∧ n1 ≤ V ∧ v1 < n1 ∧ k1 < 48 ∧ n = nI n1 ∧ v = nI v1 ∧ key = nI k1 := by
  obtain ⟨k1, hk, ek⟩ := ky_in h3
  obtain ⟨n1, hn, en'⟩ := nI_of2 (x := n) (M := nI V) (n := V) (nI_toInt (by omega)) (fun q => h1 (Or.inl (Int32.lt_trans q (by decide)))) (Int32.not_lt.mp (fun q => h1 (Or.inr q)))
  have hn0 : 1 ≤ n1 := by
    apply Classical.byContradiction
    intro q
    obtain rfl : n1 = 0 := by omega
    exact h1 (Or.inl (by rw [en']; decide))
  obtain ⟨v1, hv, ev⟩ := m_idx (N := 16) en' (by omega) h2
  exact ⟨n1, v1, k1, hn0, hn, hv, hk, en', ev, ek⟩
theorem pv_no {n1 v1 k1 V : Nat} (hV : V ≤ 16) (h1 : 1 ≤ n1) (h2 : n1 ≤ V) (h3 : v1 < n1) (h4 : k1 < 48) : ¬ ((nI n1 < nI 1 ∨ nI V < nI n1) ∨ (nI v1 < nI 0 ∨ nI n1 - nI 1 < nI v1) ∨ (nI k1 < nI 0 ∨ nI 47 < nI k1)) := by
  rw [pk_sub h1]
  rintro ((q | q) | (q | q) | (q | q))
  · exact nI_nlt h1 (by omega) q
  · exact nI_nlt h2 (by omega) q
  · exact nI_nlt (Nat.zero_le _) (by omega) q
  · exact nI_nlt (show v1 ≤ n1 - 1 by omega) (by omega) q
  · exact nI_nlt (Nat.zero_le _) (by omega) q
  · exact nI_nlt (show k1 ≤ 47 by omega) (by omega) q
/-- the bytes of a chunk's items -/
def ckL : List kv_I → List Int32
  | [] => []
  | x :: r => ((nI x.1 &&& nI 255) :: ib x.2) ++ ckL r
theorem ckB_rows (g : Nat → Nat → Int32) : ∀ (P : List kv_I) (s : Nat), (∀ j y, P[j]? = some y → g 13 (s + j) = nI y.1 ∧ g 14 (s + j) = y.2) → ckB g s P.length = ckL P := by
  intro P
  induction P with
  | nil => intro s _; rfl
  | cons x r ih =>
    intro s h
    have h0 := h 0 x rfl
    rw [Nat.add_zero] at h0
    rw [List.length_cons, ckB, ckL, h0.1, h0.2, ih (s + 1) (fun j y hj => by
      have := h (j + 1) y (by simpa using hj)
      rw [show s + 1 + j = s + (j + 1) by omega]
      exact this)]
theorem ckL_len : ∀ P : List kv_I, (ckL P).length = 5 * P.length := by
  intro P
  induction P with
  | nil => rfl
  | cons x r ih => rw [ckL, List.length_append, ih, List.length_cons, List.length_cons, ib_len]; omega
/-- the bytes of the levels below e, the highest first -/
def lvB (key : Nat) (X : List kv_I) : Nat → List Int32
  | 0 => []
  | l + 1 => ([nI (im l (pc_ key (pa l X))).length &&& nI 255] ++ ckL (im l (pc_ key (pa l X)))) ++ lvB key X l
theorem lvB_len {key : Nat} {X : List kv_I} (h : so X) {e : Nat} (he : e ≤ 3) : (lvB key X e).length ≤ 330 := by
  by_cases hX : X = []
  · have hp : ∀ l, pa l X = [] := fun l => by rw [hX]; exact pa_nil.mpr rfl
    have hz : ∀ l, (im l (pc_ key (pa l X))).length = 0 := fun l => by
      rw [hp l]
      show (im l []).length = 0
      cases l with
      | zero => rfl
      | succ l => rw [im_succ, pa_nil.mpr rfl]; rfl
    have hl : ∀ e, (lvB key X e).length = e := by
      intro e
      induction e with
      | zero => rfl
      | succ e ih => rw [lvB, List.length_append, List.length_append, ckL_len, hz, ih, List.length_singleton]; omega
    rw [hl]; omega
  have hs : ∀ l, so (pc_ key (pa l X)) := fun l => pa_so h (pc_mem (fun q => hX (pa_nil.mp q)))
  have h0 := im_len (hs 0) 0
  have h1 : (im 1 (pc_ key (pa 1 X))).length ≤ 13 := by rw [im_succ, List.length_map]; exact pa_c0 (hs 1)
  have h2 : (im 2 (pc_ key (pa 2 X))).length ≤ 3 := by rw [im_succ, List.length_map]; exact pa_c1 (hs 2)
  have e0 : (lvB key X 0).length = 0 := rfl
  have hst : ∀ l, (lvB key X (l + 1)).length = 1 + 5 * (im l (pc_ key (pa l X))).length + (lvB key X l).length := fun l => by rw [lvB, List.length_append, List.length_append, ckL_len, List.length_singleton]
  have s0 : (lvB key X 1).length = 1 + 5 * (im 0 (pc_ key (pa 0 X))).length + (lvB key X 0).length := hst 0
  have s1 : (lvB key X 2).length = 1 + 5 * (im 1 (pc_ key (pa 1 X))).length + (lvB key X 1).length := hst 1
  have s2 : (lvB key X 3).length = 1 + 5 * (im 2 (pc_ key (pa 2 X))).length + (lvB key X 2).length := hst 2
  have hc : e = 0 ∨ e = 1 ∨ e = 2 ∨ e = 3 := by omega
  rcases hc with rfl | rfl | rfl | rfl <;> omega
/-- the bytes of a proof -/
def prB (f4 : Nat → Int32) (n v key : Nat) (X : List kv_I) : List Int32 := (([nI (wyL 5 0 n v).length &&& nI 255] ++ bi f4 (wyL 5 0 n v)) ++ [nI (hg X) &&& nI 255]) ++ lvB key X (hg X)
theorem prB_len {f4 : Nat → Int32} {n v key : Nat} {X : List kv_I} (h : so X) (hw : (wyL 5 0 n v).length ≤ 5) : (prB f4 n v key X).length ≤ 400 := by
  have := lvB_len (key := key) h (hg_le X)
  unfold prB
  simp only [List.length_append, List.length_singleton, bi_len]
  omega
theorem prf_c {g u : Nat → Nat → Int32} {B : List Int32} (h21 : u 21 = g 21) (h22 : u 22 = g 22) (h : prf g B) : prf u B := by
  unfold prf at h ⊢
  rw [h21, h22]
  exact h
theorem ch_ky {g : Nat → Nat → Int32} {X : List kv_I} {l : Nat} (hX : so X) (hn : X ≠ []) (hr : lr g l (im l X)) : ∀ j, 48 * l ≤ j → j < 48 * l + (im l X).length → g 13 j = nI ((im l X).getD (j - 48 * l) (0, 0)).1 ∧ ((im l X).getD (j - 48 * l) (0, 0)).1 < 256 := by
  intro j h1 h2
  have hj : j - 48 * l < (im l X).length := by omega
  have e1 := lr_ky hr hj
  rw [show 48 * l + (j - 48 * l) = j by omega] at e1
  refine ⟨e1, ?_⟩
  rw [List.getD_eq_getElem?_getD, List.getElem?_eq_getElem hj, Option.getD_some]
  have := im_max hX _ (List.getElem_mem hj)
  have := lk_lt hX hn
  omega
theorem ch_fs {X : List kv_I} {l key : Nat} (hn : X ≠ []) : fs_ (fun j => decide (key ≤ ((im l X).getD (j - 48 * l) (0, 0)).1)) (48 * l + (im l X).length) (48 * l) = 48 * l + pf key (im l X) := by
  have h := fs_sh (F := fun j => decide (key ≤ ((im l X).getD (j - 48 * l) (0, 0)).1)) (s := 48 * l) (n := (im l X).length) (im l X).length 0 rfl
  rw [Nat.add_zero] at h
  rw [h, ← pf_fs0 key (im_ne hn)]
  have e : (fun j => decide (key ≤ ((im l X).getD (48 * l + j - 48 * l) (0, 0)).1)) = fun j => decide (key ≤ ((im l X).getD j (0, 0)).1) := by
    funext j
    rw [Nat.add_sub_cancel_left]
  rw [e]

set_option maxHeartbeats 4000000 in
set_option maxRecDepth 100000 in
theorem c_M_prove (l : Launch) (D : va_G) (tk : Nat → ClassId) (sz : Nat) (h : Nat) (ad : Nat → Nat) (g : Nat → Nat → Int32) (la : Nat → Int64) (tl : va_W) (V : Nat) (hV1 : 1 ≤ V) (hV2 : V ≤ 16) (hV : g 3 0 = nI V) (fv : Nat → Nat → Option Int32) (hfv : ∀ j, j < V → ∀ k, k < 48 → (g 1 (48 * j + k) = 0 ↔ fv j k = none) ∧ ∀ v, fv j k = some v → g 2 (48 * j + k) = v) (n9 v9 key9 : Int32) : Met l y_M_prove w_M_prove ({ frames := 4, cells := 0, slots := 0, locals := 90 }) (va_Pc [.ref h, .int n9, .int v9, .int key9] (k_pre D (TY tk) sz (wM tk h ad g la ++ tl))) (va_Qi (fun (r : Int32) (u : Nat → Nat → Int32) => (((n9 < nI 1 ∨ nI V < n9) ∨ (v9 < nI 0 ∨ n9 - nI 1 < v9) ∨ (key9 < nI 0 ∨ nI 47 < key9)) → r = 0 ∧ u = mup g 0 0 (nI 1)) ∧ ∀ n1 v1 k1 : Nat, n9 = nI n1 → v9 = nI v1 → key9 = nI k1 → 1 ≤ n1 → n1 ≤ V → v1 < n1 → k1 < 48 → prf u (prB (g 4) n1 v1 k1 (ol (fv v1) 48)) ∧ r = nI (prB (g 4) n1 v1 k1 (ol (fv v1) 48)).length ∧ u 0 0 = nI 0 ∧ frx [0, 11, 12, 13, 14, 15, 16, 17, 18, 19, 20, 21, 22] g u) (fun u t => k_at D (TY tk) (va_A (wM tk h ad g la ++ tl) sz) ((fun u => wM tk h ad u la ++ tl) u) t) (va_A (wM tk h ad g la ++ tl) sz)) 0 0 (va_A (wM tk h ad g la ++ tl) sz) := by
  refine k_ofW (fun A => va_Qi (fun (r : Int32) (u : Nat → Nat → Int32) => (((n9 < nI 1 ∨ nI V < n9) ∨ (v9 < nI 0 ∨ n9 - nI 1 < v9) ∨ (key9 < nI 0 ∨ nI 47 < key9)) → r = 0 ∧ u = mup g 0 0 (nI 1)) ∧ ∀ n1 v1 k1 : Nat, n9 = nI n1 → v9 = nI v1 → key9 = nI k1 → 1 ≤ n1 → n1 ≤ V → v1 < n1 → k1 < 48 → prf u (prB (g 4) n1 v1 k1 (ol (fv v1) 48)) ∧ r = nI (prB (g 4) n1 v1 k1 (ol (fv v1) 48)).length ∧ u 0 0 = nI 0 ∧ frx [0, 11, 12, 13, 14, 15, 16, 17, 18, 19, 20, 21, 22] g u) (fun u t => k_at D (TY tk) A ((fun u => wM tk h ad u la ++ tl) u) t) A) (by decide) (Nat.le_of_ble_eq_true rfl) ?_
  intro p e s m args below meth c Q A ls hQ hx hb hr hlk hin hts hT hown hml hnw hP hK hD hA hsz hl
  have hS : va_S A s.heap s.heap [] := va_S.rf
  have hc0 : 0 + 0 ≤ 0 ∧ 0 + 0 ≤ 0 := ⟨by decide, by decide⟩
  replace hl : lv_has ls 7 [(0, .ref h), (1, .int n9), (2, .int v9), (3, .int key9)] := hl
  replace hP : va_P D CC (wM tk h ad g la ++ tl) s.heap := hP
  replace hK : va_K D CC (TY tk) s := hK
  refine lv_iload_n hx hb d_M_prove_0 rfl (lv_at hl 1 rfl) ?_
  refine lv_iconst (v := nI 1) hx hb d_M_prove_1 (by decide) ?_
  refine lv_aload_n hx hb d_M_prove_2 rfl (lv_at hl 0 rfl) ?_
  refine gf_M_69 (v := .int (g 3 0)) hx hb hT hown hK hP 0 rfl rfl d_M_prove_3 ?_
  refine st_top (show g 3 0 = nI V from hV) ?_
  refine k_calli (va_runS (As := [.int n9, .int (nI 1), .int (nI V)]) (rest := []) ⟨hx, hb, hml, hown, hts⟩ (c_M_outside l D tk s.heap.size n9 (nI 1) (nI V) (wM tk h ad g la ++ tl)) (cwS 3 hts (gS t_1041 t_1042 t_9 t_1043) rfl rfl rfl (by decide +kernel) ⟨Nat.le_of_ble_eq_true rfl, Nat.le_of_ble_eq_true rfl⟩) (k_preS hP hK hD hnw) rfl rfl hl.1 rfl (lv_room (Nat.le_of_ble_eq_true rfl)) d_M_prove_6 hc0) hD hS hA (fun _ _ H locs hp6 hP hD hK hS => ?_)
  subst hp6
  replace hP : va_P D CC (wM tk h ad g la ++ tl) H := hP
  replace hD : va_D A (wM tk h ad g la ++ tl) := hD
  refine lv_if_ne hx hb d_M_prove_9 (tgt := 33) (by decide) (fun hc9 => ?_) (fun hc9 => ?_)
  · skip
    have hbad : ((n9 < nI 1 ∨ nI V < n9) ∨ (v9 < nI 0 ∨ n9 - nI 1 < v9) ∨ (key9 < nI 0 ∨ nI 47 < key9)) := Or.inl (Classical.byContradiction (fun q => hc9 (by rw [if_neg q])))
    refine lv_aload_n hx hb d_M_prove_33 rfl (lv_at hl 0 rfl) ?_
    refine lv_iconst (v := nI 1) hx hb d_M_prove_34 (by decide) ?_
    refine k_calli (va_runV (As := [.int (nI 1)]) (rest := []) ⟨hx, hb, hml, hown, hts⟩ (c_M_refuse l D tk H.size h ad g la tl (nI 1) ) (cwV 1 hts (gV t_1060 t_1062 s_17 t_9 t_1063) rfl rfl rfl (by decide +kernel) ⟨Nat.le_of_ble_eq_true rfl, Nat.le_of_ble_eq_true rfl⟩) (k_preV hP hK hD hnw 0 rfl rfl) rfl rfl hl.1 rfl (lv_room (Nat.le_of_ble_eq_true rfl)) d_M_prove_35 hc0) hD hS hA (fun _ _ H locs hp35 hP hD hK hS => ?_)
    subst hp35
    replace hP : va_P D CC (wM tk h ad (mup g 0 0 (nI 1)) la ++ tl) H := hP
    replace hD : va_D A (wM tk h ad (mup g 0 0 (nI 1)) la ++ tl) := hD
    exact k_iret (v := 0) hQ hx hb hr hlk hK hP hD hS (mup g 0 0 (nI 1)) rfl (⟨fun _ => ⟨rfl, rfl⟩, fun n1 v1 k1 e1 e2 e3 q1 q2 q3 q4 => absurd hbad (by rw [e1, e2, e3]; exact pv_no hV2 q1 q2 q3 q4)⟩) d_M_prove_38
  · skip
    refine lv_iload_n hx hb d_M_prove_12 rfl (lv_at hl 2 rfl) ?_
    refine lv_iconst (v := nI 0) hx hb d_M_prove_13 (by decide) ?_
    refine lv_iload_n hx hb d_M_prove_14 rfl (lv_at hl 1 rfl) ?_
    refine lv_iconst (v := nI 1) hx hb d_M_prove_15 (by decide) ?_
    refine lv_isub hx hb d_M_prove_16 ?_
    refine k_calli (va_runS (As := [.int v9, .int (nI 0), .int (n9 - (nI 1))]) (rest := []) ⟨hx, hb, hml, hown, hts⟩ (c_M_outside l D tk H.size v9 (nI 0) (n9 - (nI 1)) (wM tk h ad g la ++ tl)) (cwS 3 hts (gS t_1041 t_1042 t_9 t_1043) rfl rfl rfl (by decide +kernel) ⟨Nat.le_of_ble_eq_true rfl, Nat.le_of_ble_eq_true rfl⟩) (k_preS hP hK hD hnw) rfl rfl hl.1 rfl (lv_room (Nat.le_of_ble_eq_true rfl)) d_M_prove_17 hc0) hD hS hA (fun _ _ H locs hp17 hP hD hK hS => ?_)
    subst hp17
    replace hP : va_P D CC (wM tk h ad g la ++ tl) H := hP
    replace hD : va_D A (wM tk h ad g la ++ tl) := hD
    refine lv_if_ne hx hb d_M_prove_20 (tgt := 33) (by decide) (fun hc20 => ?_) (fun hc20 => ?_)
    · skip
      have hbad : ((n9 < nI 1 ∨ nI V < n9) ∨ (v9 < nI 0 ∨ n9 - nI 1 < v9) ∨ (key9 < nI 0 ∨ nI 47 < key9)) := Or.inr <| Or.inl (Classical.byContradiction (fun q => hc20 (by rw [if_neg q])))
      refine lv_aload_n hx hb d_M_prove_33 rfl (lv_at hl 0 rfl) ?_
      refine lv_iconst (v := nI 1) hx hb d_M_prove_34 (by decide) ?_
      refine k_calli (va_runV (As := [.int (nI 1)]) (rest := []) ⟨hx, hb, hml, hown, hts⟩ (c_M_refuse l D tk H.size h ad g la tl (nI 1) ) (cwV 1 hts (gV t_1060 t_1062 s_17 t_9 t_1063) rfl rfl rfl (by decide +kernel) ⟨Nat.le_of_ble_eq_true rfl, Nat.le_of_ble_eq_true rfl⟩) (k_preV hP hK hD hnw 0 rfl rfl) rfl rfl hl.1 rfl (lv_room (Nat.le_of_ble_eq_true rfl)) d_M_prove_35 hc0) hD hS hA (fun _ _ H locs hp35 hP hD hK hS => ?_)
      subst hp35
      replace hP : va_P D CC (wM tk h ad (mup g 0 0 (nI 1)) la ++ tl) H := hP
      replace hD : va_D A (wM tk h ad (mup g 0 0 (nI 1)) la ++ tl) := hD
      exact k_iret (v := 0) hQ hx hb hr hlk hK hP hD hS (mup g 0 0 (nI 1)) rfl (⟨fun _ => ⟨rfl, rfl⟩, fun n1 v1 k1 e1 e2 e3 q1 q2 q3 q4 => absurd hbad (by rw [e1, e2, e3]; exact pv_no hV2 q1 q2 q3 q4)⟩) d_M_prove_38
    · skip
      refine lv_iload_n hx hb d_M_prove_23 rfl (lv_at hl 3 rfl) ?_
      refine lv_iconst (v := nI 0) hx hb d_M_prove_24 (by decide) ?_
      refine lv_bipush (v := nI 47) hx hb d_M_prove_25 (by decide) ?_
      refine k_calli (va_runS (As := [.int key9, .int (nI 0), .int (nI 47)]) (rest := []) ⟨hx, hb, hml, hown, hts⟩ (c_M_outside l D tk H.size key9 (nI 0) (nI 47) (wM tk h ad g la ++ tl)) (cwS 3 hts (gS t_1041 t_1042 t_9 t_1043) rfl rfl rfl (by decide +kernel) ⟨Nat.le_of_ble_eq_true rfl, Nat.le_of_ble_eq_true rfl⟩) (k_preS hP hK hD hnw) rfl rfl hl.1 rfl (lv_room (Nat.le_of_ble_eq_true rfl)) d_M_prove_27 hc0) hD hS hA (fun _ _ H locs hp27 hP hD hK hS => ?_)
      subst hp27
      replace hP : va_P D CC (wM tk h ad g la ++ tl) H := hP
      replace hD : va_D A (wM tk h ad g la ++ tl) := hD
      refine lv_if_eq hx hb d_M_prove_30 (tgt := 39) (by decide) (fun hc30 => ?_) (fun hc30 => ?_)
      · skip
        have hb1 : ¬ (n9 < nI 1 ∨ nI V < n9) := fun q => by rw [if_pos q] at hc9; exact absurd hc9 (by decide)
        have hb2 : ¬ (v9 < nI 0 ∨ n9 - nI 1 < v9) := fun q => by rw [if_pos q] at hc20; exact absurd hc20 (by decide)
        have hb3 : ¬ (key9 < nI 0 ∨ nI 47 < key9) := fun q => by rw [if_pos q] at hc30; exact absurd hc30 (by decide)
        obtain ⟨a1, a2, k1, h1, h2, h3, h4, rfl, rfl, rfl⟩ := pv_args hV2 hb1 hb2 hb3
        have hgk := wy_ok9 a1 (by omega) a2 (by omega) h3
        refine lv_aload_n hx hb d_M_prove_39 rfl (lv_at hl 0 rfl) ?_
        refine lv_iconst (v := nI 0) hx hb d_M_prove_40 (by decide) ?_
        refine pf_M_73 hx hb hT hown hK hP hD hS 0 rfl (Nat.le_of_ble_eq_true rfl) d_M_prove_41 (fun H locs hP hD hS => ?_)
        replace hP : va_P D CC (wM tk h ad (mup g 0 0 (nI 0)) la ++ tl) H := Eq.mp (congrArg (fun w => va_P D CC w H) (sM_0 tk h ad g la tl (nI 0))) hP
        replace hD : va_D A (wM tk h ad (mup g 0 0 (nI 0)) la ++ tl) := Eq.mp (congrArg (fun w => va_D A w) (sM_0 tk h ad g la tl (nI 0))) hD
        refine lv_aload_n hx hb d_M_prove_44 rfl (lv_at hl 0 rfl) ?_
        refine lv_iload_n hx hb d_M_prove_45 rfl (lv_at hl 1 rfl) ?_
        refine lv_iload_n hx hb d_M_prove_46 rfl (lv_at hl 2 rfl) ?_
        refine k_callv (va_runV (As := [.int (nI a1), .int (nI a2)]) (rest := []) ⟨hx, hb, hml, hown, hts⟩ (c_M_way l D tk H.size h ad (mup g 0 0 (nI 0)) la tl a1 a2 (by omega) (by omega) (by omega)) (cwV 2 hts (gV t_1153 t_1155 s_29 t_9 t_1156) rfl rfl rfl (by decide +kernel) ⟨Nat.le_of_ble_eq_true rfl, Nat.le_of_ble_eq_true rfl⟩) (k_preV hP hK hD hnw 0 rfl rfl) rfl rfl hl.1 rfl (lv_room (Nat.le_of_ble_eq_true rfl)) d_M_prove_47 hc0) hD hS hA (fun _ H locs hp47 hP hD hK hS => ?_)
        replace hP : va_P D CC (wM tk h ad (sdL (mup (mup g 0 0 (nI 0)) 17 0 (nI 0)) 0 (wyL 5 0 a1 a2)) la ++ tl) H := hP
        replace hD : va_D A (wM tk h ad (sdL (mup (mup g 0 0 (nI 0)) 17 0 (nI 0)) 0 (wyL 5 0 a1 a2)) la ++ tl) := hD
        refine lv_aload_n hx hb d_M_prove_50 rfl (lv_at hl 0 rfl) ?_
        refine k_callv (va_runV (As := []) (rest := []) ⟨hx, hb, hml, hown, hts⟩ (c_M_outBeside l D tk H.size h ad (sdL (mup (mup g 0 0 (nI 0)) 17 0 (nI 0)) 0 (wyL 5 0 a1 a2)) la tl (wyL 5 0 a1 a2) (bs_way _ _) hgk.1 hgk.2) (cwV 0 hts (gV t_1164 t_1166 s_31 t_9 t_1167) rfl rfl rfl (by decide +kernel) ⟨Nat.le_of_ble_eq_true rfl, Nat.le_of_ble_eq_true rfl⟩) (k_preV hP hK hD hnw 0 rfl rfl) rfl rfl hl.1 rfl (lv_room (Nat.le_of_ble_eq_true rfl)) d_M_prove_51 hc0) hD hS hA (fun u51 H locs hp51 hP hD hK hS => ?_)
        obtain ⟨hpr51, hfo51⟩ := hp51
        replace hP : va_P D CC (wM tk h ad u51 la ++ tl) H := hP
        replace hD : va_D A (wM tk h ad u51 la ++ tl) := hD
        have hg4 : sdL (mup (mup g 0 0 (nI 0)) 17 0 (nI 0)) 0 (wyL 5 0 a1 a2) 4 = g 4 := (wy_fr _ _ 4 (by decide)).trans (mup_ne (by decide))
        rw [hg4] at hpr51
        have hF51 : frx [0, 15, 16, 17, 18, 19, 20, 21, 22] g u51 := frx_t (frx_t (L := [0]) frx_m (wy_fr _ _) (M := [0, 17, 18, 19, 20]) (fun x h => ⟨fun q => h (by simp at q ⊢; omega), fun q => h (by simp at q ⊢; omega)⟩)) hfo51 (fun x h => ⟨fun q => h (by simp at q ⊢; omega), fun q => h (by simp at q ⊢; omega)⟩)
        refine lv_aload_n hx hb d_M_prove_54 rfl (lv_at hl 0 rfl) ?_
        refine lv_iload_n hx hb d_M_prove_55 rfl (lv_at hl 2 rfl) ?_
        refine k_calli (va_runV (As := [.int (nI a2)]) (rest := []) ⟨hx, hb, hml, hown, hts⟩ (c_M_raise l D tk H.size h ad u51 la tl a2 (by omega) (fv a2) (fun k hk => by rw [hF51 1 (by decide), hF51 2 (by decide)]; exact hfv a2 (by omega) k hk)) (cwV 1 hts (gV t_1064 t_1066 s_18 t_9 t_1067) rfl rfl rfl (by decide +kernel) ⟨Nat.le_of_ble_eq_true rfl, Nat.le_of_ble_eq_true rfl⟩) (k_preV hP hK hD hnw 0 rfl rfl) rfl rfl hl.1 rfl (lv_room (Nat.le_of_ble_eq_true rfl)) d_M_prove_56 hc0) hD hS hA (fun r56 u56 H locs hp56 hP hD hK hS => ?_)
        obtain ⟨r11, rrow, _, rfr⟩ := hp56
        have hB56 : prf u56 ([nI (wyL 5 0 a1 a2).length &&& nI 255] ++ bi (g 4) (wyL 5 0 a1 a2)) := prf_c (rfr 21 (by decide)) (rfr 22 (by decide)) hpr51
        have hw20 : ([nI (wyL 5 0 a1 a2).length &&& nI 255] ++ bi (g 4) (wyL 5 0 a1 a2)).length ≤ 21 := by rw [List.length_append, bi_len, List.length_singleton]; omega
        have hh3 := hg_le (ol (fv a2) 48)
        replace hP : va_P D CC (wM tk h ad u56 la ++ tl) H := hP
        replace hD : va_D A (wM tk h ad u56 la ++ tl) := hD
        refine lv_pop hx hb d_M_prove_59 rfl ?_
        refine lv_aload_n hx hb d_M_prove_60 rfl (lv_at hl 0 rfl) ?_
        refine lv_aload_n hx hb d_M_prove_61 rfl (lv_at hl 0 rfl) ?_
        refine gf_M_89 (v := .int (u56 11 0)) hx hb hT hown hK hP 0 rfl rfl d_M_prove_62 ?_
        refine st_top (show u56 11 0 = nI (hg (ol (fv a2) 48)) from r11) ?_
        refine k_callv (va_runV (As := [.int (nI (hg (ol (fv a2) 48)))]) (rest := []) ⟨hx, hb, hml, hown, hts⟩ (c_M_out l D tk H.size h ad u56 la tl ([nI (wyL 5 0 a1 a2).length &&& nI 255] ++ bi (g 4) (wyL 5 0 a1 a2)).length (nI (hg (ol (fv a2) 48))) (by omega) hB56.1) (cwV 1 hts (gV t_1168 t_1170 s_32 t_9 t_1171) rfl rfl rfl (by decide +kernel) ⟨Nat.le_of_ble_eq_true rfl, Nat.le_of_ble_eq_true rfl⟩) (k_preV hP hK hD hnw 0 rfl rfl) rfl rfl hl.1 rfl (lv_room (Nat.le_of_ble_eq_true rfl)) d_M_prove_65 hc0) hD hS hA (fun _ H locs hp65 hP hD hK hS => ?_)
        have hB65 : prf (ouM u56 ([nI (wyL 5 0 a1 a2).length &&& nI 255] ++ bi (g 4) (wyL 5 0 a1 a2)).length (nI (hg (ol (fv a2) 48)))) (([nI (wyL 5 0 a1 a2).length &&& nI 255] ++ bi (g 4) (wyL 5 0 a1 a2)) ++ [(nI (hg (ol (fv a2) 48))) &&& nI 255]) := prf_out hB56 _
        replace hP : va_P D CC (wM tk h ad (ouM u56 ([nI (wyL 5 0 a1 a2).length &&& nI 255] ++ bi (g 4) (wyL 5 0 a1 a2)).length (nI (hg (ol (fv a2) 48)))) la ++ tl) H := hP
        replace hD : va_D A (wM tk h ad (ouM u56 ([nI (wyL 5 0 a1 a2).length &&& nI 255] ++ bi (g 4) (wyL 5 0 a1 a2)).length (nI (hg (ol (fv a2) 48)))) la ++ tl) := hD
        refine lv_aload_n hx hb d_M_prove_68 rfl (lv_at hl 0 rfl) ?_
        refine gf_M_89 (v := .int ((ouM u56 ([nI (wyL 5 0 a1 a2).length &&& nI 255] ++ bi (g 4) (wyL 5 0 a1 a2)).length (nI (hg (ol (fv a2) 48)))) 11 0)) hx hb hT hown hK hP 0 rfl rfl d_M_prove_69 ?_
        refine st_top (show (ouM u56 ([nI (wyL 5 0 a1 a2).length &&& nI 255] ++ bi (g 4) (wyL 5 0 a1 a2)).length (nI (hg (ol (fv a2) 48)))) 11 0 = nI (hg (ol (fv a2) 48)) from (congrFun (frx_ou 11 (by decide)) 0).trans r11) ?_
        refine lv_iconst (v := nI 1) hx hb d_M_prove_72 (by decide) ?_
        refine lv_isub hx hb d_M_prove_73 ?_
        refine lv_istore (lv' := [(4, .int ((nI (hg (ol (fv a2) 48))) - (nI 1))), (0, .ref h), (1, .int (nI a1)), (2, .int (nI a2)), (3, .int (nI k1))]) hx hb d_M_prove_74 hl (by decide) rfl (fun ls hl => ?_)
        replace hl : lv_has ls 7 [(4, .int (dm (hg (ol (fv a2) 48)))), (0, .ref h), (1, .int (nI a1)), (2, .int (nI a2)), (3, .int (nI k1))] := hl
        have key76 : ∀ (n76 : Nat) (c0 : Nat) (B : List Int32) (γ : Nat → Nat → Int32) (ls : Array Slot) (H : Heap) (locs : List Loc), c0 < n76 → (c0 ≤ hg (ol (fv a2) 48)) → (B ++ lvB k1 (ol (fv a2) 48) c0 = prB (g 4) a1 a2 k1 (ol (fv a2) 48)) → (prf γ B) → (frx [21, 22] u56 γ) → lv_has ls 7 [(0, .ref h), (1, .int (nI a1)), (2, .int (nI a2)), (3, .int (nI k1)), (4, .int (dm c0))] → va_P D CC (wM tk h ad γ la ++ tl) H → va_D A (wM tk h ad γ la ++ tl) → va_S A s.heap H locs → W p l e ({ frames := 4, cells := 0, slots := 0, locals := 90 } : Room) s m args below meth c H locs 0 0 Q (F0 m 76 ls []) := by
          intro n76
          induction n76 with
          | zero => intro c0 B γ ls H locs hn; exact absurd hn (Nat.not_lt_zero _)
          | succ n76 ih76 =>
            intro c0 B γ ls H locs hn76 hc hBe hB hfr hl hP hD hS
            refine lv_iload hx hb d_M_prove_76 (lv_at hl 4 rfl) ?_
            refine lv_if_lt hx hb d_M_prove_78 (tgt := 147) (by decide) (fun hc78 => ?_) (fun hc78 => ?_)
            · skip
              obtain rfl : c0 = 0 := dm_lt (by omega) hc78
              rw [lvB, List.append_nil] at hBe
              subst hBe
              refine lv_aload_n hx hb d_M_prove_147 rfl (lv_at hl 0 rfl) ?_
              refine gf_M_165 (v := .int (γ 21 0)) hx hb hT hown hK hP 0 rfl rfl d_M_prove_148 ?_
              exact k_iret (v := γ 21 0) hQ hx hb hr hlk hK hP hD hS γ rfl (⟨fun q => absurd q (pv_no hV2 h1 h2 h3 h4), fun n1 v1 k2 e1 e2 e3 q1 q2 q3 q4 => by obtain rfl := (nI_eq (by omega) (by omega)).mp e1; obtain rfl := (nI_eq (by omega) (by omega)).mp e2; obtain rfl := (nI_eq (by omega) (by omega)).mp e3; exact ⟨hB, hB.1, (congrFun (hfr 0 (by decide)) 0).trans ((congrFun (rfr 0 (by decide)) 0).trans ((congrFun (hfo51 0 (by decide)) 0).trans ((congrFun (wy_fr _ _ 0 (by decide)) 0).trans rd_eq))), frx_t (frx_t hF51 rfr (M := [0, 11, 12, 13, 14, 15, 16, 17, 18, 19, 20, 21, 22]) (fun x h => ⟨fun q => h (by simp at q ⊢; omega), fun q => h (by simp at q ⊢; omega)⟩)) hfr (fun x h => ⟨fun q => h (by simp at q ⊢; omega), fun q => h (by simp at q ⊢; omega)⟩)⟩⟩) d_M_prove_151
            · skip
              have hc1 : 1 ≤ c0 := dm_nlt hc78
              obtain ⟨lv, rfl⟩ : ∃ lv, c0 = lv + 1 := ⟨c0 - 1, by omega⟩
              rw [dm_eq hc1, Nat.add_sub_cancel] at hl
              have hXn : (ol (fv a2) 48) ≠ [] := fun q => by rw [q, show hg ([] : List kv_I) = 0 from if_pos rfl] at hc; omega
              have hrc : lr γ lv (im lv (ol (fv a2) 48)) := lr_c (rrow lv (by omega)) (by rw [hfr 12 (by decide)]) (hfr 13 (by decide)) (hfr 14 (by decide))
              obtain ⟨a, b, hab, hpf, hco⟩ := ch_level (key := k1) (ol_is (fv a2)) hXn hrc
              have hpr := piece_rows hrc hab
              have hi48 := im_len (ol_is (fv a2)) lv
              have hlen := congrArg List.length hBe
              have hpl := prB_len (f4 := g 4) (key := k1) (ol_is (fv a2)) hgk.1
              rw [← hlen, List.length_append, lvB, List.length_append, List.length_append, ckL_len, List.length_singleton] at hpl
              refine lv_aload_n hx hb d_M_prove_81 rfl (lv_at hl 0 rfl) ?_
              refine gf_M_33 (v := .ref (ad 13)) hx hb hT hown hK hP 0 rfl rfl d_M_prove_82 ?_
              refine lv_bipush (v := nI 48) hx hb d_M_prove_85 (by decide) ?_
              refine lv_iload hx hb d_M_prove_87 (lv_at hl 4 rfl) ?_
              refine st_imul hx hb d_M_prove_89 ?_
              refine lv_bipush (v := nI 48) hx hb d_M_prove_90 (by decide) ?_
              refine lv_iload hx hb d_M_prove_92 (lv_at hl 4 rfl) ?_
              refine st_imul hx hb d_M_prove_94 ?_
              refine lv_aload_n hx hb d_M_prove_95 rfl (lv_at hl 0 rfl) ?_
              refine gf_M_30 (v := .ref (ad 12)) hx hb hT hown hK hP 0 rfl rfl d_M_prove_96 ?_
              refine lv_iload hx hb d_M_prove_99 (lv_at hl 4 rfl) ?_
              refine st_iald hx hb hK hP 7 0 rfl rfl (by omega) (by decide) d_M_prove_101 ?_
              refine st_top (show γ 12 lv = nI ((im lv (ol (fv a2) 48)).length) from hrc.1) ?_
              refine st_iadd hx hb d_M_prove_102 ?_
              refine lv_iload_n hx hb d_M_prove_103 rfl (lv_at hl 3 rfl) ?_
              refine k_calli (va_runS (As := [.ref (ad 13), .int (nI (48 * lv)), .int (nI ((48 * lv) + ((im lv (ol (fv a2) 48)).length))), .int (nI k1)]) (rest := []) ⟨hx, hb, hml, hown, hts⟩ (c_M_choose13 l D tk H.size h ad γ la tl (48 * lv) (48 * lv + (im lv (ol (fv a2) 48)).length) k1 (fun j => ((im lv (ol (fv a2) 48)).getD (j - 48 * lv) (0, 0)).1) (by omega) (by omega) (by omega) (ch_ky (ol_is _) hXn hrc)) (cwS 4 hts (gS t_1176 t_1177 t_9 t_1178) rfl rfl rfl (by decide +kernel) ⟨Nat.le_of_ble_eq_true rfl, Nat.le_of_ble_eq_true rfl⟩) (k_preS hP hK hD hnw) rfl rfl hl.1 rfl (lv_room (Nat.le_of_ble_eq_true rfl)) d_M_prove_104 hc0) hD hS hA (fun _ _ H locs hp104 hP hD hK hS => ?_)
              subst hp104
              replace hP : va_P D CC (wM tk h ad γ la ++ tl) H := hP
              replace hD : va_D A (wM tk h ad γ la ++ tl) := hD
              refine st_top (show nI (fs_ (fun j => decide (k1 ≤ ((im lv (ol (fv a2) 48)).getD (j - 48 * lv) (0, 0)).1)) (48 * lv + (im lv (ol (fv a2) 48)).length) (48 * lv)) = nI (48 * lv + pf k1 (im lv (ol (fv a2) 48))) from congrArg nI (ch_fs hXn)) ?_
              refine lv_bipush (v := nI 48) hx hb d_M_prove_107 (by decide) ?_
              refine lv_iload hx hb d_M_prove_109 (lv_at hl 4 rfl) ?_
              refine st_imul hx hb d_M_prove_111 ?_
              refine st_isub hx hb (by omega) d_M_prove_112 ?_
              refine st_top (show nI ((48 * lv + pf k1 (im lv (ol (fv a2) 48))) - (48 * lv)) = nI (pf k1 (im lv (ol (fv a2) 48))) from by rw [Nat.add_sub_cancel_left]) ?_
              refine lv_istore (lv' := [(5, .int (nI (pf k1 (im lv (ol (fv a2) 48))))), (0, .ref h), (1, .int (nI a1)), (2, .int (nI a2)), (3, .int (nI k1)), (4, .int (nI lv))]) hx hb d_M_prove_113 hl (by decide) rfl (fun ls hl => ?_)
              refine lv_aload_n hx hb d_M_prove_115 rfl (lv_at hl 1 rfl) ?_
              refine lv_iload hx hb d_M_prove_116 (lv_at hl 5 rfl) ?_
              refine lv_iload hx hb d_M_prove_118 (lv_at hl 0 rfl) ?_
              refine k_calli (va_runV (As := [.int (nI lv), .int (nI (pf k1 (im lv (ol (fv a2) 48))))]) (rest := []) ⟨hx, hb, hml, hown, hts⟩ (c_M_chunkOf l D tk H.size h ad γ la tl lv (im lv (ol (fv a2) 48)).length (pf k1 (im lv (ol (fv a2) 48))) (fun j => ((im lv (ol (fv a2) 48)).getD j (0, 0)).1) (by omega) (by omega) hpf (fun j hj => lr_ky hrc hj)) (cwV 2 hts (gV t_1179 t_1181 s_34 t_9 t_1182) rfl rfl rfl (by decide +kernel) ⟨Nat.le_of_ble_eq_true rfl, Nat.le_of_ble_eq_true rfl⟩) (k_preV hP hK hD hnw 0 rfl rfl) rfl rfl hl.1 rfl (lv_room (Nat.le_of_ble_eq_true rfl)) d_M_prove_120 hc0) hD hS hA (fun _ _ H locs hp120 hP hD hK hS => ?_)
              subst hp120
              replace hP : va_P D CC (wM tk h ad γ la ++ tl) H := hP
              replace hD : va_D A (wM tk h ad γ la ++ tl) := hD
              refine st_top (show nI (co_ (fun j => en lv ((im lv (ol (fv a2) 48)).getD j (0, 0)).1) (pf k1 (im lv (ol (fv a2) 48)))) = nI ((a.map (im lv)).flatten.length) from congrArg nI hco) ?_
              refine lv_istore (lv' := [(6, .int (nI ((a.map (im lv)).flatten.length))), (5, .int (nI (pf k1 (im lv (ol (fv a2) 48))))), (0, .ref h), (1, .int (nI a1)), (2, .int (nI a2)), (3, .int (nI k1)), (4, .int (nI lv))]) hx hb d_M_prove_123 hl (by decide) rfl (fun ls hl => ?_)
              refine lv_aload_n hx hb d_M_prove_125 rfl (lv_at hl 2 rfl) ?_
              refine lv_iload hx hb d_M_prove_126 (lv_at hl 6 rfl) ?_
              refine lv_iload hx hb d_M_prove_128 (lv_at hl 0 rfl) ?_
              refine lv_aload_n hx hb d_M_prove_130 rfl (lv_at hl 2 rfl) ?_
              refine lv_iload hx hb d_M_prove_131 (lv_at hl 6 rfl) ?_
              refine lv_iload hx hb d_M_prove_133 (lv_at hl 0 rfl) ?_
              refine k_calli (va_runV (As := [.int (nI lv), .int (nI ((a.map (im lv)).flatten.length))]) (rest := [.int (nI ((a.map (im lv)).flatten.length)), .int (nI lv), .ref h]) ⟨hx, hb, hml, hown, hts⟩ (c_M_chunkEnd l D tk H.size h ad γ la tl lv (im lv (ol (fv a2) 48)).length ((a.map (im lv)).flatten.length) (fun j => ((im lv (ol (fv a2) 48)).getD j (0, 0)).1) (by omega) (by omega) (by omega) (by omega) hrc.1 (fun j hj => lr_ky hrc hj)) (cwV 2 hts (gV t_1072 t_1074 s_20 t_9 t_1075) rfl rfl rfl (by decide +kernel) ⟨Nat.le_of_ble_eq_true rfl, Nat.le_of_ble_eq_true rfl⟩) (k_preV hP hK hD hnw 0 rfl rfl) rfl rfl hl.1 rfl (lv_room (Nat.le_of_ble_eq_true rfl)) d_M_prove_135 hc0) hD hS hA (fun _ _ H locs hp135 hP hD hK hS => ?_)
              subst hp135
              replace hP : va_P D CC (wM tk h ad γ la ++ tl) H := hP
              replace hD : va_D A (wM tk h ad γ la ++ tl) := hD
              refine st_top (show nI (fs_ (fun j => en lv ((im lv (ol (fv a2) 48)).getD j (0, 0)).1) (im lv (ol (fv a2) 48)).length ((a.map (im lv)).flatten.length) + 1) = nI ((a.map (im lv)).flatten.length + (im lv (pc_ k1 (pa lv (ol (fv a2) 48)))).length) from congrArg nI hpr.1) ?_
              refine k_callv (va_runV (As := [.int (nI lv), .int (nI ((a.map (im lv)).flatten.length)), .int (nI ((a.map (im lv)).flatten.length + (im lv (pc_ k1 (pa lv (ol (fv a2) 48)))).length))]) (rest := []) ⟨hx, hb, hml, hown, hts⟩ (c_M_outChunk l D tk H.size h ad γ la tl lv ((a.map (im lv)).flatten.length) ((a.map (im lv)).flatten.length + (im lv (pc_ k1 (pa lv (ol (fv a2) 48)))).length) B (by omega) (by omega) (by omega) hB (by rw [Nat.add_sub_cancel_left]; omega)) (cwV 3 hts (gV t_1183 t_1185 s_35 t_9 t_1186) rfl rfl rfl (by decide +kernel) ⟨Nat.le_of_ble_eq_true rfl, Nat.le_of_ble_eq_true rfl⟩) (k_preV hP hK hD hnw 0 rfl rfl) rfl rfl hl.1 rfl (lv_room (Nat.le_of_ble_eq_true rfl)) d_M_prove_138 hc0) hD hS hA (fun u138 H locs hp138 hP hD hK hS => ?_)
              obtain ⟨hB1, hfr1⟩ := hp138
              rw [Nat.add_sub_cancel_left, ckB_rows γ _ _ hpr.2.1] at hB1
              replace hP : va_P D CC (wM tk h ad u138 la ++ tl) H := hP
              replace hD : va_D A (wM tk h ad u138 la ++ tl) := hD
              refine lv_iinc (k := 6) (v := (nI lv) + (-1)) (lv' := [(4, .int ((nI lv) + (-1))), (6, .int (nI ((a.map (im lv)).flatten.length))), (5, .int (nI (pf k1 (im lv (ol (fv a2) 48))))), (0, .ref h), (1, .int (nI a1)), (2, .int (nI a2)), (3, .int (nI k1))]) hx hb d_M_prove_141 hl rfl rfl (by decide) rfl (fun ls hl => ?_)
              refine lv_goto hx hb d_M_prove_144 (tgt := 76) (by decide) ?_
              rw [dm_m1] at hl
              exact ih76 lv ((B ++ [nI (im lv (pc_ k1 (pa lv (ol (fv a2) 48)))).length &&& nI 255]) ++ ckL (im lv (pc_ k1 (pa lv (ol (fv a2) 48))))) u138 ls _ _ (by omega) (by omega) (by rw [← hBe, lvB]; simp only [List.append_assoc]) hB1 (frx_t hfr hfr1 (fun x h => ⟨h, h⟩)) (lv_sub hl [3, 4, 5, 6, 0] rfl) hP hD hS
        exact key76 _ (hg (ol (fv a2) 48)) (([nI (wyL 5 0 a1 a2).length &&& nI 255] ++ bi (g 4) (wyL 5 0 a1 a2)) ++ [(nI (hg (ol (fv a2) 48))) &&& nI 255]) (ouM u56 ([nI (wyL 5 0 a1 a2).length &&& nI 255] ++ bi (g 4) (wyL 5 0 a1 a2)).length (nI (hg (ol (fv a2) 48)))) ls _ _ (Nat.lt_succ_self _) (by omega) rfl hB65 frx_ou (lv_sub hl [1, 2, 3, 4, 0] rfl) hP hD hS
      · skip
        have hbad : ((n9 < nI 1 ∨ nI V < n9) ∨ (v9 < nI 0 ∨ n9 - nI 1 < v9) ∨ (key9 < nI 0 ∨ nI 47 < key9)) := Or.inr <| Or.inr (Classical.byContradiction (fun q => hc30 (by rw [if_neg q])))
        refine lv_aload_n hx hb d_M_prove_33 rfl (lv_at hl 0 rfl) ?_
        refine lv_iconst (v := nI 1) hx hb d_M_prove_34 (by decide) ?_
        refine k_calli (va_runV (As := [.int (nI 1)]) (rest := []) ⟨hx, hb, hml, hown, hts⟩ (c_M_refuse l D tk H.size h ad g la tl (nI 1) ) (cwV 1 hts (gV t_1060 t_1062 s_17 t_9 t_1063) rfl rfl rfl (by decide +kernel) ⟨Nat.le_of_ble_eq_true rfl, Nat.le_of_ble_eq_true rfl⟩) (k_preV hP hK hD hnw 0 rfl rfl) rfl rfl hl.1 rfl (lv_room (Nat.le_of_ble_eq_true rfl)) d_M_prove_35 hc0) hD hS hA (fun _ _ H locs hp35 hP hD hK hS => ?_)
        subst hp35
        replace hP : va_P D CC (wM tk h ad (mup g 0 0 (nI 1)) la ++ tl) H := hP
        replace hD : va_D A (wM tk h ad (mup g 0 0 (nI 1)) la ++ tl) := hD
        exact k_iret (v := 0) hQ hx hb hr hlk hK hP hD hS (mup g 0 0 (nI 1)) rfl (⟨fun _ => ⟨rfl, rfl⟩, fun n1 v1 k1 e1 e2 e3 q1 q2 q3 q4 => absurd hbad (by rw [e1, e2, e3]; exact pv_no hV2 q1 q2 q3 q4)⟩) d_M_prove_38
