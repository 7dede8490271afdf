theorem cX_c {g γ : Nat → Nat → Int32} (h : γ 24 = g 24) (t0 p : Nat) : cX γ t0 p = cX g t0 p := by unfold cX; rw [its_c h, by_c h]
theorem cE_c {g γ : Nat → Nat → Int32} (h : γ 24 = g 24) (p : Nat) : cE γ p = cE g p := by unfold cE; rw [by_c h]
theorem trOK_c {g γ : Nat → Nat → Int32} (h : γ 24 = g 24) (t0 key : Nat) : ∀ c p ov, trOK γ t0 key c p ov ↔ trOK g t0 key c p ov := by
  intro c
  induction c with
  | zero => intro p ov; exact Iff.rfl
  | succ c ih =>
    intro p ov
    unfold trOK
    rw [pk_c h, by_c h, cX_c h, cE_c h, ih]
theorem trE_c {g γ : Nat → Nat → Int32} (h : γ 24 = g 24) : ∀ c p, trE γ c p = trE g c p := by
  intro c
  induction c with
  | zero => intro p; rfl
  | succ c ih => intro p; unfold trE; rw [cE_c h, ih]
theorem trI_c {g γ : Nat → Nat → Int32} (h : γ 24 = g 24) (t0 : Nat) : ∀ c p I, trI γ t0 c p I = trI g t0 c p I := by
  intro c
  induction c with
  | zero => intro p I; rfl
  | succ c ih => intro p I; unfold trI; rw [cE_c h, cX_c h, ih]
theorem lvP_c {g γ : Nat → Nat → Int32} (h : γ 24 = g 24) (t0 a0 key : Nat) : lvP γ t0 a0 key ↔ lvP g t0 a0 key := by unfold lvP; rw [by_c h, trOK_c h]
theorem rtP_c {g γ : Nat → Nat → Int32} (h : γ 24 = g 24) (t0 a0 : Nat) : rtP γ t0 a0 = rtP g t0 a0 := by unfold rtP; rw [by_c h, cX_c h]
/-- what the verifier of a proof asks -/
def vfP (g : Nat → Nat → Int32) (t0 : Nat) (dg : Int32) (n v key : Nat) : Prop :=
  (rdM g 0 t0 = nI (wyL 5 0 n v).length ∧ 1 + 4 * (wyL 5 0 n v).length ≤ t0) ∧ lvP g t0 (1 + 4 * (wyL 5 0 n v).length) key ∧
  trE g (by_ g (1 + 4 * (wyL 5 0 n v).length)) (1 + 4 * (wyL 5 0 n v).length + 1) = t0 ∧
  ld2 (fun j => riM g (1 + 4 * j) t0) (wyL 5 0 n v) 0 (lf v (rtP g t0 (1 + 4 * (wyL 5 0 n v).length))) = dg
def vfI (g : Nat → Nat → Int32) (t0 n v : Nat) : List kv_I := trI g t0 (by_ g (1 + 4 * (wyL 5 0 n v).length)) (1 + 4 * (wyL 5 0 n v).length + 1) []
theorem vf_args {n v key : Int32} (h1 : ¬ (n < nI 1 ∨ nI 16 < n)) (h2 : ¬ (v < nI 0 ∨ n - nI 1 < v)) (h3 : ¬ (key < nI 0 ∨ nI 47 < key)) : ∃ n1 v1 k1 : Nat, 1 ≤ n1 ∧ n1 ≤ 16 ∧ v1 < n1 ∧ k1 < 48 ∧ n = nI n1 ∧ v = nI v1 ∧ key = nI k1 := by
  obtain ⟨k1, hk, ek⟩ := ky_in h3
  obtain ⟨n1, hn, en'⟩ := nI_of2 (x := n) (M := 16) (n := 16) (by decide) (fun q => h1 (Or.inl (Int32.lt_trans q (by decide)))) (Int32.not_lt.mp (fun q => h1 (Or.inr q)))
  have hn0 : 1 ≤ n1 := by
    apply Classical.byContradiction
    intro q
    obtain rfl : n1 = 0 := by omega
    exact h1 (Or.inl (by rw [en']; decide))
  obtain ⟨v1, hv, ev⟩ := m_idx en' hn h2
  exact ⟨n1, v1, k1, hn0, hn, hv, hk, en', ev, ek⟩
theorem vf_no {n1 v1 k1 : Nat} (h1 : 1 ≤ n1) (h2 : n1 ≤ 16) (h3 : v1 < n1) (h4 : k1 < 48) : ¬ ((nI n1 < nI 1 ∨ nI 16 < nI n1) ∨ (nI v1 < nI 0 ∨ nI n1 - nI 1 < nI v1) ∨ (nI k1 < nI 0 ∨ nI 47 < nI k1)) := by
  rw [pk_sub h1]
  rintro ((q | q) | (q | q) | (q | q))
  · exact nI_nlt h1 (by omega) q
  · exact nI_nlt h2 (by omega) q
  · exact nI_nlt (Nat.zero_le _) (by omega) q
  · exact nI_nlt (by omega) (by omega) q
  · exact nI_nlt (Nat.zero_le _) (by omega) q
  · exact nI_nlt (by omega) (by omega) q
theorem gt_cons {x : kv_I} {X : List kv_I} {key : Nat} : gt_ (x :: X) key = if x.1 = key then some x.2 else gt_ X key := by
  unfold gt_
  by_cases e : x.1 = key
  · rw [if_pos e, List.find?_cons_of_pos (by simp [e])]; rfl
  · rw [if_neg e, List.find?_cons_of_neg (by simp [e])]
theorem gt_drop {X : List kv_I} {k : Nat} {x : kv_I} (h : X[k]? = some x) (key : Nat) : gt_ (X.drop k) key = if x.1 = key then some x.2 else gt_ (X.drop (k + 1)) key := by
  obtain ⟨hk, e⟩ := List.getElem?_eq_some_iff.mp h
  rw [List.drop_eq_getElem_cons hk, e, gt_cons]

theorem trI_all {g : Nat → Nat → Int32} {t0 key : Nat} : ∀ c p ov I, trOK g t0 key c p ov → I.length ≤ 48 ∧ (∀ x ∈ I, x.1 ≤ 47) → (trI g t0 c p I).length ≤ 48 ∧ ∀ x ∈ trI g t0 c p I, x.1 ≤ 47 := by
  intro c
  induction c with
  | zero => intro p ov I _ h; exact h
  | succ c ih =>
    intro p ov I h _
    exact ih _ _ _ h.2.2 ⟨by rw [cX_len]; exact h.1.1.2.2, cX_47 h.1⟩
theorem vfI_len {g : Nat → Nat → Int32} {t0 n v key : Nat} (h : lvP g t0 (1 + 4 * (wyL 5 0 n v).length) key) : (vfI g t0 n v).length ≤ 48 := (trI_all _ _ _ [] h.2.2 ⟨by simp, by simp⟩).1
theorem vfI_47 {g : Nat → Nat → Int32} {t0 n v key : Nat} (h : lvP g t0 (1 + 4 * (wyL 5 0 n v).length) key) : ∀ x ∈ vfI g t0 n v, x.1 ≤ 47 := (trI_all _ _ _ [] h.2.2 ⟨by simp, by simp⟩).2

theorem trE_le {g : Nat → Nat → Int32} {t0 key : Nat} : ∀ c p ov, trOK g t0 key c p ov → p ≤ t0 → trE g c p ≤ t0 := by
  intro c
  induction c with
  | zero => intro p ov _ h; exact h
  | succ c ih => intro p ov h _; exact ih _ _ h.2.2 h.1.2.1
theorem vf_inj {g : Nat → Nat → Int32} {t0 a0 key : Nat} (h : lvP g t0 a0 key) (ht : t0 ≤ 420) (e : nI (trE g (by_ g a0) (a0 + 1)) = nI t0) : trE g (by_ g a0) (a0 + 1) = t0 := by
  have h1 := trE_le _ _ _ h.2.2 (by have := h.1; omega)
  exact (nI_eq (by omega) (by omega)).mp e

set_option maxHeartbeats 4000000 in
set_option maxRecDepth 100000 in
theorem c_M_verify (l : Launch) (D : va_G) (tk : Nat → ClassId) (sz : Nat) (h : Nat) (ad : Nat → Nat) (g : Nat → Nat → Int32) (la : Nat → Int64) (tl : va_W) (t0 : Nat) (ht0 : t0 ≤ 400) (hgt : g 23 0 = nI t0) (hby : byt g t0) (dg n9 v9 key9 : Int32) : Met l y_M_verify w_M_verify ({ frames := 5, cells := 0, slots := 0, locals := 119 }) (va_Pc [.ref h, .int dg, .int n9, .int v9, .int key9] (k_pre D (TY tk) sz (wM tk h ad g la ++ tl))) (va_Qi (fun (r : Int32) (u : Nat → Nat → Int32) => ((n9 < nI 1 ∨ nI 16 < n9) ∨ (v9 < nI 0 ∨ n9 - nI 1 < v9) ∨ (key9 < nI 0 ∨ nI 47 < key9) → r = 0 ∧ u = mup g 0 0 (nI 1)) ∧ ∀ n1 v1 q1 : Nat, n9 = nI n1 → v9 = nI v1 → key9 = nI q1 → 1 ≤ n1 → n1 ≤ 16 → v1 < n1 → q1 < 48 → frx [0, 17, 18, 19, 20, 23, 25, 26, 27, 28, 29, 30, 31] g u ∧ u 0 0 = nI 0 ∧ u 23 0 = nI 0 ∧ ((vfP g t0 dg n1 v1 q1 → (∀ w, gt_ (vfI g t0 n1 v1) q1 = some w → r = nI 2 ∧ u 28 0 = w) ∧ (gt_ (vfI g t0 n1 v1) q1 = none → r = nI 1 ∧ u 28 0 = g 28 0)) ∧ (¬ vfP g t0 dg n1 v1 q1 → r = nI 0 ∧ u 28 0 = g 28 0))) (fun u t => k_at D (TY tk) (va_A (wM tk h ad g la ++ tl) sz) ((fun u => wM tk h ad u la ++ tl) u) t) (va_A (wM tk h ad g la ++ tl) sz)) 0 0 (va_A (wM tk h ad g la ++ tl) sz) := by
  refine k_ofW (fun A => va_Qi (fun (r : Int32) (u : Nat → Nat → Int32) => ((n9 < nI 1 ∨ nI 16 < n9) ∨ (v9 < nI 0 ∨ n9 - nI 1 < v9) ∨ (key9 < nI 0 ∨ nI 47 < key9) → r = 0 ∧ u = mup g 0 0 (nI 1)) ∧ ∀ n1 v1 q1 : Nat, n9 = nI n1 → v9 = nI v1 → key9 = nI q1 → 1 ≤ n1 → n1 ≤ 16 → v1 < n1 → q1 < 48 → frx [0, 17, 18, 19, 20, 23, 25, 26, 27, 28, 29, 30, 31] g u ∧ u 0 0 = nI 0 ∧ u 23 0 = nI 0 ∧ ((vfP g t0 dg n1 v1 q1 → (∀ w, gt_ (vfI g t0 n1 v1) q1 = some w → r = nI 2 ∧ u 28 0 = w) ∧ (gt_ (vfI g t0 n1 v1) q1 = none → r = nI 1 ∧ u 28 0 = g 28 0)) ∧ (¬ vfP g t0 dg n1 v1 q1 → r = nI 0 ∧ u 28 0 = g 28 0))) (fun u t => k_at D (TY tk) A ((fun u => wM tk h ad u la ++ tl) u) t) A) (by decide) (Nat.le_of_ble_eq_true rfl) ?_
  intro p e s m args below meth c Q A ls hQ hx hb hr hlk hin hts hT hown hml hnw hP hK hD hA hsz hl
  have hS : va_S A s.heap s.heap [] := va_S.rf
  have hc0 : 0 + 0 ≤ 0 ∧ 0 + 0 ≤ 0 := ⟨by decide, by decide⟩
  replace hl : lv_has ls 8 [(0, .ref h), (1, .int dg), (2, .int n9), (3, .int v9), (4, .int key9)] := hl
  replace hP : va_P D CC (wM tk h ad g la ++ tl) s.heap := hP
  replace hK : va_K D CC (TY tk) s := hK
  refine lv_iload_n hx hb d_M_verify_0 rfl (lv_at hl 2 rfl) ?_
  refine lv_iconst (v := nI 1) hx hb d_M_verify_1 (by decide) ?_
  refine lv_bipush (v := nI 16) hx hb d_M_verify_2 (by decide) ?_
  refine k_calli (va_runS (As := [.int n9, .int (nI 1), .int (nI 16)]) (rest := []) ⟨hx, hb, hml, hown, hts⟩ (c_M_outside l D tk s.heap.size n9 (nI 1) (nI 16) (wM tk h ad g la ++ tl)) (cwS 3 hts (gS t_1041 t_1042 t_9 t_1043) rfl rfl rfl (by decide +kernel) ⟨Nat.le_of_ble_eq_true rfl, Nat.le_of_ble_eq_true rfl⟩) (k_preS hP hK hD hnw) rfl rfl hl.1 rfl (lv_room (Nat.le_of_ble_eq_true rfl)) d_M_verify_4 hc0) hD hS hA (fun _ _ H locs hp4 hP hD hK hS => ?_)
  subst hp4
  replace hP : va_P D CC (wM tk h ad g la ++ tl) H := hP
  replace hD : va_D A (wM tk h ad g la ++ tl) := hD
  refine lv_if_ne hx hb d_M_verify_7 (tgt := 32) (by decide) (fun hc7 => ?_) (fun hc7 => ?_)
  · skip
    have hbad : (n9 < nI 1 ∨ nI 16 < n9) ∨ (v9 < nI 0 ∨ n9 - nI 1 < v9) ∨ (key9 < nI 0 ∨ nI 47 < key9) := Or.inl (Classical.byContradiction (fun q => hc7 (if_neg q)))
    refine lv_aload_n hx hb d_M_verify_32 rfl (lv_at hl 0 rfl) ?_
    refine lv_iconst (v := nI 1) hx hb d_M_verify_33 (by decide) ?_
    refine k_calli (va_runV (As := [.int (nI 1)]) (rest := []) ⟨hx, hb, hml, hown, hts⟩ (c_M_refuse l D tk H.size h ad g la tl (nI 1) ) (cwV 1 hts (gV t_1060 t_1062 s_17 t_9 t_1063) rfl rfl rfl (by decide +kernel) ⟨Nat.le_of_ble_eq_true rfl, Nat.le_of_ble_eq_true rfl⟩) (k_preV hP hK hD hnw 0 rfl rfl) rfl rfl hl.1 rfl (lv_room (Nat.le_of_ble_eq_true rfl)) d_M_verify_34 hc0) hD hS hA (fun _ _ H locs hp34 hP hD hK hS => ?_)
    subst hp34
    replace hP : va_P D CC (wM tk h ad (mup g 0 0 (nI 1)) la ++ tl) H := hP
    replace hD : va_D A (wM tk h ad (mup g 0 0 (nI 1)) la ++ tl) := hD
    exact k_iret (v := 0) hQ hx hb hr hlk hK hP hD hS (mup g 0 0 (nI 1)) rfl (⟨fun _ => ⟨rfl, rfl⟩, fun n1 v1 q1 e1 e2 e3 z1 z2 z3 z4 => absurd (show (n9 < nI 1 ∨ nI 16 < n9) ∨ (v9 < nI 0 ∨ n9 - nI 1 < v9) ∨ (key9 < nI 0 ∨ nI 47 < key9) from hbad) (by rw [e1, e2, e3]; exact vf_no z1 z2 z3 z4)⟩) d_M_verify_37
  · skip
    refine lv_iload_n hx hb d_M_verify_10 rfl (lv_at hl 3 rfl) ?_
    refine lv_iconst (v := nI 0) hx hb d_M_verify_11 (by decide) ?_
    refine lv_iload_n hx hb d_M_verify_12 rfl (lv_at hl 2 rfl) ?_
    refine lv_iconst (v := nI 1) hx hb d_M_verify_13 (by decide) ?_
    refine lv_isub hx hb d_M_verify_14 ?_
    refine k_calli (va_runS (As := [.int v9, .int (nI 0), .int (n9 - (nI 1))]) (rest := []) ⟨hx, hb, hml, hown, hts⟩ (c_M_outside l D tk H.size v9 (nI 0) (n9 - (nI 1)) (wM tk h ad g la ++ tl)) (cwS 3 hts (gS t_1041 t_1042 t_9 t_1043) rfl rfl rfl (by decide +kernel) ⟨Nat.le_of_ble_eq_true rfl, Nat.le_of_ble_eq_true rfl⟩) (k_preS hP hK hD hnw) rfl rfl hl.1 rfl (lv_room (Nat.le_of_ble_eq_true rfl)) d_M_verify_15 hc0) hD hS hA (fun _ _ H locs hp15 hP hD hK hS => ?_)
    subst hp15
    replace hP : va_P D CC (wM tk h ad g la ++ tl) H := hP
    replace hD : va_D A (wM tk h ad g la ++ tl) := hD
    refine lv_if_ne hx hb d_M_verify_18 (tgt := 32) (by decide) (fun hc18 => ?_) (fun hc18 => ?_)
    · skip
      have hbad : (n9 < nI 1 ∨ nI 16 < n9) ∨ (v9 < nI 0 ∨ n9 - nI 1 < v9) ∨ (key9 < nI 0 ∨ nI 47 < key9) := Or.inr (Or.inl (Classical.byContradiction (fun q => hc18 (if_neg q))))
      refine lv_aload_n hx hb d_M_verify_32 rfl (lv_at hl 0 rfl) ?_
      refine lv_iconst (v := nI 1) hx hb d_M_verify_33 (by decide) ?_
      refine k_calli (va_runV (As := [.int (nI 1)]) (rest := []) ⟨hx, hb, hml, hown, hts⟩ (c_M_refuse l D tk H.size h ad g la tl (nI 1) ) (cwV 1 hts (gV t_1060 t_1062 s_17 t_9 t_1063) rfl rfl rfl (by decide +kernel) ⟨Nat.le_of_ble_eq_true rfl, Nat.le_of_ble_eq_true rfl⟩) (k_preV hP hK hD hnw 0 rfl rfl) rfl rfl hl.1 rfl (lv_room (Nat.le_of_ble_eq_true rfl)) d_M_verify_34 hc0) hD hS hA (fun _ _ H locs hp34 hP hD hK hS => ?_)
      subst hp34
      replace hP : va_P D CC (wM tk h ad (mup g 0 0 (nI 1)) la ++ tl) H := hP
      replace hD : va_D A (wM tk h ad (mup g 0 0 (nI 1)) la ++ tl) := hD
      exact k_iret (v := 0) hQ hx hb hr hlk hK hP hD hS (mup g 0 0 (nI 1)) rfl (⟨fun _ => ⟨rfl, rfl⟩, fun n1 v1 q1 e1 e2 e3 z1 z2 z3 z4 => absurd (show (n9 < nI 1 ∨ nI 16 < n9) ∨ (v9 < nI 0 ∨ n9 - nI 1 < v9) ∨ (key9 < nI 0 ∨ nI 47 < key9) from hbad) (by rw [e1, e2, e3]; exact vf_no z1 z2 z3 z4)⟩) d_M_verify_37
    · skip
      refine lv_iload hx hb d_M_verify_21 (lv_at hl 4 rfl) ?_
      refine lv_iconst (v := nI 0) hx hb d_M_verify_23 (by decide) ?_
      refine lv_bipush (v := nI 47) hx hb d_M_verify_24 (by decide) ?_
      refine k_calli (va_runS (As := [.int key9, .int (nI 0), .int (nI 47)]) (rest := []) ⟨hx, hb, hml, hown, hts⟩ (c_M_outside l D tk H.size key9 (nI 0) (nI 47) (wM tk h ad g la ++ tl)) (cwS 3 hts (gS t_1041 t_1042 t_9 t_1043) rfl rfl rfl (by decide +kernel) ⟨Nat.le_of_ble_eq_true rfl, Nat.le_of_ble_eq_true rfl⟩) (k_preS hP hK hD hnw) rfl rfl hl.1 rfl (lv_room (Nat.le_of_ble_eq_true rfl)) d_M_verify_26 hc0) hD hS hA (fun _ _ H locs hp26 hP hD hK hS => ?_)
      subst hp26
      replace hP : va_P D CC (wM tk h ad g la ++ tl) H := hP
      replace hD : va_D A (wM tk h ad g la ++ tl) := hD
      refine lv_if_eq hx hb d_M_verify_29 (tgt := 38) (by decide) (fun hc29 => ?_) (fun hc29 => ?_)
      · skip
        have hb1 : ¬ (n9 < nI 1 ∨ nI 16 < n9) := fun q => by rw [if_pos q] at hc7; exact absurd hc7 (by decide)
        have hb2 : ¬ (v9 < nI 0 ∨ n9 - nI 1 < v9) := fun q => by rw [if_pos q] at hc18; exact absurd hc18 (by decide)
        have hb3 : ¬ (key9 < nI 0 ∨ nI 47 < key9) := fun q => by rw [if_pos q] at hc29; exact absurd hc29 (by decide)
        obtain ⟨a1, a2, k1, h1, h2, h3, h4, rfl, rfl, rfl⟩ := vf_args hb1 hb2 hb3
        have hgk := wy_ok9 a1 (by omega) a2 (by omega) h3
        refine lv_aload_n hx hb d_M_verify_38 rfl (lv_at hl 0 rfl) ?_
        refine lv_iconst (v := nI 0) hx hb d_M_verify_39 (by decide) ?_
        refine pf_M_73 hx hb hT hown hK hP hD hS 0 rfl (Nat.le_of_ble_eq_true rfl) d_M_verify_40 (fun H locs hP hD hS => ?_)
        replace hP : va_P D CC (wM tk h ad (mup g 0 0 (nI 0)) la ++ tl) H := Eq.mp (congrArg (fun w => va_P D CC w H) (sM_0 tk h ad g la tl (nI 0))) hP
        replace hD : va_D A (wM tk h ad (mup g 0 0 (nI 0)) la ++ tl) := Eq.mp (congrArg (fun w => va_D A w) (sM_0 tk h ad g la tl (nI 0))) hD
        refine lv_aload_n hx hb d_M_verify_43 rfl (lv_at hl 0 rfl) ?_
        refine lv_iload_n hx hb d_M_verify_44 rfl (lv_at hl 2 rfl) ?_
        refine lv_iload_n hx hb d_M_verify_45 rfl (lv_at hl 3 rfl) ?_
        refine k_callv (va_runV (As := [.int (nI a1), .int (nI a2)]) (rest := []) ⟨hx, hb, hml, hown, hts⟩ (c_M_way l D tk H.size h ad (mup g 0 0 (nI 0)) la tl a1 a2 (by omega) (by omega) (by omega)) (cwV 2 hts (gV t_1153 t_1155 s_29 t_9 t_1156) rfl rfl rfl (by decide +kernel) ⟨Nat.le_of_ble_eq_true rfl, Nat.le_of_ble_eq_true rfl⟩) (k_preV hP hK hD hnw 0 rfl rfl) rfl rfl hl.1 rfl (lv_room (Nat.le_of_ble_eq_true rfl)) d_M_verify_46 hc0) hD hS hA (fun _ H locs hp46 hP hD hK hS => ?_)
        replace hP : va_P D CC (wM tk h ad (sdL (mup (mup g 0 0 (nI 0)) 17 0 (nI 0)) 0 (wyL 5 0 a1 a2)) la ++ tl) H := hP
        replace hD : va_D A (wM tk h ad (sdL (mup (mup g 0 0 (nI 0)) 17 0 (nI 0)) 0 (wyL 5 0 a1 a2)) la ++ tl) := hD
        have hgt1 : sdL (mup (mup g 0 0 (nI 0)) 17 0 (nI 0)) 0 (wyL 5 0 a1 a2) 23 0 = nI t0 := (congrFun (wy_fr _ _ 23 (by decide)) 0).trans (rd_ne (by decide) hgt)
        have h241 : sdL (mup (mup g 0 0 (nI 0)) 17 0 (nI 0)) 0 (wyL 5 0 a1 a2) 24 = g 24 := (wy_fr _ _ 24 (by decide)).trans (mup_ne (by decide))
        have hby1 : byt (sdL (mup (mup g 0 0 (nI 0)) 17 0 (nI 0)) 0 (wyL 5 0 a1 a2)) t0 := fun i hi => by rw [h241]; exact hby i hi
        refine lv_aload_n hx hb d_M_verify_49 rfl (lv_at hl 0 rfl) ?_
        refine k_callv (va_runV (As := []) (rest := []) ⟨hx, hb, hml, hown, hts⟩ (c_M_inBeside l D tk H.size h ad (sdL (mup (mup g 0 0 (nI 0)) 17 0 (nI 0)) 0 (wyL 5 0 a1 a2)) la tl (wyL 5 0 a1 a2).length t0 (by omega) (by omega) (bs_way _ _).1 hgt1 hby1) (cwV 0 hts (gV t_1211 t_1213 s_37 t_9 t_1214) rfl rfl rfl (by decide +kernel) ⟨Nat.le_of_ble_eq_true rfl, Nat.le_of_ble_eq_true rfl⟩) (k_preV hP hK hD hnw 0 rfl rfl) rfl rfl hl.1 rfl (lv_room (Nat.le_of_ble_eq_true rfl)) d_M_verify_50 hc0) hD hS hA (fun u50 H locs hp50 hP hD hK hS => ?_)
        obtain ⟨h26, hgd, hfi⟩ := hp50
        have hbsu := bs_way (mup g 0 0 (nI 0)) (wyL 5 0 a1 a2)
        have h24u : u50 24 = g 24 := (hfi 24 (by decide)).trans h241
        have h20u : u50 20 = sdL (mup (mup g 0 0 (nI 0)) 17 0 (nI 0)) 0 (wyL 5 0 a1 a2) 20 := hfi 20 (by decide)
        replace hP : va_P D CC (wM tk h ad u50 la ++ tl) H := hP
        replace hD : va_D A (wM tk h ad u50 la ++ tl) := hD
        refine lv_aload_n hx hb d_M_verify_53 rfl (lv_at hl 0 rfl) ?_
        refine gf_M_200 (v := .int (u50 26 0)) hx hb hT hown hK hP 0 rfl rfl d_M_verify_54 ?_
        refine lv_if_eq hx hb d_M_verify_57 (tgt := 69) (by decide) (fun hc57 => ?_) (fun hc57 => ?_)
        · skip
          have hnv : ¬ vfP g t0 dg a1 a2 k1 := fun q => by rw [h26] at hc57; exact ifx.mp hc57 ⟨(rd_c h241 0 t0).trans q.1.1, q.1.2⟩
          refine lv_iconst (v := nI 0) hx hb d_M_verify_69 (by decide) ?_
          refine lv_istore (lv' := [(5, .int (nI 0)), (0, .ref h), (1, .int dg), (2, .int (nI a1)), (3, .int (nI a2)), (4, .int (nI k1))]) hx hb d_M_verify_70 hl (by decide) rfl (fun ls hl => ?_)
          refine lv_aload_n hx hb d_M_verify_72 rfl (lv_at hl 1 rfl) ?_
          refine gf_M_200 (v := .int (u50 26 0)) hx hb hT hown hK hP 0 rfl rfl d_M_verify_73 ?_
          refine lv_if_eq hx hb d_M_verify_76 (tgt := 109) (by decide) (fun hc76 => ?_) (fun hc76 => absurd hc57 hc76)
          refine lv_iconst (v := nI 0) hx hb d_M_verify_109 (by decide) ?_
          refine lv_istore (lv' := [(6, .int (nI 0)), (5, .int (nI 0)), (0, .ref h), (1, .int dg), (2, .int (nI a1)), (3, .int (nI a2)), (4, .int (nI k1))]) hx hb d_M_verify_110 hl (by decide) rfl (fun ls hl => ?_)
          refine lv_aload_n hx hb d_M_verify_112 rfl (lv_at hl 2 rfl) ?_
          refine lv_iconst (v := nI 0) hx hb d_M_verify_113 (by decide) ?_
          refine pf_M_194 hx hb hT hown hK hP hD hS 0 rfl (Nat.le_of_ble_eq_true rfl) d_M_verify_114 (fun H locs hP hD hS => ?_)
          replace hP : va_P D CC (wM tk h ad (mup u50 23 0 (nI 0)) la ++ tl) H := Eq.mp (congrArg (fun w => va_P D CC w H) (sM_23 tk h ad u50 la tl (nI 0))) hP
          replace hD : va_D A (wM tk h ad (mup u50 23 0 (nI 0)) la ++ tl) := Eq.mp (congrArg (fun w => va_D A w) (sM_23 tk h ad u50 la tl (nI 0))) hD
          refine lv_iload hx hb d_M_verify_117 (lv_at hl 0 rfl) ?_
          refine st_if_ne hx hb (by omega) d_M_verify_119 (tgt := 124) (by decide) (fun hc119 => (by exfalso; first | exact hc119 | omega)) (fun hc119 => ?_)
          refine lv_iconst (v := nI 0) hx hb d_M_verify_122 (by decide) ?_
          exact k_iret (v := nI 0) hQ hx hb hr hlk hK hP hD hS (mup u50 23 0 (nI 0)) rfl (⟨fun q => absurd q (vf_no h1 h2 h3 h4), fun n1 v1 q1 e1 e2 e3 z1 z2 z3 z4 => by obtain rfl := (nI_eq (by omega) (by omega)).mp e1; obtain rfl := (nI_eq (by omega) (by omega)).mp e2; obtain rfl := (nI_eq (by omega) (by omega)).mp e3; exact ⟨frx_t (frx_t (frx_t (L := [0]) frx_m (wy_fr _ _) (M := [0, 17, 18, 19, 20]) (fun x h => ⟨fun q => h (by simp at q ⊢; omega), fun q => h (by simp at q ⊢; omega)⟩)) hfi (M := [0, 17, 18, 19, 20, 25, 26, 27]) (fun x h => ⟨fun q => h (by simp at q ⊢; omega), fun q => h (by simp at q ⊢; omega)⟩)) (L' := [23]) frx_m (M := [0, 17, 18, 19, 20, 23, 25, 26, 27, 28, 29, 30, 31]) (fun x h => ⟨fun q => h (by simp at q ⊢; omega), fun q => h (by simp at q ⊢; omega)⟩), rd_ne (by decide) ((congrFun (hfi 0 (by decide)) 0).trans ((congrFun (wy_fr _ _ 0 (by decide)) 0).trans rd_eq)), rd_eq, ⟨fun q => absurd q hnv, fun _ => ⟨rfl, rd_ne (by decide) ((congrFun (hfi 28 (by decide)) 0).trans ((congrFun (wy_fr _ _ 28 (by decide)) 0).trans (rd_ne (by decide) rfl)))⟩⟩⟩⟩) d_M_verify_123
        · skip
          have hrg : rdM (sdL (mup (mup g 0 0 (nI 0)) 17 0 (nI 0)) 0 (wyL 5 0 a1 a2)) 0 t0 = nI (wyL 5 0 a1 a2).length ∧ 1 + 4 * (wyL 5 0 a1 a2).length ≤ t0 := Classical.byContradiction (fun q => hc57 (by rw [h26]; exact ifx.mpr q))
          have hg2 := hgd hrg
          have hJ : ∀ j, j < (wyL 5 0 a1 a2).length → u50 27 j = riM g (1 + 4 * j) t0 := fun j hj => (hg2.2 j hj).trans (ri_c h241 _ _)
          refine lv_aload_n hx hb d_M_verify_60 rfl (lv_at hl 0 rfl) ?_
          refine lv_iload hx hb d_M_verify_61 (lv_at hl 4 rfl) ?_
          refine k_calli (va_runV (As := [.int (nI k1)]) (rest := []) ⟨hx, hb, hml, hown, hts⟩ (c_M_inLevels l D tk H.size h ad u50 la tl k1 (1 + 4 * (wyL 5 0 a1 a2).length) t0 (by omega) (by omega) (by omega) hg2.1 ((congrFun (hfi 23 (by decide)) 0).trans hgt1) (fun i hi => by rw [h24u]; exact hby i hi) (h26.trans (if_pos hrg)) (Classical.propDecidable _)) (cwV 1 hts (gV t_1223 t_1225 s_40 t_9 t_1226) rfl rfl rfl (by decide +kernel) ⟨Nat.le_of_ble_eq_true rfl, Nat.le_of_ble_eq_true rfl⟩) (k_preV hP hK hD hnw 0 rfl rfl) rfl rfl hl.1 rfl (lv_room (Nat.le_of_ble_eq_true rfl)) d_M_verify_63 hc0) hD hS hA (fun r63 u63 H locs hp63 hP hD hK hS => ?_)
          obtain ⟨j26, jok, jfr⟩ := hp63
          rw [lvP_c h24u, rtP_c h24u, trE_c h24u, by_c h24u, trI_c h24u] at jok
          replace hP : va_P D CC (wM tk h ad u63 la ++ tl) H := hP
          replace hD : va_D A (wM tk h ad u63 la ++ tl) := hD
          refine lv_goto hx hb d_M_verify_66 (tgt := 70) (by decide) ?_
          refine lv_istore (lv' := [(5, .int r63), (0, .ref h), (1, .int dg), (2, .int (nI a1)), (3, .int (nI a2)), (4, .int (nI k1))]) hx hb d_M_verify_70 hl (by decide) rfl (fun ls hl => ?_)
          refine lv_aload_n hx hb d_M_verify_72 rfl (lv_at hl 1 rfl) ?_
          refine gf_M_200 (v := .int (u63 26 0)) hx hb hT hown hK hP 0 rfl rfl d_M_verify_73 ?_
          refine lv_if_eq hx hb d_M_verify_76 (tgt := 109) (by decide) (fun hc76 => ?_) (fun hc76 => ?_)
          · skip
            have hnv : ¬ vfP g t0 dg a1 a2 k1 := fun q => by rw [j26] at hc76; exact ifx.mp hc76 ((lvP_c h24u _ _ _).mpr q.2.1)
            refine lv_iconst (v := nI 0) hx hb d_M_verify_109 (by decide) ?_
            refine lv_istore (lv' := [(6, .int (nI 0)), (5, .int r63), (0, .ref h), (1, .int dg), (2, .int (nI a1)), (3, .int (nI a2)), (4, .int (nI k1))]) hx hb d_M_verify_110 hl (by decide) rfl (fun ls hl => ?_)
            refine lv_aload_n hx hb d_M_verify_112 rfl (lv_at hl 2 rfl) ?_
            refine lv_iconst (v := nI 0) hx hb d_M_verify_113 (by decide) ?_
            refine pf_M_194 hx hb hT hown hK hP hD hS 0 rfl (Nat.le_of_ble_eq_true rfl) d_M_verify_114 (fun H locs hP hD hS => ?_)
            replace hP : va_P D CC (wM tk h ad (mup u63 23 0 (nI 0)) la ++ tl) H := Eq.mp (congrArg (fun w => va_P D CC w H) (sM_23 tk h ad u63 la tl (nI 0))) hP
            replace hD : va_D A (wM tk h ad (mup u63 23 0 (nI 0)) la ++ tl) := Eq.mp (congrArg (fun w => va_D A w) (sM_23 tk h ad u63 la tl (nI 0))) hD
            refine lv_iload hx hb d_M_verify_117 (lv_at hl 0 rfl) ?_
            refine st_if_ne hx hb (by omega) d_M_verify_119 (tgt := 124) (by decide) (fun hc119 => (by exfalso; first | exact hc119 | omega)) (fun hc119 => ?_)
            refine lv_iconst (v := nI 0) hx hb d_M_verify_122 (by decide) ?_
            exact k_iret (v := nI 0) hQ hx hb hr hlk hK hP hD hS (mup u63 23 0 (nI 0)) rfl (⟨fun q => absurd q (vf_no h1 h2 h3 h4), fun n1 v1 q1 e1 e2 e3 z1 z2 z3 z4 => by obtain rfl := (nI_eq (by omega) (by omega)).mp e1; obtain rfl := (nI_eq (by omega) (by omega)).mp e2; obtain rfl := (nI_eq (by omega) (by omega)).mp e3; exact ⟨frx_t (frx_t (frx_t (frx_t (L := [0]) frx_m (wy_fr _ _) (M := [0, 17, 18, 19, 20]) (fun x h => ⟨fun q => h (by simp at q ⊢; omega), fun q => h (by simp at q ⊢; omega)⟩)) hfi (M := [0, 17, 18, 19, 20, 25, 26, 27]) (fun x h => ⟨fun q => h (by simp at q ⊢; omega), fun q => h (by simp at q ⊢; omega)⟩)) jfr (M := [0, 17, 18, 19, 20, 23, 25, 26, 27, 28, 29, 30, 31]) (fun x h => ⟨fun q => h (by simp at q ⊢; omega), fun q => h (by simp at q ⊢; omega)⟩)) (L' := [23]) frx_m (M := [0, 17, 18, 19, 20, 23, 25, 26, 27, 28, 29, 30, 31]) (fun x h => ⟨fun q => h (by simp at q ⊢; omega), fun q => h (by simp at q ⊢; omega)⟩), rd_ne (by decide) ((congrFun (jfr 0 (by decide)) 0).trans ((congrFun (hfi 0 (by decide)) 0).trans ((congrFun (wy_fr _ _ 0 (by decide)) 0).trans rd_eq))), rd_eq, ⟨fun q => absurd q hnv, fun _ => ⟨rfl, rd_ne (by decide) ((congrFun (jfr 28 (by decide)) 0).trans ((congrFun (hfi 28 (by decide)) 0).trans ((congrFun (wy_fr _ _ 28 (by decide)) 0).trans (rd_ne (by decide) rfl))))⟩⟩⟩⟩) d_M_verify_123
          · skip
            have hlv : lvP g t0 (1 + 4 * (wyL 5 0 a1 a2).length) k1 := (lvP_c h24u _ _ _).mp (Classical.byContradiction (fun q => hc76 (by rw [j26]; exact ifx.mpr q)))
            have hj := jok hlv
            have ht23 : u63 23 0 = nI t0 := (congrFun (jfr 23 (by decide)) 0).trans ((congrFun (hfi 23 (by decide)) 0).trans hgt1)
            refine lv_aload_n hx hb d_M_verify_79 rfl (lv_at hl 1 rfl) ?_
            refine gf_M_197 (v := .int (u63 25 0)) hx hb hT hown hK hP 0 rfl rfl d_M_verify_80 ?_
            refine lv_aload_n hx hb d_M_verify_83 rfl (lv_at hl 1 rfl) ?_
            refine gf_M_194 (v := .int (u63 23 0)) hx hb hT hown hK hP 0 rfl rfl d_M_verify_84 ?_
            refine lv_icmp_ne hx hb d_M_verify_87 (tgt := 109) (by decide) (fun hc87 => ?_) (fun hc87 => ?_)
            · skip
              have hnv : ¬ vfP g t0 dg a1 a2 k1 := fun q => hc87 (by rw [hj.2.1, ht23, q.2.2.1])
              refine lv_iconst (v := nI 0) hx hb d_M_verify_109 (by decide) ?_
              refine lv_istore (lv' := [(6, .int (nI 0)), (5, .int r63), (0, .ref h), (1, .int dg), (2, .int (nI a1)), (3, .int (nI a2)), (4, .int (nI k1))]) hx hb d_M_verify_110 hl (by decide) rfl (fun ls hl => ?_)
              refine lv_aload_n hx hb d_M_verify_112 rfl (lv_at hl 2 rfl) ?_
              refine lv_iconst (v := nI 0) hx hb d_M_verify_113 (by decide) ?_
              refine pf_M_194 hx hb hT hown hK hP hD hS 0 rfl (Nat.le_of_ble_eq_true rfl) d_M_verify_114 (fun H locs hP hD hS => ?_)
              replace hP : va_P D CC (wM tk h ad (mup u63 23 0 (nI 0)) la ++ tl) H := Eq.mp (congrArg (fun w => va_P D CC w H) (sM_23 tk h ad u63 la tl (nI 0))) hP
              replace hD : va_D A (wM tk h ad (mup u63 23 0 (nI 0)) la ++ tl) := Eq.mp (congrArg (fun w => va_D A w) (sM_23 tk h ad u63 la tl (nI 0))) hD
              refine lv_iload hx hb d_M_verify_117 (lv_at hl 0 rfl) ?_
              refine st_if_ne hx hb (by omega) d_M_verify_119 (tgt := 124) (by decide) (fun hc119 => (by exfalso; first | exact hc119 | omega)) (fun hc119 => ?_)
              refine lv_iconst (v := nI 0) hx hb d_M_verify_122 (by decide) ?_
              exact k_iret (v := nI 0) hQ hx hb hr hlk hK hP hD hS (mup u63 23 0 (nI 0)) rfl (⟨fun q => absurd q (vf_no h1 h2 h3 h4), fun n1 v1 q1 e1 e2 e3 z1 z2 z3 z4 => by obtain rfl := (nI_eq (by omega) (by omega)).mp e1; obtain rfl := (nI_eq (by omega) (by omega)).mp e2; obtain rfl := (nI_eq (by omega) (by omega)).mp e3; exact ⟨frx_t (frx_t (frx_t (frx_t (L := [0]) frx_m (wy_fr _ _) (M := [0, 17, 18, 19, 20]) (fun x h => ⟨fun q => h (by simp at q ⊢; omega), fun q => h (by simp at q ⊢; omega)⟩)) hfi (M := [0, 17, 18, 19, 20, 25, 26, 27]) (fun x h => ⟨fun q => h (by simp at q ⊢; omega), fun q => h (by simp at q ⊢; omega)⟩)) jfr (M := [0, 17, 18, 19, 20, 23, 25, 26, 27, 28, 29, 30, 31]) (fun x h => ⟨fun q => h (by simp at q ⊢; omega), fun q => h (by simp at q ⊢; omega)⟩)) (L' := [23]) frx_m (M := [0, 17, 18, 19, 20, 23, 25, 26, 27, 28, 29, 30, 31]) (fun x h => ⟨fun q => h (by simp at q ⊢; omega), fun q => h (by simp at q ⊢; omega)⟩), rd_ne (by decide) ((congrFun (jfr 0 (by decide)) 0).trans ((congrFun (hfi 0 (by decide)) 0).trans ((congrFun (wy_fr _ _ 0 (by decide)) 0).trans rd_eq))), rd_eq, ⟨fun q => absurd q hnv, fun _ => ⟨rfl, rd_ne (by decide) ((congrFun (jfr 28 (by decide)) 0).trans ((congrFun (hfi 28 (by decide)) 0).trans ((congrFun (wy_fr _ _ 28 (by decide)) 0).trans (rd_ne (by decide) rfl))))⟩⟩⟩⟩) d_M_verify_123
            · skip
              have htE : trE g (by_ g (1 + 4 * (wyL 5 0 a1 a2).length)) ((1 + 4 * (wyL 5 0 a1 a2).length) + 1) = t0 := by rw [hj.2.1, ht23] at hc87; exact vf_inj hlv (by omega) hc87
              refine lv_aload_n hx hb d_M_verify_90 rfl (lv_at hl 1 rfl) ?_
              refine lv_iload_n hx hb d_M_verify_91 rfl (lv_at hl 4 rfl) ?_
              refine lv_iload hx hb d_M_verify_92 (lv_at hl 0 rfl) ?_
              refine k_calli (va_runS (As := [.int (nI a2), .int r63]) (rest := [.ref h]) ⟨hx, hb, hml, hown, hts⟩ (c_M_leafOf l D tk H.size a2 r63 (wM tk h ad u63 la ++ tl)) (cwS 2 hts (gS t_1143 t_1144 t_9 t_1145) rfl rfl rfl (by decide +kernel) ⟨Nat.le_of_ble_eq_true rfl, Nat.le_of_ble_eq_true rfl⟩) (k_preS hP hK hD hnw) rfl rfl hl.1 rfl (lv_room (Nat.le_of_ble_eq_true rfl)) d_M_verify_94 hc0) hD hS hA (fun _ _ H locs hp94 hP hD hK hS => ?_)
              subst hp94
              replace hP : va_P D CC (wM tk h ad u63 la ++ tl) H := hP
              replace hD : va_D A (wM tk h ad u63 la ++ tl) := hD
              refine lv_iconst (v := nI 0) hx hb d_M_verify_97 (by decide) ?_
              refine k_calli (va_runV (As := [.int (lf a2 r63), .int (nI 0)]) (rest := []) ⟨hx, hb, hml, hown, hts⟩ (c_M_lead l D tk H.size h ad u63 la tl (wyL 5 0 a1 a2).length 0 (lf a2 r63) (by omega) (by omega) ((congrFun (jfr 17 (by decide)) 0).trans ((congrFun (hfi 17 (by decide)) 0).trans (bs_way _ _).1))) (cwV 2 hts (gV t_1231 t_1233 s_42 t_9 t_1234) rfl rfl rfl (by decide +kernel) ⟨Nat.le_of_ble_eq_true rfl, Nat.le_of_ble_eq_true rfl⟩) (k_preV hP hK hD hnw 0 rfl rfl) rfl rfl hl.1 rfl (lv_room (Nat.le_of_ble_eq_true rfl)) d_M_verify_98 hc0) hD hS hA (fun _ _ H locs hp98 hP hD hK hS => ?_)
              subst hp98
              replace hP : va_P D CC (wM tk h ad u63 la ++ tl) H := hP
              replace hD : va_D A (wM tk h ad u63 la ++ tl) := hD
              have hld : ldF u63 (wyL 5 0 a1 a2).length 0 ((wyL 5 0 a1 a2).length - 0) (lf a2 r63) = ld2 (fun j => riM g (1 + 4 * j) t0) (wyL 5 0 a1 a2) 0 (lf a2 (rtP g t0 (1 + 4 * (wyL 5 0 a1 a2).length))) := by rw [hj.1]; exact ld_2 hbsu ((jfr 20 (by decide)).trans h20u) (fun j hj => (congrFun (jfr 27 (by decide)) j).trans (hJ j hj)) (by omega) _
              refine lv_iload_n hx hb d_M_verify_101 rfl (lv_at hl 2 rfl) ?_
              refine lv_icmp_ne hx hb d_M_verify_102 (tgt := 109) (by decide) (fun hc102 => ?_) (fun hc102 => ?_)
              · skip
                have hnv : ¬ vfP g t0 dg a1 a2 k1 := fun q => hc102 (hld.trans q.2.2.2)
                refine lv_iconst (v := nI 0) hx hb d_M_verify_109 (by decide) ?_
                refine lv_istore (lv' := [(6, .int (nI 0)), (5, .int r63), (0, .ref h), (1, .int dg), (2, .int (nI a1)), (3, .int (nI a2)), (4, .int (nI k1))]) hx hb d_M_verify_110 hl (by decide) rfl (fun ls hl => ?_)
                refine lv_aload_n hx hb d_M_verify_112 rfl (lv_at hl 2 rfl) ?_
                refine lv_iconst (v := nI 0) hx hb d_M_verify_113 (by decide) ?_
                refine pf_M_194 hx hb hT hown hK hP hD hS 0 rfl (Nat.le_of_ble_eq_true rfl) d_M_verify_114 (fun H locs hP hD hS => ?_)
                replace hP : va_P D CC (wM tk h ad (mup u63 23 0 (nI 0)) la ++ tl) H := Eq.mp (congrArg (fun w => va_P D CC w H) (sM_23 tk h ad u63 la tl (nI 0))) hP
                replace hD : va_D A (wM tk h ad (mup u63 23 0 (nI 0)) la ++ tl) := Eq.mp (congrArg (fun w => va_D A w) (sM_23 tk h ad u63 la tl (nI 0))) hD
                refine lv_iload hx hb d_M_verify_117 (lv_at hl 0 rfl) ?_
                refine st_if_ne hx hb (by omega) d_M_verify_119 (tgt := 124) (by decide) (fun hc119 => (by exfalso; first | exact hc119 | omega)) (fun hc119 => ?_)
                refine lv_iconst (v := nI 0) hx hb d_M_verify_122 (by decide) ?_
                exact k_iret (v := nI 0) hQ hx hb hr hlk hK hP hD hS (mup u63 23 0 (nI 0)) rfl (⟨fun q => absurd q (vf_no h1 h2 h3 h4), fun n1 v1 q1 e1 e2 e3 z1 z2 z3 z4 => by obtain rfl := (nI_eq (by omega) (by omega)).mp e1; obtain rfl := (nI_eq (by omega) (by omega)).mp e2; obtain rfl := (nI_eq (by omega) (by omega)).mp e3; exact ⟨frx_t (frx_t (frx_t (frx_t (L := [0]) frx_m (wy_fr _ _) (M := [0, 17, 18, 19, 20]) (fun x h => ⟨fun q => h (by simp at q ⊢; omega), fun q => h (by simp at q ⊢; omega)⟩)) hfi (M := [0, 17, 18, 19, 20, 25, 26, 27]) (fun x h => ⟨fun q => h (by simp at q ⊢; omega), fun q => h (by simp at q ⊢; omega)⟩)) jfr (M := [0, 17, 18, 19, 20, 23, 25, 26, 27, 28, 29, 30, 31]) (fun x h => ⟨fun q => h (by simp at q ⊢; omega), fun q => h (by simp at q ⊢; omega)⟩)) (L' := [23]) frx_m (M := [0, 17, 18, 19, 20, 23, 25, 26, 27, 28, 29, 30, 31]) (fun x h => ⟨fun q => h (by simp at q ⊢; omega), fun q => h (by simp at q ⊢; omega)⟩), rd_ne (by decide) ((congrFun (jfr 0 (by decide)) 0).trans ((congrFun (hfi 0 (by decide)) 0).trans ((congrFun (wy_fr _ _ 0 (by decide)) 0).trans rd_eq))), rd_eq, ⟨fun q => absurd q hnv, fun _ => ⟨rfl, rd_ne (by decide) ((congrFun (jfr 28 (by decide)) 0).trans ((congrFun (hfi 28 (by decide)) 0).trans ((congrFun (wy_fr _ _ 28 (by decide)) 0).trans (rd_ne (by decide) rfl))))⟩⟩⟩⟩) d_M_verify_123
              · skip
                have hvf : vfP g t0 dg a1 a2 k1 := ⟨⟨(rd_c h241 0 t0).symm.trans hrg.1, hrg.2⟩, hlv, htE, hld.symm.trans hc102⟩
                refine lv_iconst (v := nI 1) hx hb d_M_verify_105 (by decide) ?_
                refine lv_goto hx hb d_M_verify_106 (tgt := 110) (by decide) ?_
                refine lv_istore (lv' := [(6, .int (nI 1)), (5, .int r63), (0, .ref h), (1, .int dg), (2, .int (nI a1)), (3, .int (nI a2)), (4, .int (nI k1))]) hx hb d_M_verify_110 hl (by decide) rfl (fun ls hl => ?_)
                refine lv_aload_n hx hb d_M_verify_112 rfl (lv_at hl 2 rfl) ?_
                refine lv_iconst (v := nI 0) hx hb d_M_verify_113 (by decide) ?_
                refine pf_M_194 hx hb hT hown hK hP hD hS 0 rfl (Nat.le_of_ble_eq_true rfl) d_M_verify_114 (fun H locs hP hD hS => ?_)
                replace hP : va_P D CC (wM tk h ad (mup u63 23 0 (nI 0)) la ++ tl) H := Eq.mp (congrArg (fun w => va_P D CC w H) (sM_23 tk h ad u63 la tl (nI 0))) hP
                replace hD : va_D A (wM tk h ad (mup u63 23 0 (nI 0)) la ++ tl) := Eq.mp (congrArg (fun w => va_D A w) (sM_23 tk h ad u63 la tl (nI 0))) hD
                refine lv_iload hx hb d_M_verify_117 (lv_at hl 0 rfl) ?_
                refine st_if_ne hx hb (by omega) d_M_verify_119 (tgt := 124) (by decide) (fun hc119 => ?_) (fun hc119 => (by exfalso; first | exact hc119 | omega))
                refine lv_iconst (v := nI 0) hx hb d_M_verify_124 (by decide) ?_
                refine lv_istore (lv' := [(7, .int (nI 0)), (6, .int (nI 1)), (5, .int r63), (0, .ref h), (1, .int dg), (2, .int (nI a1)), (3, .int (nI a2)), (4, .int (nI k1))]) hx hb d_M_verify_125 hl (by decide) rfl (fun ls hl => ?_)
                have hI9 : itR u63 (vfI g t0 a1 a2) := (jok hvf.2.1).2.2
                have hI48 : (vfI g t0 a1 a2).length ≤ 48 := vfI_len hvf.2.1
                have key127 : ∀ (n127 : Nat) (k : Nat) (ls : Array Slot) (H : Heap) (locs : List Loc), (vfI g t0 a1 a2).length - k < n127 → (k ≤ (vfI g t0 a1 a2).length) → (gt_ (vfI g t0 a1 a2) k1 = gt_ ((vfI g t0 a1 a2).drop k) k1) → lv_has ls 8 [(7, .int (nI k)), (6, .int (nI 1)), (5, .int r63), (0, .ref h), (1, .int dg), (2, .int (nI a1)), (3, .int (nI a2)), (4, .int (nI k1))] → va_P D CC (wM tk h ad (mup u63 23 0 (nI 0)) la ++ tl) H → va_D A (wM tk h ad (mup u63 23 0 (nI 0)) la ++ tl) → va_S A s.heap H locs → W p l e ({ frames := 5, cells := 0, slots := 0, locals := 119 } : Room) s m args below meth c H locs 0 0 Q (F0 m 127 ls []) := by
                  intro n127
                  induction n127 with
                  | zero => intro k ls H locs hn; exact absurd hn (Nat.not_lt_zero _)
                  | succ n127 ih127 =>
                    intro k ls H locs hn127 hk hfd hl hP hD hS
                    refine lv_iload hx hb d_M_verify_127 (lv_at hl 0 rfl) ?_
                    refine lv_aload_n hx hb d_M_verify_129 rfl (lv_at hl 3 rfl) ?_
                    refine gf_M_211 (v := .int ((mup u63 23 0 (nI 0)) 29 0)) hx hb hT hown hK hP 0 rfl rfl d_M_verify_130 ?_
                    refine st_top (show (mup u63 23 0 (nI 0)) 29 0 = u63 29 0 from (rd_ne (by decide) rfl)) ?_
                    refine st_top (show u63 29 0 = nI ((vfI g t0 a1 a2).length) from hI9.1) ?_
                    refine st_icmp_ge hx hb (by omega) (by omega) d_M_verify_133 (tgt := 167) (by decide) (fun hc133 => ?_) (fun hc133 => ?_)
                    · skip
                      have hfnd : gt_ (vfI g t0 a1 a2) k1 = none := by rw [hfd, List.drop_eq_nil_of_le (by omega)]; rfl
                      refine lv_iconst (v := nI 1) hx hb d_M_verify_167 (by decide) ?_
                      exact k_iret (v := nI 1) hQ hx hb hr hlk hK hP hD hS (mup u63 23 0 (nI 0)) rfl (⟨fun q => absurd q (vf_no h1 h2 h3 h4), fun n1 v1 q1 e1 e2 e3 z1 z2 z3 z4 => by obtain rfl := (nI_eq (by omega) (by omega)).mp e1; obtain rfl := (nI_eq (by omega) (by omega)).mp e2; obtain rfl := (nI_eq (by omega) (by omega)).mp e3; exact ⟨frx_t (frx_t (frx_t (frx_t (L := [0]) frx_m (wy_fr _ _) (M := [0, 17, 18, 19, 20]) (fun x h => ⟨fun q => h (by simp at q ⊢; omega), fun q => h (by simp at q ⊢; omega)⟩)) hfi (M := [0, 17, 18, 19, 20, 25, 26, 27]) (fun x h => ⟨fun q => h (by simp at q ⊢; omega), fun q => h (by simp at q ⊢; omega)⟩)) jfr (M := [0, 17, 18, 19, 20, 23, 25, 26, 27, 28, 29, 30, 31]) (fun x h => ⟨fun q => h (by simp at q ⊢; omega), fun q => h (by simp at q ⊢; omega)⟩)) (L' := [23]) frx_m (M := [0, 17, 18, 19, 20, 23, 25, 26, 27, 28, 29, 30, 31]) (fun x h => ⟨fun q => h (by simp at q ⊢; omega), fun q => h (by simp at q ⊢; omega)⟩), rd_ne (by decide) ((congrFun (jfr 0 (by decide)) 0).trans ((congrFun (hfi 0 (by decide)) 0).trans ((congrFun (wy_fr _ _ 0 (by decide)) 0).trans rd_eq))), rd_eq, ⟨fun _ => ⟨fun w hw => (by rw [hfnd] at hw; cases hw), fun _ => ⟨rfl, rd_ne (by decide) ((congrFun (jfr 28 (by decide)) 0).trans ((congrFun (hfi 28 (by decide)) 0).trans ((congrFun (wy_fr _ _ 28 (by decide)) 0).trans (rd_ne (by decide) rfl))))⟩⟩, fun q => absurd hvf q⟩⟩⟩) d_M_verify_168
                    · skip
                      obtain ⟨x, hx9⟩ : ∃ x, (vfI g t0 a1 a2)[k]? = some x := ⟨_, List.getElem?_eq_getElem (show k < (vfI g t0 a1 a2).length by omega)⟩
                      have hix := hI9.2 k x hx9
                      have hx47 := vfI_47 hvf.2.1 x (List.mem_of_getElem? hx9)
                      refine lv_aload_n hx hb d_M_verify_136 rfl (lv_at hl 3 rfl) ?_
                      refine gf_M_63 (v := .ref (ad 30)) hx hb hT hown hK hP 0 rfl rfl d_M_verify_137 ?_
                      refine lv_iload hx hb d_M_verify_140 (lv_at hl 0 rfl) ?_
                      refine st_iald hx hb hK hP 18 0 rfl rfl (by omega) (by decide) d_M_verify_142 ?_
                      refine st_top (show (mup u63 23 0 (nI 0)) 30 k = u63 30 k from (rd_ne (by decide) rfl)) ?_
                      refine st_top (show u63 30 k = nI x.1 from hix.1) ?_
                      refine lv_iload hx hb d_M_verify_143 (lv_at hl 7 rfl) ?_
                      refine st_icmp_ne hx hb (by omega) (by omega) d_M_verify_145 (tgt := 161) (by decide) (fun hc145 => ?_) (fun hc145 => ?_)
                      · skip
                        refine lv_iinc (k := 0) (v := nI (k + 1)) (lv' := [(7, .int (nI (k + 1))), (6, .int (nI 1)), (5, .int r63), (0, .ref h), (1, .int dg), (2, .int (nI a1)), (3, .int (nI a2)), (4, .int (nI k1))]) hx hb d_M_verify_161 hl rfl (nI_add _ _) (by decide) rfl (fun ls hl => ?_)
                        refine lv_goto hx hb d_M_verify_164 (tgt := 127) (by decide) ?_
                        exact ih127 (k + 1) ls _ _ (by omega) (by omega) (by rw [hfd, gt_drop hx9, if_neg (fun q => hc145 (by rw [q]))]) (lv_sub hl [0, 1, 2, 3, 4, 5, 6, 7] rfl) hP hD hS
                      · skip
                        have hfnd : gt_ (vfI g t0 a1 a2) k1 = some x.2 := by rw [hfd, gt_drop hx9, if_pos hc145]
                        refine lv_aload_n hx hb d_M_verify_148 rfl (lv_at hl 3 rfl) ?_
                        refine lv_aload_n hx hb d_M_verify_149 rfl (lv_at hl 3 rfl) ?_
                        refine gf_M_66 (v := .ref (ad 31)) hx hb hT hown hK hP 0 rfl rfl d_M_verify_150 ?_
                        refine lv_iload hx hb d_M_verify_153 (lv_at hl 0 rfl) ?_
                        refine st_iald hx hb hK hP 19 0 rfl rfl (by omega) (by decide) d_M_verify_155 ?_
                        refine st_top (show (mup u63 23 0 (nI 0)) 31 k = u63 31 k from (rd_ne (by decide) rfl)) ?_
                        refine st_top (show u63 31 k = x.2 from hix.2) ?_
                        refine pf_M_226 hx hb hT hown hK hP hD hS 0 rfl (Nat.le_of_ble_eq_true rfl) d_M_verify_156 (fun H locs hP hD hS => ?_)
                        replace hP : va_P D CC (wM tk h ad (mup (mup u63 23 0 (nI 0)) 28 0 x.2) la ++ tl) H := Eq.mp (congrArg (fun w => va_P D CC w H) (sM_28 tk h ad (mup u63 23 0 (nI 0)) la tl x.2)) hP
                        replace hD : va_D A (wM tk h ad (mup (mup u63 23 0 (nI 0)) 28 0 x.2) la ++ tl) := Eq.mp (congrArg (fun w => va_D A w) (sM_28 tk h ad (mup u63 23 0 (nI 0)) la tl x.2)) hD
                        refine lv_iconst (v := nI 2) hx hb d_M_verify_159 (by decide) ?_
                        exact k_iret (v := nI 2) hQ hx hb hr hlk hK hP hD hS (mup (mup u63 23 0 (nI 0)) 28 0 x.2) rfl (⟨fun q => absurd q (vf_no h1 h2 h3 h4), fun n1 v1 q1 e1 e2 e3 z1 z2 z3 z4 => by obtain rfl := (nI_eq (by omega) (by omega)).mp e1; obtain rfl := (nI_eq (by omega) (by omega)).mp e2; obtain rfl := (nI_eq (by omega) (by omega)).mp e3; exact ⟨frx_t (frx_t (frx_t (frx_t (frx_t (L := [0]) frx_m (wy_fr _ _) (M := [0, 17, 18, 19, 20]) (fun x h => ⟨fun q => h (by simp at q ⊢; omega), fun q => h (by simp at q ⊢; omega)⟩)) hfi (M := [0, 17, 18, 19, 20, 25, 26, 27]) (fun x h => ⟨fun q => h (by simp at q ⊢; omega), fun q => h (by simp at q ⊢; omega)⟩)) jfr (M := [0, 17, 18, 19, 20, 23, 25, 26, 27, 28, 29, 30, 31]) (fun x h => ⟨fun q => h (by simp at q ⊢; omega), fun q => h (by simp at q ⊢; omega)⟩)) (L' := [23]) frx_m (M := [0, 17, 18, 19, 20, 23, 25, 26, 27, 28, 29, 30, 31]) (fun x h => ⟨fun q => h (by simp at q ⊢; omega), fun q => h (by simp at q ⊢; omega)⟩)) (L' := [28]) frx_m (M := [0, 17, 18, 19, 20, 23, 25, 26, 27, 28, 29, 30, 31]) (fun x h => ⟨fun q => h (by simp at q ⊢; omega), fun q => h (by simp at q ⊢; omega)⟩), rd_ne (by decide) (rd_ne (by decide) ((congrFun (jfr 0 (by decide)) 0).trans ((congrFun (hfi 0 (by decide)) 0).trans ((congrFun (wy_fr _ _ 0 (by decide)) 0).trans rd_eq)))), rd_ne (by decide) rd_eq, ⟨fun _ => ⟨fun w hw => (by rw [hfnd] at hw; cases hw; exact ⟨rfl, rd_eq⟩), fun hw => (by rw [hfnd] at hw; cases hw)⟩, fun q => absurd hvf q⟩⟩⟩) d_M_verify_160
                exact key127 _ 0 ls _ _ (Nat.lt_succ_self _) (by omega) rfl (lv_sub hl [0, 1, 2, 3, 4, 5, 6, 7] rfl) hP hD hS
      · skip
        have hbad : (n9 < nI 1 ∨ nI 16 < n9) ∨ (v9 < nI 0 ∨ n9 - nI 1 < v9) ∨ (key9 < nI 0 ∨ nI 47 < key9) := Or.inr (Or.inr (Classical.byContradiction (fun q => hc29 (if_neg q))))
        refine lv_aload_n hx hb d_M_verify_32 rfl (lv_at hl 0 rfl) ?_
        refine lv_iconst (v := nI 1) hx hb d_M_verify_33 (by decide) ?_
        refine k_calli (va_runV (As := [.int (nI 1)]) (rest := []) ⟨hx, hb, hml, hown, hts⟩ (c_M_refuse l D tk H.size h ad g la tl (nI 1) ) (cwV 1 hts (gV t_1060 t_1062 s_17 t_9 t_1063) rfl rfl rfl (by decide +kernel) ⟨Nat.le_of_ble_eq_true rfl, Nat.le_of_ble_eq_true rfl⟩) (k_preV hP hK hD hnw 0 rfl rfl) rfl rfl hl.1 rfl (lv_room (Nat.le_of_ble_eq_true rfl)) d_M_verify_34 hc0) hD hS hA (fun _ _ H locs hp34 hP hD hK hS => ?_)
        subst hp34
        replace hP : va_P D CC (wM tk h ad (mup g 0 0 (nI 1)) la ++ tl) H := hP
        replace hD : va_D A (wM tk h ad (mup g 0 0 (nI 1)) la ++ tl) := hD
        exact k_iret (v := 0) hQ hx hb hr hlk hK hP hD hS (mup g 0 0 (nI 1)) rfl (⟨fun _ => ⟨rfl, rfl⟩, fun n1 v1 q1 e1 e2 e3 z1 z2 z3 z4 => absurd (show (n9 < nI 1 ∨ nI 16 < n9) ∨ (v9 < nI 0 ∨ n9 - nI 1 < v9) ∨ (key9 < nI 0 ∨ nI 47 < key9) from hbad) (by rw [e1, e2, e3]; exact vf_no z1 z2 z3 z4)⟩) d_M_verify_37
