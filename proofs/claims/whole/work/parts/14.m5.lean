theorem tk_cases {n : Int32} (h : ¬ (n < nI 1 ∨ nI 4 < n)) : n = nI 1 ∨ n = nI 2 ∨ n = nI 3 ∨ n = nI 4 := by
  obtain ⟨j, hj, e⟩ := nI_of2 (x := n) (M := 4) (n := 4) (by decide) (fun q => h (Or.inl (Int32.lt_trans q (by decide)))) (Int32.not_lt.mp (fun q => h (Or.inr q)))
  have h1 : ¬ j = 0 := by
    rintro rfl
    exact h (Or.inl (by rw [e]; decide))
  have : j = 1 ∨ j = 2 ∨ j = 3 ∨ j = 4 := by omega
  rcases this with rfl | rfl | rfl | rfl
  · exact Or.inl e
  · exact Or.inr (Or.inl e)
  · exact Or.inr (Or.inr (Or.inl e))
  · exact Or.inr (Or.inr (Or.inr e))
theorem nI_nm1 {j : Nat} (h : j < 2 ^ 31) : ¬ nI j = -1 := by
  intro q
  have := congrArg Int32.toInt q
  rw [nI_toInt h] at this
  have e : ((-1 : Int32)).toInt = -1 := by decide
  rw [e] at this
  omega
/-- the place of a key in the map of a version, or of what is being changed -/
def giM (v key : Int32) : Nat := 48 * (if v = -1 then 16 else v.toNatClampNeg) + key.toNatClampNeg
def gbM (g : Nat → Nat → Int32) (v key : Int32) : Prop := (¬ v = -1 ∧ ivM g v = 0) ∨ (key < nI 0 ∨ nI 47 < key)
theorem giM_1 {k : Nat} (h : k < 48) : giM (-1) (nI k) = 48 * 16 + k := by
  unfold giM
  rw [if_pos rfl, nI_clamp (by omega)]
theorem giM_2 {j k : Nat} (hj : j < 2 ^ 31) (h : k < 48) : giM (nI j) (nI k) = 48 * j + k := by
  unfold giM
  rw [if_neg (nI_nm1 hj), nI_clamp hj, nI_clamp (by omega)]
theorem ky_in {key : Int32} (h : ¬ (key < nI 0 ∨ nI 47 < key)) : ∃ k : Nat, k < 48 ∧ key = nI k := by
  obtain ⟨j, hj, e⟩ := nI_of2 (M := 47) (n := 47) (by decide) (fun q => h (Or.inl q)) (Int32.not_lt.mp (fun q => h (Or.inr q)))
  exact ⟨j, by omega, e⟩
/-- the bits of the map that is being changed -/
def btM (f : Nat → Int32) : Nat → Int64
  | 0 => 0
  | k + 1 => btM f k ||| (if f (768 + k) = 0 then 0 else (1 : Int64) <<< ((nI k).toInt64 &&& 63))
theorem btM_succ (f : Nat → Int32) (k : Nat) : btM f (k + 1) = btM f k ||| (if f (768 + k) = 0 then 0 else (1 : Int64) <<< ((nI k).toInt64 &&& 63)) := rfl
theorem updL_2 (f : Nat → Int64) (k : Nat) (x y : Int64) : vp_updL (vp_updL f k x) k y = vp_updL f k y := by
  funext j
  unfold vp_updL
  split <;> rfl
def kmF (g : Nat → Nat → Int32) (mp k : Nat) : Nat → Nat → Int32 := fun x => if x = 10 then (fun j => if 48 * mp ≤ j ∧ j < 48 * mp + k then g 2 (768 + (j - 48 * mp)) else g 10 j) else g x
theorem kmF_0 (g : Nat → Nat → Int32) (mp : Nat) : kmF g mp 0 = g := by
  funext x
  unfold kmF
  split
  · next h => subst h; funext j; rw [if_neg (by omega)]
  · rfl
theorem kmF_ne (g : Nat → Nat → Int32) (mp k : Nat) {x : Nat} (h : x ≠ 10) : kmF g mp k x = g x := by unfold kmF; rw [if_neg h]
theorem kmF_step (g : Nat → Nat → Int32) (mp k : Nat) {v : Int32} (hv : v = g 2 (768 + k)) : mup (kmF g mp k) 10 (48 * mp + k) v = kmF g mp (k + 1) := by
  funext x j
  by_cases h : x = 10
  · subst h
    rw [mup_eq]
    unfold upd kmF
    rw [if_pos rfl, if_pos rfl]
    by_cases hj : j = 48 * mp + k
    · subst hj; rw [if_pos rfl, if_pos (by omega), hv]; congr 1; omega
    · rw [if_neg hj]
      by_cases h2 : 48 * mp ≤ j ∧ j < 48 * mp + k
      · rw [if_pos h2, if_pos (by omega)]
      · rw [if_neg h2, if_neg (by omega)]
  · rw [mup_ne h, kmF_ne _ _ _ h, kmF_ne _ _ _ h]

set_option maxHeartbeats 4000000 in
set_option maxRecDepth 100000 in
theorem c_M_take (l : Launch) (D : va_G) (tk : Nat → ClassId) (sz : Nat) (h : Nat) (ad : Nat → Nat) (g : Nat → Nat → Int32) (la : Nat → Int64) (tl : va_W) (t0 : Nat) (ht0 : t0 ≤ 400) (hg : g 23 0 = nI t0) (word n : Int32) : Met l y_M_take w_M_take ({ frames := 1, cells := 0, slots := 0, locals := 22 }) (va_Pc [.ref h, .int word, .int n] (k_pre D (TY tk) sz (wM tk h ad g la ++ tl))) (va_Qi (fun (r : Int32) (_ : Unit) => r = if (n < nI 1 ∨ nI 4 < n) ∨ ¬ nI t0 + n ≤ nI 400 then nI 0 else nI 1) (fun u t => k_at D (TY tk) (va_A (wM tk h ad g la ++ tl) sz) ((fun _ => wM tk h ad (if (n < nI 1 ∨ nI 4 < n) ∨ ¬ nI t0 + n ≤ nI 400 then mup g 0 0 (nI 0) else tkF (mup g 0 0 (nI 0)) t0 word n.toNatClampNeg) la ++ tl) u) t) (va_A (wM tk h ad g la ++ tl) sz)) 0 0 (va_A (wM tk h ad g la ++ tl) sz) := by
  refine k_ofW (fun A => va_Qi (fun (r : Int32) (_ : Unit) => r = if (n < nI 1 ∨ nI 4 < n) ∨ ¬ nI t0 + n ≤ nI 400 then nI 0 else nI 1) (fun u t => k_at D (TY tk) A ((fun _ => wM tk h ad (if (n < nI 1 ∨ nI 4 < n) ∨ ¬ nI t0 + n ≤ nI 400 then mup g 0 0 (nI 0) else tkF (mup g 0 0 (nI 0)) t0 word n.toNatClampNeg) la ++ tl) u) t) A) (by decide) (Nat.le_of_ble_eq_true rfl) ?_
  intro p e s m args below meth c Q A ls hQ hx hb hr hlk hin hts hT hown hml hnw hP hK hD hA hsz hl
  have hS : va_S A s.heap s.heap [] := va_S.rf
  have hc0 : 0 + 0 ≤ 0 ∧ 0 + 0 ≤ 0 := ⟨by decide, by decide⟩
  replace hl : lv_has ls 4 [(0, .ref h), (1, .int word), (2, .int n)] := hl
  replace hP : va_P D CC (wM tk h ad g la ++ tl) s.heap := hP
  replace hK : va_K D CC (TY tk) s := hK
  refine lv_aload_n hx hb d_M_take_0 rfl (lv_at hl 0 rfl) ?_
  refine lv_iconst (v := nI 0) hx hb d_M_take_1 (by decide) ?_
  refine pf_M_73 hx hb hT hown hK hP hD hS 0 rfl (Nat.le_of_ble_eq_true rfl) d_M_take_2 (fun H locs hP hD hS => ?_)
  replace hP : va_P D CC (wM tk h ad (mup g 0 0 (nI 0)) la ++ tl) H := hP
  replace hD : va_D A (wM tk h ad (mup g 0 0 (nI 0)) la ++ tl) := hD
  refine lv_iload_n hx hb d_M_take_5 rfl (lv_at hl 2 rfl) ?_
  refine lv_iconst (v := nI 1) hx hb d_M_take_6 (by decide) ?_
  refine lv_iconst (v := nI 4) hx hb d_M_take_7 (by decide) ?_
  refine k_calli (va_runS (As := [.int n, .int (nI 1), .int (nI 4)]) (rest := []) ⟨hx, hb, hml, hown, hts⟩ (c_M_outside l D tk H.size n (nI 1) (nI 4) (wM tk h ad (mup g 0 0 (nI 0)) la ++ tl)) (cwS 3 hts (gS t_1041 t_1042 t_9 t_1043) rfl rfl rfl (by decide +kernel) ⟨Nat.le_of_ble_eq_true rfl, Nat.le_of_ble_eq_true rfl⟩) (k_preS hP hK hD hnw) rfl rfl hl.1 rfl (lv_room (Nat.le_of_ble_eq_true rfl)) d_M_take_8 hc0) hD hS hA (fun _ _ H locs hp8 hP hD hK hS => ?_)
  subst hp8
  replace hP : va_P D CC (wM tk h ad (mup g 0 0 (nI 0)) la ++ tl) H := hP
  replace hD : va_D A (wM tk h ad (mup g 0 0 (nI 0)) la ++ tl) := hD
  refine lv_if_ne hx hb d_M_take_11 (tgt := 26) (by decide) (fun hc11 => ?_) (fun hc11 => ?_)
  · skip
    have hbad : (n < nI 1 ∨ nI 4 < n) ∨ ¬ nI t0 + n ≤ nI 400 := Or.inl (Classical.byContradiction (fun q => hc11 (by rw [if_neg q])))
    refine lv_iconst (v := nI 0) hx hb d_M_take_26 (by decide) ?_
    exact k_zret (v := nI 0) hQ hx hb hr hlk hK hP hD hS () (by rw [if_pos hbad]) (by decide) (by rw [if_pos hbad]) d_M_take_27
  · skip
    refine lv_aload_n hx hb d_M_take_14 rfl (lv_at hl 0 rfl) ?_
    refine gf_M_194 (v := .int (g 23 0)) hx hb hT hown hK hP 0 rfl rfl d_M_take_15 ?_
    refine st_top (show g 23 0 = nI t0 from hg) ?_
    refine lv_iload_n hx hb d_M_take_18 rfl (lv_at hl 2 rfl) ?_
    refine lv_iadd hx hb d_M_take_19 ?_
    refine lv_sipush (v := nI 400) hx hb d_M_take_20 (by decide) ?_
    refine lv_icmp_le hx hb d_M_take_23 (tgt := 28) (by decide) (fun hc23 => ?_) (fun hc23 => ?_)
    · skip
      have hn9 : ¬ (n < nI 1 ∨ nI 4 < n) := fun q => by rw [if_pos q] at hc11; exact absurd hc11 (by decide)
      have hnb : ¬ ((n < nI 1 ∨ nI 4 < n) ∨ ¬ nI t0 + n ≤ nI 400) := fun q => q.elim hn9 (fun q => q hc23)
      rcases tk_cases hn9 with rfl | rfl | rfl | rfl
      · skip
        have hb9 : t0 + 1 ≤ 400 := by rw [nI_add] at hc23; exact (nI_leI (by omega) (by omega)).mp hc23
        refine lv_iload_n hx hb d_M_take_28 rfl (lv_at hl 2 rfl) ?_
        refine lv_iconst (v := nI 1) hx hb d_M_take_29 (by decide) ?_
        refine st_isub hx hb (by omega) d_M_take_30 ?_
        refine lv_istore_n (lv' := [(3, .int (nI 0)), (0, .ref h), (1, .int word), (2, .int (nI 1))]) hx hb d_M_take_31 rfl hl (by decide) rfl (fun ls hl => ?_)
        refine lv_iload_n hx hb d_M_take_32 rfl (lv_at hl 0 rfl) ?_
        refine st_if_lt hx hb (by omega) d_M_take_33 (tgt := 71) (by decide) (fun hc33 => (by exfalso; first | exact hc33 | omega)) (fun hc33 => ?_)
        refine lv_aload_n hx hb d_M_take_36 rfl (lv_at hl 1 rfl) ?_
        refine gf_M_57 (v := .ref (ad 24)) hx hb hT hown hK hP 0 rfl rfl d_M_take_37 ?_
        refine lv_aload_n hx hb d_M_take_40 rfl (lv_at hl 1 rfl) ?_
        refine gf_M_194 (v := .int (g 23 0)) hx hb hT hown hK hP 0 rfl rfl d_M_take_41 ?_
        refine st_top (show g 23 0 = nI t0 from hg) ?_
        refine lv_iload_n hx hb d_M_take_44 rfl (lv_at hl 2 rfl) ?_
        refine lv_bipush (v := nI 8) hx hb d_M_take_45 (by decide) ?_
        refine lv_iload_n hx hb d_M_take_47 rfl (lv_at hl 0 rfl) ?_
        refine st_imul hx hb d_M_take_48 ?_
        refine lv_ishr hx hb d_M_take_49 ?_
        refine lv_sipush (v := nI 255) hx hb d_M_take_50 (by decide) ?_
        refine lv_iand hx hb d_M_take_53 ?_
        refine st_iast hx hb hK hP hD hS 16 0 rfl rfl (by omega) (by decide) d_M_take_54 (fun H locs hP hD hS => ?_)
        replace hP : va_P D CC (wM tk h ad (mup (mup g 0 0 (nI 0)) 24 t0 ((word >>> ((nI 0) &&& 31)) &&& (nI 255))) la ++ tl) H := hP
        replace hD : va_D A (wM tk h ad (mup (mup g 0 0 (nI 0)) 24 t0 ((word >>> ((nI 0) &&& 31)) &&& (nI 255))) la ++ tl) := hD
        refine lv_aload_n hx hb d_M_take_55 rfl (lv_at hl 1 rfl) ?_
        refine lv_dup hx hb d_M_take_56 rfl ?_
        refine gf_M_194 (v := .int (g 23 0)) hx hb hT hown hK hP 0 rfl rfl d_M_take_57 ?_
        refine st_top (show g 23 0 = nI t0 from hg) ?_
        refine lv_iconst (v := nI 1) hx hb d_M_take_60 (by decide) ?_
        refine st_iadd hx hb d_M_take_61 ?_
        refine pf_M_194 hx hb hT hown hK hP hD hS 0 rfl (Nat.le_of_ble_eq_true rfl) d_M_take_62 (fun H locs hP hD hS => ?_)
        replace hP : va_P D CC (wM tk h ad (mup (mup (mup g 0 0 (nI 0)) 24 t0 ((word >>> ((nI 0) &&& 31)) &&& (nI 255))) 23 0 (nI (t0 + 1))) la ++ tl) H := hP
        replace hD : va_D A (wM tk h ad (mup (mup (mup g 0 0 (nI 0)) 24 t0 ((word >>> ((nI 0) &&& 31)) &&& (nI 255))) 23 0 (nI (t0 + 1))) la ++ tl) := hD
        refine lv_iinc (k := 0) (v := -1) (lv' := [(3, .int (-1)), (0, .ref h), (1, .int word), (2, .int (nI 1))]) hx hb d_M_take_65 hl rfl (by decide) (by decide) rfl (fun ls hl => ?_)
        refine lv_goto hx hb d_M_take_68 (tgt := 32) (by decide) ?_
        refine lv_iload_n hx hb d_M_take_32 rfl (lv_at hl 0 rfl) ?_
        refine lv_if_lt hx hb d_M_take_33 (tgt := 71) (by decide) (fun hc33 => ?_) (fun hc33 => absurd hc33 (by decide))
        refine lv_iconst (v := nI 1) hx hb d_M_take_71 (by decide) ?_
        exact k_zret (v := nI 1) hQ hx hb hr hlk hK hP hD hS () (by rw [if_neg hnb, show (nI 1).toNatClampNeg = 1 from by decide]; rfl) (by decide) (by rw [if_neg hnb]) d_M_take_72
      · skip
        have hb9 : t0 + 2 ≤ 400 := by rw [nI_add] at hc23; exact (nI_leI (by omega) (by omega)).mp hc23
        refine lv_iload_n hx hb d_M_take_28 rfl (lv_at hl 2 rfl) ?_
        refine lv_iconst (v := nI 1) hx hb d_M_take_29 (by decide) ?_
        refine st_isub hx hb (by omega) d_M_take_30 ?_
        refine lv_istore_n (lv' := [(3, .int (nI 1)), (0, .ref h), (1, .int word), (2, .int (nI 2))]) hx hb d_M_take_31 rfl hl (by decide) rfl (fun ls hl => ?_)
        refine lv_iload_n hx hb d_M_take_32 rfl (lv_at hl 0 rfl) ?_
        refine st_if_lt hx hb (by omega) d_M_take_33 (tgt := 71) (by decide) (fun hc33 => (by exfalso; first | exact hc33 | omega)) (fun hc33 => ?_)
        refine lv_aload_n hx hb d_M_take_36 rfl (lv_at hl 1 rfl) ?_
        refine gf_M_57 (v := .ref (ad 24)) hx hb hT hown hK hP 0 rfl rfl d_M_take_37 ?_
        refine lv_aload_n hx hb d_M_take_40 rfl (lv_at hl 1 rfl) ?_
        refine gf_M_194 (v := .int (g 23 0)) hx hb hT hown hK hP 0 rfl rfl d_M_take_41 ?_
        refine st_top (show g 23 0 = nI t0 from hg) ?_
        refine lv_iload_n hx hb d_M_take_44 rfl (lv_at hl 2 rfl) ?_
        refine lv_bipush (v := nI 8) hx hb d_M_take_45 (by decide) ?_
        refine lv_iload_n hx hb d_M_take_47 rfl (lv_at hl 0 rfl) ?_
        refine st_imul hx hb d_M_take_48 ?_
        refine lv_ishr hx hb d_M_take_49 ?_
        refine lv_sipush (v := nI 255) hx hb d_M_take_50 (by decide) ?_
        refine lv_iand hx hb d_M_take_53 ?_
        refine st_iast hx hb hK hP hD hS 16 0 rfl rfl (by omega) (by decide) d_M_take_54 (fun H locs hP hD hS => ?_)
        replace hP : va_P D CC (wM tk h ad (mup (mup g 0 0 (nI 0)) 24 t0 ((word >>> ((nI 8) &&& 31)) &&& (nI 255))) la ++ tl) H := hP
        replace hD : va_D A (wM tk h ad (mup (mup g 0 0 (nI 0)) 24 t0 ((word >>> ((nI 8) &&& 31)) &&& (nI 255))) la ++ tl) := hD
        refine lv_aload_n hx hb d_M_take_55 rfl (lv_at hl 1 rfl) ?_
        refine lv_dup hx hb d_M_take_56 rfl ?_
        refine gf_M_194 (v := .int (g 23 0)) hx hb hT hown hK hP 0 rfl rfl d_M_take_57 ?_
        refine st_top (show g 23 0 = nI t0 from hg) ?_
        refine lv_iconst (v := nI 1) hx hb d_M_take_60 (by decide) ?_
        refine st_iadd hx hb d_M_take_61 ?_
        refine pf_M_194 hx hb hT hown hK hP hD hS 0 rfl (Nat.le_of_ble_eq_true rfl) d_M_take_62 (fun H locs hP hD hS => ?_)
        replace hP : va_P D CC (wM tk h ad (mup (mup (mup g 0 0 (nI 0)) 24 t0 ((word >>> ((nI 8) &&& 31)) &&& (nI 255))) 23 0 (nI (t0 + 1))) la ++ tl) H := hP
        replace hD : va_D A (wM tk h ad (mup (mup (mup g 0 0 (nI 0)) 24 t0 ((word >>> ((nI 8) &&& 31)) &&& (nI 255))) 23 0 (nI (t0 + 1))) la ++ tl) := hD
        refine lv_iinc (k := 0) (v := nI 0) (lv' := [(3, .int (nI 0)), (0, .ref h), (1, .int word), (2, .int (nI 2))]) hx hb d_M_take_65 hl rfl (by decide) (by decide) rfl (fun ls hl => ?_)
        refine lv_goto hx hb d_M_take_68 (tgt := 32) (by decide) ?_
        refine lv_iload_n hx hb d_M_take_32 rfl (lv_at hl 0 rfl) ?_
        refine st_if_lt hx hb (by omega) d_M_take_33 (tgt := 71) (by decide) (fun hc33 => (by exfalso; first | exact hc33 | omega)) (fun hc33 => ?_)
        refine lv_aload_n hx hb d_M_take_36 rfl (lv_at hl 1 rfl) ?_
        refine gf_M_57 (v := .ref (ad 24)) hx hb hT hown hK hP 0 rfl rfl d_M_take_37 ?_
        refine lv_aload_n hx hb d_M_take_40 rfl (lv_at hl 1 rfl) ?_
        refine gf_M_194 (v := .int (nI (t0 + 1))) hx hb hT hown hK hP 0 rfl rfl d_M_take_41 ?_
        refine lv_iload_n hx hb d_M_take_44 rfl (lv_at hl 2 rfl) ?_
        refine lv_bipush (v := nI 8) hx hb d_M_take_45 (by decide) ?_
        refine lv_iload_n hx hb d_M_take_47 rfl (lv_at hl 0 rfl) ?_
        refine st_imul hx hb d_M_take_48 ?_
        refine lv_ishr hx hb d_M_take_49 ?_
        refine lv_sipush (v := nI 255) hx hb d_M_take_50 (by decide) ?_
        refine lv_iand hx hb d_M_take_53 ?_
        refine st_iast hx hb hK hP hD hS 16 0 rfl rfl (by omega) (by decide) d_M_take_54 (fun H locs hP hD hS => ?_)
        replace hP : va_P D CC (wM tk h ad (mup (mup (mup (mup g 0 0 (nI 0)) 24 t0 ((word >>> ((nI 8) &&& 31)) &&& (nI 255))) 23 0 (nI (t0 + 1))) 24 (t0 + 1) ((word >>> ((nI 0) &&& 31)) &&& (nI 255))) la ++ tl) H := hP
        replace hD : va_D A (wM tk h ad (mup (mup (mup (mup g 0 0 (nI 0)) 24 t0 ((word >>> ((nI 8) &&& 31)) &&& (nI 255))) 23 0 (nI (t0 + 1))) 24 (t0 + 1) ((word >>> ((nI 0) &&& 31)) &&& (nI 255))) la ++ tl) := hD
        refine lv_aload_n hx hb d_M_take_55 rfl (lv_at hl 1 rfl) ?_
        refine lv_dup hx hb d_M_take_56 rfl ?_
        refine gf_M_194 (v := .int (nI (t0 + 1))) hx hb hT hown hK hP 0 rfl rfl d_M_take_57 ?_
        refine lv_iconst (v := nI 1) hx hb d_M_take_60 (by decide) ?_
        refine st_iadd hx hb d_M_take_61 ?_
        refine pf_M_194 hx hb hT hown hK hP hD hS 0 rfl (Nat.le_of_ble_eq_true rfl) d_M_take_62 (fun H locs hP hD hS => ?_)
        replace hP : va_P D CC (wM tk h ad (mup (mup (mup (mup (mup g 0 0 (nI 0)) 24 t0 ((word >>> ((nI 8) &&& 31)) &&& (nI 255))) 23 0 (nI (t0 + 1))) 24 (t0 + 1) ((word >>> ((nI 0) &&& 31)) &&& (nI 255))) 23 0 (nI ((t0 + 1) + 1))) la ++ tl) H := hP
        replace hD : va_D A (wM tk h ad (mup (mup (mup (mup (mup g 0 0 (nI 0)) 24 t0 ((word >>> ((nI 8) &&& 31)) &&& (nI 255))) 23 0 (nI (t0 + 1))) 24 (t0 + 1) ((word >>> ((nI 0) &&& 31)) &&& (nI 255))) 23 0 (nI ((t0 + 1) + 1))) la ++ tl) := hD
        refine lv_iinc (k := 0) (v := -1) (lv' := [(3, .int (-1)), (0, .ref h), (1, .int word), (2, .int (nI 2))]) hx hb d_M_take_65 hl rfl (by decide) (by decide) rfl (fun ls hl => ?_)
        refine lv_goto hx hb d_M_take_68 (tgt := 32) (by decide) ?_
        refine lv_iload_n hx hb d_M_take_32 rfl (lv_at hl 0 rfl) ?_
        refine lv_if_lt hx hb d_M_take_33 (tgt := 71) (by decide) (fun hc33 => ?_) (fun hc33 => absurd hc33 (by decide))
        refine lv_iconst (v := nI 1) hx hb d_M_take_71 (by decide) ?_
        exact k_zret (v := nI 1) hQ hx hb hr hlk hK hP hD hS () (by rw [if_neg hnb, show (nI 2).toNatClampNeg = 2 from by decide]; rfl) (by decide) (by rw [if_neg hnb]) d_M_take_72
      · skip
        have hb9 : t0 + 3 ≤ 400 := by rw [nI_add] at hc23; exact (nI_leI (by omega) (by omega)).mp hc23
        refine lv_iload_n hx hb d_M_take_28 rfl (lv_at hl 2 rfl) ?_
        refine lv_iconst (v := nI 1) hx hb d_M_take_29 (by decide) ?_
        refine st_isub hx hb (by omega) d_M_take_30 ?_
        refine lv_istore_n (lv' := [(3, .int (nI 2)), (0, .ref h), (1, .int word), (2, .int (nI 3))]) hx hb d_M_take_31 rfl hl (by decide) rfl (fun ls hl => ?_)
        refine lv_iload_n hx hb d_M_take_32 rfl (lv_at hl 0 rfl) ?_
        refine st_if_lt hx hb (by omega) d_M_take_33 (tgt := 71) (by decide) (fun hc33 => (by exfalso; first | exact hc33 | omega)) (fun hc33 => ?_)
        refine lv_aload_n hx hb d_M_take_36 rfl (lv_at hl 1 rfl) ?_
        refine gf_M_57 (v := .ref (ad 24)) hx hb hT hown hK hP 0 rfl rfl d_M_take_37 ?_
        refine lv_aload_n hx hb d_M_take_40 rfl (lv_at hl 1 rfl) ?_
        refine gf_M_194 (v := .int (g 23 0)) hx hb hT hown hK hP 0 rfl rfl d_M_take_41 ?_
        refine st_top (show g 23 0 = nI t0 from hg) ?_
        refine lv_iload_n hx hb d_M_take_44 rfl (lv_at hl 2 rfl) ?_
        refine lv_bipush (v := nI 8) hx hb d_M_take_45 (by decide) ?_
        refine lv_iload_n hx hb d_M_take_47 rfl (lv_at hl 0 rfl) ?_
        refine st_imul hx hb d_M_take_48 ?_
        refine lv_ishr hx hb d_M_take_49 ?_
        refine lv_sipush (v := nI 255) hx hb d_M_take_50 (by decide) ?_
        refine lv_iand hx hb d_M_take_53 ?_
        refine st_iast hx hb hK hP hD hS 16 0 rfl rfl (by omega) (by decide) d_M_take_54 (fun H locs hP hD hS => ?_)
        replace hP : va_P D CC (wM tk h ad (mup (mup g 0 0 (nI 0)) 24 t0 ((word >>> ((nI 16) &&& 31)) &&& (nI 255))) la ++ tl) H := hP
        replace hD : va_D A (wM tk h ad (mup (mup g 0 0 (nI 0)) 24 t0 ((word >>> ((nI 16) &&& 31)) &&& (nI 255))) la ++ tl) := hD
        refine lv_aload_n hx hb d_M_take_55 rfl (lv_at hl 1 rfl) ?_
        refine lv_dup hx hb d_M_take_56 rfl ?_
        refine gf_M_194 (v := .int (g 23 0)) hx hb hT hown hK hP 0 rfl rfl d_M_take_57 ?_
        refine st_top (show g 23 0 = nI t0 from hg) ?_
        refine lv_iconst (v := nI 1) hx hb d_M_take_60 (by decide) ?_
        refine st_iadd hx hb d_M_take_61 ?_
        refine pf_M_194 hx hb hT hown hK hP hD hS 0 rfl (Nat.le_of_ble_eq_true rfl) d_M_take_62 (fun H locs hP hD hS => ?_)
        replace hP : va_P D CC (wM tk h ad (mup (mup (mup g 0 0 (nI 0)) 24 t0 ((word >>> ((nI 16) &&& 31)) &&& (nI 255))) 23 0 (nI (t0 + 1))) la ++ tl) H := hP
        replace hD : va_D A (wM tk h ad (mup (mup (mup g 0 0 (nI 0)) 24 t0 ((word >>> ((nI 16) &&& 31)) &&& (nI 255))) 23 0 (nI (t0 + 1))) la ++ tl) := hD
        refine lv_iinc (k := 0) (v := nI 1) (lv' := [(3, .int (nI 1)), (0, .ref h), (1, .int word), (2, .int (nI 3))]) hx hb d_M_take_65 hl rfl (by decide) (by decide) rfl (fun ls hl => ?_)
        refine lv_goto hx hb d_M_take_68 (tgt := 32) (by decide) ?_
        refine lv_iload_n hx hb d_M_take_32 rfl (lv_at hl 0 rfl) ?_
        refine st_if_lt hx hb (by omega) d_M_take_33 (tgt := 71) (by decide) (fun hc33 => (by exfalso; first | exact hc33 | omega)) (fun hc33 => ?_)
        refine lv_aload_n hx hb d_M_take_36 rfl (lv_at hl 1 rfl) ?_
        refine gf_M_57 (v := .ref (ad 24)) hx hb hT hown hK hP 0 rfl rfl d_M_take_37 ?_
        refine lv_aload_n hx hb d_M_take_40 rfl (lv_at hl 1 rfl) ?_
        refine gf_M_194 (v := .int (nI (t0 + 1))) hx hb hT hown hK hP 0 rfl rfl d_M_take_41 ?_
        refine lv_iload_n hx hb d_M_take_44 rfl (lv_at hl 2 rfl) ?_
        refine lv_bipush (v := nI 8) hx hb d_M_take_45 (by decide) ?_
        refine lv_iload_n hx hb d_M_take_47 rfl (lv_at hl 0 rfl) ?_
        refine st_imul hx hb d_M_take_48 ?_
        refine lv_ishr hx hb d_M_take_49 ?_
        refine lv_sipush (v := nI 255) hx hb d_M_take_50 (by decide) ?_
        refine lv_iand hx hb d_M_take_53 ?_
        refine st_iast hx hb hK hP hD hS 16 0 rfl rfl (by omega) (by decide) d_M_take_54 (fun H locs hP hD hS => ?_)
        replace hP : va_P D CC (wM tk h ad (mup (mup (mup (mup g 0 0 (nI 0)) 24 t0 ((word >>> ((nI 16) &&& 31)) &&& (nI 255))) 23 0 (nI (t0 + 1))) 24 (t0 + 1) ((word >>> ((nI 8) &&& 31)) &&& (nI 255))) la ++ tl) H := hP
        replace hD : va_D A (wM tk h ad (mup (mup (mup (mup g 0 0 (nI 0)) 24 t0 ((word >>> ((nI 16) &&& 31)) &&& (nI 255))) 23 0 (nI (t0 + 1))) 24 (t0 + 1) ((word >>> ((nI 8) &&& 31)) &&& (nI 255))) la ++ tl) := hD
        refine lv_aload_n hx hb d_M_take_55 rfl (lv_at hl 1 rfl) ?_
        refine lv_dup hx hb d_M_take_56 rfl ?_
        refine gf_M_194 (v := .int (nI (t0 + 1))) hx hb hT hown hK hP 0 rfl rfl d_M_take_57 ?_
        refine lv_iconst (v := nI 1) hx hb d_M_take_60 (by decide) ?_
        refine st_iadd hx hb d_M_take_61 ?_
        refine pf_M_194 hx hb hT hown hK hP hD hS 0 rfl (Nat.le_of_ble_eq_true rfl) d_M_take_62 (fun H locs hP hD hS => ?_)
        replace hP : va_P D CC (wM tk h ad (mup (mup (mup (mup (mup g 0 0 (nI 0)) 24 t0 ((word >>> ((nI 16) &&& 31)) &&& (nI 255))) 23 0 (nI (t0 + 1))) 24 (t0 + 1) ((word >>> ((nI 8) &&& 31)) &&& (nI 255))) 23 0 (nI ((t0 + 1) + 1))) la ++ tl) H := hP
        replace hD : va_D A (wM tk h ad (mup (mup (mup (mup (mup g 0 0 (nI 0)) 24 t0 ((word >>> ((nI 16) &&& 31)) &&& (nI 255))) 23 0 (nI (t0 + 1))) 24 (t0 + 1) ((word >>> ((nI 8) &&& 31)) &&& (nI 255))) 23 0 (nI ((t0 + 1) + 1))) la ++ tl) := hD
        refine lv_iinc (k := 0) (v := nI 0) (lv' := [(3, .int (nI 0)), (0, .ref h), (1, .int word), (2, .int (nI 3))]) hx hb d_M_take_65 hl rfl (by decide) (by decide) rfl (fun ls hl => ?_)
        refine lv_goto hx hb d_M_take_68 (tgt := 32) (by decide) ?_
        refine lv_iload_n hx hb d_M_take_32 rfl (lv_at hl 0 rfl) ?_
        refine st_if_lt hx hb (by omega) d_M_take_33 (tgt := 71) (by decide) (fun hc33 => (by exfalso; first | exact hc33 | omega)) (fun hc33 => ?_)
        refine lv_aload_n hx hb d_M_take_36 rfl (lv_at hl 1 rfl) ?_
        refine gf_M_57 (v := .ref (ad 24)) hx hb hT hown hK hP 0 rfl rfl d_M_take_37 ?_
        refine lv_aload_n hx hb d_M_take_40 rfl (lv_at hl 1 rfl) ?_
        refine gf_M_194 (v := .int (nI ((t0 + 1) + 1))) hx hb hT hown hK hP 0 rfl rfl d_M_take_41 ?_
        refine lv_iload_n hx hb d_M_take_44 rfl (lv_at hl 2 rfl) ?_
        refine lv_bipush (v := nI 8) hx hb d_M_take_45 (by decide) ?_
        refine lv_iload_n hx hb d_M_take_47 rfl (lv_at hl 0 rfl) ?_
        refine st_imul hx hb d_M_take_48 ?_
        refine lv_ishr hx hb d_M_take_49 ?_
        refine lv_sipush (v := nI 255) hx hb d_M_take_50 (by decide) ?_
        refine lv_iand hx hb d_M_take_53 ?_
        refine st_iast hx hb hK hP hD hS 16 0 rfl rfl (by omega) (by decide) d_M_take_54 (fun H locs hP hD hS => ?_)
        replace hP : va_P D CC (wM tk h ad (mup (mup (mup (mup (mup (mup g 0 0 (nI 0)) 24 t0 ((word >>> ((nI 16) &&& 31)) &&& (nI 255))) 23 0 (nI (t0 + 1))) 24 (t0 + 1) ((word >>> ((nI 8) &&& 31)) &&& (nI 255))) 23 0 (nI ((t0 + 1) + 1))) 24 ((t0 + 1) + 1) ((word >>> ((nI 0) &&& 31)) &&& (nI 255))) la ++ tl) H := hP
        replace hD : va_D A (wM tk h ad (mup (mup (mup (mup (mup (mup g 0 0 (nI 0)) 24 t0 ((word >>> ((nI 16) &&& 31)) &&& (nI 255))) 23 0 (nI (t0 + 1))) 24 (t0 + 1) ((word >>> ((nI 8) &&& 31)) &&& (nI 255))) 23 0 (nI ((t0 + 1) + 1))) 24 ((t0 + 1) + 1) ((word >>> ((nI 0) &&& 31)) &&& (nI 255))) la ++ tl) := hD
        refine lv_aload_n hx hb d_M_take_55 rfl (lv_at hl 1 rfl) ?_
        refine lv_dup hx hb d_M_take_56 rfl ?_
        refine gf_M_194 (v := .int (nI ((t0 + 1) + 1))) hx hb hT hown hK hP 0 rfl rfl d_M_take_57 ?_
        refine lv_iconst (v := nI 1) hx hb d_M_take_60 (by decide) ?_
        refine st_iadd hx hb d_M_take_61 ?_
        refine pf_M_194 hx hb hT hown hK hP hD hS 0 rfl (Nat.le_of_ble_eq_true rfl) d_M_take_62 (fun H locs hP hD hS => ?_)
        replace hP : va_P D CC (wM tk h ad (mup (mup (mup (mup (mup (mup (mup g 0 0 (nI 0)) 24 t0 ((word >>> ((nI 16) &&& 31)) &&& (nI 255))) 23 0 (nI (t0 + 1))) 24 (t0 + 1) ((word >>> ((nI 8) &&& 31)) &&& (nI 255))) 23 0 (nI ((t0 + 1) + 1))) 24 ((t0 + 1) + 1) ((word >>> ((nI 0) &&& 31)) &&& (nI 255))) 23 0 (nI (((t0 + 1) + 1) + 1))) la ++ tl) H := hP
        replace hD : va_D A (wM tk h ad (mup (mup (mup (mup (mup (mup (mup g 0 0 (nI 0)) 24 t0 ((word >>> ((nI 16) &&& 31)) &&& (nI 255))) 23 0 (nI (t0 + 1))) 24 (t0 + 1) ((word >>> ((nI 8) &&& 31)) &&& (nI 255))) 23 0 (nI ((t0 + 1) + 1))) 24 ((t0 + 1) + 1) ((word >>> ((nI 0) &&& 31)) &&& (nI 255))) 23 0 (nI (((t0 + 1) + 1) + 1))) la ++ tl) := hD
        refine lv_iinc (k := 0) (v := -1) (lv' := [(3, .int (-1)), (0, .ref h), (1, .int word), (2, .int (nI 3))]) hx hb d_M_take_65 hl rfl (by decide) (by decide) rfl (fun ls hl => ?_)
        refine lv_goto hx hb d_M_take_68 (tgt := 32) (by decide) ?_
        refine lv_iload_n hx hb d_M_take_32 rfl (lv_at hl 0 rfl) ?_
        refine lv_if_lt hx hb d_M_take_33 (tgt := 71) (by decide) (fun hc33 => ?_) (fun hc33 => absurd hc33 (by decide))
        refine lv_iconst (v := nI 1) hx hb d_M_take_71 (by decide) ?_
        exact k_zret (v := nI 1) hQ hx hb hr hlk hK hP hD hS () (by rw [if_neg hnb, show (nI 3).toNatClampNeg = 3 from by decide]; rfl) (by decide) (by rw [if_neg hnb]) d_M_take_72
      · skip
        have hb9 : t0 + 4 ≤ 400 := by rw [nI_add] at hc23; exact (nI_leI (by omega) (by omega)).mp hc23
        refine lv_iload_n hx hb d_M_take_28 rfl (lv_at hl 2 rfl) ?_
        refine lv_iconst (v := nI 1) hx hb d_M_take_29 (by decide) ?_
        refine st_isub hx hb (by omega) d_M_take_30 ?_
        refine lv_istore_n (lv' := [(3, .int (nI 3)), (0, .ref h), (1, .int word), (2, .int (nI 4))]) hx hb d_M_take_31 rfl hl (by decide) rfl (fun ls hl => ?_)
        refine lv_iload_n hx hb d_M_take_32 rfl (lv_at hl 0 rfl) ?_
        refine st_if_lt hx hb (by omega) d_M_take_33 (tgt := 71) (by decide) (fun hc33 => (by exfalso; first | exact hc33 | omega)) (fun hc33 => ?_)
        refine lv_aload_n hx hb d_M_take_36 rfl (lv_at hl 1 rfl) ?_
        refine gf_M_57 (v := .ref (ad 24)) hx hb hT hown hK hP 0 rfl rfl d_M_take_37 ?_
        refine lv_aload_n hx hb d_M_take_40 rfl (lv_at hl 1 rfl) ?_
        refine gf_M_194 (v := .int (g 23 0)) hx hb hT hown hK hP 0 rfl rfl d_M_take_41 ?_
        refine st_top (show g 23 0 = nI t0 from hg) ?_
        refine lv_iload_n hx hb d_M_take_44 rfl (lv_at hl 2 rfl) ?_
        refine lv_bipush (v := nI 8) hx hb d_M_take_45 (by decide) ?_
        refine lv_iload_n hx hb d_M_take_47 rfl (lv_at hl 0 rfl) ?_
        refine st_imul hx hb d_M_take_48 ?_
        refine lv_ishr hx hb d_M_take_49 ?_
        refine lv_sipush (v := nI 255) hx hb d_M_take_50 (by decide) ?_
        refine lv_iand hx hb d_M_take_53 ?_
        refine st_iast hx hb hK hP hD hS 16 0 rfl rfl (by omega) (by decide) d_M_take_54 (fun H locs hP hD hS => ?_)
        replace hP : va_P D CC (wM tk h ad (mup (mup g 0 0 (nI 0)) 24 t0 ((word >>> ((nI 24) &&& 31)) &&& (nI 255))) la ++ tl) H := hP
        replace hD : va_D A (wM tk h ad (mup (mup g 0 0 (nI 0)) 24 t0 ((word >>> ((nI 24) &&& 31)) &&& (nI 255))) la ++ tl) := hD
        refine lv_aload_n hx hb d_M_take_55 rfl (lv_at hl 1 rfl) ?_
        refine lv_dup hx hb d_M_take_56 rfl ?_
        refine gf_M_194 (v := .int (g 23 0)) hx hb hT hown hK hP 0 rfl rfl d_M_take_57 ?_
        refine st_top (show g 23 0 = nI t0 from hg) ?_
        refine lv_iconst (v := nI 1) hx hb d_M_take_60 (by decide) ?_
        refine st_iadd hx hb d_M_take_61 ?_
        refine pf_M_194 hx hb hT hown hK hP hD hS 0 rfl (Nat.le_of_ble_eq_true rfl) d_M_take_62 (fun H locs hP hD hS => ?_)
        replace hP : va_P D CC (wM tk h ad (mup (mup (mup g 0 0 (nI 0)) 24 t0 ((word >>> ((nI 24) &&& 31)) &&& (nI 255))) 23 0 (nI (t0 + 1))) la ++ tl) H := hP
        replace hD : va_D A (wM tk h ad (mup (mup (mup g 0 0 (nI 0)) 24 t0 ((word >>> ((nI 24) &&& 31)) &&& (nI 255))) 23 0 (nI (t0 + 1))) la ++ tl) := hD
        refine lv_iinc (k := 0) (v := nI 2) (lv' := [(3, .int (nI 2)), (0, .ref h), (1, .int word), (2, .int (nI 4))]) hx hb d_M_take_65 hl rfl (by decide) (by decide) rfl (fun ls hl => ?_)
        refine lv_goto hx hb d_M_take_68 (tgt := 32) (by decide) ?_
        refine lv_iload_n hx hb d_M_take_32 rfl (lv_at hl 0 rfl) ?_
        refine st_if_lt hx hb (by omega) d_M_take_33 (tgt := 71) (by decide) (fun hc33 => (by exfalso; first | exact hc33 | omega)) (fun hc33 => ?_)
        refine lv_aload_n hx hb d_M_take_36 rfl (lv_at hl 1 rfl) ?_
        refine gf_M_57 (v := .ref (ad 24)) hx hb hT hown hK hP 0 rfl rfl d_M_take_37 ?_
        refine lv_aload_n hx hb d_M_take_40 rfl (lv_at hl 1 rfl) ?_
        refine gf_M_194 (v := .int (nI (t0 + 1))) hx hb hT hown hK hP 0 rfl rfl d_M_take_41 ?_
        refine lv_iload_n hx hb d_M_take_44 rfl (lv_at hl 2 rfl) ?_
        refine lv_bipush (v := nI 8) hx hb d_M_take_45 (by decide) ?_
        refine lv_iload_n hx hb d_M_take_47 rfl (lv_at hl 0 rfl) ?_
        refine st_imul hx hb d_M_take_48 ?_
        refine lv_ishr hx hb d_M_take_49 ?_
        refine lv_sipush (v := nI 255) hx hb d_M_take_50 (by decide) ?_
        refine lv_iand hx hb d_M_take_53 ?_
        refine st_iast hx hb hK hP hD hS 16 0 rfl rfl (by omega) (by decide) d_M_take_54 (fun H locs hP hD hS => ?_)
        replace hP : va_P D CC (wM tk h ad (mup (mup (mup (mup g 0 0 (nI 0)) 24 t0 ((word >>> ((nI 24) &&& 31)) &&& (nI 255))) 23 0 (nI (t0 + 1))) 24 (t0 + 1) ((word >>> ((nI 16) &&& 31)) &&& (nI 255))) la ++ tl) H := hP
        replace hD : va_D A (wM tk h ad (mup (mup (mup (mup g 0 0 (nI 0)) 24 t0 ((word >>> ((nI 24) &&& 31)) &&& (nI 255))) 23 0 (nI (t0 + 1))) 24 (t0 + 1) ((word >>> ((nI 16) &&& 31)) &&& (nI 255))) la ++ tl) := hD
        refine lv_aload_n hx hb d_M_take_55 rfl (lv_at hl 1 rfl) ?_
        refine lv_dup hx hb d_M_take_56 rfl ?_
        refine gf_M_194 (v := .int (nI (t0 + 1))) hx hb hT hown hK hP 0 rfl rfl d_M_take_57 ?_
        refine lv_iconst (v := nI 1) hx hb d_M_take_60 (by decide) ?_
        refine st_iadd hx hb d_M_take_61 ?_
        refine pf_M_194 hx hb hT hown hK hP hD hS 0 rfl (Nat.le_of_ble_eq_true rfl) d_M_take_62 (fun H locs hP hD hS => ?_)
        replace hP : va_P D CC (wM tk h ad (mup (mup (mup (mup (mup g 0 0 (nI 0)) 24 t0 ((word >>> ((nI 24) &&& 31)) &&& (nI 255))) 23 0 (nI (t0 + 1))) 24 (t0 + 1) ((word >>> ((nI 16) &&& 31)) &&& (nI 255))) 23 0 (nI ((t0 + 1) + 1))) la ++ tl) H := hP
        replace hD : va_D A (wM tk h ad (mup (mup (mup (mup (mup g 0 0 (nI 0)) 24 t0 ((word >>> ((nI 24) &&& 31)) &&& (nI 255))) 23 0 (nI (t0 + 1))) 24 (t0 + 1) ((word >>> ((nI 16) &&& 31)) &&& (nI 255))) 23 0 (nI ((t0 + 1) + 1))) la ++ tl) := hD
        refine lv_iinc (k := 0) (v := nI 1) (lv' := [(3, .int (nI 1)), (0, .ref h), (1, .int word), (2, .int (nI 4))]) hx hb d_M_take_65 hl rfl (by decide) (by decide) rfl (fun ls hl => ?_)
        refine lv_goto hx hb d_M_take_68 (tgt := 32) (by decide) ?_
        refine lv_iload_n hx hb d_M_take_32 rfl (lv_at hl 0 rfl) ?_
        refine st_if_lt hx hb (by omega) d_M_take_33 (tgt := 71) (by decide) (fun hc33 => (by exfalso; first | exact hc33 | omega)) (fun hc33 => ?_)
        refine lv_aload_n hx hb d_M_take_36 rfl (lv_at hl 1 rfl) ?_
        refine gf_M_57 (v := .ref (ad 24)) hx hb hT hown hK hP 0 rfl rfl d_M_take_37 ?_
        refine lv_aload_n hx hb d_M_take_40 rfl (lv_at hl 1 rfl) ?_
        refine gf_M_194 (v := .int (nI ((t0 + 1) + 1))) hx hb hT hown hK hP 0 rfl rfl d_M_take_41 ?_
        refine lv_iload_n hx hb d_M_take_44 rfl (lv_at hl 2 rfl) ?_
        refine lv_bipush (v := nI 8) hx hb d_M_take_45 (by decide) ?_
        refine lv_iload_n hx hb d_M_take_47 rfl (lv_at hl 0 rfl) ?_
        refine st_imul hx hb d_M_take_48 ?_
        refine lv_ishr hx hb d_M_take_49 ?_
        refine lv_sipush (v := nI 255) hx hb d_M_take_50 (by decide) ?_
        refine lv_iand hx hb d_M_take_53 ?_
        refine st_iast hx hb hK hP hD hS 16 0 rfl rfl (by omega) (by decide) d_M_take_54 (fun H locs hP hD hS => ?_)
        replace hP : va_P D CC (wM tk h ad (mup (mup (mup (mup (mup (mup g 0 0 (nI 0)) 24 t0 ((word >>> ((nI 24) &&& 31)) &&& (nI 255))) 23 0 (nI (t0 + 1))) 24 (t0 + 1) ((word >>> ((nI 16) &&& 31)) &&& (nI 255))) 23 0 (nI ((t0 + 1) + 1))) 24 ((t0 + 1) + 1) ((word >>> ((nI 8) &&& 31)) &&& (nI 255))) la ++ tl) H := hP
        replace hD : va_D A (wM tk h ad (mup (mup (mup (mup (mup (mup g 0 0 (nI 0)) 24 t0 ((word >>> ((nI 24) &&& 31)) &&& (nI 255))) 23 0 (nI (t0 + 1))) 24 (t0 + 1) ((word >>> ((nI 16) &&& 31)) &&& (nI 255))) 23 0 (nI ((t0 + 1) + 1))) 24 ((t0 + 1) + 1) ((word >>> ((nI 8) &&& 31)) &&& (nI 255))) la ++ tl) := hD
        refine lv_aload_n hx hb d_M_take_55 rfl (lv_at hl 1 rfl) ?_
        refine lv_dup hx hb d_M_take_56 rfl ?_
        refine gf_M_194 (v := .int (nI ((t0 + 1) + 1))) hx hb hT hown hK hP 0 rfl rfl d_M_take_57 ?_
        refine lv_iconst (v := nI 1) hx hb d_M_take_60 (by decide) ?_
        refine st_iadd hx hb d_M_take_61 ?_
        refine pf_M_194 hx hb hT hown hK hP hD hS 0 rfl (Nat.le_of_ble_eq_true rfl) d_M_take_62 (fun H locs hP hD hS => ?_)
        replace hP : va_P D CC (wM tk h ad (mup (mup (mup (mup (mup (mup (mup g 0 0 (nI 0)) 24 t0 ((word >>> ((nI 24) &&& 31)) &&& (nI 255))) 23 0 (nI (t0 + 1))) 24 (t0 + 1) ((word >>> ((nI 16) &&& 31)) &&& (nI 255))) 23 0 (nI ((t0 + 1) + 1))) 24 ((t0 + 1) + 1) ((word >>> ((nI 8) &&& 31)) &&& (nI 255))) 23 0 (nI (((t0 + 1) + 1) + 1))) la ++ tl) H := hP
        replace hD : va_D A (wM tk h ad (mup (mup (mup (mup (mup (mup (mup g 0 0 (nI 0)) 24 t0 ((word >>> ((nI 24) &&& 31)) &&& (nI 255))) 23 0 (nI (t0 + 1))) 24 (t0 + 1) ((word >>> ((nI 16) &&& 31)) &&& (nI 255))) 23 0 (nI ((t0 + 1) + 1))) 24 ((t0 + 1) + 1) ((word >>> ((nI 8) &&& 31)) &&& (nI 255))) 23 0 (nI (((t0 + 1) + 1) + 1))) la ++ tl) := hD
        refine lv_iinc (k := 0) (v := nI 0) (lv' := [(3, .int (nI 0)), (0, .ref h), (1, .int word), (2, .int (nI 4))]) hx hb d_M_take_65 hl rfl (by decide) (by decide) rfl (fun ls hl => ?_)
        refine lv_goto hx hb d_M_take_68 (tgt := 32) (by decide) ?_
        refine lv_iload_n hx hb d_M_take_32 rfl (lv_at hl 0 rfl) ?_
        refine st_if_lt hx hb (by omega) d_M_take_33 (tgt := 71) (by decide) (fun hc33 => (by exfalso; first | exact hc33 | omega)) (fun hc33 => ?_)
        refine lv_aload_n hx hb d_M_take_36 rfl (lv_at hl 1 rfl) ?_
        refine gf_M_57 (v := .ref (ad 24)) hx hb hT hown hK hP 0 rfl rfl d_M_take_37 ?_
        refine lv_aload_n hx hb d_M_take_40 rfl (lv_at hl 1 rfl) ?_
        refine gf_M_194 (v := .int (nI (((t0 + 1) + 1) + 1))) hx hb hT hown hK hP 0 rfl rfl d_M_take_41 ?_
        refine lv_iload_n hx hb d_M_take_44 rfl (lv_at hl 2 rfl) ?_
        refine lv_bipush (v := nI 8) hx hb d_M_take_45 (by decide) ?_
        refine lv_iload_n hx hb d_M_take_47 rfl (lv_at hl 0 rfl) ?_
        refine st_imul hx hb d_M_take_48 ?_
        refine lv_ishr hx hb d_M_take_49 ?_
        refine lv_sipush (v := nI 255) hx hb d_M_take_50 (by decide) ?_
        refine lv_iand hx hb d_M_take_53 ?_
        refine st_iast hx hb hK hP hD hS 16 0 rfl rfl (by omega) (by decide) d_M_take_54 (fun H locs hP hD hS => ?_)
        replace hP : va_P D CC (wM tk h ad (mup (mup (mup (mup (mup (mup (mup (mup g 0 0 (nI 0)) 24 t0 ((word >>> ((nI 24) &&& 31)) &&& (nI 255))) 23 0 (nI (t0 + 1))) 24 (t0 + 1) ((word >>> ((nI 16) &&& 31)) &&& (nI 255))) 23 0 (nI ((t0 + 1) + 1))) 24 ((t0 + 1) + 1) ((word >>> ((nI 8) &&& 31)) &&& (nI 255))) 23 0 (nI (((t0 + 1) + 1) + 1))) 24 (((t0 + 1) + 1) + 1) ((word >>> ((nI 0) &&& 31)) &&& (nI 255))) la ++ tl) H := hP
        replace hD : va_D A (wM tk h ad (mup (mup (mup (mup (mup (mup (mup (mup g 0 0 (nI 0)) 24 t0 ((word >>> ((nI 24) &&& 31)) &&& (nI 255))) 23 0 (nI (t0 + 1))) 24 (t0 + 1) ((word >>> ((nI 16) &&& 31)) &&& (nI 255))) 23 0 (nI ((t0 + 1) + 1))) 24 ((t0 + 1) + 1) ((word >>> ((nI 8) &&& 31)) &&& (nI 255))) 23 0 (nI (((t0 + 1) + 1) + 1))) 24 (((t0 + 1) + 1) + 1) ((word >>> ((nI 0) &&& 31)) &&& (nI 255))) la ++ tl) := hD
        refine lv_aload_n hx hb d_M_take_55 rfl (lv_at hl 1 rfl) ?_
        refine lv_dup hx hb d_M_take_56 rfl ?_
        refine gf_M_194 (v := .int (nI (((t0 + 1) + 1) + 1))) hx hb hT hown hK hP 0 rfl rfl d_M_take_57 ?_
        refine lv_iconst (v := nI 1) hx hb d_M_take_60 (by decide) ?_
        refine st_iadd hx hb d_M_take_61 ?_
        refine pf_M_194 hx hb hT hown hK hP hD hS 0 rfl (Nat.le_of_ble_eq_true rfl) d_M_take_62 (fun H locs hP hD hS => ?_)
        replace hP : va_P D CC (wM tk h ad (mup (mup (mup (mup (mup (mup (mup (mup (mup g 0 0 (nI 0)) 24 t0 ((word >>> ((nI 24) &&& 31)) &&& (nI 255))) 23 0 (nI (t0 + 1))) 24 (t0 + 1) ((word >>> ((nI 16) &&& 31)) &&& (nI 255))) 23 0 (nI ((t0 + 1) + 1))) 24 ((t0 + 1) + 1) ((word >>> ((nI 8) &&& 31)) &&& (nI 255))) 23 0 (nI (((t0 + 1) + 1) + 1))) 24 (((t0 + 1) + 1) + 1) ((word >>> ((nI 0) &&& 31)) &&& (nI 255))) 23 0 (nI ((((t0 + 1) + 1) + 1) + 1))) la ++ tl) H := hP
        replace hD : va_D A (wM tk h ad (mup (mup (mup (mup (mup (mup (mup (mup (mup g 0 0 (nI 0)) 24 t0 ((word >>> ((nI 24) &&& 31)) &&& (nI 255))) 23 0 (nI (t0 + 1))) 24 (t0 + 1) ((word >>> ((nI 16) &&& 31)) &&& (nI 255))) 23 0 (nI ((t0 + 1) + 1))) 24 ((t0 + 1) + 1) ((word >>> ((nI 8) &&& 31)) &&& (nI 255))) 23 0 (nI (((t0 + 1) + 1) + 1))) 24 (((t0 + 1) + 1) + 1) ((word >>> ((nI 0) &&& 31)) &&& (nI 255))) 23 0 (nI ((((t0 + 1) + 1) + 1) + 1))) la ++ tl) := hD
        refine lv_iinc (k := 0) (v := -1) (lv' := [(3, .int (-1)), (0, .ref h), (1, .int word), (2, .int (nI 4))]) hx hb d_M_take_65 hl rfl (by decide) (by decide) rfl (fun ls hl => ?_)
        refine lv_goto hx hb d_M_take_68 (tgt := 32) (by decide) ?_
        refine lv_iload_n hx hb d_M_take_32 rfl (lv_at hl 0 rfl) ?_
        refine lv_if_lt hx hb d_M_take_33 (tgt := 71) (by decide) (fun hc33 => ?_) (fun hc33 => absurd hc33 (by decide))
        refine lv_iconst (v := nI 1) hx hb d_M_take_71 (by decide) ?_
        exact k_zret (v := nI 1) hQ hx hb hr hlk hK hP hD hS () (by rw [if_neg hnb, show (nI 4).toNatClampNeg = 4 from by decide]; rfl) (by decide) (by rw [if_neg hnb]) d_M_take_72
    · skip
      have hbad : (n < nI 1 ∨ nI 4 < n) ∨ ¬ nI t0 + n ≤ nI 400 := Or.inr hc23
      refine lv_iconst (v := nI 0) hx hb d_M_take_26 (by decide) ?_
      exact k_zret (v := nI 0) hQ hx hb hr hlk hK hP hD hS () (by rw [if_pos hbad]) (by decide) (by rw [if_pos hbad]) d_M_take_27

set_option maxHeartbeats 4000000 in
set_option maxRecDepth 100000 in
theorem c_M_carry (l : Launch) (D : va_G) (tk : Nat → ClassId) (sz : Nat) (h : Nat) (ad : Nat → Nat) (g : Nat → Nat → Int32) (la : Nat → Int64) (tl : va_W) (n : Nat) (hn : n ≤ 420) (hg : g 21 0 = nI n) (i mask : Int32) : Met l y_M_carry w_M_carry ({ frames := 0, cells := 0, slots := 0, locals := 0 }) (va_Pc [.ref h, .int i, .int mask] (k_pre D (TY tk) sz (wM tk h ad g la ++ tl))) (va_Qi (fun (r : Int32) (_ : Unit) => r = nI n) (fun u t => k_at D (TY tk) (va_A (wM tk h ad g la ++ tl) sz) ((fun _ => wM tk h ad (mup (cyF (mup g 0 0 (nI 0)) i mask n) 23 0 (nI n)) la ++ tl) u) t) (va_A (wM tk h ad g la ++ tl) sz)) 0 0 (va_A (wM tk h ad g la ++ tl) sz) := by
  refine k_ofW (fun A => va_Qi (fun (r : Int32) (_ : Unit) => r = nI n) (fun u t => k_at D (TY tk) A ((fun _ => wM tk h ad (mup (cyF (mup g 0 0 (nI 0)) i mask n) 23 0 (nI n)) la ++ tl) u) t) A) (by decide) (Nat.le_of_ble_eq_true rfl) ?_
  intro p e s m args below meth c Q A ls hQ hx hb hr hlk hin hts hT hown hml hnw hP hK hD hA hsz hl
  have hS : va_S A s.heap s.heap [] := va_S.rf
  have hc0 : 0 + 0 ≤ 0 ∧ 0 + 0 ≤ 0 := ⟨by decide, by decide⟩
  replace hl : lv_has ls 4 [(0, .ref h), (1, .int i), (2, .int mask)] := hl
  replace hP : va_P D CC (wM tk h ad g la ++ tl) s.heap := hP
  replace hK : va_K D CC (TY tk) s := hK
  refine lv_aload_n hx hb d_M_carry_0 rfl (lv_at hl 0 rfl) ?_
  refine lv_iconst (v := nI 0) hx hb d_M_carry_1 (by decide) ?_
  refine pf_M_73 hx hb hT hown hK hP hD hS 0 rfl (Nat.le_of_ble_eq_true rfl) d_M_carry_2 (fun H locs hP hD hS => ?_)
  replace hP : va_P D CC (wM tk h ad (mup g 0 0 (nI 0)) la ++ tl) H := hP
  replace hD : va_D A (wM tk h ad (mup g 0 0 (nI 0)) la ++ tl) := hD
  refine lv_iconst (v := nI 0) hx hb d_M_carry_5 (by decide) ?_
  refine lv_istore_n (lv' := [(3, .int (nI 0)), (0, .ref h), (1, .int i), (2, .int mask)]) hx hb d_M_carry_6 rfl hl (by decide) rfl (fun ls hl => ?_)
  replace hP : va_P D CC (wM tk h ad (cyF (mup g 0 0 (nI 0)) i mask 0) la ++ tl) H := by rw [cyF_0]; exact hP
  replace hD : va_D A (wM tk h ad (cyF (mup g 0 0 (nI 0)) i mask 0) la ++ tl) := by rw [cyF_0]; exact hD
  have key7 : ∀ (n7 : Nat) (k : Nat) (ls : Array Slot) (H : Heap) (locs : List Loc), n - k < n7 → (k ≤ n) → lv_has ls 4 [(0, .ref h), (1, .int i), (2, .int mask), (3, .int (nI k))] → va_P D CC (wM tk h ad (cyF (mup g 0 0 (nI 0)) i mask k) la ++ tl) H → va_D A (wM tk h ad (cyF (mup g 0 0 (nI 0)) i mask k) la ++ tl) → va_S A s.heap H locs → W p l e ({ frames := 0, cells := 0, slots := 0, locals := 0 } : Room) s m args below meth c H locs 0 0 Q (F0 m 7 ls []) := by
    intro n7
    induction n7 with
    | zero => intro k ls H locs hn; exact absurd hn (Nat.not_lt_zero _)
    | succ n7 ih7 =>
      intro k ls H locs hn7 hk hl hP hD hS
      refine lv_iload_n hx hb d_M_carry_7 rfl (lv_at hl 3 rfl) ?_
      refine lv_aload_n hx hb d_M_carry_8 rfl (lv_at hl 0 rfl) ?_
      refine gf_M_165 (v := .int ((cyF (mup g 0 0 (nI 0)) i mask k) 21 0)) hx hb hT hown hK hP 0 rfl rfl d_M_carry_9 ?_
      refine st_top (show (cyF (mup g 0 0 (nI 0)) i mask k) 21 0 = nI n from hg) ?_
      refine st_icmp_ge hx hb (by omega) (by omega) d_M_carry_12 (tgt := 53) (by decide) (fun hc12 => ?_) (fun hc12 => ?_)
      · skip
        refine lv_aload_n hx hb d_M_carry_53 rfl (lv_at hl 0 rfl) ?_
        refine lv_aload_n hx hb d_M_carry_54 rfl (lv_at hl 0 rfl) ?_
        refine gf_M_165 (v := .int ((cyF (mup g 0 0 (nI 0)) i mask k) 21 0)) hx hb hT hown hK hP 0 rfl rfl d_M_carry_55 ?_
        refine st_top (show (cyF (mup g 0 0 (nI 0)) i mask k) 21 0 = nI n from hg) ?_
        refine pf_M_194 hx hb hT hown hK hP hD hS 0 rfl (Nat.le_of_ble_eq_true rfl) d_M_carry_58 (fun H locs hP hD hS => ?_)
        replace hP : va_P D CC (wM tk h ad (mup (cyF (mup g 0 0 (nI 0)) i mask k) 23 0 (nI n)) la ++ tl) H := hP
        replace hD : va_D A (wM tk h ad (mup (cyF (mup g 0 0 (nI 0)) i mask k) 23 0 (nI n)) la ++ tl) := hD
        refine lv_aload_n hx hb d_M_carry_61 rfl (lv_at hl 0 rfl) ?_
        refine gf_M_194 (v := .int (nI n)) hx hb hT hown hK hP 0 rfl rfl d_M_carry_62 ?_
        exact k_iret (v := nI n) hQ hx hb hr hlk hK hP hD hS () (by rw [show k = n by omega]) rfl d_M_carry_65
      · skip
        refine lv_aload_n hx hb d_M_carry_15 rfl (lv_at hl 0 rfl) ?_
        refine gf_M_57 (v := .ref (ad 24)) hx hb hT hown hK hP 0 rfl rfl d_M_carry_16 ?_
        refine lv_iload_n hx hb d_M_carry_19 rfl (lv_at hl 3 rfl) ?_
        refine lv_iload_n hx hb d_M_carry_20 rfl (lv_at hl 3 rfl) ?_
        refine lv_iload_n hx hb d_M_carry_21 rfl (lv_at hl 1 rfl) ?_
        refine lv_icmp_ne hx hb d_M_carry_22 (tgt := 40) (by decide) (fun hc22 => ?_) (fun hc22 => ?_)
        · skip
          refine lv_aload_n hx hb d_M_carry_40 rfl (lv_at hl 0 rfl) ?_
          refine gf_M_54 (v := .ref (ad 22)) hx hb hT hown hK hP 0 rfl rfl d_M_carry_41 ?_
          refine lv_iload_n hx hb d_M_carry_44 rfl (lv_at hl 3 rfl) ?_
          refine st_iald hx hb hK hP 15 0 rfl rfl (by omega) (by decide) d_M_carry_45 ?_
          refine st_iast hx hb hK hP hD hS 16 0 rfl rfl (by omega) (by decide) d_M_carry_46 (fun H locs hP hD hS => ?_)
          replace hP : va_P D CC (wM tk h ad (mup (cyF (mup g 0 0 (nI 0)) i mask k) 24 k ((cyF (mup g 0 0 (nI 0)) i mask k) 22 k)) la ++ tl) H := hP
          replace hD : va_D A (wM tk h ad (mup (cyF (mup g 0 0 (nI 0)) i mask k) 24 k ((cyF (mup g 0 0 (nI 0)) i mask k) 22 k)) la ++ tl) := hD
          refine lv_iinc (k := 3) (v := nI (k + 1)) (lv' := [(3, .int (nI (k + 1))), (0, .ref h), (1, .int i), (2, .int mask)]) hx hb d_M_carry_47 hl rfl (nI_add _ _) (by decide) rfl (fun ls hl => ?_)
          refine lv_goto hx hb d_M_carry_50 (tgt := 7) (by decide) ?_
          rw [cyF_step (mup g 0 0 (nI 0)) i mask k (by first | (rw [if_pos (by assumption)]; rfl) | (rw [if_neg (by assumption)]; rfl))] at hP hD
          exact ih7 (k + 1) ls _ _ (by first | omega | simp_all) (by omega) (lv_sub hl [1, 2, 3, 0] rfl) hP hD hS
        · skip
          refine lv_aload_n hx hb d_M_carry_25 rfl (lv_at hl 0 rfl) ?_
          refine gf_M_54 (v := .ref (ad 22)) hx hb hT hown hK hP 0 rfl rfl d_M_carry_26 ?_
          refine lv_iload_n hx hb d_M_carry_29 rfl (lv_at hl 3 rfl) ?_
          refine st_iald hx hb hK hP 15 0 rfl rfl (by omega) (by decide) d_M_carry_30 ?_
          refine lv_iload_n hx hb d_M_carry_31 rfl (lv_at hl 2 rfl) ?_
          refine lv_sipush (v := nI 255) hx hb d_M_carry_32 (by decide) ?_
          refine lv_iand hx hb d_M_carry_35 ?_
          refine lv_ixor hx hb d_M_carry_36 ?_
          refine lv_goto hx hb d_M_carry_37 (tgt := 46) (by decide) ?_
          refine st_iast hx hb hK hP hD hS 16 0 rfl rfl (by omega) (by decide) d_M_carry_46 (fun H locs hP hD hS => ?_)
          replace hP : va_P D CC (wM tk h ad (mup (cyF (mup g 0 0 (nI 0)) i mask k) 24 k (((cyF (mup g 0 0 (nI 0)) i mask k) 22 k) ^^^ (mask &&& (nI 255)))) la ++ tl) H := hP
          replace hD : va_D A (wM tk h ad (mup (cyF (mup g 0 0 (nI 0)) i mask k) 24 k (((cyF (mup g 0 0 (nI 0)) i mask k) 22 k) ^^^ (mask &&& (nI 255)))) la ++ tl) := hD
          refine lv_iinc (k := 3) (v := nI (k + 1)) (lv' := [(3, .int (nI (k + 1))), (0, .ref h), (1, .int i), (2, .int mask)]) hx hb d_M_carry_47 hl rfl (nI_add _ _) (by decide) rfl (fun ls hl => ?_)
          refine lv_goto hx hb d_M_carry_50 (tgt := 7) (by decide) ?_
          rw [cyF_step (mup g 0 0 (nI 0)) i mask k (by first | (rw [if_pos (by assumption)]; rfl) | (rw [if_neg (by assumption)]; rfl))] at hP hD
          exact ih7 (k + 1) ls _ _ (by first | omega | simp_all) (by omega) (lv_sub hl [1, 2, 3, 0] rfl) hP hD hS
  exact key7 _ 0 ls _ _ (Nat.lt_succ_self _) (by omega) (lv_sub hl [1, 2, 3, 0] rfl) hP hD hS

set_option maxHeartbeats 4000000 in
set_option maxRecDepth 100000 in
theorem c_M_keepMap (l : Launch) (D : va_G) (tk : Nat → ClassId) (sz : Nat) (h : Nat) (ad : Nat → Nat) (g : Nat → Nat → Int32) (la : Nat → Int64) (tl : va_W) (mp : Nat) (hmp : mp < 180) (hg : g 8 0 = nI mp) : Met l y_M_keepMap w_M_keepMap ({ frames := 0, cells := 0, slots := 0, locals := 0 }) (va_Pc [.ref h] (k_pre D (TY tk) sz (wM tk h ad g la ++ tl))) (va_Qv (fun (_ : Unit) => True) (fun u t => k_at D (TY tk) (va_A (wM tk h ad g la ++ tl) sz) ((fun _ => wM tk h ad (kmF g mp 48) (vp_updL la mp (btM (g 1) 48)) ++ tl) u) t) (va_A (wM tk h ad g la ++ tl) sz)) 0 0 (va_A (wM tk h ad g la ++ tl) sz) := by
  refine k_ofW (fun A => va_Qv (fun (_ : Unit) => True) (fun u t => k_at D (TY tk) A ((fun _ => wM tk h ad (kmF g mp 48) (vp_updL la mp (btM (g 1) 48)) ++ tl) u) t) A) (by decide) (Nat.le_of_ble_eq_true rfl) ?_
  intro p e s m args below meth c Q A ls hQ hx hb hr hlk hin hts hT hown hml hnw hP hK hD hA hsz hl
  have hS : va_S A s.heap s.heap [] := va_S.rf
  have hc0 : 0 + 0 ≤ 0 ∧ 0 + 0 ≤ 0 := ⟨by decide, by decide⟩
  replace hl : lv_has ls 2 [(0, .ref h)] := hl
  replace hP : va_P D CC (wM tk h ad g la ++ tl) s.heap := hP
  replace hK : va_K D CC (TY tk) s := hK
  refine lv_aload_n hx hb d_M_keepMap_0 rfl (lv_at hl 0 rfl) ?_
  refine gf_M_23 (v := .ref (ad 9)) hx hb hT hown hK hP 0 rfl rfl d_M_keepMap_1 ?_
  refine lv_aload_n hx hb d_M_keepMap_4 rfl (lv_at hl 0 rfl) ?_
  refine gf_M_117 (v := .int (g 8 0)) hx hb hT hown hK hP 0 rfl rfl d_M_keepMap_5 ?_
  refine st_top (show g 8 0 = nI mp from hg) ?_
  refine lv_lconst (v := 0) hx hb d_M_keepMap_8 (by decide) ?_
  refine st_last hx hb hK hP hD hS 5 2 rfl rfl (by omega) (by decide) d_M_keepMap_9 (fun H locs hP hD hS => ?_)
  replace hP : va_P D CC (wM tk h ad g (vp_updL la mp 0) ++ tl) H := hP
  replace hD : va_D A (wM tk h ad g (vp_updL la mp 0) ++ tl) := hD
  refine lv_iconst (v := nI 0) hx hb d_M_keepMap_10 (by decide) ?_
  refine lv_istore_n (lv' := [(1, .int (nI 0)), (0, .ref h)]) hx hb d_M_keepMap_11 rfl hl (by decide) rfl (fun ls hl => ?_)
  replace hP : va_P D CC (wM tk h ad (kmF g mp 0) (vp_updL la mp (btM (g 1) 0)) ++ tl) H := by rw [kmF_0]; exact hP
  replace hD : va_D A (wM tk h ad (kmF g mp 0) (vp_updL la mp (btM (g 1) 0)) ++ tl) := by rw [kmF_0]; exact hD
  have key12 : ∀ (n12 : Nat) (k : Nat) (ls : Array Slot) (H : Heap) (locs : List Loc), 48 - k < n12 → (k ≤ 48) → lv_has ls 2 [(0, .ref h), (1, .int (nI k))] → va_P D CC (wM tk h ad (kmF g mp k) (vp_updL la mp (btM (g 1) k)) ++ tl) H → va_D A (wM tk h ad (kmF g mp k) (vp_updL la mp (btM (g 1) k)) ++ tl) → va_S A s.heap H locs → W p l e ({ frames := 0, cells := 0, slots := 0, locals := 0 } : Room) s m args below meth c H locs 0 0 Q (F0 m 12 ls []) := by
    intro n12
    induction n12 with
    | zero => intro k ls H locs hn; exact absurd hn (Nat.not_lt_zero _)
    | succ n12 ih12 =>
      intro k ls H locs hn12 hk hl hP hD hS
      refine lv_iload_n hx hb d_M_keepMap_12 rfl (lv_at hl 1 rfl) ?_
      refine lv_bipush (v := nI 48) hx hb d_M_keepMap_13 (by decide) ?_
      refine st_icmp_ge hx hb (by omega) (by omega) d_M_keepMap_15 (tgt := 80) (by decide) (fun hc15 => ?_) (fun hc15 => ?_)
      · skip
        exact k_vret hQ hx hb hr hlk hK hP hD hS () (by rw [show k = 48 by omega]) trivial d_M_keepMap_80
      · skip
        refine lv_aload_n hx hb d_M_keepMap_18 rfl (lv_at hl 0 rfl) ?_
        refine gf_M_23 (v := .ref (ad 9)) hx hb hT hown hK hP 0 rfl rfl d_M_keepMap_19 ?_
        refine lv_aload_n hx hb d_M_keepMap_22 rfl (lv_at hl 0 rfl) ?_
        refine gf_M_117 (v := .int ((kmF g mp k) 8 0)) hx hb hT hown hK hP 0 rfl rfl d_M_keepMap_23 ?_
        refine st_top (show (kmF g mp k) 8 0 = nI mp from hg) ?_
        refine lv_dup2_11 hx hb d_M_keepMap_26 rfl rfl ?_
        refine st_lald hx hb hK hP 5 2 rfl rfl (by omega) (by decide) d_M_keepMap_27 ?_
        refine lv_aload_n hx hb d_M_keepMap_28 rfl (lv_at hl 0 rfl) ?_
        refine gf_M_7 (v := .ref (ad 1)) hx hb hT hown hK hP 0 rfl rfl d_M_keepMap_29 ?_
        refine lv_sipush (v := nI 768) hx hb d_M_keepMap_32 (by decide) ?_
        refine lv_iload_n hx hb d_M_keepMap_35 rfl (lv_at hl 1 rfl) ?_
        refine st_iadd hx hb d_M_keepMap_36 ?_
        refine st_zald hx hb hK hP 1 1 rfl rfl (by omega) (by decide) d_M_keepMap_37 ?_
        refine lv_if_eq hx hb d_M_keepMap_38 (tgt := 47) (by decide) (fun hc38 => ?_) (fun hc38 => ?_)
        · skip
          rw [kmF_ne _ _ _ (by decide)] at hc38
          refine lv_lconst (v := 0) hx hb d_M_keepMap_47 (by decide) ?_
          refine lv_lor hx hb d_M_keepMap_48 ?_
          refine st_topL (show ((vp_updL la mp (btM (g 1) k)) mp) ||| 0 = (btM (g 1) k) ||| 0 from by rw [show (vp_updL la mp (btM (g 1) k)) mp = btM (g 1) k from if_pos rfl]) ?_
          refine st_last hx hb hK hP hD hS 5 2 rfl rfl (by omega) (by decide) d_M_keepMap_49 (fun H locs hP hD hS => ?_)
          replace hP : va_P D CC (wM tk h ad (kmF g mp k) (vp_updL (vp_updL la mp (btM (g 1) k)) mp ((btM (g 1) k) ||| 0)) ++ tl) H := hP
          replace hD : va_D A (wM tk h ad (kmF g mp k) (vp_updL (vp_updL la mp (btM (g 1) k)) mp ((btM (g 1) k) ||| 0)) ++ tl) := hD
          refine lv_aload_n hx hb d_M_keepMap_50 rfl (lv_at hl 0 rfl) ?_
          refine gf_M_27 (v := .ref (ad 10)) hx hb hT hown hK hP 0 rfl rfl d_M_keepMap_51 ?_
          refine lv_bipush (v := nI 48) hx hb d_M_keepMap_54 (by decide) ?_
          refine lv_aload_n hx hb d_M_keepMap_56 rfl (lv_at hl 0 rfl) ?_
          refine gf_M_117 (v := .int ((kmF g mp k) 8 0)) hx hb hT hown hK hP 0 rfl rfl d_M_keepMap_57 ?_
          refine st_top (show (kmF g mp k) 8 0 = nI mp from hg) ?_
          refine st_imul hx hb d_M_keepMap_60 ?_
          refine lv_iload_n hx hb d_M_keepMap_61 rfl (lv_at hl 1 rfl) ?_
          refine st_iadd hx hb d_M_keepMap_62 ?_
          refine lv_aload_n hx hb d_M_keepMap_63 rfl (lv_at hl 0 rfl) ?_
          refine gf_M_13 (v := .ref (ad 2)) hx hb hT hown hK hP 0 rfl rfl d_M_keepMap_64 ?_
          refine lv_sipush (v := nI 768) hx hb d_M_keepMap_67 (by decide) ?_
          refine lv_iload_n hx hb d_M_keepMap_70 rfl (lv_at hl 1 rfl) ?_
          refine st_iadd hx hb d_M_keepMap_71 ?_
          refine st_iald hx hb hK hP 2 0 rfl rfl (by omega) (by decide) d_M_keepMap_72 ?_
          refine st_iast hx hb hK hP hD hS 6 0 rfl rfl (by omega) (by decide) d_M_keepMap_73 (fun H locs hP hD hS => ?_)
          replace hP : va_P D CC (wM tk h ad (mup (kmF g mp k) 10 ((48 * mp) + k) ((kmF g mp k) 2 (768 + k))) (vp_updL (vp_updL la mp (btM (g 1) k)) mp ((btM (g 1) k) ||| 0)) ++ tl) H := hP
          replace hD : va_D A (wM tk h ad (mup (kmF g mp k) 10 ((48 * mp) + k) ((kmF g mp k) 2 (768 + k))) (vp_updL (vp_updL la mp (btM (g 1) k)) mp ((btM (g 1) k) ||| 0)) ++ tl) := hD
          refine lv_iinc (k := 1) (v := nI (k + 1)) (lv' := [(1, .int (nI (k + 1))), (0, .ref h)]) hx hb d_M_keepMap_74 hl rfl (nI_add _ _) (by decide) rfl (fun ls hl => ?_)
          refine lv_goto hx hb d_M_keepMap_77 (tgt := 12) (by decide) ?_
          rw [kmF_step g mp k (v := kmF g mp k 2 (768 + k)) (by rw [kmF_ne _ _ _ (by decide)]), updL_2] at hP hD
          have hbt : (btM (g 1) k) ||| 0 = btM (g 1) (k + 1) := by rw [btM_succ]; first | rw [if_pos (by assumption)] | rw [if_neg (by assumption)]
          rw [hbt] at hP hD
          exact ih12 (k + 1) ls _ _ (by first | omega | simp_all) (by omega) (lv_sub hl [1, 0] rfl) hP hD hS
        · skip
          rw [kmF_ne _ _ _ (by decide)] at hc38
          refine lv_lconst (v := 1) hx hb d_M_keepMap_41 (by decide) ?_
          refine lv_iload_n hx hb d_M_keepMap_42 rfl (lv_at hl 1 rfl) ?_
          refine lv_lshl (v := 1 <<< ((nI k).toInt64 &&& 63)) hx hb d_M_keepMap_43 rfl ?_
          refine lv_goto hx hb d_M_keepMap_44 (tgt := 48) (by decide) ?_
          refine lv_lor hx hb d_M_keepMap_48 ?_
          refine st_topL (show ((vp_updL la mp (btM (g 1) k)) mp) ||| (1 <<< ((nI k).toInt64 &&& 63)) = (btM (g 1) k) ||| (1 <<< ((nI k).toInt64 &&& 63)) from by rw [show (vp_updL la mp (btM (g 1) k)) mp = btM (g 1) k from if_pos rfl]) ?_
          refine st_last hx hb hK hP hD hS 5 2 rfl rfl (by omega) (by decide) d_M_keepMap_49 (fun H locs hP hD hS => ?_)
          replace hP : va_P D CC (wM tk h ad (kmF g mp k) (vp_updL (vp_updL la mp (btM (g 1) k)) mp ((btM (g 1) k) ||| (1 <<< ((nI k).toInt64 &&& 63)))) ++ tl) H := hP
          replace hD : va_D A (wM tk h ad (kmF g mp k) (vp_updL (vp_updL la mp (btM (g 1) k)) mp ((btM (g 1) k) ||| (1 <<< ((nI k).toInt64 &&& 63)))) ++ tl) := hD
          refine lv_aload_n hx hb d_M_keepMap_50 rfl (lv_at hl 0 rfl) ?_
          refine gf_M_27 (v := .ref (ad 10)) hx hb hT hown hK hP 0 rfl rfl d_M_keepMap_51 ?_
          refine lv_bipush (v := nI 48) hx hb d_M_keepMap_54 (by decide) ?_
          refine lv_aload_n hx hb d_M_keepMap_56 rfl (lv_at hl 0 rfl) ?_
          refine gf_M_117 (v := .int ((kmF g mp k) 8 0)) hx hb hT hown hK hP 0 rfl rfl d_M_keepMap_57 ?_
          refine st_top (show (kmF g mp k) 8 0 = nI mp from hg) ?_
          refine st_imul hx hb d_M_keepMap_60 ?_
          refine lv_iload_n hx hb d_M_keepMap_61 rfl (lv_at hl 1 rfl) ?_
          refine st_iadd hx hb d_M_keepMap_62 ?_
          refine lv_aload_n hx hb d_M_keepMap_63 rfl (lv_at hl 0 rfl) ?_
          refine gf_M_13 (v := .ref (ad 2)) hx hb hT hown hK hP 0 rfl rfl d_M_keepMap_64 ?_
          refine lv_sipush (v := nI 768) hx hb d_M_keepMap_67 (by decide) ?_
          refine lv_iload_n hx hb d_M_keepMap_70 rfl (lv_at hl 1 rfl) ?_
          refine st_iadd hx hb d_M_keepMap_71 ?_
          refine st_iald hx hb hK hP 2 0 rfl rfl (by omega) (by decide) d_M_keepMap_72 ?_
          refine st_iast hx hb hK hP hD hS 6 0 rfl rfl (by omega) (by decide) d_M_keepMap_73 (fun H locs hP hD hS => ?_)
          replace hP : va_P D CC (wM tk h ad (mup (kmF g mp k) 10 ((48 * mp) + k) ((kmF g mp k) 2 (768 + k))) (vp_updL (vp_updL la mp (btM (g 1) k)) mp ((btM (g 1) k) ||| (1 <<< ((nI k).toInt64 &&& 63)))) ++ tl) H := hP
          replace hD : va_D A (wM tk h ad (mup (kmF g mp k) 10 ((48 * mp) + k) ((kmF g mp k) 2 (768 + k))) (vp_updL (vp_updL la mp (btM (g 1) k)) mp ((btM (g 1) k) ||| (1 <<< ((nI k).toInt64 &&& 63)))) ++ tl) := hD
          refine lv_iinc (k := 1) (v := nI (k + 1)) (lv' := [(1, .int (nI (k + 1))), (0, .ref h)]) hx hb d_M_keepMap_74 hl rfl (nI_add _ _) (by decide) rfl (fun ls hl => ?_)
          refine lv_goto hx hb d_M_keepMap_77 (tgt := 12) (by decide) ?_
          rw [kmF_step g mp k (v := kmF g mp k 2 (768 + k)) (by rw [kmF_ne _ _ _ (by decide)]), updL_2] at hP hD
          have hbt : (btM (g 1) k) ||| (1 <<< ((nI k).toInt64 &&& 63)) = btM (g 1) (k + 1) := by rw [btM_succ]; first | rw [if_pos (by assumption)] | rw [if_neg (by assumption)]
          rw [hbt] at hP hD
          exact ih12 (k + 1) ls _ _ (by first | omega | simp_all) (by omega) (lv_sub hl [1, 0] rfl) hP hD hS
  exact key12 _ 0 ls _ _ (Nat.lt_succ_self _) (by omega) (lv_sub hl [1, 0] rfl) hP hD hS

theorem gbM_dec (g : Nat → Nat → Int32) (v key : Int32) : gbM g v key ∨ ¬ gbM g v key := Classical.em _

set_option maxHeartbeats 4000000 in
set_option maxRecDepth 100000 in
theorem c_M_get (l : Launch) (D : va_G) (tk : Nat → ClassId) (sz : Nat) (h : Nat) (ad : Nat → Nat) (g : Nat → Nat → Int32) (la : Nat → Int64) (tl : va_W) (V : Nat) (hV1 : 1 ≤ V) (hV2 : V ≤ 16) (hV : g 3 0 = nI V) (v key : Int32) (_dec : Decidable (gbM g v key)) : Met l y_M_get w_M_get ({ frames := 2, cells := 0, slots := 0, locals := 43 }) (va_Pc [.ref h, .int v, .int key] (k_pre D (TY tk) sz (wM tk h ad g la ++ tl))) (va_Qi (fun (r : Int32) (_ : Unit) => r = if gbM g v key then 0 else if g 1 (giM v key) = 0 then 0 else g 2 (giM v key)) (fun u t => k_at D (TY tk) (va_A (wM tk h ad g la ++ tl) sz) ((fun _ => wM tk h ad (if gbM g v key then mup g 0 0 (nI 1) else if g 1 (giM v key) = 0 then mup g 0 0 (nI 2) else mup g 0 0 (nI 0)) la ++ tl) u) t) (va_A (wM tk h ad g la ++ tl) sz)) 0 0 (va_A (wM tk h ad g la ++ tl) sz) := by
  refine k_ofW (fun A => va_Qi (fun (r : Int32) (_ : Unit) => r = if gbM g v key then 0 else if g 1 (giM v key) = 0 then 0 else g 2 (giM v key)) (fun u t => k_at D (TY tk) A ((fun _ => wM tk h ad (if gbM g v key then mup g 0 0 (nI 1) else if g 1 (giM v key) = 0 then mup g 0 0 (nI 2) else mup g 0 0 (nI 0)) la ++ tl) u) t) A) (by decide) (Nat.le_of_ble_eq_true rfl) ?_
  intro p e s m args below meth c Q A ls hQ hx hb hr hlk hin hts hT hown hml hnw hP hK hD hA hsz hl
  have hS : va_S A s.heap s.heap [] := va_S.rf
  have hc0 : 0 + 0 ≤ 0 ∧ 0 + 0 ≤ 0 := ⟨by decide, by decide⟩
  replace hl : lv_has ls 4 [(0, .ref h), (1, .int v), (2, .int key)] := hl
  replace hP : va_P D CC (wM tk h ad g la ++ tl) s.heap := hP
  replace hK : va_K D CC (TY tk) s := hK
  refine lv_iload_n hx hb d_M_get_0 rfl (lv_at hl 1 rfl) ?_
  refine lv_iconst (v := -1) hx hb d_M_get_1 (by decide) ?_
  refine lv_icmp_eq hx hb d_M_get_2 (tgt := 13) (by decide) (fun hc2 => ?_) (fun hc2 => ?_)
  · skip
    subst hc2
    refine lv_iload_n hx hb d_M_get_13 rfl (lv_at hl 2 rfl) ?_
    refine lv_iconst (v := nI 0) hx hb d_M_get_14 (by decide) ?_
    refine lv_bipush (v := nI 47) hx hb d_M_get_15 (by decide) ?_
    refine k_calli (va_runS (As := [.int key, .int (nI 0), .int (nI 47)]) (rest := []) ⟨hx, hb, hml, hown, hts⟩ (c_M_outside l D tk s.heap.size key (nI 0) (nI 47) (wM tk h ad g la ++ tl)) (cwS 3 hts (gS t_1041 t_1042 t_9 t_1043) rfl rfl rfl (by decide +kernel) ⟨Nat.le_of_ble_eq_true rfl, Nat.le_of_ble_eq_true rfl⟩) (k_preS hP hK hD hnw) rfl rfl hl.1 rfl (lv_room (Nat.le_of_ble_eq_true rfl)) d_M_get_17 hc0) hD hS hA (fun _ _ H locs hp17 hP hD hK hS => ?_)
    subst hp17
    replace hP : va_P D CC (wM tk h ad g la ++ tl) H := hP
    replace hD : va_D A (wM tk h ad g la ++ tl) := hD
    refine lv_if_eq hx hb d_M_get_20 (tgt := 29) (by decide) (fun hc20 => ?_) (fun hc20 => ?_)
    · skip
      have hk9 : ¬ (key < nI 0 ∨ nI 47 < key) := fun q => by rw [if_pos q] at hc20; exact absurd hc20 (by decide)
      obtain ⟨k, hk, rfl⟩ := ky_in hk9
      have hnb : ¬ gbM g (-1) (nI k) := by intro q; unfold gbM at q; exact q.elim (fun q => q.1 rfl) hk9
      have hgi : giM (-1) (nI k) = 48 * 16 + k := giM_1 hk
      refine lv_bipush (v := nI 48) hx hb d_M_get_29 (by decide) ?_
      refine lv_iload_n hx hb d_M_get_31 rfl (lv_at hl 1 rfl) ?_
      refine lv_iconst (v := -1) hx hb d_M_get_32 (by decide) ?_
      refine lv_icmp_ne hx hb d_M_get_33 (tgt := 41) (by decide) (fun hc33 => absurd hc33 (by decide)) (fun hc33 => ?_)
      refine lv_bipush (v := nI 16) hx hb d_M_get_36 (by decide) ?_
      refine lv_goto hx hb d_M_get_38 (tgt := 42) (by decide) ?_
      refine st_imul hx hb d_M_get_42 ?_
      refine lv_iload_n hx hb d_M_get_43 rfl (lv_at hl 2 rfl) ?_
      refine st_iadd hx hb d_M_get_44 ?_
      refine lv_istore_n (lv' := [(3, .int (nI (768 + k))), (0, .ref h), (1, .int (-1)), (2, .int (nI k))]) hx hb d_M_get_45 rfl hl (by decide) rfl (fun ls hl => ?_)
      refine lv_aload_n hx hb d_M_get_46 rfl (lv_at hl 1 rfl) ?_
      refine gf_M_7 (v := .ref (ad 1)) hx hb hT hown hK hP 0 rfl rfl d_M_get_47 ?_
      refine lv_iload_n hx hb d_M_get_50 rfl (lv_at hl 0 rfl) ?_
      refine st_zald hx hb hK hP 1 1 rfl rfl (by omega) (by decide) d_M_get_51 ?_
      refine lv_if_ne hx hb d_M_get_52 (tgt := 61) (by decide) (fun hc52 => ?_) (fun hc52 => ?_)
      · skip
        refine lv_aload_n hx hb d_M_get_61 rfl (lv_at hl 1 rfl) ?_
        refine lv_iconst (v := nI 0) hx hb d_M_get_62 (by decide) ?_
        refine pf_M_73 hx hb hT hown hK hP hD hS 0 rfl (Nat.le_of_ble_eq_true rfl) d_M_get_63 (fun H locs hP hD hS => ?_)
        replace hP : va_P D CC (wM tk h ad (mup g 0 0 (nI 0)) la ++ tl) H := hP
        replace hD : va_D A (wM tk h ad (mup g 0 0 (nI 0)) la ++ tl) := hD
        refine lv_aload_n hx hb d_M_get_66 rfl (lv_at hl 1 rfl) ?_
        refine gf_M_13 (v := .ref (ad 2)) hx hb hT hown hK hP 0 rfl rfl d_M_get_67 ?_
        refine lv_iload_n hx hb d_M_get_70 rfl (lv_at hl 0 rfl) ?_
        refine st_iald hx hb hK hP 2 0 rfl rfl (by omega) (by decide) d_M_get_71 ?_
        exact k_iret (v := g 2 (768 + k)) hQ hx hb hr hlk hK hP hD hS () (by rw [if_neg hnb, hgi, if_neg hc52]) (by rw [if_neg hnb, hgi, if_neg hc52]) d_M_get_72
      · skip
        refine lv_aload_n hx hb d_M_get_55 rfl (lv_at hl 1 rfl) ?_
        refine lv_iconst (v := nI 2) hx hb d_M_get_56 (by decide) ?_
        refine k_calli (va_runV (As := [.int (nI 2)]) (rest := []) ⟨hx, hb, hml, hown, hts⟩ (c_M_refuse l D tk H.size h ad g la tl (nI 2) ) (cwV 1 hts (gV t_1060 t_1062 s_17 t_9 t_1063) rfl rfl rfl (by decide +kernel) ⟨Nat.le_of_ble_eq_true rfl, Nat.le_of_ble_eq_true rfl⟩) (k_preV hP hK hD hnw 0 rfl rfl) rfl rfl hl.1 rfl (lv_room (Nat.le_of_ble_eq_true rfl)) d_M_get_57 hc0) hD hS hA (fun _ _ H locs hp57 hP hD hK hS => ?_)
        subst hp57
        replace hP : va_P D CC (wM tk h ad (mup g 0 0 (nI 2)) la ++ tl) H := hP
        replace hD : va_D A (wM tk h ad (mup g 0 0 (nI 2)) la ++ tl) := hD
        exact k_iret (v := 0) hQ hx hb hr hlk hK hP hD hS () (by rw [if_neg hnb, hgi, if_pos hc52]) (by rw [if_neg hnb, hgi, if_pos hc52]; try rfl) d_M_get_60
    · skip
      have hbad : gbM g (-1) key := Or.inr (Classical.byContradiction (fun q => hc20 (by rw [if_neg q])))
      refine lv_aload_n hx hb d_M_get_23 rfl (lv_at hl 0 rfl) ?_
      refine lv_iconst (v := nI 1) hx hb d_M_get_24 (by decide) ?_
      refine k_calli (va_runV (As := [.int (nI 1)]) (rest := []) ⟨hx, hb, hml, hown, hts⟩ (c_M_refuse l D tk H.size h ad g la tl (nI 1) ) (cwV 1 hts (gV t_1060 t_1062 s_17 t_9 t_1063) rfl rfl rfl (by decide +kernel) ⟨Nat.le_of_ble_eq_true rfl, Nat.le_of_ble_eq_true rfl⟩) (k_preV hP hK hD hnw 0 rfl rfl) rfl rfl hl.1 rfl (lv_room (Nat.le_of_ble_eq_true rfl)) d_M_get_25 hc0) hD hS hA (fun _ _ H locs hp25 hP hD hK hS => ?_)
      subst hp25
      replace hP : va_P D CC (wM tk h ad (mup g 0 0 (nI 1)) la ++ tl) H := hP
      replace hD : va_D A (wM tk h ad (mup g 0 0 (nI 1)) la ++ tl) := hD
      exact k_iret (v := 0) hQ hx hb hr hlk hK hP hD hS () (by rw [if_pos hbad]) (by rw [if_pos hbad]; try rfl) d_M_get_28
  · skip
    refine lv_aload_n hx hb d_M_get_5 rfl (lv_at hl 0 rfl) ?_
    refine lv_iload_n hx hb d_M_get_6 rfl (lv_at hl 1 rfl) ?_
    refine k_calli (va_runV (As := [.int v]) (rest := []) ⟨hx, hb, hml, hown, hts⟩ (c_M_isVersion l D tk s.heap.size h ad g la tl v ) (cwV 1 hts (gV t_1123 t_1125 s_27 t_9 t_1126) rfl rfl rfl (by decide +kernel) ⟨Nat.le_of_ble_eq_true rfl, Nat.le_of_ble_eq_true rfl⟩) (k_preV hP hK hD hnw 0 rfl rfl) rfl rfl hl.1 rfl (lv_room (Nat.le_of_ble_eq_true rfl)) d_M_get_7 hc0) hD hS hA (fun _ _ H locs hp7 hP hD hK hS => ?_)
    subst hp7
    replace hP : va_P D CC (wM tk h ad g la ++ tl) H := hP
    replace hD : va_D A (wM tk h ad g la ++ tl) := hD
    refine lv_if_eq hx hb d_M_get_10 (tgt := 23) (by decide) (fun hc10 => ?_) (fun hc10 => ?_)
    · skip
      have hbad : gbM g v key := Or.inl ⟨hc2, hc10⟩
      refine lv_aload_n hx hb d_M_get_23 rfl (lv_at hl 0 rfl) ?_
      refine lv_iconst (v := nI 1) hx hb d_M_get_24 (by decide) ?_
      refine k_calli (va_runV (As := [.int (nI 1)]) (rest := []) ⟨hx, hb, hml, hown, hts⟩ (c_M_refuse l D tk H.size h ad g la tl (nI 1) ) (cwV 1 hts (gV t_1060 t_1062 s_17 t_9 t_1063) rfl rfl rfl (by decide +kernel) ⟨Nat.le_of_ble_eq_true rfl, Nat.le_of_ble_eq_true rfl⟩) (k_preV hP hK hD hnw 0 rfl rfl) rfl rfl hl.1 rfl (lv_room (Nat.le_of_ble_eq_true rfl)) d_M_get_25 hc0) hD hS hA (fun _ _ H locs hp25 hP hD hK hS => ?_)
      subst hp25
      replace hP : va_P D CC (wM tk h ad (mup g 0 0 (nI 1)) la ++ tl) H := hP
      replace hD : va_D A (wM tk h ad (mup g 0 0 (nI 1)) la ++ tl) := hD
      exact k_iret (v := 0) hQ hx hb hr hlk hK hP hD hS () (by rw [if_pos hbad]) (by rw [if_pos hbad]; try rfl) d_M_get_28
    · skip
      have hn9 : ¬ (v < nI 0 ∨ g 3 0 - nI 1 < v) := fun q => hc10 (by unfold ivM; rw [if_pos q]; rfl)
      obtain ⟨j, hj, rfl⟩ := m_idx hV hV2 hn9
      refine lv_iload_n hx hb d_M_get_13 rfl (lv_at hl 2 rfl) ?_
      refine lv_iconst (v := nI 0) hx hb d_M_get_14 (by decide) ?_
      refine lv_bipush (v := nI 47) hx hb d_M_get_15 (by decide) ?_
      refine k_calli (va_runS (As := [.int key, .int (nI 0), .int (nI 47)]) (rest := []) ⟨hx, hb, hml, hown, hts⟩ (c_M_outside l D tk H.size key (nI 0) (nI 47) (wM tk h ad g la ++ tl)) (cwS 3 hts (gS t_1041 t_1042 t_9 t_1043) rfl rfl rfl (by decide +kernel) ⟨Nat.le_of_ble_eq_true rfl, Nat.le_of_ble_eq_true rfl⟩) (k_preS hP hK hD hnw) rfl rfl hl.1 rfl (lv_room (Nat.le_of_ble_eq_true rfl)) d_M_get_17 hc0) hD hS hA (fun _ _ H locs hp17 hP hD hK hS => ?_)
      subst hp17
      replace hP : va_P D CC (wM tk h ad g la ++ tl) H := hP
      replace hD : va_D A (wM tk h ad g la ++ tl) := hD
      refine lv_if_eq hx hb d_M_get_20 (tgt := 29) (by decide) (fun hc20 => ?_) (fun hc20 => ?_)
      · skip
        have hk9 : ¬ (key < nI 0 ∨ nI 47 < key) := fun q => by rw [if_pos q] at hc20; exact absurd hc20 (by decide)
        obtain ⟨k, hk, rfl⟩ := ky_in hk9
        have hnb : ¬ gbM g (nI j) (nI k) := by intro q; unfold gbM at q; exact q.elim (fun q => hc10 q.2) hk9
        have hgi : giM (nI j) (nI k) = 48 * j + k := giM_2 (by omega) hk
        refine lv_bipush (v := nI 48) hx hb d_M_get_29 (by decide) ?_
        refine lv_iload_n hx hb d_M_get_31 rfl (lv_at hl 1 rfl) ?_
        refine lv_iconst (v := -1) hx hb d_M_get_32 (by decide) ?_
        refine lv_icmp_ne hx hb d_M_get_33 (tgt := 41) (by decide) (fun hc33 => ?_) (fun hc33 => absurd hc33 (nI_nm1 (by omega)))
        refine lv_iload_n hx hb d_M_get_41 rfl (lv_at hl 1 rfl) ?_
        refine st_imul hx hb d_M_get_42 ?_
        refine lv_iload_n hx hb d_M_get_43 rfl (lv_at hl 2 rfl) ?_
        refine st_iadd hx hb d_M_get_44 ?_
        refine lv_istore_n (lv' := [(3, .int (nI ((48 * j) + k))), (0, .ref h), (1, .int (nI j)), (2, .int (nI k))]) hx hb d_M_get_45 rfl hl (by decide) rfl (fun ls hl => ?_)
        refine lv_aload_n hx hb d_M_get_46 rfl (lv_at hl 1 rfl) ?_
        refine gf_M_7 (v := .ref (ad 1)) hx hb hT hown hK hP 0 rfl rfl d_M_get_47 ?_
        refine lv_iload_n hx hb d_M_get_50 rfl (lv_at hl 0 rfl) ?_
        refine st_zald hx hb hK hP 1 1 rfl rfl (by omega) (by decide) d_M_get_51 ?_
        refine lv_if_ne hx hb d_M_get_52 (tgt := 61) (by decide) (fun hc52 => ?_) (fun hc52 => ?_)
        · skip
          refine lv_aload_n hx hb d_M_get_61 rfl (lv_at hl 1 rfl) ?_
          refine lv_iconst (v := nI 0) hx hb d_M_get_62 (by decide) ?_
          refine pf_M_73 hx hb hT hown hK hP hD hS 0 rfl (Nat.le_of_ble_eq_true rfl) d_M_get_63 (fun H locs hP hD hS => ?_)
          replace hP : va_P D CC (wM tk h ad (mup g 0 0 (nI 0)) la ++ tl) H := hP
          replace hD : va_D A (wM tk h ad (mup g 0 0 (nI 0)) la ++ tl) := hD
          refine lv_aload_n hx hb d_M_get_66 rfl (lv_at hl 1 rfl) ?_
          refine gf_M_13 (v := .ref (ad 2)) hx hb hT hown hK hP 0 rfl rfl d_M_get_67 ?_
          refine lv_iload_n hx hb d_M_get_70 rfl (lv_at hl 0 rfl) ?_
          refine st_iald hx hb hK hP 2 0 rfl rfl (by omega) (by decide) d_M_get_71 ?_
          exact k_iret (v := g 2 ((48 * j) + k)) hQ hx hb hr hlk hK hP hD hS () (by rw [if_neg hnb, hgi, if_neg hc52]) (by rw [if_neg hnb, hgi, if_neg hc52]) d_M_get_72
        · skip
          refine lv_aload_n hx hb d_M_get_55 rfl (lv_at hl 1 rfl) ?_
          refine lv_iconst (v := nI 2) hx hb d_M_get_56 (by decide) ?_
          refine k_calli (va_runV (As := [.int (nI 2)]) (rest := []) ⟨hx, hb, hml, hown, hts⟩ (c_M_refuse l D tk H.size h ad g la tl (nI 2) ) (cwV 1 hts (gV t_1060 t_1062 s_17 t_9 t_1063) rfl rfl rfl (by decide +kernel) ⟨Nat.le_of_ble_eq_true rfl, Nat.le_of_ble_eq_true rfl⟩) (k_preV hP hK hD hnw 0 rfl rfl) rfl rfl hl.1 rfl (lv_room (Nat.le_of_ble_eq_true rfl)) d_M_get_57 hc0) hD hS hA (fun _ _ H locs hp57 hP hD hK hS => ?_)
          subst hp57
          replace hP : va_P D CC (wM tk h ad (mup g 0 0 (nI 2)) la ++ tl) H := hP
          replace hD : va_D A (wM tk h ad (mup g 0 0 (nI 2)) la ++ tl) := hD
          exact k_iret (v := 0) hQ hx hb hr hlk hK hP hD hS () (by rw [if_neg hnb, hgi, if_pos hc52]) (by rw [if_neg hnb, hgi, if_pos hc52]; try rfl) d_M_get_60
      · skip
        have hbad : gbM g (nI j) key := Or.inr (Classical.byContradiction (fun q => hc20 (by rw [if_neg q])))
        refine lv_aload_n hx hb d_M_get_23 rfl (lv_at hl 0 rfl) ?_
        refine lv_iconst (v := nI 1) hx hb d_M_get_24 (by decide) ?_
        refine k_calli (va_runV (As := [.int (nI 1)]) (rest := []) ⟨hx, hb, hml, hown, hts⟩ (c_M_refuse l D tk H.size h ad g la tl (nI 1) ) (cwV 1 hts (gV t_1060 t_1062 s_17 t_9 t_1063) rfl rfl rfl (by decide +kernel) ⟨Nat.le_of_ble_eq_true rfl, Nat.le_of_ble_eq_true rfl⟩) (k_preV hP hK hD hnw 0 rfl rfl) rfl rfl hl.1 rfl (lv_room (Nat.le_of_ble_eq_true rfl)) d_M_get_25 hc0) hD hS hA (fun _ _ H locs hp25 hP hD hK hS => ?_)
        subst hp25
        replace hP : va_P D CC (wM tk h ad (mup g 0 0 (nI 1)) la ++ tl) H := hP
        replace hD : va_D A (wM tk h ad (mup g 0 0 (nI 1)) la ++ tl) := hD
        exact k_iret (v := 0) hQ hx hb hr hlk hK hP hD hS () (by rw [if_pos hbad]) (by rw [if_pos hbad]; try rfl) d_M_get_28
