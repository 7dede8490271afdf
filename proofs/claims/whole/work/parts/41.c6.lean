/-- the bytes that the class's verifier holds -/
def byF (f : Nat → Int32) (t0 : Nat) : Prop := ∀ i, i < t0 → ∃ c : Nat, c < 256 ∧ f i = nI c
/-- a byte; 0 behind the end -/
def rb (f : Nat → Int32) (t0 p : Nat) : Nat := if p < t0 then (f p).toNatClampNeg else 0
theorem rb_lt {f : Nat → Int32} {t0 : Nat} (h : byF f t0) (p : Nat) : rb f t0 p < 256 := by
  unfold rb
  split
  · next h1 =>
    obtain ⟨c, hc, e⟩ := h p h1
    rw [e, nI_clamp (by omega)]; exact hc
  · decide
theorem rb_in {f : Nat → Int32} {t0 p : Nat} (h : byF f t0) (hp : p < t0) : f p = nI (rb f t0 p) := by
  unfold rb
  rw [if_pos hp]
  obtain ⟨c, hc, e⟩ := h p hp
  rw [e, nI_clamp (by omega)]
theorem rb_out {f : Nat → Int32} {t0 p : Nat} (hp : ¬ p < t0) : rb f t0 p = 0 := by unfold rb; rw [if_neg hp]
def ri (f : Nat → Int32) (t0 p : Nat) : Int32 := (((((((nI 0 <<< (nI 8 &&& 31)) ||| nI (rb f t0 p)) <<< (nI 8 &&& 31)) ||| nI (rb f t0 (p + 1))) <<< (nI 8 &&& 31)) ||| nI (rb f t0 (p + 1 + 1))) <<< (nI 8 &&& 31)) ||| nI (rb f t0 (p + 1 + 1 + 1))
def vS (g : Nat → Nat → Int32) (f : Nat → Int32) (t0 p : Nat) : Prop := g 20 0 = nI t0 ∧ g 21 = f ∧ g 11 0 = nI p
theorem vS_p {g : Nat → Nat → Int32} {f : Nat → Int32} {t0 p : Nat} (q : Nat) (h : vS g f t0 p) : vS (mup g 11 0 (nI q)) f t0 q := ⟨by rw [mup_ne (by decide)]; exact h.1, by rw [mup_ne (by decide)]; exact h.2.1, rd_eq⟩
theorem vS_o {g : Nat → Nat → Int32} {f : Nat → Int32} {t0 p a i : Nat} {v : Int32} (ha : a ≠ 20 ∧ a ≠ 21 ∧ a ≠ 11) (h : vS g f t0 p) : vS (mup g a i v) f t0 p := ⟨by rw [mup_ne (Ne.symm ha.1)]; exact h.1, by rw [mup_ne (Ne.symm ha.2.1)]; exact h.2.1, by rw [mup_ne (Ne.symm ha.2.2)]; exact h.2.2⟩
theorem at_b {g : Nat → Nat → Int32} {f : Nat → Int32} {t0 p : Nat} (ht : t0 ≤ 400) (hp : p < 2 ^ 20) (hb : byF f t0) (h : vS g f t0 p) : (p < t0 ∧ (if nI p < nI 0 ∨ g 20 0 - nI 1 < nI p then (-1) else g 21 (nI p).toNatClampNeg) = nI (rb f t0 p)) ∨ (¬ p < t0 ∧ (if nI p < nI 0 ∨ g 20 0 - nI 1 < nI p then (-1) else g 21 (nI p).toNatClampNeg) = -1) := by
  have h0 : ¬ nI p < nI 0 := nI_pos (by omega)
  rw [h.1, nI_clamp (by omega), h.2.1]
  by_cases hpt : p < t0
  · refine Or.inl ⟨hpt, ?_⟩
    rw [if_neg, rb_in hb hpt]
    rintro (q | q)
    · exact h0 q
    · rw [pk_sub (by omega)] at q
      exact absurd q (nI_nlt (by omega) (by omega))
  · refine Or.inr ⟨hpt, ?_⟩
    rw [if_pos]
    right
    by_cases hz : t0 = 0
    · subst hz
      have e : nI 0 - nI 1 = -1 := by decide
      rw [e, Int32.lt_iff_toInt_lt, nI_toInt (by omega)]
      have : ((-1 : Int32)).toInt = -1 := by decide
      omega
    · rw [pk_sub (by omega)]
      exact nI_lt (by omega) (by omega)

set_option maxHeartbeats 4000000 in
set_option maxRecDepth 100000 in
theorem c_V_nextByte (l : Launch) (D : va_G) (tk : Nat → ClassId) (sz : Nat) (ad : Nat → Nat) (g : Nat → Nat → Int32) (rr : Nat → Nat → Option Nat) (tl : va_W) (f : Nat → Int32) (t0 : Nat) (ht0 : t0 ≤ 400) (hby : byF f t0) (p9 : Nat) (hp9 : p9 < 2 ^ 20) (hv : vS g f t0 p9) : Met l y_V_nextByte w_V_nextByte ({ frames := 1, cells := 0, slots := 0, locals := 21 }) (va_Pc [.ref (ad 15)] (k_pre D (TY tk) sz (wC tk ad g rr ++ tl))) (va_Qi (fun (r : Int32) (_ : Unit) => r = nI (rb f t0 p9)) (fun u t => k_at D (TY tk) (va_A (wC tk ad g rr ++ tl) sz) ((fun _ => wC tk ad (mup g 11 0 (nI (p9 + 1))) rr ++ tl) u) t) (va_A (wC tk ad g rr ++ tl) sz)) 0 0 (va_A (wC tk ad g rr ++ tl) sz) := by
  refine k_ofW (fun A => va_Qi (fun (r : Int32) (_ : Unit) => r = nI (rb f t0 p9)) (fun u t => k_at D (TY tk) A ((fun _ => wC tk ad (mup g 11 0 (nI (p9 + 1))) rr ++ tl) u) t) A) (by decide) (Nat.le_of_ble_eq_true rfl) ?_
  intro p e s m args below meth c Q A ls hQ hx hb hr hlk hin hts hT hown hml hnw hP hK hD hA hsz hl
  have hS : va_S A s.heap s.heap [] := va_S.rf
  have hc0 : 0 + 0 ≤ 0 ∧ 0 + 0 ≤ 0 := ⟨by decide, by decide⟩
  replace hl : lv_has ls 2 [(0, .ref (ad 15))] := hl
  replace hP : va_P D CC (wC tk ad g rr ++ tl) s.heap := hP
  replace hK : va_K D CC (TY tk) s := hK
  refine lv_aload_n hx hb d_V_nextByte_0 rfl (lv_at hl 0 rfl) ?_
  refine gf_V_12 (v := .ref (ad 16)) hx hb hT hown hK hP 15 rfl rfl d_V_nextByte_1 ?_
  refine lv_aload_n hx hb d_V_nextByte_4 rfl (lv_at hl 0 rfl) ?_
  refine gf_V_22 (v := .int (g 11 0)) hx hb hT hown hK hP 15 rfl rfl d_V_nextByte_5 ?_
  refine st_top (show g 11 0 = nI p9 from hv.2.2) ?_
  refine k_calli (va_runV (As := [.int (nI p9)]) (rest := []) ⟨hx, hb, hml, hown, hts⟩ (c_B_atV l D tk s.heap.size ad g rr tl t0 ht0 hv.1 (nI p9)) (cwV 1 hts (gV t_884 t_248 t_249 t_7 t_250) rfl rfl rfl (by decide +kernel) ⟨Nat.le_of_ble_eq_true rfl, Nat.le_of_ble_eq_true rfl⟩) (k_preV hP hK hD hnw 16 rfl rfl) rfl rfl hl.1 rfl (lv_room (Nat.le_of_ble_eq_true rfl)) d_V_nextByte_8 hc0) hD hS hA (fun x8 _ H locs hp8 hP hD hK hS => ?_)
  have hx8 := at_b ht0 hp9 hby hv
  rw [← hp8] at hx8
  replace hP : va_P D CC (wC tk ad g rr ++ tl) H := hP
  replace hD : va_D A (wC tk ad g rr ++ tl) := hD
  refine lv_istore_n (lv' := [(1, .int x8), (0, .ref (ad 15))]) hx hb d_V_nextByte_11 rfl hl (by decide) rfl (fun ls hl => ?_)
  refine lv_aload_n hx hb d_V_nextByte_12 rfl (lv_at hl 1 rfl) ?_
  refine lv_dup hx hb d_V_nextByte_13 rfl ?_
  refine gf_V_22 (v := .int (g 11 0)) hx hb hT hown hK hP 15 rfl rfl d_V_nextByte_14 ?_
  refine st_top (show g 11 0 = nI p9 from hv.2.2) ?_
  refine lv_iconst (v := nI 1) hx hb d_V_nextByte_17 (by decide) ?_
  refine st_iadd hx hb d_V_nextByte_18 ?_
  refine pf_V_22 hx hb hT hown hK hP hD hS 15 rfl (Nat.le_of_ble_eq_true rfl) d_V_nextByte_19 (fun H locs hP hD hS => ?_)
  replace hP : va_P D CC (wC tk ad (mup g 11 0 (nI (p9 + 1))) rr ++ tl) H := Eq.mp (congrArg (fun w => va_P D CC w H) (sC_15_2 tk ad g rr tl (nI (p9 + 1)))) hP
  replace hD : va_D A (wC tk ad (mup g 11 0 (nI (p9 + 1))) rr ++ tl) := Eq.mp (congrArg (fun w => va_D A w) (sC_15_2 tk ad g rr tl (nI (p9 + 1)))) hD
  refine lv_iload_n hx hb d_V_nextByte_22 rfl (lv_at hl 0 rfl) ?_
  refine lv_iconst (v := -1) hx hb d_V_nextByte_23 (by decide) ?_
  refine lv_icmp_ne hx hb d_V_nextByte_24 (tgt := 31) (by decide) (fun hc24 => ?_) (fun hc24 => ?_)
  · skip
    refine lv_iload_n hx hb d_V_nextByte_31 rfl (lv_at hl 0 rfl) ?_
    exact k_iret (v := x8) hQ hx hb hr hlk hK hP hD hS () rfl (by first | (rcases hx8 with ⟨h1, h2⟩ | ⟨h1, h2⟩; exact absurd (h2.symm.trans hc24) (nI_nm1 (by have := rb_lt hby p9; omega)); rw [rb_out h1]) | (rcases hx8 with ⟨h1, h2⟩ | ⟨h1, h2⟩; exact h2; exact absurd h2 hc24)) d_V_nextByte_32
  · skip
    refine lv_iconst (v := nI 0) hx hb d_V_nextByte_27 (by decide) ?_
    refine lv_goto hx hb d_V_nextByte_28 (tgt := 32) (by decide) ?_
    exact k_iret (v := nI 0) hQ hx hb hr hlk hK hP hD hS () rfl (by first | (rcases hx8 with ⟨h1, h2⟩ | ⟨h1, h2⟩; exact absurd (h2.symm.trans hc24) (nI_nm1 (by have := rb_lt hby p9; omega)); rw [rb_out h1]) | (rcases hx8 with ⟨h1, h2⟩ | ⟨h1, h2⟩; exact h2; exact absurd h2 hc24)) d_V_nextByte_32

set_option maxHeartbeats 4000000 in
set_option maxRecDepth 100000 in
theorem c_V_nextInt (l : Launch) (D : va_G) (tk : Nat → ClassId) (sz : Nat) (ad : Nat → Nat) (g : Nat → Nat → Int32) (rr : Nat → Nat → Option Nat) (tl : va_W) (f : Nat → Int32) (t0 : Nat) (ht0 : t0 ≤ 400) (hby : byF f t0) (p9 : Nat) (hp9 : p9 + 4 < 2 ^ 20) (hv : vS g f t0 p9) : Met l y_V_nextInt w_V_nextInt ({ frames := 2, cells := 0, slots := 0, locals := 42 }) (va_Pc [.ref (ad 15)] (k_pre D (TY tk) sz (wC tk ad g rr ++ tl))) (va_Qi (fun (r : Int32) (_ : Unit) => r = ri f t0 p9) (fun u t => k_at D (TY tk) (va_A (wC tk ad g rr ++ tl) sz) ((fun _ => wC tk ad (mup g 11 0 (nI (p9 + 4))) rr ++ tl) u) t) (va_A (wC tk ad g rr ++ tl) sz)) 0 0 (va_A (wC tk ad g rr ++ tl) sz) := by
  refine k_ofW (fun A => va_Qi (fun (r : Int32) (_ : Unit) => r = ri f t0 p9) (fun u t => k_at D (TY tk) A ((fun _ => wC tk ad (mup g 11 0 (nI (p9 + 4))) rr ++ tl) u) t) A) (by decide) (Nat.le_of_ble_eq_true rfl) ?_
  intro p e s m args below meth c Q A ls hQ hx hb hr hlk hin hts hT hown hml hnw hP hK hD hA hsz hl
  have hS : va_S A s.heap s.heap [] := va_S.rf
  have hc0 : 0 + 0 ≤ 0 ∧ 0 + 0 ≤ 0 := ⟨by decide, by decide⟩
  replace hl : lv_has ls 3 [(0, .ref (ad 15))] := hl
  replace hP : va_P D CC (wC tk ad g rr ++ tl) s.heap := hP
  replace hK : va_K D CC (TY tk) s := hK
  refine lv_iconst (v := nI 0) hx hb d_V_nextInt_0 (by decide) ?_
  refine lv_istore_n (lv' := [(1, .int (nI 0)), (0, .ref (ad 15))]) hx hb d_V_nextInt_1 rfl hl (by decide) rfl (fun ls hl => ?_)
  refine lv_iconst (v := nI 0) hx hb d_V_nextInt_2 (by decide) ?_
  refine lv_istore_n (lv' := [(2, .int (nI 0)), (1, .int (nI 0)), (0, .ref (ad 15))]) hx hb d_V_nextInt_3 rfl hl (by decide) rfl (fun ls hl => ?_)
  refine lv_iload_n hx hb d_V_nextInt_4 rfl (lv_at hl 0 rfl) ?_
  refine lv_iconst (v := nI 4) hx hb d_V_nextInt_5 (by decide) ?_
  refine st_icmp_ge hx hb (by omega) (by omega) d_V_nextInt_6 (tgt := 25) (by decide) (fun hc6 => (by exfalso; first | exact hc6 | omega)) (fun hc6 => ?_)
  refine lv_iload_n hx hb d_V_nextInt_9 rfl (lv_at hl 1 rfl) ?_
  refine lv_bipush (v := nI 8) hx hb d_V_nextInt_10 (by decide) ?_
  refine lv_ishl hx hb d_V_nextInt_12 ?_
  refine lv_aload_n hx hb d_V_nextInt_13 rfl (lv_at hl 2 rfl) ?_
  refine k_calli (va_runV (As := []) (rest := [.int ((nI 0) <<< ((nI 8) &&& 31))]) ⟨hx, hb, hml, hown, hts⟩ (c_V_nextByte l D tk s.heap.size ad g rr tl f t0 ht0 hby p9 (by omega) hv) (cwV 0 hts (gV t_880 t_882 s_9 t_8 t_883) rfl rfl rfl (by decide +kernel) ⟨Nat.le_of_ble_eq_true rfl, Nat.le_of_ble_eq_true rfl⟩) (k_preV hP hK hD hnw 15 rfl rfl) rfl rfl hl.1 rfl (lv_room (Nat.le_of_ble_eq_true rfl)) d_V_nextInt_14 hc0) hD hS hA (fun _ _ H locs hp14 hP hD hK hS => ?_)
  subst hp14
  have hrb1 := rb_lt hby p9
  replace hP : va_P D CC (wC tk ad (mup g 11 0 (nI (p9 + 1))) rr ++ tl) H := hP
  replace hD : va_D A (wC tk ad (mup g 11 0 (nI (p9 + 1))) rr ++ tl) := hD
  refine lv_ior hx hb d_V_nextInt_17 ?_
  refine lv_istore_n (lv' := [(1, .int (((nI 0) <<< ((nI 8) &&& 31)) ||| (nI (rb f t0 p9)))), (2, .int (nI 0)), (0, .ref (ad 15))]) hx hb d_V_nextInt_18 rfl hl (by decide) rfl (fun ls hl => ?_)
  refine lv_iinc (k := 1) (v := nI 1) (lv' := [(2, .int (nI 1)), (1, .int (((nI 0) <<< ((nI 8) &&& 31)) ||| (nI (rb f t0 p9)))), (0, .ref (ad 15))]) hx hb d_V_nextInt_19 hl rfl (nI_add _ _) (by decide) rfl (fun ls hl => ?_)
  refine lv_goto hx hb d_V_nextInt_22 (tgt := 4) (by decide) ?_
  refine lv_iload_n hx hb d_V_nextInt_4 rfl (lv_at hl 0 rfl) ?_
  refine lv_iconst (v := nI 4) hx hb d_V_nextInt_5 (by decide) ?_
  refine st_icmp_ge hx hb (by omega) (by omega) d_V_nextInt_6 (tgt := 25) (by decide) (fun hc6 => (by exfalso; first | exact hc6 | omega)) (fun hc6 => ?_)
  refine lv_iload_n hx hb d_V_nextInt_9 rfl (lv_at hl 1 rfl) ?_
  refine lv_bipush (v := nI 8) hx hb d_V_nextInt_10 (by decide) ?_
  refine lv_ishl hx hb d_V_nextInt_12 ?_
  refine lv_aload_n hx hb d_V_nextInt_13 rfl (lv_at hl 2 rfl) ?_
  refine k_calli (va_runV (As := []) (rest := [.int ((((nI 0) <<< ((nI 8) &&& 31)) ||| (nI (rb f t0 p9))) <<< ((nI 8) &&& 31))]) ⟨hx, hb, hml, hown, hts⟩ (c_V_nextByte l D tk H.size ad (mup g 11 0 (nI (p9 + 1))) rr tl f t0 ht0 hby (p9 + 1) (by omega) (vS_p (p9 + 1) hv)) (cwV 0 hts (gV t_880 t_882 s_9 t_8 t_883) rfl rfl rfl (by decide +kernel) ⟨Nat.le_of_ble_eq_true rfl, Nat.le_of_ble_eq_true rfl⟩) (k_preV hP hK hD hnw 15 rfl rfl) rfl rfl hl.1 rfl (lv_room (Nat.le_of_ble_eq_true rfl)) d_V_nextInt_14 hc0) hD hS hA (fun _ _ H locs hp14 hP hD hK hS => ?_)
  subst hp14
  have hrb2 := rb_lt hby (p9 + 1)
  replace hP : va_P D CC (wC tk ad (mup (mup g 11 0 (nI (p9 + 1))) 11 0 (nI (p9 + 1 + 1))) rr ++ tl) H := hP
  replace hD : va_D A (wC tk ad (mup (mup g 11 0 (nI (p9 + 1))) 11 0 (nI (p9 + 1 + 1))) rr ++ tl) := hD
  refine lv_ior hx hb d_V_nextInt_17 ?_
  refine lv_istore_n (lv' := [(1, .int (((((nI 0) <<< ((nI 8) &&& 31)) ||| (nI (rb f t0 p9))) <<< ((nI 8) &&& 31)) ||| (nI (rb f t0 (p9 + 1))))), (2, .int (nI 1)), (0, .ref (ad 15))]) hx hb d_V_nextInt_18 rfl hl (by decide) rfl (fun ls hl => ?_)
  refine lv_iinc (k := 1) (v := nI 2) (lv' := [(2, .int (nI 2)), (1, .int (((((nI 0) <<< ((nI 8) &&& 31)) ||| (nI (rb f t0 p9))) <<< ((nI 8) &&& 31)) ||| (nI (rb f t0 (p9 + 1))))), (0, .ref (ad 15))]) hx hb d_V_nextInt_19 hl rfl (nI_add _ _) (by decide) rfl (fun ls hl => ?_)
  refine lv_goto hx hb d_V_nextInt_22 (tgt := 4) (by decide) ?_
  refine lv_iload_n hx hb d_V_nextInt_4 rfl (lv_at hl 0 rfl) ?_
  refine lv_iconst (v := nI 4) hx hb d_V_nextInt_5 (by decide) ?_
  refine st_icmp_ge hx hb (by omega) (by omega) d_V_nextInt_6 (tgt := 25) (by decide) (fun hc6 => (by exfalso; first | exact hc6 | omega)) (fun hc6 => ?_)
  refine lv_iload_n hx hb d_V_nextInt_9 rfl (lv_at hl 1 rfl) ?_
  refine lv_bipush (v := nI 8) hx hb d_V_nextInt_10 (by decide) ?_
  refine lv_ishl hx hb d_V_nextInt_12 ?_
  refine lv_aload_n hx hb d_V_nextInt_13 rfl (lv_at hl 2 rfl) ?_
  refine k_calli (va_runV (As := []) (rest := [.int ((((((nI 0) <<< ((nI 8) &&& 31)) ||| (nI (rb f t0 p9))) <<< ((nI 8) &&& 31)) ||| (nI (rb f t0 (p9 + 1)))) <<< ((nI 8) &&& 31))]) ⟨hx, hb, hml, hown, hts⟩ (c_V_nextByte l D tk H.size ad (mup (mup g 11 0 (nI (p9 + 1))) 11 0 (nI (p9 + 1 + 1))) rr tl f t0 ht0 hby (p9 + 1 + 1) (by omega) (vS_p (p9 + 1 + 1) (vS_p (p9 + 1) hv))) (cwV 0 hts (gV t_880 t_882 s_9 t_8 t_883) rfl rfl rfl (by decide +kernel) ⟨Nat.le_of_ble_eq_true rfl, Nat.le_of_ble_eq_true rfl⟩) (k_preV hP hK hD hnw 15 rfl rfl) rfl rfl hl.1 rfl (lv_room (Nat.le_of_ble_eq_true rfl)) d_V_nextInt_14 hc0) hD hS hA (fun _ _ H locs hp14 hP hD hK hS => ?_)
  subst hp14
  have hrb3 := rb_lt hby (p9 + 1 + 1)
  replace hP : va_P D CC (wC tk ad (mup (mup (mup g 11 0 (nI (p9 + 1))) 11 0 (nI (p9 + 1 + 1))) 11 0 (nI (p9 + 1 + 1 + 1))) rr ++ tl) H := hP
  replace hD : va_D A (wC tk ad (mup (mup (mup g 11 0 (nI (p9 + 1))) 11 0 (nI (p9 + 1 + 1))) 11 0 (nI (p9 + 1 + 1 + 1))) rr ++ tl) := hD
  refine lv_ior hx hb d_V_nextInt_17 ?_
  refine lv_istore_n (lv' := [(1, .int (((((((nI 0) <<< ((nI 8) &&& 31)) ||| (nI (rb f t0 p9))) <<< ((nI 8) &&& 31)) ||| (nI (rb f t0 (p9 + 1)))) <<< ((nI 8) &&& 31)) ||| (nI (rb f t0 (p9 + 1 + 1))))), (2, .int (nI 2)), (0, .ref (ad 15))]) hx hb d_V_nextInt_18 rfl hl (by decide) rfl (fun ls hl => ?_)
  refine lv_iinc (k := 1) (v := nI 3) (lv' := [(2, .int (nI 3)), (1, .int (((((((nI 0) <<< ((nI 8) &&& 31)) ||| (nI (rb f t0 p9))) <<< ((nI 8) &&& 31)) ||| (nI (rb f t0 (p9 + 1)))) <<< ((nI 8) &&& 31)) ||| (nI (rb f t0 (p9 + 1 + 1))))), (0, .ref (ad 15))]) hx hb d_V_nextInt_19 hl rfl (nI_add _ _) (by decide) rfl (fun ls hl => ?_)
  refine lv_goto hx hb d_V_nextInt_22 (tgt := 4) (by decide) ?_
  refine lv_iload_n hx hb d_V_nextInt_4 rfl (lv_at hl 0 rfl) ?_
  refine lv_iconst (v := nI 4) hx hb d_V_nextInt_5 (by decide) ?_
  refine st_icmp_ge hx hb (by omega) (by omega) d_V_nextInt_6 (tgt := 25) (by decide) (fun hc6 => (by exfalso; first | exact hc6 | omega)) (fun hc6 => ?_)
  refine lv_iload_n hx hb d_V_nextInt_9 rfl (lv_at hl 1 rfl) ?_
  refine lv_bipush (v := nI 8) hx hb d_V_nextInt_10 (by decide) ?_
  refine lv_ishl hx hb d_V_nextInt_12 ?_
  refine lv_aload_n hx hb d_V_nextInt_13 rfl (lv_at hl 2 rfl) ?_
  refine k_calli (va_runV (As := []) (rest := [.int ((((((((nI 0) <<< ((nI 8) &&& 31)) ||| (nI (rb f t0 p9))) <<< ((nI 8) &&& 31)) ||| (nI (rb f t0 (p9 + 1)))) <<< ((nI 8) &&& 31)) ||| (nI (rb f t0 (p9 + 1 + 1)))) <<< ((nI 8) &&& 31))]) ⟨hx, hb, hml, hown, hts⟩ (c_V_nextByte l D tk H.size ad (mup (mup (mup g 11 0 (nI (p9 + 1))) 11 0 (nI (p9 + 1 + 1))) 11 0 (nI (p9 + 1 + 1 + 1))) rr tl f t0 ht0 hby (p9 + 1 + 1 + 1) (by omega) (vS_p (p9 + 1 + 1 + 1) (vS_p (p9 + 1 + 1) (vS_p (p9 + 1) hv)))) (cwV 0 hts (gV t_880 t_882 s_9 t_8 t_883) rfl rfl rfl (by decide +kernel) ⟨Nat.le_of_ble_eq_true rfl, Nat.le_of_ble_eq_true rfl⟩) (k_preV hP hK hD hnw 15 rfl rfl) rfl rfl hl.1 rfl (lv_room (Nat.le_of_ble_eq_true rfl)) d_V_nextInt_14 hc0) hD hS hA (fun _ _ H locs hp14 hP hD hK hS => ?_)
  subst hp14
  have hrb4 := rb_lt hby (p9 + 1 + 1 + 1)
  replace hP : va_P D CC (wC tk ad (mup (mup (mup (mup g 11 0 (nI (p9 + 1))) 11 0 (nI (p9 + 1 + 1))) 11 0 (nI (p9 + 1 + 1 + 1))) 11 0 (nI (p9 + 1 + 1 + 1 + 1))) rr ++ tl) H := hP
  replace hD : va_D A (wC tk ad (mup (mup (mup (mup g 11 0 (nI (p9 + 1))) 11 0 (nI (p9 + 1 + 1))) 11 0 (nI (p9 + 1 + 1 + 1))) 11 0 (nI (p9 + 1 + 1 + 1 + 1))) rr ++ tl) := hD
  refine lv_ior hx hb d_V_nextInt_17 ?_
  refine lv_istore_n (lv' := [(1, .int (((((((((nI 0) <<< ((nI 8) &&& 31)) ||| (nI (rb f t0 p9))) <<< ((nI 8) &&& 31)) ||| (nI (rb f t0 (p9 + 1)))) <<< ((nI 8) &&& 31)) ||| (nI (rb f t0 (p9 + 1 + 1)))) <<< ((nI 8) &&& 31)) ||| (nI (rb f t0 (p9 + 1 + 1 + 1))))), (2, .int (nI 3)), (0, .ref (ad 15))]) hx hb d_V_nextInt_18 rfl hl (by decide) rfl (fun ls hl => ?_)
  refine lv_iinc (k := 1) (v := nI 4) (lv' := [(2, .int (nI 4)), (1, .int (((((((((nI 0) <<< ((nI 8) &&& 31)) ||| (nI (rb f t0 p9))) <<< ((nI 8) &&& 31)) ||| (nI (rb f t0 (p9 + 1)))) <<< ((nI 8) &&& 31)) ||| (nI (rb f t0 (p9 + 1 + 1)))) <<< ((nI 8) &&& 31)) ||| (nI (rb f t0 (p9 + 1 + 1 + 1))))), (0, .ref (ad 15))]) hx hb d_V_nextInt_19 hl rfl (nI_add _ _) (by decide) rfl (fun ls hl => ?_)
  refine lv_goto hx hb d_V_nextInt_22 (tgt := 4) (by decide) ?_
  refine lv_iload_n hx hb d_V_nextInt_4 rfl (lv_at hl 0 rfl) ?_
  refine lv_iconst (v := nI 4) hx hb d_V_nextInt_5 (by decide) ?_
  refine st_icmp_ge hx hb (by omega) (by omega) d_V_nextInt_6 (tgt := 25) (by decide) (fun hc6 => ?_) (fun hc6 => (by exfalso; first | exact hc6 | omega))
  refine lv_iload_n hx hb d_V_nextInt_25 rfl (lv_at hl 1 rfl) ?_
  exact k_iret (v := ((((((((nI 0) <<< ((nI 8) &&& 31)) ||| (nI (rb f t0 p9))) <<< ((nI 8) &&& 31)) ||| (nI (rb f t0 (p9 + 1)))) <<< ((nI 8) &&& 31)) ||| (nI (rb f t0 (p9 + 1 + 1)))) <<< ((nI 8) &&& 31)) ||| (nI (rb f t0 (p9 + 1 + 1 + 1)))) hQ hx hb hr hlk hK hP hD hS () (by rw [mup_mup, mup_mup, mup_mup]) rfl d_V_nextInt_26

/-- the items of a chunk read at p -/
def itC (f : Nat → Int32) (t0 p n : Nat) : List kv_I := (List.range n).map (fun i => (rb f t0 (p + 1 + 5 * i), ri f t0 (p + 1 + 5 * i + 1)))
theorem itC_succ (f : Nat → Int32) (t0 p n : Nat) : itC f t0 p (n + 1) = itC f t0 p n ++ [(rb f t0 (p + 1 + 5 * n), ri f t0 (p + 1 + 5 * n + 1))] := by
  unfold itC
  rw [List.range_succ, List.map_append]; rfl
theorem itC_len (f : Nat → Int32) (t0 p n : Nat) : (itC f t0 p n).length = n := by unfold itC; rw [List.length_map, List.length_range]
theorem hs_snc (l : Nat) (a : List kv_I) (x : kv_I) : hs l (a ++ [x]) = mx (mx (hs l a) (nI x.1)) x.2 := by
  unfold hs
  rw [List.foldl_append]; rfl
/-- the item that is chosen: one more at the end -/
theorem ch_snoc (key : Nat) (x : kv_I) : ∀ a : List kv_I, a ≠ [] → ch_ key (a ++ [x]) = if (ch_ key a).1 < key then x else ch_ key a := by
  intro a
  induction a with
  | nil => intro h; exact absurd rfl h
  | cons y r ih =>
    intro _
    cases r with
    | nil =>
      show ch_ key [y, x] = _
      unfold ch_ pf
      by_cases hk : key ≤ y.1
      · rw [if_pos hk]
        show y = if y.1 < key then x else y
        rw [if_neg (by omega)]
      · rw [if_neg hk]
        show x = if y.1 < key then x else y
        rw [if_pos (by omega)]
    | cons z r =>
      have ih := ih (by simp)
      by_cases hk : key ≤ y.1
      · have e1 : ch_ key (y :: z :: r ++ [x]) = y := by
          unfold ch_
          rw [List.cons_append, List.cons_append]
          unfold pf
          rw [if_pos hk]; rfl
        have e2 : ch_ key (y :: z :: r) = y := by
          unfold ch_ pf
          rw [if_pos hk]; rfl
        rw [e1, e2, if_neg (by omega)]
      · have e1 : ch_ key (y :: z :: r ++ [x]) = ch_ key (z :: r ++ [x]) := by
          unfold ch_
          rw [List.cons_append, List.cons_append]
          conv => lhs; unfold pf
          rw [if_neg hk]; rfl
        have e2 : ch_ key (y :: z :: r) = ch_ key (z :: r) := by
          unfold ch_
          conv => lhs; unfold pf
          rw [if_neg hk]; rfl
        rw [e1, e2]; exact ih
/-- what the class's verifier asks of the first k items of a chunk -/
def okC (f : Nat → Int32) (t0 p k : Nat) : Prop := ∀ i, i < k → (i = 0 ∨ rb f t0 (p + 1 + 5 * (i - 1)) < rb f t0 (p + 1 + 5 * i)) ∧ rb f t0 (p + 1 + 5 * i) < 48
def ckC (f : Nat → Int32) (t0 p : Nat) : Prop := (1 ≤ rb f t0 p ∧ rb f t0 p ≤ 48) ∧ okC f t0 p (rb f t0 p)
/-- the fields of the verifier behind k items -/
def rcF (f : Nat → Int32) (t0 p key lv k : Nat) (u : Nat → Nat → Int32) : Prop := u 14 0 = hs lv (itC f t0 p k) ∧ u 15 0 = (if k = 0 then -1 else nI (rb f t0 (p + 1 + 5 * (k - 1)))) ∧ (k = 0 → u 16 0 = -1) ∧ (k ≠ 0 → u 16 0 = nI (ch_ key (itC f t0 p k)).1 ∧ u 17 0 = (ch_ key (itC f t0 p k)).2)
theorem rc_step {f : Nat → Int32} {t0 p key lv k : Nat} {u w : Nat → Nat → Int32} (hby : byF f t0) (h : rcF f t0 p key lv k u) (hkey : key < 48)
    (h14 : w 14 0 = mx (mx (u 14 0) (nI (rb f t0 (p + 1 + 5 * k)))) (ri f t0 (p + 1 + 5 * k + 1))) (h15 : w 15 0 = nI (rb f t0 (p + 1 + 5 * k)))
    (hw : (u 16 0 < nI key ∧ w 16 0 = nI (rb f t0 (p + 1 + 5 * k)) ∧ w 17 0 = ri f t0 (p + 1 + 5 * k + 1)) ∨ (nI key ≤ u 16 0 ∧ w 16 0 = u 16 0 ∧ w 17 0 = u 17 0)) : rcF f t0 p key lv (k + 1) w := by
  obtain ⟨a1, a2, a3, a4⟩ := h
  refine ⟨by rw [itC_succ, hs_snc, ← a1]; exact h14, by rw [if_neg (by omega)]; exact h15, fun q => absurd q (by omega), fun _ => ?_⟩
  rw [itC_succ]
  by_cases hk : k = 0
  · subst hk
    rcases hw with ⟨b1, b2, b3⟩ | ⟨b1, b2, b3⟩
    · exact ⟨b2, b3⟩
    · rw [a3 rfl] at b1
      rw [Int32.le_iff_toInt_le, nI_toInt (by omega)] at b1
      have : ((-1 : Int32)).toInt = -1 := by decide
      omega
  · have hne : itC f t0 p k ≠ [] := by
      intro q
      have := congrArg List.length q
      rw [itC_len] at this
      exact hk this
    rw [ch_snoc key _ _ hne]
    obtain ⟨c1, c2⟩ := a4 hk
    have hch : (ch_ key (itC f t0 p k)).1 < 256 := by
      have hm : ch_ key (itC f t0 p k) ∈ itC f t0 p k := by
        unfold ch_
        rw [List.getD_eq_getElem?_getD, List.getElem?_eq_getElem (pf_lt hne)]
        exact List.getElem_mem _
      unfold itC at hm
      obtain ⟨i, _, e⟩ := List.mem_map.mp hm
      unfold itC
      rw [← e]
      exact rb_lt hby _
    rcases hw with ⟨b1, b2, b3⟩ | ⟨b1, b2, b3⟩
    · rw [c1] at b1
      rw [if_pos ((nI_ltI (by omega) (by omega)).mp b1)]
      exact ⟨b2, b3⟩
    · rw [c1] at b1
      rw [if_neg (by have := (nI_leI (by omega) (by omega)).mp b1; omega)]
      exact ⟨b2.trans c1, b3.trans c2⟩
theorem ok_step {f : Nat → Int32} {t0 p k : Nat} (h : okC f t0 p k) (h1 : k = 0 ∨ rb f t0 (p + 1 + 5 * (k - 1)) < rb f t0 (p + 1 + 5 * k)) (h2 : rb f t0 (p + 1 + 5 * k) < 48) : okC f t0 p (k + 1) := by
  intro i hi
  by_cases e : i = k
  · subst e; exact ⟨h1, h2⟩
  · exact h i (by omega)
/-- the comparison with the key before -/
theorem lk_cmp {f : Nat → Int32} {t0 p k : Nat} (hby : byF f t0) {x : Int32} (hx : x = (if k = 0 then -1 else nI (rb f t0 (p + 1 + 5 * (k - 1))))) : nI (rb f t0 (p + 1 + 5 * k)) ≤ x ↔ ¬ (k = 0 ∨ rb f t0 (p + 1 + 5 * (k - 1)) < rb f t0 (p + 1 + 5 * k)) := by
  have h1 := rb_lt hby (p + 1 + 5 * k)
  have h2 := rb_lt hby (p + 1 + 5 * (k - 1))
  by_cases hk : k = 0
  · rw [if_pos hk] at hx
    subst hx
    constructor
    · intro q
      rw [Int32.le_iff_toInt_le, nI_toInt (by omega)] at q
      have : ((-1 : Int32)).toInt = -1 := by decide
      omega
    · intro q; exact absurd (Or.inl hk) q
  · rw [if_neg hk] at hx
    subst hx
    rw [nI_leI (by omega) (by omega)]
    omega

set_option maxHeartbeats 4000000 in
set_option maxRecDepth 100000 in
theorem c_V_readChunk (l : Launch) (D : va_G) (tk : Nat → ClassId) (sz : Nat) (ad : Nat → Nat) (g : Nat → Nat → Int32) (rr : Nat → Nat → Option Nat) (tl : va_W) (f : Nat → Int32) (t0 : Nat) (ht0 : t0 ≤ 400) (hby : byF f t0) (p9 lv key : Nat) (hp9 : p9 + 300 < 2 ^ 20) (hkey : key < 48) (hv : vS g f t0 p9) : Met l y_V_readChunk w_V_readChunk ({ frames := 3, cells := 0, slots := 0, locals := 64 }) (va_Pc [.ref (ad 15), .int (nI lv), .int (nI key)] (k_pre D (TY tk) sz (wC tk ad g rr ++ tl))) (va_Qi (fun (r : Int32) (u : Nat → Nat → Int32) => frx [11, 14, 15, 16, 17] g u ∧ ((ckC f t0 p9 ∧ r = nI 1 ∧ vS u f t0 (p9 + 1 + 5 * rb f t0 p9) ∧ rcF f t0 p9 key lv (rb f t0 p9) u) ∨ (¬ ckC f t0 p9 ∧ r = nI 0))) (fun u t => k_at D (TY tk) (va_A (wC tk ad g rr ++ tl) sz) ((fun u => wC tk ad u rr ++ tl) u) t) (va_A (wC tk ad g rr ++ tl) sz)) 0 0 (va_A (wC tk ad g rr ++ tl) sz) := by
  refine k_ofW (fun A => va_Qi (fun (r : Int32) (u : Nat → Nat → Int32) => frx [11, 14, 15, 16, 17] g u ∧ ((ckC f t0 p9 ∧ r = nI 1 ∧ vS u f t0 (p9 + 1 + 5 * rb f t0 p9) ∧ rcF f t0 p9 key lv (rb f t0 p9) u) ∨ (¬ ckC f t0 p9 ∧ r = nI 0))) (fun u t => k_at D (TY tk) A ((fun u => wC tk ad u rr ++ tl) u) t) A) (by decide) (Nat.le_of_ble_eq_true rfl) ?_
  intro p e s m args below meth c Q A ls hQ hx hb hr hlk hin hts hT hown hml hnw hP hK hD hA hsz hl
  have hS : va_S A s.heap s.heap [] := va_S.rf
  have hc0 : 0 + 0 ≤ 0 ∧ 0 + 0 ≤ 0 := ⟨by decide, by decide⟩
  replace hl : lv_has ls 7 [(0, .ref (ad 15)), (1, .int (nI lv)), (2, .int (nI key))] := hl
  replace hP : va_P D CC (wC tk ad g rr ++ tl) s.heap := hP
  replace hK : va_K D CC (TY tk) s := hK
  refine lv_aload_n hx hb d_V_readChunk_0 rfl (lv_at hl 0 rfl) ?_
  refine k_calli (va_runV (As := []) (rest := []) ⟨hx, hb, hml, hown, hts⟩ (c_V_nextByte l D tk s.heap.size ad g rr tl f t0 ht0 hby p9 (by omega) hv) (cwV 0 hts (gV t_880 t_882 s_9 t_8 t_883) rfl rfl rfl (by decide +kernel) ⟨Nat.le_of_ble_eq_true rfl, Nat.le_of_ble_eq_true rfl⟩) (k_preV hP hK hD hnw 15 rfl rfl) rfl rfl hl.1 rfl (lv_room (Nat.le_of_ble_eq_true rfl)) d_V_readChunk_1 hc0) hD hS hA (fun _ _ H locs hp1 hP hD hK hS => ?_)
  subst hp1
  have hrb1 := rb_lt hby p9
  replace hP : va_P D CC (wC tk ad (mup g 11 0 (nI (p9 + 1))) rr ++ tl) H := hP
  replace hD : va_D A (wC tk ad (mup g 11 0 (nI (p9 + 1))) rr ++ tl) := hD
  refine lv_istore_n (lv' := [(3, .int (nI (rb f t0 p9))), (0, .ref (ad 15)), (1, .int (nI lv)), (2, .int (nI key))]) hx hb d_V_readChunk_4 rfl hl (by decide) rfl (fun ls hl => ?_)
  refine lv_iload_n hx hb d_V_readChunk_5 rfl (lv_at hl 0 rfl) ?_
  refine lv_iconst (v := nI 1) hx hb d_V_readChunk_6 (by decide) ?_
  refine st_icmp_lt hx hb (by omega) (by omega) d_V_readChunk_7 (tgt := 16) (by decide) (fun hc7 => ?_) (fun hc7 => ?_)
  · skip
    refine lv_iconst (v := nI 0) hx hb d_V_readChunk_16 (by decide) ?_
    exact k_zret (v := nI 0) hQ hx hb hr hlk hK hP hD hS (mup g 11 0 (nI (p9 + 1))) rfl (by decide) (⟨(frx_2 frx_r (by decide)), Or.inr ⟨fun q => absurd q.1 (by omega), rfl⟩⟩) d_V_readChunk_17
  · skip
    refine lv_iload_n hx hb d_V_readChunk_10 rfl (lv_at hl 0 rfl) ?_
    refine lv_bipush (v := nI 48) hx hb d_V_readChunk_11 (by decide) ?_
    refine st_icmp_le hx hb (by omega) (by omega) d_V_readChunk_13 (tgt := 18) (by decide) (fun hc13 => ?_) (fun hc13 => ?_)
    · skip
      refine lv_aload_n hx hb d_V_readChunk_18 rfl (lv_at hl 1 rfl) ?_
      refine lv_bipush (v := nI 6) hx hb d_V_readChunk_19 (by decide) ?_
      refine lv_iload_n hx hb d_V_readChunk_21 rfl (lv_at hl 2 rfl) ?_
      refine k_calli (va_runSN (As := [.int (nI 6), .int (nI lv)]) (rest := [.ref (ad 15)]) ⟨hx, hb, hml, hown, hts⟩ (c_K_mix l D tk H.size (nI 6) (nI lv) (wC tk ad (mup g 11 0 (nI (p9 + 1))) rr ++ tl)) ⟨(va_cnB 2 hts (gB t_424) rfl rfl rfl (hnw.1 _ _ _ _ n_893) (hT _ t_1) (by decide +kernel) ⟨Nat.le_of_ble_eq_true rfl, Nat.le_of_ble_eq_true rfl⟩), hT _ t_423, trivial⟩ (k_preS hP hK hD hnw) rfl rfl hl.1 rfl (lv_room (Nat.le_of_ble_eq_true rfl)) d_V_readChunk_22 hc0) hD hS hA (fun _ _ H locs hp22 hP hD hK hS => ?_)
      subst hp22
      replace hP : va_P D CC (wC tk ad (mup g 11 0 (nI (p9 + 1))) rr ++ tl) H := hP
      replace hD : va_D A (wC tk ad (mup g 11 0 (nI (p9 + 1))) rr ++ tl) := hD
      refine pf_V_31 hx hb hT hown hK hP hD hS 15 rfl (Nat.le_of_ble_eq_true rfl) d_V_readChunk_25 (fun H locs hP hD hS => ?_)
      replace hP : va_P D CC (wC tk ad (mup (mup g 11 0 (nI (p9 + 1))) 14 0 (mx (nI 6) (nI lv))) rr ++ tl) H := Eq.mp (congrArg (fun w => va_P D CC w H) (sC_15_5 tk ad (mup g 11 0 (nI (p9 + 1))) rr tl (mx (nI 6) (nI lv)))) hP
      replace hD : va_D A (wC tk ad (mup (mup g 11 0 (nI (p9 + 1))) 14 0 (mx (nI 6) (nI lv))) rr ++ tl) := Eq.mp (congrArg (fun w => va_D A w) (sC_15_5 tk ad (mup g 11 0 (nI (p9 + 1))) rr tl (mx (nI 6) (nI lv)))) hD
      refine lv_aload_n hx hb d_V_readChunk_28 rfl (lv_at hl 1 rfl) ?_
      refine lv_iconst (v := -1) hx hb d_V_readChunk_29 (by decide) ?_
      refine pf_V_34 hx hb hT hown hK hP hD hS 15 rfl (Nat.le_of_ble_eq_true rfl) d_V_readChunk_30 (fun H locs hP hD hS => ?_)
      replace hP : va_P D CC (wC tk ad (mup (mup (mup g 11 0 (nI (p9 + 1))) 14 0 (mx (nI 6) (nI lv))) 15 0 (-1)) rr ++ tl) H := Eq.mp (congrArg (fun w => va_P D CC w H) (sC_15_6 tk ad (mup (mup g 11 0 (nI (p9 + 1))) 14 0 (mx (nI 6) (nI lv))) rr tl (-1))) hP
      replace hD : va_D A (wC tk ad (mup (mup (mup g 11 0 (nI (p9 + 1))) 14 0 (mx (nI 6) (nI lv))) 15 0 (-1)) rr ++ tl) := Eq.mp (congrArg (fun w => va_D A w) (sC_15_6 tk ad (mup (mup g 11 0 (nI (p9 + 1))) 14 0 (mx (nI 6) (nI lv))) rr tl (-1))) hD
      refine lv_aload_n hx hb d_V_readChunk_33 rfl (lv_at hl 1 rfl) ?_
      refine lv_iconst (v := -1) hx hb d_V_readChunk_34 (by decide) ?_
      refine pf_V_37 hx hb hT hown hK hP hD hS 15 rfl (Nat.le_of_ble_eq_true rfl) d_V_readChunk_35 (fun H locs hP hD hS => ?_)
      replace hP : va_P D CC (wC tk ad (mup (mup (mup (mup g 11 0 (nI (p9 + 1))) 14 0 (mx (nI 6) (nI lv))) 15 0 (-1)) 16 0 (-1)) rr ++ tl) H := Eq.mp (congrArg (fun w => va_P D CC w H) (sC_15_7 tk ad (mup (mup (mup g 11 0 (nI (p9 + 1))) 14 0 (mx (nI 6) (nI lv))) 15 0 (-1)) rr tl (-1))) hP
      replace hD : va_D A (wC tk ad (mup (mup (mup (mup g 11 0 (nI (p9 + 1))) 14 0 (mx (nI 6) (nI lv))) 15 0 (-1)) 16 0 (-1)) rr ++ tl) := Eq.mp (congrArg (fun w => va_D A w) (sC_15_7 tk ad (mup (mup (mup g 11 0 (nI (p9 + 1))) 14 0 (mx (nI 6) (nI lv))) 15 0 (-1)) rr tl (-1))) hD
      refine lv_iconst (v := nI 0) hx hb d_V_readChunk_38 (by decide) ?_
      refine lv_istore (lv' := [(4, .int (nI 0)), (3, .int (nI (rb f t0 p9))), (0, .ref (ad 15)), (1, .int (nI lv)), (2, .int (nI key))]) hx hb d_V_readChunk_39 hl (by decide) rfl (fun ls hl => ?_)
      have key41 : ∀ (n41 : Nat) (k : Nat) (u : Nat → Nat → Int32) (ls : Array Slot) (H : Heap) (locs : List Loc), rb f t0 p9 - k < n41 → (k ≤ rb f t0 p9) → (frx [11, 14, 15, 16, 17] g u) → (vS u f t0 (p9 + 1 + 5 * k)) → (okC f t0 p9 k) → (rcF f t0 p9 key lv k u) → lv_has ls 7 [(0, .ref (ad 15)), (1, .int (nI lv)), (2, .int (nI key)), (3, .int (nI (rb f t0 p9))), (4, .int (nI k))] → va_P D CC (wC tk ad u rr ++ tl) H → va_D A (wC tk ad u rr ++ tl) → va_S A s.heap H locs → W p l e ({ frames := 3, cells := 0, slots := 0, locals := 64 } : Room) s m args below meth c H locs 0 0 Q (F0 m 41 ls []) := by
        intro n41
        induction n41 with
        | zero => intro k u ls H locs hn; exact absurd hn (Nat.not_lt_zero _)
        | succ n41 ih41 =>
          intro k u ls H locs hn41 hk hfr hvu hok hrc hl hP hD hS
          refine lv_iload hx hb d_V_readChunk_41 (lv_at hl 4 rfl) ?_
          refine lv_iload_n hx hb d_V_readChunk_43 rfl (lv_at hl 3 rfl) ?_
          refine st_icmp_ge hx hb (by omega) (by omega) d_V_readChunk_44 (tgt := 127) (by decide) (fun hc44 => ?_) (fun hc44 => ?_)
          · skip
            refine lv_iconst (v := nI 1) hx hb d_V_readChunk_127 (by decide) ?_
            exact k_zret (v := nI 1) hQ hx hb hr hlk hK hP hD hS u rfl (by decide) (⟨hfr, Or.inl ⟨⟨⟨by omega, by omega⟩, (show k = rb f t0 p9 by omega) ▸ hok⟩, rfl, (show k = rb f t0 p9 by omega) ▸ hvu, (show k = rb f t0 p9 by omega) ▸ hrc⟩⟩) d_V_readChunk_128
          · skip
            refine lv_aload_n hx hb d_V_readChunk_47 rfl (lv_at hl 0 rfl) ?_
            refine k_calli (va_runV (As := []) (rest := []) ⟨hx, hb, hml, hown, hts⟩ (c_V_nextByte l D tk H.size ad u rr tl f t0 ht0 hby (p9 + 1 + 5 * k) (by omega) hvu) (cwV 0 hts (gV t_880 t_882 s_9 t_8 t_883) rfl rfl rfl (by decide +kernel) ⟨Nat.le_of_ble_eq_true rfl, Nat.le_of_ble_eq_true rfl⟩) (k_preV hP hK hD hnw 15 rfl rfl) rfl rfl hl.1 rfl (lv_room (Nat.le_of_ble_eq_true rfl)) d_V_readChunk_48 hc0) hD hS hA (fun _ _ H locs hp48 hP hD hK hS => ?_)
            subst hp48
            have hrb2 := rb_lt hby (p9 + 1 + 5 * k)
            replace hP : va_P D CC (wC tk ad (mup u 11 0 (nI (p9 + 1 + 5 * k + 1))) rr ++ tl) H := hP
            replace hD : va_D A (wC tk ad (mup u 11 0 (nI (p9 + 1 + 5 * k + 1))) rr ++ tl) := hD
            refine lv_istore (lv' := [(5, .int (nI (rb f t0 (p9 + 1 + 5 * k)))), (0, .ref (ad 15)), (1, .int (nI lv)), (2, .int (nI key)), (3, .int (nI (rb f t0 p9))), (4, .int (nI k))]) hx hb d_V_readChunk_51 hl (by decide) rfl (fun ls hl => ?_)
            refine lv_aload_n hx hb d_V_readChunk_53 rfl (lv_at hl 1 rfl) ?_
            refine k_calli (va_runV (As := []) (rest := []) ⟨hx, hb, hml, hown, hts⟩ (c_V_nextInt l D tk H.size ad (mup u 11 0 (nI (p9 + 1 + 5 * k + 1))) rr tl f t0 ht0 hby (p9 + 1 + 5 * k + 1) (by omega) (vS_p (p9 + 1 + 5 * k + 1) hvu)) (cwV 0 hts (gV t_894 t_896 s_12 t_8 t_897) rfl rfl rfl (by decide +kernel) ⟨Nat.le_of_ble_eq_true rfl, Nat.le_of_ble_eq_true rfl⟩) (k_preV hP hK hD hnw 15 rfl rfl) rfl rfl hl.1 rfl (lv_room (Nat.le_of_ble_eq_true rfl)) d_V_readChunk_54 hc0) hD hS hA (fun _ _ H locs hp54 hP hD hK hS => ?_)
            subst hp54
            replace hP : va_P D CC (wC tk ad (mup (mup u 11 0 (nI (p9 + 1 + 5 * k + 1))) 11 0 (nI (p9 + 1 + 5 * k + 1 + 4))) rr ++ tl) H := hP
            replace hD : va_D A (wC tk ad (mup (mup u 11 0 (nI (p9 + 1 + 5 * k + 1))) 11 0 (nI (p9 + 1 + 5 * k + 1 + 4))) rr ++ tl) := hD
            refine lv_istore (lv' := [(6, .int (ri f t0 (p9 + 1 + 5 * k + 1))), (5, .int (nI (rb f t0 (p9 + 1 + 5 * k)))), (0, .ref (ad 15)), (1, .int (nI lv)), (2, .int (nI key)), (3, .int (nI (rb f t0 p9))), (4, .int (nI k))]) hx hb d_V_readChunk_57 hl (by decide) rfl (fun ls hl => ?_)
            refine lv_iload hx hb d_V_readChunk_59 (lv_at hl 1 rfl) ?_
            refine lv_aload_n hx hb d_V_readChunk_61 rfl (lv_at hl 2 rfl) ?_
            refine gf_V_34 (v := .int ((mup (mup u 11 0 (nI (p9 + 1 + 5 * k + 1))) 11 0 (nI (p9 + 1 + 5 * k + 1 + 4))) 15 0)) hx hb hT hown hK hP 15 rfl rfl d_V_readChunk_62 ?_
            refine st_top (show (mup (mup u 11 0 (nI (p9 + 1 + 5 * k + 1))) 11 0 (nI (p9 + 1 + 5 * k + 1 + 4))) 15 0 = u 15 0 from (rd_ne (by decide) (rd_ne (by decide) rfl))) ?_
            refine lv_icmp_le hx hb d_V_readChunk_65 (tgt := 75) (by decide) (fun hc65 => ?_) (fun hc65 => ?_)
            · skip
              have hbad : ¬ ((k = 0 ∨ rb f t0 (p9 + 1 + 5 * (k - 1)) < rb f t0 (p9 + 1 + 5 * k)) ∧ rb f t0 (p9 + 1 + 5 * k) < 48) := fun q => (lk_cmp hby hrc.2.1).mp hc65 q.1
              refine lv_iconst (v := nI 0) hx hb d_V_readChunk_75 (by decide) ?_
              exact k_zret (v := nI 0) hQ hx hb hr hlk hK hP hD hS (mup (mup u 11 0 (nI (p9 + 1 + 5 * k + 1))) 11 0 (nI (p9 + 1 + 5 * k + 1 + 4))) rfl (by decide) (⟨(frx_2 (frx_2 hfr (by decide)) (by decide)), Or.inr ⟨fun q => hbad (q.2 k (by omega)), rfl⟩⟩) d_V_readChunk_76
            · skip
              have hgd : k = 0 ∨ rb f t0 (p9 + 1 + 5 * (k - 1)) < rb f t0 (p9 + 1 + 5 * k) := Classical.byContradiction (fun q => hc65 ((lk_cmp hby hrc.2.1).mpr q))
              refine lv_iload hx hb d_V_readChunk_68 (lv_at hl 1 rfl) ?_
              refine lv_bipush (v := nI 48) hx hb d_V_readChunk_70 (by decide) ?_
              refine st_icmp_lt hx hb (by omega) (by omega) d_V_readChunk_72 (tgt := 77) (by decide) (fun hc72 => ?_) (fun hc72 => ?_)
              · skip
                refine lv_aload_n hx hb d_V_readChunk_77 rfl (lv_at hl 2 rfl) ?_
                refine lv_aload_n hx hb d_V_readChunk_78 rfl (lv_at hl 2 rfl) ?_
                refine gf_V_31 (v := .int ((mup (mup u 11 0 (nI (p9 + 1 + 5 * k + 1))) 11 0 (nI (p9 + 1 + 5 * k + 1 + 4))) 14 0)) hx hb hT hown hK hP 15 rfl rfl d_V_readChunk_79 ?_
                refine st_top (show (mup (mup u 11 0 (nI (p9 + 1 + 5 * k + 1))) 11 0 (nI (p9 + 1 + 5 * k + 1 + 4))) 14 0 = u 14 0 from (rd_ne (by decide) (rd_ne (by decide) rfl))) ?_
                refine lv_iload hx hb d_V_readChunk_82 (lv_at hl 1 rfl) ?_
                refine k_calli (va_runSN (As := [.int (u 14 0), .int (nI (rb f t0 (p9 + 1 + 5 * k)))]) (rest := [.ref (ad 15)]) ⟨hx, hb, hml, hown, hts⟩ (c_K_mix l D tk H.size (u 14 0) (nI (rb f t0 (p9 + 1 + 5 * k))) (wC tk ad (mup (mup u 11 0 (nI (p9 + 1 + 5 * k + 1))) 11 0 (nI (p9 + 1 + 5 * k + 1 + 4))) rr ++ tl)) ⟨(va_cnB 2 hts (gB t_424) rfl rfl rfl (hnw.1 _ _ _ _ n_893) (hT _ t_1) (by decide +kernel) ⟨Nat.le_of_ble_eq_true rfl, Nat.le_of_ble_eq_true rfl⟩), hT _ t_423, trivial⟩ (k_preS hP hK hD hnw) rfl rfl hl.1 rfl (lv_room (Nat.le_of_ble_eq_true rfl)) d_V_readChunk_84 hc0) hD hS hA (fun _ _ H locs hp84 hP hD hK hS => ?_)
                subst hp84
                replace hP : va_P D CC (wC tk ad (mup (mup u 11 0 (nI (p9 + 1 + 5 * k + 1))) 11 0 (nI (p9 + 1 + 5 * k + 1 + 4))) rr ++ tl) H := hP
                replace hD : va_D A (wC tk ad (mup (mup u 11 0 (nI (p9 + 1 + 5 * k + 1))) 11 0 (nI (p9 + 1 + 5 * k + 1 + 4))) rr ++ tl) := hD
                refine lv_iload hx hb d_V_readChunk_87 (lv_at hl 0 rfl) ?_
                refine k_calli (va_runSN (As := [.int (mx (u 14 0) (nI (rb f t0 (p9 + 1 + 5 * k)))), .int (ri f t0 (p9 + 1 + 5 * k + 1))]) (rest := [.ref (ad 15)]) ⟨hx, hb, hml, hown, hts⟩ (c_K_mix l D tk H.size (mx (u 14 0) (nI (rb f t0 (p9 + 1 + 5 * k)))) (ri f t0 (p9 + 1 + 5 * k + 1)) (wC tk ad (mup (mup u 11 0 (nI (p9 + 1 + 5 * k + 1))) 11 0 (nI (p9 + 1 + 5 * k + 1 + 4))) rr ++ tl)) ⟨(va_cnB 2 hts (gB t_424) rfl rfl rfl (hnw.1 _ _ _ _ n_893) (hT _ t_1) (by decide +kernel) ⟨Nat.le_of_ble_eq_true rfl, Nat.le_of_ble_eq_true rfl⟩), hT _ t_423, trivial⟩ (k_preS hP hK hD hnw) rfl rfl hl.1 rfl (lv_room (Nat.le_of_ble_eq_true rfl)) d_V_readChunk_89 hc0) hD hS hA (fun _ _ H locs hp89 hP hD hK hS => ?_)
                subst hp89
                replace hP : va_P D CC (wC tk ad (mup (mup u 11 0 (nI (p9 + 1 + 5 * k + 1))) 11 0 (nI (p9 + 1 + 5 * k + 1 + 4))) rr ++ tl) H := hP
                replace hD : va_D A (wC tk ad (mup (mup u 11 0 (nI (p9 + 1 + 5 * k + 1))) 11 0 (nI (p9 + 1 + 5 * k + 1 + 4))) rr ++ tl) := hD
                refine pf_V_31 hx hb hT hown hK hP hD hS 15 rfl (Nat.le_of_ble_eq_true rfl) d_V_readChunk_92 (fun H locs hP hD hS => ?_)
                replace hP : va_P D CC (wC tk ad (mup (mup (mup u 11 0 (nI (p9 + 1 + 5 * k + 1))) 11 0 (nI (p9 + 1 + 5 * k + 1 + 4))) 14 0 (mx (mx (u 14 0) (nI (rb f t0 (p9 + 1 + 5 * k)))) (ri f t0 (p9 + 1 + 5 * k + 1)))) rr ++ tl) H := Eq.mp (congrArg (fun w => va_P D CC w H) (sC_15_5 tk ad (mup (mup u 11 0 (nI (p9 + 1 + 5 * k + 1))) 11 0 (nI (p9 + 1 + 5 * k + 1 + 4))) rr tl (mx (mx (u 14 0) (nI (rb f t0 (p9 + 1 + 5 * k)))) (ri f t0 (p9 + 1 + 5 * k + 1))))) hP
                replace hD : va_D A (wC tk ad (mup (mup (mup u 11 0 (nI (p9 + 1 + 5 * k + 1))) 11 0 (nI (p9 + 1 + 5 * k + 1 + 4))) 14 0 (mx (mx (u 14 0) (nI (rb f t0 (p9 + 1 + 5 * k)))) (ri f t0 (p9 + 1 + 5 * k + 1)))) rr ++ tl) := Eq.mp (congrArg (fun w => va_D A w) (sC_15_5 tk ad (mup (mup u 11 0 (nI (p9 + 1 + 5 * k + 1))) 11 0 (nI (p9 + 1 + 5 * k + 1 + 4))) rr tl (mx (mx (u 14 0) (nI (rb f t0 (p9 + 1 + 5 * k)))) (ri f t0 (p9 + 1 + 5 * k + 1))))) hD
                refine lv_aload_n hx hb d_V_readChunk_95 rfl (lv_at hl 2 rfl) ?_
                refine lv_iload hx hb d_V_readChunk_96 (lv_at hl 1 rfl) ?_
                refine pf_V_34 hx hb hT hown hK hP hD hS 15 rfl (Nat.le_of_ble_eq_true rfl) d_V_readChunk_98 (fun H locs hP hD hS => ?_)
                replace hP : va_P D CC (wC tk ad (mup (mup (mup (mup u 11 0 (nI (p9 + 1 + 5 * k + 1))) 11 0 (nI (p9 + 1 + 5 * k + 1 + 4))) 14 0 (mx (mx (u 14 0) (nI (rb f t0 (p9 + 1 + 5 * k)))) (ri f t0 (p9 + 1 + 5 * k + 1)))) 15 0 (nI (rb f t0 (p9 + 1 + 5 * k)))) rr ++ tl) H := Eq.mp (congrArg (fun w => va_P D CC w H) (sC_15_6 tk ad (mup (mup (mup u 11 0 (nI (p9 + 1 + 5 * k + 1))) 11 0 (nI (p9 + 1 + 5 * k + 1 + 4))) 14 0 (mx (mx (u 14 0) (nI (rb f t0 (p9 + 1 + 5 * k)))) (ri f t0 (p9 + 1 + 5 * k + 1)))) rr tl (nI (rb f t0 (p9 + 1 + 5 * k))))) hP
                replace hD : va_D A (wC tk ad (mup (mup (mup (mup u 11 0 (nI (p9 + 1 + 5 * k + 1))) 11 0 (nI (p9 + 1 + 5 * k + 1 + 4))) 14 0 (mx (mx (u 14 0) (nI (rb f t0 (p9 + 1 + 5 * k)))) (ri f t0 (p9 + 1 + 5 * k + 1)))) 15 0 (nI (rb f t0 (p9 + 1 + 5 * k)))) rr ++ tl) := Eq.mp (congrArg (fun w => va_D A w) (sC_15_6 tk ad (mup (mup (mup u 11 0 (nI (p9 + 1 + 5 * k + 1))) 11 0 (nI (p9 + 1 + 5 * k + 1 + 4))) 14 0 (mx (mx (u 14 0) (nI (rb f t0 (p9 + 1 + 5 * k)))) (ri f t0 (p9 + 1 + 5 * k + 1)))) rr tl (nI (rb f t0 (p9 + 1 + 5 * k))))) hD
                refine lv_aload_n hx hb d_V_readChunk_101 rfl (lv_at hl 2 rfl) ?_
                refine gf_V_37 (v := .int ((mup (mup (mup (mup u 11 0 (nI (p9 + 1 + 5 * k + 1))) 11 0 (nI (p9 + 1 + 5 * k + 1 + 4))) 14 0 (mx (mx (u 14 0) (nI (rb f t0 (p9 + 1 + 5 * k)))) (ri f t0 (p9 + 1 + 5 * k + 1)))) 15 0 (nI (rb f t0 (p9 + 1 + 5 * k)))) 16 0)) hx hb hT hown hK hP 15 rfl rfl d_V_readChunk_102 ?_
                refine st_top (show (mup (mup (mup (mup u 11 0 (nI (p9 + 1 + 5 * k + 1))) 11 0 (nI (p9 + 1 + 5 * k + 1 + 4))) 14 0 (mx (mx (u 14 0) (nI (rb f t0 (p9 + 1 + 5 * k)))) (ri f t0 (p9 + 1 + 5 * k + 1)))) 15 0 (nI (rb f t0 (p9 + 1 + 5 * k)))) 16 0 = u 16 0 from (rd_ne (by decide) (rd_ne (by decide) (rd_ne (by decide) (rd_ne (by decide) rfl))))) ?_
                refine lv_iload_n hx hb d_V_readChunk_105 rfl (lv_at hl 4 rfl) ?_
                refine lv_icmp_ge hx hb d_V_readChunk_106 (tgt := 121) (by decide) (fun hc106 => ?_) (fun hc106 => ?_)
                · skip
                  refine lv_iinc (k := 6) (v := nI (k + 1)) (lv' := [(4, .int (nI (k + 1))), (6, .int (ri f t0 (p9 + 1 + 5 * k + 1))), (5, .int (nI (rb f t0 (p9 + 1 + 5 * k)))), (0, .ref (ad 15)), (1, .int (nI lv)), (2, .int (nI key)), (3, .int (nI (rb f t0 p9)))]) hx hb d_V_readChunk_121 hl rfl (nI_add _ _) (by decide) rfl (fun ls hl => ?_)
                  refine lv_goto hx hb d_V_readChunk_124 (tgt := 41) (by decide) ?_
                  exact ih41 (k + 1) (mup (mup (mup (mup u 11 0 (nI (p9 + 1 + 5 * k + 1))) 11 0 (nI (p9 + 1 + 5 * k + 1 + 4))) 14 0 (mx (mx (u 14 0) (nI (rb f t0 (p9 + 1 + 5 * k)))) (ri f t0 (p9 + 1 + 5 * k + 1)))) 15 0 (nI (rb f t0 (p9 + 1 + 5 * k)))) ls _ _ (by omega) (by omega) (frx_2 (frx_2 (frx_2 (frx_2 hfr (by decide)) (by decide)) (by decide)) (by decide)) ((show p9 + 1 + 5 * k + 1 + 4 = p9 + 1 + 5 * (k + 1) by omega) ▸ (vS_o (by decide) (vS_o (by decide) (vS_p (p9 + 1 + 5 * k + 1 + 4) (vS_p (p9 + 1 + 5 * k + 1) hvu))))) (ok_step hok hgd (by omega)) (rc_step hby hrc hkey (rd_ne (by decide) rd_eq) rd_eq (Or.inr ⟨hc106, (rd_ne (by decide) (rd_ne (by decide) (rd_ne (by decide) (rd_ne (by decide) rfl)))), (rd_ne (by decide) (rd_ne (by decide) (rd_ne (by decide) (rd_ne (by decide) rfl))))⟩)) (lv_sub hl [3, 4, 5, 6, 0] rfl) hP hD hS
                · skip
                  replace hc106 : u 16 0 < nI key := Int32.not_le.mp hc106
                  refine lv_aload_n hx hb d_V_readChunk_109 rfl (lv_at hl 2 rfl) ?_
                  refine lv_iload hx hb d_V_readChunk_110 (lv_at hl 1 rfl) ?_
                  refine pf_V_37 hx hb hT hown hK hP hD hS 15 rfl (Nat.le_of_ble_eq_true rfl) d_V_readChunk_112 (fun H locs hP hD hS => ?_)
                  replace hP : va_P D CC (wC tk ad (mup (mup (mup (mup (mup u 11 0 (nI (p9 + 1 + 5 * k + 1))) 11 0 (nI (p9 + 1 + 5 * k + 1 + 4))) 14 0 (mx (mx (u 14 0) (nI (rb f t0 (p9 + 1 + 5 * k)))) (ri f t0 (p9 + 1 + 5 * k + 1)))) 15 0 (nI (rb f t0 (p9 + 1 + 5 * k)))) 16 0 (nI (rb f t0 (p9 + 1 + 5 * k)))) rr ++ tl) H := Eq.mp (congrArg (fun w => va_P D CC w H) (sC_15_7 tk ad (mup (mup (mup (mup u 11 0 (nI (p9 + 1 + 5 * k + 1))) 11 0 (nI (p9 + 1 + 5 * k + 1 + 4))) 14 0 (mx (mx (u 14 0) (nI (rb f t0 (p9 + 1 + 5 * k)))) (ri f t0 (p9 + 1 + 5 * k + 1)))) 15 0 (nI (rb f t0 (p9 + 1 + 5 * k)))) rr tl (nI (rb f t0 (p9 + 1 + 5 * k))))) hP
                  replace hD : va_D A (wC tk ad (mup (mup (mup (mup (mup u 11 0 (nI (p9 + 1 + 5 * k + 1))) 11 0 (nI (p9 + 1 + 5 * k + 1 + 4))) 14 0 (mx (mx (u 14 0) (nI (rb f t0 (p9 + 1 + 5 * k)))) (ri f t0 (p9 + 1 + 5 * k + 1)))) 15 0 (nI (rb f t0 (p9 + 1 + 5 * k)))) 16 0 (nI (rb f t0 (p9 + 1 + 5 * k)))) rr ++ tl) := Eq.mp (congrArg (fun w => va_D A w) (sC_15_7 tk ad (mup (mup (mup (mup u 11 0 (nI (p9 + 1 + 5 * k + 1))) 11 0 (nI (p9 + 1 + 5 * k + 1 + 4))) 14 0 (mx (mx (u 14 0) (nI (rb f t0 (p9 + 1 + 5 * k)))) (ri f t0 (p9 + 1 + 5 * k + 1)))) 15 0 (nI (rb f t0 (p9 + 1 + 5 * k)))) rr tl (nI (rb f t0 (p9 + 1 + 5 * k))))) hD
                  refine lv_aload_n hx hb d_V_readChunk_115 rfl (lv_at hl 2 rfl) ?_
                  refine lv_iload hx hb d_V_readChunk_116 (lv_at hl 0 rfl) ?_
                  refine pf_V_40 hx hb hT hown hK hP hD hS 15 rfl (Nat.le_of_ble_eq_true rfl) d_V_readChunk_118 (fun H locs hP hD hS => ?_)
                  replace hP : va_P D CC (wC tk ad (mup (mup (mup (mup (mup (mup u 11 0 (nI (p9 + 1 + 5 * k + 1))) 11 0 (nI (p9 + 1 + 5 * k + 1 + 4))) 14 0 (mx (mx (u 14 0) (nI (rb f t0 (p9 + 1 + 5 * k)))) (ri f t0 (p9 + 1 + 5 * k + 1)))) 15 0 (nI (rb f t0 (p9 + 1 + 5 * k)))) 16 0 (nI (rb f t0 (p9 + 1 + 5 * k)))) 17 0 (ri f t0 (p9 + 1 + 5 * k + 1))) rr ++ tl) H := Eq.mp (congrArg (fun w => va_P D CC w H) (sC_15_8 tk ad (mup (mup (mup (mup (mup u 11 0 (nI (p9 + 1 + 5 * k + 1))) 11 0 (nI (p9 + 1 + 5 * k + 1 + 4))) 14 0 (mx (mx (u 14 0) (nI (rb f t0 (p9 + 1 + 5 * k)))) (ri f t0 (p9 + 1 + 5 * k + 1)))) 15 0 (nI (rb f t0 (p9 + 1 + 5 * k)))) 16 0 (nI (rb f t0 (p9 + 1 + 5 * k)))) rr tl (ri f t0 (p9 + 1 + 5 * k + 1)))) hP
                  replace hD : va_D A (wC tk ad (mup (mup (mup (mup (mup (mup u 11 0 (nI (p9 + 1 + 5 * k + 1))) 11 0 (nI (p9 + 1 + 5 * k + 1 + 4))) 14 0 (mx (mx (u 14 0) (nI (rb f t0 (p9 + 1 + 5 * k)))) (ri f t0 (p9 + 1 + 5 * k + 1)))) 15 0 (nI (rb f t0 (p9 + 1 + 5 * k)))) 16 0 (nI (rb f t0 (p9 + 1 + 5 * k)))) 17 0 (ri f t0 (p9 + 1 + 5 * k + 1))) rr ++ tl) := Eq.mp (congrArg (fun w => va_D A w) (sC_15_8 tk ad (mup (mup (mup (mup (mup u 11 0 (nI (p9 + 1 + 5 * k + 1))) 11 0 (nI (p9 + 1 + 5 * k + 1 + 4))) 14 0 (mx (mx (u 14 0) (nI (rb f t0 (p9 + 1 + 5 * k)))) (ri f t0 (p9 + 1 + 5 * k + 1)))) 15 0 (nI (rb f t0 (p9 + 1 + 5 * k)))) 16 0 (nI (rb f t0 (p9 + 1 + 5 * k)))) rr tl (ri f t0 (p9 + 1 + 5 * k + 1)))) hD
                  refine lv_iinc (k := 6) (v := nI (k + 1)) (lv' := [(4, .int (nI (k + 1))), (6, .int (ri f t0 (p9 + 1 + 5 * k + 1))), (5, .int (nI (rb f t0 (p9 + 1 + 5 * k)))), (0, .ref (ad 15)), (1, .int (nI lv)), (2, .int (nI key)), (3, .int (nI (rb f t0 p9)))]) hx hb d_V_readChunk_121 hl rfl (nI_add _ _) (by decide) rfl (fun ls hl => ?_)
                  refine lv_goto hx hb d_V_readChunk_124 (tgt := 41) (by decide) ?_
                  exact ih41 (k + 1) (mup (mup (mup (mup (mup (mup u 11 0 (nI (p9 + 1 + 5 * k + 1))) 11 0 (nI (p9 + 1 + 5 * k + 1 + 4))) 14 0 (mx (mx (u 14 0) (nI (rb f t0 (p9 + 1 + 5 * k)))) (ri f t0 (p9 + 1 + 5 * k + 1)))) 15 0 (nI (rb f t0 (p9 + 1 + 5 * k)))) 16 0 (nI (rb f t0 (p9 + 1 + 5 * k)))) 17 0 (ri f t0 (p9 + 1 + 5 * k + 1))) ls _ _ (by omega) (by omega) (frx_2 (frx_2 (frx_2 (frx_2 (frx_2 (frx_2 hfr (by decide)) (by decide)) (by decide)) (by decide)) (by decide)) (by decide)) ((show p9 + 1 + 5 * k + 1 + 4 = p9 + 1 + 5 * (k + 1) by omega) ▸ (vS_o (by decide) (vS_o (by decide) (vS_o (by decide) (vS_o (by decide) (vS_p (p9 + 1 + 5 * k + 1 + 4) (vS_p (p9 + 1 + 5 * k + 1) hvu))))))) (ok_step hok hgd (by omega)) (rc_step hby hrc hkey (rd_ne (by decide) (rd_ne (by decide) (rd_ne (by decide) rd_eq))) (rd_ne (by decide) (rd_ne (by decide) rd_eq)) (Or.inl ⟨hc106, (rd_ne (by decide) rd_eq), rd_eq⟩)) (lv_sub hl [3, 4, 5, 6, 0] rfl) hP hD hS
              · skip
                have hbad : ¬ ((k = 0 ∨ rb f t0 (p9 + 1 + 5 * (k - 1)) < rb f t0 (p9 + 1 + 5 * k)) ∧ rb f t0 (p9 + 1 + 5 * k) < 48) := fun q => absurd q.2 (by omega)
                refine lv_iconst (v := nI 0) hx hb d_V_readChunk_75 (by decide) ?_
                exact k_zret (v := nI 0) hQ hx hb hr hlk hK hP hD hS (mup (mup u 11 0 (nI (p9 + 1 + 5 * k + 1))) 11 0 (nI (p9 + 1 + 5 * k + 1 + 4))) rfl (by decide) (⟨(frx_2 (frx_2 hfr (by decide)) (by decide)), Or.inr ⟨fun q => hbad (q.2 k (by omega)), rfl⟩⟩) d_V_readChunk_76
      exact key41 _ 0 (mup (mup (mup (mup g 11 0 (nI (p9 + 1))) 14 0 (mx (nI 6) (nI lv))) 15 0 (-1)) 16 0 (-1)) ls _ _ (Nat.lt_succ_self _) (Nat.zero_le _) (frx_2 (frx_2 (frx_2 (frx_2 frx_r (by decide)) (by decide)) (by decide)) (by decide)) (vS_o (by decide) (vS_o (by decide) (vS_o (by decide) (vS_p (p9 + 1) hv)))) (fun i hi => absurd hi (Nat.not_lt_zero _)) (⟨rd_ne (by decide) (rd_ne (by decide) rd_eq), rd_ne (by decide) rd_eq, fun _ => rd_eq, fun q => absurd rfl q⟩) (lv_sub hl [2, 3, 4, 1, 0] rfl) hP hD hS
    · skip
      refine lv_iconst (v := nI 0) hx hb d_V_readChunk_16 (by decide) ?_
      exact k_zret (v := nI 0) hQ hx hb hr hlk hK hP hD hS (mup g 11 0 (nI (p9 + 1))) rfl (by decide) (⟨(frx_2 frx_r (by decide)), Or.inr ⟨fun q => absurd q.1 (by omega), rfl⟩⟩) d_V_readChunk_17
