def tr9 (f : Nat → Int32) (t0 : Nat) : Nat := 1 + 4 * rb f t0 0
def J1 (f : Nat → Int32) (t0 : Nat) : Nat → Int32 := fun k => ri f t0 (1 + 4 * k)
def cl9 (f : Nat → Int32) (t0 n v : Nat) : Int32 × Nat := clC (J1 f t0) (lf v (rtC f t0 (tr9 f t0))) 4 v n
/-- what the class's verifier takes -/
def vfC (f : Nat → Int32) (t0 : Nat) (dg : Int32) (n v key : Nat) : Prop := okT f t0 (tr9 f t0) key ∧ trEC f t0 (rb f t0 (tr9 f t0)) (tr9 f t0 + 1) = t0 ∧ 1 + 4 * (cl9 f t0 n v).2 = tr9 f t0 ∧ (cl9 f t0 n v).1 = dg
def vgC (f : Nat → Int32) (t0 : Nat) (one other : Int32) (m n : Nat) : Prop := (1 + 4 * (rpC (J1 f t0) one 4 0 n m).2.2 = tr9 f t0 ∧ tr9 f t0 = t0) ∧ (rpC (J1 f t0) one 4 0 n m).1 = one ∧ (rpC (J1 f t0) one 4 0 n m).2.1 = other
theorem trEC_le {f : Nat → Int32} {t0 : Nat} (hby : byF f t0) : ∀ c p, trEC f t0 c p ≤ p + 1300 * c := by
  intro c
  induction c with
  | zero => intro p; exact Nat.le_refl _
  | succ c ih =>
    intro p
    have h1 := ih (enC f t0 p)
    have h2 := rb_lt hby p
    rw [trEC]
    unfold enC at *
    omega

set_option maxHeartbeats 4000000 in
set_option maxRecDepth 100000 in
theorem c_V_takesProof (l : Launch) (D : va_G) (tk : Nat → ClassId) (sz : Nat) (ad : Nat → Nat) (g : Nat → Nat → Int32) (rr : Nat → Nat → Option Nat) (tl : va_W) (f : Nat → Int32) (t0 : Nat) (ht0 : t0 ≤ 400) (hby : byF f t0) (p9 : Nat) (hv : vS g f t0 p9) (dg : Int32) (n9 v9 key : Nat) (hn9 : n9 ≤ 16) (hv9 : v9 < n9) (hkey : key < 48) : Met l y_V_takesProof w_V_takesProof ({ frames := 7, cells := 0, slots := 0, locals := 164 }) (va_Pc [.ref (ad 15), .int dg, .int (nI n9), .int (nI v9), .int (nI key)] (k_pre D (TY tk) sz (wC tk ad g rr ++ tl))) (va_Qi (fun (r : Int32) (u : Nat → Nat → Int32) => frx [11, 12, 13, 14, 15, 16, 17] g u ∧ ((r = nI 1 ∧ vfC f t0 dg n9 v9 key ∧ u 12 0 = nI (rb f t0 (tr9 f t0)) ∧ ∀ o, trO f t0 key (rb f t0 (tr9 f t0)) (tr9 f t0 + 1) none = some o → u 16 0 = nI o.1 ∧ u 17 0 = o.2) ∨ (¬ vfC f t0 dg n9 v9 key ∧ r = nI 0))) (fun u t => k_at D (TY tk) (va_A (wC tk ad g rr ++ tl) sz) ((fun u => wC tk ad u rr ++ tl) u) t) (va_A (wC tk ad g rr ++ tl) sz)) 0 0 (va_A (wC tk ad g rr ++ tl) sz) := by
  refine k_ofW (fun A => va_Qi (fun (r : Int32) (u : Nat → Nat → Int32) => frx [11, 12, 13, 14, 15, 16, 17] g u ∧ ((r = nI 1 ∧ vfC f t0 dg n9 v9 key ∧ u 12 0 = nI (rb f t0 (tr9 f t0)) ∧ ∀ o, trO f t0 key (rb f t0 (tr9 f t0)) (tr9 f t0 + 1) none = some o → u 16 0 = nI o.1 ∧ u 17 0 = o.2) ∨ (¬ vfC f t0 dg n9 v9 key ∧ r = nI 0))) (fun u t => k_at D (TY tk) A ((fun u => wC tk ad u rr ++ tl) u) t) A) (by decide) (Nat.le_of_ble_eq_true rfl) ?_
  intro p e s m args below meth c Q A ls hQ hx hb hr hlk hin hts hT hown hml hnw hP hK hD hA hsz hl
  have hS : va_S A s.heap s.heap [] := va_S.rf
  have hc0 : 0 + 0 ≤ 0 ∧ 0 + 0 ≤ 0 := ⟨by decide, by decide⟩
  replace hl : lv_has ls 7 [(0, .ref (ad 15)), (1, .int dg), (2, .int (nI n9)), (3, .int (nI v9)), (4, .int (nI key))] := hl
  replace hP : va_P D CC (wC tk ad g rr ++ tl) s.heap := hP
  replace hK : va_K D CC (TY tk) s := hK
  refine lv_aload_n hx hb d_V_takesProof_0 rfl (lv_at hl 0 rfl) ?_
  refine lv_iconst (v := nI 0) hx hb d_V_takesProof_1 (by decide) ?_
  refine pf_V_22 hx hb hT hown hK hP hD hS 15 rfl (Nat.le_of_ble_eq_true rfl) d_V_takesProof_2 (fun H locs hP hD hS => ?_)
  replace hP : va_P D CC (wC tk ad (mup g 11 0 (nI 0)) rr ++ tl) H := Eq.mp (congrArg (fun w => va_P D CC w H) (sC_15_2 tk ad g rr tl (nI 0))) hP
  replace hD : va_D A (wC tk ad (mup g 11 0 (nI 0)) rr ++ tl) := Eq.mp (congrArg (fun w => va_D A w) (sC_15_2 tk ad g rr tl (nI 0))) hD
  refine lv_iconst (v := nI 1) hx hb d_V_takesProof_5 (by decide) ?_
  refine lv_iconst (v := nI 4) hx hb d_V_takesProof_6 (by decide) ?_
  refine lv_aload_n hx hb d_V_takesProof_7 rfl (lv_at hl 0 rfl) ?_
  refine k_calli (va_runV (As := []) (rest := [.int (nI 4), .int (nI 1)]) ⟨hx, hb, hml, hown, hts⟩ (c_V_nextByte l D tk H.size ad (mup g 11 0 (nI 0)) rr tl f t0 ht0 hby 0 (by omega) (vS_p 0 hv)) (cwV 0 hts (gV t_880 t_882 s_9 t_8 t_883) rfl rfl rfl (by decide +kernel) ⟨Nat.le_of_ble_eq_true rfl, Nat.le_of_ble_eq_true rfl⟩) (k_preV hP hK hD hnw 15 rfl rfl) rfl rfl hl.1 rfl (lv_room (Nat.le_of_ble_eq_true rfl)) d_V_takesProof_8 hc0) hD hS hA (fun _ _ H locs hp8 hP hD hK hS => ?_)
  subst hp8
  have hrb1 := rb_lt hby 0
  replace hP : va_P D CC (wC tk ad (mup (mup g 11 0 (nI 0)) 11 0 (nI 1)) rr ++ tl) H := hP
  replace hD : va_D A (wC tk ad (mup (mup g 11 0 (nI 0)) 11 0 (nI 1)) rr ++ tl) := hD
  refine st_imul hx hb d_V_takesProof_11 ?_
  refine st_iadd hx hb d_V_takesProof_12 ?_
  refine lv_istore (lv' := [(5, .int (nI (1 + (4 * (rb f t0 0))))), (0, .ref (ad 15)), (1, .int dg), (2, .int (nI n9)), (3, .int (nI v9)), (4, .int (nI key))]) hx hb d_V_takesProof_13 hl (by decide) rfl (fun ls hl => ?_)
  refine lv_aload_n hx hb d_V_takesProof_15 rfl (lv_at hl 1 rfl) ?_
  refine lv_iload hx hb d_V_takesProof_16 (lv_at hl 0 rfl) ?_
  refine pf_V_22 hx hb hT hown hK hP hD hS 15 rfl (Nat.le_of_ble_eq_true rfl) d_V_takesProof_18 (fun H locs hP hD hS => ?_)
  replace hP : va_P D CC (wC tk ad (mup (mup (mup g 11 0 (nI 0)) 11 0 (nI 1)) 11 0 (nI (1 + (4 * (rb f t0 0))))) rr ++ tl) H := Eq.mp (congrArg (fun w => va_P D CC w H) (sC_15_2 tk ad (mup (mup g 11 0 (nI 0)) 11 0 (nI 1)) rr tl (nI (1 + (4 * (rb f t0 0)))))) hP
  replace hD : va_D A (wC tk ad (mup (mup (mup g 11 0 (nI 0)) 11 0 (nI 1)) 11 0 (nI (1 + (4 * (rb f t0 0))))) rr ++ tl) := Eq.mp (congrArg (fun w => va_D A w) (sC_15_2 tk ad (mup (mup g 11 0 (nI 0)) 11 0 (nI 1)) rr tl (nI (1 + (4 * (rb f t0 0)))))) hD
  refine lv_aload_n hx hb d_V_takesProof_21 rfl (lv_at hl 1 rfl) ?_
  refine lv_iload hx hb d_V_takesProof_22 (lv_at hl 5 rfl) ?_
  refine k_calli (va_runV (As := [.int (nI key)]) (rest := []) ⟨hx, hb, hml, hown, hts⟩ (c_V_readTree l D tk H.size ad (mup (mup (mup g 11 0 (nI 0)) 11 0 (nI 1)) 11 0 (nI (1 + (4 * (rb f t0 0))))) rr tl f t0 ht0 hby (tr9 f t0) key (by unfold tr9; omega) hkey (vS_p (1 + (4 * (rb f t0 0))) (vS_p 1 (vS_p 0 hv)))) (cwV 1 hts (gV t_885 t_887 s_10 t_8 t_888) rfl rfl rfl (by decide +kernel) ⟨Nat.le_of_ble_eq_true rfl, Nat.le_of_ble_eq_true rfl⟩) (k_preV hP hK hD hnw 15 rfl rfl) rfl rfl hl.1 rfl (lv_room (Nat.le_of_ble_eq_true rfl)) d_V_takesProof_24 hc0) hD hS hA (fun r24 w24 H locs ⟨hfw, how⟩ hP hD hK hS => ?_)
  have h20w : w24 20 0 = nI t0 := by rw [hfw 20 (by decide)]; exact (vS_p (1 + (4 * (rb f t0 0))) (vS_p 1 (vS_p 0 hv))).1
  have hfg : frx [11, 12, 13, 14, 15, 16, 17] g w24 := frx_t (show frx [11, 12, 13, 14, 15, 16, 17] g (mup (mup (mup g 11 0 (nI 0)) 11 0 (nI 1)) 11 0 (nI (1 + (4 * (rb f t0 0))))) from (frx_2 (frx_2 (frx_2 frx_r (by decide)) (by decide)) (by decide))) hfw (fun x h9 => ⟨h9, h9⟩)
  replace hP : va_P D CC (wC tk ad w24 rr ++ tl) H := hP
  replace hD : va_D A (wC tk ad w24 rr ++ tl) := hD
  refine lv_if_eq hx hb d_V_takesProof_27 (tgt := 44) (by decide) (fun hc27 => ?_) (fun hc27 => ?_)
  · skip
    have hno : ¬ vfC f t0 dg n9 v9 key := fun q => how.elim (fun z => by rw [z.1] at hc27; exact absurd hc27 (by decide)) (fun z => z.1 q.1)
    refine lv_iconst (v := nI 0) hx hb d_V_takesProof_44 (by decide) ?_
    exact k_zret (v := nI 0) hQ hx hb hr hlk hK hP hD hS w24 rfl (by decide) (⟨hfg, Or.inr ⟨by first | exact hno | (intro q; first | exact hc79 q.2.2.2 | (have e9 := q.2.2.1; have e8 := q.2.1; unfold cl9 J1 at e9; omega)), rfl⟩⟩) d_V_takesProof_45
  · skip
    obtain ⟨hr1, hokt, hvw, h12w, h13w, hcw⟩ := how.resolve_right (fun q => absurd q.2 hc27)
    have htl := trEC_le hby (rb f t0 (tr9 f t0)) (tr9 f t0 + 1)
    have hrbt := rb_lt hby (tr9 f t0)
    have htr9 : tr9 f t0 = 1 + 4 * rb f t0 0 := rfl
    refine lv_aload_n hx hb d_V_takesProof_30 rfl (lv_at hl 1 rfl) ?_
    refine gf_V_22 (v := .int (w24 11 0)) hx hb hT hown hK hP 15 rfl rfl d_V_takesProof_31 ?_
    refine st_top (show w24 11 0 = nI (trEC f t0 (rb f t0 (tr9 f t0)) (tr9 f t0 + 1)) from hvw.2.2) ?_
    refine lv_aload_n hx hb d_V_takesProof_34 rfl (lv_at hl 1 rfl) ?_
    refine gf_V_12 (v := .ref (ad 16)) hx hb hT hown hK hP 15 rfl rfl d_V_takesProof_35 ?_
    refine gf_V_57 (v := .int (w24 20 0)) hx hb hT hown hK hP 16 rfl rfl d_V_takesProof_38 ?_
    refine st_top (show w24 20 0 = nI t0 from h20w) ?_
    refine st_icmp_eq hx hb (by omega) (by omega) d_V_takesProof_41 (tgt := 46) (by decide) (fun hc41 => ?_) (fun hc41 => ?_)
    · skip
      refine lv_aload_n hx hb d_V_takesProof_46 rfl (lv_at hl 1 rfl) ?_
      refine lv_iconst (v := nI 1) hx hb d_V_takesProof_47 (by decide) ?_
      refine pf_V_22 hx hb hT hown hK hP hD hS 15 rfl (Nat.le_of_ble_eq_true rfl) d_V_takesProof_48 (fun H locs hP hD hS => ?_)
      replace hP : va_P D CC (wC tk ad (mup w24 11 0 (nI 1)) rr ++ tl) H := Eq.mp (congrArg (fun w => va_P D CC w H) (sC_15_2 tk ad w24 rr tl (nI 1))) hP
      replace hD : va_D A (wC tk ad (mup w24 11 0 (nI 1)) rr ++ tl) := Eq.mp (congrArg (fun w => va_D A w) (sC_15_2 tk ad w24 rr tl (nI 1))) hD
      refine lv_aload_n hx hb d_V_takesProof_51 rfl (lv_at hl 1 rfl) ?_
      refine lv_iload_n hx hb d_V_takesProof_52 rfl (lv_at hl 4 rfl) ?_
      refine lv_aload_n hx hb d_V_takesProof_53 rfl (lv_at hl 1 rfl) ?_
      refine gf_V_28 (v := .int ((mup w24 11 0 (nI 1)) 13 0)) hx hb hT hown hK hP 15 rfl rfl d_V_takesProof_54 ?_
      refine st_top (show (mup w24 11 0 (nI 1)) 13 0 = w24 13 0 from (rd_ne (by decide) rfl)) ?_
      refine st_top (show w24 13 0 = rtC f t0 (tr9 f t0) from h13w) ?_
      refine k_calli (va_runSN (As := [.int (nI v9), .int (rtC f t0 (tr9 f t0))]) (rest := [.ref (ad 15)]) ⟨hx, hb, hml, hown, hts⟩ (c_K_leafOf l D tk H.size v9 (rtC f t0 (tr9 f t0)) (wC tk ad (mup w24 11 0 (nI 1)) rr ++ tl)) ⟨(va_cnB 2 hts (gB t_807) rfl rfl rfl (hnw.1 _ _ _ _ n_898) (hT _ t_1) (by decide +kernel) ⟨Nat.le_of_ble_eq_true rfl, Nat.le_of_ble_eq_true rfl⟩), hT _ t_806, trivial⟩ (k_preS hP hK hD hnw) rfl rfl hl.1 rfl (lv_room (Nat.le_of_ble_eq_true rfl)) d_V_takesProof_57 hc0) hD hS hA (fun _ _ H locs hp57 hP hD hK hS => ?_)
      subst hp57
      replace hP : va_P D CC (wC tk ad (mup w24 11 0 (nI 1)) rr ++ tl) H := hP
      replace hD : va_D A (wC tk ad (mup w24 11 0 (nI 1)) rr ++ tl) := hD
      refine lv_iload_n hx hb d_V_takesProof_60 rfl (lv_at hl 4 rfl) ?_
      refine lv_iload_n hx hb d_V_takesProof_61 rfl (lv_at hl 3 rfl) ?_
      refine k_calli (va_runV (As := [.int (lf v9 (rtC f t0 (tr9 f t0))), .int (nI v9), .int (nI n9)]) (rest := []) ⟨hx, hb, hml, hown, hts⟩ (c_V_climb4 l D tk H.size ad (mup w24 11 0 (nI 1)) rr tl f t0 ht0 hby 1 (by omega) (lf v9 (rtC f t0 (tr9 f t0))) v9 n9 (by omega) (by omega) (by omega) (vS_p 1 hvw)) (cwV 3 hts (gV t_899 t_901 s_13 t_8 t_902) rfl rfl rfl (by decide +kernel) ⟨Nat.le_of_ble_eq_true rfl, Nat.le_of_ble_eq_true rfl⟩) (k_preV hP hK hD hnw 15 rfl rfl) rfl rfl hl.1 rfl (lv_room (Nat.le_of_ble_eq_true rfl)) d_V_takesProof_62 hc0) hD hS hA (fun rr2 u2 H locs ⟨he2, hc2⟩ hP hD hK hS => ?_)
      subst rr2
      have hle2 := clC_le (fun k => ri f t0 (1 + 4 * k)) (lf v9 (rtC f t0 (tr9 f t0))) 4 v9 n9
      have hfu1 := hc2.2
      have hfu : frx [11, 12, 13, 14, 15, 16, 17] g u2 := frx_t (show frx [11, 12, 13, 14, 15, 16, 17] g (mup w24 11 0 (nI 1)) from frx_2 hfg (by decide)) (show frx [11, 12, 13, 14, 15, 16, 17] (mup w24 11 0 (nI 1)) u2 from fun x h9 => hc2.2 x (fun h8 => h9 (by revert h8; simp; omega))) (fun x h9 => ⟨h9, h9⟩)
      replace hP : va_P D CC (wC tk ad u2 rr ++ tl) H := hP
      replace hD : va_D A (wC tk ad u2 rr ++ tl) := hD
      refine lv_istore (lv' := [(6, .int ((clC (fun k => ri f t0 (1 + 4 * k)) (lf v9 (rtC f t0 (tr9 f t0))) 4 v9 n9).1)), (5, .int (nI (1 + (4 * (rb f t0 0))))), (0, .ref (ad 15)), (1, .int dg), (2, .int (nI n9)), (3, .int (nI v9)), (4, .int (nI key))]) hx hb d_V_takesProof_65 hl (by decide) rfl (fun ls hl => ?_)
      refine lv_aload_n hx hb d_V_takesProof_67 rfl (lv_at hl 2 rfl) ?_
      refine gf_V_22 (v := .int (u2 11 0)) hx hb hT hown hK hP 15 rfl rfl d_V_takesProof_68 ?_
      refine st_top (show u2 11 0 = nI (1 + 4 * (clC (fun k => ri f t0 (1 + 4 * k)) (lf v9 (rtC f t0 (tr9 f t0))) 4 v9 n9).2) from hc2.1.2.2) ?_
      refine lv_iload hx hb d_V_takesProof_71 (lv_at hl 1 rfl) ?_
      refine st_icmp_ne hx hb (by omega) (by omega) d_V_takesProof_73 (tgt := 86) (by decide) (fun hc73 => ?_) (fun hc73 => ?_)
      · skip
        refine lv_iconst (v := nI 0) hx hb d_V_takesProof_86 (by decide) ?_
        exact k_zret (v := nI 0) hQ hx hb hr hlk hK hP hD hS u2 rfl (by decide) (⟨hfu, Or.inr ⟨by first | exact hno | (intro q; first | exact hc79 q.2.2.2 | (have e9 := q.2.2.1; have e8 := q.2.1; unfold cl9 J1 at e9; omega)), rfl⟩⟩) d_V_takesProof_87
      · skip
        refine lv_iload hx hb d_V_takesProof_76 (lv_at hl 0 rfl) ?_
        refine lv_iload_n hx hb d_V_takesProof_78 rfl (lv_at hl 3 rfl) ?_
        refine lv_icmp_ne hx hb d_V_takesProof_79 (tgt := 86) (by decide) (fun hc79 => ?_) (fun hc79 => ?_)
        · skip
          refine lv_iconst (v := nI 0) hx hb d_V_takesProof_86 (by decide) ?_
          exact k_zret (v := nI 0) hQ hx hb hr hlk hK hP hD hS u2 rfl (by decide) (⟨hfu, Or.inr ⟨by first | exact hno | (intro q; first | exact hc79 q.2.2.2 | (have e9 := q.2.2.1; have e8 := q.2.1; unfold cl9 J1 at e9; omega)), rfl⟩⟩) d_V_takesProof_87
        · skip
          refine lv_iconst (v := nI 1) hx hb d_V_takesProof_82 (by decide) ?_
          refine lv_goto hx hb d_V_takesProof_83 (tgt := 87) (by decide) ?_
          exact k_zret (v := nI 1) hQ hx hb hr hlk hK hP hD hS u2 rfl (by decide) (⟨hfu, Or.inl ⟨rfl, ⟨hokt, (by omega), (by rw [← htr9] at *; exact hc73), hc79⟩, by rw [hfu1 12 (by decide)]; exact (rd_ne (by decide) h12w), fun o ho => by rw [hfu1 16 (by decide), hfu1 17 (by decide)]; exact ⟨rd_ne (by decide) (hcw o ho).1, rd_ne (by decide) (hcw o ho).2⟩⟩⟩) d_V_takesProof_87
    · skip
      refine lv_iconst (v := nI 0) hx hb d_V_takesProof_44 (by decide) ?_
      exact k_zret (v := nI 0) hQ hx hb hr hlk hK hP hD hS w24 rfl (by decide) (⟨hfg, Or.inr ⟨by first | exact hno | (intro q; first | exact hc79 q.2.2.2 | (have e9 := q.2.2.1; have e8 := q.2.1; unfold cl9 J1 at e9; omega)), rfl⟩⟩) d_V_takesProof_45

set_option maxHeartbeats 4000000 in
set_option maxRecDepth 100000 in
theorem c_V_takesGrowth (l : Launch) (D : va_G) (tk : Nat → ClassId) (sz : Nat) (ad : Nat → Nat) (g : Nat → Nat → Int32) (rr : Nat → Nat → Option Nat) (tl : va_W) (f : Nat → Int32) (t0 : Nat) (ht0 : t0 ≤ 400) (hby : byF f t0) (p9 : Nat) (hv : vS g f t0 p9) (one : Int32) (m9 : Nat) (other : Int32) (n9 : Nat) (hm1 : 1 ≤ m9) (hm2 : m9 < n9) (hn9 : n9 ≤ 16) (_dec : Decidable (vgC f t0 one other m9 n9)) : Met l y_V_takesGrowth w_V_takesGrowth ({ frames := 8, cells := 0, slots := 0, locals := 194 }) (va_Pc [.ref (ad 15), .int one, .int (nI m9), .int other, .int (nI n9)] (k_pre D (TY tk) sz (wC tk ad g rr ++ tl))) (va_Qi (fun (r : Int32) (u : Nat → Nat → Int32) => frx [11, 18, 19] g u ∧ r = if vgC f t0 one other m9 n9 then nI 1 else nI 0) (fun u t => k_at D (TY tk) (va_A (wC tk ad g rr ++ tl) sz) ((fun u => wC tk ad u rr ++ tl) u) t) (va_A (wC tk ad g rr ++ tl) sz)) 0 0 (va_A (wC tk ad g rr ++ tl) sz) := by
  refine k_ofW (fun A => va_Qi (fun (r : Int32) (u : Nat → Nat → Int32) => frx [11, 18, 19] g u ∧ r = if vgC f t0 one other m9 n9 then nI 1 else nI 0) (fun u t => k_at D (TY tk) A ((fun u => wC tk ad u rr ++ tl) u) t) A) (by decide) (Nat.le_of_ble_eq_true rfl) ?_
  intro p e s m args below meth c Q A ls hQ hx hb hr hlk hin hts hT hown hml hnw hP hK hD hA hsz hl
  have hS : va_S A s.heap s.heap [] := va_S.rf
  have hc0 : 0 + 0 ≤ 0 ∧ 0 + 0 ≤ 0 := ⟨by decide, by decide⟩
  replace hl : lv_has ls 6 [(0, .ref (ad 15)), (1, .int one), (2, .int (nI m9)), (3, .int other), (4, .int (nI n9))] := hl
  replace hP : va_P D CC (wC tk ad g rr ++ tl) s.heap := hP
  replace hK : va_K D CC (TY tk) s := hK
  refine lv_aload_n hx hb d_V_takesGrowth_0 rfl (lv_at hl 0 rfl) ?_
  refine lv_iconst (v := nI 0) hx hb d_V_takesGrowth_1 (by decide) ?_
  refine pf_V_22 hx hb hT hown hK hP hD hS 15 rfl (Nat.le_of_ble_eq_true rfl) d_V_takesGrowth_2 (fun H locs hP hD hS => ?_)
  replace hP : va_P D CC (wC tk ad (mup g 11 0 (nI 0)) rr ++ tl) H := Eq.mp (congrArg (fun w => va_P D CC w H) (sC_15_2 tk ad g rr tl (nI 0))) hP
  replace hD : va_D A (wC tk ad (mup g 11 0 (nI 0)) rr ++ tl) := Eq.mp (congrArg (fun w => va_D A w) (sC_15_2 tk ad g rr tl (nI 0))) hD
  refine lv_iconst (v := nI 1) hx hb d_V_takesGrowth_5 (by decide) ?_
  refine lv_iconst (v := nI 4) hx hb d_V_takesGrowth_6 (by decide) ?_
  refine lv_aload_n hx hb d_V_takesGrowth_7 rfl (lv_at hl 0 rfl) ?_
  refine k_calli (va_runV (As := []) (rest := [.int (nI 4), .int (nI 1)]) ⟨hx, hb, hml, hown, hts⟩ (c_V_nextByte l D tk H.size ad (mup g 11 0 (nI 0)) rr tl f t0 ht0 hby 0 (by omega) (vS_p 0 hv)) (cwV 0 hts (gV t_880 t_882 s_9 t_8 t_883) rfl rfl rfl (by decide +kernel) ⟨Nat.le_of_ble_eq_true rfl, Nat.le_of_ble_eq_true rfl⟩) (k_preV hP hK hD hnw 15 rfl rfl) rfl rfl hl.1 rfl (lv_room (Nat.le_of_ble_eq_true rfl)) d_V_takesGrowth_8 hc0) hD hS hA (fun _ _ H locs hp8 hP hD hK hS => ?_)
  subst hp8
  have hrb1 := rb_lt hby 0
  replace hP : va_P D CC (wC tk ad (mup (mup g 11 0 (nI 0)) 11 0 (nI 1)) rr ++ tl) H := hP
  replace hD : va_D A (wC tk ad (mup (mup g 11 0 (nI 0)) 11 0 (nI 1)) rr ++ tl) := hD
  refine st_imul hx hb d_V_takesGrowth_11 ?_
  refine st_iadd hx hb d_V_takesGrowth_12 ?_
  refine lv_istore (lv' := [(5, .int (nI (1 + (4 * (rb f t0 0))))), (0, .ref (ad 15)), (1, .int one), (2, .int (nI m9)), (3, .int other), (4, .int (nI n9))]) hx hb d_V_takesGrowth_13 hl (by decide) rfl (fun ls hl => ?_)
  refine lv_aload_n hx hb d_V_takesGrowth_15 rfl (lv_at hl 1 rfl) ?_
  refine lv_iload_n hx hb d_V_takesGrowth_16 rfl (lv_at hl 2 rfl) ?_
  refine lv_iconst (v := nI 0) hx hb d_V_takesGrowth_17 (by decide) ?_
  refine lv_iload hx hb d_V_takesGrowth_18 (lv_at hl 5 rfl) ?_
  refine lv_iload_n hx hb d_V_takesGrowth_20 rfl (lv_at hl 3 rfl) ?_
  refine k_callv (va_runV (As := [.int one, .int (nI 0), .int (nI n9), .int (nI m9)]) (rest := []) ⟨hx, hb, hml, hown, hts⟩ (c_V_readPart4 l D tk H.size ad (mup (mup g 11 0 (nI 0)) 11 0 (nI 1)) rr tl f t0 ht0 hby 1 (by omega) one 0 n9 m9 (by omega) (by omega) (by omega) (vS_p 1 (vS_p 0 hv))) (cwV 4 hts (gV t_921 t_923 s_14 t_8 t_924) rfl rfl rfl (by decide +kernel) ⟨Nat.le_of_ble_eq_true rfl, Nat.le_of_ble_eq_true rfl⟩) (k_preV hP hK hD hnw 15 rfl rfl) rfl rfl hl.1 rfl (lv_room (Nat.le_of_ble_eq_true rfl)) d_V_takesGrowth_21 hc0) hD hS hA (fun u2 H locs hc2 hP hD hK hS => ?_)
  have hle2 := rpC_le (fun k => ri f t0 (1 + 4 * k)) one 4 0 n9 m9
  have hfu : frx [11, 18, 19] g u2 := frx_t (show frx [11, 18, 19] g (mup (mup g 11 0 (nI 0)) 11 0 (nI 1)) from (frx_2 (frx_2 frx_r (by decide)) (by decide))) hc2.2.2.2 (fun x h9 => ⟨h9, h9⟩)
  replace hP : va_P D CC (wC tk ad u2 rr ++ tl) H := hP
  replace hD : va_D A (wC tk ad u2 rr ++ tl) := hD
  refine lv_aload_n hx hb d_V_takesGrowth_24 rfl (lv_at hl 1 rfl) ?_
  refine gf_V_22 (v := .int (u2 11 0)) hx hb hT hown hK hP 15 rfl rfl d_V_takesGrowth_25 ?_
  refine st_top (show u2 11 0 = nI (1 + 4 * (rpC (fun k => ri f t0 (1 + 4 * k)) one 4 0 n9 m9).2.2) from hc2.1.2.2) ?_
  refine lv_iload hx hb d_V_takesGrowth_28 (lv_at hl 0 rfl) ?_
  refine st_icmp_ne hx hb (by omega) (by omega) d_V_takesGrowth_30 (tgt := 65) (by decide) (fun hc30 => ?_) (fun hc30 => ?_)
  · skip
    refine lv_iconst (v := nI 0) hx hb d_V_takesGrowth_65 (by decide) ?_
    exact k_zret (v := nI 0) hQ hx hb hr hlk hK hP hD hS u2 rfl (by decide) (⟨hfu, by rw [if_neg]; rintro ⟨⟨q1, q2⟩, q3, q4⟩; unfold tr9 J1 at q1; unfold tr9 at q2; first | omega | exact hc50 (hc2.2.1.trans q3) | exact hc58 (hc2.2.2.1.trans q4)⟩) d_V_takesGrowth_66
  · skip
    refine lv_iload hx hb d_V_takesGrowth_33 (lv_at hl 0 rfl) ?_
    refine lv_aload_n hx hb d_V_takesGrowth_35 rfl (lv_at hl 1 rfl) ?_
    refine gf_V_12 (v := .ref (ad 16)) hx hb hT hown hK hP 15 rfl rfl d_V_takesGrowth_36 ?_
    refine gf_V_57 (v := .int (u2 20 0)) hx hb hT hown hK hP 16 rfl rfl d_V_takesGrowth_39 ?_
    refine st_top (show u2 20 0 = nI t0 from hc2.1.1) ?_
    refine st_icmp_ne hx hb (by omega) (by omega) d_V_takesGrowth_42 (tgt := 65) (by decide) (fun hc42 => ?_) (fun hc42 => ?_)
    · skip
      refine lv_iconst (v := nI 0) hx hb d_V_takesGrowth_65 (by decide) ?_
      exact k_zret (v := nI 0) hQ hx hb hr hlk hK hP hD hS u2 rfl (by decide) (⟨hfu, by rw [if_neg]; rintro ⟨⟨q1, q2⟩, q3, q4⟩; unfold tr9 J1 at q1; unfold tr9 at q2; first | omega | exact hc50 (hc2.2.1.trans q3) | exact hc58 (hc2.2.2.1.trans q4)⟩) d_V_takesGrowth_66
    · skip
      refine lv_aload_n hx hb d_V_takesGrowth_45 rfl (lv_at hl 1 rfl) ?_
      refine gf_V_43 (v := .int (u2 18 0)) hx hb hT hown hK hP 15 rfl rfl d_V_takesGrowth_46 ?_
      refine lv_iload_n hx hb d_V_takesGrowth_49 rfl (lv_at hl 2 rfl) ?_
      refine lv_icmp_ne hx hb d_V_takesGrowth_50 (tgt := 65) (by decide) (fun hc50 => ?_) (fun hc50 => ?_)
      · skip
        refine lv_iconst (v := nI 0) hx hb d_V_takesGrowth_65 (by decide) ?_
        exact k_zret (v := nI 0) hQ hx hb hr hlk hK hP hD hS u2 rfl (by decide) (⟨hfu, by rw [if_neg]; rintro ⟨⟨q1, q2⟩, q3, q4⟩; unfold tr9 J1 at q1; unfold tr9 at q2; first | omega | exact hc50 (hc2.2.1.trans q3) | exact hc58 (hc2.2.2.1.trans q4)⟩) d_V_takesGrowth_66
      · skip
        refine lv_aload_n hx hb d_V_takesGrowth_53 rfl (lv_at hl 1 rfl) ?_
        refine gf_V_46 (v := .int (u2 19 0)) hx hb hT hown hK hP 15 rfl rfl d_V_takesGrowth_54 ?_
        refine lv_iload_n hx hb d_V_takesGrowth_57 rfl (lv_at hl 4 rfl) ?_
        refine lv_icmp_ne hx hb d_V_takesGrowth_58 (tgt := 65) (by decide) (fun hc58 => ?_) (fun hc58 => ?_)
        · skip
          refine lv_iconst (v := nI 0) hx hb d_V_takesGrowth_65 (by decide) ?_
          exact k_zret (v := nI 0) hQ hx hb hr hlk hK hP hD hS u2 rfl (by decide) (⟨hfu, by rw [if_neg]; rintro ⟨⟨q1, q2⟩, q3, q4⟩; unfold tr9 J1 at q1; unfold tr9 at q2; first | omega | exact hc50 (hc2.2.1.trans q3) | exact hc58 (hc2.2.2.1.trans q4)⟩) d_V_takesGrowth_66
        · skip
          refine lv_iconst (v := nI 1) hx hb d_V_takesGrowth_61 (by decide) ?_
          refine lv_goto hx hb d_V_takesGrowth_62 (tgt := 66) (by decide) ?_
          exact k_zret (v := nI 1) hQ hx hb hr hlk hK hP hD hS u2 rfl (by decide) (⟨hfu, by rw [if_pos]; exact ⟨⟨by unfold tr9 J1; omega, by unfold tr9; omega⟩, hc2.2.1.symm.trans hc50, hc2.2.2.1.symm.trans hc58⟩⟩) d_V_takesGrowth_66

set_option maxHeartbeats 4000000 in
set_option maxRecDepth 100000 in
theorem c_V_noteValue (l : Launch) (D : va_G) (tk : Nat → ClassId) (sz : Nat) (ad : Nat → Nat) (g : Nat → Nat → Int32) (rr : Nat → Nat → Option Nat) (tl : va_W) (key : Nat) : Met l y_V_noteValue w_V_noteValue ({ frames := 0, cells := 0, slots := 0, locals := 0 }) (va_Pc [.ref (ad 15), .int (nI key)] (k_pre D (TY tk) sz (wC tk ad g rr ++ tl))) (va_Qi (fun (r : Int32) (_ : Unit) => r = if g 12 0 = 0 ∨ ¬ g 16 0 = nI key then nI 0 else nI 1) (fun u t => k_at D (TY tk) (va_A (wC tk ad g rr ++ tl) sz) ((fun _ => wC tk ad (if g 12 0 = 0 ∨ ¬ g 16 0 = nI key then g else mup g 10 0 (g 17 0)) rr ++ tl) u) t) (va_A (wC tk ad g rr ++ tl) sz)) 0 0 (va_A (wC tk ad g rr ++ tl) sz) := by
  refine k_ofW (fun A => va_Qi (fun (r : Int32) (_ : Unit) => r = if g 12 0 = 0 ∨ ¬ g 16 0 = nI key then nI 0 else nI 1) (fun u t => k_at D (TY tk) A ((fun _ => wC tk ad (if g 12 0 = 0 ∨ ¬ g 16 0 = nI key then g else mup g 10 0 (g 17 0)) rr ++ tl) u) t) A) (by decide) (Nat.le_of_ble_eq_true rfl) ?_
  intro p e s m args below meth c Q A ls hQ hx hb hr hlk hin hts hT hown hml hnw hP hK hD hA hsz hl
  have hS : va_S A s.heap s.heap [] := va_S.rf
  have hc0 : 0 + 0 ≤ 0 ∧ 0 + 0 ≤ 0 := ⟨by decide, by decide⟩
  replace hl : lv_has ls 2 [(0, .ref (ad 15)), (1, .int (nI key))] := hl
  replace hP : va_P D CC (wC tk ad g rr ++ tl) s.heap := hP
  replace hK : va_K D CC (TY tk) s := hK
  refine lv_aload_n hx hb d_V_noteValue_0 rfl (lv_at hl 0 rfl) ?_
  refine gf_V_25 (v := .int (g 12 0)) hx hb hT hown hK hP 15 rfl rfl d_V_noteValue_1 ?_
  refine lv_if_eq hx hb d_V_noteValue_4 (tgt := 15) (by decide) (fun hc4 => ?_) (fun hc4 => ?_)
  · skip
    have hn9 : g 12 0 = 0 ∨ ¬ g 16 0 = nI key := Or.inl hc4
    refine lv_iconst (v := nI 0) hx hb d_V_noteValue_15 (by decide) ?_
    exact k_zret (v := nI 0) hQ hx hb hr hlk hK hP hD hS () (by (iterate 4 (try (first | rw [if_pos (by assumption)] | rw [if_neg (by assumption)]))); try rfl) (by decide) (by (iterate 4 (try (first | rw [if_pos (by assumption)] | rw [if_neg (by assumption)]))); try rfl) d_V_noteValue_16
  · skip
    refine lv_aload_n hx hb d_V_noteValue_7 rfl (lv_at hl 0 rfl) ?_
    refine gf_V_37 (v := .int (g 16 0)) hx hb hT hown hK hP 15 rfl rfl d_V_noteValue_8 ?_
    refine lv_iload_n hx hb d_V_noteValue_11 rfl (lv_at hl 1 rfl) ?_
    refine lv_icmp_eq hx hb d_V_noteValue_12 (tgt := 17) (by decide) (fun hc12 => ?_) (fun hc12 => ?_)
    · skip
      have hn9 : ¬ (g 12 0 = 0 ∨ ¬ g 16 0 = nI key) := fun q => q.elim hc4 (fun z => z hc12)
      refine lv_aload_n hx hb d_V_noteValue_17 rfl (lv_at hl 0 rfl) ?_
      refine lv_aload_n hx hb d_V_noteValue_18 rfl (lv_at hl 0 rfl) ?_
      refine gf_V_40 (v := .int (g 17 0)) hx hb hT hown hK hP 15 rfl rfl d_V_noteValue_19 ?_
      refine pf_V_18 hx hb hT hown hK hP hD hS 15 rfl (Nat.le_of_ble_eq_true rfl) d_V_noteValue_22 (fun H locs hP hD hS => ?_)
      replace hP : va_P D CC (wC tk ad (mup g 10 0 (g 17 0)) rr ++ tl) H := Eq.mp (congrArg (fun w => va_P D CC w H) (sC_15_1 tk ad g rr tl (g 17 0))) hP
      replace hD : va_D A (wC tk ad (mup g 10 0 (g 17 0)) rr ++ tl) := Eq.mp (congrArg (fun w => va_D A w) (sC_15_1 tk ad g rr tl (g 17 0))) hD
      refine lv_iconst (v := nI 1) hx hb d_V_noteValue_25 (by decide) ?_
      exact k_zret (v := nI 1) hQ hx hb hr hlk hK hP hD hS () (by (iterate 4 (try (first | rw [if_pos (by assumption)] | rw [if_neg (by assumption)]))); try rfl) (by decide) (by (iterate 4 (try (first | rw [if_pos (by assumption)] | rw [if_neg (by assumption)]))); try rfl) d_V_noteValue_26
    · skip
      have hn9 : g 12 0 = 0 ∨ ¬ g 16 0 = nI key := Or.inr hc12
      refine lv_iconst (v := nI 0) hx hb d_V_noteValue_15 (by decide) ?_
      exact k_zret (v := nI 0) hQ hx hb hr hlk hK hP hD hS () (by (iterate 4 (try (first | rw [if_pos (by assumption)] | rw [if_neg (by assumption)]))); try rfl) (by decide) (by (iterate 4 (try (first | rw [if_pos (by assumption)] | rw [if_neg (by assumption)]))); try rfl) d_V_noteValue_16

/-- what verify answers and notes -/
def vrC (f : Nat → Int32) (t0 : Nat) (dg : Int32) (n v key : Nat) (g u : Nat → Nat → Int32) (r : Int32) : Prop := frx [10, 11, 12, 13, 14, 15, 16, 17, 20] g u ∧ u 20 0 = nI 0 ∧ ((¬ vfC f t0 dg n v key ∧ r = nI 0 ∧ u 10 0 = g 10 0) ∨ (vfC f t0 dg n v key ∧ (((rb f t0 (tr9 f t0) = 0 ∨ ∃ o, trO f t0 key (rb f t0 (tr9 f t0)) (tr9 f t0 + 1) none = some o ∧ o.1 ≠ key) ∧ r = nI 1 ∧ u 10 0 = g 10 0) ∨ (rb f t0 (tr9 f t0) ≠ 0 ∧ ∃ o, trO f t0 key (rb f t0 (tr9 f t0)) (tr9 f t0 + 1) none = some o ∧ o.1 = key ∧ r = nI 2 ∧ u 10 0 = o.2))))
theorem trO_some {f : Nat → Int32} {t0 key : Nat} (hby : byF f t0) : ∀ c p ov, trC f t0 key c p ov → (c ≠ 0 ∨ ∃ o, ov = some o ∧ o.1 < 256) → ∃ o, trO f t0 key c p ov = some o ∧ o.1 < 256 := by
  intro c
  induction c with
  | zero =>
    intro p ov _ h
    rcases h with h | h
    · exact absurd rfl h
    · exact h
  | succ c ih =>
    intro p ov h _
    exact ih _ _ h.2.2 (Or.inr ⟨_, rfl, ch_256 hby h.1.1.1⟩)

theorem vr_end {f : Nat → Int32} {t0 : Nat} {dg : Int32} {n v key : Nat} {g w : Nat → Nat → Int32} {r1 r : Int32} (hby : byF f t0) (hfw : frx [11, 12, 13, 14, 15, 16, 17] g w) (how : (r1 = nI 1 ∧ vfC f t0 dg n v key ∧ w 12 0 = nI (rb f t0 (tr9 f t0)) ∧ ∀ o, trO f t0 key (rb f t0 (tr9 f t0)) (tr9 f t0 + 1) none = some o → w 16 0 = nI o.1 ∧ w 17 0 = o.2) ∨ (¬ vfC f t0 dg n v key ∧ r1 = nI 0)) (h1 : ¬ r1 = 0)
    (hr : (r = nI 1 ∧ (if mup w 20 0 (nI 0) 12 0 = 0 ∨ ¬ mup w 20 0 (nI 0) 16 0 = nI key then nI 0 else nI 1) = 0) ∨ (r = nI 2 ∧ ¬ (if mup w 20 0 (nI 0) 12 0 = 0 ∨ ¬ mup w 20 0 (nI 0) 16 0 = nI key then nI 0 else nI 1) = 0)) (hkey : key < 48) :
    vrC f t0 dg n v key g (if mup w 20 0 (nI 0) 12 0 = 0 ∨ ¬ mup w 20 0 (nI 0) 16 0 = nI key then mup w 20 0 (nI 0) else mup (mup w 20 0 (nI 0)) 10 0 (mup w 20 0 (nI 0) 17 0)) r := by
  obtain ⟨_, hvf, h12, hch⟩ := how.resolve_right (fun q => h1 q.2)
  have e12 : mup w 20 0 (nI 0) 12 0 = w 12 0 := by rw [mup_ne (by decide)]
  have e16 : mup w 20 0 (nI 0) 16 0 = w 16 0 := by rw [mup_ne (by decide)]
  have e17 : mup w 20 0 (nI 0) 17 0 = w 17 0 := by rw [mup_ne (by decide)]
  rw [e12, e16, e17]
  rw [e12, e16] at hr
  have hrl := rb_lt hby (tr9 f t0)
  have hz : w 12 0 = 0 ↔ rb f t0 (tr9 f t0) = 0 := by
    rw [h12]
    constructor
    · intro q; exact (nI_eq (by omega) (by decide)).mp (q.trans nI_0.symm)
    · intro q; rw [q]; rfl
  have ho : rb f t0 (tr9 f t0) ≠ 0 → ∃ o, trO f t0 key (rb f t0 (tr9 f t0)) (tr9 f t0 + 1) none = some o ∧ o.1 < 256 := fun q => trO_some hby _ _ _ hvf.1.2 (Or.inl q)
  by_cases hc : w 12 0 = 0 ∨ ¬ w 16 0 = nI key
  · rw [if_pos hc] at hr ⊢
    have hr1 : r = nI 1 := by
      rcases hr with q | q
      · exact q.1
      · exact absurd nI_0 q.2
    refine ⟨fun x h9 => (mup_ne (fun q => h9 (by rw [q]; decide))).trans (hfw x (fun h8 => h9 (by revert h8; simp; omega))), rd_eq, Or.inr ⟨hvf, Or.inl ⟨?_, hr1, rd_ne (by decide) (congrFun (hfw 10 (by decide)) 0)⟩⟩⟩
    by_cases h0 : rb f t0 (tr9 f t0) = 0
    · exact Or.inl h0
    · obtain ⟨o, ho1, ho2⟩ := ho h0
      refine Or.inr ⟨o, ho1, fun q => ?_⟩
      rcases hc with hc | hc
      · exact h0 (hz.mp hc)
      · exact hc (by rw [(hch o ho1).1, q])
  · rw [if_neg hc] at hr ⊢
    have hr1 : r = nI 2 := by
      rcases hr with q | q
      · exact absurd q.2 (by decide)
      · exact q.1
    have h0 : rb f t0 (tr9 f t0) ≠ 0 := fun q => hc (Or.inl (hz.mpr q))
    obtain ⟨o, ho1, ho2⟩ := ho h0
    refine ⟨fun x h9 => (mup_ne (fun q => h9 (by rw [q]; decide))).trans ((mup_ne (fun q => h9 (by rw [q]; decide))).trans (hfw x (fun h8 => h9 (by revert h8; simp; omega)))), rd_ne (by decide) rd_eq, Or.inr ⟨hvf, Or.inr ⟨h0, o, ho1, ?_, hr1, ?_⟩⟩⟩
    · have : w 16 0 = nI key := Classical.byContradiction (fun q => hc (Or.inr q))
      rw [(hch o ho1).1] at this
      exact (nI_eq (by omega) (by omega)).mp this
    · exact rd_eq.trans (hch o ho1).2

set_option maxHeartbeats 4000000 in
set_option maxRecDepth 100000 in
theorem c_K_verify1 (l : Launch) (D : va_G) (tk : Nat → ClassId) (sz : Nat) (ad : Nat → Nat) (g : Nat → Nat → Int32) (rr : Nat → Nat → Option Nat) (tl : va_W) (f : Nat → Int32) (t0 : Nat) (ht0 : t0 ≤ 400) (hby : byF f t0) (p9 : Nat) (hv : vS g f t0 p9) (dg : Int32) (n9 v9 key : Nat) (hn9 : n9 ≤ 16) (hv9 : v9 < n9) (hkey : key < 48) : Met l y_K_verify w_K_verify ({ frames := 8, cells := 0, slots := 0, locals := 190 }) (va_Pc [.ref (ad 0), .int dg, .int (nI n9), .int (nI v9), .int (nI key)] (k_pre D (TY tk) sz (wC tk ad g rr ++ tl))) (va_Qi (fun (r : Int32) (u : Nat → Nat → Int32) => vrC f t0 dg n9 v9 key g u r) (fun u t => k_at D (TY tk) (va_A (wC tk ad g rr ++ tl) sz) ((fun u => wC tk ad u rr ++ tl) u) t) (va_A (wC tk ad g rr ++ tl) sz)) 0 0 (va_A (wC tk ad g rr ++ tl) sz) := by
  refine k_ofW (fun A => va_Qi (fun (r : Int32) (u : Nat → Nat → Int32) => vrC f t0 dg n9 v9 key g u r) (fun u t => k_at D (TY tk) A ((fun u => wC tk ad u rr ++ tl) u) t) A) (by decide) (Nat.le_of_ble_eq_true rfl) ?_
  intro p e s m args below meth c Q A ls hQ hx hb hr hlk hin hts hT hown hml hnw hP hK hD hA hsz hl
  have hS : va_S A s.heap s.heap [] := va_S.rf
  have hc0 : 0 + 0 ≤ 0 ∧ 0 + 0 ≤ 0 := ⟨by decide, by decide⟩
  replace hl : lv_has ls 6 [(0, .ref (ad 0)), (1, .int dg), (2, .int (nI n9)), (3, .int (nI v9)), (4, .int (nI key))] := hl
  replace hP : va_P D CC (wC tk ad g rr ++ tl) s.heap := hP
  replace hK : va_K D CC (TY tk) s := hK
  refine lv_iload_n hx hb d_K_verify_0 rfl (lv_at hl 2 rfl) ?_
  refine lv_iconst (v := nI 1) hx hb d_K_verify_1 (by decide) ?_
  refine st_icmp_lt hx hb (by omega) (by omega) d_K_verify_2 (tgt := 24) (by decide) (fun hc2 => absurd hc2 (by omega)) (fun hc2 => ?_)
  refine lv_iload_n hx hb d_K_verify_5 rfl (lv_at hl 2 rfl) ?_
  refine lv_bipush (v := nI 16) hx hb d_K_verify_6 (by decide) ?_
  refine st_icmp_gt hx hb (by omega) (by omega) d_K_verify_8 (tgt := 24) (by decide) (fun hc8 => absurd hc8 (by omega)) (fun hc8 => ?_)
  refine lv_iload_n hx hb d_K_verify_11 rfl (lv_at hl 3 rfl) ?_
  refine st_if_lt hx hb (by omega) d_K_verify_12 (tgt := 24) (by decide) (fun hc12 => hc12.elim) (fun hc12 => ?_)
  refine lv_iload_n hx hb d_K_verify_15 rfl (lv_at hl 3 rfl) ?_
  refine lv_iload_n hx hb d_K_verify_16 rfl (lv_at hl 2 rfl) ?_
  refine st_icmp_ge hx hb (by omega) (by omega) d_K_verify_17 (tgt := 24) (by decide) (fun hc17 => absurd hc17 (by omega)) (fun hc17 => ?_)
  refine lv_iconst (v := nI 1) hx hb d_K_verify_20 (by decide) ?_
  refine lv_goto hx hb d_K_verify_21 (tgt := 25) (by decide) ?_
  refine k_callv (va_runS (As := [.int (nI 1)]) (rest := []) ⟨hx, hb, hml, hown, hts⟩ (c_K_require1 l D tk s.heap.size (wC tk ad g rr ++ tl)) (cwS 1 hts (gS t_290 t_291 t_1 t_292) rfl rfl rfl (by decide +kernel) ⟨Nat.le_of_ble_eq_true rfl, Nat.le_of_ble_eq_true rfl⟩) (k_preS hP hK hD hnw) rfl rfl hl.1 rfl (lv_room (Nat.le_of_ble_eq_true rfl)) d_K_verify_25 hc0) hD hS hA (fun _ H locs hp25 hP hD hK hS => ?_)
  replace hP : va_P D CC (wC tk ad g rr ++ tl) H := hP
  replace hD : va_D A (wC tk ad g rr ++ tl) := hD
  refine lv_iload hx hb d_K_verify_28 (lv_at hl 4 rfl) ?_
  refine k_callv (va_runS (As := [.int (nI key)]) (rest := []) ⟨hx, hb, hml, hown, hts⟩ (c_K_requireKey1 l D tk H.size key (by omega) (wC tk ad g rr ++ tl)) (cwS 1 hts (gS t_287 t_288 t_1 t_289) rfl rfl rfl (by decide +kernel) ⟨Nat.le_of_ble_eq_true rfl, Nat.le_of_ble_eq_true rfl⟩) (k_preS hP hK hD hnw) rfl rfl hl.1 rfl (lv_room (Nat.le_of_ble_eq_true rfl)) d_K_verify_30 hc0) hD hS hA (fun _ H locs hp30 hP hD hK hS => ?_)
  replace hP : va_P D CC (wC tk ad g rr ++ tl) H := hP
  replace hD : va_D A (wC tk ad g rr ++ tl) := hD
  refine lv_aload_n hx hb d_K_verify_33 rfl (lv_at hl 0 rfl) ?_
  refine gf_K_47 (v := .ref (ad 15)) hx hb hT hown hK hP 0 rfl rfl d_K_verify_34 ?_
  refine lv_iload_n hx hb d_K_verify_37 rfl (lv_at hl 1 rfl) ?_
  refine lv_iload_n hx hb d_K_verify_38 rfl (lv_at hl 2 rfl) ?_
  refine lv_iload_n hx hb d_K_verify_39 rfl (lv_at hl 3 rfl) ?_
  refine lv_iload hx hb d_K_verify_40 (lv_at hl 4 rfl) ?_
  refine k_calli (va_runV (As := [.int dg, .int (nI n9), .int (nI v9), .int (nI key)]) (rest := []) ⟨hx, hb, hml, hown, hts⟩ (c_V_takesProof l D tk H.size ad g rr tl f t0 ht0 hby p9 hv dg n9 v9 key hn9 hv9 hkey) (cwV 4 hts (gV t_876 t_877 t_878 t_8 t_879) rfl rfl rfl (by decide +kernel) ⟨Nat.le_of_ble_eq_true rfl, Nat.le_of_ble_eq_true rfl⟩) (k_preV hP hK hD hnw 15 rfl rfl) rfl rfl hl.1 rfl (lv_room (Nat.le_of_ble_eq_true rfl)) d_K_verify_42 hc0) hD hS hA (fun r42 w42 H locs ⟨hfw, how⟩ hP hD hK hS => ?_)
  replace hP : va_P D CC (wC tk ad w42 rr ++ tl) H := hP
  replace hD : va_D A (wC tk ad w42 rr ++ tl) := hD
  refine lv_istore (lv' := [(5, .int r42), (0, .ref (ad 0)), (1, .int dg), (2, .int (nI n9)), (3, .int (nI v9)), (4, .int (nI key))]) hx hb d_K_verify_45 hl (by decide) rfl (fun ls hl => ?_)
  refine lv_aload_n hx hb d_K_verify_47 rfl (lv_at hl 1 rfl) ?_
  refine gf_K_47 (v := .ref (ad 15)) hx hb hT hown hK hP 0 rfl rfl d_K_verify_48 ?_
  refine gf_K_168 (v := .ref (ad 16)) hx hb hT hown hK hP 15 rfl rfl d_K_verify_51 ?_
  refine k_callv (va_runV (As := []) (rest := []) ⟨hx, hb, hml, hown, hts⟩ (c_B_clearV l D tk H.size ad w42 rr tl  ) (cwV 0 hts (gV t_905 t_827 t_828 t_7 t_829) rfl rfl rfl (by decide +kernel) ⟨Nat.le_of_ble_eq_true rfl, Nat.le_of_ble_eq_true rfl⟩) (k_preV hP hK hD hnw 16 rfl rfl) rfl rfl hl.1 rfl (lv_room (Nat.le_of_ble_eq_true rfl)) d_K_verify_54 hc0) hD hS hA (fun _ H locs hp54 hP hD hK hS => ?_)
  replace hP : va_P D CC (wC tk ad (mup w42 20 0 (nI 0)) rr ++ tl) H := hP
  replace hD : va_D A (wC tk ad (mup w42 20 0 (nI 0)) rr ++ tl) := hD
  refine lv_iload hx hb d_K_verify_57 (lv_at hl 0 rfl) ?_
  refine lv_if_ne hx hb d_K_verify_59 (tgt := 64) (by decide) (fun hc59 => ?_) (fun hc59 => ?_)
  · skip
    refine lv_aload_n hx hb d_K_verify_64 rfl (lv_at hl 1 rfl) ?_
    refine gf_K_47 (v := .ref (ad 15)) hx hb hT hown hK hP 0 rfl rfl d_K_verify_65 ?_
    refine lv_iload hx hb d_K_verify_68 (lv_at hl 5 rfl) ?_
    refine k_calli (va_runV (As := [.int (nI key)]) (rest := []) ⟨hx, hb, hml, hown, hts⟩ (c_V_noteValue l D tk H.size ad (mup w42 20 0 (nI 0)) rr tl key ) (cwV 1 hts (gV t_906 t_907 t_908 t_8 t_909) rfl rfl rfl (by decide +kernel) ⟨Nat.le_of_ble_eq_true rfl, Nat.le_of_ble_eq_true rfl⟩) (k_preV hP hK hD hnw 15 rfl rfl) rfl rfl hl.1 rfl (lv_room (Nat.le_of_ble_eq_true rfl)) d_K_verify_70 hc0) hD hS hA (fun _ _ H locs hp70 hP hD hK hS => ?_)
    subst hp70
    replace hP : va_P D CC (wC tk ad (if (mup w42 20 0 (nI 0)) 12 0 = 0 ∨ ¬ (mup w42 20 0 (nI 0)) 16 0 = nI key then (mup w42 20 0 (nI 0)) else mup (mup w42 20 0 (nI 0)) 10 0 ((mup w42 20 0 (nI 0)) 17 0)) rr ++ tl) H := hP
    replace hD : va_D A (wC tk ad (if (mup w42 20 0 (nI 0)) 12 0 = 0 ∨ ¬ (mup w42 20 0 (nI 0)) 16 0 = nI key then (mup w42 20 0 (nI 0)) else mup (mup w42 20 0 (nI 0)) 10 0 ((mup w42 20 0 (nI 0)) 17 0)) rr ++ tl) := hD
    refine lv_if_eq hx hb d_K_verify_73 (tgt := 80) (by decide) (fun hc73 => ?_) (fun hc73 => ?_)
    · skip
      refine lv_iconst (v := nI 1) hx hb d_K_verify_80 (by decide) ?_
      exact k_iret (v := nI 1) hQ hx hb hr hlk hK hP hD hS _ rfl (vr_end hby hfw how hc59 (by first | exact Or.inl ⟨rfl, hc73⟩ | exact Or.inr ⟨rfl, hc73⟩) hkey) d_K_verify_81
    · skip
      refine lv_iconst (v := nI 2) hx hb d_K_verify_76 (by decide) ?_
      refine lv_goto hx hb d_K_verify_77 (tgt := 81) (by decide) ?_
      exact k_iret (v := nI 2) hQ hx hb hr hlk hK hP hD hS _ rfl (vr_end hby hfw how hc59 (by first | exact Or.inl ⟨rfl, hc73⟩ | exact Or.inr ⟨rfl, hc73⟩) hkey) d_K_verify_81
  · skip
    refine lv_iconst (v := nI 0) hx hb d_K_verify_62 (by decide) ?_
    exact k_iret (v := nI 0) hQ hx hb hr hlk hK hP hD hS (mup w42 20 0 (nI 0)) rfl (⟨fun x h9 => (mup_ne (fun q => h9 (by rw [q]; decide))).trans (hfw x (fun h8 => h9 (by revert h8; simp; omega))), rd_eq, Or.inl ⟨how.elim (fun q => by rw [q.1] at hc59; exact absurd hc59 (by decide)) (fun q => q.1), rfl, rd_ne (by decide) (congrFun (hfw 10 (by decide)) 0)⟩⟩) d_K_verify_63

set_option maxHeartbeats 4000000 in
set_option maxRecDepth 100000 in
theorem c_K_verifyGrowth1 (l : Launch) (D : va_G) (tk : Nat → ClassId) (sz : Nat) (ad : Nat → Nat) (g : Nat → Nat → Int32) (rr : Nat → Nat → Option Nat) (tl : va_W) (f : Nat → Int32) (t0 : Nat) (ht0 : t0 ≤ 400) (hby : byF f t0) (p9 : Nat) (hv : vS g f t0 p9) (one : Int32) (m9 : Nat) (other : Int32) (n9 : Nat) (hm1 : 1 ≤ m9) (hm2 : m9 < n9) (hn9 : n9 ≤ 16) (_dec : Decidable (vgC f t0 one other m9 n9)) : Met l y_K_verifyGrowth w_K_verifyGrowth ({ frames := 9, cells := 0, slots := 0, locals := 219 }) (va_Pc [.ref (ad 0), .int one, .int (nI m9), .int other, .int (nI n9)] (k_pre D (TY tk) sz (wC tk ad g rr ++ tl))) (va_Qi (fun (r : Int32) (u : Nat → Nat → Int32) => frx [11, 18, 19, 20] g u ∧ u 20 0 = nI 0 ∧ r = if vgC f t0 one other m9 n9 then nI 1 else nI 0) (fun u t => k_at D (TY tk) (va_A (wC tk ad g rr ++ tl) sz) ((fun u => wC tk ad u rr ++ tl) u) t) (va_A (wC tk ad g rr ++ tl) sz)) 0 0 (va_A (wC tk ad g rr ++ tl) sz) := by
  refine k_ofW (fun A => va_Qi (fun (r : Int32) (u : Nat → Nat → Int32) => frx [11, 18, 19, 20] g u ∧ u 20 0 = nI 0 ∧ r = if vgC f t0 one other m9 n9 then nI 1 else nI 0) (fun u t => k_at D (TY tk) A ((fun u => wC tk ad u rr ++ tl) u) t) A) (by decide) (Nat.le_of_ble_eq_true rfl) ?_
  intro p e s m args below meth c Q A ls hQ hx hb hr hlk hin hts hT hown hml hnw hP hK hD hA hsz hl
  have hS : va_S A s.heap s.heap [] := va_S.rf
  have hc0 : 0 + 0 ≤ 0 ∧ 0 + 0 ≤ 0 := ⟨by decide, by decide⟩
  replace hl : lv_has ls 6 [(0, .ref (ad 0)), (1, .int one), (2, .int (nI m9)), (3, .int other), (4, .int (nI n9))] := hl
  replace hP : va_P D CC (wC tk ad g rr ++ tl) s.heap := hP
  replace hK : va_K D CC (TY tk) s := hK
  refine lv_iload_n hx hb d_K_verifyGrowth_0 rfl (lv_at hl 2 rfl) ?_
  refine st_if_le hx hb (by omega) d_K_verifyGrowth_1 (tgt := 21) (by decide) (fun hc1 => absurd hc1 (by omega)) (fun hc1 => ?_)
  refine lv_iload_n hx hb d_K_verifyGrowth_4 rfl (lv_at hl 2 rfl) ?_
  refine lv_iload hx hb d_K_verifyGrowth_5 (lv_at hl 4 rfl) ?_
  refine st_icmp_ge hx hb (by omega) (by omega) d_K_verifyGrowth_7 (tgt := 21) (by decide) (fun hc7 => absurd hc7 (by omega)) (fun hc7 => ?_)
  refine lv_iload hx hb d_K_verifyGrowth_10 (lv_at hl 4 rfl) ?_
  refine lv_bipush (v := nI 16) hx hb d_K_verifyGrowth_12 (by decide) ?_
  refine st_icmp_gt hx hb (by omega) (by omega) d_K_verifyGrowth_14 (tgt := 21) (by decide) (fun hc14 => absurd hc14 (by omega)) (fun hc14 => ?_)
  refine lv_iconst (v := nI 1) hx hb d_K_verifyGrowth_17 (by decide) ?_
  refine lv_goto hx hb d_K_verifyGrowth_18 (tgt := 22) (by decide) ?_
  refine k_callv (va_runS (As := [.int (nI 1)]) (rest := []) ⟨hx, hb, hml, hown, hts⟩ (c_K_require1 l D tk s.heap.size (wC tk ad g rr ++ tl)) (cwS 1 hts (gS t_290 t_291 t_1 t_292) rfl rfl rfl (by decide +kernel) ⟨Nat.le_of_ble_eq_true rfl, Nat.le_of_ble_eq_true rfl⟩) (k_preS hP hK hD hnw) rfl rfl hl.1 rfl (lv_room (Nat.le_of_ble_eq_true rfl)) d_K_verifyGrowth_22 hc0) hD hS hA (fun _ H locs hp22 hP hD hK hS => ?_)
  replace hP : va_P D CC (wC tk ad g rr ++ tl) H := hP
  replace hD : va_D A (wC tk ad g rr ++ tl) := hD
  refine lv_aload_n hx hb d_K_verifyGrowth_25 rfl (lv_at hl 0 rfl) ?_
  refine gf_K_47 (v := .ref (ad 15)) hx hb hT hown hK hP 0 rfl rfl d_K_verifyGrowth_26 ?_
  refine lv_iload_n hx hb d_K_verifyGrowth_29 rfl (lv_at hl 1 rfl) ?_
  refine lv_iload_n hx hb d_K_verifyGrowth_30 rfl (lv_at hl 2 rfl) ?_
  refine lv_iload_n hx hb d_K_verifyGrowth_31 rfl (lv_at hl 3 rfl) ?_
  refine lv_iload hx hb d_K_verifyGrowth_32 (lv_at hl 4 rfl) ?_
  refine k_calli (va_runV (As := [.int one, .int (nI m9), .int other, .int (nI n9)]) (rest := []) ⟨hx, hb, hml, hown, hts⟩ (c_V_takesGrowth l D tk H.size ad g rr tl f t0 ht0 hby p9 hv one m9 other n9 hm1 hm2 hn9 _dec) (cwV 4 hts (gV t_917 t_918 t_919 t_8 t_920) rfl rfl rfl (by decide +kernel) ⟨Nat.le_of_ble_eq_true rfl, Nat.le_of_ble_eq_true rfl⟩) (k_preV hP hK hD hnw 15 rfl rfl) rfl rfl hl.1 rfl (lv_room (Nat.le_of_ble_eq_true rfl)) d_K_verifyGrowth_34 hc0) hD hS hA (fun r34 w34 H locs ⟨hfw, how⟩ hP hD hK hS => ?_)
  subst how
  replace hP : va_P D CC (wC tk ad w34 rr ++ tl) H := hP
  replace hD : va_D A (wC tk ad w34 rr ++ tl) := hD
  refine lv_istore (lv' := [(5, .int (if vgC f t0 one other m9 n9 then nI 1 else nI 0)), (0, .ref (ad 0)), (1, .int one), (2, .int (nI m9)), (3, .int other), (4, .int (nI n9))]) hx hb d_K_verifyGrowth_37 hl (by decide) rfl (fun ls hl => ?_)
  refine lv_aload_n hx hb d_K_verifyGrowth_39 rfl (lv_at hl 1 rfl) ?_
  refine gf_K_47 (v := .ref (ad 15)) hx hb hT hown hK hP 0 rfl rfl d_K_verifyGrowth_40 ?_
  refine gf_K_168 (v := .ref (ad 16)) hx hb hT hown hK hP 15 rfl rfl d_K_verifyGrowth_43 ?_
  refine k_callv (va_runV (As := []) (rest := []) ⟨hx, hb, hml, hown, hts⟩ (c_B_clearV l D tk H.size ad w34 rr tl  ) (cwV 0 hts (gV t_905 t_827 t_828 t_7 t_829) rfl rfl rfl (by decide +kernel) ⟨Nat.le_of_ble_eq_true rfl, Nat.le_of_ble_eq_true rfl⟩) (k_preV hP hK hD hnw 16 rfl rfl) rfl rfl hl.1 rfl (lv_room (Nat.le_of_ble_eq_true rfl)) d_K_verifyGrowth_46 hc0) hD hS hA (fun _ H locs hp46 hP hD hK hS => ?_)
  replace hP : va_P D CC (wC tk ad (mup w34 20 0 (nI 0)) rr ++ tl) H := hP
  replace hD : va_D A (wC tk ad (mup w34 20 0 (nI 0)) rr ++ tl) := hD
  refine lv_iload hx hb d_K_verifyGrowth_49 (lv_at hl 0 rfl) ?_
  exact k_zret (v := if vgC f t0 one other m9 n9 then nI 1 else nI 0) hQ hx hb hr hlk hK hP hD hS (mup w34 20 0 (nI 0)) rfl (by split <;> decide) (⟨frx_2 (fun x h9 => hfw x (fun h8 => h9 (by revert h8; simp; omega))) (by decide), rd_eq, rfl⟩) d_K_verifyGrowth_51
