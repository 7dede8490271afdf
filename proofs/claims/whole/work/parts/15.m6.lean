def lg_ (q : Nat) : Nat := if q ≤ 1 then 0 else if q ≤ 2 then 1 else if q ≤ 4 then 2 else if q ≤ 8 then 3 else 4
theorem hf_facts : ∀ q, q < 17 → 1 < q → 0 < hf q ∧ hf q < q ∧ lg_ (hf q) < lg_ q ∧ lg_ (q - hf q) < lg_ q ∧ lg_ q ≤ 4 := by decide
theorem lg_1 {q : Nat} (h : q < 17) : lg_ q ≤ 4 := by
  by_cases h1 : 1 < q
  · exact (hf_facts q h h1).2.2.2.2
  · unfold lg_; rw [if_pos (by omega)]; omega
/-- the sides of the way to the leaf v, from the top -/
def wyL : Nat → Nat → Nat → Nat → List (Nat × Nat × Bool)
  | 0, _, _, _ => []
  | f + 1, p, q, v => if q ≤ 1 then [] else if v < p + hf q then (p + hf q, q - hf q, false) :: wyL f p (hf q) v else (p, hf q, true) :: wyL f (p + hf q) (q - hf q) v
/-- the sides of a growth, from the top -/
def grL : Nat → Nat → Nat → Nat → List (Nat × Nat × Bool)
  | 0, _, _, _ => []
  | f + 1, p, q, m => if m = q then (if 0 < p then [(p, q, true)] else []) else if m ≤ hf q then (p + hf q, q - hf q, false) :: grL f p (hf q) m else (p, hf q, true) :: grL f (p + hf q) (q - hf q) (m - hf q)
def grP : Nat → Nat → Nat → Nat → Nat
  | 0, p, _, _ => p
  | f + 1, p, q, m => if m = q then p else if m ≤ hf q then grP f p (hf q) m else grP f (p + hf q) (q - hf q) (m - hf q)
theorem wyL_0 {f p q v : Nat} (h : q ≤ 1) : wyL (f + 1) p q v = [] := by rw [wyL, if_pos h]
theorem wyL_l {f p q v : Nat} (h : ¬ q ≤ 1) (h2 : v < p + hf q) : wyL (f + 1) p q v = (p + hf q, q - hf q, false) :: wyL f p (hf q) v := by rw [wyL, if_neg h, if_pos h2]
theorem wyL_r {f p q v : Nat} (h : ¬ q ≤ 1) (h2 : ¬ v < p + hf q) : wyL (f + 1) p q v = (p, hf q, true) :: wyL f (p + hf q) (q - hf q) v := by rw [wyL, if_neg h, if_neg h2]
theorem grL_0 {f p q m : Nat} (h : m = q) : grL (f + 1) p q m = if 0 < p then [(p, q, true)] else [] := by rw [grL, if_pos h]
theorem grL_l {f p q m : Nat} (h : ¬ m = q) (h2 : m ≤ hf q) : grL (f + 1) p q m = (p + hf q, q - hf q, false) :: grL f p (hf q) m := by rw [grL, if_neg h, if_pos h2]
theorem grL_r {f p q m : Nat} (h : ¬ m = q) (h2 : ¬ m ≤ hf q) : grL (f + 1) p q m = (p, hf q, true) :: grL f (p + hf q) (q - hf q) (m - hf q) := by rw [grL, if_neg h, if_neg h2]
theorem grP_0 {f p q m : Nat} (h : m = q) : grP (f + 1) p q m = p := by rw [grP, if_pos h]
theorem grP_l {f p q m : Nat} (h : ¬ m = q) (h2 : m ≤ hf q) : grP (f + 1) p q m = grP f p (hf q) m := by rw [grP, if_neg h, if_pos h2]
theorem grP_r {f p q m : Nat} (h : ¬ m = q) (h2 : ¬ m ≤ hf q) : grP (f + 1) p q m = grP f (p + hf q) (q - hf q) (m - hf q) := by rw [grP, if_neg h, if_neg h2]
def b1_ (z : Bool) : Int32 := if z = true then nI 1 else nI 0
def sdL : (Nat → Nat → Int32) → Nat → List (Nat × Nat × Bool) → Nat → Nat → Int32
  | g, _, [] => g
  | g, b, x :: r => sdL (sdM g b x.1 x.2.1 (b1_ x.2.2)) (b + 1) r

set_option maxHeartbeats 4000000 in
set_option maxRecDepth 100000 in
theorem c_M_way (l : Launch) (D : va_G) (tk : Nat → ClassId) (sz : Nat) (h : Nat) (ad : Nat → Nat) (g : Nat → Nat → Int32) (la : Nat → Int64) (tl : va_W) (n v : Nat) (hn : 1 ≤ n) (hn2 : n ≤ 16) (hv : v < 256) : Met l y_M_way w_M_way ({ frames := 1, cells := 0, slots := 0, locals := 23 }) (va_Pc [.ref h, .int (nI n), .int (nI v)] (k_pre D (TY tk) sz (wM tk h ad g la ++ tl))) (va_Qv (fun (_ : Unit) => True) (fun u t => k_at D (TY tk) (va_A (wM tk h ad g la ++ tl) sz) ((fun _ => wM tk h ad (sdL (mup g 17 0 (nI 0)) 0 (wyL 5 0 n v)) la ++ tl) u) t) (va_A (wM tk h ad g la ++ tl) sz)) 0 0 (va_A (wM tk h ad g la ++ tl) sz) := by
  refine k_ofW (fun A => va_Qv (fun (_ : Unit) => True) (fun u t => k_at D (TY tk) A ((fun _ => wM tk h ad (sdL (mup g 17 0 (nI 0)) 0 (wyL 5 0 n v)) la ++ tl) u) t) A) (by decide) (Nat.le_of_ble_eq_true rfl) ?_
  intro p e s m args below meth c Q A ls hQ hx hb hr hlk hin hts hT hown hml hnw hP hK hD hA hsz hl
  have hS : va_S A s.heap s.heap [] := va_S.rf
  have hc0 : 0 + 0 ≤ 0 ∧ 0 + 0 ≤ 0 := ⟨by decide, by decide⟩
  replace hl : lv_has ls 6 [(0, .ref h), (1, .int (nI n)), (2, .int (nI v))] := hl
  replace hP : va_P D CC (wM tk h ad g la ++ tl) s.heap := hP
  replace hK : va_K D CC (TY tk) s := hK
  refine lv_aload_n hx hb d_M_way_0 rfl (lv_at hl 0 rfl) ?_
  refine lv_iconst (v := nI 0) hx hb d_M_way_1 (by decide) ?_
  refine pf_M_155 hx hb hT hown hK hP hD hS 0 rfl (Nat.le_of_ble_eq_true rfl) d_M_way_2 (fun H locs hP hD hS => ?_)
  replace hP : va_P D CC (wM tk h ad (mup g 17 0 (nI 0)) la ++ tl) H := hP
  replace hD : va_D A (wM tk h ad (mup g 17 0 (nI 0)) la ++ tl) := hD
  refine lv_iconst (v := nI 0) hx hb d_M_way_5 (by decide) ?_
  refine lv_istore_n (lv' := [(3, .int (nI 0)), (0, .ref h), (1, .int (nI n)), (2, .int (nI v))]) hx hb d_M_way_6 rfl hl (by decide) rfl (fun ls hl => ?_)
  refine lv_iload_n hx hb d_M_way_7 rfl (lv_at hl 2 rfl) ?_
  refine lv_istore (lv' := [(4, .int (nI n)), (3, .int (nI 0)), (0, .ref h), (1, .int (nI n)), (2, .int (nI v))]) hx hb d_M_way_8 hl (by decide) rfl (fun ls hl => ?_)
  have key10 : ∀ (n10 : Nat) (f1 : Nat) (pp : Nat) (qq : Nat) (b0 : Nat) (γ : Nat → Nat → Int32) (ls : Array Slot) (H : Heap) (locs : List Loc), f1 < n10 → (lg_ qq < f1 ∧ 1 ≤ qq ∧ qq < 17) → (b0 + lg_ qq ≤ 4 ∧ pp + qq ≤ 16) → (sdL γ b0 (wyL f1 pp qq v) = sdL (mup g 17 0 (nI 0)) 0 (wyL 5 0 n v)) → (γ 17 0 = nI b0) → lv_has ls 6 [(0, .ref h), (1, .int (nI n)), (2, .int (nI v)), (3, .int (nI pp)), (4, .int (nI qq))] → va_P D CC (wM tk h ad γ la ++ tl) H → va_D A (wM tk h ad γ la ++ tl) → va_S A s.heap H locs → W p l e ({ frames := 1, cells := 0, slots := 0, locals := 23 } : Room) s m args below meth c H locs 0 0 Q (F0 m 10 ls []) := by
    intro n10
    induction n10 with
    | zero => intro f1 pp qq b0 γ ls H locs hn; exact absurd hn (Nat.not_lt_zero _)
    | succ n10 ih10 =>
      intro f1 pp qq b0 γ ls H locs hn10 hf1 hb1 hR hb0 hl hP hD hS
      obtain ⟨f0, rfl⟩ : ∃ f0, f1 = f0 + 1 := ⟨f1 - 1, by omega⟩
      refine lv_iload hx hb d_M_way_10 (lv_at hl 4 rfl) ?_
      refine lv_iconst (v := nI 1) hx hb d_M_way_12 (by decide) ?_
      refine st_icmp_le hx hb (by omega) (by omega) d_M_way_13 (tgt := 75) (by decide) (fun hc13 => ?_) (fun hc13 => ?_)
      · skip
        exact k_vret hQ hx hb hr hlk hK hP hD hS () (by rw [← hR, wyL_0 (by omega)]; rfl) trivial d_M_way_75
      · skip
        have hff := hf_facts qq (by omega) (by omega)
        refine lv_iload hx hb d_M_way_16 (lv_at hl 4 rfl) ?_
        refine k_calli (va_runS (As := [.int (nI qq)]) (rest := []) ⟨hx, hb, hml, hown, hts⟩ (c_M_half l D tk H.size qq (by omega) (wM tk h ad γ la ++ tl)) (cwS 1 hts (gS t_1157 t_1158 t_9 t_1159) rfl rfl rfl (by decide +kernel) ⟨Nat.le_of_ble_eq_true rfl, Nat.le_of_ble_eq_true rfl⟩) (k_preS hP hK hD hnw) rfl rfl hl.1 rfl (lv_room (Nat.le_of_ble_eq_true rfl)) d_M_way_18 hc0) hD hS hA (fun _ _ H locs hp18 hP hD hK hS => ?_)
        subst hp18
        replace hP : va_P D CC (wM tk h ad γ la ++ tl) H := hP
        replace hD : va_D A (wM tk h ad γ la ++ tl) := hD
        refine lv_istore (lv' := [(5, .int (nI (hf qq))), (0, .ref h), (1, .int (nI n)), (2, .int (nI v)), (3, .int (nI pp)), (4, .int (nI qq))]) hx hb d_M_way_21 hl (by decide) rfl (fun ls hl => ?_)
        refine lv_iload_n hx hb d_M_way_23 rfl (lv_at hl 3 rfl) ?_
        refine lv_iload_n hx hb d_M_way_24 rfl (lv_at hl 4 rfl) ?_
        refine lv_iload hx hb d_M_way_25 (lv_at hl 0 rfl) ?_
        refine st_iadd hx hb d_M_way_27 ?_
        refine st_icmp_ge hx hb (by omega) (by omega) d_M_way_28 (tgt := 52) (by decide) (fun hc28 => ?_) (fun hc28 => ?_)
        · skip
          refine lv_aload_n hx hb d_M_way_52 rfl (lv_at hl 1 rfl) ?_
          refine lv_iload_n hx hb d_M_way_53 rfl (lv_at hl 4 rfl) ?_
          refine lv_iload hx hb d_M_way_54 (lv_at hl 0 rfl) ?_
          refine lv_iconst (v := nI 1) hx hb d_M_way_56 (by decide) ?_
          refine k_callv (va_runV (As := [.int (nI pp), .int (nI (hf qq)), .int (nI 1)]) (rest := []) ⟨hx, hb, hml, hown, hts⟩ (c_M_side l D tk H.size h ad γ la tl b0 pp (hf qq) (nI 1) (by decide) (by omega) hb0) (cwV 3 hts (gV t_1160 t_1162 s_30 t_9 t_1163) rfl rfl rfl (by decide +kernel) ⟨Nat.le_of_ble_eq_true rfl, Nat.le_of_ble_eq_true rfl⟩) (k_preV hP hK hD hnw 0 rfl rfl) rfl rfl hl.1 rfl (lv_room (Nat.le_of_ble_eq_true rfl)) d_M_way_57 hc0) hD hS hA (fun _ H locs hp57 hP hD hK hS => ?_)
          replace hP : va_P D CC (wM tk h ad (sdM γ b0 pp (hf qq) (nI 1)) la ++ tl) H := hP
          replace hD : va_D A (wM tk h ad (sdM γ b0 pp (hf qq) (nI 1)) la ++ tl) := hD
          refine lv_iload_n hx hb d_M_way_60 rfl (lv_at hl 4 rfl) ?_
          refine lv_iload hx hb d_M_way_61 (lv_at hl 0 rfl) ?_
          refine st_iadd hx hb d_M_way_63 ?_
          refine lv_istore_n (lv' := [(3, .int (nI (pp + (hf qq)))), (5, .int (nI (hf qq))), (0, .ref h), (1, .int (nI n)), (2, .int (nI v)), (4, .int (nI qq))]) hx hb d_M_way_64 rfl hl (by decide) rfl (fun ls hl => ?_)
          refine lv_iload hx hb d_M_way_65 (lv_at hl 5 rfl) ?_
          refine lv_iload hx hb d_M_way_67 (lv_at hl 1 rfl) ?_
          refine st_isub hx hb (by omega) d_M_way_69 ?_
          refine lv_istore (lv' := [(4, .int (nI (qq - (hf qq)))), (3, .int (nI (pp + (hf qq)))), (5, .int (nI (hf qq))), (0, .ref h), (1, .int (nI n)), (2, .int (nI v))]) hx hb d_M_way_70 hl (by decide) rfl (fun ls hl => ?_)
          refine lv_goto hx hb d_M_way_72 (tgt := 10) (by decide) ?_
          exact ih10 f0 (pp + hf qq) (qq - hf qq) (b0 + 1) (sdM γ b0 pp (hf qq) (nI 1)) ls _ _ (by omega) (by omega) (by omega) (by rw [← hR, wyL_r (by omega) (by omega)]; rfl) rfl (lv_sub hl [3, 4, 5, 1, 0] rfl) hP hD hS
        · skip
          refine lv_aload_n hx hb d_M_way_31 rfl (lv_at hl 1 rfl) ?_
          refine lv_iload_n hx hb d_M_way_32 rfl (lv_at hl 4 rfl) ?_
          refine lv_iload hx hb d_M_way_33 (lv_at hl 0 rfl) ?_
          refine st_iadd hx hb d_M_way_35 ?_
          refine lv_iload hx hb d_M_way_36 (lv_at hl 5 rfl) ?_
          refine lv_iload hx hb d_M_way_38 (lv_at hl 0 rfl) ?_
          refine st_isub hx hb (by omega) d_M_way_40 ?_
          refine lv_iconst (v := nI 0) hx hb d_M_way_41 (by decide) ?_
          refine k_callv (va_runV (As := [.int (nI (pp + (hf qq))), .int (nI (qq - (hf qq))), .int (nI 0)]) (rest := []) ⟨hx, hb, hml, hown, hts⟩ (c_M_side l D tk H.size h ad γ la tl b0 (pp + (hf qq)) (qq - (hf qq)) (nI 0) (by decide) (by omega) hb0) (cwV 3 hts (gV t_1160 t_1162 s_30 t_9 t_1163) rfl rfl rfl (by decide +kernel) ⟨Nat.le_of_ble_eq_true rfl, Nat.le_of_ble_eq_true rfl⟩) (k_preV hP hK hD hnw 0 rfl rfl) rfl rfl hl.1 rfl (lv_room (Nat.le_of_ble_eq_true rfl)) d_M_way_42 hc0) hD hS hA (fun _ H locs hp42 hP hD hK hS => ?_)
          replace hP : va_P D CC (wM tk h ad (sdM γ b0 (pp + (hf qq)) (qq - (hf qq)) (nI 0)) la ++ tl) H := hP
          replace hD : va_D A (wM tk h ad (sdM γ b0 (pp + (hf qq)) (qq - (hf qq)) (nI 0)) la ++ tl) := hD
          refine lv_iload hx hb d_M_way_45 (lv_at hl 0 rfl) ?_
          refine lv_istore (lv' := [(4, .int (nI (hf qq))), (5, .int (nI (hf qq))), (0, .ref h), (1, .int (nI n)), (2, .int (nI v)), (3, .int (nI pp))]) hx hb d_M_way_47 hl (by decide) rfl (fun ls hl => ?_)
          refine lv_goto hx hb d_M_way_49 (tgt := 72) (by decide) ?_
          refine lv_goto hx hb d_M_way_72 (tgt := 10) (by decide) ?_
          exact ih10 f0 pp (hf qq) (b0 + 1) (sdM γ b0 (pp + (hf qq)) (qq - (hf qq)) (nI 0)) ls _ _ (by omega) (by omega) (by omega) (by rw [← hR, wyL_l (by omega) (by omega)]; rfl) rfl (lv_sub hl [2, 3, 4, 5, 0] rfl) hP hD hS
  exact key10 _ 5 0 n 0 (mup g 17 0 (nI 0)) ls _ _ (Nat.lt_succ_self _) (⟨by have := lg_1 (q := n) (by omega); omega, by omega, by omega⟩) (⟨by have := lg_1 (q := n) (by omega); omega, by omega⟩) rfl rfl (lv_sub hl [2, 3, 4, 1, 0] rfl) hP hD hS

set_option maxHeartbeats 4000000 in
set_option maxRecDepth 100000 in
theorem c_M_growth (l : Launch) (D : va_G) (tk : Nat → ClassId) (sz : Nat) (h : Nat) (ad : Nat → Nat) (g : Nat → Nat → Int32) (la : Nat → Int64) (tl : va_W) (m0 n : Nat) (hm : 1 ≤ m0) (hmn : m0 ≤ n) (hn2 : n ≤ 16) : Met l y_M_growth w_M_growth ({ frames := 1, cells := 0, slots := 0, locals := 23 }) (va_Pc [.ref h, .int (nI m0), .int (nI n)] (k_pre D (TY tk) sz (wM tk h ad g la ++ tl))) (va_Qi (fun (r : Int32) (_ : Unit) => r = if grP 5 0 n m0 = 0 then nI 1 else nI 0) (fun u t => k_at D (TY tk) (va_A (wM tk h ad g la ++ tl) sz) ((fun _ => wM tk h ad (sdL (mup g 17 0 (nI 0)) 0 (grL 5 0 n m0)) la ++ tl) u) t) (va_A (wM tk h ad g la ++ tl) sz)) 0 0 (va_A (wM tk h ad g la ++ tl) sz) := by
  refine k_ofW (fun A => va_Qi (fun (r : Int32) (_ : Unit) => r = if grP 5 0 n m0 = 0 then nI 1 else nI 0) (fun u t => k_at D (TY tk) A ((fun _ => wM tk h ad (sdL (mup g 17 0 (nI 0)) 0 (grL 5 0 n m0)) la ++ tl) u) t) A) (by decide) (Nat.le_of_ble_eq_true rfl) ?_
  intro p e s m args below meth c Q A ls hQ hx hb hr hlk hin hts hT hown hml hnw hP hK hD hA hsz hl
  have hS : va_S A s.heap s.heap [] := va_S.rf
  have hc0 : 0 + 0 ≤ 0 ∧ 0 + 0 ≤ 0 := ⟨by decide, by decide⟩
  replace hl : lv_has ls 7 [(0, .ref h), (1, .int (nI m0)), (2, .int (nI n))] := hl
  replace hP : va_P D CC (wM tk h ad g la ++ tl) s.heap := hP
  replace hK : va_K D CC (TY tk) s := hK
  refine lv_aload_n hx hb d_M_growth_0 rfl (lv_at hl 0 rfl) ?_
  refine lv_iconst (v := nI 0) hx hb d_M_growth_1 (by decide) ?_
  refine pf_M_155 hx hb hT hown hK hP hD hS 0 rfl (Nat.le_of_ble_eq_true rfl) d_M_growth_2 (fun H locs hP hD hS => ?_)
  replace hP : va_P D CC (wM tk h ad (mup g 17 0 (nI 0)) la ++ tl) H := hP
  replace hD : va_D A (wM tk h ad (mup g 17 0 (nI 0)) la ++ tl) := hD
  refine lv_iconst (v := nI 0) hx hb d_M_growth_5 (by decide) ?_
  refine lv_istore_n (lv' := [(3, .int (nI 0)), (0, .ref h), (1, .int (nI m0)), (2, .int (nI n))]) hx hb d_M_growth_6 rfl hl (by decide) rfl (fun ls hl => ?_)
  refine lv_iload_n hx hb d_M_growth_7 rfl (lv_at hl 3 rfl) ?_
  refine lv_istore (lv' := [(4, .int (nI n)), (3, .int (nI 0)), (0, .ref h), (1, .int (nI m0)), (2, .int (nI n))]) hx hb d_M_growth_8 hl (by decide) rfl (fun ls hl => ?_)
  refine lv_iload_n hx hb d_M_growth_10 rfl (lv_at hl 3 rfl) ?_
  refine lv_istore (lv' := [(5, .int (nI m0)), (4, .int (nI n)), (3, .int (nI 0)), (0, .ref h), (1, .int (nI m0)), (2, .int (nI n))]) hx hb d_M_growth_11 hl (by decide) rfl (fun ls hl => ?_)
  have key13 : ∀ (n13 : Nat) (f1 : Nat) (pp : Nat) (qq : Nat) (lf : Nat) (b0 : Nat) (γ : Nat → Nat → Int32) (ls : Array Slot) (H : Heap) (locs : List Loc), f1 < n13 → (lg_ qq < f1 ∧ 1 ≤ lf ∧ lf ≤ qq ∧ qq < 17) → (b0 + lg_ qq ≤ 4 ∧ pp + qq ≤ 16) → (sdL γ b0 (grL f1 pp qq lf) = sdL (mup g 17 0 (nI 0)) 0 (grL 5 0 n m0)) → (grP f1 pp qq lf = grP 5 0 n m0) → (γ 17 0 = nI b0) → lv_has ls 7 [(0, .ref h), (1, .int (nI m0)), (2, .int (nI n)), (3, .int (nI pp)), (4, .int (nI qq)), (5, .int (nI lf))] → va_P D CC (wM tk h ad γ la ++ tl) H → va_D A (wM tk h ad γ la ++ tl) → va_S A s.heap H locs → W p l e ({ frames := 1, cells := 0, slots := 0, locals := 23 } : Room) s m args below meth c H locs 0 0 Q (F0 m 13 ls []) := by
    intro n13
    induction n13 with
    | zero => intro f1 pp qq lf b0 γ ls H locs hn; exact absurd hn (Nat.not_lt_zero _)
    | succ n13 ih13 =>
      intro f1 pp qq lf b0 γ ls H locs hn13 hf1 hb1 hR hR2 hb0 hl hP hD hS
      obtain ⟨f0, rfl⟩ : ∃ f0, f1 = f0 + 1 := ⟨f1 - 1, by omega⟩
      refine lv_iload hx hb d_M_growth_13 (lv_at hl 5 rfl) ?_
      refine lv_iload hx hb d_M_growth_15 (lv_at hl 4 rfl) ?_
      refine st_icmp_eq hx hb (by omega) (by omega) d_M_growth_17 (tgt := 85) (by decide) (fun hc17 => ?_) (fun hc17 => ?_)
      · skip
        have hgp : grP 5 0 n m0 = pp := by rw [← hR2, grP_0 (by omega)]
        refine lv_iload_n hx hb d_M_growth_85 rfl (lv_at hl 3 rfl) ?_
        refine st_if_le hx hb (by omega) d_M_growth_86 (tgt := 97) (by decide) (fun hc86 => ?_) (fun hc86 => ?_)
        · skip
          refine lv_iload_n hx hb d_M_growth_97 rfl (lv_at hl 3 rfl) ?_
          refine st_if_ne hx hb (by omega) d_M_growth_98 (tgt := 105) (by decide) (fun hc98 => ?_) (fun hc98 => ?_)
          · skip
            refine lv_iconst (v := nI 0) hx hb d_M_growth_105 (by decide) ?_
            exact k_zret (v := nI 0) hQ hx hb hr hlk hK hP hD hS () (by rw [← hR, grL_0 (by omega), if_neg (by omega)]; rfl) (by decide) (by first | (exfalso; omega) | (rw [hgp, if_pos (by omega)]; done) | (rw [hgp, if_neg (by omega)]; done)) d_M_growth_106
          · skip
            refine lv_iconst (v := nI 1) hx hb d_M_growth_101 (by decide) ?_
            refine lv_goto hx hb d_M_growth_102 (tgt := 106) (by decide) ?_
            exact k_zret (v := nI 1) hQ hx hb hr hlk hK hP hD hS () (by rw [← hR, grL_0 (by omega), if_neg (by omega)]; rfl) (by decide) (by first | (exfalso; omega) | (rw [hgp, if_pos (by omega)]; done) | (rw [hgp, if_neg (by omega)]; done)) d_M_growth_106
        · skip
          refine lv_aload_n hx hb d_M_growth_89 rfl (lv_at hl 0 rfl) ?_
          refine lv_iload_n hx hb d_M_growth_90 rfl (lv_at hl 3 rfl) ?_
          refine lv_iload hx hb d_M_growth_91 (lv_at hl 4 rfl) ?_
          refine lv_iconst (v := nI 1) hx hb d_M_growth_93 (by decide) ?_
          refine k_callv (va_runV (As := [.int (nI pp), .int (nI qq), .int (nI 1)]) (rest := []) ⟨hx, hb, hml, hown, hts⟩ (c_M_side l D tk H.size h ad γ la tl b0 pp qq (nI 1) (by decide) (by omega) hb0) (cwV 3 hts (gV t_1160 t_1162 s_30 t_9 t_1163) rfl rfl rfl (by decide +kernel) ⟨Nat.le_of_ble_eq_true rfl, Nat.le_of_ble_eq_true rfl⟩) (k_preV hP hK hD hnw 0 rfl rfl) rfl rfl hl.1 rfl (lv_room (Nat.le_of_ble_eq_true rfl)) d_M_growth_94 hc0) hD hS hA (fun _ H locs hp94 hP hD hK hS => ?_)
          replace hP : va_P D CC (wM tk h ad (sdM γ b0 pp qq (nI 1)) la ++ tl) H := hP
          replace hD : va_D A (wM tk h ad (sdM γ b0 pp qq (nI 1)) la ++ tl) := hD
          refine lv_iload_n hx hb d_M_growth_97 rfl (lv_at hl 3 rfl) ?_
          refine st_if_ne hx hb (by omega) d_M_growth_98 (tgt := 105) (by decide) (fun hc98 => ?_) (fun hc98 => ?_)
          · skip
            refine lv_iconst (v := nI 0) hx hb d_M_growth_105 (by decide) ?_
            exact k_zret (v := nI 0) hQ hx hb hr hlk hK hP hD hS () (by rw [← hR, grL_0 (by omega), if_pos (by omega)]; rfl) (by decide) (by first | (exfalso; omega) | (rw [hgp, if_pos (by omega)]; done) | (rw [hgp, if_neg (by omega)]; done)) d_M_growth_106
          · skip
            refine lv_iconst (v := nI 1) hx hb d_M_growth_101 (by decide) ?_
            refine lv_goto hx hb d_M_growth_102 (tgt := 106) (by decide) ?_
            exact k_zret (v := nI 1) hQ hx hb hr hlk hK hP hD hS () (by rw [← hR, grL_0 (by omega), if_pos (by omega)]; rfl) (by decide) (by first | (exfalso; omega) | (rw [hgp, if_pos (by omega)]; done) | (rw [hgp, if_neg (by omega)]; done)) d_M_growth_106
      · skip
        have hff := hf_facts qq (by omega) (by omega)
        refine lv_iload hx hb d_M_growth_20 (lv_at hl 4 rfl) ?_
        refine k_calli (va_runS (As := [.int (nI qq)]) (rest := []) ⟨hx, hb, hml, hown, hts⟩ (c_M_half l D tk H.size qq (by omega) (wM tk h ad γ la ++ tl)) (cwS 1 hts (gS t_1157 t_1158 t_9 t_1159) rfl rfl rfl (by decide +kernel) ⟨Nat.le_of_ble_eq_true rfl, Nat.le_of_ble_eq_true rfl⟩) (k_preS hP hK hD hnw) rfl rfl hl.1 rfl (lv_room (Nat.le_of_ble_eq_true rfl)) d_M_growth_22 hc0) hD hS hA (fun _ _ H locs hp22 hP hD hK hS => ?_)
        subst hp22
        replace hP : va_P D CC (wM tk h ad γ la ++ tl) H := hP
        replace hD : va_D A (wM tk h ad γ la ++ tl) := hD
        refine lv_istore (lv' := [(6, .int (nI (hf qq))), (0, .ref h), (1, .int (nI m0)), (2, .int (nI n)), (3, .int (nI pp)), (4, .int (nI qq)), (5, .int (nI lf))]) hx hb d_M_growth_25 hl (by decide) rfl (fun ls hl => ?_)
        refine lv_iload hx hb d_M_growth_27 (lv_at hl 6 rfl) ?_
        refine lv_iload hx hb d_M_growth_29 (lv_at hl 0 rfl) ?_
        refine st_icmp_gt hx hb (by omega) (by omega) d_M_growth_31 (tgt := 55) (by decide) (fun hc31 => ?_) (fun hc31 => ?_)
        · skip
          refine lv_aload_n hx hb d_M_growth_55 rfl (lv_at hl 1 rfl) ?_
          refine lv_iload_n hx hb d_M_growth_56 rfl (lv_at hl 4 rfl) ?_
          refine lv_iload hx hb d_M_growth_57 (lv_at hl 0 rfl) ?_
          refine lv_iconst (v := nI 1) hx hb d_M_growth_59 (by decide) ?_
          refine k_callv (va_runV (As := [.int (nI pp), .int (nI (hf qq)), .int (nI 1)]) (rest := []) ⟨hx, hb, hml, hown, hts⟩ (c_M_side l D tk H.size h ad γ la tl b0 pp (hf qq) (nI 1) (by decide) (by omega) hb0) (cwV 3 hts (gV t_1160 t_1162 s_30 t_9 t_1163) rfl rfl rfl (by decide +kernel) ⟨Nat.le_of_ble_eq_true rfl, Nat.le_of_ble_eq_true rfl⟩) (k_preV hP hK hD hnw 0 rfl rfl) rfl rfl hl.1 rfl (lv_room (Nat.le_of_ble_eq_true rfl)) d_M_growth_60 hc0) hD hS hA (fun _ H locs hp60 hP hD hK hS => ?_)
          replace hP : va_P D CC (wM tk h ad (sdM γ b0 pp (hf qq) (nI 1)) la ++ tl) H := hP
          replace hD : va_D A (wM tk h ad (sdM γ b0 pp (hf qq) (nI 1)) la ++ tl) := hD
          refine lv_iload_n hx hb d_M_growth_63 rfl (lv_at hl 4 rfl) ?_
          refine lv_iload hx hb d_M_growth_64 (lv_at hl 0 rfl) ?_
          refine st_iadd hx hb d_M_growth_66 ?_
          refine lv_istore_n (lv' := [(3, .int (nI (pp + (hf qq)))), (6, .int (nI (hf qq))), (0, .ref h), (1, .int (nI m0)), (2, .int (nI n)), (4, .int (nI qq)), (5, .int (nI lf))]) hx hb d_M_growth_67 rfl hl (by decide) rfl (fun ls hl => ?_)
          refine lv_iload hx hb d_M_growth_68 (lv_at hl 5 rfl) ?_
          refine lv_iload hx hb d_M_growth_70 (lv_at hl 1 rfl) ?_
          refine st_isub hx hb (by omega) d_M_growth_72 ?_
          refine lv_istore (lv' := [(4, .int (nI (qq - (hf qq)))), (3, .int (nI (pp + (hf qq)))), (6, .int (nI (hf qq))), (0, .ref h), (1, .int (nI m0)), (2, .int (nI n)), (5, .int (nI lf))]) hx hb d_M_growth_73 hl (by decide) rfl (fun ls hl => ?_)
          refine lv_iload hx hb d_M_growth_75 (lv_at hl 6 rfl) ?_
          refine lv_iload hx hb d_M_growth_77 (lv_at hl 2 rfl) ?_
          refine st_isub hx hb (by omega) d_M_growth_79 ?_
          refine lv_istore (lv' := [(5, .int (nI (lf - (hf qq)))), (4, .int (nI (qq - (hf qq)))), (3, .int (nI (pp + (hf qq)))), (6, .int (nI (hf qq))), (0, .ref h), (1, .int (nI m0)), (2, .int (nI n))]) hx hb d_M_growth_80 hl (by decide) rfl (fun ls hl => ?_)
          refine lv_goto hx hb d_M_growth_82 (tgt := 13) (by decide) ?_
          exact ih13 f0 (pp + hf qq) (qq - hf qq) (lf - hf qq) (b0 + 1) (sdM γ b0 pp (hf qq) (nI 1)) ls _ _ (by omega) (by omega) (by omega) (by rw [← hR, grL_r (by omega) (by omega)]; rfl) (by rw [← hR2, grP_r (by omega) (by omega)]) rfl (lv_sub hl [4, 5, 6, 2, 1, 0] rfl) hP hD hS
        · skip
          refine lv_aload_n hx hb d_M_growth_34 rfl (lv_at hl 1 rfl) ?_
          refine lv_iload_n hx hb d_M_growth_35 rfl (lv_at hl 4 rfl) ?_
          refine lv_iload hx hb d_M_growth_36 (lv_at hl 0 rfl) ?_
          refine st_iadd hx hb d_M_growth_38 ?_
          refine lv_iload hx hb d_M_growth_39 (lv_at hl 5 rfl) ?_
          refine lv_iload hx hb d_M_growth_41 (lv_at hl 0 rfl) ?_
          refine st_isub hx hb (by omega) d_M_growth_43 ?_
          refine lv_iconst (v := nI 0) hx hb d_M_growth_44 (by decide) ?_
          refine k_callv (va_runV (As := [.int (nI (pp + (hf qq))), .int (nI (qq - (hf qq))), .int (nI 0)]) (rest := []) ⟨hx, hb, hml, hown, hts⟩ (c_M_side l D tk H.size h ad γ la tl b0 (pp + (hf qq)) (qq - (hf qq)) (nI 0) (by decide) (by omega) hb0) (cwV 3 hts (gV t_1160 t_1162 s_30 t_9 t_1163) rfl rfl rfl (by decide +kernel) ⟨Nat.le_of_ble_eq_true rfl, Nat.le_of_ble_eq_true rfl⟩) (k_preV hP hK hD hnw 0 rfl rfl) rfl rfl hl.1 rfl (lv_room (Nat.le_of_ble_eq_true rfl)) d_M_growth_45 hc0) hD hS hA (fun _ H locs hp45 hP hD hK hS => ?_)
          replace hP : va_P D CC (wM tk h ad (sdM γ b0 (pp + (hf qq)) (qq - (hf qq)) (nI 0)) la ++ tl) H := hP
          replace hD : va_D A (wM tk h ad (sdM γ b0 (pp + (hf qq)) (qq - (hf qq)) (nI 0)) la ++ tl) := hD
          refine lv_iload hx hb d_M_growth_48 (lv_at hl 0 rfl) ?_
          refine lv_istore (lv' := [(4, .int (nI (hf qq))), (6, .int (nI (hf qq))), (0, .ref h), (1, .int (nI m0)), (2, .int (nI n)), (3, .int (nI pp)), (5, .int (nI lf))]) hx hb d_M_growth_50 hl (by decide) rfl (fun ls hl => ?_)
          refine lv_goto hx hb d_M_growth_52 (tgt := 82) (by decide) ?_
          refine lv_goto hx hb d_M_growth_82 (tgt := 13) (by decide) ?_
          exact ih13 f0 pp (hf qq) lf (b0 + 1) (sdM γ b0 (pp + (hf qq)) (qq - (hf qq)) (nI 0)) ls _ _ (by omega) (by omega) (by omega) (by rw [← hR, grL_l (by omega) (by omega)]; rfl) (by rw [← hR2, grP_l (by omega) (by omega)]) rfl (lv_sub hl [2, 3, 4, 5, 0, 6] rfl) hP hD hS
  exact key13 _ 5 0 n m0 0 (mup g 17 0 (nI 0)) ls _ _ (Nat.lt_succ_self _) (⟨by have := lg_1 (q := n) (by omega); omega, by omega, by omega, by omega⟩) (⟨by have := lg_1 (q := n) (by omega); omega, by omega⟩) rfl rfl rfl (lv_sub hl [3, 4, 5, 2, 1, 0] rfl) hP hD hS

/-- the stack of the reference's seal, the top first: seals and how many leaves each is over -/
def cpF : Nat → Bool → List (Int32 × Nat) → List (Int32 × Nat)
  | 0, _, st => st
  | f + 1, z, x :: y :: r => if y.2 = x.2 ∨ z = true then cpF f z ((jn y.1 x.1, y.2 + x.2) :: r) else x :: y :: r
  | _ + 1, _, st => st
def stS (f4 : Nat → Int32) (pp q : Nat) : Nat → List (Int32 × Nat)
  | 0 => []
  | j + 1 => cpF 8 (decide (j + 1 = q)) ((lf (pp + j) (f4 (pp + j)), 1) :: stS f4 pp q j)
def slM (f4 : Nat → Int32) (pp q : Nat) : Int32 := ((stS f4 pp q q).head?.map (fun x => x.1)).getD 0
/-- the counts alone -/
def cnF : Nat → Bool → List Nat → List Nat
  | 0, _, st => st
  | f + 1, z, x :: y :: r => if y = x ∨ z = true then cnF f z ((y + x) :: r) else x :: y :: r
  | _ + 1, _, st => st
def stN (q : Nat) : Nat → List Nat
  | 0 => []
  | j + 1 => cnF 8 (decide (j + 1 = q)) (1 :: stN q j)
theorem cpF_cn : ∀ (f : Nat) (z : Bool) (st : List (Int32 × Nat)), (cpF f z st).map (fun x => x.2) = cnF f z (st.map (fun x => x.2)) := by
  intro f
  induction f with
  | zero => intro z st; rfl
  | succ f ih =>
    intro z st
    match st with
    | [] => rfl
    | [x] => rfl
    | x :: y :: r =>
      rw [cpF, List.map_cons, List.map_cons, cnF]
      split
      · rw [ih]; rfl
      · rfl
theorem stS_cn (f4 : Nat → Int32) (pp q : Nat) : ∀ j, (stS f4 pp q j).map (fun x => x.2) = stN q j := by
  intro j
  induction j with
  | zero => rfl
  | succ j ih => rw [stS, cpF_cn, List.map_cons, ih]; rfl
theorem stN_len : ∀ q, q < 17 → ∀ j, j < 17 → j ≤ q → (stN q j).length ≤ 5 ∧ (j = q → 0 < q → (stN q j).length = 1) := by decide +kernel
theorem stN_sum : ∀ q, q < 17 → ∀ j, j < 17 → j ≤ q → (stN q j).sum = j := by decide +kernel
theorem stS_sum (f4 : Nat → Int32) (pp : Nat) {q j : Nat} (hq : q ≤ 16) (hj : j ≤ q) : ((stS f4 pp q j).map (fun x => x.2)).sum = j := by
  rw [stS_cn]
  exact stN_sum q (by omega) j (by omega) hj
theorem stS_succ (f4 : Nat → Int32) (pp q j : Nat) : stS f4 pp q (j + 1) = cpF 8 (decide (j + 1 = q)) ((lf (pp + j) (f4 (pp + j)), 1) :: stS f4 pp q j) := by rw [stS]
theorem stS_len (f4 : Nat → Int32) (pp : Nat) {q j : Nat} (hq : q ≤ 16) (hj : j ≤ q) : (stS f4 pp q j).length ≤ 5 := by
  have := (stN_len q (by omega) j (by omega) hj).1
  rw [← stS_cn f4 pp q j, List.length_map] at this
  exact this
theorem stS_one (f4 : Nat → Int32) (pp : Nat) {q : Nat} (hq : q ≤ 16) (h0 : 0 < q) : (stS f4 pp q q).length = 1 := by
  have := (stN_len q (by omega) q (by omega) (Nat.le_refl _)).2 rfl h0
  rw [← stS_cn f4 pp q q, List.length_map] at this
  exact this
/-- the rows hold the stack -/
def sk (g : Nat → Nat → Int32) : List (Int32 × Nat) → Prop
  | [] => True
  | x :: r => g 15 r.length = x.1 ∧ g 16 r.length = nI x.2 ∧ sk g r
theorem sk_eq {g g' : Nat → Nat → Int32} : ∀ {r : List (Int32 × Nat)}, sk g r → (∀ i, i < r.length → g' 15 i = g 15 i ∧ g' 16 i = g 16 i) → sk g' r := by
  intro r
  induction r with
  | nil => intro _ _; trivial
  | cons x r ih =>
    intro h he
    obtain ⟨h1, h2, h3⟩ := h
    have h4 := he r.length (by simp)
    exact ⟨h4.1.trans h1, h4.2.trans h2, ih h3 (fun i hi => he i (by simp; omega))⟩
theorem sk_put {g : Nat → Nat → Int32} {r : List (Int32 × Nat)} (h : sk g r) (x : Int32) (k : Nat) : sk (mup (mup g 15 r.length x) 16 r.length (nI k)) ((x, k) :: r) := by
  refine ⟨?_, ?_, sk_eq h (fun i hi => ?_)⟩
  · rw [mup_ne (by decide), mup_eq]; exact if_pos rfl
  · rw [mup_eq]; exact if_pos rfl
  · rw [mup_ne (by decide), mup_eq, mup_eq, mup_ne (by decide)]
    exact ⟨if_neg (by omega), if_neg (by omega)⟩
theorem two_of {α : Type} {st : List α} (h : 1 < st.length) : ∃ x y r, st = x :: y :: r := by
  match st, h with
  | x :: y :: r, _ => exact ⟨x, y, r, rfl⟩
theorem cpF_stop {f : Nat} {z : Bool} {st : List (Int32 × Nat)} (h : st.length ≤ 1) : cpF f z st = st := by
  match f, st, h with
  | 0, _, _ => rfl
  | _ + 1, [], _ => rfl
  | _ + 1, [x], _ => rfl
theorem cpF_go {f : Nat} {z : Bool} {x y : Int32 × Nat} {r : List (Int32 × Nat)} (h : y.2 = x.2 ∨ z = true) : cpF (f + 1) z (x :: y :: r) = cpF f z ((jn y.1 x.1, y.2 + x.2) :: r) := by rw [cpF, if_pos h]
theorem cpF_no {f : Nat} {z : Bool} {x y : Int32 × Nat} {r : List (Int32 × Nat)} (h : ¬ (y.2 = x.2 ∨ z = true)) : cpF (f + 1) z (x :: y :: r) = x :: y :: r := by rw [cpF, if_neg h]

theorem slM_0 (f4 : Nat → Int32) (pp : Nat) : slM f4 pp 0 = 0 := rfl
theorem slM_1 {g : Nat → Nat → Int32} {f4 : Nat → Int32} {pp q : Nat} (hq : q ≤ 16) (h0 : 0 < q) (h : sk g (stS f4 pp q q)) : g 15 0 = slM f4 pp q := by
  have h1 := stS_one f4 pp hq h0
  unfold slM
  generalize stS f4 pp q q = st at h h1
  match st, h1 with
  | [x], _ => exact h.1

set_option maxHeartbeats 4000000 in
set_option maxRecDepth 100000 in
theorem c_M_seal (l : Launch) (D : va_G) (tk : Nat → ClassId) (sz : Nat) (h : Nat) (ad : Nat → Nat) (g : Nat → Nat → Int32) (la : Nat → Int64) (tl : va_W) (pp q : Nat) (hq : q ≤ 16) (hpq : pp + q ≤ 16) : Met l y_M_seal w_M_seal ({ frames := 2, cells := 0, slots := 0, locals := 43 }) (va_Pc [.ref h, .int (nI pp), .int (nI q)] (k_pre D (TY tk) sz (wM tk h ad g la ++ tl))) (va_Qi (fun (r : Int32) (u : Nat → Nat → Int32) => (∀ x, x ≠ 15 → x ≠ 16 → u x = g x) ∧ r = slM (g 4) pp q) (fun u t => k_at D (TY tk) (va_A (wM tk h ad g la ++ tl) sz) ((fun u => wM tk h ad u la ++ tl) u) t) (va_A (wM tk h ad g la ++ tl) sz)) 0 0 (va_A (wM tk h ad g la ++ tl) sz) := by
  refine k_ofW (fun A => va_Qi (fun (r : Int32) (u : Nat → Nat → Int32) => (∀ x, x ≠ 15 → x ≠ 16 → u x = g x) ∧ r = slM (g 4) pp q) (fun u t => k_at D (TY tk) A ((fun u => wM tk h ad u la ++ tl) u) t) A) (by decide) (Nat.le_of_ble_eq_true rfl) ?_
  intro p e s m args below meth c Q A ls hQ hx hb hr hlk hin hts hT hown hml hnw hP hK hD hA hsz hl
  have hS : va_S A s.heap s.heap [] := va_S.rf
  have hc0 : 0 + 0 ≤ 0 ∧ 0 + 0 ≤ 0 := ⟨by decide, by decide⟩
  replace hl : lv_has ls 5 [(0, .ref h), (1, .int (nI pp)), (2, .int (nI q))] := hl
  replace hP : va_P D CC (wM tk h ad g la ++ tl) s.heap := hP
  replace hK : va_K D CC (TY tk) s := hK
  refine lv_iconst (v := nI 0) hx hb d_M_seal_0 (by decide) ?_
  refine lv_istore_n (lv' := [(3, .int (nI 0)), (0, .ref h), (1, .int (nI pp)), (2, .int (nI q))]) hx hb d_M_seal_1 rfl hl (by decide) rfl (fun ls hl => ?_)
  refine lv_iload_n hx hb d_M_seal_2 rfl (lv_at hl 2 rfl) ?_
  refine lv_istore (lv' := [(4, .int (nI pp)), (3, .int (nI 0)), (0, .ref h), (1, .int (nI pp)), (2, .int (nI q))]) hx hb d_M_seal_3 hl (by decide) rfl (fun ls hl => ?_)
  have key5 : ∀ (n5 : Nat) (j : Nat) (γ : Nat → Nat → Int32) (ls : Array Slot) (H : Heap) (locs : List Loc), q - j < n5 → (j ≤ q) → (sk γ (stS (g 4) pp q j)) → (∀ x, x ≠ 15 → x ≠ 16 → γ x = g x) → lv_has ls 5 [(0, .ref h), (1, .int (nI pp)), (2, .int (nI q)), (3, .int (nI ((stS (g 4) pp q j).length))), (4, .int (nI (pp + j)))] → va_P D CC (wM tk h ad γ la ++ tl) H → va_D A (wM tk h ad γ la ++ tl) → va_S A s.heap H locs → W p l e ({ frames := 2, cells := 0, slots := 0, locals := 43 } : Room) s m args below meth c H locs 0 0 Q (F0 m 5 ls []) := by
    intro n5
    induction n5 with
    | zero => intro j γ ls H locs hn; exact absurd hn (Nat.not_lt_zero _)
    | succ n5 ih5 =>
      intro j γ ls H locs hn5 hj hsk hfr hl hP hD hS
      have hlen := stS_len (g 4) pp (q := q) (j := j) (by omega) hj
      refine lv_iload hx hb d_M_seal_5 (lv_at hl 4 rfl) ?_
      refine lv_iload_n hx hb d_M_seal_7 rfl (lv_at hl 1 rfl) ?_
      refine lv_iload_n hx hb d_M_seal_8 rfl (lv_at hl 2 rfl) ?_
      refine st_iadd hx hb d_M_seal_9 ?_
      refine st_icmp_ge hx hb (by omega) (by omega) d_M_seal_10 (tgt := 135) (by decide) (fun hc10 => ?_) (fun hc10 => ?_)
      · skip
        replace hsk : sk γ (stS (g 4) pp q q) := by rw [show j = q by omega] at hsk; exact hsk
        refine lv_iload_n hx hb d_M_seal_135 rfl (lv_at hl 2 rfl) ?_
        refine st_if_ne hx hb (by omega) d_M_seal_136 (tgt := 143) (by decide) (fun hc136 => ?_) (fun hc136 => ?_)
        · skip
          have hans : γ 15 0 = slM (g 4) pp q := slM_1 hq hc136 hsk
          refine lv_aload_n hx hb d_M_seal_143 rfl (lv_at hl 0 rfl) ?_
          refine gf_M_39 (v := .ref (ad 15)) hx hb hT hown hK hP 0 rfl rfl d_M_seal_144 ?_
          refine lv_iconst (v := nI 0) hx hb d_M_seal_147 (by decide) ?_
          refine st_iald hx hb hK hP 10 0 rfl rfl (by omega) (by decide) d_M_seal_148 ?_
          exact k_iret (v := γ 15 0) hQ hx hb hr hlk hK hP hD hS γ rfl (⟨hfr, hans⟩) d_M_seal_149
        · skip
          have hans : nI 0 = slM (g 4) pp q := by rw [hc136]; exact (slM_0 _ _).symm
          refine lv_iconst (v := nI 0) hx hb d_M_seal_139 (by decide) ?_
          refine lv_goto hx hb d_M_seal_140 (tgt := 149) (by decide) ?_
          exact k_iret (v := nI 0) hQ hx hb hr hlk hK hP hD hS γ rfl (⟨hfr, hans⟩) d_M_seal_149
      · skip
        refine lv_aload_n hx hb d_M_seal_13 rfl (lv_at hl 0 rfl) ?_
        refine gf_M_39 (v := .ref (ad 15)) hx hb hT hown hK hP 0 rfl rfl d_M_seal_14 ?_
        refine lv_iload_n hx hb d_M_seal_17 rfl (lv_at hl 3 rfl) ?_
        refine lv_iload hx hb d_M_seal_18 (lv_at hl 4 rfl) ?_
        refine lv_aload_n hx hb d_M_seal_20 rfl (lv_at hl 0 rfl) ?_
        refine gf_M_17 (v := .ref (ad 4)) hx hb hT hown hK hP 0 rfl rfl d_M_seal_21 ?_
        refine lv_iload hx hb d_M_seal_24 (lv_at hl 4 rfl) ?_
        refine st_iald hx hb hK hP 3 0 rfl rfl (by omega) (by decide) d_M_seal_26 ?_
        refine st_top (show γ 4 (pp + j) = g 4 (pp + j) from by rw [hfr 4 (by decide) (by decide)]) ?_
        refine k_calli (va_runS (As := [.int (nI (pp + j)), .int (g 4 (pp + j))]) (rest := [.int (nI ((stS (g 4) pp q j).length)), .ref (ad 15)]) ⟨hx, hb, hml, hown, hts⟩ (c_M_leafOf l D tk H.size (pp + j) (g 4 (pp + j)) (wM tk h ad γ la ++ tl)) (cwS 2 hts (gS t_1143 t_1144 t_9 t_1145) rfl rfl rfl (by decide +kernel) ⟨Nat.le_of_ble_eq_true rfl, Nat.le_of_ble_eq_true rfl⟩) (k_preS hP hK hD hnw) rfl rfl hl.1 rfl (lv_room (Nat.le_of_ble_eq_true rfl)) d_M_seal_27 hc0) hD hS hA (fun _ _ H locs hp27 hP hD hK hS => ?_)
        subst hp27
        replace hP : va_P D CC (wM tk h ad γ la ++ tl) H := hP
        replace hD : va_D A (wM tk h ad γ la ++ tl) := hD
        refine lv_topi (fun y30_1 e30_1 => ?_)
        refine st_iast hx hb hK hP hD hS 10 0 rfl rfl (by omega) (by decide) d_M_seal_30 (fun H locs hP hD hS => ?_)
        replace hP : va_P D CC (wM tk h ad (mup γ 15 ((stS (g 4) pp q j).length) y30_1) la ++ tl) H := hP
        replace hD : va_D A (wM tk h ad (mup γ 15 ((stS (g 4) pp q j).length) y30_1) la ++ tl) := hD
        refine lv_aload_n hx hb d_M_seal_31 rfl (lv_at hl 0 rfl) ?_
        refine gf_M_42 (v := .ref (ad 16)) hx hb hT hown hK hP 0 rfl rfl d_M_seal_32 ?_
        refine lv_iload_n hx hb d_M_seal_35 rfl (lv_at hl 3 rfl) ?_
        refine lv_iconst (v := nI 1) hx hb d_M_seal_36 (by decide) ?_
        refine st_iast hx hb hK hP hD hS 11 0 rfl rfl (by omega) (by decide) d_M_seal_37 (fun H locs hP hD hS => ?_)
        replace hP : va_P D CC (wM tk h ad (mup (mup γ 15 ((stS (g 4) pp q j).length) y30_1) 16 ((stS (g 4) pp q j).length) (nI 1)) la ++ tl) H := hP
        replace hD : va_D A (wM tk h ad (mup (mup γ 15 ((stS (g 4) pp q j).length) y30_1) 16 ((stS (g 4) pp q j).length) (nI 1)) la ++ tl) := hD
        refine lv_iinc (k := 3) (v := nI ((stS (g 4) pp q j).length + 1)) (lv' := [(3, .int (nI ((stS (g 4) pp q j).length + 1))), (0, .ref h), (1, .int (nI pp)), (2, .int (nI q)), (4, .int (nI (pp + j)))]) hx hb d_M_seal_38 hl rfl (nI_add _ _) (by decide) rfl (fun ls hl => ?_)
        subst e30_1
        replace hl : lv_has ls 5 [(3, .int (nI (((lf (pp + j) (g 4 (pp + j)), 1) :: stS (g 4) pp q j).length))), (0, .ref h), (1, .int (nI pp)), (2, .int (nI q)), (4, .int (nI (pp + j)))] := hl
        have key41 : ∀ (n41 : Nat) (f1 : Nat) (st : List (Int32 × Nat)) (γ : Nat → Nat → Int32) (ls : Array Slot) (H : Heap) (locs : List Loc), st.length < n41 → (st.length ≤ 8 ∧ st.length ≤ f1) → (cpF f1 (decide (j + 1 = q)) st = stS (g 4) pp q (j + 1)) → (sk γ st) → (∀ x, x ≠ 15 → x ≠ 16 → γ x = g x) → ((st.map (fun x => x.2)).sum ≤ 16) → lv_has ls 5 [(0, .ref h), (1, .int (nI pp)), (2, .int (nI q)), (3, .int (nI st.length)), (4, .int (nI (pp + j)))] → va_P D CC (wM tk h ad γ la ++ tl) H → va_D A (wM tk h ad γ la ++ tl) → va_S A s.heap H locs → W p l e ({ frames := 2, cells := 0, slots := 0, locals := 43 } : Room) s m args below meth c H locs 0 0 Q (F0 m 41 ls []) := by
          intro n41
          induction n41 with
          | zero => intro f1 st γ ls H locs hn; exact absurd hn (Nat.not_lt_zero _)
          | succ n41 ih41 =>
            intro f1 st γ ls H locs hn41 hst hR hsk hfr hsu hl hP hD hS
            refine lv_iload_n hx hb d_M_seal_41 rfl (lv_at hl 3 rfl) ?_
            refine lv_iconst (v := nI 1) hx hb d_M_seal_42 (by decide) ?_
            refine st_icmp_le hx hb (by omega) (by omega) d_M_seal_43 (tgt := 129) (by decide) (fun hc43 => ?_) (fun hc43 => ?_)
            · skip
              have hcs : cpF f1 (decide (j + 1 = q)) st = st := cpF_stop (by omega)
              refine lv_iinc (k := 4) (v := nI (pp + j + 1)) (lv' := [(4, .int (nI (pp + j + 1))), (0, .ref h), (1, .int (nI pp)), (2, .int (nI q)), (3, .int (nI st.length))]) hx hb d_M_seal_129 hl rfl (nI_add _ _) (by decide) rfl (fun ls hl => ?_)
              refine lv_goto hx hb d_M_seal_132 (tgt := 5) (by decide) ?_
              replace hl : lv_has ls 5 [(4, .int (nI (pp + (j + 1)))), (0, .ref h), (1, .int (nI pp)), (2, .int (nI q)), (3, .int (nI ((stS (g 4) pp q (j + 1)).length)))] := by rw [← hR, hcs]; exact hl
              exact ih5 (j + 1) γ ls _ _ (by omega) (by omega) (by rw [← hR, hcs]; exact hsk) hfr (lv_sub hl [1, 2, 3, 4, 0] rfl) hP hD hS
            · skip
              obtain ⟨⟨b, m0⟩, ⟨a, k0⟩, r, rfl⟩ := two_of hc43
              obtain ⟨f0, rfl⟩ : ∃ f0, f1 = f0 + 1 := ⟨f1 - 1, by simp only [List.length_cons] at hst; omega⟩
              simp only [List.map_cons, List.sum_cons] at hsu
              have hrl : r.length + 2 ≤ 8 := by simp only [List.length_cons] at hst; omega
              have hsk1 : γ 15 (r.length + 1) = b ∧ γ 16 (r.length + 1) = nI m0 ∧ γ 15 r.length = a ∧ γ 16 r.length = nI k0 := ⟨hsk.1, hsk.2.1, hsk.2.2.1, hsk.2.2.2.1⟩
              replace hl : lv_has ls 5 [(0, .ref h), (1, .int (nI pp)), (2, .int (nI q)), (3, .int (nI (r.length + 2))), (4, .int (nI (pp + j)))] := hl
              refine lv_aload_n hx hb d_M_seal_46 rfl (lv_at hl 0 rfl) ?_
              refine gf_M_42 (v := .ref (ad 16)) hx hb hT hown hK hP 0 rfl rfl d_M_seal_47 ?_
              refine lv_iload_n hx hb d_M_seal_50 rfl (lv_at hl 3 rfl) ?_
              refine lv_iconst (v := nI 2) hx hb d_M_seal_51 (by decide) ?_
              refine st_isub hx hb (by omega) d_M_seal_52 ?_
              refine st_iald hx hb hK hP 11 0 rfl rfl (by omega) (by decide) d_M_seal_53 ?_
              refine st_top (show γ 16 ((r.length + 2) - 2) = nI k0 from by rw [show r.length + 2 - 2 = r.length by omega]; exact hsk1.2.2.2) ?_
              refine lv_aload_n hx hb d_M_seal_54 rfl (lv_at hl 0 rfl) ?_
              refine gf_M_42 (v := .ref (ad 16)) hx hb hT hown hK hP 0 rfl rfl d_M_seal_55 ?_
              refine lv_iload_n hx hb d_M_seal_58 rfl (lv_at hl 3 rfl) ?_
              refine lv_iconst (v := nI 1) hx hb d_M_seal_59 (by decide) ?_
              refine st_isub hx hb (by omega) d_M_seal_60 ?_
              refine st_iald hx hb hK hP 11 0 rfl rfl (by omega) (by decide) d_M_seal_61 ?_
              refine st_top (show γ 16 ((r.length + 2) - 1) = nI m0 from by rw [show r.length + 2 - 1 = r.length + 1 by omega]; exact hsk1.2.1) ?_
              refine st_icmp_eq hx hb (by omega) (by omega) d_M_seal_62 (tgt := 75) (by decide) (fun hc62 => ?_) (fun hc62 => ?_)
              · skip
                have hcond : k0 = m0 ∨ decide (j + 1 = q) = true := Or.inl hc62
                refine lv_iinc (k := 3) (v := nI (r.length + 1)) (lv' := [(3, .int (nI (r.length + 1))), (0, .ref h), (1, .int (nI pp)), (2, .int (nI q)), (4, .int (nI (pp + j)))]) hx hb d_M_seal_75 hl rfl (sb_m1 (p := r.length + 2) (by omega)) (by decide) rfl (fun ls hl => ?_)
                refine lv_aload_n hx hb d_M_seal_78 rfl (lv_at hl 1 rfl) ?_
                refine gf_M_39 (v := .ref (ad 15)) hx hb hT hown hK hP 0 rfl rfl d_M_seal_79 ?_
                refine lv_iload_n hx hb d_M_seal_82 rfl (lv_at hl 0 rfl) ?_
                refine lv_iconst (v := nI 1) hx hb d_M_seal_83 (by decide) ?_
                refine st_isub hx hb (by omega) d_M_seal_84 ?_
                refine lv_aload_n hx hb d_M_seal_85 rfl (lv_at hl 1 rfl) ?_
                refine gf_M_39 (v := .ref (ad 15)) hx hb hT hown hK hP 0 rfl rfl d_M_seal_86 ?_
                refine lv_iload_n hx hb d_M_seal_89 rfl (lv_at hl 0 rfl) ?_
                refine lv_iconst (v := nI 1) hx hb d_M_seal_90 (by decide) ?_
                refine st_isub hx hb (by omega) d_M_seal_91 ?_
                refine st_iald hx hb hK hP 10 0 rfl rfl (by omega) (by decide) d_M_seal_92 ?_
                refine st_top (show γ 15 ((r.length + 1) - 1) = a from by rw [show r.length + 1 - 1 = r.length by omega]; exact hsk1.2.2.1) ?_
                refine lv_aload_n hx hb d_M_seal_93 rfl (lv_at hl 1 rfl) ?_
                refine gf_M_39 (v := .ref (ad 15)) hx hb hT hown hK hP 0 rfl rfl d_M_seal_94 ?_
                refine lv_iload_n hx hb d_M_seal_97 rfl (lv_at hl 0 rfl) ?_
                refine st_iald hx hb hK hP 10 0 rfl rfl (by omega) (by decide) d_M_seal_98 ?_
                refine st_top (show γ 15 (r.length + 1) = b from hsk1.1) ?_
                refine k_calli (va_runS (As := [.int a, .int b]) (rest := [.int (nI ((r.length + 1) - 1)), .ref (ad 15)]) ⟨hx, hb, hml, hown, hts⟩ (c_M_join l D tk H.size a b (wM tk h ad γ la ++ tl)) (cwS 2 hts (gS t_1146 t_1147 t_9 t_1148) rfl rfl rfl (by decide +kernel) ⟨Nat.le_of_ble_eq_true rfl, Nat.le_of_ble_eq_true rfl⟩) (k_preS hP hK hD hnw) rfl rfl hl.1 rfl (lv_room (Nat.le_of_ble_eq_true rfl)) d_M_seal_99 hc0) hD hS hA (fun _ _ H locs hp99 hP hD hK hS => ?_)
                subst hp99
                replace hP : va_P D CC (wM tk h ad γ la ++ tl) H := hP
                replace hD : va_D A (wM tk h ad γ la ++ tl) := hD
                refine lv_topi (fun y102_2 e102_2 => ?_)
                refine st_iast hx hb hK hP hD hS 10 0 rfl rfl (by omega) (by decide) d_M_seal_102 (fun H locs hP hD hS => ?_)
                replace hP : va_P D CC (wM tk h ad (mup γ 15 ((r.length + 1) - 1) y102_2) la ++ tl) H := hP
                replace hD : va_D A (wM tk h ad (mup γ 15 ((r.length + 1) - 1) y102_2) la ++ tl) := hD
                refine lv_aload_n hx hb d_M_seal_103 rfl (lv_at hl 1 rfl) ?_
                refine gf_M_42 (v := .ref (ad 16)) hx hb hT hown hK hP 0 rfl rfl d_M_seal_104 ?_
                refine lv_iload_n hx hb d_M_seal_107 rfl (lv_at hl 0 rfl) ?_
                refine lv_iconst (v := nI 1) hx hb d_M_seal_108 (by decide) ?_
                refine st_isub hx hb (by omega) d_M_seal_109 ?_
                refine lv_aload_n hx hb d_M_seal_110 rfl (lv_at hl 1 rfl) ?_
                refine gf_M_42 (v := .ref (ad 16)) hx hb hT hown hK hP 0 rfl rfl d_M_seal_111 ?_
                refine lv_iload_n hx hb d_M_seal_114 rfl (lv_at hl 0 rfl) ?_
                refine lv_iconst (v := nI 1) hx hb d_M_seal_115 (by decide) ?_
                refine st_isub hx hb (by omega) d_M_seal_116 ?_
                refine st_iald hx hb hK hP 11 0 rfl rfl (by omega) (by decide) d_M_seal_117 ?_
                refine st_top (show γ 16 ((r.length + 1) - 1) = nI k0 from by rw [show r.length + 1 - 1 = r.length by omega]; exact hsk1.2.2.2) ?_
                refine lv_aload_n hx hb d_M_seal_118 rfl (lv_at hl 1 rfl) ?_
                refine gf_M_42 (v := .ref (ad 16)) hx hb hT hown hK hP 0 rfl rfl d_M_seal_119 ?_
                refine lv_iload_n hx hb d_M_seal_122 rfl (lv_at hl 0 rfl) ?_
                refine st_iald hx hb hK hP 11 0 rfl rfl (by omega) (by decide) d_M_seal_123 ?_
                refine st_top (show γ 16 (r.length + 1) = nI m0 from hsk1.2.1) ?_
                refine st_iadd hx hb d_M_seal_124 ?_
                refine st_iast hx hb hK hP hD hS 11 0 rfl rfl (by omega) (by decide) d_M_seal_125 (fun H locs hP hD hS => ?_)
                replace hP : va_P D CC (wM tk h ad (mup (mup γ 15 ((r.length + 1) - 1) y102_2) 16 ((r.length + 1) - 1) (nI (k0 + m0))) la ++ tl) H := hP
                replace hD : va_D A (wM tk h ad (mup (mup γ 15 ((r.length + 1) - 1) y102_2) 16 ((r.length + 1) - 1) (nI (k0 + m0))) la ++ tl) := hD
                refine lv_goto hx hb d_M_seal_126 (tgt := 41) (by decide) ?_
                subst e102_2
                replace hl : lv_has ls 5 [(3, .int (nI (((jn a b, k0 + m0) :: r).length))), (0, .ref h), (1, .int (nI pp)), (2, .int (nI q)), (4, .int (nI (pp + j)))] := hl
                exact ih41 f0 ((jn a b, k0 + m0) :: r) (mup (mup γ 15 ((r.length + 1) - 1) (jn a b)) 16 ((r.length + 1) - 1) (nI (k0 + m0))) ls _ _ (by simp only [List.length_cons] at hn41 ⊢; omega) (by simp only [List.length_cons] at hst ⊢; omega) (by rw [← hR, cpF_go hcond]) (by rw [show r.length + 1 - 1 = r.length by omega]; exact sk_put hsk.2.2.2.2 _ _) (fun x h1 h2 => by rw [mup_ne h2, mup_ne h1]; exact hfr x h1 h2) (by simp only [List.map_cons, List.sum_cons]; omega) (lv_sub hl [1, 2, 3, 0, 4] rfl) hP hD hS
              · skip
                refine lv_iload hx hb d_M_seal_65 (lv_at hl 4 rfl) ?_
                refine lv_iload_n hx hb d_M_seal_67 rfl (lv_at hl 1 rfl) ?_
                refine lv_iload_n hx hb d_M_seal_68 rfl (lv_at hl 2 rfl) ?_
                refine st_iadd hx hb d_M_seal_69 ?_
                refine lv_iconst (v := nI 1) hx hb d_M_seal_70 (by decide) ?_
                refine st_isub hx hb (by omega) d_M_seal_71 ?_
                refine st_icmp_ne hx hb (by omega) (by omega) d_M_seal_72 (tgt := 129) (by decide) (fun hc72 => ?_) (fun hc72 => ?_)
                · skip
                  have hcs : cpF (f0 + 1) (decide (j + 1 = q)) ((b, m0) :: (a, k0) :: r) = (b, m0) :: (a, k0) :: r := cpF_no (by rintro (q9 | q9); exact hc62 q9; exact hc72 (by have := of_decide_eq_true q9; omega))
                  refine lv_iinc (k := 4) (v := nI (pp + j + 1)) (lv' := [(4, .int (nI (pp + j + 1))), (0, .ref h), (1, .int (nI pp)), (2, .int (nI q)), (3, .int (nI (r.length + 2)))]) hx hb d_M_seal_129 hl rfl (nI_add _ _) (by decide) rfl (fun ls hl => ?_)
                  refine lv_goto hx hb d_M_seal_132 (tgt := 5) (by decide) ?_
                  replace hl : lv_has ls 5 [(4, .int (nI (pp + (j + 1)))), (0, .ref h), (1, .int (nI pp)), (2, .int (nI q)), (3, .int (nI ((stS (g 4) pp q (j + 1)).length)))] := by rw [← hR, hcs]; exact hl
                  exact ih5 (j + 1) γ ls _ _ (by omega) (by omega) (by rw [← hR, hcs]; exact hsk) hfr (lv_sub hl [1, 2, 3, 4, 0] rfl) hP hD hS
                · skip
                  have hcond : k0 = m0 ∨ decide (j + 1 = q) = true := Or.inr (decide_eq_true (by omega))
                  refine lv_iinc (k := 3) (v := nI (r.length + 1)) (lv' := [(3, .int (nI (r.length + 1))), (0, .ref h), (1, .int (nI pp)), (2, .int (nI q)), (4, .int (nI (pp + j)))]) hx hb d_M_seal_75 hl rfl (sb_m1 (p := r.length + 2) (by omega)) (by decide) rfl (fun ls hl => ?_)
                  refine lv_aload_n hx hb d_M_seal_78 rfl (lv_at hl 1 rfl) ?_
                  refine gf_M_39 (v := .ref (ad 15)) hx hb hT hown hK hP 0 rfl rfl d_M_seal_79 ?_
                  refine lv_iload_n hx hb d_M_seal_82 rfl (lv_at hl 0 rfl) ?_
                  refine lv_iconst (v := nI 1) hx hb d_M_seal_83 (by decide) ?_
                  refine st_isub hx hb (by omega) d_M_seal_84 ?_
                  refine lv_aload_n hx hb d_M_seal_85 rfl (lv_at hl 1 rfl) ?_
                  refine gf_M_39 (v := .ref (ad 15)) hx hb hT hown hK hP 0 rfl rfl d_M_seal_86 ?_
                  refine lv_iload_n hx hb d_M_seal_89 rfl (lv_at hl 0 rfl) ?_
                  refine lv_iconst (v := nI 1) hx hb d_M_seal_90 (by decide) ?_
                  refine st_isub hx hb (by omega) d_M_seal_91 ?_
                  refine st_iald hx hb hK hP 10 0 rfl rfl (by omega) (by decide) d_M_seal_92 ?_
                  refine st_top (show γ 15 ((r.length + 1) - 1) = a from by rw [show r.length + 1 - 1 = r.length by omega]; exact hsk1.2.2.1) ?_
                  refine lv_aload_n hx hb d_M_seal_93 rfl (lv_at hl 1 rfl) ?_
                  refine gf_M_39 (v := .ref (ad 15)) hx hb hT hown hK hP 0 rfl rfl d_M_seal_94 ?_
                  refine lv_iload_n hx hb d_M_seal_97 rfl (lv_at hl 0 rfl) ?_
                  refine st_iald hx hb hK hP 10 0 rfl rfl (by omega) (by decide) d_M_seal_98 ?_
                  refine st_top (show γ 15 (r.length + 1) = b from hsk1.1) ?_
                  refine k_calli (va_runS (As := [.int a, .int b]) (rest := [.int (nI ((r.length + 1) - 1)), .ref (ad 15)]) ⟨hx, hb, hml, hown, hts⟩ (c_M_join l D tk H.size a b (wM tk h ad γ la ++ tl)) (cwS 2 hts (gS t_1146 t_1147 t_9 t_1148) rfl rfl rfl (by decide +kernel) ⟨Nat.le_of_ble_eq_true rfl, Nat.le_of_ble_eq_true rfl⟩) (k_preS hP hK hD hnw) rfl rfl hl.1 rfl (lv_room (Nat.le_of_ble_eq_true rfl)) d_M_seal_99 hc0) hD hS hA (fun _ _ H locs hp99 hP hD hK hS => ?_)
                  subst hp99
                  replace hP : va_P D CC (wM tk h ad γ la ++ tl) H := hP
                  replace hD : va_D A (wM tk h ad γ la ++ tl) := hD
                  refine lv_topi (fun y102_3 e102_3 => ?_)
                  refine st_iast hx hb hK hP hD hS 10 0 rfl rfl (by omega) (by decide) d_M_seal_102 (fun H locs hP hD hS => ?_)
                  replace hP : va_P D CC (wM tk h ad (mup γ 15 ((r.length + 1) - 1) y102_3) la ++ tl) H := hP
                  replace hD : va_D A (wM tk h ad (mup γ 15 ((r.length + 1) - 1) y102_3) la ++ tl) := hD
                  refine lv_aload_n hx hb d_M_seal_103 rfl (lv_at hl 1 rfl) ?_
                  refine gf_M_42 (v := .ref (ad 16)) hx hb hT hown hK hP 0 rfl rfl d_M_seal_104 ?_
                  refine lv_iload_n hx hb d_M_seal_107 rfl (lv_at hl 0 rfl) ?_
                  refine lv_iconst (v := nI 1) hx hb d_M_seal_108 (by decide) ?_
                  refine st_isub hx hb (by omega) d_M_seal_109 ?_
                  refine lv_aload_n hx hb d_M_seal_110 rfl (lv_at hl 1 rfl) ?_
                  refine gf_M_42 (v := .ref (ad 16)) hx hb hT hown hK hP 0 rfl rfl d_M_seal_111 ?_
                  refine lv_iload_n hx hb d_M_seal_114 rfl (lv_at hl 0 rfl) ?_
                  refine lv_iconst (v := nI 1) hx hb d_M_seal_115 (by decide) ?_
                  refine st_isub hx hb (by omega) d_M_seal_116 ?_
                  refine st_iald hx hb hK hP 11 0 rfl rfl (by omega) (by decide) d_M_seal_117 ?_
                  refine st_top (show γ 16 ((r.length + 1) - 1) = nI k0 from by rw [show r.length + 1 - 1 = r.length by omega]; exact hsk1.2.2.2) ?_
                  refine lv_aload_n hx hb d_M_seal_118 rfl (lv_at hl 1 rfl) ?_
                  refine gf_M_42 (v := .ref (ad 16)) hx hb hT hown hK hP 0 rfl rfl d_M_seal_119 ?_
                  refine lv_iload_n hx hb d_M_seal_122 rfl (lv_at hl 0 rfl) ?_
                  refine st_iald hx hb hK hP 11 0 rfl rfl (by omega) (by decide) d_M_seal_123 ?_
                  refine st_top (show γ 16 (r.length + 1) = nI m0 from hsk1.2.1) ?_
                  refine st_iadd hx hb d_M_seal_124 ?_
                  refine st_iast hx hb hK hP hD hS 11 0 rfl rfl (by omega) (by decide) d_M_seal_125 (fun H locs hP hD hS => ?_)
                  replace hP : va_P D CC (wM tk h ad (mup (mup γ 15 ((r.length + 1) - 1) y102_3) 16 ((r.length + 1) - 1) (nI (k0 + m0))) la ++ tl) H := hP
                  replace hD : va_D A (wM tk h ad (mup (mup γ 15 ((r.length + 1) - 1) y102_3) 16 ((r.length + 1) - 1) (nI (k0 + m0))) la ++ tl) := hD
                  refine lv_goto hx hb d_M_seal_126 (tgt := 41) (by decide) ?_
                  subst e102_3
                  replace hl : lv_has ls 5 [(3, .int (nI (((jn a b, k0 + m0) :: r).length))), (0, .ref h), (1, .int (nI pp)), (2, .int (nI q)), (4, .int (nI (pp + j)))] := hl
                  exact ih41 f0 ((jn a b, k0 + m0) :: r) (mup (mup γ 15 ((r.length + 1) - 1) (jn a b)) 16 ((r.length + 1) - 1) (nI (k0 + m0))) ls _ _ (by simp only [List.length_cons] at hn41 ⊢; omega) (by simp only [List.length_cons] at hst ⊢; omega) (by rw [← hR, cpF_go hcond]) (by rw [show r.length + 1 - 1 = r.length by omega]; exact sk_put hsk.2.2.2.2 _ _) (fun x h1 h2 => by rw [mup_ne h2, mup_ne h1]; exact hfr x h1 h2) (by simp only [List.map_cons, List.sum_cons]; omega) (lv_sub hl [1, 2, 3, 0, 4] rfl) hP hD hS
        exact key41 _ 8 ((lf (pp + j) (g 4 (pp + j)), 1) :: stS (g 4) pp q j) (mup (mup γ 15 ((stS (g 4) pp q j).length) (lf (pp + j) (g 4 (pp + j)))) 16 ((stS (g 4) pp q j).length) (nI 1)) ls _ _ (Nat.lt_succ_self _) (by have := stS_len (g 4) pp (q := q) (j := j) (by omega) (by omega); simp only [List.length_cons]; omega) ((stS_succ _ _ _ _).symm) (sk_put hsk _ _) (fun x h1 h2 => by rw [mup_ne h2, mup_ne h1]; exact hfr x h1 h2) (by have := stS_sum (g 4) pp (q := q) (j := j) (by omega) (by omega); simp only [List.map_cons, List.sum_cons]; omega) (lv_sub hl [1, 2, 3, 0, 4] rfl) hP hD hS
  exact key5 _ 0 g ls _ _ (Nat.lt_succ_self _) (by omega) trivial (fun _ _ _ => rfl) (lv_sub hl [2, 3, 4, 1, 0] rfl) hP hD hS
