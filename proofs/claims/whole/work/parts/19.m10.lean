theorem it_congr {α : Type} {f f' : α → Nat → α} : ∀ (n k : Nat) (x : α), (∀ y j, k ≤ j → j < k + n → f y j = f' y j) → it_ f k n x = it_ f' k n x := by
  intro n
  induction n with
  | zero => intro k x _; rw [it_, it_]
  | succ n ih =>
    intro k x h
    rw [it_, it_, h x k (Nat.le_refl _) (by omega)]
    exact ih (k + 1) _ (fun y j h1 h2 => h y j (by omega) (by omega))
def olF (g : Nat → Nat → Int32) (b : Nat) (k n : Nat) (h : Int32) : Int32 := it_ (fun x j => if g 20 (b - 1 - j) = 0 then x else jn (g 27 j) x) k n h
theorem olF_go (g : Nat → Nat → Int32) {b k : Nat} (h : k < b) (x : Int32) : olF g b k (b - k) x = olF g b (k + 1) (b - (k + 1)) (if g 20 (b - 1 - k) = 0 then x else jn (g 27 k) x) := by
  have e : b - k = b - (k + 1) + 1 := by omega
  unfold olF
  rw [e, it_]
theorem olF_0 (g : Nat → Nat → Int32) (b k : Nat) (x : Int32) : olF g b k 0 x = x := by
  unfold olF
  rw [it_]
def sZ (L : List (Nat × Nat × Bool)) (i : Nat) : Bool := (L.getD i (0, 0, false)).2.2
/-- up from a seal, by the ints J and the sides L -/
def ld2 (J : Nat → Int32) (L : List (Nat × Nat × Bool)) (f : Nat) (x : Int32) : Int32 := it_ (fun x j => if sZ L (L.length - 1 - j) = false then jn x (J j) else jn (J j) x) f (L.length - f) x
def ol2 (J : Nat → Int32) (L : List (Nat × Nat × Bool)) (f : Nat) (x : Int32) : Int32 := it_ (fun x j => if sZ L (L.length - 1 - j) = false then x else jn (J j) x) f (L.length - f) x
theorem sZ_b {g : Nat → Nat → Int32} {L : List (Nat × Nat × Bool)} (hb : bs g L) {i : Nat} (hi : i < L.length) : g 20 i = 0 ↔ sZ L i = false := by
  have e := List.getElem?_eq_getElem hi
  have h := (hb.2 i _ e).2.2
  unfold sZ
  rw [List.getD_eq_getElem?_getD, e, Option.getD_some, h]
  unfold b1_
  cases (L[i]).2.2
  · exact ⟨fun _ => rfl, fun _ => rfl⟩
  · exact ⟨fun q => absurd q (by decide), fun q => absurd q (by decide)⟩
theorem ld_2 {g w : Nat → Nat → Int32} {L : List (Nat × Nat × Bool)} (hb : bs g L) (h20 : w 20 = g 20) {J : Nat → Int32} (hJ : ∀ j, j < L.length → w 27 j = J j) {f : Nat} (hf : f ≤ L.length) (x : Int32) : ldF w L.length f (L.length - f) x = ld2 J L f x := by
  unfold ldF ld2
  refine it_congr _ _ _ (fun y j h1 h2 => ?_)
  rw [hJ j (by omega), h20]
  by_cases q : g 20 (L.length - 1 - j) = 0
  · rw [if_pos q, if_pos ((sZ_b hb (by omega)).mp q)]
  · rw [if_neg q, if_neg (fun z => q ((sZ_b hb (by omega)).mpr z))]
theorem ol_2 {g w : Nat → Nat → Int32} {L : List (Nat × Nat × Bool)} (hb : bs g L) (h20 : w 20 = g 20) {J : Nat → Int32} (hJ : ∀ j, j < L.length → w 27 j = J j) {f : Nat} (hf : f ≤ L.length) (x : Int32) : olF w L.length f (L.length - f) x = ol2 J L f x := by
  unfold olF ol2
  refine it_congr _ _ _ (fun y j h1 h2 => ?_)
  rw [hJ j (by omega), h20]
  by_cases q : g 20 (L.length - 1 - j) = 0
  · rw [if_pos q, if_pos ((sZ_b hb (by omega)).mp q)]
  · rw [if_neg q, if_neg (fun z => q ((sZ_b hb (by omega)).mpr z))]
theorem gr_ne9 : ∀ n, n < 17 → ∀ m, m < 17 → 1 ≤ m → m ≤ n → ¬ grP 5 0 n m = 0 → 1 ≤ (grL 5 0 n m).length := by decide +kernel
theorem gr_args2 {m n : Int32} (h1 : ¬ m ≤ 0) (h2 : ¬ n ≤ m) (h3 : ¬ nI 17 ≤ n) : ∃ m' n' : Nat, 1 ≤ m' ∧ m' < n' ∧ n' ≤ 16 ∧ m = nI m' ∧ n = nI n' := by
  refine gr_args (V := 16) (by omega) (fun q => h1 ?_) h2 ?_
  · rw [Int32.lt_iff_toInt_lt, nI_toInt (by omega)] at q
    rw [Int32.le_iff_toInt_le]
    have e0 : (0 : Int32).toInt = 0 := by decide
    omega
  · rw [Int32.le_iff_toInt_le, nI_toInt (by omega)] at h3 ⊢
    omega
/-- what the verifier of a growth asks -/
def vgP (g : Nat → Nat → Int32) (t0 : Nat) (one other : Int32) (m n : Nat) : Prop :=
  (rdM g 0 t0 = nI (grL 5 0 n m).length ∧ 1 + 4 * (grL 5 0 n m).length = t0) ∧
  ol2 (fun j => riM g (1 + 4 * j) t0) (grL 5 0 n m) (if grP 5 0 n m = 0 then 0 else 1) (if grP 5 0 n m = 0 then one else riM g (1 + 4 * 0) t0) = one ∧
  ld2 (fun j => riM g (1 + 4 * j) t0) (grL 5 0 n m) (if grP 5 0 n m = 0 then 0 else 1) (if grP 5 0 n m = 0 then one else riM g (1 + 4 * 0) t0) = other

theorem vg_no {m' n' : Nat} (h1 : 1 ≤ m') (h2 : m' < n') (h3 : n' ≤ 16) : ¬ (nI m' ≤ 0 ∨ nI n' ≤ nI m' ∨ nI 17 ≤ nI n') := by
  rintro (q | q | q)
  · exact nI_nle (by omega) (by omega) q
  · exact nI_ge h2 (by omega) q
  · exact nI_ge (by omega : n' < 17) (by omega) q

theorem rd_c {g γ : Nat → Nat → Int32} (h : γ 24 = g 24) (a t0 : Nat) : rdM γ a t0 = rdM g a t0 := by
  unfold rdM
  rw [h]

set_option maxHeartbeats 4000000 in
set_option maxRecDepth 100000 in
theorem c_M_verifyGrowth (l : Launch) (D : va_G) (tk : Nat → ClassId) (sz : Nat) (h : Nat) (ad : Nat → Nat) (g : Nat → Nat → Int32) (la : Nat → Int64) (tl : va_W) (t0 : Nat) (ht0 : t0 ≤ 400) (hgt : g 23 0 = nI t0) (hby : byt g t0) (one ma other na : Int32) (_dec : ∀ m1 n1, Decidable (vgP g t0 one other m1 n1)) : Met l y_M_verifyGrowth w_M_verifyGrowth ({ frames := 4, cells := 0, slots := 0, locals := 89 }) (va_Pc [.ref h, .int one, .int ma, .int other, .int na] (k_pre D (TY tk) sz (wM tk h ad g la ++ tl))) (va_Qi (fun (r : Int32) (u : Nat → Nat → Int32) => ((ma ≤ 0 ∨ na ≤ ma ∨ nI 17 ≤ na) → r = 0 ∧ u = mup g 0 0 (nI 1)) ∧ ∀ m1 n1 : Nat, ma = nI m1 → na = nI n1 → 1 ≤ m1 → m1 < n1 → n1 ≤ 16 → frx [0, 17, 18, 19, 20, 23, 25, 26, 27] g u ∧ u 0 0 = nI 0 ∧ u 23 0 = nI 0 ∧ r = if (vgP g t0 one other m1 n1) then nI 1 else nI 0) (fun u t => k_at D (TY tk) (va_A (wM tk h ad g la ++ tl) sz) ((fun u => wM tk h ad u la ++ tl) u) t) (va_A (wM tk h ad g la ++ tl) sz)) 0 0 (va_A (wM tk h ad g la ++ tl) sz) := by
  refine k_ofW (fun A => va_Qi (fun (r : Int32) (u : Nat → Nat → Int32) => ((ma ≤ 0 ∨ na ≤ ma ∨ nI 17 ≤ na) → r = 0 ∧ u = mup g 0 0 (nI 1)) ∧ ∀ m1 n1 : Nat, ma = nI m1 → na = nI n1 → 1 ≤ m1 → m1 < n1 → n1 ≤ 16 → frx [0, 17, 18, 19, 20, 23, 25, 26, 27] g u ∧ u 0 0 = nI 0 ∧ u 23 0 = nI 0 ∧ r = if (vgP g t0 one other m1 n1) then nI 1 else nI 0) (fun u t => k_at D (TY tk) A ((fun u => wM tk h ad u la ++ tl) u) t) A) (by decide) (Nat.le_of_ble_eq_true rfl) ?_
  intro p e s m args below meth c Q A ls hQ hx hb hr hlk hin hts hT hown hml hnw hP hK hD hA hsz hl
  have hS : va_S A s.heap s.heap [] := va_S.rf
  have hc0 : 0 + 0 ≤ 0 ∧ 0 + 0 ≤ 0 := ⟨by decide, by decide⟩
  replace hl : lv_has ls 12 [(0, .ref h), (1, .int one), (2, .int ma), (3, .int other), (4, .int na)] := hl
  replace hP : va_P D CC (wM tk h ad g la ++ tl) s.heap := hP
  replace hK : va_K D CC (TY tk) s := hK
  refine lv_iload_n hx hb d_M_verifyGrowth_0 rfl (lv_at hl 2 rfl) ?_
  refine lv_if_le hx hb d_M_verifyGrowth_1 (tgt := 21) (by decide) (fun hc1 => ?_) (fun hc1 => ?_)
  · skip
    refine lv_iconst (v := nI 0) hx hb d_M_verifyGrowth_21 (by decide) ?_
    refine lv_istore (lv' := [(5, .int (nI 0)), (0, .ref h), (1, .int one), (2, .int ma), (3, .int other), (4, .int na)]) hx hb d_M_verifyGrowth_22 hl (by decide) rfl (fun ls hl => ?_)
    refine lv_aload_n hx hb d_M_verifyGrowth_24 rfl (lv_at hl 1 rfl) ?_
    refine lv_iload hx hb d_M_verifyGrowth_25 (lv_at hl 0 rfl) ?_
    refine st_if_eq hx hb (by omega) d_M_verifyGrowth_27 (tgt := 34) (by decide) (fun hc27 => ?_) (fun hc27 => (by exfalso; first | exact hc27 | omega))
    refine lv_iconst (v := nI 1) hx hb d_M_verifyGrowth_34 (by decide) ?_
    refine pf_M_73 hx hb hT hown hK hP hD hS 0 rfl (Nat.le_of_ble_eq_true rfl) d_M_verifyGrowth_35 (fun H locs hP hD hS => ?_)
    replace hP : va_P D CC (wM tk h ad (mup g 0 0 (nI 1)) la ++ tl) H := Eq.mp (congrArg (fun w => va_P D CC w H) (sM_0 tk h ad g la tl (nI 1))) hP
    replace hD : va_D A (wM tk h ad (mup g 0 0 (nI 1)) la ++ tl) := Eq.mp (congrArg (fun w => va_D A w) (sM_0 tk h ad g la tl (nI 1))) hD
    refine lv_iload hx hb d_M_verifyGrowth_38 (lv_at hl 0 rfl) ?_
    refine st_if_ne hx hb (by omega) d_M_verifyGrowth_40 (tgt := 45) (by decide) (fun hc40 => (by exfalso; first | exact hc40 | omega)) (fun hc40 => ?_)
    refine lv_iconst (v := nI 0) hx hb d_M_verifyGrowth_43 (by decide) ?_
    exact k_zret (v := nI 0) hQ hx hb hr hlk hK hP hD hS (mup g 0 0 (nI 1)) rfl (by decide) (⟨fun _ => ⟨rfl, rfl⟩, fun m1 n1 e1 e2 q1 q2 q3 => absurd (show (ma ≤ 0 ∨ na ≤ ma ∨ nI 17 ≤ na) from by first | (left; assumption) | (right; left; assumption) | (right; right; assumption)) (by rw [e1, e2]; exact vg_no q1 q2 q3)⟩) d_M_verifyGrowth_44
  · skip
    refine lv_iload_n hx hb d_M_verifyGrowth_4 rfl (lv_at hl 2 rfl) ?_
    refine lv_iload hx hb d_M_verifyGrowth_5 (lv_at hl 4 rfl) ?_
    refine lv_icmp_ge hx hb d_M_verifyGrowth_7 (tgt := 21) (by decide) (fun hc7 => ?_) (fun hc7 => ?_)
    · skip
      refine lv_iconst (v := nI 0) hx hb d_M_verifyGrowth_21 (by decide) ?_
      refine lv_istore (lv' := [(5, .int (nI 0)), (0, .ref h), (1, .int one), (2, .int ma), (3, .int other), (4, .int na)]) hx hb d_M_verifyGrowth_22 hl (by decide) rfl (fun ls hl => ?_)
      refine lv_aload_n hx hb d_M_verifyGrowth_24 rfl (lv_at hl 1 rfl) ?_
      refine lv_iload hx hb d_M_verifyGrowth_25 (lv_at hl 0 rfl) ?_
      refine st_if_eq hx hb (by omega) d_M_verifyGrowth_27 (tgt := 34) (by decide) (fun hc27 => ?_) (fun hc27 => (by exfalso; first | exact hc27 | omega))
      refine lv_iconst (v := nI 1) hx hb d_M_verifyGrowth_34 (by decide) ?_
      refine pf_M_73 hx hb hT hown hK hP hD hS 0 rfl (Nat.le_of_ble_eq_true rfl) d_M_verifyGrowth_35 (fun H locs hP hD hS => ?_)
      replace hP : va_P D CC (wM tk h ad (mup g 0 0 (nI 1)) la ++ tl) H := Eq.mp (congrArg (fun w => va_P D CC w H) (sM_0 tk h ad g la tl (nI 1))) hP
      replace hD : va_D A (wM tk h ad (mup g 0 0 (nI 1)) la ++ tl) := Eq.mp (congrArg (fun w => va_D A w) (sM_0 tk h ad g la tl (nI 1))) hD
      refine lv_iload hx hb d_M_verifyGrowth_38 (lv_at hl 0 rfl) ?_
      refine st_if_ne hx hb (by omega) d_M_verifyGrowth_40 (tgt := 45) (by decide) (fun hc40 => (by exfalso; first | exact hc40 | omega)) (fun hc40 => ?_)
      refine lv_iconst (v := nI 0) hx hb d_M_verifyGrowth_43 (by decide) ?_
      exact k_zret (v := nI 0) hQ hx hb hr hlk hK hP hD hS (mup g 0 0 (nI 1)) rfl (by decide) (⟨fun _ => ⟨rfl, rfl⟩, fun m1 n1 e1 e2 q1 q2 q3 => absurd (show (ma ≤ 0 ∨ na ≤ ma ∨ nI 17 ≤ na) from by first | (left; assumption) | (right; left; assumption) | (right; right; assumption)) (by rw [e1, e2]; exact vg_no q1 q2 q3)⟩) d_M_verifyGrowth_44
    · skip
      refine lv_iload hx hb d_M_verifyGrowth_10 (lv_at hl 4 rfl) ?_
      refine lv_bipush (v := nI 17) hx hb d_M_verifyGrowth_12 (by decide) ?_
      refine lv_icmp_ge hx hb d_M_verifyGrowth_14 (tgt := 21) (by decide) (fun hc14 => ?_) (fun hc14 => ?_)
      · skip
        refine lv_iconst (v := nI 0) hx hb d_M_verifyGrowth_21 (by decide) ?_
        refine lv_istore (lv' := [(5, .int (nI 0)), (0, .ref h), (1, .int one), (2, .int ma), (3, .int other), (4, .int na)]) hx hb d_M_verifyGrowth_22 hl (by decide) rfl (fun ls hl => ?_)
        refine lv_aload_n hx hb d_M_verifyGrowth_24 rfl (lv_at hl 1 rfl) ?_
        refine lv_iload hx hb d_M_verifyGrowth_25 (lv_at hl 0 rfl) ?_
        refine st_if_eq hx hb (by omega) d_M_verifyGrowth_27 (tgt := 34) (by decide) (fun hc27 => ?_) (fun hc27 => (by exfalso; first | exact hc27 | omega))
        refine lv_iconst (v := nI 1) hx hb d_M_verifyGrowth_34 (by decide) ?_
        refine pf_M_73 hx hb hT hown hK hP hD hS 0 rfl (Nat.le_of_ble_eq_true rfl) d_M_verifyGrowth_35 (fun H locs hP hD hS => ?_)
        replace hP : va_P D CC (wM tk h ad (mup g 0 0 (nI 1)) la ++ tl) H := Eq.mp (congrArg (fun w => va_P D CC w H) (sM_0 tk h ad g la tl (nI 1))) hP
        replace hD : va_D A (wM tk h ad (mup g 0 0 (nI 1)) la ++ tl) := Eq.mp (congrArg (fun w => va_D A w) (sM_0 tk h ad g la tl (nI 1))) hD
        refine lv_iload hx hb d_M_verifyGrowth_38 (lv_at hl 0 rfl) ?_
        refine st_if_ne hx hb (by omega) d_M_verifyGrowth_40 (tgt := 45) (by decide) (fun hc40 => (by exfalso; first | exact hc40 | omega)) (fun hc40 => ?_)
        refine lv_iconst (v := nI 0) hx hb d_M_verifyGrowth_43 (by decide) ?_
        exact k_zret (v := nI 0) hQ hx hb hr hlk hK hP hD hS (mup g 0 0 (nI 1)) rfl (by decide) (⟨fun _ => ⟨rfl, rfl⟩, fun m1 n1 e1 e2 q1 q2 q3 => absurd (show (ma ≤ 0 ∨ na ≤ ma ∨ nI 17 ≤ na) from by first | (left; assumption) | (right; left; assumption) | (right; right; assumption)) (by rw [e1, e2]; exact vg_no q1 q2 q3)⟩) d_M_verifyGrowth_44
      · skip
        obtain ⟨a1, a2, h1, h2, h3, rfl, rfl⟩ := gr_args2 hc1 hc7 hc14
        have hgk := gr_ok9 a2 (by omega) a1 (by omega) h1 (by omega)
        refine lv_iconst (v := nI 1) hx hb d_M_verifyGrowth_17 (by decide) ?_
        refine lv_goto hx hb d_M_verifyGrowth_18 (tgt := 22) (by decide) ?_
        refine lv_istore (lv' := [(5, .int (nI 1)), (0, .ref h), (1, .int one), (2, .int (nI a1)), (3, .int other), (4, .int (nI a2))]) hx hb d_M_verifyGrowth_22 hl (by decide) rfl (fun ls hl => ?_)
        refine lv_aload_n hx hb d_M_verifyGrowth_24 rfl (lv_at hl 1 rfl) ?_
        refine lv_iload hx hb d_M_verifyGrowth_25 (lv_at hl 0 rfl) ?_
        refine st_if_eq hx hb (by omega) d_M_verifyGrowth_27 (tgt := 34) (by decide) (fun hc27 => (by exfalso; first | exact hc27 | omega)) (fun hc27 => ?_)
        refine lv_iconst (v := nI 0) hx hb d_M_verifyGrowth_30 (by decide) ?_
        refine lv_goto hx hb d_M_verifyGrowth_31 (tgt := 35) (by decide) ?_
        refine pf_M_73 hx hb hT hown hK hP hD hS 0 rfl (Nat.le_of_ble_eq_true rfl) d_M_verifyGrowth_35 (fun H locs hP hD hS => ?_)
        replace hP : va_P D CC (wM tk h ad (mup g 0 0 (nI 0)) la ++ tl) H := Eq.mp (congrArg (fun w => va_P D CC w H) (sM_0 tk h ad g la tl (nI 0))) hP
        replace hD : va_D A (wM tk h ad (mup g 0 0 (nI 0)) la ++ tl) := Eq.mp (congrArg (fun w => va_D A w) (sM_0 tk h ad g la tl (nI 0))) hD
        refine lv_iload hx hb d_M_verifyGrowth_38 (lv_at hl 0 rfl) ?_
        refine st_if_ne hx hb (by omega) d_M_verifyGrowth_40 (tgt := 45) (by decide) (fun hc40 => ?_) (fun hc40 => (by exfalso; first | exact hc40 | omega))
        refine lv_aload_n hx hb d_M_verifyGrowth_45 rfl (lv_at hl 1 rfl) ?_
        refine lv_iload_n hx hb d_M_verifyGrowth_46 rfl (lv_at hl 3 rfl) ?_
        refine lv_iload hx hb d_M_verifyGrowth_47 (lv_at hl 5 rfl) ?_
        refine k_calli (va_runV (As := [.int (nI a1), .int (nI a2)]) (rest := []) ⟨hx, hb, hml, hown, hts⟩ (c_M_growth l D tk H.size h ad (mup g 0 0 (nI 0)) la tl a1 a2 (by omega) (by omega) (by omega)) (cwV 2 hts (gV t_1191 t_1193 s_36 t_9 t_1194) rfl rfl rfl (by decide +kernel) ⟨Nat.le_of_ble_eq_true rfl, Nat.le_of_ble_eq_true rfl⟩) (k_preV hP hK hD hnw 0 rfl rfl) rfl rfl hl.1 rfl (lv_room (Nat.le_of_ble_eq_true rfl)) d_M_verifyGrowth_49 hc0) hD hS hA (fun _ _ H locs hp49 hP hD hK hS => ?_)
        subst hp49
        replace hP : va_P D CC (wM tk h ad (sdL (mup (mup g 0 0 (nI 0)) 17 0 (nI 0)) 0 (grL 5 0 a2 a1)) la ++ tl) H := hP
        replace hD : va_D A (wM tk h ad (sdL (mup (mup g 0 0 (nI 0)) 17 0 (nI 0)) 0 (grL 5 0 a2 a1)) la ++ tl) := hD
        refine lv_istore (lv' := [(6, .int (if grP 5 0 a2 a1 = 0 then nI 1 else nI 0)), (5, .int (nI 1)), (0, .ref h), (1, .int one), (2, .int (nI a1)), (3, .int other), (4, .int (nI a2))]) hx hb d_M_verifyGrowth_52 hl (by decide) rfl (fun ls hl => ?_)
        have hgt1 : sdL (mup (mup g 0 0 (nI 0)) 17 0 (nI 0)) 0 (grL 5 0 a2 a1) 23 0 = nI t0 := (congrFun (wy_fr _ _ 23 (by decide)) 0).trans (rd_ne (by decide) hgt)
        have h241 : sdL (mup (mup g 0 0 (nI 0)) 17 0 (nI 0)) 0 (grL 5 0 a2 a1) 24 = g 24 := (wy_fr _ _ 24 (by decide)).trans (mup_ne (by decide))
        have hby1 : byt (sdL (mup (mup g 0 0 (nI 0)) 17 0 (nI 0)) 0 (grL 5 0 a2 a1)) t0 := fun i hi => by rw [h241]; exact hby i hi
        refine lv_aload_n hx hb d_M_verifyGrowth_54 rfl (lv_at hl 2 rfl) ?_
        refine k_callv (va_runV (As := []) (rest := []) ⟨hx, hb, hml, hown, hts⟩ (c_M_inBeside l D tk H.size h ad (sdL (mup (mup g 0 0 (nI 0)) 17 0 (nI 0)) 0 (grL 5 0 a2 a1)) la tl (grL 5 0 a2 a1).length t0 (by omega) (by omega) (bs_way _ _).1 hgt1 hby1) (cwV 0 hts (gV t_1211 t_1213 s_37 t_9 t_1214) rfl rfl rfl (by decide +kernel) ⟨Nat.le_of_ble_eq_true rfl, Nat.le_of_ble_eq_true rfl⟩) (k_preV hP hK hD hnw 0 rfl rfl) rfl rfl hl.1 rfl (lv_room (Nat.le_of_ble_eq_true rfl)) d_M_verifyGrowth_55 hc0) hD hS hA (fun u55 H locs hp55 hP hD hK hS => ?_)
        obtain ⟨h26, hgd, hfi⟩ := hp55
        have hbsu := bs_way (mup g 0 0 (nI 0)) (grL 5 0 a2 a1)
        have h20u : u55 20 = sdL (mup (mup g 0 0 (nI 0)) 17 0 (nI 0)) 0 (grL 5 0 a2 a1) 20 := hfi 20 (by decide)
        replace hP : va_P D CC (wM tk h ad u55 la ++ tl) H := hP
        replace hD : va_D A (wM tk h ad u55 la ++ tl) := hD
        refine lv_aload_n hx hb d_M_verifyGrowth_58 rfl (lv_at hl 2 rfl) ?_
        refine gf_M_200 (v := .int (u55 26 0)) hx hb hT hown hK hP 0 rfl rfl d_M_verifyGrowth_59 ?_
        refine lv_if_eq hx hb d_M_verifyGrowth_62 (tgt := 80) (by decide) (fun hc62 => ?_) (fun hc62 => ?_)
        · skip
          have hnv : ¬ vgP g t0 one other a1 a2 := fun q => by rw [h26] at hc62; exact if_10.mp hc62 ⟨(rd_c h241 0 t0).trans q.1.1, by have := q.1.2; omega⟩
          refine lv_iconst (v := nI 0) hx hb d_M_verifyGrowth_80 (by decide) ?_
          refine lv_istore (lv' := [(7, .int (nI 0)), (6, .int (if grP 5 0 a2 a1 = 0 then nI 1 else nI 0)), (5, .int (nI 1)), (0, .ref h), (1, .int one), (2, .int (nI a1)), (3, .int other), (4, .int (nI a2))]) hx hb d_M_verifyGrowth_81 hl (by decide) rfl (fun ls hl => ?_)
          refine lv_aload_n hx hb d_M_verifyGrowth_83 rfl (lv_at hl 3 rfl) ?_
          refine lv_iconst (v := nI 0) hx hb d_M_verifyGrowth_84 (by decide) ?_
          refine pf_M_194 hx hb hT hown hK hP hD hS 0 rfl (Nat.le_of_ble_eq_true rfl) d_M_verifyGrowth_85 (fun H locs hP hD hS => ?_)
          replace hP : va_P D CC (wM tk h ad (mup u55 23 0 (nI 0)) la ++ tl) H := Eq.mp (congrArg (fun w => va_P D CC w H) (sM_23 tk h ad u55 la tl (nI 0))) hP
          replace hD : va_D A (wM tk h ad (mup u55 23 0 (nI 0)) la ++ tl) := Eq.mp (congrArg (fun w => va_D A w) (sM_23 tk h ad u55 la tl (nI 0))) hD
          refine lv_iload hx hb d_M_verifyGrowth_88 (lv_at hl 1 rfl) ?_
          refine lv_if_eq hx hb d_M_verifyGrowth_90 (tgt := 97) (by decide) (fun hc90 => ?_) (fun hc90 => ?_)
          · skip
            have hgp : ¬ grP 5 0 a2 a1 = 0 := fun q => by rw [if_pos q] at hc90; exact absurd hc90 (by decide)
            have hgl := gr_ne9 a2 (by omega) a1 (by omega) h1 (by omega) hgp
            refine lv_iconst (v := nI 1) hx hb d_M_verifyGrowth_97 (by decide) ?_
            refine lv_istore (lv' := [(8, .int (nI 1)), (7, .int (nI 0)), (6, .int (if grP 5 0 a2 a1 = 0 then nI 1 else nI 0)), (5, .int (nI 1)), (0, .ref h), (1, .int one), (2, .int (nI a1)), (3, .int other), (4, .int (nI a2))]) hx hb d_M_verifyGrowth_98 hl (by decide) rfl (fun ls hl => ?_)
            refine lv_iload hx hb d_M_verifyGrowth_100 (lv_at hl 2 rfl) ?_
            refine lv_if_eq hx hb d_M_verifyGrowth_102 (tgt := 109) (by decide) (fun hc102 => ?_) (fun hc102 => absurd hc90 hc102)
            refine lv_aload_n hx hb d_M_verifyGrowth_109 rfl (lv_at hl 4 rfl) ?_
            refine gf_M_60 (v := .ref (ad 27)) hx hb hT hown hK hP 0 rfl rfl d_M_verifyGrowth_110 ?_
            refine lv_iconst (v := nI 0) hx hb d_M_verifyGrowth_113 (by decide) ?_
            refine st_iald hx hb hK hP 17 0 rfl rfl (by omega) (by decide) d_M_verifyGrowth_114 ?_
            refine st_top (show (mup u55 23 0 (nI 0)) 27 0 = u55 27 0 from (rd_ne (by decide) rfl)) ?_
            refine lv_istore (lv' := [(9, .int (u55 27 0)), (8, .int (nI 1)), (7, .int (nI 0)), (6, .int (if grP 5 0 a2 a1 = 0 then nI 1 else nI 0)), (5, .int (nI 1)), (0, .ref h), (1, .int one), (2, .int (nI a1)), (3, .int other), (4, .int (nI a2))]) hx hb d_M_verifyGrowth_115 hl (by decide) rfl (fun ls hl => ?_)
            refine lv_iload hx hb d_M_verifyGrowth_117 (lv_at hl 0 rfl) ?_
            refine lv_istore (lv' := [(10, .int (u55 27 0)), (9, .int (u55 27 0)), (8, .int (nI 1)), (7, .int (nI 0)), (6, .int (if grP 5 0 a2 a1 = 0 then nI 1 else nI 0)), (5, .int (nI 1)), (0, .ref h), (1, .int one), (2, .int (nI a1)), (3, .int other), (4, .int (nI a2))]) hx hb d_M_verifyGrowth_119 hl (by decide) rfl (fun ls hl => ?_)
            refine lv_iload hx hb d_M_verifyGrowth_121 (lv_at hl 2 rfl) ?_
            refine lv_istore (lv' := [(11, .int (nI 1)), (10, .int (u55 27 0)), (9, .int (u55 27 0)), (8, .int (nI 1)), (7, .int (nI 0)), (6, .int (if grP 5 0 a2 a1 = 0 then nI 1 else nI 0)), (5, .int (nI 1)), (0, .ref h), (1, .int one), (2, .int (nI a1)), (3, .int other), (4, .int (nI a2))]) hx hb d_M_verifyGrowth_123 hl (by decide) rfl (fun ls hl => ?_)
            have hfl : 1 ≤ (grL 5 0 a2 a1).length := by omega
            have key125 : ∀ (n125 : Nat) (k : Nat) (x : Int32) (ls : Array Slot) (H : Heap) (locs : List Loc), (grL 5 0 a2 a1).length - k < n125 → (1 ≤ k ∧ k ≤ (grL 5 0 a2 a1).length) → (olF (mup u55 23 0 (nI 0)) (grL 5 0 a2 a1).length k ((grL 5 0 a2 a1).length - k) x = olF (mup u55 23 0 (nI 0)) (grL 5 0 a2 a1).length 1 ((grL 5 0 a2 a1).length - 1) (u55 27 0)) → lv_has ls 12 [(11, .int (nI k)), (10, .int x), (9, .int (u55 27 0)), (8, .int (nI 1)), (7, .int (nI 0)), (6, .int (if grP 5 0 a2 a1 = 0 then nI 1 else nI 0)), (5, .int (nI 1)), (0, .ref h), (1, .int one), (2, .int (nI a1)), (3, .int other), (4, .int (nI a2))] → va_P D CC (wM tk h ad (mup u55 23 0 (nI 0)) la ++ tl) H → va_D A (wM tk h ad (mup u55 23 0 (nI 0)) la ++ tl) → va_S A s.heap H locs → W p l e ({ frames := 4, cells := 0, slots := 0, locals := 89 } : Room) s m args below meth c H locs 0 0 Q (F0 m 125 ls []) := by
              intro n125
              induction n125 with
              | zero => intro k x ls H locs hn; exact absurd hn (Nat.not_lt_zero _)
              | succ n125 ih125 =>
                intro k x ls H locs hn125 hk hR hl hP hD hS
                refine lv_iload hx hb d_M_verifyGrowth_125 (lv_at hl 0 rfl) ?_
                refine lv_aload_n hx hb d_M_verifyGrowth_127 rfl (lv_at hl 7 rfl) ?_
                refine gf_M_155 (v := .int ((mup u55 23 0 (nI 0)) 17 0)) hx hb hT hown hK hP 0 rfl rfl d_M_verifyGrowth_128 ?_
                refine st_top (show (mup u55 23 0 (nI 0)) 17 0 = u55 17 0 from (rd_ne (by decide) rfl)) ?_
                refine st_top (show u55 17 0 = nI ((grL 5 0 a2 a1).length) from (congrFun (hfi 17 (by decide)) 0).trans (bs_way _ _).1) ?_
                refine st_icmp_ge hx hb (by omega) (by omega) d_M_verifyGrowth_131 (tgt := 176) (by decide) (fun hc131 => ?_) (fun hc131 => ?_)
                · skip
                  have hx9 : x = _ := ((olF_0 _ _ _ x).symm.trans (by rw [show (grL 5 0 a2 a1).length - k = 0 by omega])).trans hR
                  refine lv_iload hx hb d_M_verifyGrowth_176 (lv_at hl 4 rfl) ?_
                  refine st_if_eq hx hb (by omega) d_M_verifyGrowth_178 (tgt := 203) (by decide) (fun hc178 => ?_) (fun hc178 => (by exfalso; first | exact hc178 | omega))
                  refine lv_iconst (v := nI 0) hx hb d_M_verifyGrowth_203 (by decide) ?_
                  exact k_zret (v := nI 0) hQ hx hb hr hlk hK hP hD hS (mup u55 23 0 (nI 0)) rfl (by decide) (⟨fun q => absurd q (vg_no h1 h2 h3), fun m1 n1 e1 e2 q1 q2 q3 => by obtain rfl := (nI_eq (by omega) (by omega)).mp e1; obtain rfl := (nI_eq (by omega) (by omega)).mp e2; exact ⟨frx_t (frx_t (frx_t (L := [0]) frx_m (wy_fr _ _) (M := [0, 17, 18, 19, 20]) (fun x h => ⟨fun q => h (by simp at q ⊢; omega), fun q => h (by simp at q ⊢; omega)⟩)) hfi (M := [0, 17, 18, 19, 20, 25, 26, 27]) (fun x h => ⟨fun q => h (by simp at q ⊢; omega), fun q => h (by simp at q ⊢; omega)⟩)) (L' := [23]) frx_m (fun x h => ⟨fun q => h (by simp at q ⊢; omega), fun q => h (by simp at q ⊢; omega)⟩), rd_ne (by decide) ((congrFun (hfi 0 (by decide)) 0).trans ((congrFun (wy_fr _ _ 0 (by decide)) 0).trans rd_eq)), rd_eq, (if_neg hnv).symm⟩⟩) d_M_verifyGrowth_204
                · skip
                  refine lv_aload_n hx hb d_M_verifyGrowth_134 rfl (lv_at hl 7 rfl) ?_
                  refine gf_M_51 (v := .ref (ad 20)) hx hb hT hown hK hP 0 rfl rfl d_M_verifyGrowth_135 ?_
                  refine lv_aload_n hx hb d_M_verifyGrowth_138 rfl (lv_at hl 7 rfl) ?_
                  refine gf_M_155 (v := .int ((mup u55 23 0 (nI 0)) 17 0)) hx hb hT hown hK hP 0 rfl rfl d_M_verifyGrowth_139 ?_
                  refine st_top (show (mup u55 23 0 (nI 0)) 17 0 = u55 17 0 from (rd_ne (by decide) rfl)) ?_
                  refine st_top (show u55 17 0 = nI ((grL 5 0 a2 a1).length) from (congrFun (hfi 17 (by decide)) 0).trans (bs_way _ _).1) ?_
                  refine lv_iconst (v := nI 1) hx hb d_M_verifyGrowth_142 (by decide) ?_
                  refine st_isub hx hb (by omega) d_M_verifyGrowth_143 ?_
                  refine lv_iload hx hb d_M_verifyGrowth_144 (lv_at hl 0 rfl) ?_
                  refine st_isub hx hb (by omega) d_M_verifyGrowth_146 ?_
                  refine st_zald hx hb hK hP 14 1 rfl rfl (by omega) (by decide) d_M_verifyGrowth_147 ?_
                  refine st_top (show (mup u55 23 0 (nI 0)) 20 ((((grL 5 0 a2 a1).length) - 1) - k) = u55 20 ((((grL 5 0 a2 a1).length) - 1) - k) from (rd_ne (by decide) rfl)) ?_
                  refine lv_if_eq hx hb d_M_verifyGrowth_148 (tgt := 166) (by decide) (fun hc148 => ?_) (fun hc148 => ?_)
                  · skip
                    refine lv_iload hx hb d_M_verifyGrowth_166 (lv_at hl 1 rfl) ?_
                    refine lv_istore (lv' := [(10, .int x), (11, .int (nI k)), (9, .int (u55 27 0)), (8, .int (nI 1)), (7, .int (nI 0)), (6, .int (if grP 5 0 a2 a1 = 0 then nI 1 else nI 0)), (5, .int (nI 1)), (0, .ref h), (1, .int one), (2, .int (nI a1)), (3, .int other), (4, .int (nI a2))]) hx hb d_M_verifyGrowth_168 hl (by decide) rfl (fun ls hl => ?_)
                    refine lv_iinc (k := 1) (v := nI (k + 1)) (lv' := [(11, .int (nI (k + 1))), (10, .int x), (9, .int (u55 27 0)), (8, .int (nI 1)), (7, .int (nI 0)), (6, .int (if grP 5 0 a2 a1 = 0 then nI 1 else nI 0)), (5, .int (nI 1)), (0, .ref h), (1, .int one), (2, .int (nI a1)), (3, .int other), (4, .int (nI a2))]) hx hb d_M_verifyGrowth_170 hl rfl (nI_add _ _) (by decide) rfl (fun ls hl => ?_)
                    refine lv_goto hx hb d_M_verifyGrowth_173 (tgt := 125) (by decide) ?_
                    exact ih125 (k + 1) x ls _ _ (by omega) (by omega) (by rw [← hR, olF_go (mup u55 23 0 (nI 0)) (b := (grL 5 0 a2 a1).length) (k := k) hc131 x, mup_ne (show 20 ≠ 23 by decide), mup_ne (show 27 ≠ 23 by decide)]; first | rw [if_pos hc148] | rw [if_neg hc148]) (lv_sub hl [0, 1, 2, 3, 4, 5, 6, 7, 8, 9, 10, 11] rfl) hP hD hS
                  · skip
                    refine lv_aload_n hx hb d_M_verifyGrowth_151 rfl (lv_at hl 7 rfl) ?_
                    refine gf_M_60 (v := .ref (ad 27)) hx hb hT hown hK hP 0 rfl rfl d_M_verifyGrowth_152 ?_
                    refine lv_iload hx hb d_M_verifyGrowth_155 (lv_at hl 0 rfl) ?_
                    refine st_iald hx hb hK hP 17 0 rfl rfl (by omega) (by decide) d_M_verifyGrowth_157 ?_
                    refine st_top (show (mup u55 23 0 (nI 0)) 27 k = u55 27 k from (rd_ne (by decide) rfl)) ?_
                    refine lv_iload hx hb d_M_verifyGrowth_158 (lv_at hl 1 rfl) ?_
                    refine k_calli (va_runS (As := [.int (u55 27 k), .int x]) (rest := []) ⟨hx, hb, hml, hown, hts⟩ (c_M_join l D tk H.size (u55 27 k) x (wM tk h ad (mup u55 23 0 (nI 0)) la ++ tl)) (cwS 2 hts (gS t_1146 t_1147 t_9 t_1148) rfl rfl rfl (by decide +kernel) ⟨Nat.le_of_ble_eq_true rfl, Nat.le_of_ble_eq_true rfl⟩) (k_preS hP hK hD hnw) rfl rfl hl.1 rfl (lv_room (Nat.le_of_ble_eq_true rfl)) d_M_verifyGrowth_160 hc0) hD hS hA (fun _ _ H locs hp160 hP hD hK hS => ?_)
                    subst hp160
                    replace hP : va_P D CC (wM tk h ad (mup u55 23 0 (nI 0)) la ++ tl) H := hP
                    replace hD : va_D A (wM tk h ad (mup u55 23 0 (nI 0)) la ++ tl) := hD
                    refine lv_goto hx hb d_M_verifyGrowth_163 (tgt := 168) (by decide) ?_
                    refine lv_istore (lv' := [(10, .int (jn (u55 27 k) x)), (11, .int (nI k)), (9, .int (u55 27 0)), (8, .int (nI 1)), (7, .int (nI 0)), (6, .int (if grP 5 0 a2 a1 = 0 then nI 1 else nI 0)), (5, .int (nI 1)), (0, .ref h), (1, .int one), (2, .int (nI a1)), (3, .int other), (4, .int (nI a2))]) hx hb d_M_verifyGrowth_168 hl (by decide) rfl (fun ls hl => ?_)
                    refine lv_iinc (k := 1) (v := nI (k + 1)) (lv' := [(11, .int (nI (k + 1))), (10, .int (jn (u55 27 k) x)), (9, .int (u55 27 0)), (8, .int (nI 1)), (7, .int (nI 0)), (6, .int (if grP 5 0 a2 a1 = 0 then nI 1 else nI 0)), (5, .int (nI 1)), (0, .ref h), (1, .int one), (2, .int (nI a1)), (3, .int other), (4, .int (nI a2))]) hx hb d_M_verifyGrowth_170 hl rfl (nI_add _ _) (by decide) rfl (fun ls hl => ?_)
                    refine lv_goto hx hb d_M_verifyGrowth_173 (tgt := 125) (by decide) ?_
                    exact ih125 (k + 1) (jn (u55 27 k) x) ls _ _ (by omega) (by omega) (by rw [← hR, olF_go (mup u55 23 0 (nI 0)) (b := (grL 5 0 a2 a1).length) (k := k) hc131 x, mup_ne (show 20 ≠ 23 by decide), mup_ne (show 27 ≠ 23 by decide)]; first | rw [if_pos hc148] | rw [if_neg hc148]) (lv_sub hl [0, 1, 2, 3, 4, 5, 6, 7, 8, 9, 10, 11] rfl) hP hD hS
            exact key125 _ 1 (u55 27 0) ls _ _ (Nat.lt_succ_self _) (by omega) rfl (lv_sub hl [0, 1, 2, 3, 4, 5, 6, 7, 8, 9, 10, 11] rfl) hP hD hS
          · skip
            have hgp : grP 5 0 a2 a1 = 0 := Classical.byContradiction (fun q => hc90 (if_neg q))
            refine lv_iconst (v := nI 0) hx hb d_M_verifyGrowth_93 (by decide) ?_
            refine lv_goto hx hb d_M_verifyGrowth_94 (tgt := 98) (by decide) ?_
            refine lv_istore (lv' := [(8, .int (nI 0)), (7, .int (nI 0)), (6, .int (if grP 5 0 a2 a1 = 0 then nI 1 else nI 0)), (5, .int (nI 1)), (0, .ref h), (1, .int one), (2, .int (nI a1)), (3, .int other), (4, .int (nI a2))]) hx hb d_M_verifyGrowth_98 hl (by decide) rfl (fun ls hl => ?_)
            refine lv_iload hx hb d_M_verifyGrowth_100 (lv_at hl 2 rfl) ?_
            refine lv_if_eq hx hb d_M_verifyGrowth_102 (tgt := 109) (by decide) (fun hc102 => absurd hc102 hc90) (fun hc102 => ?_)
            refine lv_iload_n hx hb d_M_verifyGrowth_105 rfl (lv_at hl 5 rfl) ?_
            refine lv_goto hx hb d_M_verifyGrowth_106 (tgt := 115) (by decide) ?_
            refine lv_istore (lv' := [(9, .int one), (8, .int (nI 0)), (7, .int (nI 0)), (6, .int (if grP 5 0 a2 a1 = 0 then nI 1 else nI 0)), (5, .int (nI 1)), (0, .ref h), (1, .int one), (2, .int (nI a1)), (3, .int other), (4, .int (nI a2))]) hx hb d_M_verifyGrowth_115 hl (by decide) rfl (fun ls hl => ?_)
            refine lv_iload hx hb d_M_verifyGrowth_117 (lv_at hl 0 rfl) ?_
            refine lv_istore (lv' := [(10, .int one), (9, .int one), (8, .int (nI 0)), (7, .int (nI 0)), (6, .int (if grP 5 0 a2 a1 = 0 then nI 1 else nI 0)), (5, .int (nI 1)), (0, .ref h), (1, .int one), (2, .int (nI a1)), (3, .int other), (4, .int (nI a2))]) hx hb d_M_verifyGrowth_119 hl (by decide) rfl (fun ls hl => ?_)
            refine lv_iload hx hb d_M_verifyGrowth_121 (lv_at hl 2 rfl) ?_
            refine lv_istore (lv' := [(11, .int (nI 0)), (10, .int one), (9, .int one), (8, .int (nI 0)), (7, .int (nI 0)), (6, .int (if grP 5 0 a2 a1 = 0 then nI 1 else nI 0)), (5, .int (nI 1)), (0, .ref h), (1, .int one), (2, .int (nI a1)), (3, .int other), (4, .int (nI a2))]) hx hb d_M_verifyGrowth_123 hl (by decide) rfl (fun ls hl => ?_)
            have hfl : 0 ≤ (grL 5 0 a2 a1).length := by omega
            have key125 : ∀ (n125 : Nat) (k : Nat) (x : Int32) (ls : Array Slot) (H : Heap) (locs : List Loc), (grL 5 0 a2 a1).length - k < n125 → (0 ≤ k ∧ k ≤ (grL 5 0 a2 a1).length) → (olF (mup u55 23 0 (nI 0)) (grL 5 0 a2 a1).length k ((grL 5 0 a2 a1).length - k) x = olF (mup u55 23 0 (nI 0)) (grL 5 0 a2 a1).length 0 ((grL 5 0 a2 a1).length - 0) one) → lv_has ls 12 [(11, .int (nI k)), (10, .int x), (9, .int one), (8, .int (nI 0)), (7, .int (nI 0)), (6, .int (if grP 5 0 a2 a1 = 0 then nI 1 else nI 0)), (5, .int (nI 1)), (0, .ref h), (1, .int one), (2, .int (nI a1)), (3, .int other), (4, .int (nI a2))] → va_P D CC (wM tk h ad (mup u55 23 0 (nI 0)) la ++ tl) H → va_D A (wM tk h ad (mup u55 23 0 (nI 0)) la ++ tl) → va_S A s.heap H locs → W p l e ({ frames := 4, cells := 0, slots := 0, locals := 89 } : Room) s m args below meth c H locs 0 0 Q (F0 m 125 ls []) := by
              intro n125
              induction n125 with
              | zero => intro k x ls H locs hn; exact absurd hn (Nat.not_lt_zero _)
              | succ n125 ih125 =>
                intro k x ls H locs hn125 hk hR hl hP hD hS
                refine lv_iload hx hb d_M_verifyGrowth_125 (lv_at hl 0 rfl) ?_
                refine lv_aload_n hx hb d_M_verifyGrowth_127 rfl (lv_at hl 7 rfl) ?_
                refine gf_M_155 (v := .int ((mup u55 23 0 (nI 0)) 17 0)) hx hb hT hown hK hP 0 rfl rfl d_M_verifyGrowth_128 ?_
                refine st_top (show (mup u55 23 0 (nI 0)) 17 0 = u55 17 0 from (rd_ne (by decide) rfl)) ?_
                refine st_top (show u55 17 0 = nI ((grL 5 0 a2 a1).length) from (congrFun (hfi 17 (by decide)) 0).trans (bs_way _ _).1) ?_
                refine st_icmp_ge hx hb (by omega) (by omega) d_M_verifyGrowth_131 (tgt := 176) (by decide) (fun hc131 => ?_) (fun hc131 => ?_)
                · skip
                  have hx9 : x = _ := ((olF_0 _ _ _ x).symm.trans (by rw [show (grL 5 0 a2 a1).length - k = 0 by omega])).trans hR
                  refine lv_iload hx hb d_M_verifyGrowth_176 (lv_at hl 4 rfl) ?_
                  refine st_if_eq hx hb (by omega) d_M_verifyGrowth_178 (tgt := 203) (by decide) (fun hc178 => ?_) (fun hc178 => (by exfalso; first | exact hc178 | omega))
                  refine lv_iconst (v := nI 0) hx hb d_M_verifyGrowth_203 (by decide) ?_
                  exact k_zret (v := nI 0) hQ hx hb hr hlk hK hP hD hS (mup u55 23 0 (nI 0)) rfl (by decide) (⟨fun q => absurd q (vg_no h1 h2 h3), fun m1 n1 e1 e2 q1 q2 q3 => by obtain rfl := (nI_eq (by omega) (by omega)).mp e1; obtain rfl := (nI_eq (by omega) (by omega)).mp e2; exact ⟨frx_t (frx_t (frx_t (L := [0]) frx_m (wy_fr _ _) (M := [0, 17, 18, 19, 20]) (fun x h => ⟨fun q => h (by simp at q ⊢; omega), fun q => h (by simp at q ⊢; omega)⟩)) hfi (M := [0, 17, 18, 19, 20, 25, 26, 27]) (fun x h => ⟨fun q => h (by simp at q ⊢; omega), fun q => h (by simp at q ⊢; omega)⟩)) (L' := [23]) frx_m (fun x h => ⟨fun q => h (by simp at q ⊢; omega), fun q => h (by simp at q ⊢; omega)⟩), rd_ne (by decide) ((congrFun (hfi 0 (by decide)) 0).trans ((congrFun (wy_fr _ _ 0 (by decide)) 0).trans rd_eq)), rd_eq, (if_neg hnv).symm⟩⟩) d_M_verifyGrowth_204
                · skip
                  refine lv_aload_n hx hb d_M_verifyGrowth_134 rfl (lv_at hl 7 rfl) ?_
                  refine gf_M_51 (v := .ref (ad 20)) hx hb hT hown hK hP 0 rfl rfl d_M_verifyGrowth_135 ?_
                  refine lv_aload_n hx hb d_M_verifyGrowth_138 rfl (lv_at hl 7 rfl) ?_
                  refine gf_M_155 (v := .int ((mup u55 23 0 (nI 0)) 17 0)) hx hb hT hown hK hP 0 rfl rfl d_M_verifyGrowth_139 ?_
                  refine st_top (show (mup u55 23 0 (nI 0)) 17 0 = u55 17 0 from (rd_ne (by decide) rfl)) ?_
                  refine st_top (show u55 17 0 = nI ((grL 5 0 a2 a1).length) from (congrFun (hfi 17 (by decide)) 0).trans (bs_way _ _).1) ?_
                  refine lv_iconst (v := nI 1) hx hb d_M_verifyGrowth_142 (by decide) ?_
                  refine st_isub hx hb (by omega) d_M_verifyGrowth_143 ?_
                  refine lv_iload hx hb d_M_verifyGrowth_144 (lv_at hl 0 rfl) ?_
                  refine st_isub hx hb (by omega) d_M_verifyGrowth_146 ?_
                  refine st_zald hx hb hK hP 14 1 rfl rfl (by omega) (by decide) d_M_verifyGrowth_147 ?_
                  refine st_top (show (mup u55 23 0 (nI 0)) 20 ((((grL 5 0 a2 a1).length) - 1) - k) = u55 20 ((((grL 5 0 a2 a1).length) - 1) - k) from (rd_ne (by decide) rfl)) ?_
                  refine lv_if_eq hx hb d_M_verifyGrowth_148 (tgt := 166) (by decide) (fun hc148 => ?_) (fun hc148 => ?_)
                  · skip
                    refine lv_iload hx hb d_M_verifyGrowth_166 (lv_at hl 1 rfl) ?_
                    refine lv_istore (lv' := [(10, .int x), (11, .int (nI k)), (9, .int one), (8, .int (nI 0)), (7, .int (nI 0)), (6, .int (if grP 5 0 a2 a1 = 0 then nI 1 else nI 0)), (5, .int (nI 1)), (0, .ref h), (1, .int one), (2, .int (nI a1)), (3, .int other), (4, .int (nI a2))]) hx hb d_M_verifyGrowth_168 hl (by decide) rfl (fun ls hl => ?_)
                    refine lv_iinc (k := 1) (v := nI (k + 1)) (lv' := [(11, .int (nI (k + 1))), (10, .int x), (9, .int one), (8, .int (nI 0)), (7, .int (nI 0)), (6, .int (if grP 5 0 a2 a1 = 0 then nI 1 else nI 0)), (5, .int (nI 1)), (0, .ref h), (1, .int one), (2, .int (nI a1)), (3, .int other), (4, .int (nI a2))]) hx hb d_M_verifyGrowth_170 hl rfl (nI_add _ _) (by decide) rfl (fun ls hl => ?_)
                    refine lv_goto hx hb d_M_verifyGrowth_173 (tgt := 125) (by decide) ?_
                    exact ih125 (k + 1) x ls _ _ (by omega) (by omega) (by rw [← hR, olF_go (mup u55 23 0 (nI 0)) (b := (grL 5 0 a2 a1).length) (k := k) hc131 x, mup_ne (show 20 ≠ 23 by decide), mup_ne (show 27 ≠ 23 by decide)]; first | rw [if_pos hc148] | rw [if_neg hc148]) (lv_sub hl [0, 1, 2, 3, 4, 5, 6, 7, 8, 9, 10, 11] rfl) hP hD hS
                  · skip
                    refine lv_aload_n hx hb d_M_verifyGrowth_151 rfl (lv_at hl 7 rfl) ?_
                    refine gf_M_60 (v := .ref (ad 27)) hx hb hT hown hK hP 0 rfl rfl d_M_verifyGrowth_152 ?_
                    refine lv_iload hx hb d_M_verifyGrowth_155 (lv_at hl 0 rfl) ?_
                    refine st_iald hx hb hK hP 17 0 rfl rfl (by omega) (by decide) d_M_verifyGrowth_157 ?_
                    refine st_top (show (mup u55 23 0 (nI 0)) 27 k = u55 27 k from (rd_ne (by decide) rfl)) ?_
                    refine lv_iload hx hb d_M_verifyGrowth_158 (lv_at hl 1 rfl) ?_
                    refine k_calli (va_runS (As := [.int (u55 27 k), .int x]) (rest := []) ⟨hx, hb, hml, hown, hts⟩ (c_M_join l D tk H.size (u55 27 k) x (wM tk h ad (mup u55 23 0 (nI 0)) la ++ tl)) (cwS 2 hts (gS t_1146 t_1147 t_9 t_1148) rfl rfl rfl (by decide +kernel) ⟨Nat.le_of_ble_eq_true rfl, Nat.le_of_ble_eq_true rfl⟩) (k_preS hP hK hD hnw) rfl rfl hl.1 rfl (lv_room (Nat.le_of_ble_eq_true rfl)) d_M_verifyGrowth_160 hc0) hD hS hA (fun _ _ H locs hp160 hP hD hK hS => ?_)
                    subst hp160
                    replace hP : va_P D CC (wM tk h ad (mup u55 23 0 (nI 0)) la ++ tl) H := hP
                    replace hD : va_D A (wM tk h ad (mup u55 23 0 (nI 0)) la ++ tl) := hD
                    refine lv_goto hx hb d_M_verifyGrowth_163 (tgt := 168) (by decide) ?_
                    refine lv_istore (lv' := [(10, .int (jn (u55 27 k) x)), (11, .int (nI k)), (9, .int one), (8, .int (nI 0)), (7, .int (nI 0)), (6, .int (if grP 5 0 a2 a1 = 0 then nI 1 else nI 0)), (5, .int (nI 1)), (0, .ref h), (1, .int one), (2, .int (nI a1)), (3, .int other), (4, .int (nI a2))]) hx hb d_M_verifyGrowth_168 hl (by decide) rfl (fun ls hl => ?_)
                    refine lv_iinc (k := 1) (v := nI (k + 1)) (lv' := [(11, .int (nI (k + 1))), (10, .int (jn (u55 27 k) x)), (9, .int one), (8, .int (nI 0)), (7, .int (nI 0)), (6, .int (if grP 5 0 a2 a1 = 0 then nI 1 else nI 0)), (5, .int (nI 1)), (0, .ref h), (1, .int one), (2, .int (nI a1)), (3, .int other), (4, .int (nI a2))]) hx hb d_M_verifyGrowth_170 hl rfl (nI_add _ _) (by decide) rfl (fun ls hl => ?_)
                    refine lv_goto hx hb d_M_verifyGrowth_173 (tgt := 125) (by decide) ?_
                    exact ih125 (k + 1) (jn (u55 27 k) x) ls _ _ (by omega) (by omega) (by rw [← hR, olF_go (mup u55 23 0 (nI 0)) (b := (grL 5 0 a2 a1).length) (k := k) hc131 x, mup_ne (show 20 ≠ 23 by decide), mup_ne (show 27 ≠ 23 by decide)]; first | rw [if_pos hc148] | rw [if_neg hc148]) (lv_sub hl [0, 1, 2, 3, 4, 5, 6, 7, 8, 9, 10, 11] rfl) hP hD hS
            exact key125 _ 0 one ls _ _ (Nat.lt_succ_self _) (by omega) rfl (lv_sub hl [0, 1, 2, 3, 4, 5, 6, 7, 8, 9, 10, 11] rfl) hP hD hS
        · skip
          have hrg : rdM (sdL (mup (mup g 0 0 (nI 0)) 17 0 (nI 0)) 0 (grL 5 0 a2 a1)) 0 t0 = nI (grL 5 0 a2 a1).length ∧ 1 + 4 * (grL 5 0 a2 a1).length ≤ t0 := Classical.byContradiction (fun q => hc62 (by rw [h26]; exact if_10.mpr q))
          have hg2 := hgd hrg
          have hJ : ∀ j, j < (grL 5 0 a2 a1).length → u55 27 j = riM g (1 + 4 * j) t0 := fun j hj => (hg2.2 j hj).trans (ri_c h241 _ _)
          refine lv_aload_n hx hb d_M_verifyGrowth_65 rfl (lv_at hl 2 rfl) ?_
          refine gf_M_197 (v := .int (u55 25 0)) hx hb hT hown hK hP 0 rfl rfl d_M_verifyGrowth_66 ?_
          refine lv_aload_n hx hb d_M_verifyGrowth_69 rfl (lv_at hl 2 rfl) ?_
          refine gf_M_194 (v := .int (u55 23 0)) hx hb hT hown hK hP 0 rfl rfl d_M_verifyGrowth_70 ?_
          refine lv_icmp_ne hx hb d_M_verifyGrowth_73 (tgt := 80) (by decide) (fun hc73 => ?_) (fun hc73 => ?_)
          · skip
            have hnv : ¬ vgP g t0 one other a1 a2 := fun q => hc73 (by rw [hg2.1, (congrFun (hfi 23 (by decide)) 0).trans hgt1, q.1.2])
            refine lv_iconst (v := nI 0) hx hb d_M_verifyGrowth_80 (by decide) ?_
            refine lv_istore (lv' := [(7, .int (nI 0)), (6, .int (if grP 5 0 a2 a1 = 0 then nI 1 else nI 0)), (5, .int (nI 1)), (0, .ref h), (1, .int one), (2, .int (nI a1)), (3, .int other), (4, .int (nI a2))]) hx hb d_M_verifyGrowth_81 hl (by decide) rfl (fun ls hl => ?_)
            refine lv_aload_n hx hb d_M_verifyGrowth_83 rfl (lv_at hl 3 rfl) ?_
            refine lv_iconst (v := nI 0) hx hb d_M_verifyGrowth_84 (by decide) ?_
            refine pf_M_194 hx hb hT hown hK hP hD hS 0 rfl (Nat.le_of_ble_eq_true rfl) d_M_verifyGrowth_85 (fun H locs hP hD hS => ?_)
            replace hP : va_P D CC (wM tk h ad (mup u55 23 0 (nI 0)) la ++ tl) H := Eq.mp (congrArg (fun w => va_P D CC w H) (sM_23 tk h ad u55 la tl (nI 0))) hP
            replace hD : va_D A (wM tk h ad (mup u55 23 0 (nI 0)) la ++ tl) := Eq.mp (congrArg (fun w => va_D A w) (sM_23 tk h ad u55 la tl (nI 0))) hD
            refine lv_iload hx hb d_M_verifyGrowth_88 (lv_at hl 1 rfl) ?_
            refine lv_if_eq hx hb d_M_verifyGrowth_90 (tgt := 97) (by decide) (fun hc90 => ?_) (fun hc90 => ?_)
            · skip
              have hgp : ¬ grP 5 0 a2 a1 = 0 := fun q => by rw [if_pos q] at hc90; exact absurd hc90 (by decide)
              have hgl := gr_ne9 a2 (by omega) a1 (by omega) h1 (by omega) hgp
              refine lv_iconst (v := nI 1) hx hb d_M_verifyGrowth_97 (by decide) ?_
              refine lv_istore (lv' := [(8, .int (nI 1)), (7, .int (nI 0)), (6, .int (if grP 5 0 a2 a1 = 0 then nI 1 else nI 0)), (5, .int (nI 1)), (0, .ref h), (1, .int one), (2, .int (nI a1)), (3, .int other), (4, .int (nI a2))]) hx hb d_M_verifyGrowth_98 hl (by decide) rfl (fun ls hl => ?_)
              refine lv_iload hx hb d_M_verifyGrowth_100 (lv_at hl 2 rfl) ?_
              refine lv_if_eq hx hb d_M_verifyGrowth_102 (tgt := 109) (by decide) (fun hc102 => ?_) (fun hc102 => absurd hc90 hc102)
              refine lv_aload_n hx hb d_M_verifyGrowth_109 rfl (lv_at hl 4 rfl) ?_
              refine gf_M_60 (v := .ref (ad 27)) hx hb hT hown hK hP 0 rfl rfl d_M_verifyGrowth_110 ?_
              refine lv_iconst (v := nI 0) hx hb d_M_verifyGrowth_113 (by decide) ?_
              refine st_iald hx hb hK hP 17 0 rfl rfl (by omega) (by decide) d_M_verifyGrowth_114 ?_
              refine st_top (show (mup u55 23 0 (nI 0)) 27 0 = u55 27 0 from (rd_ne (by decide) rfl)) ?_
              refine lv_istore (lv' := [(9, .int (u55 27 0)), (8, .int (nI 1)), (7, .int (nI 0)), (6, .int (if grP 5 0 a2 a1 = 0 then nI 1 else nI 0)), (5, .int (nI 1)), (0, .ref h), (1, .int one), (2, .int (nI a1)), (3, .int other), (4, .int (nI a2))]) hx hb d_M_verifyGrowth_115 hl (by decide) rfl (fun ls hl => ?_)
              refine lv_iload hx hb d_M_verifyGrowth_117 (lv_at hl 0 rfl) ?_
              refine lv_istore (lv' := [(10, .int (u55 27 0)), (9, .int (u55 27 0)), (8, .int (nI 1)), (7, .int (nI 0)), (6, .int (if grP 5 0 a2 a1 = 0 then nI 1 else nI 0)), (5, .int (nI 1)), (0, .ref h), (1, .int one), (2, .int (nI a1)), (3, .int other), (4, .int (nI a2))]) hx hb d_M_verifyGrowth_119 hl (by decide) rfl (fun ls hl => ?_)
              refine lv_iload hx hb d_M_verifyGrowth_121 (lv_at hl 2 rfl) ?_
              refine lv_istore (lv' := [(11, .int (nI 1)), (10, .int (u55 27 0)), (9, .int (u55 27 0)), (8, .int (nI 1)), (7, .int (nI 0)), (6, .int (if grP 5 0 a2 a1 = 0 then nI 1 else nI 0)), (5, .int (nI 1)), (0, .ref h), (1, .int one), (2, .int (nI a1)), (3, .int other), (4, .int (nI a2))]) hx hb d_M_verifyGrowth_123 hl (by decide) rfl (fun ls hl => ?_)
              have hfl : 1 ≤ (grL 5 0 a2 a1).length := by omega
              have key125 : ∀ (n125 : Nat) (k : Nat) (x : Int32) (ls : Array Slot) (H : Heap) (locs : List Loc), (grL 5 0 a2 a1).length - k < n125 → (1 ≤ k ∧ k ≤ (grL 5 0 a2 a1).length) → (olF (mup u55 23 0 (nI 0)) (grL 5 0 a2 a1).length k ((grL 5 0 a2 a1).length - k) x = olF (mup u55 23 0 (nI 0)) (grL 5 0 a2 a1).length 1 ((grL 5 0 a2 a1).length - 1) (u55 27 0)) → lv_has ls 12 [(11, .int (nI k)), (10, .int x), (9, .int (u55 27 0)), (8, .int (nI 1)), (7, .int (nI 0)), (6, .int (if grP 5 0 a2 a1 = 0 then nI 1 else nI 0)), (5, .int (nI 1)), (0, .ref h), (1, .int one), (2, .int (nI a1)), (3, .int other), (4, .int (nI a2))] → va_P D CC (wM tk h ad (mup u55 23 0 (nI 0)) la ++ tl) H → va_D A (wM tk h ad (mup u55 23 0 (nI 0)) la ++ tl) → va_S A s.heap H locs → W p l e ({ frames := 4, cells := 0, slots := 0, locals := 89 } : Room) s m args below meth c H locs 0 0 Q (F0 m 125 ls []) := by
                intro n125
                induction n125 with
                | zero => intro k x ls H locs hn; exact absurd hn (Nat.not_lt_zero _)
                | succ n125 ih125 =>
                  intro k x ls H locs hn125 hk hR hl hP hD hS
                  refine lv_iload hx hb d_M_verifyGrowth_125 (lv_at hl 0 rfl) ?_
                  refine lv_aload_n hx hb d_M_verifyGrowth_127 rfl (lv_at hl 7 rfl) ?_
                  refine gf_M_155 (v := .int ((mup u55 23 0 (nI 0)) 17 0)) hx hb hT hown hK hP 0 rfl rfl d_M_verifyGrowth_128 ?_
                  refine st_top (show (mup u55 23 0 (nI 0)) 17 0 = u55 17 0 from (rd_ne (by decide) rfl)) ?_
                  refine st_top (show u55 17 0 = nI ((grL 5 0 a2 a1).length) from (congrFun (hfi 17 (by decide)) 0).trans (bs_way _ _).1) ?_
                  refine st_icmp_ge hx hb (by omega) (by omega) d_M_verifyGrowth_131 (tgt := 176) (by decide) (fun hc131 => ?_) (fun hc131 => ?_)
                  · skip
                    have hx9 : x = _ := ((olF_0 _ _ _ x).symm.trans (by rw [show (grL 5 0 a2 a1).length - k = 0 by omega])).trans hR
                    refine lv_iload hx hb d_M_verifyGrowth_176 (lv_at hl 4 rfl) ?_
                    refine st_if_eq hx hb (by omega) d_M_verifyGrowth_178 (tgt := 203) (by decide) (fun hc178 => ?_) (fun hc178 => (by exfalso; first | exact hc178 | omega))
                    refine lv_iconst (v := nI 0) hx hb d_M_verifyGrowth_203 (by decide) ?_
                    exact k_zret (v := nI 0) hQ hx hb hr hlk hK hP hD hS (mup u55 23 0 (nI 0)) rfl (by decide) (⟨fun q => absurd q (vg_no h1 h2 h3), fun m1 n1 e1 e2 q1 q2 q3 => by obtain rfl := (nI_eq (by omega) (by omega)).mp e1; obtain rfl := (nI_eq (by omega) (by omega)).mp e2; exact ⟨frx_t (frx_t (frx_t (L := [0]) frx_m (wy_fr _ _) (M := [0, 17, 18, 19, 20]) (fun x h => ⟨fun q => h (by simp at q ⊢; omega), fun q => h (by simp at q ⊢; omega)⟩)) hfi (M := [0, 17, 18, 19, 20, 25, 26, 27]) (fun x h => ⟨fun q => h (by simp at q ⊢; omega), fun q => h (by simp at q ⊢; omega)⟩)) (L' := [23]) frx_m (fun x h => ⟨fun q => h (by simp at q ⊢; omega), fun q => h (by simp at q ⊢; omega)⟩), rd_ne (by decide) ((congrFun (hfi 0 (by decide)) 0).trans ((congrFun (wy_fr _ _ 0 (by decide)) 0).trans rd_eq)), rd_eq, (if_neg hnv).symm⟩⟩) d_M_verifyGrowth_204
                  · skip
                    refine lv_aload_n hx hb d_M_verifyGrowth_134 rfl (lv_at hl 7 rfl) ?_
                    refine gf_M_51 (v := .ref (ad 20)) hx hb hT hown hK hP 0 rfl rfl d_M_verifyGrowth_135 ?_
                    refine lv_aload_n hx hb d_M_verifyGrowth_138 rfl (lv_at hl 7 rfl) ?_
                    refine gf_M_155 (v := .int ((mup u55 23 0 (nI 0)) 17 0)) hx hb hT hown hK hP 0 rfl rfl d_M_verifyGrowth_139 ?_
                    refine st_top (show (mup u55 23 0 (nI 0)) 17 0 = u55 17 0 from (rd_ne (by decide) rfl)) ?_
                    refine st_top (show u55 17 0 = nI ((grL 5 0 a2 a1).length) from (congrFun (hfi 17 (by decide)) 0).trans (bs_way _ _).1) ?_
                    refine lv_iconst (v := nI 1) hx hb d_M_verifyGrowth_142 (by decide) ?_
                    refine st_isub hx hb (by omega) d_M_verifyGrowth_143 ?_
                    refine lv_iload hx hb d_M_verifyGrowth_144 (lv_at hl 0 rfl) ?_
                    refine st_isub hx hb (by omega) d_M_verifyGrowth_146 ?_
                    refine st_zald hx hb hK hP 14 1 rfl rfl (by omega) (by decide) d_M_verifyGrowth_147 ?_
                    refine st_top (show (mup u55 23 0 (nI 0)) 20 ((((grL 5 0 a2 a1).length) - 1) - k) = u55 20 ((((grL 5 0 a2 a1).length) - 1) - k) from (rd_ne (by decide) rfl)) ?_
                    refine lv_if_eq hx hb d_M_verifyGrowth_148 (tgt := 166) (by decide) (fun hc148 => ?_) (fun hc148 => ?_)
                    · skip
                      refine lv_iload hx hb d_M_verifyGrowth_166 (lv_at hl 1 rfl) ?_
                      refine lv_istore (lv' := [(10, .int x), (11, .int (nI k)), (9, .int (u55 27 0)), (8, .int (nI 1)), (7, .int (nI 0)), (6, .int (if grP 5 0 a2 a1 = 0 then nI 1 else nI 0)), (5, .int (nI 1)), (0, .ref h), (1, .int one), (2, .int (nI a1)), (3, .int other), (4, .int (nI a2))]) hx hb d_M_verifyGrowth_168 hl (by decide) rfl (fun ls hl => ?_)
                      refine lv_iinc (k := 1) (v := nI (k + 1)) (lv' := [(11, .int (nI (k + 1))), (10, .int x), (9, .int (u55 27 0)), (8, .int (nI 1)), (7, .int (nI 0)), (6, .int (if grP 5 0 a2 a1 = 0 then nI 1 else nI 0)), (5, .int (nI 1)), (0, .ref h), (1, .int one), (2, .int (nI a1)), (3, .int other), (4, .int (nI a2))]) hx hb d_M_verifyGrowth_170 hl rfl (nI_add _ _) (by decide) rfl (fun ls hl => ?_)
                      refine lv_goto hx hb d_M_verifyGrowth_173 (tgt := 125) (by decide) ?_
                      exact ih125 (k + 1) x ls _ _ (by omega) (by omega) (by rw [← hR, olF_go (mup u55 23 0 (nI 0)) (b := (grL 5 0 a2 a1).length) (k := k) hc131 x, mup_ne (show 20 ≠ 23 by decide), mup_ne (show 27 ≠ 23 by decide)]; first | rw [if_pos hc148] | rw [if_neg hc148]) (lv_sub hl [0, 1, 2, 3, 4, 5, 6, 7, 8, 9, 10, 11] rfl) hP hD hS
                    · skip
                      refine lv_aload_n hx hb d_M_verifyGrowth_151 rfl (lv_at hl 7 rfl) ?_
                      refine gf_M_60 (v := .ref (ad 27)) hx hb hT hown hK hP 0 rfl rfl d_M_verifyGrowth_152 ?_
                      refine lv_iload hx hb d_M_verifyGrowth_155 (lv_at hl 0 rfl) ?_
                      refine st_iald hx hb hK hP 17 0 rfl rfl (by omega) (by decide) d_M_verifyGrowth_157 ?_
                      refine st_top (show (mup u55 23 0 (nI 0)) 27 k = u55 27 k from (rd_ne (by decide) rfl)) ?_
                      refine lv_iload hx hb d_M_verifyGrowth_158 (lv_at hl 1 rfl) ?_
                      refine k_calli (va_runS (As := [.int (u55 27 k), .int x]) (rest := []) ⟨hx, hb, hml, hown, hts⟩ (c_M_join l D tk H.size (u55 27 k) x (wM tk h ad (mup u55 23 0 (nI 0)) la ++ tl)) (cwS 2 hts (gS t_1146 t_1147 t_9 t_1148) rfl rfl rfl (by decide +kernel) ⟨Nat.le_of_ble_eq_true rfl, Nat.le_of_ble_eq_true rfl⟩) (k_preS hP hK hD hnw) rfl rfl hl.1 rfl (lv_room (Nat.le_of_ble_eq_true rfl)) d_M_verifyGrowth_160 hc0) hD hS hA (fun _ _ H locs hp160 hP hD hK hS => ?_)
                      subst hp160
                      replace hP : va_P D CC (wM tk h ad (mup u55 23 0 (nI 0)) la ++ tl) H := hP
                      replace hD : va_D A (wM tk h ad (mup u55 23 0 (nI 0)) la ++ tl) := hD
                      refine lv_goto hx hb d_M_verifyGrowth_163 (tgt := 168) (by decide) ?_
                      refine lv_istore (lv' := [(10, .int (jn (u55 27 k) x)), (11, .int (nI k)), (9, .int (u55 27 0)), (8, .int (nI 1)), (7, .int (nI 0)), (6, .int (if grP 5 0 a2 a1 = 0 then nI 1 else nI 0)), (5, .int (nI 1)), (0, .ref h), (1, .int one), (2, .int (nI a1)), (3, .int other), (4, .int (nI a2))]) hx hb d_M_verifyGrowth_168 hl (by decide) rfl (fun ls hl => ?_)
                      refine lv_iinc (k := 1) (v := nI (k + 1)) (lv' := [(11, .int (nI (k + 1))), (10, .int (jn (u55 27 k) x)), (9, .int (u55 27 0)), (8, .int (nI 1)), (7, .int (nI 0)), (6, .int (if grP 5 0 a2 a1 = 0 then nI 1 else nI 0)), (5, .int (nI 1)), (0, .ref h), (1, .int one), (2, .int (nI a1)), (3, .int other), (4, .int (nI a2))]) hx hb d_M_verifyGrowth_170 hl rfl (nI_add _ _) (by decide) rfl (fun ls hl => ?_)
                      refine lv_goto hx hb d_M_verifyGrowth_173 (tgt := 125) (by decide) ?_
                      exact ih125 (k + 1) (jn (u55 27 k) x) ls _ _ (by omega) (by omega) (by rw [← hR, olF_go (mup u55 23 0 (nI 0)) (b := (grL 5 0 a2 a1).length) (k := k) hc131 x, mup_ne (show 20 ≠ 23 by decide), mup_ne (show 27 ≠ 23 by decide)]; first | rw [if_pos hc148] | rw [if_neg hc148]) (lv_sub hl [0, 1, 2, 3, 4, 5, 6, 7, 8, 9, 10, 11] rfl) hP hD hS
              exact key125 _ 1 (u55 27 0) ls _ _ (Nat.lt_succ_self _) (by omega) rfl (lv_sub hl [0, 1, 2, 3, 4, 5, 6, 7, 8, 9, 10, 11] rfl) hP hD hS
            · skip
              have hgp : grP 5 0 a2 a1 = 0 := Classical.byContradiction (fun q => hc90 (if_neg q))
              refine lv_iconst (v := nI 0) hx hb d_M_verifyGrowth_93 (by decide) ?_
              refine lv_goto hx hb d_M_verifyGrowth_94 (tgt := 98) (by decide) ?_
              refine lv_istore (lv' := [(8, .int (nI 0)), (7, .int (nI 0)), (6, .int (if grP 5 0 a2 a1 = 0 then nI 1 else nI 0)), (5, .int (nI 1)), (0, .ref h), (1, .int one), (2, .int (nI a1)), (3, .int other), (4, .int (nI a2))]) hx hb d_M_verifyGrowth_98 hl (by decide) rfl (fun ls hl => ?_)
              refine lv_iload hx hb d_M_verifyGrowth_100 (lv_at hl 2 rfl) ?_
              refine lv_if_eq hx hb d_M_verifyGrowth_102 (tgt := 109) (by decide) (fun hc102 => absurd hc102 hc90) (fun hc102 => ?_)
              refine lv_iload_n hx hb d_M_verifyGrowth_105 rfl (lv_at hl 5 rfl) ?_
              refine lv_goto hx hb d_M_verifyGrowth_106 (tgt := 115) (by decide) ?_
              refine lv_istore (lv' := [(9, .int one), (8, .int (nI 0)), (7, .int (nI 0)), (6, .int (if grP 5 0 a2 a1 = 0 then nI 1 else nI 0)), (5, .int (nI 1)), (0, .ref h), (1, .int one), (2, .int (nI a1)), (3, .int other), (4, .int (nI a2))]) hx hb d_M_verifyGrowth_115 hl (by decide) rfl (fun ls hl => ?_)
              refine lv_iload hx hb d_M_verifyGrowth_117 (lv_at hl 0 rfl) ?_
              refine lv_istore (lv' := [(10, .int one), (9, .int one), (8, .int (nI 0)), (7, .int (nI 0)), (6, .int (if grP 5 0 a2 a1 = 0 then nI 1 else nI 0)), (5, .int (nI 1)), (0, .ref h), (1, .int one), (2, .int (nI a1)), (3, .int other), (4, .int (nI a2))]) hx hb d_M_verifyGrowth_119 hl (by decide) rfl (fun ls hl => ?_)
              refine lv_iload hx hb d_M_verifyGrowth_121 (lv_at hl 2 rfl) ?_
              refine lv_istore (lv' := [(11, .int (nI 0)), (10, .int one), (9, .int one), (8, .int (nI 0)), (7, .int (nI 0)), (6, .int (if grP 5 0 a2 a1 = 0 then nI 1 else nI 0)), (5, .int (nI 1)), (0, .ref h), (1, .int one), (2, .int (nI a1)), (3, .int other), (4, .int (nI a2))]) hx hb d_M_verifyGrowth_123 hl (by decide) rfl (fun ls hl => ?_)
              have hfl : 0 ≤ (grL 5 0 a2 a1).length := by omega
              have key125 : ∀ (n125 : Nat) (k : Nat) (x : Int32) (ls : Array Slot) (H : Heap) (locs : List Loc), (grL 5 0 a2 a1).length - k < n125 → (0 ≤ k ∧ k ≤ (grL 5 0 a2 a1).length) → (olF (mup u55 23 0 (nI 0)) (grL 5 0 a2 a1).length k ((grL 5 0 a2 a1).length - k) x = olF (mup u55 23 0 (nI 0)) (grL 5 0 a2 a1).length 0 ((grL 5 0 a2 a1).length - 0) one) → lv_has ls 12 [(11, .int (nI k)), (10, .int x), (9, .int one), (8, .int (nI 0)), (7, .int (nI 0)), (6, .int (if grP 5 0 a2 a1 = 0 then nI 1 else nI 0)), (5, .int (nI 1)), (0, .ref h), (1, .int one), (2, .int (nI a1)), (3, .int other), (4, .int (nI a2))] → va_P D CC (wM tk h ad (mup u55 23 0 (nI 0)) la ++ tl) H → va_D A (wM tk h ad (mup u55 23 0 (nI 0)) la ++ tl) → va_S A s.heap H locs → W p l e ({ frames := 4, cells := 0, slots := 0, locals := 89 } : Room) s m args below meth c H locs 0 0 Q (F0 m 125 ls []) := by
                intro n125
                induction n125 with
                | zero => intro k x ls H locs hn; exact absurd hn (Nat.not_lt_zero _)
                | succ n125 ih125 =>
                  intro k x ls H locs hn125 hk hR hl hP hD hS
                  refine lv_iload hx hb d_M_verifyGrowth_125 (lv_at hl 0 rfl) ?_
                  refine lv_aload_n hx hb d_M_verifyGrowth_127 rfl (lv_at hl 7 rfl) ?_
                  refine gf_M_155 (v := .int ((mup u55 23 0 (nI 0)) 17 0)) hx hb hT hown hK hP 0 rfl rfl d_M_verifyGrowth_128 ?_
                  refine st_top (show (mup u55 23 0 (nI 0)) 17 0 = u55 17 0 from (rd_ne (by decide) rfl)) ?_
                  refine st_top (show u55 17 0 = nI ((grL 5 0 a2 a1).length) from (congrFun (hfi 17 (by decide)) 0).trans (bs_way _ _).1) ?_
                  refine st_icmp_ge hx hb (by omega) (by omega) d_M_verifyGrowth_131 (tgt := 176) (by decide) (fun hc131 => ?_) (fun hc131 => ?_)
                  · skip
                    have hx9 : x = _ := ((olF_0 _ _ _ x).symm.trans (by rw [show (grL 5 0 a2 a1).length - k = 0 by omega])).trans hR
                    refine lv_iload hx hb d_M_verifyGrowth_176 (lv_at hl 4 rfl) ?_
                    refine st_if_eq hx hb (by omega) d_M_verifyGrowth_178 (tgt := 203) (by decide) (fun hc178 => ?_) (fun hc178 => (by exfalso; first | exact hc178 | omega))
                    refine lv_iconst (v := nI 0) hx hb d_M_verifyGrowth_203 (by decide) ?_
                    exact k_zret (v := nI 0) hQ hx hb hr hlk hK hP hD hS (mup u55 23 0 (nI 0)) rfl (by decide) (⟨fun q => absurd q (vg_no h1 h2 h3), fun m1 n1 e1 e2 q1 q2 q3 => by obtain rfl := (nI_eq (by omega) (by omega)).mp e1; obtain rfl := (nI_eq (by omega) (by omega)).mp e2; exact ⟨frx_t (frx_t (frx_t (L := [0]) frx_m (wy_fr _ _) (M := [0, 17, 18, 19, 20]) (fun x h => ⟨fun q => h (by simp at q ⊢; omega), fun q => h (by simp at q ⊢; omega)⟩)) hfi (M := [0, 17, 18, 19, 20, 25, 26, 27]) (fun x h => ⟨fun q => h (by simp at q ⊢; omega), fun q => h (by simp at q ⊢; omega)⟩)) (L' := [23]) frx_m (fun x h => ⟨fun q => h (by simp at q ⊢; omega), fun q => h (by simp at q ⊢; omega)⟩), rd_ne (by decide) ((congrFun (hfi 0 (by decide)) 0).trans ((congrFun (wy_fr _ _ 0 (by decide)) 0).trans rd_eq)), rd_eq, (if_neg hnv).symm⟩⟩) d_M_verifyGrowth_204
                  · skip
                    refine lv_aload_n hx hb d_M_verifyGrowth_134 rfl (lv_at hl 7 rfl) ?_
                    refine gf_M_51 (v := .ref (ad 20)) hx hb hT hown hK hP 0 rfl rfl d_M_verifyGrowth_135 ?_
                    refine lv_aload_n hx hb d_M_verifyGrowth_138 rfl (lv_at hl 7 rfl) ?_
                    refine gf_M_155 (v := .int ((mup u55 23 0 (nI 0)) 17 0)) hx hb hT hown hK hP 0 rfl rfl d_M_verifyGrowth_139 ?_
                    refine st_top (show (mup u55 23 0 (nI 0)) 17 0 = u55 17 0 from (rd_ne (by decide) rfl)) ?_
                    refine st_top (show u55 17 0 = nI ((grL 5 0 a2 a1).length) from (congrFun (hfi 17 (by decide)) 0).trans (bs_way _ _).1) ?_
                    refine lv_iconst (v := nI 1) hx hb d_M_verifyGrowth_142 (by decide) ?_
                    refine st_isub hx hb (by omega) d_M_verifyGrowth_143 ?_
                    refine lv_iload hx hb d_M_verifyGrowth_144 (lv_at hl 0 rfl) ?_
                    refine st_isub hx hb (by omega) d_M_verifyGrowth_146 ?_
                    refine st_zald hx hb hK hP 14 1 rfl rfl (by omega) (by decide) d_M_verifyGrowth_147 ?_
                    refine st_top (show (mup u55 23 0 (nI 0)) 20 ((((grL 5 0 a2 a1).length) - 1) - k) = u55 20 ((((grL 5 0 a2 a1).length) - 1) - k) from (rd_ne (by decide) rfl)) ?_
                    refine lv_if_eq hx hb d_M_verifyGrowth_148 (tgt := 166) (by decide) (fun hc148 => ?_) (fun hc148 => ?_)
                    · skip
                      refine lv_iload hx hb d_M_verifyGrowth_166 (lv_at hl 1 rfl) ?_
                      refine lv_istore (lv' := [(10, .int x), (11, .int (nI k)), (9, .int one), (8, .int (nI 0)), (7, .int (nI 0)), (6, .int (if grP 5 0 a2 a1 = 0 then nI 1 else nI 0)), (5, .int (nI 1)), (0, .ref h), (1, .int one), (2, .int (nI a1)), (3, .int other), (4, .int (nI a2))]) hx hb d_M_verifyGrowth_168 hl (by decide) rfl (fun ls hl => ?_)
                      refine lv_iinc (k := 1) (v := nI (k + 1)) (lv' := [(11, .int (nI (k + 1))), (10, .int x), (9, .int one), (8, .int (nI 0)), (7, .int (nI 0)), (6, .int (if grP 5 0 a2 a1 = 0 then nI 1 else nI 0)), (5, .int (nI 1)), (0, .ref h), (1, .int one), (2, .int (nI a1)), (3, .int other), (4, .int (nI a2))]) hx hb d_M_verifyGrowth_170 hl rfl (nI_add _ _) (by decide) rfl (fun ls hl => ?_)
                      refine lv_goto hx hb d_M_verifyGrowth_173 (tgt := 125) (by decide) ?_
                      exact ih125 (k + 1) x ls _ _ (by omega) (by omega) (by rw [← hR, olF_go (mup u55 23 0 (nI 0)) (b := (grL 5 0 a2 a1).length) (k := k) hc131 x, mup_ne (show 20 ≠ 23 by decide), mup_ne (show 27 ≠ 23 by decide)]; first | rw [if_pos hc148] | rw [if_neg hc148]) (lv_sub hl [0, 1, 2, 3, 4, 5, 6, 7, 8, 9, 10, 11] rfl) hP hD hS
                    · skip
                      refine lv_aload_n hx hb d_M_verifyGrowth_151 rfl (lv_at hl 7 rfl) ?_
                      refine gf_M_60 (v := .ref (ad 27)) hx hb hT hown hK hP 0 rfl rfl d_M_verifyGrowth_152 ?_
                      refine lv_iload hx hb d_M_verifyGrowth_155 (lv_at hl 0 rfl) ?_
                      refine st_iald hx hb hK hP 17 0 rfl rfl (by omega) (by decide) d_M_verifyGrowth_157 ?_
                      refine st_top (show (mup u55 23 0 (nI 0)) 27 k = u55 27 k from (rd_ne (by decide) rfl)) ?_
                      refine lv_iload hx hb d_M_verifyGrowth_158 (lv_at hl 1 rfl) ?_
                      refine k_calli (va_runS (As := [.int (u55 27 k), .int x]) (rest := []) ⟨hx, hb, hml, hown, hts⟩ (c_M_join l D tk H.size (u55 27 k) x (wM tk h ad (mup u55 23 0 (nI 0)) la ++ tl)) (cwS 2 hts (gS t_1146 t_1147 t_9 t_1148) rfl rfl rfl (by decide +kernel) ⟨Nat.le_of_ble_eq_true rfl, Nat.le_of_ble_eq_true rfl⟩) (k_preS hP hK hD hnw) rfl rfl hl.1 rfl (lv_room (Nat.le_of_ble_eq_true rfl)) d_M_verifyGrowth_160 hc0) hD hS hA (fun _ _ H locs hp160 hP hD hK hS => ?_)
                      subst hp160
                      replace hP : va_P D CC (wM tk h ad (mup u55 23 0 (nI 0)) la ++ tl) H := hP
                      replace hD : va_D A (wM tk h ad (mup u55 23 0 (nI 0)) la ++ tl) := hD
                      refine lv_goto hx hb d_M_verifyGrowth_163 (tgt := 168) (by decide) ?_
                      refine lv_istore (lv' := [(10, .int (jn (u55 27 k) x)), (11, .int (nI k)), (9, .int one), (8, .int (nI 0)), (7, .int (nI 0)), (6, .int (if grP 5 0 a2 a1 = 0 then nI 1 else nI 0)), (5, .int (nI 1)), (0, .ref h), (1, .int one), (2, .int (nI a1)), (3, .int other), (4, .int (nI a2))]) hx hb d_M_verifyGrowth_168 hl (by decide) rfl (fun ls hl => ?_)
                      refine lv_iinc (k := 1) (v := nI (k + 1)) (lv' := [(11, .int (nI (k + 1))), (10, .int (jn (u55 27 k) x)), (9, .int one), (8, .int (nI 0)), (7, .int (nI 0)), (6, .int (if grP 5 0 a2 a1 = 0 then nI 1 else nI 0)), (5, .int (nI 1)), (0, .ref h), (1, .int one), (2, .int (nI a1)), (3, .int other), (4, .int (nI a2))]) hx hb d_M_verifyGrowth_170 hl rfl (nI_add _ _) (by decide) rfl (fun ls hl => ?_)
                      refine lv_goto hx hb d_M_verifyGrowth_173 (tgt := 125) (by decide) ?_
                      exact ih125 (k + 1) (jn (u55 27 k) x) ls _ _ (by omega) (by omega) (by rw [← hR, olF_go (mup u55 23 0 (nI 0)) (b := (grL 5 0 a2 a1).length) (k := k) hc131 x, mup_ne (show 20 ≠ 23 by decide), mup_ne (show 27 ≠ 23 by decide)]; first | rw [if_pos hc148] | rw [if_neg hc148]) (lv_sub hl [0, 1, 2, 3, 4, 5, 6, 7, 8, 9, 10, 11] rfl) hP hD hS
              exact key125 _ 0 one ls _ _ (Nat.lt_succ_self _) (by omega) rfl (lv_sub hl [0, 1, 2, 3, 4, 5, 6, 7, 8, 9, 10, 11] rfl) hP hD hS
          · skip
            have ht9 : 1 + 4 * (grL 5 0 a2 a1).length = t0 := by rw [hg2.1, (congrFun (hfi 23 (by decide)) 0).trans hgt1] at hc73; exact (nI_eq (by omega) (by omega)).mp hc73
            refine lv_iconst (v := nI 1) hx hb d_M_verifyGrowth_76 (by decide) ?_
            refine lv_goto hx hb d_M_verifyGrowth_77 (tgt := 81) (by decide) ?_
            refine lv_istore (lv' := [(7, .int (nI 1)), (6, .int (if grP 5 0 a2 a1 = 0 then nI 1 else nI 0)), (5, .int (nI 1)), (0, .ref h), (1, .int one), (2, .int (nI a1)), (3, .int other), (4, .int (nI a2))]) hx hb d_M_verifyGrowth_81 hl (by decide) rfl (fun ls hl => ?_)
            refine lv_aload_n hx hb d_M_verifyGrowth_83 rfl (lv_at hl 3 rfl) ?_
            refine lv_iconst (v := nI 0) hx hb d_M_verifyGrowth_84 (by decide) ?_
            refine pf_M_194 hx hb hT hown hK hP hD hS 0 rfl (Nat.le_of_ble_eq_true rfl) d_M_verifyGrowth_85 (fun H locs hP hD hS => ?_)
            replace hP : va_P D CC (wM tk h ad (mup u55 23 0 (nI 0)) la ++ tl) H := Eq.mp (congrArg (fun w => va_P D CC w H) (sM_23 tk h ad u55 la tl (nI 0))) hP
            replace hD : va_D A (wM tk h ad (mup u55 23 0 (nI 0)) la ++ tl) := Eq.mp (congrArg (fun w => va_D A w) (sM_23 tk h ad u55 la tl (nI 0))) hD
            refine lv_iload hx hb d_M_verifyGrowth_88 (lv_at hl 1 rfl) ?_
            refine lv_if_eq hx hb d_M_verifyGrowth_90 (tgt := 97) (by decide) (fun hc90 => ?_) (fun hc90 => ?_)
            · skip
              have hgp : ¬ grP 5 0 a2 a1 = 0 := fun q => by rw [if_pos q] at hc90; exact absurd hc90 (by decide)
              have hgl := gr_ne9 a2 (by omega) a1 (by omega) h1 (by omega) hgp
              refine lv_iconst (v := nI 1) hx hb d_M_verifyGrowth_97 (by decide) ?_
              refine lv_istore (lv' := [(8, .int (nI 1)), (7, .int (nI 1)), (6, .int (if grP 5 0 a2 a1 = 0 then nI 1 else nI 0)), (5, .int (nI 1)), (0, .ref h), (1, .int one), (2, .int (nI a1)), (3, .int other), (4, .int (nI a2))]) hx hb d_M_verifyGrowth_98 hl (by decide) rfl (fun ls hl => ?_)
              refine lv_iload hx hb d_M_verifyGrowth_100 (lv_at hl 2 rfl) ?_
              refine lv_if_eq hx hb d_M_verifyGrowth_102 (tgt := 109) (by decide) (fun hc102 => ?_) (fun hc102 => absurd hc90 hc102)
              refine lv_aload_n hx hb d_M_verifyGrowth_109 rfl (lv_at hl 4 rfl) ?_
              refine gf_M_60 (v := .ref (ad 27)) hx hb hT hown hK hP 0 rfl rfl d_M_verifyGrowth_110 ?_
              refine lv_iconst (v := nI 0) hx hb d_M_verifyGrowth_113 (by decide) ?_
              refine st_iald hx hb hK hP 17 0 rfl rfl (by omega) (by decide) d_M_verifyGrowth_114 ?_
              refine st_top (show (mup u55 23 0 (nI 0)) 27 0 = u55 27 0 from (rd_ne (by decide) rfl)) ?_
              refine lv_istore (lv' := [(9, .int (u55 27 0)), (8, .int (nI 1)), (7, .int (nI 1)), (6, .int (if grP 5 0 a2 a1 = 0 then nI 1 else nI 0)), (5, .int (nI 1)), (0, .ref h), (1, .int one), (2, .int (nI a1)), (3, .int other), (4, .int (nI a2))]) hx hb d_M_verifyGrowth_115 hl (by decide) rfl (fun ls hl => ?_)
              refine lv_iload hx hb d_M_verifyGrowth_117 (lv_at hl 0 rfl) ?_
              refine lv_istore (lv' := [(10, .int (u55 27 0)), (9, .int (u55 27 0)), (8, .int (nI 1)), (7, .int (nI 1)), (6, .int (if grP 5 0 a2 a1 = 0 then nI 1 else nI 0)), (5, .int (nI 1)), (0, .ref h), (1, .int one), (2, .int (nI a1)), (3, .int other), (4, .int (nI a2))]) hx hb d_M_verifyGrowth_119 hl (by decide) rfl (fun ls hl => ?_)
              refine lv_iload hx hb d_M_verifyGrowth_121 (lv_at hl 2 rfl) ?_
              refine lv_istore (lv' := [(11, .int (nI 1)), (10, .int (u55 27 0)), (9, .int (u55 27 0)), (8, .int (nI 1)), (7, .int (nI 1)), (6, .int (if grP 5 0 a2 a1 = 0 then nI 1 else nI 0)), (5, .int (nI 1)), (0, .ref h), (1, .int one), (2, .int (nI a1)), (3, .int other), (4, .int (nI a2))]) hx hb d_M_verifyGrowth_123 hl (by decide) rfl (fun ls hl => ?_)
              have hfl : 1 ≤ (grL 5 0 a2 a1).length := by omega
              have key125 : ∀ (n125 : Nat) (k : Nat) (x : Int32) (ls : Array Slot) (H : Heap) (locs : List Loc), (grL 5 0 a2 a1).length - k < n125 → (1 ≤ k ∧ k ≤ (grL 5 0 a2 a1).length) → (olF (mup u55 23 0 (nI 0)) (grL 5 0 a2 a1).length k ((grL 5 0 a2 a1).length - k) x = olF (mup u55 23 0 (nI 0)) (grL 5 0 a2 a1).length 1 ((grL 5 0 a2 a1).length - 1) (u55 27 0)) → lv_has ls 12 [(11, .int (nI k)), (10, .int x), (9, .int (u55 27 0)), (8, .int (nI 1)), (7, .int (nI 1)), (6, .int (if grP 5 0 a2 a1 = 0 then nI 1 else nI 0)), (5, .int (nI 1)), (0, .ref h), (1, .int one), (2, .int (nI a1)), (3, .int other), (4, .int (nI a2))] → va_P D CC (wM tk h ad (mup u55 23 0 (nI 0)) la ++ tl) H → va_D A (wM tk h ad (mup u55 23 0 (nI 0)) la ++ tl) → va_S A s.heap H locs → W p l e ({ frames := 4, cells := 0, slots := 0, locals := 89 } : Room) s m args below meth c H locs 0 0 Q (F0 m 125 ls []) := by
                intro n125
                induction n125 with
                | zero => intro k x ls H locs hn; exact absurd hn (Nat.not_lt_zero _)
                | succ n125 ih125 =>
                  intro k x ls H locs hn125 hk hR hl hP hD hS
                  refine lv_iload hx hb d_M_verifyGrowth_125 (lv_at hl 0 rfl) ?_
                  refine lv_aload_n hx hb d_M_verifyGrowth_127 rfl (lv_at hl 7 rfl) ?_
                  refine gf_M_155 (v := .int ((mup u55 23 0 (nI 0)) 17 0)) hx hb hT hown hK hP 0 rfl rfl d_M_verifyGrowth_128 ?_
                  refine st_top (show (mup u55 23 0 (nI 0)) 17 0 = u55 17 0 from (rd_ne (by decide) rfl)) ?_
                  refine st_top (show u55 17 0 = nI ((grL 5 0 a2 a1).length) from (congrFun (hfi 17 (by decide)) 0).trans (bs_way _ _).1) ?_
                  refine st_icmp_ge hx hb (by omega) (by omega) d_M_verifyGrowth_131 (tgt := 176) (by decide) (fun hc131 => ?_) (fun hc131 => ?_)
                  · skip
                    have hx9 : x = _ := ((olF_0 _ _ _ x).symm.trans (by rw [show (grL 5 0 a2 a1).length - k = 0 by omega])).trans hR
                    refine lv_iload hx hb d_M_verifyGrowth_176 (lv_at hl 4 rfl) ?_
                    refine st_if_eq hx hb (by omega) d_M_verifyGrowth_178 (tgt := 203) (by decide) (fun hc178 => (by exfalso; first | exact hc178 | omega)) (fun hc178 => ?_)
                    refine lv_iload hx hb d_M_verifyGrowth_181 (lv_at hl 1 rfl) ?_
                    refine lv_iload_n hx hb d_M_verifyGrowth_183 rfl (lv_at hl 8 rfl) ?_
                    refine lv_icmp_ne hx hb d_M_verifyGrowth_184 (tgt := 203) (by decide) (fun hc184 => ?_) (fun hc184 => ?_)
                    · skip
                      have hol : olF (mup u55 23 0 (nI 0)) (grL 5 0 a2 a1).length 1 ((grL 5 0 a2 a1).length - 1) (u55 27 0) = ol2 (fun j => riM g (1 + 4 * j) t0) (grL 5 0 a2 a1) 1 (u55 27 0) := ol_2 hbsu ((mup_ne (by decide)).trans h20u) (fun j hj => rd_ne (by decide) (hJ j hj)) (by omega) _
                      have hs0 : u55 27 0 = riM g (1 + 4 * 0) t0 := hJ 0 (by omega)
                      have hps : ∀ q : vgP g t0 one other a1 a2, ol2 (fun j => riM g (1 + 4 * j) t0) (grL 5 0 a2 a1) 1 (u55 27 0) = one ∧ ld2 (fun j => riM g (1 + 4 * j) t0) (grL 5 0 a2 a1) 1 (u55 27 0) = other := fun q => by have q2 := q.2; rw [if_neg hgp, if_neg hgp] at q2; rw [hs0]; exact q2
                      have hnv : ¬ vgP g t0 one other a1 a2 := fun q => hc184 (hx9.trans (hol.trans (hps q).1))
                      refine lv_iconst (v := nI 0) hx hb d_M_verifyGrowth_203 (by decide) ?_
                      exact k_zret (v := nI 0) hQ hx hb hr hlk hK hP hD hS (mup u55 23 0 (nI 0)) rfl (by decide) (⟨fun q => absurd q (vg_no h1 h2 h3), fun m1 n1 e1 e2 q1 q2 q3 => by obtain rfl := (nI_eq (by omega) (by omega)).mp e1; obtain rfl := (nI_eq (by omega) (by omega)).mp e2; exact ⟨frx_t (frx_t (frx_t (L := [0]) frx_m (wy_fr _ _) (M := [0, 17, 18, 19, 20]) (fun x h => ⟨fun q => h (by simp at q ⊢; omega), fun q => h (by simp at q ⊢; omega)⟩)) hfi (M := [0, 17, 18, 19, 20, 25, 26, 27]) (fun x h => ⟨fun q => h (by simp at q ⊢; omega), fun q => h (by simp at q ⊢; omega)⟩)) (L' := [23]) frx_m (fun x h => ⟨fun q => h (by simp at q ⊢; omega), fun q => h (by simp at q ⊢; omega)⟩), rd_ne (by decide) ((congrFun (hfi 0 (by decide)) 0).trans ((congrFun (wy_fr _ _ 0 (by decide)) 0).trans rd_eq)), rd_eq, (if_neg hnv).symm⟩⟩) d_M_verifyGrowth_204
                    · skip
                      have hol : olF (mup u55 23 0 (nI 0)) (grL 5 0 a2 a1).length 1 ((grL 5 0 a2 a1).length - 1) (u55 27 0) = ol2 (fun j => riM g (1 + 4 * j) t0) (grL 5 0 a2 a1) 1 (u55 27 0) := ol_2 hbsu ((mup_ne (by decide)).trans h20u) (fun j hj => rd_ne (by decide) (hJ j hj)) (by omega) _
                      have hs0 : u55 27 0 = riM g (1 + 4 * 0) t0 := hJ 0 (by omega)
                      have hps : ∀ q : vgP g t0 one other a1 a2, ol2 (fun j => riM g (1 + 4 * j) t0) (grL 5 0 a2 a1) 1 (u55 27 0) = one ∧ ld2 (fun j => riM g (1 + 4 * j) t0) (grL 5 0 a2 a1) 1 (u55 27 0) = other := fun q => by have q2 := q.2; rw [if_neg hgp, if_neg hgp] at q2; rw [hs0]; exact q2
                      refine lv_aload_n hx hb d_M_verifyGrowth_187 rfl (lv_at hl 7 rfl) ?_
                      refine lv_iload hx hb d_M_verifyGrowth_188 (lv_at hl 2 rfl) ?_
                      refine lv_iload hx hb d_M_verifyGrowth_190 (lv_at hl 3 rfl) ?_
                      refine k_calli (va_runV (As := [.int (u55 27 0), .int (nI 1)]) (rest := []) ⟨hx, hb, hml, hown, hts⟩ (c_M_lead l D tk H.size h ad (mup u55 23 0 (nI 0)) la tl (grL 5 0 a2 a1).length 1 (u55 27 0) (by omega) (by omega) (rd_ne (by decide) ((congrFun (hfi 17 (by decide)) 0).trans (bs_way _ _).1))) (cwV 2 hts (gV t_1231 t_1233 s_42 t_9 t_1234) rfl rfl rfl (by decide +kernel) ⟨Nat.le_of_ble_eq_true rfl, Nat.le_of_ble_eq_true rfl⟩) (k_preV hP hK hD hnw 0 rfl rfl) rfl rfl hl.1 rfl (lv_room (Nat.le_of_ble_eq_true rfl)) d_M_verifyGrowth_192 hc0) hD hS hA (fun _ _ H locs hp192 hP hD hK hS => ?_)
                      subst hp192
                      replace hP : va_P D CC (wM tk h ad (mup u55 23 0 (nI 0)) la ++ tl) H := hP
                      replace hD : va_D A (wM tk h ad (mup u55 23 0 (nI 0)) la ++ tl) := hD
                      refine lv_iload_n hx hb d_M_verifyGrowth_195 rfl (lv_at hl 10 rfl) ?_
                      refine lv_icmp_ne hx hb d_M_verifyGrowth_196 (tgt := 203) (by decide) (fun hc196 => ?_) (fun hc196 => ?_)
                      · skip
                        have hld : ldF (mup u55 23 0 (nI 0)) (grL 5 0 a2 a1).length 1 ((grL 5 0 a2 a1).length - 1) (u55 27 0) = ld2 (fun j => riM g (1 + 4 * j) t0) (grL 5 0 a2 a1) 1 (u55 27 0) := ld_2 hbsu ((mup_ne (by decide)).trans h20u) (fun j hj => rd_ne (by decide) (hJ j hj)) (by omega) _
                        have hnv : ¬ vgP g t0 one other a1 a2 := fun q => hc196 (hld.trans (hps q).2)
                        refine lv_iconst (v := nI 0) hx hb d_M_verifyGrowth_203 (by decide) ?_
                        exact k_zret (v := nI 0) hQ hx hb hr hlk hK hP hD hS (mup u55 23 0 (nI 0)) rfl (by decide) (⟨fun q => absurd q (vg_no h1 h2 h3), fun m1 n1 e1 e2 q1 q2 q3 => by obtain rfl := (nI_eq (by omega) (by omega)).mp e1; obtain rfl := (nI_eq (by omega) (by omega)).mp e2; exact ⟨frx_t (frx_t (frx_t (L := [0]) frx_m (wy_fr _ _) (M := [0, 17, 18, 19, 20]) (fun x h => ⟨fun q => h (by simp at q ⊢; omega), fun q => h (by simp at q ⊢; omega)⟩)) hfi (M := [0, 17, 18, 19, 20, 25, 26, 27]) (fun x h => ⟨fun q => h (by simp at q ⊢; omega), fun q => h (by simp at q ⊢; omega)⟩)) (L' := [23]) frx_m (fun x h => ⟨fun q => h (by simp at q ⊢; omega), fun q => h (by simp at q ⊢; omega)⟩), rd_ne (by decide) ((congrFun (hfi 0 (by decide)) 0).trans ((congrFun (wy_fr _ _ 0 (by decide)) 0).trans rd_eq)), rd_eq, (if_neg hnv).symm⟩⟩) d_M_verifyGrowth_204
                      · skip
                        have hld : ldF (mup u55 23 0 (nI 0)) (grL 5 0 a2 a1).length 1 ((grL 5 0 a2 a1).length - 1) (u55 27 0) = ld2 (fun j => riM g (1 + 4 * j) t0) (grL 5 0 a2 a1) 1 (u55 27 0) := ld_2 hbsu ((mup_ne (by decide)).trans h20u) (fun j hj => rd_ne (by decide) (hJ j hj)) (by omega) _
                        have hvg : vgP g t0 one other a1 a2 := ⟨⟨(rd_c h241 0 t0).symm.trans hrg.1, ht9⟩, by rw [if_neg hgp, if_neg hgp, ← hs0]; exact ⟨(hx9.trans hol).symm.trans hc184, hld.symm.trans hc196⟩⟩
                        refine lv_iconst (v := nI 1) hx hb d_M_verifyGrowth_199 (by decide) ?_
                        refine lv_goto hx hb d_M_verifyGrowth_200 (tgt := 204) (by decide) ?_
                        exact k_zret (v := nI 1) hQ hx hb hr hlk hK hP hD hS (mup u55 23 0 (nI 0)) rfl (by decide) (⟨fun q => absurd q (vg_no h1 h2 h3), fun m1 n1 e1 e2 q1 q2 q3 => by obtain rfl := (nI_eq (by omega) (by omega)).mp e1; obtain rfl := (nI_eq (by omega) (by omega)).mp e2; exact ⟨frx_t (frx_t (frx_t (L := [0]) frx_m (wy_fr _ _) (M := [0, 17, 18, 19, 20]) (fun x h => ⟨fun q => h (by simp at q ⊢; omega), fun q => h (by simp at q ⊢; omega)⟩)) hfi (M := [0, 17, 18, 19, 20, 25, 26, 27]) (fun x h => ⟨fun q => h (by simp at q ⊢; omega), fun q => h (by simp at q ⊢; omega)⟩)) (L' := [23]) frx_m (fun x h => ⟨fun q => h (by simp at q ⊢; omega), fun q => h (by simp at q ⊢; omega)⟩), rd_ne (by decide) ((congrFun (hfi 0 (by decide)) 0).trans ((congrFun (wy_fr _ _ 0 (by decide)) 0).trans rd_eq)), rd_eq, (if_pos hvg).symm⟩⟩) d_M_verifyGrowth_204
                  · skip
                    refine lv_aload_n hx hb d_M_verifyGrowth_134 rfl (lv_at hl 7 rfl) ?_
                    refine gf_M_51 (v := .ref (ad 20)) hx hb hT hown hK hP 0 rfl rfl d_M_verifyGrowth_135 ?_
                    refine lv_aload_n hx hb d_M_verifyGrowth_138 rfl (lv_at hl 7 rfl) ?_
                    refine gf_M_155 (v := .int ((mup u55 23 0 (nI 0)) 17 0)) hx hb hT hown hK hP 0 rfl rfl d_M_verifyGrowth_139 ?_
                    refine st_top (show (mup u55 23 0 (nI 0)) 17 0 = u55 17 0 from (rd_ne (by decide) rfl)) ?_
                    refine st_top (show u55 17 0 = nI ((grL 5 0 a2 a1).length) from (congrFun (hfi 17 (by decide)) 0).trans (bs_way _ _).1) ?_
                    refine lv_iconst (v := nI 1) hx hb d_M_verifyGrowth_142 (by decide) ?_
                    refine st_isub hx hb (by omega) d_M_verifyGrowth_143 ?_
                    refine lv_iload hx hb d_M_verifyGrowth_144 (lv_at hl 0 rfl) ?_
                    refine st_isub hx hb (by omega) d_M_verifyGrowth_146 ?_
                    refine st_zald hx hb hK hP 14 1 rfl rfl (by omega) (by decide) d_M_verifyGrowth_147 ?_
                    refine st_top (show (mup u55 23 0 (nI 0)) 20 ((((grL 5 0 a2 a1).length) - 1) - k) = u55 20 ((((grL 5 0 a2 a1).length) - 1) - k) from (rd_ne (by decide) rfl)) ?_
                    refine lv_if_eq hx hb d_M_verifyGrowth_148 (tgt := 166) (by decide) (fun hc148 => ?_) (fun hc148 => ?_)
                    · skip
                      refine lv_iload hx hb d_M_verifyGrowth_166 (lv_at hl 1 rfl) ?_
                      refine lv_istore (lv' := [(10, .int x), (11, .int (nI k)), (9, .int (u55 27 0)), (8, .int (nI 1)), (7, .int (nI 1)), (6, .int (if grP 5 0 a2 a1 = 0 then nI 1 else nI 0)), (5, .int (nI 1)), (0, .ref h), (1, .int one), (2, .int (nI a1)), (3, .int other), (4, .int (nI a2))]) hx hb d_M_verifyGrowth_168 hl (by decide) rfl (fun ls hl => ?_)
                      refine lv_iinc (k := 1) (v := nI (k + 1)) (lv' := [(11, .int (nI (k + 1))), (10, .int x), (9, .int (u55 27 0)), (8, .int (nI 1)), (7, .int (nI 1)), (6, .int (if grP 5 0 a2 a1 = 0 then nI 1 else nI 0)), (5, .int (nI 1)), (0, .ref h), (1, .int one), (2, .int (nI a1)), (3, .int other), (4, .int (nI a2))]) hx hb d_M_verifyGrowth_170 hl rfl (nI_add _ _) (by decide) rfl (fun ls hl => ?_)
                      refine lv_goto hx hb d_M_verifyGrowth_173 (tgt := 125) (by decide) ?_
                      exact ih125 (k + 1) x ls _ _ (by omega) (by omega) (by rw [← hR, olF_go (mup u55 23 0 (nI 0)) (b := (grL 5 0 a2 a1).length) (k := k) hc131 x, mup_ne (show 20 ≠ 23 by decide), mup_ne (show 27 ≠ 23 by decide)]; first | rw [if_pos hc148] | rw [if_neg hc148]) (lv_sub hl [0, 1, 2, 3, 4, 5, 6, 7, 8, 9, 10, 11] rfl) hP hD hS
                    · skip
                      refine lv_aload_n hx hb d_M_verifyGrowth_151 rfl (lv_at hl 7 rfl) ?_
                      refine gf_M_60 (v := .ref (ad 27)) hx hb hT hown hK hP 0 rfl rfl d_M_verifyGrowth_152 ?_
                      refine lv_iload hx hb d_M_verifyGrowth_155 (lv_at hl 0 rfl) ?_
                      refine st_iald hx hb hK hP 17 0 rfl rfl (by omega) (by decide) d_M_verifyGrowth_157 ?_
                      refine st_top (show (mup u55 23 0 (nI 0)) 27 k = u55 27 k from (rd_ne (by decide) rfl)) ?_
                      refine lv_iload hx hb d_M_verifyGrowth_158 (lv_at hl 1 rfl) ?_
                      refine k_calli (va_runS (As := [.int (u55 27 k), .int x]) (rest := []) ⟨hx, hb, hml, hown, hts⟩ (c_M_join l D tk H.size (u55 27 k) x (wM tk h ad (mup u55 23 0 (nI 0)) la ++ tl)) (cwS 2 hts (gS t_1146 t_1147 t_9 t_1148) rfl rfl rfl (by decide +kernel) ⟨Nat.le_of_ble_eq_true rfl, Nat.le_of_ble_eq_true rfl⟩) (k_preS hP hK hD hnw) rfl rfl hl.1 rfl (lv_room (Nat.le_of_ble_eq_true rfl)) d_M_verifyGrowth_160 hc0) hD hS hA (fun _ _ H locs hp160 hP hD hK hS => ?_)
                      subst hp160
                      replace hP : va_P D CC (wM tk h ad (mup u55 23 0 (nI 0)) la ++ tl) H := hP
                      replace hD : va_D A (wM tk h ad (mup u55 23 0 (nI 0)) la ++ tl) := hD
                      refine lv_goto hx hb d_M_verifyGrowth_163 (tgt := 168) (by decide) ?_
                      refine lv_istore (lv' := [(10, .int (jn (u55 27 k) x)), (11, .int (nI k)), (9, .int (u55 27 0)), (8, .int (nI 1)), (7, .int (nI 1)), (6, .int (if grP 5 0 a2 a1 = 0 then nI 1 else nI 0)), (5, .int (nI 1)), (0, .ref h), (1, .int one), (2, .int (nI a1)), (3, .int other), (4, .int (nI a2))]) hx hb d_M_verifyGrowth_168 hl (by decide) rfl (fun ls hl => ?_)
                      refine lv_iinc (k := 1) (v := nI (k + 1)) (lv' := [(11, .int (nI (k + 1))), (10, .int (jn (u55 27 k) x)), (9, .int (u55 27 0)), (8, .int (nI 1)), (7, .int (nI 1)), (6, .int (if grP 5 0 a2 a1 = 0 then nI 1 else nI 0)), (5, .int (nI 1)), (0, .ref h), (1, .int one), (2, .int (nI a1)), (3, .int other), (4, .int (nI a2))]) hx hb d_M_verifyGrowth_170 hl rfl (nI_add _ _) (by decide) rfl (fun ls hl => ?_)
                      refine lv_goto hx hb d_M_verifyGrowth_173 (tgt := 125) (by decide) ?_
                      exact ih125 (k + 1) (jn (u55 27 k) x) ls _ _ (by omega) (by omega) (by rw [← hR, olF_go (mup u55 23 0 (nI 0)) (b := (grL 5 0 a2 a1).length) (k := k) hc131 x, mup_ne (show 20 ≠ 23 by decide), mup_ne (show 27 ≠ 23 by decide)]; first | rw [if_pos hc148] | rw [if_neg hc148]) (lv_sub hl [0, 1, 2, 3, 4, 5, 6, 7, 8, 9, 10, 11] rfl) hP hD hS
              exact key125 _ 1 (u55 27 0) ls _ _ (Nat.lt_succ_self _) (by omega) rfl (lv_sub hl [0, 1, 2, 3, 4, 5, 6, 7, 8, 9, 10, 11] rfl) hP hD hS
            · skip
              have hgp : grP 5 0 a2 a1 = 0 := Classical.byContradiction (fun q => hc90 (if_neg q))
              refine lv_iconst (v := nI 0) hx hb d_M_verifyGrowth_93 (by decide) ?_
              refine lv_goto hx hb d_M_verifyGrowth_94 (tgt := 98) (by decide) ?_
              refine lv_istore (lv' := [(8, .int (nI 0)), (7, .int (nI 1)), (6, .int (if grP 5 0 a2 a1 = 0 then nI 1 else nI 0)), (5, .int (nI 1)), (0, .ref h), (1, .int one), (2, .int (nI a1)), (3, .int other), (4, .int (nI a2))]) hx hb d_M_verifyGrowth_98 hl (by decide) rfl (fun ls hl => ?_)
              refine lv_iload hx hb d_M_verifyGrowth_100 (lv_at hl 2 rfl) ?_
              refine lv_if_eq hx hb d_M_verifyGrowth_102 (tgt := 109) (by decide) (fun hc102 => absurd hc102 hc90) (fun hc102 => ?_)
              refine lv_iload_n hx hb d_M_verifyGrowth_105 rfl (lv_at hl 5 rfl) ?_
              refine lv_goto hx hb d_M_verifyGrowth_106 (tgt := 115) (by decide) ?_
              refine lv_istore (lv' := [(9, .int one), (8, .int (nI 0)), (7, .int (nI 1)), (6, .int (if grP 5 0 a2 a1 = 0 then nI 1 else nI 0)), (5, .int (nI 1)), (0, .ref h), (1, .int one), (2, .int (nI a1)), (3, .int other), (4, .int (nI a2))]) hx hb d_M_verifyGrowth_115 hl (by decide) rfl (fun ls hl => ?_)
              refine lv_iload hx hb d_M_verifyGrowth_117 (lv_at hl 0 rfl) ?_
              refine lv_istore (lv' := [(10, .int one), (9, .int one), (8, .int (nI 0)), (7, .int (nI 1)), (6, .int (if grP 5 0 a2 a1 = 0 then nI 1 else nI 0)), (5, .int (nI 1)), (0, .ref h), (1, .int one), (2, .int (nI a1)), (3, .int other), (4, .int (nI a2))]) hx hb d_M_verifyGrowth_119 hl (by decide) rfl (fun ls hl => ?_)
              refine lv_iload hx hb d_M_verifyGrowth_121 (lv_at hl 2 rfl) ?_
              refine lv_istore (lv' := [(11, .int (nI 0)), (10, .int one), (9, .int one), (8, .int (nI 0)), (7, .int (nI 1)), (6, .int (if grP 5 0 a2 a1 = 0 then nI 1 else nI 0)), (5, .int (nI 1)), (0, .ref h), (1, .int one), (2, .int (nI a1)), (3, .int other), (4, .int (nI a2))]) hx hb d_M_verifyGrowth_123 hl (by decide) rfl (fun ls hl => ?_)
              have hfl : 0 ≤ (grL 5 0 a2 a1).length := by omega
              have key125 : ∀ (n125 : Nat) (k : Nat) (x : Int32) (ls : Array Slot) (H : Heap) (locs : List Loc), (grL 5 0 a2 a1).length - k < n125 → (0 ≤ k ∧ k ≤ (grL 5 0 a2 a1).length) → (olF (mup u55 23 0 (nI 0)) (grL 5 0 a2 a1).length k ((grL 5 0 a2 a1).length - k) x = olF (mup u55 23 0 (nI 0)) (grL 5 0 a2 a1).length 0 ((grL 5 0 a2 a1).length - 0) one) → lv_has ls 12 [(11, .int (nI k)), (10, .int x), (9, .int one), (8, .int (nI 0)), (7, .int (nI 1)), (6, .int (if grP 5 0 a2 a1 = 0 then nI 1 else nI 0)), (5, .int (nI 1)), (0, .ref h), (1, .int one), (2, .int (nI a1)), (3, .int other), (4, .int (nI a2))] → va_P D CC (wM tk h ad (mup u55 23 0 (nI 0)) la ++ tl) H → va_D A (wM tk h ad (mup u55 23 0 (nI 0)) la ++ tl) → va_S A s.heap H locs → W p l e ({ frames := 4, cells := 0, slots := 0, locals := 89 } : Room) s m args below meth c H locs 0 0 Q (F0 m 125 ls []) := by
                intro n125
                induction n125 with
                | zero => intro k x ls H locs hn; exact absurd hn (Nat.not_lt_zero _)
                | succ n125 ih125 =>
                  intro k x ls H locs hn125 hk hR hl hP hD hS
                  refine lv_iload hx hb d_M_verifyGrowth_125 (lv_at hl 0 rfl) ?_
                  refine lv_aload_n hx hb d_M_verifyGrowth_127 rfl (lv_at hl 7 rfl) ?_
                  refine gf_M_155 (v := .int ((mup u55 23 0 (nI 0)) 17 0)) hx hb hT hown hK hP 0 rfl rfl d_M_verifyGrowth_128 ?_
                  refine st_top (show (mup u55 23 0 (nI 0)) 17 0 = u55 17 0 from (rd_ne (by decide) rfl)) ?_
                  refine st_top (show u55 17 0 = nI ((grL 5 0 a2 a1).length) from (congrFun (hfi 17 (by decide)) 0).trans (bs_way _ _).1) ?_
                  refine st_icmp_ge hx hb (by omega) (by omega) d_M_verifyGrowth_131 (tgt := 176) (by decide) (fun hc131 => ?_) (fun hc131 => ?_)
                  · skip
                    have hx9 : x = _ := ((olF_0 _ _ _ x).symm.trans (by rw [show (grL 5 0 a2 a1).length - k = 0 by omega])).trans hR
                    refine lv_iload hx hb d_M_verifyGrowth_176 (lv_at hl 4 rfl) ?_
                    refine st_if_eq hx hb (by omega) d_M_verifyGrowth_178 (tgt := 203) (by decide) (fun hc178 => (by exfalso; first | exact hc178 | omega)) (fun hc178 => ?_)
                    refine lv_iload hx hb d_M_verifyGrowth_181 (lv_at hl 1 rfl) ?_
                    refine lv_iload_n hx hb d_M_verifyGrowth_183 rfl (lv_at hl 8 rfl) ?_
                    refine lv_icmp_ne hx hb d_M_verifyGrowth_184 (tgt := 203) (by decide) (fun hc184 => ?_) (fun hc184 => ?_)
                    · skip
                      have hol : olF (mup u55 23 0 (nI 0)) (grL 5 0 a2 a1).length 0 ((grL 5 0 a2 a1).length - 0) one = ol2 (fun j => riM g (1 + 4 * j) t0) (grL 5 0 a2 a1) 0 one := ol_2 hbsu ((mup_ne (by decide)).trans h20u) (fun j hj => rd_ne (by decide) (hJ j hj)) (by omega) _
                      have hps : ∀ q : vgP g t0 one other a1 a2, ol2 (fun j => riM g (1 + 4 * j) t0) (grL 5 0 a2 a1) 0 one = one ∧ ld2 (fun j => riM g (1 + 4 * j) t0) (grL 5 0 a2 a1) 0 one = other := fun q => by have q2 := q.2; rw [if_pos hgp, if_pos hgp] at q2; exact q2
                      have hnv : ¬ vgP g t0 one other a1 a2 := fun q => hc184 (hx9.trans (hol.trans (hps q).1))
                      refine lv_iconst (v := nI 0) hx hb d_M_verifyGrowth_203 (by decide) ?_
                      exact k_zret (v := nI 0) hQ hx hb hr hlk hK hP hD hS (mup u55 23 0 (nI 0)) rfl (by decide) (⟨fun q => absurd q (vg_no h1 h2 h3), fun m1 n1 e1 e2 q1 q2 q3 => by obtain rfl := (nI_eq (by omega) (by omega)).mp e1; obtain rfl := (nI_eq (by omega) (by omega)).mp e2; exact ⟨frx_t (frx_t (frx_t (L := [0]) frx_m (wy_fr _ _) (M := [0, 17, 18, 19, 20]) (fun x h => ⟨fun q => h (by simp at q ⊢; omega), fun q => h (by simp at q ⊢; omega)⟩)) hfi (M := [0, 17, 18, 19, 20, 25, 26, 27]) (fun x h => ⟨fun q => h (by simp at q ⊢; omega), fun q => h (by simp at q ⊢; omega)⟩)) (L' := [23]) frx_m (fun x h => ⟨fun q => h (by simp at q ⊢; omega), fun q => h (by simp at q ⊢; omega)⟩), rd_ne (by decide) ((congrFun (hfi 0 (by decide)) 0).trans ((congrFun (wy_fr _ _ 0 (by decide)) 0).trans rd_eq)), rd_eq, (if_neg hnv).symm⟩⟩) d_M_verifyGrowth_204
                    · skip
                      have hol : olF (mup u55 23 0 (nI 0)) (grL 5 0 a2 a1).length 0 ((grL 5 0 a2 a1).length - 0) one = ol2 (fun j => riM g (1 + 4 * j) t0) (grL 5 0 a2 a1) 0 one := ol_2 hbsu ((mup_ne (by decide)).trans h20u) (fun j hj => rd_ne (by decide) (hJ j hj)) (by omega) _
                      have hps : ∀ q : vgP g t0 one other a1 a2, ol2 (fun j => riM g (1 + 4 * j) t0) (grL 5 0 a2 a1) 0 one = one ∧ ld2 (fun j => riM g (1 + 4 * j) t0) (grL 5 0 a2 a1) 0 one = other := fun q => by have q2 := q.2; rw [if_pos hgp, if_pos hgp] at q2; exact q2
                      refine lv_aload_n hx hb d_M_verifyGrowth_187 rfl (lv_at hl 7 rfl) ?_
                      refine lv_iload hx hb d_M_verifyGrowth_188 (lv_at hl 2 rfl) ?_
                      refine lv_iload hx hb d_M_verifyGrowth_190 (lv_at hl 3 rfl) ?_
                      refine k_calli (va_runV (As := [.int one, .int (nI 0)]) (rest := []) ⟨hx, hb, hml, hown, hts⟩ (c_M_lead l D tk H.size h ad (mup u55 23 0 (nI 0)) la tl (grL 5 0 a2 a1).length 0 one (by omega) (by omega) (rd_ne (by decide) ((congrFun (hfi 17 (by decide)) 0).trans (bs_way _ _).1))) (cwV 2 hts (gV t_1231 t_1233 s_42 t_9 t_1234) rfl rfl rfl (by decide +kernel) ⟨Nat.le_of_ble_eq_true rfl, Nat.le_of_ble_eq_true rfl⟩) (k_preV hP hK hD hnw 0 rfl rfl) rfl rfl hl.1 rfl (lv_room (Nat.le_of_ble_eq_true rfl)) d_M_verifyGrowth_192 hc0) hD hS hA (fun _ _ H locs hp192 hP hD hK hS => ?_)
                      subst hp192
                      replace hP : va_P D CC (wM tk h ad (mup u55 23 0 (nI 0)) la ++ tl) H := hP
                      replace hD : va_D A (wM tk h ad (mup u55 23 0 (nI 0)) la ++ tl) := hD
                      refine lv_iload_n hx hb d_M_verifyGrowth_195 rfl (lv_at hl 10 rfl) ?_
                      refine lv_icmp_ne hx hb d_M_verifyGrowth_196 (tgt := 203) (by decide) (fun hc196 => ?_) (fun hc196 => ?_)
                      · skip
                        have hld : ldF (mup u55 23 0 (nI 0)) (grL 5 0 a2 a1).length 0 ((grL 5 0 a2 a1).length - 0) one = ld2 (fun j => riM g (1 + 4 * j) t0) (grL 5 0 a2 a1) 0 one := ld_2 hbsu ((mup_ne (by decide)).trans h20u) (fun j hj => rd_ne (by decide) (hJ j hj)) (by omega) _
                        have hnv : ¬ vgP g t0 one other a1 a2 := fun q => hc196 (hld.trans (hps q).2)
                        refine lv_iconst (v := nI 0) hx hb d_M_verifyGrowth_203 (by decide) ?_
                        exact k_zret (v := nI 0) hQ hx hb hr hlk hK hP hD hS (mup u55 23 0 (nI 0)) rfl (by decide) (⟨fun q => absurd q (vg_no h1 h2 h3), fun m1 n1 e1 e2 q1 q2 q3 => by obtain rfl := (nI_eq (by omega) (by omega)).mp e1; obtain rfl := (nI_eq (by omega) (by omega)).mp e2; exact ⟨frx_t (frx_t (frx_t (L := [0]) frx_m (wy_fr _ _) (M := [0, 17, 18, 19, 20]) (fun x h => ⟨fun q => h (by simp at q ⊢; omega), fun q => h (by simp at q ⊢; omega)⟩)) hfi (M := [0, 17, 18, 19, 20, 25, 26, 27]) (fun x h => ⟨fun q => h (by simp at q ⊢; omega), fun q => h (by simp at q ⊢; omega)⟩)) (L' := [23]) frx_m (fun x h => ⟨fun q => h (by simp at q ⊢; omega), fun q => h (by simp at q ⊢; omega)⟩), rd_ne (by decide) ((congrFun (hfi 0 (by decide)) 0).trans ((congrFun (wy_fr _ _ 0 (by decide)) 0).trans rd_eq)), rd_eq, (if_neg hnv).symm⟩⟩) d_M_verifyGrowth_204
                      · skip
                        have hld : ldF (mup u55 23 0 (nI 0)) (grL 5 0 a2 a1).length 0 ((grL 5 0 a2 a1).length - 0) one = ld2 (fun j => riM g (1 + 4 * j) t0) (grL 5 0 a2 a1) 0 one := ld_2 hbsu ((mup_ne (by decide)).trans h20u) (fun j hj => rd_ne (by decide) (hJ j hj)) (by omega) _
                        have hvg : vgP g t0 one other a1 a2 := ⟨⟨(rd_c h241 0 t0).symm.trans hrg.1, ht9⟩, by rw [if_pos hgp, if_pos hgp]; exact ⟨(hx9.trans hol).symm.trans hc184, hld.symm.trans hc196⟩⟩
                        refine lv_iconst (v := nI 1) hx hb d_M_verifyGrowth_199 (by decide) ?_
                        refine lv_goto hx hb d_M_verifyGrowth_200 (tgt := 204) (by decide) ?_
                        exact k_zret (v := nI 1) hQ hx hb hr hlk hK hP hD hS (mup u55 23 0 (nI 0)) rfl (by decide) (⟨fun q => absurd q (vg_no h1 h2 h3), fun m1 n1 e1 e2 q1 q2 q3 => by obtain rfl := (nI_eq (by omega) (by omega)).mp e1; obtain rfl := (nI_eq (by omega) (by omega)).mp e2; exact ⟨frx_t (frx_t (frx_t (L := [0]) frx_m (wy_fr _ _) (M := [0, 17, 18, 19, 20]) (fun x h => ⟨fun q => h (by simp at q ⊢; omega), fun q => h (by simp at q ⊢; omega)⟩)) hfi (M := [0, 17, 18, 19, 20, 25, 26, 27]) (fun x h => ⟨fun q => h (by simp at q ⊢; omega), fun q => h (by simp at q ⊢; omega)⟩)) (L' := [23]) frx_m (fun x h => ⟨fun q => h (by simp at q ⊢; omega), fun q => h (by simp at q ⊢; omega)⟩), rd_ne (by decide) ((congrFun (hfi 0 (by decide)) 0).trans ((congrFun (wy_fr _ _ 0 (by decide)) 0).trans rd_eq)), rd_eq, (if_pos hvg).symm⟩⟩) d_M_verifyGrowth_204
                  · skip
                    refine lv_aload_n hx hb d_M_verifyGrowth_134 rfl (lv_at hl 7 rfl) ?_
                    refine gf_M_51 (v := .ref (ad 20)) hx hb hT hown hK hP 0 rfl rfl d_M_verifyGrowth_135 ?_
                    refine lv_aload_n hx hb d_M_verifyGrowth_138 rfl (lv_at hl 7 rfl) ?_
                    refine gf_M_155 (v := .int ((mup u55 23 0 (nI 0)) 17 0)) hx hb hT hown hK hP 0 rfl rfl d_M_verifyGrowth_139 ?_
                    refine st_top (show (mup u55 23 0 (nI 0)) 17 0 = u55 17 0 from (rd_ne (by decide) rfl)) ?_
                    refine st_top (show u55 17 0 = nI ((grL 5 0 a2 a1).length) from (congrFun (hfi 17 (by decide)) 0).trans (bs_way _ _).1) ?_
                    refine lv_iconst (v := nI 1) hx hb d_M_verifyGrowth_142 (by decide) ?_
                    refine st_isub hx hb (by omega) d_M_verifyGrowth_143 ?_
                    refine lv_iload hx hb d_M_verifyGrowth_144 (lv_at hl 0 rfl) ?_
                    refine st_isub hx hb (by omega) d_M_verifyGrowth_146 ?_
                    refine st_zald hx hb hK hP 14 1 rfl rfl (by omega) (by decide) d_M_verifyGrowth_147 ?_
                    refine st_top (show (mup u55 23 0 (nI 0)) 20 ((((grL 5 0 a2 a1).length) - 1) - k) = u55 20 ((((grL 5 0 a2 a1).length) - 1) - k) from (rd_ne (by decide) rfl)) ?_
                    refine lv_if_eq hx hb d_M_verifyGrowth_148 (tgt := 166) (by decide) (fun hc148 => ?_) (fun hc148 => ?_)
                    · skip
                      refine lv_iload hx hb d_M_verifyGrowth_166 (lv_at hl 1 rfl) ?_
                      refine lv_istore (lv' := [(10, .int x), (11, .int (nI k)), (9, .int one), (8, .int (nI 0)), (7, .int (nI 1)), (6, .int (if grP 5 0 a2 a1 = 0 then nI 1 else nI 0)), (5, .int (nI 1)), (0, .ref h), (1, .int one), (2, .int (nI a1)), (3, .int other), (4, .int (nI a2))]) hx hb d_M_verifyGrowth_168 hl (by decide) rfl (fun ls hl => ?_)
                      refine lv_iinc (k := 1) (v := nI (k + 1)) (lv' := [(11, .int (nI (k + 1))), (10, .int x), (9, .int one), (8, .int (nI 0)), (7, .int (nI 1)), (6, .int (if grP 5 0 a2 a1 = 0 then nI 1 else nI 0)), (5, .int (nI 1)), (0, .ref h), (1, .int one), (2, .int (nI a1)), (3, .int other), (4, .int (nI a2))]) hx hb d_M_verifyGrowth_170 hl rfl (nI_add _ _) (by decide) rfl (fun ls hl => ?_)
                      refine lv_goto hx hb d_M_verifyGrowth_173 (tgt := 125) (by decide) ?_
                      exact ih125 (k + 1) x ls _ _ (by omega) (by omega) (by rw [← hR, olF_go (mup u55 23 0 (nI 0)) (b := (grL 5 0 a2 a1).length) (k := k) hc131 x, mup_ne (show 20 ≠ 23 by decide), mup_ne (show 27 ≠ 23 by decide)]; first | rw [if_pos hc148] | rw [if_neg hc148]) (lv_sub hl [0, 1, 2, 3, 4, 5, 6, 7, 8, 9, 10, 11] rfl) hP hD hS
                    · skip
                      refine lv_aload_n hx hb d_M_verifyGrowth_151 rfl (lv_at hl 7 rfl) ?_
                      refine gf_M_60 (v := .ref (ad 27)) hx hb hT hown hK hP 0 rfl rfl d_M_verifyGrowth_152 ?_
                      refine lv_iload hx hb d_M_verifyGrowth_155 (lv_at hl 0 rfl) ?_
                      refine st_iald hx hb hK hP 17 0 rfl rfl (by omega) (by decide) d_M_verifyGrowth_157 ?_
                      refine st_top (show (mup u55 23 0 (nI 0)) 27 k = u55 27 k from (rd_ne (by decide) rfl)) ?_
                      refine lv_iload hx hb d_M_verifyGrowth_158 (lv_at hl 1 rfl) ?_
                      refine k_calli (va_runS (As := [.int (u55 27 k), .int x]) (rest := []) ⟨hx, hb, hml, hown, hts⟩ (c_M_join l D tk H.size (u55 27 k) x (wM tk h ad (mup u55 23 0 (nI 0)) la ++ tl)) (cwS 2 hts (gS t_1146 t_1147 t_9 t_1148) rfl rfl rfl (by decide +kernel) ⟨Nat.le_of_ble_eq_true rfl, Nat.le_of_ble_eq_true rfl⟩) (k_preS hP hK hD hnw) rfl rfl hl.1 rfl (lv_room (Nat.le_of_ble_eq_true rfl)) d_M_verifyGrowth_160 hc0) hD hS hA (fun _ _ H locs hp160 hP hD hK hS => ?_)
                      subst hp160
                      replace hP : va_P D CC (wM tk h ad (mup u55 23 0 (nI 0)) la ++ tl) H := hP
                      replace hD : va_D A (wM tk h ad (mup u55 23 0 (nI 0)) la ++ tl) := hD
                      refine lv_goto hx hb d_M_verifyGrowth_163 (tgt := 168) (by decide) ?_
                      refine lv_istore (lv' := [(10, .int (jn (u55 27 k) x)), (11, .int (nI k)), (9, .int one), (8, .int (nI 0)), (7, .int (nI 1)), (6, .int (if grP 5 0 a2 a1 = 0 then nI 1 else nI 0)), (5, .int (nI 1)), (0, .ref h), (1, .int one), (2, .int (nI a1)), (3, .int other), (4, .int (nI a2))]) hx hb d_M_verifyGrowth_168 hl (by decide) rfl (fun ls hl => ?_)
                      refine lv_iinc (k := 1) (v := nI (k + 1)) (lv' := [(11, .int (nI (k + 1))), (10, .int (jn (u55 27 k) x)), (9, .int one), (8, .int (nI 0)), (7, .int (nI 1)), (6, .int (if grP 5 0 a2 a1 = 0 then nI 1 else nI 0)), (5, .int (nI 1)), (0, .ref h), (1, .int one), (2, .int (nI a1)), (3, .int other), (4, .int (nI a2))]) hx hb d_M_verifyGrowth_170 hl rfl (nI_add _ _) (by decide) rfl (fun ls hl => ?_)
                      refine lv_goto hx hb d_M_verifyGrowth_173 (tgt := 125) (by decide) ?_
                      exact ih125 (k + 1) (jn (u55 27 k) x) ls _ _ (by omega) (by omega) (by rw [← hR, olF_go (mup u55 23 0 (nI 0)) (b := (grL 5 0 a2 a1).length) (k := k) hc131 x, mup_ne (show 20 ≠ 23 by decide), mup_ne (show 27 ≠ 23 by decide)]; first | rw [if_pos hc148] | rw [if_neg hc148]) (lv_sub hl [0, 1, 2, 3, 4, 5, 6, 7, 8, 9, 10, 11] rfl) hP hD hS
              exact key125 _ 0 one ls _ _ (Nat.lt_succ_self _) (by omega) rfl (lv_sub hl [0, 1, 2, 3, 4, 5, 6, 7, 8, 9, 10, 11] rfl) hP hD hS
