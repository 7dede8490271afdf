theorem ol_n {f : Nat → Option Int32} {k : Nat} (h : f k = none) : ol f (k + 1) = ol f k := by
  conv => lhs; unfold ol
  rw [h]
theorem ol_s {f : Nat → Option Int32} {k : Nat} {v : Int32} (h : f k = some v) : ol f (k + 1) = ol f k ++ [(k, v)] := by
  conv => lhs; unfold ol
  rw [h]
theorem ol_len (f : Nat → Option Int32) : ∀ k, (ol f k).length ≤ k := by
  intro k
  induction k with
  | zero => exact Nat.le_refl _
  | succ k ih =>
    cases h : f k with
    | none => rw [ol_n h]; omega
    | some v => rw [ol_s h, List.length_append, List.length_singleton]; omega
theorem lev_le {X : List kv_I} {l : Nat} (hX : X ≠ []) : fs_ (fun j => en l ((im l X).getD j (0, 0)).1) (im l X).length 0 + 1 ≤ (im l X).length := by
  have h0 : 0 < (im l X).length := List.length_pos_iff.mpr (im_ne hX)
  have := fs_le (f := fun j => en l ((im l X).getD j (0, 0)).1) _ 0 h0 rfl
  omega
theorem lev_end {X : List kv_I} (h : so X) (hX : X ≠ []) {l : Nat} (hl : l + 1 ≤ hg X) : fs_ (fun j => en l ((im l X).getD j (0, 0)).1) (im l X).length 0 + 1 = (im l X).length ↔ l + 1 = hg X := by
  have hc := im_cut X l
  cases e : pa l X with
  | nil => exact absurd (pa_nil.mp e) hX
  | cons p b =>
    rw [e, List.map_cons] at hc
    have h1 := fs_piece (gs := []) hc
    simp only [List.flatten_nil, List.length_nil, Nat.zero_add] at h1
    rw [h1]
    have hY := cu_flat (fun x : kv_I => en l x.1) (im l X)
    rw [hc, List.flatten_cons] at hY
    have hlen := congrArg List.length hY
    rw [List.length_append] at hlen
    constructor
    · intro q
      have hb : b = [] := by
        cases b with
        | nil => rfl
        | cons p2 b =>
          exfalso
          have hp2 : p2 ≠ [] := pa_ne p2 (by rw [e]; simp)
          have := List.length_pos_iff.mpr (im_ne (l := l) hp2)
          simp only [List.map_cons, List.flatten_cons, List.length_append] at hlen
          omega
      apply Classical.byContradiction
      intro z
      exact hg_more h (l := l) (by omega) (by rw [e, hb]; rfl)
    · intro q
      obtain ⟨l2, q1, q2⟩ := hg_top h hX
      have : l2 = l := by omega
      subst this
      rw [q2] at e
      cases e
      rfl
theorem rt_hg {X : List kv_I} {l : Nat} (hX : X ≠ []) (h : l + 1 = hg X) : hs l (im l X) = rt X := by
  unfold rt
  rw [if_neg hX, ← h]
  rfl
theorem lr_ky {g : Nat → Nat → Int32} {l : Nat} {Y : List kv_I} (h : lr g l Y) {j : Nat} (hj : j < Y.length) : g 13 (48 * l + j) = nI (Y.getD j (0, 0)).1 := by
  have e := List.getElem?_eq_getElem hj
  rw [List.getD_eq_getElem?_getD, e, Option.getD_some]
  exact (h.2 j _ e).1
theorem im_lastk {g : Nat → Nat → Int32} {l s : Nat} {p : List kv_I} (hp : p ≠ []) (h : ∀ j y, (im l p)[j]? = some y → g 13 (s + j) = nI y.1 ∧ g 14 (s + j) = y.2) : g 13 (s + (im l p).length - 1) = nI (lk p) := by
  obtain ⟨a, x, e⟩ : ∃ a x, im l p = a ++ [x] := ⟨(im l p).dropLast, (im l p).getLast (im_ne hp), (List.dropLast_concat_getLast (im_ne hp)).symm⟩
  have e2 : (im l p)[a.length]? = some x := by rw [e, List.getElem?_append_right (Nat.le_refl _), Nat.sub_self]; rfl
  have h1 := (h _ x e2).1
  rw [e, List.length_append, List.length_singleton, show s + (a.length + 1) - 1 = s + a.length by omega, h1, ← im_lk l hp, e, lk_snoc]

theorem rows_all (l : Nat) (X : List kv_I) : ((pa l X).map (im l)).flatten.length = (im l X).length := by
  rw [← im_cut X l, cu_flat]

set_option maxHeartbeats 4000000 in
set_option maxRecDepth 100000 in
theorem c_M_raise (l : Launch) (D : va_G) (tk : Nat → ClassId) (sz : Nat) (h : Nat) (ad : Nat → Nat) (g : Nat → Nat → Int32) (la : Nat → Int64) (tl : va_W) (mp : Nat) (hmp : mp ≤ 16) (fm : Nat → Option Int32) (hfm : ∀ k, k < 48 → (g 1 (48 * mp + k) = 0 ↔ fm k = none) ∧ ∀ v, fm k = some v → g 2 (48 * mp + k) = v) : Met l y_M_raise w_M_raise ({ frames := 3, cells := 0, slots := 0, locals := 66 }) (va_Pc [.ref h, .int (nI mp)] (k_pre D (TY tk) sz (wM tk h ad g la ++ tl))) (va_Qi (fun (r : Int32) (u : Nat → Nat → Int32) => u 11 0 = nI (hg (ol fm 48)) ∧ (∀ l, l < hg (ol fm 48) → lr u l (im l (ol fm 48))) ∧ r = rt (ol fm 48) ∧ frx [11, 12, 13, 14] g u) (fun u t => k_at D (TY tk) (va_A (wM tk h ad g la ++ tl) sz) ((fun u => wM tk h ad u la ++ tl) u) t) (va_A (wM tk h ad g la ++ tl) sz)) 0 0 (va_A (wM tk h ad g la ++ tl) sz) := by
  refine k_ofW (fun A => va_Qi (fun (r : Int32) (u : Nat → Nat → Int32) => u 11 0 = nI (hg (ol fm 48)) ∧ (∀ l, l < hg (ol fm 48) → lr u l (im l (ol fm 48))) ∧ r = rt (ol fm 48) ∧ frx [11, 12, 13, 14] g u) (fun u t => k_at D (TY tk) A ((fun u => wM tk h ad u la ++ tl) u) t) A) (by decide) (Nat.le_of_ble_eq_true rfl) ?_
  intro p e s m args below meth c Q A ls hQ hx hb hr hlk hin hts hT hown hml hnw hP hK hD hA hsz hl
  have hS : va_S A s.heap s.heap [] := va_S.rf
  have hc0 : 0 + 0 ≤ 0 ∧ 0 + 0 ≤ 0 := ⟨by decide, by decide⟩
  replace hl : lv_has ls 5 [(0, .ref h), (1, .int (nI mp))] := hl
  replace hP : va_P D CC (wM tk h ad g la ++ tl) s.heap := hP
  replace hK : va_K D CC (TY tk) s := hK
  refine lv_aload_n hx hb d_M_raise_0 rfl (lv_at hl 0 rfl) ?_
  refine gf_M_30 (v := .ref (ad 12)) hx hb hT hown hK hP 0 rfl rfl d_M_raise_1 ?_
  refine lv_iconst (v := nI 0) hx hb d_M_raise_4 (by decide) ?_
  refine lv_iconst (v := nI 0) hx hb d_M_raise_5 (by decide) ?_
  refine st_iast hx hb hK hP hD hS 7 0 rfl rfl (by omega) (by decide) d_M_raise_6 (fun H locs hP hD hS => ?_)
  replace hP : va_P D CC (wM tk h ad (mup g 12 0 (nI 0)) la ++ tl) H := Eq.mp (congrArg (fun w => va_P D CC w H) (sM_12 tk h ad g la tl 0 (nI 0))) hP
  replace hD : va_D A (wM tk h ad (mup g 12 0 (nI 0)) la ++ tl) := Eq.mp (congrArg (fun w => va_D A w) (sM_12 tk h ad g la tl 0 (nI 0))) hD
  refine lv_iconst (v := nI 0) hx hb d_M_raise_7 (by decide) ?_
  refine lv_istore_n (lv' := [(2, .int (nI 0)), (0, .ref h), (1, .int (nI mp))]) hx hb d_M_raise_8 rfl hl (by decide) rfl (fun ls hl => ?_)
  have key9 : ∀ (n9 : Nat) (k : Nat) (γ : Nat → Nat → Int32) (ls : Array Slot) (H : Heap) (locs : List Loc), 48 - k < n9 → (k ≤ 48) → (lr γ 0 (ol fm k)) → (frx [12, 13, 14] g γ) → lv_has ls 5 [(0, .ref h), (1, .int (nI mp)), (2, .int (nI k))] → va_P D CC (wM tk h ad γ la ++ tl) H → va_D A (wM tk h ad γ la ++ tl) → va_S A s.heap H locs → W p l e ({ frames := 3, cells := 0, slots := 0, locals := 66 } : Room) s m args below meth c H locs 0 0 Q (F0 m 9 ls []) := by
    intro n9
    induction n9 with
    | zero => intro k γ ls H locs hn; exact absurd hn (Nat.not_lt_zero _)
    | succ n9 ih9 =>
      intro k γ ls H locs hn9 hk hlr hfr hl hP hD hS
      have hol := ol_len fm k
      refine lv_iload_n hx hb d_M_raise_9 rfl (lv_at hl 2 rfl) ?_
      refine lv_bipush (v := nI 48) hx hb d_M_raise_10 (by decide) ?_
      refine st_icmp_ge hx hb (by omega) (by omega) d_M_raise_12 (tgt := 52) (by decide) (fun hc12 => ?_) (fun hc12 => ?_)
      · skip
        obtain rfl : k = 48 := by omega
        refine lv_aload_n hx hb d_M_raise_52 rfl (lv_at hl 0 rfl) ?_
        refine lv_aload_n hx hb d_M_raise_53 rfl (lv_at hl 0 rfl) ?_
        refine gf_M_30 (v := .ref (ad 12)) hx hb hT hown hK hP 0 rfl rfl d_M_raise_54 ?_
        refine lv_iconst (v := nI 0) hx hb d_M_raise_57 (by decide) ?_
        refine st_iald hx hb hK hP 7 0 rfl rfl (by omega) (by decide) d_M_raise_58 ?_
        refine st_top (show γ 12 0 = nI ((ol fm 48).length) from hlr.1) ?_
        refine st_if_ne hx hb (by omega) d_M_raise_59 (tgt := 66) (by decide) (fun hc59 => ?_) (fun hc59 => ?_)
        · skip
          have hX1 : ¬ (ol fm 48) = [] := fun q => by rw [q] at hc59; exact absurd hc59 (by decide)
          refine lv_iconst (v := nI 1) hx hb d_M_raise_66 (by decide) ?_
          refine pf_M_89 hx hb hT hown hK hP hD hS 0 rfl (Nat.le_of_ble_eq_true rfl) d_M_raise_67 (fun H locs hP hD hS => ?_)
          replace hP : va_P D CC (wM tk h ad (mup γ 11 0 (nI 1)) la ++ tl) H := Eq.mp (congrArg (fun w => va_P D CC w H) (sM_11 tk h ad γ la tl (nI 1))) hP
          replace hD : va_D A (wM tk h ad (mup γ 11 0 (nI 1)) la ++ tl) := Eq.mp (congrArg (fun w => va_D A w) (sM_11 tk h ad γ la tl (nI 1))) hD
          have key70 : ∀ (n70 : Nat) (L : Nat) (δ : Nat → Nat → Int32) (ls : Array Slot) (H : Heap) (locs : List Loc), 3 - L < n70 → (L ≤ hg (ol fm 48) ∧ (L = 0 → (ol fm 48) = []) ∧ ((ol fm 48) = [] → L = 0)) → (δ 11 0 = nI L) → (∀ l, l < L → lr δ l (im l (ol fm 48))) → (frx [11, 12, 13, 14] g δ) → lv_has ls 5 [(0, .ref h), (1, .int (nI mp))] → va_P D CC (wM tk h ad δ la ++ tl) H → va_D A (wM tk h ad δ la ++ tl) → va_S A s.heap H locs → W p l e ({ frames := 3, cells := 0, slots := 0, locals := 66 } : Room) s m args below meth c H locs 0 0 Q (F0 m 70 ls []) := by
            intro n70
            induction n70 with
            | zero => intro L δ ls H locs hn; exact absurd hn (Nat.not_lt_zero _)
            | succ n70 ih70 =>
              intro L δ ls H locs hn70 hL h11 hrow hfrB hl hP hD hS
              have hh3 := hg_le (ol fm 48)
              refine lv_aload_n hx hb d_M_raise_70 rfl (lv_at hl 0 rfl) ?_
              refine gf_M_89 (v := .int (δ 11 0)) hx hb hT hown hK hP 0 rfl rfl d_M_raise_71 ?_
              refine st_top (show δ 11 0 = nI L from h11) ?_
              refine st_if_le hx hb (by omega) d_M_raise_74 (tgt := 197) (by decide) (fun hc74 => ?_) (fun hc74 => ?_)
              · skip
                have hz0 : L = 0 := hc74
                refine lv_aload_n hx hb d_M_raise_197 rfl (lv_at hl 0 rfl) ?_
                refine gf_M_89 (v := .int (δ 11 0)) hx hb hT hown hK hP 0 rfl rfl d_M_raise_198 ?_
                refine st_top (show δ 11 0 = nI L from h11) ?_
                refine st_if_ne hx hb (by omega) d_M_raise_201 (tgt := 208) (by decide) (fun hc201 => absurd hc201 (by omega)) (fun hc201 => ?_)
                have hX9 : (ol fm 48) = [] := hL.2.1 (by omega)
                refine lv_iconst (v := nI 0) hx hb d_M_raise_204 (by decide) ?_
                refine lv_goto hx hb d_M_raise_205 (tgt := 230) (by decide) ?_
                exact k_iret (v := nI 0) hQ hx hb hr hlk hK hP hD hS δ rfl (⟨by rw [h11, hz0, hX9]; rfl, fun l hl => absurd hl (by rw [hX9]; exact Nat.not_lt_zero _), by rw [hX9]; rfl, hfrB⟩) d_M_raise_230
              · skip
                obtain ⟨l0, rfl⟩ : ∃ l0, L = l0 + 1 := ⟨L - 1, by omega⟩
                have hXn : ¬ (ol fm 48) = [] := fun q => by have := hL.2.2 q; omega
                have hi0 : 0 < (im l0 (ol fm 48)).length := List.length_pos_iff.mpr (im_ne hXn)
                have hi48 := im_len (ol_is fm) l0
                have hrl := hrow l0 (by omega)
                have hlle := lev_le (l := l0) hXn
                refine lv_aload_n hx hb d_M_raise_77 rfl (lv_at hl 0 rfl) ?_
                refine gf_M_89 (v := .int (δ 11 0)) hx hb hT hown hK hP 0 rfl rfl d_M_raise_78 ?_
                refine st_top (show δ 11 0 = nI (l0 + 1) from h11) ?_
                refine lv_bipush (v := nI 8) hx hb d_M_raise_81 (by decide) ?_
                refine st_icmp_ge hx hb (by omega) (by omega) d_M_raise_83 (tgt := 197) (by decide) (fun hc83 => absurd hc83 (by omega)) (fun hc83 => ?_)
                refine lv_aload_n hx hb d_M_raise_86 rfl (lv_at hl 0 rfl) ?_
                refine lv_aload_n hx hb d_M_raise_87 rfl (lv_at hl 0 rfl) ?_
                refine gf_M_89 (v := .int (δ 11 0)) hx hb hT hown hK hP 0 rfl rfl d_M_raise_88 ?_
                refine st_top (show δ 11 0 = nI (l0 + 1) from h11) ?_
                refine lv_iconst (v := nI 1) hx hb d_M_raise_91 (by decide) ?_
                refine st_isub hx hb (by omega) d_M_raise_92 ?_
                refine st_top (show nI ((l0 + 1) - 1) = nI l0 from rfl) ?_
                refine lv_iconst (v := nI 0) hx hb d_M_raise_93 (by decide) ?_
                refine k_calli (va_runV (As := [.int (nI l0), .int (nI 0)]) (rest := []) ⟨hx, hb, hml, hown, hts⟩ (c_M_chunkEnd l D tk H.size h ad δ la tl l0 (im l0 (ol fm 48)).length 0 (fun j => ((im l0 (ol fm 48)).getD j (0, 0)).1) (by omega) (by omega) (by omega) (hi0) (hrl).1 (fun j hj => lr_ky (hrl) hj)) (cwV 2 hts (gV t_1072 t_1074 s_20 t_9 t_1075) rfl rfl rfl (by decide +kernel) ⟨Nat.le_of_ble_eq_true rfl, Nat.le_of_ble_eq_true rfl⟩) (k_preV hP hK hD hnw 0 rfl rfl) rfl rfl hl.1 rfl (lv_room (Nat.le_of_ble_eq_true rfl)) d_M_raise_94 hc0) hD hS hA (fun _ _ H locs hp94 hP hD hK hS => ?_)
                subst hp94
                replace hP : va_P D CC (wM tk h ad δ la ++ tl) H := hP
                replace hD : va_D A (wM tk h ad δ la ++ tl) := hD
                refine lv_aload_n hx hb d_M_raise_97 rfl (lv_at hl 0 rfl) ?_
                refine gf_M_30 (v := .ref (ad 12)) hx hb hT hown hK hP 0 rfl rfl d_M_raise_98 ?_
                refine lv_aload_n hx hb d_M_raise_101 rfl (lv_at hl 0 rfl) ?_
                refine gf_M_89 (v := .int (δ 11 0)) hx hb hT hown hK hP 0 rfl rfl d_M_raise_102 ?_
                refine st_top (show δ 11 0 = nI (l0 + 1) from h11) ?_
                refine lv_iconst (v := nI 1) hx hb d_M_raise_105 (by decide) ?_
                refine st_isub hx hb (by omega) d_M_raise_106 ?_
                refine st_top (show nI ((l0 + 1) - 1) = nI l0 from rfl) ?_
                refine st_iald hx hb hK hP 7 0 rfl rfl (by omega) (by decide) d_M_raise_107 ?_
                refine st_top (show δ 12 l0 = nI ((im l0 (ol fm 48)).length) from hrl.1) ?_
                refine st_icmp_ge hx hb (by omega) (by omega) d_M_raise_108 (tgt := 197) (by decide) (fun hc108 => ?_) (fun hc108 => ?_)
                · skip
                  have hLe : l0 + 1 = hg (ol fm 48) := (lev_end (ol_is fm) hXn hL.1).mp (Nat.le_antisymm (lev_le hXn) hc108)
                  refine lv_aload_n hx hb d_M_raise_197 rfl (lv_at hl 0 rfl) ?_
                  refine gf_M_89 (v := .int (δ 11 0)) hx hb hT hown hK hP 0 rfl rfl d_M_raise_198 ?_
                  refine st_top (show δ 11 0 = nI (l0 + 1) from h11) ?_
                  refine st_if_ne hx hb (by omega) d_M_raise_201 (tgt := 208) (by decide) (fun hc201 => ?_) (fun hc201 => absurd hc201 (by omega))
                  refine lv_aload_n hx hb d_M_raise_208 rfl (lv_at hl 0 rfl) ?_
                  refine lv_aload_n hx hb d_M_raise_209 rfl (lv_at hl 0 rfl) ?_
                  refine gf_M_89 (v := .int (δ 11 0)) hx hb hT hown hK hP 0 rfl rfl d_M_raise_210 ?_
                  refine st_top (show δ 11 0 = nI (l0 + 1) from h11) ?_
                  refine lv_iconst (v := nI 1) hx hb d_M_raise_213 (by decide) ?_
                  refine st_isub hx hb (by omega) d_M_raise_214 ?_
                  refine st_top (show nI ((l0 + 1) - 1) = nI l0 from rfl) ?_
                  refine lv_iconst (v := nI 0) hx hb d_M_raise_215 (by decide) ?_
                  refine lv_aload_n hx hb d_M_raise_216 rfl (lv_at hl 0 rfl) ?_
                  refine gf_M_30 (v := .ref (ad 12)) hx hb hT hown hK hP 0 rfl rfl d_M_raise_217 ?_
                  refine lv_aload_n hx hb d_M_raise_220 rfl (lv_at hl 0 rfl) ?_
                  refine gf_M_89 (v := .int (δ 11 0)) hx hb hT hown hK hP 0 rfl rfl d_M_raise_221 ?_
                  refine st_top (show δ 11 0 = nI (l0 + 1) from h11) ?_
                  refine lv_iconst (v := nI 1) hx hb d_M_raise_224 (by decide) ?_
                  refine st_isub hx hb (by omega) d_M_raise_225 ?_
                  refine st_top (show nI ((l0 + 1) - 1) = nI l0 from rfl) ?_
                  refine st_iald hx hb hK hP 7 0 rfl rfl (by omega) (by decide) d_M_raise_226 ?_
                  refine st_top (show δ 12 l0 = nI ((im l0 (ol fm 48)).length) from hrl.1) ?_
                  refine k_calli (va_runV (As := [.int (nI l0), .int (nI 0), .int (nI ((im l0 (ol fm 48)).length))]) (rest := []) ⟨hx, hb, hml, hown, hts⟩ (c_M_hashOf l D tk H.size h ad δ la tl l0 0 (im l0 (ol fm 48)).length (by omega) (by omega) (by omega)) (cwV 3 hts (gV t_1083 t_1085 s_21 t_9 t_1086) rfl rfl rfl (by decide +kernel) ⟨Nat.le_of_ble_eq_true rfl, Nat.le_of_ble_eq_true rfl⟩) (k_preV hP hK hD hnw 0 rfl rfl) rfl rfl hl.1 rfl (lv_room (Nat.le_of_ble_eq_true rfl)) d_M_raise_227 hc0) hD hS hA (fun _ _ H locs hp227 hP hD hK hS => ?_)
                  subst hp227
                  replace hP : va_P D CC (wM tk h ad δ la ++ tl) H := hP
                  replace hD : va_D A (wM tk h ad δ la ++ tl) := hD
                  refine st_top (show hsA δ (48 * l0 + 0) ((im l0 (ol fm 48)).length - 0) (mx (nI 6) (nI l0)) = hs l0 (im l0 (ol fm 48)) from by rw [Nat.sub_zero, Nat.add_zero]; exact hsA_rows δ (im l0 (ol fm 48)) _ _ (fun j y hy => hrl.2 j y hy)) ?_
                  exact k_iret (v := hs l0 (im l0 (ol fm 48))) hQ hx hb hr hlk hK hP hD hS δ rfl (⟨by rw [h11, hLe], fun l hl => hrow l (by omega), rt_hg hXn hLe, hfrB⟩) d_M_raise_230
                · skip
                  have hLn : l0 + 1 < hg (ol fm 48) := by have := (lev_end (ol_is fm) hXn hL.1).mpr; omega
                  refine lv_aload_n hx hb d_M_raise_111 rfl (lv_at hl 0 rfl) ?_
                  refine gf_M_89 (v := .int (δ 11 0)) hx hb hT hown hK hP 0 rfl rfl d_M_raise_112 ?_
                  refine st_top (show δ 11 0 = nI (l0 + 1) from h11) ?_
                  refine lv_iconst (v := nI 1) hx hb d_M_raise_115 (by decide) ?_
                  refine st_isub hx hb (by omega) d_M_raise_116 ?_
                  refine st_top (show nI ((l0 + 1) - 1) = nI l0 from rfl) ?_
                  refine lv_istore_n (lv' := [(2, .int (nI l0)), (0, .ref h), (1, .int (nI mp))]) hx hb d_M_raise_117 rfl hl (by decide) rfl (fun ls hl => ?_)
                  refine lv_aload_n hx hb d_M_raise_118 rfl (lv_at hl 1 rfl) ?_
                  refine gf_M_30 (v := .ref (ad 12)) hx hb hT hown hK hP 0 rfl rfl d_M_raise_119 ?_
                  refine lv_aload_n hx hb d_M_raise_122 rfl (lv_at hl 1 rfl) ?_
                  refine gf_M_89 (v := .int (δ 11 0)) hx hb hT hown hK hP 0 rfl rfl d_M_raise_123 ?_
                  refine st_top (show δ 11 0 = nI (l0 + 1) from h11) ?_
                  refine lv_iconst (v := nI 0) hx hb d_M_raise_126 (by decide) ?_
                  refine st_iast hx hb hK hP hD hS 7 0 rfl rfl (by omega) (by decide) d_M_raise_127 (fun H locs hP hD hS => ?_)
                  replace hP : va_P D CC (wM tk h ad (mup δ 12 (l0 + 1) (nI 0)) la ++ tl) H := Eq.mp (congrArg (fun w => va_P D CC w H) (sM_12 tk h ad δ la tl (l0 + 1) (nI 0))) hP
                  replace hD : va_D A (wM tk h ad (mup δ 12 (l0 + 1) (nI 0)) la ++ tl) := Eq.mp (congrArg (fun w => va_D A w) (sM_12 tk h ad δ la tl (l0 + 1) (nI 0))) hD
                  refine lv_iconst (v := nI 0) hx hb d_M_raise_128 (by decide) ?_
                  refine lv_istore_n (lv' := [(3, .int (nI 0)), (2, .int (nI l0)), (0, .ref h), (1, .int (nI mp))]) hx hb d_M_raise_129 rfl hl (by decide) rfl (fun ls hl => ?_)
                  replace hl : lv_has ls 5 [(3, .int (nI ((([] : List (List kv_I)).map (im l0)).flatten.length))), (2, .int (nI l0)), (0, .ref h), (1, .int (nI mp))] := hl
                  have key130 : ∀ (n130 : Nat) (a : List (List kv_I)) (b : List (List kv_I)) (ε : Nat → Nat → Int32) (ls : Array Slot) (H : Heap) (locs : List Loc), b.length < n130 → (pa l0 (ol fm 48) = a ++ b) → (lr ε (l0 + 1) (a.map (ov l0))) → (∀ l, l < l0 + 1 → lr ε l (im l (ol fm 48))) → (frx [11, 12, 13, 14] g ε) → (ε 11 0 = nI (l0 + 1)) → lv_has ls 5 [(0, .ref h), (1, .int (nI mp)), (2, .int (nI l0)), (3, .int (nI ((a.map (im l0)).flatten.length)))] → va_P D CC (wM tk h ad ε la ++ tl) H → va_D A (wM tk h ad ε la ++ tl) → va_S A s.heap H locs → W p l e ({ frames := 3, cells := 0, slots := 0, locals := 66 } : Room) s m args below meth c H locs 0 0 Q (F0 m 130 ls []) := by
                    intro n130
                    induction n130 with
                    | zero => intro a b ε ls H locs hn; exact absurd hn (Nat.not_lt_zero _)
                    | succ n130 ih130 =>
                      intro a b ε ls H locs hn130 hab hlrC hrowC hfrC h11C hl hP hD hS
                      have hrc := hrowC l0 (by omega)
                      have hil : (a.map (im l0)).flatten.length ≤ (im l0 (ol fm 48)).length := by rw [← rows_all l0 (ol fm 48), hab, List.map_append, List.flatten_append, List.length_append]; omega
                      refine lv_iload_n hx hb d_M_raise_130 rfl (lv_at hl 3 rfl) ?_
                      refine lv_aload_n hx hb d_M_raise_131 rfl (lv_at hl 0 rfl) ?_
                      refine gf_M_30 (v := .ref (ad 12)) hx hb hT hown hK hP 0 rfl rfl d_M_raise_132 ?_
                      refine lv_iload_n hx hb d_M_raise_135 rfl (lv_at hl 2 rfl) ?_
                      refine st_iald hx hb hK hP 7 0 rfl rfl (by omega) (by decide) d_M_raise_136 ?_
                      refine st_top (show ε 12 l0 = nI ((im l0 (ol fm 48)).length) from hrc.1) ?_
                      refine st_icmp_ge hx hb (by omega) (by omega) d_M_raise_137 (tgt := 184) (by decide) (fun hc137 => ?_) (fun hc137 => ?_)
                      · skip
                        have hb0 : b = [] := by cases b with
                          | nil => rfl
                          | cons p b2 => exfalso; have := piece_rows hrc hab; omega
                        have hlrF : lr ε (l0 + 1) (im (l0 + 1) (ol fm 48)) := by rw [im_succ, hab, hb0, List.append_nil]; exact hlrC
                        refine lv_aload_n hx hb d_M_raise_184 rfl (lv_at hl 0 rfl) ?_
                        refine lv_dup hx hb d_M_raise_185 rfl ?_
                        refine gf_M_89 (v := .int (ε 11 0)) hx hb hT hown hK hP 0 rfl rfl d_M_raise_186 ?_
                        refine st_top (show ε 11 0 = nI (l0 + 1) from h11C) ?_
                        refine lv_iconst (v := nI 1) hx hb d_M_raise_189 (by decide) ?_
                        refine st_iadd hx hb d_M_raise_190 ?_
                        refine pf_M_89 hx hb hT hown hK hP hD hS 0 rfl (Nat.le_of_ble_eq_true rfl) d_M_raise_191 (fun H locs hP hD hS => ?_)
                        replace hP : va_P D CC (wM tk h ad (mup ε 11 0 (nI ((l0 + 1) + 1))) la ++ tl) H := Eq.mp (congrArg (fun w => va_P D CC w H) (sM_11 tk h ad ε la tl (nI ((l0 + 1) + 1)))) hP
                        replace hD : va_D A (wM tk h ad (mup ε 11 0 (nI ((l0 + 1) + 1))) la ++ tl) := Eq.mp (congrArg (fun w => va_D A w) (sM_11 tk h ad ε la tl (nI ((l0 + 1) + 1)))) hD
                        refine lv_goto hx hb d_M_raise_194 (tgt := 70) (by decide) ?_
                        exact ih70 (l0 + 1 + 1) (mup ε 11 0 (nI ((l0 + 1) + 1))) ls _ _ (by omega) (⟨by omega, by omega, fun q => absurd q hXn⟩) rd_eq (fun l hl => by by_cases q : l = l0 + 1; (subst q; exact lr_c hlrF (rd_ne (by decide) rfl) (mup_ne (by decide)) (mup_ne (by decide))); exact lr_c (hrowC l (by omega)) (rd_ne (by decide) rfl) (mup_ne (by decide)) (mup_ne (by decide))) (frx_t hfrC (L' := [11]) frx_m (fun x h => ⟨h, fun q => h (by simp at q ⊢; omega)⟩)) (lv_sub hl [0, 1] rfl) hP hD hS
                      · skip
                        obtain ⟨p, b2, hb2⟩ : ∃ p b2, b = p :: b2 := List.exists_cons_of_ne_nil (fun q => by rw [q, List.append_nil] at hab; rw [← hab, rows_all] at hc137; omega)
                        rw [hb2] at hab
                        have hpr := piece_rows hrc hab
                        have hpn : p ≠ [] := pa_ne (X := (ol fm 48)) (l := l0) p (by rw [hab]; simp)
                        have hal : a.length + 1 ≤ (pa l0 (ol fm 48)).length := by rw [hab]; simp
                        have hpc0 : (pa l0 (ol fm 48)).length ≤ 13 := by have := pa_count (l := l0) (ol_is fm) (fun k => en 0 k) (fun k hk => hk 0 (Nat.zero_le _)); rw [en_c0] at this; exact this
                        refine lv_aload_n hx hb d_M_raise_140 rfl (lv_at hl 0 rfl) ?_
                        refine lv_iload_n hx hb d_M_raise_141 rfl (lv_at hl 2 rfl) ?_
                        refine lv_iload_n hx hb d_M_raise_142 rfl (lv_at hl 3 rfl) ?_
                        refine k_calli (va_runV (As := [.int (nI l0), .int (nI ((a.map (im l0)).flatten.length))]) (rest := []) ⟨hx, hb, hml, hown, hts⟩ (c_M_chunkEnd l D tk H.size h ad ε la tl l0 (im l0 (ol fm 48)).length ((a.map (im l0)).flatten.length) (fun j => ((im l0 (ol fm 48)).getD j (0, 0)).1) (by omega) (by omega) (by omega) (by omega) (hrc).1 (fun j hj => lr_ky (hrc) hj)) (cwV 2 hts (gV t_1072 t_1074 s_20 t_9 t_1075) rfl rfl rfl (by decide +kernel) ⟨Nat.le_of_ble_eq_true rfl, Nat.le_of_ble_eq_true rfl⟩) (k_preV hP hK hD hnw 0 rfl rfl) rfl rfl hl.1 rfl (lv_room (Nat.le_of_ble_eq_true rfl)) d_M_raise_143 hc0) hD hS hA (fun _ _ H locs hp143 hP hD hK hS => ?_)
                        subst hp143
                        replace hP : va_P D CC (wM tk h ad ε la ++ tl) H := hP
                        replace hD : va_D A (wM tk h ad ε la ++ tl) := hD
                        refine st_top (show nI (fs_ (fun j => en l0 ((im l0 (ol fm 48)).getD j (0, 0)).1) (im l0 (ol fm 48)).length ((a.map (im l0)).flatten.length) + 1) = nI (((a.map (im l0)).flatten.length) + (im l0 p).length) from congrArg nI hpr.1) ?_
                        refine lv_istore (lv' := [(4, .int (nI (((a.map (im l0)).flatten.length) + (im l0 p).length))), (0, .ref h), (1, .int (nI mp)), (2, .int (nI l0)), (3, .int (nI ((a.map (im l0)).flatten.length)))]) hx hb d_M_raise_146 hl (by decide) rfl (fun ls hl => ?_)
                        refine lv_aload_n hx hb d_M_raise_148 rfl (lv_at hl 1 rfl) ?_
                        refine lv_aload_n hx hb d_M_raise_149 rfl (lv_at hl 1 rfl) ?_
                        refine gf_M_89 (v := .int (ε 11 0)) hx hb hT hown hK hP 0 rfl rfl d_M_raise_150 ?_
                        refine st_top (show ε 11 0 = nI (l0 + 1) from h11C) ?_
                        refine lv_aload_n hx hb d_M_raise_153 rfl (lv_at hl 1 rfl) ?_
                        refine gf_M_33 (v := .ref (ad 13)) hx hb hT hown hK hP 0 rfl rfl d_M_raise_154 ?_
                        refine lv_bipush (v := nI 48) hx hb d_M_raise_157 (by decide) ?_
                        refine lv_iload_n hx hb d_M_raise_159 rfl (lv_at hl 3 rfl) ?_
                        refine st_imul hx hb d_M_raise_160 ?_
                        refine lv_iload hx hb d_M_raise_161 (lv_at hl 0 rfl) ?_
                        refine st_iadd hx hb d_M_raise_163 ?_
                        refine lv_iconst (v := nI 1) hx hb d_M_raise_164 (by decide) ?_
                        refine st_isub hx hb (by omega) d_M_raise_165 ?_
                        refine st_iald hx hb hK hP 8 0 rfl rfl (by omega) (by decide) d_M_raise_166 ?_
                        refine st_top (show ε 13 (((48 * l0) + (((a.map (im l0)).flatten.length) + (im l0 p).length)) - 1) = nI (lk p) from by rw [← Nat.add_assoc]; exact im_lastk hpn hpr.2.1) ?_
                        refine lv_aload_n hx hb d_M_raise_167 rfl (lv_at hl 1 rfl) ?_
                        refine lv_iload_n hx hb d_M_raise_168 rfl (lv_at hl 3 rfl) ?_
                        refine lv_iload_n hx hb d_M_raise_169 rfl (lv_at hl 4 rfl) ?_
                        refine lv_iload hx hb d_M_raise_170 (lv_at hl 0 rfl) ?_
                        refine k_calli (va_runV (As := [.int (nI l0), .int (nI ((a.map (im l0)).flatten.length)), .int (nI (((a.map (im l0)).flatten.length) + (im l0 p).length))]) (rest := [.int (nI (lk p)), .int (nI (l0 + 1)), .ref h]) ⟨hx, hb, hml, hown, hts⟩ (c_M_hashOf l D tk H.size h ad ε la tl l0 ((a.map (im l0)).flatten.length) (((a.map (im l0)).flatten.length) + (im l0 p).length) (by omega) (by omega) (by omega)) (cwV 3 hts (gV t_1083 t_1085 s_21 t_9 t_1086) rfl rfl rfl (by decide +kernel) ⟨Nat.le_of_ble_eq_true rfl, Nat.le_of_ble_eq_true rfl⟩) (k_preV hP hK hD hnw 0 rfl rfl) rfl rfl hl.1 rfl (lv_room (Nat.le_of_ble_eq_true rfl)) d_M_raise_172 hc0) hD hS hA (fun _ _ H locs hp172 hP hD hK hS => ?_)
                        subst hp172
                        replace hP : va_P D CC (wM tk h ad ε la ++ tl) H := hP
                        replace hD : va_D A (wM tk h ad ε la ++ tl) := hD
                        refine st_top (show hsA ε (48 * l0 + ((a.map (im l0)).flatten.length)) (((a.map (im l0)).flatten.length) + (im l0 p).length - ((a.map (im l0)).flatten.length)) (mx (nI 6) (nI l0)) = hs l0 (im l0 p) from by rw [Nat.add_sub_cancel_left]; exact hsA_rows ε (im l0 p) _ _ hpr.2.1) ?_
                        refine k_callv (va_runV (As := [.int (nI (l0 + 1)), .int (nI (lk p)), .int (hs l0 (im l0 p))]) (rest := []) ⟨hx, hb, hml, hown, hts⟩ (c_M_item l D tk H.size h ad ε la tl (l0 + 1) a.length (lk p) (hs l0 (im l0 p)) (by omega) (by omega) (hlrC.1.trans (by rw [List.length_map]))) (cwV 3 hts (gV t_1068 t_1070 s_19 t_9 t_1071) rfl rfl rfl (by decide +kernel) ⟨Nat.le_of_ble_eq_true rfl, Nat.le_of_ble_eq_true rfl⟩) (k_preV hP hK hD hnw 0 rfl rfl) rfl rfl hl.1 rfl (lv_room (Nat.le_of_ble_eq_true rfl)) d_M_raise_175 hc0) hD hS hA (fun _ H locs hp175 hP hD hK hS => ?_)
                        replace hP : va_P D CC (wM tk h ad (itM ε (l0 + 1) a.length (lk p) (hs l0 (im l0 p))) la ++ tl) H := hP
                        replace hD : va_D A (wM tk h ad (itM ε (l0 + 1) a.length (lk p) (hs l0 (im l0 p))) la ++ tl) := hD
                        refine lv_iload hx hb d_M_raise_178 (lv_at hl 0 rfl) ?_
                        refine lv_istore_n (lv' := [(3, .int (nI (((a.map (im l0)).flatten.length) + (im l0 p).length))), (4, .int (nI (((a.map (im l0)).flatten.length) + (im l0 p).length))), (0, .ref h), (1, .int (nI mp)), (2, .int (nI l0))]) hx hb d_M_raise_180 rfl hl (by decide) rfl (fun ls hl => ?_)
                        refine lv_goto hx hb d_M_raise_181 (tgt := 130) (by decide) ?_
                        replace hl : lv_has ls 5 [(3, .int (nI (((a ++ [p]).map (im l0)).flatten.length))), (4, .int (nI (((a.map (im l0)).flatten.length) + (im l0 p).length))), (0, .ref h), (1, .int (nI mp)), (2, .int (nI l0))] := by rw [hpr.2.2.2.2]; exact hl
                        exact ih130 (a ++ [p]) b2 (itM ε (l0 + 1) a.length (lk p) (hs l0 (im l0 p))) ls _ _ (by rw [hb2] at hn130; simp only [List.length_cons] at hn130; omega) (by rw [List.append_assoc]; exact hab) (by rw [List.map_append]; have := lr_item hlrC (lk p) (hs l0 (im l0 p)); rw [List.length_map] at this; exact this) (fun l hl => lr_other (hrowC l hl) (by omega) (im_len (ol_is fm) l) (by omega)) (frx_t hfrC (it_fr _ _ _ _ _) (fun x h => ⟨h, fun q => h (by simp at q ⊢; omega)⟩)) ((congrFun (it_fr _ _ _ _ _ 11 (by decide)) 0).trans h11C) (lv_sub hl [2, 3, 4, 0] rfl) hP hD hS
                  exact key130 _ ([]) (pa l0 (ol fm 48)) (mup δ 12 (l0 + 1) (nI 0)) ls _ _ (Nat.lt_succ_self _) rfl (⟨rd_eq, fun j x hx => by simp at hx⟩) (fun l hl => lr_c (hrow l (by omega)) (rd_ni (by omega) rfl) (mup_ne (by decide)) (mup_ne (by decide))) (frx_t hfrB (L' := [12]) frx_m (fun x h => ⟨h, fun q => h (by simp at q ⊢; omega)⟩)) (rd_ne (by decide) h11) (lv_sub hl [2, 3, 1, 0] rfl) hP hD hS
          exact key70 _ 1 (mup γ 11 0 (nI 1)) ls _ _ (Nat.lt_succ_self _) (⟨by obtain ⟨l2, q1, _⟩ := hg_top (ol_is fm) hX1; omega, fun q => absurd q (by decide), fun q => absurd q hX1⟩) rd_eq (fun l hl => by have q : l = 0 := (by omega); rw [q]; exact lr_c hlr (rd_ne (by decide) rfl) (mup_ne (by decide)) (mup_ne (by decide))) (frx_t hfr (L' := [11]) frx_m (fun x h => ⟨fun q => h (by simp at q ⊢; omega), fun q => h (by simp at q ⊢; omega)⟩)) (lv_sub hl [0, 1] rfl) hP hD hS
        · skip
          have hX0 : (ol fm 48) = [] := List.eq_nil_of_length_eq_zero hc59
          refine lv_iconst (v := nI 0) hx hb d_M_raise_62 (by decide) ?_
          refine lv_goto hx hb d_M_raise_63 (tgt := 67) (by decide) ?_
          refine pf_M_89 hx hb hT hown hK hP hD hS 0 rfl (Nat.le_of_ble_eq_true rfl) d_M_raise_67 (fun H locs hP hD hS => ?_)
          replace hP : va_P D CC (wM tk h ad (mup γ 11 0 (nI 0)) la ++ tl) H := Eq.mp (congrArg (fun w => va_P D CC w H) (sM_11 tk h ad γ la tl (nI 0))) hP
          replace hD : va_D A (wM tk h ad (mup γ 11 0 (nI 0)) la ++ tl) := Eq.mp (congrArg (fun w => va_D A w) (sM_11 tk h ad γ la tl (nI 0))) hD
          have key70 : ∀ (n70 : Nat) (L : Nat) (δ : Nat → Nat → Int32) (ls : Array Slot) (H : Heap) (locs : List Loc), 3 - L < n70 → (L ≤ hg (ol fm 48) ∧ (L = 0 → (ol fm 48) = []) ∧ ((ol fm 48) = [] → L = 0)) → (δ 11 0 = nI L) → (∀ l, l < L → lr δ l (im l (ol fm 48))) → (frx [11, 12, 13, 14] g δ) → lv_has ls 5 [(0, .ref h), (1, .int (nI mp))] → va_P D CC (wM tk h ad δ la ++ tl) H → va_D A (wM tk h ad δ la ++ tl) → va_S A s.heap H locs → W p l e ({ frames := 3, cells := 0, slots := 0, locals := 66 } : Room) s m args below meth c H locs 0 0 Q (F0 m 70 ls []) := by
            intro n70
            induction n70 with
            | zero => intro L δ ls H locs hn; exact absurd hn (Nat.not_lt_zero _)
            | succ n70 ih70 =>
              intro L δ ls H locs hn70 hL h11 hrow hfrB hl hP hD hS
              have hh3 := hg_le (ol fm 48)
              refine lv_aload_n hx hb d_M_raise_70 rfl (lv_at hl 0 rfl) ?_
              refine gf_M_89 (v := .int (δ 11 0)) hx hb hT hown hK hP 0 rfl rfl d_M_raise_71 ?_
              refine st_top (show δ 11 0 = nI L from h11) ?_
              refine st_if_le hx hb (by omega) d_M_raise_74 (tgt := 197) (by decide) (fun hc74 => ?_) (fun hc74 => ?_)
              · skip
                have hz0 : L = 0 := hc74
                refine lv_aload_n hx hb d_M_raise_197 rfl (lv_at hl 0 rfl) ?_
                refine gf_M_89 (v := .int (δ 11 0)) hx hb hT hown hK hP 0 rfl rfl d_M_raise_198 ?_
                refine st_top (show δ 11 0 = nI L from h11) ?_
                refine st_if_ne hx hb (by omega) d_M_raise_201 (tgt := 208) (by decide) (fun hc201 => absurd hc201 (by omega)) (fun hc201 => ?_)
                have hX9 : (ol fm 48) = [] := hL.2.1 (by omega)
                refine lv_iconst (v := nI 0) hx hb d_M_raise_204 (by decide) ?_
                refine lv_goto hx hb d_M_raise_205 (tgt := 230) (by decide) ?_
                exact k_iret (v := nI 0) hQ hx hb hr hlk hK hP hD hS δ rfl (⟨by rw [h11, hz0, hX9]; rfl, fun l hl => absurd hl (by rw [hX9]; exact Nat.not_lt_zero _), by rw [hX9]; rfl, hfrB⟩) d_M_raise_230
              · skip
                obtain ⟨l0, rfl⟩ : ∃ l0, L = l0 + 1 := ⟨L - 1, by omega⟩
                have hXn : ¬ (ol fm 48) = [] := fun q => by have := hL.2.2 q; omega
                have hi0 : 0 < (im l0 (ol fm 48)).length := List.length_pos_iff.mpr (im_ne hXn)
                have hi48 := im_len (ol_is fm) l0
                have hrl := hrow l0 (by omega)
                have hlle := lev_le (l := l0) hXn
                refine lv_aload_n hx hb d_M_raise_77 rfl (lv_at hl 0 rfl) ?_
                refine gf_M_89 (v := .int (δ 11 0)) hx hb hT hown hK hP 0 rfl rfl d_M_raise_78 ?_
                refine st_top (show δ 11 0 = nI (l0 + 1) from h11) ?_
                refine lv_bipush (v := nI 8) hx hb d_M_raise_81 (by decide) ?_
                refine st_icmp_ge hx hb (by omega) (by omega) d_M_raise_83 (tgt := 197) (by decide) (fun hc83 => absurd hc83 (by omega)) (fun hc83 => ?_)
                refine lv_aload_n hx hb d_M_raise_86 rfl (lv_at hl 0 rfl) ?_
                refine lv_aload_n hx hb d_M_raise_87 rfl (lv_at hl 0 rfl) ?_
                refine gf_M_89 (v := .int (δ 11 0)) hx hb hT hown hK hP 0 rfl rfl d_M_raise_88 ?_
                refine st_top (show δ 11 0 = nI (l0 + 1) from h11) ?_
                refine lv_iconst (v := nI 1) hx hb d_M_raise_91 (by decide) ?_
                refine st_isub hx hb (by omega) d_M_raise_92 ?_
                refine st_top (show nI ((l0 + 1) - 1) = nI l0 from rfl) ?_
                refine lv_iconst (v := nI 0) hx hb d_M_raise_93 (by decide) ?_
                refine k_calli (va_runV (As := [.int (nI l0), .int (nI 0)]) (rest := []) ⟨hx, hb, hml, hown, hts⟩ (c_M_chunkEnd l D tk H.size h ad δ la tl l0 (im l0 (ol fm 48)).length 0 (fun j => ((im l0 (ol fm 48)).getD j (0, 0)).1) (by omega) (by omega) (by omega) (hi0) (hrl).1 (fun j hj => lr_ky (hrl) hj)) (cwV 2 hts (gV t_1072 t_1074 s_20 t_9 t_1075) rfl rfl rfl (by decide +kernel) ⟨Nat.le_of_ble_eq_true rfl, Nat.le_of_ble_eq_true rfl⟩) (k_preV hP hK hD hnw 0 rfl rfl) rfl rfl hl.1 rfl (lv_room (Nat.le_of_ble_eq_true rfl)) d_M_raise_94 hc0) hD hS hA (fun _ _ H locs hp94 hP hD hK hS => ?_)
                subst hp94
                replace hP : va_P D CC (wM tk h ad δ la ++ tl) H := hP
                replace hD : va_D A (wM tk h ad δ la ++ tl) := hD
                refine lv_aload_n hx hb d_M_raise_97 rfl (lv_at hl 0 rfl) ?_
                refine gf_M_30 (v := .ref (ad 12)) hx hb hT hown hK hP 0 rfl rfl d_M_raise_98 ?_
                refine lv_aload_n hx hb d_M_raise_101 rfl (lv_at hl 0 rfl) ?_
                refine gf_M_89 (v := .int (δ 11 0)) hx hb hT hown hK hP 0 rfl rfl d_M_raise_102 ?_
                refine st_top (show δ 11 0 = nI (l0 + 1) from h11) ?_
                refine lv_iconst (v := nI 1) hx hb d_M_raise_105 (by decide) ?_
                refine st_isub hx hb (by omega) d_M_raise_106 ?_
                refine st_top (show nI ((l0 + 1) - 1) = nI l0 from rfl) ?_
                refine st_iald hx hb hK hP 7 0 rfl rfl (by omega) (by decide) d_M_raise_107 ?_
                refine st_top (show δ 12 l0 = nI ((im l0 (ol fm 48)).length) from hrl.1) ?_
                refine st_icmp_ge hx hb (by omega) (by omega) d_M_raise_108 (tgt := 197) (by decide) (fun hc108 => ?_) (fun hc108 => ?_)
                · skip
                  have hLe : l0 + 1 = hg (ol fm 48) := (lev_end (ol_is fm) hXn hL.1).mp (Nat.le_antisymm (lev_le hXn) hc108)
                  refine lv_aload_n hx hb d_M_raise_197 rfl (lv_at hl 0 rfl) ?_
                  refine gf_M_89 (v := .int (δ 11 0)) hx hb hT hown hK hP 0 rfl rfl d_M_raise_198 ?_
                  refine st_top (show δ 11 0 = nI (l0 + 1) from h11) ?_
                  refine st_if_ne hx hb (by omega) d_M_raise_201 (tgt := 208) (by decide) (fun hc201 => ?_) (fun hc201 => absurd hc201 (by omega))
                  refine lv_aload_n hx hb d_M_raise_208 rfl (lv_at hl 0 rfl) ?_
                  refine lv_aload_n hx hb d_M_raise_209 rfl (lv_at hl 0 rfl) ?_
                  refine gf_M_89 (v := .int (δ 11 0)) hx hb hT hown hK hP 0 rfl rfl d_M_raise_210 ?_
                  refine st_top (show δ 11 0 = nI (l0 + 1) from h11) ?_
                  refine lv_iconst (v := nI 1) hx hb d_M_raise_213 (by decide) ?_
                  refine st_isub hx hb (by omega) d_M_raise_214 ?_
                  refine st_top (show nI ((l0 + 1) - 1) = nI l0 from rfl) ?_
                  refine lv_iconst (v := nI 0) hx hb d_M_raise_215 (by decide) ?_
                  refine lv_aload_n hx hb d_M_raise_216 rfl (lv_at hl 0 rfl) ?_
                  refine gf_M_30 (v := .ref (ad 12)) hx hb hT hown hK hP 0 rfl rfl d_M_raise_217 ?_
                  refine lv_aload_n hx hb d_M_raise_220 rfl (lv_at hl 0 rfl) ?_
                  refine gf_M_89 (v := .int (δ 11 0)) hx hb hT hown hK hP 0 rfl rfl d_M_raise_221 ?_
                  refine st_top (show δ 11 0 = nI (l0 + 1) from h11) ?_
                  refine lv_iconst (v := nI 1) hx hb d_M_raise_224 (by decide) ?_
                  refine st_isub hx hb (by omega) d_M_raise_225 ?_
                  refine st_top (show nI ((l0 + 1) - 1) = nI l0 from rfl) ?_
                  refine st_iald hx hb hK hP 7 0 rfl rfl (by omega) (by decide) d_M_raise_226 ?_
                  refine st_top (show δ 12 l0 = nI ((im l0 (ol fm 48)).length) from hrl.1) ?_
                  refine k_calli (va_runV (As := [.int (nI l0), .int (nI 0), .int (nI ((im l0 (ol fm 48)).length))]) (rest := []) ⟨hx, hb, hml, hown, hts⟩ (c_M_hashOf l D tk H.size h ad δ la tl l0 0 (im l0 (ol fm 48)).length (by omega) (by omega) (by omega)) (cwV 3 hts (gV t_1083 t_1085 s_21 t_9 t_1086) rfl rfl rfl (by decide +kernel) ⟨Nat.le_of_ble_eq_true rfl, Nat.le_of_ble_eq_true rfl⟩) (k_preV hP hK hD hnw 0 rfl rfl) rfl rfl hl.1 rfl (lv_room (Nat.le_of_ble_eq_true rfl)) d_M_raise_227 hc0) hD hS hA (fun _ _ H locs hp227 hP hD hK hS => ?_)
                  subst hp227
                  replace hP : va_P D CC (wM tk h ad δ la ++ tl) H := hP
                  replace hD : va_D A (wM tk h ad δ la ++ tl) := hD
                  refine st_top (show hsA δ (48 * l0 + 0) ((im l0 (ol fm 48)).length - 0) (mx (nI 6) (nI l0)) = hs l0 (im l0 (ol fm 48)) from by rw [Nat.sub_zero, Nat.add_zero]; exact hsA_rows δ (im l0 (ol fm 48)) _ _ (fun j y hy => hrl.2 j y hy)) ?_
                  exact k_iret (v := hs l0 (im l0 (ol fm 48))) hQ hx hb hr hlk hK hP hD hS δ rfl (⟨by rw [h11, hLe], fun l hl => hrow l (by omega), rt_hg hXn hLe, hfrB⟩) d_M_raise_230
                · skip
                  have hLn : l0 + 1 < hg (ol fm 48) := by have := (lev_end (ol_is fm) hXn hL.1).mpr; omega
                  refine lv_aload_n hx hb d_M_raise_111 rfl (lv_at hl 0 rfl) ?_
                  refine gf_M_89 (v := .int (δ 11 0)) hx hb hT hown hK hP 0 rfl rfl d_M_raise_112 ?_
                  refine st_top (show δ 11 0 = nI (l0 + 1) from h11) ?_
                  refine lv_iconst (v := nI 1) hx hb d_M_raise_115 (by decide) ?_
                  refine st_isub hx hb (by omega) d_M_raise_116 ?_
                  refine st_top (show nI ((l0 + 1) - 1) = nI l0 from rfl) ?_
                  refine lv_istore_n (lv' := [(2, .int (nI l0)), (0, .ref h), (1, .int (nI mp))]) hx hb d_M_raise_117 rfl hl (by decide) rfl (fun ls hl => ?_)
                  refine lv_aload_n hx hb d_M_raise_118 rfl (lv_at hl 1 rfl) ?_
                  refine gf_M_30 (v := .ref (ad 12)) hx hb hT hown hK hP 0 rfl rfl d_M_raise_119 ?_
                  refine lv_aload_n hx hb d_M_raise_122 rfl (lv_at hl 1 rfl) ?_
                  refine gf_M_89 (v := .int (δ 11 0)) hx hb hT hown hK hP 0 rfl rfl d_M_raise_123 ?_
                  refine st_top (show δ 11 0 = nI (l0 + 1) from h11) ?_
                  refine lv_iconst (v := nI 0) hx hb d_M_raise_126 (by decide) ?_
                  refine st_iast hx hb hK hP hD hS 7 0 rfl rfl (by omega) (by decide) d_M_raise_127 (fun H locs hP hD hS => ?_)
                  replace hP : va_P D CC (wM tk h ad (mup δ 12 (l0 + 1) (nI 0)) la ++ tl) H := Eq.mp (congrArg (fun w => va_P D CC w H) (sM_12 tk h ad δ la tl (l0 + 1) (nI 0))) hP
                  replace hD : va_D A (wM tk h ad (mup δ 12 (l0 + 1) (nI 0)) la ++ tl) := Eq.mp (congrArg (fun w => va_D A w) (sM_12 tk h ad δ la tl (l0 + 1) (nI 0))) hD
                  refine lv_iconst (v := nI 0) hx hb d_M_raise_128 (by decide) ?_
                  refine lv_istore_n (lv' := [(3, .int (nI 0)), (2, .int (nI l0)), (0, .ref h), (1, .int (nI mp))]) hx hb d_M_raise_129 rfl hl (by decide) rfl (fun ls hl => ?_)
                  replace hl : lv_has ls 5 [(3, .int (nI ((([] : List (List kv_I)).map (im l0)).flatten.length))), (2, .int (nI l0)), (0, .ref h), (1, .int (nI mp))] := hl
                  have key130 : ∀ (n130 : Nat) (a : List (List kv_I)) (b : List (List kv_I)) (ε : Nat → Nat → Int32) (ls : Array Slot) (H : Heap) (locs : List Loc), b.length < n130 → (pa l0 (ol fm 48) = a ++ b) → (lr ε (l0 + 1) (a.map (ov l0))) → (∀ l, l < l0 + 1 → lr ε l (im l (ol fm 48))) → (frx [11, 12, 13, 14] g ε) → (ε 11 0 = nI (l0 + 1)) → lv_has ls 5 [(0, .ref h), (1, .int (nI mp)), (2, .int (nI l0)), (3, .int (nI ((a.map (im l0)).flatten.length)))] → va_P D CC (wM tk h ad ε la ++ tl) H → va_D A (wM tk h ad ε la ++ tl) → va_S A s.heap H locs → W p l e ({ frames := 3, cells := 0, slots := 0, locals := 66 } : Room) s m args below meth c H locs 0 0 Q (F0 m 130 ls []) := by
                    intro n130
                    induction n130 with
                    | zero => intro a b ε ls H locs hn; exact absurd hn (Nat.not_lt_zero _)
                    | succ n130 ih130 =>
                      intro a b ε ls H locs hn130 hab hlrC hrowC hfrC h11C hl hP hD hS
                      have hrc := hrowC l0 (by omega)
                      have hil : (a.map (im l0)).flatten.length ≤ (im l0 (ol fm 48)).length := by rw [← rows_all l0 (ol fm 48), hab, List.map_append, List.flatten_append, List.length_append]; omega
                      refine lv_iload_n hx hb d_M_raise_130 rfl (lv_at hl 3 rfl) ?_
                      refine lv_aload_n hx hb d_M_raise_131 rfl (lv_at hl 0 rfl) ?_
                      refine gf_M_30 (v := .ref (ad 12)) hx hb hT hown hK hP 0 rfl rfl d_M_raise_132 ?_
                      refine lv_iload_n hx hb d_M_raise_135 rfl (lv_at hl 2 rfl) ?_
                      refine st_iald hx hb hK hP 7 0 rfl rfl (by omega) (by decide) d_M_raise_136 ?_
                      refine st_top (show ε 12 l0 = nI ((im l0 (ol fm 48)).length) from hrc.1) ?_
                      refine st_icmp_ge hx hb (by omega) (by omega) d_M_raise_137 (tgt := 184) (by decide) (fun hc137 => ?_) (fun hc137 => ?_)
                      · skip
                        have hb0 : b = [] := by cases b with
                          | nil => rfl
                          | cons p b2 => exfalso; have := piece_rows hrc hab; omega
                        have hlrF : lr ε (l0 + 1) (im (l0 + 1) (ol fm 48)) := by rw [im_succ, hab, hb0, List.append_nil]; exact hlrC
                        refine lv_aload_n hx hb d_M_raise_184 rfl (lv_at hl 0 rfl) ?_
                        refine lv_dup hx hb d_M_raise_185 rfl ?_
                        refine gf_M_89 (v := .int (ε 11 0)) hx hb hT hown hK hP 0 rfl rfl d_M_raise_186 ?_
                        refine st_top (show ε 11 0 = nI (l0 + 1) from h11C) ?_
                        refine lv_iconst (v := nI 1) hx hb d_M_raise_189 (by decide) ?_
                        refine st_iadd hx hb d_M_raise_190 ?_
                        refine pf_M_89 hx hb hT hown hK hP hD hS 0 rfl (Nat.le_of_ble_eq_true rfl) d_M_raise_191 (fun H locs hP hD hS => ?_)
                        replace hP : va_P D CC (wM tk h ad (mup ε 11 0 (nI ((l0 + 1) + 1))) la ++ tl) H := Eq.mp (congrArg (fun w => va_P D CC w H) (sM_11 tk h ad ε la tl (nI ((l0 + 1) + 1)))) hP
                        replace hD : va_D A (wM tk h ad (mup ε 11 0 (nI ((l0 + 1) + 1))) la ++ tl) := Eq.mp (congrArg (fun w => va_D A w) (sM_11 tk h ad ε la tl (nI ((l0 + 1) + 1)))) hD
                        refine lv_goto hx hb d_M_raise_194 (tgt := 70) (by decide) ?_
                        exact ih70 (l0 + 1 + 1) (mup ε 11 0 (nI ((l0 + 1) + 1))) ls _ _ (by omega) (⟨by omega, by omega, fun q => absurd q hXn⟩) rd_eq (fun l hl => by by_cases q : l = l0 + 1; (subst q; exact lr_c hlrF (rd_ne (by decide) rfl) (mup_ne (by decide)) (mup_ne (by decide))); exact lr_c (hrowC l (by omega)) (rd_ne (by decide) rfl) (mup_ne (by decide)) (mup_ne (by decide))) (frx_t hfrC (L' := [11]) frx_m (fun x h => ⟨h, fun q => h (by simp at q ⊢; omega)⟩)) (lv_sub hl [0, 1] rfl) hP hD hS
                      · skip
                        obtain ⟨p, b2, hb2⟩ : ∃ p b2, b = p :: b2 := List.exists_cons_of_ne_nil (fun q => by rw [q, List.append_nil] at hab; rw [← hab, rows_all] at hc137; omega)
                        rw [hb2] at hab
                        have hpr := piece_rows hrc hab
                        have hpn : p ≠ [] := pa_ne (X := (ol fm 48)) (l := l0) p (by rw [hab]; simp)
                        have hal : a.length + 1 ≤ (pa l0 (ol fm 48)).length := by rw [hab]; simp
                        have hpc0 : (pa l0 (ol fm 48)).length ≤ 13 := by have := pa_count (l := l0) (ol_is fm) (fun k => en 0 k) (fun k hk => hk 0 (Nat.zero_le _)); rw [en_c0] at this; exact this
                        refine lv_aload_n hx hb d_M_raise_140 rfl (lv_at hl 0 rfl) ?_
                        refine lv_iload_n hx hb d_M_raise_141 rfl (lv_at hl 2 rfl) ?_
                        refine lv_iload_n hx hb d_M_raise_142 rfl (lv_at hl 3 rfl) ?_
                        refine k_calli (va_runV (As := [.int (nI l0), .int (nI ((a.map (im l0)).flatten.length))]) (rest := []) ⟨hx, hb, hml, hown, hts⟩ (c_M_chunkEnd l D tk H.size h ad ε la tl l0 (im l0 (ol fm 48)).length ((a.map (im l0)).flatten.length) (fun j => ((im l0 (ol fm 48)).getD j (0, 0)).1) (by omega) (by omega) (by omega) (by omega) (hrc).1 (fun j hj => lr_ky (hrc) hj)) (cwV 2 hts (gV t_1072 t_1074 s_20 t_9 t_1075) rfl rfl rfl (by decide +kernel) ⟨Nat.le_of_ble_eq_true rfl, Nat.le_of_ble_eq_true rfl⟩) (k_preV hP hK hD hnw 0 rfl rfl) rfl rfl hl.1 rfl (lv_room (Nat.le_of_ble_eq_true rfl)) d_M_raise_143 hc0) hD hS hA (fun _ _ H locs hp143 hP hD hK hS => ?_)
                        subst hp143
                        replace hP : va_P D CC (wM tk h ad ε la ++ tl) H := hP
                        replace hD : va_D A (wM tk h ad ε la ++ tl) := hD
                        refine st_top (show nI (fs_ (fun j => en l0 ((im l0 (ol fm 48)).getD j (0, 0)).1) (im l0 (ol fm 48)).length ((a.map (im l0)).flatten.length) + 1) = nI (((a.map (im l0)).flatten.length) + (im l0 p).length) from congrArg nI hpr.1) ?_
                        refine lv_istore (lv' := [(4, .int (nI (((a.map (im l0)).flatten.length) + (im l0 p).length))), (0, .ref h), (1, .int (nI mp)), (2, .int (nI l0)), (3, .int (nI ((a.map (im l0)).flatten.length)))]) hx hb d_M_raise_146 hl (by decide) rfl (fun ls hl => ?_)
                        refine lv_aload_n hx hb d_M_raise_148 rfl (lv_at hl 1 rfl) ?_
                        refine lv_aload_n hx hb d_M_raise_149 rfl (lv_at hl 1 rfl) ?_
                        refine gf_M_89 (v := .int (ε 11 0)) hx hb hT hown hK hP 0 rfl rfl d_M_raise_150 ?_
                        refine st_top (show ε 11 0 = nI (l0 + 1) from h11C) ?_
                        refine lv_aload_n hx hb d_M_raise_153 rfl (lv_at hl 1 rfl) ?_
                        refine gf_M_33 (v := .ref (ad 13)) hx hb hT hown hK hP 0 rfl rfl d_M_raise_154 ?_
                        refine lv_bipush (v := nI 48) hx hb d_M_raise_157 (by decide) ?_
                        refine lv_iload_n hx hb d_M_raise_159 rfl (lv_at hl 3 rfl) ?_
                        refine st_imul hx hb d_M_raise_160 ?_
                        refine lv_iload hx hb d_M_raise_161 (lv_at hl 0 rfl) ?_
                        refine st_iadd hx hb d_M_raise_163 ?_
                        refine lv_iconst (v := nI 1) hx hb d_M_raise_164 (by decide) ?_
                        refine st_isub hx hb (by omega) d_M_raise_165 ?_
                        refine st_iald hx hb hK hP 8 0 rfl rfl (by omega) (by decide) d_M_raise_166 ?_
                        refine st_top (show ε 13 (((48 * l0) + (((a.map (im l0)).flatten.length) + (im l0 p).length)) - 1) = nI (lk p) from by rw [← Nat.add_assoc]; exact im_lastk hpn hpr.2.1) ?_
                        refine lv_aload_n hx hb d_M_raise_167 rfl (lv_at hl 1 rfl) ?_
                        refine lv_iload_n hx hb d_M_raise_168 rfl (lv_at hl 3 rfl) ?_
                        refine lv_iload_n hx hb d_M_raise_169 rfl (lv_at hl 4 rfl) ?_
                        refine lv_iload hx hb d_M_raise_170 (lv_at hl 0 rfl) ?_
                        refine k_calli (va_runV (As := [.int (nI l0), .int (nI ((a.map (im l0)).flatten.length)), .int (nI (((a.map (im l0)).flatten.length) + (im l0 p).length))]) (rest := [.int (nI (lk p)), .int (nI (l0 + 1)), .ref h]) ⟨hx, hb, hml, hown, hts⟩ (c_M_hashOf l D tk H.size h ad ε la tl l0 ((a.map (im l0)).flatten.length) (((a.map (im l0)).flatten.length) + (im l0 p).length) (by omega) (by omega) (by omega)) (cwV 3 hts (gV t_1083 t_1085 s_21 t_9 t_1086) rfl rfl rfl (by decide +kernel) ⟨Nat.le_of_ble_eq_true rfl, Nat.le_of_ble_eq_true rfl⟩) (k_preV hP hK hD hnw 0 rfl rfl) rfl rfl hl.1 rfl (lv_room (Nat.le_of_ble_eq_true rfl)) d_M_raise_172 hc0) hD hS hA (fun _ _ H locs hp172 hP hD hK hS => ?_)
                        subst hp172
                        replace hP : va_P D CC (wM tk h ad ε la ++ tl) H := hP
                        replace hD : va_D A (wM tk h ad ε la ++ tl) := hD
                        refine st_top (show hsA ε (48 * l0 + ((a.map (im l0)).flatten.length)) (((a.map (im l0)).flatten.length) + (im l0 p).length - ((a.map (im l0)).flatten.length)) (mx (nI 6) (nI l0)) = hs l0 (im l0 p) from by rw [Nat.add_sub_cancel_left]; exact hsA_rows ε (im l0 p) _ _ hpr.2.1) ?_
                        refine k_callv (va_runV (As := [.int (nI (l0 + 1)), .int (nI (lk p)), .int (hs l0 (im l0 p))]) (rest := []) ⟨hx, hb, hml, hown, hts⟩ (c_M_item l D tk H.size h ad ε la tl (l0 + 1) a.length (lk p) (hs l0 (im l0 p)) (by omega) (by omega) (hlrC.1.trans (by rw [List.length_map]))) (cwV 3 hts (gV t_1068 t_1070 s_19 t_9 t_1071) rfl rfl rfl (by decide +kernel) ⟨Nat.le_of_ble_eq_true rfl, Nat.le_of_ble_eq_true rfl⟩) (k_preV hP hK hD hnw 0 rfl rfl) rfl rfl hl.1 rfl (lv_room (Nat.le_of_ble_eq_true rfl)) d_M_raise_175 hc0) hD hS hA (fun _ H locs hp175 hP hD hK hS => ?_)
                        replace hP : va_P D CC (wM tk h ad (itM ε (l0 + 1) a.length (lk p) (hs l0 (im l0 p))) la ++ tl) H := hP
                        replace hD : va_D A (wM tk h ad (itM ε (l0 + 1) a.length (lk p) (hs l0 (im l0 p))) la ++ tl) := hD
                        refine lv_iload hx hb d_M_raise_178 (lv_at hl 0 rfl) ?_
                        refine lv_istore_n (lv' := [(3, .int (nI (((a.map (im l0)).flatten.length) + (im l0 p).length))), (4, .int (nI (((a.map (im l0)).flatten.length) + (im l0 p).length))), (0, .ref h), (1, .int (nI mp)), (2, .int (nI l0))]) hx hb d_M_raise_180 rfl hl (by decide) rfl (fun ls hl => ?_)
                        refine lv_goto hx hb d_M_raise_181 (tgt := 130) (by decide) ?_
                        replace hl : lv_has ls 5 [(3, .int (nI (((a ++ [p]).map (im l0)).flatten.length))), (4, .int (nI (((a.map (im l0)).flatten.length) + (im l0 p).length))), (0, .ref h), (1, .int (nI mp)), (2, .int (nI l0))] := by rw [hpr.2.2.2.2]; exact hl
                        exact ih130 (a ++ [p]) b2 (itM ε (l0 + 1) a.length (lk p) (hs l0 (im l0 p))) ls _ _ (by rw [hb2] at hn130; simp only [List.length_cons] at hn130; omega) (by rw [List.append_assoc]; exact hab) (by rw [List.map_append]; have := lr_item hlrC (lk p) (hs l0 (im l0 p)); rw [List.length_map] at this; exact this) (fun l hl => lr_other (hrowC l hl) (by omega) (im_len (ol_is fm) l) (by omega)) (frx_t hfrC (it_fr _ _ _ _ _) (fun x h => ⟨h, fun q => h (by simp at q ⊢; omega)⟩)) ((congrFun (it_fr _ _ _ _ _ 11 (by decide)) 0).trans h11C) (lv_sub hl [2, 3, 4, 0] rfl) hP hD hS
                  exact key130 _ ([]) (pa l0 (ol fm 48)) (mup δ 12 (l0 + 1) (nI 0)) ls _ _ (Nat.lt_succ_self _) rfl (⟨rd_eq, fun j x hx => by simp at hx⟩) (fun l hl => lr_c (hrow l (by omega)) (rd_ni (by omega) rfl) (mup_ne (by decide)) (mup_ne (by decide))) (frx_t hfrB (L' := [12]) frx_m (fun x h => ⟨h, fun q => h (by simp at q ⊢; omega)⟩)) (rd_ne (by decide) h11) (lv_sub hl [2, 3, 1, 0] rfl) hP hD hS
          exact key70 _ 0 (mup γ 11 0 (nI 0)) ls _ _ (Nat.lt_succ_self _) (⟨Nat.zero_le _, fun _ => hX0, fun _ => rfl⟩) rd_eq (fun l hl => absurd hl (by omega)) (frx_t hfr (L' := [11]) frx_m (fun x h => ⟨fun q => h (by simp at q ⊢; omega), fun q => h (by simp at q ⊢; omega)⟩)) (lv_sub hl [0, 1] rfl) hP hD hS
      · skip
        refine lv_aload_n hx hb d_M_raise_15 rfl (lv_at hl 0 rfl) ?_
        refine gf_M_7 (v := .ref (ad 1)) hx hb hT hown hK hP 0 rfl rfl d_M_raise_16 ?_
        refine lv_bipush (v := nI 48) hx hb d_M_raise_19 (by decide) ?_
        refine lv_iload_n hx hb d_M_raise_21 rfl (lv_at hl 1 rfl) ?_
        refine st_imul hx hb d_M_raise_22 ?_
        refine lv_iload_n hx hb d_M_raise_23 rfl (lv_at hl 2 rfl) ?_
        refine st_iadd hx hb d_M_raise_24 ?_
        refine st_zald hx hb hK hP 1 1 rfl rfl (by omega) (by decide) d_M_raise_25 ?_
        refine st_top (show γ 1 ((48 * mp) + k) = g 1 (48 * mp + k) from by rw [hfr 1 (by decide)]) ?_
        refine lv_if_eq hx hb d_M_raise_26 (tgt := 46) (by decide) (fun hc26 => ?_) (fun hc26 => ?_)
        · skip
          have hfk : fm k = none := (hfm k (by omega)).1.mp hc26
          refine lv_iinc (k := 2) (v := nI (k + 1)) (lv' := [(2, .int (nI (k + 1))), (0, .ref h), (1, .int (nI mp))]) hx hb d_M_raise_46 hl rfl (nI_add _ _) (by decide) rfl (fun ls hl => ?_)
          refine lv_goto hx hb d_M_raise_49 (tgt := 9) (by decide) ?_
          exact ih9 (k + 1) γ ls _ _ (by omega) (by omega) (by rw [ol_n hfk]; exact hlr) hfr (lv_sub hl [1, 2, 0] rfl) hP hD hS
        · skip
          obtain ⟨v, hv⟩ := Option.ne_none_iff_exists'.mp (fun q => hc26 ((hfm k (by omega)).1.mpr q))
          refine lv_aload_n hx hb d_M_raise_29 rfl (lv_at hl 0 rfl) ?_
          refine lv_iconst (v := nI 0) hx hb d_M_raise_30 (by decide) ?_
          refine lv_iload_n hx hb d_M_raise_31 rfl (lv_at hl 2 rfl) ?_
          refine lv_aload_n hx hb d_M_raise_32 rfl (lv_at hl 0 rfl) ?_
          refine gf_M_13 (v := .ref (ad 2)) hx hb hT hown hK hP 0 rfl rfl d_M_raise_33 ?_
          refine lv_bipush (v := nI 48) hx hb d_M_raise_36 (by decide) ?_
          refine lv_iload_n hx hb d_M_raise_38 rfl (lv_at hl 1 rfl) ?_
          refine st_imul hx hb d_M_raise_39 ?_
          refine lv_iload_n hx hb d_M_raise_40 rfl (lv_at hl 2 rfl) ?_
          refine st_iadd hx hb d_M_raise_41 ?_
          refine st_iald hx hb hK hP 2 0 rfl rfl (by omega) (by decide) d_M_raise_42 ?_
          refine st_top (show γ 2 ((48 * mp) + k) = v from by rw [hfr 2 (by decide)]; exact (hfm k (by omega)).2 v hv) ?_
          refine k_callv (va_runV (As := [.int (nI 0), .int (nI k), .int v]) (rest := []) ⟨hx, hb, hml, hown, hts⟩ (c_M_item l D tk H.size h ad γ la tl 0 (ol fm k).length k v (by omega) (by omega) (hlr.1)) (cwV 3 hts (gV t_1068 t_1070 s_19 t_9 t_1071) rfl rfl rfl (by decide +kernel) ⟨Nat.le_of_ble_eq_true rfl, Nat.le_of_ble_eq_true rfl⟩) (k_preV hP hK hD hnw 0 rfl rfl) rfl rfl hl.1 rfl (lv_room (Nat.le_of_ble_eq_true rfl)) d_M_raise_43 hc0) hD hS hA (fun _ H locs hp43 hP hD hK hS => ?_)
          replace hP : va_P D CC (wM tk h ad (itM γ 0 (ol fm k).length k v) la ++ tl) H := hP
          replace hD : va_D A (wM tk h ad (itM γ 0 (ol fm k).length k v) la ++ tl) := hD
          refine lv_iinc (k := 2) (v := nI (k + 1)) (lv' := [(2, .int (nI (k + 1))), (0, .ref h), (1, .int (nI mp))]) hx hb d_M_raise_46 hl rfl (nI_add _ _) (by decide) rfl (fun ls hl => ?_)
          refine lv_goto hx hb d_M_raise_49 (tgt := 9) (by decide) ?_
          exact ih9 (k + 1) (itM γ 0 (ol fm k).length k v) ls _ _ (by omega) (by omega) (by rw [ol_s hv]; exact lr_item hlr _ _) (frx_t hfr (it_fr _ _ _ _ _) (fun x h => ⟨h, h⟩)) (lv_sub hl [1, 2, 0] rfl) hP hD hS
  exact key9 _ 0 (mup g 12 0 (nI 0)) ls _ _ (Nat.lt_succ_self _) (by omega) (⟨rd_eq, fun j x hx => by simp [ol] at hx⟩) (fun x hx => mup_ne (by intro q; subst q; exact hx (by decide))) (lv_sub hl [1, 2, 0] rfl) hP hD hS
