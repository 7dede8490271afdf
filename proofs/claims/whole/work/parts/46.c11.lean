theorem W_up {p : Program} {l : Launch} {e : Env} {R : Room} {s : State} {m : MethodId} {args : Array Value} {below : List Frame} {meth : Method} {c : Code} {H : Heap} {locs : List Loc} {cells slots : Nat} {Q : State → Prop} {g : JFrame} {c2 s2 : Nat} (hc : cells ≤ c2) (hs : slots ≤ s2) (k : W p l e R s m args below meth c H locs c2 s2 Q g) : W p l e R s m args below meth c H locs cells slots Q g :=
  fun T hT X => k T hT { X with same := X.same.mono hc hs }
def aup (g : Nat → Nat → Int32) (a : Nat) (f : Nat → Int32) : Nat → Nat → Int32 := fun x => if x = a then f else g x
theorem aup_ne {g : Nat → Nat → Int32} {a : Nat} {f : Nat → Int32} {b : Nat} (h : b ≠ a) : aup g a f b = g b := by unfold aup; rw [if_neg h]
theorem aup_eq {g : Nat → Nat → Int32} {a : Nat} {f : Nat → Int32} : aup g a f a = f := by unfold aup; rw [if_pos rfl]
theorem sCa_17 (tk : Nat → ClassId) (ad : Nat → Nat) (g : Nat → Nat → Int32) (rr : Nat → Nat → Option Nat) (tl : va_W) (f : Nat → Int32) : (wC tk ad g rr ++ tl).set 17 (ad 17, .inl (tk 0, 400, .inl f)) = wC tk ad (aup g 21 f) rr ++ tl := rfl

theorem aup_r8 {g : Nat → Nat → Int32} {n : Nat} {f : Nat → Int32} (h : g 8 0 = nI n) : aup g 21 f 8 0 = nI n := by rw [aup_ne (by decide)]; exact h

set_option maxHeartbeats 4000000 in
set_option maxRecDepth 100000 in
theorem c_B_become (l : Launch) (D : va_G) (tk : Nat → ClassId) (sz : Nat) (ad : Nat → Nat) (g : Nat → Nat → Int32) (rr : Nat → Nat → Option Nat) (tl : va_W) (n : Nat) (hn : n ≤ 400) (hg : g 8 0 = nI n) : Met l y_B_become w_B_become ({ frames := 1, cells := 0, slots := 0, locals := 60 }) (va_Pc [.ref (ad 16), .ref (ad 13)] (k_pre D (TY tk) sz (wC tk ad g rr ++ tl))) (va_Qv (fun (_ : Unit) => True) (fun u t => k_at D (TY tk) (va_A (wC tk ad g rr ++ tl) sz) ((fun _ => wC tk ad (mup (aup g 21 (va_cpy (g 9) (g 21) 0 0 n)) 20 0 (nI n)) rr ++ tl) u) t) (va_A (wC tk ad g rr ++ tl) sz)) 0 0 (va_A (wC tk ad g rr ++ tl) sz) := by
  refine k_ofW (fun A => va_Qv (fun (_ : Unit) => True) (fun u t => k_at D (TY tk) A ((fun _ => wC tk ad (mup (aup g 21 (va_cpy (g 9) (g 21) 0 0 n)) 20 0 (nI n)) rr ++ tl) u) t) A) (by decide) (Nat.le_of_ble_eq_true rfl) ?_
  intro p e s m args below meth c Q A ls hQ hx hb hr hlk hin hts hT hown hml hnw hP hK hD hA hsz hl
  have hS : va_S A s.heap s.heap [] := va_S.rf
  have hc0 : 0 + 0 ≤ 0 ∧ 0 + 0 ≤ 0 := ⟨by decide, by decide⟩
  replace hl : lv_has ls 2 [(0, .ref (ad 16)), (1, .ref (ad 13))] := hl
  replace hP : va_P D CC (wC tk ad g rr ++ tl) s.heap := hP
  replace hK : va_K D CC (TY tk) s := hK
  refine lv_aload_n hx hb d_B_become_0 rfl (lv_at hl 1 rfl) ?_
  refine gf_B_9 (v := .ref (ad 14)) hx hb hT hown hK hP 13 rfl rfl d_B_become_1 ?_
  refine lv_iconst (v := nI 0) hx hb d_B_become_4 (by decide) ?_
  refine lv_aload_n hx hb d_B_become_5 rfl (lv_at hl 0 rfl) ?_
  refine gf_B_9 (v := .ref (ad 17)) hx hb hT hown hK hP 16 rfl rfl d_B_become_6 ?_
  refine lv_iconst (v := nI 0) hx hb d_B_become_9 (by decide) ?_
  refine lv_aload_n hx hb d_B_become_10 rfl (lv_at hl 1 rfl) ?_
  refine gf_B_15 (v := .int (g 8 0)) hx hb hT hown hK hP 13 rfl rfl d_B_become_11 ?_
  refine st_top (show g 8 0 = nI n from hg) ?_
  refine va_copyi (ty := .int) hx hb (hml.trans hl.1.symm) hown (hT _ t_267) (hT _ t_269) (hT _ t_268) (hT _ t_24) hK hP hD hS 14 17 0 0 rfl rfl rfl rfl rfl (nI_pos (by omega)) (nI_pos (by omega)) (nI_pos (by omega)) (by rw [nI_clamp (by omega), nI_clamp (by omega)]; omega) (by rw [nI_clamp (by omega), nI_clamp (by omega)]; omega) (fun _ _ => rfl) (Nat.le_of_ble_eq_true rfl) (by decide) d_B_become_14 (fun H locs hP hD hS => ?_)
  rw [nI_clamp (show 0 < 2 ^ 31 by omega), nI_clamp (show n < 2 ^ 31 by omega)] at hP hD
  replace hP : va_P D CC (wC tk ad (aup g 21 (va_cpy (g 9) (g 21) 0 0 n)) rr ++ tl) H := hP
  replace hD : va_D A (wC tk ad (aup g 21 (va_cpy (g 9) (g 21) 0 0 n)) rr ++ tl) := hD
  refine lv_aload_n hx hb d_B_become_17 rfl (lv_at hl 0 rfl) ?_
  refine lv_aload_n hx hb d_B_become_18 rfl (lv_at hl 1 rfl) ?_
  refine gf_B_15 (v := .int ((aup g 21 (va_cpy (g 9) (g 21) 0 0 n)) 8 0)) hx hb hT hown hK hP 13 rfl rfl d_B_become_19 ?_
  refine st_top (show (aup g 21 (va_cpy (g 9) (g 21) 0 0 n)) 8 0 = nI n from (aup_r8 hg)) ?_
  refine pf_B_15 hx hb hT hown hK hP hD hS 16 rfl (Nat.le_of_ble_eq_true rfl) d_B_become_22 (fun H locs hP hD hS => ?_)
  replace hP : va_P D CC (wC tk ad (mup (aup g 21 (va_cpy (g 9) (g 21) 0 0 n)) 20 0 (nI n)) rr ++ tl) H := Eq.mp (congrArg (fun w => va_P D CC w H) (sC_16_1 tk ad (aup g 21 (va_cpy (g 9) (g 21) 0 0 n)) rr tl (nI n))) hP
  replace hD : va_D A (wC tk ad (mup (aup g 21 (va_cpy (g 9) (g 21) 0 0 n)) 20 0 (nI n)) rr ++ tl) := Eq.mp (congrArg (fun w => va_D A w) (sC_16_1 tk ad (aup g 21 (va_cpy (g 9) (g 21) 0 0 n)) rr tl (nI n))) hD
  exact k_vret hQ hx hb hr hlk hK hP hD hS () rfl trivial d_B_become_25

/-- carry: the bytes are the proof's, one of them changed -/
def cyP (n : Nat) (i msk : Int32) (g u : Nat → Nat → Int32) : Prop := frx [20, 21] g u ∧ u 20 0 = nI n ∧ ∀ j, j < n → u 21 j = if nI j = i then g 9 j ^^^ (msk &&& nI 255) else g 9 j
theorem cy_end {n : Nat} {i msk : Int32} {g : Nat → Nat → Int32} (hn : n ≤ 400) : cyP n i msk g (if i < nI 0 ∨ (mup (aup g 21 (va_cpy (g 9) (g 21) 0 0 n)) 20 0 (nI n)) 20 0 - nI 1 < i then (mup (aup g 21 (va_cpy (g 9) (g 21) 0 0 n)) 20 0 (nI n)) else mup (mup (aup g 21 (va_cpy (g 9) (g 21) 0 0 n)) 20 0 (nI n)) 21 i.toNatClampNeg ((mup (aup g 21 (va_cpy (g 9) (g 21) 0 0 n)) 20 0 (nI n)) 21 i.toNatClampNeg ^^^ (msk &&& nI 255))) := by
  generalize hG : mup (aup g 21 (va_cpy (g 9) (g 21) 0 0 n)) 20 0 (nI n) = G
  have h20 : G 20 0 = nI n := by rw [← hG]; exact rd_eq
  have h21 : ∀ j, j < n → G 21 j = g 9 j := by
    intro j hj
    rw [← hG, mup_ne (by decide), aup_eq]
    unfold va_cpy
    rw [if_pos ⟨Nat.zero_le _, by omega⟩]
    congr 1
    omega
  have hfr : frx [20, 21] g G := by
    intro x hx
    rw [← hG, mup_ne (fun q => hx (by rw [q]; decide)), aup_ne (fun q => hx (by rw [q]; decide))]
  by_cases h : i < nI 0 ∨ G 20 0 - nI 1 < i
  · rw [if_pos h]
    refine ⟨hfr, h20, fun j hj => ?_⟩
    rw [if_neg, h21 j hj]
    rintro rfl
    rcases h with h | h
    · exact nI_pos (by omega) h
    · rw [h20, pk_sub (by omega)] at h
      exact nI_nlt (by omega) (by omega) h
  · rw [if_neg h]
    obtain ⟨k, hk, rfl⟩ := m_idx h20 hn h
    refine ⟨frx_2 hfr (by decide), (rd_ne (by decide) h20), fun j hj => ?_⟩
    rw [mup_eq, nI_clamp (by omega)]
    unfold upd
    by_cases e : j = k
    · subst e; rw [if_pos rfl, if_pos rfl, h21 j hj]
    · rw [if_neg e, if_neg (fun q => e ((nI_eq (by omega) (by omega)).mp q)), h21 j hj]

set_option maxHeartbeats 4000000 in
set_option maxRecDepth 100000 in
theorem c_K_carry (l : Launch) (D : va_G) (tk : Nat → ClassId) (sz : Nat) (ad : Nat → Nat) (g : Nat → Nat → Int32) (rr : Nat → Nat → Option Nat) (tl : va_W) (n : Nat) (hn : n ≤ 400) (hg : g 8 0 = nI n) (i msk : Int32) : Met l y_K_carry w_K_carry ({ frames := 2, cells := 0, slots := 0, locals := 81 }) (va_Pc [.ref (ad 0), .int i, .int msk] (k_pre D (TY tk) sz (wC tk ad g rr ++ tl))) (va_Qi (fun (r : Int32) (u : Nat → Nat → Int32) => cyP n i msk g u ∧ r = nI n) (fun u t => k_at D (TY tk) (va_A (wC tk ad g rr ++ tl) sz) ((fun u => wC tk ad u rr ++ tl) u) t) (va_A (wC tk ad g rr ++ tl) sz)) 0 0 (va_A (wC tk ad g rr ++ tl) sz) := by
  refine k_ofW (fun A => va_Qi (fun (r : Int32) (u : Nat → Nat → Int32) => cyP n i msk g u ∧ r = nI n) (fun u t => k_at D (TY tk) A ((fun u => wC tk ad u rr ++ tl) u) t) A) (by decide) (Nat.le_of_ble_eq_true rfl) ?_
  intro p e s m args below meth c Q A ls hQ hx hb hr hlk hin hts hT hown hml hnw hP hK hD hA hsz hl
  have hS : va_S A s.heap s.heap [] := va_S.rf
  have hc0 : 0 + 0 ≤ 0 ∧ 0 + 0 ≤ 0 := ⟨by decide, by decide⟩
  replace hl : lv_has ls 3 [(0, .ref (ad 0)), (1, .int i), (2, .int msk)] := hl
  replace hP : va_P D CC (wC tk ad g rr ++ tl) s.heap := hP
  replace hK : va_K D CC (TY tk) s := hK
  refine lv_aload_n hx hb d_K_carry_0 rfl (lv_at hl 0 rfl) ?_
  refine gf_K_47 (v := .ref (ad 15)) hx hb hT hown hK hP 0 rfl rfl d_K_carry_1 ?_
  refine gf_K_168 (v := .ref (ad 16)) hx hb hT hown hK hP 15 rfl rfl d_K_carry_4 ?_
  refine lv_aload_n hx hb d_K_carry_7 rfl (lv_at hl 0 rfl) ?_
  refine gf_K_40 (v := .ref (ad 12)) hx hb hT hown hK hP 0 rfl rfl d_K_carry_8 ?_
  refine gf_K_154 (v := .ref (ad 13)) hx hb hT hown hK hP 12 rfl rfl d_K_carry_11 ?_
  refine k_callv (va_runV (As := [.ref (ad 13)]) (rest := []) ⟨hx, hb, hml, hown, hts⟩ (c_B_become l D tk s.heap.size ad g rr tl n hn hg) (cwV 1 hts (gV t_263 t_264 t_265 t_7 t_266) rfl rfl rfl (by decide +kernel) ⟨Nat.le_of_ble_eq_true rfl, Nat.le_of_ble_eq_true rfl⟩) (k_preV hP hK hD hnw 16 rfl rfl) rfl rfl hl.1 rfl (lv_room (Nat.le_of_ble_eq_true rfl)) d_K_carry_14 hc0) hD hS hA (fun _ H locs hp14 hP hD hK hS => ?_)
  replace hP : va_P D CC (wC tk ad (mup (aup g 21 (va_cpy (g 9) (g 21) 0 0 n)) 20 0 (nI n)) rr ++ tl) H := hP
  replace hD : va_D A (wC tk ad (mup (aup g 21 (va_cpy (g 9) (g 21) 0 0 n)) 20 0 (nI n)) rr ++ tl) := hD
  refine lv_aload_n hx hb d_K_carry_17 rfl (lv_at hl 0 rfl) ?_
  refine gf_K_47 (v := .ref (ad 15)) hx hb hT hown hK hP 0 rfl rfl d_K_carry_18 ?_
  refine gf_K_168 (v := .ref (ad 16)) hx hb hT hown hK hP 15 rfl rfl d_K_carry_21 ?_
  refine lv_iload_n hx hb d_K_carry_24 rfl (lv_at hl 1 rfl) ?_
  refine lv_iload_n hx hb d_K_carry_25 rfl (lv_at hl 2 rfl) ?_
  refine k_callv (va_runV (As := [.int i, .int msk]) (rest := []) ⟨hx, hb, hml, hown, hts⟩ (c_B_flip l D tk H.size ad (mup (aup g 21 (va_cpy (g 9) (g 21) 0 0 n)) 20 0 (nI n)) rr tl n hn rd_eq i msk) (cwV 2 hts (gV t_270 t_271 t_272 t_7 t_273) rfl rfl rfl (by decide +kernel) ⟨Nat.le_of_ble_eq_true rfl, Nat.le_of_ble_eq_true rfl⟩) (k_preV hP hK hD hnw 16 rfl rfl) rfl rfl hl.1 rfl (lv_room (Nat.le_of_ble_eq_true rfl)) d_K_carry_26 hc0) hD hS hA (fun _ H locs hp26 hP hD hK hS => ?_)
  replace hP : va_P D CC (wC tk ad (if i < nI 0 ∨ (mup (aup g 21 (va_cpy (g 9) (g 21) 0 0 n)) 20 0 (nI n)) 20 0 - nI 1 < i then (mup (aup g 21 (va_cpy (g 9) (g 21) 0 0 n)) 20 0 (nI n)) else mup (mup (aup g 21 (va_cpy (g 9) (g 21) 0 0 n)) 20 0 (nI n)) 21 i.toNatClampNeg ((mup (aup g 21 (va_cpy (g 9) (g 21) 0 0 n)) 20 0 (nI n)) 21 i.toNatClampNeg ^^^ (msk &&& nI 255))) rr ++ tl) H := hP
  replace hD : va_D A (wC tk ad (if i < nI 0 ∨ (mup (aup g 21 (va_cpy (g 9) (g 21) 0 0 n)) 20 0 (nI n)) 20 0 - nI 1 < i then (mup (aup g 21 (va_cpy (g 9) (g 21) 0 0 n)) 20 0 (nI n)) else mup (mup (aup g 21 (va_cpy (g 9) (g 21) 0 0 n)) 20 0 (nI n)) 21 i.toNatClampNeg ((mup (aup g 21 (va_cpy (g 9) (g 21) 0 0 n)) 20 0 (nI n)) 21 i.toNatClampNeg ^^^ (msk &&& nI 255))) rr ++ tl) := hD
  refine lv_aload_n hx hb d_K_carry_29 rfl (lv_at hl 0 rfl) ?_
  refine gf_K_47 (v := .ref (ad 15)) hx hb hT hown hK hP 0 rfl rfl d_K_carry_30 ?_
  refine gf_K_168 (v := .ref (ad 16)) hx hb hT hown hK hP 15 rfl rfl d_K_carry_33 ?_
  refine gf_K_158 (v := .int ((if i < nI 0 ∨ (mup (aup g 21 (va_cpy (g 9) (g 21) 0 0 n)) 20 0 (nI n)) 20 0 - nI 1 < i then (mup (aup g 21 (va_cpy (g 9) (g 21) 0 0 n)) 20 0 (nI n)) else mup (mup (aup g 21 (va_cpy (g 9) (g 21) 0 0 n)) 20 0 (nI n)) 21 i.toNatClampNeg ((mup (aup g 21 (va_cpy (g 9) (g 21) 0 0 n)) 20 0 (nI n)) 21 i.toNatClampNeg ^^^ (msk &&& nI 255))) 20 0)) hx hb hT hown hK hP 16 rfl rfl d_K_carry_36 ?_
  exact k_iret (v := (if i < nI 0 ∨ (mup (aup g 21 (va_cpy (g 9) (g 21) 0 0 n)) 20 0 (nI n)) 20 0 - nI 1 < i then (mup (aup g 21 (va_cpy (g 9) (g 21) 0 0 n)) 20 0 (nI n)) else mup (mup (aup g 21 (va_cpy (g 9) (g 21) 0 0 n)) 20 0 (nI n)) 21 i.toNatClampNeg ((mup (aup g 21 (va_cpy (g 9) (g 21) 0 0 n)) 20 0 (nI n)) 21 i.toNatClampNeg ^^^ (msk &&& nI 255))) 20 0) hQ hx hb hr hlk hK hP hD hS _ rfl (⟨cy_end hn, (cy_end (msk := msk) hn).2.1⟩) d_K_carry_39

/-- the row holds the items P from place a on -/
def rwI (u : Nat → Nat → Int32) (a : Nat) (P : List kv_I) : Prop := ∀ j x, P[j]? = some x → u 6 (a + j) = nI x.1 ∧ u 7 (a + j) = x.2
theorem rwI_o {u : Nat → Nat → Int32} {a b i : Nat} {v : Int32} {P : List kv_I} (h : rwI u a P) (hb : b ≠ 6 ∧ b ≠ 7) : rwI (mup u b i v) a P := fun j x hx => by
  rw [mup_ne (Ne.symm hb.1), mup_ne (Ne.symm hb.2)]; exact h j x hx
def frr (L : List Nat) (r r2 : Nat → Nat → Option Nat) : Prop := ∀ x, x ∉ L → r2 x = r x
theorem frr_r {L : List Nat} {r : Nat → Nat → Option Nat} : frr L r r := fun _ _ => rfl
theorem frr_2 {L : List Nat} {r r2 : Nat → Nat → Option Nat} (h : frr L r r2) {a i : Nat} {v : Option Nat} (ha : a ∈ L) : frr L r (rup r2 a i v) := fun x hx => (rup_ne (fun q => hx (by rw [q]; exact ha))).trans (h x hx)
def lsP (fm : Nat → Option Int32) (k : Nat) (u : Nat → Nat → Int32) (r : Nat → Nat → Option Nat) : Prop := rwI u 0 (ol fm k) ∧ ∀ j, j < (ol fm k).length → r 2 j = none
theorem ls_step {fm : Nat → Option Int32} {k : Nat} {u : Nat → Nat → Int32} {r : Nat → Nat → Option Nat} {v w : Int32} (h : lsP fm k u r) (hv : fm k = some v) (hw : w = v) : lsP fm (k + 1) (mup (mup u 6 (ol fm k).length (nI k)) 7 (ol fm k).length w) (rup r 2 (ol fm k).length none) := by
  subst hw
  rw [lsP, ol_s hv]
  refine ⟨fun j x hx => ?_, fun j hj => ?_⟩
  · rw [Nat.zero_add, mup_ne (show (6 : Nat) ≠ 7 by decide), mup_eq, mup_eq, mup_ne (show (7 : Nat) ≠ 6 by decide)]
    unfold upd
    by_cases e : j = (ol fm k).length
    · subst e
      rw [List.getElem?_append_right (Nat.le_refl _), Nat.sub_self] at hx
      have : (k, w) = x := Option.some.inj hx
      subst this
      rw [if_pos rfl, if_pos rfl]
      exact ⟨rfl, rfl⟩
    · rw [if_neg e, if_neg e]
      have hlt : j < (ol fm k).length := by
        have := (List.getElem?_eq_some_iff.mp hx).1
        rw [List.length_append, List.length_singleton] at this
        omega
      rw [List.getElem?_append_left hlt] at hx
      have := h.1 j x hx
      rw [Nat.zero_add] at this
      exact this
  · rw [rup_eq]
    unfold va_up
    by_cases e : j = (ol fm k).length
    · rw [if_pos e]
    · rw [if_neg e]
      rw [List.length_append, List.length_singleton] at hj
      exact h.2 j (by omega)

set_option maxHeartbeats 4000000 in
set_option maxRecDepth 100000 in
theorem c_T_listInto (l : Launch) (D : va_G) (tk : Nat → ClassId) (sz : Nat) (ad : Nat → Nat) (g : Nat → Nat → Int32) (rr : Nat → Nat → Option Nat) (tl : va_W) (fm : Nat → Option Int32) (hf : ∀ k, k < 48 → (g 3 k = 0 ↔ fm k = none) ∧ ∀ v, fm k = some v → g 4 k = v) : Met l y_T_listInto w_T_listInto ({ frames := 1, cells := 0, slots := 0, locals := 24 }) (va_Pc [.ref (ad 5), .ref (ad 8)] (k_pre D (TY tk) sz (wC tk ad g rr ++ tl))) (va_Qv (fun (u : (Nat → Nat → Int32) × (Nat → Nat → Option Nat)) => frx [5, 6, 7] g u.1 ∧ frr [2] rr u.2 ∧ lsP fm 48 u.1 u.2 ∧ u.1 5 0 = nI (ol fm 48).length) (fun u t => k_at D (TY tk) (va_A (wC tk ad g rr ++ tl) sz) ((fun (u : (Nat → Nat → Int32) × (Nat → Nat → Option Nat)) => wC tk ad u.1 u.2 ++ tl) u) t) (va_A (wC tk ad g rr ++ tl) sz)) 0 0 (va_A (wC tk ad g rr ++ tl) sz) := by
  refine k_ofW (fun A => va_Qv (fun (u : (Nat → Nat → Int32) × (Nat → Nat → Option Nat)) => frx [5, 6, 7] g u.1 ∧ frr [2] rr u.2 ∧ lsP fm 48 u.1 u.2 ∧ u.1 5 0 = nI (ol fm 48).length) (fun u t => k_at D (TY tk) A ((fun (u : (Nat → Nat → Int32) × (Nat → Nat → Option Nat)) => wC tk ad u.1 u.2 ++ tl) u) t) A) (by decide) (Nat.le_of_ble_eq_true rfl) ?_
  intro p e s m args below meth c Q A ls hQ hx hb hr hlk hin hts hT hown hml hnw hP hK hD hA hsz hl
  have hS : va_S A s.heap s.heap [] := va_S.rf
  have hc0 : 0 + 0 ≤ 0 ∧ 0 + 0 ≤ 0 := ⟨by decide, by decide⟩
  replace hl : lv_has ls 4 [(0, .ref (ad 5)), (1, .ref (ad 8))] := hl
  replace hP : va_P D CC (wC tk ad g rr ++ tl) s.heap := hP
  replace hK : va_K D CC (TY tk) s := hK
  refine lv_iconst (v := nI 0) hx hb d_T_listInto_0 (by decide) ?_
  refine lv_istore_n (lv' := [(2, .int (nI 0)), (0, .ref (ad 5)), (1, .ref (ad 8))]) hx hb d_T_listInto_1 rfl hl (by decide) rfl (fun ls hl => ?_)
  refine lv_iconst (v := nI 0) hx hb d_T_listInto_2 (by decide) ?_
  refine lv_istore_n (lv' := [(3, .int (nI 0)), (2, .int (nI 0)), (0, .ref (ad 5)), (1, .ref (ad 8))]) hx hb d_T_listInto_3 rfl hl (by decide) rfl (fun ls hl => ?_)
  have key4 : ∀ (n4 : Nat) (k : Nat) (u : Nat → Nat → Int32) (r : Nat → Nat → Option Nat) (ls : Array Slot) (H : Heap) (locs : List Loc), 48 - k < n4 → (k ≤ 48) → (frx [6, 7] g u) → (frr [2] rr r) → (lsP fm k u r) → lv_has ls 4 [(0, .ref (ad 5)), (1, .ref (ad 8)), (2, .int (nI ((ol fm k).length))), (3, .int (nI k))] → va_P D CC (wC tk ad u r ++ tl) H → va_D A (wC tk ad u r ++ tl) → va_S A s.heap H locs → W p l e ({ frames := 1, cells := 0, slots := 0, locals := 24 } : Room) s m args below meth c H locs 0 0 Q (F0 m 4 ls []) := by
    intro n4
    induction n4 with
    | zero => intro k u r ls H locs hn; exact absurd hn (Nat.not_lt_zero _)
    | succ n4 ih4 =>
      intro k u r ls H locs hn4 hk hfr hrr hls hl hP hD hS
      refine lv_iload_n hx hb d_T_listInto_4 rfl (lv_at hl 3 rfl) ?_
      refine lv_bipush (v := nI 48) hx hb d_T_listInto_5 (by decide) ?_
      refine st_icmp_ge hx hb (by omega) (by omega) d_T_listInto_7 (tgt := 41) (by decide) (fun hc7 => ?_) (fun hc7 => ?_)
      · skip
        refine lv_aload_n hx hb d_T_listInto_41 rfl (lv_at hl 1 rfl) ?_
        refine lv_iload_n hx hb d_T_listInto_42 rfl (lv_at hl 2 rfl) ?_
        refine pf_T_37 hx hb hT hown hK hP hD hS 8 rfl (Nat.le_of_ble_eq_true rfl) d_T_listInto_43 (fun H locs hP hD hS => ?_)
        replace hP : va_P D CC (wC tk ad (mup u 5 0 (nI ((ol fm k).length))) r ++ tl) H := Eq.mp (congrArg (fun w => va_P D CC w H) (sC_8_3 tk ad u r tl (nI ((ol fm k).length)))) hP
        replace hD : va_D A (wC tk ad (mup u 5 0 (nI ((ol fm k).length))) r ++ tl) := Eq.mp (congrArg (fun w => va_D A w) (sC_8_3 tk ad u r tl (nI ((ol fm k).length)))) hD
        exact k_vret hQ hx hb hr hlk hK hP hD hS ((mup u 5 0 (nI ((ol fm k).length))), r) rfl (by obtain rfl : k = 48 := (by omega); exact ⟨fun x h9 => (mup_ne (fun q => h9 (by rw [q]; decide))).trans (hfr x (fun h8 => h9 (by revert h8; simp; omega))), hrr, ⟨rwI_o hls.1 (by decide), hls.2⟩, rd_eq (g := u) (a := 5) (i := 0)⟩) d_T_listInto_46
      · skip
        refine lv_aload_n hx hb d_T_listInto_10 rfl (lv_at hl 0 rfl) ?_
        refine gf_T_9 (v := .ref (ad 6)) hx hb hT hown hK hP 5 rfl rfl d_T_listInto_11 ?_
        refine lv_iload_n hx hb d_T_listInto_14 rfl (lv_at hl 3 rfl) ?_
        refine st_zald hx hb hK hP 6 1 rfl rfl (by omega) (by decide) d_T_listInto_15 ?_
        refine lv_if_eq hx hb d_T_listInto_16 (tgt := 35) (by decide) (fun hc16 => ?_) (fun hc16 => ?_)
        · skip
          have h3u : u 3 k = g 3 k := congrFun (hfr 3 (by decide)) k
          have h4u : u 4 k = g 4 k := congrFun (hfr 4 (by decide)) k
          have hf9 := hf k (by omega)
          have hln := ol_len fm k
          have hnn : fm k = none := hf9.1.mp (by rw [← h3u]; exact hc16)
          refine lv_iinc (k := 3) (v := nI (k + 1)) (lv' := [(3, .int (nI (k + 1))), (0, .ref (ad 5)), (1, .ref (ad 8)), (2, .int (nI ((ol fm k).length)))]) hx hb d_T_listInto_35 hl rfl (nI_add _ _) (by decide) rfl (fun ls hl => ?_)
          refine lv_goto hx hb d_T_listInto_38 (tgt := 4) (by decide) ?_
          rw [show (ol fm k).length = (ol fm (k + 1)).length by rw [ol_n hnn]] at hl
          exact ih4 (k + 1) u r ls _ _ (by omega) (by omega) hfr hrr (by rw [lsP, ol_n hnn]; exact hls) (lv_sub hl [1, 2, 3, 0] rfl) hP hD hS
        · skip
          have h3u : u 3 k = g 3 k := congrFun (hfr 3 (by decide)) k
          have h4u : u 4 k = g 4 k := congrFun (hfr 4 (by decide)) k
          have hf9 := hf k (by omega)
          have hln := ol_len fm k
          have hsm : fm k ≠ none := fun q => hc16 (by rw [h3u]; exact hf9.1.mpr q)
          obtain ⟨v9, hv9⟩ := Option.ne_none_iff_exists'.mp hsm
          have hwv : ∀ v, fm k = some v → u 4 k = v := fun v q => by rw [h4u]; exact hf9.2 v q
          refine lv_aload_n hx hb d_T_listInto_19 rfl (lv_at hl 1 rfl) ?_
          refine lv_iload_n hx hb d_T_listInto_20 rfl (lv_at hl 2 rfl) ?_
          refine lv_iload_n hx hb d_T_listInto_21 rfl (lv_at hl 3 rfl) ?_
          refine lv_aload_n hx hb d_T_listInto_22 rfl (lv_at hl 0 rfl) ?_
          refine gf_T_15 (v := .ref (ad 7)) hx hb hT hown hK hP 5 rfl rfl d_T_listInto_23 ?_
          refine lv_iload_n hx hb d_T_listInto_26 rfl (lv_at hl 3 rfl) ?_
          refine st_iald hx hb hK hP 7 0 rfl rfl (by omega) (by decide) d_T_listInto_27 ?_
          refine lv_null hx hb d_T_listInto_28 ?_
          refine k_callv (va_runV (As := [.int (nI ((ol fm k).length)), .int (nI k), .int (u 4 k), .null]) (rest := []) ⟨hx, hb, hml, hown, hts⟩ (c_R_set l D tk H.size ad u r tl ((ol fm k).length) (by omega) (nI k) (u 4 k) none (fun v q => by cases q)) (cwV 4 hts (gV t_407 t_408 t_409 t_5 t_410) rfl rfl rfl (by decide +kernel) ⟨Nat.le_of_ble_eq_true rfl, Nat.le_of_ble_eq_true rfl⟩) (k_preV hP hK hD hnw 8 rfl rfl) rfl rfl hl.1 rfl (lv_room (Nat.le_of_ble_eq_true rfl)) d_T_listInto_29 hc0) hD hS hA (fun _ H locs hp29 hP hD hK hS => ?_)
          replace hP : va_P D CC (wC tk ad (mup (mup u 6 ((ol fm k).length) (nI k)) 7 ((ol fm k).length) (u 4 k)) (rup r 2 ((ol fm k).length) none) ++ tl) H := hP
          replace hD : va_D A (wC tk ad (mup (mup u 6 ((ol fm k).length) (nI k)) 7 ((ol fm k).length) (u 4 k)) (rup r 2 ((ol fm k).length) none) ++ tl) := hD
          refine lv_iinc (k := 2) (v := nI ((ol fm k).length + 1)) (lv' := [(2, .int (nI ((ol fm k).length + 1))), (0, .ref (ad 5)), (1, .ref (ad 8)), (3, .int (nI k))]) hx hb d_T_listInto_32 hl rfl (nI_add _ _) (by decide) rfl (fun ls hl => ?_)
          refine lv_iinc (k := 3) (v := nI (k + 1)) (lv' := [(3, .int (nI (k + 1))), (2, .int (nI ((ol fm k).length + 1))), (0, .ref (ad 5)), (1, .ref (ad 8))]) hx hb d_T_listInto_35 hl rfl (nI_add _ _) (by decide) rfl (fun ls hl => ?_)
          refine lv_goto hx hb d_T_listInto_38 (tgt := 4) (by decide) ?_
          rw [show (ol fm k).length + 1 = (ol fm (k + 1)).length by rw [ol_s hv9, List.length_append, List.length_singleton]] at hl
          exact ih4 (k + 1) (mup (mup u 6 ((ol fm k).length) (nI k)) 7 ((ol fm k).length) (u 4 k)) (rup r 2 ((ol fm k).length) none) ls _ _ (by omega) (by omega) (frx_2 (frx_2 hfr (by decide)) (by decide)) (frr_2 hrr (by decide)) (ls_step hls hv9 (hwv v9 hv9)) (lv_sub hl [2, 3, 1, 0] rfl) hP hD hS
  exact key4 _ 0 g rr ls _ _ (Nat.lt_succ_self _) (by decide) frx_r frr_r (⟨fun j x h => by simp [ol] at h, fun j h => by simp [ol] at h⟩) (lv_sub hl [2, 3, 1, 0] rfl) hP hD hS

theorem hs_take {l : Nat} {P : List kv_I} {k : Nat} {x : kv_I} (h : P[k]? = some x) : hs l (P.take (k + 1)) = mx (mx (hs l (P.take k)) (nI x.1)) x.2 := by
  rw [List.take_add_one, h]
  exact hs_snc l _ x

set_option maxHeartbeats 4000000 in
set_option maxRecDepth 100000 in
theorem c_R_hashOf (l : Launch) (D : va_G) (tk : Nat → ClassId) (sz : Nat) (ad : Nat → Nat) (g : Nat → Nat → Int32) (rr : Nat → Nat → Option Nat) (tl : va_W) (lv a0 : Nat) (P : List kv_I) (hP9 : a0 + P.length ≤ 48) (hrw : rwI g a0 P) : Met l y_R_hashOf w_R_hashOf ({ frames := 1, cells := 0, slots := 0, locals := 22 }) (va_Pc [.ref (ad 8), .int (nI lv), .int (nI a0), .int (nI (a0 + P.length))] (k_pre D (TY tk) sz (wC tk ad g rr ++ tl))) (va_Qi (fun (r : Int32) (_ : Unit) => r = hs lv P) (fun u t => k_at D (TY tk) (va_A (wC tk ad g rr ++ tl) sz) ((fun _ => wC tk ad g rr ++ tl) u) t) (va_A (wC tk ad g rr ++ tl) sz)) 0 0 (va_A (wC tk ad g rr ++ tl) sz) := by
  refine k_ofW (fun A => va_Qi (fun (r : Int32) (_ : Unit) => r = hs lv P) (fun u t => k_at D (TY tk) A ((fun _ => wC tk ad g rr ++ tl) u) t) A) (by decide) (Nat.le_of_ble_eq_true rfl) ?_
  intro p e s m args below meth c Q A ls hQ hx hb hr hlk hin hts hT hown hml hnw hP hK hD hA hsz hl
  have hS : va_S A s.heap s.heap [] := va_S.rf
  have hc0 : 0 + 0 ≤ 0 ∧ 0 + 0 ≤ 0 := ⟨by decide, by decide⟩
  replace hl : lv_has ls 6 [(0, .ref (ad 8)), (1, .int (nI lv)), (2, .int (nI a0)), (3, .int (nI (a0 + P.length)))] := hl
  replace hP : va_P D CC (wC tk ad g rr ++ tl) s.heap := hP
  replace hK : va_K D CC (TY tk) s := hK
  refine lv_bipush (v := nI 6) hx hb d_R_hashOf_0 (by decide) ?_
  refine lv_iload_n hx hb d_R_hashOf_2 rfl (lv_at hl 1 rfl) ?_
  refine k_calli (va_runSN (As := [.int (nI 6), .int (nI lv)]) (rest := []) ⟨hx, hb, hml, hown, hts⟩ (c_K_mix l D tk s.heap.size (nI 6) (nI lv) (wC tk ad g rr ++ tl)) ⟨(va_cnB 2 hts (gB t_424) rfl rfl rfl (hnw.1 _ _ _ _ n_434) (hT _ t_1) (by decide +kernel) ⟨Nat.le_of_ble_eq_true rfl, Nat.le_of_ble_eq_true rfl⟩), hT _ t_423, trivial⟩ (k_preS hP hK hD hnw) rfl rfl hl.1 rfl (lv_room (Nat.le_of_ble_eq_true rfl)) d_R_hashOf_3 hc0) hD hS hA (fun _ _ H locs hp3 hP hD hK hS => ?_)
  subst hp3
  replace hP : va_P D CC (wC tk ad g rr ++ tl) H := hP
  replace hD : va_D A (wC tk ad g rr ++ tl) := hD
  refine lv_istore (lv' := [(4, .int (mx (nI 6) (nI lv))), (0, .ref (ad 8)), (1, .int (nI lv)), (2, .int (nI a0)), (3, .int (nI (a0 + P.length)))]) hx hb d_R_hashOf_6 hl (by decide) rfl (fun ls hl => ?_)
  refine lv_iload_n hx hb d_R_hashOf_8 rfl (lv_at hl 3 rfl) ?_
  refine lv_istore (lv' := [(5, .int (nI a0)), (4, .int (mx (nI 6) (nI lv))), (0, .ref (ad 8)), (1, .int (nI lv)), (2, .int (nI a0)), (3, .int (nI (a0 + P.length)))]) hx hb d_R_hashOf_9 hl (by decide) rfl (fun ls hl => ?_)
  have key11 : ∀ (n11 : Nat) (k : Nat) (ls : Array Slot) (H : Heap) (locs : List Loc), P.length - k < n11 → (k ≤ P.length) → lv_has ls 6 [(0, .ref (ad 8)), (1, .int (nI lv)), (2, .int (nI a0)), (3, .int (nI (a0 + P.length))), (4, .int (hs lv (P.take k))), (5, .int (nI (a0 + k)))] → va_P D CC (wC tk ad g rr ++ tl) H → va_D A (wC tk ad g rr ++ tl) → va_S A s.heap H locs → W p l e ({ frames := 1, cells := 0, slots := 0, locals := 22 } : Room) s m args below meth c H locs 0 0 Q (F0 m 11 ls []) := by
    intro n11
    induction n11 with
    | zero => intro k ls H locs hn; exact absurd hn (Nat.not_lt_zero _)
    | succ n11 ih11 =>
      intro k ls H locs hn11 hk hl hP hD hS
      refine lv_iload hx hb d_R_hashOf_11 (lv_at hl 5 rfl) ?_
      refine lv_iload_n hx hb d_R_hashOf_13 rfl (lv_at hl 3 rfl) ?_
      refine st_icmp_ge hx hb (by omega) (by omega) d_R_hashOf_14 (tgt := 47) (by decide) (fun hc14 => ?_) (fun hc14 => ?_)
      · skip
        refine lv_iload hx hb d_R_hashOf_47 (lv_at hl 4 rfl) ?_
        exact k_iret (v := hs lv (P.take k)) hQ hx hb hr hlk hK hP hD hS () rfl (by rw [List.take_of_length_le (show P.length ≤ k by omega)]) d_R_hashOf_49
      · skip
        obtain ⟨x9, hx9⟩ := it_at (Y := P) (show k < P.length by omega)
        refine lv_iload hx hb d_R_hashOf_17 (lv_at hl 4 rfl) ?_
        refine lv_aload_n hx hb d_R_hashOf_19 rfl (lv_at hl 0 rfl) ?_
        refine gf_R_9 (v := .ref (ad 9)) hx hb hT hown hK hP 8 rfl rfl d_R_hashOf_20 ?_
        refine lv_iload hx hb d_R_hashOf_23 (lv_at hl 5 rfl) ?_
        refine st_iald hx hb hK hP 9 0 rfl rfl (by omega) (by decide) d_R_hashOf_25 ?_
        refine st_top (show g 6 (a0 + k) = nI x9.1 from (hrw k x9 hx9).1) ?_
        refine k_calli (va_runSN (As := [.int (hs lv (P.take k)), .int (nI x9.1)]) (rest := []) ⟨hx, hb, hml, hown, hts⟩ (c_K_mix l D tk H.size (hs lv (P.take k)) (nI x9.1) (wC tk ad g rr ++ tl)) ⟨(va_cnB 2 hts (gB t_424) rfl rfl rfl (hnw.1 _ _ _ _ n_434) (hT _ t_1) (by decide +kernel) ⟨Nat.le_of_ble_eq_true rfl, Nat.le_of_ble_eq_true rfl⟩), hT _ t_423, trivial⟩ (k_preS hP hK hD hnw) rfl rfl hl.1 rfl (lv_room (Nat.le_of_ble_eq_true rfl)) d_R_hashOf_26 hc0) hD hS hA (fun _ _ H locs hp26 hP hD hK hS => ?_)
        subst hp26
        replace hP : va_P D CC (wC tk ad g rr ++ tl) H := hP
        replace hD : va_D A (wC tk ad g rr ++ tl) := hD
        refine lv_aload_n hx hb d_R_hashOf_29 rfl (lv_at hl 0 rfl) ?_
        refine gf_R_15 (v := .ref (ad 10)) hx hb hT hown hK hP 8 rfl rfl d_R_hashOf_30 ?_
        refine lv_iload hx hb d_R_hashOf_33 (lv_at hl 5 rfl) ?_
        refine st_iald hx hb hK hP 10 0 rfl rfl (by omega) (by decide) d_R_hashOf_35 ?_
        refine st_top (show g 7 (a0 + k) = x9.2 from (hrw k x9 hx9).2) ?_
        refine k_calli (va_runSN (As := [.int (mx (hs lv (P.take k)) (nI x9.1)), .int x9.2]) (rest := []) ⟨hx, hb, hml, hown, hts⟩ (c_K_mix l D tk H.size (mx (hs lv (P.take k)) (nI x9.1)) x9.2 (wC tk ad g rr ++ tl)) ⟨(va_cnB 2 hts (gB t_424) rfl rfl rfl (hnw.1 _ _ _ _ n_434) (hT _ t_1) (by decide +kernel) ⟨Nat.le_of_ble_eq_true rfl, Nat.le_of_ble_eq_true rfl⟩), hT _ t_423, trivial⟩ (k_preS hP hK hD hnw) rfl rfl hl.1 rfl (lv_room (Nat.le_of_ble_eq_true rfl)) d_R_hashOf_36 hc0) hD hS hA (fun _ _ H locs hp36 hP hD hK hS => ?_)
        subst hp36
        replace hP : va_P D CC (wC tk ad g rr ++ tl) H := hP
        replace hD : va_D A (wC tk ad g rr ++ tl) := hD
        refine lv_istore (lv' := [(4, .int (mx (mx (hs lv (P.take k)) (nI x9.1)) x9.2)), (0, .ref (ad 8)), (1, .int (nI lv)), (2, .int (nI a0)), (3, .int (nI (a0 + P.length))), (5, .int (nI (a0 + k)))]) hx hb d_R_hashOf_39 hl (by decide) rfl (fun ls hl => ?_)
        refine lv_iinc (k := 5) (v := nI (a0 + k + 1)) (lv' := [(5, .int (nI (a0 + k + 1))), (4, .int (mx (mx (hs lv (P.take k)) (nI x9.1)) x9.2)), (0, .ref (ad 8)), (1, .int (nI lv)), (2, .int (nI a0)), (3, .int (nI (a0 + P.length)))]) hx hb d_R_hashOf_41 hl rfl (nI_add _ _) (by decide) rfl (fun ls hl => ?_)
        refine lv_goto hx hb d_R_hashOf_44 (tgt := 11) (by decide) ?_
        rw [← hs_take hx9] at hl
        exact ih11 (k + 1) ls _ _ (by omega) (by omega) (lv_sub hl [2, 3, 4, 5, 1, 0] rfl) hP hD hS
  exact key11 _ 0 ls _ _ (Nat.lt_succ_self _) (by omega) (lv_sub hl [2, 3, 4, 5, 1, 0] rfl) hP hD hS
