theorem hf_2 {q d : Nat} (h : 2 ≤ q) (h3 : q ≤ 16) (h2 : q ≤ 2 ^ (d + 1)) : hf q ≤ 2 ^ d ∧ q - hf q ≤ 2 ^ d := by
  have hb := hf_b (q := q) h h3
  have h5 : d = 0 ∨ d = 1 ∨ d = 2 ∨ 3 ≤ d := by omega
  rcases h5 with rfl | rfl | rfl | h5
  · have : q ≤ 2 := h2; have : 2 ^ 0 = 1 := rfl; omega
  · have : q ≤ 4 := h2; have : 2 ^ 1 = 2 := rfl; omega
  · have : q ≤ 8 := h2; have : 2 ^ 2 = 4 := rfl; omega
  · have : 2 ^ 3 ≤ 2 ^ d := Nat.pow_le_pow_right (by decide) h5
    omega
theorem ub_g (w : Int32) (j : BitVec 32) (hj : j.toNat ≤ 24) : ((w.toUInt32.toBitVec >>> j.toNat) &&& 255#32) = ((w.toBitVec.sshiftRight j.toNat) &&& 255#32) := by
  apply BitVec.eq_of_getLsbD_eq
  intro i hi
  rw [BitVec.getLsbD_and, BitVec.getLsbD_and]
  by_cases h8 : i < 8
  · rw [BitVec.getLsbD_ushiftRight, BitVec.getLsbD_sshiftRight]
    have h9 : j.toNat + i < 32 := by omega
    have e : w.toUInt32.toBitVec = w.toBitVec := rfl
    simp [h9, e, show ¬ 32 ≤ i by omega]
  · have e : (255#32).getLsbD i = false := by
      have : ∀ i, i < 32 → ¬ i < 8 → (255#32).getLsbD i = false := by decide
      exact this i hi h8
    rw [e, Bool.and_false, Bool.and_false]
theorem ub_0 (w : Int32) : (w.toUInt32 >>> ((nI (8 * 0)).toUInt32 &&& Int32.toUInt32 31)).toInt32 &&& nI 255 = (w >>> (nI (8 * 0) &&& 31)) &&& nI 255 := congrArg (fun b => Int32.ofUInt32 (UInt32.ofBitVec b)) (ub_g w 0#32 (by decide))
theorem ub_1 (w : Int32) : (w.toUInt32 >>> ((nI (8 * 1)).toUInt32 &&& Int32.toUInt32 31)).toInt32 &&& nI 255 = (w >>> (nI (8 * 1) &&& 31)) &&& nI 255 := congrArg (fun b => Int32.ofUInt32 (UInt32.ofBitVec b)) (ub_g w 8#32 (by decide))
theorem ub_2 (w : Int32) : (w.toUInt32 >>> ((nI (8 * 2)).toUInt32 &&& Int32.toUInt32 31)).toInt32 &&& nI 255 = (w >>> (nI (8 * 2) &&& 31)) &&& nI 255 := congrArg (fun b => Int32.ofUInt32 (UInt32.ofBitVec b)) (ub_g w 16#32 (by decide))
theorem ub_3 (w : Int32) : (w.toUInt32 >>> ((nI (8 * 3)).toUInt32 &&& Int32.toUInt32 31)).toInt32 &&& nI 255 = (w >>> (nI (8 * 3) &&& 31)) &&& nI 255 := congrArg (fun b => Int32.ofUInt32 (UInt32.ofBitVec b)) (ub_g w 24#32 (by decide))
theorem ub_z (w : Int32) : (w >>> (nI (8 * 0) &&& 31)) &&& nI 255 = w &&& nI 255 := by
  have e : w >>> (nI (8 * 0) &&& 31) = w := by
    apply Int32.toBitVec_inj.mp
    show w.toBitVec.sshiftRight 0 = w.toBitVec
    simp
  rw [e]

theorem sl_eq (f : Nat → Int32) (p q : Nat) (h1 : 1 ≤ q) (h2 : q ≤ 16) : slC f 4 p q = slM f p q := by
  have h : q = 1 ∨ q = 2 ∨ q = 3 ∨ q = 4 ∨ q = 5 ∨ q = 6 ∨ q = 7 ∨ q = 8 ∨ q = 9 ∨ q = 10 ∨ q = 11 ∨ q = 12 ∨ q = 13 ∨ q = 14 ∨ q = 15 ∨ q = 16 := by omega
  generalize hJ : jn = J
  generalize hL : lf = L
  rcases h with rfl | rfl | rfl | rfl | rfl | rfl | rfl | rfl | rfl | rfl | rfl | rfl | rfl | rfl | rfl | rfl <;>
    simp [slM, stS, cpF, slC, hf, Nat.add_assoc]
theorem sl_eqd (f : Nat → Int32) : ∀ (d p q : Nat), 1 ≤ q → q ≤ 2 ^ d → q ≤ 16 → slC f d p q = slC f (d + 1) p q := by
  intro d
  induction d with
  | zero =>
    intro p q h1 h2 _
    have : q = 1 := by have : 2 ^ 0 = 1 := rfl; omega
    subst this
    rfl
  | succ d ih =>
    intro p q h1 h2 h3
    rw [slC, slC]
    by_cases h : q < 2
    · rw [if_pos h, if_pos h]
    · rw [if_neg h, if_neg h]
      have hb := hf_b (q := q) (by omega) h3
      have h4 : hf q ≤ 2 ^ d ∧ q - hf q ≤ 2 ^ d := by
        have h5 : d = 0 ∨ d = 1 ∨ d = 2 ∨ 3 ≤ d := by omega
        rcases h5 with rfl | rfl | rfl | h5
        · have : q ≤ 2 := h2; have : 2 ^ 0 = 1 := rfl; omega
        · have : q ≤ 4 := h2; have : 2 ^ 1 = 2 := rfl; omega
        · have : q ≤ 8 := h2; have : 2 ^ 2 = 4 := rfl; omega
        · have : 2 ^ 3 ≤ 2 ^ d := Nat.pow_le_pow_right (by decide) h5
          omega
      rw [ih p (hf q) (by omega) h4.1 (by omega), ih (p + hf q) (q - hf q) (by omega) h4.2 (by omega)]
/-- the bytes of the class's prover -/
def prfC (u : Nat → Nat → Int32) (B : List Int32) : Prop := u 8 0 = nI B.length ∧ ∀ i x, B[i]? = some x → u 9 i = x
theorem ub_eq (w : Int32) (k : Nat) (hk : k < 4) : ub w k = (w >>> (nI (8 * k) &&& 31)) &&& nI 255 := by
  have h : k = 0 ∨ k = 1 ∨ k = 2 ∨ k = 3 := by omega
  unfold ub
  rcases h with rfl | rfl | rfl | rfl
  · exact ub_0 w
  · exact ub_1 w
  · exact ub_2 w
  · exact ub_3 w
theorem prfC_1 {u : Nat → Nat → Int32} {B : List Int32} (h : prfC u B) (x : Int32) : prfC (mup (mup u 9 B.length x) 8 0 (nI (B.length + 1))) (B ++ [x]) := by
  refine ⟨by rw [List.length_append]; exact rd_eq, fun i y hy => ?_⟩
  rw [mup_ne (show (9 : Nat) ≠ 8 by decide), mup_eq]
  unfold upd
  by_cases e : i = B.length
  · subst e
    rw [List.getElem?_append_right (Nat.le_refl _), Nat.sub_self] at hy
    rw [if_pos rfl]; exact Option.some.inj hy
  · rw [if_neg e]
    have hi : i < B.length := by
      have := (List.getElem?_eq_some_iff.mp hy).1
      rw [List.length_append, List.length_singleton] at this
      omega
    rw [List.getElem?_append_left hi] at hy
    exact h.2 i y hy
theorem prfC_b {u : Nat → Nat → Int32} {B : List Int32} (h : prfC u B) (w : Int32) : prfC (apC 8 9 u B.length w 1) (B ++ [w &&& nI 255]) := by
  have e : w &&& nI 255 = ub w 0 := by rw [ub_eq w 0 (by decide), ub_z]
  rw [e]
  exact prfC_1 h _
theorem prfC_i {u : Nat → Nat → Int32} {B : List Int32} (h : prfC u B) (w : Int32) : prfC (apC 8 9 u B.length w 4) (B ++ ib w) := by
  have e : ib w = [ub w 3, ub w 2, ub w 1, ub w 0] := by
    rw [ub_eq w 3 (by decide), ub_eq w 2 (by decide), ub_eq w 1 (by decide), ub_eq w 0 (by decide)]; rfl
  rw [e]
  have h1 := prfC_1 h (ub w 3)
  have h2 := prfC_1 h1 (ub w 2)
  have h3 := prfC_1 h2 (ub w 1)
  have h4 := prfC_1 h3 (ub w 0)
  simp only [List.append_assoc, List.length_append, List.length_singleton, List.length_cons, List.length_nil, List.cons_append, List.nil_append] at h4
  exact h4
theorem apC_fr (s0 c0 : Nat) (g : Nat → Nat → Int32) (w : Int32) : ∀ (k n : Nat) (u : Nat → Nat → Int32), frx [s0, c0] g u → frx [s0, c0] g (apC s0 c0 u n w k) := by
  intro k
  induction k with
  | zero => intro n u h; exact h
  | succ k ih => intro n u h; exact ih (n + 1) _ (frx_2 (frx_2 h (by simp)) (by simp))
/-- the seals beside a way, in the class's order -/
theorem bi_wy {f : Nat → Int32} {d p q v : Nat} (h : ¬ q ≤ 1) : bi f (wyL (d + 1) p q v) = if v < p + hf q then bi f (wyL d p (hf q) v) ++ ib (slM f (p + hf q) (q - hf q)) else bi f (wyL d (p + hf q) (q - hf q) v) ++ ib (slM f p (hf q)) := by
  by_cases h2 : v < p + hf q
  · rw [if_pos h2, wyL_l h h2, bi_cons]
  · rw [if_neg h2, wyL_r h h2, bi_cons]
theorem wy_f : ∀ (d p q v : Nat), q ≤ 2 ^ d → q ≤ 16 → wyL (d + 1) p q v = wyL (d + 2) p q v := by
  intro d
  induction d with
  | zero =>
    intro p q v h _
    have : 2 ^ 0 = 1 := rfl
    rw [wyL_0 (by omega), wyL_0 (by omega)]
  | succ d ih =>
    intro p q v h h3
    by_cases hq : q ≤ 1
    · rw [wyL_0 hq, wyL_0 hq]
    · have hb := hf_b (q := q) (by omega) h3
      have h4 := hf_2 (by omega) h3 h
      by_cases hv : v < p + hf q
      · rw [wyL_l hq hv, wyL_l hq hv, ih p _ v h4.1 (by omega)]
      · rw [wyL_r hq hv, wyL_r hq hv, ih _ _ v h4.2 (by omega)]

set_option maxHeartbeats 4000000 in
set_option maxRecDepth 100000 in
theorem c_B_appendByte (l : Launch) (D : va_G) (tk : Nat → ClassId) (sz : Nat) (ad : Nat → Nat) (g : Nat → Nat → Int32) (rr : Nat → Nat → Option Nat) (tl : va_W) (B : List Int32) (hB : prfC g B) (hn : B.length + 1 ≤ 400) (w : Int32) : Met l y_B_appendByte w_B_appendByte ({ frames := 1, cells := 0, slots := 0, locals := 23 }) (va_Pc [.ref (ad 13), .int w] (k_pre D (TY tk) sz (wC tk ad g rr ++ tl))) (va_Qv (fun (_ : Unit) => True) (fun u t => k_at D (TY tk) (va_A (wC tk ad g rr ++ tl) sz) ((fun _ => wC tk ad (apC 8 9 g B.length w 1) rr ++ tl) u) t) (va_A (wC tk ad g rr ++ tl) sz)) 0 0 (va_A (wC tk ad g rr ++ tl) sz) := by
  refine k_ofW (fun A => va_Qv (fun (_ : Unit) => True) (fun u t => k_at D (TY tk) A ((fun _ => wC tk ad (apC 8 9 g B.length w 1) rr ++ tl) u) t) A) (by decide) (Nat.le_of_ble_eq_true rfl) ?_
  intro p e s m args below meth c Q A ls hQ hx hb hr hlk hin hts hT hown hml hnw hP hK hD hA hsz hl
  have hS : va_S A s.heap s.heap [] := va_S.rf
  have hc0 : 0 + 0 ≤ 0 ∧ 0 + 0 ≤ 0 := ⟨by decide, by decide⟩
  replace hl : lv_has ls 2 [(0, .ref (ad 13)), (1, .int w)] := hl
  replace hP : va_P D CC (wC tk ad g rr ++ tl) s.heap := hP
  replace hK : va_K D CC (TY tk) s := hK
  refine lv_aload_n hx hb d_B_appendByte_0 rfl (lv_at hl 0 rfl) ?_
  refine lv_iload_n hx hb d_B_appendByte_1 rfl (lv_at hl 1 rfl) ?_
  refine lv_iconst (v := nI 1) hx hb d_B_appendByte_2 (by decide) ?_
  refine k_callv (va_runV (As := [.int w, .int (nI 1)]) (rest := []) ⟨hx, hb, hml, hown, hts⟩ (c_B_appendP1 l D tk s.heap.size ad g rr tl B.length (by omega) hB.1 w) (cwV 2 hts (gV t_834 t_256 t_257 t_7 t_258) rfl rfl rfl (by decide +kernel) ⟨Nat.le_of_ble_eq_true rfl, Nat.le_of_ble_eq_true rfl⟩) (k_preV hP hK hD hnw 13 rfl rfl) rfl rfl hl.1 rfl (lv_room (Nat.le_of_ble_eq_true rfl)) d_B_appendByte_3 hc0) hD hS hA (fun _ H locs hp3 hP hD hK hS => ?_)
  replace hP : va_P D CC (wC tk ad (apC 8 9 g B.length w 1) rr ++ tl) H := hP
  replace hD : va_D A (wC tk ad (apC 8 9 g B.length w 1) rr ++ tl) := hD
  exact k_vret hQ hx hb hr hlk hK hP hD hS () rfl trivial d_B_appendByte_6

set_option maxHeartbeats 4000000 in
set_option maxRecDepth 100000 in
theorem c_B_appendInt (l : Launch) (D : va_G) (tk : Nat → ClassId) (sz : Nat) (ad : Nat → Nat) (g : Nat → Nat → Int32) (rr : Nat → Nat → Option Nat) (tl : va_W) (B : List Int32) (hB : prfC g B) (hn : B.length + 4 ≤ 400) (w : Int32) : Met l y_B_appendInt w_B_appendInt ({ frames := 1, cells := 0, slots := 0, locals := 23 }) (va_Pc [.ref (ad 13), .int w] (k_pre D (TY tk) sz (wC tk ad g rr ++ tl))) (va_Qv (fun (_ : Unit) => True) (fun u t => k_at D (TY tk) (va_A (wC tk ad g rr ++ tl) sz) ((fun _ => wC tk ad (apC 8 9 g B.length w 4) rr ++ tl) u) t) (va_A (wC tk ad g rr ++ tl) sz)) 0 0 (va_A (wC tk ad g rr ++ tl) sz) := by
  refine k_ofW (fun A => va_Qv (fun (_ : Unit) => True) (fun u t => k_at D (TY tk) A ((fun _ => wC tk ad (apC 8 9 g B.length w 4) rr ++ tl) u) t) A) (by decide) (Nat.le_of_ble_eq_true rfl) ?_
  intro p e s m args below meth c Q A ls hQ hx hb hr hlk hin hts hT hown hml hnw hP hK hD hA hsz hl
  have hS : va_S A s.heap s.heap [] := va_S.rf
  have hc0 : 0 + 0 ≤ 0 ∧ 0 + 0 ≤ 0 := ⟨by decide, by decide⟩
  replace hl : lv_has ls 2 [(0, .ref (ad 13)), (1, .int w)] := hl
  replace hP : va_P D CC (wC tk ad g rr ++ tl) s.heap := hP
  replace hK : va_K D CC (TY tk) s := hK
  refine lv_aload_n hx hb d_B_appendInt_0 rfl (lv_at hl 0 rfl) ?_
  refine lv_iload_n hx hb d_B_appendInt_1 rfl (lv_at hl 1 rfl) ?_
  refine lv_iconst (v := nI 4) hx hb d_B_appendInt_2 (by decide) ?_
  refine k_callv (va_runV (As := [.int w, .int (nI 4)]) (rest := []) ⟨hx, hb, hml, hown, hts⟩ (c_B_appendP4 l D tk s.heap.size ad g rr tl B.length (by omega) hB.1 w) (cwV 2 hts (gV t_834 t_256 t_257 t_7 t_258) rfl rfl rfl (by decide +kernel) ⟨Nat.le_of_ble_eq_true rfl, Nat.le_of_ble_eq_true rfl⟩) (k_preV hP hK hD hnw 13 rfl rfl) rfl rfl hl.1 rfl (lv_room (Nat.le_of_ble_eq_true rfl)) d_B_appendInt_3 hc0) hD hS hA (fun _ H locs hp3 hP hD hK hS => ?_)
  replace hP : va_P D CC (wC tk ad (apC 8 9 g B.length w 4) rr ++ tl) H := hP
  replace hD : va_D A (wC tk ad (apC 8 9 g B.length w 4) rr ++ tl) := hD
  exact k_vret hQ hx hb hr hlk hK hP hD hS () rfl trivial d_B_appendInt_6

theorem ckL_app (a : List kv_I) (x : kv_I) : ckL (a ++ [x]) = ckL a ++ ([nI x.1 &&& nI 255] ++ ib x.2) := by
  induction a with
  | nil => simp [ckL]
  | cons y r ih => rw [List.cons_append, ckL, ih, ckL, List.append_assoc]
theorem ckL_take {Y : List kv_I} {k : Nat} {x : kv_I} (h : Y[k]? = some x) : ckL (Y.take (k + 1)) = ckL (Y.take k) ++ ([nI x.1 &&& nI 255] ++ ib x.2) := by
  rw [← ckL_app, List.take_add_one, h]; rfl
theorem ckL_tk {Y : List kv_I} {k : Nat} (h : k ≤ Y.length) : (ckL (Y.take k)).length = 5 * k := by rw [ckL_len, List.length_take, Nat.min_eq_left h]
theorem ckL_tl (Y : List kv_I) (k : Nat) : (ckL (Y.take k)).length ≤ 5 * Y.length := by
  rw [ckL_len, List.length_take]; omega

set_option maxHeartbeats 4000000 in
set_option maxRecDepth 100000 in
theorem c_P_addChunk (l : Launch) (D : va_G) (tk : Nat → ClassId) (sz : Nat) (ad : Nat → Nat) (g : Nat → Nat → Int32) (rr : Nat → Nat → Option Nat) (tl : va_W) (a lv : Nat) (Y : List kv_I) (b : Nat → Option Nat) (o : Option Nat) (hc : cAt tk tl a lv Y b o) (hYl : Y.length ≤ 48) (hYk : ∀ x ∈ Y, x.1 < 48) (B : List Int32) (hB : prfC g B) (hn : B.length + (1 + 5 * Y.length) ≤ 400) : Met l y_P_addChunk w_P_addChunk ({ frames := 2, cells := 0, slots := 0, locals := 44 }) (va_Pc [.ref (ad 12), .ref a] (k_pre D (TY tk) sz (wC tk ad g rr ++ tl))) (va_Qv (fun (u : Nat → Nat → Int32) => frx [8, 9] g u ∧ prfC u (B ++ ([nI Y.length &&& nI 255] ++ ckL Y))) (fun u t => k_at D (TY tk) (va_A (wC tk ad g rr ++ tl) sz) ((fun u => wC tk ad u rr ++ tl) u) t) (va_A (wC tk ad g rr ++ tl) sz)) 0 0 (va_A (wC tk ad g rr ++ tl) sz) := by
  refine k_ofW (fun A => va_Qv (fun (u : Nat → Nat → Int32) => frx [8, 9] g u ∧ prfC u (B ++ ([nI Y.length &&& nI 255] ++ ckL Y))) (fun u t => k_at D (TY tk) A ((fun u => wC tk ad u rr ++ tl) u) t) A) (by decide) (Nat.le_of_ble_eq_true rfl) ?_
  intro p e s m args below meth c Q A ls hQ hx hb hr hlk hin hts hT hown hml hnw hP hK hD hA hsz hl
  have hS : va_S A s.heap s.heap [] := va_S.rf
  have hc0 : 0 + 0 ≤ 0 ∧ 0 + 0 ≤ 0 := ⟨by decide, by decide⟩
  replace hl : lv_has ls 3 [(0, .ref (ad 12)), (1, .ref a)] := hl
  replace hP : va_P D CC (wC tk ad g rr ++ tl) s.heap := hP
  replace hK : va_K D CC (TY tk) s := hK
  obtain ⟨q, ka, va, ba, fk, fv, h1, h2, h3, h4, h5⟩ := hc
  refine lv_aload_n hx hb d_P_addChunk_0 rfl (lv_at hl 0 rfl) ?_
  refine gf_P_10 (v := .ref (ad 13)) hx hb hT hown hK hP 12 rfl rfl d_P_addChunk_1 ?_
  refine lv_aload_n hx hb d_P_addChunk_4 rfl (lv_at hl 1 rfl) ?_
  refine gf_P_66 (v := .ref ka) hx hb hT hown hK hP (q + 18) ((wC_tl tk ad g rr tl q).trans h1) rfl d_P_addChunk_5 ?_
  refine va_alen (v := nI Y.length) hx hb hK hP ((q + 1) + 18) 0 ((wC_tl tk ad g rr tl (q + 1)).trans h2) rfl rfl d_P_addChunk_8 ?_
  refine k_callv (va_runV (As := [.int (nI Y.length)]) (rest := []) ⟨hx, hb, hml, hown, hts⟩ (c_B_appendByte l D tk s.heap.size ad g rr tl B hB (by omega) (nI Y.length)) (cwV 1 hts (gV t_830 t_831 t_832 t_7 t_833) rfl rfl rfl (by decide +kernel) ⟨Nat.le_of_ble_eq_true rfl, Nat.le_of_ble_eq_true rfl⟩) (k_preV hP hK hD hnw 13 rfl rfl) rfl rfl hl.1 rfl (lv_room (Nat.le_of_ble_eq_true rfl)) d_P_addChunk_9 hc0) hD hS hA (fun _ H locs hp9 hP hD hK hS => ?_)
  replace hP : va_P D CC (wC tk ad (apC 8 9 g B.length (nI Y.length) 1) rr ++ tl) H := hP
  replace hD : va_D A (wC tk ad (apC 8 9 g B.length (nI Y.length) 1) rr ++ tl) := hD
  have hB1 : prfC (apC 8 9 g B.length (nI Y.length) 1) (B ++ [(nI Y.length) &&& nI 255]) := prfC_b hB (nI Y.length)
  have hF1 : frx [8, 9] g (apC 8 9 g B.length (nI Y.length) 1) := apC_fr 8 9 g _ _ _ _ frx_r
  generalize (apC 8 9 g B.length (nI Y.length) 1) = u1 at hP hD hB1 hF1
  replace hP : va_P D CC (wC tk ad u1 rr ++ tl) H := hP
  replace hD : va_D A (wC tk ad u1 rr ++ tl) := hD
  refine lv_iconst (v := nI 0) hx hb d_P_addChunk_12 (by decide) ?_
  refine lv_istore_n (lv' := [(2, .int (nI 0)), (0, .ref (ad 12)), (1, .ref a)]) hx hb d_P_addChunk_13 rfl hl (by decide) rfl (fun ls hl => ?_)
  have key14 : ∀ (n14 : Nat) (i9 : Nat) (u : Nat → Nat → Int32) (ls : Array Slot) (H : Heap) (locs : List Loc), Y.length - i9 < n14 → (i9 ≤ Y.length) → (frx [8, 9] g u) → (prfC u (B ++ ([nI Y.length &&& nI 255] ++ ckL (Y.take i9)))) → lv_has ls 3 [(0, .ref (ad 12)), (1, .ref a), (2, .int (nI i9))] → va_P D CC (wC tk ad u rr ++ tl) H → va_D A (wC tk ad u rr ++ tl) → va_S A s.heap H locs → W p l e ({ frames := 2, cells := 0, slots := 0, locals := 44 } : Room) s m args below meth c H locs 0 0 Q (F0 m 14 ls []) := by
    intro n14
    induction n14 with
    | zero => intro i9 u ls H locs hn; exact absurd hn (Nat.not_lt_zero _)
    | succ n14 ih14 =>
      intro i9 u ls H locs hn14 hi9 hFi hBi hl hP hD hS
      refine lv_iload_n hx hb d_P_addChunk_14 rfl (lv_at hl 2 rfl) ?_
      refine lv_aload_n hx hb d_P_addChunk_15 rfl (lv_at hl 1 rfl) ?_
      refine gf_P_66 (v := .ref ka) hx hb hT hown hK hP (q + 18) ((wC_tl tk ad u rr tl q).trans h1) rfl d_P_addChunk_16 ?_
      refine va_alen (v := nI Y.length) hx hb hK hP ((q + 1) + 18) 0 ((wC_tl tk ad u rr tl (q + 1)).trans h2) rfl rfl d_P_addChunk_19 ?_
      refine st_icmp_ge hx hb (by omega) (by omega) d_P_addChunk_20 (tgt := 55) (by decide) (fun hc20 => ?_) (fun hc20 => ?_)
      · skip
        exact k_vret hQ hx hb hr hlk hK hP hD hS u rfl (⟨hFi, by rw [List.take_of_length_le (show Y.length ≤ i9 by omega)] at hBi; exact hBi⟩) d_P_addChunk_55
      · skip
        refine lv_aload_n hx hb d_P_addChunk_23 rfl (lv_at hl 0 rfl) ?_
        refine gf_P_10 (v := .ref (ad 13)) hx hb hT hown hK hP 12 rfl rfl d_P_addChunk_24 ?_
        refine lv_aload_n hx hb d_P_addChunk_27 rfl (lv_at hl 1 rfl) ?_
        refine gf_P_66 (v := .ref ka) hx hb hT hown hK hP (q + 18) ((wC_tl tk ad u rr tl q).trans h1) rfl d_P_addChunk_28 ?_
        refine lv_iload_n hx hb d_P_addChunk_31 rfl (lv_at hl 2 rfl) ?_
        refine st_iald hx hb hK hP ((q + 1) + 18) 0 ((wC_tl tk ad u rr tl (q + 1)).trans h2) rfl (by omega) (by omega) d_P_addChunk_32 ?_
        obtain ⟨x9, hx9⟩ := it_at (Y := Y) (show i9 < Y.length by omega)
        have hx8 : x9.1 < 48 := hYk _ (List.mem_of_getElem? hx9)
        refine st_top (show fk i9 = nI x9.1 from (h5 i9 x9 hx9).1) ?_
        refine k_callv (va_runV (As := [.int (nI x9.1)]) (rest := []) ⟨hx, hb, hml, hown, hts⟩ (c_B_appendByte l D tk H.size ad u rr tl (B ++ ([nI Y.length &&& nI 255] ++ ckL (Y.take i9))) hBi (by have hq := ckL_tk hi9; simp only [List.length_append, List.length_singleton, List.length_cons, List.length_nil, ib_len]; omega) (nI x9.1)) (cwV 1 hts (gV t_830 t_831 t_832 t_7 t_833) rfl rfl rfl (by decide +kernel) ⟨Nat.le_of_ble_eq_true rfl, Nat.le_of_ble_eq_true rfl⟩) (k_preV hP hK hD hnw 13 rfl rfl) rfl rfl hl.1 rfl (lv_room (Nat.le_of_ble_eq_true rfl)) d_P_addChunk_33 hc0) hD hS hA (fun _ H locs hp33 hP hD hK hS => ?_)
        replace hP : va_P D CC (wC tk ad (apC 8 9 u (B ++ ([nI Y.length &&& nI 255] ++ ckL (Y.take i9))).length (nI x9.1) 1) rr ++ tl) H := hP
        replace hD : va_D A (wC tk ad (apC 8 9 u (B ++ ([nI Y.length &&& nI 255] ++ ckL (Y.take i9))).length (nI x9.1) 1) rr ++ tl) := hD
        have hB2 : prfC (apC 8 9 u (B ++ ([nI Y.length &&& nI 255] ++ ckL (Y.take i9))).length (nI x9.1) 1) ((B ++ ([nI Y.length &&& nI 255] ++ ckL (Y.take i9))) ++ [(nI x9.1) &&& nI 255]) := prfC_b hBi (nI x9.1)
        have hF2 : frx [8, 9] g (apC 8 9 u (B ++ ([nI Y.length &&& nI 255] ++ ckL (Y.take i9))).length (nI x9.1) 1) := apC_fr 8 9 g _ _ _ _ hFi
        generalize (apC 8 9 u (B ++ ([nI Y.length &&& nI 255] ++ ckL (Y.take i9))).length (nI x9.1) 1) = u2 at hP hD hB2 hF2
        replace hP : va_P D CC (wC tk ad u2 rr ++ tl) H := hP
        replace hD : va_D A (wC tk ad u2 rr ++ tl) := hD
        refine lv_aload_n hx hb d_P_addChunk_36 rfl (lv_at hl 0 rfl) ?_
        refine gf_P_10 (v := .ref (ad 13)) hx hb hT hown hK hP 12 rfl rfl d_P_addChunk_37 ?_
        refine lv_aload_n hx hb d_P_addChunk_40 rfl (lv_at hl 1 rfl) ?_
        refine gf_P_70 (v := .ref va) hx hb hT hown hK hP (q + 18) ((wC_tl tk ad u2 rr tl q).trans h1) rfl d_P_addChunk_41 ?_
        refine lv_iload_n hx hb d_P_addChunk_44 rfl (lv_at hl 2 rfl) ?_
        refine st_iald hx hb hK hP ((q + 2) + 18) 0 ((wC_tl tk ad u2 rr tl (q + 2)).trans h3) rfl (by omega) (by omega) d_P_addChunk_45 ?_
        refine st_top (show fv i9 = x9.2 from (h5 i9 x9 hx9).2) ?_
        refine k_callv (va_runV (As := [.int x9.2]) (rest := []) ⟨hx, hb, hml, hown, hts⟩ (c_B_appendInt l D tk H.size ad u2 rr tl ((B ++ ([nI Y.length &&& nI 255] ++ ckL (Y.take i9))) ++ [(nI x9.1) &&& nI 255]) hB2 (by have hq := ckL_tk hi9; simp only [List.length_append, List.length_singleton, List.length_cons, List.length_nil, ib_len]; omega) x9.2) (cwV 1 hts (gV t_841 t_842 t_843 t_7 t_844) rfl rfl rfl (by decide +kernel) ⟨Nat.le_of_ble_eq_true rfl, Nat.le_of_ble_eq_true rfl⟩) (k_preV hP hK hD hnw 13 rfl rfl) rfl rfl hl.1 rfl (lv_room (Nat.le_of_ble_eq_true rfl)) d_P_addChunk_46 hc0) hD hS hA (fun _ H locs hp46 hP hD hK hS => ?_)
        replace hP : va_P D CC (wC tk ad (apC 8 9 u2 ((B ++ ([nI Y.length &&& nI 255] ++ ckL (Y.take i9))) ++ [(nI x9.1) &&& nI 255]).length x9.2 4) rr ++ tl) H := hP
        replace hD : va_D A (wC tk ad (apC 8 9 u2 ((B ++ ([nI Y.length &&& nI 255] ++ ckL (Y.take i9))) ++ [(nI x9.1) &&& nI 255]).length x9.2 4) rr ++ tl) := hD
        have hB3 : prfC (apC 8 9 u2 ((B ++ ([nI Y.length &&& nI 255] ++ ckL (Y.take i9))) ++ [(nI x9.1) &&& nI 255]).length x9.2 4) (((B ++ ([nI Y.length &&& nI 255] ++ ckL (Y.take i9))) ++ [(nI x9.1) &&& nI 255]) ++ ib x9.2) := prfC_i hB2 x9.2
        have hF3 : frx [8, 9] g (apC 8 9 u2 ((B ++ ([nI Y.length &&& nI 255] ++ ckL (Y.take i9))) ++ [(nI x9.1) &&& nI 255]).length x9.2 4) := apC_fr 8 9 g _ _ _ _ hF2
        generalize (apC 8 9 u2 ((B ++ ([nI Y.length &&& nI 255] ++ ckL (Y.take i9))) ++ [(nI x9.1) &&& nI 255]).length x9.2 4) = u3 at hP hD hB3 hF3
        replace hP : va_P D CC (wC tk ad u3 rr ++ tl) H := hP
        replace hD : va_D A (wC tk ad u3 rr ++ tl) := hD
        refine lv_iinc (k := 2) (v := nI (i9 + 1)) (lv' := [(2, .int (nI (i9 + 1))), (0, .ref (ad 12)), (1, .ref a)]) hx hb d_P_addChunk_49 hl rfl (nI_add _ _) (by decide) rfl (fun ls hl => ?_)
        refine lv_goto hx hb d_P_addChunk_52 (tgt := 14) (by decide) ?_
        exact ih14 (i9 + 1) u3 ls _ _ (by omega) (by omega) hF3 (by rw [ckL_take hx9]; simpa only [List.append_assoc] using hB3) (lv_sub hl [1, 2, 0] rfl) hP hD hS
  exact key14 _ 0 u1 ls _ _ (Nat.lt_succ_self _) (Nat.zero_le _) hF1 (by rw [List.take_zero]; exact hB1) (lv_sub hl [1, 2, 0] rfl) hP hD hS
