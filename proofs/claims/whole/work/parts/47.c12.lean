def y_A_copyOfRangeInt : MethodName := ⟨"java/util/Arrays", "copyOfRangeInt", "([III)[I"⟩
def w_A_copyOfRangeInt : List Cond := Cond.code y_A_copyOfRangeInt prog_26_method_137_code 5 (some (.array .int)) :: TT
theorem d_A_copyOfRangeInt_0 : decode prog_26_method_137_code 0 = .ok (.iload_n 1, 1) := by decide +kernel
theorem d_A_copyOfRangeInt_1 : decode prog_26_method_137_code 1 = .ok (.iload_n 2, 1) := by decide +kernel
theorem d_A_copyOfRangeInt_2 : decode prog_26_method_137_code 2 = .ok (.invokestatic 343, 3) := by decide +kernel
theorem d_A_copyOfRangeInt_5 : decode prog_26_method_137_code 5 = .ok (.iload_n 2, 1) := by decide +kernel
theorem d_A_copyOfRangeInt_6 : decode prog_26_method_137_code 6 = .ok (.iload_n 1, 1) := by decide +kernel
theorem d_A_copyOfRangeInt_7 : decode prog_26_method_137_code 7 = .ok (.isub, 1) := by decide +kernel
theorem d_A_copyOfRangeInt_8 : decode prog_26_method_137_code 8 = .ok (.istore_n 3, 1) := by decide +kernel
theorem d_A_copyOfRangeInt_9 : decode prog_26_method_137_code 9 = .ok (.iload_n 3, 1) := by decide +kernel
theorem d_A_copyOfRangeInt_10 : decode prog_26_method_137_code 10 = .ok (.newarray .int, 2) := by decide +kernel
theorem d_A_copyOfRangeInt_12 : decode prog_26_method_137_code 12 = .ok (.astore 4, 2) := by decide +kernel
theorem d_A_copyOfRangeInt_14 : decode prog_26_method_137_code 14 = .ok (.aload_n 0, 1) := by decide +kernel
theorem d_A_copyOfRangeInt_15 : decode prog_26_method_137_code 15 = .ok (.iload_n 1, 1) := by decide +kernel
theorem d_A_copyOfRangeInt_16 : decode prog_26_method_137_code 16 = .ok (.aload 4, 2) := by decide +kernel
theorem d_A_copyOfRangeInt_18 : decode prog_26_method_137_code 18 = .ok (.iconst 0, 1) := by decide +kernel
theorem d_A_copyOfRangeInt_19 : decode prog_26_method_137_code 19 = .ok (.aload_n 0, 1) := by decide +kernel
theorem d_A_copyOfRangeInt_20 : decode prog_26_method_137_code 20 = .ok (.arraylength, 1) := by decide +kernel
theorem d_A_copyOfRangeInt_21 : decode prog_26_method_137_code 21 = .ok (.iload_n 1, 1) := by decide +kernel
theorem d_A_copyOfRangeInt_22 : decode prog_26_method_137_code 22 = .ok (.isub, 1) := by decide +kernel
theorem d_A_copyOfRangeInt_23 : decode prog_26_method_137_code 23 = .ok (.iload_n 3, 1) := by decide +kernel
theorem d_A_copyOfRangeInt_24 : decode prog_26_method_137_code 24 = .ok (.invokestatic 304, 3) := by decide +kernel
theorem d_A_copyOfRangeInt_27 : decode prog_26_method_137_code 27 = .ok (.invokestatic 150, 3) := by decide +kernel
theorem d_A_copyOfRangeInt_30 : decode prog_26_method_137_code 30 = .ok (.aload 4, 2) := by decide +kernel
theorem d_A_copyOfRangeInt_32 : decode prog_26_method_137_code 32 = .ok (.areturn, 1) := by decide +kernel
def y_A_checkLength : MethodName := ⟨"java/util/Arrays", "checkLength", "(II)V"⟩
def w_A_checkLength : List Cond := Cond.code y_A_checkLength prog_26_method_131_code 2 none :: TT
theorem d_A_checkLength_0 : decode prog_26_method_131_code 0 = .ok (.iload_n 1, 1) := by decide +kernel
theorem d_A_checkLength_1 : decode prog_26_method_131_code 1 = .ok (.iload_n 0, 1) := by decide +kernel
theorem d_A_checkLength_2 : decode prog_26_method_131_code 2 = .ok (.if_icmp .ge 35, 3) := by decide +kernel
theorem d_A_checkLength_37 : decode prog_26_method_131_code 37 = .ok (.return_, 1) := by decide +kernel
/-- what matches compares -/
def mtP (Y P : List kv_I) (b r : Nat → Option Nat) (a0 : Nat) : Prop := Y = P ∧ ∀ j, j < P.length → b j = r (a0 + j)
theorem mt_y {Y P : List kv_I} {b r : Nat → Option Nat} {a0 k : Nat} (hl : Y.length = P.length) (hk : P.length ≤ k) (h : ∀ j, j < k → Y[j]? = P[j]? ∧ b j = r (a0 + j)) : mtP Y P b r a0 := by
  refine ⟨List.ext_getElem? (fun j => ?_), fun j hj => (h j (by omega)).2⟩
  by_cases hj : j < k
  · exact (h j hj).1
  · rw [List.getElem?_eq_none (by omega), List.getElem?_eq_none (by omega)]
theorem mt_go {Y P : List kv_I} {b r : Nat → Option Nat} {a0 k : Nat} {x y : kv_I} (hx : P[k]? = some x) (hy : Y[k]? = some y) (h1 : y.1 = x.1) (h2 : y.2 = x.2) (h3 : b k = r (a0 + k)) (h : ∀ j, j < k → Y[j]? = P[j]? ∧ b j = r (a0 + j)) : ∀ j, j < k + 1 → Y[j]? = P[j]? ∧ b j = r (a0 + j) := by
  intro j hj
  by_cases e : j = k
  · subst e
    exact ⟨by rw [hx, hy, Prod.ext h1 h2], h3⟩
  · exact h j (by omega)
theorem mt_x {Y P : List kv_I} {b r : Nat → Option Nat} {a0 k : Nat} {x y : kv_I} (hx : P[k]? = some x) (hy : Y[k]? = some y) (h : y.1 ≠ x.1 ∨ y.2 ≠ x.2) : ¬ mtP Y P b r a0 := by
  rintro ⟨rfl, _⟩
  rw [hx] at hy
  have : x = y := Option.some.inj hy
  subst this
  rcases h with h | h <;> exact h rfl

set_option maxHeartbeats 4000000 in
set_option maxRecDepth 100000 in
theorem c_R_matches (l : Launch) (D : va_G) (tk : Nat → ClassId) (sz : Nat) (ad : Nat → Nat) (g : Nat → Nat → Int32) (rr : Nat → Nat → Option Nat) (tl : va_W) (a lv : Nat) (Y : List kv_I) (b : Nat → Option Nat) (o : Option Nat) (hc : cAt tk tl a lv Y b o) (hYl : Y.length ≤ 48) (hYk : ∀ x ∈ Y, x.1 < 48) (a0 : Nat) (P : List kv_I) (hP9 : a0 + P.length ≤ 48) (hPk : ∀ x ∈ P, x.1 < 48) (hrw : rwI g a0 P) : Met l y_R_matches w_R_matches ({ frames := 0, cells := 0, slots := 0, locals := 0 }) (va_Pc [.ref (ad 8), .ref a, .int (nI a0), .int (nI (a0 + P.length))] (k_pre D (TY tk) sz (wC tk ad g rr ++ tl))) (va_Qi (fun (r : Int32) (_ : Unit) => (r = nI 1 ∧ mtP Y P b (rr 2) a0) ∨ (r = nI 0 ∧ ¬ mtP Y P b (rr 2) a0)) (fun u t => k_at D (TY tk) (va_A (wC tk ad g rr ++ tl) sz) ((fun _ => wC tk ad g rr ++ tl) u) t) (va_A (wC tk ad g rr ++ tl) sz)) 0 0 (va_A (wC tk ad g rr ++ tl) sz) := by
  refine k_ofW (fun A => va_Qi (fun (r : Int32) (_ : Unit) => (r = nI 1 ∧ mtP Y P b (rr 2) a0) ∨ (r = nI 0 ∧ ¬ mtP Y P b (rr 2) a0)) (fun u t => k_at D (TY tk) A ((fun _ => wC tk ad g rr ++ tl) u) t) A) (by decide) (Nat.le_of_ble_eq_true rfl) ?_
  intro p e s m args below meth c Q A ls hQ hx hb hr hlk hin hts hT hown hml hnw hP hK hD hA hsz hl
  have hS : va_S A s.heap s.heap [] := va_S.rf
  have hc0 : 0 + 0 ≤ 0 ∧ 0 + 0 ≤ 0 := ⟨by decide, by decide⟩
  replace hl : lv_has ls 6 [(0, .ref (ad 8)), (1, .ref a), (2, .int (nI a0)), (3, .int (nI (a0 + P.length)))] := hl
  replace hP : va_P D CC (wC tk ad g rr ++ tl) s.heap := hP
  replace hK : va_K D CC (TY tk) s := hK
  obtain ⟨q, ka, va, ba, fk, fv, h1, h2, h3, h4, h5⟩ := hc
  refine lv_aload_n hx hb d_R_matches_0 rfl (lv_at hl 1 rfl) ?_
  refine gf_R_32 (v := .ref ka) hx hb hT hown hK hP (q + 18) ((wC_tl tk ad g rr tl q).trans h1) rfl d_R_matches_1 ?_
  refine va_alen (v := nI Y.length) hx hb hK hP ((q + 1) + 18) 0 ((wC_tl tk ad g rr tl (q + 1)).trans h2) rfl rfl d_R_matches_4 ?_
  refine lv_iload_n hx hb d_R_matches_5 rfl (lv_at hl 3 rfl) ?_
  refine lv_iload_n hx hb d_R_matches_6 rfl (lv_at hl 2 rfl) ?_
  refine st_isub hx hb (by omega) d_R_matches_7 ?_
  refine st_icmp_eq hx hb (by omega) (by omega) d_R_matches_8 (tgt := 13) (by decide) (fun hc8 => ?_) (fun hc8 => ?_)
  · skip
    have hle : Y.length = P.length := by omega
    refine lv_iload_n hx hb d_R_matches_13 rfl (lv_at hl 2 rfl) ?_
    refine lv_istore (lv' := [(4, .int (nI a0)), (0, .ref (ad 8)), (1, .ref a), (2, .int (nI a0)), (3, .int (nI (a0 + P.length)))]) hx hb d_R_matches_14 hl (by decide) rfl (fun ls hl => ?_)
    have key16 : ∀ (n16 : Nat) (k : Nat) (ls : Array Slot) (H : Heap) (locs : List Loc), P.length - k < n16 → (k ≤ P.length) → (∀ j, j < k → Y[j]? = P[j]? ∧ b j = rr 2 (a0 + j)) → lv_has ls 6 [(0, .ref (ad 8)), (1, .ref a), (2, .int (nI a0)), (3, .int (nI (a0 + P.length))), (4, .int (nI (a0 + k)))] → va_P D CC (wC tk ad g rr ++ tl) H → va_D A (wC tk ad g rr ++ tl) → va_S A s.heap H locs → W p l e ({ frames := 0, cells := 0, slots := 0, locals := 0 } : Room) s m args below meth c H locs 0 0 Q (F0 m 16 ls []) := by
      intro n16
      induction n16 with
      | zero => intro k ls H locs hn; exact absurd hn (Nat.not_lt_zero _)
      | succ n16 ih16 =>
        intro k ls H locs hn16 hk hmt hl hP hD hS
        refine lv_iload hx hb d_R_matches_16 (lv_at hl 4 rfl) ?_
        refine lv_iload_n hx hb d_R_matches_18 rfl (lv_at hl 3 rfl) ?_
        refine st_icmp_ge hx hb (by omega) (by omega) d_R_matches_19 (tgt := 87) (by decide) (fun hc19 => ?_) (fun hc19 => ?_)
        · skip
          refine lv_iconst (v := nI 1) hx hb d_R_matches_87 (by decide) ?_
          exact k_zret (v := nI 1) hQ hx hb hr hlk hK hP hD hS () rfl (by decide) (Or.inl ⟨rfl, mt_y hle (by omega) hmt⟩) d_R_matches_88
        · skip
          obtain ⟨x9, hx9⟩ := it_at (Y := P) (show k < P.length by omega)
          obtain ⟨y9, hy9⟩ := it_at (Y := Y) (show k < Y.length by omega)
          have hx8 := hPk _ (List.mem_of_getElem? hx9)
          have hy8 := hYk _ (List.mem_of_getElem? hy9)
          refine lv_iload hx hb d_R_matches_22 (lv_at hl 4 rfl) ?_
          refine lv_iload_n hx hb d_R_matches_24 rfl (lv_at hl 2 rfl) ?_
          refine st_isub hx hb (by omega) d_R_matches_25 ?_
          refine st_top (show nI ((a0 + k) - a0) = nI k from congrArg nI (by omega)) ?_
          refine lv_istore (lv' := [(5, .int (nI k)), (0, .ref (ad 8)), (1, .ref a), (2, .int (nI a0)), (3, .int (nI (a0 + P.length))), (4, .int (nI (a0 + k)))]) hx hb d_R_matches_26 hl (by decide) rfl (fun ls hl => ?_)
          refine lv_aload_n hx hb d_R_matches_28 rfl (lv_at hl 2 rfl) ?_
          refine gf_R_32 (v := .ref ka) hx hb hT hown hK hP (q + 18) ((wC_tl tk ad g rr tl q).trans h1) rfl d_R_matches_29 ?_
          refine lv_iload hx hb d_R_matches_32 (lv_at hl 0 rfl) ?_
          refine st_iald hx hb hK hP ((q + 1) + 18) 0 ((wC_tl tk ad g rr tl (q + 1)).trans h2) rfl (by omega) (by omega) d_R_matches_34 ?_
          refine st_top (show fk k = nI y9.1 from (h5 k y9 hy9).1) ?_
          refine lv_aload_n hx hb d_R_matches_35 rfl (lv_at hl 1 rfl) ?_
          refine gf_R_9 (v := .ref (ad 9)) hx hb hT hown hK hP 8 rfl rfl d_R_matches_36 ?_
          refine lv_iload hx hb d_R_matches_39 (lv_at hl 5 rfl) ?_
          refine st_iald hx hb hK hP 9 0 rfl rfl (by omega) (by decide) d_R_matches_41 ?_
          refine st_top (show g 6 (a0 + k) = nI x9.1 from (hrw k x9 hx9).1) ?_
          refine st_icmp_ne hx hb (by omega) (by omega) d_R_matches_42 (tgt := 79) (by decide) (fun hc42 => ?_) (fun hc42 => ?_)
          · skip
            refine lv_iconst (v := nI 0) hx hb d_R_matches_79 (by decide) ?_
            exact k_zret (v := nI 0) hQ hx hb hr hlk hK hP hD hS () rfl (by decide) (Or.inr ⟨rfl, by first | exact mt_x hx9 hy9 (Or.inl hc42) | exact mt_x hx9 hy9 (Or.inr hc59) | exact (fun q => hc76 (q.2 k (by omega))) | exact (fun q => hc8 (by rw [q.1]; omega))⟩) d_R_matches_80
          · skip
            refine lv_aload_n hx hb d_R_matches_45 rfl (lv_at hl 2 rfl) ?_
            refine gf_R_33 (v := .ref va) hx hb hT hown hK hP (q + 18) ((wC_tl tk ad g rr tl q).trans h1) rfl d_R_matches_46 ?_
            refine lv_iload hx hb d_R_matches_49 (lv_at hl 0 rfl) ?_
            refine st_iald hx hb hK hP ((q + 2) + 18) 0 ((wC_tl tk ad g rr tl (q + 2)).trans h3) rfl (by omega) (by omega) d_R_matches_51 ?_
            refine st_top (show fv k = y9.2 from (h5 k y9 hy9).2) ?_
            refine lv_aload_n hx hb d_R_matches_52 rfl (lv_at hl 1 rfl) ?_
            refine gf_R_15 (v := .ref (ad 10)) hx hb hT hown hK hP 8 rfl rfl d_R_matches_53 ?_
            refine lv_iload hx hb d_R_matches_56 (lv_at hl 5 rfl) ?_
            refine st_iald hx hb hK hP 10 0 rfl rfl (by omega) (by decide) d_R_matches_58 ?_
            refine st_top (show g 7 (a0 + k) = x9.2 from (hrw k x9 hx9).2) ?_
            refine lv_icmp_ne hx hb d_R_matches_59 (tgt := 79) (by decide) (fun hc59 => ?_) (fun hc59 => ?_)
            · skip
              refine lv_iconst (v := nI 0) hx hb d_R_matches_79 (by decide) ?_
              exact k_zret (v := nI 0) hQ hx hb hr hlk hK hP hD hS () rfl (by decide) (Or.inr ⟨rfl, by first | exact mt_x hx9 hy9 (Or.inl hc42) | exact mt_x hx9 hy9 (Or.inr hc59) | exact (fun q => hc76 (q.2 k (by omega))) | exact (fun q => hc8 (by rw [q.1]; omega))⟩) d_R_matches_80
            · skip
              refine lv_aload_n hx hb d_R_matches_62 rfl (lv_at hl 2 rfl) ?_
              refine gf_R_34 (v := .ref ba) hx hb hT hown hK hP (q + 18) ((wC_tl tk ad g rr tl q).trans h1) rfl d_R_matches_63 ?_
              refine lv_iload hx hb d_R_matches_66 (lv_at hl 0 rfl) ?_
              refine st_aald hx hb hK hP ((q + 3) + 18) 3 ((wC_tl tk ad g rr tl (q + 3)).trans h4) rfl (by omega) (by omega) d_R_matches_68 ?_
              refine lv_aload_n hx hb d_R_matches_69 rfl (lv_at hl 1 rfl) ?_
              refine gf_R_20 (v := .ref (ad 11)) hx hb hT hown hK hP 8 rfl rfl d_R_matches_70 ?_
              refine lv_iload hx hb d_R_matches_73 (lv_at hl 5 rfl) ?_
              refine st_aald hx hb hK hP 11 3 rfl rfl (by omega) (by decide) d_R_matches_75 ?_
              refine lv_acmp_eq (rx := (b k)) (ry := (rr 2 (a0 + k))) hx hb d_R_matches_76 (tgt := 81) (by decide) (fun hc76 => ?_) (fun hc76 => ?_)
              · skip
                refine lv_iinc (k := 5) (v := nI (a0 + k + 1)) (lv' := [(4, .int (nI (a0 + k + 1))), (5, .int (nI k)), (0, .ref (ad 8)), (1, .ref a), (2, .int (nI a0)), (3, .int (nI (a0 + P.length)))]) hx hb d_R_matches_81 hl rfl (nI_add _ _) (by decide) rfl (fun ls hl => ?_)
                refine lv_goto hx hb d_R_matches_84 (tgt := 16) (by decide) ?_
                exact ih16 (k + 1) ls _ _ (by omega) (by omega) (mt_go hx9 hy9 hc42 hc59 hc76 hmt) (lv_sub hl [2, 3, 4, 5, 0] rfl) hP hD hS
              · skip
                refine lv_iconst (v := nI 0) hx hb d_R_matches_79 (by decide) ?_
                exact k_zret (v := nI 0) hQ hx hb hr hlk hK hP hD hS () rfl (by decide) (Or.inr ⟨rfl, by first | exact mt_x hx9 hy9 (Or.inl hc42) | exact mt_x hx9 hy9 (Or.inr hc59) | exact (fun q => hc76 (q.2 k (by omega))) | exact (fun q => hc8 (by rw [q.1]; omega))⟩) d_R_matches_80
    exact key16 _ 0 ls _ _ (Nat.lt_succ_self _) (Nat.zero_le _) (fun j hj => absurd hj (Nat.not_lt_zero _)) (lv_sub hl [1, 2, 3, 4, 0] rfl) hP hD hS
  · skip
    refine lv_iconst (v := nI 0) hx hb d_R_matches_11 (by decide) ?_
    exact k_zret (v := nI 0) hQ hx hb hr hlk hK hP hD hS () rfl (by decide) (Or.inr ⟨rfl, by first | exact mt_x hx9 hy9 (Or.inl hc42) | exact mt_x hx9 hy9 (Or.inr hc59) | exact (fun q => hc76 (q.2 k (by omega))) | exact (fun q => hc8 (by rw [q.1]; omega))⟩) d_R_matches_12

set_option maxHeartbeats 4000000 in
set_option maxRecDepth 100000 in
theorem c_A_checkLength (l : Launch) (D : va_G) (tk : Nat → ClassId) (sz : Nat) (a b : Nat) (hab : a ≤ b) (hb9 : b < 2 ^ 31) (ws : va_W) : Met l y_A_checkLength w_A_checkLength ({ frames := 0, cells := 0, slots := 0, locals := 0 }) (va_Pc [.int (nI a), .int (nI b)] (k_pre D (TY tk) sz ws)) (va_Qv (fun (_ : Unit) => True) (fun u t => k_at D (TY tk) (va_A ws sz) ((fun _ => ws) u) t) (va_A ws sz)) 0 0 (va_A ws sz) := by
  refine k_ofW (fun A => va_Qv (fun (_ : Unit) => True) (fun u t => k_at D (TY tk) A ((fun _ => ws) u) t) A) (by decide) (Nat.le_of_ble_eq_true rfl) ?_
  intro p e s m args below meth c Q A ls hQ hx hb hr hlk hin hts hT hown hml hnw hP hK hD hA hsz hl
  have hS : va_S A s.heap s.heap [] := va_S.rf
  have hc0 : 0 + 0 ≤ 0 ∧ 0 + 0 ≤ 0 := ⟨by decide, by decide⟩
  replace hl : lv_has ls 2 [(0, .int (nI a)), (1, .int (nI b))] := hl
  replace hP : va_P D CC ws s.heap := hP
  replace hK : va_K D CC (TY tk) s := hK
  refine lv_iload_n hx hb d_A_checkLength_0 rfl (lv_at hl 1 rfl) ?_
  refine lv_iload_n hx hb d_A_checkLength_1 rfl (lv_at hl 0 rfl) ?_
  refine st_icmp_ge hx hb (by omega) (by omega) d_A_checkLength_2 (tgt := 37) (by decide) (fun hc2 => ?_) (fun hc2 => absurd hc2 (by omega))
  exact k_vret hQ hx hb hr hlk hK hP hD hS () rfl trivial d_A_checkLength_37

theorem ga_l {ws : va_W} {x y : Nat × va_E} {q : Nat} (h : ws[q]? = some y) : (ws ++ [x])[q]? = some y := by
  rw [List.getElem?_append_left (List.getElem?_eq_some_iff.mp h).1]; exact h
theorem ga_n {ws : va_W} {x : Nat × va_E} : (ws ++ [x])[ws.length]? = some x := by
  rw [List.getElem?_append_right (Nat.le_refl _), Nat.sub_self]; rfl
theorem sa_n {ws : va_W} {x y : Nat × va_E} : (ws ++ [x]).set ws.length y = ws ++ [y] := by
  rw [List.set_append_right _ _ (Nat.le_refl _), Nat.sub_self]; rfl
section NQ
variable {p : Program} {l : Launch} {e : Env} {R : Room} {s : State} {m : MethodId} {args : Array Value} {below : List Frame} {meth : Method} {c : Code} {H : Heap} {locs : List Loc} {cells slots : Nat} {Q : State → Prop}
variable {cc : ByteArray} {pc : Nat} {ls : Array Slot} {rest : List Value} {D : va_G} {A : Nat → Prop} {a : Nat} {tk : Nat → ClassId} {ws : va_W} {H0 : Heap}
theorem k_nA (hx : p.tables.exec = Jvm.exec) (hb : c.code = cc) {own : String} {index : Nat} (hown : s.vm.findClass own = some m.cls) (hclink : (Cond.classLink own index "SealedBook$Chunk").before args s = true) (hnw : nwp s) (hK : va_K D CC (TY tk) s) (hP : va_P D CC ws H) (hD : va_D A ws) (hS : va_S A H0 H locs) (hA : ∀ q, H0.size ≤ q → A q) {N : Nat} (hN : N < 2 ^ 20) (hcells : cells + 1 ≤ R.cells) (hslots : slots + N ≤ R.slots) (hdg : decode cc pc = .ok (.anewarray index, 3))
    (kk : ∀ (q : Nat) (H1 : Heap), va_P D CC (ws ++ [(q, .inl (tk 3, N, .inr (.inr (.inr (.inr (fun _ => none))))))]) H1 → va_D A (ws ++ [(q, .inl (tk 3, N, .inr (.inr (.inr (.inr (fun _ => none))))))]) → va_S A H0 H1 locs → W p l e R s m args below meth c H1 locs (cells + 1) (slots + N) Q (F0 m (pc + 3) ls (.ref q :: rest))) : W p l e R s m args below meth c H locs cells slots Q (F0 m pc ls (.int (nI N) :: rest)) := by
  refine va_newq hx hb hown hclink hnw.2 hK hP hD hS hA (N' := N) (nI_pos (by omega)) (nI_clamp (by omega)) (show N * 4 ≤ 536870912 by omega) hcells hslots hdg (fun q cA H1 hK1 hP1 hD1 hS1 => ?_)
  obtain ⟨_, _, _, _, _, e1⟩ := (hK.2 3 (tk 3, .object "SealedBook$Chunk") rfl).2
  obtain ⟨_, _, _, _, _, e2⟩ := (hK1.2 4 (cA, .object "SealedBook$Chunk") rfl).2
  have e3 : cA = tk 3 := Option.some.inj (e2.symm.trans e1)
  subst e3
  exact kk q H1 hP1 hD1 hS1
end NQ

theorem mn_c {x y : Nat} (h : y ≤ x) (hx : x < 2 ^ 31) : (if nI y < nI x then nI y else nI x) = nI y := by
  by_cases e : nI y < nI x
  · rw [if_pos e]
  · rw [if_neg e]
    have : ¬ y < x := fun q => e (nI_lt q hx)
    rw [show x = y by omega]

set_option maxHeartbeats 4000000 in
set_option maxRecDepth 100000 in
theorem c_A_copyOfRangeInt (l : Launch) (D : va_G) (tk : Nat → ClassId) (sz : Nat) (ws : va_W) (a q0 : Nat) (f : Nat → Int32) (hq0 : ws[q0]? = some (a, .inl (tk 0, 48, .inl f))) (f9 t9 : Nat) (hf9 : f9 < t9) (ht9 : t9 ≤ 48) : Met l y_A_copyOfRangeInt w_A_copyOfRangeInt ({ frames := 1, cells := 1, slots := 48, locals := 60 }) (va_Pc [.ref a, .int (nI f9), .int (nI t9)] (k_pre D (TY tk) sz ws)) (va_Qq (fun (r : Option Nat) (u : Nat) => r = some u) (fun u t => k_at D (TY tk) (va_A ws sz) ((fun (u : Nat) => (ws ++ [(u, .inl (tk 0, t9 - f9, .inl (va_cpy f (fun _ => 0) f9 0 (t9 - f9))))] : va_W)) u) t) (va_A ws sz)) 1 48 (va_A ws sz) := by
  refine k_ofW (l := l) (rm := ({ frames := 1, cells := 1, slots := 48, locals := 60 } : Room)) (mc := 1) (ms := 48) (av := [.ref a, .int (nI f9), .int (nI t9)]) (y := y_A_copyOfRangeInt) (cc := prog_26_method_137_code) (maxL := 5) (ret := (some (.array .int))) (ws := ws) (sz := sz) (D := D) (tys := TY tk) (fun A => va_Qq (fun (r : Option Nat) (u : Nat) => r = some u) (fun u t => k_at D (TY tk) A ((fun (u : Nat) => (ws ++ [(u, .inl (tk 0, t9 - f9, .inl (va_cpy f (fun _ => 0) f9 0 (t9 - f9))))] : va_W)) u) t) A) (by decide) (Nat.le_of_ble_eq_true rfl) ?_
  intro p e s m args below meth c Q A ls hQ hx hb hr hlk hin hts hT hown hml hnw hP hK hD hA hsz hl
  have hS : va_S A s.heap s.heap [] := va_S.rf
  have hc0 : 0 + 0 ≤ 1 ∧ 0 + 0 ≤ 48 := ⟨by decide, by decide⟩
  replace hl : lv_has ls 5 [(0, .ref a), (1, .int (nI f9)), (2, .int (nI t9))] := hl
  replace hP : va_P D CC ws s.heap := hP
  replace hK : va_K D CC (TY tk) s := hK
  refine lv_iload_n hx hb d_A_copyOfRangeInt_0 rfl (lv_at hl 1 rfl) ?_
  refine lv_iload_n hx hb d_A_copyOfRangeInt_1 rfl (lv_at hl 2 rfl) ?_
  refine k_callv (va_runS (As := [.int (nI f9), .int (nI t9)]) (rest := []) ⟨hx, hb, hml, hown, hts⟩ (c_A_checkLength l D tk s.heap.size f9 t9 (by omega) (by omega) ws) (cwS 2 hts (gS t_454 t_455 t_16 t_456) rfl rfl rfl (by decide +kernel) ⟨Nat.le_of_ble_eq_true rfl, Nat.le_of_ble_eq_true rfl⟩) (k_preS hP hK hD hnw) rfl rfl hl.1 rfl (lv_room (Nat.le_of_ble_eq_true rfl)) d_A_copyOfRangeInt_2 ⟨by show _ ≤ 1; omega, by show _ ≤ 48; omega⟩) hD hS hA (fun _ H locs hp2 hP hD hK hS => ?_)
  replace hP : va_P D CC ws H := hP
  replace hD : va_D A ws := hD
  refine lv_iload_n hx hb d_A_copyOfRangeInt_5 rfl (lv_at hl 2 rfl) ?_
  refine lv_iload_n hx hb d_A_copyOfRangeInt_6 rfl (lv_at hl 1 rfl) ?_
  refine st_isub hx hb (by omega) d_A_copyOfRangeInt_7 ?_
  refine lv_istore_n (lv' := [(3, .int (nI (t9 - f9))), (0, .ref a), (1, .int (nI f9)), (2, .int (nI t9))]) hx hb d_A_copyOfRangeInt_8 rfl hl (by decide) rfl (fun ls hl => ?_)
  refine lv_iload_n hx hb d_A_copyOfRangeInt_9 rfl (lv_at hl 0 rfl) ?_
  refine k_nI (N := (t9 - f9)) hx hb hT hK hP hD hS hA (by omega) (by show _ ≤ 1; omega) (by show _ ≤ 48; omega) d_A_copyOfRangeInt_10 (fun q1 H hP hD hS => ?_)
  refine lv_astore (lv' := [(4, .ref q1), (3, .int (nI (t9 - f9))), (0, .ref a), (1, .int (nI f9)), (2, .int (nI t9))]) hx hb d_A_copyOfRangeInt_12 hl (by decide) rfl (fun ls hl => ?_)
  refine lv_aload_n hx hb d_A_copyOfRangeInt_14 rfl (lv_at hl 2 rfl) ?_
  refine lv_iload_n hx hb d_A_copyOfRangeInt_15 rfl (lv_at hl 3 rfl) ?_
  refine lv_aload hx hb d_A_copyOfRangeInt_16 (lv_at hl 0 rfl) ?_
  refine lv_iconst (v := nI 0) hx hb d_A_copyOfRangeInt_18 (by decide) ?_
  refine lv_aload_n hx hb d_A_copyOfRangeInt_19 rfl (lv_at hl 2 rfl) ?_
  refine va_alen (v := nI 48) hx hb hK hP q0 0 (ga_l hq0) rfl rfl d_A_copyOfRangeInt_20 ?_
  refine lv_iload_n hx hb d_A_copyOfRangeInt_21 rfl (lv_at hl 3 rfl) ?_
  refine st_isub hx hb (by omega) d_A_copyOfRangeInt_22 ?_
  refine lv_iload_n hx hb d_A_copyOfRangeInt_23 rfl (lv_at hl 1 rfl) ?_
  refine va_mmin hx hb (hml.trans hl.1.symm) hown (hT _ t_528) (hT _ t_529) (hT _ t_23) (hT _ t_530) (Nat.le_of_ble_eq_true rfl) (Nat.le_of_ble_eq_true rfl) (by show _ ≤ 1; omega) (by show _ ≤ 48; omega) d_A_copyOfRangeInt_24 ?_
  refine st_top (show (if (nI (t9 - f9)) < (nI (48 - f9)) then (nI (t9 - f9)) else (nI (48 - f9))) = nI (t9 - f9) from by rw [show 48 - f9 = 48 - f9 from rfl]; exact mn_c (by omega) (by omega)) ?_
  refine va_copyi (ty := .int) hx hb (hml.trans hl.1.symm) hown (hT _ t_531) (hT _ t_269) (hT _ t_268) (hT _ t_24) hK hP hD hS q0 ws.length 0 0 (ga_l hq0) ga_n rfl rfl rfl (nI_pos (by omega)) (nI_pos (by omega)) (nI_pos (by omega)) (by rw [nI_clamp (by omega), nI_clamp (by omega)]; omega) (by rw [nI_clamp (by omega), nI_clamp (by omega)]; omega) (fun _ _ => rfl) (Nat.le_of_ble_eq_true rfl) (by decide) d_A_copyOfRangeInt_27 (fun H locs hP hD hS => ?_)
  rw [nI_clamp (show f9 < 2 ^ 31 by omega), nI_clamp (show 0 < 2 ^ 31 by omega), nI_clamp (show t9 - f9 < 2 ^ 31 by omega)] at hP hD
  rw [sa_n] at hP hD
  replace hP : va_P D CC (ws ++ [(q1, .inl (tk 0, (t9 - f9), .inl (va_cpy f (fun _ => 0) f9 0 (t9 - f9))))]) H := hP
  replace hD : va_D A (ws ++ [(q1, .inl (tk 0, (t9 - f9), .inl (va_cpy f (fun _ => 0) f9 0 (t9 - f9))))]) := hD
  refine lv_aload hx hb d_A_copyOfRangeInt_30 (lv_at hl 0 rfl) ?_
  refine W_up (c2 := 1) (s2 := 48) (by omega) (by omega) ?_
  exact k_aret (r := (some q1)) hQ hx hb hr (Or.inr ⟨_, rfl⟩) hlk hK hP hD hS q1 rfl rfl d_A_copyOfRangeInt_32

set_option maxHeartbeats 4000000 in
set_option maxRecDepth 100000 in
theorem c_A_copyOfRange (l : Launch) (D : va_G) (tk : Nat → ClassId) (sz : Nat) (ws : va_W) (a q0 : Nat) (f : Nat → Int32) (hq0 : ws[q0]? = some (a, .inl (tk 0, 48, .inl f))) (f9 t9 : Nat) (hf9 : f9 < t9) (ht9 : t9 ≤ 48) (hn9 : ¬ (f9 = 0 ∧ t9 = 48)) : Met l y_A_copyOfRange w_A_copyOfRange ({ frames := 2, cells := 1, slots := 48, locals := 84 }) (va_Pc [.ref a, .int (nI f9), .int (nI t9)] (k_pre D (TY tk) sz ws)) (va_Qq (fun (r : Option Nat) (u : Nat) => r = some u) (fun u t => k_at D (TY tk) (va_A ws sz) ((fun (u : Nat) => (ws ++ [(u, .inl (tk 0, t9 - f9, .inl (va_cpy f (fun _ => 0) f9 0 (t9 - f9))))] : va_W)) u) t) (va_A ws sz)) 1 48 (va_A ws sz) := by
  refine k_ofW (l := l) (rm := ({ frames := 2, cells := 1, slots := 48, locals := 84 } : Room)) (mc := 1) (ms := 48) (av := [.ref a, .int (nI f9), .int (nI t9)]) (y := y_A_copyOfRange) (cc := prog_26_method_136_code) (maxL := 3) (ret := (some (.array .int))) (ws := ws) (sz := sz) (D := D) (tys := TY tk) (fun A => va_Qq (fun (r : Option Nat) (u : Nat) => r = some u) (fun u t => k_at D (TY tk) A ((fun (u : Nat) => (ws ++ [(u, .inl (tk 0, t9 - f9, .inl (va_cpy f (fun _ => 0) f9 0 (t9 - f9))))] : va_W)) u) t) A) (by decide) (Nat.le_of_ble_eq_true rfl) ?_
  intro p e s m args below meth c Q A ls hQ hx hb hr hlk hin hts hT hown hml hnw hP hK hD hA hsz hl
  have hS : va_S A s.heap s.heap [] := va_S.rf
  have hc0 : 0 + 0 ≤ 1 ∧ 0 + 0 ≤ 48 := ⟨by decide, by decide⟩
  replace hl : lv_has ls 3 [(0, .ref a), (1, .int (nI f9)), (2, .int (nI t9))] := hl
  replace hP : va_P D CC ws s.heap := hP
  replace hK : va_K D CC (TY tk) s := hK
  refine lv_iload_n hx hb d_A_copyOfRange_0 rfl (lv_at hl 1 rfl) ?_
  refine st_if_ne hx hb (by omega) d_A_copyOfRange_1 (tgt := 10) (by decide) (fun hc1 => ?_) (fun hc1 => ?_)
  · skip
    refine lv_aload_n hx hb d_A_copyOfRange_10 rfl (lv_at hl 0 rfl) ?_
    refine lv_iload_n hx hb d_A_copyOfRange_11 rfl (lv_at hl 1 rfl) ?_
    refine lv_iload_n hx hb d_A_copyOfRange_12 rfl (lv_at hl 2 rfl) ?_
    refine k_callq (va_runS (As := [.ref a, .int (nI f9), .int (nI t9)]) (rest := []) ⟨hx, hb, hml, hown, hts⟩ (c_A_copyOfRangeInt l D tk s.heap.size ws a q0 f hq0 f9 t9 hf9 ht9) (cwS 3 hts (gS t_451 t_452 t_16 t_453) rfl rfl rfl (by decide +kernel) ⟨Nat.le_of_ble_eq_true rfl, Nat.le_of_ble_eq_true rfl⟩) (k_preS hP hK hD hnw) rfl rfl hl.1 rfl (lv_room (Nat.le_of_ble_eq_true rfl)) d_A_copyOfRange_13 ⟨by show _ ≤ 1; omega, by show _ ≤ 48; omega⟩) hD hS hA (fun r13 u13 H locs hp13 hP hD hK hS => ?_)
    subst hp13
    replace hP : va_P D CC (ws ++ [(u13, .inl (tk 0, (t9 - f9), .inl (va_cpy f (fun _ => 0) f9 0 (t9 - f9))))]) H := hP
    replace hD : va_D A (ws ++ [(u13, .inl (tk 0, (t9 - f9), .inl (va_cpy f (fun _ => 0) f9 0 (t9 - f9))))]) := hD
    exact k_aret (r := (some u13)) hQ hx hb hr (Or.inr ⟨_, rfl⟩) hlk hK hP hD hS u13 rfl rfl d_A_copyOfRange_16
  · skip
    refine lv_iload_n hx hb d_A_copyOfRange_4 rfl (lv_at hl 2 rfl) ?_
    refine lv_aload_n hx hb d_A_copyOfRange_5 rfl (lv_at hl 0 rfl) ?_
    refine va_alen (v := nI 48) hx hb hK hP q0 0 hq0 rfl rfl d_A_copyOfRange_6 ?_
    refine st_icmp_eq hx hb (by omega) (by omega) d_A_copyOfRange_7 (tgt := 17) (by decide) (fun hc7 => absurd hc7 (by omega)) (fun hc7 => ?_)
    refine lv_aload_n hx hb d_A_copyOfRange_10 rfl (lv_at hl 0 rfl) ?_
    refine lv_iload_n hx hb d_A_copyOfRange_11 rfl (lv_at hl 1 rfl) ?_
    refine lv_iload_n hx hb d_A_copyOfRange_12 rfl (lv_at hl 2 rfl) ?_
    refine k_callq (va_runS (As := [.ref a, .int (nI f9), .int (nI t9)]) (rest := []) ⟨hx, hb, hml, hown, hts⟩ (c_A_copyOfRangeInt l D tk s.heap.size ws a q0 f hq0 f9 t9 hf9 ht9) (cwS 3 hts (gS t_451 t_452 t_16 t_453) rfl rfl rfl (by decide +kernel) ⟨Nat.le_of_ble_eq_true rfl, Nat.le_of_ble_eq_true rfl⟩) (k_preS hP hK hD hnw) rfl rfl hl.1 rfl (lv_room (Nat.le_of_ble_eq_true rfl)) d_A_copyOfRange_13 ⟨by show _ ≤ 1; omega, by show _ ≤ 48; omega⟩) hD hS hA (fun r13 u13 H locs hp13 hP hD hK hS => ?_)
    subst hp13
    replace hP : va_P D CC (ws ++ [(u13, .inl (tk 0, (t9 - f9), .inl (va_cpy f (fun _ => 0) f9 0 (t9 - f9))))]) H := hP
    replace hD : va_D A (ws ++ [(u13, .inl (tk 0, (t9 - f9), .inl (va_cpy f (fun _ => 0) f9 0 (t9 - f9))))]) := hD
    exact k_aret (r := (some u13)) hQ hx hb hr (Or.inr ⟨_, rfl⟩) hlk hK hP hD hS u13 rfl rfl d_A_copyOfRange_16
