theorem pr_same {B : List Int32} {gc gm : Nat → Nat → Int32} (h1 : prfC gc B) (h2 : prf gm B) (hB : B.length ≤ 400) (i : Int32) : (if i < nI 0 ∨ gc 8 0 - nI 1 < i then (-1 : Int32) else gc 9 i.toNatClampNeg) = if i < nI 0 ∨ gm 21 0 - nI 1 < i then (-1) else gm 22 i.toNatClampNeg := by
  rw [h1.1, h2.1]
  by_cases q : i < nI 0 ∨ nI B.length - nI 1 < i
  · rw [if_pos q, if_pos q]
  · rw [if_neg q, if_neg q]
    obtain ⟨j, hj, rfl⟩ := m_idx (N := 400) rfl hB q
    rw [nI_clamp (by omega), h1.2 j _ (List.getElem?_eq_getElem hj), h2.2 j _ (List.getElem?_eq_getElem hj)]
theorem four {x : Int32} (h : ¬ (x < nI 1 ∨ nI 4 < x)) : x = nI 1 ∨ x = nI 2 ∨ x = nI 3 ∨ x = nI 4 := by
  have h0 : ¬ x < 0 := fun q => h (Or.inl (by
    rw [Int32.lt_iff_toInt_lt, show (0 : Int32).toInt = 0 from rfl] at q
    rw [Int32.lt_iff_toInt_lt, nI_toInt (by decide)]
    omega))
  obtain ⟨j, hj, rfl⟩ := nI_of2 (M := nI 4) (n := 4) (nI_toInt (by decide)) h0 (Int32.not_lt.mp (fun q => h (Or.inr q)))
  have h1 : ¬ j < 1 := fun q => h (Or.inl (nI_lt q (by decide)))
  have : j = 1 ∨ j = 2 ∨ j = 3 ∨ j = 4 := by omega
  rcases this with rfl | rfl | rfl | rfl
  · exact Or.inl rfl
  · exact Or.inr (Or.inl rfl)
  · exact Or.inr (Or.inr (Or.inl rfl))
  · exact Or.inr (Or.inr (Or.inr rfl))
theorem le400 {t k : Nat} (ht : t ≤ 400) (hk : k ≤ 4) : nI t + nI k ≤ nI 400 ↔ t + k ≤ 400 := by
  rw [nI_add, nI_leI (by omega) (by omega)]
section QQ
variable {p : Program} {l : Launch} {e : Env} {s : State} {m : MethodId} {below : List Frame} {meth : Method} {c : Code} {H : Heap} {locs : List Loc} {cells slots : Nat} {Q : State → Prop}
variable {b L : Nat} {xs : Nat → Int32} {D : va_G} {tk : Nat → ClassId} {ac am : Nat → Nat} {gc gm : Nat → Nat → Int32} {rr : Nat → Nat → Option Nat} {ao h : Nat} {fo : Nat → Int64} {la : Nat → Int64} {tl : va_W} {pc : Nat} {ls : Array Slot} {rest : List Value} {lv : List (Nat × Value)}
variable {n : Nat} {S : List ck_I} {ca : Nat → Nat} {bl : Nat → Nat → Option Nat} {f : Nat} {fm : Nat → Nat → Option Int32} {E : List (Nat × Nat × Nat × Nat)} {mp : Nat} {Xs : Nat → List kv_I} {V : Nat} {f0 : Nat → Option Int32} {B : List Int32} {ft : Nat → Int32} {t0 : Nat}

set_option maxHeartbeats 4000000 in
set_option maxRecDepth 100000 in
theorem q_take (C : LC p l s m c b L xs D tk) (hP : va_P D CC (wL tk ac gc rr ao fo h am gm la tl) H) (hD : va_D (AL s) (wL tk ac gc rr ao fo h am gm la tl)) (hS : va_S (AL s) s.heap H locs) (hl : lv_has ls 7 lv) (hJ : JX tk tl gc rr gm la n S ca bl f fm E mp Xs V f0 B ft t0) (hcl : cells + 156 ≤ 601024) (hsl : slots + 5856 ≤ 7293034) {w n9 : Int32}
    (kk : ∀ (r : Int32) (gc2 : Nat → Nat → Int32) (H1 : Heap) (locs1 : List Loc), (r = (if (n9 < nI 1 ∨ nI 4 < n9) ∨ ¬ nI t0 + n9 ≤ nI 400 then nI 0 else nI 1) ∧ J tk tl gc2 rr (if (n9 < nI 1 ∨ nI 4 < n9) ∨ ¬ nI t0 + n9 ≤ nI 400 then mup gm 0 0 (nI 0) else tkF (mup gm 0 0 (nI 0)) t0 w n9.toNatClampNeg) la (n + 1)) → va_P D CC (wL tk ac gc2 rr ao fo h am gm la tl) H1 → va_D (AL s) (wL tk ac gc2 rr ao fo h am gm la tl) → va_S (AL s) s.heap H1 locs1 → W p l e room_1 s m #[Value.ref b] below meth c H1 locs1 cells slots Q (F0 m 794 ls [.int r])) : W p l e room_1 s m #[Value.ref b] below meth c H locs cells slots Q (F0 m 791 ls [.int n9, .int w, .ref (ac 0)]) := by
  obtain ⟨⟨hx, hb, hml, hown⟩, hT, hnw, hxF, hK, ⟨hX, hbl, hL⟩, htr⟩ := C
  have hts := hts_of hT
  obtain ⟨-, ⟨ht0, htk⟩, -⟩ := hJ.2.2.2.1
  have hcc : cells + 0 ≤ room_1.cells ∧ slots + 0 ≤ room_1.slots := ⟨by show cells + 0 ≤ 601024; omega, by show slots + 0 ≤ 7293034; omega⟩
  by_cases hb9 : n9 < nI 1 ∨ nI 4 < n9
  · skip
    refine k_calli (va_runV (As := [.int w, .int n9]) (rest := []) ⟨hx, hb, hml, hown, hts⟩ (c_K_take0 l D tk H.size ac gc rr (ow tk ao fo :: (wM tk h am gm la ++ tl)) w n9 hb9) (cwV 2 hts (gV t_251 t_252 t_253 t_1 t_254) rfl rfl rfl (by decide +kernel) ⟨Nat.le_of_ble_eq_true rfl, Nat.le_of_ble_eq_true rfl⟩) (k_preV hP hK hD hnw 0 rfl rfl) rfl rfl hl.1 rfl (lv_room (Nat.le_of_ble_eq_true rfl)) d_law_791 hcc) hD hS AL_in (fun r9 u9 H1 locs1 hp hP hD hK hS => ?_)
    refine kk _ gc H1 locs1 ⟨?_, ?_⟩ hP hD hS
    · rw [hp, if_pos (Or.inl hb9)]
    · rw [if_pos (Or.inl hb9)]; exact JX_0 hJ _
  · rcases four hb9 with rfl | rfl | rfl | rfl
    · skip
      refine k_calli (va_runV (As := [.int w, .int (nI 1)]) (rest := []) ⟨hx, hb, hml, hown, hts⟩ (c_K_take1 l D tk H.size ac gc rr (ow tk ao fo :: (wM tk h am gm la ++ tl)) t0 ht0 htk.1 w) (cwV 2 hts (gV t_251 t_252 t_253 t_1 t_254) rfl rfl rfl (by decide +kernel) ⟨Nat.le_of_ble_eq_true rfl, Nat.le_of_ble_eq_true rfl⟩) (k_preV hP hK hD hnw 0 rfl rfl) rfl rfl hl.1 rfl (lv_room (Nat.le_of_ble_eq_true rfl)) d_law_791 hcc) hD hS AL_in (fun r9 u9 H1 locs1 hp hP hD hK hS => ?_)
      refine kk _ _ H1 locs1 ⟨?_, ?_⟩ hP hD hS
      · rw [hp]
        by_cases q : t0 + 1 ≤ 400
        · rw [if_neg (fun z => z q), if_neg (fun z => z.elim hb9 (fun z => z ((le400 ht0 (by decide)).mpr q)))]
        · rw [if_pos q, if_pos (Or.inr (fun z => q ((le400 ht0 (by decide)).mp z)))]
      · by_cases q : t0 + 1 ≤ 400
        · rw [if_neg (fun z => z q), if_neg (fun z => z.elim hb9 (fun z => z ((le400 ht0 (by decide)).mpr q))), nI_clamp (by decide)]
          exact J_take hJ (by decide) q w
        · rw [if_pos q, if_pos (Or.inr (fun z => q ((le400 ht0 (by decide)).mp z)))]; exact JX_0 hJ _
    · skip
      refine k_calli (va_runV (As := [.int w, .int (nI 2)]) (rest := []) ⟨hx, hb, hml, hown, hts⟩ (c_K_take2 l D tk H.size ac gc rr (ow tk ao fo :: (wM tk h am gm la ++ tl)) t0 ht0 htk.1 w) (cwV 2 hts (gV t_251 t_252 t_253 t_1 t_254) rfl rfl rfl (by decide +kernel) ⟨Nat.le_of_ble_eq_true rfl, Nat.le_of_ble_eq_true rfl⟩) (k_preV hP hK hD hnw 0 rfl rfl) rfl rfl hl.1 rfl (lv_room (Nat.le_of_ble_eq_true rfl)) d_law_791 hcc) hD hS AL_in (fun r9 u9 H1 locs1 hp hP hD hK hS => ?_)
      refine kk _ _ H1 locs1 ⟨?_, ?_⟩ hP hD hS
      · rw [hp]
        by_cases q : t0 + 2 ≤ 400
        · rw [if_neg (fun z => z q), if_neg (fun z => z.elim hb9 (fun z => z ((le400 ht0 (by decide)).mpr q)))]
        · rw [if_pos q, if_pos (Or.inr (fun z => q ((le400 ht0 (by decide)).mp z)))]
      · by_cases q : t0 + 2 ≤ 400
        · rw [if_neg (fun z => z q), if_neg (fun z => z.elim hb9 (fun z => z ((le400 ht0 (by decide)).mpr q))), nI_clamp (by decide)]
          exact J_take hJ (by decide) q w
        · rw [if_pos q, if_pos (Or.inr (fun z => q ((le400 ht0 (by decide)).mp z)))]; exact JX_0 hJ _
    · skip
      refine k_calli (va_runV (As := [.int w, .int (nI 3)]) (rest := []) ⟨hx, hb, hml, hown, hts⟩ (c_K_take3 l D tk H.size ac gc rr (ow tk ao fo :: (wM tk h am gm la ++ tl)) t0 ht0 htk.1 w) (cwV 2 hts (gV t_251 t_252 t_253 t_1 t_254) rfl rfl rfl (by decide +kernel) ⟨Nat.le_of_ble_eq_true rfl, Nat.le_of_ble_eq_true rfl⟩) (k_preV hP hK hD hnw 0 rfl rfl) rfl rfl hl.1 rfl (lv_room (Nat.le_of_ble_eq_true rfl)) d_law_791 hcc) hD hS AL_in (fun r9 u9 H1 locs1 hp hP hD hK hS => ?_)
      refine kk _ _ H1 locs1 ⟨?_, ?_⟩ hP hD hS
      · rw [hp]
        by_cases q : t0 + 3 ≤ 400
        · rw [if_neg (fun z => z q), if_neg (fun z => z.elim hb9 (fun z => z ((le400 ht0 (by decide)).mpr q)))]
        · rw [if_pos q, if_pos (Or.inr (fun z => q ((le400 ht0 (by decide)).mp z)))]
      · by_cases q : t0 + 3 ≤ 400
        · rw [if_neg (fun z => z q), if_neg (fun z => z.elim hb9 (fun z => z ((le400 ht0 (by decide)).mpr q))), nI_clamp (by decide)]
          exact J_take hJ (by decide) q w
        · rw [if_pos q, if_pos (Or.inr (fun z => q ((le400 ht0 (by decide)).mp z)))]; exact JX_0 hJ _
    · skip
      refine k_calli (va_runV (As := [.int w, .int (nI 4)]) (rest := []) ⟨hx, hb, hml, hown, hts⟩ (c_K_take4 l D tk H.size ac gc rr (ow tk ao fo :: (wM tk h am gm la ++ tl)) t0 ht0 htk.1 w) (cwV 2 hts (gV t_251 t_252 t_253 t_1 t_254) rfl rfl rfl (by decide +kernel) ⟨Nat.le_of_ble_eq_true rfl, Nat.le_of_ble_eq_true rfl⟩) (k_preV hP hK hD hnw 0 rfl rfl) rfl rfl hl.1 rfl (lv_room (Nat.le_of_ble_eq_true rfl)) d_law_791 hcc) hD hS AL_in (fun r9 u9 H1 locs1 hp hP hD hK hS => ?_)
      refine kk _ _ H1 locs1 ⟨?_, ?_⟩ hP hD hS
      · rw [hp]
        by_cases q : t0 + 4 ≤ 400
        · rw [if_neg (fun z => z q), if_neg (fun z => z.elim hb9 (fun z => z ((le400 ht0 (by decide)).mpr q)))]
        · rw [if_pos q, if_pos (Or.inr (fun z => q ((le400 ht0 (by decide)).mp z)))]
      · by_cases q : t0 + 4 ≤ 400
        · rw [if_neg (fun z => z q), if_neg (fun z => z.elim hb9 (fun z => z ((le400 ht0 (by decide)).mpr q))), nI_clamp (by decide)]
          exact J_take hJ (by decide) q w
        · rw [if_pos q, if_pos (Or.inr (fun z => q ((le400 ht0 (by decide)).mp z)))]; exact JX_0 hJ _
set_option maxHeartbeats 4000000 in
set_option maxRecDepth 100000 in
theorem go_rollback (C : LC p l s m c b L xs D tk) (hn : 5 * n + 5 ≤ L) (hcl : cells + 156 ≤ 601024) (hsl : slots + 5856 ≤ 7293034) (kk : GO p l e s m below meth c Q b D tk ac am ao h (n + 1) n (cells + 156) (slots + 5856) 1056) : GO p l e s m below meth c Q b D tk ac am ao h n n cells slots 283 := by
  intro gc rr fo gm la tl ls H locs hJ hl hP hD hS
  obtain ⟨S, ca, bl, f, fm, E, mp, Xs, V, f0, B, ft, t0, hJ⟩ := hJ
  have C0 := C
  obtain ⟨⟨hx, hb, hml, hown⟩, hT, hnw, hxF, hK, ⟨hX, hbl, hL⟩, htr⟩ := C
  have hts := hts_of hT
  have hsI : sI tk (ow tk ao fo :: (wM tk h am gm la ++ tl)) S ca bl := sI_up (ow tk ao fo :: wM tk h am gm la) hJ.1.1.1
  refine lv_aload_n hx hb d_law_283 rfl (lv_at hl 1 rfl) ?_
  refine k_callv (va_runV (As := []) (rest := []) ⟨hx, hb, hml, hown, hts⟩ (c_K_rollback l D tk H.size ac gc rr (ow tk ao fo :: (wM tk h am gm la ++ tl)) S ca bl hsI Xs V hJ.2.1.1.1 hJ.2.1.1.2 hJ.2.1.2.2.1 hJ.2.1.2.1.1 hJ.2.2.1.1.1) (cwV 0 hts (gV t_205 t_206 t_207 t_1 t_208) rfl rfl rfl (by decide +kernel) ⟨Nat.le_of_ble_eq_true rfl, Nat.le_of_ble_eq_true rfl⟩) (k_preV hP hK hD hnw 0 rfl rfl) rfl rfl hl.1 rfl (lv_room (Nat.le_of_ble_eq_true rfl)) d_law_284 ⟨by show cells + 0 ≤ 601024; omega, by show slots + 0 ≤ 7293034; omega⟩) hD hS AL_in (fun uC H locs hpC hP hD hK hS => ?_)
  replace hP : va_P D CC (wL tk ac uC rr ao fo h am gm la tl) H := hP
  replace hD : va_D (AL s) (wL tk ac uC rr ao fo h am gm la tl) := hD
  refine lv_aload_n hx hb d_law_287 rfl (lv_at hl 2 rfl) ?_
  have hP2 := vP_perm (wL_pm tk ac uC rr ao fo h am gm la tl) hP
  have hD2 := vD_perm (wL_pm tk ac uC rr ao fo h am gm la tl) hD
  refine k_callv (va_runV (As := []) (rest := []) ⟨hx, hb, hml, hown, hts⟩ (c_M_rollback l D tk H.size h am gm la (wR tk ac uC rr ao fo tl) V hJ.2.1.1.1 hJ.2.1.1.2 hJ.2.1.2.1.2 hJ.2.2.1.1.2) (cwV 0 hts (gV t_1048 t_1049 t_1050 t_9 t_1051) rfl rfl rfl (by decide +kernel) ⟨Nat.le_of_ble_eq_true rfl, Nat.le_of_ble_eq_true rfl⟩) (k_preV hP2 hK hD2 hnw 0 rfl rfl) rfl rfl hl.1 rfl (lv_room (Nat.le_of_ble_eq_true rfl)) d_law_288 ⟨by show cells + 0 ≤ 601024; omega, by show slots + 0 ≤ 7293034; omega⟩) hD2 hS AL_in (fun u9 H locs hpM hP hD hK hS => ?_)
  replace hP := vP_perm (wL_pm tk ac uC rr ao fo h am (cpK (mup gm 0 0 (nI 0)) (V - 1) 16 48) la tl).symm hP
  replace hD := vD_perm (wL_pm tk ac uC rr ao fo h am (cpK (mup gm 0 0 (nI 0)) (V - 1) 16 48) la tl).symm hD
  refine lv_goto hx hb d_law_291 (tgt := 1056) (by decide) ?_
  refine W_up (c2 := cells + 156) (s2 := slots + 5856) (by omega) (by omega) ?_
  exact kk uC rr fo (cpK (mup gm 0 0 (nI 0)) (V - 1) 16 48) la tl ls H locs (J_rollback hJ hpC) (lv_sub hl [0, 1, 2, 3, 4] rfl) hP hD hS
set_option maxHeartbeats 4000000 in
set_option maxRecDepth 100000 in
theorem go_fail (C : LC p l s m c b L xs D tk) (hn : 5 * n + 5 ≤ L) (hcl : cells + 156 ≤ 601024) (hsl : slots + 5856 ≤ 7293034) (kk : GO p l e s m below meth c Q b D tk ac am ao h (n + 1) n (cells + 156) (slots + 5856) 1056) : GO p l e s m below meth c Q b D tk ac am ao h n n cells slots 294 := by
  intro gc rr fo gm la tl ls H locs hJ hl hP hD hS
  obtain ⟨S, ca, bl, f, fm, E, mp, Xs, V, f0, B, ft, t0, hJ⟩ := hJ
  have C0 := C
  obtain ⟨⟨hx, hb, hml, hown⟩, hT, hnw, hxF, hK, ⟨hX, hbl, hL⟩, htr⟩ := C
  have hts := hts_of hT
  refine lv_aload_n hx hb d_law_294 rfl (lv_at hl 1 rfl) ?_
  refine q_arg C0 hS hl (i0 := 0) rfl (i4 := 4) rfl (j := 1) (by decide) (by omega) d_law_295 d_law_296 d_law_298 d_law_299 d_law_300 ?_
  refine k_calli (va_runV (As := [.int (xs (5 * n + 1))]) (rest := []) ⟨hx, hb, hml, hown, hts⟩ (c_K_fail l D tk H.size ac gc rr (ow tk ao fo :: (wM tk h am gm la ++ tl)) (xs (5 * n + 1))) (cwV 1 hts (gV t_231 t_232 t_233 t_1 t_234) rfl rfl rfl (by decide +kernel) ⟨Nat.le_of_ble_eq_true rfl, Nat.le_of_ble_eq_true rfl⟩) (k_preV hP hK hD hnw 0 rfl rfl) rfl rfl hl.1 rfl (lv_room (Nat.le_of_ble_eq_true rfl)) d_law_301 ⟨by show cells + 0 ≤ 601024; omega, by show slots + 0 ≤ 7293034; omega⟩) hD hS AL_in (fun r u9 H locs hpC hP hD hK hS => ?_)
  replace hP : va_P D CC (wL tk ac (if (xs (5 * n + 1)) < nI 1 ∨ nI 40 < (xs (5 * n + 1)) then gc else mup gc 1 0 (xs (5 * n + 1))) rr ao fo h am gm la tl) H := hP
  replace hD : va_D (AL s) (wL tk ac (if (xs (5 * n + 1)) < nI 1 ∨ nI 40 < (xs (5 * n + 1)) then gc else mup gc 1 0 (xs (5 * n + 1))) rr ao fo h am gm la tl) := hD
  refine lv_aload_n hx hb d_law_304 rfl (lv_at hl 2 rfl) ?_
  refine q_arg C0 hS hl (i0 := 0) rfl (i4 := 4) rfl (j := 1) (by decide) (by omega) d_law_305 d_law_306 d_law_308 d_law_309 d_law_310 ?_
  have hP2 := vP_perm (wL_pm tk ac (if (xs (5 * n + 1)) < nI 1 ∨ nI 40 < (xs (5 * n + 1)) then gc else mup gc 1 0 (xs (5 * n + 1))) rr ao fo h am gm la tl) hP
  have hD2 := vD_perm (wL_pm tk ac (if (xs (5 * n + 1)) < nI 1 ∨ nI 40 < (xs (5 * n + 1)) then gc else mup gc 1 0 (xs (5 * n + 1))) rr ao fo h am gm la tl) hD
  refine k_calli (va_runV (As := [.int (xs (5 * n + 1))]) (rest := [.int r]) ⟨hx, hb, hml, hown, hts⟩ (c_M_fail l D tk H.size h am gm la (wR tk ac (if (xs (5 * n + 1)) < nI 1 ∨ nI 40 < (xs (5 * n + 1)) then gc else mup gc 1 0 (xs (5 * n + 1))) rr ao fo tl) (xs (5 * n + 1))) (cwV 1 hts (gV t_1107 t_1108 t_1109 t_9 t_1110) rfl rfl rfl (by decide +kernel) ⟨Nat.le_of_ble_eq_true rfl, Nat.le_of_ble_eq_true rfl⟩) (k_preV hP2 hK hD2 hnw 0 rfl rfl) rfl rfl hl.1 rfl (lv_room (Nat.le_of_ble_eq_true rfl)) d_law_311 ⟨by show cells + 0 ≤ 601024; omega, by show slots + 0 ≤ 7293034; omega⟩) hD2 hS AL_in (fun r6 u9 H locs hpM hP hD hK hS => ?_)
  replace hP := vP_perm (wL_pm tk ac (if (xs (5 * n + 1)) < nI 1 ∨ nI 40 < (xs (5 * n + 1)) then gc else mup gc 1 0 (xs (5 * n + 1))) rr ao fo h am (if (xs (5 * n + 1)) < nI 1 ∨ nI 40 < (xs (5 * n + 1)) then mup gm 0 0 (nI 0) else mup (mup gm 0 0 (nI 0)) 5 0 (xs (5 * n + 1))) la tl).symm hP
  replace hD := vD_perm (wL_pm tk ac (if (xs (5 * n + 1)) < nI 1 ∨ nI 40 < (xs (5 * n + 1)) then gc else mup gc 1 0 (xs (5 * n + 1))) rr ao fo h am (if (xs (5 * n + 1)) < nI 1 ∨ nI 40 < (xs (5 * n + 1)) then mup gm 0 0 (nI 0) else mup (mup gm 0 0 (nI 0)) 5 0 (xs (5 * n + 1))) la tl).symm hD
  have hJ2 : J tk tl (if (xs (5 * n + 1)) < nI 1 ∨ nI 40 < (xs (5 * n + 1)) then gc else mup gc 1 0 (xs (5 * n + 1))) rr (if (xs (5 * n + 1)) < nI 1 ∨ nI 40 < (xs (5 * n + 1)) then mup gm 0 0 (nI 0) else mup (mup gm 0 0 (nI 0)) 5 0 (xs (5 * n + 1))) la (n + 1) := by
    by_cases q : (xs (5 * n + 1)) < nI 1 ∨ nI 40 < (xs (5 * n + 1))
    · rw [if_pos q, if_pos q]; exact JX_0 hJ _
    · rw [if_neg q, if_neg q]
      have h0 : ¬ (xs (5 * n + 1)) < 0 := fun z => q (Or.inl (by
        rw [Int32.lt_iff_toInt_lt, show (0 : Int32).toInt = 0 from rfl] at z
        rw [Int32.lt_iff_toInt_lt, nI_toInt (by decide)]
        omega))
      obtain ⟨k, hk, ek⟩ := nI_of2 (M := nI 40) (n := 40) (nI_toInt (by decide)) h0 (Int32.not_lt.mp (fun z => q (Or.inr z)))
      rw [ek]; exact J_fail hJ hk
  refine lv_icmp_eq hx hb d_law_314 (tgt := 1056) (by decide) (fun _ => ?_) (fun q => absurd (hpC.trans hpM.symm) q)
  refine W_up (c2 := cells + 156) (s2 := slots + 5856) (by omega) (by omega) ?_
  exact kk (if (xs (5 * n + 1)) < nI 1 ∨ nI 40 < (xs (5 * n + 1)) then gc else mup gc 1 0 (xs (5 * n + 1))) rr fo (if (xs (5 * n + 1)) < nI 1 ∨ nI 40 < (xs (5 * n + 1)) then mup gm 0 0 (nI 0) else mup (mup gm 0 0 (nI 0)) 5 0 (xs (5 * n + 1))) la tl ls H locs hJ2 (lv_sub hl [0, 1, 2, 3, 4] rfl) hP hD hS
set_option maxHeartbeats 4000000 in
set_option maxRecDepth 100000 in
theorem go_chunks (C : LC p l s m c b L xs D tk) (hn : 5 * n + 5 ≤ L) (hcl : cells + 156 ≤ 601024) (hsl : slots + 5856 ≤ 7293034) (kk : GO p l e s m below meth c Q b D tk ac am ao h (n + 1) n (cells + 156) (slots + 5856) 1056) : GO p l e s m below meth c Q b D tk ac am ao h n n cells slots 319 := by
  intro gc rr fo gm la tl ls H locs hJ hl hP hD hS
  obtain ⟨S, ca, bl, f, fm, E, mp, Xs, V, f0, B, ft, t0, hJ⟩ := hJ
  have C0 := C
  obtain ⟨⟨hx, hb, hml, hown⟩, hT, hnw, hxF, hK, ⟨hX, hbl, hL⟩, htr⟩ := C
  have hts := hts_of hT
  refine lv_aload_n hx hb d_law_319 rfl (lv_at hl 1 rfl) ?_
  refine k_calli (va_runV (As := []) (rest := []) ⟨hx, hb, hml, hown, hts⟩ (c_K_chunks l D tk H.size ac gc rr (ow tk ao fo :: (wM tk h am gm la ++ tl)) ) (cwV 0 hts (gV t_235 t_236 t_237 t_1 t_238) rfl rfl rfl (by decide +kernel) ⟨Nat.le_of_ble_eq_true rfl, Nat.le_of_ble_eq_true rfl⟩) (k_preV hP hK hD hnw 0 rfl rfl) rfl rfl hl.1 rfl (lv_room (Nat.le_of_ble_eq_true rfl)) d_law_320 ⟨by show cells + 0 ≤ 601024; omega, by show slots + 0 ≤ 7293034; omega⟩) hD hS AL_in (fun r u9 H locs hpC hP hD hK hS => ?_)
  replace hP : va_P D CC (wL tk ac gc rr ao fo h am gm la tl) H := hP
  replace hD : va_D (AL s) (wL tk ac gc rr ao fo h am gm la tl) := hD
  refine lv_aload_n hx hb d_law_323 rfl (lv_at hl 2 rfl) ?_
  have hP2 := vP_perm (wL_pm tk ac gc rr ao fo h am gm la tl) hP
  have hD2 := vD_perm (wL_pm tk ac gc rr ao fo h am gm la tl) hD
  refine k_calli (va_runV (As := []) (rest := [.int r]) ⟨hx, hb, hml, hown, hts⟩ (c_M_chunks l D tk H.size h am gm la (wR tk ac gc rr ao fo tl) ) (cwV 0 hts (gV t_1111 t_1112 t_1113 t_9 t_1114) rfl rfl rfl (by decide +kernel) ⟨Nat.le_of_ble_eq_true rfl, Nat.le_of_ble_eq_true rfl⟩) (k_preV hP2 hK hD2 hnw 0 rfl rfl) rfl rfl hl.1 rfl (lv_room (Nat.le_of_ble_eq_true rfl)) d_law_324 ⟨by show cells + 0 ≤ 601024; omega, by show slots + 0 ≤ 7293034; omega⟩) hD2 hS AL_in (fun r6 u9 H locs hpM hP hD hK hS => ?_)
  replace hP := vP_perm (wL_pm tk ac gc rr ao fo h am (mup gm 0 0 (nI 0)) la tl).symm hP
  replace hD := vD_perm (wL_pm tk ac gc rr ao fo h am (mup gm 0 0 (nI 0)) la tl).symm hD
  refine lv_icmp_eq hx hb d_law_327 (tgt := 1056) (by decide) (fun _ => ?_) (fun q => absurd (hpC.trans ((hJ.1.1.2.2.1.trans (by rw [← hJ.1.2.2.2.1, List.length_map])).trans (hJ.1.2.1.1.symm.trans hpM.symm))) q)
  refine W_up (c2 := cells + 156) (s2 := slots + 5856) (by omega) (by omega) ?_
  exact kk gc rr fo (mup gm 0 0 (nI 0)) la tl ls H locs (JX_0 hJ _) (lv_sub hl [0, 1, 2, 3, 4] rfl) hP hD hS
set_option maxHeartbeats 4000000 in
set_option maxRecDepth 100000 in
theorem go_versions (C : LC p l s m c b L xs D tk) (hn : 5 * n + 5 ≤ L) (hcl : cells + 156 ≤ 601024) (hsl : slots + 5856 ≤ 7293034) (kk : GO p l e s m below meth c Q b D tk ac am ao h (n + 1) n (cells + 156) (slots + 5856) 1056) : GO p l e s m below meth c Q b D tk ac am ao h n n cells slots 332 := by
  intro gc rr fo gm la tl ls H locs hJ hl hP hD hS
  obtain ⟨S, ca, bl, f, fm, E, mp, Xs, V, f0, B, ft, t0, hJ⟩ := hJ
  have C0 := C
  obtain ⟨⟨hx, hb, hml, hown⟩, hT, hnw, hxF, hK, ⟨hX, hbl, hL⟩, htr⟩ := C
  have hts := hts_of hT
  refine lv_aload_n hx hb d_law_332 rfl (lv_at hl 1 rfl) ?_
  refine k_calli (va_runV (As := []) (rest := []) ⟨hx, hb, hml, hown, hts⟩ (c_K_versions l D tk H.size ac gc rr (ow tk ao fo :: (wM tk h am gm la ++ tl)) ) (cwV 0 hts (gV t_239 t_240 t_241 t_1 t_242) rfl rfl rfl (by decide +kernel) ⟨Nat.le_of_ble_eq_true rfl, Nat.le_of_ble_eq_true rfl⟩) (k_preV hP hK hD hnw 0 rfl rfl) rfl rfl hl.1 rfl (lv_room (Nat.le_of_ble_eq_true rfl)) d_law_333 ⟨by show cells + 0 ≤ 601024; omega, by show slots + 0 ≤ 7293034; omega⟩) hD hS AL_in (fun r u9 H locs hpC hP hD hK hS => ?_)
  replace hP : va_P D CC (wL tk ac gc rr ao fo h am gm la tl) H := hP
  replace hD : va_D (AL s) (wL tk ac gc rr ao fo h am gm la tl) := hD
  refine lv_aload_n hx hb d_law_336 rfl (lv_at hl 2 rfl) ?_
  have hP2 := vP_perm (wL_pm tk ac gc rr ao fo h am gm la tl) hP
  have hD2 := vD_perm (wL_pm tk ac gc rr ao fo h am gm la tl) hD
  refine k_calli (va_runV (As := []) (rest := [.int r]) ⟨hx, hb, hml, hown, hts⟩ (c_M_versions l D tk H.size h am gm la (wR tk ac gc rr ao fo tl) ) (cwV 0 hts (gV t_1115 t_1116 t_1117 t_9 t_1118) rfl rfl rfl (by decide +kernel) ⟨Nat.le_of_ble_eq_true rfl, Nat.le_of_ble_eq_true rfl⟩) (k_preV hP2 hK hD2 hnw 0 rfl rfl) rfl rfl hl.1 rfl (lv_room (Nat.le_of_ble_eq_true rfl)) d_law_337 ⟨by show cells + 0 ≤ 601024; omega, by show slots + 0 ≤ 7293034; omega⟩) hD2 hS AL_in (fun r6 u9 H locs hpM hP hD hK hS => ?_)
  replace hP := vP_perm (wL_pm tk ac gc rr ao fo h am (mup gm 0 0 (nI 0)) la tl).symm hP
  replace hD := vD_perm (wL_pm tk ac gc rr ao fo h am (mup gm 0 0 (nI 0)) la tl).symm hD
  refine lv_icmp_eq hx hb d_law_340 (tgt := 1056) (by decide) (fun _ => ?_) (fun q => absurd (hpC.trans (hJ.2.1.2.1.1.trans (hJ.2.1.2.1.2.symm.trans hpM.symm))) q)
  refine W_up (c2 := cells + 156) (s2 := slots + 5856) (by omega) (by omega) ?_
  exact kk gc rr fo (mup gm 0 0 (nI 0)) la tl ls H locs (JX_0 hJ _) (lv_sub hl [0, 1, 2, 3, 4] rfl) hP hD hS
set_option maxHeartbeats 4000000 in
set_option maxRecDepth 100000 in
theorem go_shown (C : LC p l s m c b L xs D tk) (hn : 5 * n + 5 ≤ L) (hcl : cells + 156 ≤ 601024) (hsl : slots + 5856 ≤ 7293034) (kk : GO p l e s m below meth c Q b D tk ac am ao h (n + 1) n (cells + 156) (slots + 5856) 1056) : GO p l e s m below meth c Q b D tk ac am ao h n n cells slots 944 := by
  intro gc rr fo gm la tl ls H locs hJ hl hP hD hS
  obtain ⟨S, ca, bl, f, fm, E, mp, Xs, V, f0, B, ft, t0, hJ⟩ := hJ
  have C0 := C
  obtain ⟨⟨hx, hb, hml, hown⟩, hT, hnw, hxF, hK, ⟨hX, hbl, hL⟩, htr⟩ := C
  have hts := hts_of hT
  refine lv_aload_n hx hb d_law_944 rfl (lv_at hl 1 rfl) ?_
  refine k_calli (va_runV (As := []) (rest := []) ⟨hx, hb, hml, hown, hts⟩ (c_K_shown l D tk H.size ac gc rr (ow tk ao fo :: (wM tk h am gm la ++ tl)) ) (cwV 0 hts (gV t_274 t_275 t_276 t_1 t_277) rfl rfl rfl (by decide +kernel) ⟨Nat.le_of_ble_eq_true rfl, Nat.le_of_ble_eq_true rfl⟩) (k_preV hP hK hD hnw 0 rfl rfl) rfl rfl hl.1 rfl (lv_room (Nat.le_of_ble_eq_true rfl)) d_law_945 ⟨by show cells + 0 ≤ 601024; omega, by show slots + 0 ≤ 7293034; omega⟩) hD hS AL_in (fun r u9 H locs hpC hP hD hK hS => ?_)
  replace hP : va_P D CC (wL tk ac gc rr ao fo h am gm la tl) H := hP
  replace hD : va_D (AL s) (wL tk ac gc rr ao fo h am gm la tl) := hD
  refine lv_aload_n hx hb d_law_948 rfl (lv_at hl 2 rfl) ?_
  have hP2 := vP_perm (wL_pm tk ac gc rr ao fo h am gm la tl) hP
  have hD2 := vD_perm (wL_pm tk ac gc rr ao fo h am gm la tl) hD
  refine k_calli (va_runV (As := []) (rest := [.int r]) ⟨hx, hb, hml, hown, hts⟩ (c_M_shown l D tk H.size h am gm la (wR tk ac gc rr ao fo tl) ) (cwV 0 hts (gV t_1235 t_1236 t_1237 t_9 t_1238) rfl rfl rfl (by decide +kernel) ⟨Nat.le_of_ble_eq_true rfl, Nat.le_of_ble_eq_true rfl⟩) (k_preV hP2 hK hD2 hnw 0 rfl rfl) rfl rfl hl.1 rfl (lv_room (Nat.le_of_ble_eq_true rfl)) d_law_949 ⟨by show cells + 0 ≤ 601024; omega, by show slots + 0 ≤ 7293034; omega⟩) hD2 hS AL_in (fun r6 u9 H locs hpM hP hD hK hS => ?_)
  replace hP := vP_perm (wL_pm tk ac gc rr ao fo h am (mup gm 0 0 (nI 0)) la tl).symm hP
  replace hD := vD_perm (wL_pm tk ac gc rr ao fo h am (mup gm 0 0 (nI 0)) la tl).symm hD
  refine lv_icmp_eq hx hb d_law_952 (tgt := 1056) (by decide) (fun _ => ?_) (fun q => absurd (hpC.trans (hJ.2.2.2.1.2.2.symm.trans hpM.symm)) q)
  refine W_up (c2 := cells + 156) (s2 := slots + 5856) (by omega) (by omega) ?_
  exact kk gc rr fo (mup gm 0 0 (nI 0)) la tl ls H locs (JX_0 hJ _) (lv_sub hl [0, 1, 2, 3, 4] rfl) hP hD hS
set_option maxHeartbeats 4000000 in
set_option maxRecDepth 100000 in
theorem go_proof (C : LC p l s m c b L xs D tk) (hn : 5 * n + 5 ≤ L) (hcl : cells + 156 ≤ 601024) (hsl : slots + 5856 ≤ 7293034) (kk : GO p l e s m below meth c Q b D tk ac am ao h (n + 1) n (cells + 156) (slots + 5856) 1056) : GO p l e s m below meth c Q b D tk ac am ao h n n cells slots 753 := by
  intro gc rr fo gm la tl ls H locs hJ hl hP hD hS
  obtain ⟨S, ca, bl, f, fm, E, mp, Xs, V, f0, B, ft, t0, hJ⟩ := hJ
  have C0 := C
  obtain ⟨⟨hx, hb, hml, hown⟩, hT, hnw, hxF, hK, ⟨hX, hbl, hL⟩, htr⟩ := C
  have hts := hts_of hT
  refine lv_aload_n hx hb d_law_753 rfl (lv_at hl 1 rfl) ?_
  refine q_arg C0 hS hl (i0 := 0) rfl (i4 := 4) rfl (j := 1) (by decide) (by omega) d_law_754 d_law_755 d_law_757 d_law_758 d_law_759 ?_
  refine k_calli (va_runV (As := [.int (xs (5 * n + 1))]) (rest := []) ⟨hx, hb, hml, hown, hts⟩ (c_K_proof l D tk H.size ac gc rr (ow tk ao fo :: (wM tk h am gm la ++ tl)) B.length hJ.2.2.2.1.1.2.2.1 hJ.2.2.2.1.1.1.1 (xs (5 * n + 1))) (cwV 1 hts (gV t_243 t_244 t_245 t_1 t_246) rfl rfl rfl (by decide +kernel) ⟨Nat.le_of_ble_eq_true rfl, Nat.le_of_ble_eq_true rfl⟩) (k_preV hP hK hD hnw 0 rfl rfl) rfl rfl hl.1 rfl (lv_room (Nat.le_of_ble_eq_true rfl)) d_law_760 ⟨by show cells + 0 ≤ 601024; omega, by show slots + 0 ≤ 7293034; omega⟩) hD hS AL_in (fun r u9 H locs hpC hP hD hK hS => ?_)
  replace hP : va_P D CC (wL tk ac gc rr ao fo h am gm la tl) H := hP
  replace hD : va_D (AL s) (wL tk ac gc rr ao fo h am gm la tl) := hD
  refine lv_aload_n hx hb d_law_763 rfl (lv_at hl 2 rfl) ?_
  refine q_arg C0 hS hl (i0 := 0) rfl (i4 := 4) rfl (j := 1) (by decide) (by omega) d_law_764 d_law_765 d_law_767 d_law_768 d_law_769 ?_
  have hP2 := vP_perm (wL_pm tk ac gc rr ao fo h am gm la tl) hP
  have hD2 := vD_perm (wL_pm tk ac gc rr ao fo h am gm la tl) hD
  refine k_calli (va_runV (As := [.int (xs (5 * n + 1))]) (rest := [.int r]) ⟨hx, hb, hml, hown, hts⟩ (c_M_proof l D tk H.size h am gm la (wR tk ac gc rr ao fo tl) B.length (Nat.le_trans hJ.2.2.2.1.1.2.2.1 (by decide)) hJ.2.2.2.1.1.2.1.1 (xs (5 * n + 1))) (cwV 1 hts (gV t_1195 t_1196 t_1197 t_9 t_1198) rfl rfl rfl (by decide +kernel) ⟨Nat.le_of_ble_eq_true rfl, Nat.le_of_ble_eq_true rfl⟩) (k_preV hP2 hK hD2 hnw 0 rfl rfl) rfl rfl hl.1 rfl (lv_room (Nat.le_of_ble_eq_true rfl)) d_law_770 ⟨by show cells + 0 ≤ 601024; omega, by show slots + 0 ≤ 7293034; omega⟩) hD2 hS AL_in (fun r6 u9 H locs hpM hP hD hK hS => ?_)
  replace hP := vP_perm (wL_pm tk ac gc rr ao fo h am (mup gm 0 0 (nI 0)) la tl).symm hP
  replace hD := vD_perm (wL_pm tk ac gc rr ao fo h am (mup gm 0 0 (nI 0)) la tl).symm hD
  refine lv_icmp_eq hx hb d_law_773 (tgt := 1056) (by decide) (fun _ => ?_) (fun q => absurd (hpC.trans ((pr_same hJ.2.2.2.1.1.1 hJ.2.2.2.1.1.2.1 hJ.2.2.2.1.1.2.2.1 _).trans hpM.symm)) q)
  refine W_up (c2 := cells + 156) (s2 := slots + 5856) (by omega) (by omega) ?_
  exact kk gc rr fo (mup gm 0 0 (nI 0)) la tl ls H locs (JX_0 hJ _) (lv_sub hl [0, 1, 2, 3, 4] rfl) hP hD hS
set_option maxHeartbeats 4000000 in
set_option maxRecDepth 100000 in
theorem go_take (C : LC p l s m c b L xs D tk) (hn : 5 * n + 5 ≤ L) (hcl : cells + 156 ≤ 601024) (hsl : slots + 5856 ≤ 7293034) (kk : GO p l e s m below meth c Q b D tk ac am ao h (n + 1) n (cells + 156) (slots + 5856) 1056) : GO p l e s m below meth c Q b D tk ac am ao h n n cells slots 778 := by
  intro gc rr fo gm la tl ls H locs hJ hl hP hD hS
  obtain ⟨S, ca, bl, f, fm, E, mp, Xs, V, f0, B, ft, t0, hJ⟩ := hJ
  have C0 := C
  obtain ⟨⟨hx, hb, hml, hown⟩, hT, hnw, hxF, hK, ⟨hX, hbl, hL⟩, htr⟩ := C
  have hts := hts_of hT
  refine lv_aload_n hx hb d_law_778 rfl (lv_at hl 1 rfl) ?_
  refine q_arg C0 hS hl (i0 := 0) rfl (i4 := 4) rfl (j := 1) (by decide) (by omega) d_law_779 d_law_780 d_law_782 d_law_783 d_law_784 ?_
  refine q_arg C0 hS hl (i0 := 0) rfl (i4 := 4) rfl (j := 2) (by decide) (by omega) d_law_785 d_law_786 d_law_788 d_law_789 d_law_790 ?_
  refine q_take C0 hP hD hS hl hJ hcl hsl (fun r gc2 H locs hR hP hD hS => ?_)
  refine lv_aload_n hx hb d_law_794 rfl (lv_at hl 2 rfl) ?_
  refine q_arg C0 hS hl (i0 := 0) rfl (i4 := 4) rfl (j := 1) (by decide) (by omega) d_law_795 d_law_796 d_law_798 d_law_799 d_law_800 ?_
  refine q_arg C0 hS hl (i0 := 0) rfl (i4 := 4) rfl (j := 2) (by decide) (by omega) d_law_801 d_law_802 d_law_804 d_law_805 d_law_806 ?_
  have hP2 := vP_perm (wL_pm tk ac gc2 rr ao fo h am gm la tl) hP
  have hD2 := vD_perm (wL_pm tk ac gc2 rr ao fo h am gm la tl) hD
  refine k_calli (va_runV (As := [.int (xs (5 * n + 1)), .int (xs (5 * n + 2))]) (rest := [.int r]) ⟨hx, hb, hml, hown, hts⟩ (c_M_take l D tk H.size h am gm la (wR tk ac gc2 rr ao fo tl) t0 hJ.2.2.2.1.2.1.1 hJ.2.2.2.1.2.1.2.2.2.1 (xs (5 * n + 1)) (xs (5 * n + 2))) (cwV 2 hts (gV t_1199 t_1200 t_1201 t_9 t_1202) rfl rfl rfl (by decide +kernel) ⟨Nat.le_of_ble_eq_true rfl, Nat.le_of_ble_eq_true rfl⟩) (k_preV hP2 hK hD2 hnw 0 rfl rfl) rfl rfl hl.1 rfl (lv_room (Nat.le_of_ble_eq_true rfl)) d_law_807 ⟨by show cells + 0 ≤ 601024; omega, by show slots + 0 ≤ 7293034; omega⟩) hD2 hS AL_in (fun r6 u9 H locs hpM hP hD hK hS => ?_)
  replace hP := vP_perm (wL_pm tk ac gc2 rr ao fo h am (if ((xs (5 * n + 2)) < nI 1 ∨ nI 4 < (xs (5 * n + 2))) ∨ ¬ nI t0 + (xs (5 * n + 2)) ≤ nI 400 then mup gm 0 0 (nI 0) else tkF (mup gm 0 0 (nI 0)) t0 (xs (5 * n + 1)) (xs (5 * n + 2)).toNatClampNeg) la tl).symm hP
  replace hD := vD_perm (wL_pm tk ac gc2 rr ao fo h am (if ((xs (5 * n + 2)) < nI 1 ∨ nI 4 < (xs (5 * n + 2))) ∨ ¬ nI t0 + (xs (5 * n + 2)) ≤ nI 400 then mup gm 0 0 (nI 0) else tkF (mup gm 0 0 (nI 0)) t0 (xs (5 * n + 1)) (xs (5 * n + 2)).toNatClampNeg) la tl).symm hD
  refine lv_icmp_eq hx hb d_law_810 (tgt := 1056) (by decide) (fun _ => ?_) (fun q => absurd (hR.1.trans hpM.symm) q)
  refine W_up (c2 := cells + 156) (s2 := slots + 5856) (by omega) (by omega) ?_
  exact kk gc2 rr fo (if ((xs (5 * n + 2)) < nI 1 ∨ nI 4 < (xs (5 * n + 2))) ∨ ¬ nI t0 + (xs (5 * n + 2)) ≤ nI 400 then mup gm 0 0 (nI 0) else tkF (mup gm 0 0 (nI 0)) t0 (xs (5 * n + 1)) (xs (5 * n + 2)).toNatClampNeg) la tl ls H locs hR.2 (lv_sub hl [0, 1, 2, 3, 4] rfl) hP hD hS
set_option maxHeartbeats 4000000 in
set_option maxRecDepth 100000 in
theorem go_carry (C : LC p l s m c b L xs D tk) (hn : 5 * n + 5 ≤ L) (hcl : cells + 156 ≤ 601024) (hsl : slots + 5856 ≤ 7293034) (kk : GO p l e s m below meth c Q b D tk ac am ao h (n + 1) n (cells + 156) (slots + 5856) 1056) : GO p l e s m below meth c Q b D tk ac am ao h n n cells slots 815 := by
  intro gc rr fo gm la tl ls H locs hJ hl hP hD hS
  obtain ⟨S, ca, bl, f, fm, E, mp, Xs, V, f0, B, ft, t0, hJ⟩ := hJ
  have C0 := C
  obtain ⟨⟨hx, hb, hml, hown⟩, hT, hnw, hxF, hK, ⟨hX, hbl, hL⟩, htr⟩ := C
  have hts := hts_of hT
  refine lv_aload_n hx hb d_law_815 rfl (lv_at hl 1 rfl) ?_
  refine q_arg C0 hS hl (i0 := 0) rfl (i4 := 4) rfl (j := 1) (by decide) (by omega) d_law_816 d_law_817 d_law_819 d_law_820 d_law_821 ?_
  refine q_arg C0 hS hl (i0 := 0) rfl (i4 := 4) rfl (j := 2) (by decide) (by omega) d_law_822 d_law_823 d_law_825 d_law_826 d_law_827 ?_
  refine k_calli (va_runV (As := [.int (xs (5 * n + 1)), .int (xs (5 * n + 2))]) (rest := []) ⟨hx, hb, hml, hown, hts⟩ (c_K_carry l D tk H.size ac gc rr (ow tk ao fo :: (wM tk h am gm la ++ tl)) B.length hJ.2.2.2.1.1.2.2.1 hJ.2.2.2.1.1.1.1 (xs (5 * n + 1)) (xs (5 * n + 2))) (cwV 2 hts (gV t_259 t_260 t_261 t_1 t_262) rfl rfl rfl (by decide +kernel) ⟨Nat.le_of_ble_eq_true rfl, Nat.le_of_ble_eq_true rfl⟩) (k_preV hP hK hD hnw 0 rfl rfl) rfl rfl hl.1 rfl (lv_room (Nat.le_of_ble_eq_true rfl)) d_law_828 ⟨by show cells + 0 ≤ 601024; omega, by show slots + 0 ≤ 7293034; omega⟩) hD hS AL_in (fun r uC H locs hpC hP hD hK hS => ?_)
  replace hP : va_P D CC (wL tk ac uC rr ao fo h am gm la tl) H := hP
  replace hD : va_D (AL s) (wL tk ac uC rr ao fo h am gm la tl) := hD
  refine lv_aload_n hx hb d_law_831 rfl (lv_at hl 2 rfl) ?_
  refine q_arg C0 hS hl (i0 := 0) rfl (i4 := 4) rfl (j := 1) (by decide) (by omega) d_law_832 d_law_833 d_law_835 d_law_836 d_law_837 ?_
  refine q_arg C0 hS hl (i0 := 0) rfl (i4 := 4) rfl (j := 2) (by decide) (by omega) d_law_838 d_law_839 d_law_841 d_law_842 d_law_843 ?_
  have hP2 := vP_perm (wL_pm tk ac uC rr ao fo h am gm la tl) hP
  have hD2 := vD_perm (wL_pm tk ac uC rr ao fo h am gm la tl) hD
  refine k_calli (va_runV (As := [.int (xs (5 * n + 1)), .int (xs (5 * n + 2))]) (rest := [.int r]) ⟨hx, hb, hml, hown, hts⟩ (c_M_carry l D tk H.size h am gm la (wR tk ac uC rr ao fo tl) B.length (Nat.le_trans hJ.2.2.2.1.1.2.2.1 (by decide)) hJ.2.2.2.1.1.2.1.1 (xs (5 * n + 1)) (xs (5 * n + 2))) (cwV 2 hts (gV t_1203 t_1204 t_1205 t_9 t_1206) rfl rfl rfl (by decide +kernel) ⟨Nat.le_of_ble_eq_true rfl, Nat.le_of_ble_eq_true rfl⟩) (k_preV hP2 hK hD2 hnw 0 rfl rfl) rfl rfl hl.1 rfl (lv_room (Nat.le_of_ble_eq_true rfl)) d_law_844 ⟨by show cells + 0 ≤ 601024; omega, by show slots + 0 ≤ 7293034; omega⟩) hD2 hS AL_in (fun r6 u9 H locs hpM hP hD hK hS => ?_)
  replace hP := vP_perm (wL_pm tk ac uC rr ao fo h am (mup (cyF (mup gm 0 0 (nI 0)) (xs (5 * n + 1)) (xs (5 * n + 2)) B.length) 23 0 (nI B.length)) la tl).symm hP
  replace hD := vD_perm (wL_pm tk ac uC rr ao fo h am (mup (cyF (mup gm 0 0 (nI 0)) (xs (5 * n + 1)) (xs (5 * n + 2)) B.length) 23 0 (nI B.length)) la tl).symm hD
  refine lv_icmp_eq hx hb d_law_847 (tgt := 1056) (by decide) (fun _ => ?_) (fun q => absurd (hpC.2.trans hpM.symm) q)
  refine W_up (c2 := cells + 156) (s2 := slots + 5856) (by omega) (by omega) ?_
  exact kk uC rr fo (mup (cyF (mup gm 0 0 (nI 0)) (xs (5 * n + 1)) (xs (5 * n + 2)) B.length) 23 0 (nI B.length)) la tl ls H locs (J_carry hJ hpC.1) (lv_sub hl [0, 1, 2, 3, 4] rfl) hP hD hS
set_option maxHeartbeats 4000000 in
set_option maxRecDepth 100000 in
theorem go_none (C : LC p l s m c b L xs D tk) (hn : 5 * n + 5 ≤ L) (hcl : cells + 156 ≤ 601024) (hsl : slots + 5856 ≤ 7293034) (kk : GO p l e s m below meth c Q b D tk ac am ao h (n + 1) n (cells + 156) (slots + 5856) 1056) : GO p l e s m below meth c Q b D tk ac am ao h n n cells slots 1056 := by
  intro gc rr fo gm la tl ls H locs hJ hl hP hD hS
  obtain ⟨S, ca, bl, f, fm, E, mp, Xs, V, f0, B, ft, t0, hJ⟩ := hJ
  have C0 := C
  obtain ⟨⟨hx, hb, hml, hown⟩, hT, hnw, hxF, hK, ⟨hX, hbl, hL⟩, htr⟩ := C
  have hts := hts_of hT
  refine W_up (c2 := cells + 156) (s2 := slots + 5856) (by omega) (by omega) ?_
  exact kk gc rr fo gm la tl ls H locs (JX_cg hJ (L := []) frx_r (by decide) (M := []) frx_r (by decide)).j (lv_sub hl [0, 1, 2, 3, 4] rfl) hP hD hS
end QQ
