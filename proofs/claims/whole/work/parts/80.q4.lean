theorem iv_no {g : Nat → Nat → Int32} {v : Int32} (h : v < nI 0 ∨ g 3 0 - nI 1 < v) : ivM g v = 0 := by unfold ivM; rw [if_pos h]; rfl
theorem iv_ok {g : Nat → Nat → Int32} {v : Int32} (h : ¬ (v < nI 0 ∨ g 3 0 - nI 1 < v)) : ¬ ivM g v = 0 := by unfold ivM; rw [if_neg h]; decide
theorem gi_1 {k : Nat} (hk : k < 48) : giM (-1) (nI k) = 768 + k := by unfold giM; rw [if_pos rfl, nI_clamp (by omega)]
theorem gi_2 {j k : Nat} (hj : j < 16) (hk : k < 48) : giM (nI j) (nI k) = 48 * j + k := by unfold giM; rw [if_neg (nI_nm1 (by omega)), nI_clamp (by omega), nI_clamp (by omega)]
theorem b1z {f : Nat → Int32} (h : bz f) {j : Nat} (h0 : ¬ f j = 0) : f j = nI 1 := (h j).resolve_left h0
theorem sl_0 (f : Nat → Int32) : slM f 0 0 = 0 := rfl
section QQ
variable {p : Program} {l : Launch} {e : Env} {s : State} {m : MethodId} {below : List Frame} {meth : Method} {c : Code} {H : Heap} {locs : List Loc} {cells slots : Nat} {Q : State → Prop}
variable {b L : Nat} {xs : Nat → Int32} {D : va_G} {tk : Nat → ClassId} {ac am : Nat → Nat} {gc gm : Nat → Nat → Int32} {rr : Nat → Nat → Option Nat} {ao h : Nat} {fo : Nat → Int64} {la : Nat → Int64} {tl : va_W} {pc : Nat} {ls : Array Slot} {rest : List Value} {lv : List (Nat × Value)}
variable {n : Nat} {S : List ck_I} {ca : Nat → Nat} {bl : Nat → Nat → Option Nat} {f : Nat} {fm : Nat → Nat → Option Int32} {E : List (Nat × Nat × Nat × Nat)} {mp : Nat} {Xs : Nat → List kv_I} {V : Nat} {f0 : Nat → Option Int32} {B : List Int32} {ft : Nat → Int32} {t0 : Nat}

set_option maxHeartbeats 4000000 in
set_option maxRecDepth 100000 in
theorem q_get (C : LC p l s m c b L xs D tk) (hP : va_P D CC (wL tk ac gc rr ao fo h am gm la tl) H) (hD : va_D (AL s) (wL tk ac gc rr ao fo h am gm la tl)) (hS : va_S (AL s) s.heap H locs) (hl : lv_has ls 7 lv) (hJ : JX tk tl gc rr gm la n S ca bl f fm E mp Xs V f0 B ft t0) (hcl : cells + 156 ≤ 601024) (hsl : slots + 5856 ≤ 7293034) {v key : Int32} (_dec : Decidable (gbM gm v key))
    (kk : ∀ (r : Int32) (gc2 : Nat → Nat → Int32) (rr2 : Nat → Nat → Option Nat) (fo2 : Nat → Int64) (tl2 : va_W) (H1 : Heap) (locs1 : List Loc), (∀ (rM : Int32) (gm2 : Nat → Nat → Int32) (la2 : Nat → Int64), (rM = (if gbM gm v key then 0 else if gm 1 (giM v key) = 0 then 0 else gm 2 (giM v key)) ∧ gm2 = (if gbM gm v key then mup gm 0 0 (nI 1) else if gm 1 (giM v key) = 0 then mup gm 0 0 (nI 2) else mup gm 0 0 (nI 0)) ∧ la2 = la) → J tk tl2 gc2 rr2 gm2 la2 (n + 1) ∧ gm2 0 0 = r ∧ (r = 0 → fo2 0 = rM.toInt64)) → va_P D CC (wL tk ac gc2 rr2 ao fo2 h am gm la tl2) H1 → va_D (AL s) (wL tk ac gc2 rr2 ao fo2 h am gm la tl2) → va_S (AL s) s.heap H1 locs1 → W p l e room_1 s m #[Value.ref b] below meth c H1 locs1 (cells + 156) (slots + 5856) Q (F0 m 362 ls [.int r])) : W p l e room_1 s m #[Value.ref b] below meth c H locs cells slots Q (F0 m 359 ls [.ref ao, .int key, .int v, .ref (ac 0)]) := by
  obtain ⟨⟨hx, hb, hml, hown⟩, hT, hnw, hxF, hK, ⟨hX, hbl, hL⟩, htr⟩ := C
  have hts := hts_of hT
  have hsI : sI tk (ow tk ao fo :: (wM tk h am gm la ++ tl)) S ca bl := sI_up (ow tk ao fo :: wM tk h am gm la) hJ.1.1.1
  have hV12 := hJ.2.1.1
  have hVc := hJ.2.1.2.1.1
  have hVm := hJ.2.1.2.1.2
  have hh9 := hJ.2.1.2.2.1
  by_cases hv1 : v = -1
  · subst hv1
    rcases kb key with ⟨hb1, hb2⟩ | ⟨hb2, k, hk, rfl⟩
    · skip
      refine k_calli (runSW (n := 4) (As := [.ref (ac 0), .int (-1), .int key, .ref ao]) (rest := []) hx hb hml hown hT (l_get_key1 l htr D tk H.size ac gc rr ao fo (wM tk h am gm la ++ tl) key hb1) t_739 t_740 t_0 t_741 rfl rfl (by decide +kernel) ⟨Nat.le_of_ble_eq_true rfl, Nat.le_of_ble_eq_true rfl⟩ (x_preS hP hK hD hnw hxF (st_keptL hS)) rfl rfl hl.1 rfl (lv_room (Nat.le_of_ble_eq_true rfl)) d_law_359 ⟨by show cells + 1 ≤ 601024; omega, by show slots + 6 ≤ 7293034; omega⟩) hD hS AL_in (fun r9 u9 H1 locs1 hp hP hD hK hS => ?_)
      refine W_up (c2 := cells + 156) (s2 := slots + 5856) (by omega) (by omega) ?_
      subst hp
      refine kk _ gc rr fo tl H1 locs1 (fun rM gm2 la2 hM => ?_) hP hD hS
      obtain ⟨rfl, rfl, rfl⟩ := hM
      rw [if_pos (show gbM gm (-1) key from Or.inr hb2)]
      exact ⟨JX_0 hJ _, rd_eq, fun q => absurd q (by decide)⟩
    · obtain ⟨⟨e1, e2⟩, e3⟩ := And.intro (hJ.2.2.1.2.1 k hk) (hJ.2.2.1.2.2 k hk)
      by_cases h3 : gc 3 k = 0
      · have hm1 : gm 1 (giM (-1) (nI k)) = 0 := by rw [gi_1 hk]; exact e3.1.mpr (e1.mp h3)
        refine k_calli (runSW (n := 4) (As := [.ref (ac 0), .int (-1), .int (nI k), .ref ao]) (rest := []) hx hb hml hown hT (l_get_no1 l htr D tk H.size ac gc rr ao fo (wM tk h am gm la ++ tl) k hk h3) t_739 t_740 t_0 t_741 rfl rfl (by decide +kernel) ⟨Nat.le_of_ble_eq_true rfl, Nat.le_of_ble_eq_true rfl⟩ (x_preS hP hK hD hnw hxF (st_keptL hS)) rfl rfl hl.1 rfl (lv_room (Nat.le_of_ble_eq_true rfl)) d_law_359 ⟨by show cells + 1 ≤ 601024; omega, by show slots + 6 ≤ 7293034; omega⟩) hD hS AL_in (fun r9 u9 H1 locs1 hp hP hD hK hS => ?_)
        refine W_up (c2 := cells + 156) (s2 := slots + 5856) (by omega) (by omega) ?_
        subst hp
        refine kk _ gc rr fo tl H1 locs1 (fun rM gm2 la2 hM => ?_) hP hD hS
        obtain ⟨rfl, rfl, rfl⟩ := hM
        rw [if_neg (show ¬ gbM gm (-1) (nI k) from fun q => q.elim (fun q2 => q2.1 rfl) hb2), if_pos hm1]
        exact ⟨JX_0 hJ _, rd_eq, fun q => absurd q (by decide)⟩
      · have hm1 : ¬ gm 1 (giM (-1) (nI k)) = 0 := by rw [gi_1 hk]; exact fun q => h3 (e1.mpr (e3.1.mp q))
        refine k_calli (runSW (n := 4) (As := [.ref (ac 0), .int (-1), .int (nI k), .ref ao]) (rest := []) hx hb hml hown hT (l_get1 l D tk H.size ac gc rr ao fo (wM tk h am gm la ++ tl) k hk (b1z hJ.2.2.1.1.1 h3)) t_739 t_740 t_0 t_741 rfl rfl (by decide +kernel) ⟨Nat.le_of_ble_eq_true rfl, Nat.le_of_ble_eq_true rfl⟩ (x_preS hP hK hD hnw hxF (st_keptL hS)) rfl rfl hl.1 rfl (lv_room (Nat.le_of_ble_eq_true rfl)) d_law_359 ⟨by show cells + 0 ≤ 601024; omega, by show slots + 0 ≤ 7293034; omega⟩) hD hS AL_in (fun r9 u9 H1 locs1 hp hP hD hK hS => ?_)
        refine W_up (c2 := cells + 156) (s2 := slots + 5856) (by omega) (by omega) ?_
        subst hp
        refine kk _ gc rr _ tl H1 locs1 (fun rM gm2 la2 hM => ?_) hP hD hS
        obtain ⟨rfl, rfl, rfl⟩ := hM
        rw [if_neg (show ¬ gbM gm (-1) (nI k) from fun q => q.elim (fun q2 => q2.1 rfl) hb2), if_neg (show ¬ gbM gm (-1) (nI k) from fun q => q.elim (fun q2 => q2.1 rfl) hb2), if_neg hm1, if_neg hm1]
        refine ⟨JX_0 hJ _, rd_eq, fun _ => ?_⟩
        show (gc 4 k).toInt64 = _
        rw [gi_1 hk]
        cases ef : f0 k with
        | none => exact absurd (e1.mpr ef) h3
        | some w => rw [e2 w ef, e3.2 w ef]
  · rcases vb hV12.2 v with ⟨hc1, hc2⟩ | ⟨hc2, j, hj, rfl⟩
    · skip
      refine k_calli (runSW (n := 4) (As := [.ref (ac 0), .int v, .int key, .ref ao]) (rest := []) hx hb hml hown hT (l_get_v l htr D tk H.size ac gc rr ao fo (wM tk h am gm la ++ tl) v key hv1 (by rw [hVc]; exact hc1)) t_739 t_740 t_0 t_741 rfl rfl (by decide +kernel) ⟨Nat.le_of_ble_eq_true rfl, Nat.le_of_ble_eq_true rfl⟩ (x_preS hP hK hD hnw hxF (st_keptL hS)) rfl rfl hl.1 rfl (lv_room (Nat.le_of_ble_eq_true rfl)) d_law_359 ⟨by show cells + 1 ≤ 601024; omega, by show slots + 6 ≤ 7293034; omega⟩) hD hS AL_in (fun r9 u9 H1 locs1 hp hP hD hK hS => ?_)
      refine W_up (c2 := cells + 156) (s2 := slots + 5856) (by omega) (by omega) ?_
      subst hp
      refine kk _ gc rr fo tl H1 locs1 (fun rM gm2 la2 hM => ?_) hP hD hS
      obtain ⟨rfl, rfl, rfl⟩ := hM
      rw [if_pos (show gbM gm v key from Or.inl ⟨hv1, iv_no (by rw [hVm]; exact hc2)⟩)]
      exact ⟨JX_0 hJ _, rd_eq, fun q => absurd q (by decide)⟩
    · have hiv : ¬ ivM gm (nI j) = 0 := iv_ok (by rw [hVm]; exact hc2)
      rcases kb key with ⟨hb1, hb2⟩ | ⟨hb2, k, hk, rfl⟩
      · skip
        refine k_calli (runSW (n := 4) (As := [.ref (ac 0), .int (nI j), .int key, .ref ao]) (rest := []) hx hb hml hown hT (l_get_key2 l htr D tk H.size ac gc rr ao fo (wM tk h am gm la ++ tl) V hV12.2 hVc j hj key hb1) t_739 t_740 t_0 t_741 rfl rfl (by decide +kernel) ⟨Nat.le_of_ble_eq_true rfl, Nat.le_of_ble_eq_true rfl⟩ (x_preS hP hK hD hnw hxF (st_keptL hS)) rfl rfl hl.1 rfl (lv_room (Nat.le_of_ble_eq_true rfl)) d_law_359 ⟨by show cells + 1 ≤ 601024; omega, by show slots + 6 ≤ 7293034; omega⟩) hD hS AL_in (fun r9 u9 H1 locs1 hp hP hD hK hS => ?_)
        refine W_up (c2 := cells + 156) (s2 := slots + 5856) (by omega) (by omega) ?_
        subst hp
        refine kk _ gc rr fo tl H1 locs1 (fun rM gm2 la2 hM => ?_) hP hD hS
        obtain ⟨rfl, rfl, rfl⟩ := hM
        rw [if_pos (show gbM gm (nI j) key from Or.inr hb2)]
        exact ⟨JX_0 hJ _, rd_eq, fun q => absurd q (by decide)⟩
      · obtain ⟨e1, e2⟩ := hJ.2.1.2.2.2.2.2 j hj k hk
        have eg := gi_2 (show j < 16 by omega) hk
        cases hgv : gt_ (Xs j) k with
        | none =>
          have hm1 : gm 1 (giM (nI j) (nI k)) = 0 := by rw [eg]; exact e1.mpr hgv
          refine k_calli (runSW (n := 4) (As := [.ref (ac 0), .int (nI j), .int (nI k), .ref ao]) (rest := []) hx hb hml hown hT (l_get_no2 l htr D tk H.size ac gc rr ao fo (wM tk h am gm la ++ tl) S ca bl hsI Xs V hV12.1 hV12.2 hh9 hVc j k hj hk hgv) t_739 t_740 t_0 t_741 rfl rfl (by decide +kernel) ⟨Nat.le_of_ble_eq_true rfl, Nat.le_of_ble_eq_true rfl⟩ (x_preS hP hK hD hnw hxF (st_keptL hS)) rfl rfl hl.1 rfl (lv_room (Nat.le_of_ble_eq_true rfl)) d_law_359 ⟨by show cells + 1 ≤ 601024; omega, by show slots + 6 ≤ 7293034; omega⟩) hD hS AL_in (fun r9 u9 H1 locs1 hp hP hD hK hS => ?_)
          refine W_up (c2 := cells + 156) (s2 := slots + 5856) (by omega) (by omega) ?_
          subst hp
          refine kk _ gc rr fo tl H1 locs1 (fun rM gm2 la2 hM => ?_) hP hD hS
          obtain ⟨rfl, rfl, rfl⟩ := hM
          rw [if_neg (show ¬ gbM gm (nI j) (nI k) from fun q => q.elim (fun q2 => hiv q2.2) hb2), if_pos hm1]
          exact ⟨JX_0 hJ _, rd_eq, fun q => absurd q (by decide)⟩
        | some w =>
          have hm1 : ¬ gm 1 (giM (nI j) (nI k)) = 0 := by rw [eg]; exact fun q => by rw [e1.mp q] at hgv; cases hgv
          refine k_calli (runSW (n := 4) (As := [.ref (ac 0), .int (nI j), .int (nI k), .ref ao]) (rest := []) hx hb hml hown hT (l_get2 l D tk H.size ac gc rr ao fo (wM tk h am gm la ++ tl) S ca bl hsI Xs V hV12.1 hV12.2 hh9 hVc j k hj hk w hgv) t_739 t_740 t_0 t_741 rfl rfl (by decide +kernel) ⟨Nat.le_of_ble_eq_true rfl, Nat.le_of_ble_eq_true rfl⟩ (x_preS hP hK hD hnw hxF (st_keptL hS)) rfl rfl hl.1 rfl (lv_room (Nat.le_of_ble_eq_true rfl)) d_law_359 ⟨by show cells + 0 ≤ 601024; omega, by show slots + 0 ≤ 7293034; omega⟩) hD hS AL_in (fun r9 u9 H1 locs1 hp hP hD hK hS => ?_)
          refine W_up (c2 := cells + 156) (s2 := slots + 5856) (by omega) (by omega) ?_
          subst hp
          refine kk _ gc rr _ tl H1 locs1 (fun rM gm2 la2 hM => ?_) hP hD hS
          obtain ⟨rfl, rfl, rfl⟩ := hM
          rw [if_neg (show ¬ gbM gm (nI j) (nI k) from fun q => q.elim (fun q2 => hiv q2.2) hb2), if_neg (show ¬ gbM gm (nI j) (nI k) from fun q => q.elim (fun q2 => hiv q2.2) hb2), if_neg hm1, if_neg hm1]
          refine ⟨JX_0 hJ _, rd_eq, fun _ => ?_⟩
          show w.toInt64 = _
          rw [eg, e2 w hgv]
set_option maxHeartbeats 4000000 in
set_option maxRecDepth 100000 in
theorem q_range (C : LC p l s m c b L xs D tk) (hP : va_P D CC (wL tk ac gc rr ao fo h am gm la tl) H) (hD : va_D (AL s) (wL tk ac gc rr ao fo h am gm la tl)) (hS : va_S (AL s) s.heap H locs) (hl : lv_has ls 7 lv) (hJ : JX tk tl gc rr gm la n S ca bl f fm E mp Xs V f0 B ft t0) (hcl : cells + 156 ≤ 601024) (hsl : slots + 5856 ≤ 7293034) {v lo hi : Int32}
    (kk : ∀ (r : Int32) (gc2 : Nat → Nat → Int32) (rr2 : Nat → Nat → Option Nat) (fo2 : Nat → Int64) (tl2 : va_W) (H1 : Heap) (locs1 : List Loc), (∀ (rM : Int32) (gm2 : Nat → Nat → Int32) (la2 : Nat → Int64), (rM = (if v < nI 0 ∨ gm 3 0 - nI 1 < v then 0 else nI (rgF gm v.toNatClampNeg lo hi 48)) ∧ gm2 = (if v < nI 0 ∨ gm 3 0 - nI 1 < v then mup gm 0 0 (nI 1) else mup gm 0 0 (nI 0)) ∧ la2 = la) → J tk tl2 gc2 rr2 gm2 la2 (n + 1) ∧ gm2 0 0 = r ∧ (r = 0 → fo2 0 = rM.toInt64)) → va_P D CC (wL tk ac gc2 rr2 ao fo2 h am gm la tl2) H1 → va_D (AL s) (wL tk ac gc2 rr2 ao fo2 h am gm la tl2) → va_S (AL s) s.heap H1 locs1 → W p l e room_1 s m #[Value.ref b] below meth c H1 locs1 (cells + 156) (slots + 5856) Q (F0 m 436 ls [.int r])) : W p l e room_1 s m #[Value.ref b] below meth c H locs cells slots Q (F0 m 433 ls [.ref ao, .int hi, .int lo, .int v, .ref (ac 0)]) := by
  obtain ⟨⟨hx, hb, hml, hown⟩, hT, hnw, hxF, hK, ⟨hX, hbl, hL⟩, htr⟩ := C
  have hts := hts_of hT
  have hsI : sI tk (ow tk ao fo :: (wM tk h am gm la ++ tl)) S ca bl := sI_up (ow tk ao fo :: wM tk h am gm la) hJ.1.1.1
  have hV12 := hJ.2.1.1
  have hVc := hJ.2.1.2.1.1
  have hVm := hJ.2.1.2.1.2
  have hh9 := hJ.2.1.2.2.1
  rcases vb hV12.2 v with ⟨hc1, hc2⟩ | ⟨hc2, j, hj, rfl⟩
  · rw [← hVm] at hc2
    refine k_calli (runSW (n := 5) (As := [.ref (ac 0), .int v, .int lo, .int hi, .ref ao]) (rest := []) hx hb hml hown hT (l_range_v l htr D tk H.size ac gc rr ao fo (wM tk h am gm la ++ tl) v lo hi (by rw [hVc]; exact hc1)) t_773 t_774 t_0 t_775 rfl rfl (by decide +kernel) ⟨Nat.le_of_ble_eq_true rfl, Nat.le_of_ble_eq_true rfl⟩ (x_preS hP hK hD hnw hxF (st_keptL hS)) rfl rfl hl.1 rfl (lv_room (Nat.le_of_ble_eq_true rfl)) d_law_433 ⟨by show cells + 1 ≤ 601024; omega, by show slots + 6 ≤ 7293034; omega⟩) hD hS AL_in (fun r9 u9 H1 locs1 hp hP hD hK hS => ?_)
    refine W_up (c2 := cells + 156) (s2 := slots + 5856) (by omega) (by omega) ?_
    subst hp
    refine kk _ gc rr fo tl H1 locs1 (fun rM gm2 la2 hM => ?_) hP hD hS
    obtain ⟨rfl, rfl, rfl⟩ := hM
    rw [if_pos hc2]
    exact ⟨JX_0 hJ _, rd_eq, fun q => absurd q (by decide)⟩
  · rw [← hVm] at hc2
    refine k_calli (runSW (n := 5) (As := [.ref (ac 0), .int (nI j), .int lo, .int hi, .ref ao]) (rest := []) hx hb hml hown hT (l_range l D tk H.size ac gc rr ao fo (wM tk h am gm la ++ tl) S ca bl hsI Xs V hV12.1 hV12.2 hh9 hVc j hj lo hi) t_773 t_774 t_0 t_775 rfl rfl (by decide +kernel) ⟨Nat.le_of_ble_eq_true rfl, Nat.le_of_ble_eq_true rfl⟩ (x_preS hP hK hD hnw hxF (st_keptL hS)) rfl rfl hl.1 rfl (lv_room (Nat.le_of_ble_eq_true rfl)) d_law_433 ⟨by show cells + 0 ≤ 601024; omega, by show slots + 0 ≤ 7293034; omega⟩) hD hS AL_in (fun r9 u9 H1 locs1 hp hP hD hK hS => ?_)
    refine W_up (c2 := cells + 156) (s2 := slots + 5856) (by omega) (by omega) ?_
    subst hp
    refine kk _ gc rr _ tl H1 locs1 (fun rM gm2 la2 hM => ?_) hP hD hS
    obtain ⟨rfl, rfl, rfl⟩ := hM
    rw [if_neg hc2, if_neg hc2, nI_clamp (by omega)]
    refine ⟨JX_0 hJ _, rd_eq, fun _ => ?_⟩
    show (nI (rgC (Xs j) lo hi 48)).toInt64 = _
    rw [rg_eq (fun k hk => (hJ.2.1.2.2.2.2.2 j hj k hk).1) lo hi 48 (Nat.le_refl _)]
set_option maxHeartbeats 4000000 in
set_option maxRecDepth 100000 in
theorem q_root (C : LC p l s m c b L xs D tk) (hP : va_P D CC (wL tk ac gc rr ao fo h am gm la tl) H) (hD : va_D (AL s) (wL tk ac gc rr ao fo h am gm la tl)) (hS : va_S (AL s) s.heap H locs) (hl : lv_has ls 7 lv) (hJ : JX tk tl gc rr gm la n S ca bl f fm E mp Xs V f0 B ft t0) (hcl : cells + 156 ≤ 601024) (hsl : slots + 5856 ≤ 7293034) {v : Int32}
    (kk : ∀ (r : Int32) (gc2 : Nat → Nat → Int32) (rr2 : Nat → Nat → Option Nat) (fo2 : Nat → Int64) (tl2 : va_W) (H1 : Heap) (locs1 : List Loc), (∀ (rM : Int32) (gm2 : Nat → Nat → Int32) (la2 : Nat → Int64), (rM = (if v < nI 0 ∨ gm 3 0 - nI 1 < v then 0 else gm 4 v.toNatClampNeg) ∧ gm2 = (if v < nI 0 ∨ gm 3 0 - nI 1 < v then mup gm 0 0 (nI 1) else mup gm 0 0 (nI 0)) ∧ la2 = la) → J tk tl2 gc2 rr2 gm2 la2 (n + 1) ∧ gm2 0 0 = r ∧ (r = 0 → fo2 0 = rM.toInt64)) → va_P D CC (wL tk ac gc2 rr2 ao fo2 h am gm la tl2) H1 → va_D (AL s) (wL tk ac gc2 rr2 ao fo2 h am gm la tl2) → va_S (AL s) s.heap H1 locs1 → W p l e room_1 s m #[Value.ref b] below meth c H1 locs1 (cells + 156) (slots + 5856) Q (F0 m 504 ls [.int r])) : W p l e room_1 s m #[Value.ref b] below meth c H locs cells slots Q (F0 m 501 ls [.ref ao, .int v, .ref (ac 0)]) := by
  obtain ⟨⟨hx, hb, hml, hown⟩, hT, hnw, hxF, hK, ⟨hX, hbl, hL⟩, htr⟩ := C
  have hts := hts_of hT
  have hsI : sI tk (ow tk ao fo :: (wM tk h am gm la ++ tl)) S ca bl := sI_up (ow tk ao fo :: wM tk h am gm la) hJ.1.1.1
  have hV12 := hJ.2.1.1
  have hVc := hJ.2.1.2.1.1
  have hVm := hJ.2.1.2.1.2
  have hh9 := hJ.2.1.2.2.1
  rcases vb hV12.2 v with ⟨hc1, hc2⟩ | ⟨hc2, j, hj, rfl⟩
  · rw [← hVm] at hc2
    refine k_calli (runSW (n := 3) (As := [.ref (ac 0), .int v, .ref ao]) (rest := []) hx hb hml hown hT (l_root_v l htr D tk H.size ac gc rr ao fo (wM tk h am gm la ++ tl) v (by rw [hVc]; exact hc1)) t_782 t_783 t_0 t_784 rfl rfl (by decide +kernel) ⟨Nat.le_of_ble_eq_true rfl, Nat.le_of_ble_eq_true rfl⟩ (x_preS hP hK hD hnw hxF (st_keptL hS)) rfl rfl hl.1 rfl (lv_room (Nat.le_of_ble_eq_true rfl)) d_law_501 ⟨by show cells + 1 ≤ 601024; omega, by show slots + 6 ≤ 7293034; omega⟩) hD hS AL_in (fun r9 u9 H1 locs1 hp hP hD hK hS => ?_)
    refine W_up (c2 := cells + 156) (s2 := slots + 5856) (by omega) (by omega) ?_
    subst hp
    refine kk _ gc rr fo tl H1 locs1 (fun rM gm2 la2 hM => ?_) hP hD hS
    obtain ⟨rfl, rfl, rfl⟩ := hM
    rw [if_pos hc2]
    exact ⟨JX_0 hJ _, rd_eq, fun q => absurd q (by decide)⟩
  · rw [← hVm] at hc2
    refine k_calli (runSW (n := 3) (As := [.ref (ac 0), .int (nI j), .ref ao]) (rest := []) hx hb hml hown hT (l_root l D tk H.size ac gc rr ao fo (wM tk h am gm la ++ tl) S ca bl hsI Xs V hV12.1 hV12.2 hh9 hVc j hj) t_782 t_783 t_0 t_784 rfl rfl (by decide +kernel) ⟨Nat.le_of_ble_eq_true rfl, Nat.le_of_ble_eq_true rfl⟩ (x_preS hP hK hD hnw hxF (st_keptL hS)) rfl rfl hl.1 rfl (lv_room (Nat.le_of_ble_eq_true rfl)) d_law_501 ⟨by show cells + 0 ≤ 601024; omega, by show slots + 0 ≤ 7293034; omega⟩) hD hS AL_in (fun r9 u9 H1 locs1 hp hP hD hK hS => ?_)
    refine W_up (c2 := cells + 156) (s2 := slots + 5856) (by omega) (by omega) ?_
    subst hp
    refine kk _ gc rr _ tl H1 locs1 (fun rM gm2 la2 hM => ?_) hP hD hS
    obtain ⟨rfl, rfl, rfl⟩ := hM
    rw [if_neg hc2, if_neg hc2, nI_clamp (by omega)]
    refine ⟨JX_0 hJ _, rd_eq, fun _ => ?_⟩
    show (rt (Xs j)).toInt64 = _
    rw [hJ.2.1.2.2.2.2.1 j hj]
set_option maxHeartbeats 4000000 in
set_option maxRecDepth 100000 in
theorem q_digest (C : LC p l s m c b L xs D tk) (hP : va_P D CC (wL tk ac gc rr ao fo h am gm la tl) H) (hD : va_D (AL s) (wL tk ac gc rr ao fo h am gm la tl)) (hS : va_S (AL s) s.heap H locs) (hl : lv_has ls 7 lv) (hJ : JX tk tl gc rr gm la n S ca bl f fm E mp Xs V f0 B ft t0) (hcl : cells + 156 ≤ 601024) (hsl : slots + 5856 ≤ 7293034) {v : Int32}
    (kk : ∀ (r : Int32) (gc2 : Nat → Nat → Int32) (rr2 : Nat → Nat → Option Nat) (fo2 : Nat → Int64) (tl2 : va_W) (H1 : Heap) (locs1 : List Loc), (∀ (rM : Int32) (gm2 : Nat → Nat → Int32) (la2 : Nat → Int64), ((frx [0, 15, 16] gm gm2 ∧ gm2 0 0 = (if (v < nI 0 ∨ nI V < v) then nI 1 else nI 0) ∧ rM = if (v < nI 0 ∨ nI V < v) then 0 else slM (gm 4) 0 v.toNatClampNeg) ∧ la2 = la) → J tk tl2 gc2 rr2 gm2 la2 (n + 1) ∧ gm2 0 0 = r ∧ (r = 0 → fo2 0 = rM.toInt64)) → va_P D CC (wL tk ac gc2 rr2 ao fo2 h am gm la tl2) H1 → va_D (AL s) (wL tk ac gc2 rr2 ao fo2 h am gm la tl2) → va_S (AL s) s.heap H1 locs1 → W p l e room_1 s m #[Value.ref b] below meth c H1 locs1 (cells + 156) (slots + 5856) Q (F0 m 560 ls [.int r])) : W p l e room_1 s m #[Value.ref b] below meth c H locs cells slots Q (F0 m 557 ls [.ref ao, .int v, .ref (ac 0)]) := by
  obtain ⟨⟨hx, hb, hml, hown⟩, hT, hnw, hxF, hK, ⟨hX, hbl, hL⟩, htr⟩ := C
  have hts := hts_of hT
  have hsI : sI tk (ow tk ao fo :: (wM tk h am gm la ++ tl)) S ca bl := sI_up (ow tk ao fo :: wM tk h am gm la) hJ.1.1.1
  have hV12 := hJ.2.1.1
  have hVc := hJ.2.1.2.1.1
  have hVm := hJ.2.1.2.1.2
  have hh9 := hJ.2.1.2.2.1
  have hj0 : ∀ gm2, frx [0, 15, 16] gm gm2 → J tk tl gc rr gm2 la (n + 1) := fun gm2 hm => (JX_cg hJ (L := []) frx_r (by decide) hm (by decide)).j
  by_cases hc : (v < nI 0 ∨ nI V < v)
  · skip
    refine k_calli (runSW (n := 3) (As := [.ref (ac 0), .int v, .ref ao]) (rest := []) hx hb hml hown hT (l_digest_n l htr D tk H.size ac gc rr ao fo (wM tk h am gm la ++ tl) v (by rw [hVc]; exact fun q => hc.elim q.1 q.2)) t_793 t_794 t_0 t_795 rfl rfl (by decide +kernel) ⟨Nat.le_of_ble_eq_true rfl, Nat.le_of_ble_eq_true rfl⟩ (x_preS hP hK hD hnw hxF (st_keptL hS)) rfl rfl hl.1 rfl (lv_room (Nat.le_of_ble_eq_true rfl)) d_law_557 ⟨by show cells + 1 ≤ 601024; omega, by show slots + 6 ≤ 7293034; omega⟩) hD hS AL_in (fun r9 u9 H1 locs1 hp hP hD hK hS => ?_)
    refine W_up (c2 := cells + 156) (s2 := slots + 5856) (by omega) (by omega) ?_
    subst hp
    refine kk _ gc rr fo tl H1 locs1 (fun rM gm2 la2 hM => ?_) hP hD hS
    obtain ⟨⟨m1, m2, m3⟩, rfl⟩ := hM
    rw [if_pos hc] at m2
    exact ⟨hj0 gm2 m1, m2, fun q => absurd q (by decide)⟩
  · obtain ⟨j, hj, rfl⟩ := nI_of2 (M := nI V) (n := V) (nI_toInt (by omega)) (fun q => hc (Or.inl q)) (Int32.not_lt.mp (fun q => hc (Or.inr q)))
    refine k_calli (runSW (n := 3) (As := [.ref (ac 0), .int (nI j), .ref ao]) (rest := []) hx hb hml hown hT (l_digest l D tk H.size ac gc rr ao fo (wM tk h am gm la ++ tl) S ca bl hsI Xs V hV12.1 hV12.2 hh9 hVc j hj) t_793 t_794 t_0 t_795 rfl rfl (by decide +kernel) ⟨Nat.le_of_ble_eq_true rfl, Nat.le_of_ble_eq_true rfl⟩ (x_preS hP hK hD hnw hxF (st_keptL hS)) rfl rfl hl.1 rfl (lv_room (Nat.le_of_ble_eq_true rfl)) d_law_557 ⟨by show cells + 0 ≤ 601024; omega, by show slots + 0 ≤ 7293034; omega⟩) hD hS AL_in (fun r9 u9 H1 locs1 hp hP hD hK hS => ?_)
    refine W_up (c2 := cells + 156) (s2 := slots + 5856) (by omega) (by omega) ?_
    subst hp
    refine kk _ gc rr _ tl H1 locs1 (fun rM gm2 la2 hM => ?_) hP hD hS
    obtain ⟨⟨m1, m2, m3⟩, rfl⟩ := hM
    rw [if_neg hc] at m2 m3
    rw [nI_clamp (by omega)] at m3
    refine ⟨hj0 gm2 m1, m2, fun _ => ?_⟩
    show (if j = 0 then (0 : Int32) else slC (fun v => rt (Xs v)) 4 0 j).toInt64 = _
    rw [m3]
    by_cases q : j = 0
    · rw [if_pos q, q, sl_0]
    · rw [if_neg q, sl_eq _ 0 j (by omega) (by omega), slM_cg (g := gm 4) (by omega) (by omega) (fun i _ hi => (hJ.2.1.2.2.2.2.1 i (by omega)).symm)]
end QQ
