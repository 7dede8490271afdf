theorem kb (key : Int32) : (¬ (¬ key < 0 ∧ ¬ nI 48 ≤ key) ∧ (key < nI 0 ∨ nI 47 < key)) ∨ (¬ (key < nI 0 ∨ nI 47 < key) ∧ ∃ k : Nat, k < 48 ∧ key = nI k) := by
  by_cases h : key < nI 0 ∨ nI 47 < key
  · refine Or.inl ⟨fun q => ?_, h⟩
    rcases h with h | h
    · exact q.1 h
    · refine q.2 ?_
      rw [Int32.lt_iff_toInt_lt, nI_toInt (by decide)] at h
      rw [Int32.le_iff_toInt_le, nI_toInt (by decide)]
      omega
  · refine Or.inr ⟨h, ?_⟩
    obtain ⟨j, hj, e⟩ := nI_of2 (M := 47) (n := 47) (by decide) (fun q => h (Or.inl q)) (Int32.not_lt.mp (fun q => h (Or.inr q)))
    exact ⟨j, by omega, e⟩
theorem vb {V : Nat} (hV : V ≤ 16) (v : Int32) : (¬ (¬ v < 0 ∧ ¬ nI V ≤ v) ∧ (v < nI 0 ∨ nI V - nI 1 < v)) ∨ (¬ (v < nI 0 ∨ nI V - nI 1 < v) ∧ ∃ j : Nat, j < V ∧ v = nI j) := by
  by_cases h : ¬ v < 0 ∧ ¬ nI V ≤ v
  · have h2 := m_inn (N := 16) (x := nI V) rfl hV h.1 h.2
    exact Or.inr ⟨h2, m_idx rfl hV h2⟩
  · refine Or.inl ⟨h, ?_⟩
    by_cases h0 : v < 0
    · exact Or.inl h0
    · refine Or.inr (m_out (N := 16) rfl hV h0 ?_)
      by_cases q : nI V ≤ v
      · exact q
      · exact absurd ⟨h0, q⟩ h
theorem ky_bad {g : Nat → Nat → Int32} {key : Int32} (h : key < nI 0 ∨ nI 47 < key) : kyM g key = nI 1 := by unfold kyM; rw [if_pos h]
theorem ky_room {g : Nat → Nat → Int32} {key : Int32} (h : ¬ (key < nI 0 ∨ nI 47 < key)) (h2 : g 3 0 = nI 16) : kyM g key = nI 2 := by unfold kyM; rw [if_neg h, if_pos h2]
theorem ky_ok {g : Nat → Nat → Int32} {key : Int32} (h : ¬ (key < nI 0 ∨ nI 47 < key)) (h2 : ¬ g 3 0 = nI 16) : kyM g key = nI 0 := by unfold kyM; rw [if_neg h, if_neg h2]
theorem pu_no {g : Nat → Nat → Int32} {key v x : Int32} (h : kyM g key = x) (hx : ¬ x = 0) : putM g key v = mup g 0 0 x := by unfold putM; rw [h, if_neg hx]
theorem de_no {g : Nat → Nat → Int32} {key x : Int32} (h : kyM g key = x) (hx : ¬ x = 0) : delM g key = mup g 0 0 x := by unfold delM; rw [h, if_neg hx]
theorem nV16 {V : Nat} (h : V < 16) : ¬ nI V = nI 16 := fun q => by
  have := (nI_eq (by omega) (by omega)).mp q
  omega
section QQ
variable {p : Program} {l : Launch} {e : Env} {s : State} {m : MethodId} {below : List Frame} {meth : Method} {c : Code} {H : Heap} {locs : List Loc} {cells slots : Nat} {Q : State → Prop}
variable {b L : Nat} {xs : Nat → Int32} {D : va_G} {tk : Nat → ClassId} {ac am : Nat → Nat} {gc gm : Nat → Nat → Int32} {rr : Nat → Nat → Option Nat} {ao h : Nat} {fo : Nat → Int64} {la : Nat → Int64} {tl : va_W} {pc : Nat} {ls : Array Slot} {rest : List Value} {lv : List (Nat × Value)}
variable {n : Nat} {S : List ck_I} {ca : Nat → Nat} {bl : Nat → Nat → Option Nat} {f : Nat} {fm : Nat → Nat → Option Int32} {E : List (Nat × Nat × Nat × Nat)} {mp : Nat} {Xs : Nat → List kv_I} {V : Nat} {f0 : Nat → Option Int32} {B : List Int32} {ft : Nat → Int32} {t0 : Nat}

set_option maxHeartbeats 4000000 in
set_option maxRecDepth 100000 in
theorem q_put (C : LC p l s m c b L xs D tk) (hP : va_P D CC (wL tk ac gc rr ao fo h am gm la tl) H) (hD : va_D (AL s) (wL tk ac gc rr ao fo h am gm la tl)) (hS : va_S (AL s) s.heap H locs) (hl : lv_has ls 7 lv) (hJ : JX tk tl gc rr gm la n S ca bl f fm E mp Xs V f0 B ft t0) (hcl : cells + 156 ≤ 601024) (hsl : slots + 5856 ≤ 7293034) {key v : Int32}
    (kk : ∀ (r : Int32) (gc2 : Nat → Nat → Int32) (rr2 : Nat → Nat → Option Nat) (fo2 : Nat → Int64) (tl2 : va_W) (H1 : Heap) (locs1 : List Loc), (∀ (rM : Int32) (gm2 : Nat → Nat → Int32) (la2 : Nat → Int64), gm2 = putM gm key v ∧ la2 = la → J tk tl2 gc2 rr2 gm2 la2 (n + 1) ∧ gm2 0 0 = r ∧ (r = 0 → fo2 0 = fo2 0)) → va_P D CC (wL tk ac gc2 rr2 ao fo2 h am gm la tl2) H1 → va_D (AL s) (wL tk ac gc2 rr2 ao fo2 h am gm la tl2) → va_S (AL s) s.heap H1 locs1 → W p l e room_1 s m #[Value.ref b] below meth c H1 locs1 (cells + 156) (slots + 5856) Q (F0 m 144 ls [.int r])) : W p l e room_1 s m #[Value.ref b] below meth c H locs cells slots Q (F0 m 141 ls [.int v, .int key, .ref (ac 0)]) := by
  obtain ⟨⟨hx, hb, hml, hown⟩, hT, hnw, hxF, hK, ⟨hX, hbl, hL⟩, htr⟩ := C
  have hts := hts_of hT
  have hsI : sI tk (ow tk ao fo :: (wM tk h am gm la ++ tl)) S ca bl := sI_up (ow tk ao fo :: wM tk h am gm la) hJ.1.1.1
  have hV12 := hJ.2.1.1
  have hVc := hJ.2.1.2.1.1
  have hVm := hJ.2.1.2.1.2
  have hh9 := hJ.2.1.2.2.1
  rcases kb key with ⟨hb1, hb2⟩ | ⟨hb2, k, hk, rfl⟩
  · skip
    refine k_calli (runSW (n := 3) (As := [.ref (ac 0), .int key, .int v]) (rest := []) hx hb hml hown hT (l_put_key l htr D tk H.size ac gc rr ao fo (wM tk h am gm la ++ tl) key hb1 v) t_278 t_279 t_0 t_280 rfl rfl (by decide +kernel) ⟨Nat.le_of_ble_eq_true rfl, Nat.le_of_ble_eq_true rfl⟩ (x_preS hP hK hD hnw hxF (st_keptL hS)) rfl rfl hl.1 rfl (lv_room (Nat.le_of_ble_eq_true rfl)) d_law_141 ⟨by show cells + 1 ≤ 601024; omega, by show slots + 6 ≤ 7293034; omega⟩) hD hS AL_in (fun r9 u9 H1 locs1 hp hP hD hK hS => ?_)
    refine W_up (c2 := cells + 156) (s2 := slots + 5856) (by omega) (by omega) ?_
    subst hp
    refine kk _ gc rr fo tl H1 locs1 (fun rM gm2 la2 hM => ?_) hP hD hS
    obtain ⟨rfl, rfl⟩ := hM
    rw [pu_no (ky_bad hb2) (by decide)]
    exact ⟨JX_0 hJ _, rd_eq, fun _ => rfl⟩
  · by_cases h16 : V = 16
    · subst h16
      refine k_calli (runSW (n := 3) (As := [.ref (ac 0), .int (nI k), .int v]) (rest := []) hx hb hml hown hT (l_put_room l htr D tk H.size ac gc rr ao fo (wM tk h am gm la ++ tl) hVc k hk v) t_278 t_279 t_0 t_280 rfl rfl (by decide +kernel) ⟨Nat.le_of_ble_eq_true rfl, Nat.le_of_ble_eq_true rfl⟩ (x_preS hP hK hD hnw hxF (st_keptL hS)) rfl rfl hl.1 rfl (lv_room (Nat.le_of_ble_eq_true rfl)) d_law_141 ⟨by show cells + 1 ≤ 601024; omega, by show slots + 6 ≤ 7293034; omega⟩) hD hS AL_in (fun r9 u9 H1 locs1 hp hP hD hK hS => ?_)
      refine W_up (c2 := cells + 156) (s2 := slots + 5856) (by omega) (by omega) ?_
      subst hp
      refine kk _ gc rr fo tl H1 locs1 (fun rM gm2 la2 hM => ?_) hP hD hS
      obtain ⟨rfl, rfl⟩ := hM
      rw [pu_no (ky_room hb2 hVm) (by decide)]
      exact ⟨JX_0 hJ _, rd_eq, fun _ => rfl⟩
    · have hV16 : V < 16 := by omega
      refine k_calli (runSW (n := 3) (As := [.ref (ac 0), .int (nI k), .int v]) (rest := []) hx hb hml hown hT (l_put l D tk H.size ac gc rr ao fo (wM tk h am gm la ++ tl) V hV16 hVc k hk v) t_278 t_279 t_0 t_280 rfl rfl (by decide +kernel) ⟨Nat.le_of_ble_eq_true rfl, Nat.le_of_ble_eq_true rfl⟩ (x_preS hP hK hD hnw hxF (st_keptL hS)) rfl rfl hl.1 rfl (lv_room (Nat.le_of_ble_eq_true rfl)) d_law_141 ⟨by show cells + 0 ≤ 601024; omega, by show slots + 0 ≤ 7293034; omega⟩) hD hS AL_in (fun r9 u9 H1 locs1 hp hP hD hK hS => ?_)
      refine W_up (c2 := cells + 156) (s2 := slots + 5856) (by omega) (by omega) ?_
      subst hp
      refine kk _ _ rr fo tl H1 locs1 (fun rM gm2 la2 hM => ?_) hP hD hS
      obtain ⟨rfl, rfl⟩ := hM
      unfold putM
      rw [if_pos (show kyM gm (nI k) = 0 from ky_ok hb2 (by rw [hVm]; exact nV16 hV16)), nI_clamp (by omega)]
      exact ⟨J_put hJ hk v, rfl, fun _ => rfl⟩
set_option maxHeartbeats 4000000 in
set_option maxRecDepth 100000 in
theorem q_delete (C : LC p l s m c b L xs D tk) (hP : va_P D CC (wL tk ac gc rr ao fo h am gm la tl) H) (hD : va_D (AL s) (wL tk ac gc rr ao fo h am gm la tl)) (hS : va_S (AL s) s.heap H locs) (hl : lv_has ls 7 lv) (hJ : JX tk tl gc rr gm la n S ca bl f fm E mp Xs V f0 B ft t0) (hcl : cells + 156 ≤ 601024) (hsl : slots + 5856 ≤ 7293034) {key : Int32}
    (kk : ∀ (r : Int32) (gc2 : Nat → Nat → Int32) (rr2 : Nat → Nat → Option Nat) (fo2 : Nat → Int64) (tl2 : va_W) (H1 : Heap) (locs1 : List Loc), (∀ (rM : Int32) (gm2 : Nat → Nat → Int32) (la2 : Nat → Int64), (rM = (if kyM gm key = 0 then gm 1 (768 + key.toNatClampNeg) else 0) ∧ gm2 = delM gm key ∧ la2 = la) → J tk tl2 gc2 rr2 gm2 la2 (n + 1) ∧ gm2 0 0 = r ∧ (r = 0 → fo2 0 = if rM = 0 then 0 else 1)) → va_P D CC (wL tk ac gc2 rr2 ao fo2 h am gm la tl2) H1 → va_D (AL s) (wL tk ac gc2 rr2 ao fo2 h am gm la tl2) → va_S (AL s) s.heap H1 locs1 → W p l e room_1 s m #[Value.ref b] below meth c H1 locs1 (cells + 156) (slots + 5856) Q (F0 m 187 ls [.int r])) : W p l e room_1 s m #[Value.ref b] below meth c H locs cells slots Q (F0 m 184 ls [.ref ao, .int key, .ref (ac 0)]) := by
  obtain ⟨⟨hx, hb, hml, hown⟩, hT, hnw, hxF, hK, ⟨hX, hbl, hL⟩, htr⟩ := C
  have hts := hts_of hT
  have hsI : sI tk (ow tk ao fo :: (wM tk h am gm la ++ tl)) S ca bl := sI_up (ow tk ao fo :: wM tk h am gm la) hJ.1.1.1
  have hV12 := hJ.2.1.1
  have hVc := hJ.2.1.2.1.1
  have hVm := hJ.2.1.2.1.2
  have hh9 := hJ.2.1.2.2.1
  rcases kb key with ⟨hb1, hb2⟩ | ⟨hb2, k, hk, rfl⟩
  · skip
    refine k_calli (runSW (n := 3) (As := [.ref (ac 0), .int key, .ref ao]) (rest := []) hx hb hml hown hT (l_delete_key l htr D tk H.size ac gc rr ao fo (wM tk h am gm la ++ tl) key hb1) t_385 t_386 t_0 t_387 rfl rfl (by decide +kernel) ⟨Nat.le_of_ble_eq_true rfl, Nat.le_of_ble_eq_true rfl⟩ (x_preS hP hK hD hnw hxF (st_keptL hS)) rfl rfl hl.1 rfl (lv_room (Nat.le_of_ble_eq_true rfl)) d_law_184 ⟨by show cells + 1 ≤ 601024; omega, by show slots + 6 ≤ 7293034; omega⟩) hD hS AL_in (fun r9 u9 H1 locs1 hp hP hD hK hS => ?_)
    refine W_up (c2 := cells + 156) (s2 := slots + 5856) (by omega) (by omega) ?_
    subst hp
    refine kk _ gc rr fo tl H1 locs1 (fun rM gm2 la2 hM => ?_) hP hD hS
    obtain ⟨rfl, rfl, rfl⟩ := hM
    rw [de_no (ky_bad hb2) (by decide)]
    exact ⟨JX_0 hJ _, rd_eq, fun q => absurd q (by decide)⟩
  · by_cases h16 : V = 16
    · subst h16
      refine k_calli (runSW (n := 3) (As := [.ref (ac 0), .int (nI k), .ref ao]) (rest := []) hx hb hml hown hT (l_delete_room l htr D tk H.size ac gc rr ao fo (wM tk h am gm la ++ tl) hVc k hk) t_385 t_386 t_0 t_387 rfl rfl (by decide +kernel) ⟨Nat.le_of_ble_eq_true rfl, Nat.le_of_ble_eq_true rfl⟩ (x_preS hP hK hD hnw hxF (st_keptL hS)) rfl rfl hl.1 rfl (lv_room (Nat.le_of_ble_eq_true rfl)) d_law_184 ⟨by show cells + 1 ≤ 601024; omega, by show slots + 6 ≤ 7293034; omega⟩) hD hS AL_in (fun r9 u9 H1 locs1 hp hP hD hK hS => ?_)
      refine W_up (c2 := cells + 156) (s2 := slots + 5856) (by omega) (by omega) ?_
      subst hp
      refine kk _ gc rr fo tl H1 locs1 (fun rM gm2 la2 hM => ?_) hP hD hS
      obtain ⟨rfl, rfl, rfl⟩ := hM
      rw [de_no (ky_room hb2 hVm) (by decide)]
      exact ⟨JX_0 hJ _, rd_eq, fun q => absurd q (by decide)⟩
    · have hV16 : V < 16 := by omega
      refine k_calli (runSW (n := 3) (As := [.ref (ac 0), .int (nI k), .ref ao]) (rest := []) hx hb hml hown hT (l_delete l D tk H.size ac gc rr ao fo (wM tk h am gm la ++ tl) V hV16 hVc hJ.2.2.1.1.1 k hk) t_385 t_386 t_0 t_387 rfl rfl (by decide +kernel) ⟨Nat.le_of_ble_eq_true rfl, Nat.le_of_ble_eq_true rfl⟩ (x_preS hP hK hD hnw hxF (st_keptL hS)) rfl rfl hl.1 rfl (lv_room (Nat.le_of_ble_eq_true rfl)) d_law_184 ⟨by show cells + 0 ≤ 601024; omega, by show slots + 0 ≤ 7293034; omega⟩) hD hS AL_in (fun r9 u9 H1 locs1 hp hP hD hK hS => ?_)
      refine W_up (c2 := cells + 156) (s2 := slots + 5856) (by omega) (by omega) ?_
      subst hp
      refine kk _ _ rr _ tl H1 locs1 (fun rM gm2 la2 hM => ?_) hP hD hS
      obtain ⟨rfl, rfl, rfl⟩ := hM
      have hky : kyM gm (nI k) = 0 := ky_ok hb2 (by rw [hVm]; exact nV16 hV16)
      obtain ⟨hJ2, hiff⟩ := J_delete hJ hk
      unfold delM
      rw [if_pos hky, if_pos hky, nI_clamp (by omega)]
      refine ⟨hJ2, rfl, fun _ => ?_⟩
      show (if gc 3 k = 0 then (0 : Int64) else 1) = _
      by_cases q : gc 3 k = 0
      · rw [if_pos q, if_pos (hiff.mp q)]
      · rw [if_neg q, if_neg (fun q2 => q (hiff.mpr q2))]
set_option maxHeartbeats 4000000 in
set_option maxRecDepth 100000 in
theorem q_commit (C : LC p l s m c b L xs D tk) (hP : va_P D CC (wL tk ac gc rr ao fo h am gm la tl) H) (hD : va_D (AL s) (wL tk ac gc rr ao fo h am gm la tl)) (hS : va_S (AL s) s.heap H locs) (hl : lv_has ls 7 lv) (hJ : JX tk tl gc rr gm la n S ca bl f fm E mp Xs V f0 B ft t0) (hcl : cells + 156 ≤ 601024) (hsl : slots + 5856 ≤ 7293034) (hn : n ≤ 511)
    (kk : ∀ (r : Int32) (gc2 : Nat → Nat → Int32) (rr2 : Nat → Nat → Option Nat) (fo2 : Nat → Int64) (tl2 : va_W) (H1 : Heap) (locs1 : List Loc), (∀ (rM : Int32) (gm2 : Nat → Nat → Int32) (la2 : Nat → Int64), ((V = 16 → rM = 0 ∧ (gm2, la2) = (mup gm 0 0 (nI 1), la)) ∧ (V < 16 → ∃ E2, cmP gm fm f0 E mp f V rM (gm2, la2, E2))) → J tk tl2 gc2 rr2 gm2 la2 (n + 1) ∧ gm2 0 0 = r ∧ (r = 0 → fo2 0 = rM.toInt64)) → va_P D CC (wL tk ac gc2 rr2 ao fo2 h am gm la tl2) H1 → va_D (AL s) (wL tk ac gc2 rr2 ao fo2 h am gm la tl2) → va_S (AL s) s.heap H1 locs1 → W p l e room_1 s m #[Value.ref b] below meth c H1 locs1 (cells + 156) (slots + 5856) Q (F0 m 244 ls [.int r])) : W p l e room_1 s m #[Value.ref b] below meth c H locs cells slots Q (F0 m 241 ls [.ref ao, .ref (ac 0)]) := by
  obtain ⟨⟨hx, hb, hml, hown⟩, hT, hnw, hxF, hK, ⟨hX, hbl, hL⟩, htr⟩ := C
  have hts := hts_of hT
  have hsI : sI tk (ow tk ao fo :: (wM tk h am gm la ++ tl)) S ca bl := sI_up (ow tk ao fo :: wM tk h am gm la) hJ.1.1.1
  have hV12 := hJ.2.1.1
  have hVc := hJ.2.1.2.1.1
  have hVm := hJ.2.1.2.1.2
  have hh9 := hJ.2.1.2.2.1
  by_cases h16 : V = 16
  · skip
    refine k_calli (runSW (n := 2) (As := [.ref (ac 0), .ref ao]) (rest := []) hx hb hml hown hT (l_commit_room l htr D tk H.size ac gc rr ao fo (wM tk h am gm la ++ tl) (by rw [← h16]; exact hVc)) t_396 t_397 t_0 t_398 rfl rfl (by decide +kernel) ⟨Nat.le_of_ble_eq_true rfl, Nat.le_of_ble_eq_true rfl⟩ (x_preS hP hK hD hnw hxF (st_keptL hS)) rfl rfl hl.1 rfl (lv_room (Nat.le_of_ble_eq_true rfl)) d_law_241 ⟨by show cells + 1 ≤ 601024; omega, by show slots + 6 ≤ 7293034; omega⟩) hD hS AL_in (fun r9 u9 H1 locs1 hp hP hD hK hS => ?_)
    refine W_up (c2 := cells + 156) (s2 := slots + 5856) (by omega) (by omega) ?_
    subst hp
    refine kk _ gc rr fo tl H1 locs1 (fun rM gm2 la2 hM => ?_) hP hD hS
    obtain ⟨-, hM⟩ := hM.1 h16
    cases hM
    exact ⟨JX_0 hJ _, rd_eq, fun q => absurd q (by decide)⟩
  · have hV16 : V < 16 := by omega
    have hst9 : stI tk (ow tk ao fo :: (wM tk h am gm la ++ tl)) gc rr S ca bl f := stI_up (ow tk ao fo :: wM tk h am gm la) hJ.1.1
    have hSl : S.length + 40 < 8704 := by
      obtain ⟨⟨-, -, -, e1, -, -, e2⟩, -, -, -, d, a, -, -, e3⟩ := hJ
      rw [← e1, List.length_map]
      omega
    refine k_calli (runSW (n := 2) (As := [.ref (ac 0), .ref ao]) (rest := []) hx hb hml hown hT (l_commit l D tk H.size ac gc rr ao fo (wM tk h am gm la ++ tl) S ca bl f hst9 hSl Xs V hV12.1 hV16 hVc hh9 hJ.2.2.1.1.1 f0 hJ.2.2.1.2.1) t_396 t_397 t_0 t_398 rfl rfl (by decide +kernel) ⟨Nat.le_of_ble_eq_true rfl, Nat.le_of_ble_eq_true rfl⟩ (x_preS hP hK hD hnw hxF (st_keptL hS)) rfl rfl hl.1 rfl (lv_room (Nat.le_of_ble_eq_true rfl)) d_law_241 ⟨by show cells + 156 ≤ 601024; omega, by show slots + 5850 ≤ 7293034; omega⟩) hD hS AL_in (fun r9 u9 H1 locs1 hp hP hD hK hS => ?_)
    refine W_up (c2 := cells + 156) (s2 := slots + 5856) (by omega) (by omega) ?_
    obtain ⟨hp1, hp2, hp3⟩ := hp
    subst hp1
    have ew : (wL tk ac u9.2.1.1 u9.2.1.2.1 ao (vp_updL fo 0 u9.1.toInt64) h am gm la (tl ++ u9.2.2)) = (wC tk ac u9.2.1.1 u9.2.1.2.1 ++ (ow tk ao (vp_updL fo 0 u9.1.toInt64) :: ((wM tk h am gm la ++ tl) ++ u9.2.2)) : va_W) := by
      rw [List.append_assoc]
    refine kk _ u9.2.1.1 u9.2.1.2.1 (vp_updL fo 0 u9.1.toInt64) (tl ++ u9.2.2) H1 locs1 (fun rM gm2 la2 hM => ?_) (by rw [ew]; exact hP) (by rw [ew]; exact hD) hS
    obtain ⟨E2, hM⟩ := hM.2 hV16
    obtain ⟨i1, i2, i3⟩ := J_commit hJ hV16 (nck_M tk ao _ h am gm la) (cs := u9.2.2) hp2 hp3 hM
    exact ⟨i1, i3, fun _ => by rw [← i2]; rfl⟩
end QQ
