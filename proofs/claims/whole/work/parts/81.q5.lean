/-- where a prover's numbers are refused, on both sides -/
theorem pb {V : Nat} (hV : V ≤ 16) (n9 v9 : Int32) : (¬ (¬ nI V < n9 ∧ ¬ v9 < 0 ∧ ¬ n9 ≤ v9) ∧ ((n9 < nI 1 ∨ nI V < n9) ∨ (v9 < nI 0 ∨ n9 - nI 1 < v9))) ∨ ∃ n1 v1 : Nat, v1 < n1 ∧ n1 ≤ V ∧ n9 = nI n1 ∧ v9 = nI v1 := by
  by_cases h1 : nI V < n9
  · exact Or.inl ⟨fun q => q.1 h1, Or.inl (Or.inr h1)⟩
  by_cases h2 : v9 < 0
  · exact Or.inl ⟨fun q => q.2.1 h2, Or.inr (Or.inl h2)⟩
  by_cases h0 : n9 < 0
  · refine Or.inl ⟨fun q => q.2.2 ?_, Or.inl (Or.inl ?_)⟩
    · rw [Int32.le_iff_toInt_le]
      rw [Int32.lt_iff_toInt_lt, show (0 : Int32).toInt = 0 from rfl] at h0 h2
      omega
    · rw [Int32.lt_iff_toInt_lt, show (0 : Int32).toInt = 0 from rfl] at h0
      rw [Int32.lt_iff_toInt_lt, nI_toInt (by decide)]
      omega
  obtain ⟨n1, hn1, rfl⟩ := nI_of2 (M := nI V) (n := V) (nI_toInt (by omega)) h0 (Int32.not_lt.mp h1)
  by_cases h3 : nI n1 ≤ v9
  · exact Or.inl ⟨fun q => q.2.2 h3, Or.inr (Or.inr (m_out (N := 16) rfl (by omega) h2 h3))⟩
  · obtain ⟨v1, hv1, rfl⟩ := m_idx (N := 16) rfl (by omega) (m_inn (N := 16) (x := nI n1) rfl (by omega) h2 h3)
    exact Or.inr ⟨n1, v1, hv1, hn1, rfl, rfl⟩
theorem le0_iff {x : Int32} : x ≤ 0 ↔ x < nI 1 := by
  rw [Int32.le_iff_toInt_le, Int32.lt_iff_toInt_lt, nI_toInt (by decide), show (0 : Int32).toInt = 0 from rfl]
  omega
theorem gb {V : Nat} (hV : V ≤ 16) (m9 n9 : Int32) : (¬ (¬ m9 ≤ 0 ∧ ¬ n9 ≤ m9 ∧ ¬ nI V < n9) ∧ (m9 ≤ 0 ∨ n9 ≤ m9 ∨ nI V < n9)) ∨ ∃ m1 n1 : Nat, 1 ≤ m1 ∧ m1 < n1 ∧ n1 ≤ V ∧ m9 = nI m1 ∧ n9 = nI n1 := by
  by_cases h1 : m9 ≤ 0
  · exact Or.inl ⟨fun q => q.1 h1, Or.inl h1⟩
  by_cases h2 : n9 ≤ m9
  · exact Or.inl ⟨fun q => q.2.1 h2, Or.inr (Or.inl h2)⟩
  by_cases h3 : nI V < n9
  · exact Or.inl ⟨fun q => q.2.2 h3, Or.inr (Or.inr h3)⟩
  rw [Int32.le_iff_toInt_le, show (0 : Int32).toInt = 0 from rfl] at h1
  rw [Int32.le_iff_toInt_le] at h2
  rw [Int32.lt_iff_toInt_lt, nI_toInt (by omega)] at h3
  refine Or.inr ⟨m9.toInt.toNat, n9.toInt.toNat, by omega, by omega, by omega, ?_, ?_⟩
  · apply Int32.toInt_inj.mp
    rw [nI_toInt (by omega)]; omega
  · apply Int32.toInt_inj.mp
    rw [nI_toInt (by omega)]; omega
theorem vb16 (n9 v9 : Int32) : (¬ (¬ n9 < nI 1 ∧ ¬ nI 16 < n9 ∧ ¬ v9 < 0 ∧ ¬ n9 ≤ v9) ∧ ((n9 < nI 1 ∨ nI 16 < n9) ∨ (v9 < nI 0 ∨ n9 - nI 1 < v9))) ∨ ∃ n1 v1 : Nat, v1 < n1 ∧ n1 ≤ 16 ∧ n9 = nI n1 ∧ v9 = nI v1 := by
  rcases pb (V := 16) (by decide) n9 v9 with ⟨h1, h2⟩ | h
  · exact Or.inl ⟨fun q => h1 q.2, h2⟩
  · exact Or.inr h
theorem gt16 {x : Int32} : nI 16 < x ↔ nI 17 ≤ x := by
  rw [Int32.le_iff_toInt_le, Int32.lt_iff_toInt_lt, nI_toInt (by decide), nI_toInt (by decide)]
  omega
theorem tkR_byt {gc gm : Nat → Nat → Int32} {f : Nat → Int32} {t0 : Nat} (h : tkR gc gm f t0) : byt gm t0 := fun i hi => by
  rw [h.2.2.2.1 i hi]; exact h.2.2.2.2 i hi
section QQ
variable {p : Program} {l : Launch} {e : Env} {s : State} {m : MethodId} {below : List Frame} {meth : Method} {c : Code} {H : Heap} {locs : List Loc} {cells slots : Nat} {Q : State → Prop}
variable {b L : Nat} {xs : Nat → Int32} {D : va_G} {tk : Nat → ClassId} {ac am : Nat → Nat} {gc gm : Nat → Nat → Int32} {rr : Nat → Nat → Option Nat} {ao h : Nat} {fo : Nat → Int64} {la : Nat → Int64} {tl : va_W} {pc : Nat} {ls : Array Slot} {rest : List Value} {lv : List (Nat × Value)}
variable {n : Nat} {S : List ck_I} {ca : Nat → Nat} {bl : Nat → Nat → Option Nat} {f : Nat} {fm : Nat → Nat → Option Int32} {E : List (Nat × Nat × Nat × Nat)} {mp : Nat} {Xs : Nat → List kv_I} {V : Nat} {f0 : Nat → Option Int32} {B : List Int32} {ft : Nat → Int32} {t0 : Nat}

set_option maxHeartbeats 4000000 in
set_option maxRecDepth 100000 in
theorem q_prove (C : LC p l s m c b L xs D tk) (hP : va_P D CC (wL tk ac gc rr ao fo h am gm la tl) H) (hD : va_D (AL s) (wL tk ac gc rr ao fo h am gm la tl)) (hS : va_S (AL s) s.heap H locs) (hl : lv_has ls 7 lv) (hJ : JX tk tl gc rr gm la n S ca bl f fm E mp Xs V f0 B ft t0) (hcl : cells + 156 ≤ 601024) (hsl : slots + 5856 ≤ 7293034) {n9 v9 key9 : Int32}
    (kk : ∀ (r : Int32) (gc2 : Nat → Nat → Int32) (rr2 : Nat → Nat → Option Nat) (fo2 : Nat → Int64) (tl2 : va_W) (H1 : Heap) (locs1 : List Loc), (∀ (rM : Int32) (gm2 : Nat → Nat → Int32) (la2 : Nat → Int64), (((((n9 < nI 1 ∨ nI V < n9) ∨ (v9 < nI 0 ∨ n9 - nI 1 < v9) ∨ (key9 < nI 0 ∨ nI 47 < key9)) → rM = 0 ∧ gm2 = mup gm 0 0 (nI 1)) ∧ ∀ n1 v1 k1 : Nat, n9 = nI n1 → v9 = nI v1 → key9 = nI k1 → 1 ≤ n1 → n1 ≤ V → v1 < n1 → k1 < 48 → prf gm2 (prB (gm 4) n1 v1 k1 (ol (gt_ (Xs v1)) 48)) ∧ rM = nI (prB (gm 4) n1 v1 k1 (ol (gt_ (Xs v1)) 48)).length ∧ gm2 0 0 = nI 0 ∧ frx [0, 11, 12, 13, 14, 15, 16, 17, 18, 19, 20, 21, 22] gm gm2) ∧ la2 = la) → J tk tl2 gc2 rr2 gm2 la2 (n + 1) ∧ gm2 0 0 = r ∧ (r = 0 → fo2 0 = rM.toInt64)) → va_P D CC (wL tk ac gc2 rr2 ao fo2 h am gm la tl2) H1 → va_D (AL s) (wL tk ac gc2 rr2 ao fo2 h am gm la tl2) → va_S (AL s) s.heap H1 locs1 → W p l e room_1 s m #[Value.ref b] below meth c H1 locs1 (cells + 156) (slots + 5856) Q (F0 m 628 ls [.int r])) : W p l e room_1 s m #[Value.ref b] below meth c H locs cells slots Q (F0 m 625 ls [.ref ao, .int key9, .int v9, .int n9, .ref (ac 0)]) := by
  obtain ⟨⟨hx, hb, hml, hown⟩, hT, hnw, hxF, hK, ⟨hX, hbl, hL⟩, htr⟩ := C
  have hts := hts_of hT
  have hsI : sI tk (ow tk ao fo :: (wM tk h am gm la ++ tl)) S ca bl := sI_up (ow tk ao fo :: wM tk h am gm la) hJ.1.1.1
  have hV12 := hJ.2.1.1
  have hVc := hJ.2.1.2.1.1
  have hVm := hJ.2.1.2.1.2
  have hh9 := hJ.2.1.2.2.1
  rcases pb hV12.2 n9 v9 with ⟨hb1, hb2⟩ | ⟨n1, v1, hvn, hnV, rfl, rfl⟩
  · skip
    refine k_calli (runSW (n := 5) (As := [.ref (ac 0), .int n9, .int v9, .int key9, .ref ao]) (rest := []) hx hb hml hown hT (l_prove_n l htr D tk H.size ac gc rr ao fo (wM tk h am gm la ++ tl) n9 v9 key9 (by rw [hVc]; exact hb1)) t_815 t_816 t_0 t_817 rfl rfl (by decide +kernel) ⟨Nat.le_of_ble_eq_true rfl, Nat.le_of_ble_eq_true rfl⟩ (x_preS hP hK hD hnw hxF (st_keptL hS)) rfl rfl hl.1 rfl (lv_room (Nat.le_of_ble_eq_true rfl)) d_law_625 ⟨by show cells + 1 ≤ 601024; omega, by show slots + 6 ≤ 7293034; omega⟩) hD hS AL_in (fun r9 u9 H1 locs1 hp hP hD hK hS => ?_)
    refine W_up (c2 := cells + 156) (s2 := slots + 5856) (by omega) (by omega) ?_
    subst hp
    refine kk _ gc rr fo tl H1 locs1 (fun rM gm2 la2 hM => ?_) hP hD hS
    obtain ⟨⟨hM, -⟩, rfl⟩ := hM
    obtain ⟨-, rfl⟩ := hM (hb2.elim Or.inl (fun q => Or.inr (Or.inl q)))
    exact ⟨JX_0 hJ _, rd_eq, fun q => absurd q (by decide)⟩
  · rcases kb key9 with ⟨hk1, hk2⟩ | ⟨hk2, k, hk, rfl⟩
    · skip
      refine k_calli (runSW (n := 5) (As := [.ref (ac 0), .int (nI n1), .int (nI v1), .int key9, .ref ao]) (rest := []) hx hb hml hown hT (l_prove_key l htr D tk H.size ac gc rr ao fo (wM tk h am gm la ++ tl) V hV12.2 hVc n1 v1 hnV hvn key9 hk1) t_815 t_816 t_0 t_817 rfl rfl (by decide +kernel) ⟨Nat.le_of_ble_eq_true rfl, Nat.le_of_ble_eq_true rfl⟩ (x_preS hP hK hD hnw hxF (st_keptL hS)) rfl rfl hl.1 rfl (lv_room (Nat.le_of_ble_eq_true rfl)) d_law_625 ⟨by show cells + 1 ≤ 601024; omega, by show slots + 6 ≤ 7293034; omega⟩) hD hS AL_in (fun r9 u9 H1 locs1 hp hP hD hK hS => ?_)
      refine W_up (c2 := cells + 156) (s2 := slots + 5856) (by omega) (by omega) ?_
      subst hp
      refine kk _ gc rr fo tl H1 locs1 (fun rM gm2 la2 hM => ?_) hP hD hS
      obtain ⟨⟨hM, -⟩, rfl⟩ := hM
      obtain ⟨-, rfl⟩ := hM (Or.inr (Or.inr hk2))
      exact ⟨JX_0 hJ _, rd_eq, fun q => absurd q (by decide)⟩
    · skip
      refine k_calli (runSW (n := 5) (As := [.ref (ac 0), .int (nI n1), .int (nI v1), .int (nI k), .ref ao]) (rest := []) hx hb hml hown hT (l_prove l D tk H.size ac gc rr ao fo (wM tk h am gm la ++ tl) S ca bl hsI Xs V hV12.1 hV12.2 hh9 hVc n1 v1 k hnV hvn hk) t_815 t_816 t_0 t_817 rfl rfl (by decide +kernel) ⟨Nat.le_of_ble_eq_true rfl, Nat.le_of_ble_eq_true rfl⟩ (x_preS hP hK hD hnw hxF (st_keptL hS)) rfl rfl hl.1 rfl (lv_room (Nat.le_of_ble_eq_true rfl)) d_law_625 ⟨by show cells + 0 ≤ 601024; omega, by show slots + 0 ≤ 7293034; omega⟩) hD hS AL_in (fun r9 u9 H1 locs1 hp hP hD hK hS => ?_)
      refine W_up (c2 := cells + 156) (s2 := slots + 5856) (by omega) (by omega) ?_
      obtain ⟨hp0, hp⟩ := hp
      subst hp0
      refine kk _ u9 rr _ tl H1 locs1 (fun rM gm2 la2 hM => ?_) hP hD hS
      obtain ⟨⟨-, hM⟩, rfl⟩ := hM
      obtain ⟨m1, m2, m3, m4⟩ := hM n1 v1 k rfl rfl rfl (by omega) hnV hvn hk
      obtain ⟨hp1, hp2⟩ := hp
      have eB : prB (gm 4) n1 v1 k (ol (gt_ (Xs v1)) 48) = prB (fun v => rt (Xs v)) n1 v1 k (Xs v1) := by
        rw [ol_gt (hh9 v1 (by omega)).1, pr_cg (V := V) hnV hV12.2 hJ.2.1.2.2.2.2.1]
      rw [eB] at m1 m2
      refine ⟨J_bytes hJ hp1 m4 (by decide) hp2 m1 (prB_len (hh9 v1 (by omega)).1 (Nat.le_trans (wyl_le 4 0 n1 v1 (by omega) (by omega)) (by decide))) (byB_prB _ _ _ _ _), m3, fun _ => ?_⟩
      rw [m2]; rfl
set_option maxHeartbeats 4000000 in
set_option maxRecDepth 100000 in
theorem q_proveGrowth (C : LC p l s m c b L xs D tk) (hP : va_P D CC (wL tk ac gc rr ao fo h am gm la tl) H) (hD : va_D (AL s) (wL tk ac gc rr ao fo h am gm la tl)) (hS : va_S (AL s) s.heap H locs) (hl : lv_has ls 7 lv) (hJ : JX tk tl gc rr gm la n S ca bl f fm E mp Xs V f0 B ft t0) (hcl : cells + 156 ≤ 601024) (hsl : slots + 5856 ≤ 7293034) {m9 n9 : Int32}
    (kk : ∀ (r : Int32) (gc2 : Nat → Nat → Int32) (rr2 : Nat → Nat → Option Nat) (fo2 : Nat → Int64) (tl2 : va_W) (H1 : Heap) (locs1 : List Loc), (∀ (rM : Int32) (gm2 : Nat → Nat → Int32) (la2 : Nat → Int64), ((((m9 < nI 1 ∨ n9 ≤ m9 ∨ ¬ n9 ≤ nI V) → rM = 0 ∧ gm2 = mup gm 0 0 (nI 1)) ∧ ∀ m1 n1 : Nat, m9 = nI m1 → n9 = nI n1 → 1 ≤ m1 → m1 < n1 → n1 ≤ V → prf gm2 ([nI (grL 5 0 n1 m1).length &&& nI 255] ++ bi (gm 4) (grL 5 0 n1 m1)) ∧ rM = nI (1 + 4 * (grL 5 0 n1 m1).length) ∧ gm2 0 0 = nI 0 ∧ frx [0, 15, 16, 17, 18, 19, 20, 21, 22] gm gm2) ∧ la2 = la) → J tk tl2 gc2 rr2 gm2 la2 (n + 1) ∧ gm2 0 0 = r ∧ (r = 0 → fo2 0 = rM.toInt64)) → va_P D CC (wL tk ac gc2 rr2 ao fo2 h am gm la tl2) H1 → va_D (AL s) (wL tk ac gc2 rr2 ao fo2 h am gm la tl2) → va_S (AL s) s.heap H1 locs1 → W p l e room_1 s m #[Value.ref b] below meth c H1 locs1 (cells + 156) (slots + 5856) Q (F0 m 702 ls [.int r])) : W p l e room_1 s m #[Value.ref b] below meth c H locs cells slots Q (F0 m 699 ls [.ref ao, .int n9, .int m9, .ref (ac 0)]) := by
  obtain ⟨⟨hx, hb, hml, hown⟩, hT, hnw, hxF, hK, ⟨hX, hbl, hL⟩, htr⟩ := C
  have hts := hts_of hT
  have hsI : sI tk (ow tk ao fo :: (wM tk h am gm la ++ tl)) S ca bl := sI_up (ow tk ao fo :: wM tk h am gm la) hJ.1.1.1
  have hV12 := hJ.2.1.1
  have hVc := hJ.2.1.2.1.1
  have hVm := hJ.2.1.2.1.2
  have hh9 := hJ.2.1.2.2.1
  rcases gb hV12.2 m9 n9 with ⟨hb1, hb2⟩ | ⟨m1, n1, hm1, hmn, hnV, rfl, rfl⟩
  · skip
    refine k_calli (runSW (n := 4) (As := [.ref (ac 0), .int m9, .int n9, .ref ao]) (rest := []) hx hb hml hown hT (l_proveGrowth_n l htr D tk H.size ac gc rr ao fo (wM tk h am gm la ++ tl) m9 n9 (by rw [hVc]; exact hb1)) t_854 t_855 t_0 t_856 rfl rfl (by decide +kernel) ⟨Nat.le_of_ble_eq_true rfl, Nat.le_of_ble_eq_true rfl⟩ (x_preS hP hK hD hnw hxF (st_keptL hS)) rfl rfl hl.1 rfl (lv_room (Nat.le_of_ble_eq_true rfl)) d_law_699 ⟨by show cells + 1 ≤ 601024; omega, by show slots + 6 ≤ 7293034; omega⟩) hD hS AL_in (fun r9 u9 H1 locs1 hp hP hD hK hS => ?_)
    refine W_up (c2 := cells + 156) (s2 := slots + 5856) (by omega) (by omega) ?_
    subst hp
    refine kk _ gc rr fo tl H1 locs1 (fun rM gm2 la2 hM => ?_) hP hD hS
    obtain ⟨⟨hM, -⟩, rfl⟩ := hM
    obtain ⟨-, rfl⟩ := hM (hb2.elim (fun q => Or.inl (le0_iff.mp q)) (fun q => Or.inr (q.elim Or.inl (fun q2 => Or.inr (Int32.not_le.mpr q2)))))
    exact ⟨JX_0 hJ _, rd_eq, fun q => absurd q (by decide)⟩
  · skip
    refine k_calli (runSW (n := 4) (As := [.ref (ac 0), .int (nI m1), .int (nI n1), .ref ao]) (rest := []) hx hb hml hown hT (l_proveGrowth l D tk H.size ac gc rr ao fo (wM tk h am gm la ++ tl) S ca bl hsI Xs V hV12.1 hV12.2 hh9 hVc m1 n1 hm1 hmn hnV) t_854 t_855 t_0 t_856 rfl rfl (by decide +kernel) ⟨Nat.le_of_ble_eq_true rfl, Nat.le_of_ble_eq_true rfl⟩ (x_preS hP hK hD hnw hxF (st_keptL hS)) rfl rfl hl.1 rfl (lv_room (Nat.le_of_ble_eq_true rfl)) d_law_699 ⟨by show cells + 0 ≤ 601024; omega, by show slots + 0 ≤ 7293034; omega⟩) hD hS AL_in (fun r9 u9 H1 locs1 hp hP hD hK hS => ?_)
    refine W_up (c2 := cells + 156) (s2 := slots + 5856) (by omega) (by omega) ?_
    obtain ⟨hp0, hp⟩ := hp
    subst hp0
    refine kk _ u9 rr _ tl H1 locs1 (fun rM gm2 la2 hM => ?_) hP hD hS
    obtain ⟨⟨-, hM⟩, rfl⟩ := hM
    obtain ⟨k1, k2, k3, k4⟩ := hM m1 n1 rfl rfl hm1 hmn hnV
    obtain ⟨hp1, hp2⟩ := hp
    have eB : bi (gm 4) (grL 5 0 n1 m1) = bi (fun v => rt (Xs v)) (grL 5 0 n1 m1) := bg_cg (V := V) hm1 hmn hnV hV12.2 hJ.2.1.2.2.2.2.1
    rw [eB] at k1
    have hlen : ([nI (grL 5 0 n1 m1).length &&& nI 255] ++ bi (fun v => rt (Xs v)) (grL 5 0 n1 m1)).length = 1 + 4 * (grL 5 0 n1 m1).length := by
      rw [List.length_append, bi_len]; rfl
    have hle : (grL 5 0 n1 m1).length ≤ 5 := grl_le 4 0 n1 m1 (by omega) hm1 (by omega) (by omega)
    refine ⟨J_bytes hJ hp1 k4 (by decide) hp2 k1 (by rw [hlen]; omega) (byB_gr _ _ _), k3, fun _ => ?_⟩
    rw [k2, ← hlen]; rfl
set_option maxHeartbeats 4000000 in
set_option maxRecDepth 100000 in
theorem q_verify (C : LC p l s m c b L xs D tk) (hP : va_P D CC (wL tk ac gc rr ao fo h am gm la tl) H) (hD : va_D (AL s) (wL tk ac gc rr ao fo h am gm la tl)) (hS : va_S (AL s) s.heap H locs) (hl : lv_has ls 7 lv) (hJ : JX tk tl gc rr gm la n S ca bl f fm E mp Xs V f0 B ft t0) (hcl : cells + 156 ≤ 601024) (hsl : slots + 5856 ≤ 7293034) {dg n9 v9 key9 : Int32}
    (kk : ∀ (r : Int32) (gc2 : Nat → Nat → Int32) (rr2 : Nat → Nat → Option Nat) (fo2 : Nat → Int64) (tl2 : va_W) (H1 : Heap) (locs1 : List Loc), (∀ (rM : Int32) (gm2 : Nat → Nat → Int32) (la2 : Nat → Int64), ((((n9 < nI 1 ∨ nI 16 < n9) ∨ (v9 < nI 0 ∨ n9 - nI 1 < v9) ∨ (key9 < nI 0 ∨ nI 47 < key9) → rM = 0 ∧ gm2 = mup gm 0 0 (nI 1)) ∧ ∀ n1 v1 q1 : Nat, n9 = nI n1 → v9 = nI v1 → key9 = nI q1 → 1 ≤ n1 → n1 ≤ 16 → v1 < n1 → q1 < 48 → frx [0, 17, 18, 19, 20, 23, 25, 26, 27, 28, 29, 30, 31] gm gm2 ∧ gm2 0 0 = nI 0 ∧ gm2 23 0 = nI 0 ∧ ((vfP gm t0 dg n1 v1 q1 → (∀ w, gt_ (vfI gm t0 n1 v1) q1 = some w → rM = nI 2 ∧ gm2 28 0 = w) ∧ (gt_ (vfI gm t0 n1 v1) q1 = none → rM = nI 1 ∧ gm2 28 0 = gm 28 0)) ∧ (¬ vfP gm t0 dg n1 v1 q1 → rM = nI 0 ∧ gm2 28 0 = gm 28 0))) ∧ la2 = la) → J tk tl2 gc2 rr2 gm2 la2 (n + 1) ∧ gm2 0 0 = r ∧ (r = 0 → fo2 0 = rM.toInt64)) → va_P D CC (wL tk ac gc2 rr2 ao fo2 h am gm la tl2) H1 → va_D (AL s) (wL tk ac gc2 rr2 ao fo2 h am gm la tl2) → va_S (AL s) s.heap H1 locs1 → W p l e room_1 s m #[Value.ref b] below meth c H1 locs1 (cells + 156) (slots + 5856) Q (F0 m 881 ls [.int r])) : W p l e room_1 s m #[Value.ref b] below meth c H locs cells slots Q (F0 m 878 ls [.ref ao, .int key9, .int v9, .int n9, .int dg, .ref (ac 0)]) := by
  obtain ⟨⟨hx, hb, hml, hown⟩, hT, hnw, hxF, hK, ⟨hX, hbl, hL⟩, htr⟩ := C
  have hts := hts_of hT
  have hsI : sI tk (ow tk ao fo :: (wM tk h am gm la ++ tl)) S ca bl := sI_up (ow tk ao fo :: wM tk h am gm la) hJ.1.1.1
  have hV12 := hJ.2.1.1
  have hVc := hJ.2.1.2.1.1
  have hVm := hJ.2.1.2.1.2
  have hh9 := hJ.2.1.2.2.1
  obtain ⟨-, ⟨ht0, htk⟩, h28⟩ := hJ.2.2.2.1
  rcases vb16 n9 v9 with ⟨hb1, hb2⟩ | ⟨n1, v1, hvn, hnV, rfl, rfl⟩
  · skip
    refine k_calli (runSW (n := 6) (As := [.ref (ac 0), .int dg, .int n9, .int v9, .int key9, .ref ao]) (rest := []) hx hb hml hown hT (l_verify_n l htr D tk H.size ac gc rr ao fo (wM tk h am gm la ++ tl) dg n9 v9 key9 hb1) t_869 t_870 t_0 t_871 rfl rfl (by decide +kernel) ⟨Nat.le_of_ble_eq_true rfl, Nat.le_of_ble_eq_true rfl⟩ (x_preS hP hK hD hnw hxF (st_keptL hS)) rfl rfl hl.1 rfl (lv_room (Nat.le_of_ble_eq_true rfl)) d_law_878 ⟨by show cells + 1 ≤ 601024; omega, by show slots + 6 ≤ 7293034; omega⟩) hD hS AL_in (fun r9 u9 H1 locs1 hp hP hD hK hS => ?_)
    refine W_up (c2 := cells + 156) (s2 := slots + 5856) (by omega) (by omega) ?_
    subst hp
    refine kk _ gc rr fo tl H1 locs1 (fun rM gm2 la2 hM => ?_) hP hD hS
    obtain ⟨⟨hM, -⟩, rfl⟩ := hM
    obtain ⟨-, rfl⟩ := hM (hb2.elim Or.inl (fun q => Or.inr (Or.inl q)))
    exact ⟨JX_0 hJ _, rd_eq, fun q => absurd q (by decide)⟩
  · rcases kb key9 with ⟨hk1, hk2⟩ | ⟨hk2, k, hk, rfl⟩
    · skip
      refine k_calli (runSW (n := 6) (As := [.ref (ac 0), .int dg, .int (nI n1), .int (nI v1), .int key9, .ref ao]) (rest := []) hx hb hml hown hT (l_verify_key l htr D tk H.size ac gc rr ao fo (wM tk h am gm la ++ tl) dg n1 v1 hnV hvn key9 hk1) t_869 t_870 t_0 t_871 rfl rfl (by decide +kernel) ⟨Nat.le_of_ble_eq_true rfl, Nat.le_of_ble_eq_true rfl⟩ (x_preS hP hK hD hnw hxF (st_keptL hS)) rfl rfl hl.1 rfl (lv_room (Nat.le_of_ble_eq_true rfl)) d_law_878 ⟨by show cells + 1 ≤ 601024; omega, by show slots + 6 ≤ 7293034; omega⟩) hD hS AL_in (fun r9 u9 H1 locs1 hp hP hD hK hS => ?_)
      refine W_up (c2 := cells + 156) (s2 := slots + 5856) (by omega) (by omega) ?_
      subst hp
      refine kk _ gc rr fo tl H1 locs1 (fun rM gm2 la2 hM => ?_) hP hD hS
      obtain ⟨⟨hM, -⟩, rfl⟩ := hM
      obtain ⟨-, rfl⟩ := hM (Or.inr (Or.inr hk2))
      exact ⟨JX_0 hJ _, rd_eq, fun q => absurd q (by decide)⟩
    · obtain ⟨p9, hp9⟩ := nI_any (gc 11 0)
      refine k_calli (runSW (n := 6) (As := [.ref (ac 0), .int dg, .int (nI n1), .int (nI v1), .int (nI k), .ref ao]) (rest := []) hx hb hml hown hT (l_verify l D tk H.size ac gc rr ao fo (wM tk h am gm la ++ tl) ft t0 ht0 htk.2.2.2.2 p9 ⟨htk.1, htk.2.1, hp9⟩ dg n1 v1 k hnV hvn hk) t_869 t_870 t_0 t_871 rfl rfl (by decide +kernel) ⟨Nat.le_of_ble_eq_true rfl, Nat.le_of_ble_eq_true rfl⟩ (x_preS hP hK hD hnw hxF (st_keptL hS)) rfl rfl hl.1 rfl (lv_room (Nat.le_of_ble_eq_true rfl)) d_law_878 ⟨by show cells + 0 ≤ 601024; omega, by show slots + 0 ≤ 7293034; omega⟩) hD hS AL_in (fun r9 u9 H1 locs1 hp hP hD hK hS => ?_)
      refine W_up (c2 := cells + 156) (s2 := slots + 5856) (by omega) (by omega) ?_
      obtain ⟨hp0, hp⟩ := hp
      subst hp0
      refine kk _ u9.2 rr _ tl H1 locs1 (fun rM gm2 la2 hM => ?_) hP hD hS
      obtain ⟨⟨-, hM⟩, rfl⟩ := hM
      obtain ⟨k1, k2, k3, k4, k5⟩ := hM n1 v1 k rfl rfl rfl (by omega) hnV hvn hk
      obtain ⟨c1, c2, c3⟩ := hp
      have hvf := vf_eq htk.2.2.2.1 htk.2.2.2.2 (dg := dg) (key := k) hnV hvn
      have key : gm2 28 0 = u9.2 10 0 ∧ rM = u9.1 := by
        rcases c3 with ⟨a1, a2, a3⟩ | ⟨a1, a2⟩
        · obtain ⟨b1, b2⟩ := k5 (fun q => a1 (hvf.mpr q))
          exact ⟨by rw [b2, a3, h28], by rw [b1, a2]⟩
        · obtain ⟨v3, v4⟩ := vr_eq htk.2.2.2.1 htk.2.2.2.2 hnV hvn a1
          obtain ⟨b1, b2⟩ := k4 (hvf.mp a1)
          rcases a2 with ⟨d1, d2, d3⟩ | ⟨d1, o9, d2, d3, d4, d5⟩
          · obtain ⟨e1, e2⟩ := b2 (v3 d1)
            exact ⟨by rw [e2, d3, h28], by rw [e1, d2]⟩
          · obtain ⟨e1, e2⟩ := b1 _ (v4 o9 d2 d3)
            exact ⟨by rw [e2, d5], by rw [e1, d4]⟩
      exact ⟨J_vf hJ ⟨c1, c2⟩ k1 k3 key.1, k2, fun _ => by rw [key.2]; rfl⟩
set_option maxHeartbeats 4000000 in
set_option maxRecDepth 100000 in
theorem q_verifyGrowth (C : LC p l s m c b L xs D tk) (hP : va_P D CC (wL tk ac gc rr ao fo h am gm la tl) H) (hD : va_D (AL s) (wL tk ac gc rr ao fo h am gm la tl)) (hS : va_S (AL s) s.heap H locs) (hl : lv_has ls 7 lv) (hJ : JX tk tl gc rr gm la n S ca bl f fm E mp Xs V f0 B ft t0) (hcl : cells + 156 ≤ 601024) (hsl : slots + 5856 ≤ 7293034) {one m9 other n9 : Int32} (_dec : ∀ m1 n1, Decidable (vgP gm t0 one other m1 n1))
    (kk : ∀ (r : Int32) (gc2 : Nat → Nat → Int32) (rr2 : Nat → Nat → Option Nat) (fo2 : Nat → Int64) (tl2 : va_W) (H1 : Heap) (locs1 : List Loc), (∀ (rM : Int32) (gm2 : Nat → Nat → Int32) (la2 : Nat → Int64), ((((m9 ≤ 0 ∨ n9 ≤ m9 ∨ nI 17 ≤ n9) → rM = 0 ∧ gm2 = mup gm 0 0 (nI 1)) ∧ ∀ m1 n1 : Nat, m9 = nI m1 → n9 = nI n1 → 1 ≤ m1 → m1 < n1 → n1 ≤ 16 → frx [0, 17, 18, 19, 20, 23, 25, 26, 27] gm gm2 ∧ gm2 0 0 = nI 0 ∧ gm2 23 0 = nI 0 ∧ rM = if (vgP gm t0 one other m1 n1) then nI 1 else nI 0) ∧ la2 = la) → J tk tl2 gc2 rr2 gm2 la2 (n + 1) ∧ gm2 0 0 = r ∧ (r = 0 → fo2 0 = if rM = 0 then 0 else 1)) → va_P D CC (wL tk ac gc2 rr2 ao fo2 h am gm la tl2) H1 → va_D (AL s) (wL tk ac gc2 rr2 ao fo2 h am gm la tl2) → va_S (AL s) s.heap H1 locs1 → W p l e room_1 s m #[Value.ref b] below meth c H1 locs1 (cells + 156) (slots + 5856) Q (F0 m 986 ls [.int r])) : W p l e room_1 s m #[Value.ref b] below meth c H locs cells slots Q (F0 m 983 ls [.ref ao, .int n9, .int other, .int m9, .int one, .ref (ac 0)]) := by
  obtain ⟨⟨hx, hb, hml, hown⟩, hT, hnw, hxF, hK, ⟨hX, hbl, hL⟩, htr⟩ := C
  have hts := hts_of hT
  have hsI : sI tk (ow tk ao fo :: (wM tk h am gm la ++ tl)) S ca bl := sI_up (ow tk ao fo :: wM tk h am gm la) hJ.1.1.1
  have hV12 := hJ.2.1.1
  have hVc := hJ.2.1.2.1.1
  have hVm := hJ.2.1.2.1.2
  have hh9 := hJ.2.1.2.2.1
  obtain ⟨-, ⟨ht0, htk⟩, h28⟩ := hJ.2.2.2.1
  rcases gb (V := 16) (by decide) m9 n9 with ⟨hb1, hb2⟩ | ⟨m1, n1, hm1, hmn, hnV, rfl, rfl⟩
  · skip
    refine k_calli (runSW (n := 6) (As := [.ref (ac 0), .int one, .int m9, .int other, .int n9, .ref ao]) (rest := []) hx hb hml hown hT (l_verifyGrowth_n l htr D tk H.size ac gc rr ao fo (wM tk h am gm la ++ tl) one m9 other n9 hb1) t_910 t_911 t_0 t_912 rfl rfl (by decide +kernel) ⟨Nat.le_of_ble_eq_true rfl, Nat.le_of_ble_eq_true rfl⟩ (x_preS hP hK hD hnw hxF (st_keptL hS)) rfl rfl hl.1 rfl (lv_room (Nat.le_of_ble_eq_true rfl)) d_law_983 ⟨by show cells + 1 ≤ 601024; omega, by show slots + 6 ≤ 7293034; omega⟩) hD hS AL_in (fun r9 u9 H1 locs1 hp hP hD hK hS => ?_)
    refine W_up (c2 := cells + 156) (s2 := slots + 5856) (by omega) (by omega) ?_
    subst hp
    refine kk _ gc rr fo tl H1 locs1 (fun rM gm2 la2 hM => ?_) hP hD hS
    obtain ⟨⟨hM, -⟩, rfl⟩ := hM
    obtain ⟨-, rfl⟩ := hM (hb2.elim Or.inl (fun q => Or.inr (q.elim Or.inl (fun q2 => Or.inr (gt16.mp q2)))))
    exact ⟨JX_0 hJ _, rd_eq, fun q => absurd q (by decide)⟩
  · obtain ⟨p9, hp9⟩ := nI_any (gc 11 0)
    have hvf := vg_eq htk.2.2.2.1 htk.2.2.2.2 (one := one) (other := other) hm1 hmn hnV
    have dC : Decidable (vgC ft t0 one other m1 n1) := decidable_of_iff _ hvf.symm
    refine k_calli (runSW (n := 6) (As := [.ref (ac 0), .int one, .int (nI m1), .int other, .int (nI n1), .ref ao]) (rest := []) hx hb hml hown hT (l_verifyGrowth l D tk H.size ac gc rr ao fo (wM tk h am gm la ++ tl) ft t0 ht0 htk.2.2.2.2 p9 ⟨htk.1, htk.2.1, hp9⟩ one m1 other n1 hm1 hmn hnV dC) t_910 t_911 t_0 t_912 rfl rfl (by decide +kernel) ⟨Nat.le_of_ble_eq_true rfl, Nat.le_of_ble_eq_true rfl⟩ (x_preS hP hK hD hnw hxF (st_keptL hS)) rfl rfl hl.1 rfl (lv_room (Nat.le_of_ble_eq_true rfl)) d_law_983 ⟨by show cells + 0 ≤ 601024; omega, by show slots + 0 ≤ 7293034; omega⟩) hD hS AL_in (fun r9 u9 H1 locs1 hp hP hD hK hS => ?_)
    refine W_up (c2 := cells + 156) (s2 := slots + 5856) (by omega) (by omega) ?_
    obtain ⟨hp0, hp⟩ := hp
    subst hp0
    refine kk _ u9 rr _ tl H1 locs1 (fun rM gm2 la2 hM => ?_) hP hD hS
    obtain ⟨⟨-, hM⟩, rfl⟩ := hM
    obtain ⟨k1, k2, k3, k4⟩ := hM m1 n1 rfl rfl hm1 hmn hnV
    refine ⟨J_vG hJ hp k1 k3, k2, fun _ => ?_⟩
    show (if vgC ft t0 one other m1 n1 then (1 : Int64) else 0) = _
    by_cases q : vgP gm t0 one other m1 n1
    · rw [if_pos (hvf.mpr q), k4, if_pos q, if_neg (by decide)]
    · rw [if_neg (fun q2 => q (hvf.mp q2)), k4, if_neg q, if_pos (by decide)]
end QQ
