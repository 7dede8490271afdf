theorem tOf_ex {tl tl2 : va_W} {S S2 : List ck_I} {ca ca2 : Nat → Nat} (h : exS tl S ca tl2 S2 ca2) {X : List kv_I} {t : Option Nat} (ht : tOf S ca X t) : tOf S2 ca2 X t := by
  rcases ht with ht | ⟨d, l, e, hd, hl⟩
  · exact Or.inl ht
  · obtain ⟨h1, h2⟩ := exS_at h d _ hd
    exact Or.inr ⟨d, l, by rw [e, h2], h1, hl⟩
theorem tOf_tl {tk : Nat → ClassId} {tl : va_W} {S : List ck_I} {ca : Nat → Nat} {bl : Nat → Nat → Option Nat} (h : sI tk tl S ca bl) {X : List kv_I} {t : Option Nat} (ht : tOf S ca X t) : ∀ v, t = some v → ∃ (qk : Nat) (vs : List Value), tl[qk]? = some (v, .inr (1, vs)) := by
  intro v hv
  rcases ht with ⟨_, e⟩ | ⟨d, l, e, hd, _⟩
  · rw [e] at hv; cases hv
  · rw [e] at hv
    have : ca d = v := Option.some.inj hv
    subst this
    obtain ⟨q1, _, _, _, _, _, h1, _⟩ := h.2 d _ _ hd
    exact ⟨q1, _, h1⟩
/-- what a commit does, where there is room for a version -/
def cmC (tk : Nat → ClassId) (tl : va_W) (g : Nat → Nat → Int32) (rr : Nat → Nat → Option Nat) (S : List ck_I) (ca : Nat → Nat) (f : Nat) (Xs : Nat → List kv_I) (V : Nat) (X : List kv_I) (r : Int32) (u : KS) : Prop :=
  ∃ f9, stI tk u.2.2.1 u.1 u.2.1 u.2.2.2.1 u.2.2.2.2.1 u.2.2.2.2.2 f9 ∧ exS tl S ca u.2.2.1 u.2.2.2.1 u.2.2.2.2.1 ∧ u.2.2.2.1 = (kq (rq X) S f).2.1 ∧ f9 = (if (kq (rq X) S f).1 = true then (wr (kq (rq X) S f).2.2).2 else (kq (rq X) S f).2.2) ∧
  (((kq (rq X) S f).1 = true ∧ (wr (kq (rq X) S f).2.2).1 = true ∧ r = nI V ∧ u.1 2 0 = nI (V + 1) ∧ (∀ v, v < V → u.2.1 1 v = rr 1 v) ∧ tOf u.2.2.2.1 u.2.2.2.2.1 X (u.2.1 1 V) ∧ frx [0, 1, 2, 5, 6, 7] g u.1) ∨
   (¬ ((kq (rq X) S f).1 = true ∧ (wr (kq (rq X) S f).2.2).1 = true) ∧ r = -1 ∧ u.1 2 0 = nI V ∧ u.2.1 1 = rr 1 ∧ frx [0, 1, 3, 4, 5, 6, 7] g u.1 ∧ bz (u.1 3) ∧ ldP (Xs (V - 1)) u.1 48))
theorem stI_o {tk : Nat → ClassId} {tl : va_W} {g g2 : Nat → Nat → Int32} {rr r2 : Nat → Nat → Option Nat} {S : List ck_I} {ca : Nat → Nat} {bl : Nat → Nat → Option Nat} {f f2 : Nat} (h : stI tk tl g rr S ca bl f) (h0 : g2 0 0 = g 0 0) (h1 : g2 1 0 = nI f2) (hf : f2 ≤ 40) (hr : r2 0 = rr 0) : stI tk tl g2 r2 S ca bl f2 := ⟨h.1, fun k hk => by rw [hr]; exact h.2.1 k hk, h0.trans h.2.2.1, h1, hf⟩
theorem wr_40 {f : Nat} (h : f ≤ 40) : (wr f).2 ≤ 40 := by
  unfold wr
  split <;> simp <;> omega

theorem cm_no {tk : Nat → ClassId} {tl : va_W} {g : Nat → Nat → Int32} {rr : Nat → Nat → Option Nat} {S : List ck_I} {ca : Nat → Nat} {f : Nat} {Xs : Nat → List kv_I} {V : Nat} {X : List kv_I} {v : KS} {f2 f9 : Nat} {g3 u : Nat → Nat → Int32} (h1 : stI tk v.2.2.1 v.1 v.2.1 v.2.2.2.1 v.2.2.2.2.1 v.2.2.2.2.2 f2) (h2 : exS tl S ca v.2.2.1 v.2.2.2.1 v.2.2.2.2.1) (h3 : v.2.2.2.1 = (kq (rq X) S f).2.1) (h4 : f9 = (if (kq (rq X) S f).1 = true then (wr (kq (rq X) S f).2.2).2 else (kq (rq X) S f).2.2)) (h5 : ¬ ((kq (rq X) S f).1 = true ∧ (wr (kq (rq X) S f).2.2).1 = true))
    (h6 : u 0 0 = v.1 0 0) (h7 : u 1 0 = nI f9) (h8 : f9 ≤ 40) (hrv : v.2.1 1 = rr 1) (hgv : ∀ x, x ∉ [0, 1, 5, 6, 7] → v.1 x = g x) (h3v : ∀ x, x ≠ 1 → g3 x = v.1 x) (hu1 : frx [3, 4] g3 u) (hu2 : bz (u 3)) (hu3 : ldP (Xs (V - 1)) u 48) (hV : g 2 0 = nI V) : cmC tk tl g rr S ca f Xs V X (-1) (u, v.2.1, v.2.2.1, v.2.2.2.1, v.2.2.2.2.1, v.2.2.2.2.2) := by
  refine ⟨f9, stI_o h1 h6 h7 h8 rfl, h2, h3, h4, Or.inr ⟨h5, rfl, ?_, hrv, fun x h9 => ?_, hu2, hu3⟩⟩
  · show u 2 0 = _
    rw [hu1 2 (by decide), h3v 2 (by decide), hgv 2 (by decide)]; exact hV
  · show u x = g x
    rw [hu1 x (fun z => h9 (by revert z; simp; omega)), h3v x (fun z => h9 (by rw [z]; decide)), hgv x (fun z => h9 (by revert z; simp; omega))]
theorem cm_yes {tk : Nat → ClassId} {tl : va_W} {g : Nat → Nat → Int32} {rr : Nat → Nat → Option Nat} {S : List ck_I} {ca : Nat → Nat} {f : Nat} {Xs : Nat → List kv_I} {V : Nat} {X : List kv_I} {v : KS} {f2 : Nat} {t9 : Option Nat} {r : Int32} (h1 : stI tk v.2.2.1 v.1 v.2.1 v.2.2.2.1 v.2.2.2.2.1 v.2.2.2.2.2 f2) (h2 : exS tl S ca v.2.2.1 v.2.2.2.1 v.2.2.2.2.1) (hok : kq (rq X) S f = (true, v.2.2.2.1, f2)) (hwt : (wr f2).1 = true) (htop : tOf v.2.2.2.1 v.2.2.2.2.1 X t9) (hrv : v.2.1 1 = rr 1) (hgv : ∀ x, x ∉ [0, 1, 5, 6, 7] → v.1 x = g x) (hr : r = nI V) :
    cmC tk tl g rr S ca f Xs V X r (mup (mup v.1 1 0 (nI (wr f2).2)) 2 0 (nI (V + 1)), rup v.2.1 1 V t9, v.2.2.1, v.2.2.2.1, v.2.2.2.2.1, v.2.2.2.2.2) := by
  refine ⟨(wr f2).2, stI_o h1 ?_ ?_ (wr_40 h1.2.2.2.2) (show rup v.2.1 1 V t9 0 = v.2.1 0 from rup_ne (by decide)), h2, by rw [hok], by rw [hok, if_pos rfl], Or.inl ⟨by rw [hok], by rw [hok]; exact hwt, hr, ?_, fun w hw => ?_, ?_, fun x h9 => ?_⟩⟩
  · show mup (mup v.1 1 0 (nI (wr f2).2)) 2 0 (nI (V + 1)) 0 0 = v.1 0 0
    exact rd_ne (by decide) (rd_ne (by decide) rfl)
  · show mup (mup v.1 1 0 (nI (wr f2).2)) 2 0 (nI (V + 1)) 1 0 = nI (wr f2).2
    exact rd_ne (by decide) rd_eq
  · show mup (mup v.1 1 0 (nI (wr f2).2)) 2 0 (nI (V + 1)) 2 0 = _
    exact rd_eq
  · show rup v.2.1 1 V t9 1 w = _
    rw [rup_eq, va_up_ne _ _ (by omega), hrv]
  · show tOf _ _ X (rup v.2.1 1 V t9 1 V)
    rw [rup_eq, va_up_self]; exact htop
  · show mup (mup v.1 1 0 (nI (wr f2).2)) 2 0 (nI (V + 1)) x = g x
    rw [mup_ne (fun z => h9 (by rw [z]; decide)), mup_ne (fun z => h9 (by rw [z]; decide)), hgv x (fun z => h9 (by revert z; simp; omega))]

set_option maxHeartbeats 4000000 in
set_option maxRecDepth 100000 in
theorem c_K_commit1 (l : Launch) (D : va_G) (tk : Nat → ClassId) (sz : Nat) (ad : Nat → Nat) (g : Nat → Nat → Int32) (rr : Nat → Nat → Option Nat) (tl : va_W) (S : List ck_I) (ca : Nat → Nat) (bl : Nat → Nat → Option Nat) (f : Nat) (hstI : stI tk tl g rr S ca bl f) (hSl : S.length + 40 < 8704) (Xs : Nat → List kv_I) (V : Nat) (hV1 : 1 ≤ V) (hV2 : V < 16) (hV : g 2 0 = nI V) (hh : ∀ v, v < V → so (Xs v) ∧ tOf S ca (Xs v) (rr 1 v)) (hz : bz (g 3)) (fm : Nat → Option Int32) (hf : ∀ k, k < 48 → (g 3 k = 0 ↔ fm k = none) ∧ ∀ v, fm k = some v → g 4 k = v) : Met l y_K_commit w_K_commit ({ frames := 7, cells := 156, slots := 5850, locals := 210 }) (va_Pc [.ref (ad 0)] (k_pre D (TY tk) sz (wC tk ad g rr ++ tl))) (va_Qi (fun (r : Int32) (u : KS) => cmC tk tl g rr S ca f Xs V (ol fm 48) r u) (fun u t => k_at D (TY tk) (va_A (wC tk ad g rr ++ tl) sz) ((fun (u : KS) => (wC tk ad u.1 u.2.1 ++ u.2.2.1 : va_W)) u) t) (va_A (wC tk ad g rr ++ tl) sz)) 156 5850 (va_A (wC tk ad g rr ++ tl) sz) := by
  refine k_ofW (l := l) (rm := ({ frames := 7, cells := 156, slots := 5850, locals := 210 } : Room)) (mc := 156) (ms := 5850) (av := [.ref (ad 0)]) (y := y_K_commit) (cc := prog_1_method_4_code) (maxL := 1) (ret := (some .int)) (ws := wC tk ad g rr ++ tl) (sz := sz) (D := D) (tys := TY tk) (fun A => va_Qi (fun (r : Int32) (u : KS) => cmC tk tl g rr S ca f Xs V (ol fm 48) r u) (fun u t => k_at D (TY tk) A ((fun (u : KS) => (wC tk ad u.1 u.2.1 ++ u.2.2.1 : va_W)) u) t) A) (by decide) (Nat.le_of_ble_eq_true rfl) ?_
  intro p e s m args below meth c Q A ls hQ hx hb hr hlk hin hts hT hown hml hnw hP hK hD hA hsz hl
  have hS : va_S A s.heap s.heap [] := va_S.rf
  have hc0 : 0 + 0 ≤ 156 ∧ 0 + 0 ≤ 5850 := ⟨by decide, by decide⟩
  replace hl : lv_has ls 1 [(0, .ref (ad 0))] := hl
  replace hP : va_P D CC (wC tk ad g rr ++ tl) s.heap := hP
  replace hK : va_K D CC (TY tk) s := hK
  refine lv_aload_n hx hb d_K_commit_0 rfl (lv_at hl 0 rfl) ?_
  refine k_callv (va_runV (As := []) (rest := []) ⟨hx, hb, hml, hown, hts⟩ (c_K_requireRoom1 l D tk s.heap.size ad g rr tl  V hV2 hV) (cwV 0 hts (gV t_361 t_363 s_1 t_1 t_364) rfl rfl rfl (by decide +kernel) ⟨Nat.le_of_ble_eq_true rfl, Nat.le_of_ble_eq_true rfl⟩) (k_preV hP hK hD hnw 0 rfl rfl) rfl rfl hl.1 rfl (lv_room (Nat.le_of_ble_eq_true rfl)) d_K_commit_1 ⟨by show _ ≤ 156; omega, by show _ ≤ 5850; omega⟩) hD hS hA (fun _ H locs hp1 hP hD hK hS => ?_)
  replace hP : va_P D CC (wC tk ad g rr ++ tl) H := hP
  replace hD : va_D A (wC tk ad g rr ++ tl) := hD
  refine lv_aload_n hx hb d_K_commit_4 rfl (lv_at hl 0 rfl) ?_
  refine gf_K_26 (v := .ref (ad 5)) hx hb hT hown hK hP 0 rfl rfl d_K_commit_5 ?_
  refine lv_aload_n hx hb d_K_commit_8 rfl (lv_at hl 0 rfl) ?_
  refine gf_K_33 (v := .ref (ad 8)) hx hb hT hown hK hP 0 rfl rfl d_K_commit_9 ?_
  refine k_callv (va_runV (As := [.ref (ad 8)]) (rest := []) ⟨hx, hb, hml, hown, hts⟩ (c_T_listInto l D tk H.size ad g rr tl fm hf) (cwV 1 hts (gV t_403 t_404 t_405 t_4 t_406) rfl rfl rfl (by decide +kernel) ⟨Nat.le_of_ble_eq_true rfl, Nat.le_of_ble_eq_true rfl⟩) (k_preV hP hK hD hnw 5 rfl rfl) rfl rfl hl.1 rfl (lv_room (Nat.le_of_ble_eq_true rfl)) d_K_commit_12 ⟨by show _ ≤ 156; omega, by show _ ≤ 5850; omega⟩) hD hS hA (fun w9 H locs ⟨hw1, hw2, hw3, hw4⟩ hP hD hK hS => ?_)
  have hstw : stI tk tl w9.1 w9.2 S ca bl f := stI_o hstI (congrFun (hw1 0 (by decide)) 0) ((congrFun (hw1 1 (by decide)) 0).trans hstI.2.2.2.1) hstI.2.2.2.2 (hw2 0 (by decide))
  replace hP : va_P D CC (wC tk ad w9.1 w9.2 ++ tl) H := hP
  replace hD : va_D A (wC tk ad w9.1 w9.2 ++ tl) := hD
  refine lv_aload_n hx hb d_K_commit_15 rfl (lv_at hl 0 rfl) ?_
  refine gf_K_10 (v := .ref (ad 1)) hx hb hT hown hK hP 0 rfl rfl d_K_commit_16 ?_
  refine lv_aload_n hx hb d_K_commit_19 rfl (lv_at hl 0 rfl) ?_
  refine gf_K_33 (v := .ref (ad 8)) hx hb hT hown hK hP 0 rfl rfl d_K_commit_20 ?_
  refine k_calli (va_runV (As := [.ref (ad 8)]) (rest := []) ⟨hx, hb, hml, hown, hts⟩ (c_S_keepTree l D tk H.size ad w9.1 w9.2 tl S ca bl f hstw (ol fm 48) (ol_is fm) hSl hw3.1 hw4 hw3.2) (cwV 1 hts (gV t_411 t_412 t_413 t_2 t_414) rfl rfl rfl (by decide +kernel) ⟨Nat.le_of_ble_eq_true rfl, Nat.le_of_ble_eq_true rfl⟩) (k_preV hP hK hD hnw 1 rfl rfl) rfl rfl hl.1 rfl (lv_room (Nat.le_of_ble_eq_true rfl)) d_K_commit_23 ⟨by show _ ≤ 156; omega, by show _ ≤ 5850; omega⟩) hD hS hA (fun r23 v9 H locs ⟨f2, hk1, hk2, hk3, hk4, hk5⟩ hP hD hK hS => ?_)
  have hgv : ∀ x, x ∉ [0, 1, 5, 6, 7] → v9.1 x = g x := fun x h9 => (hk3 x h9).trans (hw1 x (fun h8 => h9 (by revert h8; simp; omega)))
  have hrv : v9.2.1 1 = rr 1 := (hk4 1 (by decide)).trans (hw2 1 (by decide))
  have hhv : ∀ v, v < V → so (Xs v) ∧ tOf v9.2.2.2.1 v9.2.2.2.2.1 (Xs v) (v9.2.1 1 v) := fun v h9 => ⟨(hh v h9).1, by rw [hrv]; exact tOf_ex hk2 (hh v h9).2⟩
  replace hP : va_P D CC (wC tk ad v9.1 v9.2.1 ++ v9.2.2.1) H := hP
  replace hD : va_D A (wC tk ad v9.1 v9.2.1 ++ v9.2.2.1) := hD
  refine lv_if_eq hx hb d_K_commit_26 (tgt := 39) (by decide) (fun hc26 => ?_) (fun hc26 => ?_)
  · skip
    have hno := (hk5.resolve_left (fun q => by rw [q.1] at hc26; exact absurd hc26 (by decide))).2
    refine lv_aload_n hx hb d_K_commit_39 rfl (lv_at hl 0 rfl) ?_
    refine k_callv (va_runV (As := []) (rest := []) ⟨hx, hb, hml, hown, hts⟩ (c_K_rollback l D tk H.size ad v9.1 v9.2.1 v9.2.2.1 v9.2.2.2.1 v9.2.2.2.2.1 v9.2.2.2.2.2 hk1.1 Xs V hV1 (by omega) hhv (((congrFun (hgv 2 (by decide)) 0).trans hV)) (by rw [hgv 3 (by decide)]; exact hz)) (cwV 0 hts (gV t_730 t_206 t_207 t_1 t_208) rfl rfl rfl (by decide +kernel) ⟨Nat.le_of_ble_eq_true rfl, Nat.le_of_ble_eq_true rfl⟩) (k_preV hP hK hD hnw 0 rfl rfl) rfl rfl hl.1 rfl (lv_room (Nat.le_of_ble_eq_true rfl)) d_K_commit_40 ⟨by show _ ≤ 156; omega, by show _ ≤ 5850; omega⟩) hD hS hA (fun u9 H locs ⟨hu1, hu2, hu3⟩ hP hD hK hS => ?_)
    have hst9 : u9 0 0 = v9.1 0 0 := congrFun (hu1 0 (by decide)) 0
    have hst8 : u9 1 0 = v9.1 1 0 := congrFun (hu1 1 (by decide)) 0
    replace hP : va_P D CC (wC tk ad u9 v9.2.1 ++ v9.2.2.1) H := hP
    replace hD : va_D A (wC tk ad u9 v9.2.1 ++ v9.2.2.1) := hD
    refine lv_iconst (v := -1) hx hb d_K_commit_43 (by decide) ?_
    refine W_up (c2 := 156) (s2 := 5850) (by omega) (by omega) ?_
    exact k_iret (v := -1) hQ hx hb hr hlk hK hP hD hS (u9, v9.2.1, v9.2.2.1, v9.2.2.2.1, v9.2.2.2.2.1, v9.2.2.2.2.2) rfl (cm_no hk1 hk2 (by rw [hno]) (by rw [hno]; rfl) (fun q => by rw [hno] at q; exact absurd q.1 Bool.false_ne_true) hst9 (hst8.trans hk1.2.2.2.1) hk1.2.2.2.2 hrv hgv (fun _ _ => rfl) hu1 hu2 hu3 hV) d_K_commit_44
  · skip
    obtain ⟨hr1, hok, n5, hn5, h55, htop⟩ := hk5.resolve_right (fun q => hc26 q.1)
    refine lv_aload_n hx hb d_K_commit_29 rfl (lv_at hl 0 rfl) ?_
    refine gf_K_10 (v := .ref (ad 1)) hx hb hT hown hK hP 0 rfl rfl d_K_commit_30 ?_
    refine k_calli (va_runV (As := []) (rest := []) ⟨hx, hb, hml, hown, hts⟩ (c_S_write l D tk H.size ad v9.1 v9.2.1 v9.2.2.1 f2 hk1.2.2.2.2 hk1.2.2.2.1) (cwV 0 hts (gV t_729 t_440 t_441 t_2 t_442) rfl rfl rfl (by decide +kernel) ⟨Nat.le_of_ble_eq_true rfl, Nat.le_of_ble_eq_true rfl⟩) (k_preV hP hK hD hnw 1 rfl rfl) rfl rfl hl.1 rfl (lv_room (Nat.le_of_ble_eq_true rfl)) d_K_commit_33 ⟨by show _ ≤ 156; omega, by show _ ≤ 5850; omega⟩) hD hS hA (fun _ _ H locs hp33 hP hD hK hS => ?_)
    subst hp33
    replace hP : va_P D CC (wC tk ad (mup v9.1 1 0 (nI (wr f2).2)) v9.2.1 ++ v9.2.2.1) H := hP
    replace hD : va_D A (wC tk ad (mup v9.1 1 0 (nI (wr f2).2)) v9.2.1 ++ v9.2.2.1) := hD
    refine lv_if_ne hx hb d_K_commit_36 (tgt := 45) (by decide) (fun hc36 => ?_) (fun hc36 => ?_)
    · skip
      have hwt : (wr f2).1 = true := by unfold wrZ at hc36; split at hc36; assumption; exact absurd nI_0 hc36
      refine lv_aload_n hx hb d_K_commit_45 rfl (lv_at hl 0 rfl) ?_
      refine gf_K_19 (v := .ref (ad 3)) hx hb hT hown hK hP 0 rfl rfl d_K_commit_46 ?_
      refine lv_aload_n hx hb d_K_commit_49 rfl (lv_at hl 0 rfl) ?_
      refine gf_K_33 (v := .ref (ad 8)) hx hb hT hown hK hP 0 rfl rfl d_K_commit_50 ?_
      refine k_callq (va_runV (As := []) (rest := [.ref (ad 3)]) ⟨hx, hb, hml, hown, hts⟩ (c_R_top l D tk H.size ad (mup v9.1 1 0 (nI (wr f2).2)) v9.2.1 v9.2.2.1 n5 hn5 (rd_ne (by decide) h55)) (cwV 0 hts (gV t_731 t_732 t_733 t_5 t_734) rfl rfl rfl (by decide +kernel) ⟨Nat.le_of_ble_eq_true rfl, Nat.le_of_ble_eq_true rfl⟩) (k_preV hP hK hD hnw 8 rfl rfl) rfl rfl hl.1 rfl (lv_room (Nat.le_of_ble_eq_true rfl)) d_K_commit_53 ⟨by show _ ≤ 156; omega, by show _ ≤ 5850; omega⟩) hD hS hA (fun t9 _ H locs ht9 hP hD hK hS => ?_)
      rw [← ht9] at htop
      replace hP : va_P D CC (wC tk ad (mup v9.1 1 0 (nI (wr f2).2)) v9.2.1 ++ v9.2.2.1) H := hP
      replace hD : va_D A (wC tk ad (mup v9.1 1 0 (nI (wr f2).2)) v9.2.1 ++ v9.2.2.1) := hD
      refine k_callv (va_runV (As := [va_rf t9]) (rest := []) ⟨hx, hb, hml, hown, hts⟩ (c_H_add l D tk H.size ad (mup v9.1 1 0 (nI (wr f2).2)) v9.2.1 v9.2.2.1 V hV2 (rd_ne (by decide) ((congrFun (hgv 2 (by decide)) 0).trans hV)) t9 (tOf_tl hk1.1 htop)) (cwV 1 hts (gV t_735 t_736 t_737 t_3 t_738) rfl rfl rfl (by decide +kernel) ⟨Nat.le_of_ble_eq_true rfl, Nat.le_of_ble_eq_true rfl⟩) (k_preV hP hK hD hnw 3 rfl rfl) rfl rfl hl.1 rfl (lv_room (Nat.le_of_ble_eq_true rfl)) d_K_commit_56 ⟨by show _ ≤ 156; omega, by show _ ≤ 5850; omega⟩) hD hS hA (fun _ H locs hp56 hP hD hK hS => ?_)
      replace hP : va_P D CC (wC tk ad (mup (mup v9.1 1 0 (nI (wr f2).2)) 2 0 (nI (V + 1))) (rup v9.2.1 1 V t9) ++ v9.2.2.1) H := hP
      replace hD : va_D A (wC tk ad (mup (mup v9.1 1 0 (nI (wr f2).2)) 2 0 (nI (V + 1))) (rup v9.2.1 1 V t9) ++ v9.2.2.1) := hD
      refine lv_aload_n hx hb d_K_commit_59 rfl (lv_at hl 0 rfl) ?_
      refine gf_K_19 (v := .ref (ad 3)) hx hb hT hown hK hP 0 rfl rfl d_K_commit_60 ?_
      refine gf_K_89 (v := .int ((mup (mup v9.1 1 0 (nI (wr f2).2)) 2 0 (nI (V + 1))) 2 0)) hx hb hT hown hK hP 3 rfl rfl d_K_commit_63 ?_
      refine st_top (show (mup (mup v9.1 1 0 (nI (wr f2).2)) 2 0 (nI (V + 1))) 2 0 = nI (V + 1) from rd_eq) ?_
      refine lv_iconst (v := nI 1) hx hb d_K_commit_66 (by decide) ?_
      refine st_isub hx hb (by omega) d_K_commit_67 ?_
      refine W_up (c2 := 156) (s2 := 5850) (by omega) (by omega) ?_
      exact k_iret (v := nI ((V + 1) - 1)) hQ hx hb hr hlk hK hP hD hS (mup (mup v9.1 1 0 (nI (wr f2).2)) 2 0 (nI (V + 1)), rup v9.2.1 1 V t9, v9.2.2.1, v9.2.2.2.1, v9.2.2.2.2.1, v9.2.2.2.2.2) rfl (cm_yes hk1 hk2 hok hwt htop hrv hgv rfl) d_K_commit_68
    · skip
      have hwf : ¬ (wr f2).1 = true := by unfold wrZ at hc36; split at hc36; exact absurd hc36 (by decide); assumption
      refine lv_aload_n hx hb d_K_commit_39 rfl (lv_at hl 0 rfl) ?_
      refine k_callv (va_runV (As := []) (rest := []) ⟨hx, hb, hml, hown, hts⟩ (c_K_rollback l D tk H.size ad (mup v9.1 1 0 (nI (wr f2).2)) v9.2.1 v9.2.2.1 v9.2.2.2.1 v9.2.2.2.2.1 v9.2.2.2.2.2 hk1.1 Xs V hV1 (by omega) hhv (rd_ne (by decide) ((congrFun (hgv 2 (by decide)) 0).trans hV)) (by rw [mup_ne (by decide)]; rw [hgv 3 (by decide)]; exact hz)) (cwV 0 hts (gV t_730 t_206 t_207 t_1 t_208) rfl rfl rfl (by decide +kernel) ⟨Nat.le_of_ble_eq_true rfl, Nat.le_of_ble_eq_true rfl⟩) (k_preV hP hK hD hnw 0 rfl rfl) rfl rfl hl.1 rfl (lv_room (Nat.le_of_ble_eq_true rfl)) d_K_commit_40 ⟨by show _ ≤ 156; omega, by show _ ≤ 5850; omega⟩) hD hS hA (fun u9 H locs ⟨hu1, hu2, hu3⟩ hP hD hK hS => ?_)
      have hst9 : u9 0 0 = (mup v9.1 1 0 (nI (wr f2).2)) 0 0 := congrFun (hu1 0 (by decide)) 0
      have hst8 : u9 1 0 = (mup v9.1 1 0 (nI (wr f2).2)) 1 0 := congrFun (hu1 1 (by decide)) 0
      replace hP : va_P D CC (wC tk ad u9 v9.2.1 ++ v9.2.2.1) H := hP
      replace hD : va_D A (wC tk ad u9 v9.2.1 ++ v9.2.2.1) := hD
      refine lv_iconst (v := -1) hx hb d_K_commit_43 (by decide) ?_
      refine W_up (c2 := 156) (s2 := 5850) (by omega) (by omega) ?_
      exact k_iret (v := -1) hQ hx hb hr hlk hK hP hD hS (u9, v9.2.1, v9.2.2.1, v9.2.2.2.1, v9.2.2.2.2.1, v9.2.2.2.2.2) rfl (cm_no hk1 hk2 (by rw [hok]) (by rw [hok, if_pos rfl]) (fun q => by rw [hok] at q; exact hwf q.2) (hst9.trans (rd_ne (by decide) rfl)) (hst8.trans rd_eq) (wr_40 hk1.2.2.2.2) hrv hgv (fun x h9 => mup_ne h9) hu1 hu2 hu3 hV) d_K_commit_44
