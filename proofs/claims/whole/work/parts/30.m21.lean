/-- a map is laid down in place mp -/
def fmx (fm : Nat → Nat → Option Int32) (mp : Nat) (f0 : Nat → Option Int32) : Nat → Nat → Option Int32 := fun x => if x = mp then f0 else fm x
theorem map_fmx {fm : Nat → Nat → Option Int32} {mp : Nat} {f0 : Nat → Option Int32} {E : List (Nat × Nat × Nat × Nat)} (h : ∀ e, e ∈ E → e.2.1 < mp) : E.map (ent (fmx fm mp f0)) = E.map (ent fm) := List.map_congr_left (fun e he => by
  have := h e he
  unfold ent fmx
  rw [if_neg (by omega)])
theorem sr_keep {g u : Nat → Nat → Int32} {la : Nat → Int64} {fm : Nat → Nat → Option Int32} {E : List (Nat × Nat × Nat × Nat)} {f0 : Nat → Option Int32} {mp : Nat} (h : srM g la fm E) (hm : ∀ e, e ∈ E → e.2.1 < mp) (h6 : u 6 = g 6) (h7 : u 7 = g 7) (h10 : u 10 = g 10) (b : Int64) : srM (kmF u mp 48) (vp_updL la mp b) (fmx fm mp f0) E := by
  refine ⟨by rw [kmF_ne _ _ _ (by decide), h6]; exact h.1, fun c e hc => ?_⟩
  obtain ⟨⟨q1, q2⟩, q3, q4⟩ := h.2 c e hc
  have hlt := hm e (List.mem_of_getElem? hc)
  have ef : fmx fm mp f0 e.2.1 = fm e.2.1 := if_neg (by omega)
  have el : vp_updL la mp b e.2.1 = la e.2.1 := if_neg (by omega)
  rw [ef, el]
  refine ⟨⟨by rw [kmF_ne _ _ _ (by decide), h7]; exact q1, q2⟩, q3, fun k hk => ⟨(q4 k hk).1, fun v hv => ?_⟩⟩
  unfold kmF
  rw [if_pos rfl]
  show (if 48 * mp ≤ 48 * e.2.1 + k ∧ 48 * e.2.1 + k < 48 * mp + 48 then _ else u 10 (48 * e.2.1 + k)) = v
  rw [if_neg (by omega), h10]
  exact (q4 k hk).2 v hv
theorem row_keep {u : Nat → Nat → Int32} {la : Nat → Int64} {fm : Nat → Nat → Option Int32} {f0 : Nat → Option Int32} {mp : Nat} (hf : ∀ k, k < 48 → (u 1 (768 + k) = 0 ↔ f0 k = none) ∧ ∀ v, f0 k = some v → u 2 (768 + k) = v) : ∀ k, k < 48 → ((((vp_updL la mp (btM (u 1) 48) mp) >>> ((nI k).toInt64 &&& 63)) &&& 1 = 1) ↔ ¬ fmx fm mp f0 mp k = none) ∧ ∀ v, fmx fm mp f0 mp k = some v → kmF u mp 48 10 (48 * mp + k) = v := by
  intro k hk
  have e1 : fmx fm mp f0 mp = f0 := if_pos rfl
  have e2 : vp_updL la mp (btM (u 1) 48) mp = btM (u 1) 48 := if_pos rfl
  rw [e1, e2, bt_row _ hk]
  refine ⟨not_congr (hf k hk).1, fun v hv => ?_⟩
  unfold kmF
  rw [if_pos rfl]
  show (if 48 * mp ≤ 48 * mp + k ∧ 48 * mp + k < 48 * mp + 48 then u 2 (768 + (48 * mp + k - 48 * mp)) else _) = v
  rw [if_pos (by omega), show 768 + (48 * mp + k - 48 * mp) = 768 + k by omega]
  exact (hf k hk).2 v hv
theorem sr_fr {g u : Nat → Nat → Int32} {la : Nat → Int64} {fm : Nat → Nat → Option Int32} {E : List (Nat × Nat × Nat × Nat)} (h : srM g la fm E) (h6 : u 6 = g 6) (h7 : u 7 = g 7) (h10 : u 10 = g 10) : srM u la fm E := by
  unfold srM at h ⊢
  rw [h6, h7, h10]
  exact h
theorem cpK_ne (g : Nat → Nat → Int32) (f t k : Nat) {x : Nat} (h1 : x ≠ 1) (h2 : x ≠ 2) : cpK g f t k x = g x := by unfold cpK; rw [if_neg (by omega)]
theorem cpK_c {g u : Nat → Nat → Int32} (f t k : Nat) {x : Nat} (h : u x = g x) : cpK u f t k x = cpK g f t k x := by unfold cpK; rw [h]
def cmK (fm : Nat → Nat → Option Int32) (f0 : Nat → Option Int32) (E : List (Nat × Nat × Nat × Nat)) (fl : Nat) : Bool × List ck_I × Nat := kq (rq (ol f0 48)) (E.map (ent fm)) fl
def cmO (K : Bool × List ck_I × Nat) : Prop := K.1 = true ∧ (wr K.2.2).1 = true
def cmF (K : Bool × List ck_I × Nat) : Nat := if K.1 = true then (wr K.2.2).2 else K.2.2
/-- what a commit leaves -/
def cmP (g : Nat → Nat → Int32) (fm : Nat → Nat → Option Int32) (f0 : Nat → Option Int32) (E : List (Nat × Nat × Nat × Nat)) (mp fl V : Nat) (r : Int32) (u : (Nat → Nat → Int32) × (Nat → Int64) × List (Nat × Nat × Nat × Nat)) : Prop :=
  u.1 0 0 = nI 0 ∧ srM u.1 u.2.1 (fmx fm mp f0) u.2.2 ∧ u.2.2.map (ent (fmx fm mp f0)) = (cmK fm f0 E fl).2.1 ∧ u.2.2.length ≤ E.length + 17 ∧ ext mp E u.2.2 ∧ u.1 8 0 = nI (if E.length < u.2.2.length then mp + 1 else mp) ∧ u.1 5 0 = nI (cmF (cmK fm f0 E fl)) ∧
  (cmO (cmK fm f0 E fl) → r = nI V ∧ u.1 3 0 = nI (V + 1) ∧ u.1 4 = upd (g 4) V (rt (ol f0 48)) ∧ u.1 1 = cpK g 16 V 48 1 ∧ u.1 2 = cpK g 16 V 48 2) ∧
  (¬ cmO (cmK fm f0 E fl) → r = -1 ∧ u.1 3 = g 3 ∧ u.1 4 = g 4 ∧ u.1 1 = cpK g (V - 1) 16 48 1 ∧ u.1 2 = cpK g (V - 1) 16 48 2) ∧ frx [0, 1, 2, 3, 4, 5, 6, 7, 8, 10, 11, 12, 13, 14] g u.1
theorem cm_fin {g u G : Nat → Nat → Int32} {la : Nat → Int64} {fm : Nat → Nat → Option Int32} {f0 : Nat → Option Int32} {E E2 : List (Nat × Nat × Nat × Nat)} {mp m fl V : Nat} {r0 r : Int32} (h0 : u 0 0 = nI 0) (hF : frx [0, 5, 6, 7, 10, 11, 12, 13, 14] g u) (hG : frx [1, 2, 3, 4, 8] u G) (h8 : G 8 0 = nI m) (hm : m = if E.length < E2.length then mp + 1 else mp)
    (w1 : (cmK fm f0 E fl).1 = true → r0 = wrZ (cmK fm f0 E fl).2.2 ∧ u 5 0 = nI (wr (cmK fm f0 E fl).2.2).2) (w2 : (cmK fm f0 E fl).1 = false → r0 = 0 ∧ u 5 0 = nI (cmK fm f0 E fl).2.2) (w3 : E2.map (ent (fmx fm mp f0)) = (cmK fm f0 E fl).2.1) (w4 : srM u la (fmx fm mp f0) E2) (w5 : E2.length ≤ E.length + 17) (w7 : ext mp E E2)
    (c1 : ¬ r0 = 0 → r = nI V ∧ G 3 0 = nI (V + 1) ∧ G 4 = upd (g 4) V (rt (ol f0 48)) ∧ G 1 = cpK g 16 V 48 1 ∧ G 2 = cpK g 16 V 48 2) (c2 : r0 = 0 → r = -1 ∧ G 3 = g 3 ∧ G 4 = g 4 ∧ G 1 = cpK g (V - 1) 16 48 1 ∧ G 2 = cpK g (V - 1) 16 48 2) : cmP g fm f0 E mp fl V r (G, la, E2) := by
  refine ⟨(congrFun (hG 0 (by decide)) 0).trans h0, sr_fr w4 (hG 6 (by decide)) (hG 7 (by decide)) (hG 10 (by decide)), w3, w5, w7, by rw [← hm]; exact h8, ?_, fun q => c1 ?_, fun q => c2 ?_, frx_t hF hG (fun x h => ⟨fun q => h (by simp at q ⊢; omega), fun q => h (by simp at q ⊢; omega)⟩)⟩
  · refine (congrFun (hG 5 (by decide)) 0).trans ?_
    unfold cmF
    cases e : (cmK fm f0 E fl).1 with
    | true => rw [if_pos rfl]; exact (w1 e).2
    | false => rw [if_neg (by decide)]; exact (w2 e).2
  · rw [(w1 q.1).1]; unfold wrZ; rw [if_pos q.2]; decide
  · cases e : (cmK fm f0 E fl).1 with
    | true => rw [(w1 e).1]; unfold wrZ; exact if_neg (fun z => q ⟨e, z⟩)
    | false => exact (w2 e).1

set_option maxHeartbeats 4000000 in
set_option maxRecDepth 100000 in
theorem c_M_commit (l : Launch) (D : va_G) (tk : Nat → ClassId) (sz : Nat) (h : Nat) (ad : Nat → Nat) (g : Nat → Nat → Int32) (la : Nat → Int64) (tl : va_W) (E : List (Nat × Nat × Nat × Nat)) (fm : Nat → Nat → Option Int32) (f0 : Nat → Option Int32) (mp fl V : Nat) (hV : g 3 0 = nI V) (hV1 : 1 ≤ V) (hV2 : V ≤ 16) (hsr : srM g la fm E) (hEm : ∀ e, e ∈ E → e.2.1 < mp) (hE : E.length + 17 ≤ 3400) (hmp : mp < 180) (h8 : g 8 0 = nI mp) (h5 : g 5 0 = nI fl) (hfl : fl ≤ 40) (hf0 : ∀ k, k < 48 → (g 1 (768 + k) = 0 ↔ f0 k = none) ∧ ∀ v, f0 k = some v → g 2 (768 + k) = v) (hz : bz (g 1)) : Met l y_M_commit w_M_commit ({ frames := 4, cells := 0, slots := 0, locals := 91 }) (va_Pc [.ref h] (k_pre D (TY tk) sz (wM tk h ad g la ++ tl))) (va_Qi (fun (r : Int32) (u : (Nat → Nat → Int32) × (Nat → Int64) × List (Nat × Nat × Nat × Nat)) => (V = 16 → r = 0 ∧ u = (mup g 0 0 (nI 1), la, E)) ∧ (V < 16 → cmP g fm f0 E mp fl V r u)) (fun u t => k_at D (TY tk) (va_A (wM tk h ad g la ++ tl) sz) ((fun (u : (Nat → Nat → Int32) × (Nat → Int64) × List (Nat × Nat × Nat × Nat)) => wM tk h ad u.1 u.2.1 ++ tl) u) t) (va_A (wM tk h ad g la ++ tl) sz)) 0 0 (va_A (wM tk h ad g la ++ tl) sz) := by
  refine k_ofW (fun A => va_Qi (fun (r : Int32) (u : (Nat → Nat → Int32) × (Nat → Int64) × List (Nat × Nat × Nat × Nat)) => (V = 16 → r = 0 ∧ u = (mup g 0 0 (nI 1), la, E)) ∧ (V < 16 → cmP g fm f0 E mp fl V r u)) (fun u t => k_at D (TY tk) A ((fun (u : (Nat → Nat → Int32) × (Nat → Int64) × List (Nat × Nat × Nat × Nat)) => wM tk h ad u.1 u.2.1 ++ tl) u) t) A) (by decide) (Nat.le_of_ble_eq_true rfl) ?_
  intro p e s m args below meth c Q A ls hQ hx hb hr hlk hin hts hT hown hml hnw hP hK hD hA hsz hl
  have hS : va_S A s.heap s.heap [] := va_S.rf
  have hc0 : 0 + 0 ≤ 0 ∧ 0 + 0 ≤ 0 := ⟨by decide, by decide⟩
  replace hl : lv_has ls 4 [(0, .ref h)] := hl
  replace hP : va_P D CC (wM tk h ad g la ++ tl) s.heap := hP
  replace hK : va_K D CC (TY tk) s := hK
  refine lv_aload_n hx hb d_M_commit_0 rfl (lv_at hl 0 rfl) ?_
  refine gf_M_69 (v := .int (g 3 0)) hx hb hT hown hK hP 0 rfl rfl d_M_commit_1 ?_
  refine st_top (show g 3 0 = nI V from hV) ?_
  refine lv_bipush (v := nI 16) hx hb d_M_commit_4 (by decide) ?_
  refine st_icmp_ne hx hb (by omega) (by omega) d_M_commit_6 (tgt := 15) (by decide) (fun hc6 => ?_) (fun hc6 => ?_)
  · skip
    refine lv_aload_n hx hb d_M_commit_15 rfl (lv_at hl 0 rfl) ?_
    refine lv_iconst (v := nI 0) hx hb d_M_commit_16 (by decide) ?_
    refine pf_M_73 hx hb hT hown hK hP hD hS 0 rfl (Nat.le_of_ble_eq_true rfl) d_M_commit_17 (fun H locs hP hD hS => ?_)
    replace hP : va_P D CC (wM tk h ad (mup g 0 0 (nI 0)) la ++ tl) H := Eq.mp (congrArg (fun w => va_P D CC w H) (sM_0 tk h ad g la tl (nI 0))) hP
    replace hD : va_D A (wM tk h ad (mup g 0 0 (nI 0)) la ++ tl) := Eq.mp (congrArg (fun w => va_D A w) (sM_0 tk h ad g la tl (nI 0))) hD
    refine lv_aload_n hx hb d_M_commit_20 rfl (lv_at hl 0 rfl) ?_
    refine lv_bipush (v := nI 16) hx hb d_M_commit_21 (by decide) ?_
    refine k_calli (va_runV (As := [.int (nI 16)]) (rest := []) ⟨hx, hb, hml, hown, hts⟩ (c_M_raise l D tk H.size h ad (mup g 0 0 (nI 0)) la tl 16 (by omega) f0 (fun k hk => by rw [mup_ne (by decide), mup_ne (by decide)]; exact hf0 k hk)) (cwV 1 hts (gV t_1064 t_1066 s_18 t_9 t_1067) rfl rfl rfl (by decide +kernel) ⟨Nat.le_of_ble_eq_true rfl, Nat.le_of_ble_eq_true rfl⟩) (k_preV hP hK hD hnw 0 rfl rfl) rfl rfl hl.1 rfl (lv_room (Nat.le_of_ble_eq_true rfl)) d_M_commit_23 hc0) hD hS hA (fun r23 u23 H locs hp23 hP hD hK hS => ?_)
    obtain ⟨r11, rrow, rr, rfr⟩ := hp23
    have rfg : frx [0, 11, 12, 13, 14] g u23 := frx_t (L := [0]) frx_m rfr (fun x h => ⟨fun q => h (by simp at q ⊢; omega), fun q => h (by simp at q ⊢; omega)⟩)
    have h8u : u23 8 0 = nI mp := (congrFun (rfg 8 (by decide)) 0).trans h8
    have hfu : ∀ k, k < 48 → (u23 1 (768 + k) = 0 ↔ f0 k = none) ∧ ∀ v, f0 k = some v → u23 2 (768 + k) = v := fun k hk => by rw [rfg 1 (by decide), rfg 2 (by decide)]; exact hf0 k hk
    replace hP : va_P D CC (wM tk h ad u23 la ++ tl) H := hP
    replace hD : va_D A (wM tk h ad u23 la ++ tl) := hD
    refine lv_istore_n (lv' := [(1, .int r23), (0, .ref h)]) hx hb d_M_commit_26 rfl hl (by decide) rfl (fun ls hl => ?_)
    refine lv_aload_n hx hb d_M_commit_27 rfl (lv_at hl 1 rfl) ?_
    refine k_callv (va_runV (As := []) (rest := []) ⟨hx, hb, hml, hown, hts⟩ (c_M_keepMap l D tk H.size h ad u23 la tl mp (by omega) h8u) (cwV 0 hts (gV t_1087 t_1089 s_22 t_9 t_1090) rfl rfl rfl (by decide +kernel) ⟨Nat.le_of_ble_eq_true rfl, Nat.le_of_ble_eq_true rfl⟩) (k_preV hP hK hD hnw 0 rfl rfl) rfl rfl hl.1 rfl (lv_room (Nat.le_of_ble_eq_true rfl)) d_M_commit_28 hc0) hD hS hA (fun _ H locs hp28 hP hD hK hS => ?_)
    have hsk : srM (kmF u23 mp 48) (vp_updL la mp (btM (u23 1) 48)) (fmx fm mp f0) E := sr_keep hsr hEm (rfg 6 (by decide)) (rfg 7 (by decide)) (rfg 10 (by decide)) _
    replace hP : va_P D CC (wM tk h ad (kmF u23 mp 48) (vp_updL la mp (btM (u23 1) 48)) ++ tl) H := hP
    replace hD : va_D A (wM tk h ad (kmF u23 mp 48) (vp_updL la mp (btM (u23 1) 48)) ++ tl) := hD
    refine lv_aload_n hx hb d_M_commit_31 rfl (lv_at hl 1 rfl) ?_
    refine gf_M_111 (v := .int ((kmF u23 mp 48) 6 0)) hx hb hT hown hK hP 0 rfl rfl d_M_commit_32 ?_
    refine st_top (show (kmF u23 mp 48) 6 0 = nI E.length from hsk.1) ?_
    refine lv_istore_n (lv' := [(2, .int (nI E.length)), (1, .int r23), (0, .ref h)]) hx hb d_M_commit_35 rfl hl (by decide) rfl (fun ls hl => ?_)
    refine lv_aload_n hx hb d_M_commit_36 rfl (lv_at hl 2 rfl) ?_
    refine k_calli (va_runV (As := []) (rest := []) ⟨hx, hb, hml, hown, hts⟩ (c_M_written l D tk H.size h ad (kmF u23 mp 48) (vp_updL la mp (btM (u23 1) 48)) tl E (fmx fm mp f0) f0 mp fl r11 (fun l hl => lr_c (rrow l hl) (by rw [kmF_ne _ _ _ (by decide)]) (kmF_ne _ _ _ (by decide)) (kmF_ne _ _ _ (by decide))) hsk hE (by omega) h8u ((congrFun (rfg 5 (by decide)) 0).trans h5) hfl (if_pos rfl) hfu (row_keep hfu)) (cwV 0 hts (gV t_1091 t_1093 s_23 t_9 t_1094) rfl rfl rfl (by decide +kernel) ⟨Nat.le_of_ble_eq_true rfl, Nat.le_of_ble_eq_true rfl⟩) (k_preV hP hK hD hnw 0 rfl rfl) rfl rfl hl.1 rfl (lv_room (Nat.le_of_ble_eq_true rfl)) d_M_commit_37 hc0) hD hS hA (fun r37 u37 H locs hp37 hP hD hK hS => ?_)
    rw [map_fmx hEm] at hp37
    obtain ⟨w1, w2, w3, w4, w5, w6, w7⟩ := hp37
    have hFu : frx [0, 5, 6, 7, 10, 11, 12, 13, 14] g u37.1 := frx_t (frx_t rfg (L' := [10]) (fun x h => kmF_ne _ _ _ (by simpa using h)) (M := [0, 10, 11, 12, 13, 14]) (fun x h => ⟨fun q => h (by simp at q ⊢; omega), fun q => h (by simp at q ⊢; omega)⟩)) w6 (fun x h => ⟨fun q => h (by simp at q ⊢; omega), fun q => h (by simp at q ⊢; omega)⟩)
    have h0u : u37.1 0 0 = nI 0 := (congrFun (w6 0 (by decide)) 0).trans ((congrFun (kmF_ne _ _ _ (by decide)) 0).trans ((congrFun (rfr 0 (by decide)) 0).trans rd_eq))
    have h8w : u37.1 8 0 = nI mp := (congrFun (hFu 8 (by decide)) 0).trans h8
    have h3w : u37.1 3 0 = nI V := (congrFun (hFu 3 (by decide)) 0).trans hV
    have hz3 : bz (u37.1 1) := by rw [hFu 1 (by decide)]; exact hz
    replace hP : va_P D CC (wM tk h ad u37.1 (vp_updL la mp (btM (u23 1) 48)) ++ tl) H := hP
    replace hD : va_D A (wM tk h ad u37.1 (vp_updL la mp (btM (u23 1) 48)) ++ tl) := hD
    refine lv_istore_n (lv' := [(3, .int r37), (2, .int (nI E.length)), (1, .int r23), (0, .ref h)]) hx hb d_M_commit_40 rfl hl (by decide) rfl (fun ls hl => ?_)
    refine lv_aload_n hx hb d_M_commit_41 rfl (lv_at hl 3 rfl) ?_
    refine lv_aload_n hx hb d_M_commit_42 rfl (lv_at hl 3 rfl) ?_
    refine gf_M_111 (v := .int (u37.1 6 0)) hx hb hT hown hK hP 0 rfl rfl d_M_commit_43 ?_
    refine st_top (show u37.1 6 0 = nI u37.2.length from w4.1) ?_
    refine lv_iload_n hx hb d_M_commit_46 rfl (lv_at hl 1 rfl) ?_
    refine st_icmp_le hx hb (by omega) (by omega) d_M_commit_47 (tgt := 59) (by decide) (fun hc47 => ?_) (fun hc47 => ?_)
    · skip
      refine lv_aload_n hx hb d_M_commit_59 rfl (lv_at hl 3 rfl) ?_
      refine gf_M_117 (v := .int (u37.1 8 0)) hx hb hT hown hK hP 0 rfl rfl d_M_commit_60 ?_
      refine st_top (show u37.1 8 0 = nI mp from h8w) ?_
      refine pf_M_117 hx hb hT hown hK hP hD hS 0 rfl (Nat.le_of_ble_eq_true rfl) d_M_commit_63 (fun H locs hP hD hS => ?_)
      replace hP : va_P D CC (wM tk h ad (mup u37.1 8 0 (nI mp)) (vp_updL la mp (btM (u23 1) 48)) ++ tl) H := Eq.mp (congrArg (fun w => va_P D CC w H) (sM_8 tk h ad u37.1 (vp_updL la mp (btM (u23 1) 48)) tl (nI mp))) hP
      replace hD : va_D A (wM tk h ad (mup u37.1 8 0 (nI mp)) (vp_updL la mp (btM (u23 1) 48)) ++ tl) := Eq.mp (congrArg (fun w => va_D A w) (sM_8 tk h ad u37.1 (vp_updL la mp (btM (u23 1) 48)) tl (nI mp))) hD
      refine lv_iload_n hx hb d_M_commit_66 rfl (lv_at hl 0 rfl) ?_
      refine lv_if_ne hx hb d_M_commit_67 (tgt := 84) (by decide) (fun hc67 => ?_) (fun hc67 => ?_)
      · skip
        refine lv_aload_n hx hb d_M_commit_84 rfl (lv_at hl 3 rfl) ?_
        refine lv_bipush (v := nI 16) hx hb d_M_commit_85 (by decide) ?_
        refine lv_aload_n hx hb d_M_commit_87 rfl (lv_at hl 3 rfl) ?_
        refine gf_M_69 (v := .int ((mup u37.1 8 0 (nI mp)) 3 0)) hx hb hT hown hK hP 0 rfl rfl d_M_commit_88 ?_
        refine st_top (show (mup u37.1 8 0 (nI mp)) 3 0 = u37.1 3 0 from (rd_ne (by decide) rfl)) ?_
        refine st_top (show u37.1 3 0 = nI V from h3w) ?_
        refine k_callv (va_runV (As := [.int (nI 16), .int (nI V)]) (rest := []) ⟨hx, hb, hml, hown, hts⟩ (c_M_copy l D tk H.size h ad (mup u37.1 8 0 (nI mp)) (vp_updL la mp (btM (u23 1) 48)) tl 16 V (by omega) (by omega) (by omega) (by rw [mup_ne (by decide)]; exact hz3)) (cwV 2 hts (gV t_1052 t_1054 s_16 t_9 t_1055) rfl rfl rfl (by decide +kernel) ⟨Nat.le_of_ble_eq_true rfl, Nat.le_of_ble_eq_true rfl⟩) (k_preV hP hK hD hnw 0 rfl rfl) rfl rfl hl.1 rfl (lv_room (Nat.le_of_ble_eq_true rfl)) d_M_commit_91 hc0) hD hS hA (fun _ H locs hp91 hP hD hK hS => ?_)
        replace hP : va_P D CC (wM tk h ad (cpK (mup u37.1 8 0 (nI mp)) 16 V 48) (vp_updL la mp (btM (u23 1) 48)) ++ tl) H := hP
        replace hD : va_D A (wM tk h ad (cpK (mup u37.1 8 0 (nI mp)) 16 V 48) (vp_updL la mp (btM (u23 1) 48)) ++ tl) := hD
        refine lv_aload_n hx hb d_M_commit_94 rfl (lv_at hl 3 rfl) ?_
        refine gf_M_17 (v := .ref (ad 4)) hx hb hT hown hK hP 0 rfl rfl d_M_commit_95 ?_
        refine lv_aload_n hx hb d_M_commit_98 rfl (lv_at hl 3 rfl) ?_
        refine gf_M_69 (v := .int ((cpK (mup u37.1 8 0 (nI mp)) 16 V 48) 3 0)) hx hb hT hown hK hP 0 rfl rfl d_M_commit_99 ?_
        refine st_top (show (cpK (mup u37.1 8 0 (nI mp)) 16 V 48) 3 0 = nI V from (congrFun (cpK_ne _ 16 V 48 (by decide) (by decide)) 0).trans (rd_ne (by decide) h3w)) ?_
        refine lv_iload_n hx hb d_M_commit_102 rfl (lv_at hl 2 rfl) ?_
        refine st_iast hx hb hK hP hD hS 3 0 rfl rfl (by omega) (by decide) d_M_commit_103 (fun H locs hP hD hS => ?_)
        replace hP : va_P D CC (wM tk h ad (mup (cpK (mup u37.1 8 0 (nI mp)) 16 V 48) 4 V r23) (vp_updL la mp (btM (u23 1) 48)) ++ tl) H := Eq.mp (congrArg (fun w => va_P D CC w H) (sM_4 tk h ad (cpK (mup u37.1 8 0 (nI mp)) 16 V 48) (vp_updL la mp (btM (u23 1) 48)) tl V r23)) hP
        replace hD : va_D A (wM tk h ad (mup (cpK (mup u37.1 8 0 (nI mp)) 16 V 48) 4 V r23) (vp_updL la mp (btM (u23 1) 48)) ++ tl) := Eq.mp (congrArg (fun w => va_D A w) (sM_4 tk h ad (cpK (mup u37.1 8 0 (nI mp)) 16 V 48) (vp_updL la mp (btM (u23 1) 48)) tl V r23)) hD
        refine lv_aload_n hx hb d_M_commit_104 rfl (lv_at hl 3 rfl) ?_
        refine lv_dup hx hb d_M_commit_105 rfl ?_
        refine gf_M_69 (v := .int ((mup (cpK (mup u37.1 8 0 (nI mp)) 16 V 48) 4 V r23) 3 0)) hx hb hT hown hK hP 0 rfl rfl d_M_commit_106 ?_
        refine st_top (show (mup (cpK (mup u37.1 8 0 (nI mp)) 16 V 48) 4 V r23) 3 0 = (cpK (mup u37.1 8 0 (nI mp)) 16 V 48) 3 0 from (rd_ne (by decide) rfl)) ?_
        refine st_top (show (cpK (mup u37.1 8 0 (nI mp)) 16 V 48) 3 0 = nI V from (congrFun (cpK_ne _ 16 V 48 (by decide) (by decide)) 0).trans (rd_ne (by decide) h3w)) ?_
        refine lv_iconst (v := nI 1) hx hb d_M_commit_109 (by decide) ?_
        refine st_iadd hx hb d_M_commit_110 ?_
        refine pf_M_69 hx hb hT hown hK hP hD hS 0 rfl (Nat.le_of_ble_eq_true rfl) d_M_commit_111 (fun H locs hP hD hS => ?_)
        replace hP : va_P D CC (wM tk h ad (mup (mup (cpK (mup u37.1 8 0 (nI mp)) 16 V 48) 4 V r23) 3 0 (nI (V + 1))) (vp_updL la mp (btM (u23 1) 48)) ++ tl) H := Eq.mp (congrArg (fun w => va_P D CC w H) (sM_3 tk h ad (mup (cpK (mup u37.1 8 0 (nI mp)) 16 V 48) 4 V r23) (vp_updL la mp (btM (u23 1) 48)) tl (nI (V + 1)))) hP
        replace hD : va_D A (wM tk h ad (mup (mup (cpK (mup u37.1 8 0 (nI mp)) 16 V 48) 4 V r23) 3 0 (nI (V + 1))) (vp_updL la mp (btM (u23 1) 48)) ++ tl) := Eq.mp (congrArg (fun w => va_D A w) (sM_3 tk h ad (mup (cpK (mup u37.1 8 0 (nI mp)) 16 V 48) 4 V r23) (vp_updL la mp (btM (u23 1) 48)) tl (nI (V + 1)))) hD
        refine lv_aload_n hx hb d_M_commit_114 rfl (lv_at hl 3 rfl) ?_
        refine gf_M_69 (v := .int ((mup (mup (cpK (mup u37.1 8 0 (nI mp)) 16 V 48) 4 V r23) 3 0 (nI (V + 1))) 3 0)) hx hb hT hown hK hP 0 rfl rfl d_M_commit_115 ?_
        refine st_top (show (mup (mup (cpK (mup u37.1 8 0 (nI mp)) 16 V 48) 4 V r23) 3 0 (nI (V + 1))) 3 0 = nI (V + 1) from rd_eq) ?_
        refine lv_iconst (v := nI 1) hx hb d_M_commit_118 (by decide) ?_
        refine st_isub hx hb (by omega) d_M_commit_119 ?_
        exact k_iret (v := nI ((V + 1) - 1)) hQ hx hb hr hlk hK hP hD hS ((mup (mup (cpK (mup u37.1 8 0 (nI mp)) 16 V 48) 4 V r23) 3 0 (nI (V + 1))), (vp_updL la mp (btM (u23 1) 48)), u37.2) rfl (⟨fun q => absurd q (by omega), fun _ => cm_fin (r0 := r37) (m := mp) h0u hFu (frx_t (frx_t (frx_t (frx_m (g := u37.1) (a := 8) (i := 0) (v := nI mp)) (L' := [1, 2]) (fun x h => cpK_ne _ 16 V 48 (by simp at h; omega) (by simp at h; omega)) (M := [1, 2, 8]) (fun x h => ⟨fun q => h (by simp at q ⊢; omega), fun q => h (by simp at q ⊢; omega)⟩)) (L' := [4]) frx_m (M := [1, 2, 4, 8]) (fun x h => ⟨fun q => h (by simp at q ⊢; omega), fun q => h (by simp at q ⊢; omega)⟩)) (L' := [3]) frx_m (fun x h => ⟨fun q => h (by simp at q ⊢; omega), fun q => h (by simp at q ⊢; omega)⟩)) (rd_ne (by decide) (rd_ne (by decide) ((congrFun (cpK_ne _ 16 V 48 (by decide) (by decide)) 0).trans rd_eq))) (by rw [if_neg (by omega)]) w1 w2 w3 w4 w5 w7 (fun _ => ⟨by rw [Nat.add_sub_cancel], rd_eq, by rw [mup_ne (by decide), mup_eq, cpK_ne _ 16 V 48 (by decide) (by decide), mup_ne (by decide), hFu 4 (by decide), rr], (mup_ne (by decide)).trans ((mup_ne (by decide)).trans (cpK_c 16 V 48 (x := 1) ((mup_ne (by decide)).trans (hFu 1 (by decide))))), (mup_ne (by decide)).trans ((mup_ne (by decide)).trans (cpK_c 16 V 48 (x := 2) ((mup_ne (by decide)).trans (hFu 2 (by decide)))))⟩) (fun q => absurd q hc67)⟩) d_M_commit_120
      · skip
        refine lv_aload_n hx hb d_M_commit_70 rfl (lv_at hl 3 rfl) ?_
        refine lv_aload_n hx hb d_M_commit_71 rfl (lv_at hl 3 rfl) ?_
        refine gf_M_69 (v := .int ((mup u37.1 8 0 (nI mp)) 3 0)) hx hb hT hown hK hP 0 rfl rfl d_M_commit_72 ?_
        refine st_top (show (mup u37.1 8 0 (nI mp)) 3 0 = u37.1 3 0 from (rd_ne (by decide) rfl)) ?_
        refine st_top (show u37.1 3 0 = nI V from h3w) ?_
        refine lv_iconst (v := nI 1) hx hb d_M_commit_75 (by decide) ?_
        refine st_isub hx hb (by omega) d_M_commit_76 ?_
        refine lv_bipush (v := nI 16) hx hb d_M_commit_77 (by decide) ?_
        refine k_callv (va_runV (As := [.int (nI (V - 1)), .int (nI 16)]) (rest := []) ⟨hx, hb, hml, hown, hts⟩ (c_M_copy l D tk H.size h ad (mup u37.1 8 0 (nI mp)) (vp_updL la mp (btM (u23 1) 48)) tl (V - 1) 16 (by omega) (by omega) (by omega) (by rw [mup_ne (by decide)]; exact hz3)) (cwV 2 hts (gV t_1052 t_1054 s_16 t_9 t_1055) rfl rfl rfl (by decide +kernel) ⟨Nat.le_of_ble_eq_true rfl, Nat.le_of_ble_eq_true rfl⟩) (k_preV hP hK hD hnw 0 rfl rfl) rfl rfl hl.1 rfl (lv_room (Nat.le_of_ble_eq_true rfl)) d_M_commit_79 hc0) hD hS hA (fun _ H locs hp79 hP hD hK hS => ?_)
        replace hP : va_P D CC (wM tk h ad (cpK (mup u37.1 8 0 (nI mp)) (V - 1) 16 48) (vp_updL la mp (btM (u23 1) 48)) ++ tl) H := hP
        replace hD : va_D A (wM tk h ad (cpK (mup u37.1 8 0 (nI mp)) (V - 1) 16 48) (vp_updL la mp (btM (u23 1) 48)) ++ tl) := hD
        refine lv_iconst (v := -1) hx hb d_M_commit_82 (by decide) ?_
        exact k_iret (v := -1) hQ hx hb hr hlk hK hP hD hS ((cpK (mup u37.1 8 0 (nI mp)) (V - 1) 16 48), (vp_updL la mp (btM (u23 1) 48)), u37.2) rfl (⟨fun q => absurd q (by omega), fun _ => cm_fin (r0 := r37) (m := mp) h0u hFu (fun x h => (frx_t (frx_m (g := u37.1) (a := 8) (i := 0) (v := nI mp)) (L' := [1, 2]) (fun x h => cpK_ne _ (V - 1) 16 48 (by simp at h; omega) (by simp at h; omega)) (M := [1, 2, 8]) (fun x h => ⟨fun q => h (by simp at q ⊢; omega), fun q => h (by simp at q ⊢; omega)⟩)) x (fun q => h (by simp at q ⊢; omega))) ((congrFun (cpK_ne _ (V - 1) 16 48 (by decide) (by decide)) 0).trans rd_eq) (by rw [if_neg (by omega)]) w1 w2 w3 w4 w5 w7 (fun q => absurd hc67 q) (fun _ => ⟨rfl, (cpK_ne _ (V - 1) 16 48 (by decide) (by decide)).trans ((mup_ne (by decide)).trans (hFu 3 (by decide))), (cpK_ne _ (V - 1) 16 48 (by decide) (by decide)).trans ((mup_ne (by decide)).trans (hFu 4 (by decide))), (cpK_c (V - 1) 16 48 (x := 1) ((mup_ne (by decide)).trans (hFu 1 (by decide)))), (cpK_c (V - 1) 16 48 (x := 2) ((mup_ne (by decide)).trans (hFu 2 (by decide))))⟩)⟩) d_M_commit_83
    · skip
      refine lv_aload_n hx hb d_M_commit_50 rfl (lv_at hl 3 rfl) ?_
      refine gf_M_117 (v := .int (u37.1 8 0)) hx hb hT hown hK hP 0 rfl rfl d_M_commit_51 ?_
      refine st_top (show u37.1 8 0 = nI mp from h8w) ?_
      refine lv_iconst (v := nI 1) hx hb d_M_commit_54 (by decide) ?_
      refine st_iadd hx hb d_M_commit_55 ?_
      refine lv_goto hx hb d_M_commit_56 (tgt := 63) (by decide) ?_
      refine pf_M_117 hx hb hT hown hK hP hD hS 0 rfl (Nat.le_of_ble_eq_true rfl) d_M_commit_63 (fun H locs hP hD hS => ?_)
      replace hP : va_P D CC (wM tk h ad (mup u37.1 8 0 (nI (mp + 1))) (vp_updL la mp (btM (u23 1) 48)) ++ tl) H := Eq.mp (congrArg (fun w => va_P D CC w H) (sM_8 tk h ad u37.1 (vp_updL la mp (btM (u23 1) 48)) tl (nI (mp + 1)))) hP
      replace hD : va_D A (wM tk h ad (mup u37.1 8 0 (nI (mp + 1))) (vp_updL la mp (btM (u23 1) 48)) ++ tl) := Eq.mp (congrArg (fun w => va_D A w) (sM_8 tk h ad u37.1 (vp_updL la mp (btM (u23 1) 48)) tl (nI (mp + 1)))) hD
      refine lv_iload_n hx hb d_M_commit_66 rfl (lv_at hl 0 rfl) ?_
      refine lv_if_ne hx hb d_M_commit_67 (tgt := 84) (by decide) (fun hc67 => ?_) (fun hc67 => ?_)
      · skip
        refine lv_aload_n hx hb d_M_commit_84 rfl (lv_at hl 3 rfl) ?_
        refine lv_bipush (v := nI 16) hx hb d_M_commit_85 (by decide) ?_
        refine lv_aload_n hx hb d_M_commit_87 rfl (lv_at hl 3 rfl) ?_
        refine gf_M_69 (v := .int ((mup u37.1 8 0 (nI (mp + 1))) 3 0)) hx hb hT hown hK hP 0 rfl rfl d_M_commit_88 ?_
        refine st_top (show (mup u37.1 8 0 (nI (mp + 1))) 3 0 = u37.1 3 0 from (rd_ne (by decide) rfl)) ?_
        refine st_top (show u37.1 3 0 = nI V from h3w) ?_
        refine k_callv (va_runV (As := [.int (nI 16), .int (nI V)]) (rest := []) ⟨hx, hb, hml, hown, hts⟩ (c_M_copy l D tk H.size h ad (mup u37.1 8 0 (nI (mp + 1))) (vp_updL la mp (btM (u23 1) 48)) tl 16 V (by omega) (by omega) (by omega) (by rw [mup_ne (by decide)]; exact hz3)) (cwV 2 hts (gV t_1052 t_1054 s_16 t_9 t_1055) rfl rfl rfl (by decide +kernel) ⟨Nat.le_of_ble_eq_true rfl, Nat.le_of_ble_eq_true rfl⟩) (k_preV hP hK hD hnw 0 rfl rfl) rfl rfl hl.1 rfl (lv_room (Nat.le_of_ble_eq_true rfl)) d_M_commit_91 hc0) hD hS hA (fun _ H locs hp91 hP hD hK hS => ?_)
        replace hP : va_P D CC (wM tk h ad (cpK (mup u37.1 8 0 (nI (mp + 1))) 16 V 48) (vp_updL la mp (btM (u23 1) 48)) ++ tl) H := hP
        replace hD : va_D A (wM tk h ad (cpK (mup u37.1 8 0 (nI (mp + 1))) 16 V 48) (vp_updL la mp (btM (u23 1) 48)) ++ tl) := hD
        refine lv_aload_n hx hb d_M_commit_94 rfl (lv_at hl 3 rfl) ?_
        refine gf_M_17 (v := .ref (ad 4)) hx hb hT hown hK hP 0 rfl rfl d_M_commit_95 ?_
        refine lv_aload_n hx hb d_M_commit_98 rfl (lv_at hl 3 rfl) ?_
        refine gf_M_69 (v := .int ((cpK (mup u37.1 8 0 (nI (mp + 1))) 16 V 48) 3 0)) hx hb hT hown hK hP 0 rfl rfl d_M_commit_99 ?_
        refine st_top (show (cpK (mup u37.1 8 0 (nI (mp + 1))) 16 V 48) 3 0 = nI V from (congrFun (cpK_ne _ 16 V 48 (by decide) (by decide)) 0).trans (rd_ne (by decide) h3w)) ?_
        refine lv_iload_n hx hb d_M_commit_102 rfl (lv_at hl 2 rfl) ?_
        refine st_iast hx hb hK hP hD hS 3 0 rfl rfl (by omega) (by decide) d_M_commit_103 (fun H locs hP hD hS => ?_)
        replace hP : va_P D CC (wM tk h ad (mup (cpK (mup u37.1 8 0 (nI (mp + 1))) 16 V 48) 4 V r23) (vp_updL la mp (btM (u23 1) 48)) ++ tl) H := Eq.mp (congrArg (fun w => va_P D CC w H) (sM_4 tk h ad (cpK (mup u37.1 8 0 (nI (mp + 1))) 16 V 48) (vp_updL la mp (btM (u23 1) 48)) tl V r23)) hP
        replace hD : va_D A (wM tk h ad (mup (cpK (mup u37.1 8 0 (nI (mp + 1))) 16 V 48) 4 V r23) (vp_updL la mp (btM (u23 1) 48)) ++ tl) := Eq.mp (congrArg (fun w => va_D A w) (sM_4 tk h ad (cpK (mup u37.1 8 0 (nI (mp + 1))) 16 V 48) (vp_updL la mp (btM (u23 1) 48)) tl V r23)) hD
        refine lv_aload_n hx hb d_M_commit_104 rfl (lv_at hl 3 rfl) ?_
        refine lv_dup hx hb d_M_commit_105 rfl ?_
        refine gf_M_69 (v := .int ((mup (cpK (mup u37.1 8 0 (nI (mp + 1))) 16 V 48) 4 V r23) 3 0)) hx hb hT hown hK hP 0 rfl rfl d_M_commit_106 ?_
        refine st_top (show (mup (cpK (mup u37.1 8 0 (nI (mp + 1))) 16 V 48) 4 V r23) 3 0 = (cpK (mup u37.1 8 0 (nI (mp + 1))) 16 V 48) 3 0 from (rd_ne (by decide) rfl)) ?_
        refine st_top (show (cpK (mup u37.1 8 0 (nI (mp + 1))) 16 V 48) 3 0 = nI V from (congrFun (cpK_ne _ 16 V 48 (by decide) (by decide)) 0).trans (rd_ne (by decide) h3w)) ?_
        refine lv_iconst (v := nI 1) hx hb d_M_commit_109 (by decide) ?_
        refine st_iadd hx hb d_M_commit_110 ?_
        refine pf_M_69 hx hb hT hown hK hP hD hS 0 rfl (Nat.le_of_ble_eq_true rfl) d_M_commit_111 (fun H locs hP hD hS => ?_)
        replace hP : va_P D CC (wM tk h ad (mup (mup (cpK (mup u37.1 8 0 (nI (mp + 1))) 16 V 48) 4 V r23) 3 0 (nI (V + 1))) (vp_updL la mp (btM (u23 1) 48)) ++ tl) H := Eq.mp (congrArg (fun w => va_P D CC w H) (sM_3 tk h ad (mup (cpK (mup u37.1 8 0 (nI (mp + 1))) 16 V 48) 4 V r23) (vp_updL la mp (btM (u23 1) 48)) tl (nI (V + 1)))) hP
        replace hD : va_D A (wM tk h ad (mup (mup (cpK (mup u37.1 8 0 (nI (mp + 1))) 16 V 48) 4 V r23) 3 0 (nI (V + 1))) (vp_updL la mp (btM (u23 1) 48)) ++ tl) := Eq.mp (congrArg (fun w => va_D A w) (sM_3 tk h ad (mup (cpK (mup u37.1 8 0 (nI (mp + 1))) 16 V 48) 4 V r23) (vp_updL la mp (btM (u23 1) 48)) tl (nI (V + 1)))) hD
        refine lv_aload_n hx hb d_M_commit_114 rfl (lv_at hl 3 rfl) ?_
        refine gf_M_69 (v := .int ((mup (mup (cpK (mup u37.1 8 0 (nI (mp + 1))) 16 V 48) 4 V r23) 3 0 (nI (V + 1))) 3 0)) hx hb hT hown hK hP 0 rfl rfl d_M_commit_115 ?_
        refine st_top (show (mup (mup (cpK (mup u37.1 8 0 (nI (mp + 1))) 16 V 48) 4 V r23) 3 0 (nI (V + 1))) 3 0 = nI (V + 1) from rd_eq) ?_
        refine lv_iconst (v := nI 1) hx hb d_M_commit_118 (by decide) ?_
        refine st_isub hx hb (by omega) d_M_commit_119 ?_
        exact k_iret (v := nI ((V + 1) - 1)) hQ hx hb hr hlk hK hP hD hS ((mup (mup (cpK (mup u37.1 8 0 (nI (mp + 1))) 16 V 48) 4 V r23) 3 0 (nI (V + 1))), (vp_updL la mp (btM (u23 1) 48)), u37.2) rfl (⟨fun q => absurd q (by omega), fun _ => cm_fin (r0 := r37) (m := mp + 1) h0u hFu (frx_t (frx_t (frx_t (frx_m (g := u37.1) (a := 8) (i := 0) (v := nI (mp + 1))) (L' := [1, 2]) (fun x h => cpK_ne _ 16 V 48 (by simp at h; omega) (by simp at h; omega)) (M := [1, 2, 8]) (fun x h => ⟨fun q => h (by simp at q ⊢; omega), fun q => h (by simp at q ⊢; omega)⟩)) (L' := [4]) frx_m (M := [1, 2, 4, 8]) (fun x h => ⟨fun q => h (by simp at q ⊢; omega), fun q => h (by simp at q ⊢; omega)⟩)) (L' := [3]) frx_m (fun x h => ⟨fun q => h (by simp at q ⊢; omega), fun q => h (by simp at q ⊢; omega)⟩)) (rd_ne (by decide) (rd_ne (by decide) ((congrFun (cpK_ne _ 16 V 48 (by decide) (by decide)) 0).trans rd_eq))) (by rw [if_pos (by omega)]) w1 w2 w3 w4 w5 w7 (fun _ => ⟨by rw [Nat.add_sub_cancel], rd_eq, by rw [mup_ne (by decide), mup_eq, cpK_ne _ 16 V 48 (by decide) (by decide), mup_ne (by decide), hFu 4 (by decide), rr], (mup_ne (by decide)).trans ((mup_ne (by decide)).trans (cpK_c 16 V 48 (x := 1) ((mup_ne (by decide)).trans (hFu 1 (by decide))))), (mup_ne (by decide)).trans ((mup_ne (by decide)).trans (cpK_c 16 V 48 (x := 2) ((mup_ne (by decide)).trans (hFu 2 (by decide)))))⟩) (fun q => absurd q hc67)⟩) d_M_commit_120
      · skip
        refine lv_aload_n hx hb d_M_commit_70 rfl (lv_at hl 3 rfl) ?_
        refine lv_aload_n hx hb d_M_commit_71 rfl (lv_at hl 3 rfl) ?_
        refine gf_M_69 (v := .int ((mup u37.1 8 0 (nI (mp + 1))) 3 0)) hx hb hT hown hK hP 0 rfl rfl d_M_commit_72 ?_
        refine st_top (show (mup u37.1 8 0 (nI (mp + 1))) 3 0 = u37.1 3 0 from (rd_ne (by decide) rfl)) ?_
        refine st_top (show u37.1 3 0 = nI V from h3w) ?_
        refine lv_iconst (v := nI 1) hx hb d_M_commit_75 (by decide) ?_
        refine st_isub hx hb (by omega) d_M_commit_76 ?_
        refine lv_bipush (v := nI 16) hx hb d_M_commit_77 (by decide) ?_
        refine k_callv (va_runV (As := [.int (nI (V - 1)), .int (nI 16)]) (rest := []) ⟨hx, hb, hml, hown, hts⟩ (c_M_copy l D tk H.size h ad (mup u37.1 8 0 (nI (mp + 1))) (vp_updL la mp (btM (u23 1) 48)) tl (V - 1) 16 (by omega) (by omega) (by omega) (by rw [mup_ne (by decide)]; exact hz3)) (cwV 2 hts (gV t_1052 t_1054 s_16 t_9 t_1055) rfl rfl rfl (by decide +kernel) ⟨Nat.le_of_ble_eq_true rfl, Nat.le_of_ble_eq_true rfl⟩) (k_preV hP hK hD hnw 0 rfl rfl) rfl rfl hl.1 rfl (lv_room (Nat.le_of_ble_eq_true rfl)) d_M_commit_79 hc0) hD hS hA (fun _ H locs hp79 hP hD hK hS => ?_)
        replace hP : va_P D CC (wM tk h ad (cpK (mup u37.1 8 0 (nI (mp + 1))) (V - 1) 16 48) (vp_updL la mp (btM (u23 1) 48)) ++ tl) H := hP
        replace hD : va_D A (wM tk h ad (cpK (mup u37.1 8 0 (nI (mp + 1))) (V - 1) 16 48) (vp_updL la mp (btM (u23 1) 48)) ++ tl) := hD
        refine lv_iconst (v := -1) hx hb d_M_commit_82 (by decide) ?_
        exact k_iret (v := -1) hQ hx hb hr hlk hK hP hD hS ((cpK (mup u37.1 8 0 (nI (mp + 1))) (V - 1) 16 48), (vp_updL la mp (btM (u23 1) 48)), u37.2) rfl (⟨fun q => absurd q (by omega), fun _ => cm_fin (r0 := r37) (m := mp + 1) h0u hFu (fun x h => (frx_t (frx_m (g := u37.1) (a := 8) (i := 0) (v := nI (mp + 1))) (L' := [1, 2]) (fun x h => cpK_ne _ (V - 1) 16 48 (by simp at h; omega) (by simp at h; omega)) (M := [1, 2, 8]) (fun x h => ⟨fun q => h (by simp at q ⊢; omega), fun q => h (by simp at q ⊢; omega)⟩)) x (fun q => h (by simp at q ⊢; omega))) ((congrFun (cpK_ne _ (V - 1) 16 48 (by decide) (by decide)) 0).trans rd_eq) (by rw [if_pos (by omega)]) w1 w2 w3 w4 w5 w7 (fun q => absurd hc67 q) (fun _ => ⟨rfl, (cpK_ne _ (V - 1) 16 48 (by decide) (by decide)).trans ((mup_ne (by decide)).trans (hFu 3 (by decide))), (cpK_ne _ (V - 1) 16 48 (by decide) (by decide)).trans ((mup_ne (by decide)).trans (hFu 4 (by decide))), (cpK_c (V - 1) 16 48 (x := 1) ((mup_ne (by decide)).trans (hFu 1 (by decide)))), (cpK_c (V - 1) 16 48 (x := 2) ((mup_ne (by decide)).trans (hFu 2 (by decide))))⟩)⟩) d_M_commit_83
  · skip
    refine lv_aload_n hx hb d_M_commit_9 rfl (lv_at hl 0 rfl) ?_
    refine lv_iconst (v := nI 1) hx hb d_M_commit_10 (by decide) ?_
    refine k_calli (va_runV (As := [.int (nI 1)]) (rest := []) ⟨hx, hb, hml, hown, hts⟩ (c_M_refuse l D tk s.heap.size h ad g la tl (nI 1) ) (cwV 1 hts (gV t_1060 t_1062 s_17 t_9 t_1063) rfl rfl rfl (by decide +kernel) ⟨Nat.le_of_ble_eq_true rfl, Nat.le_of_ble_eq_true rfl⟩) (k_preV hP hK hD hnw 0 rfl rfl) rfl rfl hl.1 rfl (lv_room (Nat.le_of_ble_eq_true rfl)) d_M_commit_11 hc0) hD hS hA (fun _ _ H locs hp11 hP hD hK hS => ?_)
    subst hp11
    replace hP : va_P D CC (wM tk h ad (mup g 0 0 (nI 1)) la ++ tl) H := hP
    replace hD : va_D A (wM tk h ad (mup g 0 0 (nI 1)) la ++ tl) := hD
    exact k_iret (v := 0) hQ hx hb hr hlk hK hP hD hS (mup g 0 0 (nI 1), la, E) rfl (⟨fun _ => ⟨rfl, rfl⟩, fun q => absurd hc6 (by omega)⟩) d_M_commit_14
