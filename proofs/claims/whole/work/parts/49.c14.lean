/-- the store, its shelves and its counts -/
def stI (tk : Nat → ClassId) (tl : va_W) (g : Nat → Nat → Int32) (rr : Nat → Nat → Option Nat) (S : List ck_I) (ca : Nat → Nat) (bl : Nat → Nat → Option Nat) (f : Nat) : Prop := sI tk tl S ca bl ∧ (∀ k, k < 48 → rr 0 k = (pv S k S.length).map ca) ∧ g 0 0 = nI S.length ∧ g 1 0 = nI f ∧ f ≤ 40
abbrev KS : Type := (Nat → Nat → Int32) × (Nat → Nat → Option Nat) × va_W × List ck_I × (Nat → Nat) × (Nat → Nat → Option Nat)
/-- what keeping a chunk does -/
def kpP (tk : Nat → ClassId) (tl : va_W) (g : Nat → Nat → Int32) (rr : Nat → Nat → Option Nat) (S : List ck_I) (ca : Nat → Nat) (bl : Nat → Nat → Option Nat) (f lv : Nat) (p : List kv_I) (r : Option Nat) (u : KS) : Prop :=
  (∃ c, S[c]? = some (lv, p) ∧ r = some (ca c) ∧ u = (g, rr, tl, S, ca, bl)) ∨
  ((lv, p) ∉ S ∧ ¬ (wr f).1 = true ∧ r = none ∧ u = (mup g 1 0 (nI (wr f).2), rr, tl, S, ca, bl)) ∨
  ((lv, p) ∉ S ∧ (wr f).1 = true ∧ ∃ q b cs, r = some q ∧ u = (mup (mup g 1 0 (nI (wr f).2)) 0 0 (nI (S.length + 1)), rup rr 0 (lk p) (some q), tl ++ cs, S ++ [(lv, p)], va_up ca S.length q, va_up bl S.length b) ∧ sI tk (tl ++ cs) (S ++ [(lv, p)]) (va_up ca S.length q) (va_up bl S.length b))
theorem map_up {ca : Nat → Nat} {o : Option Nat} {n q : Nat} (h : ∀ c, o = some c → c < n) : o.map (va_up ca n q) = o.map ca := by
  cases o with
  | none => rfl
  | some c =>
    have := h c rfl
    show some (va_up ca n q c) = some (ca c)
    unfold va_up
    rw [if_neg (by omega)]
theorem sI_push {tk : Nat → ClassId} {tl cs : va_W} {S : List ck_I} {ca : Nat → Nat} {bl : Nat → Nat → Option Nat} (h : sI tk tl S ca bl) {lv : Nat} {p : List kv_I} {rb : Nat → Option Nat} (hro : rw_ok S ca lv p rb) (hn : (lv, p) ∉ S) (h1 : so p) (h2 : p ≠ []) (h3 : pa lv p = [p]) (h4 : lv ≤ 2)
    {q ka va ba : Nat} {fk fv : Nat → Int32} {b : Nat → Option Nat} (hcs : cs = [(q, .inr (1, [.int (nI lv), .int (hs lv (im lv p)), .ref ka, .ref va, .ref ba, va_rf ((pv S (lk p) S.length).map ca)])), (ka, .inl (tk 0, (im lv p).length, .inl fk)), (va, .inl (tk 0, (im lv p).length, .inl fv)), (ba, .inl (tk 3, (im lv p).length, .inr (.inr (.inr (.inr b)))))])
    (hf : ∀ j x, (im lv p)[j]? = some x → fk j = nI x.1 ∧ fv j = x.2) (hb : ∀ j, j < (im lv p).length → b j = rb j) (hb0 : ∀ j, (im lv p).length ≤ j → b j = none) (hfr : ∀ c, c < S.length → ca c ≠ q) : sI tk (tl ++ cs) (S ++ [(lv, p)]) (va_up ca S.length q) (va_up bl S.length b) := by
  refine ⟨st_push h.1 hro hn h1 h2 h3 h4 hfr hb hb0, fun c l2 p2 hc => ?_⟩
  by_cases hcl : c < S.length
  · rw [List.getElem?_append_left hcl] at hc
    have hne : c ≠ S.length := Nat.ne_of_lt hcl
    have := h.2 c l2 p2 hc
    rw [pv_app c (by omega), map_up (fun d hd => by have := (pv_lt hd).1; omega)]
    unfold va_up
    rw [if_neg hne, if_neg hne]
    exact cAt_app this
  · have hcl2 : c = S.length := by
      have := (List.getElem?_eq_some_iff.mp hc).1
      rw [List.length_append, List.length_singleton] at this
      omega
    subst hcl2
    rw [List.getElem?_append_right (Nat.le_refl _), Nat.sub_self] at hc
    have e0 : (lv, p) = (l2, p2) := Option.some.inj hc
    obtain ⟨rfl, rfl⟩ := Prod.mk.inj e0
    rw [pv_app S.length (Nat.le_refl _), map_up (fun d hd => (pv_lt hd).1), va_up_self, va_up_self]
    subst hcs
    have e : ∀ (k : Nat) (x : va_W), (tl ++ x)[tl.length + k]? = x[k]? := fun k x => by
      rw [List.getElem?_append_right (by omega)]; congr 1; omega
    exact ⟨tl.length, ka, va, ba, fk, fv, e 0 _, e 1 _, e 2 _, e 3 _, hf⟩
/-- addresses are apart -/
theorem kp_fr {A : Nat → Prop} {tk : Nat → ClassId} {w0 tl cs : va_W} {S : List ck_I} {ca : Nat → Nat} {bl : Nat → Nat → Option Nat} (hD : va_D A (w0 ++ (tl ++ cs))) (h : sI tk tl S ca bl) {q : Nat} {x : va_E} (hq : cs[0]? = some (q, x)) : ∀ c, c < S.length → ca c ≠ q := by
  intro c hc e
  obtain ⟨l2, p2⟩ : ck_I := S[c]
  obtain ⟨q1, ka, va, ba, fk, fv, h1, _⟩ := h.2 c (S[c]).1 (S[c]).2 (List.getElem?_eq_getElem hc)
  have hl := (List.getElem?_eq_some_iff.mp h1).1
  have e1 : (w0 ++ (tl ++ cs))[w0.length + q1]? = tl[q1]? := by
    rw [List.getElem?_append_right (by omega), show w0.length + q1 - w0.length = q1 by omega, List.getElem?_append_left hl]
  have e2 : (w0 ++ (tl ++ cs))[w0.length + tl.length]? = cs[0]? := by
    rw [List.getElem?_append_right (by omega), show w0.length + tl.length - w0.length = tl.length by omega, List.getElem?_append_right (Nat.le_refl _), Nat.sub_self]
  have := hD.1 _ _ _ _ (e1.trans h1) (e2.trans hq) e
  omega
theorem lk_last {lv : Nat} {p : List kv_I} (h : p ≠ []) : ∃ x, (im lv p)[(im lv p).length - 1]? = some x ∧ x.1 = lk p := by
  cases lv with
  | zero =>
    have hl := List.length_pos_iff.mpr h
    refine ⟨p[p.length - 1], List.getElem?_eq_getElem (show p.length - 1 < p.length by omega), ?_⟩
    unfold lk
    rw [List.getLast?_eq_getElem?, List.getElem?_eq_getElem (show p.length - 1 < p.length by omega)]
    rfl
  | succ l =>
    obtain ⟨ps, q, e, hq⟩ := pa_last (l := l) h
    rw [im_succ, e, List.map_append]
    refine ⟨ov l q, ?_, hq⟩
    rw [List.length_append, List.getElem?_append_right (by simp)]
    simp
theorem kp_no {S : List ck_I} {lv n : Nat} {p : List kv_I} (h : pv S (lk p) n = none) (hno : ∀ d, n ≤ d → S[d]? ≠ some (lv, p)) : (lv, p) ∉ S := by
  intro hm
  obtain ⟨d, hd⟩ := List.getElem?_of_mem hm
  by_cases e : d < n
  · have := pv_none h d e
    rw [List.getD_eq_getElem?_getD, hd] at this
    exact this rfl
  · exact hno d (by omega) hd
theorem kp_older {S : List ck_I} {lv n c : Nat} {p : List kv_I} (h : pv S (lk p) n = some c) (hno : ∀ d, n ≤ d → S[d]? ≠ some (lv, p)) (hne : S[c]? ≠ some (lv, p)) : ∀ d, c ≤ d → S[d]? ≠ some (lv, p) := by
  intro d hd hs
  by_cases e : d = c
  · subst e; exact hne hs
  · by_cases e2 : d < n
    · have := (pv_lt h).2.2 d (by omega) e2
      rw [List.getD_eq_getElem?_getD, hs] at this
      exact this rfl
    · exact hno d (by omega) hs
theorem kp_cur {S : List ck_I} {ca : Nat → Nat} {k n : Nat} {cur : Option Nat} (hc : cur = (pv S k n).map ca) (hn : n ≤ S.length) (h : ¬ cur = none) : ∃ c l2 p2, pv S k n = some c ∧ cur = some (ca c) ∧ c < n ∧ S[c]? = some (l2, p2) ∧ lk p2 = k := by
  cases hp : pv S k n with
  | none => rw [hp] at hc; exact absurd hc h
  | some c =>
    rw [hp] at hc
    obtain ⟨a1, a2, _⟩ := pv_lt hp
    have hcl : c < S.length := by omega
    refine ⟨c, (S[c]).1, (S[c]).2, rfl, hc, a1, List.getElem?_eq_getElem hcl, ?_⟩
    rw [List.getD_eq_getElem?_getD, List.getElem?_eq_getElem hcl] at a2
    exact a2
theorem rw_bl {tk : Nat → ClassId} {tl : va_W} {S : List ck_I} {ca : Nat → Nat} {bl : Nat → Nat → Option Nat} (h : sI tk tl S ca bl) {lv : Nat} {p : List kv_I} {rb : Nat → Option Nat} (hro : rw_ok S ca lv p rb) : ∀ j, j < (im lv p).length → ∀ v, rb j = some v → ∃ (qk : Nat) (vs : List Value), tl[qk]? = some (v, .inr (1, vs)) := by
  intro j hj v hv
  cases lv with
  | zero => rw [hro.1 rfl j hj] at hv; cases hv
  | succ l =>
    rw [im_succ, List.length_map] at hj
    obtain ⟨d, hd, e⟩ := hro.2 l rfl j _ (List.getElem?_eq_getElem hj)
    rw [e] at hv
    have : ca d = v := Option.some.inj hv
    subst this
    obtain ⟨q1, _, _, _, _, _, h1, _⟩ := h.2 d _ _ hd
    exact ⟨q1, _, h1⟩
theorem cpy_at {f : Nat → Int32} {a0 n j : Nat} (h : j < n) : va_cpy f (fun _ => 0) a0 0 n j = f (a0 + j) := by
  unfold va_cpy
  rw [if_pos ⟨Nat.zero_le _, by omega⟩, Nat.sub_zero]

set_option maxHeartbeats 4000000 in
set_option maxRecDepth 100000 in
theorem c_S_keep (l : Launch) (D : va_G) (tk : Nat → ClassId) (sz : Nat) (ad : Nat → Nat) (g : Nat → Nat → Int32) (rr : Nat → Nat → Option Nat) (tl : va_W) (S : List ck_I) (ca : Nat → Nat) (bl : Nat → Nat → Option Nat) (f : Nat) (hstI : stI tk tl g rr S ca bl f) (hSl : S.length < 8704) (lv : Nat) (pX : List kv_I) (hp1 : so pX) (hp2 : pX ≠ []) (hp3 : pa lv pX = [pX]) (hp4 : lv ≤ 2) (a0 : Nat) (hP9 : a0 + (im lv pX).length ≤ 48) (hn9 : ¬ (a0 = 0 ∧ (im lv pX).length = 48)) (hrw : rwI g a0 (im lv pX)) (hro : rw_ok S ca lv pX (fun j => rr 2 (a0 + j))) : Met l y_S_keep w_S_keep ({ frames := 4, cells := 4, slots := 150, locals := 133 }) (va_Pc [.ref (ad 1), .ref (ad 8), .int (nI lv), .int (nI a0), .int (nI (a0 + (im lv pX).length))] (k_pre D (TY tk) sz (wC tk ad g rr ++ tl))) (va_Qq (fun (r : Option Nat) (u : KS) => kpP tk tl g rr S ca bl f lv pX r u) (fun u t => k_at D (TY tk) (va_A (wC tk ad g rr ++ tl) sz) ((fun (u : KS) => (wC tk ad u.1 u.2.1 ++ u.2.2.1 : va_W)) u) t) (va_A (wC tk ad g rr ++ tl) sz)) 4 150 (va_A (wC tk ad g rr ++ tl) sz) := by
  refine k_ofW (l := l) (rm := ({ frames := 4, cells := 4, slots := 150, locals := 133 } : Room)) (mc := 4) (ms := 150) (av := [.ref (ad 1), .ref (ad 8), .int (nI lv), .int (nI a0), .int (nI (a0 + (im lv pX).length))]) (y := y_S_keep) (cc := prog_7_method_4_code) (maxL := 8) (ret := (some (.object "SealedBook$Chunk"))) (ws := wC tk ad g rr ++ tl) (sz := sz) (D := D) (tys := TY tk) (fun A => va_Qq (fun (r : Option Nat) (u : KS) => kpP tk tl g rr S ca bl f lv pX r u) (fun u t => k_at D (TY tk) A ((fun (u : KS) => (wC tk ad u.1 u.2.1 ++ u.2.2.1 : va_W)) u) t) A) (by decide) (Nat.le_of_ble_eq_true rfl) ?_
  intro p e s m args below meth c Q A ls hQ hx hb hr hlk hin hts hT hown hml hnw hP hK hD hA hsz hl
  have hS : va_S A s.heap s.heap [] := va_S.rf
  have hc0 : 0 + 0 ≤ 4 ∧ 0 + 0 ≤ 150 := ⟨by decide, by decide⟩
  replace hl : lv_has ls 8 [(0, .ref (ad 1)), (1, .ref (ad 8)), (2, .int (nI lv)), (3, .int (nI a0)), (4, .int (nI (a0 + (im lv pX).length)))] := hl
  replace hP : va_P D CC (wC tk ad g rr ++ tl) s.heap := hP
  replace hK : va_K D CC (TY tk) s := hK
  have hst := hstI.1
  have hP0 : 0 < (im lv pX).length := List.length_pos_iff.mpr (im_nn hp2)
  have hlk9 := lk_lt hp1 hp2
  obtain ⟨xl, hxl, hxk⟩ := lk_last (lv := lv) hp2
  refine lv_aload_n hx hb d_S_keep_0 rfl (lv_at hl 1 rfl) ?_
  refine lv_iload_n hx hb d_S_keep_1 rfl (lv_at hl 2 rfl) ?_
  refine lv_iload_n hx hb d_S_keep_2 rfl (lv_at hl 3 rfl) ?_
  refine lv_iload hx hb d_S_keep_3 (lv_at hl 4 rfl) ?_
  refine k_calli (va_runV (As := [.int (nI lv), .int (nI a0), .int (nI (a0 + (im lv pX).length))]) (rest := []) ⟨hx, hb, hml, hown, hts⟩ (c_R_hashOf l D tk s.heap.size ad g rr tl lv a0 (im lv pX) hP9 hrw) (cwV 3 hts (gV t_430 t_431 t_432 t_5 t_433) rfl rfl rfl (by decide +kernel) ⟨Nat.le_of_ble_eq_true rfl, Nat.le_of_ble_eq_true rfl⟩) (k_preV hP hK hD hnw 8 rfl rfl) rfl rfl hl.1 rfl (lv_room (Nat.le_of_ble_eq_true rfl)) d_S_keep_5 ⟨by show _ ≤ 4; omega, by show _ ≤ 150; omega⟩) hD hS hA (fun _ _ H locs hp5 hP hD hK hS => ?_)
  subst hp5
  replace hP : va_P D CC (wC tk ad g rr ++ tl) H := hP
  replace hD : va_D A (wC tk ad g rr ++ tl) := hD
  refine lv_istore (lv' := [(5, .int (hs lv (im lv pX))), (0, .ref (ad 1)), (1, .ref (ad 8)), (2, .int (nI lv)), (3, .int (nI a0)), (4, .int (nI (a0 + (im lv pX).length)))]) hx hb d_S_keep_8 hl (by decide) rfl (fun ls hl => ?_)
  refine lv_aload_n hx hb d_S_keep_10 rfl (lv_at hl 2 rfl) ?_
  refine gf_S_31 (v := .ref (ad 9)) hx hb hT hown hK hP 8 rfl rfl d_S_keep_11 ?_
  refine lv_iload hx hb d_S_keep_14 (lv_at hl 5 rfl) ?_
  refine lv_iconst (v := nI 1) hx hb d_S_keep_16 (by decide) ?_
  refine st_isub hx hb (by omega) d_S_keep_17 ?_
  refine st_top (show nI ((a0 + (im lv pX).length) - 1) = nI (a0 + ((im lv pX).length - 1)) from congrArg nI (by omega)) ?_
  refine st_iald hx hb hK hP 9 0 rfl rfl (by omega) (by decide) d_S_keep_18 ?_
  refine st_top (show g 6 (a0 + ((im lv pX).length - 1)) = nI (lk pX) from (hrw _ xl hxl).1.trans (congrArg nI hxk)) ?_
  refine lv_istore (lv' := [(6, .int (nI (lk pX))), (5, .int (hs lv (im lv pX))), (0, .ref (ad 1)), (1, .ref (ad 8)), (2, .int (nI lv)), (3, .int (nI a0)), (4, .int (nI (a0 + (im lv pX).length)))]) hx hb d_S_keep_19 hl (by decide) rfl (fun ls hl => ?_)
  refine lv_aload_n hx hb d_S_keep_21 rfl (lv_at hl 2 rfl) ?_
  refine gf_S_11 (v := .ref (ad 2)) hx hb hT hown hK hP 1 rfl rfl d_S_keep_22 ?_
  refine lv_iload hx hb d_S_keep_25 (lv_at hl 0 rfl) ?_
  refine st_aald hx hb hK hP 2 3 rfl rfl (by omega) (by decide) d_S_keep_27 ?_
  refine sq_astore (lv' := [(7, va_rf (rr 0 (lk pX))), (6, .int (nI (lk pX))), (5, .int (hs lv (im lv pX))), (0, .ref (ad 1)), (1, .ref (ad 8)), (2, .int (nI lv)), (3, .int (nI a0)), (4, .int (nI (a0 + (im lv pX).length)))]) hx hb d_S_keep_28 hl (by decide) rfl (fun ls hl => ?_)
  have key30 : ∀ (n30 : Nat) (cur : Option Nat) (n8 : Nat) (ls : Array Slot) (H : Heap) (locs : List Loc), n8 < n30 → (cur = (pv S (lk pX) n8).map ca) → (n8 ≤ S.length) → (∀ d, n8 ≤ d → S[d]? ≠ some (lv, pX)) → lv_has ls 8 [(0, .ref (ad 1)), (1, .ref (ad 8)), (2, .int (nI lv)), (3, .int (nI a0)), (4, .int (nI (a0 + (im lv pX).length))), (5, .int (hs lv (im lv pX))), (6, .int (nI (lk pX))), (7, va_rf cur)] → va_P D CC (wC tk ad g rr ++ tl) H → va_D A (wC tk ad g rr ++ tl) → va_S A s.heap H locs → W p l e ({ frames := 4, cells := 4, slots := 150, locals := 133 } : Room) s m args below meth c H locs 0 0 Q (F0 m 30 ls []) := by
    intro n30
    induction n30 with
    | zero => intro cur n8 ls H locs hn; exact absurd hn (Nat.not_lt_zero _)
    | succ n30 ih30 =>
      intro cur n8 ls H locs hn30 hcur hn8 hno hl hP hD hS
      refine sq_aload hx hb d_S_keep_30 (lv_at hl 7 rfl) ?_
      refine sq_ifnull (r := cur) hx hb d_S_keep_32 (tgt := 79) (by decide) (fun hc32 => ?_) (fun hc32 => ?_)
      · skip
        have hnin : (lv, pX) ∉ S := kp_no (by rw [hc32] at hcur; exact Option.map_eq_none_iff.mp hcur.symm) hno
        refine lv_aload_n hx hb d_S_keep_79 rfl (lv_at hl 0 rfl) ?_
        refine gf_S_17 (v := .int (g 0 0)) hx hb hT hown hK hP 1 rfl rfl d_S_keep_80 ?_
        refine st_top (show g 0 0 = nI S.length from hstI.2.2.1) ?_
        refine lv_sipush (v := nI 8704) hx hb d_S_keep_83 (by decide) ?_
        refine st_icmp_ge hx hb (by omega) (by omega) d_S_keep_86 (tgt := 96) (by decide) (fun hc86 => absurd hc86 (by omega)) (fun hc86 => ?_)
        refine lv_aload_n hx hb d_S_keep_89 rfl (lv_at hl 0 rfl) ?_
        refine k_calli (va_runV (As := []) (rest := []) ⟨hx, hb, hml, hown, hts⟩ (c_S_write l D tk H.size ad g rr tl f hstI.2.2.2.2 hstI.2.2.2.1) (cwV 0 hts (gV t_439 t_440 t_441 t_2 t_442) rfl rfl rfl (by decide +kernel) ⟨Nat.le_of_ble_eq_true rfl, Nat.le_of_ble_eq_true rfl⟩) (k_preV hP hK hD hnw 1 rfl rfl) rfl rfl hl.1 rfl (lv_room (Nat.le_of_ble_eq_true rfl)) d_S_keep_90 ⟨by show _ ≤ 4; omega, by show _ ≤ 150; omega⟩) hD hS hA (fun _ _ H locs hp90 hP hD hK hS => ?_)
        subst hp90
        replace hP : va_P D CC (wC tk ad (mup g 1 0 (nI (wr f).2)) rr ++ tl) H := hP
        replace hD : va_D A (wC tk ad (mup g 1 0 (nI (wr f).2)) rr ++ tl) := hD
        refine lv_if_ne hx hb d_S_keep_93 (tgt := 98) (by decide) (fun hc93 => ?_) (fun hc93 => ?_)
        · skip
          have hwt : (wr f).1 = true := by unfold wrZ at hc93; split at hc93; assumption; exact absurd nI_0 hc93
          refine lv_aload_n hx hb d_S_keep_98 rfl (lv_at hl 0 rfl) ?_
          refine gf_S_11 (v := .ref (ad 2)) hx hb hT hown hK hP 1 rfl rfl d_S_keep_99 ?_
          refine lv_iload hx hb d_S_keep_102 (lv_at hl 6 rfl) ?_
          refine va_new (ci := 1) (C := "SealedBook$Chunk") (T := F_C) (N := 6) (fs := [.int 0, .int 0, .null, .null, .null, .null]) hx hb hT in_C ty_C ok_C hown (hT _ t_42) (hT _ t_443) (hT _ t_15) hK hP hD hS hA rfl (by decide) (by show _ ≤ 4; omega) (by show _ ≤ 150; omega) d_S_keep_104 (fun q1 H hP hD hS => ?_)
          rw [List.append_assoc] at hP hD
          replace hP : va_P D CC (wC tk ad (mup g 1 0 (nI (wr f).2)) rr ++ (tl ++ [(q1, .inr (1, [.int 0, .int 0, .null, .null, .null, .null]))])) H := hP
          replace hD : va_D A (wC tk ad (mup g 1 0 (nI (wr f).2)) rr ++ (tl ++ [(q1, .inr (1, [.int 0, .int 0, .null, .null, .null, .null]))])) := hD
          refine lv_dup hx hb d_S_keep_107 rfl ?_
          refine lv_aload_n hx hb d_S_keep_108 rfl (lv_at hl 1 rfl) ?_
          refine lv_iload_n hx hb d_S_keep_109 rfl (lv_at hl 2 rfl) ?_
          refine lv_iload_n hx hb d_S_keep_110 rfl (lv_at hl 3 rfl) ?_
          refine lv_iload hx hb d_S_keep_111 (lv_at hl 4 rfl) ?_
          refine lv_iload hx hb d_S_keep_113 (lv_at hl 5 rfl) ?_
          refine lv_aload_n hx hb d_S_keep_115 rfl (lv_at hl 0 rfl) ?_
          refine gf_S_11 (v := .ref (ad 2)) hx hb hT hown hK hP 1 rfl rfl d_S_keep_116 ?_
          refine lv_iload hx hb d_S_keep_119 (lv_at hl 6 rfl) ?_
          refine st_aald hx hb hK hP 2 3 rfl rfl (by omega) (by decide) d_S_keep_121 ?_
          refine k_callv (va_runI (As := [.ref (ad 8), .int (nI lv), .int (nI a0), .int (nI (a0 + (im lv pX).length)), .int (hs lv (im lv pX)), va_rf (rr 0 (lk pX))]) (rest := [.ref q1, .int (nI (lk pX)), .ref (ad 2)]) ⟨hx, hb, hml, hown, hts⟩ (c_C_init l D tk H.size ad (mup g 1 0 (nI (wr f).2)) rr tl q1 lv a0 (im lv pX) (hs lv (im lv pX)) (rr 0 (lk pX)) hP0 hP9 hn9 (rw_bl hst hro)) (cwI 6 hts (gB t_446) rfl rfl rfl (hT _ t_15) (hT _ t_444) (hT _ t_445) rfl (by decide +kernel) ⟨Nat.le_of_ble_eq_true rfl, Nat.le_of_ble_eq_true rfl⟩) (k_preS hP hK hD hnw) rfl rfl hl.1 rfl (lv_room (Nat.le_of_ble_eq_true rfl)) d_S_keep_122 ⟨by show _ ≤ 4; omega, by show _ ≤ 150; omega⟩) hD hS hA (fun n9 H locs hn91 hP hD hK hS => ?_)
          replace hP : va_P D CC (wC tk ad (mup g 1 0 (nI (wr f).2)) rr ++ (tl ++ [(q1, .inr (1, [.int (nI lv), .int (hs lv (im lv pX)), .ref n9.1, .ref n9.2.1, .ref n9.2.2.1, va_rf (rr 0 (lk pX))])), (n9.1, .inl (tk 0, (im lv pX).length, .inl (va_cpy ((mup g 1 0 (nI (wr f).2)) 6) (fun _ => 0) a0 0 (im lv pX).length))), (n9.2.1, .inl (tk 0, (im lv pX).length, .inl (va_cpy ((mup g 1 0 (nI (wr f).2)) 7) (fun _ => 0) a0 0 (im lv pX).length))), (n9.2.2.1, .inl (tk 3, (im lv pX).length, .inr (.inr (.inr (.inr n9.2.2.2)))))])) H := hP
          replace hD : va_D A (wC tk ad (mup g 1 0 (nI (wr f).2)) rr ++ (tl ++ [(q1, .inr (1, [.int (nI lv), .int (hs lv (im lv pX)), .ref n9.1, .ref n9.2.1, .ref n9.2.2.1, va_rf (rr 0 (lk pX))])), (n9.1, .inl (tk 0, (im lv pX).length, .inl (va_cpy ((mup g 1 0 (nI (wr f).2)) 6) (fun _ => 0) a0 0 (im lv pX).length))), (n9.2.1, .inl (tk 0, (im lv pX).length, .inl (va_cpy ((mup g 1 0 (nI (wr f).2)) 7) (fun _ => 0) a0 0 (im lv pX).length))), (n9.2.2.1, .inl (tk 3, (im lv pX).length, .inr (.inr (.inr (.inr n9.2.2.2)))))])) := hD
          have hfr9 := kp_fr hD hst (q := q1) rfl
          have hsI9 := sI_push hst hro hnin hp1 hp2 hp3 hp4 (cs := [(q1, .inr (1, [.int (nI lv), .int (hs lv (im lv pX)), .ref n9.1, .ref n9.2.1, .ref n9.2.2.1, va_rf (rr 0 (lk pX))])), (n9.1, .inl (tk 0, (im lv pX).length, .inl (va_cpy ((mup g 1 0 (nI (wr f).2)) 6) (fun _ => 0) a0 0 (im lv pX).length))), (n9.2.1, .inl (tk 0, (im lv pX).length, .inl (va_cpy ((mup g 1 0 (nI (wr f).2)) 7) (fun _ => 0) a0 0 (im lv pX).length))), (n9.2.2.1, .inl (tk 3, (im lv pX).length, .inr (.inr (.inr (.inr n9.2.2.2)))))]) (q := q1) (ka := n9.1) (va := n9.2.1) (ba := n9.2.2.1) (fk := va_cpy ((mup g 1 0 (nI (wr f).2)) 6) (fun _ => 0) a0 0 (im lv pX).length) (fv := va_cpy ((mup g 1 0 (nI (wr f).2)) 7) (fun _ => 0) a0 0 (im lv pX).length) (b := n9.2.2.2) (by rw [← hstI.2.1 _ hlk9]) (fun j x hx => ⟨(cpy_at (List.getElem?_eq_some_iff.mp hx).1).trans (hrw j x hx).1, (cpy_at (List.getElem?_eq_some_iff.mp hx).1).trans (hrw j x hx).2⟩) hn91.1 hn91.2 hfr9
          have hcs0 : ([(q1, .inr (1, [.int (nI lv), .int (hs lv (im lv pX)), .ref n9.1, .ref n9.2.1, .ref n9.2.2.1, va_rf (rr 0 (lk pX))])), (n9.1, .inl (tk 0, (im lv pX).length, .inl (va_cpy ((mup g 1 0 (nI (wr f).2)) 6) (fun _ => 0) a0 0 (im lv pX).length))), (n9.2.1, .inl (tk 0, (im lv pX).length, .inl (va_cpy ((mup g 1 0 (nI (wr f).2)) 7) (fun _ => 0) a0 0 (im lv pX).length))), (n9.2.2.1, .inl (tk 3, (im lv pX).length, .inr (.inr (.inr (.inr n9.2.2.2)))))] : va_W)[0]? = some (q1, .inr (1, [.int (nI lv), .int (hs lv (im lv pX)), .ref n9.1, .ref n9.2.1, .ref n9.2.2.1, va_rf (rr 0 (lk pX))])) := rfl
          generalize hcs : ([(q1, .inr (1, [.int (nI lv), .int (hs lv (im lv pX)), .ref n9.1, .ref n9.2.1, .ref n9.2.2.1, va_rf (rr 0 (lk pX))])), (n9.1, .inl (tk 0, (im lv pX).length, .inl (va_cpy ((mup g 1 0 (nI (wr f).2)) 6) (fun _ => 0) a0 0 (im lv pX).length))), (n9.2.1, .inl (tk 0, (im lv pX).length, .inl (va_cpy ((mup g 1 0 (nI (wr f).2)) 7) (fun _ => 0) a0 0 (im lv pX).length))), (n9.2.2.1, .inl (tk 3, (im lv pX).length, .inr (.inr (.inr (.inr n9.2.2.2)))))] : va_W) = cs9 at hP hD hsI9 hcs0
          replace hP : va_P D CC (wC tk ad (mup g 1 0 (nI (wr f).2)) rr ++ (tl ++ cs9)) H := hP
          replace hD : va_D A (wC tk ad (mup g 1 0 (nI (wr f).2)) rr ++ (tl ++ cs9)) := hD
          refine st_aastO hx hb hK hP hD hS 2 3 rfl rfl (x := (some q1)) (fun v q => by obtain rfl : q1 = v := Option.some.inj q; exact ⟨tl.length + 0 + 18, _, (gx tk ad _ _ tl cs9 0).trans hcs0⟩) (by omega) (by decide) d_S_keep_125 (fun H locs hP hD hS => ?_)
          replace hP : va_P D CC (wC tk ad (mup g 1 0 (nI (wr f).2)) (rup rr 0 (lk pX) (some q1)) ++ (tl ++ cs9)) H := Eq.mp (congrArg (fun w => va_P D CC w H) (sC_2 tk ad (mup g 1 0 (nI (wr f).2)) rr (tl ++ cs9) (lk pX) (some q1))) hP
          replace hD : va_D A (wC tk ad (mup g 1 0 (nI (wr f).2)) (rup rr 0 (lk pX) (some q1)) ++ (tl ++ cs9)) := Eq.mp (congrArg (fun w => va_D A w) (sC_2 tk ad (mup g 1 0 (nI (wr f).2)) rr (tl ++ cs9) (lk pX) (some q1))) hD
          refine lv_aload_n hx hb d_S_keep_126 rfl (lv_at hl 0 rfl) ?_
          refine lv_dup hx hb d_S_keep_127 rfl ?_
          refine gf_S_17 (v := .int ((mup g 1 0 (nI (wr f).2)) 0 0)) hx hb hT hown hK hP 1 rfl rfl d_S_keep_128 ?_
          refine st_top (show (mup g 1 0 (nI (wr f).2)) 0 0 = g 0 0 from (rd_ne (by decide) rfl)) ?_
          refine st_top (show g 0 0 = nI S.length from hstI.2.2.1) ?_
          refine lv_iconst (v := nI 1) hx hb d_S_keep_131 (by decide) ?_
          refine st_iadd hx hb d_S_keep_132 ?_
          refine pf_S_17 hx hb hT hown hK hP hD hS 1 rfl (Nat.le_of_ble_eq_true rfl) d_S_keep_133 (fun H locs hP hD hS => ?_)
          replace hP : va_P D CC (wC tk ad (mup (mup g 1 0 (nI (wr f).2)) 0 0 (nI (S.length + 1))) (rup rr 0 (lk pX) (some q1)) ++ (tl ++ cs9)) H := Eq.mp (congrArg (fun w => va_P D CC w H) (sC_1_1 tk ad (mup g 1 0 (nI (wr f).2)) (rup rr 0 (lk pX) (some q1)) (tl ++ cs9) (nI (S.length + 1)))) hP
          replace hD : va_D A (wC tk ad (mup (mup g 1 0 (nI (wr f).2)) 0 0 (nI (S.length + 1))) (rup rr 0 (lk pX) (some q1)) ++ (tl ++ cs9)) := Eq.mp (congrArg (fun w => va_D A w) (sC_1_1 tk ad (mup g 1 0 (nI (wr f).2)) (rup rr 0 (lk pX) (some q1)) (tl ++ cs9) (nI (S.length + 1)))) hD
          refine lv_aload_n hx hb d_S_keep_136 rfl (lv_at hl 0 rfl) ?_
          refine gf_S_11 (v := .ref (ad 2)) hx hb hT hown hK hP 1 rfl rfl d_S_keep_137 ?_
          refine lv_iload hx hb d_S_keep_140 (lv_at hl 6 rfl) ?_
          refine st_aald hx hb hK hP 2 3 rfl rfl (by omega) (by decide) d_S_keep_142 ?_
          refine W_up (c2 := 4) (s2 := 150) (by omega) (by omega) ?_
          exact k_aret (r := ((rup rr 0 (lk pX) (some q1)) 0 (lk pX))) hQ hx hb hr (Or.inl ⟨_, rfl⟩) hlk hK hP hD hS (mup (mup g 1 0 (nI (wr f).2)) 0 0 (nI (S.length + 1)), rup rr 0 (lk pX) (some q1), tl ++ cs9, S ++ [(lv, pX)], va_up ca S.length q1, va_up bl S.length n9.2.2.2) rfl (Or.inr (Or.inr ⟨hnin, hwt, q1, n9.2.2.2, cs9, by rw [rup_eq, va_up_self], rfl, hsI9⟩)) d_S_keep_143
        · skip
          have hwf : ¬ (wr f).1 = true := by unfold wrZ at hc93; split at hc93; exact absurd hc93 (by decide); assumption
          refine lv_null hx hb d_S_keep_96 ?_
          refine W_up (c2 := 4) (s2 := 150) (by omega) (by omega) ?_
          exact k_aret (r := none) hQ hx hb hr (Or.inl ⟨_, rfl⟩) hlk hK hP hD hS (mup g 1 0 (nI (wr f).2), rr, tl, S, ca, bl) rfl (Or.inr (Or.inl ⟨hnin, hwf, rfl, rfl⟩)) d_S_keep_97
      · skip
        obtain ⟨c9, l8, p8, h8a, h8b, h8c, h8d, h8e⟩ := kp_cur hcur hn8 hc32
        subst h8b
        obtain ⟨q9z, ka9z, va9z, ba9z, fk9z, fv9z, h19z, h29z, h39z, h49z, h59z⟩ := hst.2 c9 l8 p8 h8d
        have h88 := hst.1.2.2 c9 l8 p8 h8d
        replace hl : lv_has ls 8 [(0, .ref (ad 1)), (1, .ref (ad 8)), (2, .int (nI lv)), (3, .int (nI a0)), (4, .int (nI (a0 + (im lv pX).length))), (5, .int (hs lv (im lv pX))), (6, .int (nI (lk pX))), (7, .ref (ca c9))] := hl
        refine lv_aload hx hb d_S_keep_35 (lv_at hl 7 rfl) ?_
        refine gf_S_43 (v := .int (hs l8 (im l8 p8))) hx hb hT hown hK hP (q9z + 18) ((wC_tl tk ad g rr tl q9z).trans h19z) rfl d_S_keep_37 ?_
        refine lv_iload hx hb d_S_keep_40 (lv_at hl 5 rfl) ?_
        refine lv_icmp_ne hx hb d_S_keep_42 (tgt := 69) (by decide) (fun hc42 => ?_) (fun hc42 => ?_)
        · skip
          have hne : S[c9]? ≠ some (lv, pX) := fun q => hc42 (by rw [h8d] at q; obtain ⟨rfl, rfl⟩ := Prod.mk.inj (Option.some.inj q); rfl)
          refine lv_aload hx hb d_S_keep_69 (lv_at hl 7 rfl) ?_
          refine gf_S_61 (v := va_rf ((pv S (lk p8) c9).map ca)) hx hb hT hown hK hP (q9z + 18) ((wC_tl tk ad g rr tl q9z).trans h19z) rfl d_S_keep_71 ?_
          refine sq_astore (lv' := [(7, va_rf ((pv S (lk p8) c9).map ca)), (0, .ref (ad 1)), (1, .ref (ad 8)), (2, .int (nI lv)), (3, .int (nI a0)), (4, .int (nI (a0 + (im lv pX).length))), (5, .int (hs lv (im lv pX))), (6, .int (nI (lk pX)))]) hx hb d_S_keep_74 hl (by decide) rfl (fun ls hl => ?_)
          refine lv_goto hx hb d_S_keep_76 (tgt := 30) (by decide) ?_
          exact ih30 ((pv S (lk p8) c9).map ca) c9 ls _ _ (by omega) (by rw [h8e]) (by omega) (kp_older h8a hno hne) (lv_sub hl [1, 2, 3, 4, 5, 6, 7, 0] rfl) hP hD hS
        · skip
          refine lv_aload hx hb d_S_keep_45 (lv_at hl 7 rfl) ?_
          refine gf_S_54 (v := .int (nI l8)) hx hb hT hown hK hP (q9z + 18) ((wC_tl tk ad g rr tl q9z).trans h19z) rfl d_S_keep_47 ?_
          refine lv_iload_n hx hb d_S_keep_50 rfl (lv_at hl 2 rfl) ?_
          refine st_icmp_ne hx hb (by omega) (by omega) d_S_keep_51 (tgt := 69) (by decide) (fun hc51 => ?_) (fun hc51 => ?_)
          · skip
            have hne : S[c9]? ≠ some (lv, pX) := fun q => hc51 (by rw [h8d] at q; exact (Prod.mk.inj (Option.some.inj q)).1)
            refine lv_aload hx hb d_S_keep_69 (lv_at hl 7 rfl) ?_
            refine gf_S_61 (v := va_rf ((pv S (lk p8) c9).map ca)) hx hb hT hown hK hP (q9z + 18) ((wC_tl tk ad g rr tl q9z).trans h19z) rfl d_S_keep_71 ?_
            refine sq_astore (lv' := [(7, va_rf ((pv S (lk p8) c9).map ca)), (0, .ref (ad 1)), (1, .ref (ad 8)), (2, .int (nI lv)), (3, .int (nI a0)), (4, .int (nI (a0 + (im lv pX).length))), (5, .int (hs lv (im lv pX))), (6, .int (nI (lk pX)))]) hx hb d_S_keep_74 hl (by decide) rfl (fun ls hl => ?_)
            refine lv_goto hx hb d_S_keep_76 (tgt := 30) (by decide) ?_
            exact ih30 ((pv S (lk p8) c9).map ca) c9 ls _ _ (by omega) (by rw [h8e]) (by omega) (kp_older h8a hno hne) (lv_sub hl [1, 2, 3, 4, 5, 6, 7, 0] rfl) hP hD hS
          · skip
            refine lv_aload_n hx hb d_S_keep_54 rfl (lv_at hl 1 rfl) ?_
            refine lv_aload hx hb d_S_keep_55 (lv_at hl 7 rfl) ?_
            refine lv_iload_n hx hb d_S_keep_57 rfl (lv_at hl 3 rfl) ?_
            refine lv_iload hx hb d_S_keep_58 (lv_at hl 4 rfl) ?_
            refine k_calli (va_runV (As := [.ref (ca c9), .int (nI a0), .int (nI (a0 + (im lv pX).length))]) (rest := []) ⟨hx, hb, hml, hown, hts⟩ (c_R_matches l D tk H.size ad g rr tl (ca c9) l8 (im l8 p8) (bl c9) _ (hst.2 c9 l8 p8 h8d) (im_l48 h88.1) (im_key h88.1) a0 (im lv pX) hP9 (im_key hp1) hrw) (cwV 3 hts (gV t_435 t_436 t_437 t_5 t_438) rfl rfl rfl (by decide +kernel) ⟨Nat.le_of_ble_eq_true rfl, Nat.le_of_ble_eq_true rfl⟩) (k_preV hP hK hD hnw 8 rfl rfl) rfl rfl hl.1 rfl (lv_room (Nat.le_of_ble_eq_true rfl)) d_S_keep_60 ⟨by show _ ≤ 4; omega, by show _ ≤ 150; omega⟩) hD hS hA (fun r60 _ H locs hm60 hP hD hK hS => ?_)
            replace hP : va_P D CC (wC tk ad g rr ++ tl) H := hP
            replace hD : va_D A (wC tk ad g rr ++ tl) := hD
            refine lv_if_eq hx hb d_S_keep_63 (tgt := 69) (by decide) (fun hc63 => ?_) (fun hc63 => ?_)
            · skip
              have hne : S[c9]? ≠ some (lv, pX) := fun q => hm60.elim (fun z => absurd (hc63.symm.trans z.1) (by decide)) (fun z => z.2 (by rw [h8d] at q; obtain ⟨rfl, rfl⟩ := Prod.mk.inj (Option.some.inj q); exact ⟨rfl, ((mt_iff hst.1 hro h8d).mpr rfl).2.2⟩))
              refine lv_aload hx hb d_S_keep_69 (lv_at hl 7 rfl) ?_
              refine gf_S_61 (v := va_rf ((pv S (lk p8) c9).map ca)) hx hb hT hown hK hP (q9z + 18) ((wC_tl tk ad g rr tl q9z).trans h19z) rfl d_S_keep_71 ?_
              refine sq_astore (lv' := [(7, va_rf ((pv S (lk p8) c9).map ca)), (0, .ref (ad 1)), (1, .ref (ad 8)), (2, .int (nI lv)), (3, .int (nI a0)), (4, .int (nI (a0 + (im lv pX).length))), (5, .int (hs lv (im lv pX))), (6, .int (nI (lk pX)))]) hx hb d_S_keep_74 hl (by decide) rfl (fun ls hl => ?_)
              refine lv_goto hx hb d_S_keep_76 (tgt := 30) (by decide) ?_
              exact ih30 ((pv S (lk p8) c9).map ca) c9 ls _ _ (by omega) (by rw [h8e]) (by omega) (kp_older h8a hno hne) (lv_sub hl [1, 2, 3, 4, 5, 6, 7, 0] rfl) hP hD hS
            · skip
              have hm9 := hm60.resolve_right (fun z => hc63 z.1)
              have heq9 := (mt_iff hst.1 hro h8d).mp ⟨by omega, hm9.2.1, hm9.2.2⟩
              refine lv_aload hx hb d_S_keep_66 (lv_at hl 7 rfl) ?_
              refine W_up (c2 := 4) (s2 := 150) (by omega) (by omega) ?_
              exact k_aret (r := (some (ca c9))) hQ hx hb hr (Or.inl ⟨_, rfl⟩) hlk hK hP hD hS (g, rr, tl, S, ca, bl) rfl (Or.inl ⟨c9, by rw [h8d, heq9], rfl, rfl⟩) d_S_keep_68
  exact key30 _ (rr 0 (lk pX)) S.length ls _ _ (Nat.lt_succ_self _) (hstI.2.1 _ hlk9) (Nat.le_refl _) (fun d hd q => by have := (List.getElem?_eq_some_iff.mp q).1; omega) (lv_sub hl [3, 4, 5, 6, 7, 2, 1, 0] rfl) hP hD hS
