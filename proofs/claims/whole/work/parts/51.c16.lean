/-- a level of a commit under way: dn is done, rs is left, k items of its first piece are read -/
def klF (tk : Nat → ClassId) (tl : va_W) (g : Nat → Nat → Int32) (rr : Nat → Nat → Option Nat) (S : List ck_I) (ca : Nat → Nat) (f lv : Nat) (X : List kv_I) (dn rs : List (List kv_I)) (k : Nat) (u : KS) (f2 : Nat) : Prop :=
  pa lv X = dn ++ rs ∧ (∀ p rs2, rs = p :: rs2 → k < (im lv p).length) ∧ (rs = [] → k = 0) ∧ kq (dn.map (fun p => (lv, p))) S f = (true, u.2.2.2.1, f2) ∧ stI tk u.2.2.1 u.1 u.2.1 u.2.2.2.1 u.2.2.2.2.1 u.2.2.2.2.2 f2 ∧ exS tl S ca u.2.2.1 u.2.2.2.1 u.2.2.2.2.1 ∧ frx [0, 1, 6, 7] g u.1 ∧ frr [0, 2] rr u.2.1 ∧
  (∀ j x, off lv dn ≤ j → (im lv X)[j]? = some x → u.1 6 j = nI x.1 ∧ u.1 7 j = x.2) ∧ (∀ j, off lv dn ≤ j → u.2.1 2 j = rr 2 j) ∧
  (∀ j p, dn[j]? = some p → u.1 6 j = nI (lk p) ∧ u.1 7 j = hs lv (im lv p) ∧ ∃ d, u.2.2.2.1[d]? = some (lv, p) ∧ u.2.1 2 j = some (u.2.2.2.2.1 d)) ∧ u.2.2.2.1.length ≤ S.length + dn.length
theorem kl_ne {lv k : Nat} {X : List kv_I} {dn rs : List (List kv_I)} (h : pa lv X = dn ++ rs) (h0 : rs = [] → k = 0) (hk : off lv dn + k < (im lv X).length) : ∃ p rs2, rs = p :: rs2 := by
  cases rs with
  | nil =>
    have := im_ln h
    rw [h0 rfl, show off lv [] = 0 from rfl] at *
    omega
  | cons p rs2 => exact ⟨p, rs2, rfl⟩
theorem kl_bd {lv k : Nat} {X : List kv_I} {dn rs : List (List kv_I)} (h : pa lv X = dn ++ rs) (h1 : ∀ p rs2, rs = p :: rs2 → k < (im lv p).length) (h0 : rs = [] → k = 0) : off lv dn + k ≤ (im lv X).length := by
  have h2 := im_ln h
  cases rs with
  | nil => have := h0 rfl; omega
  | cons p rs2 =>
    have := h1 p rs2 rfl
    rw [off_cons] at h2
    omega
theorem kl_last {lv k : Nat} {X : List kv_I} {dn rs : List (List kv_I)} {p : List kv_I} (h : pa lv X = dn ++ p :: rs) (hk : k < (im lv p).length) (hi : off lv dn + k = (im lv X).length - 1) : k + 1 = (im lv p).length := by
  have := im_ln h
  rw [off_cons] at this
  omega
theorem kl_mid {lv k : Nat} {X : List kv_I} {dn rs : List (List kv_I)} {p : List kv_I} {x : kv_I} (h : pa lv X = dn ++ p :: rs) (hk : k < (im lv p).length) (hx : (im lv p)[k]? = some x) (hi : ¬ off lv dn + k = (im lv X).length - 1) (he : ¬ en lv x.1 = true) : k + 1 < (im lv p).length := by
  have h1 := im_ln h
  rw [off_cons] at h1
  rcases Nat.lt_or_ge (k + 1) (im lv p).length with q | q
  · exact q
  · exfalso
    have e : k + 1 = (im lv p).length := by omega
    by_cases hr : rs = []
    · subst hr
      rw [off_nil] at h1
      omega
    · exact he ((pc_in h hx).2 e hr)
theorem kl_end_ {lv k : Nat} {X : List kv_I} {dn rs : List (List kv_I)} {p : List kv_I} {x : kv_I} (h : pa lv X = dn ++ p :: rs) (hk : k < (im lv p).length) (hx : (im lv p)[k]? = some x) (he : en lv x.1 = true) : k + 1 = (im lv p).length := by
  rcases Nat.lt_or_ge (k + 1) (im lv p).length with q | q
  · rw [(pc_in h hx).1 q] at he; cases he
  · omega
theorem kl_lk {lv k : Nat} {p : List kv_I} {x : kv_I} (hp : p ≠ []) (hx : (im lv p)[k]? = some x) (he : k + 1 = (im lv p).length) : x.1 = lk p := by
  obtain ⟨y, hy, e⟩ := lk_last (lv := lv) hp
  rw [show (im lv p).length - 1 = k by omega, hx] at hy
  rw [Option.some.inj hy]; exact e
theorem kl_skip {tk : Nat → ClassId} {tl : va_W} {g : Nat → Nat → Int32} {rr : Nat → Nat → Option Nat} {S : List ck_I} {ca : Nat → Nat} {f lv : Nat} {X : List kv_I} {dn rs : List (List kv_I)} {p : List kv_I} {k : Nat} {u : KS} {f2 : Nat} (h : klF tk tl g rr S ca f lv X dn (p :: rs) k u f2) (hk : k + 1 < (im lv p).length) : klF tk tl g rr S ca f lv X dn (p :: rs) (k + 1) u f2 :=
  ⟨h.1, (fun q rs2 e => by cases e; exact hk), (fun e => by cases e), h.2.2.2⟩
theorem kl_step {tk : Nat → ClassId} {tl : va_W} {g : Nat → Nat → Int32} {rr : Nat → Nat → Option Nat} {S : List ck_I} {ca : Nat → Nat} {f lv : Nat} {X : List kv_I} {dn rs : List (List kv_I)} {p : List kv_I} {k : Nat} {u v : KS} {f2 f3 c : Nat} {x : Int32} (h : klF tk tl g rr S ca f lv X dn (p :: rs) k u f2) (hX : so X)
    (hex : exS u.2.2.1 u.2.2.2.1 u.2.2.2.2.1 v.2.2.1 v.2.2.2.1 v.2.2.2.2.1) (hfr : frx [0, 1] u.1 v.1) (hrr : frr [0] u.2.1 v.2.1) (hl : v.2.2.2.1.length ≤ u.2.2.2.1.length + 1) (hst : stI tk v.2.2.1 v.1 v.2.1 v.2.2.2.1 v.2.2.2.2.1 v.2.2.2.2.2 f3) (hkq : kq (dn.map (fun p => (lv, p)) ++ [(lv, p)]) S f = (true, v.2.2.2.1, f3)) (hc : v.2.2.2.1[c]? = some (lv, p)) (hx : x = nI (lk p)) :
    klF tk tl g rr S ca f lv X (dn ++ [p]) rs 0 (mup (mup v.1 6 dn.length x) 7 dn.length (hs lv (im lv p)), rup v.2.1 2 dn.length (some (v.2.2.2.2.1 c)), v.2.2.1, v.2.2.2.1, v.2.2.2.2.1, v.2.2.2.2.2) f3 := by
  obtain ⟨a1, a2, a3, a4, a5, a6, a7, a8, a9, a10, a11, a12⟩ := h
  subst hx
  have hpm : ∀ q ∈ dn ++ p :: rs, q ≠ [] := fun q hq => pa_ne q (by rw [a1]; exact hq)
  have hdl : dn.length ≤ off lv dn := off_pos (fun q hq => hpm q (List.mem_append_left _ hq))
  have hpl : 0 < (im lv p).length := List.length_pos_iff.mpr (im_nn (hpm p (by simp)))
  have v6 : ∀ j, v.1 6 j = u.1 6 j := fun j => congrFun (hfr 6 (by decide)) j
  have v7 : ∀ j, v.1 7 j = u.1 7 j := fun j => congrFun (hfr 7 (by decide)) j
  have v2 : ∀ j, v.2.1 2 j = u.2.1 2 j := fun j => congrFun (hrr 2 (by decide)) j
  have e6 : ∀ j, mup (mup v.1 6 dn.length (nI (lk p))) 7 dn.length (hs lv (im lv p)) 6 j = if j = dn.length then nI (lk p) else u.1 6 j := fun j => by
    rw [mup_ne (by decide), mup_eq]
    unfold upd
    split
    · rfl
    · exact v6 j
  have e7 : ∀ j, mup (mup v.1 6 dn.length (nI (lk p))) 7 dn.length (hs lv (im lv p)) 7 j = if j = dn.length then hs lv (im lv p) else u.1 7 j := fun j => by
    rw [mup_eq]
    unfold upd
    split
    · rfl
    · rw [mup_ne (by decide)]; exact v7 j
  have e2 : ∀ j, rup v.2.1 2 dn.length (some (v.2.2.2.2.1 c)) 2 j = if j = dn.length then some (v.2.2.2.2.1 c) else u.2.1 2 j := fun j => by
    rw [rup_eq]
    unfold va_up
    split
    · rfl
    · exact v2 j
  refine ⟨by rw [a1, List.append_assoc]; rfl, fun q rs2 e => ?_, fun _ => rfl, ?_, ?_, exS_t a6 hex, ?_, ?_, ?_, ?_, ?_, ?_⟩
  · exact List.length_pos_iff.mpr (im_nn (hpm q (by rw [e]; simp)))
  · rw [List.map_append]; exact hkq
  · refine ⟨hst.1, fun j hj => ?_, ?_, ?_, hst.2.2.2.2⟩
    · show (rup v.2.1 2 dn.length (some (v.2.2.2.2.1 c))) 0 j = _
      rw [rup_ne (by decide)]; exact hst.2.1 j hj
    · show (mup (mup v.1 6 dn.length (nI (lk p))) 7 dn.length (hs lv (im lv p))) 0 0 = _
      rw [mup_ne (by decide), mup_ne (by decide)]; exact hst.2.2.1
    · show (mup (mup v.1 6 dn.length (nI (lk p))) 7 dn.length (hs lv (im lv p))) 1 0 = _
      rw [mup_ne (by decide), mup_ne (by decide)]; exact hst.2.2.2.1
  · exact frx_2 (frx_2 (frx_t a7 (show frx [0, 1, 6, 7] u.1 v.1 from fun x h9 => hfr x (fun h8 => h9 (by revert h8; simp; omega))) (fun x h9 => ⟨h9, h9⟩)) (by decide)) (by decide)
  · exact frr_2 (fun x h9 => (hrr x (fun h8 => h9 (by revert h8; simp; omega))).trans (a8 x h9)) (by decide)
  · intro j y hj hy
    rw [off_snoc] at hj
    show (mup (mup v.1 6 dn.length (nI (lk p))) 7 dn.length (hs lv (im lv p))) 6 j = _ ∧ (mup (mup v.1 6 dn.length (nI (lk p))) 7 dn.length (hs lv (im lv p))) 7 j = _
    rw [e6, e7, if_neg (by omega), if_neg (by omega)]
    exact a9 j y (by omega) hy
  · intro j hj
    rw [off_snoc] at hj
    show (rup v.2.1 2 dn.length (some (v.2.2.2.2.1 c))) 2 j = _
    rw [e2, if_neg (by omega)]
    exact a10 j (by omega)
  · intro j q hq
    show (mup (mup v.1 6 dn.length (nI (lk p))) 7 dn.length (hs lv (im lv p))) 6 j = _ ∧ (mup (mup v.1 6 dn.length (nI (lk p))) 7 dn.length (hs lv (im lv p))) 7 j = _ ∧ ∃ d, v.2.2.2.1[d]? = some (lv, q) ∧ (rup v.2.1 2 dn.length (some (v.2.2.2.2.1 c))) 2 j = some (v.2.2.2.2.1 d)
    rw [e6, e7, e2]
    by_cases e : j = dn.length
    · subst e
      rw [List.getElem?_append_right (Nat.le_refl _), Nat.sub_self] at hq
      have : p = q := Option.some.inj hq
      subst this
      rw [if_pos rfl, if_pos rfl, if_pos rfl]
      exact ⟨rfl, rfl, c, hc, rfl⟩
    · have hj : j < dn.length := by
        have := (List.getElem?_eq_some_iff.mp hq).1
        rw [List.length_append, List.length_singleton] at this
        omega
      rw [List.getElem?_append_left hj] at hq
      rw [if_neg e, if_neg e, if_neg e]
      obtain ⟨b1, b2, d, b3, b4⟩ := a11 j q hq
      obtain ⟨b5, b6⟩ := exS_at hex d _ b3
      exact ⟨b1, b2, d, b5, by rw [b4, b6]⟩
  · show v.2.2.2.1.length ≤ _
    rw [List.length_append, List.length_singleton]
    omega
/-- what keeping a level does -/
def klP (tk : Nat → ClassId) (tl : va_W) (g : Nat → Nat → Int32) (rr : Nat → Nat → Option Nat) (S : List ck_I) (ca : Nat → Nat) (f lv : Nat) (X : List kv_I) (r : Int32) (u : KS) : Prop :=
  ∃ f2, stI tk u.2.2.1 u.1 u.2.1 u.2.2.2.1 u.2.2.2.2.1 u.2.2.2.2.2 f2 ∧ exS tl S ca u.2.2.1 u.2.2.2.1 u.2.2.2.2.1 ∧ frx [0, 1, 5, 6, 7] g u.1 ∧ frr [0, 2] rr u.2.1 ∧ u.2.2.2.1.length ≤ S.length + (pa lv X).length ∧
  ((r = nI 1 ∧ kq ((pa lv X).map (fun p => (lv, p))) S f = (true, u.2.2.2.1, f2) ∧ rwI u.1 0 (im (lv + 1) X) ∧ u.1 5 0 = nI (im (lv + 1) X).length ∧ rw_ok u.2.2.2.1 u.2.2.2.2.1 (lv + 1) X (u.2.1 2)) ∨ (r = nI 0 ∧ ∀ R, kq ((pa lv X).map (fun p => (lv, p)) ++ R) S f = (false, u.2.2.2.1, f2)))
theorem kl_fin {tk : Nat → ClassId} {tl : va_W} {g : Nat → Nat → Int32} {rr : Nat → Nat → Option Nat} {S : List ck_I} {ca : Nat → Nat} {f lv : Nat} {X : List kv_I} {dn : List (List kv_I)} {k : Nat} {u : KS} {f2 : Nat} (h : klF tk tl g rr S ca f lv X dn [] k u f2) : klP tk tl g rr S ca f lv X (nI 1) (mup u.1 5 0 (nI dn.length), u.2.1, u.2.2.1, u.2.2.2.1, u.2.2.2.2.1, u.2.2.2.2.2) := by
  obtain ⟨a1, a2, a3, a4, a5, a6, a7, a8, a9, a10, a11, a12⟩ := h
  rw [List.append_nil] at a1
  refine ⟨f2, ⟨a5.1, a5.2.1, ?_, ?_, a5.2.2.2.2⟩, a6, ?_, a8, by rw [a1]; exact a12, Or.inl ⟨rfl, by rw [a1]; exact a4, fun j x hx => ?_, ?_, fun e => by omega, fun l' e j q hq => ?_⟩⟩
  · show mup u.1 5 0 (nI dn.length) 0 0 = _
    rw [mup_ne (by decide)]; exact a5.2.2.1
  · show mup u.1 5 0 (nI dn.length) 1 0 = _
    rw [mup_ne (by decide)]; exact a5.2.2.2.1
  · exact frx_2 (fun x h9 => a7 x (fun h8 => h9 (by revert h8; simp; omega))) (by decide)
  · rw [im_succ, a1, List.getElem?_map] at hx
    cases hd : dn[j]? with
    | none => rw [hd] at hx; cases hx
    | some q =>
      rw [hd] at hx
      have : ov lv q = x := Option.some.inj hx
      subst this
      obtain ⟨b1, b2, _⟩ := a11 j q hd
      show mup u.1 5 0 (nI dn.length) 6 (0 + j) = _ ∧ mup u.1 5 0 (nI dn.length) 7 (0 + j) = _
      rw [Nat.zero_add, mup_ne (by decide), mup_ne (by decide)]
      exact ⟨b1, b2⟩
  · show mup u.1 5 0 (nI dn.length) 5 0 = _
    rw [im_succ, List.length_map, a1]; exact rd_eq
  · have e2 : l' = lv := by omega
    subst e2
    rw [a1] at hq
    exact (a11 j q hq).2.2
theorem kl_bad {tk : Nat → ClassId} {tl : va_W} {g : Nat → Nat → Int32} {rr : Nat → Nat → Option Nat} {S : List ck_I} {ca : Nat → Nat} {f lv : Nat} {X : List kv_I} {dn rs : List (List kv_I)} {p : List kv_I} {k : Nat} {u v : KS} {f2 f3 : Nat} (h : klF tk tl g rr S ca f lv X dn (p :: rs) k u f2)
    (hex : exS u.2.2.1 u.2.2.2.1 u.2.2.2.2.1 v.2.2.1 v.2.2.2.1 v.2.2.2.2.1) (hfr : frx [0, 1] u.1 v.1) (hrr : frr [0] u.2.1 v.2.1) (hl : v.2.2.2.1.length ≤ u.2.2.2.1.length + 1) (hst : stI tk v.2.2.1 v.1 v.2.1 v.2.2.2.1 v.2.2.2.2.1 v.2.2.2.2.2 f3) (hkq : ∀ R, kq (dn.map (fun p => (lv, p)) ++ (lv, p) :: R) S f = (false, v.2.2.2.1, f3)) : klP tk tl g rr S ca f lv X (nI 0) v := by
  obtain ⟨a1, a2, a3, a4, a5, a6, a7, a8, a9, a10, a11, a12⟩ := h
  refine ⟨f3, hst, exS_t a6 hex, fun x h9 => (hfr x (fun h8 => h9 (by revert h8; simp; omega))).trans (a7 x (fun h8 => h9 (by revert h8; simp; omega))), fun x h9 => (hrr x (fun h8 => h9 (by revert h8; simp; omega))).trans (a8 x h9), ?_, Or.inr ⟨rfl, fun R => ?_⟩⟩
  · rw [a1, List.length_append, List.length_cons]; omega
  · rw [a1, List.map_append, List.map_cons, List.append_assoc, List.cons_append]; exact hkq _

set_option maxHeartbeats 4000000 in
set_option maxRecDepth 100000 in
theorem c_S_keepLevel (l : Launch) (D : va_G) (tk : Nat → ClassId) (sz : Nat) (ad : Nat → Nat) (g : Nat → Nat → Int32) (rr : Nat → Nat → Option Nat) (tl : va_W) (S : List ck_I) (ca : Nat → Nat) (bl : Nat → Nat → Option Nat) (f : Nat) (hstI : stI tk tl g rr S ca bl f) (lv : Nat) (hlv : lv ≤ 2) (X : List kv_I) (hX : so X) (hlen : (pa lv X).length ≤ 13) (hSl : S.length + 20 < 8704) (hrw : rwI g 0 (im lv X)) (hg5 : g 5 0 = nI (im lv X).length) (hro : rw_ok S ca lv X (rr 2)) : Met l y_S_keepLevel w_S_keepLevel ({ frames := 5, cells := 52, slots := 1950, locals := 160 }) (va_Pc [.ref (ad 1), .ref (ad 8), .int (nI lv)] (k_pre D (TY tk) sz (wC tk ad g rr ++ tl))) (va_Qi (fun (r : Int32) (u : KS) => klP tk tl g rr S ca f lv X r u) (fun u t => k_at D (TY tk) (va_A (wC tk ad g rr ++ tl) sz) ((fun (u : KS) => (wC tk ad u.1 u.2.1 ++ u.2.2.1 : va_W)) u) t) (va_A (wC tk ad g rr ++ tl) sz)) 52 1950 (va_A (wC tk ad g rr ++ tl) sz) := by
  refine k_ofW (l := l) (rm := ({ frames := 5, cells := 52, slots := 1950, locals := 160 } : Room)) (mc := 52) (ms := 1950) (av := [.ref (ad 1), .ref (ad 8), .int (nI lv)]) (y := y_S_keepLevel) (cc := prog_7_method_3_code) (maxL := 8) (ret := (some .boolean)) (ws := wC tk ad g rr ++ tl) (sz := sz) (D := D) (tys := TY tk) (fun A => va_Qi (fun (r : Int32) (u : KS) => klP tk tl g rr S ca f lv X r u) (fun u t => k_at D (TY tk) A ((fun (u : KS) => (wC tk ad u.1 u.2.1 ++ u.2.2.1 : va_W)) u) t) A) (by decide) (Nat.le_of_ble_eq_true rfl) ?_
  intro p e s m args below meth c Q A ls hQ hx hb hr hlk hin hts hT hown hml hnw hP hK hD hA hsz hl
  have hS : va_S A s.heap s.heap [] := va_S.rf
  have hc0 : 0 + 0 ≤ 52 ∧ 0 + 0 ≤ 1950 := ⟨by decide, by decide⟩
  replace hl : lv_has ls 8 [(0, .ref (ad 1)), (1, .ref (ad 8)), (2, .int (nI lv))] := hl
  replace hP : va_P D CC (wC tk ad g rr ++ tl) s.heap := hP
  replace hK : va_K D CC (TY tk) s := hK
  have hi48 := im_l48 (l := lv) hX
  refine lv_iconst (v := nI 0) hx hb d_S_keepLevel_0 (by decide) ?_
  refine lv_istore_n (lv' := [(3, .int (nI 0)), (0, .ref (ad 1)), (1, .ref (ad 8)), (2, .int (nI lv))]) hx hb d_S_keepLevel_1 rfl hl (by decide) rfl (fun ls hl => ?_)
  refine lv_iconst (v := nI 0) hx hb d_S_keepLevel_2 (by decide) ?_
  refine lv_istore (lv' := [(4, .int (nI 0)), (3, .int (nI 0)), (0, .ref (ad 1)), (1, .ref (ad 8)), (2, .int (nI lv))]) hx hb d_S_keepLevel_3 hl (by decide) rfl (fun ls hl => ?_)
  refine lv_iconst (v := nI 0) hx hb d_S_keepLevel_5 (by decide) ?_
  refine lv_istore (lv' := [(5, .int (nI 0)), (4, .int (nI 0)), (3, .int (nI 0)), (0, .ref (ad 1)), (1, .ref (ad 8)), (2, .int (nI lv))]) hx hb d_S_keepLevel_6 hl (by decide) rfl (fun ls hl => ?_)
  have key8 : ∀ (n8 : Nat) (dn : List (List kv_I)) (rs : List (List kv_I)) (k : Nat) (u : KS) (f2 : Nat) (ls : Array Slot) (H : Heap) (locs : List Loc), (im lv X).length - (off lv dn + k) < n8 → (klF tk tl g rr S ca f lv X dn rs k u f2) → lv_has ls 8 [(0, .ref (ad 1)), (1, .ref (ad 8)), (2, .int (nI lv)), (3, .int (nI dn.length)), (4, .int (nI (off lv dn))), (5, .int (nI (off lv dn + k)))] → va_P D CC (wC tk ad u.1 u.2.1 ++ u.2.2.1) H → va_D A (wC tk ad u.1 u.2.1 ++ u.2.2.1) → va_S A s.heap H locs → W p l e ({ frames := 5, cells := 52, slots := 1950, locals := 160 } : Room) s m args below meth c H locs (4 * dn.length) (150 * dn.length) Q (F0 m 8 ls []) := by
    intro n8
    induction n8 with
    | zero => intro dn rs k u f2 ls H locs hn; exact absurd hn (Nat.not_lt_zero _)
    | succ n8 ih8 =>
      intro dn rs k u f2 ls H locs hn8 hF hl hP hD hS
      obtain ⟨hpa, hk1, hk0, hkq, hstu, hex, hfr, hrr, hol1, hol2, hnw9, hSl9⟩ := id hF
      have hsz : u.1 5 0 = nI (im lv X).length := (congrFun (hfr 5 (by decide)) 0).trans hg5
      have hbd := kl_bd hpa hk1 hk0
      refine lv_iload hx hb d_S_keepLevel_8 (lv_at hl 5 rfl) ?_
      refine lv_aload_n hx hb d_S_keepLevel_10 rfl (lv_at hl 1 rfl) ?_
      refine gf_S_24 (v := .int (u.1 5 0)) hx hb hT hown hK hP 8 rfl rfl d_S_keepLevel_11 ?_
      refine st_top (show u.1 5 0 = nI ((im lv X).length) from hsz) ?_
      refine st_icmp_ge hx hb (by omega) (by omega) d_S_keepLevel_14 (tgt := 96) (by decide) (fun hc14 => ?_) (fun hc14 => ?_)
      · skip
        obtain rfl : rs = [] := Classical.byContradiction (fun q => by obtain ⟨p, rs2, rfl⟩ := List.exists_cons_of_ne_nil q; have h1 := im_ln hpa; have h2 := hk1 p rs2 rfl; rw [off_cons] at h1; omega)
        have hdn9 : dn.length ≤ 13 := by rw [hpa, List.append_nil] at hlen; exact hlen
        refine lv_aload_n hx hb d_S_keepLevel_96 rfl (lv_at hl 1 rfl) ?_
        refine lv_iload_n hx hb d_S_keepLevel_97 rfl (lv_at hl 3 rfl) ?_
        refine pf_S_24 hx hb hT hown hK hP hD hS 8 rfl (Nat.le_of_ble_eq_true rfl) d_S_keepLevel_98 (fun H locs hP hD hS => ?_)
        replace hP : va_P D CC (wC tk ad (mup u.1 5 0 (nI dn.length)) u.2.1 ++ u.2.2.1) H := Eq.mp (congrArg (fun w => va_P D CC w H) (sC_8_3 tk ad u.1 u.2.1 u.2.2.1 (nI dn.length))) hP
        replace hD : va_D A (wC tk ad (mup u.1 5 0 (nI dn.length)) u.2.1 ++ u.2.2.1) := Eq.mp (congrArg (fun w => va_D A w) (sC_8_3 tk ad u.1 u.2.1 u.2.2.1 (nI dn.length))) hD
        refine lv_iconst (v := nI 1) hx hb d_S_keepLevel_101 (by decide) ?_
        refine W_up (c2 := 52) (s2 := 1950) (by omega) (by omega) ?_
        exact k_zret (v := nI 1) hQ hx hb hr hlk hK hP hD hS (mup u.1 5 0 (nI dn.length), u.2.1, u.2.2.1, u.2.2.2.1, u.2.2.2.2.1, u.2.2.2.2.2) rfl (by decide) (kl_fin hF) d_S_keepLevel_102
      · skip
        obtain ⟨pX, rs2, hrs⟩ := kl_ne hpa hk0 (by omega)
        subst hrs
        have hkX := hk1 pX rs2 rfl
        obtain ⟨x9, hx9⟩ := it_at (Y := im lv pX) hkX
        have hxX := (im_at hpa k hkX).trans hx9
        have hx8 := hol1 _ x9 (by omega) hxX
        have hpm : pX ∈ pa lv X := by rw [hpa]; simp
        have hpso := pa_so hX hpm
        have hpne := pa_ne pX hpm
        have hx48 := im_key (l := lv) hX x9 (List.mem_of_getElem? hxX)
        have hln := im_ln hpa
        rw [off_cons] at hln
        have hdl : dn.length ≤ off lv dn := off_pos (fun q hq => pa_ne q (by rw [hpa]; exact List.mem_append_left _ hq))
        have hdn13 : dn.length + 1 ≤ 13 := by rw [hpa, List.length_append, List.length_cons] at hlen; omega
        refine lv_aload_n hx hb d_S_keepLevel_17 rfl (lv_at hl 1 rfl) ?_
        refine gf_S_31 (v := .ref (ad 9)) hx hb hT hown hK hP 8 rfl rfl d_S_keepLevel_18 ?_
        refine lv_iload hx hb d_S_keepLevel_21 (lv_at hl 5 rfl) ?_
        refine st_iald hx hb hK hP 9 0 rfl rfl (by omega) (by decide) d_S_keepLevel_23 ?_
        refine st_top (show u.1 6 (off lv dn + k) = nI x9.1 from hx8.1) ?_
        refine lv_istore (lv' := [(6, .int (nI x9.1)), (0, .ref (ad 1)), (1, .ref (ad 8)), (2, .int (nI lv)), (3, .int (nI dn.length)), (4, .int (nI (off lv dn))), (5, .int (nI (off lv dn + k)))]) hx hb d_S_keepLevel_24 hl (by decide) rfl (fun ls hl => ?_)
        refine lv_iload hx hb d_S_keepLevel_26 (lv_at hl 6 rfl) ?_
        refine lv_aload_n hx hb d_S_keepLevel_28 rfl (lv_at hl 2 rfl) ?_
        refine gf_S_24 (v := .int (u.1 5 0)) hx hb hT hown hK hP 8 rfl rfl d_S_keepLevel_29 ?_
        refine st_top (show u.1 5 0 = nI ((im lv X).length) from hsz) ?_
        refine lv_iconst (v := nI 1) hx hb d_S_keepLevel_32 (by decide) ?_
        refine st_isub hx hb (by omega) d_S_keepLevel_33 ?_
        refine st_icmp_eq hx hb (by omega) (by omega) d_S_keepLevel_34 (tgt := 46) (by decide) (fun hc34 => ?_) (fun hc34 => ?_)
        · skip
          have hke := kl_last hpa hkX hc34
          refine lv_aload_n hx hb d_S_keepLevel_46 rfl (lv_at hl 1 rfl) ?_
          refine lv_aload_n hx hb d_S_keepLevel_47 rfl (lv_at hl 2 rfl) ?_
          refine lv_iload_n hx hb d_S_keepLevel_48 rfl (lv_at hl 3 rfl) ?_
          refine lv_iload hx hb d_S_keepLevel_49 (lv_at hl 5 rfl) ?_
          refine lv_iload hx hb d_S_keepLevel_51 (lv_at hl 6 rfl) ?_
          refine lv_iconst (v := nI 1) hx hb d_S_keepLevel_53 (by decide) ?_
          refine st_iadd hx hb d_S_keepLevel_54 ?_
          refine st_top (show nI ((off lv dn + k) + 1) = nI (off lv dn + (im lv pX).length) from congrArg nI (by omega)) ?_
          refine k_callq (va_runV (As := [.ref (ad 8), .int (nI lv), .int (nI (off lv dn)), .int (nI (off lv dn + (im lv pX).length))]) (rest := []) ⟨hx, hb, hml, hown, hts⟩ (c_S_keep l D tk H.size ad u.1 u.2.1 u.2.2.1 u.2.2.2.1 u.2.2.2.2.1 u.2.2.2.2.2 f2 hstu (by omega) lv pX hpso hpne (pa_atom lv pX hpm) hlv (off lv dn) (by omega) (fun q => absurd q.2 (Nat.ne_of_lt (pl_48 hX hpm hlv))) (fun j x hx => hol1 _ x (by omega) ((im_at hpa j (List.getElem?_eq_some_iff.mp hx).1).trans hx)) (rw_slice hro hpa hol2 (exS_at hex))) (cwV 4 hts (gV t_426 t_428 s_3 t_2 t_429) rfl rfl rfl (by decide +kernel) ⟨Nat.le_of_ble_eq_true rfl, Nat.le_of_ble_eq_true rfl⟩) (k_preV hP hK hD hnw 1 rfl rfl) rfl rfl hl.1 rfl (lv_room (Nat.le_of_ble_eq_true rfl)) d_S_keepLevel_55 ⟨by show _ ≤ 52; omega, by show _ ≤ 1950; omega⟩) hD hS hA (fun r55 v9 H locs hp55 hP hD hK hS => ?_)
          obtain ⟨hex2, hfr2, hrr2, hSl2, f3, hst3, hok3, hno3⟩ := kp_ok hp55 hstu (lk_lt hpso hpne) hkq
          replace hP : va_P D CC (wC tk ad v9.1 v9.2.1 ++ v9.2.2.1) H := hP
          replace hD : va_D A (wC tk ad v9.1 v9.2.1 ++ v9.2.2.1) := hD
          refine sq_astore (lv' := [(7, va_rf r55), (6, .int (nI x9.1)), (0, .ref (ad 1)), (1, .ref (ad 8)), (2, .int (nI lv)), (3, .int (nI dn.length)), (4, .int (nI (off lv dn))), (5, .int (nI (off lv dn + k)))]) hx hb d_S_keepLevel_58 hl (by decide) rfl (fun ls hl => ?_)
          refine sq_aload hx hb d_S_keepLevel_60 (lv_at hl 0 rfl) ?_
          refine sq_ifnonnull (r := r55) hx hb d_S_keepLevel_62 (tgt := 67) (by decide) (fun hc62 => ?_) (fun hc62 => ?_)
          · skip
            obtain ⟨hkq3, c9, hc9, hr9⟩ := hok3 hc62
            subst hr9
            obtain ⟨q9z, ka9z, va9z, ba9z, fk9z, fv9z, h19z, h29z, h39z, h49z, h59z⟩ := hst3.1.2 c9 lv pX hc9
            replace hl : lv_has ls 8 [(7, .ref (v9.2.2.2.2.1 c9)), (6, .int (nI x9.1)), (0, .ref (ad 1)), (1, .ref (ad 8)), (2, .int (nI lv)), (3, .int (nI dn.length)), (4, .int (nI (off lv dn))), (5, .int (nI (off lv dn + k)))] := hl
            refine lv_aload_n hx hb d_S_keepLevel_67 rfl (lv_at hl 3 rfl) ?_
            refine lv_iload_n hx hb d_S_keepLevel_68 rfl (lv_at hl 5 rfl) ?_
            refine lv_iload hx hb d_S_keepLevel_69 (lv_at hl 1 rfl) ?_
            refine lv_aload hx hb d_S_keepLevel_71 (lv_at hl 0 rfl) ?_
            refine gf_S_43 (v := .int (hs lv (im lv pX))) hx hb hT hown hK hP (q9z + 18) ((wC_tl tk ad v9.1 v9.2.1 v9.2.2.1 q9z).trans h19z) rfl d_S_keepLevel_73 ?_
            refine lv_aload hx hb d_S_keepLevel_76 (lv_at hl 0 rfl) ?_
            refine k_callv (va_runV (As := [.int (nI dn.length), .int (nI x9.1), .int (hs lv (im lv pX)), .ref (v9.2.2.2.2.1 c9)]) (rest := []) ⟨hx, hb, hml, hown, hts⟩ (c_R_set l D tk H.size ad v9.1 v9.2.1 v9.2.2.1 dn.length (by omega) (nI x9.1) (hs lv (im lv pX)) (some (v9.2.2.2.2.1 c9)) (fun v q => by obtain rfl : v9.2.2.2.2.1 c9 = v := Option.some.inj q; exact ⟨q9z, _, h19z⟩)) (cwV 4 hts (gV t_728 t_408 t_409 t_5 t_410) rfl rfl rfl (by decide +kernel) ⟨Nat.le_of_ble_eq_true rfl, Nat.le_of_ble_eq_true rfl⟩) (k_preV hP hK hD hnw 8 rfl rfl) rfl rfl hl.1 rfl (lv_room (Nat.le_of_ble_eq_true rfl)) d_S_keepLevel_78 ⟨by show _ ≤ 52; omega, by show _ ≤ 1950; omega⟩) hD hS hA (fun _ H locs hp78 hP hD hK hS => ?_)
            replace hP : va_P D CC (wC tk ad (mup (mup v9.1 6 dn.length (nI x9.1)) 7 dn.length (hs lv (im lv pX))) (rup v9.2.1 2 dn.length (some (v9.2.2.2.2.1 c9))) ++ v9.2.2.1) H := hP
            replace hD : va_D A (wC tk ad (mup (mup v9.1 6 dn.length (nI x9.1)) 7 dn.length (hs lv (im lv pX))) (rup v9.2.1 2 dn.length (some (v9.2.2.2.2.1 c9))) ++ v9.2.2.1) := hD
            refine lv_iinc (k := 5) (v := nI (dn.length + 1)) (lv' := [(3, .int (nI (dn.length + 1))), (7, .ref (v9.2.2.2.2.1 c9)), (6, .int (nI x9.1)), (0, .ref (ad 1)), (1, .ref (ad 8)), (2, .int (nI lv)), (4, .int (nI (off lv dn))), (5, .int (nI (off lv dn + k)))]) hx hb d_S_keepLevel_81 hl rfl (nI_add _ _) (by decide) rfl (fun ls hl => ?_)
            refine lv_iload hx hb d_S_keepLevel_84 (lv_at hl 7 rfl) ?_
            refine lv_iconst (v := nI 1) hx hb d_S_keepLevel_86 (by decide) ?_
            refine st_iadd hx hb d_S_keepLevel_87 ?_
            refine st_top (show nI ((off lv dn + k) + 1) = nI (off lv dn + (im lv pX).length) from congrArg nI (by omega)) ?_
            refine lv_istore (lv' := [(4, .int (nI (off lv dn + (im lv pX).length))), (3, .int (nI (dn.length + 1))), (7, .ref (v9.2.2.2.2.1 c9)), (6, .int (nI x9.1)), (0, .ref (ad 1)), (1, .ref (ad 8)), (2, .int (nI lv)), (5, .int (nI (off lv dn + k)))]) hx hb d_S_keepLevel_88 hl (by decide) rfl (fun ls hl => ?_)
            refine lv_iinc (k := 7) (v := nI (off lv dn + k + 1)) (lv' := [(5, .int (nI (off lv dn + k + 1))), (4, .int (nI (off lv dn + (im lv pX).length))), (3, .int (nI (dn.length + 1))), (7, .ref (v9.2.2.2.2.1 c9)), (6, .int (nI x9.1)), (0, .ref (ad 1)), (1, .ref (ad 8)), (2, .int (nI lv))]) hx hb d_S_keepLevel_90 hl rfl (nI_add _ _) (by decide) rfl (fun ls hl => ?_)
            refine lv_goto hx hb d_S_keepLevel_93 (tgt := 8) (by decide) ?_
            rw [show dn.length + 1 = (dn ++ [pX]).length by simp, show off lv dn + (im lv pX).length = off lv (dn ++ [pX]) from (off_snoc lv dn pX).symm, show off lv dn + k + 1 = off lv (dn ++ [pX]) from (by rw [off_snoc]; omega)] at hl
            refine W_up (c2 := 4 * (dn ++ [pX]).length) (s2 := 150 * (dn ++ [pX]).length) (by rw [List.length_append, List.length_singleton]; omega) (by rw [List.length_append, List.length_singleton]; omega) ?_
            exact ih8 (dn ++ [pX]) rs2 0 (mup (mup v9.1 6 dn.length (nI x9.1)) 7 dn.length (hs lv (im lv pX)), rup v9.2.1 2 dn.length (some (v9.2.2.2.2.1 c9)), v9.2.2.1, v9.2.2.2.1, v9.2.2.2.2.1, v9.2.2.2.2.2) f3 ls _ _ (by first | omega | (rw [off_snoc]; omega)) (kl_step hF hX hex2 hfr2 hrr2 hSl2 hst3 hkq3 hc9 (congrArg nI (kl_lk hpne hx9 hke))) (lv_sub hl [5, 6, 7, 2, 1, 0] rfl) hP hD hS
          · skip
            refine lv_iconst (v := nI 0) hx hb d_S_keepLevel_65 (by decide) ?_
            refine W_up (c2 := 52) (s2 := 1950) (by omega) (by omega) ?_
            exact k_zret (v := nI 0) hQ hx hb hr hlk hK hP hD hS v9 rfl (by decide) (kl_bad hF hex2 hfr2 hrr2 hSl2 hst3 (hno3 hc62)) d_S_keepLevel_66
        · skip
          refine lv_iload_n hx hb d_S_keepLevel_37 rfl (lv_at hl 3 rfl) ?_
          refine lv_iload hx hb d_S_keepLevel_38 (lv_at hl 0 rfl) ?_
          refine k_calli (va_runSN (As := [.int (nI lv), .int (nI x9.1)]) (rest := []) ⟨hx, hb, hml, hown, hts⟩ (c_K_endsChunk l D tk H.size lv x9.1 (wC tk ad u.1 u.2.1 ++ u.2.2.1)) ⟨(va_cnB 2 hts (gB t_421) rfl rfl rfl (hnw.1 _ _ _ _ n_419) (hT _ t_1) (by decide +kernel) ⟨Nat.le_of_ble_eq_true rfl, Nat.le_of_ble_eq_true rfl⟩), hT _ t_420, trivial⟩ (k_preS hP hK hD hnw) rfl rfl hl.1 rfl (lv_room (Nat.le_of_ble_eq_true rfl)) d_S_keepLevel_40 ⟨by show _ ≤ 52; omega, by show _ ≤ 1950; omega⟩) hD hS hA (fun _ _ H locs hp40 hP hD hK hS => ?_)
          subst hp40
          replace hP : va_P D CC (wC tk ad u.1 u.2.1 ++ u.2.2.1) H := hP
          replace hD : va_D A (wC tk ad u.1 u.2.1 ++ u.2.2.1) := hD
          refine lv_if_eq hx hb d_S_keepLevel_43 (tgt := 90) (by decide) (fun hc43 => ?_) (fun hc43 => ?_)
          · skip
            refine lv_iinc (k := 6) (v := nI (off lv dn + k + 1)) (lv' := [(5, .int (nI (off lv dn + k + 1))), (6, .int (nI x9.1)), (0, .ref (ad 1)), (1, .ref (ad 8)), (2, .int (nI lv)), (3, .int (nI dn.length)), (4, .int (nI (off lv dn)))]) hx hb d_S_keepLevel_90 hl rfl (nI_add _ _) (by decide) rfl (fun ls hl => ?_)
            refine lv_goto hx hb d_S_keepLevel_93 (tgt := 8) (by decide) ?_
            exact ih8 dn (pX :: rs2) (k + 1) u f2 ls _ _ (by first | omega | (rw [off_snoc]; omega)) (kl_skip hF (kl_mid hpa hkX hx9 hc34 (by intro q; rw [if_pos q] at hc43; exact absurd hc43 (by decide)))) (lv_sub hl [2, 3, 4, 5, 6, 0] rfl) hP hD hS
          · skip
            have hke := kl_end_ hpa hkX hx9 (Classical.byContradiction (fun q => hc43 (by rw [if_neg q])))
            refine lv_aload_n hx hb d_S_keepLevel_46 rfl (lv_at hl 1 rfl) ?_
            refine lv_aload_n hx hb d_S_keepLevel_47 rfl (lv_at hl 2 rfl) ?_
            refine lv_iload_n hx hb d_S_keepLevel_48 rfl (lv_at hl 3 rfl) ?_
            refine lv_iload hx hb d_S_keepLevel_49 (lv_at hl 5 rfl) ?_
            refine lv_iload hx hb d_S_keepLevel_51 (lv_at hl 6 rfl) ?_
            refine lv_iconst (v := nI 1) hx hb d_S_keepLevel_53 (by decide) ?_
            refine st_iadd hx hb d_S_keepLevel_54 ?_
            refine st_top (show nI ((off lv dn + k) + 1) = nI (off lv dn + (im lv pX).length) from congrArg nI (by omega)) ?_
            refine k_callq (va_runV (As := [.ref (ad 8), .int (nI lv), .int (nI (off lv dn)), .int (nI (off lv dn + (im lv pX).length))]) (rest := []) ⟨hx, hb, hml, hown, hts⟩ (c_S_keep l D tk H.size ad u.1 u.2.1 u.2.2.1 u.2.2.2.1 u.2.2.2.2.1 u.2.2.2.2.2 f2 hstu (by omega) lv pX hpso hpne (pa_atom lv pX hpm) hlv (off lv dn) (by omega) (fun q => absurd q.2 (Nat.ne_of_lt (pl_48 hX hpm hlv))) (fun j x hx => hol1 _ x (by omega) ((im_at hpa j (List.getElem?_eq_some_iff.mp hx).1).trans hx)) (rw_slice hro hpa hol2 (exS_at hex))) (cwV 4 hts (gV t_426 t_428 s_3 t_2 t_429) rfl rfl rfl (by decide +kernel) ⟨Nat.le_of_ble_eq_true rfl, Nat.le_of_ble_eq_true rfl⟩) (k_preV hP hK hD hnw 1 rfl rfl) rfl rfl hl.1 rfl (lv_room (Nat.le_of_ble_eq_true rfl)) d_S_keepLevel_55 ⟨by show _ ≤ 52; omega, by show _ ≤ 1950; omega⟩) hD hS hA (fun r55 v9 H locs hp55 hP hD hK hS => ?_)
            obtain ⟨hex2, hfr2, hrr2, hSl2, f3, hst3, hok3, hno3⟩ := kp_ok hp55 hstu (lk_lt hpso hpne) hkq
            replace hP : va_P D CC (wC tk ad v9.1 v9.2.1 ++ v9.2.2.1) H := hP
            replace hD : va_D A (wC tk ad v9.1 v9.2.1 ++ v9.2.2.1) := hD
            refine sq_astore (lv' := [(7, va_rf r55), (6, .int (nI x9.1)), (0, .ref (ad 1)), (1, .ref (ad 8)), (2, .int (nI lv)), (3, .int (nI dn.length)), (4, .int (nI (off lv dn))), (5, .int (nI (off lv dn + k)))]) hx hb d_S_keepLevel_58 hl (by decide) rfl (fun ls hl => ?_)
            refine sq_aload hx hb d_S_keepLevel_60 (lv_at hl 0 rfl) ?_
            refine sq_ifnonnull (r := r55) hx hb d_S_keepLevel_62 (tgt := 67) (by decide) (fun hc62 => ?_) (fun hc62 => ?_)
            · skip
              obtain ⟨hkq3, c9, hc9, hr9⟩ := hok3 hc62
              subst hr9
              obtain ⟨q9z, ka9z, va9z, ba9z, fk9z, fv9z, h19z, h29z, h39z, h49z, h59z⟩ := hst3.1.2 c9 lv pX hc9
              replace hl : lv_has ls 8 [(7, .ref (v9.2.2.2.2.1 c9)), (6, .int (nI x9.1)), (0, .ref (ad 1)), (1, .ref (ad 8)), (2, .int (nI lv)), (3, .int (nI dn.length)), (4, .int (nI (off lv dn))), (5, .int (nI (off lv dn + k)))] := hl
              refine lv_aload_n hx hb d_S_keepLevel_67 rfl (lv_at hl 3 rfl) ?_
              refine lv_iload_n hx hb d_S_keepLevel_68 rfl (lv_at hl 5 rfl) ?_
              refine lv_iload hx hb d_S_keepLevel_69 (lv_at hl 1 rfl) ?_
              refine lv_aload hx hb d_S_keepLevel_71 (lv_at hl 0 rfl) ?_
              refine gf_S_43 (v := .int (hs lv (im lv pX))) hx hb hT hown hK hP (q9z + 18) ((wC_tl tk ad v9.1 v9.2.1 v9.2.2.1 q9z).trans h19z) rfl d_S_keepLevel_73 ?_
              refine lv_aload hx hb d_S_keepLevel_76 (lv_at hl 0 rfl) ?_
              refine k_callv (va_runV (As := [.int (nI dn.length), .int (nI x9.1), .int (hs lv (im lv pX)), .ref (v9.2.2.2.2.1 c9)]) (rest := []) ⟨hx, hb, hml, hown, hts⟩ (c_R_set l D tk H.size ad v9.1 v9.2.1 v9.2.2.1 dn.length (by omega) (nI x9.1) (hs lv (im lv pX)) (some (v9.2.2.2.2.1 c9)) (fun v q => by obtain rfl : v9.2.2.2.2.1 c9 = v := Option.some.inj q; exact ⟨q9z, _, h19z⟩)) (cwV 4 hts (gV t_728 t_408 t_409 t_5 t_410) rfl rfl rfl (by decide +kernel) ⟨Nat.le_of_ble_eq_true rfl, Nat.le_of_ble_eq_true rfl⟩) (k_preV hP hK hD hnw 8 rfl rfl) rfl rfl hl.1 rfl (lv_room (Nat.le_of_ble_eq_true rfl)) d_S_keepLevel_78 ⟨by show _ ≤ 52; omega, by show _ ≤ 1950; omega⟩) hD hS hA (fun _ H locs hp78 hP hD hK hS => ?_)
              replace hP : va_P D CC (wC tk ad (mup (mup v9.1 6 dn.length (nI x9.1)) 7 dn.length (hs lv (im lv pX))) (rup v9.2.1 2 dn.length (some (v9.2.2.2.2.1 c9))) ++ v9.2.2.1) H := hP
              replace hD : va_D A (wC tk ad (mup (mup v9.1 6 dn.length (nI x9.1)) 7 dn.length (hs lv (im lv pX))) (rup v9.2.1 2 dn.length (some (v9.2.2.2.2.1 c9))) ++ v9.2.2.1) := hD
              refine lv_iinc (k := 5) (v := nI (dn.length + 1)) (lv' := [(3, .int (nI (dn.length + 1))), (7, .ref (v9.2.2.2.2.1 c9)), (6, .int (nI x9.1)), (0, .ref (ad 1)), (1, .ref (ad 8)), (2, .int (nI lv)), (4, .int (nI (off lv dn))), (5, .int (nI (off lv dn + k)))]) hx hb d_S_keepLevel_81 hl rfl (nI_add _ _) (by decide) rfl (fun ls hl => ?_)
              refine lv_iload hx hb d_S_keepLevel_84 (lv_at hl 7 rfl) ?_
              refine lv_iconst (v := nI 1) hx hb d_S_keepLevel_86 (by decide) ?_
              refine st_iadd hx hb d_S_keepLevel_87 ?_
              refine st_top (show nI ((off lv dn + k) + 1) = nI (off lv dn + (im lv pX).length) from congrArg nI (by omega)) ?_
              refine lv_istore (lv' := [(4, .int (nI (off lv dn + (im lv pX).length))), (3, .int (nI (dn.length + 1))), (7, .ref (v9.2.2.2.2.1 c9)), (6, .int (nI x9.1)), (0, .ref (ad 1)), (1, .ref (ad 8)), (2, .int (nI lv)), (5, .int (nI (off lv dn + k)))]) hx hb d_S_keepLevel_88 hl (by decide) rfl (fun ls hl => ?_)
              refine lv_iinc (k := 7) (v := nI (off lv dn + k + 1)) (lv' := [(5, .int (nI (off lv dn + k + 1))), (4, .int (nI (off lv dn + (im lv pX).length))), (3, .int (nI (dn.length + 1))), (7, .ref (v9.2.2.2.2.1 c9)), (6, .int (nI x9.1)), (0, .ref (ad 1)), (1, .ref (ad 8)), (2, .int (nI lv))]) hx hb d_S_keepLevel_90 hl rfl (nI_add _ _) (by decide) rfl (fun ls hl => ?_)
              refine lv_goto hx hb d_S_keepLevel_93 (tgt := 8) (by decide) ?_
              rw [show dn.length + 1 = (dn ++ [pX]).length by simp, show off lv dn + (im lv pX).length = off lv (dn ++ [pX]) from (off_snoc lv dn pX).symm, show off lv dn + k + 1 = off lv (dn ++ [pX]) from (by rw [off_snoc]; omega)] at hl
              refine W_up (c2 := 4 * (dn ++ [pX]).length) (s2 := 150 * (dn ++ [pX]).length) (by rw [List.length_append, List.length_singleton]; omega) (by rw [List.length_append, List.length_singleton]; omega) ?_
              exact ih8 (dn ++ [pX]) rs2 0 (mup (mup v9.1 6 dn.length (nI x9.1)) 7 dn.length (hs lv (im lv pX)), rup v9.2.1 2 dn.length (some (v9.2.2.2.2.1 c9)), v9.2.2.1, v9.2.2.2.1, v9.2.2.2.2.1, v9.2.2.2.2.2) f3 ls _ _ (by first | omega | (rw [off_snoc]; omega)) (kl_step hF hX hex2 hfr2 hrr2 hSl2 hst3 hkq3 hc9 (congrArg nI (kl_lk hpne hx9 hke))) (lv_sub hl [5, 6, 7, 2, 1, 0] rfl) hP hD hS
            · skip
              refine lv_iconst (v := nI 0) hx hb d_S_keepLevel_65 (by decide) ?_
              refine W_up (c2 := 52) (s2 := 1950) (by omega) (by omega) ?_
              exact k_zret (v := nI 0) hQ hx hb hr hlk hK hP hD hS v9 rfl (by decide) (kl_bad hF hex2 hfr2 hrr2 hSl2 hst3 (hno3 hc62)) d_S_keepLevel_66
  exact key8 _ ([]) (pa lv X) 0 (g, rr, tl, S, ca, bl) f ls _ _ (Nat.lt_succ_self _) (⟨rfl, fun p rs2 e => List.length_pos_iff.mpr (im_nn (pa_ne p (by rw [e]; simp))), fun _ => rfl, rfl, hstI, exS_r, frx_r, frr_r, fun j x _ hx => by have := hrw j x hx; rw [Nat.zero_add] at this; exact this, fun _ _ => rfl, fun j p hp => by simp at hp, Nat.le_refl _⟩) (lv_sub hl [3, 4, 5, 2, 1, 0] rfl) hP hD hS
