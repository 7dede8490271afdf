section JJ
variable {tk : Nat → ClassId} {tl : va_W} {gc gm gc2 gm2 : Nat → Nat → Int32} {rr rr2 : Nat → Nat → Option Nat} {la : Nat → Int64} {n : Nat} {S : List ck_I} {ca : Nat → Nat} {bl : Nat → Nat → Option Nat} {f : Nat} {fm : Nat → Nat → Option Int32} {E : List (Nat × Nat × Nat × Nat)} {mp : Nat} {Xs : Nat → List kv_I} {V : Nat} {f0 : Nat → Option Int32} {B : List Int32} {ft : Nat → Int32} {t0 : Nat}
def xup (Xs : Nat → List kv_I) (V : Nat) (X : List kv_I) : Nat → List kv_I := fun v => if v = V then X else Xs v
theorem xup_eq (X : List kv_I) : xup Xs V X V = X := by unfold xup; rw [if_pos rfl]
theorem xup_ne (X : List kv_I) {v : Nat} (h : v ≠ V) : xup Xs V X v = Xs v := by unfold xup; rw [if_neg h]
theorem JS_cm (h : JS tk tl gc rr S ca bl f gm la fm E mp) {Z cs : va_W} (hZ : nck Z) {u : KS} {w : (Nat → Nat → Int32) × (Nat → Int64) × List (Nat × Nat × Nat × Nat)} {f9 : Nat} (hcs : u.2.2.1 = (Z ++ tl) ++ cs) (hst : stI tk u.2.2.1 u.1 u.2.1 u.2.2.2.1 u.2.2.2.2.1 u.2.2.2.2.2 f9) (hS2 : u.2.2.2.1 = (kq (rq (ol f0 48)) S f).2.1) (hf9 : f9 = cmF (kq (rq (ol f0 48)) S f))
    (w1 : srM w.1 w.2.1 (fmx fm mp f0) w.2.2) (w2 : w.2.2.map (ent (fmx fm mp f0)) = (kq (rq (ol f0 48)) S f).2.1) (w3 : w.2.2.length ≤ E.length + 17) (w4 : ext mp E w.2.2) (w5 : w.1 8 0 = nI (if E.length < w.2.2.length then mp + 1 else mp)) (w6 : w.1 5 0 = nI (cmF (kq (rq (ol f0 48)) S f))) :
    JS tk (tl ++ cs) u.1 u.2.1 u.2.2.2.1 u.2.2.2.2.1 u.2.2.2.2.2 f9 w.1 w.2.1 (fmx fm mp f0) w.2.2 (if E.length < w.2.2.length then mp + 1 else mp) := by
  obtain ⟨h1, h2, h3, h4, h5, h6, h7⟩ := h
  obtain ⟨N, eN, hN⟩ := w4
  refine ⟨?_, w1, fun e he => ?_, w2.trans hS2.symm, w5, by rw [w6, hf9], ?_⟩
  · rw [hcs, List.append_assoc] at hst
    exact stI_dn hZ hst
  · rw [eN] at he
    rcases List.mem_append.mp he with q | q
    · have := h3 e q
      by_cases c1 : E.length < w.2.2.length
      · rw [if_pos c1]; omega
      · rw [if_neg c1]; exact this
    · have c1 : E.length < w.2.2.length := by
        rw [eN, List.length_append]
        have := List.length_pos_of_mem q
        omega
      rw [if_pos c1, hN e q]; omega
  · by_cases c1 : E.length < w.2.2.length
    · rw [if_pos c1]; omega
    · rw [if_neg c1]; omega
set_option maxHeartbeats 1000000 in
theorem J_commit (h : JX tk tl gc rr gm la n S ca bl f fm E mp Xs V f0 B ft t0) (hV16 : V < 16) {Z cs : va_W} (hZ : nck Z) {r rM : Int32} {u : KS} {w : (Nat → Nat → Int32) × (Nat → Int64) × List (Nat × Nat × Nat × Nat)}
    (hu : cmC tk (Z ++ tl) gc rr S ca f Xs V (ol f0 48) r u) (hcs : u.2.2.1 = (Z ++ tl) ++ cs) (hw : cmP gm fm f0 E mp f V rM w) : J tk (tl ++ cs) u.1 u.2.1 w.1 w.2.1 (n + 1) ∧ r = rM ∧ w.1 0 0 = nI 0 := by
  obtain ⟨hS, hV, hT, hB, d, a, n1, n2, n3⟩ := h
  obtain ⟨f9, k1, k2, k3, k4, k5⟩ := hu
  have hK : cmK fm f0 E f = kq (rq (ol f0 48)) S f := by unfold cmK; rw [hS.2.2.2.1]
  unfold cmP at hw
  rw [hK] at hw
  obtain ⟨w0, w1, w2, w3, w4, w5, w6, w7, w8, w9⟩ := hw
  have hf9 : f9 = cmF (kq (rq (ol f0 48)) S f) := k4
  have HS := JS_cm hS hZ hcs k1 k3 hf9 w1 w2 w3 w4 w5 w6
  have hd : E.length < w.2.2.length → 1 ≤ d := by
    intro c1
    refine Nat.pos_of_ne_zero (fun d0 => ?_)
    have e1 : ol f0 48 = Xs (V - 1) := by
      rw [ol_ext 48 (n1 d0)]
      exact ol_gt (hV.2.2.1 (V - 1) (by have := hV.1.1; omega)).1
    have e2 : kq (rq (ol f0 48)) S f = (true, S, f) := kq_id _ _ _ (by rw [e1]; exact hV.2.2.2.1 (V - 1) (by have := hV.1.1; omega))
    rw [e2] at w2
    have e3 := congrArg List.length w2
    have e4 := congrArg List.length hS.2.2.2.1
    rw [List.length_map] at e3 e4
    have e5 : w.2.2.length = S.length := e3
    omega
  have hmp : 3 * (if E.length < w.2.2.length then mp + 1 else mp) ≤ 3 * mp + 2 + d := by
    by_cases c1 : E.length < w.2.2.length
    · rw [if_pos c1]; have := hd c1; omega
    · rw [if_neg c1]; omega
  have hle : f9 ≤ f := by rw [hf9]; exact cf_le _ (kq_le _ _ _)
  obtain ⟨T, hT2⟩ := kq_sub (rq (ol f0 48)) S f
  have hsub : ∀ c ∈ S, c ∈ u.2.2.2.1 := fun c hc => by rw [k3, hT2]; exact List.mem_append_left _ hc
  obtain ⟨⟨v1, v2⟩, ⟨v3, v4⟩, v5, v6, v7, v8⟩ := hV
  rcases k5 with ⟨a1, a2, a3, a4, a5, a6, a7⟩ | ⟨b1, b2, b3, b4, b5, b6, b7⟩
  · obtain ⟨c1, c2, c3, c4, c5⟩ := w7 ⟨a1, a2⟩
    refine ⟨JX.j (Xs := xup Xs V (ol f0 48)) (V := V + 1) (f0 := f0) (B := B) (ft := ft) (t0 := t0) ⟨HS, ?_, ?_, ?_, ?_⟩, a3.trans c1.symm, w0⟩
    · refine ⟨⟨by omega, by omega⟩, ⟨a4, c2⟩, fun v hv => ?_, fun v hv c hc => ?_, fun j hj => ?_, fun j hj k hk => ?_⟩
      · by_cases e : v = V
        · subst e; rw [xup_eq]; exact ⟨ol_is _, a6⟩
        · rw [xup_ne _ e, a5 v (by omega)]
          exact ⟨(v5 v (by omega)).1, tOf_ex k2 (v5 v (by omega)).2⟩
      · by_cases e : v = V
        · subst e; rw [xup_eq] at hc; rw [k3]; exact kq_mem _ _ _ a1 c hc
        · rw [xup_ne _ e] at hc; exact hsub c (v6 v (by omega) c hc)
      · rw [c3]
        unfold upd
        by_cases e : j = V
        · rw [if_pos e, e, xup_eq]
        · rw [if_neg e, xup_ne _ e]; exact v7 j (by omega)
      · rw [c4, c5, cp_at (Or.inl rfl), cp_at (Or.inr rfl)]
        by_cases e : j = V
        · rw [if_pos (by omega), if_pos (by omega), e, xup_eq, gt_ol hk, show 48 * 16 + (48 * V + k - 48 * V) = 768 + k by omega]
          exact hT.2.2 k hk
        · rw [if_neg (by omega), if_neg (by omega), xup_ne _ e]; exact v8 j (by omega) k hk
    · obtain ⟨⟨b1, b2⟩, h3, h4⟩ := hT
      refine ⟨⟨by rw [a7 3 (by decide)]; exact b1, by rw [c4]; exact bz_cp b2⟩, by rw [a7 3 (by decide), a7 4 (by decide)]; exact h3, fun k hk => ?_⟩
      rw [c4, c5, cp_at (Or.inl rfl), cp_at (Or.inr rfl), if_neg (by omega), if_neg (by omega)]
      exact h4 k hk
    · exact JB_cg hB (a7 _ (by decide)) (a7 _ (by decide)) (a7 _ (by decide)) (a7 _ (by decide)) (a7 _ (by decide)) (w9 _ (by decide)) (w9 _ (by decide)) (w9 _ (by decide)) (w9 _ (by decide)) (w9 _ (by decide))
    · refine ⟨0, a, fun _ k hk => ?_, fun q => ?_, ?_⟩
      · rw [show V + 1 - 1 = V by omega, xup_eq, gt_ol hk]
      · have := n2 q; omega
      · omega
  · obtain ⟨c1, c2, c3, c4, c5⟩ := w8 b1
    obtain ⟨q1, q2⟩ := cf_no b1
    have ha : 1 ≤ a := Nat.pos_of_ne_zero (fun a0 => by have := n2 a0; omega)
    refine ⟨JX.j (Xs := Xs) (V := V) (f0 := gt_ (Xs (V - 1))) (B := B) (ft := ft) (t0 := t0) ⟨HS, ?_, JT_ld ⟨⟨v1, v2⟩, ⟨v3, v4⟩, v5, v6, v7, v8⟩ hT b6 b7 c4 c5, ?_, ?_⟩, b2.trans c1.symm, w0⟩
    · refine ⟨⟨v1, v2⟩, ⟨b3, by rw [c2]; exact v4⟩, fun v hv => ⟨(v5 v hv).1, by rw [b4]; exact tOf_ex k2 (v5 v hv).2⟩, fun v hv c hc => hsub c (v6 v hv c hc), by rw [c3]; exact v7, fun j hj k hk => ?_⟩
      rw [c4, c5, cp_at (Or.inl rfl), cp_at (Or.inr rfl), if_neg (by omega), if_neg (by omega)]
      exact v8 j hj k hk
    · exact JB_cg hB (b5 _ (by decide)) (b5 _ (by decide)) (b5 _ (by decide)) (b5 _ (by decide)) (b5 _ (by decide)) (w9 _ (by decide)) (w9 _ (by decide)) (w9 _ (by decide)) (w9 _ (by decide)) (w9 _ (by decide))
    · exact ⟨0, 0, fun _ k _ => rfl, fun _ => by omega, by omega⟩
/-- new bytes of a proof on both sides -/
theorem J_bytes (h : JX tk tl gc rr gm la n S ca bl f fm E mp Xs V f0 B ft t0) {B2 : List Int32} {L : List Nat} (hc : frx [8, 9] gc gc2) (hm : frx L gm gm2) (hL : ∀ x ∈ [1, 2, 3, 4, 5, 6, 7, 8, 10, 23, 24, 28], x ∉ L) (h1 : prfC gc2 B2) (h2 : prf gm2 B2) (h3 : B2.length ≤ 400) (h4 : byB B2) : J tk tl gc2 rr gm2 la (n + 1) := by
  obtain ⟨hS, hV, hT, hB, hN⟩ := h
  have M : ∀ x ∈ [1, 2, 3, 4, 5, 6, 7, 8, 10, 23, 24, 28], gm2 x = gm x := fun x hx => hm x (hL x hx)
  refine JX.j (B := B2) (ft := ft) (t0 := t0) ⟨JS_cg hS (hc _ (by decide)) (hc _ (by decide)) (M 5 (by decide)) (M 6 (by decide)) (M 7 (by decide)) (M 8 (by decide)) (M 10 (by decide)), JV_cg hV (hc _ (by decide)) (M 3 (by decide)) (M 4 (by decide)) (fun i _ => ⟨by rw [M 1 (by decide)], by rw [M 2 (by decide)]⟩), JT_cg hT (hc _ (by decide)) (hc _ (by decide)) (M 1 (by decide)) (M 2 (by decide)), ?_, JN_up hN⟩
  obtain ⟨-, ⟨b2, b3⟩, b4⟩ := hB
  refine ⟨⟨h1, h2, h3, h4⟩, ⟨b2, ?_⟩, by rw [M 28 (by decide), hc 10 (by decide)]; exact b4⟩
  unfold tkR at *
  rw [hc 20 (by decide), hc 21 (by decide), M 23 (by decide), M 24 (by decide)]
  exact b3
/-- new bytes at the verifier, on both sides -/
theorem J_taken (h : JX tk tl gc rr gm la n S ca bl f fm E mp Xs V f0 B ft t0) {L M : List Nat} (hc : frx L gc gc2) (hL : ∀ x ∈ [0, 1, 2, 3, 4, 8, 9], x ∉ L) (hm : frx M gm gm2) (hM : ∀ x ∈ [1, 2, 3, 4, 5, 6, 7, 8, 10, 21, 22], x ∉ M) {ft2 : Nat → Int32} {t2 : Nat} (ht : t2 ≤ 400) (hk : tkR gc2 gm2 ft2 t2) (h28 : gm2 28 0 = gc2 10 0) : J tk tl gc2 rr gm2 la (n + 1) := by
  obtain ⟨hS, hV, hT, hB, hN⟩ := h
  have C : ∀ x ∈ [0, 1, 2, 3, 4, 8, 9], gc2 x = gc x := fun x hx => hc x (hL x hx)
  have M : ∀ x ∈ [1, 2, 3, 4, 5, 6, 7, 8, 10, 21, 22], gm2 x = gm x := fun x hx => hm x (hM x hx)
  refine JX.j (B := B) (ft := ft2) (t0 := t2) ⟨JS_cg hS (C 0 (by decide)) (C 1 (by decide)) (M 5 (by decide)) (M 6 (by decide)) (M 7 (by decide)) (M 8 (by decide)) (M 10 (by decide)), JV_cg hV (C 2 (by decide)) (M 3 (by decide)) (M 4 (by decide)) (fun i _ => ⟨by rw [M 1 (by decide)], by rw [M 2 (by decide)]⟩), JT_cg hT (C 3 (by decide)) (C 4 (by decide)) (M 1 (by decide)) (M 2 (by decide)), ?_, JN_up hN⟩
  obtain ⟨⟨b1, b2, b3, b4⟩, -, -⟩ := hB
  refine ⟨⟨?_, ?_, b3, b4⟩, ⟨ht, hk⟩, h28⟩
  · unfold prfC at *; rw [C 8 (by decide), C 9 (by decide)]; exact b1
  · unfold prf at *; rw [M 21 (by decide), M 22 (by decide)]; exact b2
theorem frx_apC : ∀ (k : Nat) (g : Nat → Nat → Int32) (m : Nat) (w : Int32), frx [20, 21] g (apC 20 21 g m w k) := by
  intro k
  induction k with
  | zero => intro g m w; exact frx_r
  | succ k ih =>
    intro g m w x hx
    rw [apC, ih _ _ _ x hx]
    simp only [List.mem_cons, List.not_mem_nil, or_false, not_or] at hx
    rw [mup_ne hx.1, mup_ne hx.2]
theorem frx_tkF : ∀ (k : Nat) (g : Nat → Nat → Int32) (m : Nat) (w : Int32), frx [23, 24] g (tkF g m w k) := by
  intro k
  induction k with
  | zero => intro g m w; exact frx_r
  | succ k ih =>
    intro g m w x hx
    rw [tkF, ih _ _ _ x hx]
    simp only [List.mem_cons, List.not_mem_nil, or_false, not_or] at hx
    rw [mup_ne hx.1, mup_ne hx.2]
theorem J_take (h : JX tk tl gc rr gm la n S ca bl f fm E mp Xs V f0 B ft t0) {k : Nat} (hk : k ≤ 4) (h4 : t0 + k ≤ 400) (w : Int32) : J tk tl (apC 20 21 gc t0 w k) rr (tkF (mup gm 0 0 (nI 0)) t0 w k) la (n + 1) := by
  have hB := h.2.2.2.1
  obtain ⟨f2, hf2⟩ := tk_all w k gc (mup gm 0 0 (nI 0)) ft t0 hk (by
    have := hB.2.1.2
    unfold tkR at *
    exact this)
  refine J_taken h (L := [20, 21]) (M := [0, 23, 24]) (frx_apC _ _ _ _) (by decide) (frx_t frx_m (frx_tkF _ _ _ _) (fun x hx => by
    simp only [List.mem_cons, List.not_mem_nil, or_false, not_or] at hx ⊢
    exact ⟨hx.1, hx.2.1, hx.2.2⟩)) (by decide) h4 hf2 ?_
  rw [frx_tkF _ _ _ _ 28 (by decide), frx_apC _ _ _ _ 10 (by decide)]
  exact hB.2.2
theorem J_carry (h : JX tk tl gc rr gm la n S ca bl f fm E mp Xs V f0 B ft t0) {i msk : Int32} (hu : cyP B.length i msk gc gc2) : J tk tl gc2 rr (mup (cyF (mup gm 0 0 (nI 0)) i msk B.length) 23 0 (nI B.length)) la (n + 1) := by
  obtain ⟨u1, u2, u3⟩ := hu
  obtain ⟨⟨b1, b2, b3, b4⟩, -, b6⟩ := h.2.2.2.1
  have hx : ∀ j, j < B.length → gc 9 j = gm 22 j ∧ ∃ c : Nat, c < 256 ∧ gc 9 j = nI c := by
    intro j hj
    have e1 := List.getElem?_eq_getElem hj
    rw [b1.2 j _ e1, b2.2 j _ e1]
    exact ⟨rfl, b4 _ (List.getElem_mem hj)⟩
  refine J_taken h (L := [20, 21]) (M := [0, 23, 24]) u1 (by decide) (gm2 := mup (cyF (mup gm 0 0 (nI 0)) i msk B.length) 23 0 (nI B.length)) (fun x hx => ?_) (by decide) (ft2 := gc2 21) (t2 := B.length) b3 ⟨u2, rfl, rd_eq, fun j hj => ?_, fun j hj => ?_⟩ ?_
  · simp only [List.mem_cons, List.not_mem_nil, or_false, not_or] at hx
    rw [mup_ne hx.2.1]
    unfold cyF
    rw [if_neg hx.2.2, mup_ne hx.1]
  · rw [u3 j hj, mup_ne (by decide)]
    unfold cyF
    rw [if_pos rfl]
    show (if j < B.length then _ else _) = _
    rw [if_pos hj]
    show (if nI j = i then mup gm 0 0 (nI 0) 22 j ^^^ (msk &&& nI 255) else mup gm 0 0 (nI 0) 22 j) = _
    rw [mup_ne (by decide), (hx j hj).1]
  · rw [u3 j hj]
    obtain ⟨e, c, hc, hc2⟩ := hx j hj
    by_cases q : nI j = i
    · rw [if_pos q, hc2]; exact xor255 hc msk
    · rw [if_neg q]; exact ⟨c, hc, hc2⟩
  · rw [u1 10 (by decide), mup_ne (by decide)]
    exact b6
theorem nI_any (x : Int32) : ∃ k : Nat, x = nI k := ⟨x.toUInt32.toNat, by
  unfold nI
  apply Int32.toBitVec_inj.mp
  simp⟩
theorem J_vG (h : JX tk tl gc rr gm la n S ca bl f fm E mp Xs V f0 B ft t0) (hu : frx [11, 18, 19, 20] gc gc2 ∧ gc2 20 0 = nI 0) (hm : frx [0, 17, 18, 19, 20, 23, 25, 26, 27] gm gm2) (h23 : gm2 23 0 = nI 0) : J tk tl gc2 rr gm2 la (n + 1) := by
  refine J_taken h hu.1 (by decide) hm (by decide) (ft2 := gc2 21) (t2 := 0) (by decide) ⟨hu.2, rfl, h23, fun i hi => absurd hi (Nat.not_lt_zero _), fun i hi => absurd hi (Nat.not_lt_zero _)⟩ ?_
  rw [hm 28 (by decide), hu.1 10 (by decide)]
  exact h.2.2.2.1.2.2
theorem J_vf (h : JX tk tl gc rr gm la n S ca bl f fm E mp Xs V f0 B ft t0) (hu : frx [10, 11, 12, 13, 14, 15, 16, 17, 20] gc gc2 ∧ gc2 20 0 = nI 0) (hm : frx [0, 17, 18, 19, 20, 23, 25, 26, 27, 28, 29, 30, 31] gm gm2) (h23 : gm2 23 0 = nI 0) (h28 : gm2 28 0 = gc2 10 0) : J tk tl gc2 rr gm2 la (n + 1) :=
  J_taken h hu.1 (by decide) hm (by decide) (ft2 := gc2 21) (t2 := 0) (by decide) ⟨hu.2, rfl, h23, fun i hi => absurd hi (Nat.not_lt_zero _), fun i hi => absurd hi (Nat.not_lt_zero _)⟩ h28
end JJ
