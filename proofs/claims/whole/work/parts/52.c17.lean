/-- a commit's tree under way: levels below lv are kept -/
def ktF (tk : Nat → ClassId) (tl : va_W) (g : Nat → Nat → Int32) (rr : Nat → Nat → Option Nat) (S : List ck_I) (ca : Nat → Nat) (f : Nat) (X : List kv_I) (m lv : Nat) (u : KS) (f2 : Nat) : Prop :=
  (lv ≤ hg X ∧ m ≤ 1 ∧ (m = 1 → lv < hg X) ∧ (m = 0 → lv = hg X)) ∧ kq (Dl X lv) S f = (true, u.2.2.2.1, f2) ∧ stI tk u.2.2.1 u.1 u.2.1 u.2.2.2.1 u.2.2.2.2.1 u.2.2.2.2.2 f2 ∧ exS tl S ca u.2.2.1 u.2.2.2.1 u.2.2.2.2.1 ∧ frx [0, 1, 5, 6, 7] g u.1 ∧ frr [0, 2] rr u.2.1 ∧ rwI u.1 0 (im lv X) ∧ u.1 5 0 = nI (im lv X).length ∧ rw_ok u.2.2.2.1 u.2.2.2.2.1 lv X (u.2.1 2) ∧ u.2.2.2.1.length ≤ S.length + (Dl X lv).length
theorem hg_stop {X : List kv_I} (h : so X) {l : Nat} (hl : l < hg X) (h1 : (pa l X).length ≤ 1) : hg X = l + 1 := by
  have hX : X ≠ [] := by
    rintro rfl
    rw [hg_nil rfl] at hl
    omega
  have h2 : (pa l X).length ≠ 0 := by
    intro q
    exact hX (pa_nil.mp (List.length_eq_zero_iff.mp q))
  rcases Nat.lt_or_ge (l + 1) (hg X) with q | q
  · exact absurd (show (pa l X).length = 1 by omega) (hg_more h q)
  · omega
theorem hg_go {X : List kv_I} (h : so X) {l : Nat} (hl : l < hg X) (h1 : 1 < (pa l X).length) : l + 1 < hg X := by
  have hX : X ≠ [] := by
    rintro rfl
    rw [hg_nil rfl] at hl
    omega
  obtain ⟨k, e1, e2⟩ := hg_top h hX
  rcases Nat.lt_or_ge (l + 1) (hg X) with q | q
  · exact q
  · have : k = l := by omega
    subst this
    rw [e2] at h1
    simp at h1
theorem pa_13 {X : List kv_I} (h : so X) (hX : X ≠ []) {l : Nat} (hl : l ≤ 2) : (pa l X).length ≤ 13 := by
  have h0 : l = 0 ∨ l = 1 ∨ l = 2 := by omega
  rcases h0 with rfl | rfl | rfl
  · exact pa_c0 h
  · have := pa_c1 h; omega
  · rw [pa_c2 h hX]; simp
theorem Dl_17 {X : List kv_I} (h : so X) {l : Nat} (hl : l ≤ hg X) : (Dl X l).length ≤ 17 := by
  obtain ⟨r, e⟩ := Dl_pre X (hg X - l) l
  rw [show l + (hg X - l) = hg X by omega] at e
  have h1 := rq_len h
  rw [show rq X = Dl X (hg X) from rfl, e, List.length_append] at h1
  omega
theorem kt_step {tk : Nat → ClassId} {tl : va_W} {g : Nat → Nat → Int32} {rr : Nat → Nat → Option Nat} {S : List ck_I} {ca : Nat → Nat} {f : Nat} {X : List kv_I} {lv m m2 : Nat} {u v : KS} {f2 : Nat} {r : Int32} (hX : so X) (h : ktF tk tl g rr S ca f X m lv u f2) (hk : klP tk u.2.2.1 u.1 u.2.1 u.2.2.2.1 u.2.2.2.2.1 f2 lv X r v) (hr : ¬ r = 0) (hm : m = 1) (hm2 : (m2 = 1 ∧ 1 < (im (lv + 1) X).length) ∨ (m2 = 0 ∧ (im (lv + 1) X).length ≤ 1)) : ∃ f3, ktF tk tl g rr S ca f X m2 (lv + 1) v f3 := by
  obtain ⟨⟨a1, a2, a3, a4⟩, a5, a6, a7, a8, a9, a10, a11, a12, a13⟩ := h
  obtain ⟨f3, b1, b2, b3, b4, b5, b6⟩ := hk
  obtain ⟨_, b7, b8, b9, b10⟩ := b6.resolve_right (fun q => hr q.1)
  have hlv := a3 hm
  rw [im_succ, List.length_map] at hm2
  refine ⟨f3, ⟨by omega, by omega, ?_, ?_⟩, ?_, b1, exS_t a7 b2, frx_t a8 b3 (fun x h9 => ⟨h9, h9⟩), fun x h9 => (b4 x h9).trans (a9 x h9), b8, b9, b10, ?_⟩
  · intro q
    rcases hm2 with z | z
    · exact hg_go hX hlv z.2
    · omega
  · intro q
    rcases hm2 with z | z
    · omega
    · exact (hg_stop hX hlv z.2).symm
  · rw [Dl_s, kq_app, a5, if_pos rfl]; exact b7
  · rw [Dl_s, List.length_append, List.length_map]; omega
/-- what keeping a tree does -/
def ktP (tk : Nat → ClassId) (tl : va_W) (g : Nat → Nat → Int32) (rr : Nat → Nat → Option Nat) (S : List ck_I) (ca : Nat → Nat) (f : Nat) (X : List kv_I) (r : Int32) (u : KS) : Prop :=
  ∃ f2, stI tk u.2.2.1 u.1 u.2.1 u.2.2.2.1 u.2.2.2.2.1 u.2.2.2.2.2 f2 ∧ exS tl S ca u.2.2.1 u.2.2.2.1 u.2.2.2.2.1 ∧ frx [0, 1, 5, 6, 7] g u.1 ∧ frr [0, 2] rr u.2.1 ∧
  ((r = nI 1 ∧ kq (rq X) S f = (true, u.2.2.2.1, f2) ∧ ∃ n, n ≤ 48 ∧ u.1 5 0 = nI n ∧ tOf u.2.2.2.1 u.2.2.2.2.1 X (if n = 0 then none else u.2.1 2 0)) ∨ (r = nI 0 ∧ kq (rq X) S f = (false, u.2.2.2.1, f2)))
theorem kt_end {tk : Nat → ClassId} {tl : va_W} {g : Nat → Nat → Int32} {rr : Nat → Nat → Option Nat} {S : List ck_I} {ca : Nat → Nat} {f : Nat} {X : List kv_I} {lv : Nat} {u : KS} {f2 : Nat} (hX : so X) (h : ktF tk tl g rr S ca f X 0 lv u f2) : ktP tk tl g rr S ca f X (nI 1) u := by
  obtain ⟨⟨a1, a2, a3, a4⟩, a5, a6, a7, a8, a9, a10, a11, a12, a13⟩ := h
  have e := a4 rfl
  subst e
  refine ⟨f2, a6, a7, a8, a9, Or.inl ⟨rfl, a5, (im (hg X) X).length, im_l48 hX, a11, ?_⟩⟩
  by_cases hn : X = []
  · left
    refine ⟨hn, ?_⟩
    rw [if_pos]
    rw [hg_nil hn, hn]; rfl
  · right
    obtain ⟨k, e1, e2⟩ := hg_top hX hn
    rw [e1] at a12 ⊢
    have e3 : (im (k + 1) X).length = 1 := by rw [im_succ, List.length_map, e2]; rfl
    rw [if_neg (by omega)]
    obtain ⟨d, hd, e4⟩ := a12.2 k rfl 0 X (by rw [e2]; rfl)
    exact ⟨d, k, e4, hd, rfl⟩
theorem kt_bad {tk : Nat → ClassId} {tl : va_W} {g : Nat → Nat → Int32} {rr : Nat → Nat → Option Nat} {S : List ck_I} {ca : Nat → Nat} {f : Nat} {X : List kv_I} {lv m : Nat} {u v : KS} {f2 : Nat} {r : Int32} (h : ktF tk tl g rr S ca f X m lv u f2) (hk : klP tk u.2.2.1 u.1 u.2.1 u.2.2.2.1 u.2.2.2.2.1 f2 lv X r v) (hr : r = 0) (hm : m = 1) : ktP tk tl g rr S ca f X (nI 0) v := by
  obtain ⟨⟨a1, a2, a3, a4⟩, a5, a6, a7, a8, a9, a10, a11, a12, a13⟩ := h
  obtain ⟨f3, b1, b2, b3, b4, b5, b6⟩ := hk
  obtain ⟨_, b7⟩ := b6.resolve_left (fun q => by rw [q.1] at hr; exact absurd hr (by decide))
  refine ⟨f3, b1, exS_t a7 b2, frx_t a8 b3 (fun x h9 => ⟨h9, h9⟩), fun x h9 => (b4 x h9).trans (a9 x h9), Or.inr ⟨rfl, ?_⟩⟩
  obtain ⟨R, e⟩ := rq_split (a3 hm)
  rw [e, kq_app, a5, if_pos rfl]
  exact b7 R

set_option maxHeartbeats 4000000 in
set_option maxRecDepth 100000 in
theorem c_S_keepTree (l : Launch) (D : va_G) (tk : Nat → ClassId) (sz : Nat) (ad : Nat → Nat) (g : Nat → Nat → Int32) (rr : Nat → Nat → Option Nat) (tl : va_W) (S : List ck_I) (ca : Nat → Nat) (bl : Nat → Nat → Option Nat) (f : Nat) (hstI : stI tk tl g rr S ca bl f) (X : List kv_I) (hX : so X) (hSl : S.length + 40 < 8704) (hrw : rwI g 0 X) (hg5 : g 5 0 = nI X.length) (hro : ∀ j, j < X.length → rr 2 j = none) : Met l y_S_keepTree w_S_keepTree ({ frames := 6, cells := 156, slots := 5850, locals := 187 }) (va_Pc [.ref (ad 1), .ref (ad 8)] (k_pre D (TY tk) sz (wC tk ad g rr ++ tl))) (va_Qi (fun (r : Int32) (u : KS) => ktP tk tl g rr S ca f X r u) (fun u t => k_at D (TY tk) (va_A (wC tk ad g rr ++ tl) sz) ((fun (u : KS) => (wC tk ad u.1 u.2.1 ++ u.2.2.1 : va_W)) u) t) (va_A (wC tk ad g rr ++ tl) sz)) 156 5850 (va_A (wC tk ad g rr ++ tl) sz) := by
  refine k_ofW (l := l) (rm := ({ frames := 6, cells := 156, slots := 5850, locals := 187 } : Room)) (mc := 156) (ms := 5850) (av := [.ref (ad 1), .ref (ad 8)]) (y := y_S_keepTree) (cc := prog_7_method_2_code) (maxL := 4) (ret := (some .boolean)) (ws := wC tk ad g rr ++ tl) (sz := sz) (D := D) (tys := TY tk) (fun A => va_Qi (fun (r : Int32) (u : KS) => ktP tk tl g rr S ca f X r u) (fun u t => k_at D (TY tk) A ((fun (u : KS) => (wC tk ad u.1 u.2.1 ++ u.2.2.1 : va_W)) u) t) A) (by decide) (Nat.le_of_ble_eq_true rfl) ?_
  intro p e s m args below meth c Q A ls hQ hx hb hr hlk hin hts hT hown hml hnw hP hK hD hA hsz hl
  have hS : va_S A s.heap s.heap [] := va_S.rf
  have hc0 : 0 + 0 ≤ 156 ∧ 0 + 0 ≤ 5850 := ⟨by decide, by decide⟩
  replace hl : lv_has ls 4 [(0, .ref (ad 1)), (1, .ref (ad 8))] := hl
  replace hP : va_P D CC (wC tk ad g rr ++ tl) s.heap := hP
  replace hK : va_K D CC (TY tk) s := hK
  have hX48 := so_len hX
  refine lv_aload_n hx hb d_S_keepTree_0 rfl (lv_at hl 1 rfl) ?_
  refine gf_S_24 (v := .int (g 5 0)) hx hb hT hown hK hP 8 rfl rfl d_S_keepTree_1 ?_
  refine st_top (show g 5 0 = nI X.length from hg5) ?_
  refine st_if_le hx hb (by omega) d_S_keepTree_4 (tgt := 11) (by decide) (fun hc4 => ?_) (fun hc4 => ?_)
  · skip
    refine lv_iconst (v := nI 0) hx hb d_S_keepTree_11 (by decide) ?_
    refine lv_istore_n (lv' := [(2, .int (nI 0)), (0, .ref (ad 1)), (1, .ref (ad 8))]) hx hb d_S_keepTree_12 rfl hl (by decide) rfl (fun ls hl => ?_)
    refine lv_iconst (v := nI 0) hx hb d_S_keepTree_13 (by decide) ?_
    refine lv_istore_n (lv' := [(3, .int (nI 0)), (2, .int (nI 0)), (0, .ref (ad 1)), (1, .ref (ad 8))]) hx hb d_S_keepTree_14 rfl hl (by decide) rfl (fun ls hl => ?_)
    have hgz : hg X = 0 := hg_nil (List.length_eq_zero_iff.mp hc4)
    have key15 : ∀ (n15 : Nat) (m9 : Nat) (lv : Nat) (u : KS) (f2 : Nat) (ls : Array Slot) (H : Heap) (locs : List Loc), hg X - lv < n15 → (ktF tk tl g rr S ca f X m9 lv u f2) → lv_has ls 4 [(0, .ref (ad 1)), (1, .ref (ad 8)), (2, .int (nI m9)), (3, .int (nI lv))] → va_P D CC (wC tk ad u.1 u.2.1 ++ u.2.2.1) H → va_D A (wC tk ad u.1 u.2.1 ++ u.2.2.1) → va_S A s.heap H locs → W p l e ({ frames := 6, cells := 156, slots := 5850, locals := 187 } : Room) s m args below meth c H locs (52 * lv) (1950 * lv) Q (F0 m 15 ls []) := by
      intro n15
      induction n15 with
      | zero => intro m9 lv u f2 ls H locs hn; exact absurd hn (Nat.not_lt_zero _)
      | succ n15 ih15 =>
        intro m9 lv u f2 ls H locs hn15 hF hl hP hD hS
        obtain ⟨⟨hlv1, hm1, hm2, hm3⟩, hkq, hstu, hex, hfr, hrr, hrw9, hsz9, hro9, hSl9⟩ := id hF
        have hg3 := hg_le X
        have hD17 := Dl_17 hX hlv1
        refine lv_iload_n hx hb d_S_keepTree_15 rfl (lv_at hl 2 rfl) ?_
        refine st_if_eq hx hb (by omega) d_S_keepTree_16 (tgt := 56) (by decide) (fun hc16 => ?_) (fun hc16 => ?_)
        · skip
          refine lv_iconst (v := nI 1) hx hb d_S_keepTree_56 (by decide) ?_
          refine W_up (c2 := 156) (s2 := 5850) (by omega) (by omega) ?_
          exact k_zret (v := nI 1) hQ hx hb hr hlk hK hP hD hS u rfl (by decide) (kt_end hX (show ktF tk tl g rr S ca f X 0 lv u f2 from (show m9 = 0 by omega) ▸ hF)) d_S_keepTree_57
        · skip
          refine lv_iload_n hx hb d_S_keepTree_19 rfl (lv_at hl 3 rfl) ?_
          refine lv_bipush (v := nI 6) hx hb d_S_keepTree_20 (by decide) ?_
          refine st_icmp_ge hx hb (by omega) (by omega) d_S_keepTree_22 (tgt := 56) (by decide) (fun hc22 => ?_) (fun hc22 => ?_)
          · skip
            refine lv_iconst (v := nI 1) hx hb d_S_keepTree_56 (by decide) ?_
            refine W_up (c2 := 156) (s2 := 5850) (by omega) (by omega) ?_
            exact k_zret (v := nI 1) hQ hx hb hr hlk hK hP hD hS u rfl (by decide) (kt_end hX (show ktF tk tl g rr S ca f X 0 lv u f2 from (show m9 = 0 by omega) ▸ hF)) d_S_keepTree_57
          · skip
            have hmm : m9 = 1 := by omega
            have hlv9 := hm2 hmm
            have hXn : X ≠ [] := by rintro rfl; rw [hg_nil rfl] at hlv9; omega
            refine lv_aload_n hx hb d_S_keepTree_25 rfl (lv_at hl 0 rfl) ?_
            refine lv_aload_n hx hb d_S_keepTree_26 rfl (lv_at hl 1 rfl) ?_
            refine lv_iload_n hx hb d_S_keepTree_27 rfl (lv_at hl 3 rfl) ?_
            refine k_calli (va_runV (As := [.ref (ad 8), .int (nI lv)]) (rest := []) ⟨hx, hb, hml, hown, hts⟩ (c_S_keepLevel l D tk H.size ad u.1 u.2.1 u.2.2.1 u.2.2.2.1 u.2.2.2.2.1 u.2.2.2.2.2 f2 hstu lv (by omega) X hX (pa_13 hX hXn (by omega)) (by omega) hrw9 hsz9 hro9) (cwV 2 hts (gV t_415 t_417 s_2 t_2 t_418) rfl rfl rfl (by decide +kernel) ⟨Nat.le_of_ble_eq_true rfl, Nat.le_of_ble_eq_true rfl⟩) (k_preV hP hK hD hnw 1 rfl rfl) rfl rfl hl.1 rfl (lv_room (Nat.le_of_ble_eq_true rfl)) d_S_keepTree_28 ⟨by show _ ≤ 156; omega, by show _ ≤ 5850; omega⟩) hD hS hA (fun r28 v9 H locs hkl hP hD hK hS => ?_)
            replace hP : va_P D CC (wC tk ad v9.1 v9.2.1 ++ v9.2.2.1) H := hP
            replace hD : va_D A (wC tk ad v9.1 v9.2.1 ++ v9.2.2.1) := hD
            refine lv_if_ne hx hb d_S_keepTree_31 (tgt := 36) (by decide) (fun hc31 => ?_) (fun hc31 => ?_)
            · skip
              have hsz3 : v9.1 5 0 = nI (im (lv + 1) X).length := by obtain ⟨_, _, _, _, _, _, h8⟩ := hkl; exact (h8.resolve_right (fun q => hc31 q.1)).2.2.2.1
              have hl48 := im_l48 (l := lv + 1) hX
              refine lv_aload_n hx hb d_S_keepTree_36 rfl (lv_at hl 1 rfl) ?_
              refine gf_S_24 (v := .int (v9.1 5 0)) hx hb hT hown hK hP 8 rfl rfl d_S_keepTree_37 ?_
              refine st_top (show v9.1 5 0 = nI ((im (lv + 1) X).length) from hsz3) ?_
              refine lv_iconst (v := nI 1) hx hb d_S_keepTree_40 (by decide) ?_
              refine st_icmp_le hx hb (by omega) (by omega) d_S_keepTree_41 (tgt := 48) (by decide) (fun hc41 => ?_) (fun hc41 => ?_)
              · skip
                refine lv_iconst (v := nI 0) hx hb d_S_keepTree_48 (by decide) ?_
                refine lv_istore_n (lv' := [(2, .int (nI 0)), (0, .ref (ad 1)), (1, .ref (ad 8)), (3, .int (nI lv))]) hx hb d_S_keepTree_49 rfl hl (by decide) rfl (fun ls hl => ?_)
                refine lv_iinc (k := 3) (v := nI (lv + 1)) (lv' := [(3, .int (nI (lv + 1))), (2, .int (nI 0)), (0, .ref (ad 1)), (1, .ref (ad 8))]) hx hb d_S_keepTree_50 hl rfl (nI_add _ _) (by decide) rfl (fun ls hl => ?_)
                refine lv_goto hx hb d_S_keepTree_53 (tgt := 15) (by decide) ?_
                obtain ⟨f4, hF4⟩ := kt_step (m2 := 0) hX hF hkl hc31 hmm (Or.inr ⟨rfl, by omega⟩)
                refine W_up (c2 := 52 * (lv + 1)) (s2 := 1950 * (lv + 1)) (by omega) (by omega) ?_
                exact ih15 0 (lv + 1) v9 f4 ls _ _ (by omega) hF4 (lv_sub hl [2, 3, 1, 0] rfl) hP hD hS
              · skip
                refine lv_iconst (v := nI 1) hx hb d_S_keepTree_44 (by decide) ?_
                refine lv_goto hx hb d_S_keepTree_45 (tgt := 49) (by decide) ?_
                refine lv_istore_n (lv' := [(2, .int (nI 1)), (0, .ref (ad 1)), (1, .ref (ad 8)), (3, .int (nI lv))]) hx hb d_S_keepTree_49 rfl hl (by decide) rfl (fun ls hl => ?_)
                refine lv_iinc (k := 3) (v := nI (lv + 1)) (lv' := [(3, .int (nI (lv + 1))), (2, .int (nI 1)), (0, .ref (ad 1)), (1, .ref (ad 8))]) hx hb d_S_keepTree_50 hl rfl (nI_add _ _) (by decide) rfl (fun ls hl => ?_)
                refine lv_goto hx hb d_S_keepTree_53 (tgt := 15) (by decide) ?_
                obtain ⟨f4, hF4⟩ := kt_step (m2 := 1) hX hF hkl hc31 hmm (Or.inl ⟨rfl, by omega⟩)
                refine W_up (c2 := 52 * (lv + 1)) (s2 := 1950 * (lv + 1)) (by omega) (by omega) ?_
                exact ih15 1 (lv + 1) v9 f4 ls _ _ (by omega) hF4 (lv_sub hl [2, 3, 1, 0] rfl) hP hD hS
            · skip
              refine lv_iconst (v := nI 0) hx hb d_S_keepTree_34 (by decide) ?_
              refine W_up (c2 := 156) (s2 := 5850) (by omega) (by omega) ?_
              exact k_zret (v := nI 0) hQ hx hb hr hlk hK hP hD hS v9 rfl (by decide) (kt_bad hF hkl hc31 hmm) d_S_keepTree_35
    exact key15 _ 0 0 (g, rr, tl, S, ca, bl) f ls _ _ (Nat.lt_succ_self _) (⟨⟨Nat.zero_le _, by decide, fun q => absurd q (by decide), fun _ => hgz.symm⟩, rfl, hstI, exS_r, frx_r, frr_r, hrw, hg5, ⟨fun _ => hro, fun l e => by cases e⟩, Nat.le_refl _⟩) (lv_sub hl [2, 3, 1, 0] rfl) hP hD hS
  · skip
    refine lv_iconst (v := nI 1) hx hb d_S_keepTree_7 (by decide) ?_
    refine lv_goto hx hb d_S_keepTree_8 (tgt := 12) (by decide) ?_
    refine lv_istore_n (lv' := [(2, .int (nI 1)), (0, .ref (ad 1)), (1, .ref (ad 8))]) hx hb d_S_keepTree_12 rfl hl (by decide) rfl (fun ls hl => ?_)
    refine lv_iconst (v := nI 0) hx hb d_S_keepTree_13 (by decide) ?_
    refine lv_istore_n (lv' := [(3, .int (nI 0)), (2, .int (nI 1)), (0, .ref (ad 1)), (1, .ref (ad 8))]) hx hb d_S_keepTree_14 rfl hl (by decide) rfl (fun ls hl => ?_)
    have hgp : 0 < hg X := by obtain ⟨k, e, _⟩ := hg_top hX (fun q => by rw [q] at hc4; exact absurd hc4 (Nat.lt_irrefl 0)); omega
    have key15 : ∀ (n15 : Nat) (m9 : Nat) (lv : Nat) (u : KS) (f2 : Nat) (ls : Array Slot) (H : Heap) (locs : List Loc), hg X - lv < n15 → (ktF tk tl g rr S ca f X m9 lv u f2) → lv_has ls 4 [(0, .ref (ad 1)), (1, .ref (ad 8)), (2, .int (nI m9)), (3, .int (nI lv))] → va_P D CC (wC tk ad u.1 u.2.1 ++ u.2.2.1) H → va_D A (wC tk ad u.1 u.2.1 ++ u.2.2.1) → va_S A s.heap H locs → W p l e ({ frames := 6, cells := 156, slots := 5850, locals := 187 } : Room) s m args below meth c H locs (52 * lv) (1950 * lv) Q (F0 m 15 ls []) := by
      intro n15
      induction n15 with
      | zero => intro m9 lv u f2 ls H locs hn; exact absurd hn (Nat.not_lt_zero _)
      | succ n15 ih15 =>
        intro m9 lv u f2 ls H locs hn15 hF hl hP hD hS
        obtain ⟨⟨hlv1, hm1, hm2, hm3⟩, hkq, hstu, hex, hfr, hrr, hrw9, hsz9, hro9, hSl9⟩ := id hF
        have hg3 := hg_le X
        have hD17 := Dl_17 hX hlv1
        refine lv_iload_n hx hb d_S_keepTree_15 rfl (lv_at hl 2 rfl) ?_
        refine st_if_eq hx hb (by omega) d_S_keepTree_16 (tgt := 56) (by decide) (fun hc16 => ?_) (fun hc16 => ?_)
        · skip
          refine lv_iconst (v := nI 1) hx hb d_S_keepTree_56 (by decide) ?_
          refine W_up (c2 := 156) (s2 := 5850) (by omega) (by omega) ?_
          exact k_zret (v := nI 1) hQ hx hb hr hlk hK hP hD hS u rfl (by decide) (kt_end hX (show ktF tk tl g rr S ca f X 0 lv u f2 from (show m9 = 0 by omega) ▸ hF)) d_S_keepTree_57
        · skip
          refine lv_iload_n hx hb d_S_keepTree_19 rfl (lv_at hl 3 rfl) ?_
          refine lv_bipush (v := nI 6) hx hb d_S_keepTree_20 (by decide) ?_
          refine st_icmp_ge hx hb (by omega) (by omega) d_S_keepTree_22 (tgt := 56) (by decide) (fun hc22 => ?_) (fun hc22 => ?_)
          · skip
            refine lv_iconst (v := nI 1) hx hb d_S_keepTree_56 (by decide) ?_
            refine W_up (c2 := 156) (s2 := 5850) (by omega) (by omega) ?_
            exact k_zret (v := nI 1) hQ hx hb hr hlk hK hP hD hS u rfl (by decide) (kt_end hX (show ktF tk tl g rr S ca f X 0 lv u f2 from (show m9 = 0 by omega) ▸ hF)) d_S_keepTree_57
          · skip
            have hmm : m9 = 1 := by omega
            have hlv9 := hm2 hmm
            have hXn : X ≠ [] := by rintro rfl; rw [hg_nil rfl] at hlv9; omega
            refine lv_aload_n hx hb d_S_keepTree_25 rfl (lv_at hl 0 rfl) ?_
            refine lv_aload_n hx hb d_S_keepTree_26 rfl (lv_at hl 1 rfl) ?_
            refine lv_iload_n hx hb d_S_keepTree_27 rfl (lv_at hl 3 rfl) ?_
            refine k_calli (va_runV (As := [.ref (ad 8), .int (nI lv)]) (rest := []) ⟨hx, hb, hml, hown, hts⟩ (c_S_keepLevel l D tk H.size ad u.1 u.2.1 u.2.2.1 u.2.2.2.1 u.2.2.2.2.1 u.2.2.2.2.2 f2 hstu lv (by omega) X hX (pa_13 hX hXn (by omega)) (by omega) hrw9 hsz9 hro9) (cwV 2 hts (gV t_415 t_417 s_2 t_2 t_418) rfl rfl rfl (by decide +kernel) ⟨Nat.le_of_ble_eq_true rfl, Nat.le_of_ble_eq_true rfl⟩) (k_preV hP hK hD hnw 1 rfl rfl) rfl rfl hl.1 rfl (lv_room (Nat.le_of_ble_eq_true rfl)) d_S_keepTree_28 ⟨by show _ ≤ 156; omega, by show _ ≤ 5850; omega⟩) hD hS hA (fun r28 v9 H locs hkl hP hD hK hS => ?_)
            replace hP : va_P D CC (wC tk ad v9.1 v9.2.1 ++ v9.2.2.1) H := hP
            replace hD : va_D A (wC tk ad v9.1 v9.2.1 ++ v9.2.2.1) := hD
            refine lv_if_ne hx hb d_S_keepTree_31 (tgt := 36) (by decide) (fun hc31 => ?_) (fun hc31 => ?_)
            · skip
              have hsz3 : v9.1 5 0 = nI (im (lv + 1) X).length := by obtain ⟨_, _, _, _, _, _, h8⟩ := hkl; exact (h8.resolve_right (fun q => hc31 q.1)).2.2.2.1
              have hl48 := im_l48 (l := lv + 1) hX
              refine lv_aload_n hx hb d_S_keepTree_36 rfl (lv_at hl 1 rfl) ?_
              refine gf_S_24 (v := .int (v9.1 5 0)) hx hb hT hown hK hP 8 rfl rfl d_S_keepTree_37 ?_
              refine st_top (show v9.1 5 0 = nI ((im (lv + 1) X).length) from hsz3) ?_
              refine lv_iconst (v := nI 1) hx hb d_S_keepTree_40 (by decide) ?_
              refine st_icmp_le hx hb (by omega) (by omega) d_S_keepTree_41 (tgt := 48) (by decide) (fun hc41 => ?_) (fun hc41 => ?_)
              · skip
                refine lv_iconst (v := nI 0) hx hb d_S_keepTree_48 (by decide) ?_
                refine lv_istore_n (lv' := [(2, .int (nI 0)), (0, .ref (ad 1)), (1, .ref (ad 8)), (3, .int (nI lv))]) hx hb d_S_keepTree_49 rfl hl (by decide) rfl (fun ls hl => ?_)
                refine lv_iinc (k := 3) (v := nI (lv + 1)) (lv' := [(3, .int (nI (lv + 1))), (2, .int (nI 0)), (0, .ref (ad 1)), (1, .ref (ad 8))]) hx hb d_S_keepTree_50 hl rfl (nI_add _ _) (by decide) rfl (fun ls hl => ?_)
                refine lv_goto hx hb d_S_keepTree_53 (tgt := 15) (by decide) ?_
                obtain ⟨f4, hF4⟩ := kt_step (m2 := 0) hX hF hkl hc31 hmm (Or.inr ⟨rfl, by omega⟩)
                refine W_up (c2 := 52 * (lv + 1)) (s2 := 1950 * (lv + 1)) (by omega) (by omega) ?_
                exact ih15 0 (lv + 1) v9 f4 ls _ _ (by omega) hF4 (lv_sub hl [2, 3, 1, 0] rfl) hP hD hS
              · skip
                refine lv_iconst (v := nI 1) hx hb d_S_keepTree_44 (by decide) ?_
                refine lv_goto hx hb d_S_keepTree_45 (tgt := 49) (by decide) ?_
                refine lv_istore_n (lv' := [(2, .int (nI 1)), (0, .ref (ad 1)), (1, .ref (ad 8)), (3, .int (nI lv))]) hx hb d_S_keepTree_49 rfl hl (by decide) rfl (fun ls hl => ?_)
                refine lv_iinc (k := 3) (v := nI (lv + 1)) (lv' := [(3, .int (nI (lv + 1))), (2, .int (nI 1)), (0, .ref (ad 1)), (1, .ref (ad 8))]) hx hb d_S_keepTree_50 hl rfl (nI_add _ _) (by decide) rfl (fun ls hl => ?_)
                refine lv_goto hx hb d_S_keepTree_53 (tgt := 15) (by decide) ?_
                obtain ⟨f4, hF4⟩ := kt_step (m2 := 1) hX hF hkl hc31 hmm (Or.inl ⟨rfl, by omega⟩)
                refine W_up (c2 := 52 * (lv + 1)) (s2 := 1950 * (lv + 1)) (by omega) (by omega) ?_
                exact ih15 1 (lv + 1) v9 f4 ls _ _ (by omega) hF4 (lv_sub hl [2, 3, 1, 0] rfl) hP hD hS
            · skip
              refine lv_iconst (v := nI 0) hx hb d_S_keepTree_34 (by decide) ?_
              refine W_up (c2 := 156) (s2 := 5850) (by omega) (by omega) ?_
              exact k_zret (v := nI 0) hQ hx hb hr hlk hK hP hD hS v9 rfl (by decide) (kt_bad hF hkl hc31 hmm) d_S_keepTree_35
    exact key15 _ 1 0 (g, rr, tl, S, ca, bl) f ls _ _ (Nat.lt_succ_self _) (⟨⟨Nat.zero_le _, by decide, fun _ => hgp, fun q => absurd q (by decide)⟩, rfl, hstI, exS_r, frx_r, frr_r, hrw, hg5, ⟨fun _ => hro, fun l e => by cases e⟩, Nat.le_refl _⟩) (lv_sub hl [2, 3, 1, 0] rfl) hP hD hS
