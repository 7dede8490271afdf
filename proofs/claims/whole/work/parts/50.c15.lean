theorem im_all (l : Nat) (X : List kv_I) : im l X = (pa l X).flatMap (im l) := by
  have h := cu_flat (fun x : kv_I => en l x.1) (im l X)
  rw [im_cut, ← List.flatMap_def] at h
  exact h.symm
/-- where the pieces after dn begin -/
def off (l : Nat) (dn : List (List kv_I)) : Nat := (dn.flatMap (im l)).length
theorem off_nil (l : Nat) : off l [] = 0 := rfl
theorem off_snoc (l : Nat) (dn : List (List kv_I)) (p : List kv_I) : off l (dn ++ [p]) = off l dn + (im l p).length := by
  unfold off
  rw [List.flatMap_append, List.length_append]
  simp
theorem im_at {l : Nat} {X : List kv_I} {dn rs : List (List kv_I)} {p : List kv_I} (h : pa l X = dn ++ p :: rs) (j : Nat) : j < (im l p).length → (im l X)[off l dn + j]? = (im l p)[j]? := by
  intro hj
  rw [im_all, h, List.flatMap_append, List.getElem?_append_right (by unfold off; omega)]
  show ((p :: rs).flatMap (im l))[off l dn + j - off l dn]? = _
  rw [Nat.add_sub_cancel_left, List.flatMap_cons, List.getElem?_append_left hj]
theorem im_ln {l : Nat} {X : List kv_I} {dn rs : List (List kv_I)} (h : pa l X = dn ++ rs) : (im l X).length = off l dn + off l rs := by
  rw [im_all, h, List.flatMap_append, List.length_append]; rfl
theorem off_cons (l : Nat) (p : List kv_I) (rs : List (List kv_I)) : off l (p :: rs) = (im l p).length + off l rs := by
  unfold off
  rw [List.flatMap_cons, List.length_append]
theorem off_pos {l : Nat} : ∀ {rs : List (List kv_I)}, (∀ p ∈ rs, p ≠ []) → rs.length ≤ off l rs := by
  intro rs
  induction rs with
  | nil => intro _; exact Nat.le_refl _
  | cons p rs ih =>
    intro h
    rw [off_cons, List.length_cons]
    have h1 := ih (fun q hq => h q (List.mem_cons_of_mem _ hq))
    have h2 := List.length_pos_iff.mpr (im_nn (l := l) (h p List.mem_cons_self))
    omega
/-- where a piece ends -/
theorem pc_in {l : Nat} {X : List kv_I} {dn rs : List (List kv_I)} {p : List kv_I} (h : pa l X = dn ++ p :: rs) {k : Nat} {x : kv_I} (hx : (im l p)[k]? = some x) : (k + 1 < (im l p).length → en l x.1 = false) ∧ (k + 1 = (im l p).length → rs ≠ [] → en l x.1 = true) := by
  have hc := im_cut X l
  rw [h, List.map_append, List.map_cons] at hc
  have hm : im l p ∈ cu (fun x : kv_I => en l x.1) (im l X) := by rw [hc]; simp
  obtain ⟨a, y, e, hy⟩ := cu_pcs _ hm
  refine ⟨fun hk => ?_, fun hk hr => ?_⟩
  · rw [e, List.length_append, List.length_singleton] at hk
    rw [e, List.getElem?_append_left (by omega)] at hx
    exact hy x (List.mem_of_getElem? hx)
  · obtain ⟨a2, y2, e2, hy2⟩ := cu_end _ _ _ hc (by simpa using hr)
    rw [e2, List.length_append, List.length_singleton] at hk
    rw [e2, List.getElem?_append_right (by omega), show k - a2.length = 0 by omega] at hx
    have : y2 = x := Option.some.inj hx
    subst this
    exact hy2
theorem pl_48 {l : Nat} {X p : List kv_I} (hX : so X) (hp : p ∈ pa l X) (hl : l ≤ 2) : (im l p).length < 48 := by
  have hs := pa_so hX hp
  have h0 : l = 0 ∨ l = 1 ∨ l = 2 := by omega
  rcases h0 with rfl | rfl | rfl
  · obtain ⟨a, y, e, hy⟩ := cu_pcs _ hp
    show p.length < 48
    have hsa : so a := so_sub hs (by rw [e]; exact List.sublist_append_left _ _)
    have h1 : (a.map (fun x => x.1)).Pairwise (· < ·) := List.pairwise_map.mpr hsa.1
    have h2 := cn_le (P := fun k => !en 0 k) (a.map (fun x => x.1)) 0 48 h1 (fun k hk => by
      obtain ⟨x, hx, rfl⟩ := List.mem_map.mp hk
      refine ⟨Nat.zero_le _, by have := hsa.2 x hx; omega, ?_⟩
      have := hy x hx
      simp only [this, Bool.not_false])
    rw [List.length_map, en_n0] at h2
    rw [e, List.length_append, List.length_singleton]
    omega
  · rw [im_succ, List.length_map]
    have := pa_c0 hs
    omega
  · rw [im_succ, List.length_map]
    have := pa_c1 hs
    omega
/-- the row's chunks under a piece -/
theorem rw_slice {S S2 : List ck_I} {ca ca2 : Nat → Nat} {l : Nat} {X : List kv_I} {dn rs : List (List kv_I)} {p : List kv_I} {r r2 : Nat → Option Nat} (h : rw_ok S ca l X r) (hp : pa l X = dn ++ p :: rs) (hr : ∀ j, off l dn ≤ j → r2 j = r j) (hS : ∀ d x, S[d]? = some x → S2[d]? = some x ∧ ca2 d = ca d) : rw_ok S2 ca2 l p (fun j => r2 (off l dn + j)) := by
  refine ⟨fun e j hj => ?_, fun l' e j q hq => ?_⟩
  · show r2 (off l dn + j) = none
    rw [hr _ (by omega)]
    subst e
    refine h.1 rfl _ ?_
    have := im_ln (l := 0) hp
    rw [off_cons] at this
    show off 0 dn + j < (im 0 X).length
    have e2 : (im 0 p).length = p.length := rfl
    omega
  · subst e
    have hj : j < (pa l' p).length := (List.getElem?_eq_some_iff.mp hq).1
    have e1 : (pa l' X)[off (l' + 1) dn + j]? = some q := by
      rw [pa_split X l', hp, List.flatMap_append, List.getElem?_append_right]
      · have e3 : (dn.flatMap (pa l')).length = off (l' + 1) dn := by
          unfold off
          rw [List.length_flatMap, List.length_flatMap]
          congr 1
          apply List.map_congr_left
          intro z _
          rw [im_succ, List.length_map]
        rw [e3, Nat.add_sub_cancel_left, List.flatMap_cons, List.getElem?_append_left hj]
        exact hq
      · have e3 : (dn.flatMap (pa l')).length = off (l' + 1) dn := by
          unfold off
          rw [List.length_flatMap, List.length_flatMap]
          congr 1
          apply List.map_congr_left
          intro z _
          rw [im_succ, List.length_map]
        omega
    obtain ⟨d, hd, e2⟩ := h.2 l' rfl _ q e1
    obtain ⟨h1, h2⟩ := hS d _ hd
    exact ⟨d, h1, by show r2 (off (l' + 1) dn + j) = _; rw [hr _ (by omega), e2, h2]⟩
/-- the store only grows -/
def exS (tl : va_W) (S : List ck_I) (ca : Nat → Nat) (tl2 : va_W) (S2 : List ck_I) (ca2 : Nat → Nat) : Prop := (∃ cs, tl2 = tl ++ cs) ∧ (∃ T, S2 = S ++ T) ∧ ∀ c, c < S.length → ca2 c = ca c
theorem exS_r {tl : va_W} {S : List ck_I} {ca : Nat → Nat} : exS tl S ca tl S ca := ⟨⟨[], by simp⟩, ⟨[], by simp⟩, fun _ _ => rfl⟩
theorem exS_t {tl tl2 tl3 : va_W} {S S2 S3 : List ck_I} {ca ca2 ca3 : Nat → Nat} (h : exS tl S ca tl2 S2 ca2) (h2 : exS tl2 S2 ca2 tl3 S3 ca3) : exS tl S ca tl3 S3 ca3 := by
  obtain ⟨⟨c1, rfl⟩, ⟨t1, rfl⟩, a1⟩ := h
  obtain ⟨⟨c2, rfl⟩, ⟨t2, rfl⟩, a2⟩ := h2
  exact ⟨⟨c1 ++ c2, by rw [List.append_assoc]⟩, ⟨t1 ++ t2, by rw [List.append_assoc]⟩, fun c hc => (a2 c (by rw [List.length_append]; omega)).trans (a1 c hc)⟩
theorem exS_at {tl tl2 : va_W} {S S2 : List ck_I} {ca ca2 : Nat → Nat} (h : exS tl S ca tl2 S2 ca2) : ∀ d x, S[d]? = some x → S2[d]? = some x ∧ ca2 d = ca d := by
  obtain ⟨_, ⟨T, rfl⟩, a⟩ := h
  intro d x hd
  have hl := (List.getElem?_eq_some_iff.mp hd).1
  exact ⟨by rw [List.getElem?_append_left hl]; exact hd, a d hl⟩
/-- the store behind a chunk that was kept -/
theorem kp_ok {tk : Nat → ClassId} {tl : va_W} {g : Nat → Nat → Int32} {rr : Nat → Nat → Option Nat} {S : List ck_I} {ca : Nat → Nat} {bl : Nat → Nat → Option Nat} {f lv : Nat} {p : List kv_I} {r : Option Nat} {u : KS} (h : kpP tk tl g rr S ca bl f lv p r u) (hst : stI tk tl g rr S ca bl f) (hp : lk p < 48) {D S0 : List ck_I} {f0 : Nat} (hk : kq D S0 f0 = (true, S, f)) :
    exS tl S ca u.2.2.1 u.2.2.2.1 u.2.2.2.2.1 ∧ frx [0, 1] g u.1 ∧ frr [0] rr u.2.1 ∧ u.2.2.2.1.length ≤ S.length + 1 ∧
    ∃ f2, stI tk u.2.2.1 u.1 u.2.1 u.2.2.2.1 u.2.2.2.2.1 u.2.2.2.2.2 f2 ∧ (¬ r = none → kq (D ++ [(lv, p)]) S0 f0 = (true, u.2.2.2.1, f2) ∧ ∃ c, u.2.2.2.1[c]? = some (lv, p) ∧ r = some (u.2.2.2.2.1 c)) ∧ (r = none → ∀ R, kq (D ++ (lv, p) :: R) S0 f0 = (false, u.2.2.2.1, f2)) := by
  have hw : (wr f).2 ≤ 40 := by
    have := hst.2.2.2.2
    unfold wr
    split <;> simp <;> omega
  rcases h with ⟨c, hc, hr, rfl⟩ | ⟨hn, hwf, hr, rfl⟩ | ⟨hn, hwt, q, b, cs, hr, rfl, hsI⟩
  · exact ⟨exS_r, frx_r, frr_r, Nat.le_succ _, f, hst, fun _ => ⟨kq_1 hk (List.mem_of_getElem? hc), c, hc, hr⟩, fun z => by rw [hr] at z; cases z⟩
  · refine ⟨exS_r, frx_2 frx_r (by decide), frr_r, Nat.le_succ _, (wr f).2, ⟨hst.1, hst.2.1, (show mup g 1 0 (nI (wr f).2) 0 0 = nI S.length from rd_ne (by decide) hst.2.2.1), (show mup g 1 0 (nI (wr f).2) 1 0 = nI (wr f).2 from rd_eq), hw⟩, fun z => absurd hr z, fun _ R => kq_3 hk hn hwf R⟩
  · refine ⟨⟨⟨cs, rfl⟩, ⟨[(lv, p)], rfl⟩, fun c hc => (show va_up ca S.length q c = ca c from va_up_ne _ _ (by omega))⟩, frx_2 (frx_2 frx_r (by decide)) (by decide), frr_2 frr_r (by decide), by show (S ++ [(lv, p)]).length ≤ _; simp, (wr f).2, ⟨hsI, fun k hk2 => ?_, ?_, (show mup (mup g 1 0 (nI (wr f).2)) 0 0 (nI (S.length + 1)) 1 0 = nI (wr f).2 from rd_ne (by decide) rd_eq), hw⟩, fun _ => ⟨kq_2 hk hn hwt, S.length, ?_, ?_⟩, fun z => by rw [hr] at z; cases z⟩
    · show rup rr 0 (lk p) (some q) 0 k = (pv (S ++ [(lv, p)]) k (S ++ [(lv, p)]).length).map (va_up ca S.length q)
      rw [rup_eq, List.length_append, List.length_singleton]
      have e : (S ++ [(lv, p)]).getD S.length ck_d = (lv, p) := by
        rw [List.getD_eq_getElem?_getD, List.getElem?_append_right (Nat.le_refl _), Nat.sub_self]; rfl
      conv => rhs; unfold pv
      rw [e]
      by_cases hk3 : lk p = k
      · rw [if_pos hk3, ← hk3, va_up_self]
        show some q = some (va_up ca S.length q S.length)
        rw [va_up_self]
      · rw [if_neg hk3, pv_app S.length (Nat.le_refl _), map_up (fun d hd => (pv_lt hd).1), va_up_ne _ _ (fun z => hk3 z.symm)]
        exact hst.2.1 k hk2
    · show mup (mup g 1 0 (nI (wr f).2)) 0 0 (nI (S.length + 1)) 0 0 = nI (S ++ [(lv, p)]).length
      rw [List.length_append, List.length_singleton]; exact rd_eq
    · show (S ++ [(lv, p)])[S.length]? = _
      rw [List.getElem?_append_right (Nat.le_refl _), Nat.sub_self]; rfl
    · show r = some (va_up ca S.length q S.length)
      rw [va_up_self]; exact hr
