/-- the rows of a level hold its items -/
def lr (g : Nat → Nat → Int32) (l : Nat) (Y : List kv_I) : Prop := g 12 l = nI Y.length ∧ ∀ j x, Y[j]? = some x → g 13 (48 * l + j) = nI x.1 ∧ g 14 (48 * l + j) = x.2
theorem it_12 (g : Nat → Nat → Int32) (l n k : Nat) (v : Int32) : itM g l n k v 12 = upd (g 12) l (nI (n + 1)) := by unfold itM; rw [mup_eq, mup_ne (by decide), mup_ne (by decide)]
theorem it_13 (g : Nat → Nat → Int32) (l n k : Nat) (v : Int32) : itM g l n k v 13 = upd (g 13) (48 * l + n) (nI k) := by unfold itM; rw [mup_ne (by decide), mup_ne (by decide), mup_eq]
theorem it_14 (g : Nat → Nat → Int32) (l n k : Nat) (v : Int32) : itM g l n k v 14 = upd (g 14) (48 * l + n) v := by unfold itM; rw [mup_ne (by decide), mup_eq, mup_ne (by decide)]
theorem it_fr (g : Nat → Nat → Int32) (l n k : Nat) (v : Int32) : frx [12, 13, 14] g (itM g l n k v) := fun x hx => by
  simp only [List.mem_cons, List.not_mem_nil, or_false, not_or] at hx
  unfold itM
  rw [mup_ne hx.1, mup_ne hx.2.2, mup_ne hx.2.1]
theorem lr_item {g : Nat → Nat → Int32} {l : Nat} {Y : List kv_I} (h : lr g l Y) (k : Nat) (v : Int32) : lr (itM g l Y.length k v) l (Y ++ [(k, v)]) := by
  refine ⟨?_, fun j x hx => ?_⟩
  · rw [it_12, List.length_append, List.length_singleton]; exact if_pos rfl
  · rw [it_13, it_14]
    by_cases hj : j < Y.length
    · rw [List.getElem?_append_left hj] at hx
      have q := h.2 j x hx
      exact ⟨(if_neg (by omega)).trans q.1, (if_neg (by omega)).trans q.2⟩
    · rw [List.getElem?_append_right (by omega)] at hx
      have q1 : j - Y.length < 1 := (List.getElem?_eq_some_iff.mp hx).1
      obtain rfl : j = Y.length := by omega
      rw [Nat.sub_self] at hx
      cases hx
      exact ⟨if_pos rfl, if_pos rfl⟩
theorem lr_other {g : Nat → Nat → Int32} {l l2 n k : Nat} {v : Int32} {Y : List kv_I} (h : lr g l2 Y) (hl : l2 ≠ l) (hY : Y.length ≤ 48) (hn : n < 48) : lr (itM g l n k v) l2 Y := by
  refine ⟨?_, fun j x hx => ?_⟩
  · rw [it_12]; exact (if_neg hl).trans h.1
  · rw [it_13, it_14]
    have hj : j < Y.length := (List.getElem?_eq_some_iff.mp hx).1
    have q := h.2 j x hx
    have hne : ¬ 48 * l2 + j = 48 * l + n := by omega
    exact ⟨(if_neg hne).trans q.1, (if_neg hne).trans q.2⟩
theorem lr_c {g u : Nat → Nat → Int32} {l : Nat} {Y : List kv_I} (h : lr g l Y) (h12 : u 12 l = g 12 l) (h13 : u 13 = g 13) (h14 : u 14 = g 14) : lr u l Y := ⟨h12.trans h.1, fun j x hx => by rw [h13, h14]; exact h.2 j x hx⟩
theorem fs_run {F : Nat → Bool} {n : Nat} : ∀ d i, (∀ j, i ≤ j → j < i + d → j + 1 < n ∧ F j = false) → (n ≤ i + d + 1 ∨ F (i + d) = true) → fs_ F n i = i + d := by
  intro d
  induction d with
  | zero => intro i _ h; exact fs_stop h
  | succ d ih =>
    intro i h1 h2
    have q := h1 i (Nat.le_refl _) (by omega)
    rw [fs_go q.1 q.2, ih (i + 1) (fun j a b => h1 j (by omega) (by omega)) (by rw [show i + 1 + d = i + (d + 1) by omega]; exact h2)]
    omega
theorem getD_app {A B : List kv_I} {j : Nat} {x : kv_I} (h : B[j]? = some x) (d : kv_I) : (A ++ B).getD (A.length + j) d = x := by
  rw [List.getD_eq_getElem?_getD, List.getElem?_append_right (by omega), show A.length + j - A.length = j by omega, h]
  rfl
theorem fs_piece {f : kv_I → Bool} {Y : List kv_I} {gs : List (List kv_I)} {p : List kv_I} {qs : List (List kv_I)} (h : cu f Y = gs ++ p :: qs) : fs_ (fun j => f (Y.getD j (0, 0))) Y.length gs.flatten.length + 1 = gs.flatten.length + p.length := by
  have hY := cu_flat f Y
  rw [h, List.flatten_append, List.flatten_cons] at hY
  obtain ⟨a, x, e, ha⟩ := cu_pcs p (by rw [h]; simp)
  have hl : Y.length = gs.flatten.length + (p.length + qs.flatten.length) := by rw [← hY]; simp only [List.length_append]
  have hp : p.length = a.length + 1 := by rw [e]; simp
  have key1 : ∀ j, gs.flatten.length ≤ j → j < gs.flatten.length + a.length → j + 1 < Y.length ∧ f (Y.getD j (0, 0)) = false := by
    intro j h1 h2
    refine ⟨by omega, ?_⟩
    have hja : j - gs.flatten.length < a.length := by omega
    have e2 : (p ++ qs.flatten)[j - gs.flatten.length]? = some (a[j - gs.flatten.length]) := by
      rw [List.getElem?_append_left (by omega), e, List.getElem?_append_left hja, List.getElem?_eq_getElem hja]
    have e3 := getD_app (A := gs.flatten) e2 (0, 0)
    rw [hY, show gs.flatten.length + (j - gs.flatten.length) = j by omega] at e3
    rw [e3]
    exact ha _ (List.getElem_mem _)
  have key2 : Y.length ≤ gs.flatten.length + a.length + 1 ∨ f (Y.getD (gs.flatten.length + a.length) (0, 0)) = true := by
    by_cases hq : qs = []
    · left
      rw [hl, hq, hp]
      simp
      omega
    · right
      obtain ⟨a2, x2, e4, hx⟩ := cu_end gs p qs h hq
      have e5 : (p ++ qs.flatten)[a.length]? = some x2 := by
        have hxx : x2 = x := by
          rw [e] at e4
          have := List.append_inj_right' e4 rfl
          simpa using this.symm
        rw [List.getElem?_append_left (by omega), e, List.getElem?_append_right (Nat.le_refl _), Nat.sub_self, hxx]
        rfl
      have e3 := getD_app (A := gs.flatten) e5 (0, 0)
      rw [hY] at e3
      rw [e3]
      exact hx
  rw [fs_run (F := fun j => f (Y.getD j (0, 0))) a.length gs.flatten.length key1 key2, hp]
  omega
theorem hsA_rows (g : Nat → Nat → Int32) : ∀ (p : List kv_I) (s : Nat) (x : Int32), (∀ j y, p[j]? = some y → g 13 (s + j) = nI y.1 ∧ g 14 (s + j) = y.2) → hsA g s p.length x = p.foldl (fun h y => mx (mx h (nI y.1)) y.2) x := by
  intro p
  induction p with
  | nil => intro s x _; exact hsA_0 g s x
  | cons y r ih =>
    intro s x h
    have h0 := h 0 y rfl
    rw [Nat.add_zero] at h0
    have e := hsA_go g (k := s) (E := s + (r.length + 1)) (by omega) x
    rw [show s + (r.length + 1) - s = r.length + 1 by omega, show s + (r.length + 1) - (s + 1) = r.length by omega] at e
    rw [List.length_cons, e, List.foldl_cons, h0.1, h0.2]
    exact ih (s + 1) _ (fun j z hz => by
      have := h (j + 1) z (by simpa using hz)
      rw [show s + 1 + j = s + (j + 1) by omega]
      exact this)
theorem im_lk (l : Nat) {p : List kv_I} (hp : p ≠ []) : lk (im l p) = lk p := by
  cases l with
  | zero => rfl
  | succ l =>
    obtain ⟨ps, q, e, e2⟩ := pa_last (l := l) hp
    rw [im_succ, e, List.map_append]
    show lk (_ ++ [ov l q]) = _
    rw [lk_snoc]
    exact e2
theorem im_ne {l : Nat} {p : List kv_I} (hp : p ≠ []) : im l p ≠ [] := by
  cases l with
  | zero => exact hp
  | succ l =>
    rw [im_succ]
    intro q
    exact hp (pa_nil.mp (List.map_eq_nil_iff.mp q))
theorem im_len {X : List kv_I} (h : so X) : ∀ l, (im l X).length ≤ 48 := by
  intro l
  cases l with
  | zero =>
    have := cn_le (P := fun _ => true) (X.map (fun x => x.1)) 0 48 (List.pairwise_map.mpr h.1) (fun k hk => by
      obtain ⟨x, hx, rfl⟩ := List.mem_map.mp hk
      exact ⟨Nat.zero_le _, by have := h.2 x hx; omega, rfl⟩)
    rw [List.length_map] at this
    have e : cn (fun _ => true) 0 48 = 48 := by decide
    rw [e] at this
    exact this
  | succ l =>
    rw [im_succ, List.length_map]
    have := pa_count (l := l) h (fun k => en 0 k) (fun k hk => hk 0 (Nat.zero_le _))
    rw [en_c0] at this
    omega
/-- a piece of the rows of level l -/
theorem piece_rows {g : Nat → Nat → Int32} {X : List kv_I} {l : Nat} {a b : List (List kv_I)} {p : List kv_I} (hr : lr g l (im l X)) (hpa : pa l X = a ++ p :: b) :
    fs_ (fun j => en l ((im l X).getD j (0, 0)).1) (im l X).length (a.map (im l)).flatten.length + 1 = (a.map (im l)).flatten.length + (im l p).length ∧
    (∀ j y, (im l p)[j]? = some y → g 13 (48 * l + (a.map (im l)).flatten.length + j) = nI y.1 ∧ g 14 (48 * l + (a.map (im l)).flatten.length + j) = y.2) ∧
    (a.map (im l)).flatten.length + (im l p).length ≤ (im l X).length ∧ 0 < (im l p).length ∧ (((a ++ [p]).map (im l)).flatten).length = (a.map (im l)).flatten.length + (im l p).length := by
  have hc := im_cut X l
  rw [hpa, List.map_append, List.map_cons] at hc
  have h1 := fs_piece hc
  have hY := cu_flat (fun x : kv_I => en l x.1) (im l X)
  rw [hc, List.flatten_append, List.flatten_cons] at hY
  have hp : p ≠ [] := pa_ne p (by rw [hpa]; simp)
  refine ⟨h1, fun j y hj => ?_, by rw [← hY]; simp only [List.length_append]; omega, List.length_pos_iff.mpr (im_ne hp), by simp⟩
  have hjl : j < (im l p).length := (List.getElem?_eq_some_iff.mp hj).1
  have e : (im l X)[(a.map (im l)).flatten.length + j]? = some y := by
    rw [← hY, List.getElem?_append_right (by omega), show (a.map (im l)).flatten.length + j - (a.map (im l)).flatten.length = j by omega, List.getElem?_append_left hjl]
    exact hj
  have := hr.2 _ y e
  rw [Nat.add_assoc]
  exact this
