theorem fs_sh {F : Nat → Bool} {s n : Nat} : ∀ d i, n - i = d → fs_ F (s + n) (s + i) = s + fs_ (fun j => F (s + j)) n i := by
  intro d
  induction d with
  | zero =>
    intro i hi
    rw [fs_stop (Or.inl (by omega)), fs_stop (Or.inl (by omega))]
  | succ d ih =>
    intro i hi
    by_cases h : i + 1 < n ∧ F (s + i) = false
    · rw [fs_go (by omega) h.2, fs_go (f := fun j => F (s + j)) h.1 h.2, Nat.add_assoc, ih (i + 1) (by omega)]
    · have hs : n ≤ i + 1 ∨ F (s + i) = true := by
        by_cases q : i + 1 < n
        · right
          cases e : F (s + i) with
          | true => rfl
          | false => exact absurd ⟨q, e⟩ h
        · left; omega
      rw [fs_stop (hs.elim (fun q => Or.inl (by omega)) Or.inr), fs_stop (f := fun j => F (s + j)) hs]
theorem im_max {l : Nat} {p : List kv_I} (h : so p) : ∀ x ∈ im l p, x.1 ≤ lk p := by
  cases l with
  | zero => exact lk_max h
  | succ l =>
    intro x hx
    rw [im_succ] at hx
    obtain ⟨q, hq, rfl⟩ := List.mem_map.mp hx
    obtain ⟨v, hv⟩ := lk_mem (pa_ne q hq)
    have hm : (lk q, v) ∈ p := by rw [← pa_flat l p]; exact List.mem_flatten.mpr ⟨q, hq, hv⟩
    exact (show lk q ≤ lk p from lk_max h _ hm)
theorem pf_in {key : Nat} {B : List kv_I} : ∀ {A : List kv_I}, (∃ x ∈ A, key ≤ x.1) → pf key (A ++ B) < A.length := by
  intro A
  induction A with
  | nil => rintro ⟨x, hx, _⟩; cases hx
  | cons a A ih =>
    rintro ⟨x, hx, hk⟩
    by_cases ha : key ≤ a.1
    · have e : pf key (a :: A ++ B) = 0 := by
        rw [List.cons_append]
        cases A ++ B with
        | nil => rfl
        | cons y r => unfold pf; rw [if_pos ha]
      rw [e]; simp
    · have hx2 : x ∈ A := by
        rcases List.mem_cons.mp hx with q | q
        · subst q; exact absurd hk ha
        · exact q
      have h2 := ih ⟨x, hx2, hk⟩
      rw [List.cons_append]
      cases e : A ++ B with
      | nil =>
        have : A = [] := (List.append_eq_nil_iff.mp e).1
        subst this; cases hx2
      | cons y r =>
        unfold pf
        rw [if_neg ha, ← e, List.length_cons]
        omega
theorem pf_out {key : Nat} {B : List kv_I} (hB : B ≠ []) : ∀ {A : List kv_I}, (∀ x ∈ A, ¬ key ≤ x.1) → pf key (A ++ B) = A.length + pf key B := by
  intro A
  induction A with
  | nil => intro _; simp
  | cons a A ih =>
    intro h
    rw [List.cons_append]
    cases e : A ++ B with
    | nil => exact absurd (List.append_eq_nil_iff.mp e).2 hB
    | cons y r =>
      have e9 : pf key (a :: y :: r) = pf key (y :: r) + 1 := by conv => lhs; unfold pf; rw [if_neg (h a List.mem_cons_self)]
      rw [e9, ← e, ih (fun x hx => h x (List.mem_cons_of_mem _ hx)), List.length_cons]
      omega
theorem pc_split {key l : Nat} : ∀ {P : List (List kv_I)}, P ≠ [] → (∀ p ∈ P, so p ∧ p ≠ []) → ∃ a b, P = a ++ pc_ key P :: b ∧ (a.map (im l)).flatten.length ≤ pf key (P.map (im l)).flatten ∧ pf key (P.map (im l)).flatten < (a.map (im l)).flatten.length + (im l (pc_ key P)).length := by
  intro P
  induction P with
  | nil => intro h; exact absurd rfl h
  | cons p r ih =>
    intro _ hP
    have hp := hP p List.mem_cons_self
    cases r with
    | nil =>
      refine ⟨[], [], rfl, Nat.zero_le _, ?_⟩
      have := pf_lt (key := key) (im_ne (l := l) hp.2)
      simpa [pc_] using this
    | cons q r =>
      by_cases hk : key ≤ lk p
      · have e : pc_ key (p :: q :: r) = p := by unfold pc_; rw [if_pos hk]
        rw [e]
        refine ⟨[], q :: r, rfl, Nat.zero_le _, ?_⟩
        obtain ⟨v, hv⟩ := lk_mem (im_ne (l := l) hp.2)
        rw [im_lk l hp.2] at hv
        have := pf_in (key := key) (B := ((q :: r).map (im l)).flatten) ⟨_, hv, hk⟩
        rw [List.map_cons, List.flatten_cons]
        simpa using this
      · have e : pc_ key (p :: q :: r) = pc_ key (q :: r) := by conv => lhs; unfold pc_; rw [if_neg hk]
        rw [e]
        obtain ⟨a, b, h1, h2, h3⟩ := ih (by simp) (fun x hx => hP x (List.mem_cons_of_mem _ hx))
        have hB : ((q :: r).map (im l)).flatten ≠ [] := by
          rw [List.map_cons, List.flatten_cons]
          intro z
          exact im_ne (l := l) (hP q (by simp)).2 (List.append_eq_nil_iff.mp z).1
        have e2 := pf_out (key := key) hB (A := im l p) (fun x hx z => hk (Nat.le_trans z (im_max hp.1 x hx)))
        refine ⟨p :: a, b, by rw [List.cons_append, ← h1], ?_, ?_⟩
        · show (im l p ++ (a.map (im l)).flatten).length ≤ pf key (im l p ++ ((q :: r).map (im l)).flatten)
          rw [List.length_append, e2]
          omega
        · show pf key (im l p ++ ((q :: r).map (im l)).flatten) < (im l p ++ (a.map (im l)).flatten).length + _
          rw [List.length_append, e2]
          omega
theorem co_run {F : Nat → Bool} {s : Nat} (h0 : s = 0 ∨ (∃ z, s = z + 1 ∧ F z = true)) : ∀ d, (∀ j, s ≤ j → j < s + d → F j = false) → co_ F (s + d) = s := by
  intro d
  induction d with
  | zero =>
    intro _
    rcases h0 with q | ⟨z, q, hz⟩
    · subst q; rfl
    · subst q; show co_ F (z + 1) = z + 1; unfold co_; rw [if_pos hz]
  | succ d ih =>
    intro h
    rw [← Nat.add_assoc]
    unfold co_
    rw [if_neg (by rw [h (s + d) (by omega) (by omega)]; decide)]
    exact ih (fun j a b => h j a (by omega))
theorem co_piece {f : kv_I → Bool} {Y : List kv_I} {gs : List (List kv_I)} {p : List kv_I} {qs : List (List kv_I)} (h : cu f Y = gs ++ p :: qs) {i : Nat} (hi : gs.flatten.length ≤ i) (hi2 : i < gs.flatten.length + p.length) : co_ (fun j => f (Y.getD j (0, 0))) i = gs.flatten.length := by
  have hY := cu_flat f Y
  rw [h, List.flatten_append, List.flatten_cons] at hY
  obtain ⟨a, x, e, ha⟩ := cu_pcs p (by rw [h]; simp)
  have hp : p.length = a.length + 1 := by rw [e]; simp
  have key1 : ∀ j, gs.flatten.length ≤ j → j < gs.flatten.length + a.length → f (Y.getD j (0, 0)) = false := by
    intro j h1 h2
    have hja : j - gs.flatten.length < a.length := by omega
    have e2 : (p ++ qs.flatten)[j - gs.flatten.length]? = some (a[j - gs.flatten.length]) := by
      rw [List.getElem?_append_left (by omega), e, List.getElem?_append_left hja, List.getElem?_eq_getElem hja]
    have e3 := getD_app (A := gs.flatten) e2 (0, 0)
    rw [hY, show gs.flatten.length + (j - gs.flatten.length) = j by omega] at e3
    rw [e3]
    exact ha _ (List.getElem_mem _)
  have h0 : gs.flatten.length = 0 ∨ ∃ z, gs.flatten.length = z + 1 ∧ f (Y.getD z (0, 0)) = true := by
    by_cases hg : gs = []
    · left; rw [hg]; rfl
    · right
      obtain ⟨g2, q, rfl⟩ : ∃ g2 q, gs = g2 ++ [q] := ⟨gs.dropLast, gs.getLast hg, (List.dropLast_concat_getLast hg).symm⟩
      rw [List.append_assoc] at h
      obtain ⟨a2, x2, e4, hx⟩ := cu_end g2 q (p :: qs) h (by simp)
      have e6 : (g2 ++ [q]).flatten = g2.flatten ++ a2 ++ [x2] := by rw [List.flatten_append, e4]; simp
      refine ⟨(g2.flatten ++ a2).length, by rw [e6, List.length_append]; rfl, ?_⟩
      have e3 := getD_app (A := g2.flatten ++ a2) (B := [x2] ++ (p ++ qs.flatten)) (j := 0) (x := x2) rfl (0, 0)
      rw [← List.append_assoc, ← e6, hY, Nat.add_zero] at e3
      rw [e3]
      exact hx
  have := co_run (F := fun j => f (Y.getD j (0, 0))) h0 (i - gs.flatten.length) (fun j q1 q2 => key1 j q1 (by omega))
  rw [show gs.flatten.length + (i - gs.flatten.length) = i by omega] at this
  exact this
/-- the reference's choice in a level is the content's choice -/
theorem ch_level {g : Nat → Nat → Int32} {X : List kv_I} {l key : Nat} (hX : so X) (hn : X ≠ []) (hr : lr g l (im l X)) : ∃ a b, pa l X = a ++ pc_ key (pa l X) :: b ∧ pf key (im l X) < (im l X).length ∧ co_ (fun j => en l ((im l X).getD j (0, 0)).1) (pf key (im l X)) = (a.map (im l)).flatten.length := by
  obtain ⟨a, b, h1, h2, h3⟩ := pc_split (key := key) (l := l) (P := pa l X) (fun q => hn (pa_nil.mp q)) (fun p hp => ⟨pa_so hX hp, pa_ne p hp⟩)
  have hc := im_cut X l
  have hf := cu_flat (fun x : kv_I => en l x.1) (im l X)
  rw [hc] at hf
  rw [hf] at h2 h3
  refine ⟨a, b, h1, pf_lt (im_ne hn), ?_⟩
  have hc2 : cu (fun x : kv_I => en l x.1) (im l X) = a.map (im l) ++ im l (pc_ key (pa l X)) :: b.map (im l) := by
    rw [hc]
    conv => lhs; rw [h1]
    rw [List.map_append, List.map_cons]
  exact co_piece hc2 h2 h3
