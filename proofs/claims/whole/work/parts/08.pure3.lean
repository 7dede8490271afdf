-- the mathematics: looking a key up
/-- the place of the first item with a key not below this one, or of the last item -/
def pf (key : Nat) : List kv_I → Nat
  | [] => 0
  | [_] => 0
  | x :: y :: r => if key ≤ x.1 then 0 else pf key (y :: r) + 1
/-- the first content whose last key isn't below this one, or the last content -/
def pc_ (key : Nat) : List (List kv_I) → List kv_I
  | [] => []
  | [p] => p
  | p :: q :: r => if key ≤ lk p then p else pc_ key (q :: r)
theorem pf_lt {key : Nat} : ∀ {X : List kv_I}, X ≠ [] → pf key X < X.length := by
  intro X
  induction X with
  | nil => intro h; exact absurd rfl h
  | cons x r ih =>
    intro _
    cases r with
    | nil => simp [pf]
    | cons y r =>
      unfold pf
      split
      · simp
      · have := ih (by simp)
        simp only [List.length_cons] at this ⊢
        omega
theorem pc_mem {key : Nat} : ∀ {P : List (List kv_I)}, P ≠ [] → pc_ key P ∈ P := by
  intro P
  induction P with
  | nil => intro h; exact absurd rfl h
  | cons p r ih =>
    intro _
    cases r with
    | nil => simp [pc_]
    | cons q r =>
      unfold pc_
      split
      · simp
      · exact List.mem_cons_of_mem _ (ih (by simp))
/-- the place among the items above is the place among the contents -/
theorem pc_at {key l : Nat} : ∀ {P : List (List kv_I)}, P ≠ [] → P[pf key (P.map (ov l))]? = some (pc_ key P) := by
  intro P
  induction P with
  | nil => intro h; exact absurd rfl h
  | cons p r ih =>
    intro _
    cases r with
    | nil => simp [pf, pc_]
    | cons q r =>
      have ih := ih (by simp)
      rw [List.map_cons] at ih
      rw [List.map_cons, List.map_cons]
      unfold pf pc_
      show (p :: q :: r)[if key ≤ lk p then 0 else _]? = _
      split
      · simp
      · simpa using ih
theorem pc_left {key : Nat} {b : List (List kv_I)} : ∀ {a : List (List kv_I)}, (∃ p ∈ a, key ≤ lk p) → pc_ key (a ++ b) = pc_ key a := by
  intro a
  induction a with
  | nil => rintro ⟨p, hp, -⟩; simp at hp
  | cons p r ih =>
    rintro ⟨q, hq, hk⟩
    cases r with
    | nil =>
      have : q = p := by simpa using hq
      subst this
      cases b with
      | nil => rfl
      | cons b1 b => show (if _ then _ else _) = _; rw [if_pos hk]; rfl
    | cons r1 r =>
      show (if key ≤ lk p then p else pc_ key (r1 :: r ++ b)) = if key ≤ lk p then p else pc_ key (r1 :: r)
      split
      · rfl
      · next hn =>
        refine ih ⟨q, ?_, hk⟩
        rcases List.mem_cons.mp hq with rfl | h
        · exact absurd hk hn
        · exact h
theorem pc_right {key : Nat} {b : List (List kv_I)} (hb : b ≠ []) : ∀ {a : List (List kv_I)}, (∀ p ∈ a, ¬ key ≤ lk p) → pc_ key (a ++ b) = pc_ key b := by
  intro a
  induction a with
  | nil => intro _; rfl
  | cons p r ih =>
    intro h
    have ih := ih (fun q hq => h q (List.mem_cons_of_mem _ hq))
    cases e : r ++ b with
    | nil => simp at e; exact absurd e.2 hb
    | cons x y =>
      rw [List.cons_append, e]
      show (if key ≤ lk p then p else pc_ key (x :: y)) = _
      rw [if_neg (h p List.mem_cons_self), ← e]
      exact ih
theorem pc_flat {key l : Nat} : ∀ {G : List (List kv_I)}, (∀ g ∈ G, so g ∧ g ≠ []) → (G.map lk).Pairwise (· < ·) → G ≠ [] → pc_ key (G.flatMap (pa l)) = pc_ key (pa l (pc_ key G)) := by
  intro G
  induction G with
  | nil => intro _ _ h; exact absurd rfl h
  | cons g r ih =>
    intro h1 h2 _
    obtain ⟨hg, hgn⟩ := h1 g List.mem_cons_self
    cases r with
    | nil => simp [pc_]
    | cons g2 r =>
      rw [List.flatMap_cons]
      show _ = pc_ key (pa l (if key ≤ lk g then g else pc_ key (g2 :: r)))
      split
      · next hk =>
        obtain ⟨ps, p, e, e2⟩ := pa_last (l := l) hgn
        exact pc_left ⟨p, by rw [e]; simp, by rw [e2]; exact hk⟩
      · next hk =>
        rw [pc_right]
        · rw [List.map_cons, List.pairwise_cons] at h2
          exact ih (fun q hq => h1 q (List.mem_cons_of_mem _ hq)) h2.2 (by simp)
        · rw [List.flatMap_cons]
          have := (h1 g2 (by simp)).2
          intro h
          rw [List.append_eq_nil_iff] at h
          exact this (pa_nil.mp h.1)
        · intro p hp hk2
          have hpn := pa_ne p hp
          obtain ⟨v, hv⟩ := lk_mem hpn
          have := lk_max hg _ ((pa_sub hp).subset hv)
          simp only at this
          omega
/-- from a chunk of level l + 1 to the one below it: the same as from the whole -/
theorem pc_down {X : List kv_I} (h : so X) (hX : X ≠ []) (key l : Nat) : pc_ key (pa l (pc_ key (pa (l + 1) X))) = pc_ key (pa l X) := by
  rw [pa_split X l]
  exact (pc_flat (fun g hg => ⟨pa_so h hg, pa_ne g hg⟩) (pa_lks h) (fun e => hX (pa_nil.mp e))).symm
/-- a key's value -/
def gt_ (X : List kv_I) (key : Nat) : Option Int32 := (X.find? (fun x => x.1 == key)).map (fun x => x.2)
theorem gt_some {X : List kv_I} (h : so X) {key : Nat} {v : Int32} : gt_ X key = some v ↔ (key, v) ∈ X := by
  unfold gt_
  constructor
  · intro e
    cases e1 : X.find? (fun x => x.1 == key) with
    | none => rw [e1] at e; cases e
    | some x =>
      rw [e1] at e
      have h1 := List.find?_some e1
      have h2 := List.mem_of_find?_eq_some e1
      simp only [beq_iff_eq] at h1
      cases e
      subst h1
      exact h2
  · intro hm
    cases e1 : X.find? (fun x => x.1 == key) with
    | none =>
      rw [List.find?_eq_none] at e1
      exact absurd (by simp) (e1 _ hm)
    | some x =>
      have h1 := List.find?_some e1
      have h2 := List.mem_of_find?_eq_some e1
      simp only [beq_iff_eq] at h1
      have : x = (key, v) := by
        obtain ⟨i, hi, e2⟩ := List.mem_iff_getElem.mp h2
        obtain ⟨j, hj, e3⟩ := List.mem_iff_getElem.mp hm
        have h3 := List.pairwise_iff_getElem.mp h.1
        rcases Nat.lt_trichotomy i j with q | q | q
        · have := h3 i j hi hj q; rw [e2, e3] at this; simp only at this; omega
        · subst q; rw [← e2, e3]
        · have := h3 j i hj hi q; rw [e2, e3] at this; simp only at this; omega
      rw [this]; rfl
theorem pc_gt {X : List kv_I} (h : so X) (hX : X ≠ []) (key : Nat) : gt_ (pc_ key (pa 0 X)) key = gt_ X key := by
  have hne : pa 0 X ≠ [] := fun e => hX (pa_nil.mp e)
  have hm := pc_mem (key := key) hne
  have hs := pa_so h hm
  cases e : gt_ (pc_ key (pa 0 X)) key with
  | some v => exact ((gt_some h).mpr ((pa_sub hm).subset ((gt_some hs).mp e))).symm
  | none =>
    cases e2 : gt_ X key with
    | none => rfl
    | some v =>
      exfalso
      have h1 := (gt_some h).mp e2
      rw [← pa_flat 0 X] at h1
      obtain ⟨p, hp, h2⟩ := List.mem_flatten.mp h1
      obtain ⟨a, b, e3⟩ := List.append_of_mem hp
      have hlk : key ≤ lk p := lk_max (pa_so h hp) _ h2
      have hlo : ∀ q ∈ a, ¬ key ≤ lk q := by
        intro q hq hk
        have h3 := pa_flat 0 X
        rw [e3, List.flatten_append, List.flatten_cons] at h3
        obtain ⟨w, hw⟩ := lk_mem (pa_ne q (by rw [e3]; exact List.mem_append_left _ hq))
        have h4 := h.1
        rw [← h3] at h4
        have := (List.pairwise_append.mp h4).2.2 _ (List.mem_flatten.mpr ⟨q, hq, hw⟩) _ (List.mem_append_left _ h2)
        simp only at this
        omega
      have : pc_ key (pa 0 X) = p := by
        rw [e3, pc_right (by simp) hlo]
        rw [show p :: b = [p] ++ b from rfl, pc_left ⟨p, by simp, hlk⟩]
        rfl
      rw [this] at e
      rw [(gt_some (pa_so h hp)).mpr h2] at e
      cases e
/-- within a sorted content: the place found holds the key if any does -/
theorem pf_gt {key : Nat} : ∀ {X : List kv_I}, so X → X ≠ [] → ∃ x, X[pf key X]? = some x ∧ gt_ X key = (if x.1 = key then some x.2 else none) := by
  intro X
  induction X with
  | nil => intro _ h; exact absurd rfl h
  | cons x r ih =>
    intro h _
    cases r with
    | nil =>
      refine ⟨x, rfl, ?_⟩
      unfold gt_
      by_cases e : x.1 = key
      · rw [if_pos e, List.find?_cons_of_pos (by simp [e])]; rfl
      · rw [if_neg e, List.find?_cons_of_neg (by simp [e])]; rfl
    | cons y r =>
      have h2 : so (y :: r) := so_sub h (List.sublist_cons_self _ _)
      obtain ⟨z, e1, e2⟩ := ih h2 (by simp)
      unfold pf
      split
      · next hk =>
        refine ⟨x, rfl, ?_⟩
        unfold gt_
        by_cases e : x.1 = key
        · rw [if_pos e, List.find?_cons_of_pos (by simp [e])]; rfl
        · rw [if_neg e, List.find?_cons_of_neg (by simp [e])]
          have : (y :: r).find? (fun x => x.1 == key) = none := by
            rw [List.find?_eq_none]
            intro w hw
            have := (List.pairwise_cons.mp h.1).1 w hw
            simp only [beq_iff_eq]
            omega
          rw [this]; rfl
      · next hk =>
        refine ⟨z, by simpa using e1, ?_⟩
        rw [← e2]
        unfold gt_
        rw [List.find?_cons_of_neg (by simp; omega)]
