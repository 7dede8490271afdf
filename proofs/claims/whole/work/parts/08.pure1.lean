-- the mathematics of the book: keys, cuts, chunks, levels
/-- MIX, as both programs compute it -/
def mx (h x : Int32) : Int32 := ((h ^^^ x) * 73244475) ^^^ ((((h ^^^ x) * 73244475).toUInt32 >>> ((15 : Int32).toUInt32 &&& Int32.toUInt32 31)).toInt32)
/-- a key ends a chunk of a level -/
def en (l k : Nat) : Bool := decide (((mx (mx (mx 9 (nI l)) (nI k)) 5) &&& 3) = 0)
abbrev kv_I : Type := Nat × Int32
/-- a list cut behind each place where f says so; what is left is the last piece -/
def cu {α : Type} (f : α → Bool) : List α → List (List α)
  | [] => []
  | x :: xs => match cu f xs with
    | [] => [[x]]
    | g :: gs => if f x = true then [x] :: g :: gs else (x :: g) :: gs
theorem cu_cons {α : Type} {f : α → Bool} {x : α} {xs : List α} : cu f (x :: xs) = match cu f xs with
    | [] => [[x]]
    | g :: gs => if f x = true then [x] :: g :: gs else (x :: g) :: gs := by
  conv => lhs; unfold cu
theorem cu_nil {α : Type} {f : α → Bool} {xs : List α} : cu f xs = [] ↔ xs = [] := by
  cases xs with
  | nil => simp [cu]
  | cons x xs =>
    constructor
    · intro h
      rw [cu_cons] at h
      split at h
      · cases h
      · split at h <;> cases h
    · intro h; cases h
theorem cu_flat {α : Type} (f : α → Bool) (xs : List α) : (cu f xs).flatten = xs := by
  induction xs with
  | nil => rfl
  | cons x xs ih =>
    rw [cu_cons]
    split
    · next h => rw [cu_nil] at h; subst h; rfl
    · next g gs h =>
      rw [h, List.flatten_cons] at ih
      split
      · rw [List.flatten_cons, List.flatten_cons, ih]; rfl
      · rw [List.flatten_cons, List.cons_append, ih]
/-- what a piece is: not empty, and f says no ahead of its last -/
def cu_pc {α : Type} (f : α → Bool) (g : List α) : Prop := ∃ a x, g = a ++ [x] ∧ ∀ y ∈ a, f y = false
theorem cu_pcs {α : Type} {f : α → Bool} {xs : List α} : ∀ g ∈ cu f xs, cu_pc f g := by
  induction xs with
  | nil => intro g hg; simp [cu] at hg
  | cons x xs ih =>
    intro g hg
    rw [cu_cons] at hg
    split at hg
    · rw [List.mem_singleton] at hg; subst hg; exact ⟨[], x, rfl, by simp⟩
    · next g1 gs e =>
      rw [e] at ih
      split at hg
      · rcases List.mem_cons.mp hg with rfl | hg
        · exact ⟨[], x, rfl, by simp⟩
        · exact ih g hg
      · next hf =>
        rcases List.mem_cons.mp hg with rfl | hg
        · obtain ⟨a, z, rfl, ha⟩ := ih g1 List.mem_cons_self
          refine ⟨x :: a, z, rfl, fun y hy => ?_⟩
          rcases List.mem_cons.mp hy with rfl | hy
          · simpa using hf
          · exact ha y hy
        · exact ih g (List.mem_cons_of_mem _ hg)
theorem cu_pc.ne {α : Type} {f : α → Bool} {g : List α} (h : cu_pc f g) : g ≠ [] := by
  obtain ⟨a, x, rfl, -⟩ := h
  simp
theorem cu_one {α : Type} {f : α → Bool} {g : List α} (h : cu_pc f g) : cu f g = [g] := by
  obtain ⟨a, x, rfl, ha⟩ := h
  induction a with
  | nil => rfl
  | cons y a ih =>
    rw [List.cons_append, cu_cons, ih (fun z hz => ha z (List.mem_cons_of_mem _ hz))]
    simp only
    rw [if_neg (by rw [ha y List.mem_cons_self]; decide)]
theorem cu_app {α : Type} {f : α → Bool} {x : α} (h : f x = true) (ys : List α) : ∀ xs : List α, cu f (xs ++ x :: ys) = cu f (xs ++ [x]) ++ cu f ys := by
  intro xs
  induction xs with
  | nil =>
    rw [List.nil_append, List.nil_append, cu_cons]
    have e : cu f [x] = [[x]] := rfl
    rw [e]
    split
    · next h1 => rw [h1]; rfl
    · next g gs h1 => rw [h1, if_pos h]; rfl
  | cons r rs ih =>
    rw [List.cons_append, cu_cons, ih, List.cons_append, cu_cons (x := r) (xs := rs ++ [x])]
    cases e : cu f (rs ++ [x]) with
    | nil => rw [cu_nil] at e; simp at e
    | cons g gs =>
      simp only [List.cons_append]
      split <;> rfl
theorem cu_map {α β : Type} (f : β → Bool) (m : α → β) (xs : List α) : cu f (xs.map m) = (cu (fun x => f (m x)) xs).map (List.map m) := by
  induction xs with
  | nil => rfl
  | cons x xs ih =>
    rw [List.map_cons, cu_cons, cu_cons, ih]
    cases cu (fun x => f (m x)) xs with
    | nil => rfl
    | cons g gs =>
      simp only [List.map_cons]
      split <;> rfl
/-- a piece that isn't the last one ends where f says so -/
theorem cu_end {α : Type} {f : α → Bool} {xs : List α} : ∀ (gs : List (List α)) (g : List α) (hs : List (List α)), cu f xs = gs ++ g :: hs → hs ≠ [] → ∃ a x, g = a ++ [x] ∧ f x = true := by
  induction xs with
  | nil => intro gs g hs h; simp [cu] at h
  | cons x xs ih =>
    intro gs g hs h hne
    rw [cu_cons] at h
    split at h
    · cases gs with
      | nil => simp only [List.nil_append, List.cons.injEq] at h; exact absurd h.2.symm hne
      | cons a b => simp at h
    · next g1 gs1 e =>
      split at h
      · next hf =>
        cases gs with
        | nil =>
          simp only [List.nil_append, List.cons.injEq] at h
          exact ⟨[], x, h.1.symm, hf⟩
        | cons a b =>
          simp only [List.cons_append, List.cons.injEq] at h
          exact ih b g hs (by rw [e]; exact h.2) hne
      · cases gs with
        | nil =>
          simp only [List.nil_append, List.cons.injEq] at h
          obtain ⟨a, z, h1, h2⟩ := ih [] g1 hs (by rw [e, List.nil_append, h.2]) hne
          exact ⟨x :: a, z, by rw [← h.1, h1]; rfl, h2⟩
        | cons a b =>
          simp only [List.cons_append, List.cons.injEq] at h
          exact ih (g1 :: b) g hs (by rw [e, h.2]; rfl) hne
/-- the last key of a content -/
def lk (p : List kv_I) : Nat := (p.getLast?.map (fun x => x.1)).getD 0
theorem lk_snoc (p : List kv_I) (x : kv_I) : lk (p ++ [x]) = x.1 := by
  unfold lk
  rw [List.getLast?_concat]
  rfl
theorem lk_app {p q : List kv_I} (h : q ≠ []) : lk (p ++ q) = lk q := by
  obtain ⟨a, x, rfl⟩ : ∃ a x, q = a ++ [x] := ⟨q.dropLast, q.getLast h, (List.dropLast_concat_getLast h).symm⟩
  rw [← List.append_assoc, lk_snoc, lk_snoc]
/-- the contents of the chunks of level l over the content X -/
def pa : Nat → List kv_I → List (List kv_I)
  | 0, X => cu (fun x => en 0 x.1) X
  | l + 1, X => (cu (fun p => en (l + 1) (lk p)) (pa l X)).map List.flatten
def hs (l : Nat) (c : List kv_I) : Int32 := c.foldl (fun h x => mx (mx h (nI x.1)) x.2) (mx 6 (nI l))
/-- the items of level l over the content X -/
def im : Nat → List kv_I → List kv_I
  | 0, X => X
  | l + 1, X => (pa l X).map (fun p => (lk p, hs l (im l p)))
/-- the item over a chunk -/
def ov (l : Nat) (p : List kv_I) : kv_I := (lk p, hs l (im l p))
theorem im_succ (l : Nat) (X : List kv_I) : im (l + 1) X = (pa l X).map (ov l) := rfl
theorem pa_flat (l : Nat) (X : List kv_I) : (pa l X).flatten = X := by
  induction l with
  | zero => exact cu_flat _ _
  | succ l ih =>
    show ((cu _ _).map List.flatten).flatten = X
    rw [← List.flatten_flatten, cu_flat, ih]
theorem flat_ne {α : Type} {g : List (List α)} (h : g ≠ []) (hp : ∀ p ∈ g, p ≠ []) : g.flatten ≠ [] := by
  cases g with
  | nil => exact absurd rfl h
  | cons p ps =>
    have := hp p List.mem_cons_self
    simp [this]
theorem cu_sub {α : Type} {f : α → Bool} {xs : List α} {g : List α} (hg : g ∈ cu f xs) : ∀ x ∈ g, x ∈ xs := by
  intro x hx
  rw [← cu_flat f xs]
  exact List.mem_flatten.mpr ⟨g, hg, hx⟩
theorem pa_ne {l : Nat} {X : List kv_I} : ∀ p ∈ pa l X, p ≠ [] := by
  induction l with
  | zero => exact fun p hp => (cu_pcs p hp).ne
  | succ l ih =>
    intro p hp
    obtain ⟨g, hg, rfl⟩ := List.mem_map.mp hp
    exact flat_ne (cu_pcs g hg).ne (fun q hq => ih q (cu_sub hg q hq))
theorem pa_nil {l : Nat} {X : List kv_I} : pa l X = [] ↔ X = [] := by
  constructor
  · intro h
    have := pa_flat l X
    rw [h] at this
    exact this.symm
  · rintro rfl
    induction l with
    | zero => rfl
    | succ l ih => show (cu _ _).map _ = []; rw [ih]; rfl
theorem lk_flat {g : List (List kv_I)} {p : List kv_I} (hp : p ≠ []) : lk ((g ++ [p]).flatten) = lk p := by
  rw [List.flatten_append]
  simp only [List.flatten_cons, List.flatten_nil, List.append_nil]
  exact lk_app hp
theorem pa_last {l : Nat} {X : List kv_I} (hX : X ≠ []) : ∃ ps p, pa l X = ps ++ [p] ∧ lk p = lk X := by
  have hne : pa l X ≠ [] := fun h => hX (pa_nil.mp h)
  refine ⟨(pa l X).dropLast, (pa l X).getLast hne, (List.dropLast_concat_getLast hne).symm, ?_⟩
  have h2 := pa_flat l X
  rw [← List.dropLast_concat_getLast hne] at h2
  have h3 : ((pa l X).getLast hne) ≠ [] := pa_ne _ (List.getLast_mem hne)
  have h4 := lk_flat (g := (pa l X).dropLast) h3
  rw [h2] at h4
  exact h4.symm
/-- where the left part's last key ends its chunks up to level l, the chunks stay apart -/
theorem pa_app {X : List kv_I} (hX : X ≠ []) (Y : List kv_I) : ∀ l : Nat, (∀ j, j ≤ l → en j (lk X) = true) → pa l (X ++ Y) = pa l X ++ pa l Y := by
  intro l
  induction l with
  | zero =>
    intro h
    obtain ⟨a, x, rfl⟩ : ∃ a x, X = a ++ [x] := ⟨X.dropLast, X.getLast hX, (List.dropLast_concat_getLast hX).symm⟩
    rw [lk_snoc] at h
    show cu _ _ = cu _ _ ++ cu _ _
    rw [List.append_assoc]
    exact cu_app (f := fun x : kv_I => en 0 x.1) (h 0 (Nat.le_refl _)) _ _
  | succ l ih =>
    intro h
    show (cu _ _).map _ = (cu _ _).map _ ++ (cu _ _).map _
    rw [ih (fun j hj => h j (Nat.le_succ_of_le hj))]
    obtain ⟨ps, p, e, e2⟩ := pa_last (l := l) hX
    rw [e, List.append_assoc, ← List.map_append]
    congr 1
    exact cu_app (f := fun p => en (l + 1) (lk p)) (by show en (l + 1) (lk p) = true; rw [e2]; exact h _ (Nat.le_refl _)) _ _
/-- a chunk that isn't the last one: its last key ends the chunks of all levels up to its own -/
theorem pa_end {X : List kv_I} : ∀ (l : Nat) (a : List (List kv_I)) (p : List kv_I) (b : List (List kv_I)), pa l X = a ++ p :: b → b ≠ [] → ∀ j, j ≤ l → en j (lk p) = true := by
  intro l
  induction l with
  | zero =>
    intro a p b h hb j hj
    obtain ⟨a1, x, rfl, hx⟩ := cu_end a p b h hb
    rw [lk_snoc]
    have : j = 0 := by omega
    subst this
    exact hx
  | succ l ih =>
    intro a p b h hb j hj
    have h0 : (cu (fun p => en (l + 1) (lk p)) (pa l X)).map List.flatten = a ++ p :: b := h
    obtain ⟨ga, r, e1, e2, e3⟩ := List.map_eq_append_iff.mp h0
    obtain ⟨g, gb, e4, e5, e6⟩ := List.map_eq_cons_iff.mp e3
    subst e4
    have hgb : gb ≠ [] := by rintro rfl; exact hb e6.symm
    obtain ⟨c, q, e7, e8⟩ := cu_end ga g gb e1 hgb
    have hflat := cu_flat (fun p => en (l + 1) (lk p)) (pa l X)
    rw [e1] at hflat
    have hq : q ∈ pa l X := by rw [← hflat]; exact List.mem_flatten.mpr ⟨g, by simp, by rw [e7]; simp⟩
    have hlk : lk p = lk q := by rw [← e5, e7]; exact lk_flat (pa_ne q hq)
    rw [hlk]
    by_cases hjl : j = l + 1
    · subst hjl; exact e8
    · refine ih (ga.flatten ++ c) q gb.flatten ?_ ?_ j (by omega)
      · rw [← hflat, e7]; simp
      · exact flat_ne hgb (fun z hz => (cu_pcs z (by rw [e1]; simp [hz])).ne)
/-- contents of which each is one chunk, and ends its chunks but perhaps the last: end to end they are these chunks again -/
theorem pa_glue {l : Nat} : ∀ g : List (List kv_I), (∀ p ∈ g, p ≠ [] ∧ pa l p = [p]) → (∀ a p b, g = a ++ p :: b → b ≠ [] → ∀ j, j ≤ l → en j (lk p) = true) → pa l g.flatten = g := by
  intro g
  induction g with
  | nil => intro _ _; exact pa_nil.mpr rfl
  | cons p ps ih =>
    intro h1 h2
    obtain ⟨hp, hp1⟩ := h1 p List.mem_cons_self
    have ih := ih (fun q hq => h1 q (List.mem_cons_of_mem _ hq)) (fun a q b e hb => h2 (p :: a) q b (by rw [e]; rfl) hb)
    by_cases hps : ps = []
    · subst hps; simpa using hp1
    · rw [List.flatten_cons, pa_app hp _ l (h2 [] p ps rfl hps), hp1, ih]; rfl
/-- each chunk's content is one chunk of its level -/
theorem pa_atom {X : List kv_I} : ∀ l : Nat, ∀ p ∈ pa l X, pa l p = [p] := by
  intro l
  induction l with
  | zero => exact fun p hp => cu_one (cu_pcs p hp)
  | succ l ih =>
    intro p hp
    obtain ⟨g, hg, rfl⟩ := List.mem_map.mp hp
    have hloc : pa l g.flatten = g := by
      obtain ⟨ga, gb, e⟩ := List.append_of_mem hg
      have hflat := cu_flat (fun p => en (l + 1) (lk p)) (pa l X)
      rw [e] at hflat
      refine pa_glue g (fun q hq => ⟨pa_ne q (cu_sub hg q hq), ih q (cu_sub hg q hq)⟩) (fun a q b e1 hb => ?_)
      refine pa_end (X := X) l (ga.flatten ++ a) q (b ++ gb.flatten) ?_ (by simp [hb])
      rw [← hflat, e1]; simp
    show (cu _ (pa l g.flatten)).map _ = _
    rw [hloc, cu_one (cu_pcs g hg)]
    rfl
/-- the chunks of level l within a piece of the cut at level l + 1 -/
theorem pa_loc {X : List kv_I} {l : Nat} {g : List (List kv_I)} (hg : g ∈ cu (fun p => en (l + 1) (lk p)) (pa l X)) : pa l g.flatten = g := by
  obtain ⟨ga, gb, e⟩ := List.append_of_mem hg
  have hflat := cu_flat (fun p => en (l + 1) (lk p)) (pa l X)
  rw [e] at hflat
  refine pa_glue g (fun q hq => ⟨pa_ne q (cu_sub hg q hq), pa_atom l q (cu_sub hg q hq)⟩) (fun a q b e1 hb => ?_)
  refine pa_end (X := X) l (ga.flatten ++ a) q (b ++ gb.flatten) ?_ (by simp [hb])
  rw [← hflat, e1]; simp
/-- the items of a level, cut: each piece is the items of its chunk -/
theorem im_cut (X : List kv_I) : ∀ l : Nat, cu (fun x => en l x.1) (im l X) = (pa l X).map (im l) := by
  intro l
  cases l with
  | zero =>
    show cu _ X = (cu _ X).map (im 0)
    have : (im 0 : List kv_I → List kv_I) = id := rfl
    rw [this, List.map_id]
  | succ l =>
    rw [im_succ, cu_map]
    show _ = ((cu _ _).map List.flatten).map _
    rw [List.map_map]
    refine List.map_congr_left (fun g hg => ?_)
    show List.map (ov l) g = im (l + 1) g.flatten
    rw [im_succ, pa_loc hg]
/-- the chunks of a level, chunk by chunk of the level above -/
theorem pa_split (X : List kv_I) (l : Nat) : pa l X = (pa (l + 1) X).flatMap (pa l) := by
  have h := cu_flat (fun p => en (l + 1) (lk p)) (pa l X)
  show pa l X = ((cu (fun p => en (l + 1) (lk p)) (pa l X)).map List.flatten).flatMap (pa l)
  rw [List.flatMap_map, List.flatMap_def]
  have h2 : (cu (fun p => en (l + 1) (lk p)) (pa l X)).map (fun a => pa l a.flatten) = cu (fun p => en (l + 1) (lk p)) (pa l X) := by
    conv => rhs; rw [← List.map_id (cu (fun p => en (l + 1) (lk p)) (pa l X))]
    exact List.map_congr_left (fun g hg => pa_loc hg)
  rw [h2]
  exact h.symm
