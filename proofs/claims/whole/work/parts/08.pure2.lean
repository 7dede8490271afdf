-- the mathematics: sorted contents, levels, the store, lookups
def so (X : List kv_I) : Prop := X.Pairwise (fun a b => a.1 < b.1) ∧ ∀ x ∈ X, x.1 < 48
/-- a map below n as a list -/
def ol (f : Nat → Option Int32) : Nat → List kv_I
  | 0 => []
  | n + 1 => match f n with
    | some v => ol f n ++ [(n, v)]
    | none => ol f n
theorem ol_lt {f : Nat → Option Int32} : ∀ n, ∀ x ∈ ol f n, x.1 < n := by
  intro n
  induction n with
  | zero => intro x hx; simp [ol] at hx
  | succ n ih =>
    intro x hx
    unfold ol at hx
    split at hx
    · rcases List.mem_append.mp hx with h | h
      · have := ih x h; omega
      · simp only [List.mem_singleton] at h; subst h; simp
    · have := ih x hx; omega
theorem ol_mem {f : Nat → Option Int32} : ∀ n k v, (k, v) ∈ ol f n ↔ k < n ∧ f k = some v := by
  intro n
  induction n with
  | zero => intro k v; simp [ol]
  | succ n ih =>
    intro k v
    unfold ol
    split
    · next w hw =>
      rw [List.mem_append, ih, List.mem_singleton, Prod.mk.injEq]
      constructor
      · rintro (⟨h1, h2⟩ | ⟨rfl, rfl⟩)
        · exact ⟨by omega, h2⟩
        · exact ⟨by omega, hw⟩
      · rintro ⟨h1, h2⟩
        by_cases hk : k = n
        · subst hk; rw [hw] at h2; exact Or.inr ⟨rfl, (Option.some.inj h2).symm⟩
        · exact Or.inl ⟨by omega, h2⟩
    · next hw =>
      rw [ih]
      constructor
      · rintro ⟨h1, h2⟩; exact ⟨by omega, h2⟩
      · rintro ⟨h1, h2⟩
        by_cases hk : k = n
        · subst hk; rw [hw] at h2; cases h2
        · exact ⟨by omega, h2⟩
theorem ol_so {f : Nat → Option Int32} : ∀ n, (ol f n).Pairwise (fun a b => a.1 < b.1) := by
  intro n
  induction n with
  | zero => exact List.Pairwise.nil
  | succ n ih =>
    unfold ol
    split
    · refine List.pairwise_append.mpr ⟨ih, List.pairwise_singleton _ _, fun a ha b hb => ?_⟩
      rw [List.mem_singleton] at hb
      subst hb
      exact ol_lt n a ha
    · exact ih
theorem ol_is (f : Nat → Option Int32) : so (ol f 48) := ⟨ol_so 48, ol_lt 48⟩
theorem ol_ext {f g : Nat → Option Int32} : ∀ n, (∀ k, k < n → f k = g k) → ol f n = ol g n := by
  intro n
  induction n with
  | zero => intro _; rfl
  | succ n ih =>
    intro h
    unfold ol
    rw [h n (Nat.lt_succ_self n), ih (fun k hk => h k (Nat.lt_succ_of_lt hk))]
theorem ol_inj {f g : Nat → Option Int32} {n : Nat} (h : ol f n = ol g n) : ∀ k, k < n → f k = g k := by
  intro k hk
  cases hf : f k with
  | some v =>
    have : (k, v) ∈ ol g n := by rw [← h]; exact (ol_mem n k v).mpr ⟨hk, hf⟩
    exact (((ol_mem n k v).mp this).2).symm
  | none =>
    cases hg : g k with
    | none => rfl
    | some v =>
      have : (k, v) ∈ ol f n := by rw [h]; exact (ol_mem n k v).mpr ⟨hk, hg⟩
      rw [((ol_mem n k v).mp this).2] at hf
      cases hf
/-- how many keys in [a, b) have P -/
def cn (P : Nat → Bool) (a : Nat) : Nat → Nat
  | 0 => 0
  | n + 1 => cn P a n + (if P (a + n) = true then 1 else 0)
theorem cn_step {P : Nat → Bool} {a : Nat} : ∀ n, cn P a (n + 1) = (if P a = true then 1 else 0) + cn P (a + 1) n := by
  intro n
  induction n with
  | zero => simp [cn]
  | succ n ih =>
    rw [cn, ih, cn, Nat.add_assoc, show a + (n + 1) = a + 1 + n by omega]
theorem cn_skip {P : Nat → Bool} : ∀ d a n, cn P (a + d) n ≤ cn P a (n + d) := by
  intro d
  induction d with
  | zero => intro a n; exact Nat.le_refl _
  | succ d ih =>
    intro a n
    rw [show n + (d + 1) = (n + d) + 1 by omega, cn_step]
    have := ih (a + 1) n
    rw [show a + 1 + d = a + (d + 1) by omega] at this
    omega
theorem cn_le {P : Nat → Bool} : ∀ (ks : List Nat) (a n : Nat), ks.Pairwise (· < ·) → (∀ k ∈ ks, a ≤ k ∧ k < a + n ∧ P k = true) → ks.length ≤ cn P a n := by
  intro ks
  induction ks with
  | nil => intro a n _ _; exact Nat.zero_le _
  | cons k ks ih =>
    intro a n hp h
    obtain ⟨h1, h2, h3⟩ := h k List.mem_cons_self
    rw [List.pairwise_cons] at hp
    have h4 := ih (k + 1) (a + n - (k + 1)) hp.2 (fun j hj => ⟨hp.1 j hj, by have := (h j (List.mem_cons_of_mem _ hj)).2.1; omega, (h j (List.mem_cons_of_mem _ hj)).2.2⟩)
    have h5 := cn_skip (P := P) (k - a) a (a + n - (k + 1) + 1)
    rw [show a + (k - a) = k by omega, show a + n - (k + 1) + 1 + (k - a) = n by omega, cn_step, if_pos h3] at h5
    rw [List.length_cons]
    omega
theorem so_sub {X Y : List kv_I} (h : so X) (hs : Y.Sublist X) : so Y := ⟨h.1.sublist hs, fun x hx => h.2 x (hs.subset hx)⟩
theorem pa_sub {l : Nat} {X p : List kv_I} (hp : p ∈ pa l X) : p.Sublist X := by
  obtain ⟨a, b, e⟩ := List.append_of_mem hp
  have h := pa_flat l X
  rw [e, List.flatten_append, List.flatten_cons] at h
  rw [← h]
  exact (List.sublist_append_left p b.flatten).trans (List.sublist_append_right a.flatten _)
theorem pa_so {l : Nat} {X p : List kv_I} (h : so X) (hp : p ∈ pa l X) : so p := so_sub h (pa_sub hp)
theorem lk_mem {p : List kv_I} (h : p ≠ []) : ∃ v, (lk p, v) ∈ p := by
  obtain ⟨a, x, rfl⟩ : ∃ a x, p = a ++ [x] := ⟨p.dropLast, p.getLast h, (List.dropLast_concat_getLast h).symm⟩
  rw [lk_snoc]
  exact ⟨x.2, by simp⟩
theorem lk_max {p : List kv_I} (h : so p) : ∀ x ∈ p, x.1 ≤ lk p := by
  intro x hx
  have hne : p ≠ [] := List.ne_nil_of_mem hx
  obtain ⟨a, y, rfl⟩ : ∃ a y, p = a ++ [y] := ⟨p.dropLast, p.getLast hne, (List.dropLast_concat_getLast hne).symm⟩
  rw [lk_snoc]
  rcases List.mem_append.mp hx with h1 | h1
  · exact Nat.le_of_lt ((List.pairwise_append.mp h.1).2.2 x h1 y (by simp))
  · simp only [List.mem_singleton] at h1; subst h1; exact Nat.le_refl _
theorem lk_lt {p : List kv_I} (h : so p) (hne : p ≠ []) : lk p < 48 := by
  obtain ⟨v, hv⟩ := lk_mem hne
  exact h.2 _ hv
/-- the last keys of the chunks rise -/
theorem pa_lks {l : Nat} {X : List kv_I} (h : so X) : ((pa l X).map lk).Pairwise (· < ·) := by
  have h1 := pa_flat l X
  have h2 : ∀ p ∈ pa l X, p ≠ [] := pa_ne
  have h3 : so (pa l X).flatten := by rw [h1]; exact h
  clear h1
  generalize pa l X = ps at h2 h3
  induction ps with
  | nil => exact List.Pairwise.nil
  | cons p ps ih =>
    rw [List.flatten_cons] at h3
    have h4 : so ps.flatten := so_sub h3 (List.sublist_append_right _ _)
    rw [List.map_cons, List.pairwise_cons]
    refine ⟨fun k hk => ?_, ih (fun q hq => h2 q (List.mem_cons_of_mem _ hq)) h4⟩
    obtain ⟨q, hq, rfl⟩ := List.mem_map.mp hk
    obtain ⟨v, hv⟩ := lk_mem (h2 p List.mem_cons_self)
    obtain ⟨w, hw⟩ := lk_mem (h2 q (List.mem_cons_of_mem _ hq))
    exact (List.pairwise_append.mp h3.1).2.2 _ hv _ (List.mem_flatten.mpr ⟨q, hq, hw⟩)
/-- of the keys below 48 none ends the chunks of levels 0, 1 and 2 -/
theorem en_012 : ∀ k, k < 48 → en 0 k = true → en 1 k = true → en 2 k = false := by decide +kernel
theorem en_c0 : cn (fun k => en 0 k) 0 48 = 12 := by decide +kernel
theorem en_c01 : cn (fun k => en 0 k && en 1 k) 0 48 = 2 := by decide +kernel
theorem en_n0 : cn (fun k => !en 0 k) 0 48 = 36 := by decide +kernel
theorem en_n1 : cn (fun k => en 0 k && !en 1 k) 0 48 = 10 := by decide +kernel
theorem pa_count {l : Nat} {X : List kv_I} (h : so X) (P : Nat → Bool) (hP : ∀ k, (∀ j, j ≤ l → en j k = true) → P k = true) : (pa l X).length ≤ cn P 0 48 + 1 := by
  by_cases hX : X = []
  · rw [pa_nil.mpr hX]; simp
  obtain ⟨ps, p, e, -⟩ := pa_last (l := l) hX
  have h1 := pa_lks (l := l) h
  rw [e, List.map_append, List.pairwise_append] at h1
  have h2 := cn_le (P := P) (ps.map lk) 0 48 h1.1 (fun k hk => by
    obtain ⟨q, hq, rfl⟩ := List.mem_map.mp hk
    have hqm : q ∈ pa l X := by rw [e]; exact List.mem_append_left _ hq
    obtain ⟨a, b, e2⟩ := List.append_of_mem hq
    exact ⟨Nat.zero_le _, by have := lk_lt (pa_so h hqm) (pa_ne q hqm); omega, hP _ (pa_end l a q (b ++ [p]) (by rw [e, e2]; simp) (by simp))⟩)
  rw [e, List.length_append, List.length_singleton]
  rw [List.length_map] at h2
  omega
theorem pa_c0 {X : List kv_I} (h : so X) : (pa 0 X).length ≤ 13 := by
  have := pa_count (l := 0) h (fun k => en 0 k) (fun k hk => hk 0 (Nat.le_refl _))
  rw [en_c0] at this
  exact this
theorem pa_c1 {X : List kv_I} (h : so X) : (pa 1 X).length ≤ 3 := by
  have := pa_count (l := 1) h (fun k => en 0 k && en 1 k) (fun k hk => by rw [hk 0 (by omega), hk 1 (by omega)]; rfl)
  rw [en_c01] at this
  exact this
theorem pa_c2 {X : List kv_I} (h : so X) (hX : X ≠ []) : pa 2 X = [X] := by
  obtain ⟨ps, p, e, -⟩ := pa_last (l := 1) hX
  have h1 : cu (fun p => en 2 (lk p)) (pa 1 X) = [pa 1 X] := by
    refine cu_one ⟨ps, p, e, fun q hq => ?_⟩
    have hqm : q ∈ pa 1 X := by rw [e]; exact List.mem_append_left _ hq
    obtain ⟨a, b, e2⟩ := List.append_of_mem hq
    have h3 := pa_end 1 a q (b ++ [p]) (by rw [e, e2]; simp) (by simp)
    exact en_012 _ (lk_lt (pa_so h hqm) (pa_ne q hqm)) (h3 0 (by omega)) (h3 1 (by omega))
  show (cu _ _).map _ = [X]
  rw [h1, List.map_singleton, pa_flat]
/-- how many levels the tree over X has -/
def hg (X : List kv_I) : Nat := if X = [] then 0 else if (pa 0 X).length = 1 then 1 else if (pa 1 X).length = 1 then 2 else 3
theorem hg_le (X : List kv_I) : hg X ≤ 3 := by
  unfold hg
  split
  · omega
  · split
    · omega
    · split <;> omega
theorem pa_single {l : Nat} {X : List kv_I} (h : (pa l X).length = 1) : pa l X = [X] := by
  have h1 := pa_flat l X
  cases e : pa l X with
  | nil => rw [e] at h; simp at h
  | cons p ps =>
    rw [e] at h
    have : ps = [] := by cases ps with | nil => rfl | cons _ _ => simp at h
    subst this
    rw [e] at h1
    simp only [List.flatten_cons, List.flatten_nil, List.append_nil] at h1
    rw [h1]
theorem hg_top {X : List kv_I} (h : so X) (hX : X ≠ []) : ∃ l, hg X = l + 1 ∧ pa l X = [X] := by
  unfold hg
  rw [if_neg hX]
  split
  · next h0 => exact ⟨0, rfl, pa_single h0⟩
  · split
    · next h1 => exact ⟨1, rfl, pa_single h1⟩
    · exact ⟨2, rfl, pa_c2 h hX⟩
theorem hg_more {X : List kv_I} (h : so X) {l : Nat} (hl : l + 1 < hg X) : (pa l X).length ≠ 1 := by
  unfold hg at hl
  split at hl
  · omega
  · split at hl
    · omega
    · next h0 =>
      split at hl
      · have : l = 0 := by omega
        subst this; exact h0
      · next h1 =>
        have : l = 0 ∨ l = 1 := by omega
        rcases this with rfl | rfl
        · exact h0
        · exact h1
/-- the root -/
def rt (X : List kv_I) : Int32 := if X = [] then 0 else hs (hg X - 1) (im (hg X - 1) X)
/-- a write, where f counts up to the one that fails -/
def wr (f : Nat) : Bool × Nat := if f = 0 then (true, 0) else (decide (1 < f), f - 1)
abbrev ck_I : Type := Nat × List kv_I
/-- chunks wanted, one after the other: each is there or is written -/
def kq : List ck_I → List ck_I → Nat → Bool × List ck_I × Nat
  | [], S, f => (true, S, f)
  | c :: cs, S, f => if c ∈ S then kq cs S f else if (wr f).1 = true then kq cs (S ++ [c]) (wr f).2 else (false, S, (wr f).2)
theorem kq_app : ∀ (a b S : List ck_I) (f : Nat), kq (a ++ b) S f = if (kq a S f).1 = true then kq b (kq a S f).2.1 (kq a S f).2.2 else kq a S f := by
  intro a
  induction a with
  | nil => intro b S f; simp [kq]
  | cons c cs ih =>
    intro b S f
    rw [List.cons_append]
    simp only [kq]
    split
    · exact ih b S f
    · split
      · exact ih b _ _
      · simp
/-- the chunks that a commit of X wants, in their order -/
def rq (X : List kv_I) : List ck_I := (List.range (hg X)).flatMap (fun l => (pa l X).map (fun p => (l, p)))
