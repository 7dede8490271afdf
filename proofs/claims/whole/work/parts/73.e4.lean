def byB (B : List Int32) : Prop := ∀ x ∈ B, ∃ c : Nat, c < 256 ∧ x = nI c
theorem byB_app {a b : List Int32} (h : byB a) (k : byB b) : byB (a ++ b) := fun x hx => (List.mem_append.mp hx).elim (h x) (k x)
theorem byB_one (y : Int32) : byB [y &&& nI 255] := fun x hx => by
  rw [List.mem_singleton] at hx
  subst hx
  exact and255 y
theorem byB_ib (v : Int32) : byB (ib v) := fun x hx => by
  simp only [ib, List.mem_cons, List.not_mem_nil, or_false] at hx
  rcases hx with rfl | rfl | rfl | rfl <;> exact and255 _
theorem byB_bi (f4 : Nat → Int32) (L : List (Nat × Nat × Bool)) : byB (bi f4 L) := fun x hx => by
  unfold bi at hx
  obtain ⟨y, _, hy⟩ := List.mem_flatMap.mp hx
  exact byB_ib y x hy
theorem byB_ckL : ∀ P : List kv_I, byB (ckL P)
  | [] => fun x hx => by cases hx
  | x :: r => byB_app (fun y hy => by
      rcases List.mem_cons.mp hy with rfl | h
      · exact and255 _
      · exact byB_ib _ y h) (byB_ckL r)
theorem byB_lvB (key : Nat) (X : List kv_I) : ∀ l, byB (lvB key X l)
  | 0 => fun x hx => by cases hx
  | l + 1 => byB_app (byB_app (byB_one _) (byB_ckL _)) (byB_lvB key X l)
theorem byB_prB (f4 : Nat → Int32) (n v key : Nat) (X : List kv_I) : byB (prB f4 n v key X) := byB_app (byB_app (byB_app (byB_one _) (byB_bi _ _)) (byB_one _)) (byB_lvB _ _ _)
theorem byB_gr (f4 : Nat → Int32) (k : Int32) (L : List (Nat × Nat × Bool)) : byB ([k &&& nI 255] ++ bi f4 L) := byB_app (byB_one _) (byB_bi _ _)
theorem bi_cg {f g : Nat → Int32} {L : List (Nat × Nat × Bool)} (h : ∀ x ∈ L, slM f x.1 x.2.1 = slM g x.1 x.2.1) : bi f L = bi g L := by
  unfold bi
  congr 1
  exact List.map_congr_left (fun x hx => h x (List.mem_reverse.mp hx))
theorem wy_in : ∀ (d p q v : Nat), q ≤ 16 → ∀ x ∈ wyL d p q v, 1 ≤ x.2.1 ∧ p ≤ x.1 ∧ x.1 + x.2.1 ≤ p + q := by
  intro d
  induction d with
  | zero => intro p q v _ x hx; cases hx
  | succ d ih =>
    intro p q v hq x hx
    rw [wyL] at hx
    by_cases h1 : q ≤ 1
    · rw [if_pos h1] at hx; cases hx
    rw [if_neg h1] at hx
    obtain ⟨b1, b2, -⟩ := hf_b (show 2 ≤ q by omega) hq
    by_cases h2 : v < p + hf q
    · rw [if_pos h2] at hx
      rcases List.mem_cons.mp hx with rfl | hx
      · exact ⟨by show 1 ≤ q - hf q; omega, by show p ≤ p + hf q; omega, by show p + hf q + (q - hf q) ≤ p + q; omega⟩
      · obtain ⟨i1, i2, i3⟩ := ih p (hf q) v (by omega) x hx
        exact ⟨i1, i2, by omega⟩
    · rw [if_neg h2] at hx
      rcases List.mem_cons.mp hx with rfl | hx
      · exact ⟨b1, Nat.le_refl _, by show p + hf q ≤ p + q; omega⟩
      · obtain ⟨i1, i2, i3⟩ := ih (p + hf q) (q - hf q) v (by omega) x hx
        exact ⟨i1, by omega, by omega⟩
theorem gr_in : ∀ (d p q v : Nat), 1 ≤ v → v ≤ q → q ≤ 16 → ∀ x ∈ grL d p q v, 1 ≤ x.2.1 ∧ p ≤ x.1 ∧ x.1 + x.2.1 ≤ p + q := by
  intro d
  induction d with
  | zero => intro p q v _ _ _ x hx; cases hx
  | succ d ih =>
    intro p q v hv1 hv2 hq x hx
    rw [grL] at hx
    by_cases h1 : v = q
    · rw [if_pos h1] at hx
      by_cases h3 : 0 < p
      · rw [if_pos h3, List.mem_singleton] at hx
        subst hx
        exact ⟨by show 1 ≤ q; omega, Nat.le_refl _, Nat.le_refl _⟩
      · rw [if_neg h3] at hx; cases hx
    rw [if_neg h1] at hx
    obtain ⟨b1, b2, -⟩ := hf_b (show 2 ≤ q by omega) hq
    by_cases h2 : v ≤ hf q
    · rw [if_pos h2] at hx
      rcases List.mem_cons.mp hx with rfl | hx
      · exact ⟨by show 1 ≤ q - hf q; omega, by show p ≤ p + hf q; omega, by show p + hf q + (q - hf q) ≤ p + q; omega⟩
      · obtain ⟨i1, i2, i3⟩ := ih p (hf q) v hv1 (by omega) (by omega) x hx
        exact ⟨i1, i2, by omega⟩
    · rw [if_neg h2] at hx
      rcases List.mem_cons.mp hx with rfl | hx
      · exact ⟨b1, Nat.le_refl _, by show p + hf q ≤ p + q; omega⟩
      · obtain ⟨i1, i2, i3⟩ := ih (p + hf q) (q - hf q) (v - hf q) (by omega) (by omega) (by omega) x hx
        exact ⟨i1, by omega, by omega⟩
theorem bw_cg {f g : Nat → Int32} {n v V : Nat} (hn : n ≤ V) (hV : V ≤ 16) (h : ∀ j, j < V → f j = g j) : bi f (wyL 5 0 n v) = bi g (wyL 5 0 n v) := bi_cg (fun x hx => by
  obtain ⟨i1, i2, i3⟩ := wy_in 5 0 n v (by omega) x hx
  exact slM_cg i1 (by omega) (fun i _ hi => h i (by omega)))
theorem bg_cg {f g : Nat → Int32} {m n V : Nat} (h1 : 1 ≤ m) (hm : m < n) (hn : n ≤ V) (hV : V ≤ 16) (h : ∀ j, j < V → f j = g j) : bi f (grL 5 0 n m) = bi g (grL 5 0 n m) := bi_cg (fun x hx => by
  obtain ⟨i1, i2, i3⟩ := gr_in 5 0 n m h1 (by omega) (by omega) x hx
  exact slM_cg i1 (by omega) (fun i _ hi => h i (by omega)))
theorem pr_cg {f g : Nat → Int32} {n v V key : Nat} {X : List kv_I} (hn : n ≤ V) (hV : V ≤ 16) (h : ∀ j, j < V → f j = g j) : prB f n v key X = prB g n v key X := by
  unfold prB
  rw [bw_cg hn hV h]
theorem ol_gt {X : List kv_I} (h : so X) : ol (gt_ X) 48 = X := by
  refine so_ext (ol_so 48) h.1 (fun x => ?_)
  obtain ⟨k, v⟩ := x
  rw [ol_mem, gt_some h]
  exact ⟨fun q => q.2, fun q => ⟨h.2 _ q, q⟩⟩
theorem gt_ol {f : Nat → Option Int32} {k : Nat} (hk : k < 48) : gt_ (ol f 48) k = f k := by
  cases e : f k with
  | some v => rw [gt_some (ol_is f), ol_mem]; exact ⟨hk, e⟩
  | none =>
    cases e2 : gt_ (ol f 48) k with
    | none => rfl
    | some v =>
      rw [gt_some (ol_is f), ol_mem, e] at e2
      cases e2.2
theorem kq_sub : ∀ (cs S : List ck_I) (f : Nat), (∃ T, (kq cs S f).2.1 = S ++ T) := by
  intro cs
  induction cs with
  | nil => intro S f; exact ⟨[], (List.append_nil _).symm⟩
  | cons c cs ih =>
    intro S f
    rw [kq]
    by_cases h : c ∈ S
    · rw [if_pos h]; exact ih S f
    · rw [if_neg h]
      by_cases h2 : (wr f).1 = true
      · rw [if_pos h2]
        obtain ⟨T, hT⟩ := ih (S ++ [c]) (wr f).2
        exact ⟨[c] ++ T, by rw [hT, List.append_assoc]⟩
      · rw [if_neg h2]; exact ⟨[], (List.append_nil _).symm⟩
theorem kq_mem : ∀ (cs S : List ck_I) (f : Nat), (kq cs S f).1 = true → ∀ c ∈ cs, c ∈ (kq cs S f).2.1 := by
  intro cs
  induction cs with
  | nil => intro S f _ c hc; cases hc
  | cons c cs ih =>
    intro S f
    rw [kq]
    by_cases h : c ∈ S
    · rw [if_pos h]
      intro h1 d hd
      rcases List.mem_cons.mp hd with rfl | hd
      · obtain ⟨T, hT⟩ := kq_sub cs S f
        rw [hT]; exact List.mem_append_left _ h
      · exact ih S f h1 d hd
    · rw [if_neg h]
      by_cases h2 : (wr f).1 = true
      · rw [if_pos h2]
        intro h1 d hd
        rcases List.mem_cons.mp hd with rfl | hd
        · obtain ⟨T, hT⟩ := kq_sub cs (S ++ [d]) (wr f).2
          rw [hT]; exact List.mem_append_left _ (List.mem_append_right _ (List.mem_singleton.mpr rfl))
        · exact ih _ _ h1 d hd
      · rw [if_neg h2]; intro h1; cases h1
theorem kq_id : ∀ (cs S : List ck_I) (f : Nat), (∀ c ∈ cs, c ∈ S) → kq cs S f = (true, S, f) := by
  intro cs
  induction cs with
  | nil => intro S f _; rfl
  | cons c cs ih =>
    intro S f h
    rw [kq, if_pos (h c List.mem_cons_self)]
    exact ih S f (fun d hd => h d (List.mem_cons_of_mem _ hd))
theorem wr_dn (f : Nat) : (wr f).2 ≤ f := by
  unfold wr
  by_cases h : f = 0
  · rw [if_pos h]; exact Nat.zero_le _
  · rw [if_neg h]; exact Nat.sub_le _ _
theorem wr_no {f : Nat} (h : ¬ (wr f).1 = true) : 1 ≤ f ∧ (wr f).2 = 0 := by
  unfold wr at h ⊢
  by_cases h0 : f = 0
  · rw [if_pos h0] at h; exact absurd rfl h
  · rw [if_neg h0] at h ⊢
    have h1 : ¬ 1 < f := fun q => h (decide_eq_true q)
    exact ⟨by omega, by show f - 1 = 0; omega⟩
theorem kq_le : ∀ (cs S : List ck_I) (f : Nat), (kq cs S f).2.2 ≤ f := by
  intro cs
  induction cs with
  | nil => intro S f; exact Nat.le_refl _
  | cons c cs ih =>
    intro S f
    rw [kq]
    by_cases h : c ∈ S
    · rw [if_pos h]; exact ih S f
    · rw [if_neg h]
      by_cases h2 : (wr f).1 = true
      · rw [if_pos h2]; exact Nat.le_trans (ih _ _) (wr_dn f)
      · rw [if_neg h2]; exact wr_dn f
theorem kq_no : ∀ (cs S : List ck_I) (f : Nat), ¬ (kq cs S f).1 = true → 1 ≤ f ∧ (kq cs S f).2.2 = 0 := by
  intro cs
  induction cs with
  | nil => intro S f h; exact absurd rfl h
  | cons c cs ih =>
    intro S f
    rw [kq]
    by_cases h : c ∈ S
    · rw [if_pos h]; exact ih S f
    · rw [if_neg h]
      by_cases h2 : (wr f).1 = true
      · rw [if_pos h2]
        intro h3
        obtain ⟨i1, i2⟩ := ih _ _ h3
        exact ⟨Nat.le_trans i1 (wr_dn f), i2⟩
      · rw [if_neg h2]; intro _; exact wr_no h2
/-- the failing number behind a commit -/
theorem cf_le (K : Bool × List ck_I × Nat) {f : Nat} (h : K.2.2 ≤ f) : cmF K ≤ f := by
  unfold cmF
  by_cases h1 : K.1 = true
  · rw [if_pos h1]; exact Nat.le_trans (wr_dn _) h
  · rw [if_neg h1]; exact h
theorem cf_no {cs S : List ck_I} {f : Nat} (h : ¬ cmO (kq cs S f)) : 1 ≤ f ∧ cmF (kq cs S f) = 0 := by
  unfold cmO at h
  unfold cmF
  by_cases h1 : (kq cs S f).1 = true
  · rw [if_pos h1]
    obtain ⟨a, b⟩ := wr_no (fun q => h ⟨h1, q⟩)
    exact ⟨Nat.le_trans a (kq_le _ _ _), b⟩
  · rw [if_neg h1]; exact kq_no _ _ _ h1
/-- cells ahead that are no chunks -/
def nck (Z : va_W) : Prop := ∀ (q a : Nat) (fs : List Value), Z[q]? ≠ some (a, .inr (1, fs))
theorem cAt_dn {tk : Nat → ClassId} {Z ws : va_W} (hZ : nck Z) {a l : Nat} {Y : List kv_I} {b : Nat → Option Nat} {o : Option Nat} (h : cAt tk (Z ++ ws) a l Y b o) : cAt tk ws a l Y b o := by
  obtain ⟨q, ka, va, ba, fk, fv, h1, h2, h3, h4, h5⟩ := h
  have hq : Z.length ≤ q := by
    refine Nat.le_of_not_lt (fun q1 => ?_)
    rw [List.getElem?_append_left q1] at h1
    exact hZ q _ _ h1
  rw [List.getElem?_append_right (by omega)] at h1 h2 h3 h4
  refine ⟨q - Z.length, ka, va, ba, fk, fv, h1, ?_, ?_, ?_, h5⟩
  · rw [show q - Z.length + 1 = q + 1 - Z.length by omega]; exact h2
  · rw [show q - Z.length + 2 = q + 2 - Z.length by omega]; exact h3
  · rw [show q - Z.length + 3 = q + 3 - Z.length by omega]; exact h4
theorem cAt_up {tk : Nat → ClassId} (Z : va_W) {ws : va_W} {a l : Nat} {Y : List kv_I} {b : Nat → Option Nat} {o : Option Nat} (h : cAt tk ws a l Y b o) : cAt tk (Z ++ ws) a l Y b o := by
  obtain ⟨q, ka, va, ba, fk, fv, h1, h2, h3, h4, h5⟩ := h
  refine ⟨Z.length + q, ka, va, ba, fk, fv, ?_, ?_, ?_, ?_, h5⟩
  · rw [List.getElem?_append_right (by omega), show Z.length + q - Z.length = q by omega]; exact h1
  · rw [List.getElem?_append_right (by omega), show Z.length + q + 1 - Z.length = q + 1 by omega]; exact h2
  · rw [List.getElem?_append_right (by omega), show Z.length + q + 2 - Z.length = q + 2 by omega]; exact h3
  · rw [List.getElem?_append_right (by omega), show Z.length + q + 3 - Z.length = q + 3 by omega]; exact h4
theorem sI_dn {tk : Nat → ClassId} {Z ws : va_W} (hZ : nck Z) {S : List ck_I} {ca : Nat → Nat} {bl : Nat → Nat → Option Nat} (h : sI tk (Z ++ ws) S ca bl) : sI tk ws S ca bl := ⟨h.1, fun c l p hc => cAt_dn hZ (h.2 c l p hc)⟩
theorem sI_up {tk : Nat → ClassId} (Z : va_W) {ws : va_W} {S : List ck_I} {ca : Nat → Nat} {bl : Nat → Nat → Option Nat} (h : sI tk ws S ca bl) : sI tk (Z ++ ws) S ca bl := ⟨h.1, fun c l p hc => cAt_up Z (h.2 c l p hc)⟩
theorem stI_dn {tk : Nat → ClassId} {Z ws : va_W} (hZ : nck Z) {g : Nat → Nat → Int32} {rr : Nat → Nat → Option Nat} {S : List ck_I} {ca : Nat → Nat} {bl : Nat → Nat → Option Nat} {f : Nat} (h : stI tk (Z ++ ws) g rr S ca bl f) : stI tk ws g rr S ca bl f := ⟨sI_dn hZ h.1, h.2⟩
theorem stI_up {tk : Nat → ClassId} (Z : va_W) {ws : va_W} {g : Nat → Nat → Int32} {rr : Nat → Nat → Option Nat} {S : List ck_I} {ca : Nat → Nat} {bl : Nat → Nat → Option Nat} {f : Nat} (h : stI tk ws g rr S ca bl f) : stI tk (Z ++ ws) g rr S ca bl f := ⟨sI_up Z h.1, h.2⟩
def nk9 : Nat × va_E → Bool
  | (_, .inl _) => true
  | (_, .inr (n, _)) => !(n == 1)
theorem nck_of {Z : va_W} (h : Z.all nk9 = true) : nck Z := by
  intro q a fs e
  have h1 := List.all_eq_true.mp h _ (List.mem_of_getElem? e)
  exact absurd h1 (by simp [nk9])
theorem nck_M (tk : Nat → ClassId) (ao : Nat) (x : ClassId × vp_A) (h : Nat) (ad : Nat → Nat) (g : Nat → Nat → Int32) (la : Nat → Int64) : nck ((ao, .inl x) :: wM tk h ad g la) := nck_of rfl
