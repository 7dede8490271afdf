theorem it_add {α : Type} (F : α → Nat → α) : ∀ (n a : Nat) (x : α), it_ F a (n + 1) x = F (it_ F a n x) (a + n) := by
  intro n
  induction n with
  | zero => intro a x; rfl
  | succ n ih =>
    intro a x
    show it_ F (a + 1) (n + 1) (F x a) = _
    rw [ih (a + 1) (F x a)]
    show F (it_ F (a + 1) n (F x a)) (a + 1 + n) = F (it_ F (a + 1) n (F x a)) (a + (n + 1))
    rw [show a + 1 + n = a + (n + 1) by omega]
theorem it_cg {α : Type} {F G : α → Nat → α} : ∀ (n a : Nat) (x : α), (∀ y j, a ≤ j → j < a + n → F y j = G y j) → it_ F a n x = it_ G a n x := by
  intro n
  induction n with
  | zero => intro a x _; rfl
  | succ n ih =>
    intro a x h
    show it_ F (a + 1) n (F x a) = it_ G (a + 1) n (G x a)
    rw [h x a (Nat.le_refl _) (by omega)]
    exact ih (a + 1) _ (fun y j h1 h2 => h y j (by omega) (by omega))
theorem sZ_s (s : Nat × Nat × Bool) (L : List (Nat × Nat × Bool)) (i : Nat) : sZ (s :: L) (i + 1) = sZ L i := by
  unfold sZ
  rw [List.getD_cons_succ]
theorem ld2_cons (J : Nat → Int32) (s : Nat × Nat × Bool) (L : List (Nat × Nat × Bool)) {f : Nat} (hf : f ≤ L.length) (x : Int32) : ld2 J (s :: L) f x = if s.2.2 = false then jn (ld2 J L f x) (J L.length) else jn (J L.length) (ld2 J L f x) := by
  unfold ld2
  rw [List.length_cons, show L.length + 1 - f = (L.length - f) + 1 by omega, it_add]
  have e : it_ (fun x j => if sZ (s :: L) (L.length + 1 - 1 - j) = false then jn x (J j) else jn (J j) x) f (L.length - f) x = it_ (fun x j => if sZ L (L.length - 1 - j) = false then jn x (J j) else jn (J j) x) f (L.length - f) x := by
    refine it_cg _ _ _ (fun y j h1 h2 => ?_)
    show (if sZ (s :: L) (L.length + 1 - 1 - j) = false then jn y (J j) else jn (J j) y) = _
    rw [show L.length + 1 - 1 - j = (L.length - 1 - j) + 1 by omega, sZ_s]
  rw [e]
  show (if sZ (s :: L) (L.length + 1 - 1 - (f + (L.length - f))) = false then _ else _) = _
  rw [show f + (L.length - f) = L.length by omega, show L.length + 1 - 1 - L.length = 0 by omega]
  rfl
theorem ol2_cons (J : Nat → Int32) (s : Nat × Nat × Bool) (L : List (Nat × Nat × Bool)) {f : Nat} (hf : f ≤ L.length) (x : Int32) : ol2 J (s :: L) f x = if s.2.2 = false then ol2 J L f x else jn (J L.length) (ol2 J L f x) := by
  unfold ol2
  rw [List.length_cons, show L.length + 1 - f = (L.length - f) + 1 by omega, it_add]
  have e : it_ (fun x j => if sZ (s :: L) (L.length + 1 - 1 - j) = false then x else jn (J j) x) f (L.length - f) x = it_ (fun x j => if sZ L (L.length - 1 - j) = false then x else jn (J j) x) f (L.length - f) x := by
    refine it_cg _ _ _ (fun y j h1 h2 => ?_)
    show (if sZ (s :: L) (L.length + 1 - 1 - j) = false then y else jn (J j) y) = _
    rw [show L.length + 1 - 1 - j = (L.length - 1 - j) + 1 by omega, sZ_s]
  rw [e]
  show (if sZ (s :: L) (L.length + 1 - 1 - (f + (L.length - f))) = false then _ else _) = _
  rw [show f + (L.length - f) = L.length by omega, show L.length + 1 - 1 - L.length = 0 by omega]
  rfl
theorem ld2_cg {J K : Nat → Int32} {L : List (Nat × Nat × Bool)} {f : Nat} {x : Int32} (h : ∀ j, j < L.length → J j = K j) : ld2 J L f x = ld2 K L f x := by
  unfold ld2
  refine it_cg _ _ _ (fun y j h1 h2 => ?_)
  show (if _ then _ else _) = if _ then _ else _
  rw [h j (by omega)]
theorem ol2_cg {J K : Nat → Int32} {L : List (Nat × Nat × Bool)} {f : Nat} {x : Int32} (h : ∀ j, j < L.length → J j = K j) : ol2 J L f x = ol2 K L f x := by
  unfold ol2
  refine it_cg _ _ _ (fun y j h1 h2 => ?_)
  show (if _ then _ else _) = if _ then _ else _
  rw [h j (by omega)]
/-- the class's climb is the reference's lead -/
theorem cl_eq (J : Nat → Int32) (x : Int32) : ∀ (d p q v : Nat), q ≤ 2 ^ d → q ≤ 16 → p ≤ v → v < p + q → clC J x d (v - p) q = (ld2 J (wyL (d + 1) p q v) 0 x, (wyL (d + 1) p q v).length) := by
  intro d
  induction d with
  | zero =>
    intro p q v h1 _ _ _
    have : 2 ^ 0 = 1 := rfl
    rw [wyL_0 (by omega)]; rfl
  | succ d ih =>
    intro p q v h1 h2 h3 h4
    by_cases hq : q ≤ 1
    · rw [wyL_0 hq, clC_z J x _ _ (by omega)]; rfl
    · have hb := hf_b (q := q) (by omega) h2
      have h5 := hf_2 (by omega) h2 h1
      by_cases hv : v < p + hf q
      · rw [wyL_l hq hv, clC_l J x rfl (by omega) (by omega), ih p (hf q) v h5.1 (by omega) h3 hv, ld2_cons _ _ _ (Nat.zero_le _), List.length_cons]
        rfl
      · rw [wyL_r hq hv, clC_r J x rfl (by omega) (by omega), show v - p - hf q = v - (p + hf q) by omega, ih (p + hf q) (q - hf q) v h5.2 (by omega) (by omega) (by omega), ld2_cons _ _ _ (Nat.zero_le _), List.length_cons]
        rfl
/-- the class's reading of a growth is the reference's -/
theorem rp_eq (J : Nat → Int32) (one : Int32) : ∀ (d p q m : Nat), q ≤ 2 ^ d → q ≤ 16 → 1 ≤ m → m ≤ q → (if grP (d + 1) p q m = 0 then 0 else 1) ≤ (grL (d + 1) p q m).length ∧ rpC J one d p q m = (ol2 J (grL (d + 1) p q m) (if grP (d + 1) p q m = 0 then 0 else 1) (if grP (d + 1) p q m = 0 then one else J 0), ld2 J (grL (d + 1) p q m) (if grP (d + 1) p q m = 0 then 0 else 1) (if grP (d + 1) p q m = 0 then one else J 0), (grL (d + 1) p q m).length) := by
  have key : ∀ (k d p q : Nat), (if grP (d + 1) p q q = 0 then 0 else 1) ≤ (grL (d + 1) p q q).length ∧ rpC J one k p q q = (ol2 J (grL (d + 1) p q q) (if grP (d + 1) p q q = 0 then 0 else 1) (if grP (d + 1) p q q = 0 then one else J 0), ld2 J (grL (d + 1) p q q) (if grP (d + 1) p q q = 0 then 0 else 1) (if grP (d + 1) p q q = 0 then one else J 0), (grL (d + 1) p q q).length) := by
    intro k d p q
    rw [grP, if_pos rfl, grL, if_pos rfl]
    by_cases hp : p = 0
    · rw [if_pos hp, if_pos hp, if_neg (by omega), rpC_0 J one k (Nat.le_refl q) hp (Or.inr (Nat.le_refl q))]
      exact ⟨Nat.le_refl _, rfl⟩
    · rw [if_neg hp, if_neg hp, if_pos (by omega), rpC_1 J one k (Nat.le_refl q) hp]
      exact ⟨Nat.le_refl _, rfl⟩
  intro d
  induction d with
  | zero =>
    intro p q m h1 _ h3 h4
    have : 2 ^ 0 = 1 := rfl
    obtain rfl : m = q := by omega
    exact key 0 0 p m
  | succ d ih =>
    intro p q m h1 h2 h3 h4
    by_cases hm : m = q
    · subst hm; exact key (d + 1) (d + 1) p m
    · have hb := hf_b (q := q) (by omega) h2
      have h5 := hf_2 (by omega) h2 h1
      by_cases hv : m ≤ hf q
      · obtain ⟨i1, i2⟩ := ih p (hf q) m h5.1 (by omega) h3 hv
        rw [grL_l hm hv, grP_l hm hv, rpC_l J one rfl (by omega) hv, i2, ol2_cons _ _ _ i1, ld2_cons _ _ _ i1, List.length_cons]
        exact ⟨by omega, rfl⟩
      · obtain ⟨i1, i2⟩ := ih (p + hf q) (q - hf q) (m - hf q) h5.2 (by omega) (by omega) (by omega)
        rw [grL_r hm hv, grP_r hm hv, rpC_r J one rfl (by omega) hv, i2, ol2_cons _ _ _ i1, ld2_cons _ _ _ i1, List.length_cons]
        exact ⟨by omega, rfl⟩
