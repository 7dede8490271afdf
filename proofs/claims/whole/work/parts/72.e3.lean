theorem so_itC {f : Nat → Int32} {t0 p : Nat} : ∀ n, okC f t0 p n → so (itC f t0 p n) ∧ (1 ≤ n → ∀ x ∈ itC f t0 p n, x.1 ≤ rb f t0 (p + 1 + 5 * (n - 1))) := by
  intro n
  induction n with
  | zero => intro _; exact ⟨⟨List.Pairwise.nil, fun x hx => by cases hx⟩, fun h => absurd h (by omega)⟩
  | succ n ih =>
    intro h
    obtain ⟨i1, i2⟩ := ih (fun i hi => h i (by omega))
    obtain ⟨h1, h2⟩ := h n (by omega)
    rw [itC_succ]
    have hlt : ∀ x ∈ itC f t0 p n, x.1 < rb f t0 (p + 1 + 5 * n) := by
      intro x hx
      have hn : 1 ≤ n := by
        rcases Nat.eq_zero_or_pos n with hz | hz
        · subst hz; cases hx
        · exact hz
      have := i2 hn x hx
      have := h1.resolve_left (by omega)
      omega
    refine ⟨⟨?_, ?_⟩, fun _ x hx => ?_⟩
    · rw [List.pairwise_append]
      refine ⟨i1.1, List.pairwise_singleton _ _, fun x hx y hy => ?_⟩
      rw [List.mem_singleton] at hy
      subst hy
      exact hlt x hx
    · intro x hx
      rcases List.mem_append.mp hx with q | q
      · exact i1.2 x q
      · rw [List.mem_singleton] at q
        subst q
        exact h2
    · rw [Nat.add_sub_cancel]
      rcases List.mem_append.mp hx with q | q
      · exact Nat.le_of_lt (hlt x q)
      · rw [List.mem_singleton] at q
        subst q
        exact Nat.le_refl _
/-- the chosen item and the items it is chosen from -/
def chR (key : Nat) (ov : Option kv_I) (I : List kv_I) : Prop := (ov = none ∧ I = []) ∨ ∃ o, ov = some o ∧ so I ∧ I ≠ [] ∧ o = ch_ key I
theorem tr_ch {g : Nat → Nat → Int32} {f : Nat → Int32} {t0 : Nat} (h24 : ∀ i, i < t0 → g 24 i = f i) (hby : byF f t0) (key : Nat) : ∀ c p ov I, trC f t0 key c p ov → trEC f t0 c p = t0 → chR key ov I → chR key (trO f t0 key c p ov) (trI g t0 c p I) := by
  intro c
  induction c with
  | zero => intro p ov I _ _ h; exact h
  | succ c ih =>
    intro p ov I h he hr
    obtain ⟨h1, _, h3⟩ := h
    rw [trEC] at he
    have hle := Nat.le_trans (trEC_ge c (enC f t0 p)) (Nat.le_of_eq he)
    have hlt : p < t0 := by unfold enC at hle; omega
    have eb := by_eq h24 hlt
    have ee : cE g p = enC f t0 p := by unfold cE enC; rw [eb]
    have ex : cX g t0 p = cxC f t0 p := by
      unfold cX cxC
      rw [eb]
      exact its_eq h24 hby hle
    rw [trO, trI, ee, ex]
    refine ih _ _ _ h3 he (Or.inr ⟨_, rfl, (so_itC _ h1.2).1, fun q => ?_, rfl⟩)
    have := congrArg List.length q
    rw [show cxC f t0 p = itC f t0 p (rb f t0 p) from rfl, itC_len] at this
    have := h1.1.1
    simp at *
    omega
theorem ch_gt {key : Nat} {I : List kv_I} (h : so I) (hne : I ≠ []) : gt_ I key = if (ch_ key I).1 = key then some (ch_ key I).2 else none := by
  obtain ⟨x, hx, e⟩ := pf_gt (key := key) h hne
  have : ch_ key I = x := by
    unfold ch_
    rw [List.getD_eq_getElem?_getD, hx]; rfl
  rw [this]; exact e
/-- what the two verifiers find -/
theorem vr_eq {g : Nat → Nat → Int32} {f : Nat → Int32} {t0 : Nat} (h24 : ∀ i, i < t0 → g 24 i = f i) (hby : byF f t0) {dg : Int32} {n v key : Nat} (hn : n ≤ 16) (hv : v < n) (h : vfC f t0 dg n v key) :
    ((rb f t0 (tr9 f t0) = 0 ∨ ∃ o, trO f t0 key (rb f t0 (tr9 f t0)) (tr9 f t0 + 1) none = some o ∧ o.1 ≠ key) → gt_ (vfI g t0 n v) key = none) ∧
    ∀ o, trO f t0 key (rb f t0 (tr9 f t0)) (tr9 f t0 + 1) none = some o → o.1 = key → gt_ (vfI g t0 n v) key = some o.2 := by
  have hc : cl9 f t0 n v = (ld2 (J1 f t0) (wyL 5 0 n v) 0 (lf v (rtC f t0 (tr9 f t0))), (wyL 5 0 n v).length) := cl_eq (J1 f t0) _ 4 0 n v (by omega) hn (Nat.zero_le _) (by omega)
  obtain ⟨⟨a1, a2⟩, a3, a4, a5⟩ := h
  rw [hc] at a4
  have a4' : 1 + 4 * (wyL 5 0 n v).length = tr9 f t0 := a4
  have hge := trEC_ge (f := f) (t0 := t0) (rb f t0 (tr9 f t0)) (tr9 f t0 + 1)
  have eb := by_eq h24 (show tr9 f t0 < t0 by omega)
  have hI : vfI g t0 n v = trI g t0 (rb f t0 (tr9 f t0)) (tr9 f t0 + 1) [] := by unfold vfI; rw [a4', eb]
  have hr := tr_ch h24 hby key _ _ none [] a2 a3 (Or.inl ⟨rfl, rfl⟩)
  rw [← hI] at hr
  constructor
  · intro q
    rcases hr with ⟨_, r2⟩ | ⟨o, r1, r2, r3, r4⟩
    · rw [r2]; rfl
    · rcases q with q | ⟨o2, q1, q2⟩
      · rw [q] at r1; cases r1
      · rw [r1] at q1
        have : o = o2 := Option.some.inj q1
        subst this
        rw [ch_gt r2 r3, ← r4, if_neg q2]
  · intro o q1 q2
    rcases hr with ⟨r1, _⟩ | ⟨o2, r1, r2, r3, r4⟩
    · rw [r1] at q1; cases q1
    · rw [r1] at q1
      have : o2 = o := Option.some.inj q1
      subst this
      rw [ch_gt r2 r3, ← r4, if_pos q2]
theorem and255 (y : Int32) : ∃ c : Nat, c < 256 ∧ y &&& nI 255 = nI c := by
  refine ⟨(y.toBitVec &&& 255#32).toNat, ?_, ?_⟩
  · rw [BitVec.toNat_and]
    exact Nat.lt_of_le_of_lt Nat.and_le_right (by decide)
  · apply Int32.toBitVec_inj.mp
    rw [Int32.toBitVec_and]
    show y.toBitVec &&& 255#32 = BitVec.ofNat 32 (y.toBitVec &&& 255#32).toNat
    rw [BitVec.ofNat_toNat, BitVec.setWidth_eq]
theorem xor255 {a : Nat} (h : a < 256) (y : Int32) : ∃ c : Nat, c < 256 ∧ nI a ^^^ (y &&& nI 255) = nI c := by
  obtain ⟨b, hb, e⟩ := and255 y
  rw [e]
  refine ⟨a ^^^ b, Nat.xor_lt_two_pow (n := 8) h hb, ?_⟩
  apply Int32.toBitVec_inj.mp
  rw [Int32.toBitVec_xor]
  show BitVec.ofNat 32 a ^^^ BitVec.ofNat 32 b = BitVec.ofNat 32 (a ^^^ b)
  exact (BitVec.ofNat_xor).symm
/-- the bytes taken, on both sides -/
def tkR (gC gM : Nat → Nat → Int32) (f : Nat → Int32) (t0 : Nat) : Prop := gC 20 0 = nI t0 ∧ gC 21 = f ∧ gM 23 0 = nI t0 ∧ (∀ i, i < t0 → gM 24 i = f i) ∧ byF f t0
theorem tk_step {gC gM : Nat → Nat → Int32} {f : Nat → Int32} {t0 : Nat} (h : tkR gC gM f t0) {x : Int32} (hx : ∃ c : Nat, c < 256 ∧ x = nI c) : tkR (mup (mup gC 21 t0 x) 20 0 (nI (t0 + 1))) (mup (mup gM 24 t0 x) 23 0 (nI (t0 + 1))) (upd f t0 x) (t0 + 1) := by
  obtain ⟨h1, h2, h3, h4, h5⟩ := h
  refine ⟨rd_eq, ?_, rd_eq, fun i hi => ?_, fun i hi => ?_⟩
  · rw [mup_ne (by decide), mup_eq, h2]
  · rw [mup_ne (by decide), mup_eq]
    unfold upd
    by_cases e : i = t0
    · rw [if_pos e, if_pos e]
    · rw [if_neg e, if_neg e]; exact h4 i (by omega)
  · unfold upd
    by_cases e : i = t0
    · rw [if_pos e]; exact hx
    · rw [if_neg e]; exact h5 i (by omega)
theorem tk_all (w : Int32) : ∀ (c : Nat) (gC gM : Nat → Nat → Int32) (f : Nat → Int32) (t0 : Nat), c ≤ 4 → tkR gC gM f t0 → ∃ f2, tkR (apC 20 21 gC t0 w c) (tkF gM t0 w c) f2 (t0 + c) := by
  intro c
  induction c with
  | zero => intro gC gM f t0 _ h; exact ⟨f, h⟩
  | succ c ih =>
    intro gC gM f t0 hc h
    rw [apC, tkF, ← ub_eq w c (by omega)]
    obtain ⟨f2, h2⟩ := ih _ _ _ _ (by omega) (tk_step h (x := ub w c) (by unfold ub; exact and255 _))
    exact ⟨f2, by rw [show t0 + (c + 1) = t0 + 1 + c by omega]; exact h2⟩
theorem rg_eq {g : Nat → Nat → Int32} {X : List kv_I} {v : Nat} (h : ∀ k, k < 48 → (g 1 (48 * v + k) = 0 ↔ gt_ X k = none)) (lo hi : Int32) : ∀ k, k ≤ 48 → rgF g v lo hi k = rgC X lo hi k := by
  intro k
  induction k with
  | zero => intro _; rfl
  | succ k ih =>
    intro hk
    rw [rgF_succ, rgC, ih (by omega)]
    by_cases hz : gt_ X k = none
    · rw [if_pos (Or.inl ((h k (by omega)).mpr hz)), if_pos (Or.inl hz)]
    · have hz2 : ¬ g 1 (48 * v + k) = 0 := fun q => hz ((h k (by omega)).mp q)
      by_cases hr : nI k < lo ∨ hi < nI k
      · rw [if_pos (Or.inr hr), if_pos (Or.inr hr)]
      · rw [if_neg (fun q => q.elim hz2 hr), if_neg (fun q => q.elim hz hr)]
theorem slC_cg {f g : Nat → Int32} : ∀ (d p q : Nat), 1 ≤ q → q ≤ 16 → (∀ i, p ≤ i → i < p + q → f i = g i) → slC f d p q = slC g d p q := by
  intro d
  induction d with
  | zero => intro p q h1 _ h; rw [slC, slC, h p (Nat.le_refl _) (by omega)]
  | succ d ih =>
    intro p q h1 h2 h
    by_cases hq : q < 2
    · rw [slC_lt f _ _ hq, slC_lt g _ _ hq, h p (Nat.le_refl _) (by omega)]
    · have hb := hf_b (q := q) (by omega) h2
      rw [slC_ge f rfl p hq, slC_ge g rfl p hq, ih p (hf q) (by omega) (by omega) (fun i a b => h i a (by omega)), ih (p + hf q) (q - hf q) (by omega) (by omega) (fun i a b => h i (by omega) (by omega))]
theorem slM_cg {f g : Nat → Int32} {p q : Nat} (h1 : 1 ≤ q) (h2 : q ≤ 16) (h : ∀ i, p ≤ i → i < p + q → f i = g i) : slM f p q = slM g p q := by
  rw [← sl_eq f p q h1 h2, ← sl_eq g p q h1 h2]
  exact slC_cg 4 p q h1 h2 h
