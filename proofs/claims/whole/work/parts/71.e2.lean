theorem nI_255 {b : Nat} (h : b < 256) : nI b &&& nI 255 = nI b := by
  have : ∀ b, b < 256 → nI b &&& nI 255 = nI b := by decide +kernel
  exact this b h
theorem rd_eq9 {g : Nat → Nat → Int32} {f : Nat → Int32} {t0 : Nat} (h24 : ∀ i, i < t0 → g 24 i = f i) (hby : byF f t0) {a : Nat} (ha : a < t0) : rdM g a t0 = nI (rb f t0 a) := by
  unfold rdM
  rw [if_pos ha, h24 a ha, rb_in hby ha]
theorem ri_eq {g : Nat → Nat → Int32} {f : Nat → Int32} {t0 : Nat} (h24 : ∀ i, i < t0 → g 24 i = f i) (hby : byF f t0) {a : Nat} (ha : a + 3 < t0) : riM g a t0 = ri f t0 a := by
  unfold riM ri
  rw [rd_eq9 h24 hby (by omega), rd_eq9 h24 hby (show a + 1 < t0 by omega), rd_eq9 h24 hby (show a + 1 + 1 < t0 by omega), rd_eq9 h24 hby (show a + 1 + 1 + 1 < t0 by omega)]
  rw [nI_255 (rb_lt hby _), nI_255 (rb_lt hby _), nI_255 (rb_lt hby _), nI_255 (rb_lt hby _)]
theorem by_eq {g : Nat → Nat → Int32} {f : Nat → Int32} {t0 : Nat} (h24 : ∀ i, i < t0 → g 24 i = f i) {a : Nat} (ha : a < t0) : by_ g a = rb f t0 a := by
  unfold by_ rb
  rw [if_pos ha, h24 a ha]
/-- the two verifiers of a growth -/
theorem vg_eq {g : Nat → Nat → Int32} {f : Nat → Int32} {t0 : Nat} (h24 : ∀ i, i < t0 → g 24 i = f i) (hby : byF f t0) {one other : Int32} {m n : Nat} (hm : 1 ≤ m) (hmn : m < n) (hn : n ≤ 16) : vgC f t0 one other m n ↔ vgP g t0 one other m n := by
  obtain ⟨i1, i2⟩ := rp_eq (J1 f t0) one 4 0 n m (by omega) hn hm (by omega)
  have hlen : (grL 5 0 n m).length ≤ 5 := grl_le 4 0 n m (by omega) hm (by omega) hn
  unfold vgC vgP
  rw [i2]
  have hJ : 1 + 4 * (grL 5 0 n m).length = t0 → ∀ j, j < (grL 5 0 n m).length → J1 f t0 j = (fun j => riM g (1 + 4 * j) t0) j := fun h j hj => (ri_eq h24 hby (by omega)).symm
  have h1 : (1 + 4 * (grL (4 + 1) 0 n m).length = tr9 f t0 ∧ tr9 f t0 = t0) ↔ (rdM g 0 t0 = nI (grL 5 0 n m).length ∧ 1 + 4 * (grL 5 0 n m).length = t0) := by
    have hr := rb_lt hby 0
    constructor
    · rintro ⟨e1, e2⟩
      have e3 : 1 + 4 * (grL 5 0 n m).length = t0 := e1.trans e2
      refine ⟨?_, e3⟩
      rw [rd_eq9 h24 hby (by omega)]
      congr 1
      unfold tr9 at e2
      omega
    · rintro ⟨e1, e2⟩
      rw [rd_eq9 h24 hby (by omega)] at e1
      have e3 := (nI_eq (by omega) (by omega)).mp e1
      have e4 : tr9 f t0 = t0 := by unfold tr9; omega
      exact ⟨by rw [e4]; exact e2, e4⟩
  constructor
  · rintro ⟨e1, e2, e3⟩
    have e4 := h1.mp e1
    have hj := hJ e4.2
    have hx : (if grP 5 0 n m = 0 then one else J1 f t0 0) = (if grP 5 0 n m = 0 then one else riM g (1 + 4 * 0) t0) := by
      by_cases hp : grP 5 0 n m = 0
      · rw [if_pos hp, if_pos hp]
      · rw [if_neg hp, if_neg hp]
        have h9 : (if grP 5 0 n m = 0 then 0 else 1) ≤ (grL 5 0 n m).length := i1
        rw [if_neg hp] at h9
        exact hj 0 (by omega)
    exact ⟨e4, by rw [← hx, ← ol2_cg hj]; exact e2, by rw [← hx, ← ld2_cg hj]; exact e3⟩
  · rintro ⟨e1, e2, e3⟩
    have hj := hJ e1.2
    have hx : (if grP 5 0 n m = 0 then one else J1 f t0 0) = (if grP 5 0 n m = 0 then one else riM g (1 + 4 * 0) t0) := by
      by_cases hp : grP 5 0 n m = 0
      · rw [if_pos hp, if_pos hp]
      · rw [if_neg hp, if_neg hp]
        have h9 : (if grP 5 0 n m = 0 then 0 else 1) ≤ (grL 5 0 n m).length := i1
        rw [if_neg hp] at h9
        exact hj 0 (by omega)
    exact ⟨h1.mpr e1, by show ol2 (J1 f t0) (grL 5 0 n m) _ _ = _; rw [ol2_cg hj]; show ol2 _ _ _ (if grP 5 0 n m = 0 then one else J1 f t0 0) = _; rw [hx]; exact e2, by show ld2 (J1 f t0) (grL 5 0 n m) _ _ = _; rw [ld2_cg hj]; show ld2 _ _ _ (if grP 5 0 n m = 0 then one else J1 f t0 0) = _; rw [hx]; exact e3⟩
/-- the items read -/
theorem its_eq {g : Nat → Nat → Int32} {f : Nat → Int32} {t0 : Nat} (h24 : ∀ i, i < t0 → g 24 i = f i) (hby : byF f t0) {p n : Nat} (h : p + 1 + 5 * n ≤ t0) : its g t0 p n = itC f t0 p n := by
  unfold its itC
  apply List.map_congr_left
  intro i hi
  have hi2 := List.mem_range.mp hi
  show (rk g p i, rv g t0 p i) = _
  unfold rk rv
  rw [by_eq h24 (by omega), ri_eq h24 hby (by omega)]
theorem lk_itC {f : Nat → Int32} {t0 p n : Nat} (h : 1 ≤ n) : lk (itC f t0 p n) = rb f t0 (p + 1 + 5 * (n - 1)) := by
  obtain ⟨k, rfl⟩ : ∃ k, n = k + 1 := ⟨n - 1, by omega⟩
  rw [itC_succ, lk_snoc]
  rfl
theorem pk_eq9 {g : Nat → Nat → Int32} {f : Nat → Int32} {t0 : Nat} (h24 : ∀ i, i < t0 → g 24 i = f i) {p : Nat} (hp : p < t0) (he : enC f t0 p ≤ t0) : pk_ g t0 p (by_ g p) ↔ ckC f t0 p := by
  unfold enC at he
  have e := by_eq h24 hp
  have er : ∀ i, i < rb f t0 p → rk g p i = rb f t0 (p + 1 + 5 * i) := fun i hi => by unfold rk; exact by_eq h24 (by omega)
  unfold pk_ ckC okC
  rw [e]
  constructor
  · rintro ⟨⟨_, a1, a2⟩, _, a3⟩
    refine ⟨⟨a1, a2⟩, fun i hi => ?_⟩
    obtain ⟨b1, b2⟩ := a3 i hi
    rw [er i hi] at b1 b2
    refine ⟨?_, by omega⟩
    by_cases hi0 : i = 0
    · exact Or.inl hi0
    · right
      unfold nx_ at b1
      rw [if_neg hi0, er (i - 1) (by omega)] at b1
      omega
  · rintro ⟨⟨a1, a2⟩, a3⟩
    refine ⟨⟨hp, a1, a2⟩, he, fun i hi => ?_⟩
    obtain ⟨b1, b2⟩ := a3 i hi
    rw [er i hi]
    refine ⟨?_, by omega⟩
    unfold nx_
    by_cases hi0 : i = 0
    · rw [if_pos hi0]; exact Nat.zero_le _
    · rw [if_neg hi0, er (i - 1) (by omega)]
      have := b1.resolve_left hi0
      omega
theorem trEC_ge {f : Nat → Int32} {t0 : Nat} : ∀ c p, p ≤ trEC f t0 c p := by
  intro c
  induction c with
  | zero => intro p; exact Nat.le_refl _
  | succ c ih =>
    intro p
    have h1 := ih (enC f t0 p)
    rw [trEC]
    unfold enC at *
    omega
theorem trE_ge {g : Nat → Nat → Int32} : ∀ c p, p ≤ trE g c p := by
  intro c
  induction c with
  | zero => intro p; exact Nat.le_refl _
  | succ c ih =>
    intro p
    have h1 := ih (cE g p)
    rw [trE]
    unfold cE at *
    omega
/-- the two verifiers of a tree -/
theorem tr_eq {g : Nat → Nat → Int32} {f : Nat → Int32} {t0 : Nat} (h24 : ∀ i, i < t0 → g 24 i = f i) (hby : byF f t0) (key : Nat) : ∀ c p ov, p ≤ t0 → ((trC f t0 key c p ov ∧ trEC f t0 c p = t0) ↔ (trOK g t0 key c p ov ∧ trE g c p = t0)) := by
  intro c
  induction c with
  | zero => intro p ov _; exact Iff.rfl
  | succ c ih =>
    intro p ov hp
    by_cases hlt : p < t0
    · have eb := by_eq h24 hlt
      have ee : cE g p = enC f t0 p := by unfold cE enC; rw [eb]
      by_cases he : enC f t0 p ≤ t0
      · have ex : cX g t0 p = cxC f t0 p := by
          unfold cX cxC
          rw [eb]
          exact its_eq h24 hby he
        have e1 := pk_eq9 h24 hlt he
        have e2 := ih (enC f t0 p) (some (ch_ key (cxC f t0 p))) he
        constructor
        · rintro ⟨⟨a1, a2, a3⟩, a4⟩
          obtain ⟨b1, b2⟩ := e2.mp ⟨a3, a4⟩
          refine ⟨⟨e1.mpr a1, fun o ho => ?_, by rw [ee, ex]; exact b1⟩, by rw [trE, ee]; exact b2⟩
          obtain ⟨c1, c2⟩ := a2 o ho
          rw [ex]
          refine ⟨c1, ?_⟩
          unfold cxC
          rw [lk_itC a1.1.1]; exact c2
        · rintro ⟨⟨a1, a2, a3⟩, a4⟩
          have a1' := e1.mp a1
          rw [ee, ex] at a3
          rw [trE, ee] at a4
          obtain ⟨b1, b2⟩ := e2.mpr ⟨a3, a4⟩
          refine ⟨⟨a1', fun o ho => ?_, b1⟩, b2⟩
          obtain ⟨c1, c2⟩ := a2 o ho
          rw [ex] at c1 c2
          refine ⟨c1, ?_⟩
          unfold cxC at c2
          rw [lk_itC a1'.1.1] at c2; exact c2
      · constructor
        · rintro ⟨_, a4⟩
          exact absurd (Nat.le_trans (trEC_ge c (enC f t0 p)) (Nat.le_of_eq a4)) he
        · rintro ⟨_, a4⟩
          have h9 := trE_ge (g := g) c (cE g p)
          rw [trE] at a4
          rw [ee] at h9 a4
          exact absurd (Nat.le_trans h9 (Nat.le_of_eq a4)) he
    · have hpe : p = t0 := by omega
      constructor
      · rintro ⟨_, a4⟩
        have := trEC_ge (f := f) (t0 := t0) c (enC f t0 p)
        rw [trEC] at a4
        unfold enC at *
        omega
      · rintro ⟨⟨a1, _⟩, _⟩
        exact absurd a1.1.1 hlt
/-- the two verifiers of a proof -/
theorem vf_eq {g : Nat → Nat → Int32} {f : Nat → Int32} {t0 : Nat} (h24 : ∀ i, i < t0 → g 24 i = f i) (hby : byF f t0) {dg : Int32} {n v key : Nat} (hn : n ≤ 16) (hv : v < n) : vfC f t0 dg n v key ↔ vfP g t0 dg n v key := by
  have hc : cl9 f t0 n v = (ld2 (J1 f t0) (wyL 5 0 n v) 0 (lf v (rtC f t0 (tr9 f t0))), (wyL 5 0 n v).length) := cl_eq (J1 f t0) _ 4 0 n v (by omega) hn (Nat.zero_le _) (by omega)
  have hlen : (wyL 5 0 n v).length ≤ 4 := wyl_le 4 0 n v (by omega) hn
  have hr := rb_lt hby 0
  have hrd : 0 < t0 → (rdM g 0 t0 = nI (wyL 5 0 n v).length ↔ 1 + 4 * (wyL 5 0 n v).length = tr9 f t0) := fun h0 => by
    rw [rd_eq9 h24 hby h0, nI_eq (by omega) (by omega)]
    unfold tr9
    omega
  have hJ : 1 + 4 * (wyL 5 0 n v).length ≤ t0 → ∀ j, j < (wyL 5 0 n v).length → J1 f t0 j = (fun j => riM g (1 + 4 * j) t0) j := fun h j hj => (ri_eq h24 hby (by omega)).symm
  have hrt : ∀ a, a + 1 ≤ t0 → enC f t0 (a + 1) ≤ t0 ∨ rb f t0 a = 0 → a + 1 < t0 ∨ rb f t0 a = 0 → rtC f t0 a = rtP g t0 a := fun a h1 h2 h3 => by
    unfold rtC rtP
    rw [by_eq h24 (show a < t0 by omega)]
    by_cases h0 : rb f t0 a = 0
    · rw [if_pos h0, if_pos h0]
    · rw [if_neg h0, if_neg h0]
      have h4 := h2.resolve_right h0
      have h5 := h3.resolve_right h0
      congr 1
      unfold cX cxC
      rw [by_eq h24 h5]
      exact (its_eq h24 hby h4).symm
  unfold vfC vfP
  rw [hc]
  constructor
  · rintro ⟨⟨a1, a2⟩, a3, a4, a5⟩
    have a4' : 1 + 4 * (wyL 5 0 n v).length = tr9 f t0 := a4
    have hge := trEC_ge (f := f) (t0 := t0) (rb f t0 (tr9 f t0)) (tr9 f t0 + 1)
    have hlt : tr9 f t0 < t0 := by omega
    have eb := by_eq h24 hlt
    obtain ⟨b1, b2⟩ := (tr_eq h24 hby key _ _ _ (by omega)).mp ⟨a2, a3⟩
    rw [a4']
    refine ⟨⟨(hrd (by omega)).mpr a4', by omega⟩, ⟨hlt, by rw [eb]; exact a1, by rw [eb]; exact b1⟩, by rw [eb]; exact b2, ?_⟩
    have h2 : enC f t0 (tr9 f t0 + 1) ≤ t0 ∨ rb f t0 (tr9 f t0) = 0 := by
      cases hz : rb f t0 (tr9 f t0) with
      | zero => exact Or.inr rfl
      | succ k =>
        left
        rw [hz, trEC] at a3
        exact Nat.le_trans (trEC_ge k _) (Nat.le_of_eq a3)
    have h3 : tr9 f t0 + 1 < t0 ∨ rb f t0 (tr9 f t0) = 0 := by
      rcases h2 with h2 | h2
      · left; unfold enC at h2; omega
      · exact Or.inr h2
    rw [← hrt (tr9 f t0) (by omega) h2 h3, ← ld2_cg (hJ (by omega))]
    exact a5
  · rintro ⟨⟨a1, a2⟩, ⟨a3, a4, a5⟩, a6, a7⟩
    have e1 := (hrd (by omega)).mp a1
    rw [e1] at a3 a4 a5 a6 a7
    have eb := by_eq h24 a3
    rw [eb] at a4 a5 a6
    obtain ⟨b1, b2⟩ := (tr_eq h24 hby key _ _ _ (by omega)).mpr ⟨a5, a6⟩
    refine ⟨⟨a4, b1⟩, b2, e1, ?_⟩
    have h2 : enC f t0 (tr9 f t0 + 1) ≤ t0 ∨ rb f t0 (tr9 f t0) = 0 := by
      cases hz : rb f t0 (tr9 f t0) with
      | zero => exact Or.inr rfl
      | succ k =>
        left
        rw [hz, trEC] at b2
        exact Nat.le_trans (trEC_ge k _) (Nat.le_of_eq b2)
    have h3 : tr9 f t0 + 1 < t0 ∨ rb f t0 (tr9 f t0) = 0 := by
      rcases h2 with h2 | h2
      · left; unfold enC at h2; omega
      · exact Or.inr h2
    show ld2 (J1 f t0) (wyL 5 0 n v) 0 (lf v (rtC f t0 (tr9 f t0))) = dg
    rw [hrt (tr9 f t0) (by omega) h2 h3, ld2_cg (hJ a2)]
    exact a7
