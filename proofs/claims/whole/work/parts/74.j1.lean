section JJ
variable {tk : Nat → ClassId} {tl : va_W} {gc gm gc2 gm2 : Nat → Nat → Int32} {rr rr2 : Nat → Nat → Option Nat} {la : Nat → Int64} {n : Nat} {S : List ck_I} {ca : Nat → Nat} {bl : Nat → Nat → Option Nat} {f : Nat} {fm : Nat → Nat → Option Int32} {E : List (Nat × Nat × Nat × Nat)} {mp : Nat} {Xs : Nat → List kv_I} {V : Nat} {f0 : Nat → Option Int32} {B : List Int32} {ft : Nat → Int32} {t0 : Nat}
def JV (S : List ck_I) (ca : Nat → Nat) (Xs : Nat → List kv_I) (V : Nat) (gc gm : Nat → Nat → Int32) (rr : Nat → Nat → Option Nat) : Prop :=
  (1 ≤ V ∧ V ≤ 16) ∧ (gc 2 0 = nI V ∧ gm 3 0 = nI V) ∧ (∀ v, v < V → so (Xs v) ∧ tOf S ca (Xs v) (rr 1 v)) ∧ (∀ v, v < V → ∀ c ∈ rq (Xs v), c ∈ S) ∧ (∀ j, j < V → gm 4 j = rt (Xs j)) ∧ ∀ j, j < V → ∀ k, k < 48 → (gm 1 (48 * j + k) = 0 ↔ gt_ (Xs j) k = none) ∧ ∀ v, gt_ (Xs j) k = some v → gm 2 (48 * j + k) = v
def JT (f0 : Nat → Option Int32) (gc gm : Nat → Nat → Int32) : Prop := (bz (gc 3) ∧ bz (gm 1)) ∧ (∀ k, k < 48 → (gc 3 k = 0 ↔ f0 k = none) ∧ ∀ v, f0 k = some v → gc 4 k = v) ∧ ∀ k, k < 48 → (gm 1 (768 + k) = 0 ↔ f0 k = none) ∧ ∀ v, f0 k = some v → gm 2 (768 + k) = v
def JS (tk : Nat → ClassId) (tl : va_W) (gc : Nat → Nat → Int32) (rr : Nat → Nat → Option Nat) (S : List ck_I) (ca : Nat → Nat) (bl : Nat → Nat → Option Nat) (f : Nat) (gm : Nat → Nat → Int32) (la : Nat → Int64) (fm : Nat → Nat → Option Int32) (E : List (Nat × Nat × Nat × Nat)) (mp : Nat) : Prop :=
  stI tk tl gc rr S ca bl f ∧ srM gm la fm E ∧ (∀ e, e ∈ E → e.2.1 < mp) ∧ E.map (ent fm) = S ∧ gm 8 0 = nI mp ∧ gm 5 0 = nI f ∧ E.length ≤ 17 * mp
def JB (gc gm : Nat → Nat → Int32) (B : List Int32) (ft : Nat → Int32) (t0 : Nat) : Prop := (prfC gc B ∧ prf gm B ∧ B.length ≤ 400 ∧ byB B) ∧ (t0 ≤ 400 ∧ tkR gc gm ft t0) ∧ gm 28 0 = gc 10 0
def JN (Xs : Nat → List kv_I) (V : Nat) (f0 : Nat → Option Int32) (f mp n : Nat) : Prop := ∃ d a : Nat, (d = 0 → ∀ k, k < 48 → f0 k = gt_ (Xs (V - 1)) k) ∧ (a = 0 → f = 0) ∧ 3 * mp + d + a + 1 ≤ n + V
def JX (tk : Nat → ClassId) (tl : va_W) (gc : Nat → Nat → Int32) (rr : Nat → Nat → Option Nat) (gm : Nat → Nat → Int32) (la : Nat → Int64) (n : Nat) (S : List ck_I) (ca : Nat → Nat) (bl : Nat → Nat → Option Nat) (f : Nat) (fm : Nat → Nat → Option Int32) (E : List (Nat × Nat × Nat × Nat)) (mp : Nat) (Xs : Nat → List kv_I) (V : Nat) (f0 : Nat → Option Int32) (B : List Int32) (ft : Nat → Int32) (t0 : Nat) : Prop :=
  JS tk tl gc rr S ca bl f gm la fm E mp ∧ JV S ca Xs V gc gm rr ∧ JT f0 gc gm ∧ JB gc gm B ft t0 ∧ JN Xs V f0 f mp n
def J (tk : Nat → ClassId) (tl : va_W) (gc : Nat → Nat → Int32) (rr : Nat → Nat → Option Nat) (gm : Nat → Nat → Int32) (la : Nat → Int64) (n : Nat) : Prop :=
  ∃ (S : List ck_I) (ca : Nat → Nat) (bl : Nat → Nat → Option Nat) (f : Nat) (fm : Nat → Nat → Option Int32) (E : List (Nat × Nat × Nat × Nat)) (mp : Nat) (Xs : Nat → List kv_I) (V : Nat) (f0 : Nat → Option Int32) (B : List Int32) (ft : Nat → Int32) (t0 : Nat), JX tk tl gc rr gm la n S ca bl f fm E mp Xs V f0 B ft t0
theorem JX.j (h : JX tk tl gc rr gm la n S ca bl f fm E mp Xs V f0 B ft t0) : J tk tl gc rr gm la n := ⟨S, ca, bl, f, fm, E, mp, Xs, V, f0, B, ft, t0, h⟩
theorem JS_cg (h : JS tk tl gc rr S ca bl f gm la fm E mp) (c0 : gc2 0 = gc 0) (c1 : gc2 1 = gc 1) (m5 : gm2 5 = gm 5) (m6 : gm2 6 = gm 6) (m7 : gm2 7 = gm 7) (m8 : gm2 8 = gm 8) (m10 : gm2 10 = gm 10) : JS tk tl gc2 rr S ca bl f gm2 la fm E mp := by
  unfold JS stI srM at *
  rw [c0, c1, m5, m6, m8]
  simp only [m7, m10]
  exact h
theorem JV_cg (h : JV S ca Xs V gc gm rr) (c2 : gc2 2 = gc 2) (m3 : gm2 3 = gm 3) (m4 : gm2 4 = gm 4) (m12 : ∀ i, i < 768 → gm2 1 i = gm 1 i ∧ gm2 2 i = gm 2 i) : JV S ca Xs V gc2 gm2 rr := by
  obtain ⟨h1, h2, h3, h4, h5, h6⟩ := h
  refine ⟨h1, by rw [c2, m3]; exact h2, h3, h4, by rw [m4]; exact h5, fun j hj k hk => ?_⟩
  obtain ⟨e1, e2⟩ := m12 (48 * j + k) (by omega)
  rw [e1, e2]
  exact h6 j hj k hk
theorem JT_cg (h : JT f0 gc gm) (c3 : gc2 3 = gc 3) (c4 : gc2 4 = gc 4) (m1 : gm2 1 = gm 1) (m2 : gm2 2 = gm 2) : JT f0 gc2 gm2 := by
  unfold JT at *
  rw [c3, c4, m1, m2]
  exact h
theorem JB_cg (h : JB gc gm B ft t0) (c8 : gc2 8 = gc 8) (c9 : gc2 9 = gc 9) (c10 : gc2 10 = gc 10) (c20 : gc2 20 = gc 20) (c21 : gc2 21 = gc 21) (m21 : gm2 21 = gm 21) (m22 : gm2 22 = gm 22) (m23 : gm2 23 = gm 23) (m24 : gm2 24 = gm 24) (m28 : gm2 28 = gm 28) : JB gc2 gm2 B ft t0 := by
  unfold JB prfC prf tkR at *
  rw [c8, c9, c10, c20, c21, m21, m22, m23, m24, m28]
  exact h
theorem JN_up (h : JN Xs V f0 f mp n) : JN Xs V f0 f mp (n + 1) := by
  obtain ⟨d, a, h1, h2, h3⟩ := h
  exact ⟨d, a, h1, h2, by omega⟩
/-- only what J does not read has changed -/
theorem JX_cg (h : JX tk tl gc rr gm la n S ca bl f fm E mp Xs V f0 B ft t0) {L M : List Nat} (hc : frx L gc gc2) (hL : ∀ x ∈ [0, 1, 2, 3, 4, 8, 9, 10, 20, 21], x ∉ L) (hm : frx M gm gm2) (hM : ∀ x ∈ [1, 2, 3, 4, 5, 6, 7, 8, 10, 21, 22, 23, 24, 28], x ∉ M) : JX tk tl gc2 rr gm2 la (n + 1) S ca bl f fm E mp Xs V f0 B ft t0 := by
  obtain ⟨h1, h2, h3, h4, h5⟩ := h
  have C : ∀ x ∈ [0, 1, 2, 3, 4, 8, 9, 10, 20, 21], gc2 x = gc x := fun x hx => hc x (hL x hx)
  have M : ∀ x ∈ [1, 2, 3, 4, 5, 6, 7, 8, 10, 21, 22, 23, 24, 28], gm2 x = gm x := fun x hx => hm x (hM x hx)
  exact ⟨JS_cg h1 (C 0 (by decide)) (C 1 (by decide)) (M 5 (by decide)) (M 6 (by decide)) (M 7 (by decide)) (M 8 (by decide)) (M 10 (by decide)),
    JV_cg h2 (C 2 (by decide)) (M 3 (by decide)) (M 4 (by decide)) (fun i _ => ⟨by rw [M 1 (by decide)], by rw [M 2 (by decide)]⟩),
    JT_cg h3 (C 3 (by decide)) (C 4 (by decide)) (M 1 (by decide)) (M 2 (by decide)),
    JB_cg h4 (C 8 (by decide)) (C 9 (by decide)) (C 10 (by decide)) (C 20 (by decide)) (C 21 (by decide)) (M 21 (by decide)) (M 22 (by decide)) (M 23 (by decide)) (M 24 (by decide)) (M 28 (by decide)), JN_up h5⟩
theorem JX_0 (h : JX tk tl gc rr gm la n S ca bl f fm E mp Xs V f0 B ft t0) (x : Int32) : J tk tl gc rr (mup gm 0 0 x) la (n + 1) := (JX_cg h (L := []) frx_r (by decide) (M := [0]) frx_m (by decide)).j
def fup (f0 : Nat → Option Int32) (k : Nat) (x : Option Int32) : Nat → Option Int32 := fun j => if j = k then x else f0 j
theorem up_at {g : Nat → Nat → Int32} {a i : Nat} {v : Int32} {j : Nat} : mup g a i v a j = if j = i then v else g a j := by
  rw [mup_eq]; rfl
theorem bz_u9 {g : Nat → Nat → Int32} {a i : Nat} {v : Int32} (h : bz (g a)) (hv : v = 0 ∨ v = 1) : bz (mup g a i v a) := by
  intro j
  rw [up_at]
  by_cases e : j = i
  · rw [if_pos e]; exact hv
  · rw [if_neg e]; exact h j
theorem J_put (h : JX tk tl gc rr gm la n S ca bl f fm E mp Xs V f0 B ft t0) {k : Nat} (hk : k < 48) (v : Int32) : J tk tl (mup (mup gc 3 k (nI 1)) 4 k v) rr (mup (mup (mup gm 0 0 0) 1 (768 + k) 1) 2 (768 + k) v) la (n + 1) := by
  obtain ⟨h1, h2, ⟨⟨b1, b2⟩, h3, h4⟩, h5, d, a, -, n2, n3⟩ := h
  refine (JX.j (S := S) (ca := ca) (bl := bl) (f := f) (fm := fm) (E := E) (mp := mp) (Xs := Xs) (V := V) (f0 := (fup f0 k (some v))) (B := B) (ft := ft) (t0 := t0) ⟨JS_cg h1 rfl rfl rfl rfl rfl rfl rfl, JV_cg h2 rfl rfl rfl (fun i hi => ⟨?_, ?_⟩), ⟨⟨?_, ?_⟩, fun j hj => ?_, fun j hj => ?_⟩, JB_cg h5 rfl rfl rfl rfl rfl rfl rfl rfl rfl rfl, 1, a, fun q => absurd q (by decide), n2, by omega⟩)
  · rw [mup_ne (by decide), up_at, if_neg (by omega)]; rfl
  · rw [up_at, if_neg (by omega)]; rfl
  · rw [mup_ne (by decide)]; exact bz_u9 b1 (Or.inr rfl)
  · rw [mup_ne (by decide)]; exact bz_u9 (g := mup gm 0 0 0) b2 (Or.inr rfl)
  · rw [mup_ne (by decide), up_at, up_at]
    unfold fup
    by_cases e : j = k
    · rw [if_pos e, if_pos e, if_pos e]
      exact ⟨⟨fun q => absurd q (by decide), fun q => by cases q⟩, fun w q => Option.some.inj q⟩
    · rw [if_neg e, if_neg e, if_neg e]; exact h3 j hj
  · rw [mup_ne (by decide), up_at, up_at]
    unfold fup
    by_cases e : j = k
    · rw [if_pos (show 768 + j = 768 + k by omega), if_pos (show 768 + j = 768 + k by omega), if_pos e]
      exact ⟨⟨fun q => absurd q (by decide), fun q => by cases q⟩, fun w q => Option.some.inj q⟩
    · rw [if_neg (show ¬ 768 + j = 768 + k by omega), if_neg (show ¬ 768 + j = 768 + k by omega), if_neg e]; exact h4 j hj
theorem J_delete (h : JX tk tl gc rr gm la n S ca bl f fm E mp Xs V f0 B ft t0) {k : Nat} (hk : k < 48) : J tk tl (mup gc 3 k (nI 0)) rr (mup (mup gm 0 0 0) 1 (768 + k) 0) la (n + 1) ∧ (gc 3 k = 0 ↔ gm 1 (768 + k) = 0) := by
  obtain ⟨h1, h2, ⟨⟨b1, b2⟩, h3, h4⟩, h5, d, a, -, n2, n3⟩ := h
  refine ⟨(JX.j (S := S) (ca := ca) (bl := bl) (f := f) (fm := fm) (E := E) (mp := mp) (Xs := Xs) (V := V) (f0 := (fup f0 k none)) (B := B) (ft := ft) (t0 := t0) ⟨JS_cg h1 rfl rfl rfl rfl rfl rfl rfl, JV_cg h2 rfl rfl rfl (fun i hi => ⟨?_, ?_⟩), ⟨⟨?_, ?_⟩, fun j hj => ?_, fun j hj => ?_⟩, JB_cg h5 rfl rfl rfl rfl rfl rfl rfl rfl rfl rfl, 1, a, fun q => absurd q (by decide), n2, by omega⟩), (h3 k hk).1.trans (h4 k hk).1.symm⟩
  · rw [up_at, if_neg (by omega)]; rfl
  · rw [mup_ne (by decide)]; rfl
  · exact bz_u9 b1 (Or.inl rfl)
  · exact bz_u9 (g := mup gm 0 0 0) b2 (Or.inl rfl)
  · rw [up_at, mup_ne (by decide)]
    unfold fup
    by_cases e : j = k
    · rw [if_pos e, if_pos e]
      exact ⟨⟨fun _ => rfl, fun _ => rfl⟩, fun w q => by cases q⟩
    · rw [if_neg e, if_neg e]; exact h3 j hj
  · rw [up_at, mup_ne (by decide)]
    unfold fup
    by_cases e : j = k
    · rw [if_pos (show 768 + j = 768 + k by omega), if_pos e]
      exact ⟨⟨fun _ => rfl, fun _ => rfl⟩, fun w q => by cases q⟩
    · rw [if_neg (show ¬ 768 + j = 768 + k by omega), if_neg e]; exact h4 j hj
theorem cp_at {g : Nat → Nat → Int32} {a t x j : Nat} (hx : x = 1 ∨ x = 2) : cpK g a t 48 x j = if 48 * t ≤ j ∧ j < 48 * t + 48 then g x (48 * a + (j - 48 * t)) else g x j := by
  unfold cpK
  rw [if_pos hx]
theorem cp_ne {g : Nat → Nat → Int32} {a t x : Nat} (hx : ¬ (x = 1 ∨ x = 2)) : cpK g a t 48 x = g x := by
  unfold cpK
  rw [if_neg hx]
theorem bz_cp {g : Nat → Nat → Int32} {a t : Nat} (h : bz (g 1)) : bz (cpK g a t 48 1) := by
  intro j
  rw [cp_at (Or.inl rfl)]
  by_cases e : 48 * t ≤ j ∧ j < 48 * t + 48
  · rw [if_pos e]; exact h _
  · rw [if_neg e]; exact h _
/-- the changed map loaded from the last version, on both sides -/
theorem JT_ld (hV : JV S ca Xs V gc gm rr) (hT : JT f0 gc gm) (bzc : bz (gc2 3)) (hld : ldP (Xs (V - 1)) gc2 48) (m1 : gm2 1 = cpK gm (V - 1) 16 48 1) (m2 : gm2 2 = cpK gm (V - 1) 16 48 2) : JT (gt_ (Xs (V - 1))) gc2 gm2 := by
  obtain ⟨⟨v1, v2⟩, -, -, -, -, h6⟩ := hV
  refine ⟨⟨bzc, by rw [m1]; exact bz_cp hT.1.2⟩, fun k hk => ?_, fun k hk => ?_⟩
  · obtain ⟨e1, e2⟩ := hld k hk
    refine ⟨?_, e2⟩
    rw [e1]
    by_cases e : gt_ (Xs (V - 1)) k = none
    · rw [if_pos e, e]; exact ⟨fun _ => rfl, fun _ => rfl⟩
    · rw [if_neg e]; exact ⟨fun q => absurd q (by decide), fun q => absurd q e⟩
  · rw [m1, m2, cp_at (Or.inl rfl), cp_at (Or.inr rfl), if_pos (by omega), if_pos (by omega), show 768 + k - 48 * 16 = k by omega]
    exact h6 (V - 1) (by omega) k hk
theorem J_rollback (h : JX tk tl gc rr gm la n S ca bl f fm E mp Xs V f0 B ft t0) (hu : frx [3, 4] gc gc2 ∧ bz (gc2 3) ∧ ldP (Xs (V - 1)) gc2 48) : J tk tl gc2 rr (cpK (mup gm 0 0 (nI 0)) (V - 1) 16 48) la (n + 1) := by
  obtain ⟨h1, h2, h3, h5, d, a, -, n2, n3⟩ := h
  obtain ⟨u1, u2, u3⟩ := hu
  refine (JX.j (S := S) (ca := ca) (bl := bl) (f := f) (fm := fm) (E := E) (mp := mp) (Xs := Xs) (V := V) (f0 := (gt_ (Xs (V - 1)))) (B := B) (ft := ft) (t0 := t0) ⟨JS_cg h1 (u1 _ (by decide)) (u1 _ (by decide)) rfl rfl rfl rfl rfl, JV_cg h2 (u1 _ (by decide)) rfl rfl (fun i hi => ⟨?_, ?_⟩), JT_ld h2 h3 u2 u3 rfl rfl, JB_cg h5 (u1 _ (by decide)) (u1 _ (by decide)) (u1 _ (by decide)) (u1 _ (by decide)) (u1 _ (by decide)) rfl rfl rfl rfl rfl, 0, a, fun _ _ _ => rfl, n2, by omega⟩)
  · rw [cp_at (Or.inl rfl), if_neg (by omega)]; rfl
  · rw [cp_at (Or.inr rfl), if_neg (by omega)]; rfl
theorem J_fail (h : JX tk tl gc rr gm la n S ca bl f fm E mp Xs V f0 B ft t0) {k : Nat} (hk : k ≤ 40) : J tk tl (mup gc 1 0 (nI k)) rr (mup (mup gm 0 0 (nI 0)) 5 0 (nI k)) la (n + 1) := by
  obtain ⟨⟨⟨s1, s2, s3, -, -⟩, s6, s7, s8, s9, -, s11⟩, h2, h3, h5, d, a, n1, n2, n3⟩ := h
  exact (JX.j (S := S) (ca := ca) (bl := bl) (f := k) (fm := fm) (E := E) (mp := mp) (Xs := Xs) (V := V) (f0 := f0) (B := B) (ft := ft) (t0 := t0) ⟨⟨⟨s1, s2, s3, rfl, hk⟩, s6, s7, s8, s9, rfl, s11⟩, JV_cg h2 rfl rfl rfl (fun i hi => ⟨rfl, rfl⟩), JT_cg h3 rfl rfl rfl rfl, JB_cg h5 rfl rfl rfl rfl rfl rfl rfl rfl rfl rfl, d, 1, n1, fun q => absurd q (by decide), by omega⟩)
end JJ
