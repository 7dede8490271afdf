theorem nI_or (a b : Nat) : nI a ||| nI b = nI (a ||| b) := by
  unfold nI
  apply Int32.toBitVec_inj.mp
  rw [Int32.toBitVec_or]
  show BitVec.ofNat 32 a ||| BitVec.ofNat 32 b = BitVec.ofNat 32 (a ||| b)
  exact (BitVec.ofNat_or).symm
theorem or_add {a b : Nat} (i : Nat) (h : a < 2 ^ i) : a ||| b * 2 ^ i = a + b * 2 ^ i := by
  rw [Nat.or_comm, Nat.mul_comm b, ← Nat.two_pow_add_eq_or_of_lt h]
  omega
theorem chE_cw {lv mp lo hi : Nat} {low : Int32} (h1 : lv < 8) (h2 : mp < 180) (h3 : lo ≤ 48) (h4 : hi < 48) (hlow : low + nI 1 = nI lo) : chE lv mp low hi = nI (cw (lv, mp, lo, hi)) := by
  unfold chE
  rw [hlow, pk_shlN _ 3 (by decide) (by omega), pk_shlN _ 12 (by decide) (by omega), pk_shlN _ 18 (by decide) (by omega), nI_or, or_add 3 (by omega), nI_or, or_add 12 (by omega), nI_or, or_add 18 (by omega)]
  congr 1
  show _ = lv + 8 * mp + 4096 * lo + 262144 * hi
  omega
def Dl (X : List kv_I) (l : Nat) : List ck_I := (List.range l).flatMap (fun l => (pa l X).map (fun p => (l, p)))
theorem Dl_s (X : List kv_I) (l : Nat) : Dl X (l + 1) = Dl X l ++ (pa l X).map (fun p => (l, p)) := by
  unfold Dl
  rw [List.range_succ, List.flatMap_append]
  simp
theorem Dl_pre (X : List kv_I) : ∀ d l, ∃ r, Dl X (l + d) = Dl X l ++ r := by
  intro d
  induction d with
  | zero => intro l; exact ⟨[], by simp⟩
  | succ d ih =>
    intro l
    obtain ⟨r, e⟩ := ih l
    exact ⟨r ++ (pa (l + d) X).map (fun p => (l + d, p)), by rw [← Nat.add_assoc, Dl_s, e, List.append_assoc]⟩
theorem rq_split {X : List kv_I} {l : Nat} (h : l < hg X) : ∃ r, rq X = Dl X l ++ ((pa l X).map (fun p => (l, p)) ++ r) := by
  obtain ⟨r, e⟩ := Dl_pre X (hg X - (l + 1)) (l + 1)
  rw [show l + 1 + (hg X - (l + 1)) = hg X by omega, Dl_s] at e
  exact ⟨r, by rw [show rq X = Dl X (hg X) from rfl, e, List.append_assoc]⟩
theorem rq_len {X : List kv_I} (h : so X) : (rq X).length ≤ 17 := by
  by_cases hX : X = []
  · subst hX; decide
  have e : rq X = Dl X (hg X) := rfl
  have h0 := pa_c0 h
  have h1 := pa_c1 h
  have h2 := pa_c2 h hX
  have h3 := hg_le X
  obtain ⟨r, e2⟩ := Dl_pre X (3 - hg X) (hg X)
  rw [show hg X + (3 - hg X) = 3 by omega] at e2
  have e3 : (Dl X 3).length ≤ 17 := by
    rw [Dl_s, Dl_s, Dl_s]
    have e0 : Dl X 0 = [] := rfl
    rw [e0]
    simp only [List.length_append, List.length_map, List.length_nil, h2, List.length_singleton]
    omega
  rw [e2, List.length_append] at e3
  rw [e]
  omega
theorem kq_1 {D S0 S : List ck_I} {fl f : Nat} (h : kq D S0 fl = (true, S, f)) {c : ck_I} (hc : c ∈ S) : kq (D ++ [c]) S0 fl = (true, S, f) := by
  rw [kq_app, h, if_pos rfl]
  show kq [c] S f = _
  unfold kq
  rw [if_pos hc]
  rfl
theorem kq_2 {D S0 S : List ck_I} {fl f : Nat} (h : kq D S0 fl = (true, S, f)) {c : ck_I} (hc : c ∉ S) (hw : (wr f).1 = true) : kq (D ++ [c]) S0 fl = (true, S ++ [c], (wr f).2) := by
  rw [kq_app, h, if_pos rfl]
  show kq [c] S f = _
  unfold kq
  rw [if_neg hc, if_pos hw]
  rfl
theorem kq_3 {D S0 S : List ck_I} {fl f : Nat} (h : kq D S0 fl = (true, S, f)) {c : ck_I} (hc : c ∉ S) (hw : ¬ (wr f).1 = true) (r : List ck_I) : kq (D ++ c :: r) S0 fl = (false, S, (wr f).2) := by
  rw [kq_app, h, if_pos rfl]
  show kq (c :: r) S f = _
  unfold kq
  rw [if_neg hc, if_neg hw]
theorem wr_le {f : Nat} (h : f ≤ 40) : (wr f).2 ≤ 40 := by unfold wr; split <;> simp <;> omega
theorem lo_snoc (a : List (List kv_I)) (q : List kv_I) : lo_ (a ++ [q]) = lk q + 1 := by unfold lo_; rw [List.getLast?_concat]
theorem sr_push {g : Nat → Nat → Int32} {la : Nat → Int64} {fm : Nat → Nat → Option Int32} {E : List (Nat × Nat × Nat × Nat)} (h : srM g la fm E) {lv mp lo hi : Nat} (h1 : lv < 8) (h2 : mp < 180) (h3 : lo ≤ 48) (h4 : hi < 48) (hk : lk (ct (fm mp) lo hi) = hi)
    (hr : ∀ k, k < 48 → ((((la mp) >>> ((nI k).toInt64 &&& 63)) &&& 1 = 1) ↔ ¬ fm mp k = none) ∧ ∀ v, fm mp k = some v → g 10 (48 * mp + k) = v) : srM (mup (mup g 7 E.length (nI (cw (lv, mp, lo, hi)))) 6 0 (nI (E.length + 1))) la fm (E ++ [(lv, mp, lo, hi)]) := by
  refine ⟨by rw [List.length_append, List.length_singleton]; exact rd_eq, fun c e hc => ?_⟩
  have h10 : mup (mup g 7 E.length (nI (cw (lv, mp, lo, hi)))) 6 0 (nI (E.length + 1)) 10 = g 10 := (mup_ne (by decide)).trans (mup_ne (by decide))
  rw [h10]
  by_cases hcl : c < E.length
  · rw [List.getElem?_append_left hcl] at hc
    obtain ⟨⟨q1, q2⟩, q3, q4⟩ := h.2 c e hc
    exact ⟨⟨rd_ne (by decide) (rd_ni (by omega) q1), q2⟩, q3, q4⟩
  · rw [List.getElem?_append_right (by omega)] at hc
    have q1 : c - E.length < 1 := (List.getElem?_eq_some_iff.mp hc).1
    obtain rfl : c = E.length := by omega
    rw [Nat.sub_self] at hc
    cases hc
    exact ⟨⟨rd_ne (by decide) rd_eq, h1, h2, by show lo < 64; omega, h4⟩, hk, hr⟩
theorem sr_5 {g : Nat → Nat → Int32} {la : Nat → Int64} {fm : Nat → Nat → Option Int32} {E : List (Nat × Nat × Nat × Nat)} (h : srM g la fm E) (v : Int32) : srM (mup g 5 0 v) la fm E := ⟨rd_ne (by decide) h.1, fun c e hc => by
  obtain ⟨⟨q1, q2⟩, q3, q4⟩ := h.2 c e hc
  exact ⟨⟨rd_ne (by decide) q1, q2⟩, q3, fun k hk => ⟨(q4 k hk).1, fun v hv => rd_ne (by decide) ((q4 k hk).2 v hv)⟩⟩⟩
