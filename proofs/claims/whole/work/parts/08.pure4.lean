-- the mathematics: the store of the class
def ck_d : ck_I := (0, [])
/-- the latest chunk below n whose last key is k -/
def pv (S : List ck_I) (k : Nat) : Nat → Option Nat
  | 0 => none
  | n + 1 => if lk (S.getD n ck_d).2 = k then some n else pv S k n
theorem pv_lt {S : List ck_I} {k : Nat} : ∀ {n c : Nat}, pv S k n = some c → c < n ∧ lk (S.getD c ck_d).2 = k ∧ ∀ d, c < d → d < n → lk (S.getD d ck_d).2 ≠ k := by
  intro n
  induction n with
  | zero => intro c h; cases h
  | succ n ih =>
    intro c h
    unfold pv at h
    split at h
    · next e => cases h; exact ⟨Nat.lt_succ_self _, e, fun d h1 h2 => by omega⟩
    · next e =>
      obtain ⟨h1, h2, h3⟩ := ih h
      refine ⟨by omega, h2, fun d h4 h5 => ?_⟩
      by_cases hd : d = n
      · subst hd; exact e
      · exact h3 d h4 (by omega)
theorem pv_none {S : List ck_I} {k : Nat} : ∀ {n : Nat}, pv S k n = none → ∀ d, d < n → lk (S.getD d ck_d).2 ≠ k := by
  intro n
  induction n with
  | zero => intro _ d h; omega
  | succ n ih =>
    intro h d hd
    unfold pv at h
    split at h
    · cases h
    · next e =>
      by_cases hn : d = n
      · subst hn; exact e
      · exact ih h d (by omega)
theorem pv_app {S : List ck_I} {c : ck_I} {k : Nat} : ∀ n, n ≤ S.length → pv (S ++ [c]) k n = pv S k n := by
  intro n
  induction n with
  | zero => intro _; rfl
  | succ n ih =>
    intro h
    unfold pv
    rw [ih (by omega)]
    have : (S ++ [c]).getD n ck_d = S.getD n ck_d := by
      simp only [List.getD_eq_getElem?_getD]
      rw [List.getElem?_append_left (by omega)]
    rw [this]
/-- what the tables of the class say of its chunks: 'ad' the addresses, 'bl' the chunks under the items -/
def st_ok (S : List ck_I) (ad : Nat → Nat) (bl : Nat → Nat → Option Nat) : Prop :=
  S.Nodup ∧ (∀ c d, c < S.length → d < S.length → ad c = ad d → c = d) ∧
  ∀ c l p, S[c]? = some (l, p) → so p ∧ p ≠ [] ∧ pa l p = [p] ∧ l ≤ 2 ∧ (l = 0 → ∀ j, bl c j = none) ∧
    ∀ l', l = l' + 1 → ∀ j q, (pa l' p)[j]? = some q → ∃ d, d < c ∧ S[d]? = some (l', q) ∧ bl c j = some (ad d)
/-- the items' chunks of a row that is being cut at level l: content p -/
def rw_ok (S : List ck_I) (ad : Nat → Nat) (l : Nat) (p : List kv_I) (rb : Nat → Option Nat) : Prop :=
  (l = 0 → ∀ j, j < p.length → rb j = none) ∧ ∀ l', l = l' + 1 → ∀ j q, (pa l' p)[j]? = some q → ∃ d, S[d]? = some (l', q) ∧ rb j = some (ad d)
/-- what the search of the class compares -/
def mt_ (l : Nat) (p : List kv_I) (rb : Nat → Option Nat) (l2 : Nat) (Y : List kv_I) (bl : Nat → Option Nat) : Prop :=
  l2 = l ∧ Y = im l p ∧ ∀ j, j < (im l p).length → bl j = rb j
theorem mt_iff {S : List ck_I} {ad : Nat → Nat} {bl : Nat → Nat → Option Nat} (h : st_ok S ad bl) {l : Nat} {p : List kv_I} {rb : Nat → Option Nat} (hr : rw_ok S ad l p rb) {c l2 : Nat} {p2 : List kv_I} (hc : S[c]? = some (l2, p2)) :
    mt_ l p rb l2 (im l2 p2) (bl c) ↔ (l2, p2) = (l, p) := by
  obtain ⟨hnd, hinj, hS⟩ := h
  obtain ⟨h1, h2, h3, h4, h5, h6⟩ := hS c l2 p2 hc
  constructor
  · rintro ⟨rfl, e, hb⟩
    congr 1
    cases l2 with
    | zero => exact e
    | succ l' =>
      rw [im_succ, im_succ] at e
      have hlen : (pa l' p2).length = (pa l' p).length := by
        have := congrArg List.length e
        simpa using this
      have hpa : pa l' p2 = pa l' p := by
        apply List.ext_getElem? 
        intro j
        by_cases hj : j < (pa l' p2).length
        · have e1 := List.getElem?_eq_getElem hj
          have e2 := List.getElem?_eq_getElem (show j < (pa l' p).length by omega)
          obtain ⟨d, hd1, hd2, hd3⟩ := h6 l' rfl j _ e1
          obtain ⟨d', hd2', hd3'⟩ := hr.2 l' rfl j _ e2
          have hbj := hb j (by rw [im_succ, List.length_map]; omega)
          rw [hd3, hd3'] at hbj
          have hdl : d < S.length := (List.getElem?_eq_some_iff.mp hd2).1
          have hdl' : d' < S.length := (List.getElem?_eq_some_iff.mp hd2').1
          have hdd := hinj d d' hdl hdl' (Option.some.inj hbj)
          subst hdd
          rw [hd2] at hd2'
          have := (Prod.mk.inj (Option.some.inj hd2')).2
          rw [e1, e2, this]
        · rw [List.getElem?_eq_none (by omega), List.getElem?_eq_none (by omega)]
      rw [← pa_flat l' p2, ← pa_flat l' p, hpa]
  · intro e
    obtain ⟨rfl, rfl⟩ := Prod.mk.inj e
    refine ⟨rfl, rfl, fun j hj => ?_⟩
    cases l2 with
    | zero => rw [h5 rfl j, hr.1 rfl j hj]
    | succ l' =>
      rw [im_succ, List.length_map] at hj
      have e1 := List.getElem?_eq_getElem hj
      obtain ⟨d, hd1, hd2, hd3⟩ := h6 l' rfl j _ e1
      obtain ⟨d', hd2', hd3'⟩ := hr.2 l' rfl j _ e1
      rw [hd3, hd3']
      congr 2
      have hdl : d < S.length := (List.getElem?_eq_some_iff.mp hd2).1
      have hdl' : d' < S.length := (List.getElem?_eq_some_iff.mp hd2').1
      refine (List.getElem_inj (h₀ := hdl) (h₁ := hdl') hnd).mp ?_
      rw [← Option.some_inj, ← List.getElem?_eq_getElem, ← List.getElem?_eq_getElem, hd2, hd2']
/-- a new chunk comes to the end -/
theorem st_push {S : List ck_I} {ad : Nat → Nat} {bl : Nat → Nat → Option Nat} (h : st_ok S ad bl) {l : Nat} {p : List kv_I} {rb : Nat → Option Nat} (hr : rw_ok S ad l p rb) (hn : (l, p) ∉ S) (h1 : so p) (h2 : p ≠ []) (h3 : pa l p = [p]) (h4 : l ≤ 2)
    {a : Nat} {b : Nat → Option Nat} (ha : ∀ c, c < S.length → ad c ≠ a) (hb : ∀ j, j < (im l p).length → b j = rb j) (hb0 : ∀ j, (im l p).length ≤ j → b j = none) : st_ok (S ++ [(l, p)]) (va_up ad S.length a) (va_up bl S.length b) := by
  obtain ⟨hnd, hinj, hS⟩ := h
  refine ⟨?_, ?_, ?_⟩
  · rw [List.nodup_append]
    refine ⟨hnd, by simp, ?_⟩
    intro x hx y hy e
    rw [List.mem_singleton] at hy
    subst hy; subst e
    exact hn hx
  · intro c d hc hd e
    rw [List.length_append, List.length_singleton] at hc hd
    unfold va_up at e
    split at e
    · split at e
      · omega
      · exact absurd e.symm (ha d (by omega))
    · split at e
      · exact absurd e (ha c (by omega))
      · exact hinj c d (by omega) (by omega) e
  · intro c l2 p2 hc
    by_cases hcl : c < S.length
    · rw [List.getElem?_append_left hcl] at hc
      obtain ⟨q1, q2, q3, q4, q5, q6⟩ := hS c l2 p2 hc
      have hne : c ≠ S.length := Nat.ne_of_lt hcl
      refine ⟨q1, q2, q3, q4, fun e j => ?_, fun l' e j q hq => ?_⟩
      · unfold va_up; rw [if_neg hne]; exact q5 e j
      · obtain ⟨d, hd1, hd2, hd3⟩ := q6 l' e j q hq
        refine ⟨d, hd1, by rw [List.getElem?_append_left (by omega)]; exact hd2, ?_⟩
        unfold va_up
        rw [if_neg hne, if_neg (by omega)]
        exact hd3
    · have hcl2 : c = S.length := by
        have := (List.getElem?_eq_some_iff.mp hc).1
        rw [List.length_append, List.length_singleton] at this
        omega
      subst hcl2
      rw [List.getElem?_append_right (Nat.le_refl _), Nat.sub_self] at hc
      have e0 : (l, p) = (l2, p2) := Option.some.inj hc
      obtain ⟨rfl, rfl⟩ := Prod.mk.inj e0
      refine ⟨h1, h2, h3, h4, fun e j => ?_, fun l' e j q hq => ?_⟩
      · unfold va_up
        rw [if_pos rfl]
        by_cases hj : j < (im l p).length
        · rw [hb j hj]
          subst e
          exact hr.1 rfl j hj
        · exact hb0 j (by omega)
      · obtain ⟨d, hd2, hd3⟩ := hr.2 l' e j q hq
        have hdl : d < S.length := (List.getElem?_eq_some_iff.mp hd2).1
        refine ⟨d, hdl, by rw [List.getElem?_append_left hdl]; exact hd2, ?_⟩
        have hj : j < (im l p).length := by
          subst e
          rw [im_succ, List.length_map]
          exact (List.getElem?_eq_some_iff.mp hq).1
        unfold va_up
        rw [if_pos rfl, if_neg (Nat.ne_of_lt hdl), hb j hj]
        exact hd3
