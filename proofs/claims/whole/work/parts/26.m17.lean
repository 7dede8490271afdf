/-- the content of an entry -/
def ct (f : Nat → Option Int32) (lo hi : Nat) : List kv_I := ol (fun k => if k ≤ hi then sel lo f k else none) 48
def ent (fm : Nat → Nat → Option Int32) (e : Nat × Nat × Nat × Nat) : ck_I := (e.1, ct (fm e.2.1) e.2.2.1 e.2.2.2)
theorem so_ext : ∀ {X Y : List kv_I}, X.Pairwise (fun a b => a.1 < b.1) → Y.Pairwise (fun a b => a.1 < b.1) → (∀ x, x ∈ X ↔ x ∈ Y) → X = Y := by
  intro X
  induction X with
  | nil =>
    intro Y _ _ h
    cases Y with
    | nil => rfl
    | cons y Y => exact absurd ((h y).mpr List.mem_cons_self) (by simp)
  | cons x X ih =>
    intro Y hX hY h
    cases Y with
    | nil => exact absurd ((h x).mp List.mem_cons_self) (by simp)
    | cons y Y =>
      rw [List.pairwise_cons] at hX hY
      have e : x = y := by
        rcases List.mem_cons.mp ((h x).mp List.mem_cons_self) with q | q
        · exact q
        · rcases List.mem_cons.mp ((h y).mpr List.mem_cons_self) with z | z
          · exact z.symm
          · have a := hX.1 y z
            have b := hY.1 x q
            omega
      subst e
      congr 1
      refine ih hX.2 hY.2 (fun z => ?_)
      constructor
      · intro q
        rcases List.mem_cons.mp ((h z).mp (List.mem_cons_of_mem _ q)) with w | w
        · subst w; have := hX.1 z q; omega
        · exact w
      · intro q
        rcases List.mem_cons.mp ((h z).mpr (List.mem_cons_of_mem _ q)) with w | w
        · subst w; have := hY.1 z q; omega
        · exact w
/-- where a chunk's keys begin -/
def lo_ (a : List (List kv_I)) : Nat := match a.getLast? with
  | none => 0
  | some p => lk p + 1
theorem pa_ct {f0 : Nat → Option Int32} {l : Nat} {a b : List (List kv_I)} {p : List kv_I} (h : pa l (ol f0 48) = a ++ p :: b) : p = ct f0 (lo_ a) (lk p) := by
  have hX := ol_is f0
  have hfl := pa_flat l (ol f0 48)
  rw [h, List.flatten_append, List.flatten_cons] at hfl
  have hps : so p := pa_so hX (l := l) (by rw [h]; simp)
  have hpn : p ≠ [] := pa_ne (X := ol f0 48) (l := l) p (by rw [h]; simp)
  have hpw := hX.1
  rw [← hfl] at hpw
  obtain ⟨hp1, hp2, hp3⟩ := List.pairwise_append.mp hpw
  obtain ⟨hp4, hp5, hp6⟩ := List.pairwise_append.mp hp2
  obtain ⟨w0, hw0⟩ := lk_mem hpn
  refine so_ext hps.1 (ol_so 48) (fun x => ?_)
  obtain ⟨k, v⟩ := x
  unfold ct
  rw [ol_mem]
  constructor
  · intro hx
    have hk := lk_max hps _ hx
    simp only at hk
    have hxX : (k, v) ∈ ol f0 48 := by rw [← hfl]; simp [hx]
    have hm := (ol_mem 48 k v).mp hxX
    refine ⟨hm.1, ?_⟩
    rw [if_pos hk]
    refine sel_y ?_ hm.2
    unfold lo_
    cases e : a.getLast? with
    | none => exact Nat.zero_le _
    | some q =>
      have hq : q ∈ a := List.mem_of_getLast? e
      obtain ⟨w, hw⟩ := lk_mem (pa_ne (X := ol f0 48) (l := l) q (by rw [h]; simp [hq]))
      exact hp3 _ (List.mem_flatten.mpr ⟨q, hq, hw⟩) _ (List.mem_append_left _ hx)
  · rintro ⟨hk48, hx⟩
    have hkl : k ≤ lk p := by
      apply Classical.byContradiction
      intro q
      rw [if_neg q] at hx
      cases hx
    rw [if_pos hkl] at hx
    unfold sel at hx
    by_cases hlo : lo_ a ≤ k
    · rw [if_pos hlo] at hx
      have hxX : (k, v) ∈ ol f0 48 := (ol_mem 48 k v).mpr ⟨hk48, hx⟩
      rw [← hfl] at hxX
      rcases List.mem_append.mp hxX with q | q
      · exfalso
        obtain ⟨r, hr, hkr⟩ := List.mem_flatten.mp q
        have hrk := lk_max (pa_so hX (l := l) (p := r) (by rw [h]; simp [hr])) _ hkr
        simp only at hrk
        unfold lo_ at hlo
        cases e : a.getLast? with
        | none => rw [List.getLast?_eq_none_iff] at e; subst e; simp at hr
        | some z =>
          rw [e] at hlo
          simp only at hlo
          have hlks := pa_lks (l := l) hX
          rw [h] at hlks
          obtain ⟨a2, ha2⟩ : ∃ a2, a = a2 ++ [z] := by
            have hne : a ≠ [] := by intro w; subst w; simp at hr
            refine ⟨a.dropLast, ?_⟩
            have := List.dropLast_concat_getLast hne
            rw [List.getLast?_eq_getLast hne] at e
            rw [← Option.some.inj e]
            exact this.symm
          rw [ha2] at hr hlks
          rcases List.mem_append.mp hr with w | w
          · rw [List.append_assoc, List.map_append, List.pairwise_append] at hlks
            have := hlks.2.2 (lk r) (List.mem_map.mpr ⟨r, w, rfl⟩) (lk z) (by simp)
            omega
          · rw [List.mem_singleton] at w
            subst w
            omega
      · rcases List.mem_append.mp q with z | z
        · exact z
        · exfalso
          have := hp6 _ hw0 _ z
          simp only at this
          omega
    · rw [if_neg hlo] at hx
      cases hx
theorem ct_sm {fm : Nat → Nat → Option Int32} {f0 : Nat → Option Int32} {lv lo hi : Nat} {e : Nat × Nat × Nat × Nat} (hhi : hi < 48) (he4 : e.2.2.2 < 48) (h1 : lk (ct f0 lo hi) = hi) (h2 : lk (ct (fm e.2.1) e.2.2.1 e.2.2.2) = e.2.2.2) : smE fm f0 lv lo hi e (hi + 1) ↔ ent fm e = (lv, ct f0 lo hi) := by
  unfold smE ent
  constructor
  · rintro ⟨⟨q1, q2⟩, q3⟩
    rw [q1, q2]
    congr 1
    refine ol_ext 48 (fun k _ => ?_)
    by_cases hk : k ≤ hi
    · rw [if_pos hk, if_pos hk]; exact q3 k (by omega)
    · rw [if_neg hk, if_neg hk]
  · intro q
    obtain ⟨q1, q2⟩ := Prod.mk.inj q
    have q3 : e.2.2.2 = hi := by rw [← h2, q2, h1]
    refine ⟨⟨q1, q3⟩, fun j hj => ?_⟩
    have := ol_inj q2 j (by omega)
    rw [q3, if_pos (by omega), if_pos (by omega)] at this
    exact this
/-- the reference's store: its entries, its maps -/
def srM (g : Nat → Nat → Int32) (la : Nat → Int64) (fm : Nat → Nat → Option Int32) (E : List (Nat × Nat × Nat × Nat)) : Prop :=
  g 6 0 = nI E.length ∧ ∀ (c : Nat) (e : Nat × Nat × Nat × Nat), E[c]? = some e → (g 7 c = nI (cw e) ∧ e.1 < 8 ∧ e.2.1 < 180 ∧ e.2.2.1 < 64 ∧ e.2.2.2 < 48) ∧ lk (ct (fm e.2.1) e.2.2.1 e.2.2.2) = e.2.2.2 ∧
    ∀ k, k < 48 → ((((la e.2.1) >>> ((nI k).toInt64 &&& 63)) &&& 1 = 1) ↔ ¬ fm e.2.1 k = none) ∧ ∀ v, fm e.2.1 k = some v → g 10 (48 * e.2.1 + k) = v
theorem sr_ex {g : Nat → Nat → Int32} {la : Nat → Int64} {fm : Nat → Nat → Option Int32} {E : List (Nat × Nat × Nat × Nat)} (h : srM g la fm E) {f0 : Nat → Option Int32} {lv lo hi : Nat} (hhi : hi < 48) (h1 : lk (ct f0 lo hi) = hi) : (∃ (i : Nat) (e : Nat × Nat × Nat × Nat), E[i]? = some e ∧ smE fm f0 lv lo hi e (hi + 1)) ↔ (lv, ct f0 lo hi) ∈ E.map (ent fm) := by
  constructor
  · rintro ⟨i, e, q1, q2⟩
    obtain ⟨⟨_, _, _, _, he4⟩, hlk, _⟩ := h.2 i e q1
    rw [← (ct_sm hhi he4 h1 hlk).mp q2]
    exact List.mem_map.mpr ⟨e, List.mem_of_getElem? q1, rfl⟩
  · intro q
    obtain ⟨e, he, q2⟩ := List.mem_map.mp q
    obtain ⟨i, hi2, q1⟩ := List.mem_iff_getElem.mp he
    have q3 : E[i]? = some e := by rw [List.getElem?_eq_getElem hi2, q1]
    obtain ⟨⟨_, _, _, _, he4⟩, hlk, _⟩ := h.2 i e q3
    exact ⟨i, e, q3, (ct_sm hhi he4 h1 hlk).mpr q2⟩
