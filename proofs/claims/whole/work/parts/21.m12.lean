theorem ifx {c : Prop} {d : Decidable c} : (if c then nI 1 else nI 0) = 0 ↔ ¬ c := by
  split
  · next h => exact ⟨fun q => absurd q (by decide), fun q => absurd h q⟩
  · next h => exact ⟨fun _ => h, fun _ => rfl⟩
theorem by_c {g γ : Nat → Nat → Int32} (h : γ 24 = g 24) (i : Nat) : by_ γ i = by_ g i := by unfold by_; rw [h]
theorem rk_c {g γ : Nat → Nat → Int32} (h : γ 24 = g 24) (a i : Nat) : rk γ a i = rk g a i := by_c h _
theorem its_c {g γ : Nat → Nat → Int32} (h : γ 24 = g 24) (t0 a n : Nat) : its γ t0 a n = its g t0 a n := by
  unfold its
  refine List.map_congr_left (fun i _ => ?_)
  rw [rk_c h]
  unfold rv
  rw [ri_c h]
theorem pk_c {g γ : Nat → Nat → Int32} (h : γ 24 = g 24) (t0 a k : Nat) : pk_ γ t0 a k ↔ pk_ g t0 a k := by
  unfold pk_ nx_
  simp only [by_c h, rk_c h]
/-- the chunk read at p -/
def cX (g : Nat → Nat → Int32) (t0 p : Nat) : List kv_I := its g t0 p (by_ g p)
def cE (g : Nat → Nat → Int32) (p : Nat) : Nat := p + 1 + 5 * by_ g p
def ch_ (key : Nat) (X : List kv_I) : kv_I := X.getD (pf key X) (0, 0)
/-- the chunks from p on, level by level, are well -/
def trOK (g : Nat → Nat → Int32) (t0 key : Nat) : Nat → Nat → Option kv_I → Prop
  | 0, _, _ => True
  | c + 1, p, ov => pk_ g t0 p (by_ g p) ∧ (∀ o, ov = some o → hs c (cX g t0 p) = o.2 ∧ lk (cX g t0 p) = o.1) ∧ trOK g t0 key c (cE g p) (some (ch_ key (cX g t0 p)))
def trE (g : Nat → Nat → Int32) : Nat → Nat → Nat
  | 0, p => p
  | c + 1, p => trE g c (cE g p)
def trI (g : Nat → Nat → Int32) (t0 : Nat) : Nat → Nat → List kv_I → List kv_I
  | 0, _, I => I
  | c + 1, p, _ => trI g t0 c (cE g p) (cX g t0 p)
def lvP (g : Nat → Nat → Int32) (t0 a0 key : Nat) : Prop := a0 < t0 ∧ by_ g a0 ≤ 6 ∧ trOK g t0 key (by_ g a0) (a0 + 1) none
def rtP (g : Nat → Nat → Int32) (t0 a0 : Nat) : Int32 := if by_ g a0 = 0 then 0 else hs (by_ g a0 - 1) (cX g t0 (a0 + 1))
def itR (γ : Nat → Nat → Int32) (I : List kv_I) : Prop := γ 29 0 = nI I.length ∧ ∀ i x, I[i]? = some x → γ 30 i = nI x.1 ∧ γ 31 i = x.2
def ilF (g : Nat → Nat → Int32) (t0 a0 key c p : Nat) (ov : Option kv_I) (I : List kv_I) (lkv hsv root : Int32) (γ : Nat → Nat → Int32) : Prop :=
  (a0 < t0 ∧ by_ g a0 ≤ 6 ∧ c ≤ by_ g a0 ∧ p ≤ t0) ∧ γ 25 0 = nI p ∧ (lvP g t0 a0 key ↔ trOK g t0 key c p ov) ∧ (trE g (by_ g a0) (a0 + 1) = trE g c p ∧ trI g t0 (by_ g a0) (a0 + 1) [] = trI g t0 c p I) ∧
  (c = by_ g a0 → ov = none ∧ root = 0 ∧ p = a0 + 1) ∧ (c < by_ g a0 → root = hs (by_ g a0 - 1) (cX g t0 (a0 + 1)) ∧ ∃ o, ov = some o ∧ o.1 < 256 ∧ lkv = nI o.1 ∧ hsv = o.2) ∧ itR γ I
theorem cX_len (g : Nat → Nat → Int32) (t0 p : Nat) : (cX g t0 p).length = by_ g p := its_len _ _ _ _
theorem its_get (g : Nat → Nat → Int32) (t0 a n : Nat) {i : Nat} (hi : i < n) : (its g t0 a n)[i]? = some (rk g a i, rv g t0 a i) := by
  unfold its
  rw [List.getElem?_map, List.getElem?_range hi]
  rfl
theorem cX_lk {g : Nat → Nat → Int32} {t0 p : Nat} (h : 1 ≤ by_ g p) : lk (cX g t0 p) = rk g p (by_ g p - 1) := by
  unfold cX
  obtain ⟨n, hn⟩ : ∃ n, by_ g p = n + 1 := ⟨by_ g p - 1, by omega⟩
  rw [hn, its_succ, lk_snoc]
  rfl
theorem pf_fs (key : Nat) : ∀ (X : List kv_I) (P : List kv_I), X ≠ [] → fs_ (fun j => decide (key ≤ ((P ++ X).getD j (0, 0)).1)) (P ++ X).length P.length = P.length + pf key X := by
  intro X
  induction X with
  | nil => intro P h; exact absurd rfl h
  | cons x r ih =>
    intro P _
    have e0 : ((P ++ x :: r).getD P.length (0, 0)) = x := by
      rw [List.getD_eq_getElem?_getD, List.getElem?_append_right (Nat.le_refl _), Nat.sub_self]; rfl
    cases r with
    | nil =>
      rw [fs_stop (Or.inl (by simp))]
      rfl
    | cons y r =>
      by_cases hk : key ≤ x.1
      · rw [fs_stop (Or.inr (decide_eq_true (by rw [e0]; exact hk)))]
        unfold pf
        rw [if_pos hk]; rfl
      · rw [fs_go (by simp) (decide_eq_false (by rw [e0]; exact hk))]
        have h2 := ih (P ++ [x]) (by simp)
        rw [List.append_assoc] at h2
        simp only [List.cons_append, List.nil_append, List.length_append, List.length_singleton] at h2
        conv => rhs; unfold pf
        rw [if_neg hk]
        simp only [List.length_append, List.length_cons] at h2 ⊢
        omega
theorem pf_fs0 (key : Nat) {X : List kv_I} (h : X ≠ []) : fs_ (fun j => decide (key ≤ (X.getD j (0, 0)).1)) X.length 0 = pf key X := by
  have := pf_fs key X [] h
  simpa using this
theorem ch_mem (key : Nat) {X : List kv_I} (h : X ≠ []) : ch_ key X ∈ X := by
  unfold ch_
  rw [List.getD_eq_getElem?_getD, List.getElem?_eq_getElem (pf_lt h), Option.getD_some]
  exact List.getElem_mem _
theorem cX_47 {g : Nat → Nat → Int32} {t0 p : Nat} (h : pk_ g t0 p (by_ g p)) : ∀ x ∈ cX g t0 p, x.1 ≤ 47 := by
  intro x hx
  unfold cX its at hx
  obtain ⟨i, hi, rfl⟩ := List.mem_map.mp hx
  exact (h.2.2 i (List.mem_range.mp hi)).2
theorem cX_ne {g : Nat → Nat → Int32} {t0 p : Nat} (h : pk_ g t0 p (by_ g p)) : cX g t0 p ≠ [] := by
  intro q
  have := cX_len g t0 p
  rw [q] at this
  have h2 := h.1.2.1
  simp only [List.length_nil] at this
  omega
theorem cX_R {u g : Nat → Nat → Int32} {t0 p : Nat} (h29 : u 29 0 = nI (by_ g p)) (h : ∀ i, i < by_ g p → u 30 i = nI (rk g p i) ∧ u 31 i = rv g t0 p i) : itR u (cX g t0 p) := by
  refine ⟨by rw [cX_len]; exact h29, fun i x hx => ?_⟩
  have hi : i < by_ g p := by
    have := (List.getElem?_eq_some_iff.mp hx).1
    rw [cX_len] at this
    exact this
  unfold cX at hx
  rw [its_get _ _ _ _ hi] at hx
  cases hx
  exact h i hi
theorem lv_no {g : Nat → Nat → Int32} {t0 a0 key c p : Nat} {ov : Option kv_I} {I : List kv_I} {lkv hsv root : Int32} {γ : Nat → Nat → Int32} (hF : ilF g t0 a0 key (c + 1) p ov I lkv hsv root γ) (h : ¬ (pk_ g t0 p (by_ g p) ∧ (c + 1 < by_ g a0 → hs c (cX g t0 p) = hsv ∧ nI (rk g p (by_ g p - 1)) = lkv))) : ¬ lvP g t0 a0 key := by
  obtain ⟨_, _, f1, _, _, f5, _⟩ := hF
  intro z
  have z2 := f1.mp z
  refine h ⟨z2.1, fun hc => ?_⟩
  obtain ⟨_, o, ho, _, e1, e2⟩ := f5 hc
  obtain ⟨w1, w2⟩ := z2.2.1 o ho
  rw [cX_lk z2.1.1.2.1] at w2
  rw [e1, e2, w1, w2]
  exact ⟨rfl, rfl⟩
/-- one level on -/
theorem il_step {g γ u : Nat → Nat → Int32} {t0 a0 key c p : Nat} {ov : Option kv_I} {I : List kv_I} {lkv hsv root : Int32} (hF : ilF g t0 a0 key (c + 1) p ov I lkv hsv root γ) (hpk : pk_ g t0 p (by_ g p)) (hov : c + 1 < by_ g a0 → hs c (cX g t0 p) = hsv ∧ nI (rk g p (by_ g p - 1)) = lkv) (h25 : u 25 0 = nI (p + 1 + 5 * by_ g p)) (hI : itR u (cX g t0 p)) {root2 : Int32} (hroot : root2 = if c + 1 = by_ g a0 then hs c (cX g t0 p) else root) (hrkb : rk g p (by_ g p - 1) < 256) :
    ilF g t0 a0 key c (cE g p) (some (ch_ key (cX g t0 p))) (cX g t0 p) (nI (ch_ key (cX g t0 p)).1) (ch_ key (cX g t0 p)).2 root2 u := by
  obtain ⟨⟨q1, q2, q3, q4⟩, f25, f1, ⟨f2, f3⟩, f4, f5, f6⟩ := hF
  refine ⟨⟨q1, q2, by omega, by unfold cE; exact hpk.2.1⟩, h25, ?_, ⟨f2, f3⟩, fun e => by omega, fun _ => ⟨?_, _, rfl, ?_, rfl, rfl⟩, hI⟩
  · rw [f1]
    constructor
    · intro z; exact z.2.2
    · intro z
      refine ⟨hpk, fun o ho => ?_, z⟩
      by_cases e : c + 1 = by_ g a0
      · rw [(f4 e).1] at ho; cases ho
      · obtain ⟨_, o2, ho2, e0, e1, e2⟩ := f5 (by omega)
        rw [ho2] at ho
        cases ho
        obtain ⟨m1, m2⟩ := hov (by omega)
        rw [← e2, cX_lk hpk.1.2.1]
        refine ⟨m1, ?_⟩
        rw [e1] at m2
        exact (nI_eq (by omega) (by omega)).mp m2
  · rw [hroot]
    by_cases e : c + 1 = by_ g a0
    · rw [if_pos e, ← e, (f4 e).2.2]; rfl
    · rw [if_neg e]; exact (f5 (by omega)).1
  · exact Nat.lt_of_le_of_lt (cX_47 hpk _ (ch_mem key (cX_ne hpk))) (by decide)

theorem il_ky {u g : Nat → Nat → Int32} {t0 p j : Nat} (h : itR u (cX g t0 p)) (hpk : pk_ g t0 p (by_ g p)) (hj : j < by_ g p) : u 30 j = nI ((cX g t0 p).getD j (0, 0)).1 ∧ ((cX g t0 p).getD j (0, 0)).1 < 256 := by
  have hj2 : j < (cX g t0 p).length := by rw [cX_len]; exact hj
  have e := List.getElem?_eq_getElem hj2
  rw [List.getD_eq_getElem?_getD, e, Option.getD_some]
  exact ⟨(h.2 j _ e).1, Nat.lt_of_le_of_lt (cX_47 hpk _ (List.getElem_mem _)) (by decide)⟩
theorem itR_up {u : Nat → Nat → Int32} {I : List kv_I} {i : Nat} {v : Int32} (h : itR u I) : itR (mup u 26 i v) I := ⟨rd_ne (by decide) h.1, fun j x hx => ⟨rd_ne (by decide) (h.2 j x hx).1, rd_ne (by decide) (h.2 j x hx).2⟩⟩
theorem il_ch {u g : Nat → Nat → Int32} {t0 p key : Nat} (h : itR u (cX g t0 p)) (hpk : pk_ g t0 p (by_ g p)) : u 30 (pf key (cX g t0 p)) = nI (ch_ key (cX g t0 p)).1 ∧ u 31 (pf key (cX g t0 p)) = (ch_ key (cX g t0 p)).2 := by
  have hj2 : pf key (cX g t0 p) < (cX g t0 p).length := pf_lt (cX_ne hpk)
  have e := List.getElem?_eq_getElem hj2
  unfold ch_
  rw [List.getD_eq_getElem?_getD, e, Option.getD_some]
  exact h.2 _ _ e

theorem il_s26 {g : Nat → Nat → Int32} {t0 a0 : Nat} (hby : byt g t0) (hg : g 26 0 = 1) : inM g a0 t0 (nI 0) (nI 6) 26 0 = if decide (a0 < t0 ∧ by_ g a0 ≤ 6) = true then nI 1 else nI 0 := by
  rw [inM_26, rt_key hby rfl _ _ _ (by decide) (by decide) (d := Classical.propDecidable _)]
  by_cases q : a0 < t0 ∧ by_ g a0 ≤ 6
  · exact (if_pos ⟨by rw [hg]; decide, q.1, Nat.zero_le _, q.2⟩).trans (if_pos (decide_eq_true q)).symm
  · exact (if_neg (fun z => q ⟨z.2.1, z.2.2.2⟩)).trans (if_neg (fun z => q (of_decide_eq_true z))).symm
theorem il_s {g : Nat → Nat → Int32} {t0 a0 key : Nat} (hby : byt g t0) (h : a0 < t0 ∧ by_ g a0 ≤ 6) : ilF g t0 a0 key (by_ g a0) (a0 + 1) none [] (nI 0) (nI 0) (nI 0) (mup (inM g a0 t0 (nI 0) (nI 6)) 29 0 (nI 0)) ∧ rdM g a0 t0 - nI 1 = dm (by_ g a0) := by
  refine ⟨⟨⟨h.1, h.2, Nat.le_refl _, by omega⟩, rd_ne (by decide) (in_25 _ _ _ _ _), ⟨fun z => z.2.2, fun z => ⟨h.1, h.2, z⟩⟩, ⟨rfl, rfl⟩, fun _ => ⟨rfl, rfl, rfl⟩, fun q => by omega, rd_eq, fun i x hx => by simp at hx⟩, ?_⟩
  rw [rd_by hby rfl h.1]
  rfl

theorem il_e26 {g γ : Nat → Nat → Int32} {t0 a0 key : Nat} {z : Bool} (hz : γ 26 0 = if z = true then nI 1 else nI 0) (hzt : z = true) [d : Decidable (lvP g t0 a0 key)] (h : lvP g t0 a0 key) : γ 26 0 = if lvP g t0 a0 key then nI 1 else nI 0 := (hz.trans (if_pos hzt)).trans (if_pos h).symm
theorem il_root {g : Nat → Nat → Int32} {t0 a0 : Nat} {ov : Option kv_I} {lkv hsv root : Int32} {p : Nat} (q2 : by_ g a0 ≤ 6) (f4 : 0 = by_ g a0 → ov = none ∧ root = 0 ∧ p = a0 + 1) (f5 : 0 < by_ g a0 → root = hs (by_ g a0 - 1) (cX g t0 (a0 + 1)) ∧ ∃ o, ov = some o ∧ o.1 < 256 ∧ lkv = nI o.1 ∧ hsv = o.2) : root = rtP g t0 a0 := by
  unfold rtP
  by_cases e : by_ g a0 = 0
  · rw [if_pos e]; exact (f4 e.symm).2.1
  · rw [if_neg e]; exact (f5 (by omega)).1

set_option maxHeartbeats 4000000 in
set_option maxRecDepth 100000 in
theorem c_M_inLevels (l : Launch) (D : va_G) (tk : Nat → ClassId) (sz : Nat) (h : Nat) (ad : Nat → Nat) (g : Nat → Nat → Int32) (la : Nat → Int64) (tl : va_W) (key a0 t0 : Nat) (hkey : key < 48) (ha0 : a0 < 2 ^ 14) (ht0 : t0 ≤ 420) (hga : g 25 0 = nI a0) (hgt : g 23 0 = nI t0) (hby : byt g t0) (hg261 : g 26 0 = 1) (_d : Decidable (lvP g t0 a0 key)) : Met l y_M_inLevels w_M_inLevels ({ frames := 4, cells := 0, slots := 0, locals := 91 }) (va_Pc [.ref h, .int (nI key)] (k_pre D (TY tk) sz (wM tk h ad g la ++ tl))) (va_Qi (fun (r : Int32) (u : Nat → Nat → Int32) => u 26 0 = (if lvP g t0 a0 key then nI 1 else nI 0) ∧ (lvP g t0 a0 key → r = rtP g t0 a0 ∧ u 25 0 = nI (trE g (by_ g a0) (a0 + 1)) ∧ itR u (trI g t0 (by_ g a0) (a0 + 1) [])) ∧ frx [25, 26, 29, 30, 31] g u) (fun u t => k_at D (TY tk) (va_A (wM tk h ad g la ++ tl) sz) ((fun u => wM tk h ad u la ++ tl) u) t) (va_A (wM tk h ad g la ++ tl) sz)) 0 0 (va_A (wM tk h ad g la ++ tl) sz) := by
  refine k_ofW (fun A => va_Qi (fun (r : Int32) (u : Nat → Nat → Int32) => u 26 0 = (if lvP g t0 a0 key then nI 1 else nI 0) ∧ (lvP g t0 a0 key → r = rtP g t0 a0 ∧ u 25 0 = nI (trE g (by_ g a0) (a0 + 1)) ∧ itR u (trI g t0 (by_ g a0) (a0 + 1) [])) ∧ frx [25, 26, 29, 30, 31] g u) (fun u t => k_at D (TY tk) A ((fun u => wM tk h ad u la ++ tl) u) t) A) (by decide) (Nat.le_of_ble_eq_true rfl) ?_
  intro p e s m args below meth c Q A ls hQ hx hb hr hlk hin hts hT hown hml hnw hP hK hD hA hsz hl
  have hS : va_S A s.heap s.heap [] := va_S.rf
  have hc0 : 0 + 0 ≤ 0 ∧ 0 + 0 ≤ 0 := ⟨by decide, by decide⟩
  replace hl : lv_has ls 9 [(0, .ref h), (1, .int (nI key))] := hl
  replace hP : va_P D CC (wM tk h ad g la ++ tl) s.heap := hP
  replace hK : va_K D CC (TY tk) s := hK
  refine lv_aload_n hx hb d_M_inLevels_0 rfl (lv_at hl 0 rfl) ?_
  refine lv_iconst (v := nI 0) hx hb d_M_inLevels_1 (by decide) ?_
  refine lv_bipush (v := nI 6) hx hb d_M_inLevels_2 (by decide) ?_
  refine k_calli (va_runV (As := [.int (nI 0), .int (nI 6)]) (rest := []) ⟨hx, hb, hml, hown, hts⟩ (c_M_in l D tk s.heap.size h ad g la tl a0 t0 (nI 0) (nI 6) (Or.inr hg261) (by omega) (by omega) hga hgt) (cwV 2 hts (gV t_1215 t_1217 s_38 t_9 t_1218) rfl rfl rfl (by decide +kernel) ⟨Nat.le_of_ble_eq_true rfl, Nat.le_of_ble_eq_true rfl⟩) (k_preV hP hK hD hnw 0 rfl rfl) rfl rfl hl.1 rfl (lv_room (Nat.le_of_ble_eq_true rfl)) d_M_inLevels_4 hc0) hD hS hA (fun _ _ H locs hp4 hP hD hK hS => ?_)
  subst hp4
  replace hP : va_P D CC (wM tk h ad (inM g a0 t0 (nI 0) (nI 6)) la ++ tl) H := hP
  replace hD : va_D A (wM tk h ad (inM g a0 t0 (nI 0) (nI 6)) la ++ tl) := hD
  refine lv_istore_n (lv' := [(2, .int (rdM g a0 t0)), (0, .ref h), (1, .int (nI key))]) hx hb d_M_inLevels_7 rfl hl (by decide) rfl (fun ls hl => ?_)
  refine lv_iconst (v := nI 0) hx hb d_M_inLevels_8 (by decide) ?_
  refine lv_istore_n (lv' := [(3, .int (nI 0)), (2, .int (rdM g a0 t0)), (0, .ref h), (1, .int (nI key))]) hx hb d_M_inLevels_9 rfl hl (by decide) rfl (fun ls hl => ?_)
  refine lv_iconst (v := nI 0) hx hb d_M_inLevels_10 (by decide) ?_
  refine lv_istore (lv' := [(4, .int (nI 0)), (3, .int (nI 0)), (2, .int (rdM g a0 t0)), (0, .ref h), (1, .int (nI key))]) hx hb d_M_inLevels_11 hl (by decide) rfl (fun ls hl => ?_)
  refine lv_iconst (v := nI 0) hx hb d_M_inLevels_13 (by decide) ?_
  refine lv_istore (lv' := [(5, .int (nI 0)), (4, .int (nI 0)), (3, .int (nI 0)), (2, .int (rdM g a0 t0)), (0, .ref h), (1, .int (nI key))]) hx hb d_M_inLevels_14 hl (by decide) rfl (fun ls hl => ?_)
  refine lv_aload_n hx hb d_M_inLevels_16 rfl (lv_at hl 4 rfl) ?_
  refine lv_iconst (v := nI 0) hx hb d_M_inLevels_17 (by decide) ?_
  refine pf_M_211 hx hb hT hown hK hP hD hS 0 rfl (Nat.le_of_ble_eq_true rfl) d_M_inLevels_18 (fun H locs hP hD hS => ?_)
  replace hP : va_P D CC (wM tk h ad (mup (inM g a0 t0 (nI 0) (nI 6)) 29 0 (nI 0)) la ++ tl) H := Eq.mp (congrArg (fun w => va_P D CC w H) (sM_29 tk h ad (inM g a0 t0 (nI 0) (nI 6)) la tl (nI 0))) hP
  replace hD : va_D A (wM tk h ad (mup (inM g a0 t0 (nI 0) (nI 6)) 29 0 (nI 0)) la ++ tl) := Eq.mp (congrArg (fun w => va_D A w) (sM_29 tk h ad (inM g a0 t0 (nI 0) (nI 6)) la tl (nI 0))) hD
  refine lv_iload_n hx hb d_M_inLevels_21 rfl (lv_at hl 3 rfl) ?_
  refine lv_iconst (v := nI 1) hx hb d_M_inLevels_22 (by decide) ?_
  refine lv_isub hx hb d_M_inLevels_23 ?_
  refine lv_istore (lv' := [(6, .int ((rdM g a0 t0) - (nI 1))), (5, .int (nI 0)), (4, .int (nI 0)), (3, .int (nI 0)), (2, .int (rdM g a0 t0)), (0, .ref h), (1, .int (nI key))]) hx hb d_M_inLevels_24 hl (by decide) rfl (fun ls hl => ?_)
  have key26 : ∀ (n26 : Nat) (z : Bool) (c0 : Nat) (p0 : Nat) (ov : Option kv_I) (I0 : List kv_I) (lkv : Int32) (hsv : Int32) (root : Int32) (lv6 : Int32) (γ : Nat → Nat → Int32) (ls : Array Slot) (H : Heap) (locs : List Loc), c0 < n26 → (γ 26 0 = if z = true then nI 1 else nI 0) → (z = true → ilF g t0 a0 key c0 p0 ov I0 lkv hsv root γ ∧ lv6 = dm c0) → (z = false → ¬ lvP g t0 a0 key) → (frx [25, 26, 29, 30, 31] g γ) → lv_has ls 9 [(0, .ref h), (1, .int (nI key)), (2, .int (rdM g a0 t0)), (3, .int root), (4, .int lkv), (5, .int hsv), (6, .int lv6)] → va_P D CC (wM tk h ad γ la ++ tl) H → va_D A (wM tk h ad γ la ++ tl) → va_S A s.heap H locs → W p l e ({ frames := 4, cells := 0, slots := 0, locals := 91 } : Room) s m args below meth c H locs 0 0 Q (F0 m 26 ls []) := by
    intro n26
    induction n26 with
    | zero => intro z c0 p0 ov I0 lkv hsv root lv6 γ ls H locs hn; exact absurd hn (Nat.not_lt_zero _)
    | succ n26 ih26 =>
      intro z c0 p0 ov I0 lkv hsv root lv6 γ ls H locs hn26 hz hFF hN hfr hl hP hD hS
      have h24 : γ 24 = g 24 := hfr 24 (by decide)
      refine lv_aload_n hx hb d_M_inLevels_26 rfl (lv_at hl 0 rfl) ?_
      refine gf_M_200 (v := .int (γ 26 0)) hx hb hT hown hK hP 0 rfl rfl d_M_inLevels_27 ?_
      refine lv_if_eq hx hb d_M_inLevels_30 (tgt := 158) (by decide) (fun hc30 => ?_) (fun hc30 => ?_)
      · skip
        have hzf : ¬ z = true := fun q => by rw [hz, if_pos q] at hc30; exact absurd hc30 (by decide)
        refine lv_iload_n hx hb d_M_inLevels_158 rfl (lv_at hl 3 rfl) ?_
        exact k_iret (v := root) hQ hx hb hr hlk hK hP hD hS γ rfl (⟨by rw [hz, if_neg hzf]; exact (if_neg (hN (by cases z with | true => exact absurd rfl hzf | false => rfl))).symm, fun q => absurd q (hN (by cases z with | true => exact absurd rfl hzf | false => rfl)), hfr⟩) d_M_inLevels_159
      · skip
        have hzt : z = true := by cases z with
          | true => rfl
          | false => exact absurd (show γ 26 0 = 0 from hz) hc30
        obtain ⟨hF, hlv⟩ := hFF hzt
        have hF9 := hF
        obtain ⟨⟨q1, q2, q3, q4⟩, f25, f1, f23, f4, f5, f6⟩ := hF9
        rw [hlv] at hl
        have hn9 : rdM g a0 t0 = nI (by_ g a0) := rd_by hby rfl q1
        have hg261 : γ 26 0 = 1 := by rw [hz, if_pos hzt]; rfl
        refine lv_iload hx hb d_M_inLevels_33 (lv_at hl 6 rfl) ?_
        refine lv_if_lt hx hb d_M_inLevels_35 (tgt := 158) (by decide) (fun hc35 => ?_) (fun hc35 => ?_)
        · skip
          obtain rfl : c0 = 0 := dm_lt (by omega) hc35
          refine lv_iload_n hx hb d_M_inLevels_158 rfl (lv_at hl 3 rfl) ?_
          exact k_iret (v := root) hQ hx hb hr hlk hK hP hD hS γ rfl (⟨il_e26 hz hzt (f1.mpr trivial), fun _ => ⟨il_root q2 f4 f5, by rw [f23.1]; exact f25, by rw [f23.2]; exact f6⟩, hfr⟩) d_M_inLevels_159
        · skip
          have hc1 := dm_nlt hc35
          obtain ⟨c, rfl⟩ : ∃ c, c0 = c + 1 := ⟨c0 - 1, by omega⟩
          rw [dm_eq hc1] at hl
          replace hl : lv_has ls 9 [(0, .ref h), (1, .int (nI key)), (2, .int (rdM g a0 t0)), (3, .int root), (4, .int lkv), (5, .int hsv), (6, .int (nI c))] := hl
          refine lv_aload_n hx hb d_M_inLevels_38 rfl (lv_at hl 0 rfl) ?_
          refine lv_iload hx hb d_M_inLevels_39 (lv_at hl 6 rfl) ?_
          refine k_calli (va_runV (As := [.int (nI c)]) (rest := []) ⟨hx, hb, hml, hown, hts⟩ (c_M_inChunk l D tk H.size h ad γ la tl c p0 t0 (by omega) (by omega) (by omega) f25 ((congrFun (hfr 23 (by decide)) 0).trans hgt) (fun i hi => by rw [h24]; exact hby i hi) hg261 (fun _ => Classical.propDecidable _)) (cwV 1 hts (gV t_1227 t_1229 s_41 t_9 t_1230) rfl rfl rfl (by decide +kernel) ⟨Nat.le_of_ble_eq_true rfl, Nat.le_of_ble_eq_true rfl⟩) (k_preV hP hK hD hnw 0 rfl rfl) rfl rfl hl.1 rfl (lv_room (Nat.le_of_ble_eq_true rfl)) d_M_inLevels_41 hc0) hD hS hA (fun rr u41 H locs hp41 hP hD hK hS => ?_)
          obtain ⟨i26, iok, ifr⟩ := hp41
          have h24u : u41 24 = g 24 := (ifr 24 (by decide)).trans h24
          have hpc : pk_ γ t0 p0 (by_ γ p0) ↔ pk_ g t0 p0 (by_ g p0) := by rw [pk_c h24, by_c h24]
          have hfru : frx [25, 26, 29, 30, 31] g u41 := frx_t hfr ifr (fun x h => ⟨h, h⟩)
          replace hP : va_P D CC (wM tk h ad u41 la ++ tl) H := hP
          replace hD : va_D A (wM tk h ad u41 la ++ tl) := hD
          refine lv_istore (lv' := [(7, .int rr), (0, .ref h), (1, .int (nI key)), (2, .int (rdM g a0 t0)), (3, .int root), (4, .int lkv), (5, .int hsv), (6, .int (nI c))]) hx hb d_M_inLevels_44 hl (by decide) rfl (fun ls hl => ?_)
          refine lv_aload_n hx hb d_M_inLevels_46 rfl (lv_at hl 1 rfl) ?_
          refine gf_M_200 (v := .int (u41 26 0)) hx hb hT hown hK hP 0 rfl rfl d_M_inLevels_47 ?_
          refine lv_if_eq hx hb d_M_inLevels_50 (tgt := 93) (by decide) (fun hc50 => ?_) (fun hc50 => ?_)
          · skip
            refine lv_iload hx hb d_M_inLevels_93 (lv_at hl 7 rfl) ?_
            refine lv_iload_n hx hb d_M_inLevels_95 rfl (lv_at hl 3 rfl) ?_
            refine st_top (show rdM g a0 t0 = nI (by_ g a0) from hn9) ?_
            refine lv_iconst (v := nI 1) hx hb d_M_inLevels_96 (by decide) ?_
            refine st_isub hx hb (by omega) d_M_inLevels_97 ?_
            refine st_icmp_ne hx hb (by omega) (by omega) d_M_inLevels_98 (tgt := 106) (by decide) (fun hc98 => ?_) (fun hc98 => ?_)
            · skip
              refine lv_iload_n hx hb d_M_inLevels_106 rfl (lv_at hl 4 rfl) ?_
              refine lv_istore_n (lv' := [(3, .int root), (7, .int rr), (0, .ref h), (1, .int (nI key)), (2, .int (rdM g a0 t0)), (4, .int lkv), (5, .int hsv), (6, .int (nI c))]) hx hb d_M_inLevels_107 rfl hl (by decide) rfl (fun ls hl => ?_)
              refine lv_aload_n hx hb d_M_inLevels_108 rfl (lv_at hl 2 rfl) ?_
              refine gf_M_200 (v := .int (u41 26 0)) hx hb hT hown hK hP 0 rfl rfl d_M_inLevels_109 ?_
              refine lv_if_eq hx hb d_M_inLevels_112 (tgt := 131) (by decide) (fun hc112 => ?_) (fun hc112 => absurd hc50 hc112)
              refine lv_iconst (v := nI 0) hx hb d_M_inLevels_131 (by decide) ?_
              refine lv_istore (lv' := [(8, .int (nI 0)), (3, .int root), (7, .int rr), (0, .ref h), (1, .int (nI key)), (2, .int (rdM g a0 t0)), (4, .int lkv), (5, .int hsv), (6, .int (nI c))]) hx hb d_M_inLevels_132 hl (by decide) rfl (fun ls hl => ?_)
              refine lv_aload_n hx hb d_M_inLevels_134 rfl (lv_at hl 3 rfl) ?_
              refine gf_M_63 (v := .ref (ad 30)) hx hb hT hown hK hP 0 rfl rfl d_M_inLevels_135 ?_
              refine lv_iload hx hb d_M_inLevels_138 (lv_at hl 0 rfl) ?_
              refine st_iald hx hb hK hP 18 0 rfl rfl (by omega) (by decide) d_M_inLevels_140 ?_
              refine lv_istore (lv' := [(4, .int (u41 30 0)), (8, .int (nI 0)), (3, .int root), (7, .int rr), (0, .ref h), (1, .int (nI key)), (2, .int (rdM g a0 t0)), (5, .int hsv), (6, .int (nI c))]) hx hb d_M_inLevels_141 hl (by decide) rfl (fun ls hl => ?_)
              refine lv_aload_n hx hb d_M_inLevels_143 rfl (lv_at hl 4 rfl) ?_
              refine gf_M_66 (v := .ref (ad 31)) hx hb hT hown hK hP 0 rfl rfl d_M_inLevels_144 ?_
              refine lv_iload hx hb d_M_inLevels_147 (lv_at hl 1 rfl) ?_
              refine st_iald hx hb hK hP 19 0 rfl rfl (by omega) (by decide) d_M_inLevels_149 ?_
              refine lv_istore (lv' := [(5, .int (u41 31 0)), (4, .int (u41 30 0)), (8, .int (nI 0)), (3, .int root), (7, .int rr), (0, .ref h), (1, .int (nI key)), (2, .int (rdM g a0 t0)), (6, .int (nI c))]) hx hb d_M_inLevels_150 hl (by decide) rfl (fun ls hl => ?_)
              refine lv_iinc (k := 8) (v := (nI c) + (-1)) (lv' := [(6, .int ((nI c) + (-1))), (5, .int (u41 31 0)), (4, .int (u41 30 0)), (8, .int (nI 0)), (3, .int root), (7, .int rr), (0, .ref h), (1, .int (nI key)), (2, .int (rdM g a0 t0))]) hx hb d_M_inLevels_152 hl rfl rfl (by decide) rfl (fun ls hl => ?_)
              refine lv_goto hx hb d_M_inLevels_155 (tgt := 26) (by decide) ?_
              rw [dm_m1] at hl
              exact ih26 false c p0 ov I0 (u41 30 0) (u41 31 0) root (dm c) u41 ls _ _ (by omega) hc50 (fun q => by cases q) (fun _ => lv_no hF (fun q => by rw [i26] at hc50; exact ifx.mp hc50 (hpc.mpr q.1))) hfru (lv_sub hl [6, 7, 8, 4, 2, 1, 0] rfl) hP hD hS
            · skip
              refine lv_iload hx hb d_M_inLevels_101 (lv_at hl 0 rfl) ?_
              refine lv_goto hx hb d_M_inLevels_103 (tgt := 107) (by decide) ?_
              refine lv_istore_n (lv' := [(3, .int rr), (7, .int rr), (0, .ref h), (1, .int (nI key)), (2, .int (rdM g a0 t0)), (4, .int lkv), (5, .int hsv), (6, .int (nI c))]) hx hb d_M_inLevels_107 rfl hl (by decide) rfl (fun ls hl => ?_)
              refine lv_aload_n hx hb d_M_inLevels_108 rfl (lv_at hl 2 rfl) ?_
              refine gf_M_200 (v := .int (u41 26 0)) hx hb hT hown hK hP 0 rfl rfl d_M_inLevels_109 ?_
              refine lv_if_eq hx hb d_M_inLevels_112 (tgt := 131) (by decide) (fun hc112 => ?_) (fun hc112 => absurd hc50 hc112)
              refine lv_iconst (v := nI 0) hx hb d_M_inLevels_131 (by decide) ?_
              refine lv_istore (lv' := [(8, .int (nI 0)), (3, .int rr), (7, .int rr), (0, .ref h), (1, .int (nI key)), (2, .int (rdM g a0 t0)), (4, .int lkv), (5, .int hsv), (6, .int (nI c))]) hx hb d_M_inLevels_132 hl (by decide) rfl (fun ls hl => ?_)
              refine lv_aload_n hx hb d_M_inLevels_134 rfl (lv_at hl 3 rfl) ?_
              refine gf_M_63 (v := .ref (ad 30)) hx hb hT hown hK hP 0 rfl rfl d_M_inLevels_135 ?_
              refine lv_iload hx hb d_M_inLevels_138 (lv_at hl 0 rfl) ?_
              refine st_iald hx hb hK hP 18 0 rfl rfl (by omega) (by decide) d_M_inLevels_140 ?_
              refine lv_istore (lv' := [(4, .int (u41 30 0)), (8, .int (nI 0)), (3, .int rr), (7, .int rr), (0, .ref h), (1, .int (nI key)), (2, .int (rdM g a0 t0)), (5, .int hsv), (6, .int (nI c))]) hx hb d_M_inLevels_141 hl (by decide) rfl (fun ls hl => ?_)
              refine lv_aload_n hx hb d_M_inLevels_143 rfl (lv_at hl 4 rfl) ?_
              refine gf_M_66 (v := .ref (ad 31)) hx hb hT hown hK hP 0 rfl rfl d_M_inLevels_144 ?_
              refine lv_iload hx hb d_M_inLevels_147 (lv_at hl 1 rfl) ?_
              refine st_iald hx hb hK hP 19 0 rfl rfl (by omega) (by decide) d_M_inLevels_149 ?_
              refine lv_istore (lv' := [(5, .int (u41 31 0)), (4, .int (u41 30 0)), (8, .int (nI 0)), (3, .int rr), (7, .int rr), (0, .ref h), (1, .int (nI key)), (2, .int (rdM g a0 t0)), (6, .int (nI c))]) hx hb d_M_inLevels_150 hl (by decide) rfl (fun ls hl => ?_)
              refine lv_iinc (k := 8) (v := (nI c) + (-1)) (lv' := [(6, .int ((nI c) + (-1))), (5, .int (u41 31 0)), (4, .int (u41 30 0)), (8, .int (nI 0)), (3, .int rr), (7, .int rr), (0, .ref h), (1, .int (nI key)), (2, .int (rdM g a0 t0))]) hx hb d_M_inLevels_152 hl rfl rfl (by decide) rfl (fun ls hl => ?_)
              refine lv_goto hx hb d_M_inLevels_155 (tgt := 26) (by decide) ?_
              rw [dm_m1] at hl
              exact ih26 false c p0 ov I0 (u41 30 0) (u41 31 0) rr (dm c) u41 ls _ _ (by omega) hc50 (fun q => by cases q) (fun _ => lv_no hF (fun q => by rw [i26] at hc50; exact ifx.mp hc50 (hpc.mpr q.1))) hfru (lv_sub hl [6, 7, 8, 4, 2, 1, 0] rfl) hP hD hS
          · skip
            have hpk : pk_ g t0 p0 (by_ g p0) := hpc.mp (Classical.byContradiction (fun q => hc50 (by rw [i26]; exact ifx.mpr q)))
            have iok2 := iok (hpc.mpr hpk)
            rw [by_c h24] at iok2
            have hrr : rr = hs c (cX g t0 p0) := by rw [iok2.2.1]; unfold cX; rw [its_c h24]
            have hR9 : itR u41 (cX g t0 p0) := cX_R iok2.1 (fun i hi => by have := iok2.2.2.2 i hi; rw [rk_c h24] at this; exact ⟨this.1, this.2.trans (by unfold rv; rw [ri_c h24])⟩)
            have hnb := hpk.1.2
            have hrkb : rk g p0 (by_ g p0 - 1) < 256 := Nat.lt_of_le_of_lt (hpk.2.2 _ (by omega)).2 (by decide)
            refine lv_iload hx hb d_M_inLevels_53 (lv_at hl 7 rfl) ?_
            refine lv_iload_n hx hb d_M_inLevels_55 rfl (lv_at hl 3 rfl) ?_
            refine st_top (show rdM g a0 t0 = nI (by_ g a0) from hn9) ?_
            refine lv_iconst (v := nI 1) hx hb d_M_inLevels_56 (by decide) ?_
            refine st_isub hx hb (by omega) d_M_inLevels_57 ?_
            refine st_icmp_ge hx hb (by omega) (by omega) d_M_inLevels_58 (tgt := 93) (by decide) (fun hc58 => ?_) (fun hc58 => ?_)
            · skip
              refine lv_iload hx hb d_M_inLevels_93 (lv_at hl 7 rfl) ?_
              refine lv_iload_n hx hb d_M_inLevels_95 rfl (lv_at hl 3 rfl) ?_
              refine st_top (show rdM g a0 t0 = nI (by_ g a0) from hn9) ?_
              refine lv_iconst (v := nI 1) hx hb d_M_inLevels_96 (by decide) ?_
              refine st_isub hx hb (by omega) d_M_inLevels_97 ?_
              refine st_icmp_ne hx hb (by omega) (by omega) d_M_inLevels_98 (tgt := 106) (by decide) (fun hc98 => absurd hc98 (by omega)) (fun hc98 => ?_)
              refine lv_iload hx hb d_M_inLevels_101 (lv_at hl 0 rfl) ?_
              refine lv_goto hx hb d_M_inLevels_103 (tgt := 107) (by decide) ?_
              refine lv_istore_n (lv' := [(3, .int rr), (7, .int rr), (0, .ref h), (1, .int (nI key)), (2, .int (rdM g a0 t0)), (4, .int lkv), (5, .int hsv), (6, .int (nI c))]) hx hb d_M_inLevels_107 rfl hl (by decide) rfl (fun ls hl => ?_)
              refine lv_aload_n hx hb d_M_inLevels_108 rfl (lv_at hl 2 rfl) ?_
              refine gf_M_200 (v := .int (u41 26 0)) hx hb hT hown hK hP 0 rfl rfl d_M_inLevels_109 ?_
              refine lv_if_eq hx hb d_M_inLevels_112 (tgt := 131) (by decide) (fun hc112 => absurd hc112 hc50) (fun hc112 => ?_)
              refine lv_aload_n hx hb d_M_inLevels_115 rfl (lv_at hl 2 rfl) ?_
              refine gf_M_63 (v := .ref (ad 30)) hx hb hT hown hK hP 0 rfl rfl d_M_inLevels_116 ?_
              refine lv_iconst (v := nI 0) hx hb d_M_inLevels_119 (by decide) ?_
              refine lv_aload_n hx hb d_M_inLevels_120 rfl (lv_at hl 2 rfl) ?_
              refine gf_M_211 (v := .int (u41 29 0)) hx hb hT hown hK hP 0 rfl rfl d_M_inLevels_121 ?_
              refine st_top (show u41 29 0 = nI (by_ g p0) from iok2.1) ?_
              refine lv_iload_n hx hb d_M_inLevels_124 rfl (lv_at hl 3 rfl) ?_
              refine k_calli (va_runS (As := [.ref (ad 30), .int (nI 0), .int (nI (by_ g p0)), .int (nI key)]) (rest := []) ⟨hx, hb, hml, hown, hts⟩ (c_M_choose30 l D tk H.size h ad u41 la tl 0 (by_ g p0) key (fun j => ((cX g t0 p0).getD j (0, 0)).1) (by omega) (by omega) (by omega) (fun j _ hj => il_ky hR9 hpk hj)) (cwS 4 hts (gS t_1176 t_1177 t_9 t_1178) rfl rfl rfl (by decide +kernel) ⟨Nat.le_of_ble_eq_true rfl, Nat.le_of_ble_eq_true rfl⟩) (k_preS hP hK hD hnw) rfl rfl hl.1 rfl (lv_room (Nat.le_of_ble_eq_true rfl)) d_M_inLevels_125 hc0) hD hS hA (fun _ _ H locs hp125 hP hD hK hS => ?_)
              subst hp125
              have hpf : fs_ (fun j => decide (key ≤ ((cX g t0 p0).getD j (0, 0)).1)) (by_ g p0) 0 = pf key (cX g t0 p0) := by have := pf_fs0 key (cX_ne hpk); rw [cX_len] at this; exact this
              rw [hpf]
              have hpl : pf key (cX g t0 p0) < by_ g p0 := by have := pf_lt (key := key) (cX_ne hpk); rw [cX_len] at this; exact this
              replace hP : va_P D CC (wM tk h ad u41 la ++ tl) H := hP
              replace hD : va_D A (wM tk h ad u41 la ++ tl) := hD
              refine lv_goto hx hb d_M_inLevels_128 (tgt := 132) (by decide) ?_
              refine lv_istore (lv' := [(8, .int (nI (pf key (cX g t0 p0)))), (3, .int rr), (7, .int rr), (0, .ref h), (1, .int (nI key)), (2, .int (rdM g a0 t0)), (4, .int lkv), (5, .int hsv), (6, .int (nI c))]) hx hb d_M_inLevels_132 hl (by decide) rfl (fun ls hl => ?_)
              refine lv_aload_n hx hb d_M_inLevels_134 rfl (lv_at hl 3 rfl) ?_
              refine gf_M_63 (v := .ref (ad 30)) hx hb hT hown hK hP 0 rfl rfl d_M_inLevels_135 ?_
              refine lv_iload hx hb d_M_inLevels_138 (lv_at hl 0 rfl) ?_
              refine st_iald hx hb hK hP 18 0 rfl rfl (by omega) (by decide) d_M_inLevels_140 ?_
              refine lv_istore (lv' := [(4, .int (u41 30 (pf key (cX g t0 p0)))), (8, .int (nI (pf key (cX g t0 p0)))), (3, .int rr), (7, .int rr), (0, .ref h), (1, .int (nI key)), (2, .int (rdM g a0 t0)), (5, .int hsv), (6, .int (nI c))]) hx hb d_M_inLevels_141 hl (by decide) rfl (fun ls hl => ?_)
              refine lv_aload_n hx hb d_M_inLevels_143 rfl (lv_at hl 4 rfl) ?_
              refine gf_M_66 (v := .ref (ad 31)) hx hb hT hown hK hP 0 rfl rfl d_M_inLevels_144 ?_
              refine lv_iload hx hb d_M_inLevels_147 (lv_at hl 1 rfl) ?_
              refine st_iald hx hb hK hP 19 0 rfl rfl (by omega) (by decide) d_M_inLevels_149 ?_
              refine lv_istore (lv' := [(5, .int (u41 31 (pf key (cX g t0 p0)))), (4, .int (u41 30 (pf key (cX g t0 p0)))), (8, .int (nI (pf key (cX g t0 p0)))), (3, .int rr), (7, .int rr), (0, .ref h), (1, .int (nI key)), (2, .int (rdM g a0 t0)), (6, .int (nI c))]) hx hb d_M_inLevels_150 hl (by decide) rfl (fun ls hl => ?_)
              refine lv_iinc (k := 8) (v := (nI c) + (-1)) (lv' := [(6, .int ((nI c) + (-1))), (5, .int (u41 31 (pf key (cX g t0 p0)))), (4, .int (u41 30 (pf key (cX g t0 p0)))), (8, .int (nI (pf key (cX g t0 p0)))), (3, .int rr), (7, .int rr), (0, .ref h), (1, .int (nI key)), (2, .int (rdM g a0 t0))]) hx hb d_M_inLevels_152 hl rfl rfl (by decide) rfl (fun ls hl => ?_)
              refine lv_goto hx hb d_M_inLevels_155 (tgt := 26) (by decide) ?_
              rw [dm_m1] at hl
              have hch := il_ch (key := key) hR9 hpk
              exact ih26 true c (cE g p0) (some (ch_ key (cX g t0 p0))) (cX g t0 p0) (u41 30 (pf key (cX g t0 p0))) (u41 31 (pf key (cX g t0 p0))) rr (dm c) u41 ls _ _ (by omega) (i26.trans (if_pos (hpc.mpr hpk))) (fun _ => ⟨by first | (rw [hch.1, hch.2]; exact il_step hF hpk (fun q => absurd q (by omega)) iok2.2.2.1 hR9 (hrr.trans (if_pos (by omega)).symm) hrkb) | exact il_step hF hpk (fun q => absurd q (by omega)) iok2.2.2.1 hR9 (hrr.trans (if_pos (by omega)).symm) hrkb, rfl⟩) (fun q => by cases q) hfru (lv_sub hl [6, 7, 8, 4, 2, 1, 0] rfl) hP hD hS
            · skip
              refine lv_aload_n hx hb d_M_inLevels_61 rfl (lv_at hl 1 rfl) ?_
              refine lv_iload hx hb d_M_inLevels_62 (lv_at hl 0 rfl) ?_
              refine lv_iload hx hb d_M_inLevels_64 (lv_at hl 6 rfl) ?_
              refine lv_icmp_ne hx hb d_M_inLevels_66 (tgt := 89) (by decide) (fun hc66 => ?_) (fun hc66 => ?_)
              · skip
                have hmis : ¬ (pk_ g t0 p0 (by_ g p0) ∧ (c + 1 < by_ g a0 → hs c (cX g t0 p0) = hsv ∧ nI (rk g p0 (by_ g p0 - 1)) = lkv)) := fun q => hc66 (hrr.trans (q.2 (by omega)).1)
                refine lv_iconst (v := nI 0) hx hb d_M_inLevels_89 (by decide) ?_
                refine pf_M_200 hx hb hT hown hK hP hD hS 0 rfl (Nat.le_of_ble_eq_true rfl) (by decide) (by decide) d_M_inLevels_90 (fun H locs hP hD hS => ?_)
                replace hP : va_P D CC (wM tk h ad (mup u41 26 0 (nI 0)) la ++ tl) H := Eq.mp (congrArg (fun w => va_P D CC w H) (sM_26 tk h ad u41 la tl (nI 0))) hP
                replace hD : va_D A (wM tk h ad (mup u41 26 0 (nI 0)) la ++ tl) := Eq.mp (congrArg (fun w => va_D A w) (sM_26 tk h ad u41 la tl (nI 0))) hD
                refine lv_iload hx hb d_M_inLevels_93 (lv_at hl 7 rfl) ?_
                refine lv_iload_n hx hb d_M_inLevels_95 rfl (lv_at hl 3 rfl) ?_
                refine st_top (show rdM g a0 t0 = nI (by_ g a0) from hn9) ?_
                refine lv_iconst (v := nI 1) hx hb d_M_inLevels_96 (by decide) ?_
                refine st_isub hx hb (by omega) d_M_inLevels_97 ?_
                refine st_icmp_ne hx hb (by omega) (by omega) d_M_inLevels_98 (tgt := 106) (by decide) (fun hc98 => ?_) (fun hc98 => absurd hc98 (by omega))
                refine lv_iload_n hx hb d_M_inLevels_106 rfl (lv_at hl 4 rfl) ?_
                refine lv_istore_n (lv' := [(3, .int root), (7, .int rr), (0, .ref h), (1, .int (nI key)), (2, .int (rdM g a0 t0)), (4, .int lkv), (5, .int hsv), (6, .int (nI c))]) hx hb d_M_inLevels_107 rfl hl (by decide) rfl (fun ls hl => ?_)
                refine lv_aload_n hx hb d_M_inLevels_108 rfl (lv_at hl 2 rfl) ?_
                refine gf_M_200 (v := .int ((mup u41 26 0 (nI 0)) 26 0)) hx hb hT hown hK hP 0 rfl rfl d_M_inLevels_109 ?_
                refine st_top (show (mup u41 26 0 (nI 0)) 26 0 = nI 0 from rd_eq) ?_
                refine st_if_eq hx hb (by omega) d_M_inLevels_112 (tgt := 131) (by decide) (fun hc112 => ?_) (fun hc112 => (by exfalso; first | exact hc112 | omega))
                refine lv_iconst (v := nI 0) hx hb d_M_inLevels_131 (by decide) ?_
                refine lv_istore (lv' := [(8, .int (nI 0)), (3, .int root), (7, .int rr), (0, .ref h), (1, .int (nI key)), (2, .int (rdM g a0 t0)), (4, .int lkv), (5, .int hsv), (6, .int (nI c))]) hx hb d_M_inLevels_132 hl (by decide) rfl (fun ls hl => ?_)
                refine lv_aload_n hx hb d_M_inLevels_134 rfl (lv_at hl 3 rfl) ?_
                refine gf_M_63 (v := .ref (ad 30)) hx hb hT hown hK hP 0 rfl rfl d_M_inLevels_135 ?_
                refine lv_iload hx hb d_M_inLevels_138 (lv_at hl 0 rfl) ?_
                refine st_iald hx hb hK hP 18 0 rfl rfl (by omega) (by decide) d_M_inLevels_140 ?_
                refine st_top (show (mup u41 26 0 (nI 0)) 30 0 = u41 30 0 from (rd_ne (by decide) rfl)) ?_
                refine lv_istore (lv' := [(4, .int (u41 30 0)), (8, .int (nI 0)), (3, .int root), (7, .int rr), (0, .ref h), (1, .int (nI key)), (2, .int (rdM g a0 t0)), (5, .int hsv), (6, .int (nI c))]) hx hb d_M_inLevels_141 hl (by decide) rfl (fun ls hl => ?_)
                refine lv_aload_n hx hb d_M_inLevels_143 rfl (lv_at hl 4 rfl) ?_
                refine gf_M_66 (v := .ref (ad 31)) hx hb hT hown hK hP 0 rfl rfl d_M_inLevels_144 ?_
                refine lv_iload hx hb d_M_inLevels_147 (lv_at hl 1 rfl) ?_
                refine st_iald hx hb hK hP 19 0 rfl rfl (by omega) (by decide) d_M_inLevels_149 ?_
                refine st_top (show (mup u41 26 0 (nI 0)) 31 0 = u41 31 0 from (rd_ne (by decide) rfl)) ?_
                refine lv_istore (lv' := [(5, .int (u41 31 0)), (4, .int (u41 30 0)), (8, .int (nI 0)), (3, .int root), (7, .int rr), (0, .ref h), (1, .int (nI key)), (2, .int (rdM g a0 t0)), (6, .int (nI c))]) hx hb d_M_inLevels_150 hl (by decide) rfl (fun ls hl => ?_)
                refine lv_iinc (k := 8) (v := (nI c) + (-1)) (lv' := [(6, .int ((nI c) + (-1))), (5, .int (u41 31 0)), (4, .int (u41 30 0)), (8, .int (nI 0)), (3, .int root), (7, .int rr), (0, .ref h), (1, .int (nI key)), (2, .int (rdM g a0 t0))]) hx hb d_M_inLevels_152 hl rfl rfl (by decide) rfl (fun ls hl => ?_)
                refine lv_goto hx hb d_M_inLevels_155 (tgt := 26) (by decide) ?_
                rw [dm_m1] at hl
                exact ih26 false c p0 ov I0 (u41 30 0) (u41 31 0) root (dm c) (mup u41 26 0 (nI 0)) ls _ _ (by omega) rd_eq (fun q => by cases q) (fun _ => lv_no hF hmis) (frx_t hfru (L' := [26]) frx_m (fun x h => ⟨h, fun q => h (by simp at q ⊢; omega)⟩)) (lv_sub hl [6, 7, 8, 4, 2, 1, 0] rfl) hP hD hS
              · skip
                refine lv_aload_n hx hb d_M_inLevels_69 rfl (lv_at hl 1 rfl) ?_
                refine gf_M_63 (v := .ref (ad 30)) hx hb hT hown hK hP 0 rfl rfl d_M_inLevels_70 ?_
                refine lv_aload_n hx hb d_M_inLevels_73 rfl (lv_at hl 1 rfl) ?_
                refine gf_M_211 (v := .int (u41 29 0)) hx hb hT hown hK hP 0 rfl rfl d_M_inLevels_74 ?_
                refine st_top (show u41 29 0 = nI (by_ g p0) from iok2.1) ?_
                refine lv_iconst (v := nI 1) hx hb d_M_inLevels_77 (by decide) ?_
                refine st_isub hx hb (by omega) d_M_inLevels_78 ?_
                refine st_iald hx hb hK hP 18 0 rfl rfl (by omega) (by decide) d_M_inLevels_79 ?_
                have hlst : u41 30 (by_ g p0 - 1) = nI (rk g p0 (by_ g p0 - 1)) := (iok2.2.2.2 _ (by omega)).1.trans (by rw [rk_c h24])
                refine lv_iload hx hb d_M_inLevels_80 (lv_at hl 5 rfl) ?_
                refine lv_icmp_ne hx hb d_M_inLevels_82 (tgt := 89) (by decide) (fun hc82 => ?_) (fun hc82 => ?_)
                · skip
                  have hmis : ¬ (pk_ g t0 p0 (by_ g p0) ∧ (c + 1 < by_ g a0 → hs c (cX g t0 p0) = hsv ∧ nI (rk g p0 (by_ g p0 - 1)) = lkv)) := fun q => hc82 (hlst.trans (q.2 (by omega)).2)
                  refine lv_iconst (v := nI 0) hx hb d_M_inLevels_89 (by decide) ?_
                  refine pf_M_200 hx hb hT hown hK hP hD hS 0 rfl (Nat.le_of_ble_eq_true rfl) (by decide) (by decide) d_M_inLevels_90 (fun H locs hP hD hS => ?_)
                  replace hP : va_P D CC (wM tk h ad (mup u41 26 0 (nI 0)) la ++ tl) H := Eq.mp (congrArg (fun w => va_P D CC w H) (sM_26 tk h ad u41 la tl (nI 0))) hP
                  replace hD : va_D A (wM tk h ad (mup u41 26 0 (nI 0)) la ++ tl) := Eq.mp (congrArg (fun w => va_D A w) (sM_26 tk h ad u41 la tl (nI 0))) hD
                  refine lv_iload hx hb d_M_inLevels_93 (lv_at hl 7 rfl) ?_
                  refine lv_iload_n hx hb d_M_inLevels_95 rfl (lv_at hl 3 rfl) ?_
                  refine st_top (show rdM g a0 t0 = nI (by_ g a0) from hn9) ?_
                  refine lv_iconst (v := nI 1) hx hb d_M_inLevels_96 (by decide) ?_
                  refine st_isub hx hb (by omega) d_M_inLevels_97 ?_
                  refine st_icmp_ne hx hb (by omega) (by omega) d_M_inLevels_98 (tgt := 106) (by decide) (fun hc98 => ?_) (fun hc98 => absurd hc98 (by omega))
                  refine lv_iload_n hx hb d_M_inLevels_106 rfl (lv_at hl 4 rfl) ?_
                  refine lv_istore_n (lv' := [(3, .int root), (7, .int rr), (0, .ref h), (1, .int (nI key)), (2, .int (rdM g a0 t0)), (4, .int lkv), (5, .int hsv), (6, .int (nI c))]) hx hb d_M_inLevels_107 rfl hl (by decide) rfl (fun ls hl => ?_)
                  refine lv_aload_n hx hb d_M_inLevels_108 rfl (lv_at hl 2 rfl) ?_
                  refine gf_M_200 (v := .int ((mup u41 26 0 (nI 0)) 26 0)) hx hb hT hown hK hP 0 rfl rfl d_M_inLevels_109 ?_
                  refine st_top (show (mup u41 26 0 (nI 0)) 26 0 = nI 0 from rd_eq) ?_
                  refine st_if_eq hx hb (by omega) d_M_inLevels_112 (tgt := 131) (by decide) (fun hc112 => ?_) (fun hc112 => (by exfalso; first | exact hc112 | omega))
                  refine lv_iconst (v := nI 0) hx hb d_M_inLevels_131 (by decide) ?_
                  refine lv_istore (lv' := [(8, .int (nI 0)), (3, .int root), (7, .int rr), (0, .ref h), (1, .int (nI key)), (2, .int (rdM g a0 t0)), (4, .int lkv), (5, .int hsv), (6, .int (nI c))]) hx hb d_M_inLevels_132 hl (by decide) rfl (fun ls hl => ?_)
                  refine lv_aload_n hx hb d_M_inLevels_134 rfl (lv_at hl 3 rfl) ?_
                  refine gf_M_63 (v := .ref (ad 30)) hx hb hT hown hK hP 0 rfl rfl d_M_inLevels_135 ?_
                  refine lv_iload hx hb d_M_inLevels_138 (lv_at hl 0 rfl) ?_
                  refine st_iald hx hb hK hP 18 0 rfl rfl (by omega) (by decide) d_M_inLevels_140 ?_
                  refine st_top (show (mup u41 26 0 (nI 0)) 30 0 = u41 30 0 from (rd_ne (by decide) rfl)) ?_
                  refine lv_istore (lv' := [(4, .int (u41 30 0)), (8, .int (nI 0)), (3, .int root), (7, .int rr), (0, .ref h), (1, .int (nI key)), (2, .int (rdM g a0 t0)), (5, .int hsv), (6, .int (nI c))]) hx hb d_M_inLevels_141 hl (by decide) rfl (fun ls hl => ?_)
                  refine lv_aload_n hx hb d_M_inLevels_143 rfl (lv_at hl 4 rfl) ?_
                  refine gf_M_66 (v := .ref (ad 31)) hx hb hT hown hK hP 0 rfl rfl d_M_inLevels_144 ?_
                  refine lv_iload hx hb d_M_inLevels_147 (lv_at hl 1 rfl) ?_
                  refine st_iald hx hb hK hP 19 0 rfl rfl (by omega) (by decide) d_M_inLevels_149 ?_
                  refine st_top (show (mup u41 26 0 (nI 0)) 31 0 = u41 31 0 from (rd_ne (by decide) rfl)) ?_
                  refine lv_istore (lv' := [(5, .int (u41 31 0)), (4, .int (u41 30 0)), (8, .int (nI 0)), (3, .int root), (7, .int rr), (0, .ref h), (1, .int (nI key)), (2, .int (rdM g a0 t0)), (6, .int (nI c))]) hx hb d_M_inLevels_150 hl (by decide) rfl (fun ls hl => ?_)
                  refine lv_iinc (k := 8) (v := (nI c) + (-1)) (lv' := [(6, .int ((nI c) + (-1))), (5, .int (u41 31 0)), (4, .int (u41 30 0)), (8, .int (nI 0)), (3, .int root), (7, .int rr), (0, .ref h), (1, .int (nI key)), (2, .int (rdM g a0 t0))]) hx hb d_M_inLevels_152 hl rfl rfl (by decide) rfl (fun ls hl => ?_)
                  refine lv_goto hx hb d_M_inLevels_155 (tgt := 26) (by decide) ?_
                  rw [dm_m1] at hl
                  exact ih26 false c p0 ov I0 (u41 30 0) (u41 31 0) root (dm c) (mup u41 26 0 (nI 0)) ls _ _ (by omega) rd_eq (fun q => by cases q) (fun _ => lv_no hF hmis) (frx_t hfru (L' := [26]) frx_m (fun x h => ⟨h, fun q => h (by simp at q ⊢; omega)⟩)) (lv_sub hl [6, 7, 8, 4, 2, 1, 0] rfl) hP hD hS
                · skip
                  have hmk : nI (rk g p0 (by_ g p0 - 1)) = lkv := hlst.symm.trans hc82
                  refine lv_iconst (v := nI 1) hx hb d_M_inLevels_85 (by decide) ?_
                  refine lv_goto hx hb d_M_inLevels_86 (tgt := 90) (by decide) ?_
                  refine pf_M_200 hx hb hT hown hK hP hD hS 0 rfl (Nat.le_of_ble_eq_true rfl) (by decide) (by decide) d_M_inLevels_90 (fun H locs hP hD hS => ?_)
                  replace hP : va_P D CC (wM tk h ad (mup u41 26 0 (nI 1)) la ++ tl) H := Eq.mp (congrArg (fun w => va_P D CC w H) (sM_26 tk h ad u41 la tl (nI 1))) hP
                  replace hD : va_D A (wM tk h ad (mup u41 26 0 (nI 1)) la ++ tl) := Eq.mp (congrArg (fun w => va_D A w) (sM_26 tk h ad u41 la tl (nI 1))) hD
                  refine lv_iload hx hb d_M_inLevels_93 (lv_at hl 7 rfl) ?_
                  refine lv_iload_n hx hb d_M_inLevels_95 rfl (lv_at hl 3 rfl) ?_
                  refine st_top (show rdM g a0 t0 = nI (by_ g a0) from hn9) ?_
                  refine lv_iconst (v := nI 1) hx hb d_M_inLevels_96 (by decide) ?_
                  refine st_isub hx hb (by omega) d_M_inLevels_97 ?_
                  refine st_icmp_ne hx hb (by omega) (by omega) d_M_inLevels_98 (tgt := 106) (by decide) (fun hc98 => ?_) (fun hc98 => absurd hc98 (by omega))
                  refine lv_iload_n hx hb d_M_inLevels_106 rfl (lv_at hl 4 rfl) ?_
                  refine lv_istore_n (lv' := [(3, .int root), (7, .int rr), (0, .ref h), (1, .int (nI key)), (2, .int (rdM g a0 t0)), (4, .int lkv), (5, .int hsv), (6, .int (nI c))]) hx hb d_M_inLevels_107 rfl hl (by decide) rfl (fun ls hl => ?_)
                  refine lv_aload_n hx hb d_M_inLevels_108 rfl (lv_at hl 2 rfl) ?_
                  refine gf_M_200 (v := .int ((mup u41 26 0 (nI 1)) 26 0)) hx hb hT hown hK hP 0 rfl rfl d_M_inLevels_109 ?_
                  refine st_top (show (mup u41 26 0 (nI 1)) 26 0 = nI 1 from rd_eq) ?_
                  refine st_if_eq hx hb (by omega) d_M_inLevels_112 (tgt := 131) (by decide) (fun hc112 => (by exfalso; first | exact hc112 | omega)) (fun hc112 => ?_)
                  refine lv_aload_n hx hb d_M_inLevels_115 rfl (lv_at hl 2 rfl) ?_
                  refine gf_M_63 (v := .ref (ad 30)) hx hb hT hown hK hP 0 rfl rfl d_M_inLevels_116 ?_
                  refine lv_iconst (v := nI 0) hx hb d_M_inLevels_119 (by decide) ?_
                  refine lv_aload_n hx hb d_M_inLevels_120 rfl (lv_at hl 2 rfl) ?_
                  refine gf_M_211 (v := .int ((mup u41 26 0 (nI 1)) 29 0)) hx hb hT hown hK hP 0 rfl rfl d_M_inLevels_121 ?_
                  refine st_top (show (mup u41 26 0 (nI 1)) 29 0 = u41 29 0 from (rd_ne (by decide) rfl)) ?_
                  refine st_top (show u41 29 0 = nI (by_ g p0) from iok2.1) ?_
                  refine lv_iload_n hx hb d_M_inLevels_124 rfl (lv_at hl 3 rfl) ?_
                  refine k_calli (va_runS (As := [.ref (ad 30), .int (nI 0), .int (nI (by_ g p0)), .int (nI key)]) (rest := []) ⟨hx, hb, hml, hown, hts⟩ (c_M_choose30 l D tk H.size h ad (mup u41 26 0 (nI 1)) la tl 0 (by_ g p0) key (fun j => ((cX g t0 p0).getD j (0, 0)).1) (by omega) (by omega) (by omega) (fun j _ hj => il_ky (itR_up hR9) hpk hj)) (cwS 4 hts (gS t_1176 t_1177 t_9 t_1178) rfl rfl rfl (by decide +kernel) ⟨Nat.le_of_ble_eq_true rfl, Nat.le_of_ble_eq_true rfl⟩) (k_preS hP hK hD hnw) rfl rfl hl.1 rfl (lv_room (Nat.le_of_ble_eq_true rfl)) d_M_inLevels_125 hc0) hD hS hA (fun _ _ H locs hp125 hP hD hK hS => ?_)
                  subst hp125
                  have hpf : fs_ (fun j => decide (key ≤ ((cX g t0 p0).getD j (0, 0)).1)) (by_ g p0) 0 = pf key (cX g t0 p0) := by have := pf_fs0 key (cX_ne hpk); rw [cX_len] at this; exact this
                  rw [hpf]
                  have hpl : pf key (cX g t0 p0) < by_ g p0 := by have := pf_lt (key := key) (cX_ne hpk); rw [cX_len] at this; exact this
                  replace hP : va_P D CC (wM tk h ad (mup u41 26 0 (nI 1)) la ++ tl) H := hP
                  replace hD : va_D A (wM tk h ad (mup u41 26 0 (nI 1)) la ++ tl) := hD
                  refine lv_goto hx hb d_M_inLevels_128 (tgt := 132) (by decide) ?_
                  refine lv_istore (lv' := [(8, .int (nI (pf key (cX g t0 p0)))), (3, .int root), (7, .int rr), (0, .ref h), (1, .int (nI key)), (2, .int (rdM g a0 t0)), (4, .int lkv), (5, .int hsv), (6, .int (nI c))]) hx hb d_M_inLevels_132 hl (by decide) rfl (fun ls hl => ?_)
                  refine lv_aload_n hx hb d_M_inLevels_134 rfl (lv_at hl 3 rfl) ?_
                  refine gf_M_63 (v := .ref (ad 30)) hx hb hT hown hK hP 0 rfl rfl d_M_inLevels_135 ?_
                  refine lv_iload hx hb d_M_inLevels_138 (lv_at hl 0 rfl) ?_
                  refine st_iald hx hb hK hP 18 0 rfl rfl (by omega) (by decide) d_M_inLevels_140 ?_
                  refine st_top (show (mup u41 26 0 (nI 1)) 30 (pf key (cX g t0 p0)) = u41 30 (pf key (cX g t0 p0)) from (rd_ne (by decide) rfl)) ?_
                  refine lv_istore (lv' := [(4, .int (u41 30 (pf key (cX g t0 p0)))), (8, .int (nI (pf key (cX g t0 p0)))), (3, .int root), (7, .int rr), (0, .ref h), (1, .int (nI key)), (2, .int (rdM g a0 t0)), (5, .int hsv), (6, .int (nI c))]) hx hb d_M_inLevels_141 hl (by decide) rfl (fun ls hl => ?_)
                  refine lv_aload_n hx hb d_M_inLevels_143 rfl (lv_at hl 4 rfl) ?_
                  refine gf_M_66 (v := .ref (ad 31)) hx hb hT hown hK hP 0 rfl rfl d_M_inLevels_144 ?_
                  refine lv_iload hx hb d_M_inLevels_147 (lv_at hl 1 rfl) ?_
                  refine st_iald hx hb hK hP 19 0 rfl rfl (by omega) (by decide) d_M_inLevels_149 ?_
                  refine st_top (show (mup u41 26 0 (nI 1)) 31 (pf key (cX g t0 p0)) = u41 31 (pf key (cX g t0 p0)) from (rd_ne (by decide) rfl)) ?_
                  refine lv_istore (lv' := [(5, .int (u41 31 (pf key (cX g t0 p0)))), (4, .int (u41 30 (pf key (cX g t0 p0)))), (8, .int (nI (pf key (cX g t0 p0)))), (3, .int root), (7, .int rr), (0, .ref h), (1, .int (nI key)), (2, .int (rdM g a0 t0)), (6, .int (nI c))]) hx hb d_M_inLevels_150 hl (by decide) rfl (fun ls hl => ?_)
                  refine lv_iinc (k := 8) (v := (nI c) + (-1)) (lv' := [(6, .int ((nI c) + (-1))), (5, .int (u41 31 (pf key (cX g t0 p0)))), (4, .int (u41 30 (pf key (cX g t0 p0)))), (8, .int (nI (pf key (cX g t0 p0)))), (3, .int root), (7, .int rr), (0, .ref h), (1, .int (nI key)), (2, .int (rdM g a0 t0))]) hx hb d_M_inLevels_152 hl rfl rfl (by decide) rfl (fun ls hl => ?_)
                  refine lv_goto hx hb d_M_inLevels_155 (tgt := 26) (by decide) ?_
                  rw [dm_m1] at hl
                  have hch := il_ch (key := key) hR9 hpk
                  exact ih26 true c (cE g p0) (some (ch_ key (cX g t0 p0))) (cX g t0 p0) (u41 30 (pf key (cX g t0 p0))) (u41 31 (pf key (cX g t0 p0))) root (dm c) (mup u41 26 0 (nI 1)) ls _ _ (by omega) rd_eq (fun _ => ⟨by first | (rw [hch.1, hch.2]; exact il_step hF hpk (fun _ => ⟨hrr.symm.trans hc66, hmk⟩) (rd_ne (by decide) iok2.2.2.1) (itR_up hR9) ((if_neg (by omega)).symm) hrkb) | exact il_step hF hpk (fun _ => ⟨hrr.symm.trans hc66, hmk⟩) (rd_ne (by decide) iok2.2.2.1) (itR_up hR9) ((if_neg (by omega)).symm) hrkb, rfl⟩) (fun q => by cases q) (frx_t hfru (L' := [26]) frx_m (fun x h => ⟨h, fun q => h (by simp at q ⊢; omega)⟩)) (lv_sub hl [6, 7, 8, 4, 2, 1, 0] rfl) hP hD hS
  exact key26 _ (decide (a0 < t0 ∧ by_ g a0 ≤ 6)) (by_ g a0) (a0 + 1) none ([]) (nI 0) (nI 0) (nI 0) (rdM g a0 t0 - nI 1) (mup (inM g a0 t0 (nI 0) (nI 6)) 29 0 (nI 0)) ls _ _ (Nat.lt_succ_self _) (rd_ne (by decide) (il_s26 hby hg261)) (fun q => il_s hby (of_decide_eq_true q)) (fun q z => of_decide_eq_false q ⟨z.1, z.2.1⟩) (frx_t (inM_fr _ _ _ _ _) (L' := [29]) frx_m (fun x h => ⟨fun q => h (by simp at q ⊢; omega), fun q => h (by simp at q ⊢; omega)⟩)) (lv_sub hl [5, 6, 4, 3, 2, 1, 0] rfl) hP hD hS
