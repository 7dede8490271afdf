/-- a byte as a number -/
def by_ (g : Nat → Nat → Int32) (i : Nat) : Nat := (g 24 i).toNatClampNeg
theorem by_e {g : Nat → Nat → Int32} {t0 : Nat} (hb : byt g t0) {i : Nat} (hi : i < t0) : g 24 i = nI (by_ g i) ∧ by_ g i < 256 := by
  obtain ⟨c, hc, e⟩ := hb i hi
  unfold by_
  rw [e, nI_clamp (by omega)]
  exact ⟨rfl, hc⟩
theorem rd_by {g γ : Nat → Nat → Int32} {t0 : Nat} (hb : byt g t0) (h24 : γ 24 = g 24) {i : Nat} (hi : i < t0) : rdM γ i t0 = nI (by_ g i) := by
  unfold rdM
  rw [if_pos hi, h24]
  exact (by_e hb hi).1
def rk (g : Nat → Nat → Int32) (a i : Nat) : Nat := by_ g (a + 1 + 5 * i)
def rv (g : Nat → Nat → Int32) (t0 a i : Nat) : Int32 := riM g (a + 1 + 5 * i + 1) t0
/-- the items of a chunk read at a -/
def its (g : Nat → Nat → Int32) (t0 a n : Nat) : List kv_I := (List.range n).map (fun i => (rk g a i, rv g t0 a i))
theorem its_succ (g : Nat → Nat → Int32) (t0 a n : Nat) : its g t0 a (n + 1) = its g t0 a n ++ [(rk g a n, rv g t0 a n)] := by
  unfold its
  rw [List.range_succ, List.map_append]
  rfl
theorem its_len (g : Nat → Nat → Int32) (t0 a n : Nat) : (its g t0 a n).length = n := by
  unfold its
  rw [List.length_map, List.length_range]
theorem hs_snoc (l : Nat) (X : List kv_I) (x : kv_I) : hs l (X ++ [x]) = mx (mx (hs l X) (nI x.1)) x.2 := by
  unfold hs
  rw [List.foldl_append]
  rfl
def nx_ (g : Nat → Nat → Int32) (a k : Nat) : Nat := if k = 0 then 0 else rk g a (k - 1) + 1
def bf_ (g : Nat → Nat → Int32) (a k : Nat) : Int32 := if k = 0 then -1 else nI (rk g a (k - 1))
theorem bf_1 (g : Nat → Nat → Int32) (a k : Nat) : bf_ g a k + nI 1 = nI (nx_ g a k) := by
  unfold bf_ nx_
  split
  · decide
  · rw [nI_add]
/-- the first k items of a chunk at a are well -/
def pk_ (g : Nat → Nat → Int32) (t0 a k : Nat) : Prop := (a < t0 ∧ 1 ≤ by_ g a ∧ by_ g a ≤ 48) ∧ a + 1 + 5 * k ≤ t0 ∧ ∀ i, i < k → nx_ g a i ≤ rk g a i ∧ rk g a i ≤ 47
theorem pk_succ (g : Nat → Nat → Int32) (t0 a k : Nat) : pk_ g t0 a (k + 1) ↔ pk_ g t0 a k ∧ a + 1 + 5 * k + 5 ≤ t0 ∧ nx_ g a k ≤ rk g a k ∧ rk g a k ≤ 47 := by
  unfold pk_
  constructor
  · rintro ⟨h1, h2, h3⟩
    exact ⟨⟨h1, by omega, fun i hi => h3 i (by omega)⟩, by omega, h3 k (by omega)⟩
  · rintro ⟨⟨h1, h2, h3⟩, h4, h5⟩
    refine ⟨h1, by omega, fun i hi => ?_⟩
    by_cases q : i = k
    · subst q; exact h5
    · exact h3 i (by omega)
theorem rt_key {g γ : Nat → Nat → Int32} {t0 : Nat} (hb : byt g t0) (h24 : γ 24 = g 24) (p lo hi : Nat) (hlo : lo < 2 ^ 31) (hhi : hi < 2 ^ 31) [d : Decidable (¬ γ 26 0 = 0 ∧ p < t0 ∧ lo ≤ by_ g p ∧ by_ g p ≤ hi)] : rtM γ (rdM γ p t0) (nI lo) (nI hi) = if ¬ γ 26 0 = 0 ∧ p < t0 ∧ lo ≤ by_ g p ∧ by_ g p ≤ hi then nI 1 else nI 0 := by
  unfold rtM
  by_cases h : p < t0
  · rw [rd_by hb h24 h]
    have hc := (by_e hb h).2
    by_cases q : ¬ γ 26 0 = 0 ∧ p < t0 ∧ lo ≤ by_ g p ∧ by_ g p ≤ hi
    · refine (if_pos ⟨q.1, ?_⟩).trans (if_pos q).symm
      rintro (z | z)
      · exact nI_nlt q.2.2.1 (by omega) z
      · exact nI_nlt q.2.2.2 (by omega) z
    · refine (if_neg ?_).trans (if_neg q).symm
      rintro ⟨z1, z2⟩
      refine q ⟨z1, h, ?_, ?_⟩
      · exact Nat.le_of_not_lt (fun z => z2 (Or.inl (nI_lt z hlo)))
      · exact Nat.le_of_not_lt (fun z => z2 (Or.inr (nI_lt z (by omega))))
  · have e : rdM γ p t0 = -1 := by unfold rdM; rw [if_neg h]
    rw [e]
    refine (if_neg (fun z => z.2 (Or.inl ?_))).trans (if_neg (fun z => h z.2.1)).symm
    rw [Int32.lt_iff_toInt_lt, nI_toInt hlo]
    have : ((-1 : Int32)).toInt = -1 := by decide
    omega


theorem ic_26 {g γ : Nat → Nat → Int32} {t0 a0 k : Nat} {b : Int32} (hby : byt g t0) (h24 : γ 24 = g 24) (hpk : pk_ g t0 a0 k) [d1 : Decidable (pk_ g t0 a0 k)] [d2 : Decidable (pk_ g t0 a0 (k + 1))] (h26 : γ 26 0 = if pk_ g t0 a0 k then nI 1 else nI 0) :
    iiM (mup (inM γ (a0 + 1 + 5 * k) t0 (nI (nx_ g a0 k)) (nI 47)) 30 k b) (a0 + 1 + 5 * k + 1) t0 26 0 = if pk_ g t0 a0 (k + 1) then nI 1 else nI 0 := by
  have hnx : nx_ g a0 k < 2 ^ 31 := by
    unfold nx_
    split
    · decide
    · have := (hpk.2.2 (k - 1) (by omega)).2
      omega
  have e1 : ¬ γ 26 0 = 0 := by rw [h26, if_pos hpk]; decide
  have e2 : mup (inM γ (a0 + 1 + 5 * k) t0 (nI (nx_ g a0 k)) (nI 47)) 30 k b 26 0 = rtM γ (rdM γ (a0 + 1 + 5 * k) t0) (nI (nx_ g a0 k)) (nI 47) := rd_ne (by decide) (inM_26 _ _ _ _ _)
  have e3 : mup (inM γ (a0 + 1 + 5 * k) t0 (nI (nx_ g a0 k)) (nI 47)) 30 k b 24 = g 24 := (mup_ne (by decide)).trans ((inM_fr _ _ _ _ _ 24 (by decide)).trans h24)
  have hd := Classical.propDecidable (¬ γ 26 0 = 0 ∧ a0 + 1 + 5 * k < t0 ∧ nx_ g a0 k ≤ by_ g (a0 + 1 + 5 * k) ∧ by_ g (a0 + 1 + 5 * k) ≤ 47)
  have e4 := rt_key hby h24 (a0 + 1 + 5 * k) (nx_ g a0 k) 47 hnx (by decide) (d := hd)
  rw [ii_26 hby e3]
  by_cases q : pk_ g t0 a0 (k + 1)
  · have q2 := (pk_succ g t0 a0 k).mp q
    refine (if_pos ⟨?_, by omega⟩).trans (if_pos q).symm
    rw [e2, e4]
    exact fun z => if_10.mp z ⟨e1, by omega, q2.2.2.1, q2.2.2.2⟩
  · refine (if_neg ?_).trans (if_neg q).symm
    rintro ⟨z1, z2⟩
    rw [e2, e4] at z1
    have z3 := Classical.not_not.mp (fun w => z1 (if_10.mpr w))
    exact q ((pk_succ g t0 a0 k).mpr ⟨hpk, by omega, z3.2.2.1, z3.2.2.2⟩)
theorem pk_mono {g : Nat → Nat → Int32} {t0 a0 k n : Nat} (h : pk_ g t0 a0 n) (hk : k ≤ n) : pk_ g t0 a0 k := ⟨h.1, by have := h.2.1; omega, fun i hi => h.2.2 i (by omega)⟩
theorem ic_ok {g γ : Nat → Nat → Int32} {t0 a0 k lv : Nat} {x bv : Int32} (hby : byt g t0) (h24 : γ 24 = g 24) (hok : x = hs lv (its g t0 a0 k) ∧ bv = bf_ g a0 k ∧ ∀ i, i < k → γ 30 i = nI (rk g a0 i) ∧ γ 31 i = rv g t0 a0 i) (hp : pk_ g t0 a0 (k + 1)) :
    mx (mx x (rdM γ (a0 + 1 + 5 * k) t0)) (riM g (a0 + 1 + 5 * k + 1) t0) = hs lv (its g t0 a0 (k + 1)) ∧ rdM γ (a0 + 1 + 5 * k) t0 = bf_ g a0 (k + 1) ∧
    ∀ i, i < k + 1 → mup (iiM (mup (inM γ (a0 + 1 + 5 * k) t0 (nI (nx_ g a0 k)) (nI 47)) 30 k (rdM γ (a0 + 1 + 5 * k) t0)) (a0 + 1 + 5 * k + 1) t0) 31 k (riM g (a0 + 1 + 5 * k + 1) t0) 30 i = nI (rk g a0 i) ∧ mup (iiM (mup (inM γ (a0 + 1 + 5 * k) t0 (nI (nx_ g a0 k)) (nI 47)) 30 k (rdM γ (a0 + 1 + 5 * k) t0)) (a0 + 1 + 5 * k + 1) t0) 31 k (riM g (a0 + 1 + 5 * k + 1) t0) 31 i = rv g t0 a0 i := by
  have q2 := (pk_succ g t0 a0 k).mp hp
  have er : rdM γ (a0 + 1 + 5 * k) t0 = nI (rk g a0 k) := rd_by hby h24 (by omega)
  refine ⟨?_, ?_, fun i hi => ⟨?_, ?_⟩⟩
  · rw [its_succ, hs_snoc, ← hok.1, er]; rfl
  · rw [er]; unfold bf_; rw [if_neg (by omega)]; rfl
  · refine rd_ne (by decide) ((congrFun (iiM_fr _ _ _ 30 (by decide)) i).trans ?_)
    by_cases q : i = k
    · subst q; exact rd_eq.trans er
    · exact rd_ni q ((congrFun (inM_fr _ _ _ _ _ 30 (by decide)) i).trans (hok.2.2 i (by omega)).1)
  · by_cases q : i = k
    · subst q; exact rd_eq
    · exact rd_ni q ((congrFun (iiM_fr _ _ _ 31 (by decide)) i).trans (rd_ne (by decide) ((congrFun (inM_fr _ _ _ _ _ 31 (by decide)) i).trans (hok.2.2 i (by omega)).2)))

theorem ic_start {g : Nat → Nat → Int32} {t0 a0 : Nat} (hby : byt g t0) (hg26 : ¬ g 26 0 = 0) [d : Decidable (pk_ g t0 a0 0)] : inM g a0 t0 (nI 1) (nI 48) 26 0 = if pk_ g t0 a0 0 then nI 1 else nI 0 := by
  have hd := Classical.propDecidable (¬ g 26 0 = 0 ∧ a0 < t0 ∧ 1 ≤ by_ g a0 ∧ by_ g a0 ≤ 48)
  rw [inM_26, rt_key hby rfl _ _ _ (by decide) (by decide) (d := hd)]
  by_cases q : pk_ g t0 a0 0
  · exact (if_pos ⟨hg26, q.1.1, q.1.2.1, q.1.2.2⟩).trans (if_pos q).symm
  · exact (if_neg (fun z => q ⟨⟨z.2.1, z.2.2.1, z.2.2.2⟩, by omega, fun i hi => by omega⟩)).trans (if_neg q).symm

set_option maxHeartbeats 4000000 in
set_option maxRecDepth 100000 in
theorem c_M_inChunk (l : Launch) (D : va_G) (tk : Nat → ClassId) (sz : Nat) (h : Nat) (ad : Nat → Nat) (g : Nat → Nat → Int32) (la : Nat → Int64) (tl : va_W) (lv a0 t0 : Nat) (hlv : lv < 8) (ha0 : a0 < 2 ^ 15) (ht0 : t0 ≤ 420) (hga : g 25 0 = nI a0) (hgt : g 23 0 = nI t0) (hby : byt g t0) (hg261 : g 26 0 = 1) (_d : ∀ k, Decidable (pk_ g t0 a0 k)) : Met l y_M_inChunk w_M_inChunk ({ frames := 3, cells := 0, slots := 0, locals := 67 }) (va_Pc [.ref h, .int (nI lv)] (k_pre D (TY tk) sz (wM tk h ad g la ++ tl))) (va_Qi (fun (r : Int32) (u : Nat → Nat → Int32) => u 26 0 = (if pk_ g t0 a0 (by_ g a0) then nI 1 else nI 0) ∧ (pk_ g t0 a0 (by_ g a0) → u 29 0 = nI (by_ g a0) ∧ r = hs lv (its g t0 a0 (by_ g a0)) ∧ u 25 0 = nI (a0 + 1 + 5 * by_ g a0) ∧ ∀ i, i < by_ g a0 → u 30 i = nI (rk g a0 i) ∧ u 31 i = rv g t0 a0 i) ∧ frx [25, 26, 29, 30, 31] g u) (fun u t => k_at D (TY tk) (va_A (wM tk h ad g la ++ tl) sz) ((fun u => wM tk h ad u la ++ tl) u) t) (va_A (wM tk h ad g la ++ tl) sz)) 0 0 (va_A (wM tk h ad g la ++ tl) sz) := by
  refine k_ofW (fun A => va_Qi (fun (r : Int32) (u : Nat → Nat → Int32) => u 26 0 = (if pk_ g t0 a0 (by_ g a0) then nI 1 else nI 0) ∧ (pk_ g t0 a0 (by_ g a0) → u 29 0 = nI (by_ g a0) ∧ r = hs lv (its g t0 a0 (by_ g a0)) ∧ u 25 0 = nI (a0 + 1 + 5 * by_ g a0) ∧ ∀ i, i < by_ g a0 → u 30 i = nI (rk g a0 i) ∧ u 31 i = rv g t0 a0 i) ∧ frx [25, 26, 29, 30, 31] g u) (fun u t => k_at D (TY tk) A ((fun u => wM tk h ad u la ++ tl) u) t) A) (by decide) (Nat.le_of_ble_eq_true rfl) ?_
  intro p e s m args below meth c Q A ls hQ hx hb hr hlk hin hts hT hown hml hnw hP hK hD hA hsz hl
  have hS : va_S A s.heap s.heap [] := va_S.rf
  have hc0 : 0 + 0 ≤ 0 ∧ 0 + 0 ≤ 0 := ⟨by decide, by decide⟩
  replace hl : lv_has ls 5 [(0, .ref h), (1, .int (nI lv))] := hl
  replace hP : va_P D CC (wM tk h ad g la ++ tl) s.heap := hP
  replace hK : va_K D CC (TY tk) s := hK
  have hg26 : ¬ g 26 0 = 0 := by rw [hg261]; decide
  refine lv_aload_n hx hb d_M_inChunk_0 rfl (lv_at hl 0 rfl) ?_
  refine lv_aload_n hx hb d_M_inChunk_1 rfl (lv_at hl 0 rfl) ?_
  refine lv_iconst (v := nI 1) hx hb d_M_inChunk_2 (by decide) ?_
  refine lv_bipush (v := nI 48) hx hb d_M_inChunk_3 (by decide) ?_
  refine k_calli (va_runV (As := [.int (nI 1), .int (nI 48)]) (rest := [.ref h]) ⟨hx, hb, hml, hown, hts⟩ (c_M_in l D tk s.heap.size h ad g la tl a0 t0 (nI 1) (nI 48) (Or.inr hg261) (by omega) (by omega) hga hgt) (cwV 2 hts (gV t_1215 t_1217 s_38 t_9 t_1218) rfl rfl rfl (by decide +kernel) ⟨Nat.le_of_ble_eq_true rfl, Nat.le_of_ble_eq_true rfl⟩) (k_preV hP hK hD hnw 0 rfl rfl) rfl rfl hl.1 rfl (lv_room (Nat.le_of_ble_eq_true rfl)) d_M_inChunk_5 hc0) hD hS hA (fun _ _ H locs hp5 hP hD hK hS => ?_)
  subst hp5
  replace hP : va_P D CC (wM tk h ad (inM g a0 t0 (nI 1) (nI 48)) la ++ tl) H := hP
  replace hD : va_D A (wM tk h ad (inM g a0 t0 (nI 1) (nI 48)) la ++ tl) := hD
  refine pf_M_211 hx hb hT hown hK hP hD hS 0 rfl (Nat.le_of_ble_eq_true rfl) d_M_inChunk_8 (fun H locs hP hD hS => ?_)
  replace hP : va_P D CC (wM tk h ad (mup (inM g a0 t0 (nI 1) (nI 48)) 29 0 (rdM g a0 t0)) la ++ tl) H := Eq.mp (congrArg (fun w => va_P D CC w H) (sM_29 tk h ad (inM g a0 t0 (nI 1) (nI 48)) la tl (rdM g a0 t0))) hP
  replace hD : va_D A (wM tk h ad (mup (inM g a0 t0 (nI 1) (nI 48)) 29 0 (rdM g a0 t0)) la ++ tl) := Eq.mp (congrArg (fun w => va_D A w) (sM_29 tk h ad (inM g a0 t0 (nI 1) (nI 48)) la tl (rdM g a0 t0))) hD
  refine lv_bipush (v := nI 6) hx hb d_M_inChunk_11 (by decide) ?_
  refine lv_iload_n hx hb d_M_inChunk_13 rfl (lv_at hl 1 rfl) ?_
  refine k_calli (va_runS (As := [.int (nI 6), .int (nI lv)]) (rest := []) ⟨hx, hb, hml, hown, hts⟩ (c_M_mix l D tk H.size (nI 6) (nI lv) (wM tk h ad (mup (inM g a0 t0 (nI 1) (nI 48)) 29 0 (rdM g a0 t0)) la ++ tl)) (cwS 2 hts (gS t_1079 t_1080 t_9 t_1081) rfl rfl rfl (by decide +kernel) ⟨Nat.le_of_ble_eq_true rfl, Nat.le_of_ble_eq_true rfl⟩) (k_preS hP hK hD hnw) rfl rfl hl.1 rfl (lv_room (Nat.le_of_ble_eq_true rfl)) d_M_inChunk_14 hc0) hD hS hA (fun _ _ H locs hp14 hP hD hK hS => ?_)
  subst hp14
  replace hP : va_P D CC (wM tk h ad (mup (inM g a0 t0 (nI 1) (nI 48)) 29 0 (rdM g a0 t0)) la ++ tl) H := hP
  replace hD : va_D A (wM tk h ad (mup (inM g a0 t0 (nI 1) (nI 48)) 29 0 (rdM g a0 t0)) la ++ tl) := hD
  refine lv_istore_n (lv' := [(2, .int (mx (nI 6) (nI lv))), (0, .ref h), (1, .int (nI lv))]) hx hb d_M_inChunk_17 rfl hl (by decide) rfl (fun ls hl => ?_)
  refine lv_iconst (v := -1) hx hb d_M_inChunk_18 (by decide) ?_
  refine lv_istore_n (lv' := [(3, .int (-1)), (2, .int (mx (nI 6) (nI lv))), (0, .ref h), (1, .int (nI lv))]) hx hb d_M_inChunk_19 rfl hl (by decide) rfl (fun ls hl => ?_)
  refine lv_iconst (v := nI 0) hx hb d_M_inChunk_20 (by decide) ?_
  refine lv_istore (lv' := [(4, .int (nI 0)), (3, .int (-1)), (2, .int (mx (nI 6) (nI lv))), (0, .ref h), (1, .int (nI lv))]) hx hb d_M_inChunk_21 hl (by decide) rfl (fun ls hl => ?_)
  have key23 : ∀ (n23 : Nat) (k : Nat) (x : Int32) (bv : Int32) (γ : Nat → Nat → Int32) (ls : Array Slot) (H : Heap) (locs : List Loc), 49 - k < n23 → (k ≤ 48 ∧ k ≤ by_ g a0) → (γ 25 0 = nI (a0 + 1 + 5 * k)) → (γ 26 0 = if pk_ g t0 a0 k then nI 1 else nI 0) → (γ 29 0 = rdM g a0 t0) → (pk_ g t0 a0 k → x = hs lv (its g t0 a0 k) ∧ bv = bf_ g a0 k ∧ ∀ i, i < k → γ 30 i = nI (rk g a0 i) ∧ γ 31 i = rv g t0 a0 i) → (frx [25, 26, 29, 30, 31] g γ) → lv_has ls 5 [(0, .ref h), (1, .int (nI lv)), (2, .int x), (3, .int bv), (4, .int (nI k))] → va_P D CC (wM tk h ad γ la ++ tl) H → va_D A (wM tk h ad γ la ++ tl) → va_S A s.heap H locs → W p l e ({ frames := 3, cells := 0, slots := 0, locals := 67 } : Room) s m args below meth c H locs 0 0 Q (F0 m 23 ls []) := by
    intro n23
    induction n23 with
    | zero => intro k x bv γ ls H locs hn; exact absurd hn (Nat.not_lt_zero _)
    | succ n23 ih23 =>
      intro k x bv γ ls H locs hn23 hk h25 h26 h29 hok hfr hl hP hD hS
      have h24 : γ 24 = g 24 := hfr 24 (by decide)
      refine lv_aload_n hx hb d_M_inChunk_23 rfl (lv_at hl 0 rfl) ?_
      refine gf_M_200 (v := .int (γ 26 0)) hx hb hT hown hK hP 0 rfl rfl d_M_inChunk_24 ?_
      refine lv_if_eq hx hb d_M_inChunk_27 (tgt := 102) (by decide) (fun hc27 => ?_) (fun hc27 => ?_)
      · skip
        have hnp : ¬ pk_ g t0 a0 k := by rw [h26] at hc27; exact if_10.mp hc27
        refine lv_iload_n hx hb d_M_inChunk_102 rfl (lv_at hl 2 rfl) ?_
        exact k_iret (v := x) hQ hx hb hr hlk hK hP hD hS γ rfl (⟨h26.trans ((if_neg hnp).trans (if_neg (fun q => hnp (pk_mono q hk.2))).symm), fun q => absurd (pk_mono q hk.2) hnp, hfr⟩) d_M_inChunk_103
      · skip
        have hpk : pk_ g t0 a0 k := Classical.byContradiction (fun q => hc27 (by rw [h26]; exact if_10.mpr q))
        have hb48 := hpk.1.2.2
        have hb256 := (by_e hby hpk.1.1).2
        have hat := hpk.2.1
        refine lv_iload hx hb d_M_inChunk_30 (lv_at hl 4 rfl) ?_
        refine lv_aload_n hx hb d_M_inChunk_32 rfl (lv_at hl 0 rfl) ?_
        refine gf_M_211 (v := .int (γ 29 0)) hx hb hT hown hK hP 0 rfl rfl d_M_inChunk_33 ?_
        refine st_top (show γ 29 0 = nI (by_ g a0) from h29.trans (rd_by hby rfl hpk.1.1)) ?_
        refine st_icmp_ge hx hb (by omega) (by omega) d_M_inChunk_36 (tgt := 102) (by decide) (fun hc36 => ?_) (fun hc36 => ?_)
        · skip
          obtain rfl : k = by_ g a0 := by omega
          refine lv_iload_n hx hb d_M_inChunk_102 rfl (lv_at hl 2 rfl) ?_
          exact k_iret (v := x) hQ hx hb hr hlk hK hP hD hS γ rfl (⟨h26, fun q => ⟨h29.trans (rd_by hby rfl q.1.1), (hok q).1, h25, (hok q).2.2⟩, hfr⟩) d_M_inChunk_103
        · skip
          refine lv_aload_n hx hb d_M_inChunk_39 rfl (lv_at hl 0 rfl) ?_
          refine gf_M_63 (v := .ref (ad 30)) hx hb hT hown hK hP 0 rfl rfl d_M_inChunk_40 ?_
          refine lv_iload hx hb d_M_inChunk_43 (lv_at hl 4 rfl) ?_
          refine lv_aload_n hx hb d_M_inChunk_45 rfl (lv_at hl 0 rfl) ?_
          refine lv_iload_n hx hb d_M_inChunk_46 rfl (lv_at hl 3 rfl) ?_
          refine lv_iconst (v := nI 1) hx hb d_M_inChunk_47 (by decide) ?_
          refine lv_iadd hx hb d_M_inChunk_48 ?_
          refine st_top (show bv + (nI 1) = nI (nx_ g a0 k) from by rw [(hok hpk).2.1]; exact bf_1 g a0 k) ?_
          refine lv_bipush (v := nI 47) hx hb d_M_inChunk_49 (by decide) ?_
          refine k_calli (va_runV (As := [.int (nI (nx_ g a0 k)), .int (nI 47)]) (rest := [.int (nI k), .ref (ad 30)]) ⟨hx, hb, hml, hown, hts⟩ (c_M_in l D tk H.size h ad γ la tl (a0 + 1 + 5 * k) t0 (nI (nx_ g a0 k)) (nI 47) (b01 h26) (by omega) (by omega) h25 ((congrFun (hfr 23 (by decide)) 0).trans hgt)) (cwV 2 hts (gV t_1215 t_1217 s_38 t_9 t_1218) rfl rfl rfl (by decide +kernel) ⟨Nat.le_of_ble_eq_true rfl, Nat.le_of_ble_eq_true rfl⟩) (k_preV hP hK hD hnw 0 rfl rfl) rfl rfl hl.1 rfl (lv_room (Nat.le_of_ble_eq_true rfl)) d_M_inChunk_51 hc0) hD hS hA (fun _ _ H locs hp51 hP hD hK hS => ?_)
          subst hp51
          replace hP : va_P D CC (wM tk h ad (inM γ (a0 + 1 + 5 * k) t0 (nI (nx_ g a0 k)) (nI 47)) la ++ tl) H := hP
          replace hD : va_D A (wM tk h ad (inM γ (a0 + 1 + 5 * k) t0 (nI (nx_ g a0 k)) (nI 47)) la ++ tl) := hD
          refine st_iast hx hb hK hP hD hS 18 0 rfl rfl (by omega) (by decide) d_M_inChunk_54 (fun H locs hP hD hS => ?_)
          replace hP : va_P D CC (wM tk h ad (mup (inM γ (a0 + 1 + 5 * k) t0 (nI (nx_ g a0 k)) (nI 47)) 30 k (rdM γ (a0 + 1 + 5 * k) t0)) la ++ tl) H := Eq.mp (congrArg (fun w => va_P D CC w H) (sM_30 tk h ad (inM γ (a0 + 1 + 5 * k) t0 (nI (nx_ g a0 k)) (nI 47)) la tl k (rdM γ (a0 + 1 + 5 * k) t0))) hP
          replace hD : va_D A (wM tk h ad (mup (inM γ (a0 + 1 + 5 * k) t0 (nI (nx_ g a0 k)) (nI 47)) 30 k (rdM γ (a0 + 1 + 5 * k) t0)) la ++ tl) := Eq.mp (congrArg (fun w => va_D A w) (sM_30 tk h ad (inM γ (a0 + 1 + 5 * k) t0 (nI (nx_ g a0 k)) (nI 47)) la tl k (rdM γ (a0 + 1 + 5 * k) t0))) hD
          refine lv_aload_n hx hb d_M_inChunk_55 rfl (lv_at hl 0 rfl) ?_
          refine gf_M_66 (v := .ref (ad 31)) hx hb hT hown hK hP 0 rfl rfl d_M_inChunk_56 ?_
          refine lv_iload hx hb d_M_inChunk_59 (lv_at hl 4 rfl) ?_
          refine lv_aload_n hx hb d_M_inChunk_61 rfl (lv_at hl 0 rfl) ?_
          refine k_calli (va_runV (As := []) (rest := [.int (nI k), .ref (ad 31)]) ⟨hx, hb, hml, hown, hts⟩ (c_M_inInt l D tk H.size h ad (mup (inM γ (a0 + 1 + 5 * k) t0 (nI (nx_ g a0 k)) (nI 47)) 30 k (rdM γ (a0 + 1 + 5 * k) t0)) la tl (a0 + 1 + 5 * k + 1) t0 (by rw [show (mup (inM γ (a0 + 1 + 5 * k) t0 (nI (nx_ g a0 k)) (nI 47)) 30 k (rdM γ (a0 + 1 + 5 * k) t0)) 26 0 = rtM γ (rdM γ (a0 + 1 + 5 * k) t0) (nI (nx_ g a0 k)) (nI 47) from rd_ne (by decide) (inM_26 _ _ _ _ _)]; exact rtM_b _ _ _ _) (by omega) (by omega) (rd_ne (by decide) (in_25 _ _ _ _ _)) (rd_ne (by decide) ((congrFun (inM_fr _ _ _ _ _ 23 (by decide)) 0).trans ((congrFun (hfr 23 (by decide)) 0).trans hgt)))) (cwV 0 hts (gV t_1219 t_1221 s_39 t_9 t_1222) rfl rfl rfl (by decide +kernel) ⟨Nat.le_of_ble_eq_true rfl, Nat.le_of_ble_eq_true rfl⟩) (k_preV hP hK hD hnw 0 rfl rfl) rfl rfl hl.1 rfl (lv_room (Nat.le_of_ble_eq_true rfl)) d_M_inChunk_62 hc0) hD hS hA (fun _ _ H locs hp62 hP hD hK hS => ?_)
          subst hp62
          replace hP : va_P D CC (wM tk h ad (iiM (mup (inM γ (a0 + 1 + 5 * k) t0 (nI (nx_ g a0 k)) (nI 47)) 30 k (rdM γ (a0 + 1 + 5 * k) t0)) (a0 + 1 + 5 * k + 1) t0) la ++ tl) H := hP
          replace hD : va_D A (wM tk h ad (iiM (mup (inM γ (a0 + 1 + 5 * k) t0 (nI (nx_ g a0 k)) (nI 47)) 30 k (rdM γ (a0 + 1 + 5 * k) t0)) (a0 + 1 + 5 * k + 1) t0) la ++ tl) := hD
          refine st_top (show riM (mup (inM γ (a0 + 1 + 5 * k) t0 (nI (nx_ g a0 k)) (nI 47)) 30 k (rdM γ (a0 + 1 + 5 * k) t0)) (a0 + 1 + 5 * k + 1) t0 = riM g (a0 + 1 + 5 * k + 1) t0 from ri_c ((mup_ne (by decide)).trans ((inM_fr _ _ _ _ _ 24 (by decide)).trans h24)) _ _) ?_
          refine st_iast hx hb hK hP hD hS 19 0 rfl rfl (by omega) (by decide) d_M_inChunk_65 (fun H locs hP hD hS => ?_)
          replace hP : va_P D CC (wM tk h ad (mup (iiM (mup (inM γ (a0 + 1 + 5 * k) t0 (nI (nx_ g a0 k)) (nI 47)) 30 k (rdM γ (a0 + 1 + 5 * k) t0)) (a0 + 1 + 5 * k + 1) t0) 31 k (riM g (a0 + 1 + 5 * k + 1) t0)) la ++ tl) H := Eq.mp (congrArg (fun w => va_P D CC w H) (sM_31 tk h ad (iiM (mup (inM γ (a0 + 1 + 5 * k) t0 (nI (nx_ g a0 k)) (nI 47)) 30 k (rdM γ (a0 + 1 + 5 * k) t0)) (a0 + 1 + 5 * k + 1) t0) la tl k (riM g (a0 + 1 + 5 * k + 1) t0))) hP
          replace hD : va_D A (wM tk h ad (mup (iiM (mup (inM γ (a0 + 1 + 5 * k) t0 (nI (nx_ g a0 k)) (nI 47)) 30 k (rdM γ (a0 + 1 + 5 * k) t0)) (a0 + 1 + 5 * k + 1) t0) 31 k (riM g (a0 + 1 + 5 * k + 1) t0)) la ++ tl) := Eq.mp (congrArg (fun w => va_D A w) (sM_31 tk h ad (iiM (mup (inM γ (a0 + 1 + 5 * k) t0 (nI (nx_ g a0 k)) (nI 47)) 30 k (rdM γ (a0 + 1 + 5 * k) t0)) (a0 + 1 + 5 * k + 1) t0) la tl k (riM g (a0 + 1 + 5 * k + 1) t0))) hD
          refine lv_iload_n hx hb d_M_inChunk_66 rfl (lv_at hl 2 rfl) ?_
          refine lv_aload_n hx hb d_M_inChunk_67 rfl (lv_at hl 0 rfl) ?_
          refine gf_M_63 (v := .ref (ad 30)) hx hb hT hown hK hP 0 rfl rfl d_M_inChunk_68 ?_
          refine lv_iload hx hb d_M_inChunk_71 (lv_at hl 4 rfl) ?_
          refine st_iald hx hb hK hP 18 0 rfl rfl (by omega) (by decide) d_M_inChunk_73 ?_
          refine st_top (show (mup (iiM (mup (inM γ (a0 + 1 + 5 * k) t0 (nI (nx_ g a0 k)) (nI 47)) 30 k (rdM γ (a0 + 1 + 5 * k) t0)) (a0 + 1 + 5 * k + 1) t0) 31 k (riM g (a0 + 1 + 5 * k + 1) t0)) 30 k = (iiM (mup (inM γ (a0 + 1 + 5 * k) t0 (nI (nx_ g a0 k)) (nI 47)) 30 k (rdM γ (a0 + 1 + 5 * k) t0)) (a0 + 1 + 5 * k + 1) t0) 30 k from (rd_ne (by decide) rfl)) ?_
          refine st_top (show (iiM (mup (inM γ (a0 + 1 + 5 * k) t0 (nI (nx_ g a0 k)) (nI 47)) 30 k (rdM γ (a0 + 1 + 5 * k) t0)) (a0 + 1 + 5 * k + 1) t0) 30 k = rdM γ (a0 + 1 + 5 * k) t0 from (congrFun (iiM_fr _ _ _ 30 (by decide)) k).trans rd_eq) ?_
          refine k_calli (va_runS (As := [.int x, .int (rdM γ (a0 + 1 + 5 * k) t0)]) (rest := []) ⟨hx, hb, hml, hown, hts⟩ (c_M_mix l D tk H.size x (rdM γ (a0 + 1 + 5 * k) t0) (wM tk h ad (mup (iiM (mup (inM γ (a0 + 1 + 5 * k) t0 (nI (nx_ g a0 k)) (nI 47)) 30 k (rdM γ (a0 + 1 + 5 * k) t0)) (a0 + 1 + 5 * k + 1) t0) 31 k (riM g (a0 + 1 + 5 * k + 1) t0)) la ++ tl)) (cwS 2 hts (gS t_1079 t_1080 t_9 t_1081) rfl rfl rfl (by decide +kernel) ⟨Nat.le_of_ble_eq_true rfl, Nat.le_of_ble_eq_true rfl⟩) (k_preS hP hK hD hnw) rfl rfl hl.1 rfl (lv_room (Nat.le_of_ble_eq_true rfl)) d_M_inChunk_74 hc0) hD hS hA (fun _ _ H locs hp74 hP hD hK hS => ?_)
          subst hp74
          replace hP : va_P D CC (wM tk h ad (mup (iiM (mup (inM γ (a0 + 1 + 5 * k) t0 (nI (nx_ g a0 k)) (nI 47)) 30 k (rdM γ (a0 + 1 + 5 * k) t0)) (a0 + 1 + 5 * k + 1) t0) 31 k (riM g (a0 + 1 + 5 * k + 1) t0)) la ++ tl) H := hP
          replace hD : va_D A (wM tk h ad (mup (iiM (mup (inM γ (a0 + 1 + 5 * k) t0 (nI (nx_ g a0 k)) (nI 47)) 30 k (rdM γ (a0 + 1 + 5 * k) t0)) (a0 + 1 + 5 * k + 1) t0) 31 k (riM g (a0 + 1 + 5 * k + 1) t0)) la ++ tl) := hD
          refine lv_aload_n hx hb d_M_inChunk_77 rfl (lv_at hl 0 rfl) ?_
          refine gf_M_66 (v := .ref (ad 31)) hx hb hT hown hK hP 0 rfl rfl d_M_inChunk_78 ?_
          refine lv_iload hx hb d_M_inChunk_81 (lv_at hl 4 rfl) ?_
          refine st_iald hx hb hK hP 19 0 rfl rfl (by omega) (by decide) d_M_inChunk_83 ?_
          refine st_top (show (mup (iiM (mup (inM γ (a0 + 1 + 5 * k) t0 (nI (nx_ g a0 k)) (nI 47)) 30 k (rdM γ (a0 + 1 + 5 * k) t0)) (a0 + 1 + 5 * k + 1) t0) 31 k (riM g (a0 + 1 + 5 * k + 1) t0)) 31 k = riM g (a0 + 1 + 5 * k + 1) t0 from rd_eq) ?_
          refine k_calli (va_runS (As := [.int (mx x (rdM γ (a0 + 1 + 5 * k) t0)), .int (riM g (a0 + 1 + 5 * k + 1) t0)]) (rest := []) ⟨hx, hb, hml, hown, hts⟩ (c_M_mix l D tk H.size (mx x (rdM γ (a0 + 1 + 5 * k) t0)) (riM g (a0 + 1 + 5 * k + 1) t0) (wM tk h ad (mup (iiM (mup (inM γ (a0 + 1 + 5 * k) t0 (nI (nx_ g a0 k)) (nI 47)) 30 k (rdM γ (a0 + 1 + 5 * k) t0)) (a0 + 1 + 5 * k + 1) t0) 31 k (riM g (a0 + 1 + 5 * k + 1) t0)) la ++ tl)) (cwS 2 hts (gS t_1079 t_1080 t_9 t_1081) rfl rfl rfl (by decide +kernel) ⟨Nat.le_of_ble_eq_true rfl, Nat.le_of_ble_eq_true rfl⟩) (k_preS hP hK hD hnw) rfl rfl hl.1 rfl (lv_room (Nat.le_of_ble_eq_true rfl)) d_M_inChunk_84 hc0) hD hS hA (fun _ _ H locs hp84 hP hD hK hS => ?_)
          subst hp84
          replace hP : va_P D CC (wM tk h ad (mup (iiM (mup (inM γ (a0 + 1 + 5 * k) t0 (nI (nx_ g a0 k)) (nI 47)) 30 k (rdM γ (a0 + 1 + 5 * k) t0)) (a0 + 1 + 5 * k + 1) t0) 31 k (riM g (a0 + 1 + 5 * k + 1) t0)) la ++ tl) H := hP
          replace hD : va_D A (wM tk h ad (mup (iiM (mup (inM γ (a0 + 1 + 5 * k) t0 (nI (nx_ g a0 k)) (nI 47)) 30 k (rdM γ (a0 + 1 + 5 * k) t0)) (a0 + 1 + 5 * k + 1) t0) 31 k (riM g (a0 + 1 + 5 * k + 1) t0)) la ++ tl) := hD
          refine lv_istore_n (lv' := [(2, .int (mx (mx x (rdM γ (a0 + 1 + 5 * k) t0)) (riM g (a0 + 1 + 5 * k + 1) t0))), (0, .ref h), (1, .int (nI lv)), (3, .int bv), (4, .int (nI k))]) hx hb d_M_inChunk_87 rfl hl (by decide) rfl (fun ls hl => ?_)
          refine lv_aload_n hx hb d_M_inChunk_88 rfl (lv_at hl 1 rfl) ?_
          refine gf_M_63 (v := .ref (ad 30)) hx hb hT hown hK hP 0 rfl rfl d_M_inChunk_89 ?_
          refine lv_iload hx hb d_M_inChunk_92 (lv_at hl 4 rfl) ?_
          refine st_iald hx hb hK hP 18 0 rfl rfl (by omega) (by decide) d_M_inChunk_94 ?_
          refine st_top (show (mup (iiM (mup (inM γ (a0 + 1 + 5 * k) t0 (nI (nx_ g a0 k)) (nI 47)) 30 k (rdM γ (a0 + 1 + 5 * k) t0)) (a0 + 1 + 5 * k + 1) t0) 31 k (riM g (a0 + 1 + 5 * k + 1) t0)) 30 k = (iiM (mup (inM γ (a0 + 1 + 5 * k) t0 (nI (nx_ g a0 k)) (nI 47)) 30 k (rdM γ (a0 + 1 + 5 * k) t0)) (a0 + 1 + 5 * k + 1) t0) 30 k from (rd_ne (by decide) rfl)) ?_
          refine st_top (show (iiM (mup (inM γ (a0 + 1 + 5 * k) t0 (nI (nx_ g a0 k)) (nI 47)) 30 k (rdM γ (a0 + 1 + 5 * k) t0)) (a0 + 1 + 5 * k + 1) t0) 30 k = rdM γ (a0 + 1 + 5 * k) t0 from (congrFun (iiM_fr _ _ _ 30 (by decide)) k).trans rd_eq) ?_
          refine lv_istore_n (lv' := [(3, .int (rdM γ (a0 + 1 + 5 * k) t0)), (2, .int (mx (mx x (rdM γ (a0 + 1 + 5 * k) t0)) (riM g (a0 + 1 + 5 * k + 1) t0))), (0, .ref h), (1, .int (nI lv)), (4, .int (nI k))]) hx hb d_M_inChunk_95 rfl hl (by decide) rfl (fun ls hl => ?_)
          refine lv_iinc (k := 4) (v := nI (k + 1)) (lv' := [(4, .int (nI (k + 1))), (3, .int (rdM γ (a0 + 1 + 5 * k) t0)), (2, .int (mx (mx x (rdM γ (a0 + 1 + 5 * k) t0)) (riM g (a0 + 1 + 5 * k + 1) t0))), (0, .ref h), (1, .int (nI lv))]) hx hb d_M_inChunk_96 hl rfl (nI_add _ _) (by decide) rfl (fun ls hl => ?_)
          refine lv_goto hx hb d_M_inChunk_99 (tgt := 23) (by decide) ?_
          exact ih23 (k + 1) (mx (mx x (rdM γ (a0 + 1 + 5 * k) t0)) (riM g (a0 + 1 + 5 * k + 1) t0)) (rdM γ (a0 + 1 + 5 * k) t0) (mup (iiM (mup (inM γ (a0 + 1 + 5 * k) t0 (nI (nx_ g a0 k)) (nI 47)) 30 k (rdM γ (a0 + 1 + 5 * k) t0)) (a0 + 1 + 5 * k + 1) t0) 31 k (riM g (a0 + 1 + 5 * k + 1) t0)) ls _ _ (by omega) (by omega) (rd_ne (by decide) ((ii_25 _ _ _).trans (by rw [show a0 + 1 + 5 * k + 1 + 4 = a0 + 1 + 5 * (k + 1) by omega]))) (rd_ne (by decide) (ic_26 hby h24 hpk h26)) (rd_ne (by decide) ((congrFun (iiM_fr _ _ _ 29 (by decide)) 0).trans (rd_ne (by decide) ((congrFun (inM_fr _ _ _ _ _ 29 (by decide)) 0).trans h29)))) (fun q => ic_ok hby h24 (hok hpk) q) (frx_t (frx_t (frx_t (frx_t hfr (inM_fr _ _ _ _ _) (M := [25, 26, 29, 30, 31]) (fun x h => ⟨h, fun q => h (by simp at q ⊢; omega)⟩)) (L' := [30]) frx_m (M := [25, 26, 29, 30, 31]) (fun x h => ⟨h, fun q => h (by simp at q ⊢; omega)⟩)) (iiM_fr _ _ _) (M := [25, 26, 29, 30, 31]) (fun x h => ⟨h, fun q => h (by simp at q ⊢; omega)⟩)) (L' := [31]) frx_m (fun x h => ⟨h, fun q => h (by simp at q ⊢; omega)⟩)) (lv_sub hl [3, 4, 2, 1, 0] rfl) hP hD hS
  exact key23 _ 0 (mx (nI 6) (nI lv)) (-1) (mup (inM g a0 t0 (nI 1) (nI 48)) 29 0 (rdM g a0 t0)) ls _ _ (Nat.lt_succ_self _) (by omega) (rd_ne (by decide) (in_25 _ _ _ _ _)) (rd_ne (by decide) (ic_start hby hg26)) rd_eq (fun _ => ⟨rfl, rfl, fun i hi => by omega⟩) (frx_t (inM_fr _ _ _ _ _) (L' := [29]) frx_m (fun x h => ⟨fun q => h (by simp at q ⊢; omega), fun q => h (by simp at q ⊢; omega)⟩)) (lv_sub hl [3, 4, 2, 1, 0] rfl) hP hD hS
