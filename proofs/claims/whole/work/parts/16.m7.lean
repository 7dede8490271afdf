def frx (L : List Nat) (g u : Nat → Nat → Int32) : Prop := ∀ x, x ∉ L → u x = g x
theorem frx_t {L L' M : List Nat} {g u w : Nat → Nat → Int32} (h1 : frx L g u) (h2 : frx L' u w) (hL : ∀ x, x ∉ M → x ∉ L ∧ x ∉ L') : frx M g w := fun x hx => (h2 x (hL x hx).2).trans (h1 x (hL x hx).1)
theorem frx_m {g : Nat → Nat → Int32} {a i : Nat} {v : Int32} : frx [a] g (mup g a i v) := fun x hx => mup_ne (by simpa using hx)
theorem frx_r {L : List Nat} {g : Nat → Nat → Int32} : frx L g g := fun _ _ => rfl
def ib (v : Int32) : List Int32 := [(v >>> (nI 24 &&& 31)) &&& nI 255, (v >>> (nI 16 &&& 31)) &&& nI 255, (v >>> (nI 8 &&& 31)) &&& nI 255, (v >>> (nI 0 &&& 31)) &&& nI 255]
/-- the bytes of the proof -/
def prf (g : Nat → Nat → Int32) (B : List Int32) : Prop := g 21 0 = nI B.length ∧ ∀ i x, B[i]? = some x → g 22 i = x
theorem prf_out {g : Nat → Nat → Int32} {B : List Int32} (h : prf g B) (b : Int32) : prf (ouM g B.length b) (B ++ [b &&& nI 255]) := by
  refine ⟨?_, fun i x hx => ?_⟩
  · rw [List.length_append]; rfl
  · have e : ouM g B.length b 22 = upd (g 22) B.length (b &&& nI 255) := rfl
    rw [e]
    by_cases hi : i < B.length
    · rw [List.getElem?_append_left hi] at hx
      rw [← h.2 i x hx]
      exact if_neg (by omega)
    · rw [List.getElem?_append_right (by omega)] at hx
      have h1 : i - B.length < 1 := (List.getElem?_eq_some_iff.mp hx).1
      have h2 : i = B.length := by omega
      subst h2
      rw [Nat.sub_self] at hx
      cases hx
      exact if_pos rfl
theorem frx_ou {g : Nat → Nat → Int32} {n : Nat} {b : Int32} : frx [21, 22] g (ouM g n b) := fun x hx => by
  simp only [List.mem_cons, List.not_mem_nil, or_false, not_or] at hx
  unfold ouM
  rw [mup_ne hx.1, mup_ne hx.2]
theorem prf_int {g : Nat → Nat → Int32} {B : List Int32} (h : prf g B) (v : Int32) : prf (oiM g B.length v) (B ++ ib v) := by
  have h1 := prf_out h (v >>> (nI 24 &&& 31))
  have h2 := prf_out h1 (v >>> (nI 16 &&& 31))
  have h3 := prf_out h2 (v >>> (nI 8 &&& 31))
  have h4 := prf_out h3 (v >>> (nI 0 &&& 31))
  simp only [List.length_append, List.length_cons, List.length_nil, List.append_assoc, List.cons_append, List.nil_append] at h4
  exact h4
theorem frx_oi {g : Nat → Nat → Int32} {n : Nat} {v : Int32} : frx [21, 22] g (oiM g n v) := by
  unfold oiM
  exact frx_t (frx_t (frx_t frx_ou frx_ou (fun x h => ⟨h, h⟩)) frx_ou (fun x h => ⟨h, h⟩)) frx_ou (fun x h => ⟨h, h⟩)
theorem ib_len (v : Int32) : (ib v).length = 4 := rfl
/-- the rows hold the sides -/
def bs (g : Nat → Nat → Int32) (L : List (Nat × Nat × Bool)) : Prop := g 17 0 = nI L.length ∧ ∀ i x, L[i]? = some x → g 18 i = nI x.1 ∧ g 19 i = nI x.2.1 ∧ g 20 i = b1_ x.2.2
def dm (c : Nat) : Int32 := nI c - nI 1
theorem dm_lt {c : Nat} (hc : c < 2 ^ 30) (h : dm c < 0) : c = 0 := by
  unfold dm at h
  by_cases h0 : c = 0
  · exact h0
  · rw [pk_sub (by omega)] at h
    exact absurd h (nI_pos (by omega))
theorem dm_eq {c : Nat} (h : 1 ≤ c) : dm c = nI (c - 1) := by unfold dm; rw [pk_sub h]
theorem dm_nlt {c : Nat} (h : ¬ dm c < 0) : 1 ≤ c := by
  cases c with
  | zero => exact absurd (by decide) h
  | succ c => omega
theorem dm_m1 (c : Nat) : nI c + -1 = dm c := by unfold dm; rw [Int32.sub_eq_add_neg]; rfl
/-- the ints of a proof: the seals beside, the deepest first -/
def bi (f4 : Nat → Int32) (L : List (Nat × Nat × Bool)) : List Int32 := (L.reverse.map (fun x => slM f4 x.1 x.2.1)).flatMap ib
theorem bi_cons (f4 : Nat → Int32) (x : Nat × Nat × Bool) (L : List (Nat × Nat × Bool)) : bi f4 (x :: L) = bi f4 L ++ ib (slM f4 x.1 x.2.1) := by
  unfold bi
  rw [List.reverse_cons, List.map_append, List.flatMap_append]
  simp
theorem bi_len (f4 : Nat → Int32) (L : List (Nat × Nat × Bool)) : (bi f4 L).length = 4 * L.length := by
  induction L with
  | nil => rfl
  | cons x L ih => rw [bi_cons, List.length_append, ih, ib_len, List.length_cons]; omega
theorem bi_drop {f4 : Nat → Int32} {L : List (Nat × Nat × Bool)} {c : Nat} {x : Nat × Nat × Bool} (h : L[c]? = some x) : bi f4 (L.drop c) = bi f4 (L.drop (c + 1)) ++ ib (slM f4 x.1 x.2.1) := by
  obtain ⟨hc, e⟩ := List.getElem?_eq_some_iff.mp h
  rw [List.drop_eq_getElem_cons hc, e, bi_cons]
def ckB (g : Nat → Nat → Int32) : Nat → Nat → List Int32
  | _, 0 => []
  | a, n + 1 => ((g 13 a &&& nI 255) :: ib (g 14 a)) ++ ckB g (a + 1) n
theorem ckB_go (g : Nat → Nat → Int32) {k E : Nat} (h : k < E) : ckB g k (E - k) = ((g 13 k &&& nI 255) :: ib (g 14 k)) ++ ckB g (k + 1) (E - (k + 1)) := by
  have e : E - k = E - (k + 1) + 1 := by omega
  rw [e, ckB]
theorem ckB_len (g : Nat → Nat → Int32) : ∀ n a, (ckB g a n).length = 5 * n := by
  intro n
  induction n with
  | zero => intro a; rfl
  | succ n ih => intro a; rw [ckB, List.length_append, ih, List.length_cons, ib_len]; omega
def rdM (g : Nat → Nat → Int32) (a t0 : Nat) : Int32 := if a < t0 then g 24 a else -1
def rtM (g : Nat → Nat → Int32) (b lo hi : Int32) : Int32 := if ¬ g 26 0 = 0 ∧ ¬ (b < lo ∨ hi < b) then nI 1 else nI 0
def inM (g : Nat → Nat → Int32) (a t0 : Nat) (lo hi : Int32) : Nat → Nat → Int32 := mup (mup g 25 0 (nI (a + 1))) 26 0 (rtM g (rdM g a t0) lo hi)

set_option maxHeartbeats 4000000 in
set_option maxRecDepth 100000 in
theorem c_M_digest (l : Launch) (D : va_G) (tk : Nat → ClassId) (sz : Nat) (h : Nat) (ad : Nat → Nat) (g : Nat → Nat → Int32) (la : Nat → Int64) (tl : va_W) (V : Nat) (hV1 : 1 ≤ V) (hV2 : V ≤ 16) (hV : g 3 0 = nI V) (n : Int32) : Met l y_M_digest w_M_digest ({ frames := 3, cells := 0, slots := 0, locals := 67 }) (va_Pc [.ref h, .int n] (k_pre D (TY tk) sz (wM tk h ad g la ++ tl))) (va_Qi (fun (r : Int32) (u : Nat → Nat → Int32) => frx [0, 15, 16] g u ∧ u 0 0 = (if (n < nI 0 ∨ nI V < n) then nI 1 else nI 0) ∧ r = if (n < nI 0 ∨ nI V < n) then 0 else slM (g 4) 0 n.toNatClampNeg) (fun u t => k_at D (TY tk) (va_A (wM tk h ad g la ++ tl) sz) ((fun u => wM tk h ad u la ++ tl) u) t) (va_A (wM tk h ad g la ++ tl) sz)) 0 0 (va_A (wM tk h ad g la ++ tl) sz) := by
  refine k_ofW (fun A => va_Qi (fun (r : Int32) (u : Nat → Nat → Int32) => frx [0, 15, 16] g u ∧ u 0 0 = (if (n < nI 0 ∨ nI V < n) then nI 1 else nI 0) ∧ r = if (n < nI 0 ∨ nI V < n) then 0 else slM (g 4) 0 n.toNatClampNeg) (fun u t => k_at D (TY tk) A ((fun u => wM tk h ad u la ++ tl) u) t) A) (by decide) (Nat.le_of_ble_eq_true rfl) ?_
  intro p e s m args below meth c Q A ls hQ hx hb hr hlk hin hts hT hown hml hnw hP hK hD hA hsz hl
  have hS : va_S A s.heap s.heap [] := va_S.rf
  have hc0 : 0 + 0 ≤ 0 ∧ 0 + 0 ≤ 0 := ⟨by decide, by decide⟩
  replace hl : lv_has ls 2 [(0, .ref h), (1, .int n)] := hl
  replace hP : va_P D CC (wM tk h ad g la ++ tl) s.heap := hP
  replace hK : va_K D CC (TY tk) s := hK
  refine lv_iload_n hx hb d_M_digest_0 rfl (lv_at hl 1 rfl) ?_
  refine lv_iconst (v := nI 0) hx hb d_M_digest_1 (by decide) ?_
  refine lv_aload_n hx hb d_M_digest_2 rfl (lv_at hl 0 rfl) ?_
  refine gf_M_69 (v := .int (g 3 0)) hx hb hT hown hK hP 0 rfl rfl d_M_digest_3 ?_
  refine st_top (show g 3 0 = nI V from hV) ?_
  refine k_calli (va_runS (As := [.int n, .int (nI 0), .int (nI V)]) (rest := []) ⟨hx, hb, hml, hown, hts⟩ (c_M_outside l D tk s.heap.size n (nI 0) (nI V) (wM tk h ad g la ++ tl)) (cwS 3 hts (gS t_1041 t_1042 t_9 t_1043) rfl rfl rfl (by decide +kernel) ⟨Nat.le_of_ble_eq_true rfl, Nat.le_of_ble_eq_true rfl⟩) (k_preS hP hK hD hnw) rfl rfl hl.1 rfl (lv_room (Nat.le_of_ble_eq_true rfl)) d_M_digest_6 hc0) hD hS hA (fun _ _ H locs hp6 hP hD hK hS => ?_)
  subst hp6
  replace hP : va_P D CC (wM tk h ad g la ++ tl) H := hP
  replace hD : va_D A (wM tk h ad g la ++ tl) := hD
  refine lv_if_eq hx hb d_M_digest_9 (tgt := 18) (by decide) (fun hc9 => ?_) (fun hc9 => ?_)
  · skip
    have hn9 : ¬ (n < nI 0 ∨ nI V < n) := fun q => by rw [if_pos q] at hc9; exact absurd hc9 (by decide)
    obtain ⟨j, hj, rfl⟩ := nI_of2 (M := nI V) (n := V) (nI_toInt (by omega)) (fun q => hn9 (Or.inl q)) (Int32.not_lt.mp (fun q => hn9 (Or.inr q)))
    refine lv_aload_n hx hb d_M_digest_18 rfl (lv_at hl 0 rfl) ?_
    refine lv_iconst (v := nI 0) hx hb d_M_digest_19 (by decide) ?_
    refine pf_M_73 hx hb hT hown hK hP hD hS 0 rfl (Nat.le_of_ble_eq_true rfl) d_M_digest_20 (fun H locs hP hD hS => ?_)
    replace hP : va_P D CC (wM tk h ad (mup g 0 0 (nI 0)) la ++ tl) H := hP
    replace hD : va_D A (wM tk h ad (mup g 0 0 (nI 0)) la ++ tl) := hD
    refine lv_aload_n hx hb d_M_digest_23 rfl (lv_at hl 0 rfl) ?_
    refine lv_iconst (v := nI 0) hx hb d_M_digest_24 (by decide) ?_
    refine lv_iload_n hx hb d_M_digest_25 rfl (lv_at hl 1 rfl) ?_
    refine k_calli (va_runV (As := [.int (nI 0), .int (nI j)]) (rest := []) ⟨hx, hb, hml, hown, hts⟩ (c_M_seal l D tk H.size h ad (mup g 0 0 (nI 0)) la tl 0 j (by omega) (by omega)) (cwV 2 hts (gV t_1139 t_1141 s_28 t_9 t_1142) rfl rfl rfl (by decide +kernel) ⟨Nat.le_of_ble_eq_true rfl, Nat.le_of_ble_eq_true rfl⟩) (k_preV hP hK hD hnw 0 rfl rfl) rfl rfl hl.1 rfl (lv_room (Nat.le_of_ble_eq_true rfl)) d_M_digest_26 hc0) hD hS hA (fun r u26 H locs hp26 hP hD hK hS => ?_)
    obtain ⟨hs26, rfl⟩ := hp26
    replace hP : va_P D CC (wM tk h ad u26 la ++ tl) H := hP
    replace hD : va_D A (wM tk h ad u26 la ++ tl) := hD
    exact k_iret (v := slM ((mup g 0 0 (nI 0)) 4) 0 j) hQ hx hb hr hlk hK hP hD hS u26 rfl (⟨fun x hx => by simp only [List.mem_cons, List.not_mem_nil, or_false, not_or] at hx; rw [hs26 x hx.2.1 hx.2.2, mup_ne hx.1], by rw [if_neg hn9, hs26 0 (by decide) (by decide)]; rfl, by rw [if_neg hn9, nI_clamp (by omega)]; rfl⟩) d_M_digest_29
  · skip
    have hn9 : (n < nI 0 ∨ nI V < n) := Classical.byContradiction (fun q => hc9 (by rw [if_neg q]))
    refine lv_aload_n hx hb d_M_digest_12 rfl (lv_at hl 0 rfl) ?_
    refine lv_iconst (v := nI 1) hx hb d_M_digest_13 (by decide) ?_
    refine k_calli (va_runV (As := [.int (nI 1)]) (rest := []) ⟨hx, hb, hml, hown, hts⟩ (c_M_refuse l D tk H.size h ad g la tl (nI 1) ) (cwV 1 hts (gV t_1060 t_1062 s_17 t_9 t_1063) rfl rfl rfl (by decide +kernel) ⟨Nat.le_of_ble_eq_true rfl, Nat.le_of_ble_eq_true rfl⟩) (k_preV hP hK hD hnw 0 rfl rfl) rfl rfl hl.1 rfl (lv_room (Nat.le_of_ble_eq_true rfl)) d_M_digest_14 hc0) hD hS hA (fun _ _ H locs hp14 hP hD hK hS => ?_)
    subst hp14
    replace hP : va_P D CC (wM tk h ad (mup g 0 0 (nI 1)) la ++ tl) H := hP
    replace hD : va_D A (wM tk h ad (mup g 0 0 (nI 1)) la ++ tl) := hD
    exact k_iret (v := 0) hQ hx hb hr hlk hK hP hD hS (mup g 0 0 (nI 1)) rfl (⟨fun x hx => mup_ne (by simp at hx; omega), by rw [if_pos hn9]; rfl, by rw [if_pos hn9]⟩) d_M_digest_17

set_option maxHeartbeats 4000000 in
set_option maxRecDepth 100000 in
theorem c_M_outBeside (l : Launch) (D : va_G) (tk : Nat → ClassId) (sz : Nat) (h : Nat) (ad : Nat → Nat) (g : Nat → Nat → Int32) (la : Nat → Int64) (tl : va_W) (L : List (Nat × Nat × Bool)) (hbs : bs g L) (hL5 : L.length ≤ 5) (hLb : ∀ x ∈ L, x.1 + x.2.1 ≤ 16) : Met l y_M_outBeside w_M_outBeside ({ frames := 3, cells := 0, slots := 0, locals := 67 }) (va_Pc [.ref h] (k_pre D (TY tk) sz (wM tk h ad g la ++ tl))) (va_Qv (fun (u : Nat → Nat → Int32) => prf u ([nI L.length &&& nI 255] ++ bi (g 4) L) ∧ frx [15, 16, 21, 22] g u) (fun u t => k_at D (TY tk) (va_A (wM tk h ad g la ++ tl) sz) ((fun u => wM tk h ad u la ++ tl) u) t) (va_A (wM tk h ad g la ++ tl) sz)) 0 0 (va_A (wM tk h ad g la ++ tl) sz) := by
  refine k_ofW (fun A => va_Qv (fun (u : Nat → Nat → Int32) => prf u ([nI L.length &&& nI 255] ++ bi (g 4) L) ∧ frx [15, 16, 21, 22] g u) (fun u t => k_at D (TY tk) A ((fun u => wM tk h ad u la ++ tl) u) t) A) (by decide) (Nat.le_of_ble_eq_true rfl) ?_
  intro p e s m args below meth c Q A ls hQ hx hb hr hlk hin hts hT hown hml hnw hP hK hD hA hsz hl
  have hS : va_S A s.heap s.heap [] := va_S.rf
  have hc0 : 0 + 0 ≤ 0 ∧ 0 + 0 ≤ 0 := ⟨by decide, by decide⟩
  replace hl : lv_has ls 2 [(0, .ref h)] := hl
  replace hP : va_P D CC (wM tk h ad g la ++ tl) s.heap := hP
  replace hK : va_K D CC (TY tk) s := hK
  have hB00 : prf (mup g 21 0 (nI 0)) [] := ⟨rfl, fun i x hx => by simp at hx⟩
  refine lv_aload_n hx hb d_M_outBeside_0 rfl (lv_at hl 0 rfl) ?_
  refine lv_iconst (v := nI 0) hx hb d_M_outBeside_1 (by decide) ?_
  refine pf_M_165 hx hb hT hown hK hP hD hS 0 rfl (Nat.le_of_ble_eq_true rfl) d_M_outBeside_2 (fun H locs hP hD hS => ?_)
  replace hP : va_P D CC (wM tk h ad (mup g 21 0 (nI 0)) la ++ tl) H := hP
  replace hD : va_D A (wM tk h ad (mup g 21 0 (nI 0)) la ++ tl) := hD
  refine lv_aload_n hx hb d_M_outBeside_5 rfl (lv_at hl 0 rfl) ?_
  refine lv_aload_n hx hb d_M_outBeside_6 rfl (lv_at hl 0 rfl) ?_
  refine gf_M_155 (v := .int (g 17 0)) hx hb hT hown hK hP 0 rfl rfl d_M_outBeside_7 ?_
  refine st_top (show g 17 0 = nI L.length from hbs.1) ?_
  refine k_callv (va_runV (As := [.int (nI L.length)]) (rest := []) ⟨hx, hb, hml, hown, hts⟩ (c_M_out l D tk H.size h ad (mup g 21 0 (nI 0)) la tl [].length (nI L.length) (by first | (simp only [List.length_nil]; omega) | omega) hB00.1) (cwV 1 hts (gV t_1168 t_1170 s_32 t_9 t_1171) rfl rfl rfl (by decide +kernel) ⟨Nat.le_of_ble_eq_true rfl, Nat.le_of_ble_eq_true rfl⟩) (k_preV hP hK hD hnw 0 rfl rfl) rfl rfl hl.1 rfl (lv_room (Nat.le_of_ble_eq_true rfl)) d_M_outBeside_10 hc0) hD hS hA (fun _ H locs hp10 hP hD hK hS => ?_)
  have hB10 : prf (ouM (mup g 21 0 (nI 0)) [].length (nI L.length)) ([] ++ [(nI L.length) &&& nI 255]) := prf_out hB00 _
  replace hP : va_P D CC (wM tk h ad (ouM (mup g 21 0 (nI 0)) [].length (nI L.length)) la ++ tl) H := hP
  replace hD : va_D A (wM tk h ad (ouM (mup g 21 0 (nI 0)) [].length (nI L.length)) la ++ tl) := hD
  refine lv_aload_n hx hb d_M_outBeside_13 rfl (lv_at hl 0 rfl) ?_
  refine gf_M_155 (v := .int ((ouM (mup g 21 0 (nI 0)) [].length (nI L.length)) 17 0)) hx hb hT hown hK hP 0 rfl rfl d_M_outBeside_14 ?_
  refine st_top (show (ouM (mup g 21 0 (nI 0)) [].length (nI L.length)) 17 0 = nI L.length from hbs.1) ?_
  refine lv_iconst (v := nI 1) hx hb d_M_outBeside_17 (by decide) ?_
  refine lv_isub hx hb d_M_outBeside_18 ?_
  refine lv_istore_n (lv' := [(1, .int ((nI L.length) - (nI 1))), (0, .ref h)]) hx hb d_M_outBeside_19 rfl hl (by decide) rfl (fun ls hl => ?_)
  replace hl : lv_has ls 2 [(1, .int (dm L.length)), (0, .ref h)] := hl
  have key20 : ∀ (n20 : Nat) (c0 : Nat) (B : List Int32) (γ : Nat → Nat → Int32) (ls : Array Slot) (H : Heap) (locs : List Loc), c0 < n20 → (c0 ≤ L.length) → (B = [nI L.length &&& nI 255] ++ bi (g 4) (L.drop c0)) → (prf γ B) → (frx [15, 16, 21, 22] g γ) → lv_has ls 2 [(0, .ref h), (1, .int (dm c0))] → va_P D CC (wM tk h ad γ la ++ tl) H → va_D A (wM tk h ad γ la ++ tl) → va_S A s.heap H locs → W p l e ({ frames := 3, cells := 0, slots := 0, locals := 67 } : Room) s m args below meth c H locs 0 0 Q (F0 m 20 ls []) := by
    intro n20
    induction n20 with
    | zero => intro c0 B γ ls H locs hn; exact absurd hn (Nat.not_lt_zero _)
    | succ n20 ih20 =>
      intro c0 B γ ls H locs hn20 hc hBe hB hfr hl hP hD hS
      have hlen := congrArg List.length hBe
      simp only [List.length_append, bi_len, List.length_singleton, List.length_drop] at hlen
      have hg4 : γ 4 = g 4 := hfr 4 (by decide)
      refine lv_iload_n hx hb d_M_outBeside_20 rfl (lv_at hl 1 rfl) ?_
      refine lv_if_lt hx hb d_M_outBeside_21 (tgt := 50) (by decide) (fun hc21 => ?_) (fun hc21 => ?_)
      · skip
        obtain rfl : c0 = 0 := dm_lt (by omega) hc21
        exact k_vret hQ hx hb hr hlk hK hP hD hS γ rfl (⟨by rw [hBe] at hB; simpa using hB, hfr⟩) d_M_outBeside_50
      · skip
        have hc1 : 1 ≤ c0 := dm_nlt hc21
        obtain ⟨x, hx9⟩ : ∃ x, L[c0 - 1]? = some x := ⟨_, List.getElem?_eq_getElem (show c0 - 1 < L.length by omega)⟩
        have hbx := hbs.2 _ _ hx9
        have hlb := hLb x (List.mem_of_getElem? hx9)
        rw [dm_eq hc1] at hl
        refine lv_aload_n hx hb d_M_outBeside_24 rfl (lv_at hl 0 rfl) ?_
        refine lv_aload_n hx hb d_M_outBeside_25 rfl (lv_at hl 0 rfl) ?_
        refine lv_aload_n hx hb d_M_outBeside_26 rfl (lv_at hl 0 rfl) ?_
        refine gf_M_45 (v := .ref (ad 18)) hx hb hT hown hK hP 0 rfl rfl d_M_outBeside_27 ?_
        refine lv_iload_n hx hb d_M_outBeside_30 rfl (lv_at hl 1 rfl) ?_
        refine st_iald hx hb hK hP 12 0 rfl rfl (by omega) (by decide) d_M_outBeside_31 ?_
        refine st_top (show γ 18 (c0 - 1) = nI x.1 from by rw [hfr 18 (by decide)]; exact hbx.1) ?_
        refine lv_aload_n hx hb d_M_outBeside_32 rfl (lv_at hl 0 rfl) ?_
        refine gf_M_48 (v := .ref (ad 19)) hx hb hT hown hK hP 0 rfl rfl d_M_outBeside_33 ?_
        refine lv_iload_n hx hb d_M_outBeside_36 rfl (lv_at hl 1 rfl) ?_
        refine st_iald hx hb hK hP 13 0 rfl rfl (by omega) (by decide) d_M_outBeside_37 ?_
        refine st_top (show γ 19 (c0 - 1) = nI x.2.1 from by rw [hfr 19 (by decide)]; exact hbx.2.1) ?_
        refine k_calli (va_runV (As := [.int (nI x.1), .int (nI x.2.1)]) (rest := [.ref h]) ⟨hx, hb, hml, hown, hts⟩ (c_M_seal l D tk H.size h ad γ la tl x.1 x.2.1 (by omega) (by omega)) (cwV 2 hts (gV t_1139 t_1141 s_28 t_9 t_1142) rfl rfl rfl (by decide +kernel) ⟨Nat.le_of_ble_eq_true rfl, Nat.le_of_ble_eq_true rfl⟩) (k_preV hP hK hD hnw 0 rfl rfl) rfl rfl hl.1 rfl (lv_room (Nat.le_of_ble_eq_true rfl)) d_M_outBeside_38 hc0) hD hS hA (fun r u38 H locs hp38 hP hD hK hS => ?_)
        obtain ⟨hs38, rfl⟩ := hp38
        replace hP : va_P D CC (wM tk h ad u38 la ++ tl) H := hP
        replace hD : va_D A (wM tk h ad u38 la ++ tl) := hD
        refine st_top (show slM (γ 4) x.1 x.2.1 = slM (g 4) x.1 x.2.1 from by rw [hg4]) ?_
        have hB : prf u38 B := ⟨(hs38 21 (by decide) (by decide)) ▸ hB.1, fun i y hy => (hs38 22 (by decide) (by decide)) ▸ hB.2 i y hy⟩
        refine k_callv (va_runV (As := [.int (slM (g 4) x.1 x.2.1)]) (rest := []) ⟨hx, hb, hml, hown, hts⟩ (c_M_outInt l D tk H.size h ad u38 la tl B.length (slM (g 4) x.1 x.2.1) (by first | (simp only [List.length_nil]; omega) | omega) hB.1) (cwV 1 hts (gV t_1172 t_1174 s_33 t_9 t_1175) rfl rfl rfl (by decide +kernel) ⟨Nat.le_of_ble_eq_true rfl, Nat.le_of_ble_eq_true rfl⟩) (k_preV hP hK hD hnw 0 rfl rfl) rfl rfl hl.1 rfl (lv_room (Nat.le_of_ble_eq_true rfl)) d_M_outBeside_41 hc0) hD hS hA (fun _ H locs hp41 hP hD hK hS => ?_)
        have hB41 : prf (oiM u38 B.length (slM (g 4) x.1 x.2.1)) (B ++ ib (slM (g 4) x.1 x.2.1)) := prf_int hB _
        replace hP : va_P D CC (wM tk h ad (oiM u38 B.length (slM (g 4) x.1 x.2.1)) la ++ tl) H := hP
        replace hD : va_D A (wM tk h ad (oiM u38 B.length (slM (g 4) x.1 x.2.1)) la ++ tl) := hD
        refine lv_iinc (k := 1) (v := (nI (c0 - 1)) + (-1)) (lv' := [(1, .int ((nI (c0 - 1)) + (-1))), (0, .ref h)]) hx hb d_M_outBeside_44 hl rfl rfl (by decide) rfl (fun ls hl => ?_)
        refine lv_goto hx hb d_M_outBeside_47 (tgt := 20) (by decide) ?_
        rw [dm_m1] at hl
        exact ih20 (c0 - 1) (B ++ ib (slM (g 4) x.1 x.2.1)) (oiM u38 B.length (slM (g 4) x.1 x.2.1)) ls _ _ (by omega) (by omega) (by rw [hBe, bi_drop hx9, show c0 - 1 + 1 = c0 by omega, List.append_assoc]) hB41 (frx_t (frx_t hfr (L := [15, 16, 21, 22]) (L' := [15, 16]) (M := [15, 16, 21, 22]) (fun z hz => hs38 z (by intro q; subst q; exact hz (by decide)) (by intro q; subst q; exact hz (by decide))) (fun z hz => ⟨hz, fun q => hz (by simp at q ⊢; omega)⟩)) frx_oi (fun z hz => ⟨hz, fun q => hz (by simp at q ⊢; omega)⟩)) (lv_sub hl [1, 0] rfl) hP hD hS
  exact key20 _ L.length ([] ++ [(nI L.length) &&& nI 255]) (ouM (mup g 21 0 (nI 0)) [].length (nI L.length)) ls _ _ (Nat.lt_succ_self _) (by omega) (by rw [List.drop_length]; rfl) hB10 (fun z hz => by simp only [List.mem_cons, List.not_mem_nil, or_false, not_or] at hz; rw [frx_ou (g := mup g 21 0 (nI 0)) z (by simp; omega), mup_ne hz.2.2.1]) (lv_sub hl [1, 0] rfl) hP hD hS

set_option maxHeartbeats 4000000 in
set_option maxRecDepth 100000 in
theorem c_M_outChunk (l : Launch) (D : va_G) (tk : Nat → ClassId) (sz : Nat) (h : Nat) (ad : Nat → Nat) (g : Nat → Nat → Int32) (la : Nat → Int64) (tl : va_W) (lv fr to : Nat) (B0 : List Int32) (hlv : lv < 8) (hfr0 : fr ≤ to) (hto : to ≤ 48) (hB0 : prf g B0) (hsz0 : B0.length + 1 + 5 * (to - fr) ≤ 420) : Met l y_M_outChunk w_M_outChunk ({ frames := 2, cells := 0, slots := 0, locals := 43 }) (va_Pc [.ref h, .int (nI lv), .int (nI fr), .int (nI to)] (k_pre D (TY tk) sz (wM tk h ad g la ++ tl))) (va_Qv (fun (u : Nat → Nat → Int32) => prf u ((B0 ++ [nI (to - fr) &&& nI 255]) ++ ckB g (48 * lv + fr) (to - fr)) ∧ frx [21, 22] g u) (fun u t => k_at D (TY tk) (va_A (wM tk h ad g la ++ tl) sz) ((fun u => wM tk h ad u la ++ tl) u) t) (va_A (wM tk h ad g la ++ tl) sz)) 0 0 (va_A (wM tk h ad g la ++ tl) sz) := by
  refine k_ofW (fun A => va_Qv (fun (u : Nat → Nat → Int32) => prf u ((B0 ++ [nI (to - fr) &&& nI 255]) ++ ckB g (48 * lv + fr) (to - fr)) ∧ frx [21, 22] g u) (fun u t => k_at D (TY tk) A ((fun u => wM tk h ad u la ++ tl) u) t) A) (by decide) (Nat.le_of_ble_eq_true rfl) ?_
  intro p e s m args below meth c Q A ls hQ hx hb hr hlk hin hts hT hown hml hnw hP hK hD hA hsz hl
  have hS : va_S A s.heap s.heap [] := va_S.rf
  have hc0 : 0 + 0 ≤ 0 ∧ 0 + 0 ≤ 0 := ⟨by decide, by decide⟩
  replace hl : lv_has ls 5 [(0, .ref h), (1, .int (nI lv)), (2, .int (nI fr)), (3, .int (nI to))] := hl
  replace hP : va_P D CC (wM tk h ad g la ++ tl) s.heap := hP
  replace hK : va_K D CC (TY tk) s := hK
  refine lv_aload_n hx hb d_M_outChunk_0 rfl (lv_at hl 0 rfl) ?_
  refine lv_iload_n hx hb d_M_outChunk_1 rfl (lv_at hl 3 rfl) ?_
  refine lv_iload_n hx hb d_M_outChunk_2 rfl (lv_at hl 2 rfl) ?_
  refine st_isub hx hb (by omega) d_M_outChunk_3 ?_
  refine k_callv (va_runV (As := [.int (nI (to - fr))]) (rest := []) ⟨hx, hb, hml, hown, hts⟩ (c_M_out l D tk s.heap.size h ad g la tl B0.length (nI (to - fr)) (by first | omega | (simp only [List.length_append, List.length_singleton, List.length_cons, List.length_nil]; omega)) hB0.1) (cwV 1 hts (gV t_1168 t_1170 s_32 t_9 t_1171) rfl rfl rfl (by decide +kernel) ⟨Nat.le_of_ble_eq_true rfl, Nat.le_of_ble_eq_true rfl⟩) (k_preV hP hK hD hnw 0 rfl rfl) rfl rfl hl.1 rfl (lv_room (Nat.le_of_ble_eq_true rfl)) d_M_outChunk_4 hc0) hD hS hA (fun _ H locs hp4 hP hD hK hS => ?_)
  have hB4 : prf (ouM g B0.length (nI (to - fr))) (B0 ++ [(nI (to - fr)) &&& nI 255]) := prf_out hB0 _
  replace hP : va_P D CC (wM tk h ad (ouM g B0.length (nI (to - fr))) la ++ tl) H := hP
  replace hD : va_D A (wM tk h ad (ouM g B0.length (nI (to - fr))) la ++ tl) := hD
  refine lv_bipush (v := nI 48) hx hb d_M_outChunk_7 (by decide) ?_
  refine lv_iload_n hx hb d_M_outChunk_9 rfl (lv_at hl 1 rfl) ?_
  refine st_imul hx hb d_M_outChunk_10 ?_
  refine lv_iload_n hx hb d_M_outChunk_11 rfl (lv_at hl 2 rfl) ?_
  refine st_iadd hx hb d_M_outChunk_12 ?_
  refine lv_istore (lv' := [(4, .int (nI ((48 * lv) + fr))), (0, .ref h), (1, .int (nI lv)), (2, .int (nI fr)), (3, .int (nI to))]) hx hb d_M_outChunk_13 hl (by decide) rfl (fun ls hl => ?_)
  have key15 : ∀ (n15 : Nat) (k : Nat) (B : List Int32) (γ : Nat → Nat → Int32) (ls : Array Slot) (H : Heap) (locs : List Loc), 48 * lv + to - k < n15 → (48 * lv + fr ≤ k ∧ k ≤ 48 * lv + to) → (B ++ ckB g k (48 * lv + to - k) = (B0 ++ [nI (to - fr) &&& nI 255]) ++ ckB g (48 * lv + fr) (to - fr)) → (prf γ B) → (frx [21, 22] g γ) → lv_has ls 5 [(0, .ref h), (1, .int (nI lv)), (2, .int (nI fr)), (3, .int (nI to)), (4, .int (nI k))] → va_P D CC (wM tk h ad γ la ++ tl) H → va_D A (wM tk h ad γ la ++ tl) → va_S A s.heap H locs → W p l e ({ frames := 2, cells := 0, slots := 0, locals := 43 } : Room) s m args below meth c H locs 0 0 Q (F0 m 15 ls []) := by
    intro n15
    induction n15 with
    | zero => intro k B γ ls H locs hn; exact absurd hn (Nat.not_lt_zero _)
    | succ n15 ih15 =>
      intro k B γ ls H locs hn15 hk hR hB hfr hl hP hD hS
      have hlen := congrArg List.length hR
      simp only [List.length_append, ckB_len, List.length_singleton] at hlen
      refine lv_iload hx hb d_M_outChunk_15 (lv_at hl 4 rfl) ?_
      refine lv_bipush (v := nI 48) hx hb d_M_outChunk_17 (by decide) ?_
      refine lv_iload_n hx hb d_M_outChunk_19 rfl (lv_at hl 1 rfl) ?_
      refine st_imul hx hb d_M_outChunk_20 ?_
      refine lv_iload_n hx hb d_M_outChunk_21 rfl (lv_at hl 3 rfl) ?_
      refine st_iadd hx hb d_M_outChunk_22 ?_
      refine st_icmp_ge hx hb (by omega) (by omega) d_M_outChunk_23 (tgt := 54) (by decide) (fun hc23 => ?_) (fun hc23 => ?_)
      · skip
        exact k_vret hQ hx hb hr hlk hK hP hD hS γ rfl (⟨by rw [← hR, show 48 * lv + to - k = 0 by omega]; simpa [ckB] using hB, hfr⟩) d_M_outChunk_54
      · skip
        refine lv_aload_n hx hb d_M_outChunk_26 rfl (lv_at hl 0 rfl) ?_
        refine lv_aload_n hx hb d_M_outChunk_27 rfl (lv_at hl 0 rfl) ?_
        refine gf_M_33 (v := .ref (ad 13)) hx hb hT hown hK hP 0 rfl rfl d_M_outChunk_28 ?_
        refine lv_iload hx hb d_M_outChunk_31 (lv_at hl 4 rfl) ?_
        refine st_iald hx hb hK hP 8 0 rfl rfl (by omega) (by decide) d_M_outChunk_33 ?_
        refine st_top (show γ 13 k = g 13 k from by rw [hfr 13 (by decide)]) ?_
        refine k_callv (va_runV (As := [.int (g 13 k)]) (rest := []) ⟨hx, hb, hml, hown, hts⟩ (c_M_out l D tk H.size h ad γ la tl B.length (g 13 k) (by first | omega | (simp only [List.length_append, List.length_singleton, List.length_cons, List.length_nil]; omega)) hB.1) (cwV 1 hts (gV t_1168 t_1170 s_32 t_9 t_1171) rfl rfl rfl (by decide +kernel) ⟨Nat.le_of_ble_eq_true rfl, Nat.le_of_ble_eq_true rfl⟩) (k_preV hP hK hD hnw 0 rfl rfl) rfl rfl hl.1 rfl (lv_room (Nat.le_of_ble_eq_true rfl)) d_M_outChunk_34 hc0) hD hS hA (fun _ H locs hp34 hP hD hK hS => ?_)
        have hB34 : prf (ouM γ B.length (g 13 k)) (B ++ [(g 13 k) &&& nI 255]) := prf_out hB _
        replace hP : va_P D CC (wM tk h ad (ouM γ B.length (g 13 k)) la ++ tl) H := hP
        replace hD : va_D A (wM tk h ad (ouM γ B.length (g 13 k)) la ++ tl) := hD
        refine lv_aload_n hx hb d_M_outChunk_37 rfl (lv_at hl 0 rfl) ?_
        refine lv_aload_n hx hb d_M_outChunk_38 rfl (lv_at hl 0 rfl) ?_
        refine gf_M_36 (v := .ref (ad 14)) hx hb hT hown hK hP 0 rfl rfl d_M_outChunk_39 ?_
        refine lv_iload hx hb d_M_outChunk_42 (lv_at hl 4 rfl) ?_
        refine st_iald hx hb hK hP 9 0 rfl rfl (by omega) (by decide) d_M_outChunk_44 ?_
        refine st_top (show (ouM γ B.length (g 13 k)) 14 k = g 14 k from by rw [frx_ou (g := γ) 14 (by decide), hfr 14 (by decide)]) ?_
        refine k_callv (va_runV (As := [.int (g 14 k)]) (rest := []) ⟨hx, hb, hml, hown, hts⟩ (c_M_outInt l D tk H.size h ad (ouM γ B.length (g 13 k)) la tl (B ++ [(g 13 k) &&& nI 255]).length (g 14 k) (by first | omega | (simp only [List.length_append, List.length_singleton, List.length_cons, List.length_nil]; omega)) hB34.1) (cwV 1 hts (gV t_1172 t_1174 s_33 t_9 t_1175) rfl rfl rfl (by decide +kernel) ⟨Nat.le_of_ble_eq_true rfl, Nat.le_of_ble_eq_true rfl⟩) (k_preV hP hK hD hnw 0 rfl rfl) rfl rfl hl.1 rfl (lv_room (Nat.le_of_ble_eq_true rfl)) d_M_outChunk_45 hc0) hD hS hA (fun _ H locs hp45 hP hD hK hS => ?_)
        have hB45 : prf (oiM (ouM γ B.length (g 13 k)) (B ++ [(g 13 k) &&& nI 255]).length (g 14 k)) ((B ++ [(g 13 k) &&& nI 255]) ++ ib (g 14 k)) := prf_int hB34 _
        replace hP : va_P D CC (wM tk h ad (oiM (ouM γ B.length (g 13 k)) (B ++ [(g 13 k) &&& nI 255]).length (g 14 k)) la ++ tl) H := hP
        replace hD : va_D A (wM tk h ad (oiM (ouM γ B.length (g 13 k)) (B ++ [(g 13 k) &&& nI 255]).length (g 14 k)) la ++ tl) := hD
        refine lv_iinc (k := 4) (v := nI (k + 1)) (lv' := [(4, .int (nI (k + 1))), (0, .ref h), (1, .int (nI lv)), (2, .int (nI fr)), (3, .int (nI to))]) hx hb d_M_outChunk_48 hl rfl (nI_add _ _) (by decide) rfl (fun ls hl => ?_)
        refine lv_goto hx hb d_M_outChunk_51 (tgt := 15) (by decide) ?_
        exact ih15 (k + 1) ((B ++ [(g 13 k) &&& nI 255]) ++ ib (g 14 k)) (oiM (ouM γ B.length (g 13 k)) (B ++ [(g 13 k) &&& nI 255]).length (g 14 k)) ls _ _ (by omega) (by omega) (by rw [← hR, ckB_go g (k := k) (E := 48 * lv + to) (by omega)]; simp only [List.append_assoc, List.cons_append, List.nil_append]) hB45 (frx_t (frx_t hfr frx_ou (fun x h => ⟨h, h⟩)) frx_oi (fun x h => ⟨h, h⟩)) (lv_sub hl [1, 2, 3, 4, 0] rfl) hP hD hS
  exact key15 _ (48 * lv + fr) (B0 ++ [(nI (to - fr)) &&& nI 255]) (ouM g B0.length (nI (to - fr))) ls _ _ (Nat.lt_succ_self _) (by omega) (by rw [show 48 * lv + to - (48 * lv + fr) = to - fr by omega]) hB4 frx_ou (lv_sub hl [1, 2, 3, 4, 0] rfl) hP hD hS

set_option maxHeartbeats 4000000 in
set_option maxRecDepth 100000 in
theorem c_M_in (l : Launch) (D : va_G) (tk : Nat → ClassId) (sz : Nat) (h : Nat) (ad : Nat → Nat) (g : Nat → Nat → Int32) (la : Nat → Int64) (tl : va_W) (a0 t0 : Nat) (lo hi : Int32) (hbz : g 26 0 = 0 ∨ g 26 0 = 1) (ha0 : a0 < 2 ^ 20) (ht0 : t0 ≤ 420) (hga : g 25 0 = nI a0) (hgt : g 23 0 = nI t0) : Met l y_M_in w_M_in ({ frames := 1, cells := 0, slots := 0, locals := 22 }) (va_Pc [.ref h, .int lo, .int hi] (k_pre D (TY tk) sz (wM tk h ad g la ++ tl))) (va_Qi (fun (r : Int32) (_ : Unit) => r = rdM g a0 t0) (fun u t => k_at D (TY tk) (va_A (wM tk h ad g la ++ tl) sz) ((fun _ => wM tk h ad (inM g a0 t0 lo hi) la ++ tl) u) t) (va_A (wM tk h ad g la ++ tl) sz)) 0 0 (va_A (wM tk h ad g la ++ tl) sz) := by
  refine k_ofW (fun A => va_Qi (fun (r : Int32) (_ : Unit) => r = rdM g a0 t0) (fun u t => k_at D (TY tk) A ((fun _ => wM tk h ad (inM g a0 t0 lo hi) la ++ tl) u) t) A) (by decide) (Nat.le_of_ble_eq_true rfl) ?_
  intro p e s m args below meth c Q A ls hQ hx hb hr hlk hin hts hT hown hml hnw hP hK hD hA hsz hl
  have hS : va_S A s.heap s.heap [] := va_S.rf
  have hc0 : 0 + 0 ≤ 0 ∧ 0 + 0 ≤ 0 := ⟨by decide, by decide⟩
  replace hl : lv_has ls 4 [(0, .ref h), (1, .int lo), (2, .int hi)] := hl
  replace hP : va_P D CC (wM tk h ad g la ++ tl) s.heap := hP
  replace hK : va_K D CC (TY tk) s := hK
  refine lv_aload_n hx hb d_M_in_0 rfl (lv_at hl 0 rfl) ?_
  refine gf_M_197 (v := .int (g 25 0)) hx hb hT hown hK hP 0 rfl rfl d_M_in_1 ?_
  refine st_top (show g 25 0 = nI a0 from hga) ?_
  refine lv_aload_n hx hb d_M_in_4 rfl (lv_at hl 0 rfl) ?_
  refine gf_M_194 (v := .int (g 23 0)) hx hb hT hown hK hP 0 rfl rfl d_M_in_5 ?_
  refine st_top (show g 23 0 = nI t0 from hgt) ?_
  refine st_icmp_ge hx hb (by omega) (by omega) d_M_in_8 (tgt := 23) (by decide) (fun hc8 => ?_) (fun hc8 => ?_)
  · skip
    have hrd : rdM g a0 t0 = -1 := if_neg (by omega)
    refine lv_iconst (v := -1) hx hb d_M_in_23 (by decide) ?_
    refine lv_istore_n (lv' := [(3, .int (-1)), (0, .ref h), (1, .int lo), (2, .int hi)]) hx hb d_M_in_24 rfl hl (by decide) rfl (fun ls hl => ?_)
    refine lv_aload_n hx hb d_M_in_25 rfl (lv_at hl 1 rfl) ?_
    refine lv_dup hx hb d_M_in_26 rfl ?_
    refine gf_M_197 (v := .int (g 25 0)) hx hb hT hown hK hP 0 rfl rfl d_M_in_27 ?_
    refine st_top (show g 25 0 = nI a0 from hga) ?_
    refine lv_iconst (v := nI 1) hx hb d_M_in_30 (by decide) ?_
    refine st_iadd hx hb d_M_in_31 ?_
    refine pf_M_197 hx hb hT hown hK hP hD hS 0 rfl (Nat.le_of_ble_eq_true rfl) d_M_in_32 (fun H locs hP hD hS => ?_)
    replace hP : va_P D CC (wM tk h ad (mup g 25 0 (nI (a0 + 1))) la ++ tl) H := hP
    replace hD : va_D A (wM tk h ad (mup g 25 0 (nI (a0 + 1))) la ++ tl) := hD
    refine lv_aload_n hx hb d_M_in_35 rfl (lv_at hl 1 rfl) ?_
    refine lv_aload_n hx hb d_M_in_36 rfl (lv_at hl 1 rfl) ?_
    refine gf_M_200 (v := .int (g 26 0)) hx hb hT hown hK hP 0 rfl rfl d_M_in_37 ?_
    refine lv_if_eq hx hb d_M_in_40 (tgt := 56) (by decide) (fun hc40 => ?_) (fun hc40 => ?_)
    · skip
      refine lv_iconst (v := nI 0) hx hb d_M_in_56 (by decide) ?_
      refine pf_M_200 hx hb hT hown hK hP hD hS 0 rfl (Nat.le_of_ble_eq_true rfl) (by decide) (by decide) d_M_in_57 (fun H locs hP hD hS => ?_)
      replace hP : va_P D CC (wM tk h ad (mup (mup g 25 0 (nI (a0 + 1))) 26 0 (nI 0)) la ++ tl) H := hP
      replace hD : va_D A (wM tk h ad (mup (mup g 25 0 (nI (a0 + 1))) 26 0 (nI 0)) la ++ tl) := hD
      refine lv_iload_n hx hb d_M_in_60 rfl (lv_at hl 0 rfl) ?_
      exact k_iret (v := -1) hQ hx hb hr hlk hK hP hD hS () (by unfold inM; rw [hrd]; unfold rtM; first | (rw [if_neg (fun q => q.1 hc40)]; done) | (rw [if_neg (fun q => hc49 (if_neg q.2))]; done) | (rw [if_pos ⟨hc40, fun q => by rw [if_pos q] at hc49; exact absurd hc49 (by decide)⟩]; done)) hrd.symm d_M_in_61
    · skip
      refine lv_iload_n hx hb d_M_in_43 rfl (lv_at hl 0 rfl) ?_
      refine lv_iload_n hx hb d_M_in_44 rfl (lv_at hl 2 rfl) ?_
      refine lv_iload_n hx hb d_M_in_45 rfl (lv_at hl 3 rfl) ?_
      refine k_calli (va_runS (As := [.int (-1), .int lo, .int hi]) (rest := [.ref h]) ⟨hx, hb, hml, hown, hts⟩ (c_M_outside l D tk H.size (-1) lo hi (wM tk h ad (mup g 25 0 (nI (a0 + 1))) la ++ tl)) (cwS 3 hts (gS t_1041 t_1042 t_9 t_1043) rfl rfl rfl (by decide +kernel) ⟨Nat.le_of_ble_eq_true rfl, Nat.le_of_ble_eq_true rfl⟩) (k_preS hP hK hD hnw) rfl rfl hl.1 rfl (lv_room (Nat.le_of_ble_eq_true rfl)) d_M_in_46 hc0) hD hS hA (fun _ _ H locs hp46 hP hD hK hS => ?_)
      subst hp46
      replace hP : va_P D CC (wM tk h ad (mup g 25 0 (nI (a0 + 1))) la ++ tl) H := hP
      replace hD : va_D A (wM tk h ad (mup g 25 0 (nI (a0 + 1))) la ++ tl) := hD
      refine lv_if_ne hx hb d_M_in_49 (tgt := 56) (by decide) (fun hc49 => ?_) (fun hc49 => ?_)
      · skip
        refine lv_iconst (v := nI 0) hx hb d_M_in_56 (by decide) ?_
        refine pf_M_200 hx hb hT hown hK hP hD hS 0 rfl (Nat.le_of_ble_eq_true rfl) (by decide) (by decide) d_M_in_57 (fun H locs hP hD hS => ?_)
        replace hP : va_P D CC (wM tk h ad (mup (mup g 25 0 (nI (a0 + 1))) 26 0 (nI 0)) la ++ tl) H := hP
        replace hD : va_D A (wM tk h ad (mup (mup g 25 0 (nI (a0 + 1))) 26 0 (nI 0)) la ++ tl) := hD
        refine lv_iload_n hx hb d_M_in_60 rfl (lv_at hl 0 rfl) ?_
        exact k_iret (v := -1) hQ hx hb hr hlk hK hP hD hS () (by unfold inM; rw [hrd]; unfold rtM; first | (rw [if_neg (fun q => q.1 hc40)]; done) | (rw [if_neg (fun q => hc49 (if_neg q.2))]; done) | (rw [if_pos ⟨hc40, fun q => by rw [if_pos q] at hc49; exact absurd hc49 (by decide)⟩]; done)) hrd.symm d_M_in_61
      · skip
        refine lv_iconst (v := nI 1) hx hb d_M_in_52 (by decide) ?_
        refine lv_goto hx hb d_M_in_53 (tgt := 57) (by decide) ?_
        refine pf_M_200 hx hb hT hown hK hP hD hS 0 rfl (Nat.le_of_ble_eq_true rfl) (by decide) (by decide) d_M_in_57 (fun H locs hP hD hS => ?_)
        replace hP : va_P D CC (wM tk h ad (mup (mup g 25 0 (nI (a0 + 1))) 26 0 (nI 1)) la ++ tl) H := hP
        replace hD : va_D A (wM tk h ad (mup (mup g 25 0 (nI (a0 + 1))) 26 0 (nI 1)) la ++ tl) := hD
        refine lv_iload_n hx hb d_M_in_60 rfl (lv_at hl 0 rfl) ?_
        exact k_iret (v := -1) hQ hx hb hr hlk hK hP hD hS () (by unfold inM; rw [hrd]; unfold rtM; first | (rw [if_neg (fun q => q.1 hc40)]; done) | (rw [if_neg (fun q => hc49 (if_neg q.2))]; done) | (rw [if_pos ⟨hc40, fun q => by rw [if_pos q] at hc49; exact absurd hc49 (by decide)⟩]; done)) hrd.symm d_M_in_61
  · skip
    have hrd : rdM g a0 t0 = g 24 a0 := if_pos hc8
    refine lv_aload_n hx hb d_M_in_11 rfl (lv_at hl 0 rfl) ?_
    refine gf_M_57 (v := .ref (ad 24)) hx hb hT hown hK hP 0 rfl rfl d_M_in_12 ?_
    refine lv_aload_n hx hb d_M_in_15 rfl (lv_at hl 0 rfl) ?_
    refine gf_M_197 (v := .int (g 25 0)) hx hb hT hown hK hP 0 rfl rfl d_M_in_16 ?_
    refine st_top (show g 25 0 = nI a0 from hga) ?_
    refine st_iald hx hb hK hP 16 0 rfl rfl (by omega) (by decide) d_M_in_19 ?_
    refine lv_goto hx hb d_M_in_20 (tgt := 24) (by decide) ?_
    refine lv_istore_n (lv' := [(3, .int (g 24 a0)), (0, .ref h), (1, .int lo), (2, .int hi)]) hx hb d_M_in_24 rfl hl (by decide) rfl (fun ls hl => ?_)
    refine lv_aload_n hx hb d_M_in_25 rfl (lv_at hl 1 rfl) ?_
    refine lv_dup hx hb d_M_in_26 rfl ?_
    refine gf_M_197 (v := .int (g 25 0)) hx hb hT hown hK hP 0 rfl rfl d_M_in_27 ?_
    refine st_top (show g 25 0 = nI a0 from hga) ?_
    refine lv_iconst (v := nI 1) hx hb d_M_in_30 (by decide) ?_
    refine st_iadd hx hb d_M_in_31 ?_
    refine pf_M_197 hx hb hT hown hK hP hD hS 0 rfl (Nat.le_of_ble_eq_true rfl) d_M_in_32 (fun H locs hP hD hS => ?_)
    replace hP : va_P D CC (wM tk h ad (mup g 25 0 (nI (a0 + 1))) la ++ tl) H := hP
    replace hD : va_D A (wM tk h ad (mup g 25 0 (nI (a0 + 1))) la ++ tl) := hD
    refine lv_aload_n hx hb d_M_in_35 rfl (lv_at hl 1 rfl) ?_
    refine lv_aload_n hx hb d_M_in_36 rfl (lv_at hl 1 rfl) ?_
    refine gf_M_200 (v := .int (g 26 0)) hx hb hT hown hK hP 0 rfl rfl d_M_in_37 ?_
    refine lv_if_eq hx hb d_M_in_40 (tgt := 56) (by decide) (fun hc40 => ?_) (fun hc40 => ?_)
    · skip
      refine lv_iconst (v := nI 0) hx hb d_M_in_56 (by decide) ?_
      refine pf_M_200 hx hb hT hown hK hP hD hS 0 rfl (Nat.le_of_ble_eq_true rfl) (by decide) (by decide) d_M_in_57 (fun H locs hP hD hS => ?_)
      replace hP : va_P D CC (wM tk h ad (mup (mup g 25 0 (nI (a0 + 1))) 26 0 (nI 0)) la ++ tl) H := hP
      replace hD : va_D A (wM tk h ad (mup (mup g 25 0 (nI (a0 + 1))) 26 0 (nI 0)) la ++ tl) := hD
      refine lv_iload_n hx hb d_M_in_60 rfl (lv_at hl 0 rfl) ?_
      exact k_iret (v := g 24 a0) hQ hx hb hr hlk hK hP hD hS () (by unfold inM; rw [hrd]; unfold rtM; first | (rw [if_neg (fun q => q.1 hc40)]; done) | (rw [if_neg (fun q => hc49 (if_neg q.2))]; done) | (rw [if_pos ⟨hc40, fun q => by rw [if_pos q] at hc49; exact absurd hc49 (by decide)⟩]; done)) hrd.symm d_M_in_61
    · skip
      refine lv_iload_n hx hb d_M_in_43 rfl (lv_at hl 0 rfl) ?_
      refine lv_iload_n hx hb d_M_in_44 rfl (lv_at hl 2 rfl) ?_
      refine lv_iload_n hx hb d_M_in_45 rfl (lv_at hl 3 rfl) ?_
      refine k_calli (va_runS (As := [.int (g 24 a0), .int lo, .int hi]) (rest := [.ref h]) ⟨hx, hb, hml, hown, hts⟩ (c_M_outside l D tk H.size (g 24 a0) lo hi (wM tk h ad (mup g 25 0 (nI (a0 + 1))) la ++ tl)) (cwS 3 hts (gS t_1041 t_1042 t_9 t_1043) rfl rfl rfl (by decide +kernel) ⟨Nat.le_of_ble_eq_true rfl, Nat.le_of_ble_eq_true rfl⟩) (k_preS hP hK hD hnw) rfl rfl hl.1 rfl (lv_room (Nat.le_of_ble_eq_true rfl)) d_M_in_46 hc0) hD hS hA (fun _ _ H locs hp46 hP hD hK hS => ?_)
      subst hp46
      replace hP : va_P D CC (wM tk h ad (mup g 25 0 (nI (a0 + 1))) la ++ tl) H := hP
      replace hD : va_D A (wM tk h ad (mup g 25 0 (nI (a0 + 1))) la ++ tl) := hD
      refine lv_if_ne hx hb d_M_in_49 (tgt := 56) (by decide) (fun hc49 => ?_) (fun hc49 => ?_)
      · skip
        refine lv_iconst (v := nI 0) hx hb d_M_in_56 (by decide) ?_
        refine pf_M_200 hx hb hT hown hK hP hD hS 0 rfl (Nat.le_of_ble_eq_true rfl) (by decide) (by decide) d_M_in_57 (fun H locs hP hD hS => ?_)
        replace hP : va_P D CC (wM tk h ad (mup (mup g 25 0 (nI (a0 + 1))) 26 0 (nI 0)) la ++ tl) H := hP
        replace hD : va_D A (wM tk h ad (mup (mup g 25 0 (nI (a0 + 1))) 26 0 (nI 0)) la ++ tl) := hD
        refine lv_iload_n hx hb d_M_in_60 rfl (lv_at hl 0 rfl) ?_
        exact k_iret (v := g 24 a0) hQ hx hb hr hlk hK hP hD hS () (by unfold inM; rw [hrd]; unfold rtM; first | (rw [if_neg (fun q => q.1 hc40)]; done) | (rw [if_neg (fun q => hc49 (if_neg q.2))]; done) | (rw [if_pos ⟨hc40, fun q => by rw [if_pos q] at hc49; exact absurd hc49 (by decide)⟩]; done)) hrd.symm d_M_in_61
      · skip
        refine lv_iconst (v := nI 1) hx hb d_M_in_52 (by decide) ?_
        refine lv_goto hx hb d_M_in_53 (tgt := 57) (by decide) ?_
        refine pf_M_200 hx hb hT hown hK hP hD hS 0 rfl (Nat.le_of_ble_eq_true rfl) (by decide) (by decide) d_M_in_57 (fun H locs hP hD hS => ?_)
        replace hP : va_P D CC (wM tk h ad (mup (mup g 25 0 (nI (a0 + 1))) 26 0 (nI 1)) la ++ tl) H := hP
        replace hD : va_D A (wM tk h ad (mup (mup g 25 0 (nI (a0 + 1))) 26 0 (nI 1)) la ++ tl) := hD
        refine lv_iload_n hx hb d_M_in_60 rfl (lv_at hl 0 rfl) ?_
        exact k_iret (v := g 24 a0) hQ hx hb hr hlk hK hP hD hS () (by unfold inM; rw [hrd]; unfold rtM; first | (rw [if_neg (fun q => q.1 hc40)]; done) | (rw [if_neg (fun q => hc49 (if_neg q.2))]; done) | (rw [if_pos ⟨hc40, fun q => by rw [if_pos q] at hc49; exact absurd hc49 (by decide)⟩]; done)) hrd.symm d_M_in_61

/-- the reference's reading of an int at a0 -/
def riM (g : Nat → Nat → Int32) (a t0 : Nat) : Int32 := ((((((((nI 0 <<< (nI 8 &&& 31)) ||| (rdM g a t0 &&& nI 255)) <<< (nI 8 &&& 31)) ||| (rdM g (a + 1) t0 &&& nI 255)) <<< (nI 8 &&& 31)) ||| (rdM g (a + 1 + 1) t0 &&& nI 255)) <<< (nI 8 &&& 31)) ||| (rdM g (a + 1 + 1 + 1) t0 &&& nI 255))
def iiM (g : Nat → Nat → Int32) (a t0 : Nat) : Nat → Nat → Int32 := inM (inM (inM (inM g a t0 (nI 0) (nI 255)) (a + 1) t0 (nI 0) (nI 255)) (a + 1 + 1) t0 (nI 0) (nI 255)) (a + 1 + 1 + 1) t0 (nI 0) (nI 255)
theorem rtM_b (g : Nat → Nat → Int32) (b lo hi : Int32) : rtM g b lo hi = 0 ∨ rtM g b lo hi = 1 := by
  unfold rtM
  split
  · exact Or.inr rfl
  · exact Or.inl rfl
theorem inM_24 (g : Nat → Nat → Int32) (a t0 : Nat) (lo hi : Int32) : inM g a t0 lo hi 24 = g 24 := rfl
theorem rdM_in (g : Nat → Nat → Int32) (a t0 : Nat) (lo hi : Int32) (b : Nat) : rdM (inM g a t0 lo hi) b t0 = rdM g b t0 := rfl
theorem inM_fr (g : Nat → Nat → Int32) (a t0 : Nat) (lo hi : Int32) : frx [25, 26] g (inM g a t0 lo hi) := fun x hx => by
  simp only [List.mem_cons, List.not_mem_nil, or_false, not_or] at hx
  unfold inM
  rw [mup_ne hx.2, mup_ne hx.1]
theorem inM_26 (g : Nat → Nat → Int32) (a t0 : Nat) (lo hi : Int32) : inM g a t0 lo hi 26 0 = rtM g (rdM g a t0) lo hi := rfl
theorem iiM_fr (g : Nat → Nat → Int32) (a t0 : Nat) : frx [25, 26] g (iiM g a t0) := by
  unfold iiM
  exact frx_t (frx_t (frx_t (inM_fr _ _ _ _ _) (inM_fr _ _ _ _ _) (fun x h => ⟨h, h⟩)) (inM_fr _ _ _ _ _) (fun x h => ⟨h, h⟩)) (inM_fr _ _ _ _ _) (fun x h => ⟨h, h⟩)

set_option maxHeartbeats 4000000 in
set_option maxRecDepth 100000 in
theorem c_M_inInt (l : Launch) (D : va_G) (tk : Nat → ClassId) (sz : Nat) (h : Nat) (ad : Nat → Nat) (g : Nat → Nat → Int32) (la : Nat → Int64) (tl : va_W) (a0 t0 : Nat) (hbz : g 26 0 = 0 ∨ g 26 0 = 1) (ha0 : a0 < 2 ^ 16) (ht0 : t0 ≤ 420) (hga : g 25 0 = nI a0) (hgt : g 23 0 = nI t0) : Met l y_M_inInt w_M_inInt ({ frames := 2, cells := 0, slots := 0, locals := 45 }) (va_Pc [.ref h] (k_pre D (TY tk) sz (wM tk h ad g la ++ tl))) (va_Qi (fun (r : Int32) (_ : Unit) => r = riM g a0 t0) (fun u t => k_at D (TY tk) (va_A (wM tk h ad g la ++ tl) sz) ((fun _ => wM tk h ad (iiM g a0 t0) la ++ tl) u) t) (va_A (wM tk h ad g la ++ tl) sz)) 0 0 (va_A (wM tk h ad g la ++ tl) sz) := by
  refine k_ofW (fun A => va_Qi (fun (r : Int32) (_ : Unit) => r = riM g a0 t0) (fun u t => k_at D (TY tk) A ((fun _ => wM tk h ad (iiM g a0 t0) la ++ tl) u) t) A) (by decide) (Nat.le_of_ble_eq_true rfl) ?_
  intro p e s m args below meth c Q A ls hQ hx hb hr hlk hin hts hT hown hml hnw hP hK hD hA hsz hl
  have hS : va_S A s.heap s.heap [] := va_S.rf
  have hc0 : 0 + 0 ≤ 0 ∧ 0 + 0 ≤ 0 := ⟨by decide, by decide⟩
  replace hl : lv_has ls 3 [(0, .ref h)] := hl
  replace hP : va_P D CC (wM tk h ad g la ++ tl) s.heap := hP
  replace hK : va_K D CC (TY tk) s := hK
  refine lv_iconst (v := nI 0) hx hb d_M_inInt_0 (by decide) ?_
  refine lv_istore_n (lv' := [(1, .int (nI 0)), (0, .ref h)]) hx hb d_M_inInt_1 rfl hl (by decide) rfl (fun ls hl => ?_)
  refine lv_iconst (v := nI 0) hx hb d_M_inInt_2 (by decide) ?_
  refine lv_istore_n (lv' := [(2, .int (nI 0)), (1, .int (nI 0)), (0, .ref h)]) hx hb d_M_inInt_3 rfl hl (by decide) rfl (fun ls hl => ?_)
  refine lv_iload_n hx hb d_M_inInt_4 rfl (lv_at hl 0 rfl) ?_
  refine lv_iconst (v := nI 4) hx hb d_M_inInt_5 (by decide) ?_
  refine st_icmp_ge hx hb (by omega) (by omega) d_M_inInt_6 (tgt := 33) (by decide) (fun hc6 => (by exfalso; first | exact hc6 | omega)) (fun hc6 => ?_)
  refine lv_iload_n hx hb d_M_inInt_9 rfl (lv_at hl 1 rfl) ?_
  refine lv_bipush (v := nI 8) hx hb d_M_inInt_10 (by decide) ?_
  refine lv_ishl hx hb d_M_inInt_12 ?_
  refine lv_aload_n hx hb d_M_inInt_13 rfl (lv_at hl 2 rfl) ?_
  refine lv_iconst (v := nI 0) hx hb d_M_inInt_14 (by decide) ?_
  refine lv_sipush (v := nI 255) hx hb d_M_inInt_15 (by decide) ?_
  refine k_calli (va_runV (As := [.int (nI 0), .int (nI 255)]) (rest := [.int ((nI 0) <<< ((nI 8) &&& 31))]) ⟨hx, hb, hml, hown, hts⟩ (c_M_in l D tk s.heap.size h ad g la tl a0 t0 (nI 0) (nI 255) (hbz) (by omega) (by omega) hga hgt) (cwV 2 hts (gV t_1215 t_1217 s_38 t_9 t_1218) rfl rfl rfl (by decide +kernel) ⟨Nat.le_of_ble_eq_true rfl, Nat.le_of_ble_eq_true rfl⟩) (k_preV hP hK hD hnw 0 rfl rfl) rfl rfl hl.1 rfl (lv_room (Nat.le_of_ble_eq_true rfl)) d_M_inInt_18 hc0) hD hS hA (fun _ _ H locs hp18 hP hD hK hS => ?_)
  subst hp18
  replace hP : va_P D CC (wM tk h ad (inM g a0 t0 (nI 0) (nI 255)) la ++ tl) H := hP
  replace hD : va_D A (wM tk h ad (inM g a0 t0 (nI 0) (nI 255)) la ++ tl) := hD
  refine lv_sipush (v := nI 255) hx hb d_M_inInt_21 (by decide) ?_
  refine lv_iand hx hb d_M_inInt_24 ?_
  refine lv_ior hx hb d_M_inInt_25 ?_
  refine lv_istore_n (lv' := [(1, .int (((nI 0) <<< ((nI 8) &&& 31)) ||| ((rdM g a0 t0) &&& (nI 255)))), (2, .int (nI 0)), (0, .ref h)]) hx hb d_M_inInt_26 rfl hl (by decide) rfl (fun ls hl => ?_)
  refine lv_iinc (k := 1) (v := nI 1) (lv' := [(2, .int (nI 1)), (1, .int (((nI 0) <<< ((nI 8) &&& 31)) ||| ((rdM g a0 t0) &&& (nI 255)))), (0, .ref h)]) hx hb d_M_inInt_27 hl rfl (nI_add _ _) (by decide) rfl (fun ls hl => ?_)
  refine lv_goto hx hb d_M_inInt_30 (tgt := 4) (by decide) ?_
  refine lv_iload_n hx hb d_M_inInt_4 rfl (lv_at hl 0 rfl) ?_
  refine lv_iconst (v := nI 4) hx hb d_M_inInt_5 (by decide) ?_
  refine st_icmp_ge hx hb (by omega) (by omega) d_M_inInt_6 (tgt := 33) (by decide) (fun hc6 => (by exfalso; first | exact hc6 | omega)) (fun hc6 => ?_)
  refine lv_iload_n hx hb d_M_inInt_9 rfl (lv_at hl 1 rfl) ?_
  refine lv_bipush (v := nI 8) hx hb d_M_inInt_10 (by decide) ?_
  refine lv_ishl hx hb d_M_inInt_12 ?_
  refine lv_aload_n hx hb d_M_inInt_13 rfl (lv_at hl 2 rfl) ?_
  refine lv_iconst (v := nI 0) hx hb d_M_inInt_14 (by decide) ?_
  refine lv_sipush (v := nI 255) hx hb d_M_inInt_15 (by decide) ?_
  refine k_calli (va_runV (As := [.int (nI 0), .int (nI 255)]) (rest := [.int ((((nI 0) <<< ((nI 8) &&& 31)) ||| ((rdM g a0 t0) &&& (nI 255))) <<< ((nI 8) &&& 31))]) ⟨hx, hb, hml, hown, hts⟩ (c_M_in l D tk H.size h ad (inM g a0 t0 (nI 0) (nI 255)) la tl (a0 + 1) t0 (nI 0) (nI 255) (rtM_b _ _ _ _) (by omega) (by omega) rfl hgt) (cwV 2 hts (gV t_1215 t_1217 s_38 t_9 t_1218) rfl rfl rfl (by decide +kernel) ⟨Nat.le_of_ble_eq_true rfl, Nat.le_of_ble_eq_true rfl⟩) (k_preV hP hK hD hnw 0 rfl rfl) rfl rfl hl.1 rfl (lv_room (Nat.le_of_ble_eq_true rfl)) d_M_inInt_18 hc0) hD hS hA (fun _ _ H locs hp18 hP hD hK hS => ?_)
  subst hp18
  replace hP : va_P D CC (wM tk h ad (inM (inM g a0 t0 (nI 0) (nI 255)) (a0 + 1) t0 (nI 0) (nI 255)) la ++ tl) H := hP
  replace hD : va_D A (wM tk h ad (inM (inM g a0 t0 (nI 0) (nI 255)) (a0 + 1) t0 (nI 0) (nI 255)) la ++ tl) := hD
  refine lv_sipush (v := nI 255) hx hb d_M_inInt_21 (by decide) ?_
  refine lv_iand hx hb d_M_inInt_24 ?_
  refine lv_ior hx hb d_M_inInt_25 ?_
  refine lv_istore_n (lv' := [(1, .int (((((nI 0) <<< ((nI 8) &&& 31)) ||| ((rdM g a0 t0) &&& (nI 255))) <<< ((nI 8) &&& 31)) ||| ((rdM g (a0 + 1) t0) &&& (nI 255)))), (2, .int (nI 1)), (0, .ref h)]) hx hb d_M_inInt_26 rfl hl (by decide) rfl (fun ls hl => ?_)
  refine lv_iinc (k := 1) (v := nI 2) (lv' := [(2, .int (nI 2)), (1, .int (((((nI 0) <<< ((nI 8) &&& 31)) ||| ((rdM g a0 t0) &&& (nI 255))) <<< ((nI 8) &&& 31)) ||| ((rdM g (a0 + 1) t0) &&& (nI 255)))), (0, .ref h)]) hx hb d_M_inInt_27 hl rfl (nI_add _ _) (by decide) rfl (fun ls hl => ?_)
  refine lv_goto hx hb d_M_inInt_30 (tgt := 4) (by decide) ?_
  refine lv_iload_n hx hb d_M_inInt_4 rfl (lv_at hl 0 rfl) ?_
  refine lv_iconst (v := nI 4) hx hb d_M_inInt_5 (by decide) ?_
  refine st_icmp_ge hx hb (by omega) (by omega) d_M_inInt_6 (tgt := 33) (by decide) (fun hc6 => (by exfalso; first | exact hc6 | omega)) (fun hc6 => ?_)
  refine lv_iload_n hx hb d_M_inInt_9 rfl (lv_at hl 1 rfl) ?_
  refine lv_bipush (v := nI 8) hx hb d_M_inInt_10 (by decide) ?_
  refine lv_ishl hx hb d_M_inInt_12 ?_
  refine lv_aload_n hx hb d_M_inInt_13 rfl (lv_at hl 2 rfl) ?_
  refine lv_iconst (v := nI 0) hx hb d_M_inInt_14 (by decide) ?_
  refine lv_sipush (v := nI 255) hx hb d_M_inInt_15 (by decide) ?_
  refine k_calli (va_runV (As := [.int (nI 0), .int (nI 255)]) (rest := [.int ((((((nI 0) <<< ((nI 8) &&& 31)) ||| ((rdM g a0 t0) &&& (nI 255))) <<< ((nI 8) &&& 31)) ||| ((rdM g (a0 + 1) t0) &&& (nI 255))) <<< ((nI 8) &&& 31))]) ⟨hx, hb, hml, hown, hts⟩ (c_M_in l D tk H.size h ad (inM (inM g a0 t0 (nI 0) (nI 255)) (a0 + 1) t0 (nI 0) (nI 255)) la tl (a0 + 1 + 1) t0 (nI 0) (nI 255) (rtM_b _ _ _ _) (by omega) (by omega) rfl hgt) (cwV 2 hts (gV t_1215 t_1217 s_38 t_9 t_1218) rfl rfl rfl (by decide +kernel) ⟨Nat.le_of_ble_eq_true rfl, Nat.le_of_ble_eq_true rfl⟩) (k_preV hP hK hD hnw 0 rfl rfl) rfl rfl hl.1 rfl (lv_room (Nat.le_of_ble_eq_true rfl)) d_M_inInt_18 hc0) hD hS hA (fun _ _ H locs hp18 hP hD hK hS => ?_)
  subst hp18
  replace hP : va_P D CC (wM tk h ad (inM (inM (inM g a0 t0 (nI 0) (nI 255)) (a0 + 1) t0 (nI 0) (nI 255)) (a0 + 1 + 1) t0 (nI 0) (nI 255)) la ++ tl) H := hP
  replace hD : va_D A (wM tk h ad (inM (inM (inM g a0 t0 (nI 0) (nI 255)) (a0 + 1) t0 (nI 0) (nI 255)) (a0 + 1 + 1) t0 (nI 0) (nI 255)) la ++ tl) := hD
  refine lv_sipush (v := nI 255) hx hb d_M_inInt_21 (by decide) ?_
  refine lv_iand hx hb d_M_inInt_24 ?_
  refine lv_ior hx hb d_M_inInt_25 ?_
  refine lv_istore_n (lv' := [(1, .int (((((((nI 0) <<< ((nI 8) &&& 31)) ||| ((rdM g a0 t0) &&& (nI 255))) <<< ((nI 8) &&& 31)) ||| ((rdM g (a0 + 1) t0) &&& (nI 255))) <<< ((nI 8) &&& 31)) ||| ((rdM g (a0 + 1 + 1) t0) &&& (nI 255)))), (2, .int (nI 2)), (0, .ref h)]) hx hb d_M_inInt_26 rfl hl (by decide) rfl (fun ls hl => ?_)
  refine lv_iinc (k := 1) (v := nI 3) (lv' := [(2, .int (nI 3)), (1, .int (((((((nI 0) <<< ((nI 8) &&& 31)) ||| ((rdM g a0 t0) &&& (nI 255))) <<< ((nI 8) &&& 31)) ||| ((rdM g (a0 + 1) t0) &&& (nI 255))) <<< ((nI 8) &&& 31)) ||| ((rdM g (a0 + 1 + 1) t0) &&& (nI 255)))), (0, .ref h)]) hx hb d_M_inInt_27 hl rfl (nI_add _ _) (by decide) rfl (fun ls hl => ?_)
  refine lv_goto hx hb d_M_inInt_30 (tgt := 4) (by decide) ?_
  refine lv_iload_n hx hb d_M_inInt_4 rfl (lv_at hl 0 rfl) ?_
  refine lv_iconst (v := nI 4) hx hb d_M_inInt_5 (by decide) ?_
  refine st_icmp_ge hx hb (by omega) (by omega) d_M_inInt_6 (tgt := 33) (by decide) (fun hc6 => (by exfalso; first | exact hc6 | omega)) (fun hc6 => ?_)
  refine lv_iload_n hx hb d_M_inInt_9 rfl (lv_at hl 1 rfl) ?_
  refine lv_bipush (v := nI 8) hx hb d_M_inInt_10 (by decide) ?_
  refine lv_ishl hx hb d_M_inInt_12 ?_
  refine lv_aload_n hx hb d_M_inInt_13 rfl (lv_at hl 2 rfl) ?_
  refine lv_iconst (v := nI 0) hx hb d_M_inInt_14 (by decide) ?_
  refine lv_sipush (v := nI 255) hx hb d_M_inInt_15 (by decide) ?_
  refine k_calli (va_runV (As := [.int (nI 0), .int (nI 255)]) (rest := [.int ((((((((nI 0) <<< ((nI 8) &&& 31)) ||| ((rdM g a0 t0) &&& (nI 255))) <<< ((nI 8) &&& 31)) ||| ((rdM g (a0 + 1) t0) &&& (nI 255))) <<< ((nI 8) &&& 31)) ||| ((rdM g (a0 + 1 + 1) t0) &&& (nI 255))) <<< ((nI 8) &&& 31))]) ⟨hx, hb, hml, hown, hts⟩ (c_M_in l D tk H.size h ad (inM (inM (inM g a0 t0 (nI 0) (nI 255)) (a0 + 1) t0 (nI 0) (nI 255)) (a0 + 1 + 1) t0 (nI 0) (nI 255)) la tl (a0 + 1 + 1 + 1) t0 (nI 0) (nI 255) (rtM_b _ _ _ _) (by omega) (by omega) rfl hgt) (cwV 2 hts (gV t_1215 t_1217 s_38 t_9 t_1218) rfl rfl rfl (by decide +kernel) ⟨Nat.le_of_ble_eq_true rfl, Nat.le_of_ble_eq_true rfl⟩) (k_preV hP hK hD hnw 0 rfl rfl) rfl rfl hl.1 rfl (lv_room (Nat.le_of_ble_eq_true rfl)) d_M_inInt_18 hc0) hD hS hA (fun _ _ H locs hp18 hP hD hK hS => ?_)
  subst hp18
  replace hP : va_P D CC (wM tk h ad (inM (inM (inM (inM g a0 t0 (nI 0) (nI 255)) (a0 + 1) t0 (nI 0) (nI 255)) (a0 + 1 + 1) t0 (nI 0) (nI 255)) (a0 + 1 + 1 + 1) t0 (nI 0) (nI 255)) la ++ tl) H := hP
  replace hD : va_D A (wM tk h ad (inM (inM (inM (inM g a0 t0 (nI 0) (nI 255)) (a0 + 1) t0 (nI 0) (nI 255)) (a0 + 1 + 1) t0 (nI 0) (nI 255)) (a0 + 1 + 1 + 1) t0 (nI 0) (nI 255)) la ++ tl) := hD
  refine lv_sipush (v := nI 255) hx hb d_M_inInt_21 (by decide) ?_
  refine lv_iand hx hb d_M_inInt_24 ?_
  refine lv_ior hx hb d_M_inInt_25 ?_
  refine lv_istore_n (lv' := [(1, .int (((((((((nI 0) <<< ((nI 8) &&& 31)) ||| ((rdM g a0 t0) &&& (nI 255))) <<< ((nI 8) &&& 31)) ||| ((rdM g (a0 + 1) t0) &&& (nI 255))) <<< ((nI 8) &&& 31)) ||| ((rdM g (a0 + 1 + 1) t0) &&& (nI 255))) <<< ((nI 8) &&& 31)) ||| ((rdM g (a0 + 1 + 1 + 1) t0) &&& (nI 255)))), (2, .int (nI 3)), (0, .ref h)]) hx hb d_M_inInt_26 rfl hl (by decide) rfl (fun ls hl => ?_)
  refine lv_iinc (k := 1) (v := nI 4) (lv' := [(2, .int (nI 4)), (1, .int (((((((((nI 0) <<< ((nI 8) &&& 31)) ||| ((rdM g a0 t0) &&& (nI 255))) <<< ((nI 8) &&& 31)) ||| ((rdM g (a0 + 1) t0) &&& (nI 255))) <<< ((nI 8) &&& 31)) ||| ((rdM g (a0 + 1 + 1) t0) &&& (nI 255))) <<< ((nI 8) &&& 31)) ||| ((rdM g (a0 + 1 + 1 + 1) t0) &&& (nI 255)))), (0, .ref h)]) hx hb d_M_inInt_27 hl rfl (nI_add _ _) (by decide) rfl (fun ls hl => ?_)
  refine lv_goto hx hb d_M_inInt_30 (tgt := 4) (by decide) ?_
  refine lv_iload_n hx hb d_M_inInt_4 rfl (lv_at hl 0 rfl) ?_
  refine lv_iconst (v := nI 4) hx hb d_M_inInt_5 (by decide) ?_
  refine st_icmp_ge hx hb (by omega) (by omega) d_M_inInt_6 (tgt := 33) (by decide) (fun hc6 => ?_) (fun hc6 => (by exfalso; first | exact hc6 | omega))
  refine lv_iload_n hx hb d_M_inInt_33 rfl (lv_at hl 1 rfl) ?_
  exact k_iret (v := ((((((((nI 0) <<< ((nI 8) &&& 31)) ||| ((rdM g a0 t0) &&& (nI 255))) <<< ((nI 8) &&& 31)) ||| ((rdM g (a0 + 1) t0) &&& (nI 255))) <<< ((nI 8) &&& 31)) ||| ((rdM g (a0 + 1 + 1) t0) &&& (nI 255))) <<< ((nI 8) &&& 31)) ||| ((rdM g (a0 + 1 + 1 + 1) t0) &&& (nI 255))) hQ hx hb hr hlk hK hP hD hS () rfl rfl d_M_inInt_34

/-- from a seal up the ints beside it -/
def ldF (g : Nat → Nat → Int32) (b : Nat) (k n : Nat) (h : Int32) : Int32 := it_ (fun x j => if g 20 (b - 1 - j) = 0 then jn x (g 27 j) else jn (g 27 j) x) k n h
theorem ldF_go (g : Nat → Nat → Int32) {b k : Nat} (h : k < b) (x : Int32) : ldF g b k (b - k) x = ldF g b (k + 1) (b - (k + 1)) (if g 20 (b - 1 - k) = 0 then jn x (g 27 k) else jn (g 27 k) x) := by
  have e : b - k = b - (k + 1) + 1 := by omega
  unfold ldF
  rw [e, it_]
theorem ldF_0 (g : Nat → Nat → Int32) (b k : Nat) (x : Int32) : ldF g b k 0 x = x := by
  unfold ldF
  rw [it_]

set_option maxHeartbeats 4000000 in
set_option maxRecDepth 100000 in
theorem c_M_lead (l : Launch) (D : va_G) (tk : Nat → ClassId) (sz : Nat) (h : Nat) (ad : Nat → Nat) (g : Nat → Nat → Int32) (la : Nat → Int64) (tl : va_W) (b0 f : Nat) (x0 : Int32) (hb0 : b0 ≤ 8) (hf : f ≤ b0) (hg : g 17 0 = nI b0) : Met l y_M_lead w_M_lead ({ frames := 2, cells := 0, slots := 0, locals := 43 }) (va_Pc [.ref h, .int x0, .int (nI f)] (k_pre D (TY tk) sz (wM tk h ad g la ++ tl))) (va_Qi (fun (r : Int32) (_ : Unit) => r = ldF g b0 f (b0 - f) x0) (fun u t => k_at D (TY tk) (va_A (wM tk h ad g la ++ tl) sz) ((fun _ => wM tk h ad g la ++ tl) u) t) (va_A (wM tk h ad g la ++ tl) sz)) 0 0 (va_A (wM tk h ad g la ++ tl) sz) := by
  refine k_ofW (fun A => va_Qi (fun (r : Int32) (_ : Unit) => r = ldF g b0 f (b0 - f) x0) (fun u t => k_at D (TY tk) A ((fun _ => wM tk h ad g la ++ tl) u) t) A) (by decide) (Nat.le_of_ble_eq_true rfl) ?_
  intro p e s m args below meth c Q A ls hQ hx hb hr hlk hin hts hT hown hml hnw hP hK hD hA hsz hl
  have hS : va_S A s.heap s.heap [] := va_S.rf
  have hc0 : 0 + 0 ≤ 0 ∧ 0 + 0 ≤ 0 := ⟨by decide, by decide⟩
  replace hl : lv_has ls 5 [(0, .ref h), (1, .int x0), (2, .int (nI f))] := hl
  replace hP : va_P D CC (wM tk h ad g la ++ tl) s.heap := hP
  replace hK : va_K D CC (TY tk) s := hK
  refine lv_iload_n hx hb d_M_lead_0 rfl (lv_at hl 1 rfl) ?_
  refine lv_istore_n (lv' := [(3, .int x0), (0, .ref h), (1, .int x0), (2, .int (nI f))]) hx hb d_M_lead_1 rfl hl (by decide) rfl (fun ls hl => ?_)
  refine lv_iload_n hx hb d_M_lead_2 rfl (lv_at hl 3 rfl) ?_
  refine lv_istore (lv' := [(4, .int (nI f)), (3, .int x0), (0, .ref h), (1, .int x0), (2, .int (nI f))]) hx hb d_M_lead_3 hl (by decide) rfl (fun ls hl => ?_)
  have key5 : ∀ (n5 : Nat) (k : Nat) (x : Int32) (ls : Array Slot) (H : Heap) (locs : List Loc), b0 - k < n5 → (f ≤ k ∧ k ≤ b0) → (ldF g b0 k (b0 - k) x = ldF g b0 f (b0 - f) x0) → lv_has ls 5 [(0, .ref h), (1, .int x0), (2, .int (nI f)), (3, .int x), (4, .int (nI k))] → va_P D CC (wM tk h ad g la ++ tl) H → va_D A (wM tk h ad g la ++ tl) → va_S A s.heap H locs → W p l e ({ frames := 2, cells := 0, slots := 0, locals := 43 } : Room) s m args below meth c H locs 0 0 Q (F0 m 5 ls []) := by
    intro n5
    induction n5 with
    | zero => intro k x ls H locs hn; exact absurd hn (Nat.not_lt_zero _)
    | succ n5 ih5 =>
      intro k x ls H locs hn5 hk hR hl hP hD hS
      refine lv_iload hx hb d_M_lead_5 (lv_at hl 4 rfl) ?_
      refine lv_aload_n hx hb d_M_lead_7 rfl (lv_at hl 0 rfl) ?_
      refine gf_M_155 (v := .int (g 17 0)) hx hb hT hown hK hP 0 rfl rfl d_M_lead_8 ?_
      refine st_top (show g 17 0 = nI b0 from hg) ?_
      refine st_icmp_ge hx hb (by omega) (by omega) d_M_lead_11 (tgt := 63) (by decide) (fun hc11 => ?_) (fun hc11 => ?_)
      · skip
        refine lv_iload_n hx hb d_M_lead_63 rfl (lv_at hl 3 rfl) ?_
        exact k_iret (v := x) hQ hx hb hr hlk hK hP hD hS () rfl (by rw [← hR, show b0 - k = 0 by omega, ldF_0]) d_M_lead_64
      · skip
        refine lv_aload_n hx hb d_M_lead_14 rfl (lv_at hl 0 rfl) ?_
        refine gf_M_51 (v := .ref (ad 20)) hx hb hT hown hK hP 0 rfl rfl d_M_lead_15 ?_
        refine lv_aload_n hx hb d_M_lead_18 rfl (lv_at hl 0 rfl) ?_
        refine gf_M_155 (v := .int (g 17 0)) hx hb hT hown hK hP 0 rfl rfl d_M_lead_19 ?_
        refine st_top (show g 17 0 = nI b0 from hg) ?_
        refine lv_iconst (v := nI 1) hx hb d_M_lead_22 (by decide) ?_
        refine st_isub hx hb (by omega) d_M_lead_23 ?_
        refine lv_iload hx hb d_M_lead_24 (lv_at hl 4 rfl) ?_
        refine st_isub hx hb (by omega) d_M_lead_26 ?_
        refine st_zald hx hb hK hP 14 1 rfl rfl (by omega) (by decide) d_M_lead_27 ?_
        refine lv_if_eq hx hb d_M_lead_28 (tgt := 45) (by decide) (fun hc28 => ?_) (fun hc28 => ?_)
        · skip
          refine lv_iload_n hx hb d_M_lead_45 rfl (lv_at hl 3 rfl) ?_
          refine lv_aload_n hx hb d_M_lead_46 rfl (lv_at hl 0 rfl) ?_
          refine gf_M_60 (v := .ref (ad 27)) hx hb hT hown hK hP 0 rfl rfl d_M_lead_47 ?_
          refine lv_iload hx hb d_M_lead_50 (lv_at hl 4 rfl) ?_
          refine st_iald hx hb hK hP 17 0 rfl rfl (by omega) (by decide) d_M_lead_52 ?_
          refine k_calli (va_runS (As := [.int x, .int (g 27 k)]) (rest := []) ⟨hx, hb, hml, hown, hts⟩ (c_M_join l D tk H.size x (g 27 k) (wM tk h ad g la ++ tl)) (cwS 2 hts (gS t_1146 t_1147 t_9 t_1148) rfl rfl rfl (by decide +kernel) ⟨Nat.le_of_ble_eq_true rfl, Nat.le_of_ble_eq_true rfl⟩) (k_preS hP hK hD hnw) rfl rfl hl.1 rfl (lv_room (Nat.le_of_ble_eq_true rfl)) d_M_lead_53 hc0) hD hS hA (fun _ _ H locs hp53 hP hD hK hS => ?_)
          subst hp53
          replace hP : va_P D CC (wM tk h ad g la ++ tl) H := hP
          replace hD : va_D A (wM tk h ad g la ++ tl) := hD
          refine lv_istore_n (lv' := [(3, .int (jn x (g 27 k))), (0, .ref h), (1, .int x0), (2, .int (nI f)), (4, .int (nI k))]) hx hb d_M_lead_56 rfl hl (by decide) rfl (fun ls hl => ?_)
          refine lv_iinc (k := 4) (v := nI (k + 1)) (lv' := [(4, .int (nI (k + 1))), (3, .int (jn x (g 27 k))), (0, .ref h), (1, .int x0), (2, .int (nI f))]) hx hb d_M_lead_57 hl rfl (nI_add _ _) (by decide) rfl (fun ls hl => ?_)
          refine lv_goto hx hb d_M_lead_60 (tgt := 5) (by decide) ?_
          exact ih5 (k + 1) (jn x (g 27 k)) ls _ _ (by omega) (by omega) (by rw [← hR, ldF_go g (b := b0) (k := k) hc11 x]; first | rw [if_pos hc28] | rw [if_neg hc28]) (lv_sub hl [2, 3, 4, 1, 0] rfl) hP hD hS
        · skip
          refine lv_aload_n hx hb d_M_lead_31 rfl (lv_at hl 0 rfl) ?_
          refine gf_M_60 (v := .ref (ad 27)) hx hb hT hown hK hP 0 rfl rfl d_M_lead_32 ?_
          refine lv_iload hx hb d_M_lead_35 (lv_at hl 4 rfl) ?_
          refine st_iald hx hb hK hP 17 0 rfl rfl (by omega) (by decide) d_M_lead_37 ?_
          refine lv_iload_n hx hb d_M_lead_38 rfl (lv_at hl 3 rfl) ?_
          refine k_calli (va_runS (As := [.int (g 27 k), .int x]) (rest := []) ⟨hx, hb, hml, hown, hts⟩ (c_M_join l D tk H.size (g 27 k) x (wM tk h ad g la ++ tl)) (cwS 2 hts (gS t_1146 t_1147 t_9 t_1148) rfl rfl rfl (by decide +kernel) ⟨Nat.le_of_ble_eq_true rfl, Nat.le_of_ble_eq_true rfl⟩) (k_preS hP hK hD hnw) rfl rfl hl.1 rfl (lv_room (Nat.le_of_ble_eq_true rfl)) d_M_lead_39 hc0) hD hS hA (fun _ _ H locs hp39 hP hD hK hS => ?_)
          subst hp39
          replace hP : va_P D CC (wM tk h ad g la ++ tl) H := hP
          replace hD : va_D A (wM tk h ad g la ++ tl) := hD
          refine lv_goto hx hb d_M_lead_42 (tgt := 56) (by decide) ?_
          refine lv_istore_n (lv' := [(3, .int (jn (g 27 k) x)), (0, .ref h), (1, .int x0), (2, .int (nI f)), (4, .int (nI k))]) hx hb d_M_lead_56 rfl hl (by decide) rfl (fun ls hl => ?_)
          refine lv_iinc (k := 4) (v := nI (k + 1)) (lv' := [(4, .int (nI (k + 1))), (3, .int (jn (g 27 k) x)), (0, .ref h), (1, .int x0), (2, .int (nI f))]) hx hb d_M_lead_57 hl rfl (nI_add _ _) (by decide) rfl (fun ls hl => ?_)
          refine lv_goto hx hb d_M_lead_60 (tgt := 5) (by decide) ?_
          exact ih5 (k + 1) (jn (g 27 k) x) ls _ _ (by omega) (by omega) (by rw [← hR, ldF_go g (b := b0) (k := k) hc11 x]; first | rw [if_pos hc28] | rw [if_neg hc28]) (lv_sub hl [2, 3, 4, 1, 0] rfl) hP hD hS
  exact key5 _ f x0 ls _ _ (Nat.lt_succ_self _) (by omega) rfl (lv_sub hl [2, 3, 4, 1, 0] rfl) hP hD hS
