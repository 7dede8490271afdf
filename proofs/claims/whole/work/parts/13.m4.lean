/-- a hash over the places a, a + 1 .. of the level rows -/
def it_ {α : Type} (f : α → Nat → α) : Nat → Nat → α → α
  | _, 0, h => h
  | a, n + 1, h => it_ f (a + 1) n (f h a)
def hsA (g : Nat → Nat → Int32) (a n : Nat) (h : Int32) : Int32 := it_ (fun x j => mx (mx x (g 13 j)) (g 14 j)) a n h
theorem hsA_go (g : Nat → Nat → Int32) {k E : Nat} (h : k < E) (x : Int32) : hsA g k (E - k) x = hsA g (k + 1) (E - (k + 1)) (mx (mx x (g 13 k)) (g 14 k)) := by
  have e : E - k = E - (k + 1) + 1 := by omega
  unfold hsA
  rw [e, it_]
theorem hsA_0 (g : Nat → Nat → Int32) (k : Nat) (x : Int32) : hsA g k 0 x = x := by
  unfold hsA
  rw [it_]
/-- the first place from i on where f says so, or the last place -/
def fsF (f : Nat → Bool) (n : Nat) : Nat → Nat → Nat
  | 0, i => i
  | q + 1, i => if i + 1 < n ∧ f i = false then fsF f n q (i + 1) else i
def fs_ (f : Nat → Bool) (n i : Nat) : Nat := fsF f n (n - i) i
theorem fs_go {f : Nat → Bool} {n i : Nat} (h : i + 1 < n) (hf : f i = false) : fs_ f n i = fs_ f n (i + 1) := by
  unfold fs_
  rw [show n - i = n - (i + 1) + 1 by omega]
  conv => lhs; unfold fsF
  rw [if_pos ⟨h, hf⟩]
theorem fs_stop {f : Nat → Bool} {n i : Nat} (h : n ≤ i + 1 ∨ f i = true) : fs_ f n i = i := by
  unfold fs_
  cases e : n - i with
  | zero => rfl
  | succ q =>
    unfold fsF
    rw [if_neg]
    rintro ⟨h1, h2⟩
    rcases h with h | h
    · omega
    · rw [h2] at h; cases h
theorem fs_le {f : Nat → Bool} {n : Nat} : ∀ (q i : Nat), i < n → n - i = q → i ≤ fs_ f n i ∧ fs_ f n i < n := by
  intro q
  induction q with
  | zero => intro i h1 h2; omega
  | succ q ih =>
    intro i h1 h2
    by_cases h : i + 1 < n ∧ f i = false
    · rw [fs_go h.1 h.2]
      have := ih (i + 1) h.1 (by omega)
      omega
    · rw [fs_stop]
      · omega
      · by_cases h3 : i + 1 < n
        · right
          cases e : f i with
          | true => rfl
          | false => exact absurd ⟨h3, e⟩ h
        · left; omega
/-- back to the place behind the last one ahead of i where f says so -/
def co_ (f : Nat → Bool) : Nat → Nat
  | 0 => 0
  | i + 1 => if f i = true then i + 1 else co_ f i
theorem co_le {f : Nat → Bool} : ∀ i, co_ f i ≤ i := by
  intro i
  induction i with
  | zero => exact Nat.le_refl _
  | succ i ih => unfold co_; split <;> omega
def rgF (g : Nat → Nat → Int32) (v : Nat) (lo hi : Int32) : Nat → Nat
  | 0 => 0
  | k + 1 => if g 1 (48 * v + k) = 0 ∨ nI k < lo ∨ hi < nI k then rgF g v lo hi k else rgF g v lo hi k + 1
theorem rgF_succ (g : Nat → Nat → Int32) (v : Nat) (lo hi : Int32) (k : Nat) : rgF g v lo hi (k + 1) = if g 1 (48 * v + k) = 0 ∨ nI k < lo ∨ hi < nI k then rgF g v lo hi k else rgF g v lo hi k + 1 := rfl
theorem rgF_le (g : Nat → Nat → Int32) (v : Nat) (lo hi : Int32) : ∀ k, rgF g v lo hi k ≤ k := by
  intro k
  induction k with
  | zero => exact Nat.le_refl _
  | succ k ih => unfold rgF; split <;> omega
def tkF (g : Nat → Nat → Int32) (t0 : Nat) (w : Int32) : Nat → Nat → Nat → Int32
  | 0 => g
  | k + 1 => tkF (mup (mup g 24 t0 ((w >>> (nI (8 * k) &&& 31)) &&& nI 255)) 23 0 (nI (t0 + 1))) (t0 + 1) w k
def cyF (g : Nat → Nat → Int32) (i mask : Int32) (k : Nat) : Nat → Nat → Int32 := fun x => if x = 24 then (fun j => if j < k then (if nI j = i then g 22 j ^^^ (mask &&& nI 255) else g 22 j) else g 24 j) else g x
theorem cyF_0 (g : Nat → Nat → Int32) (i mask : Int32) : cyF g i mask 0 = g := by
  funext x
  unfold cyF
  split
  · next h => subst h; funext j; rw [if_neg (by omega)]
  · rfl
theorem cyF_ne (g : Nat → Nat → Int32) (i mask : Int32) (k : Nat) {x : Nat} (h : x ≠ 24) : cyF g i mask k x = g x := by unfold cyF; rw [if_neg h]
theorem cyF_step (g : Nat → Nat → Int32) (i mask : Int32) (k : Nat) {v : Int32} (hv : v = if nI k = i then g 22 k ^^^ (mask &&& nI 255) else g 22 k) : mup (cyF g i mask k) 24 k v = cyF g i mask (k + 1) := by
  funext x j
  by_cases h : x = 24
  · subst h
    rw [mup_eq]
    unfold upd cyF
    rw [if_pos rfl, if_pos rfl]
    by_cases hj : j = k
    · subst hj; rw [if_pos rfl, if_pos (Nat.lt_succ_self _), hv]
    · rw [if_neg hj]
      by_cases h2 : j < k
      · rw [if_pos h2, if_pos (show j < k + 1 by omega)]
      · rw [if_neg h2, if_neg (show ¬ j < k + 1 by omega)]
  · rw [mup_ne h, cyF_ne _ _ _ _ h, cyF_ne _ _ _ _ h]

set_option maxHeartbeats 4000000 in
set_option maxRecDepth 100000 in
theorem c_M_hashOf (l : Launch) (D : va_G) (tk : Nat → ClassId) (sz : Nat) (h : Nat) (ad : Nat → Nat) (g : Nat → Nat → Int32) (la : Nat → Int64) (tl : va_W) (lv fr to : Nat) (hlv : lv < 8) (hfr : fr ≤ to) (hto : to ≤ 48) : Met l y_M_hashOf w_M_hashOf ({ frames := 1, cells := 0, slots := 0, locals := 22 }) (va_Pc [.ref h, .int (nI lv), .int (nI fr), .int (nI to)] (k_pre D (TY tk) sz (wM tk h ad g la ++ tl))) (va_Qi (fun (r : Int32) (_ : Unit) => r = hsA g (48 * lv + fr) (to - fr) (mx (nI 6) (nI lv))) (fun u t => k_at D (TY tk) (va_A (wM tk h ad g la ++ tl) sz) ((fun _ => wM tk h ad g la ++ tl) u) t) (va_A (wM tk h ad g la ++ tl) sz)) 0 0 (va_A (wM tk h ad g la ++ tl) sz) := by
  refine k_ofW (fun A => va_Qi (fun (r : Int32) (_ : Unit) => r = hsA g (48 * lv + fr) (to - fr) (mx (nI 6) (nI lv))) (fun u t => k_at D (TY tk) A ((fun _ => wM tk h ad g la ++ tl) u) t) A) (by decide) (Nat.le_of_ble_eq_true rfl) ?_
  intro p e s m args below meth c Q A ls hQ hx hb hr hlk hin hts hT hown hml hnw hP hK hD hA hsz hl
  have hS : va_S A s.heap s.heap [] := va_S.rf
  have hc0 : 0 + 0 ≤ 0 ∧ 0 + 0 ≤ 0 := ⟨by decide, by decide⟩
  replace hl : lv_has ls 6 [(0, .ref h), (1, .int (nI lv)), (2, .int (nI fr)), (3, .int (nI to))] := hl
  replace hP : va_P D CC (wM tk h ad g la ++ tl) s.heap := hP
  replace hK : va_K D CC (TY tk) s := hK
  refine lv_bipush (v := nI 6) hx hb d_M_hashOf_0 (by decide) ?_
  refine lv_iload_n hx hb d_M_hashOf_2 rfl (lv_at hl 1 rfl) ?_
  refine k_calli (va_runS (As := [.int (nI 6), .int (nI lv)]) (rest := []) ⟨hx, hb, hml, hown, hts⟩ (c_M_mix l D tk s.heap.size (nI 6) (nI lv) (wM tk h ad g la ++ tl)) (cwS 2 hts (gS t_1079 t_1080 t_9 t_1081) rfl rfl rfl (by decide +kernel) ⟨Nat.le_of_ble_eq_true rfl, Nat.le_of_ble_eq_true rfl⟩) (k_preS hP hK hD hnw) rfl rfl hl.1 rfl (lv_room (Nat.le_of_ble_eq_true rfl)) d_M_hashOf_3 hc0) hD hS hA (fun _ _ H locs hp3 hP hD hK hS => ?_)
  subst hp3
  replace hP : va_P D CC (wM tk h ad g la ++ tl) H := hP
  replace hD : va_D A (wM tk h ad g la ++ tl) := hD
  refine lv_istore (lv' := [(4, .int (mx (nI 6) (nI lv))), (0, .ref h), (1, .int (nI lv)), (2, .int (nI fr)), (3, .int (nI to))]) hx hb d_M_hashOf_6 hl (by decide) rfl (fun ls hl => ?_)
  refine lv_bipush (v := nI 48) hx hb d_M_hashOf_8 (by decide) ?_
  refine lv_iload_n hx hb d_M_hashOf_10 rfl (lv_at hl 2 rfl) ?_
  refine st_imul hx hb d_M_hashOf_11 ?_
  refine lv_iload_n hx hb d_M_hashOf_12 rfl (lv_at hl 3 rfl) ?_
  refine st_iadd hx hb d_M_hashOf_13 ?_
  refine lv_istore (lv' := [(5, .int (nI ((48 * lv) + fr))), (4, .int (mx (nI 6) (nI lv))), (0, .ref h), (1, .int (nI lv)), (2, .int (nI fr)), (3, .int (nI to))]) hx hb d_M_hashOf_14 hl (by decide) rfl (fun ls hl => ?_)
  have key16 : ∀ (n16 : Nat) (k : Nat) (x : Int32) (ls : Array Slot) (H : Heap) (locs : List Loc), 48 * lv + to - k < n16 → (48 * lv + fr ≤ k ∧ k ≤ 48 * lv + to) → (hsA g k (48 * lv + to - k) x = hsA g (48 * lv + fr) (to - fr) (mx (nI 6) (nI lv))) → lv_has ls 6 [(0, .ref h), (1, .int (nI lv)), (2, .int (nI fr)), (3, .int (nI to)), (4, .int x), (5, .int (nI k))] → va_P D CC (wM tk h ad g la ++ tl) H → va_D A (wM tk h ad g la ++ tl) → va_S A s.heap H locs → W p l e ({ frames := 1, cells := 0, slots := 0, locals := 22 } : Room) s m args below meth c H locs 0 0 Q (F0 m 16 ls []) := by
    intro n16
    induction n16 with
    | zero => intro k x ls H locs hn; exact absurd hn (Nat.not_lt_zero _)
    | succ n16 ih16 =>
      intro k x ls H locs hn16 hk hR hl hP hD hS
      refine lv_iload hx hb d_M_hashOf_16 (lv_at hl 5 rfl) ?_
      refine lv_bipush (v := nI 48) hx hb d_M_hashOf_18 (by decide) ?_
      refine lv_iload_n hx hb d_M_hashOf_20 rfl (lv_at hl 1 rfl) ?_
      refine st_imul hx hb d_M_hashOf_21 ?_
      refine lv_iload_n hx hb d_M_hashOf_22 rfl (lv_at hl 3 rfl) ?_
      refine st_iadd hx hb d_M_hashOf_23 ?_
      refine st_icmp_ge hx hb (by omega) (by omega) d_M_hashOf_24 (tgt := 57) (by decide) (fun hc24 => ?_) (fun hc24 => ?_)
      · skip
        refine lv_iload hx hb d_M_hashOf_57 (lv_at hl 4 rfl) ?_
        exact k_iret (v := x) hQ hx hb hr hlk hK hP hD hS () rfl (by rw [← hR, show 48 * lv + to - k = 0 by omega, hsA_0]) d_M_hashOf_59
      · skip
        refine lv_iload hx hb d_M_hashOf_27 (lv_at hl 4 rfl) ?_
        refine lv_aload_n hx hb d_M_hashOf_29 rfl (lv_at hl 0 rfl) ?_
        refine gf_M_33 (v := .ref (ad 13)) hx hb hT hown hK hP 0 rfl rfl d_M_hashOf_30 ?_
        refine lv_iload hx hb d_M_hashOf_33 (lv_at hl 5 rfl) ?_
        refine st_iald hx hb hK hP 8 0 rfl rfl (by omega) (by decide) d_M_hashOf_35 ?_
        refine k_calli (va_runS (As := [.int x, .int (g 13 k)]) (rest := []) ⟨hx, hb, hml, hown, hts⟩ (c_M_mix l D tk H.size x (g 13 k) (wM tk h ad g la ++ tl)) (cwS 2 hts (gS t_1079 t_1080 t_9 t_1081) rfl rfl rfl (by decide +kernel) ⟨Nat.le_of_ble_eq_true rfl, Nat.le_of_ble_eq_true rfl⟩) (k_preS hP hK hD hnw) rfl rfl hl.1 rfl (lv_room (Nat.le_of_ble_eq_true rfl)) d_M_hashOf_36 hc0) hD hS hA (fun _ _ H locs hp36 hP hD hK hS => ?_)
        subst hp36
        replace hP : va_P D CC (wM tk h ad g la ++ tl) H := hP
        replace hD : va_D A (wM tk h ad g la ++ tl) := hD
        refine lv_aload_n hx hb d_M_hashOf_39 rfl (lv_at hl 0 rfl) ?_
        refine gf_M_36 (v := .ref (ad 14)) hx hb hT hown hK hP 0 rfl rfl d_M_hashOf_40 ?_
        refine lv_iload hx hb d_M_hashOf_43 (lv_at hl 5 rfl) ?_
        refine st_iald hx hb hK hP 9 0 rfl rfl (by omega) (by decide) d_M_hashOf_45 ?_
        refine k_calli (va_runS (As := [.int (mx x (g 13 k)), .int (g 14 k)]) (rest := []) ⟨hx, hb, hml, hown, hts⟩ (c_M_mix l D tk H.size (mx x (g 13 k)) (g 14 k) (wM tk h ad g la ++ tl)) (cwS 2 hts (gS t_1079 t_1080 t_9 t_1081) rfl rfl rfl (by decide +kernel) ⟨Nat.le_of_ble_eq_true rfl, Nat.le_of_ble_eq_true rfl⟩) (k_preS hP hK hD hnw) rfl rfl hl.1 rfl (lv_room (Nat.le_of_ble_eq_true rfl)) d_M_hashOf_46 hc0) hD hS hA (fun _ _ H locs hp46 hP hD hK hS => ?_)
        subst hp46
        replace hP : va_P D CC (wM tk h ad g la ++ tl) H := hP
        replace hD : va_D A (wM tk h ad g la ++ tl) := hD
        refine lv_istore (lv' := [(4, .int (mx (mx x (g 13 k)) (g 14 k))), (0, .ref h), (1, .int (nI lv)), (2, .int (nI fr)), (3, .int (nI to)), (5, .int (nI k))]) hx hb d_M_hashOf_49 hl (by decide) rfl (fun ls hl => ?_)
        refine lv_iinc (k := 5) (v := nI (k + 1)) (lv' := [(5, .int (nI (k + 1))), (4, .int (mx (mx x (g 13 k)) (g 14 k))), (0, .ref h), (1, .int (nI lv)), (2, .int (nI fr)), (3, .int (nI to))]) hx hb d_M_hashOf_51 hl rfl (nI_add _ _) (by decide) rfl (fun ls hl => ?_)
        refine lv_goto hx hb d_M_hashOf_54 (tgt := 16) (by decide) ?_
        exact ih16 (k + 1) (mx (mx x (g 13 k)) (g 14 k)) ls _ _ (by first | omega | simp_all) (by omega) ((hsA_go g (k := k) (E := 48 * lv + to) (by omega) x).symm.trans hR) (lv_sub hl [2, 3, 4, 5, 1, 0] rfl) hP hD hS
  exact key16 _ (48 * lv + fr) (mx (nI 6) (nI lv)) ls _ _ (Nat.lt_succ_self _) (by omega) (by rw [show 48 * lv + to - (48 * lv + fr) = to - fr by omega]) (lv_sub hl [2, 3, 4, 5, 1, 0] rfl) hP hD hS

set_option maxHeartbeats 4000000 in
set_option maxRecDepth 100000 in
theorem c_M_chunkEnd (l : Launch) (D : va_G) (tk : Nat → ClassId) (sz : Nat) (h : Nat) (ad : Nat → Nat) (g : Nat → Nat → Int32) (la : Nat → Int64) (tl : va_W) (lv n i : Nat) (ky : Nat → Nat) (hlv : lv < 8) (hn1 : 1 ≤ n) (hn : n ≤ 48) (hi : i < n) (hg : g 12 lv = nI n) (hky : ∀ j, j < n → g 13 (48 * lv + j) = nI (ky j)) : Met l y_M_chunkEnd w_M_chunkEnd ({ frames := 2, cells := 0, slots := 0, locals := 43 }) (va_Pc [.ref h, .int (nI lv), .int (nI i)] (k_pre D (TY tk) sz (wM tk h ad g la ++ tl))) (va_Qi (fun (r : Int32) (_ : Unit) => r = nI (fs_ (fun j => en lv (ky j)) n i + 1)) (fun u t => k_at D (TY tk) (va_A (wM tk h ad g la ++ tl) sz) ((fun _ => wM tk h ad g la ++ tl) u) t) (va_A (wM tk h ad g la ++ tl) sz)) 0 0 (va_A (wM tk h ad g la ++ tl) sz) := by
  refine k_ofW (fun A => va_Qi (fun (r : Int32) (_ : Unit) => r = nI (fs_ (fun j => en lv (ky j)) n i + 1)) (fun u t => k_at D (TY tk) A ((fun _ => wM tk h ad g la ++ tl) u) t) A) (by decide) (Nat.le_of_ble_eq_true rfl) ?_
  intro p e s m args below meth c Q A ls hQ hx hb hr hlk hin hts hT hown hml hnw hP hK hD hA hsz hl
  have hS : va_S A s.heap s.heap [] := va_S.rf
  have hc0 : 0 + 0 ≤ 0 ∧ 0 + 0 ≤ 0 := ⟨by decide, by decide⟩
  replace hl : lv_has ls 4 [(0, .ref h), (1, .int (nI lv)), (2, .int (nI i))] := hl
  replace hP : va_P D CC (wM tk h ad g la ++ tl) s.heap := hP
  replace hK : va_K D CC (TY tk) s := hK
  refine lv_iload_n hx hb d_M_chunkEnd_0 rfl (lv_at hl 2 rfl) ?_
  refine lv_istore_n (lv' := [(3, .int (nI i)), (0, .ref h), (1, .int (nI lv)), (2, .int (nI i))]) hx hb d_M_chunkEnd_1 rfl hl (by decide) rfl (fun ls hl => ?_)
  have key2 : ∀ (n2 : Nat) (k : Nat) (ls : Array Slot) (H : Heap) (locs : List Loc), n - k < n2 → (i ≤ k ∧ k < n) → (fs_ (fun j => en lv (ky j)) n k = fs_ (fun j => en lv (ky j)) n i) → lv_has ls 4 [(0, .ref h), (1, .int (nI lv)), (2, .int (nI i)), (3, .int (nI k))] → va_P D CC (wM tk h ad g la ++ tl) H → va_D A (wM tk h ad g la ++ tl) → va_S A s.heap H locs → W p l e ({ frames := 2, cells := 0, slots := 0, locals := 43 } : Room) s m args below meth c H locs 0 0 Q (F0 m 2 ls []) := by
    intro n2
    induction n2 with
    | zero => intro k ls H locs hn; exact absurd hn (Nat.not_lt_zero _)
    | succ n2 ih2 =>
      intro k ls H locs hn2 hk hR hl hP hD hS
      refine lv_iload_n hx hb d_M_chunkEnd_2 rfl (lv_at hl 3 rfl) ?_
      refine lv_aload_n hx hb d_M_chunkEnd_3 rfl (lv_at hl 0 rfl) ?_
      refine gf_M_30 (v := .ref (ad 12)) hx hb hT hown hK hP 0 rfl rfl d_M_chunkEnd_4 ?_
      refine lv_iload_n hx hb d_M_chunkEnd_7 rfl (lv_at hl 1 rfl) ?_
      refine st_iald hx hb hK hP 7 0 rfl rfl (by omega) (by decide) d_M_chunkEnd_8 ?_
      refine st_top (show g 12 lv = nI n from hg) ?_
      refine lv_iconst (v := nI 1) hx hb d_M_chunkEnd_9 (by decide) ?_
      refine st_isub hx hb (by omega) d_M_chunkEnd_10 ?_
      refine st_icmp_ge hx hb (by omega) (by omega) d_M_chunkEnd_11 (tgt := 38) (by decide) (fun hc11 => ?_) (fun hc11 => ?_)
      · skip
        refine lv_iload_n hx hb d_M_chunkEnd_38 rfl (lv_at hl 3 rfl) ?_
        refine lv_iconst (v := nI 1) hx hb d_M_chunkEnd_39 (by decide) ?_
        refine st_iadd hx hb d_M_chunkEnd_40 ?_
        exact k_iret (v := nI (k + 1)) hQ hx hb hr hlk hK hP hD hS () rfl (by rw [← hR, fs_stop (by first | (right; assumption) | (left; omega))]) d_M_chunkEnd_41
      · skip
        refine lv_iload_n hx hb d_M_chunkEnd_14 rfl (lv_at hl 1 rfl) ?_
        refine lv_aload_n hx hb d_M_chunkEnd_15 rfl (lv_at hl 0 rfl) ?_
        refine gf_M_33 (v := .ref (ad 13)) hx hb hT hown hK hP 0 rfl rfl d_M_chunkEnd_16 ?_
        refine lv_bipush (v := nI 48) hx hb d_M_chunkEnd_19 (by decide) ?_
        refine lv_iload_n hx hb d_M_chunkEnd_21 rfl (lv_at hl 1 rfl) ?_
        refine st_imul hx hb d_M_chunkEnd_22 ?_
        refine lv_iload_n hx hb d_M_chunkEnd_23 rfl (lv_at hl 3 rfl) ?_
        refine st_iadd hx hb d_M_chunkEnd_24 ?_
        refine st_iald hx hb hK hP 8 0 rfl rfl (by omega) (by decide) d_M_chunkEnd_25 ?_
        refine st_top (show g 13 ((48 * lv) + k) = nI (ky k) from hky k (by omega)) ?_
        refine k_calli (va_runS (As := [.int (nI lv), .int (nI (ky k))]) (rest := []) ⟨hx, hb, hml, hown, hts⟩ (c_M_ends l D tk H.size lv (ky k) (wM tk h ad g la ++ tl)) (cwS 2 hts (gS t_1076 t_1077 t_9 t_1078) rfl rfl rfl (by decide +kernel) ⟨Nat.le_of_ble_eq_true rfl, Nat.le_of_ble_eq_true rfl⟩) (k_preS hP hK hD hnw) rfl rfl hl.1 rfl (lv_room (Nat.le_of_ble_eq_true rfl)) d_M_chunkEnd_26 hc0) hD hS hA (fun _ _ H locs hp26 hP hD hK hS => ?_)
        subst hp26
        replace hP : va_P D CC (wM tk h ad g la ++ tl) H := hP
        replace hD : va_D A (wM tk h ad g la ++ tl) := hD
        refine lv_if_ne hx hb d_M_chunkEnd_29 (tgt := 38) (by decide) (fun hc29 => ?_) (fun hc29 => ?_)
        · skip
          have hef : en lv (ky k) = true := Classical.byContradiction (fun q => hc29 (by rw [if_neg q]))
          refine lv_iload_n hx hb d_M_chunkEnd_38 rfl (lv_at hl 3 rfl) ?_
          refine lv_iconst (v := nI 1) hx hb d_M_chunkEnd_39 (by decide) ?_
          refine st_iadd hx hb d_M_chunkEnd_40 ?_
          exact k_iret (v := nI (k + 1)) hQ hx hb hr hlk hK hP hD hS () rfl (by rw [← hR, fs_stop (by first | (right; assumption) | (left; omega))]) d_M_chunkEnd_41
        · skip
          refine lv_iinc (k := 3) (v := nI (k + 1)) (lv' := [(3, .int (nI (k + 1))), (0, .ref h), (1, .int (nI lv)), (2, .int (nI i))]) hx hb d_M_chunkEnd_32 hl rfl (nI_add _ _) (by decide) rfl (fun ls hl => ?_)
          refine lv_goto hx hb d_M_chunkEnd_35 (tgt := 2) (by decide) ?_
          have hef : en lv (ky k) = false := by
            cases hq : en lv (ky k) with
            | false => rfl
            | true => rw [if_pos hq] at hc29; exact absurd hc29 (by decide)
          exact ih2 (k + 1) ls _ _ (by first | omega | simp_all) (by omega) ((fs_go (f := (fun j => en lv (ky j))) (by omega) hef).symm.trans hR) (lv_sub hl [1, 2, 3, 0] rfl) hP hD hS
  exact key2 _ i ls _ _ (Nat.lt_succ_self _) (by omega) rfl (lv_sub hl [1, 2, 3, 0] rfl) hP hD hS

set_option maxHeartbeats 4000000 in
set_option maxRecDepth 100000 in
theorem c_M_chunkOf (l : Launch) (D : va_G) (tk : Nat → ClassId) (sz : Nat) (h : Nat) (ad : Nat → Nat) (g : Nat → Nat → Int32) (la : Nat → Int64) (tl : va_W) (lv n i : Nat) (ky : Nat → Nat) (hlv : lv < 8) (hn : n ≤ 48) (hi : i < n) (hky : ∀ j, j < n → g 13 (48 * lv + j) = nI (ky j)) : Met l y_M_chunkOf w_M_chunkOf ({ frames := 2, cells := 0, slots := 0, locals := 43 }) (va_Pc [.ref h, .int (nI lv), .int (nI i)] (k_pre D (TY tk) sz (wM tk h ad g la ++ tl))) (va_Qi (fun (r : Int32) (_ : Unit) => r = nI (co_ (fun j => en lv (ky j)) i)) (fun u t => k_at D (TY tk) (va_A (wM tk h ad g la ++ tl) sz) ((fun _ => wM tk h ad g la ++ tl) u) t) (va_A (wM tk h ad g la ++ tl) sz)) 0 0 (va_A (wM tk h ad g la ++ tl) sz) := by
  refine k_ofW (fun A => va_Qi (fun (r : Int32) (_ : Unit) => r = nI (co_ (fun j => en lv (ky j)) i)) (fun u t => k_at D (TY tk) A ((fun _ => wM tk h ad g la ++ tl) u) t) A) (by decide) (Nat.le_of_ble_eq_true rfl) ?_
  intro p e s m args below meth c Q A ls hQ hx hb hr hlk hin hts hT hown hml hnw hP hK hD hA hsz hl
  have hS : va_S A s.heap s.heap [] := va_S.rf
  have hc0 : 0 + 0 ≤ 0 ∧ 0 + 0 ≤ 0 := ⟨by decide, by decide⟩
  replace hl : lv_has ls 4 [(0, .ref h), (1, .int (nI lv)), (2, .int (nI i))] := hl
  replace hP : va_P D CC (wM tk h ad g la ++ tl) s.heap := hP
  replace hK : va_K D CC (TY tk) s := hK
  refine lv_iload_n hx hb d_M_chunkOf_0 rfl (lv_at hl 2 rfl) ?_
  refine lv_istore_n (lv' := [(3, .int (nI i)), (0, .ref h), (1, .int (nI lv)), (2, .int (nI i))]) hx hb d_M_chunkOf_1 rfl hl (by decide) rfl (fun ls hl => ?_)
  have key2 : ∀ (n2 : Nat) (k : Nat) (ls : Array Slot) (H : Heap) (locs : List Loc), k < n2 → (k ≤ i) → (co_ (fun j => en lv (ky j)) k = co_ (fun j => en lv (ky j)) i) → lv_has ls 4 [(0, .ref h), (1, .int (nI lv)), (2, .int (nI i)), (3, .int (nI k))] → va_P D CC (wM tk h ad g la ++ tl) H → va_D A (wM tk h ad g la ++ tl) → va_S A s.heap H locs → W p l e ({ frames := 2, cells := 0, slots := 0, locals := 43 } : Room) s m args below meth c H locs 0 0 Q (F0 m 2 ls []) := by
    intro n2
    induction n2 with
    | zero => intro k ls H locs hn; exact absurd hn (Nat.not_lt_zero _)
    | succ n2 ih2 =>
      intro k ls H locs hn2 hk hR hl hP hD hS
      refine lv_iload_n hx hb d_M_chunkOf_2 rfl (lv_at hl 3 rfl) ?_
      refine st_if_le hx hb (by omega) d_M_chunkOf_3 (tgt := 32) (by decide) (fun hc3 => ?_) (fun hc3 => ?_)
      · skip
        refine lv_iload_n hx hb d_M_chunkOf_32 rfl (lv_at hl 3 rfl) ?_
        exact k_iret (v := nI k) hQ hx hb hr hlk hK hP hD hS () rfl (by rw [← hR]; first | (rw [show k = 0 by omega]; rfl) | (obtain ⟨q, rfl⟩ : ∃ q, k = q + 1 := ⟨k - 1, by omega⟩; unfold co_; rw [if_pos (by simpa using hef)])) d_M_chunkOf_33
      · skip
        refine lv_iload_n hx hb d_M_chunkOf_6 rfl (lv_at hl 1 rfl) ?_
        refine lv_aload_n hx hb d_M_chunkOf_7 rfl (lv_at hl 0 rfl) ?_
        refine gf_M_33 (v := .ref (ad 13)) hx hb hT hown hK hP 0 rfl rfl d_M_chunkOf_8 ?_
        refine lv_bipush (v := nI 48) hx hb d_M_chunkOf_11 (by decide) ?_
        refine lv_iload_n hx hb d_M_chunkOf_13 rfl (lv_at hl 1 rfl) ?_
        refine st_imul hx hb d_M_chunkOf_14 ?_
        refine lv_iload_n hx hb d_M_chunkOf_15 rfl (lv_at hl 3 rfl) ?_
        refine st_iadd hx hb d_M_chunkOf_16 ?_
        refine lv_iconst (v := nI 1) hx hb d_M_chunkOf_17 (by decide) ?_
        refine st_isub hx hb (by omega) d_M_chunkOf_18 ?_
        refine st_iald hx hb hK hP 8 0 rfl rfl (by omega) (by decide) d_M_chunkOf_19 ?_
        refine st_top (show g 13 (((48 * lv) + k) - 1) = nI (ky (k - 1)) from by rw [show 48 * lv + k - 1 = 48 * lv + (k - 1) by omega]; exact hky (k - 1) (by omega)) ?_
        refine k_calli (va_runS (As := [.int (nI lv), .int (nI (ky (k - 1)))]) (rest := []) ⟨hx, hb, hml, hown, hts⟩ (c_M_ends l D tk H.size lv (ky (k - 1)) (wM tk h ad g la ++ tl)) (cwS 2 hts (gS t_1076 t_1077 t_9 t_1078) rfl rfl rfl (by decide +kernel) ⟨Nat.le_of_ble_eq_true rfl, Nat.le_of_ble_eq_true rfl⟩) (k_preS hP hK hD hnw) rfl rfl hl.1 rfl (lv_room (Nat.le_of_ble_eq_true rfl)) d_M_chunkOf_20 hc0) hD hS hA (fun _ _ H locs hp20 hP hD hK hS => ?_)
        subst hp20
        replace hP : va_P D CC (wM tk h ad g la ++ tl) H := hP
        replace hD : va_D A (wM tk h ad g la ++ tl) := hD
        refine lv_if_ne hx hb d_M_chunkOf_23 (tgt := 32) (by decide) (fun hc23 => ?_) (fun hc23 => ?_)
        · skip
          have hef : en lv (ky (k - 1)) = true := Classical.byContradiction (fun q => hc23 (by rw [if_neg q]))
          refine lv_iload_n hx hb d_M_chunkOf_32 rfl (lv_at hl 3 rfl) ?_
          exact k_iret (v := nI k) hQ hx hb hr hlk hK hP hD hS () rfl (by rw [← hR]; first | (rw [show k = 0 by omega]; rfl) | (obtain ⟨q, rfl⟩ : ∃ q, k = q + 1 := ⟨k - 1, by omega⟩; unfold co_; rw [if_pos (by simpa using hef)])) d_M_chunkOf_33
        · skip
          refine lv_iinc (k := 3) (v := nI (k - 1)) (lv' := [(3, .int (nI (k - 1))), (0, .ref h), (1, .int (nI lv)), (2, .int (nI i))]) hx hb d_M_chunkOf_26 hl rfl (sb_m1 (by omega)) (by decide) rfl (fun ls hl => ?_)
          refine lv_goto hx hb d_M_chunkOf_29 (tgt := 2) (by decide) ?_
          have hef : ¬ en lv (ky (k - 1)) = true := fun q => by rw [if_pos q] at hc23; exact absurd hc23 (by decide)
          exact ih2 (k - 1) ls _ _ (by first | omega | simp_all) (by omega) (by
            obtain ⟨k, rfl⟩ : ∃ q, k = q + 1 := ⟨k - 1, by omega⟩
            rw [← hR]; conv => rhs; unfold co_
            rw [if_neg (by simpa using hef)]; rfl) (lv_sub hl [1, 2, 3, 0] rfl) hP hD hS
  exact key2 _ i ls _ _ (Nat.lt_succ_self _) (by omega) rfl (lv_sub hl [1, 2, 3, 0] rfl) hP hD hS

set_option maxHeartbeats 4000000 in
set_option maxRecDepth 100000 in
theorem c_M_choose13 (l : Launch) (D : va_G) (tk : Nat → ClassId) (sz : Nat) (h : Nat) (ad : Nat → Nat) (g : Nat → Nat → Int32) (la : Nat → Int64) (tl : va_W) (fr to key : Nat) (ky : Nat → Nat) (hto : to ≤ 384) (hfr : fr < to) (hkb : key < 256) (hky : ∀ j, fr ≤ j → j < to → g 13 j = nI (ky j) ∧ ky j < 256) : Met l y_M_choose w_M_choose ({ frames := 0, cells := 0, slots := 0, locals := 0 }) (va_Pc [.ref (ad 13), .int (nI fr), .int (nI to), .int (nI key)] (k_pre D (TY tk) sz (wM tk h ad g la ++ tl))) (va_Qi (fun (r : Int32) (_ : Unit) => r = nI (fs_ (fun j => decide (key ≤ ky j)) to fr)) (fun u t => k_at D (TY tk) (va_A (wM tk h ad g la ++ tl) sz) ((fun _ => wM tk h ad g la ++ tl) u) t) (va_A (wM tk h ad g la ++ tl) sz)) 0 0 (va_A (wM tk h ad g la ++ tl) sz) := by
  refine k_ofW (fun A => va_Qi (fun (r : Int32) (_ : Unit) => r = nI (fs_ (fun j => decide (key ≤ ky j)) to fr)) (fun u t => k_at D (TY tk) A ((fun _ => wM tk h ad g la ++ tl) u) t) A) (by decide) (Nat.le_of_ble_eq_true rfl) ?_
  intro p e s m args below meth c Q A ls hQ hx hb hr hlk hin hts hT hown hml hnw hP hK hD hA hsz hl
  have hS : va_S A s.heap s.heap [] := va_S.rf
  have hc0 : 0 + 0 ≤ 0 ∧ 0 + 0 ≤ 0 := ⟨by decide, by decide⟩
  replace hl : lv_has ls 5 [(0, .ref (ad 13)), (1, .int (nI fr)), (2, .int (nI to)), (3, .int (nI key))] := hl
  replace hP : va_P D CC (wM tk h ad g la ++ tl) s.heap := hP
  replace hK : va_K D CC (TY tk) s := hK
  refine lv_iload_n hx hb d_M_choose_0 rfl (lv_at hl 1 rfl) ?_
  refine lv_istore (lv' := [(4, .int (nI fr)), (0, .ref (ad 13)), (1, .int (nI fr)), (2, .int (nI to)), (3, .int (nI key))]) hx hb d_M_choose_1 hl (by decide) rfl (fun ls hl => ?_)
  have key3 : ∀ (n3 : Nat) (k : Nat) (ls : Array Slot) (H : Heap) (locs : List Loc), to - k < n3 → (fr ≤ k ∧ k < to) → (fs_ (fun j => decide (key ≤ ky j)) to k = fs_ (fun j => decide (key ≤ ky j)) to fr) → lv_has ls 5 [(0, .ref (ad 13)), (1, .int (nI fr)), (2, .int (nI to)), (3, .int (nI key)), (4, .int (nI k))] → va_P D CC (wM tk h ad g la ++ tl) H → va_D A (wM tk h ad g la ++ tl) → va_S A s.heap H locs → W p l e ({ frames := 0, cells := 0, slots := 0, locals := 0 } : Room) s m args below meth c H locs 0 0 Q (F0 m 3 ls []) := by
    intro n3
    induction n3 with
    | zero => intro k ls H locs hn; exact absurd hn (Nat.not_lt_zero _)
    | succ n3 ih3 =>
      intro k ls H locs hn3 hk hR hl hP hD hS
      refine lv_iload hx hb d_M_choose_3 (lv_at hl 4 rfl) ?_
      refine lv_iload_n hx hb d_M_choose_5 rfl (lv_at hl 2 rfl) ?_
      refine lv_iconst (v := nI 1) hx hb d_M_choose_6 (by decide) ?_
      refine st_isub hx hb (by omega) d_M_choose_7 ?_
      refine st_icmp_ge hx hb (by omega) (by omega) d_M_choose_8 (tgt := 25) (by decide) (fun hc8 => ?_) (fun hc8 => ?_)
      · skip
        refine lv_iload hx hb d_M_choose_25 (lv_at hl 4 rfl) ?_
        exact k_iret (v := nI k) hQ hx hb hr hlk hK hP hD hS () rfl (by rw [← hR, fs_stop (by first | (left; omega) | (right; exact decide_eq_true (by omega)))]) d_M_choose_27
      · skip
        refine lv_aload_n hx hb d_M_choose_11 rfl (lv_at hl 0 rfl) ?_
        refine lv_iload hx hb d_M_choose_12 (lv_at hl 4 rfl) ?_
        refine st_iald hx hb hK hP 8 0 rfl rfl (by omega) (by decide) d_M_choose_14 ?_
        refine st_top (show g 13 k = nI (ky k) from (hky k hk.1 (by omega)).1) ?_
        have hkyb := (hky k hk.1 (by omega)).2
        refine lv_iload_n hx hb d_M_choose_15 rfl (lv_at hl 3 rfl) ?_
        refine st_icmp_ge hx hb (by omega) (by omega) d_M_choose_16 (tgt := 25) (by decide) (fun hc16 => ?_) (fun hc16 => ?_)
        · skip
          refine lv_iload hx hb d_M_choose_25 (lv_at hl 4 rfl) ?_
          exact k_iret (v := nI k) hQ hx hb hr hlk hK hP hD hS () rfl (by rw [← hR, fs_stop (by first | (left; omega) | (right; exact decide_eq_true (by omega)))]) d_M_choose_27
        · skip
          refine lv_iinc (k := 4) (v := nI (k + 1)) (lv' := [(4, .int (nI (k + 1))), (0, .ref (ad 13)), (1, .int (nI fr)), (2, .int (nI to)), (3, .int (nI key))]) hx hb d_M_choose_19 hl rfl (nI_add _ _) (by decide) rfl (fun ls hl => ?_)
          refine lv_goto hx hb d_M_choose_22 (tgt := 3) (by decide) ?_
          exact ih3 (k + 1) ls _ _ (by first | omega | simp_all) (by omega) ((fs_go (f := (fun j => decide (key ≤ ky j))) (by omega) (decide_eq_false (by omega))).symm.trans hR) (lv_sub hl [1, 2, 3, 4, 0] rfl) hP hD hS
  exact key3 _ fr ls _ _ (Nat.lt_succ_self _) (by omega) rfl (lv_sub hl [1, 2, 3, 4, 0] rfl) hP hD hS

set_option maxHeartbeats 4000000 in
set_option maxRecDepth 100000 in
theorem c_M_choose30 (l : Launch) (D : va_G) (tk : Nat → ClassId) (sz : Nat) (h : Nat) (ad : Nat → Nat) (g : Nat → Nat → Int32) (la : Nat → Int64) (tl : va_W) (fr to key : Nat) (ky : Nat → Nat) (hto : to ≤ 48) (hfr : fr < to) (hkb : key < 256) (hky : ∀ j, fr ≤ j → j < to → g 30 j = nI (ky j) ∧ ky j < 256) : Met l y_M_choose w_M_choose ({ frames := 0, cells := 0, slots := 0, locals := 0 }) (va_Pc [.ref (ad 30), .int (nI fr), .int (nI to), .int (nI key)] (k_pre D (TY tk) sz (wM tk h ad g la ++ tl))) (va_Qi (fun (r : Int32) (_ : Unit) => r = nI (fs_ (fun j => decide (key ≤ ky j)) to fr)) (fun u t => k_at D (TY tk) (va_A (wM tk h ad g la ++ tl) sz) ((fun _ => wM tk h ad g la ++ tl) u) t) (va_A (wM tk h ad g la ++ tl) sz)) 0 0 (va_A (wM tk h ad g la ++ tl) sz) := by
  refine k_ofW (fun A => va_Qi (fun (r : Int32) (_ : Unit) => r = nI (fs_ (fun j => decide (key ≤ ky j)) to fr)) (fun u t => k_at D (TY tk) A ((fun _ => wM tk h ad g la ++ tl) u) t) A) (by decide) (Nat.le_of_ble_eq_true rfl) ?_
  intro p e s m args below meth c Q A ls hQ hx hb hr hlk hin hts hT hown hml hnw hP hK hD hA hsz hl
  have hS : va_S A s.heap s.heap [] := va_S.rf
  have hc0 : 0 + 0 ≤ 0 ∧ 0 + 0 ≤ 0 := ⟨by decide, by decide⟩
  replace hl : lv_has ls 5 [(0, .ref (ad 30)), (1, .int (nI fr)), (2, .int (nI to)), (3, .int (nI key))] := hl
  replace hP : va_P D CC (wM tk h ad g la ++ tl) s.heap := hP
  replace hK : va_K D CC (TY tk) s := hK
  refine lv_iload_n hx hb d_M_choose_0 rfl (lv_at hl 1 rfl) ?_
  refine lv_istore (lv' := [(4, .int (nI fr)), (0, .ref (ad 30)), (1, .int (nI fr)), (2, .int (nI to)), (3, .int (nI key))]) hx hb d_M_choose_1 hl (by decide) rfl (fun ls hl => ?_)
  have key3 : ∀ (n3 : Nat) (k : Nat) (ls : Array Slot) (H : Heap) (locs : List Loc), to - k < n3 → (fr ≤ k ∧ k < to) → (fs_ (fun j => decide (key ≤ ky j)) to k = fs_ (fun j => decide (key ≤ ky j)) to fr) → lv_has ls 5 [(0, .ref (ad 30)), (1, .int (nI fr)), (2, .int (nI to)), (3, .int (nI key)), (4, .int (nI k))] → va_P D CC (wM tk h ad g la ++ tl) H → va_D A (wM tk h ad g la ++ tl) → va_S A s.heap H locs → W p l e ({ frames := 0, cells := 0, slots := 0, locals := 0 } : Room) s m args below meth c H locs 0 0 Q (F0 m 3 ls []) := by
    intro n3
    induction n3 with
    | zero => intro k ls H locs hn; exact absurd hn (Nat.not_lt_zero _)
    | succ n3 ih3 =>
      intro k ls H locs hn3 hk hR hl hP hD hS
      refine lv_iload hx hb d_M_choose_3 (lv_at hl 4 rfl) ?_
      refine lv_iload_n hx hb d_M_choose_5 rfl (lv_at hl 2 rfl) ?_
      refine lv_iconst (v := nI 1) hx hb d_M_choose_6 (by decide) ?_
      refine st_isub hx hb (by omega) d_M_choose_7 ?_
      refine st_icmp_ge hx hb (by omega) (by omega) d_M_choose_8 (tgt := 25) (by decide) (fun hc8 => ?_) (fun hc8 => ?_)
      · skip
        refine lv_iload hx hb d_M_choose_25 (lv_at hl 4 rfl) ?_
        exact k_iret (v := nI k) hQ hx hb hr hlk hK hP hD hS () rfl (by rw [← hR, fs_stop (by first | (left; omega) | (right; exact decide_eq_true (by omega)))]) d_M_choose_27
      · skip
        refine lv_aload_n hx hb d_M_choose_11 rfl (lv_at hl 0 rfl) ?_
        refine lv_iload hx hb d_M_choose_12 (lv_at hl 4 rfl) ?_
        refine st_iald hx hb hK hP 18 0 rfl rfl (by omega) (by decide) d_M_choose_14 ?_
        refine st_top (show g 30 k = nI (ky k) from (hky k hk.1 (by omega)).1) ?_
        have hkyb := (hky k hk.1 (by omega)).2
        refine lv_iload_n hx hb d_M_choose_15 rfl (lv_at hl 3 rfl) ?_
        refine st_icmp_ge hx hb (by omega) (by omega) d_M_choose_16 (tgt := 25) (by decide) (fun hc16 => ?_) (fun hc16 => ?_)
        · skip
          refine lv_iload hx hb d_M_choose_25 (lv_at hl 4 rfl) ?_
          exact k_iret (v := nI k) hQ hx hb hr hlk hK hP hD hS () rfl (by rw [← hR, fs_stop (by first | (left; omega) | (right; exact decide_eq_true (by omega)))]) d_M_choose_27
        · skip
          refine lv_iinc (k := 4) (v := nI (k + 1)) (lv' := [(4, .int (nI (k + 1))), (0, .ref (ad 30)), (1, .int (nI fr)), (2, .int (nI to)), (3, .int (nI key))]) hx hb d_M_choose_19 hl rfl (nI_add _ _) (by decide) rfl (fun ls hl => ?_)
          refine lv_goto hx hb d_M_choose_22 (tgt := 3) (by decide) ?_
          exact ih3 (k + 1) ls _ _ (by first | omega | simp_all) (by omega) ((fs_go (f := (fun j => decide (key ≤ ky j))) (by omega) (decide_eq_false (by omega))).symm.trans hR) (lv_sub hl [1, 2, 3, 4, 0] rfl) hP hD hS
  exact key3 _ fr ls _ _ (Nat.lt_succ_self _) (by omega) rfl (lv_sub hl [1, 2, 3, 4, 0] rfl) hP hD hS

set_option maxHeartbeats 4000000 in
set_option maxRecDepth 100000 in
theorem c_M_range (l : Launch) (D : va_G) (tk : Nat → ClassId) (sz : Nat) (h : Nat) (ad : Nat → Nat) (g : Nat → Nat → Int32) (la : Nat → Int64) (tl : va_W) (V : Nat) (hV1 : 1 ≤ V) (hV2 : V ≤ 16) (hV : g 3 0 = nI V) (v lo hi : Int32) : Met l y_M_range w_M_range ({ frames := 2, cells := 0, slots := 0, locals := 43 }) (va_Pc [.ref h, .int v, .int lo, .int hi] (k_pre D (TY tk) sz (wM tk h ad g la ++ tl))) (va_Qi (fun (r : Int32) (_ : Unit) => r = if v < nI 0 ∨ g 3 0 - nI 1 < v then 0 else nI (rgF g v.toNatClampNeg lo hi 48)) (fun u t => k_at D (TY tk) (va_A (wM tk h ad g la ++ tl) sz) ((fun _ => wM tk h ad (if v < nI 0 ∨ g 3 0 - nI 1 < v then mup g 0 0 (nI 1) else mup g 0 0 (nI 0)) la ++ tl) u) t) (va_A (wM tk h ad g la ++ tl) sz)) 0 0 (va_A (wM tk h ad g la ++ tl) sz) := by
  refine k_ofW (fun A => va_Qi (fun (r : Int32) (_ : Unit) => r = if v < nI 0 ∨ g 3 0 - nI 1 < v then 0 else nI (rgF g v.toNatClampNeg lo hi 48)) (fun u t => k_at D (TY tk) A ((fun _ => wM tk h ad (if v < nI 0 ∨ g 3 0 - nI 1 < v then mup g 0 0 (nI 1) else mup g 0 0 (nI 0)) la ++ tl) u) t) A) (by decide) (Nat.le_of_ble_eq_true rfl) ?_
  intro p e s m args below meth c Q A ls hQ hx hb hr hlk hin hts hT hown hml hnw hP hK hD hA hsz hl
  have hS : va_S A s.heap s.heap [] := va_S.rf
  have hc0 : 0 + 0 ≤ 0 ∧ 0 + 0 ≤ 0 := ⟨by decide, by decide⟩
  replace hl : lv_has ls 6 [(0, .ref h), (1, .int v), (2, .int lo), (3, .int hi)] := hl
  replace hP : va_P D CC (wM tk h ad g la ++ tl) s.heap := hP
  replace hK : va_K D CC (TY tk) s := hK
  refine lv_aload_n hx hb d_M_range_0 rfl (lv_at hl 0 rfl) ?_
  refine lv_iload_n hx hb d_M_range_1 rfl (lv_at hl 1 rfl) ?_
  refine k_calli (va_runV (As := [.int v]) (rest := []) ⟨hx, hb, hml, hown, hts⟩ (c_M_isVersion l D tk s.heap.size h ad g la tl v ) (cwV 1 hts (gV t_1123 t_1125 s_27 t_9 t_1126) rfl rfl rfl (by decide +kernel) ⟨Nat.le_of_ble_eq_true rfl, Nat.le_of_ble_eq_true rfl⟩) (k_preV hP hK hD hnw 0 rfl rfl) rfl rfl hl.1 rfl (lv_room (Nat.le_of_ble_eq_true rfl)) d_M_range_2 hc0) hD hS hA (fun _ _ H locs hp2 hP hD hK hS => ?_)
  subst hp2
  replace hP : va_P D CC (wM tk h ad g la ++ tl) H := hP
  replace hD : va_D A (wM tk h ad g la ++ tl) := hD
  refine lv_if_ne hx hb d_M_range_5 (tgt := 14) (by decide) (fun hc5 => ?_) (fun hc5 => ?_)
  · skip
    have hn9 : ¬ (v < nI 0 ∨ g 3 0 - nI 1 < v) := fun q => hc5 (by unfold ivM; rw [if_pos q]; rfl)
    obtain ⟨j, hj, rfl⟩ := m_idx hV hV2 hn9
    refine lv_aload_n hx hb d_M_range_14 rfl (lv_at hl 0 rfl) ?_
    refine lv_iconst (v := nI 0) hx hb d_M_range_15 (by decide) ?_
    refine pf_M_73 hx hb hT hown hK hP hD hS 0 rfl (Nat.le_of_ble_eq_true rfl) d_M_range_16 (fun H locs hP hD hS => ?_)
    replace hP : va_P D CC (wM tk h ad (mup g 0 0 (nI 0)) la ++ tl) H := hP
    replace hD : va_D A (wM tk h ad (mup g 0 0 (nI 0)) la ++ tl) := hD
    refine lv_iconst (v := nI 0) hx hb d_M_range_19 (by decide) ?_
    refine lv_istore (lv' := [(4, .int (nI 0)), (0, .ref h), (1, .int (nI j)), (2, .int lo), (3, .int hi)]) hx hb d_M_range_20 hl (by decide) rfl (fun ls hl => ?_)
    refine lv_iconst (v := nI 0) hx hb d_M_range_22 (by decide) ?_
    refine lv_istore (lv' := [(5, .int (nI 0)), (4, .int (nI 0)), (0, .ref h), (1, .int (nI j)), (2, .int lo), (3, .int hi)]) hx hb d_M_range_23 hl (by decide) rfl (fun ls hl => ?_)
    have key25 : ∀ (n25 : Nat) (k : Nat) (ls : Array Slot) (H : Heap) (locs : List Loc), 48 - k < n25 → (k ≤ 48) → lv_has ls 6 [(0, .ref h), (1, .int (nI j)), (2, .int lo), (3, .int hi), (4, .int (nI (rgF g j lo hi k))), (5, .int (nI k))] → va_P D CC (wM tk h ad (mup g 0 0 (nI 0)) la ++ tl) H → va_D A (wM tk h ad (mup g 0 0 (nI 0)) la ++ tl) → va_S A s.heap H locs → W p l e ({ frames := 2, cells := 0, slots := 0, locals := 43 } : Room) s m args below meth c H locs 0 0 Q (F0 m 25 ls []) := by
      intro n25
      induction n25 with
      | zero => intro k ls H locs hn; exact absurd hn (Nat.not_lt_zero _)
      | succ n25 ih25 =>
        intro k ls H locs hn25 hk hl hP hD hS
        refine lv_iload hx hb d_M_range_25 (lv_at hl 5 rfl) ?_
        refine lv_bipush (v := nI 48) hx hb d_M_range_27 (by decide) ?_
        refine st_icmp_ge hx hb (by omega) (by omega) d_M_range_29 (tgt := 76) (by decide) (fun hc29 => ?_) (fun hc29 => ?_)
        · skip
          refine lv_iload hx hb d_M_range_76 (lv_at hl 4 rfl) ?_
          exact k_iret (v := nI (rgF g j lo hi k)) hQ hx hb hr hlk hK hP hD hS () (by (iterate 4 (try (first | rw [if_pos (by assumption)] | rw [if_neg (by assumption)]))); try rfl) (by (try rw [nI_clamp (by omega)]); (try rw [show k = 48 by omega]); (iterate 4 (try (first | rw [if_pos (by assumption)] | rw [if_neg (by assumption)]))); try rfl) d_M_range_78
        · skip
          refine lv_aload_n hx hb d_M_range_32 rfl (lv_at hl 0 rfl) ?_
          refine gf_M_7 (v := .ref (ad 1)) hx hb hT hown hK hP 0 rfl rfl d_M_range_33 ?_
          refine lv_bipush (v := nI 48) hx hb d_M_range_36 (by decide) ?_
          refine lv_iload_n hx hb d_M_range_38 rfl (lv_at hl 1 rfl) ?_
          refine st_imul hx hb d_M_range_39 ?_
          refine lv_iload hx hb d_M_range_40 (lv_at hl 5 rfl) ?_
          refine st_iadd hx hb d_M_range_42 ?_
          refine st_zald hx hb hK hP 1 1 rfl rfl (by omega) (by decide) d_M_range_43 ?_
          refine lv_if_eq hx hb d_M_range_44 (tgt := 66) (by decide) (fun hc44 => ?_) (fun hc44 => ?_)
          · skip
            refine lv_iload hx hb d_M_range_66 (lv_at hl 4 rfl) ?_
            refine lv_istore (lv' := [(4, .int (nI (rgF g j lo hi k))), (0, .ref h), (1, .int (nI j)), (2, .int lo), (3, .int hi), (5, .int (nI k))]) hx hb d_M_range_68 hl (by decide) rfl (fun ls hl => ?_)
            refine lv_iinc (k := 5) (v := nI (k + 1)) (lv' := [(5, .int (nI (k + 1))), (4, .int (nI (rgF g j lo hi k))), (0, .ref h), (1, .int (nI j)), (2, .int lo), (3, .int hi)]) hx hb d_M_range_70 hl rfl (nI_add _ _) (by decide) rfl (fun ls hl => ?_)
            refine lv_goto hx hb d_M_range_73 (tgt := 25) (by decide) ?_
            have hrr : rgF g j lo hi k = rgF g j lo hi (k + 1) := by rw [rgF_succ]; first | rw [if_pos (by first | (left; assumption) | (right; left; assumption) | (right; right; assumption))] | rw [if_neg (by rintro (q | q | q) <;> contradiction)]
            rw [hrr] at hl
            exact ih25 (k + 1) ls _ _ (by first | omega | simp_all) (by omega) (lv_sub hl [2, 3, 4, 5, 1, 0] rfl) hP hD hS
          · skip
            refine lv_iload hx hb d_M_range_47 (lv_at hl 5 rfl) ?_
            refine lv_iload_n hx hb d_M_range_49 rfl (lv_at hl 2 rfl) ?_
            refine lv_icmp_lt hx hb d_M_range_50 (tgt := 66) (by decide) (fun hc50 => ?_) (fun hc50 => ?_)
            · skip
              refine lv_iload hx hb d_M_range_66 (lv_at hl 4 rfl) ?_
              refine lv_istore (lv' := [(4, .int (nI (rgF g j lo hi k))), (0, .ref h), (1, .int (nI j)), (2, .int lo), (3, .int hi), (5, .int (nI k))]) hx hb d_M_range_68 hl (by decide) rfl (fun ls hl => ?_)
              refine lv_iinc (k := 5) (v := nI (k + 1)) (lv' := [(5, .int (nI (k + 1))), (4, .int (nI (rgF g j lo hi k))), (0, .ref h), (1, .int (nI j)), (2, .int lo), (3, .int hi)]) hx hb d_M_range_70 hl rfl (nI_add _ _) (by decide) rfl (fun ls hl => ?_)
              refine lv_goto hx hb d_M_range_73 (tgt := 25) (by decide) ?_
              have hrr : rgF g j lo hi k = rgF g j lo hi (k + 1) := by rw [rgF_succ]; first | rw [if_pos (by first | (left; assumption) | (right; left; assumption) | (right; right; assumption))] | rw [if_neg (by rintro (q | q | q) <;> contradiction)]
              rw [hrr] at hl
              exact ih25 (k + 1) ls _ _ (by first | omega | simp_all) (by omega) (lv_sub hl [2, 3, 4, 5, 1, 0] rfl) hP hD hS
            · skip
              refine lv_iload hx hb d_M_range_53 (lv_at hl 5 rfl) ?_
              refine lv_iload_n hx hb d_M_range_55 rfl (lv_at hl 3 rfl) ?_
              refine lv_icmp_gt hx hb d_M_range_56 (tgt := 66) (by decide) (fun hc56 => ?_) (fun hc56 => ?_)
              · skip
                refine lv_iload hx hb d_M_range_66 (lv_at hl 4 rfl) ?_
                refine lv_istore (lv' := [(4, .int (nI (rgF g j lo hi k))), (0, .ref h), (1, .int (nI j)), (2, .int lo), (3, .int hi), (5, .int (nI k))]) hx hb d_M_range_68 hl (by decide) rfl (fun ls hl => ?_)
                refine lv_iinc (k := 5) (v := nI (k + 1)) (lv' := [(5, .int (nI (k + 1))), (4, .int (nI (rgF g j lo hi k))), (0, .ref h), (1, .int (nI j)), (2, .int lo), (3, .int hi)]) hx hb d_M_range_70 hl rfl (nI_add _ _) (by decide) rfl (fun ls hl => ?_)
                refine lv_goto hx hb d_M_range_73 (tgt := 25) (by decide) ?_
                have hrr : rgF g j lo hi k = rgF g j lo hi (k + 1) := by rw [rgF_succ]; first | rw [if_pos (by first | (left; assumption) | (right; left; assumption) | (right; right; assumption))] | rw [if_neg (by rintro (q | q | q) <;> contradiction)]
                rw [hrr] at hl
                exact ih25 (k + 1) ls _ _ (by first | omega | simp_all) (by omega) (lv_sub hl [2, 3, 4, 5, 1, 0] rfl) hP hD hS
              · skip
                refine lv_iload hx hb d_M_range_59 (lv_at hl 4 rfl) ?_
                refine lv_iconst (v := nI 1) hx hb d_M_range_61 (by decide) ?_
                refine st_iadd hx hb d_M_range_62 ?_
                refine lv_goto hx hb d_M_range_63 (tgt := 68) (by decide) ?_
                refine lv_istore (lv' := [(4, .int (nI ((rgF g j lo hi k) + 1))), (0, .ref h), (1, .int (nI j)), (2, .int lo), (3, .int hi), (5, .int (nI k))]) hx hb d_M_range_68 hl (by decide) rfl (fun ls hl => ?_)
                refine lv_iinc (k := 5) (v := nI (k + 1)) (lv' := [(5, .int (nI (k + 1))), (4, .int (nI ((rgF g j lo hi k) + 1))), (0, .ref h), (1, .int (nI j)), (2, .int lo), (3, .int hi)]) hx hb d_M_range_70 hl rfl (nI_add _ _) (by decide) rfl (fun ls hl => ?_)
                refine lv_goto hx hb d_M_range_73 (tgt := 25) (by decide) ?_
                have hrr : (rgF g j lo hi k) + 1 = rgF g j lo hi (k + 1) := by rw [rgF_succ]; first | rw [if_pos (by first | (left; assumption) | (right; left; assumption) | (right; right; assumption))] | rw [if_neg (by rintro (q | q | q) <;> contradiction)]
                rw [hrr] at hl
                exact ih25 (k + 1) ls _ _ (by first | omega | simp_all) (by omega) (lv_sub hl [2, 3, 4, 5, 1, 0] rfl) hP hD hS
    exact key25 _ 0 ls _ _ (Nat.lt_succ_self _) (by omega) (lv_sub hl [2, 3, 4, 5, 1, 0] rfl) hP hD hS
  · skip
    have hn9 : v < nI 0 ∨ g 3 0 - nI 1 < v := Classical.byContradiction (fun q => by unfold ivM at hc5; rw [if_neg q] at hc5; exact absurd hc5 (by decide))
    refine lv_aload_n hx hb d_M_range_8 rfl (lv_at hl 0 rfl) ?_
    refine lv_iconst (v := nI 1) hx hb d_M_range_9 (by decide) ?_
    refine k_calli (va_runV (As := [.int (nI 1)]) (rest := []) ⟨hx, hb, hml, hown, hts⟩ (c_M_refuse l D tk H.size h ad g la tl (nI 1) ) (cwV 1 hts (gV t_1060 t_1062 s_17 t_9 t_1063) rfl rfl rfl (by decide +kernel) ⟨Nat.le_of_ble_eq_true rfl, Nat.le_of_ble_eq_true rfl⟩) (k_preV hP hK hD hnw 0 rfl rfl) rfl rfl hl.1 rfl (lv_room (Nat.le_of_ble_eq_true rfl)) d_M_range_10 hc0) hD hS hA (fun _ _ H locs hp10 hP hD hK hS => ?_)
    subst hp10
    replace hP : va_P D CC (wM tk h ad (mup g 0 0 (nI 1)) la ++ tl) H := hP
    replace hD : va_D A (wM tk h ad (mup g 0 0 (nI 1)) la ++ tl) := hD
    exact k_iret (v := 0) hQ hx hb hr hlk hK hP hD hS () (by (iterate 4 (try (first | rw [if_pos (by assumption)] | rw [if_neg (by assumption)]))); try rfl) (by (try rw [nI_clamp (by omega)]); (try rw [show k = 48 by omega]); (iterate 4 (try (first | rw [if_pos (by assumption)] | rw [if_neg (by assumption)]))); try rfl) d_M_range_13
