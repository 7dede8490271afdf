set_option maxHeartbeats 4000000 in
set_option maxRecDepth 100000 in
theorem c_M_half (l : Launch) (D : va_G) (tk : Nat → ClassId) (sz : Nat) (n : Nat) (hn : n ≤ 16) (ws : va_W) : Met l y_M_half w_M_half ({ frames := 0, cells := 0, slots := 0, locals := 0 }) (va_Pc [.int (nI n)] (k_pre D (TY tk) sz ws)) (va_Qi (fun (r : Int32) (_ : Unit) => r = nI (hf n)) (fun u t => k_at D (TY tk) (va_A ws sz) ((fun _ => ws) u) t) (va_A ws sz)) 0 0 (va_A ws sz) := by
  refine k_ofW (fun A => va_Qi (fun (r : Int32) (_ : Unit) => r = nI (hf n)) (fun u t => k_at D (TY tk) A ((fun _ => ws) u) t) A) (by decide) (Nat.le_of_ble_eq_true rfl) ?_
  intro p e s m args below meth c Q A ls hQ hx hb hr hlk hin hts hT hown hml hnw hP hK hD hA hsz hl
  have hS : va_S A s.heap s.heap [] := va_S.rf
  have hc0 : 0 + 0 ≤ 0 ∧ 0 + 0 ≤ 0 := ⟨by decide, by decide⟩
  have hl : lv_has ls 2 [(0, .int (nI n))] := hl
  have hP : va_P D CC ws s.heap := hP
  have hK : va_K D CC (TY tk) s := hK
  refine lv_iconst (v := nI 1) hx hb d_M_half_0 (by decide) ?_
  refine lv_istore_n (lv' := [(1, .int (nI 1)), (0, .int (nI n))]) hx hb d_M_half_1 rfl hl (by decide) rfl (fun ls hl => ?_)
  refine lv_iconst (v := nI 2) hx hb d_M_half_2 (by decide) ?_
  refine lv_iload_n hx hb d_M_half_3 rfl (lv_at hl 0 rfl) ?_
  refine st_imul hx hb d_M_half_4 ?_
  refine lv_iload_n hx hb d_M_half_5 rfl (lv_at hl 1 rfl) ?_
  refine st_icmp_ge hx hb (by omega) (by omega) d_M_half_6 (tgt := 16) (by decide) (fun hc6 => ?_) (fun hc6 => ?_)
  · skip
    refine lv_iload_n hx hb d_M_half_16 rfl (lv_at hl 0 rfl) ?_
    exact k_iret (v := nI 1) hQ hx hb hr hlk hK hP hD hS () rfl (congrArg nI (by unfold hf; repeat (first | rw [if_pos (by omega)] | rw [if_neg (by omega)]))) d_M_half_17
  · skip
    refine lv_iconst (v := nI 2) hx hb d_M_half_9 (by decide) ?_
    refine lv_iload_n hx hb d_M_half_10 rfl (lv_at hl 0 rfl) ?_
    refine st_imul hx hb d_M_half_11 ?_
    refine lv_istore_n (lv' := [(1, .int (nI 2)), (0, .int (nI n))]) hx hb d_M_half_12 rfl hl (by decide) rfl (fun ls hl => ?_)
    refine lv_goto hx hb d_M_half_13 (tgt := 2) (by decide) ?_
    refine lv_iconst (v := nI 2) hx hb d_M_half_2 (by decide) ?_
    refine lv_iload_n hx hb d_M_half_3 rfl (lv_at hl 0 rfl) ?_
    refine st_imul hx hb d_M_half_4 ?_
    refine lv_iload_n hx hb d_M_half_5 rfl (lv_at hl 1 rfl) ?_
    refine st_icmp_ge hx hb (by omega) (by omega) d_M_half_6 (tgt := 16) (by decide) (fun hc6 => ?_) (fun hc6 => ?_)
    · skip
      refine lv_iload_n hx hb d_M_half_16 rfl (lv_at hl 0 rfl) ?_
      exact k_iret (v := nI 2) hQ hx hb hr hlk hK hP hD hS () rfl (congrArg nI (by unfold hf; repeat (first | rw [if_pos (by omega)] | rw [if_neg (by omega)]))) d_M_half_17
    · skip
      refine lv_iconst (v := nI 2) hx hb d_M_half_9 (by decide) ?_
      refine lv_iload_n hx hb d_M_half_10 rfl (lv_at hl 0 rfl) ?_
      refine st_imul hx hb d_M_half_11 ?_
      refine lv_istore_n (lv' := [(1, .int (nI 4)), (0, .int (nI n))]) hx hb d_M_half_12 rfl hl (by decide) rfl (fun ls hl => ?_)
      refine lv_goto hx hb d_M_half_13 (tgt := 2) (by decide) ?_
      refine lv_iconst (v := nI 2) hx hb d_M_half_2 (by decide) ?_
      refine lv_iload_n hx hb d_M_half_3 rfl (lv_at hl 0 rfl) ?_
      refine st_imul hx hb d_M_half_4 ?_
      refine lv_iload_n hx hb d_M_half_5 rfl (lv_at hl 1 rfl) ?_
      refine st_icmp_ge hx hb (by omega) (by omega) d_M_half_6 (tgt := 16) (by decide) (fun hc6 => ?_) (fun hc6 => ?_)
      · skip
        refine lv_iload_n hx hb d_M_half_16 rfl (lv_at hl 0 rfl) ?_
        exact k_iret (v := nI 4) hQ hx hb hr hlk hK hP hD hS () rfl (congrArg nI (by unfold hf; repeat (first | rw [if_pos (by omega)] | rw [if_neg (by omega)]))) d_M_half_17
      · skip
        refine lv_iconst (v := nI 2) hx hb d_M_half_9 (by decide) ?_
        refine lv_iload_n hx hb d_M_half_10 rfl (lv_at hl 0 rfl) ?_
        refine st_imul hx hb d_M_half_11 ?_
        refine lv_istore_n (lv' := [(1, .int (nI 8)), (0, .int (nI n))]) hx hb d_M_half_12 rfl hl (by decide) rfl (fun ls hl => ?_)
        refine lv_goto hx hb d_M_half_13 (tgt := 2) (by decide) ?_
        refine lv_iconst (v := nI 2) hx hb d_M_half_2 (by decide) ?_
        refine lv_iload_n hx hb d_M_half_3 rfl (lv_at hl 0 rfl) ?_
        refine st_imul hx hb d_M_half_4 ?_
        refine lv_iload_n hx hb d_M_half_5 rfl (lv_at hl 1 rfl) ?_
        refine st_icmp_ge hx hb (by omega) (by omega) d_M_half_6 (tgt := 16) (by decide) (fun hc6 => ?_) (fun hc6 => absurd hc6 (by omega))
        refine lv_iload_n hx hb d_M_half_16 rfl (lv_at hl 0 rfl) ?_
        exact k_iret (v := nI 8) hQ hx hb hr hlk hK hP hD hS () rfl (congrArg nI (by unfold hf; repeat (first | rw [if_pos (by omega)] | rw [if_neg (by omega)]))) d_M_half_17

set_option maxHeartbeats 4000000 in
set_option maxRecDepth 100000 in
theorem c_M_thrown (l : Launch) (D : va_G) (tk : Nat → ClassId) (sz : Nat) (h : Nat) (ad : Nat → Nat) (g : Nat → Nat → Int32) (la : Nat → Int64) (tl : va_W)  : Met l y_M_thrown w_M_thrown ({ frames := 0, cells := 0, slots := 0, locals := 0 }) (va_Pc [.ref h] (k_pre D (TY tk) sz (wM tk h ad g la ++ tl))) (va_Qi (fun (r : Int32) (_ : Unit) => r = g 0 0) (fun u t => k_at D (TY tk) (va_A (wM tk h ad g la ++ tl) sz) ((fun _ => wM tk h ad g la ++ tl) u) t) (va_A (wM tk h ad g la ++ tl) sz)) 0 0 (va_A (wM tk h ad g la ++ tl) sz) := by
  refine k_ofW (fun A => va_Qi (fun (r : Int32) (_ : Unit) => r = g 0 0) (fun u t => k_at D (TY tk) A ((fun _ => wM tk h ad g la ++ tl) u) t) A) (by decide) (Nat.le_of_ble_eq_true rfl) ?_
  intro p e s m args below meth c Q A ls hQ hx hb hr hlk hin hts hT hown hml hnw hP hK hD hA hsz hl
  have hS : va_S A s.heap s.heap [] := va_S.rf
  have hc0 : 0 + 0 ≤ 0 ∧ 0 + 0 ≤ 0 := ⟨by decide, by decide⟩
  have hl : lv_has ls 1 [(0, .ref h)] := hl
  have hP : va_P D CC (wM tk h ad g la ++ tl) s.heap := hP
  have hK : va_K D CC (TY tk) s := hK
  refine lv_aload_n hx hb d_M_thrown_0 rfl (lv_at hl 0 rfl) ?_
  refine gf_M_73 (v := .int (g 0 0)) hx hb hT hown hK hP 0 rfl rfl d_M_thrown_1 ?_
  exact k_iret (v := g 0 0) hQ hx hb hr hlk hK hP hD hS () rfl rfl d_M_thrown_4

set_option maxHeartbeats 4000000 in
set_option maxRecDepth 100000 in
theorem c_M_refuse (l : Launch) (D : va_G) (tk : Nat → ClassId) (sz : Nat) (h : Nat) (ad : Nat → Nat) (g : Nat → Nat → Int32) (la : Nat → Int64) (tl : va_W) (why : Int32) : Met l y_M_refuse w_M_refuse ({ frames := 0, cells := 0, slots := 0, locals := 0 }) (va_Pc [.ref h, .int why] (k_pre D (TY tk) sz (wM tk h ad g la ++ tl))) (va_Qi (fun (r : Int32) (_ : Unit) => r = 0) (fun u t => k_at D (TY tk) (va_A (wM tk h ad g la ++ tl) sz) ((fun _ => wM tk h ad (mup g 0 0 why) la ++ tl) u) t) (va_A (wM tk h ad g la ++ tl) sz)) 0 0 (va_A (wM tk h ad g la ++ tl) sz) := by
  refine k_ofW (fun A => va_Qi (fun (r : Int32) (_ : Unit) => r = 0) (fun u t => k_at D (TY tk) A ((fun _ => wM tk h ad (mup g 0 0 why) la ++ tl) u) t) A) (by decide) (Nat.le_of_ble_eq_true rfl) ?_
  intro p e s m args below meth c Q A ls hQ hx hb hr hlk hin hts hT hown hml hnw hP hK hD hA hsz hl
  have hS : va_S A s.heap s.heap [] := va_S.rf
  have hc0 : 0 + 0 ≤ 0 ∧ 0 + 0 ≤ 0 := ⟨by decide, by decide⟩
  have hl : lv_has ls 2 [(0, .ref h), (1, .int why)] := hl
  have hP : va_P D CC (wM tk h ad g la ++ tl) s.heap := hP
  have hK : va_K D CC (TY tk) s := hK
  refine lv_aload_n hx hb d_M_refuse_0 rfl (lv_at hl 0 rfl) ?_
  refine lv_iload_n hx hb d_M_refuse_1 rfl (lv_at hl 1 rfl) ?_
  refine pf_M_73 hx hb hT hown hK hP hD hS 0 rfl (Nat.le_of_ble_eq_true rfl) d_M_refuse_2 (fun H locs hP hD hS => ?_)
  have hP : va_P D CC (wM tk h ad (mup g 0 0 why) la ++ tl) H := hP
  have hD : va_D A (wM tk h ad (mup g 0 0 why) la ++ tl) := hD
  refine lv_iconst (v := nI 0) hx hb d_M_refuse_5 (by decide) ?_
  exact k_iret (v := nI 0) hQ hx hb hr hlk hK hP hD hS () rfl rfl d_M_refuse_6

/-- booleans are 0 or 1 -/
def bz (f : Nat → Int32) : Prop := ∀ j, f j = 0 ∨ f j = 1
theorem bz_n {f : Nat → Int32} (h : bz f) (j : Nat) : vp_nar .boolean (f j) = f j := by
  rcases h j with e | e <;> rw [e] <;> decide
theorem bz_up {f : Nat → Int32} (h : bz f) (k : Nat) {x : Int32} (hx : x = 0 ∨ x = 1) : bz (upd f k x) := by
  intro j
  unfold upd
  split
  · exact hx
  · exact h j
def kyM (g : Nat → Nat → Int32) (key : Int32) : Int32 := if key < nI 0 ∨ nI 47 < key then nI 1 else if g 3 0 = nI 16 then nI 2 else nI 0
theorem kyM_0 {g : Nat → Nat → Int32} {key : Int32} (h : kyM g key = 0) : ∃ k : Nat, k < 48 ∧ key = nI k := by
  unfold kyM at h
  split at h
  · exact absurd h (by decide)
  · next h1 =>
    obtain ⟨j, hj, e⟩ := nI_of2 (M := 47) (n := 47) (by decide) (fun q => h1 (Or.inl q)) (Int32.not_lt.mp (fun q => h1 (Or.inr q)))
    exact ⟨j, by omega, e⟩
def putM (g : Nat → Nat → Int32) (key v : Int32) : Nat → Nat → Int32 := if kyM g key = 0 then mup (mup (mup g 0 0 0) 1 (768 + key.toNatClampNeg) 1) 2 (768 + key.toNatClampNeg) v else mup g 0 0 (kyM g key)
def delM (g : Nat → Nat → Int32) (key : Int32) : Nat → Nat → Int32 := if kyM g key = 0 then mup (mup g 0 0 0) 1 (768 + key.toNatClampNeg) 0 else mup g 0 0 (kyM g key)
def cpK (g : Nat → Nat → Int32) (f t k : Nat) : Nat → Nat → Int32 := fun x => if x = 1 ∨ x = 2 then (fun j => if 48 * t ≤ j ∧ j < 48 * t + k then g x (48 * f + (j - 48 * t)) else g x j) else g x
theorem cpK_0 (g : Nat → Nat → Int32) (f t : Nat) : cpK g f t 0 = g := by
  funext x
  unfold cpK
  split
  · funext j; rw [if_neg (by omega)]
  · rfl
theorem cpK_z {g : Nat → Nat → Int32} (h : bz (g 1)) (f t k : Nat) : bz (cpK g f t k 1) := by
  intro j
  unfold cpK
  rw [if_pos (Or.inl rfl)]
  split
  · exact h _
  · exact h _
theorem cpK_step (g : Nat → Nat → Int32) {f t k : Nat} (hft : f ≠ t) (hk : k < 48) : mup (mup (cpK g f t k) 1 (48 * t + k) (cpK g f t k 1 (48 * f + k))) 2 (48 * t + k) (cpK g f t k 2 (48 * f + k)) = cpK g f t (k + 1) := by
  have key : ∀ x, x = 1 ∨ x = 2 → ∀ j, upd (cpK g f t k x) (48 * t + k) (cpK g f t k x (48 * f + k)) j = cpK g f t (k + 1) x j := by
    intro x hx j
    unfold upd cpK
    rw [if_pos hx, if_pos hx]
    by_cases hj : j = 48 * t + k
    · rw [if_pos hj, if_neg (by omega), if_pos (by omega)]
      congr 1
      omega
    · rw [if_neg hj]
      by_cases h2 : 48 * t ≤ j ∧ j < 48 * t + k
      · rw [if_pos h2, if_pos (by omega)]
      · rw [if_neg h2, if_neg (by omega)]
  funext x j
  by_cases h1 : x = 1
  · subst h1
    rw [mup_ne (by decide), mup_eq]
    exact key 1 (Or.inl rfl) j
  · by_cases h2 : x = 2
    · subst h2
      rw [mup_eq, mup_ne (by decide)]
      exact key 2 (Or.inr rfl) j
    · rw [mup_ne h2, mup_ne h1]
      unfold cpK
      rw [if_neg (by omega), if_neg (by omega)]
/-- a write of the reference -/
def wrM (f : Int32) : Bool × Int32 := if f = 0 then (true, 0) else (decide (¬ f - 1 = 0), f - 1)

set_option maxHeartbeats 4000000 in
set_option maxRecDepth 100000 in
theorem c_M_keyed (l : Launch) (D : va_G) (tk : Nat → ClassId) (sz : Nat) (h : Nat) (ad : Nat → Nat) (g : Nat → Nat → Int32) (la : Nat → Int64) (tl : va_W) (key : Int32) : Met l y_M_keyed w_M_keyed ({ frames := 1, cells := 0, slots := 0, locals := 22 }) (va_Pc [.ref h, .int key] (k_pre D (TY tk) sz (wM tk h ad g la ++ tl))) (va_Qi (fun (r : Int32) (_ : Unit) => r = kyM g key) (fun u t => k_at D (TY tk) (va_A (wM tk h ad g la ++ tl) sz) ((fun _ => wM tk h ad g la ++ tl) u) t) (va_A (wM tk h ad g la ++ tl) sz)) 0 0 (va_A (wM tk h ad g la ++ tl) sz) := by
  refine k_ofW (fun A => va_Qi (fun (r : Int32) (_ : Unit) => r = kyM g key) (fun u t => k_at D (TY tk) A ((fun _ => wM tk h ad g la ++ tl) u) t) A) (by decide) (Nat.le_of_ble_eq_true rfl) ?_
  intro p e s m args below meth c Q A ls hQ hx hb hr hlk hin hts hT hown hml hnw hP hK hD hA hsz hl
  have hS : va_S A s.heap s.heap [] := va_S.rf
  have hc0 : 0 + 0 ≤ 0 ∧ 0 + 0 ≤ 0 := ⟨by decide, by decide⟩
  have hl : lv_has ls 2 [(0, .ref h), (1, .int key)] := hl
  have hP : va_P D CC (wM tk h ad g la ++ tl) s.heap := hP
  have hK : va_K D CC (TY tk) s := hK
  refine lv_iload_n hx hb d_M_keyed_0 rfl (lv_at hl 1 rfl) ?_
  refine lv_iconst (v := nI 0) hx hb d_M_keyed_1 (by decide) ?_
  refine lv_bipush (v := nI 47) hx hb d_M_keyed_2 (by decide) ?_
  refine k_calli (va_runS (As := [.int key, .int (nI 0), .int (nI 47)]) (rest := []) ⟨hx, hb, hml, hown, hts⟩ (c_M_outside l D tk s.heap.size key (nI 0) (nI 47) (wM tk h ad g la ++ tl)) (cwS 3 hts (gS t_1041 t_1042 t_9 t_1043) rfl rfl rfl (by decide +kernel) ⟨Nat.le_of_ble_eq_true rfl, Nat.le_of_ble_eq_true rfl⟩) (k_preS hP hK hD hnw) rfl rfl hl.1 rfl (lv_room (Nat.le_of_ble_eq_true rfl)) d_M_keyed_4 hc0) hD hS hA (fun _ _ H locs hp4 hP hD hK hS => ?_)
  subst hp4
  have hP : va_P D CC (wM tk h ad g la ++ tl) H := hP
  have hD : va_D A (wM tk h ad g la ++ tl) := hD
  refine lv_if_eq hx hb d_M_keyed_7 (tgt := 14) (by decide) (fun hc7 => ?_) (fun hc7 => ?_)
  · skip
    have hn : ¬ (key < nI 0 ∨ nI 47 < key) := fun q => by rw [if_pos q] at hc7; exact absurd hc7 (by decide)
    refine lv_aload_n hx hb d_M_keyed_14 rfl (lv_at hl 0 rfl) ?_
    refine gf_M_69 (v := .int (g 3 0)) hx hb hT hown hK hP 0 rfl rfl d_M_keyed_15 ?_
    refine lv_bipush (v := nI 16) hx hb d_M_keyed_18 (by decide) ?_
    refine lv_icmp_ne hx hb d_M_keyed_20 (tgt := 27) (by decide) (fun hc20 => ?_) (fun hc20 => ?_)
    · skip
      refine lv_iconst (v := nI 0) hx hb d_M_keyed_27 (by decide) ?_
      exact k_iret (v := nI 0) hQ hx hb hr hlk hK hP hD hS () rfl (by unfold kyM; (iterate 4 (try (first | rw [if_pos (by assumption)] | rw [if_neg (by assumption)]))); try rfl) d_M_keyed_28
    · skip
      refine lv_iconst (v := nI 2) hx hb d_M_keyed_23 (by decide) ?_
      refine lv_goto hx hb d_M_keyed_24 (tgt := 28) (by decide) ?_
      exact k_iret (v := nI 2) hQ hx hb hr hlk hK hP hD hS () rfl (by unfold kyM; (iterate 4 (try (first | rw [if_pos (by assumption)] | rw [if_neg (by assumption)]))); try rfl) d_M_keyed_28
  · skip
    have hn : key < nI 0 ∨ nI 47 < key := Classical.byContradiction (fun q => hc7 (by rw [if_neg q]))
    refine lv_iconst (v := nI 1) hx hb d_M_keyed_10 (by decide) ?_
    refine lv_goto hx hb d_M_keyed_11 (tgt := 28) (by decide) ?_
    exact k_iret (v := nI 1) hQ hx hb hr hlk hK hP hD hS () rfl (by unfold kyM; (iterate 4 (try (first | rw [if_pos (by assumption)] | rw [if_neg (by assumption)]))); try rfl) d_M_keyed_28

set_option maxHeartbeats 4000000 in
set_option maxRecDepth 100000 in
theorem c_M_put (l : Launch) (D : va_G) (tk : Nat → ClassId) (sz : Nat) (h : Nat) (ad : Nat → Nat) (g : Nat → Nat → Int32) (la : Nat → Int64) (tl : va_W) (key v : Int32) : Met l y_M_put w_M_put ({ frames := 2, cells := 0, slots := 0, locals := 43 }) (va_Pc [.ref h, .int key, .int v] (k_pre D (TY tk) sz (wM tk h ad g la ++ tl))) (va_Qv (fun (_ : Unit) => True) (fun u t => k_at D (TY tk) (va_A (wM tk h ad g la ++ tl) sz) ((fun _ => wM tk h ad (putM g key v) la ++ tl) u) t) (va_A (wM tk h ad g la ++ tl) sz)) 0 0 (va_A (wM tk h ad g la ++ tl) sz) := by
  refine k_ofW (fun A => va_Qv (fun (_ : Unit) => True) (fun u t => k_at D (TY tk) A ((fun _ => wM tk h ad (putM g key v) la ++ tl) u) t) A) (by decide) (Nat.le_of_ble_eq_true rfl) ?_
  intro p e s m args below meth c Q A ls hQ hx hb hr hlk hin hts hT hown hml hnw hP hK hD hA hsz hl
  have hS : va_S A s.heap s.heap [] := va_S.rf
  have hc0 : 0 + 0 ≤ 0 ∧ 0 + 0 ≤ 0 := ⟨by decide, by decide⟩
  have hl : lv_has ls 3 [(0, .ref h), (1, .int key), (2, .int v)] := hl
  have hP : va_P D CC (wM tk h ad g la ++ tl) s.heap := hP
  have hK : va_K D CC (TY tk) s := hK
  refine lv_aload_n hx hb d_M_put_0 rfl (lv_at hl 0 rfl) ?_
  refine lv_aload_n hx hb d_M_put_1 rfl (lv_at hl 0 rfl) ?_
  refine lv_iload_n hx hb d_M_put_2 rfl (lv_at hl 1 rfl) ?_
  refine k_calli (va_runV (As := [.int key]) (rest := [.ref h]) ⟨hx, hb, hml, hown, hts⟩ (c_M_keyed l D tk s.heap.size h ad g la tl key ) (cwV 1 hts (gV t_1037 t_1039 s_15 t_9 t_1040) rfl rfl rfl (by decide +kernel) ⟨Nat.le_of_ble_eq_true rfl, Nat.le_of_ble_eq_true rfl⟩) (k_preV hP hK hD hnw 0 rfl rfl) rfl rfl hl.1 rfl (lv_room (Nat.le_of_ble_eq_true rfl)) d_M_put_3 hc0) hD hS hA (fun _ _ H locs hp3 hP hD hK hS => ?_)
  subst hp3
  have hP : va_P D CC (wM tk h ad g la ++ tl) H := hP
  have hD : va_D A (wM tk h ad g la ++ tl) := hD
  refine pf_M_73 hx hb hT hown hK hP hD hS 0 rfl (Nat.le_of_ble_eq_true rfl) d_M_put_6 (fun H locs hP hD hS => ?_)
  have hP : va_P D CC (wM tk h ad (mup g 0 0 (kyM g key)) la ++ tl) H := hP
  have hD : va_D A (wM tk h ad (mup g 0 0 (kyM g key)) la ++ tl) := hD
  refine lv_aload_n hx hb d_M_put_9 rfl (lv_at hl 0 rfl) ?_
  refine gf_M_73 (v := .int (kyM g key)) hx hb hT hown hK hP 0 rfl rfl d_M_put_10 ?_
  refine lv_if_eq hx hb d_M_put_13 (tgt := 17) (by decide) (fun hc13 => ?_) (fun hc13 => ?_)
  · skip
    obtain ⟨k, hk, rfl⟩ := kyM_0 hc13
    rw [hc13] at hP hD
    refine lv_aload_n hx hb d_M_put_17 rfl (lv_at hl 0 rfl) ?_
    refine gf_M_7 (v := .ref (ad 1)) hx hb hT hown hK hP 0 rfl rfl d_M_put_18 ?_
    refine lv_sipush (v := nI 768) hx hb d_M_put_21 (by decide) ?_
    refine lv_iload_n hx hb d_M_put_24 rfl (lv_at hl 1 rfl) ?_
    refine st_iadd hx hb d_M_put_25 ?_
    refine lv_iconst (v := nI 1) hx hb d_M_put_26 (by decide) ?_
    refine st_zast hx hb hK hP hD hS 1 1 rfl rfl (by decide) (by omega) (by decide) d_M_put_27 (fun H locs hP hD hS => ?_)
    have hP : va_P D CC (wM tk h ad (mup (mup g 0 0 0) 1 (768 + k) (nI 1)) la ++ tl) H := hP
    have hD : va_D A (wM tk h ad (mup (mup g 0 0 0) 1 (768 + k) (nI 1)) la ++ tl) := hD
    refine lv_aload_n hx hb d_M_put_28 rfl (lv_at hl 0 rfl) ?_
    refine gf_M_13 (v := .ref (ad 2)) hx hb hT hown hK hP 0 rfl rfl d_M_put_29 ?_
    refine lv_sipush (v := nI 768) hx hb d_M_put_32 (by decide) ?_
    refine lv_iload_n hx hb d_M_put_35 rfl (lv_at hl 1 rfl) ?_
    refine st_iadd hx hb d_M_put_36 ?_
    refine lv_iload_n hx hb d_M_put_37 rfl (lv_at hl 2 rfl) ?_
    refine st_iast hx hb hK hP hD hS 2 0 rfl rfl (by omega) (by decide) d_M_put_38 (fun H locs hP hD hS => ?_)
    have hP : va_P D CC (wM tk h ad (mup (mup (mup g 0 0 0) 1 (768 + k) (nI 1)) 2 (768 + k) v) la ++ tl) H := hP
    have hD : va_D A (wM tk h ad (mup (mup (mup g 0 0 0) 1 (768 + k) (nI 1)) 2 (768 + k) v) la ++ tl) := hD
    exact k_vret hQ hx hb hr hlk hK hP hD hS () (by unfold putM; (try rw [nI_clamp (by omega)]); (iterate 4 (try (first | rw [if_pos (by assumption)] | rw [if_neg (by assumption)]))); try rfl) trivial d_M_put_39
  · skip
    exact k_vret hQ hx hb hr hlk hK hP hD hS () (by unfold putM; (try rw [nI_clamp (by omega)]); (iterate 4 (try (first | rw [if_pos (by assumption)] | rw [if_neg (by assumption)]))); try rfl) trivial d_M_put_16

set_option maxHeartbeats 4000000 in
set_option maxRecDepth 100000 in
theorem c_M_delete (l : Launch) (D : va_G) (tk : Nat → ClassId) (sz : Nat) (h : Nat) (ad : Nat → Nat) (g : Nat → Nat → Int32) (la : Nat → Int64) (tl : va_W) (hz : bz (g 1)) (key : Int32) : Met l y_M_delete w_M_delete ({ frames := 2, cells := 0, slots := 0, locals := 43 }) (va_Pc [.ref h, .int key] (k_pre D (TY tk) sz (wM tk h ad g la ++ tl))) (va_Qi (fun (r : Int32) (_ : Unit) => r = if kyM g key = 0 then g 1 (768 + key.toNatClampNeg) else 0) (fun u t => k_at D (TY tk) (va_A (wM tk h ad g la ++ tl) sz) ((fun _ => wM tk h ad (delM g key) la ++ tl) u) t) (va_A (wM tk h ad g la ++ tl) sz)) 0 0 (va_A (wM tk h ad g la ++ tl) sz) := by
  refine k_ofW (fun A => va_Qi (fun (r : Int32) (_ : Unit) => r = if kyM g key = 0 then g 1 (768 + key.toNatClampNeg) else 0) (fun u t => k_at D (TY tk) A ((fun _ => wM tk h ad (delM g key) la ++ tl) u) t) A) (by decide) (Nat.le_of_ble_eq_true rfl) ?_
  intro p e s m args below meth c Q A ls hQ hx hb hr hlk hin hts hT hown hml hnw hP hK hD hA hsz hl
  have hS : va_S A s.heap s.heap [] := va_S.rf
  have hc0 : 0 + 0 ≤ 0 ∧ 0 + 0 ≤ 0 := ⟨by decide, by decide⟩
  have hl : lv_has ls 3 [(0, .ref h), (1, .int key)] := hl
  have hP : va_P D CC (wM tk h ad g la ++ tl) s.heap := hP
  have hK : va_K D CC (TY tk) s := hK
  refine lv_aload_n hx hb d_M_delete_0 rfl (lv_at hl 0 rfl) ?_
  refine lv_aload_n hx hb d_M_delete_1 rfl (lv_at hl 0 rfl) ?_
  refine lv_iload_n hx hb d_M_delete_2 rfl (lv_at hl 1 rfl) ?_
  refine k_calli (va_runV (As := [.int key]) (rest := [.ref h]) ⟨hx, hb, hml, hown, hts⟩ (c_M_keyed l D tk s.heap.size h ad g la tl key ) (cwV 1 hts (gV t_1037 t_1039 s_15 t_9 t_1040) rfl rfl rfl (by decide +kernel) ⟨Nat.le_of_ble_eq_true rfl, Nat.le_of_ble_eq_true rfl⟩) (k_preV hP hK hD hnw 0 rfl rfl) rfl rfl hl.1 rfl (lv_room (Nat.le_of_ble_eq_true rfl)) d_M_delete_3 hc0) hD hS hA (fun _ _ H locs hp3 hP hD hK hS => ?_)
  subst hp3
  have hP : va_P D CC (wM tk h ad g la ++ tl) H := hP
  have hD : va_D A (wM tk h ad g la ++ tl) := hD
  refine pf_M_73 hx hb hT hown hK hP hD hS 0 rfl (Nat.le_of_ble_eq_true rfl) d_M_delete_6 (fun H locs hP hD hS => ?_)
  have hP : va_P D CC (wM tk h ad (mup g 0 0 (kyM g key)) la ++ tl) H := hP
  have hD : va_D A (wM tk h ad (mup g 0 0 (kyM g key)) la ++ tl) := hD
  refine lv_aload_n hx hb d_M_delete_9 rfl (lv_at hl 0 rfl) ?_
  refine gf_M_73 (v := .int (kyM g key)) hx hb hT hown hK hP 0 rfl rfl d_M_delete_10 ?_
  refine lv_if_eq hx hb d_M_delete_13 (tgt := 18) (by decide) (fun hc13 => ?_) (fun hc13 => ?_)
  · skip
    obtain ⟨k, hk, rfl⟩ := kyM_0 hc13
    rw [hc13] at hP hD
    refine lv_aload_n hx hb d_M_delete_18 rfl (lv_at hl 0 rfl) ?_
    refine gf_M_7 (v := .ref (ad 1)) hx hb hT hown hK hP 0 rfl rfl d_M_delete_19 ?_
    refine lv_sipush (v := nI 768) hx hb d_M_delete_22 (by decide) ?_
    refine lv_iload_n hx hb d_M_delete_25 rfl (lv_at hl 1 rfl) ?_
    refine st_iadd hx hb d_M_delete_26 ?_
    refine st_zald hx hb hK hP 1 1 rfl rfl (by omega) (by decide) d_M_delete_27 ?_
    refine lv_istore_n (lv' := [(2, .int (g 1 (768 + k))), (0, .ref h), (1, .int (nI k))]) hx hb d_M_delete_28 rfl hl (by decide) rfl (fun ls hl => ?_)
    refine lv_aload_n hx hb d_M_delete_29 rfl (lv_at hl 1 rfl) ?_
    refine gf_M_7 (v := .ref (ad 1)) hx hb hT hown hK hP 0 rfl rfl d_M_delete_30 ?_
    refine lv_sipush (v := nI 768) hx hb d_M_delete_33 (by decide) ?_
    refine lv_iload_n hx hb d_M_delete_36 rfl (lv_at hl 2 rfl) ?_
    refine st_iadd hx hb d_M_delete_37 ?_
    refine lv_iconst (v := nI 0) hx hb d_M_delete_38 (by decide) ?_
    refine st_zast hx hb hK hP hD hS 1 1 rfl rfl (by decide) (by omega) (by decide) d_M_delete_39 (fun H locs hP hD hS => ?_)
    have hP : va_P D CC (wM tk h ad (mup (mup g 0 0 0) 1 (768 + k) (nI 0)) la ++ tl) H := hP
    have hD : va_D A (wM tk h ad (mup (mup g 0 0 0) 1 (768 + k) (nI 0)) la ++ tl) := hD
    refine lv_iload_n hx hb d_M_delete_40 rfl (lv_at hl 0 rfl) ?_
    exact k_zret (v := g 1 (768 + k)) hQ hx hb hr hlk hK hP hD hS () (by unfold delM; (try rw [nI_clamp (by omega)]); (iterate 4 (try (first | rw [if_pos (by assumption)] | rw [if_neg (by assumption)]))); try rfl) (by first | decide | (rcases hz (768 + k) with q | q <;> rw [q] <;> decide)) (by (try rw [nI_clamp (by omega)]); (iterate 4 (try (first | rw [if_pos (by assumption)] | rw [if_neg (by assumption)]))); try rfl) d_M_delete_41
  · skip
    refine lv_iconst (v := nI 0) hx hb d_M_delete_16 (by decide) ?_
    exact k_zret (v := nI 0) hQ hx hb hr hlk hK hP hD hS () (by unfold delM; (try rw [nI_clamp (by omega)]); (iterate 4 (try (first | rw [if_pos (by assumption)] | rw [if_neg (by assumption)]))); try rfl) (by first | decide | (rcases hz (768 + k) with q | q <;> rw [q] <;> decide)) (by (try rw [nI_clamp (by omega)]); (iterate 4 (try (first | rw [if_pos (by assumption)] | rw [if_neg (by assumption)]))); try rfl) d_M_delete_17

set_option maxHeartbeats 4000000 in
set_option maxRecDepth 100000 in
theorem c_M_copy (l : Launch) (D : va_G) (tk : Nat → ClassId) (sz : Nat) (h : Nat) (ad : Nat → Nat) (g : Nat → Nat → Int32) (la : Nat → Int64) (tl : va_W) (f d : Nat) (hf : f ≤ 16) (ht : d ≤ 16) (hft : f ≠ d) (hz : bz (g 1)) : Met l y_M_copy w_M_copy ({ frames := 0, cells := 0, slots := 0, locals := 0 }) (va_Pc [.ref h, .int (nI f), .int (nI d)] (k_pre D (TY tk) sz (wM tk h ad g la ++ tl))) (va_Qv (fun (_ : Unit) => True) (fun u t => k_at D (TY tk) (va_A (wM tk h ad g la ++ tl) sz) ((fun _ => wM tk h ad (cpK g f d 48) la ++ tl) u) t) (va_A (wM tk h ad g la ++ tl) sz)) 0 0 (va_A (wM tk h ad g la ++ tl) sz) := by
  refine k_ofW (fun A => va_Qv (fun (_ : Unit) => True) (fun u t => k_at D (TY tk) A ((fun _ => wM tk h ad (cpK g f d 48) la ++ tl) u) t) A) (by decide) (Nat.le_of_ble_eq_true rfl) ?_
  intro p e s m args below meth c Q A ls hQ hx hb hr hlk hin hts hT hown hml hnw hP hK hD hA hsz hl
  have hS : va_S A s.heap s.heap [] := va_S.rf
  have hc0 : 0 + 0 ≤ 0 ∧ 0 + 0 ≤ 0 := ⟨by decide, by decide⟩
  have hl : lv_has ls 4 [(0, .ref h), (1, .int (nI f)), (2, .int (nI d))] := hl
  have hP : va_P D CC (wM tk h ad g la ++ tl) s.heap := hP
  have hK : va_K D CC (TY tk) s := hK
  refine lv_iconst (v := nI 0) hx hb d_M_copy_0 (by decide) ?_
  refine lv_istore_n (lv' := [(3, .int (nI 0)), (0, .ref h), (1, .int (nI f)), (2, .int (nI d))]) hx hb d_M_copy_1 rfl hl (by decide) rfl (fun ls hl => ?_)
  have hP : va_P D CC (wM tk h ad (cpK g f d 0) la ++ tl) s.heap := by rw [cpK_0]; exact hP
  have hD : va_D A (wM tk h ad (cpK g f d 0) la ++ tl) := by rw [cpK_0]; exact hD
  have key2 : ∀ (n2 : Nat) (k : Nat) (ls : Array Slot) (H : Heap) (locs : List Loc), 48 - k < n2 → (k ≤ 48) → lv_has ls 4 [(0, .ref h), (1, .int (nI f)), (2, .int (nI d)), (3, .int (nI k))] → va_P D CC (wM tk h ad (cpK g f d k) la ++ tl) H → va_D A (wM tk h ad (cpK g f d k) la ++ tl) → va_S A s.heap H locs → W p l e ({ frames := 0, cells := 0, slots := 0, locals := 0 } : Room) s m args below meth c H locs 0 0 Q (F0 m 2 ls []) := by
    intro n2
    induction n2 with
    | zero => intro k ls H locs hn; exact absurd hn (Nat.not_lt_zero _)
    | succ n2 ih2 =>
      intro k ls H locs hn2 hk hl hP hD hS
      refine lv_iload_n hx hb d_M_copy_2 rfl (lv_at hl 3 rfl) ?_
      refine lv_bipush (v := nI 48) hx hb d_M_copy_3 (by decide) ?_
      refine st_icmp_ge hx hb (by omega) (by omega) d_M_copy_5 (tgt := 58) (by decide) (fun hc5 => ?_) (fun hc5 => ?_)
      · skip
        exact k_vret hQ hx hb hr hlk hK hP hD hS () ((show k = 48 by omega) ▸ rfl) trivial d_M_copy_58
      · skip
        refine lv_aload_n hx hb d_M_copy_8 rfl (lv_at hl 0 rfl) ?_
        refine gf_M_7 (v := .ref (ad 1)) hx hb hT hown hK hP 0 rfl rfl d_M_copy_9 ?_
        refine lv_bipush (v := nI 48) hx hb d_M_copy_12 (by decide) ?_
        refine lv_iload_n hx hb d_M_copy_14 rfl (lv_at hl 2 rfl) ?_
        refine st_imul hx hb d_M_copy_15 ?_
        refine lv_iload_n hx hb d_M_copy_16 rfl (lv_at hl 3 rfl) ?_
        refine st_iadd hx hb d_M_copy_17 ?_
        refine lv_aload_n hx hb d_M_copy_18 rfl (lv_at hl 0 rfl) ?_
        refine gf_M_7 (v := .ref (ad 1)) hx hb hT hown hK hP 0 rfl rfl d_M_copy_19 ?_
        refine lv_bipush (v := nI 48) hx hb d_M_copy_22 (by decide) ?_
        refine lv_iload_n hx hb d_M_copy_24 rfl (lv_at hl 1 rfl) ?_
        refine st_imul hx hb d_M_copy_25 ?_
        refine lv_iload_n hx hb d_M_copy_26 rfl (lv_at hl 3 rfl) ?_
        refine st_iadd hx hb d_M_copy_27 ?_
        refine st_zald hx hb hK hP 1 1 rfl rfl (by omega) (by decide) d_M_copy_28 ?_
        refine st_zast hx hb hK hP hD hS 1 1 rfl rfl (bz_n (cpK_z hz f d k) _) (by omega) (by decide) d_M_copy_29 (fun H locs hP hD hS => ?_)
        have hP : va_P D CC (wM tk h ad (mup (cpK g f d k) 1 ((48 * d) + k) ((cpK g f d k) 1 ((48 * f) + k))) la ++ tl) H := hP
        have hD : va_D A (wM tk h ad (mup (cpK g f d k) 1 ((48 * d) + k) ((cpK g f d k) 1 ((48 * f) + k))) la ++ tl) := hD
        refine lv_aload_n hx hb d_M_copy_30 rfl (lv_at hl 0 rfl) ?_
        refine gf_M_13 (v := .ref (ad 2)) hx hb hT hown hK hP 0 rfl rfl d_M_copy_31 ?_
        refine lv_bipush (v := nI 48) hx hb d_M_copy_34 (by decide) ?_
        refine lv_iload_n hx hb d_M_copy_36 rfl (lv_at hl 2 rfl) ?_
        refine st_imul hx hb d_M_copy_37 ?_
        refine lv_iload_n hx hb d_M_copy_38 rfl (lv_at hl 3 rfl) ?_
        refine st_iadd hx hb d_M_copy_39 ?_
        refine lv_aload_n hx hb d_M_copy_40 rfl (lv_at hl 0 rfl) ?_
        refine gf_M_13 (v := .ref (ad 2)) hx hb hT hown hK hP 0 rfl rfl d_M_copy_41 ?_
        refine lv_bipush (v := nI 48) hx hb d_M_copy_44 (by decide) ?_
        refine lv_iload_n hx hb d_M_copy_46 rfl (lv_at hl 1 rfl) ?_
        refine st_imul hx hb d_M_copy_47 ?_
        refine lv_iload_n hx hb d_M_copy_48 rfl (lv_at hl 3 rfl) ?_
        refine st_iadd hx hb d_M_copy_49 ?_
        refine st_iald hx hb hK hP 2 0 rfl rfl (by omega) (by decide) d_M_copy_50 ?_
        refine st_iast hx hb hK hP hD hS 2 0 rfl rfl (by omega) (by decide) d_M_copy_51 (fun H locs hP hD hS => ?_)
        have hP : va_P D CC (wM tk h ad (mup (mup (cpK g f d k) 1 ((48 * d) + k) ((cpK g f d k) 1 ((48 * f) + k))) 2 ((48 * d) + k) ((cpK g f d k) 2 ((48 * f) + k))) la ++ tl) H := hP
        have hD : va_D A (wM tk h ad (mup (mup (cpK g f d k) 1 ((48 * d) + k) ((cpK g f d k) 1 ((48 * f) + k))) 2 ((48 * d) + k) ((cpK g f d k) 2 ((48 * f) + k))) la ++ tl) := hD
        refine lv_iinc (k := 3) (v := nI (k + 1)) (lv' := [(3, .int (nI (k + 1))), (0, .ref h), (1, .int (nI f)), (2, .int (nI d))]) hx hb d_M_copy_52 hl rfl (nI_add _ _) (by decide) rfl (fun ls hl => ?_)
        refine lv_goto hx hb d_M_copy_55 (tgt := 2) (by decide) ?_
        rw [cpK_step g hft (by omega)] at hP hD
        exact ih2 (k + 1) ls _ _ (by first | omega | simp_all) (by omega) (lv_sub hl [1, 2, 3, 0] rfl) hP hD hS
  exact key2 _ 0 ls _ _ (Nat.lt_succ_self _) (by omega) (lv_sub hl [1, 2, 3, 0] rfl) hP hD hS
