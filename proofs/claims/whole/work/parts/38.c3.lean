def ldP (X : List kv_I) (u : Nat → Nat → Int32) (k : Nat) : Prop := ∀ j, j < k → u 3 j = (if gt_ X j = none then nI 0 else nI 1) ∧ ∀ v, gt_ X j = some v → u 4 j = v
theorem ldP_step {X : List kv_I} {u : Nat → Nat → Int32} {k : Nat} (h : ldP X u k) {z v : Int32} (hz : z = if gt_ X k = none then nI 0 else nI 1) (hv : ∀ w, gt_ X k = some w → v = w) : ldP X (mup (mup u 3 k z) 4 k v) (k + 1) := by
  intro j hj
  rw [mup_ne (show (3 : Nat) ≠ 4 by decide), mup_eq, mup_eq, mup_ne (show (4 : Nat) ≠ 3 by decide)]
  unfold upd
  by_cases e : j = k
  · subst e
    rw [if_pos rfl, if_pos rfl]
    exact ⟨hz, hv⟩
  · rw [if_neg e, if_neg e]
    exact h j (by omega)
theorem z01 {p : Prop} [Decidable p] : (if p then nI 0 else nI 1) = 0 ∨ (if p then nI 0 else nI 1) = 1 := by
  split
  · exact Or.inl rfl
  · exact Or.inr rfl
theorem z01n {p : Prop} [Decidable p] : vp_nar .boolean (if p then nI 0 else nI 1) = (if p then nI 0 else nI 1) := by split <;> decide
theorem z01w {p : Prop} [Decidable p] : narrow .boolean (.int (if p then nI 0 else nI 1)) = .int (if p then nI 0 else nI 1) := by split <;> decide
theorem frx_2 {L : List Nat} {g u : Nat → Nat → Int32} (h : frx L g u) {a i : Nat} {v : Int32} (ha : a ∈ L) : frx L g (mup u a i v) := fun x hx => (mup_ne (fun q => hx (by rw [q]; exact ha))).trans (h x hx)

set_option maxHeartbeats 4000000 in
set_option maxRecDepth 100000 in
theorem c_T_load (l : Launch) (D : va_G) (tk : Nat → ClassId) (sz : Nat) (ad : Nat → Nat) (g : Nat → Nat → Int32) (rr : Nat → Nat → Option Nat) (tl : va_W) (S : List ck_I) (ca : Nat → Nat) (bl : Nat → Nat → Option Nat) (hst : sI tk tl S ca bl) (X : List kv_I) (hX : so X) (tp : Option Nat) (htp : tOf S ca X tp) (hz : bz (g 3)) : Met l y_T_load w_T_load ({ frames := 3, cells := 0, slots := 0, locals := 66 }) (va_Pc [.ref (ad 5), va_rf tp] (k_pre D (TY tk) sz (wC tk ad g rr ++ tl))) (va_Qv (fun (u : Nat → Nat → Int32) => frx [3, 4] g u ∧ bz (u 3) ∧ ldP X u 48) (fun u t => k_at D (TY tk) (va_A (wC tk ad g rr ++ tl) sz) ((fun u => wC tk ad u rr ++ tl) u) t) (va_A (wC tk ad g rr ++ tl) sz)) 0 0 (va_A (wC tk ad g rr ++ tl) sz) := by
  refine k_ofW (fun A => va_Qv (fun (u : Nat → Nat → Int32) => frx [3, 4] g u ∧ bz (u 3) ∧ ldP X u 48) (fun u t => k_at D (TY tk) A ((fun u => wC tk ad u rr ++ tl) u) t) A) (by decide) (by cases tp <;> exact Nat.le_of_ble_eq_true rfl) ?_
  intro p e s m args below meth c Q A ls hQ hx hb hr hlk hin hts hT hown hml hnw hP hK hD hA hsz hl
  have hS : va_S A s.heap s.heap [] := va_S.rf
  have hc0 : 0 + 0 ≤ 0 ∧ 0 + 0 ≤ 0 := ⟨by decide, by decide⟩
  replace hl : lv_has ls 4 [(0, .ref (ad 5)), (1, va_rf tp)] := by cases tp <;> exact hl
  replace hP : va_P D CC (wC tk ad g rr ++ tl) s.heap := hP
  replace hK : va_K D CC (TY tk) s := hK
  refine lv_iconst (v := nI 0) hx hb d_T_load_0 (by decide) ?_
  refine lv_istore_n (lv' := [(2, .int (nI 0)), (0, .ref (ad 5)), (1, va_rf tp)]) hx hb d_T_load_1 rfl hl (by decide) (by generalize tp = z9; cases z9 <;> rfl) (fun ls hl => ?_)
  have key2 : ∀ (n2 : Nat) (k : Nat) (u : Nat → Nat → Int32) (ls : Array Slot) (H : Heap) (locs : List Loc), 48 - k < n2 → (k ≤ 48) → (frx [3, 4] g u) → (bz (u 3)) → (ldP X u k) → lv_has ls 4 [(0, .ref (ad 5)), (1, va_rf tp), (2, .int (nI k))] → va_P D CC (wC tk ad u rr ++ tl) H → va_D A (wC tk ad u rr ++ tl) → va_S A s.heap H locs → W p l e ({ frames := 3, cells := 0, slots := 0, locals := 66 } : Room) s m args below meth c H locs 0 0 Q (F0 m 2 ls []) := by
    intro n2
    induction n2 with
    | zero => intro k u ls H locs hn; exact absurd hn (Nat.not_lt_zero _)
    | succ n2 ih2 =>
      intro k u ls H locs hn2 hk hfr hbz hlo hl hP hD hS
      refine lv_iload_n hx hb d_T_load_2 rfl (lv_at hl 2 rfl) ?_
      refine lv_bipush (v := nI 48) hx hb d_T_load_3 (by decide) ?_
      refine st_icmp_ge hx hb (by omega) (by omega) d_T_load_5 (tgt := 42) (by decide) (fun hc5 => ?_) (fun hc5 => ?_)
      · skip
        exact k_vret hQ hx hb hr hlk hK hP hD hS u rfl (⟨hfr, hbz, (show k = 48 by omega) ▸ hlo⟩) d_T_load_42
      · skip
        refine sq_aload_n hx hb d_T_load_8 rfl (lv_at hl 1 rfl) ?_
        refine lv_iload_n hx hb d_T_load_9 rfl (lv_at hl 2 rfl) ?_
        refine k_callq (va_runSN (As := [va_rf tp, .int (nI k)]) (rest := []) ⟨hx, hb, hml, hown, hts⟩ (c_K_bottomFor l D tk H.size (wC tk ad u rr ++ tl) S ca bl (sI_C hst) X hX tp htp k (by omega)) ⟨(va_cnB 2 hts (gB t_215) rfl rfl rfl (hnw.1 _ _ _ _ n_213) (hT _ t_1) (by decide +kernel) ⟨Nat.le_of_ble_eq_true rfl, Nat.le_of_ble_eq_true rfl⟩), hT _ t_214, trivial⟩ (k_preS hP hK hD hnw) rfl rfl hl.1 rfl (lv_room (Nat.le_of_ble_eq_true rfl)) d_T_load_10 hc0) hD hS hA (fun r10 Y9 H locs ⟨hbo, hgt⟩ hP hD hK hS => ?_)
        replace hP : va_P D CC (wC tk ad u rr ++ tl) H := hP
        replace hD : va_D A (wC tk ad u rr ++ tl) := hD
        refine sq_astore_n (lv' := [(3, va_rf r10), (0, .ref (ad 5)), (1, va_rf tp), (2, .int (nI k))]) hx hb d_T_load_13 rfl hl (by decide) rfl (fun ls hl => ?_)
        refine lv_aload_n hx hb d_T_load_14 rfl (lv_at hl 1 rfl) ?_
        refine gf_T_9 (v := .ref (ad 6)) hx hb hT hown hK hP 5 rfl rfl d_T_load_15 ?_
        refine lv_iload_n hx hb d_T_load_18 rfl (lv_at hl 3 rfl) ?_
        refine sq_aload_n hx hb d_T_load_19 rfl (lv_at hl 0 rfl) ?_
        refine lv_iload_n hx hb d_T_load_20 rfl (lv_at hl 3 rfl) ?_
        refine k_calli (va_runSN (As := [va_rf r10, .int (nI k)]) (rest := [.int (nI k), .ref (ad 6)]) ⟨hx, hb, hml, hown, hts⟩ (c_K_holds l D tk H.size (wC tk ad u rr ++ tl) S ca bl (sI_C hst) r10 Y9 hbo k (by omega)) ⟨(va_cnB 2 hts (gB t_226) rfl rfl rfl (hnw.1 _ _ _ _ n_224) (hT _ t_1) (by decide +kernel) ⟨Nat.le_of_ble_eq_true rfl, Nat.le_of_ble_eq_true rfl⟩), hT _ t_225, trivial⟩ (k_preS hP hK hD hnw) rfl rfl hl.1 rfl (lv_room (Nat.le_of_ble_eq_true rfl)) d_T_load_21 hc0) hD hS hA (fun _ _ H locs hp21 hP hD hK hS => ?_)
        subst hp21
        replace hP : va_P D CC (wC tk ad u rr ++ tl) H := hP
        replace hD : va_D A (wC tk ad u rr ++ tl) := hD
        refine st_zast hx hb hK hP hD hS 6 1 rfl rfl z01n (by omega) (by decide) d_T_load_24 (fun H locs hP hD hS => ?_)
        replace hP : va_P D CC (wC tk ad (mup u 3 k (if gt_ Y9 k = none then nI 0 else nI 1)) rr ++ tl) H := Eq.mp (congrArg (fun w => va_P D CC w H) (sC_6 tk ad u rr tl k (if gt_ Y9 k = none then nI 0 else nI 1))) hP
        replace hD : va_D A (wC tk ad (mup u 3 k (if gt_ Y9 k = none then nI 0 else nI 1)) rr ++ tl) := Eq.mp (congrArg (fun w => va_D A w) (sC_6 tk ad u rr tl k (if gt_ Y9 k = none then nI 0 else nI 1))) hD
        refine lv_aload_n hx hb d_T_load_25 rfl (lv_at hl 1 rfl) ?_
        refine gf_T_15 (v := .ref (ad 7)) hx hb hT hown hK hP 5 rfl rfl d_T_load_26 ?_
        refine lv_iload_n hx hb d_T_load_29 rfl (lv_at hl 3 rfl) ?_
        refine sq_aload_n hx hb d_T_load_30 rfl (lv_at hl 0 rfl) ?_
        refine lv_iload_n hx hb d_T_load_31 rfl (lv_at hl 3 rfl) ?_
        refine k_calli (va_runSN (As := [va_rf r10, .int (nI k)]) (rest := [.int (nI k), .ref (ad 7)]) ⟨hx, hb, hml, hown, hts⟩ (c_K_valueIn l D tk H.size (wC tk ad (mup u 3 k (if gt_ Y9 k = none then nI 0 else nI 1)) rr ++ tl) S ca bl (sI_C hst) r10 Y9 hbo k (by omega)) ⟨(va_cnB 2 hts (gB t_230) rfl rfl rfl (hnw.1 _ _ _ _ n_228) (hT _ t_1) (by decide +kernel) ⟨Nat.le_of_ble_eq_true rfl, Nat.le_of_ble_eq_true rfl⟩), hT _ t_229, trivial⟩ (k_preS hP hK hD hnw) rfl rfl hl.1 rfl (lv_room (Nat.le_of_ble_eq_true rfl)) d_T_load_32 hc0) hD hS hA (fun r32 _ H locs hp32 hP hD hK hS => ?_)
        replace hP : va_P D CC (wC tk ad (mup u 3 k (if gt_ Y9 k = none then nI 0 else nI 1)) rr ++ tl) H := hP
        replace hD : va_D A (wC tk ad (mup u 3 k (if gt_ Y9 k = none then nI 0 else nI 1)) rr ++ tl) := hD
        refine st_iast hx hb hK hP hD hS 7 0 rfl rfl (by omega) (by decide) d_T_load_35 (fun H locs hP hD hS => ?_)
        replace hP : va_P D CC (wC tk ad (mup (mup u 3 k (if gt_ Y9 k = none then nI 0 else nI 1)) 4 k r32) rr ++ tl) H := Eq.mp (congrArg (fun w => va_P D CC w H) (sC_7 tk ad (mup u 3 k (if gt_ Y9 k = none then nI 0 else nI 1)) rr tl k r32)) hP
        replace hD : va_D A (wC tk ad (mup (mup u 3 k (if gt_ Y9 k = none then nI 0 else nI 1)) 4 k r32) rr ++ tl) := Eq.mp (congrArg (fun w => va_D A w) (sC_7 tk ad (mup u 3 k (if gt_ Y9 k = none then nI 0 else nI 1)) rr tl k r32)) hD
        refine lv_iinc (k := 3) (v := nI (k + 1)) (lv' := [(2, .int (nI (k + 1))), (3, va_rf r10), (0, .ref (ad 5)), (1, va_rf tp)]) hx hb d_T_load_36 hl rfl (nI_add _ _) (by decide) (by generalize tp = z9; cases z9 <;> rfl) (fun ls hl => ?_)
        refine lv_goto hx hb d_T_load_39 (tgt := 2) (by decide) ?_
        exact ih2 (k + 1) (mup (mup u 3 k (if gt_ Y9 k = none then nI 0 else nI 1)) 4 k r32) ls _ _ (by omega) (by omega) (frx_2 (frx_2 hfr (by decide)) (by decide)) (by rw [mup_ne (show (3 : Nat) ≠ 4 by decide), mup_eq]; exact bz_up hbz _ z01) (ldP_step hlo (by rw [hgt]) (fun w9 hw9 => hp32 w9 (by rw [hgt]; exact hw9))) (lv_sub hl [2, 3, 0] rfl) hP hD hS
  exact key2 _ 0 g ls _ _ (Nat.lt_succ_self _) (by decide) frx_r hz (fun j hj => absurd hj (Nat.not_lt_zero _)) (lv_sub hl [1, 2, 0] rfl) hP hD hS

set_option maxHeartbeats 4000000 in
set_option maxRecDepth 100000 in
theorem c_K_rollback (l : Launch) (D : va_G) (tk : Nat → ClassId) (sz : Nat) (ad : Nat → Nat) (g : Nat → Nat → Int32) (rr : Nat → Nat → Option Nat) (tl : va_W) (S : List ck_I) (ca : Nat → Nat) (bl : Nat → Nat → Option Nat) (hst : sI tk tl S ca bl) (Xs : Nat → List kv_I) (V : Nat) (hV1 : 1 ≤ V) (hV2 : V ≤ 16) (hh : ∀ v, v < V → so (Xs v) ∧ tOf S ca (Xs v) (rr 1 v)) (hV : g 2 0 = nI V) (hz : bz (g 3)) : Met l y_K_rollback w_K_rollback ({ frames := 4, cells := 0, slots := 0, locals := 89 }) (va_Pc [.ref (ad 0)] (k_pre D (TY tk) sz (wC tk ad g rr ++ tl))) (va_Qv (fun (u : Nat → Nat → Int32) => frx [3, 4] g u ∧ bz (u 3) ∧ ldP (Xs (V - 1)) u 48) (fun u t => k_at D (TY tk) (va_A (wC tk ad g rr ++ tl) sz) ((fun u => wC tk ad u rr ++ tl) u) t) (va_A (wC tk ad g rr ++ tl) sz)) 0 0 (va_A (wC tk ad g rr ++ tl) sz) := by
  refine k_ofW (fun A => va_Qv (fun (u : Nat → Nat → Int32) => frx [3, 4] g u ∧ bz (u 3) ∧ ldP (Xs (V - 1)) u 48) (fun u t => k_at D (TY tk) A ((fun u => wC tk ad u rr ++ tl) u) t) A) (by decide) (Nat.le_of_ble_eq_true rfl) ?_
  intro p e s m args below meth c Q A ls hQ hx hb hr hlk hin hts hT hown hml hnw hP hK hD hA hsz hl
  have hS : va_S A s.heap s.heap [] := va_S.rf
  have hc0 : 0 + 0 ≤ 0 ∧ 0 + 0 ≤ 0 := ⟨by decide, by decide⟩
  replace hl : lv_has ls 1 [(0, .ref (ad 0))] := hl
  replace hP : va_P D CC (wC tk ad g rr ++ tl) s.heap := hP
  replace hK : va_K D CC (TY tk) s := hK
  refine lv_aload_n hx hb d_K_rollback_0 rfl (lv_at hl 0 rfl) ?_
  refine gf_K_26 (v := .ref (ad 5)) hx hb hT hown hK hP 0 rfl rfl d_K_rollback_1 ?_
  refine lv_aload_n hx hb d_K_rollback_4 rfl (lv_at hl 0 rfl) ?_
  refine gf_K_19 (v := .ref (ad 3)) hx hb hT hown hK hP 0 rfl rfl d_K_rollback_5 ?_
  refine gf_K_93 (v := .ref (ad 4)) hx hb hT hown hK hP 3 rfl rfl d_K_rollback_8 ?_
  refine lv_aload_n hx hb d_K_rollback_11 rfl (lv_at hl 0 rfl) ?_
  refine gf_K_19 (v := .ref (ad 3)) hx hb hT hown hK hP 0 rfl rfl d_K_rollback_12 ?_
  refine gf_K_89 (v := .int (g 2 0)) hx hb hT hown hK hP 3 rfl rfl d_K_rollback_15 ?_
  refine st_top (show g 2 0 = nI V from hV) ?_
  refine lv_iconst (v := nI 1) hx hb d_K_rollback_18 (by decide) ?_
  refine st_isub hx hb (by omega) d_K_rollback_19 ?_
  refine st_aald hx hb hK hP 4 3 rfl rfl (by omega) (by decide) d_K_rollback_20 ?_
  refine k_callv (va_runV (As := [va_rf (rr 1 (V - 1))]) (rest := []) ⟨hx, hb, hml, hown, hts⟩ (c_T_load l D tk s.heap.size ad g rr tl S ca bl hst (Xs (V - 1)) (hh _ (by omega)).1 (rr 1 (V - 1)) (hh _ (by omega)).2 hz) (cwV 1 hts (gV t_209 t_210 t_211 t_4 t_212) rfl rfl rfl (by decide +kernel) ⟨Nat.le_of_ble_eq_true rfl, Nat.le_of_ble_eq_true rfl⟩) (k_preV hP hK hD hnw 5 rfl rfl) rfl rfl hl.1 rfl (lv_room (Nat.le_of_ble_eq_true rfl)) d_K_rollback_21 hc0) hD hS hA (fun u H locs hpl hP hD hK hS => ?_)
  replace hP : va_P D CC (wC tk ad u rr ++ tl) H := hP
  replace hD : va_D A (wC tk ad u rr ++ tl) := hD
  exact k_vret hQ hx hb hr hlk hK hP hD hS u rfl hpl d_K_rollback_24

def hs_ (l : Nat) (X : List kv_I) : Int32 := hs l (im l X)

theorem tOf_some {S : List ck_I} {ca : Nat → Nat} {X : List kv_I} {t : Option Nat} (h : tOf S ca X t) (ht : ¬ t = none) : ∃ d l, t = some (ca d) ∧ S[d]? = some (l, X) ∧ l + 1 = hg X := h.resolve_left (fun q => ht q.2)
theorem tOf_none {S : List ck_I} {ca : Nat → Nat} {X : List kv_I} {t : Option Nat} (h : tOf S ca X t) (ht : t = none) : X = [] := by
  rcases h with h | ⟨d, l, e, _⟩
  · exact h.1
  · rw [ht] at e; cases e
theorem tOf_rt {S : List ck_I} {ca : Nat → Nat} {bl : Nat → Nat → Option Nat} (hsk : st_ok S ca bl) {X : List kv_I} {d l : Nat} (h : S[d]? = some (l, X)) (hl : l + 1 = hg X) : rt X = hs_ l X := by
  have hX := (hsk.2.2 d l X h).2.1
  unfold rt hs_
  rw [if_neg hX, show hg X - 1 = l by omega]
/-- the seal, by halves -/
def slC (f : Nat → Int32) : Nat → Nat → Nat → Int32
  | 0, p, _ => lf p (f p)
  | d + 1, p, q => if q < 2 then lf p (f p) else jn (slC f d p (hf q)) (slC f d (p + hf q) (q - hf q))
theorem slC_lt (f : Nat → Int32) (d p : Nat) {q : Nat} (h : q < 2) : slC f d p q = lf p (f p) := by
  cases d with
  | zero => rfl
  | succ d => rw [slC, if_pos h]
theorem slC_ge (f : Nat → Int32) {k d : Nat} (hk : k = d + 1) (p : Nat) {q : Nat} (h : ¬ q < 2) : slC f k p q = jn (slC f d p (hf q)) (slC f d (p + hf q) (q - hf q)) := by
  subst hk
  rw [slC, if_neg h]
theorem hf_b {q : Nat} (h : 2 ≤ q) (h2 : q ≤ 16) : 1 ≤ hf q ∧ hf q < q ∧ hf q ≤ 8 ∧ q - hf q ≤ 8 ∧ (q ≤ 8 → hf q ≤ 4 ∧ q - hf q ≤ 4) ∧ (q ≤ 4 → hf q ≤ 2 ∧ q - hf q ≤ 2) ∧ (q ≤ 2 → hf q ≤ 1 ∧ q - hf q ≤ 1) := by
  unfold hf
  split
  · omega
  · split
    · omega
    · split <;> omega

section TQ
variable {p : Program} {l : Launch} {e : Env} {R : Room} {s : State} {m : MethodId} {args : Array Value} {below : List Frame} {meth : Method} {c : Code} {H : Heap} {locs : List Loc} {cells slots : Nat} {Q : State → Prop}
variable {pc : Nat} {ls : Array Slot} {rest : List Value}
theorem st_topq {x : Option Nat} {a : Nat} (h : x = some a) (k : W p l e R s m args below meth c H locs cells slots Q (F0 m pc ls (.ref a :: rest))) : W p l e R s m args below meth c H locs cells slots Q (F0 m pc ls (va_rf x :: rest)) := by rw [h]; exact k
end TQ

set_option maxHeartbeats 4000000 in
set_option maxRecDepth 100000 in
theorem c_H_rootOf (l : Launch) (D : va_G) (tk : Nat → ClassId) (sz : Nat) (ad : Nat → Nat) (g : Nat → Nat → Int32) (rr : Nat → Nat → Option Nat) (tl : va_W) (S : List ck_I) (ca : Nat → Nat) (bl : Nat → Nat → Option Nat) (hst : sI tk tl S ca bl) (Xs : Nat → List kv_I) (V : Nat) (hV1 : 1 ≤ V) (hV2 : V ≤ 16) (hh : ∀ v, v < V → so (Xs v) ∧ tOf S ca (Xs v) (rr 1 v)) (v : Nat) (hv : v < V) : Met l y_H_rootOf w_H_rootOf ({ frames := 0, cells := 0, slots := 0, locals := 0 }) (va_Pc [.ref (ad 3), .int (nI v)] (k_pre D (TY tk) sz (wC tk ad g rr ++ tl))) (va_Qi (fun (r : Int32) (_ : Unit) => r = rt (Xs v)) (fun u t => k_at D (TY tk) (va_A (wC tk ad g rr ++ tl) sz) ((fun _ => wC tk ad g rr ++ tl) u) t) (va_A (wC tk ad g rr ++ tl) sz)) 0 0 (va_A (wC tk ad g rr ++ tl) sz) := by
  refine k_ofW (fun A => va_Qi (fun (r : Int32) (_ : Unit) => r = rt (Xs v)) (fun u t => k_at D (TY tk) A ((fun _ => wC tk ad g rr ++ tl) u) t) A) (by decide) (Nat.le_of_ble_eq_true rfl) ?_
  intro p e s m args below meth c Q A ls hQ hx hb hr hlk hin hts hT hown hml hnw hP hK hD hA hsz hl
  have hS : va_S A s.heap s.heap [] := va_S.rf
  have hc0 : 0 + 0 ≤ 0 ∧ 0 + 0 ≤ 0 := ⟨by decide, by decide⟩
  replace hl : lv_has ls 2 [(0, .ref (ad 3)), (1, .int (nI v))] := hl
  replace hP : va_P D CC (wC tk ad g rr ++ tl) s.heap := hP
  replace hK : va_K D CC (TY tk) s := hK
  refine lv_aload_n hx hb d_H_rootOf_0 rfl (lv_at hl 0 rfl) ?_
  refine gf_H_11 (v := .ref (ad 4)) hx hb hT hown hK hP 3 rfl rfl d_H_rootOf_1 ?_
  refine lv_iload_n hx hb d_H_rootOf_4 rfl (lv_at hl 1 rfl) ?_
  refine st_aald hx hb hK hP 4 3 rfl rfl (by omega) (by decide) d_H_rootOf_5 ?_
  refine sq_ifnonnull (r := rr 1 v) hx hb d_H_rootOf_6 (tgt := 13) (by decide) (fun hc6 => ?_) (fun hc6 => ?_)
  · skip
    obtain ⟨d9, l9, h9a, h9b, h9c⟩ := tOf_some (hh v hv).2 hc6
    obtain ⟨q, ka, va, ba, fk, fv, h1, h2, h3, h4, h5⟩ := hst.2 d9 l9 (Xs v) h9b
    refine lv_aload_n hx hb d_H_rootOf_13 rfl (lv_at hl 0 rfl) ?_
    refine gf_H_11 (v := .ref (ad 4)) hx hb hT hown hK hP 3 rfl rfl d_H_rootOf_14 ?_
    refine lv_iload_n hx hb d_H_rootOf_17 rfl (lv_at hl 1 rfl) ?_
    refine st_aald hx hb hK hP 4 3 rfl rfl (by omega) (by decide) d_H_rootOf_18 ?_
    refine st_topq (show rr 1 v = some (ca d9) from h9a) ?_
    refine gf_H_21 (v := .int (hs l9 (im l9 (Xs v)))) hx hb hT hown hK hP (q + 18) ((wC_tl tk ad g rr tl q).trans h1) rfl d_H_rootOf_19 ?_
    exact k_iret (v := hs l9 (im l9 (Xs v))) hQ hx hb hr hlk hK hP hD hS () rfl (by first | exact (tOf_rt hst.1 h9b h9c).symm | (rw [tOf_none (hh v hv).2 hc6]; rfl)) d_H_rootOf_22
  · skip
    refine lv_iconst (v := nI 0) hx hb d_H_rootOf_9 (by decide) ?_
    refine lv_goto hx hb d_H_rootOf_10 (tgt := 22) (by decide) ?_
    exact k_iret (v := nI 0) hQ hx hb hr hlk hK hP hD hS () rfl (by first | exact (tOf_rt hst.1 h9b h9c).symm | (rw [tOf_none (hh v hv).2 hc6]; rfl)) d_H_rootOf_22

set_option maxHeartbeats 4000000 in
set_option maxRecDepth 100000 in
theorem c_H_seal0 (l : Launch) (D : va_G) (tk : Nat → ClassId) (sz : Nat) (ad : Nat → Nat) (g : Nat → Nat → Int32) (rr : Nat → Nat → Option Nat) (tl : va_W) (S : List ck_I) (ca : Nat → Nat) (bl : Nat → Nat → Option Nat) (hst : sI tk tl S ca bl) (Xs : Nat → List kv_I) (V : Nat) (hV1 : 1 ≤ V) (hV2 : V ≤ 16) (hh : ∀ v, v < V → so (Xs v) ∧ tOf S ca (Xs v) (rr 1 v)) (p9 q9 : Nat) (hq1 : 1 ≤ q9) (hq2 : q9 ≤ 1) (hpq : p9 + q9 ≤ V) : Met l y_H_seal w_H_seal ({ frames := 2, cells := 0, slots := 0, locals := 43 }) (va_Pc [.ref (ad 3), .int (nI p9), .int (nI q9)] (k_pre D (TY tk) sz (wC tk ad g rr ++ tl))) (va_Qi (fun (r : Int32) (_ : Unit) => r = slC (fun v => rt (Xs v)) 0 p9 q9) (fun u t => k_at D (TY tk) (va_A (wC tk ad g rr ++ tl) sz) ((fun _ => wC tk ad g rr ++ tl) u) t) (va_A (wC tk ad g rr ++ tl) sz)) 0 0 (va_A (wC tk ad g rr ++ tl) sz) := by
  refine k_ofW (fun A => va_Qi (fun (r : Int32) (_ : Unit) => r = slC (fun v => rt (Xs v)) 0 p9 q9) (fun u t => k_at D (TY tk) A ((fun _ => wC tk ad g rr ++ tl) u) t) A) (by decide) (Nat.le_of_ble_eq_true rfl) ?_
  intro p e s m args below meth c Q A ls hQ hx hb hr hlk hin hts hT hown hml hnw hP hK hD hA hsz hl
  have hS : va_S A s.heap s.heap [] := va_S.rf
  have hc0 : 0 + 0 ≤ 0 ∧ 0 + 0 ≤ 0 := ⟨by decide, by decide⟩
  replace hl : lv_has ls 4 [(0, .ref (ad 3)), (1, .int (nI p9)), (2, .int (nI q9))] := hl
  replace hP : va_P D CC (wC tk ad g rr ++ tl) s.heap := hP
  replace hK : va_K D CC (TY tk) s := hK
  refine lv_iload_n hx hb d_H_seal_0 rfl (lv_at hl 2 rfl) ?_
  refine lv_iconst (v := nI 2) hx hb d_H_seal_1 (by decide) ?_
  refine st_icmp_ge hx hb (by omega) (by omega) d_H_seal_2 (tgt := 15) (by decide) (fun hc2 => absurd hc2 (by omega)) (fun hc2 => ?_)
  refine lv_iload_n hx hb d_H_seal_5 rfl (lv_at hl 1 rfl) ?_
  refine lv_aload_n hx hb d_H_seal_6 rfl (lv_at hl 0 rfl) ?_
  refine lv_iload_n hx hb d_H_seal_7 rfl (lv_at hl 1 rfl) ?_
  refine k_calli (va_runV (As := [.int (nI p9)]) (rest := [.int (nI p9)]) ⟨hx, hb, hml, hown, hts⟩ (c_H_rootOf l D tk s.heap.size ad g rr tl S ca bl hst Xs V hV1 hV2 hh p9 (by omega)) (cwV 1 hts (gV t_804 t_790 t_791 t_3 t_792) rfl rfl rfl (by decide +kernel) ⟨Nat.le_of_ble_eq_true rfl, Nat.le_of_ble_eq_true rfl⟩) (k_preV hP hK hD hnw 3 rfl rfl) rfl rfl hl.1 rfl (lv_room (Nat.le_of_ble_eq_true rfl)) d_H_seal_8 hc0) hD hS hA (fun _ _ H locs hp8 hP hD hK hS => ?_)
  subst hp8
  replace hP : va_P D CC (wC tk ad g rr ++ tl) H := hP
  replace hD : va_D A (wC tk ad g rr ++ tl) := hD
  refine k_calli (va_runSN (As := [.int (nI p9), .int (rt (Xs p9))]) (rest := []) ⟨hx, hb, hml, hown, hts⟩ (c_K_leafOf l D tk H.size p9 (rt (Xs p9)) (wC tk ad g rr ++ tl)) ⟨(va_cnB 2 hts (gB t_807) rfl rfl rfl (hnw.1 _ _ _ _ n_805) (hT _ t_1) (by decide +kernel) ⟨Nat.le_of_ble_eq_true rfl, Nat.le_of_ble_eq_true rfl⟩), hT _ t_806, trivial⟩ (k_preS hP hK hD hnw) rfl rfl hl.1 rfl (lv_room (Nat.le_of_ble_eq_true rfl)) d_H_seal_11 hc0) hD hS hA (fun _ _ H locs hp11 hP hD hK hS => ?_)
  subst hp11
  replace hP : va_P D CC (wC tk ad g rr ++ tl) H := hP
  replace hD : va_D A (wC tk ad g rr ++ tl) := hD
  exact k_iret (v := lf p9 (rt (Xs p9))) hQ hx hb hr hlk hK hP hD hS () rfl ((slC_lt (fun v => rt (Xs v)) 0 p9 (show q9 < 2 by omega)).symm) d_H_seal_14

set_option maxHeartbeats 4000000 in
set_option maxRecDepth 100000 in
theorem c_H_seal1 (l : Launch) (D : va_G) (tk : Nat → ClassId) (sz : Nat) (ad : Nat → Nat) (g : Nat → Nat → Int32) (rr : Nat → Nat → Option Nat) (tl : va_W) (S : List ck_I) (ca : Nat → Nat) (bl : Nat → Nat → Option Nat) (hst : sI tk tl S ca bl) (Xs : Nat → List kv_I) (V : Nat) (hV1 : 1 ≤ V) (hV2 : V ≤ 16) (hh : ∀ v, v < V → so (Xs v) ∧ tOf S ca (Xs v) (rr 1 v)) (p9 q9 : Nat) (hq1 : 1 ≤ q9) (hq2 : q9 ≤ 2) (hpq : p9 + q9 ≤ V) : Met l y_H_seal w_H_seal ({ frames := 3, cells := 0, slots := 0, locals := 66 }) (va_Pc [.ref (ad 3), .int (nI p9), .int (nI q9)] (k_pre D (TY tk) sz (wC tk ad g rr ++ tl))) (va_Qi (fun (r : Int32) (_ : Unit) => r = slC (fun v => rt (Xs v)) 1 p9 q9) (fun u t => k_at D (TY tk) (va_A (wC tk ad g rr ++ tl) sz) ((fun _ => wC tk ad g rr ++ tl) u) t) (va_A (wC tk ad g rr ++ tl) sz)) 0 0 (va_A (wC tk ad g rr ++ tl) sz) := by
  refine k_ofW (fun A => va_Qi (fun (r : Int32) (_ : Unit) => r = slC (fun v => rt (Xs v)) 1 p9 q9) (fun u t => k_at D (TY tk) A ((fun _ => wC tk ad g rr ++ tl) u) t) A) (by decide) (Nat.le_of_ble_eq_true rfl) ?_
  intro p e s m args below meth c Q A ls hQ hx hb hr hlk hin hts hT hown hml hnw hP hK hD hA hsz hl
  have hS : va_S A s.heap s.heap [] := va_S.rf
  have hc0 : 0 + 0 ≤ 0 ∧ 0 + 0 ≤ 0 := ⟨by decide, by decide⟩
  replace hl : lv_has ls 4 [(0, .ref (ad 3)), (1, .int (nI p9)), (2, .int (nI q9))] := hl
  replace hP : va_P D CC (wC tk ad g rr ++ tl) s.heap := hP
  replace hK : va_K D CC (TY tk) s := hK
  refine lv_iload_n hx hb d_H_seal_0 rfl (lv_at hl 2 rfl) ?_
  refine lv_iconst (v := nI 2) hx hb d_H_seal_1 (by decide) ?_
  refine st_icmp_ge hx hb (by omega) (by omega) d_H_seal_2 (tgt := 15) (by decide) (fun hc2 => ?_) (fun hc2 => ?_)
  · skip
    refine lv_iload_n hx hb d_H_seal_15 rfl (lv_at hl 2 rfl) ?_
    refine k_calli (va_runSN (As := [.int (nI q9)]) (rest := []) ⟨hx, hb, hml, hown, hts⟩ (c_K_half l D tk s.heap.size q9 (by omega) (wC tk ad g rr ++ tl)) ⟨(va_cnB 1 hts (gB t_810) rfl rfl rfl (hnw.1 _ _ _ _ n_808) (hT _ t_1) (by decide +kernel) ⟨Nat.le_of_ble_eq_true rfl, Nat.le_of_ble_eq_true rfl⟩), hT _ t_809, trivial⟩ (k_preS hP hK hD hnw) rfl rfl hl.1 rfl (lv_room (Nat.le_of_ble_eq_true rfl)) d_H_seal_16 hc0) hD hS hA (fun _ _ H locs hp16 hP hD hK hS => ?_)
    subst hp16
    have hhf := hf_b (q := q9) (by omega) (by omega)
    replace hP : va_P D CC (wC tk ad g rr ++ tl) H := hP
    replace hD : va_D A (wC tk ad g rr ++ tl) := hD
    refine lv_istore_n (lv' := [(3, .int (nI (hf q9))), (0, .ref (ad 3)), (1, .int (nI p9)), (2, .int (nI q9))]) hx hb d_H_seal_19 rfl hl (by decide) rfl (fun ls hl => ?_)
    refine lv_aload_n hx hb d_H_seal_20 rfl (lv_at hl 1 rfl) ?_
    refine lv_iload_n hx hb d_H_seal_21 rfl (lv_at hl 2 rfl) ?_
    refine lv_iload_n hx hb d_H_seal_22 rfl (lv_at hl 0 rfl) ?_
    refine k_calli (va_runV (As := [.int (nI p9), .int (nI (hf q9))]) (rest := []) ⟨hx, hb, hml, hown, hts⟩ (c_H_seal0 l D tk H.size ad g rr tl S ca bl hst Xs V hV1 hV2 hh p9 (hf q9) (by omega) (by omega) (by omega)) (cwV 2 hts (gV t_811 t_802 s_5 t_3 t_803) rfl rfl rfl (by decide +kernel) ⟨Nat.le_of_ble_eq_true rfl, Nat.le_of_ble_eq_true rfl⟩) (k_preV hP hK hD hnw 3 rfl rfl) rfl rfl hl.1 rfl (lv_room (Nat.le_of_ble_eq_true rfl)) d_H_seal_23 hc0) hD hS hA (fun _ _ H locs hp23 hP hD hK hS => ?_)
    subst hp23
    replace hP : va_P D CC (wC tk ad g rr ++ tl) H := hP
    replace hD : va_D A (wC tk ad g rr ++ tl) := hD
    refine lv_aload_n hx hb d_H_seal_26 rfl (lv_at hl 1 rfl) ?_
    refine lv_iload_n hx hb d_H_seal_27 rfl (lv_at hl 2 rfl) ?_
    refine lv_iload_n hx hb d_H_seal_28 rfl (lv_at hl 0 rfl) ?_
    refine st_iadd hx hb d_H_seal_29 ?_
    refine lv_iload_n hx hb d_H_seal_30 rfl (lv_at hl 3 rfl) ?_
    refine lv_iload_n hx hb d_H_seal_31 rfl (lv_at hl 0 rfl) ?_
    refine st_isub hx hb (by omega) d_H_seal_32 ?_
    refine k_calli (va_runV (As := [.int (nI (p9 + (hf q9))), .int (nI (q9 - (hf q9)))]) (rest := [.int (slC (fun v => rt (Xs v)) 0 p9 (hf q9))]) ⟨hx, hb, hml, hown, hts⟩ (c_H_seal0 l D tk H.size ad g rr tl S ca bl hst Xs V hV1 hV2 hh (p9 + (hf q9)) (q9 - (hf q9)) (by omega) (by omega) (by omega)) (cwV 2 hts (gV t_811 t_802 s_5 t_3 t_803) rfl rfl rfl (by decide +kernel) ⟨Nat.le_of_ble_eq_true rfl, Nat.le_of_ble_eq_true rfl⟩) (k_preV hP hK hD hnw 3 rfl rfl) rfl rfl hl.1 rfl (lv_room (Nat.le_of_ble_eq_true rfl)) d_H_seal_33 hc0) hD hS hA (fun _ _ H locs hp33 hP hD hK hS => ?_)
    subst hp33
    replace hP : va_P D CC (wC tk ad g rr ++ tl) H := hP
    replace hD : va_D A (wC tk ad g rr ++ tl) := hD
    refine k_calli (va_runSN (As := [.int (slC (fun v => rt (Xs v)) 0 p9 (hf q9)), .int (slC (fun v => rt (Xs v)) 0 (p9 + (hf q9)) (q9 - (hf q9)))]) (rest := []) ⟨hx, hb, hml, hown, hts⟩ (c_K_join l D tk H.size (slC (fun v => rt (Xs v)) 0 p9 (hf q9)) (slC (fun v => rt (Xs v)) 0 (p9 + (hf q9)) (q9 - (hf q9))) (wC tk ad g rr ++ tl)) ⟨(va_cnB 2 hts (gB t_814) rfl rfl rfl (hnw.1 _ _ _ _ n_812) (hT _ t_1) (by decide +kernel) ⟨Nat.le_of_ble_eq_true rfl, Nat.le_of_ble_eq_true rfl⟩), hT _ t_813, trivial⟩ (k_preS hP hK hD hnw) rfl rfl hl.1 rfl (lv_room (Nat.le_of_ble_eq_true rfl)) d_H_seal_36 hc0) hD hS hA (fun _ _ H locs hp36 hP hD hK hS => ?_)
    subst hp36
    replace hP : va_P D CC (wC tk ad g rr ++ tl) H := hP
    replace hD : va_D A (wC tk ad g rr ++ tl) := hD
    exact k_iret (v := jn (slC (fun v => rt (Xs v)) 0 p9 (hf q9)) (slC (fun v => rt (Xs v)) 0 (p9 + (hf q9)) (q9 - (hf q9)))) hQ hx hb hr hlk hK hP hD hS () rfl ((slC_ge (fun v => rt (Xs v)) (k := 1) (d := 0) rfl p9 (show ¬ q9 < 2 by omega)).symm) d_H_seal_39
  · skip
    refine lv_iload_n hx hb d_H_seal_5 rfl (lv_at hl 1 rfl) ?_
    refine lv_aload_n hx hb d_H_seal_6 rfl (lv_at hl 0 rfl) ?_
    refine lv_iload_n hx hb d_H_seal_7 rfl (lv_at hl 1 rfl) ?_
    refine k_calli (va_runV (As := [.int (nI p9)]) (rest := [.int (nI p9)]) ⟨hx, hb, hml, hown, hts⟩ (c_H_rootOf l D tk s.heap.size ad g rr tl S ca bl hst Xs V hV1 hV2 hh p9 (by omega)) (cwV 1 hts (gV t_804 t_790 t_791 t_3 t_792) rfl rfl rfl (by decide +kernel) ⟨Nat.le_of_ble_eq_true rfl, Nat.le_of_ble_eq_true rfl⟩) (k_preV hP hK hD hnw 3 rfl rfl) rfl rfl hl.1 rfl (lv_room (Nat.le_of_ble_eq_true rfl)) d_H_seal_8 hc0) hD hS hA (fun _ _ H locs hp8 hP hD hK hS => ?_)
    subst hp8
    replace hP : va_P D CC (wC tk ad g rr ++ tl) H := hP
    replace hD : va_D A (wC tk ad g rr ++ tl) := hD
    refine k_calli (va_runSN (As := [.int (nI p9), .int (rt (Xs p9))]) (rest := []) ⟨hx, hb, hml, hown, hts⟩ (c_K_leafOf l D tk H.size p9 (rt (Xs p9)) (wC tk ad g rr ++ tl)) ⟨(va_cnB 2 hts (gB t_807) rfl rfl rfl (hnw.1 _ _ _ _ n_805) (hT _ t_1) (by decide +kernel) ⟨Nat.le_of_ble_eq_true rfl, Nat.le_of_ble_eq_true rfl⟩), hT _ t_806, trivial⟩ (k_preS hP hK hD hnw) rfl rfl hl.1 rfl (lv_room (Nat.le_of_ble_eq_true rfl)) d_H_seal_11 hc0) hD hS hA (fun _ _ H locs hp11 hP hD hK hS => ?_)
    subst hp11
    replace hP : va_P D CC (wC tk ad g rr ++ tl) H := hP
    replace hD : va_D A (wC tk ad g rr ++ tl) := hD
    exact k_iret (v := lf p9 (rt (Xs p9))) hQ hx hb hr hlk hK hP hD hS () rfl ((slC_lt (fun v => rt (Xs v)) 1 p9 (show q9 < 2 by omega)).symm) d_H_seal_14

set_option maxHeartbeats 4000000 in
set_option maxRecDepth 100000 in
theorem c_H_seal2 (l : Launch) (D : va_G) (tk : Nat → ClassId) (sz : Nat) (ad : Nat → Nat) (g : Nat → Nat → Int32) (rr : Nat → Nat → Option Nat) (tl : va_W) (S : List ck_I) (ca : Nat → Nat) (bl : Nat → Nat → Option Nat) (hst : sI tk tl S ca bl) (Xs : Nat → List kv_I) (V : Nat) (hV1 : 1 ≤ V) (hV2 : V ≤ 16) (hh : ∀ v, v < V → so (Xs v) ∧ tOf S ca (Xs v) (rr 1 v)) (p9 q9 : Nat) (hq1 : 1 ≤ q9) (hq2 : q9 ≤ 4) (hpq : p9 + q9 ≤ V) : Met l y_H_seal w_H_seal ({ frames := 4, cells := 0, slots := 0, locals := 89 }) (va_Pc [.ref (ad 3), .int (nI p9), .int (nI q9)] (k_pre D (TY tk) sz (wC tk ad g rr ++ tl))) (va_Qi (fun (r : Int32) (_ : Unit) => r = slC (fun v => rt (Xs v)) 2 p9 q9) (fun u t => k_at D (TY tk) (va_A (wC tk ad g rr ++ tl) sz) ((fun _ => wC tk ad g rr ++ tl) u) t) (va_A (wC tk ad g rr ++ tl) sz)) 0 0 (va_A (wC tk ad g rr ++ tl) sz) := by
  refine k_ofW (fun A => va_Qi (fun (r : Int32) (_ : Unit) => r = slC (fun v => rt (Xs v)) 2 p9 q9) (fun u t => k_at D (TY tk) A ((fun _ => wC tk ad g rr ++ tl) u) t) A) (by decide) (Nat.le_of_ble_eq_true rfl) ?_
  intro p e s m args below meth c Q A ls hQ hx hb hr hlk hin hts hT hown hml hnw hP hK hD hA hsz hl
  have hS : va_S A s.heap s.heap [] := va_S.rf
  have hc0 : 0 + 0 ≤ 0 ∧ 0 + 0 ≤ 0 := ⟨by decide, by decide⟩
  replace hl : lv_has ls 4 [(0, .ref (ad 3)), (1, .int (nI p9)), (2, .int (nI q9))] := hl
  replace hP : va_P D CC (wC tk ad g rr ++ tl) s.heap := hP
  replace hK : va_K D CC (TY tk) s := hK
  refine lv_iload_n hx hb d_H_seal_0 rfl (lv_at hl 2 rfl) ?_
  refine lv_iconst (v := nI 2) hx hb d_H_seal_1 (by decide) ?_
  refine st_icmp_ge hx hb (by omega) (by omega) d_H_seal_2 (tgt := 15) (by decide) (fun hc2 => ?_) (fun hc2 => ?_)
  · skip
    refine lv_iload_n hx hb d_H_seal_15 rfl (lv_at hl 2 rfl) ?_
    refine k_calli (va_runSN (As := [.int (nI q9)]) (rest := []) ⟨hx, hb, hml, hown, hts⟩ (c_K_half l D tk s.heap.size q9 (by omega) (wC tk ad g rr ++ tl)) ⟨(va_cnB 1 hts (gB t_810) rfl rfl rfl (hnw.1 _ _ _ _ n_808) (hT _ t_1) (by decide +kernel) ⟨Nat.le_of_ble_eq_true rfl, Nat.le_of_ble_eq_true rfl⟩), hT _ t_809, trivial⟩ (k_preS hP hK hD hnw) rfl rfl hl.1 rfl (lv_room (Nat.le_of_ble_eq_true rfl)) d_H_seal_16 hc0) hD hS hA (fun _ _ H locs hp16 hP hD hK hS => ?_)
    subst hp16
    have hhf := hf_b (q := q9) (by omega) (by omega)
    replace hP : va_P D CC (wC tk ad g rr ++ tl) H := hP
    replace hD : va_D A (wC tk ad g rr ++ tl) := hD
    refine lv_istore_n (lv' := [(3, .int (nI (hf q9))), (0, .ref (ad 3)), (1, .int (nI p9)), (2, .int (nI q9))]) hx hb d_H_seal_19 rfl hl (by decide) rfl (fun ls hl => ?_)
    refine lv_aload_n hx hb d_H_seal_20 rfl (lv_at hl 1 rfl) ?_
    refine lv_iload_n hx hb d_H_seal_21 rfl (lv_at hl 2 rfl) ?_
    refine lv_iload_n hx hb d_H_seal_22 rfl (lv_at hl 0 rfl) ?_
    refine k_calli (va_runV (As := [.int (nI p9), .int (nI (hf q9))]) (rest := []) ⟨hx, hb, hml, hown, hts⟩ (c_H_seal1 l D tk H.size ad g rr tl S ca bl hst Xs V hV1 hV2 hh p9 (hf q9) (by omega) (by omega) (by omega)) (cwV 2 hts (gV t_811 t_802 s_5 t_3 t_803) rfl rfl rfl (by decide +kernel) ⟨Nat.le_of_ble_eq_true rfl, Nat.le_of_ble_eq_true rfl⟩) (k_preV hP hK hD hnw 3 rfl rfl) rfl rfl hl.1 rfl (lv_room (Nat.le_of_ble_eq_true rfl)) d_H_seal_23 hc0) hD hS hA (fun _ _ H locs hp23 hP hD hK hS => ?_)
    subst hp23
    replace hP : va_P D CC (wC tk ad g rr ++ tl) H := hP
    replace hD : va_D A (wC tk ad g rr ++ tl) := hD
    refine lv_aload_n hx hb d_H_seal_26 rfl (lv_at hl 1 rfl) ?_
    refine lv_iload_n hx hb d_H_seal_27 rfl (lv_at hl 2 rfl) ?_
    refine lv_iload_n hx hb d_H_seal_28 rfl (lv_at hl 0 rfl) ?_
    refine st_iadd hx hb d_H_seal_29 ?_
    refine lv_iload_n hx hb d_H_seal_30 rfl (lv_at hl 3 rfl) ?_
    refine lv_iload_n hx hb d_H_seal_31 rfl (lv_at hl 0 rfl) ?_
    refine st_isub hx hb (by omega) d_H_seal_32 ?_
    refine k_calli (va_runV (As := [.int (nI (p9 + (hf q9))), .int (nI (q9 - (hf q9)))]) (rest := [.int (slC (fun v => rt (Xs v)) 1 p9 (hf q9))]) ⟨hx, hb, hml, hown, hts⟩ (c_H_seal1 l D tk H.size ad g rr tl S ca bl hst Xs V hV1 hV2 hh (p9 + (hf q9)) (q9 - (hf q9)) (by omega) (by omega) (by omega)) (cwV 2 hts (gV t_811 t_802 s_5 t_3 t_803) rfl rfl rfl (by decide +kernel) ⟨Nat.le_of_ble_eq_true rfl, Nat.le_of_ble_eq_true rfl⟩) (k_preV hP hK hD hnw 3 rfl rfl) rfl rfl hl.1 rfl (lv_room (Nat.le_of_ble_eq_true rfl)) d_H_seal_33 hc0) hD hS hA (fun _ _ H locs hp33 hP hD hK hS => ?_)
    subst hp33
    replace hP : va_P D CC (wC tk ad g rr ++ tl) H := hP
    replace hD : va_D A (wC tk ad g rr ++ tl) := hD
    refine k_calli (va_runSN (As := [.int (slC (fun v => rt (Xs v)) 1 p9 (hf q9)), .int (slC (fun v => rt (Xs v)) 1 (p9 + (hf q9)) (q9 - (hf q9)))]) (rest := []) ⟨hx, hb, hml, hown, hts⟩ (c_K_join l D tk H.size (slC (fun v => rt (Xs v)) 1 p9 (hf q9)) (slC (fun v => rt (Xs v)) 1 (p9 + (hf q9)) (q9 - (hf q9))) (wC tk ad g rr ++ tl)) ⟨(va_cnB 2 hts (gB t_814) rfl rfl rfl (hnw.1 _ _ _ _ n_812) (hT _ t_1) (by decide +kernel) ⟨Nat.le_of_ble_eq_true rfl, Nat.le_of_ble_eq_true rfl⟩), hT _ t_813, trivial⟩ (k_preS hP hK hD hnw) rfl rfl hl.1 rfl (lv_room (Nat.le_of_ble_eq_true rfl)) d_H_seal_36 hc0) hD hS hA (fun _ _ H locs hp36 hP hD hK hS => ?_)
    subst hp36
    replace hP : va_P D CC (wC tk ad g rr ++ tl) H := hP
    replace hD : va_D A (wC tk ad g rr ++ tl) := hD
    exact k_iret (v := jn (slC (fun v => rt (Xs v)) 1 p9 (hf q9)) (slC (fun v => rt (Xs v)) 1 (p9 + (hf q9)) (q9 - (hf q9)))) hQ hx hb hr hlk hK hP hD hS () rfl ((slC_ge (fun v => rt (Xs v)) (k := 2) (d := 1) rfl p9 (show ¬ q9 < 2 by omega)).symm) d_H_seal_39
  · skip
    refine lv_iload_n hx hb d_H_seal_5 rfl (lv_at hl 1 rfl) ?_
    refine lv_aload_n hx hb d_H_seal_6 rfl (lv_at hl 0 rfl) ?_
    refine lv_iload_n hx hb d_H_seal_7 rfl (lv_at hl 1 rfl) ?_
    refine k_calli (va_runV (As := [.int (nI p9)]) (rest := [.int (nI p9)]) ⟨hx, hb, hml, hown, hts⟩ (c_H_rootOf l D tk s.heap.size ad g rr tl S ca bl hst Xs V hV1 hV2 hh p9 (by omega)) (cwV 1 hts (gV t_804 t_790 t_791 t_3 t_792) rfl rfl rfl (by decide +kernel) ⟨Nat.le_of_ble_eq_true rfl, Nat.le_of_ble_eq_true rfl⟩) (k_preV hP hK hD hnw 3 rfl rfl) rfl rfl hl.1 rfl (lv_room (Nat.le_of_ble_eq_true rfl)) d_H_seal_8 hc0) hD hS hA (fun _ _ H locs hp8 hP hD hK hS => ?_)
    subst hp8
    replace hP : va_P D CC (wC tk ad g rr ++ tl) H := hP
    replace hD : va_D A (wC tk ad g rr ++ tl) := hD
    refine k_calli (va_runSN (As := [.int (nI p9), .int (rt (Xs p9))]) (rest := []) ⟨hx, hb, hml, hown, hts⟩ (c_K_leafOf l D tk H.size p9 (rt (Xs p9)) (wC tk ad g rr ++ tl)) ⟨(va_cnB 2 hts (gB t_807) rfl rfl rfl (hnw.1 _ _ _ _ n_805) (hT _ t_1) (by decide +kernel) ⟨Nat.le_of_ble_eq_true rfl, Nat.le_of_ble_eq_true rfl⟩), hT _ t_806, trivial⟩ (k_preS hP hK hD hnw) rfl rfl hl.1 rfl (lv_room (Nat.le_of_ble_eq_true rfl)) d_H_seal_11 hc0) hD hS hA (fun _ _ H locs hp11 hP hD hK hS => ?_)
    subst hp11
    replace hP : va_P D CC (wC tk ad g rr ++ tl) H := hP
    replace hD : va_D A (wC tk ad g rr ++ tl) := hD
    exact k_iret (v := lf p9 (rt (Xs p9))) hQ hx hb hr hlk hK hP hD hS () rfl ((slC_lt (fun v => rt (Xs v)) 2 p9 (show q9 < 2 by omega)).symm) d_H_seal_14

set_option maxHeartbeats 4000000 in
set_option maxRecDepth 100000 in
theorem c_H_seal3 (l : Launch) (D : va_G) (tk : Nat → ClassId) (sz : Nat) (ad : Nat → Nat) (g : Nat → Nat → Int32) (rr : Nat → Nat → Option Nat) (tl : va_W) (S : List ck_I) (ca : Nat → Nat) (bl : Nat → Nat → Option Nat) (hst : sI tk tl S ca bl) (Xs : Nat → List kv_I) (V : Nat) (hV1 : 1 ≤ V) (hV2 : V ≤ 16) (hh : ∀ v, v < V → so (Xs v) ∧ tOf S ca (Xs v) (rr 1 v)) (p9 q9 : Nat) (hq1 : 1 ≤ q9) (hq2 : q9 ≤ 8) (hpq : p9 + q9 ≤ V) : Met l y_H_seal w_H_seal ({ frames := 5, cells := 0, slots := 0, locals := 112 }) (va_Pc [.ref (ad 3), .int (nI p9), .int (nI q9)] (k_pre D (TY tk) sz (wC tk ad g rr ++ tl))) (va_Qi (fun (r : Int32) (_ : Unit) => r = slC (fun v => rt (Xs v)) 3 p9 q9) (fun u t => k_at D (TY tk) (va_A (wC tk ad g rr ++ tl) sz) ((fun _ => wC tk ad g rr ++ tl) u) t) (va_A (wC tk ad g rr ++ tl) sz)) 0 0 (va_A (wC tk ad g rr ++ tl) sz) := by
  refine k_ofW (fun A => va_Qi (fun (r : Int32) (_ : Unit) => r = slC (fun v => rt (Xs v)) 3 p9 q9) (fun u t => k_at D (TY tk) A ((fun _ => wC tk ad g rr ++ tl) u) t) A) (by decide) (Nat.le_of_ble_eq_true rfl) ?_
  intro p e s m args below meth c Q A ls hQ hx hb hr hlk hin hts hT hown hml hnw hP hK hD hA hsz hl
  have hS : va_S A s.heap s.heap [] := va_S.rf
  have hc0 : 0 + 0 ≤ 0 ∧ 0 + 0 ≤ 0 := ⟨by decide, by decide⟩
  replace hl : lv_has ls 4 [(0, .ref (ad 3)), (1, .int (nI p9)), (2, .int (nI q9))] := hl
  replace hP : va_P D CC (wC tk ad g rr ++ tl) s.heap := hP
  replace hK : va_K D CC (TY tk) s := hK
  refine lv_iload_n hx hb d_H_seal_0 rfl (lv_at hl 2 rfl) ?_
  refine lv_iconst (v := nI 2) hx hb d_H_seal_1 (by decide) ?_
  refine st_icmp_ge hx hb (by omega) (by omega) d_H_seal_2 (tgt := 15) (by decide) (fun hc2 => ?_) (fun hc2 => ?_)
  · skip
    refine lv_iload_n hx hb d_H_seal_15 rfl (lv_at hl 2 rfl) ?_
    refine k_calli (va_runSN (As := [.int (nI q9)]) (rest := []) ⟨hx, hb, hml, hown, hts⟩ (c_K_half l D tk s.heap.size q9 (by omega) (wC tk ad g rr ++ tl)) ⟨(va_cnB 1 hts (gB t_810) rfl rfl rfl (hnw.1 _ _ _ _ n_808) (hT _ t_1) (by decide +kernel) ⟨Nat.le_of_ble_eq_true rfl, Nat.le_of_ble_eq_true rfl⟩), hT _ t_809, trivial⟩ (k_preS hP hK hD hnw) rfl rfl hl.1 rfl (lv_room (Nat.le_of_ble_eq_true rfl)) d_H_seal_16 hc0) hD hS hA (fun _ _ H locs hp16 hP hD hK hS => ?_)
    subst hp16
    have hhf := hf_b (q := q9) (by omega) (by omega)
    replace hP : va_P D CC (wC tk ad g rr ++ tl) H := hP
    replace hD : va_D A (wC tk ad g rr ++ tl) := hD
    refine lv_istore_n (lv' := [(3, .int (nI (hf q9))), (0, .ref (ad 3)), (1, .int (nI p9)), (2, .int (nI q9))]) hx hb d_H_seal_19 rfl hl (by decide) rfl (fun ls hl => ?_)
    refine lv_aload_n hx hb d_H_seal_20 rfl (lv_at hl 1 rfl) ?_
    refine lv_iload_n hx hb d_H_seal_21 rfl (lv_at hl 2 rfl) ?_
    refine lv_iload_n hx hb d_H_seal_22 rfl (lv_at hl 0 rfl) ?_
    refine k_calli (va_runV (As := [.int (nI p9), .int (nI (hf q9))]) (rest := []) ⟨hx, hb, hml, hown, hts⟩ (c_H_seal2 l D tk H.size ad g rr tl S ca bl hst Xs V hV1 hV2 hh p9 (hf q9) (by omega) (by omega) (by omega)) (cwV 2 hts (gV t_811 t_802 s_5 t_3 t_803) rfl rfl rfl (by decide +kernel) ⟨Nat.le_of_ble_eq_true rfl, Nat.le_of_ble_eq_true rfl⟩) (k_preV hP hK hD hnw 3 rfl rfl) rfl rfl hl.1 rfl (lv_room (Nat.le_of_ble_eq_true rfl)) d_H_seal_23 hc0) hD hS hA (fun _ _ H locs hp23 hP hD hK hS => ?_)
    subst hp23
    replace hP : va_P D CC (wC tk ad g rr ++ tl) H := hP
    replace hD : va_D A (wC tk ad g rr ++ tl) := hD
    refine lv_aload_n hx hb d_H_seal_26 rfl (lv_at hl 1 rfl) ?_
    refine lv_iload_n hx hb d_H_seal_27 rfl (lv_at hl 2 rfl) ?_
    refine lv_iload_n hx hb d_H_seal_28 rfl (lv_at hl 0 rfl) ?_
    refine st_iadd hx hb d_H_seal_29 ?_
    refine lv_iload_n hx hb d_H_seal_30 rfl (lv_at hl 3 rfl) ?_
    refine lv_iload_n hx hb d_H_seal_31 rfl (lv_at hl 0 rfl) ?_
    refine st_isub hx hb (by omega) d_H_seal_32 ?_
    refine k_calli (va_runV (As := [.int (nI (p9 + (hf q9))), .int (nI (q9 - (hf q9)))]) (rest := [.int (slC (fun v => rt (Xs v)) 2 p9 (hf q9))]) ⟨hx, hb, hml, hown, hts⟩ (c_H_seal2 l D tk H.size ad g rr tl S ca bl hst Xs V hV1 hV2 hh (p9 + (hf q9)) (q9 - (hf q9)) (by omega) (by omega) (by omega)) (cwV 2 hts (gV t_811 t_802 s_5 t_3 t_803) rfl rfl rfl (by decide +kernel) ⟨Nat.le_of_ble_eq_true rfl, Nat.le_of_ble_eq_true rfl⟩) (k_preV hP hK hD hnw 3 rfl rfl) rfl rfl hl.1 rfl (lv_room (Nat.le_of_ble_eq_true rfl)) d_H_seal_33 hc0) hD hS hA (fun _ _ H locs hp33 hP hD hK hS => ?_)
    subst hp33
    replace hP : va_P D CC (wC tk ad g rr ++ tl) H := hP
    replace hD : va_D A (wC tk ad g rr ++ tl) := hD
    refine k_calli (va_runSN (As := [.int (slC (fun v => rt (Xs v)) 2 p9 (hf q9)), .int (slC (fun v => rt (Xs v)) 2 (p9 + (hf q9)) (q9 - (hf q9)))]) (rest := []) ⟨hx, hb, hml, hown, hts⟩ (c_K_join l D tk H.size (slC (fun v => rt (Xs v)) 2 p9 (hf q9)) (slC (fun v => rt (Xs v)) 2 (p9 + (hf q9)) (q9 - (hf q9))) (wC tk ad g rr ++ tl)) ⟨(va_cnB 2 hts (gB t_814) rfl rfl rfl (hnw.1 _ _ _ _ n_812) (hT _ t_1) (by decide +kernel) ⟨Nat.le_of_ble_eq_true rfl, Nat.le_of_ble_eq_true rfl⟩), hT _ t_813, trivial⟩ (k_preS hP hK hD hnw) rfl rfl hl.1 rfl (lv_room (Nat.le_of_ble_eq_true rfl)) d_H_seal_36 hc0) hD hS hA (fun _ _ H locs hp36 hP hD hK hS => ?_)
    subst hp36
    replace hP : va_P D CC (wC tk ad g rr ++ tl) H := hP
    replace hD : va_D A (wC tk ad g rr ++ tl) := hD
    exact k_iret (v := jn (slC (fun v => rt (Xs v)) 2 p9 (hf q9)) (slC (fun v => rt (Xs v)) 2 (p9 + (hf q9)) (q9 - (hf q9)))) hQ hx hb hr hlk hK hP hD hS () rfl ((slC_ge (fun v => rt (Xs v)) (k := 3) (d := 2) rfl p9 (show ¬ q9 < 2 by omega)).symm) d_H_seal_39
  · skip
    refine lv_iload_n hx hb d_H_seal_5 rfl (lv_at hl 1 rfl) ?_
    refine lv_aload_n hx hb d_H_seal_6 rfl (lv_at hl 0 rfl) ?_
    refine lv_iload_n hx hb d_H_seal_7 rfl (lv_at hl 1 rfl) ?_
    refine k_calli (va_runV (As := [.int (nI p9)]) (rest := [.int (nI p9)]) ⟨hx, hb, hml, hown, hts⟩ (c_H_rootOf l D tk s.heap.size ad g rr tl S ca bl hst Xs V hV1 hV2 hh p9 (by omega)) (cwV 1 hts (gV t_804 t_790 t_791 t_3 t_792) rfl rfl rfl (by decide +kernel) ⟨Nat.le_of_ble_eq_true rfl, Nat.le_of_ble_eq_true rfl⟩) (k_preV hP hK hD hnw 3 rfl rfl) rfl rfl hl.1 rfl (lv_room (Nat.le_of_ble_eq_true rfl)) d_H_seal_8 hc0) hD hS hA (fun _ _ H locs hp8 hP hD hK hS => ?_)
    subst hp8
    replace hP : va_P D CC (wC tk ad g rr ++ tl) H := hP
    replace hD : va_D A (wC tk ad g rr ++ tl) := hD
    refine k_calli (va_runSN (As := [.int (nI p9), .int (rt (Xs p9))]) (rest := []) ⟨hx, hb, hml, hown, hts⟩ (c_K_leafOf l D tk H.size p9 (rt (Xs p9)) (wC tk ad g rr ++ tl)) ⟨(va_cnB 2 hts (gB t_807) rfl rfl rfl (hnw.1 _ _ _ _ n_805) (hT _ t_1) (by decide +kernel) ⟨Nat.le_of_ble_eq_true rfl, Nat.le_of_ble_eq_true rfl⟩), hT _ t_806, trivial⟩ (k_preS hP hK hD hnw) rfl rfl hl.1 rfl (lv_room (Nat.le_of_ble_eq_true rfl)) d_H_seal_11 hc0) hD hS hA (fun _ _ H locs hp11 hP hD hK hS => ?_)
    subst hp11
    replace hP : va_P D CC (wC tk ad g rr ++ tl) H := hP
    replace hD : va_D A (wC tk ad g rr ++ tl) := hD
    exact k_iret (v := lf p9 (rt (Xs p9))) hQ hx hb hr hlk hK hP hD hS () rfl ((slC_lt (fun v => rt (Xs v)) 3 p9 (show q9 < 2 by omega)).symm) d_H_seal_14

set_option maxHeartbeats 4000000 in
set_option maxRecDepth 100000 in
theorem c_H_seal4 (l : Launch) (D : va_G) (tk : Nat → ClassId) (sz : Nat) (ad : Nat → Nat) (g : Nat → Nat → Int32) (rr : Nat → Nat → Option Nat) (tl : va_W) (S : List ck_I) (ca : Nat → Nat) (bl : Nat → Nat → Option Nat) (hst : sI tk tl S ca bl) (Xs : Nat → List kv_I) (V : Nat) (hV1 : 1 ≤ V) (hV2 : V ≤ 16) (hh : ∀ v, v < V → so (Xs v) ∧ tOf S ca (Xs v) (rr 1 v)) (p9 q9 : Nat) (hq1 : 1 ≤ q9) (hq2 : q9 ≤ 16) (hpq : p9 + q9 ≤ V) : Met l y_H_seal w_H_seal ({ frames := 6, cells := 0, slots := 0, locals := 135 }) (va_Pc [.ref (ad 3), .int (nI p9), .int (nI q9)] (k_pre D (TY tk) sz (wC tk ad g rr ++ tl))) (va_Qi (fun (r : Int32) (_ : Unit) => r = slC (fun v => rt (Xs v)) 4 p9 q9) (fun u t => k_at D (TY tk) (va_A (wC tk ad g rr ++ tl) sz) ((fun _ => wC tk ad g rr ++ tl) u) t) (va_A (wC tk ad g rr ++ tl) sz)) 0 0 (va_A (wC tk ad g rr ++ tl) sz) := by
  refine k_ofW (fun A => va_Qi (fun (r : Int32) (_ : Unit) => r = slC (fun v => rt (Xs v)) 4 p9 q9) (fun u t => k_at D (TY tk) A ((fun _ => wC tk ad g rr ++ tl) u) t) A) (by decide) (Nat.le_of_ble_eq_true rfl) ?_
  intro p e s m args below meth c Q A ls hQ hx hb hr hlk hin hts hT hown hml hnw hP hK hD hA hsz hl
  have hS : va_S A s.heap s.heap [] := va_S.rf
  have hc0 : 0 + 0 ≤ 0 ∧ 0 + 0 ≤ 0 := ⟨by decide, by decide⟩
  replace hl : lv_has ls 4 [(0, .ref (ad 3)), (1, .int (nI p9)), (2, .int (nI q9))] := hl
  replace hP : va_P D CC (wC tk ad g rr ++ tl) s.heap := hP
  replace hK : va_K D CC (TY tk) s := hK
  refine lv_iload_n hx hb d_H_seal_0 rfl (lv_at hl 2 rfl) ?_
  refine lv_iconst (v := nI 2) hx hb d_H_seal_1 (by decide) ?_
  refine st_icmp_ge hx hb (by omega) (by omega) d_H_seal_2 (tgt := 15) (by decide) (fun hc2 => ?_) (fun hc2 => ?_)
  · skip
    refine lv_iload_n hx hb d_H_seal_15 rfl (lv_at hl 2 rfl) ?_
    refine k_calli (va_runSN (As := [.int (nI q9)]) (rest := []) ⟨hx, hb, hml, hown, hts⟩ (c_K_half l D tk s.heap.size q9 (by omega) (wC tk ad g rr ++ tl)) ⟨(va_cnB 1 hts (gB t_810) rfl rfl rfl (hnw.1 _ _ _ _ n_808) (hT _ t_1) (by decide +kernel) ⟨Nat.le_of_ble_eq_true rfl, Nat.le_of_ble_eq_true rfl⟩), hT _ t_809, trivial⟩ (k_preS hP hK hD hnw) rfl rfl hl.1 rfl (lv_room (Nat.le_of_ble_eq_true rfl)) d_H_seal_16 hc0) hD hS hA (fun _ _ H locs hp16 hP hD hK hS => ?_)
    subst hp16
    have hhf := hf_b (q := q9) (by omega) (by omega)
    replace hP : va_P D CC (wC tk ad g rr ++ tl) H := hP
    replace hD : va_D A (wC tk ad g rr ++ tl) := hD
    refine lv_istore_n (lv' := [(3, .int (nI (hf q9))), (0, .ref (ad 3)), (1, .int (nI p9)), (2, .int (nI q9))]) hx hb d_H_seal_19 rfl hl (by decide) rfl (fun ls hl => ?_)
    refine lv_aload_n hx hb d_H_seal_20 rfl (lv_at hl 1 rfl) ?_
    refine lv_iload_n hx hb d_H_seal_21 rfl (lv_at hl 2 rfl) ?_
    refine lv_iload_n hx hb d_H_seal_22 rfl (lv_at hl 0 rfl) ?_
    refine k_calli (va_runV (As := [.int (nI p9), .int (nI (hf q9))]) (rest := []) ⟨hx, hb, hml, hown, hts⟩ (c_H_seal3 l D tk H.size ad g rr tl S ca bl hst Xs V hV1 hV2 hh p9 (hf q9) (by omega) (by omega) (by omega)) (cwV 2 hts (gV t_811 t_802 s_5 t_3 t_803) rfl rfl rfl (by decide +kernel) ⟨Nat.le_of_ble_eq_true rfl, Nat.le_of_ble_eq_true rfl⟩) (k_preV hP hK hD hnw 3 rfl rfl) rfl rfl hl.1 rfl (lv_room (Nat.le_of_ble_eq_true rfl)) d_H_seal_23 hc0) hD hS hA (fun _ _ H locs hp23 hP hD hK hS => ?_)
    subst hp23
    replace hP : va_P D CC (wC tk ad g rr ++ tl) H := hP
    replace hD : va_D A (wC tk ad g rr ++ tl) := hD
    refine lv_aload_n hx hb d_H_seal_26 rfl (lv_at hl 1 rfl) ?_
    refine lv_iload_n hx hb d_H_seal_27 rfl (lv_at hl 2 rfl) ?_
    refine lv_iload_n hx hb d_H_seal_28 rfl (lv_at hl 0 rfl) ?_
    refine st_iadd hx hb d_H_seal_29 ?_
    refine lv_iload_n hx hb d_H_seal_30 rfl (lv_at hl 3 rfl) ?_
    refine lv_iload_n hx hb d_H_seal_31 rfl (lv_at hl 0 rfl) ?_
    refine st_isub hx hb (by omega) d_H_seal_32 ?_
    refine k_calli (va_runV (As := [.int (nI (p9 + (hf q9))), .int (nI (q9 - (hf q9)))]) (rest := [.int (slC (fun v => rt (Xs v)) 3 p9 (hf q9))]) ⟨hx, hb, hml, hown, hts⟩ (c_H_seal3 l D tk H.size ad g rr tl S ca bl hst Xs V hV1 hV2 hh (p9 + (hf q9)) (q9 - (hf q9)) (by omega) (by omega) (by omega)) (cwV 2 hts (gV t_811 t_802 s_5 t_3 t_803) rfl rfl rfl (by decide +kernel) ⟨Nat.le_of_ble_eq_true rfl, Nat.le_of_ble_eq_true rfl⟩) (k_preV hP hK hD hnw 3 rfl rfl) rfl rfl hl.1 rfl (lv_room (Nat.le_of_ble_eq_true rfl)) d_H_seal_33 hc0) hD hS hA (fun _ _ H locs hp33 hP hD hK hS => ?_)
    subst hp33
    replace hP : va_P D CC (wC tk ad g rr ++ tl) H := hP
    replace hD : va_D A (wC tk ad g rr ++ tl) := hD
    refine k_calli (va_runSN (As := [.int (slC (fun v => rt (Xs v)) 3 p9 (hf q9)), .int (slC (fun v => rt (Xs v)) 3 (p9 + (hf q9)) (q9 - (hf q9)))]) (rest := []) ⟨hx, hb, hml, hown, hts⟩ (c_K_join l D tk H.size (slC (fun v => rt (Xs v)) 3 p9 (hf q9)) (slC (fun v => rt (Xs v)) 3 (p9 + (hf q9)) (q9 - (hf q9))) (wC tk ad g rr ++ tl)) ⟨(va_cnB 2 hts (gB t_814) rfl rfl rfl (hnw.1 _ _ _ _ n_812) (hT _ t_1) (by decide +kernel) ⟨Nat.le_of_ble_eq_true rfl, Nat.le_of_ble_eq_true rfl⟩), hT _ t_813, trivial⟩ (k_preS hP hK hD hnw) rfl rfl hl.1 rfl (lv_room (Nat.le_of_ble_eq_true rfl)) d_H_seal_36 hc0) hD hS hA (fun _ _ H locs hp36 hP hD hK hS => ?_)
    subst hp36
    replace hP : va_P D CC (wC tk ad g rr ++ tl) H := hP
    replace hD : va_D A (wC tk ad g rr ++ tl) := hD
    exact k_iret (v := jn (slC (fun v => rt (Xs v)) 3 p9 (hf q9)) (slC (fun v => rt (Xs v)) 3 (p9 + (hf q9)) (q9 - (hf q9)))) hQ hx hb hr hlk hK hP hD hS () rfl ((slC_ge (fun v => rt (Xs v)) (k := 4) (d := 3) rfl p9 (show ¬ q9 < 2 by omega)).symm) d_H_seal_39
  · skip
    refine lv_iload_n hx hb d_H_seal_5 rfl (lv_at hl 1 rfl) ?_
    refine lv_aload_n hx hb d_H_seal_6 rfl (lv_at hl 0 rfl) ?_
    refine lv_iload_n hx hb d_H_seal_7 rfl (lv_at hl 1 rfl) ?_
    refine k_calli (va_runV (As := [.int (nI p9)]) (rest := [.int (nI p9)]) ⟨hx, hb, hml, hown, hts⟩ (c_H_rootOf l D tk s.heap.size ad g rr tl S ca bl hst Xs V hV1 hV2 hh p9 (by omega)) (cwV 1 hts (gV t_804 t_790 t_791 t_3 t_792) rfl rfl rfl (by decide +kernel) ⟨Nat.le_of_ble_eq_true rfl, Nat.le_of_ble_eq_true rfl⟩) (k_preV hP hK hD hnw 3 rfl rfl) rfl rfl hl.1 rfl (lv_room (Nat.le_of_ble_eq_true rfl)) d_H_seal_8 hc0) hD hS hA (fun _ _ H locs hp8 hP hD hK hS => ?_)
    subst hp8
    replace hP : va_P D CC (wC tk ad g rr ++ tl) H := hP
    replace hD : va_D A (wC tk ad g rr ++ tl) := hD
    refine k_calli (va_runSN (As := [.int (nI p9), .int (rt (Xs p9))]) (rest := []) ⟨hx, hb, hml, hown, hts⟩ (c_K_leafOf l D tk H.size p9 (rt (Xs p9)) (wC tk ad g rr ++ tl)) ⟨(va_cnB 2 hts (gB t_807) rfl rfl rfl (hnw.1 _ _ _ _ n_805) (hT _ t_1) (by decide +kernel) ⟨Nat.le_of_ble_eq_true rfl, Nat.le_of_ble_eq_true rfl⟩), hT _ t_806, trivial⟩ (k_preS hP hK hD hnw) rfl rfl hl.1 rfl (lv_room (Nat.le_of_ble_eq_true rfl)) d_H_seal_11 hc0) hD hS hA (fun _ _ H locs hp11 hP hD hK hS => ?_)
    subst hp11
    replace hP : va_P D CC (wC tk ad g rr ++ tl) H := hP
    replace hD : va_D A (wC tk ad g rr ++ tl) := hD
    exact k_iret (v := lf p9 (rt (Xs p9))) hQ hx hb hr hlk hK hP hD hS () rfl ((slC_lt (fun v => rt (Xs v)) 4 p9 (show q9 < 2 by omega)).symm) d_H_seal_14

set_option maxHeartbeats 4000000 in
set_option maxRecDepth 100000 in
theorem c_K_require1 (l : Launch) (D : va_G) (tk : Nat → ClassId) (sz : Nat) (ws : va_W) : Met l y_K_require w_K_require ({ frames := 0, cells := 0, slots := 0, locals := 0 }) (va_Pc [.int (nI 1)] (k_pre D (TY tk) sz ws)) (va_Qv (fun (_ : Unit) => True) (fun u t => k_at D (TY tk) (va_A ws sz) ((fun _ => ws) u) t) (va_A ws sz)) 0 0 (va_A ws sz) := by
  refine k_ofW (fun A => va_Qv (fun (_ : Unit) => True) (fun u t => k_at D (TY tk) A ((fun _ => ws) u) t) A) (by decide) (Nat.le_of_ble_eq_true rfl) ?_
  intro p e s m args below meth c Q A ls hQ hx hb hr hlk hin hts hT hown hml hnw hP hK hD hA hsz hl
  have hS : va_S A s.heap s.heap [] := va_S.rf
  have hc0 : 0 + 0 ≤ 0 ∧ 0 + 0 ≤ 0 := ⟨by decide, by decide⟩
  replace hl : lv_has ls 1 [(0, .int (nI 1))] := hl
  replace hP : va_P D CC ws s.heap := hP
  replace hK : va_K D CC (TY tk) s := hK
  refine lv_iload_n hx hb d_K_require_0 rfl (lv_at hl 0 rfl) ?_
  refine st_if_ne hx hb (by omega) d_K_require_1 (tgt := 14) (by decide) (fun hc1 => ?_) (fun hc1 => (by exfalso; first | exact hc1 | omega))
  exact k_vret hQ hx hb hr hlk hK hP hD hS () rfl trivial d_K_require_14

set_option maxHeartbeats 4000000 in
set_option maxRecDepth 100000 in
theorem c_K_requireValue1 (l : Launch) (D : va_G) (tk : Nat → ClassId) (sz : Nat) (ws : va_W) : Met l y_K_requireValue w_K_requireValue ({ frames := 0, cells := 0, slots := 0, locals := 0 }) (va_Pc [.int (nI 1)] (k_pre D (TY tk) sz ws)) (va_Qv (fun (_ : Unit) => True) (fun u t => k_at D (TY tk) (va_A ws sz) ((fun _ => ws) u) t) (va_A ws sz)) 0 0 (va_A ws sz) := by
  refine k_ofW (fun A => va_Qv (fun (_ : Unit) => True) (fun u t => k_at D (TY tk) A ((fun _ => ws) u) t) A) (by decide) (Nat.le_of_ble_eq_true rfl) ?_
  intro p e s m args below meth c Q A ls hQ hx hb hr hlk hin hts hT hown hml hnw hP hK hD hA hsz hl
  have hS : va_S A s.heap s.heap [] := va_S.rf
  have hc0 : 0 + 0 ≤ 0 ∧ 0 + 0 ≤ 0 := ⟨by decide, by decide⟩
  replace hl : lv_has ls 1 [(0, .int (nI 1))] := hl
  replace hP : va_P D CC ws s.heap := hP
  replace hK : va_K D CC (TY tk) s := hK
  refine lv_iload_n hx hb d_K_requireValue_0 rfl (lv_at hl 0 rfl) ?_
  refine st_if_ne hx hb (by omega) d_K_requireValue_1 (tgt := 14) (by decide) (fun hc1 => ?_) (fun hc1 => (by exfalso; first | exact hc1 | omega))
  exact k_vret hQ hx hb hr hlk hK hP hD hS () rfl trivial d_K_requireValue_14

set_option maxHeartbeats 4000000 in
set_option maxRecDepth 100000 in
theorem c_K_requireKey1 (l : Launch) (D : va_G) (tk : Nat → ClassId) (sz : Nat) (k : Nat) (hk : k < 48) (ws : va_W) : Met l y_K_requireKey w_K_requireKey ({ frames := 1, cells := 0, slots := 0, locals := 20 }) (va_Pc [.int (nI k)] (k_pre D (TY tk) sz ws)) (va_Qv (fun (_ : Unit) => True) (fun u t => k_at D (TY tk) (va_A ws sz) ((fun _ => ws) u) t) (va_A ws sz)) 0 0 (va_A ws sz) := by
  refine k_ofW (fun A => va_Qv (fun (_ : Unit) => True) (fun u t => k_at D (TY tk) A ((fun _ => ws) u) t) A) (by decide) (Nat.le_of_ble_eq_true rfl) ?_
  intro p e s m args below meth c Q A ls hQ hx hb hr hlk hin hts hT hown hml hnw hP hK hD hA hsz hl
  have hS : va_S A s.heap s.heap [] := va_S.rf
  have hc0 : 0 + 0 ≤ 0 ∧ 0 + 0 ≤ 0 := ⟨by decide, by decide⟩
  replace hl : lv_has ls 1 [(0, .int (nI k))] := hl
  replace hP : va_P D CC ws s.heap := hP
  replace hK : va_K D CC (TY tk) s := hK
  refine lv_iload_n hx hb d_K_requireKey_0 rfl (lv_at hl 0 rfl) ?_
  refine st_if_lt hx hb (by omega) d_K_requireKey_1 (tgt := 14) (by decide) (fun hc1 => hc1.elim) (fun hc1 => ?_)
  refine lv_iload_n hx hb d_K_requireKey_4 rfl (lv_at hl 0 rfl) ?_
  refine lv_bipush (v := nI 48) hx hb d_K_requireKey_5 (by decide) ?_
  refine st_icmp_ge hx hb (by omega) (by omega) d_K_requireKey_7 (tgt := 14) (by decide) (fun hc7 => absurd hc7 (by omega)) (fun hc7 => ?_)
  refine lv_iconst (v := nI 1) hx hb d_K_requireKey_10 (by decide) ?_
  refine lv_goto hx hb d_K_requireKey_11 (tgt := 15) (by decide) ?_
  refine k_callv (va_runS (As := [.int (nI 1)]) (rest := []) ⟨hx, hb, hml, hown, hts⟩ (c_K_require1 l D tk s.heap.size ws) (cwS 1 hts (gS t_290 t_291 t_1 t_292) rfl rfl rfl (by decide +kernel) ⟨Nat.le_of_ble_eq_true rfl, Nat.le_of_ble_eq_true rfl⟩) (k_preS hP hK hD hnw) rfl rfl hl.1 rfl (lv_room (Nat.le_of_ble_eq_true rfl)) d_K_requireKey_15 hc0) hD hS hA (fun _ H locs hp15 hP hD hK hS => ?_)
  replace hP : va_P D CC ws H := hP
  replace hD : va_D A ws := hD
  exact k_vret hQ hx hb hr hlk hK hP hD hS () rfl trivial d_K_requireKey_18

set_option maxHeartbeats 4000000 in
set_option maxRecDepth 100000 in
theorem c_K_requireVersion1 (l : Launch) (D : va_G) (tk : Nat → ClassId) (sz : Nat) (ad : Nat → Nat) (g : Nat → Nat → Int32) (rr : Nat → Nat → Option Nat) (tl : va_W) (V : Nat) (hV2 : V ≤ 16) (hV : g 2 0 = nI V) (v : Nat) (hv : v < V) : Met l y_K_requireVersion w_K_requireVersion ({ frames := 1, cells := 0, slots := 0, locals := 20 }) (va_Pc [.ref (ad 0), .int (nI v)] (k_pre D (TY tk) sz (wC tk ad g rr ++ tl))) (va_Qv (fun (_ : Unit) => True) (fun u t => k_at D (TY tk) (va_A (wC tk ad g rr ++ tl) sz) ((fun _ => wC tk ad g rr ++ tl) u) t) (va_A (wC tk ad g rr ++ tl) sz)) 0 0 (va_A (wC tk ad g rr ++ tl) sz) := by
  refine k_ofW (fun A => va_Qv (fun (_ : Unit) => True) (fun u t => k_at D (TY tk) A ((fun _ => wC tk ad g rr ++ tl) u) t) A) (by decide) (Nat.le_of_ble_eq_true rfl) ?_
  intro p e s m args below meth c Q A ls hQ hx hb hr hlk hin hts hT hown hml hnw hP hK hD hA hsz hl
  have hS : va_S A s.heap s.heap [] := va_S.rf
  have hc0 : 0 + 0 ≤ 0 ∧ 0 + 0 ≤ 0 := ⟨by decide, by decide⟩
  replace hl : lv_has ls 2 [(0, .ref (ad 0)), (1, .int (nI v))] := hl
  replace hP : va_P D CC (wC tk ad g rr ++ tl) s.heap := hP
  replace hK : va_K D CC (TY tk) s := hK
  refine lv_iload_n hx hb d_K_requireVersion_0 rfl (lv_at hl 1 rfl) ?_
  refine st_if_lt hx hb (by omega) d_K_requireVersion_1 (tgt := 19) (by decide) (fun hc1 => hc1.elim) (fun hc1 => ?_)
  refine lv_iload_n hx hb d_K_requireVersion_4 rfl (lv_at hl 1 rfl) ?_
  refine lv_aload_n hx hb d_K_requireVersion_5 rfl (lv_at hl 0 rfl) ?_
  refine gf_K_19 (v := .ref (ad 3)) hx hb hT hown hK hP 0 rfl rfl d_K_requireVersion_6 ?_
  refine gf_K_89 (v := .int (g 2 0)) hx hb hT hown hK hP 3 rfl rfl d_K_requireVersion_9 ?_
  refine st_top (show g 2 0 = nI V from hV) ?_
  refine st_icmp_ge hx hb (by omega) (by omega) d_K_requireVersion_12 (tgt := 19) (by decide) (fun hc12 => absurd hc12 (by omega)) (fun hc12 => ?_)
  refine lv_iconst (v := nI 1) hx hb d_K_requireVersion_15 (by decide) ?_
  refine lv_goto hx hb d_K_requireVersion_16 (tgt := 20) (by decide) ?_
  refine k_callv (va_runS (As := [.int (nI 1)]) (rest := []) ⟨hx, hb, hml, hown, hts⟩ (c_K_require1 l D tk s.heap.size (wC tk ad g rr ++ tl)) (cwS 1 hts (gS t_290 t_291 t_1 t_292) rfl rfl rfl (by decide +kernel) ⟨Nat.le_of_ble_eq_true rfl, Nat.le_of_ble_eq_true rfl⟩) (k_preS hP hK hD hnw) rfl rfl hl.1 rfl (lv_room (Nat.le_of_ble_eq_true rfl)) d_K_requireVersion_20 hc0) hD hS hA (fun _ H locs hp20 hP hD hK hS => ?_)
  replace hP : va_P D CC (wC tk ad g rr ++ tl) H := hP
  replace hD : va_D A (wC tk ad g rr ++ tl) := hD
  exact k_vret hQ hx hb hr hlk hK hP hD hS () rfl trivial d_K_requireVersion_23

set_option maxHeartbeats 4000000 in
set_option maxRecDepth 100000 in
theorem c_K_requireRoom1 (l : Launch) (D : va_G) (tk : Nat → ClassId) (sz : Nat) (ad : Nat → Nat) (g : Nat → Nat → Int32) (rr : Nat → Nat → Option Nat) (tl : va_W) (V : Nat) (hV2 : V < 16) (hV : g 2 0 = nI V) : Met l y_K_requireRoom w_K_requireRoom ({ frames := 0, cells := 0, slots := 0, locals := 0 }) (va_Pc [.ref (ad 0)] (k_pre D (TY tk) sz (wC tk ad g rr ++ tl))) (va_Qv (fun (_ : Unit) => True) (fun u t => k_at D (TY tk) (va_A (wC tk ad g rr ++ tl) sz) ((fun _ => wC tk ad g rr ++ tl) u) t) (va_A (wC tk ad g rr ++ tl) sz)) 0 0 (va_A (wC tk ad g rr ++ tl) sz) := by
  refine k_ofW (fun A => va_Qv (fun (_ : Unit) => True) (fun u t => k_at D (TY tk) A ((fun _ => wC tk ad g rr ++ tl) u) t) A) (by decide) (Nat.le_of_ble_eq_true rfl) ?_
  intro p e s m args below meth c Q A ls hQ hx hb hr hlk hin hts hT hown hml hnw hP hK hD hA hsz hl
  have hS : va_S A s.heap s.heap [] := va_S.rf
  have hc0 : 0 + 0 ≤ 0 ∧ 0 + 0 ≤ 0 := ⟨by decide, by decide⟩
  replace hl : lv_has ls 1 [(0, .ref (ad 0))] := hl
  replace hP : va_P D CC (wC tk ad g rr ++ tl) s.heap := hP
  replace hK : va_K D CC (TY tk) s := hK
  refine lv_aload_n hx hb d_K_requireRoom_0 rfl (lv_at hl 0 rfl) ?_
  refine gf_K_19 (v := .ref (ad 3)) hx hb hT hown hK hP 0 rfl rfl d_K_requireRoom_1 ?_
  refine gf_K_89 (v := .int (g 2 0)) hx hb hT hown hK hP 3 rfl rfl d_K_requireRoom_4 ?_
  refine st_top (show g 2 0 = nI V from hV) ?_
  refine lv_bipush (v := nI 16) hx hb d_K_requireRoom_7 (by decide) ?_
  refine st_icmp_lt hx hb (by omega) (by omega) d_K_requireRoom_9 (tgt := 22) (by decide) (fun hc9 => ?_) (fun hc9 => absurd hc9 (by omega))
  exact k_vret hQ hx hb hr hlk hK hP hD hS () rfl trivial d_K_requireRoom_22

set_option maxHeartbeats 4000000 in
set_option maxRecDepth 100000 in
theorem c_K_put1 (l : Launch) (D : va_G) (tk : Nat → ClassId) (sz : Nat) (ad : Nat → Nat) (g : Nat → Nat → Int32) (rr : Nat → Nat → Option Nat) (tl : va_W) (V : Nat) (hV2 : V < 16) (hV : g 2 0 = nI V) (k : Nat) (hk : k < 48) (v : Int32) : Met l y_K_put w_K_put ({ frames := 2, cells := 0, slots := 0, locals := 40 }) (va_Pc [.ref (ad 0), .int (nI k), .int v] (k_pre D (TY tk) sz (wC tk ad g rr ++ tl))) (va_Qv (fun (_ : Unit) => True) (fun u t => k_at D (TY tk) (va_A (wC tk ad g rr ++ tl) sz) ((fun _ => wC tk ad (mup (mup g 3 k (nI 1)) 4 k v) rr ++ tl) u) t) (va_A (wC tk ad g rr ++ tl) sz)) 0 0 (va_A (wC tk ad g rr ++ tl) sz) := by
  refine k_ofW (fun A => va_Qv (fun (_ : Unit) => True) (fun u t => k_at D (TY tk) A ((fun _ => wC tk ad (mup (mup g 3 k (nI 1)) 4 k v) rr ++ tl) u) t) A) (by decide) (Nat.le_of_ble_eq_true rfl) ?_
  intro p e s m args below meth c Q A ls hQ hx hb hr hlk hin hts hT hown hml hnw hP hK hD hA hsz hl
  have hS : va_S A s.heap s.heap [] := va_S.rf
  have hc0 : 0 + 0 ≤ 0 ∧ 0 + 0 ≤ 0 := ⟨by decide, by decide⟩
  replace hl : lv_has ls 3 [(0, .ref (ad 0)), (1, .int (nI k)), (2, .int v)] := hl
  replace hP : va_P D CC (wC tk ad g rr ++ tl) s.heap := hP
  replace hK : va_K D CC (TY tk) s := hK
  refine lv_iload_n hx hb d_K_put_0 rfl (lv_at hl 1 rfl) ?_
  refine k_callv (va_runS (As := [.int (nI k)]) (rest := []) ⟨hx, hb, hml, hown, hts⟩ (c_K_requireKey1 l D tk s.heap.size k (by omega) (wC tk ad g rr ++ tl)) (cwS 1 hts (gS t_287 t_288 t_1 t_289) rfl rfl rfl (by decide +kernel) ⟨Nat.le_of_ble_eq_true rfl, Nat.le_of_ble_eq_true rfl⟩) (k_preS hP hK hD hnw) rfl rfl hl.1 rfl (lv_room (Nat.le_of_ble_eq_true rfl)) d_K_put_1 hc0) hD hS hA (fun _ H locs hp1 hP hD hK hS => ?_)
  replace hP : va_P D CC (wC tk ad g rr ++ tl) H := hP
  replace hD : va_D A (wC tk ad g rr ++ tl) := hD
  refine lv_aload_n hx hb d_K_put_4 rfl (lv_at hl 0 rfl) ?_
  refine k_callv (va_runV (As := []) (rest := []) ⟨hx, hb, hml, hown, hts⟩ (c_K_requireRoom1 l D tk H.size ad g rr tl  V hV2 hV) (cwV 0 hts (gV t_361 t_363 s_1 t_1 t_364) rfl rfl rfl (by decide +kernel) ⟨Nat.le_of_ble_eq_true rfl, Nat.le_of_ble_eq_true rfl⟩) (k_preV hP hK hD hnw 0 rfl rfl) rfl rfl hl.1 rfl (lv_room (Nat.le_of_ble_eq_true rfl)) d_K_put_5 hc0) hD hS hA (fun _ H locs hp5 hP hD hK hS => ?_)
  replace hP : va_P D CC (wC tk ad g rr ++ tl) H := hP
  replace hD : va_D A (wC tk ad g rr ++ tl) := hD
  refine lv_aload_n hx hb d_K_put_8 rfl (lv_at hl 0 rfl) ?_
  refine gf_K_26 (v := .ref (ad 5)) hx hb hT hown hK hP 0 rfl rfl d_K_put_9 ?_
  refine lv_iload_n hx hb d_K_put_12 rfl (lv_at hl 1 rfl) ?_
  refine lv_iload_n hx hb d_K_put_13 rfl (lv_at hl 2 rfl) ?_
  refine k_callv (va_runV (As := [.int (nI k), .int v]) (rest := []) ⟨hx, hb, hml, hown, hts⟩ (c_T_set l D tk H.size ad g rr tl  k (by omega) v) (cwV 2 hts (gV t_381 t_382 t_383 t_4 t_384) rfl rfl rfl (by decide +kernel) ⟨Nat.le_of_ble_eq_true rfl, Nat.le_of_ble_eq_true rfl⟩) (k_preV hP hK hD hnw 5 rfl rfl) rfl rfl hl.1 rfl (lv_room (Nat.le_of_ble_eq_true rfl)) d_K_put_14 hc0) hD hS hA (fun _ H locs hp14 hP hD hK hS => ?_)
  replace hP : va_P D CC (wC tk ad (mup (mup g 3 k (nI 1)) 4 k v) rr ++ tl) H := hP
  replace hD : va_D A (wC tk ad (mup (mup g 3 k (nI 1)) 4 k v) rr ++ tl) := hD
  exact k_vret hQ hx hb hr hlk hK hP hD hS () rfl trivial d_K_put_17

set_option maxHeartbeats 4000000 in
set_option maxRecDepth 100000 in
theorem c_K_delete1 (l : Launch) (D : va_G) (tk : Nat → ClassId) (sz : Nat) (ad : Nat → Nat) (g : Nat → Nat → Int32) (rr : Nat → Nat → Option Nat) (tl : va_W) (V : Nat) (hV2 : V < 16) (hV : g 2 0 = nI V) (hz : bz (g 3)) (k : Nat) (hk : k < 48) : Met l y_K_delete w_K_delete ({ frames := 2, cells := 0, slots := 0, locals := 40 }) (va_Pc [.ref (ad 0), .int (nI k)] (k_pre D (TY tk) sz (wC tk ad g rr ++ tl))) (va_Qi (fun (r : Int32) (_ : Unit) => r = g 3 k) (fun u t => k_at D (TY tk) (va_A (wC tk ad g rr ++ tl) sz) ((fun _ => wC tk ad (mup g 3 k (nI 0)) rr ++ tl) u) t) (va_A (wC tk ad g rr ++ tl) sz)) 0 0 (va_A (wC tk ad g rr ++ tl) sz) := by
  refine k_ofW (fun A => va_Qi (fun (r : Int32) (_ : Unit) => r = g 3 k) (fun u t => k_at D (TY tk) A ((fun _ => wC tk ad (mup g 3 k (nI 0)) rr ++ tl) u) t) A) (by decide) (Nat.le_of_ble_eq_true rfl) ?_
  intro p e s m args below meth c Q A ls hQ hx hb hr hlk hin hts hT hown hml hnw hP hK hD hA hsz hl
  have hS : va_S A s.heap s.heap [] := va_S.rf
  have hc0 : 0 + 0 ≤ 0 ∧ 0 + 0 ≤ 0 := ⟨by decide, by decide⟩
  replace hl : lv_has ls 2 [(0, .ref (ad 0)), (1, .int (nI k))] := hl
  replace hP : va_P D CC (wC tk ad g rr ++ tl) s.heap := hP
  replace hK : va_K D CC (TY tk) s := hK
  refine lv_iload_n hx hb d_K_delete_0 rfl (lv_at hl 1 rfl) ?_
  refine k_callv (va_runS (As := [.int (nI k)]) (rest := []) ⟨hx, hb, hml, hown, hts⟩ (c_K_requireKey1 l D tk s.heap.size k (by omega) (wC tk ad g rr ++ tl)) (cwS 1 hts (gS t_287 t_288 t_1 t_289) rfl rfl rfl (by decide +kernel) ⟨Nat.le_of_ble_eq_true rfl, Nat.le_of_ble_eq_true rfl⟩) (k_preS hP hK hD hnw) rfl rfl hl.1 rfl (lv_room (Nat.le_of_ble_eq_true rfl)) d_K_delete_1 hc0) hD hS hA (fun _ H locs hp1 hP hD hK hS => ?_)
  replace hP : va_P D CC (wC tk ad g rr ++ tl) H := hP
  replace hD : va_D A (wC tk ad g rr ++ tl) := hD
  refine lv_aload_n hx hb d_K_delete_4 rfl (lv_at hl 0 rfl) ?_
  refine k_callv (va_runV (As := []) (rest := []) ⟨hx, hb, hml, hown, hts⟩ (c_K_requireRoom1 l D tk H.size ad g rr tl  V hV2 hV) (cwV 0 hts (gV t_361 t_363 s_1 t_1 t_364) rfl rfl rfl (by decide +kernel) ⟨Nat.le_of_ble_eq_true rfl, Nat.le_of_ble_eq_true rfl⟩) (k_preV hP hK hD hnw 0 rfl rfl) rfl rfl hl.1 rfl (lv_room (Nat.le_of_ble_eq_true rfl)) d_K_delete_5 hc0) hD hS hA (fun _ H locs hp5 hP hD hK hS => ?_)
  replace hP : va_P D CC (wC tk ad g rr ++ tl) H := hP
  replace hD : va_D A (wC tk ad g rr ++ tl) := hD
  refine lv_aload_n hx hb d_K_delete_8 rfl (lv_at hl 0 rfl) ?_
  refine gf_K_26 (v := .ref (ad 5)) hx hb hT hown hK hP 0 rfl rfl d_K_delete_9 ?_
  refine lv_iload_n hx hb d_K_delete_12 rfl (lv_at hl 1 rfl) ?_
  refine k_calli (va_runV (As := [.int (nI k)]) (rest := []) ⟨hx, hb, hml, hown, hts⟩ (c_T_unset l D tk H.size ad g rr tl  hz k (by omega)) (cwV 1 hts (gV t_392 t_393 t_394 t_4 t_395) rfl rfl rfl (by decide +kernel) ⟨Nat.le_of_ble_eq_true rfl, Nat.le_of_ble_eq_true rfl⟩) (k_preV hP hK hD hnw 5 rfl rfl) rfl rfl hl.1 rfl (lv_room (Nat.le_of_ble_eq_true rfl)) d_K_delete_13 hc0) hD hS hA (fun _ _ H locs hp13 hP hD hK hS => ?_)
  subst hp13
  replace hP : va_P D CC (wC tk ad (mup g 3 k (nI 0)) rr ++ tl) H := hP
  replace hD : va_D A (wC tk ad (mup g 3 k (nI 0)) rr ++ tl) := hD
  exact k_zret (v := g 3 k) hQ hx hb hr hlk hK hP hD hS () rfl (by rcases hz k with q | q <;> rw [q] <;> decide) rfl d_K_delete_16

set_option maxHeartbeats 4000000 in
set_option maxRecDepth 100000 in
theorem c_K_root1 (l : Launch) (D : va_G) (tk : Nat → ClassId) (sz : Nat) (ad : Nat → Nat) (g : Nat → Nat → Int32) (rr : Nat → Nat → Option Nat) (tl : va_W) (S : List ck_I) (ca : Nat → Nat) (bl : Nat → Nat → Option Nat) (hst : sI tk tl S ca bl) (Xs : Nat → List kv_I) (V : Nat) (hV1 : 1 ≤ V) (hV2 : V ≤ 16) (hh : ∀ v, v < V → so (Xs v) ∧ tOf S ca (Xs v) (rr 1 v)) (hV : g 2 0 = nI V) (v : Nat) (hv : v < V) : Met l y_K_root w_K_root ({ frames := 2, cells := 0, slots := 0, locals := 41 }) (va_Pc [.ref (ad 0), .int (nI v)] (k_pre D (TY tk) sz (wC tk ad g rr ++ tl))) (va_Qi (fun (r : Int32) (_ : Unit) => r = rt (Xs v)) (fun u t => k_at D (TY tk) (va_A (wC tk ad g rr ++ tl) sz) ((fun _ => wC tk ad g rr ++ tl) u) t) (va_A (wC tk ad g rr ++ tl) sz)) 0 0 (va_A (wC tk ad g rr ++ tl) sz) := by
  refine k_ofW (fun A => va_Qi (fun (r : Int32) (_ : Unit) => r = rt (Xs v)) (fun u t => k_at D (TY tk) A ((fun _ => wC tk ad g rr ++ tl) u) t) A) (by decide) (Nat.le_of_ble_eq_true rfl) ?_
  intro p e s m args below meth c Q A ls hQ hx hb hr hlk hin hts hT hown hml hnw hP hK hD hA hsz hl
  have hS : va_S A s.heap s.heap [] := va_S.rf
  have hc0 : 0 + 0 ≤ 0 ∧ 0 + 0 ≤ 0 := ⟨by decide, by decide⟩
  replace hl : lv_has ls 2 [(0, .ref (ad 0)), (1, .int (nI v))] := hl
  replace hP : va_P D CC (wC tk ad g rr ++ tl) s.heap := hP
  replace hK : va_K D CC (TY tk) s := hK
  refine lv_aload_n hx hb d_K_root_0 rfl (lv_at hl 0 rfl) ?_
  refine lv_iload_n hx hb d_K_root_1 rfl (lv_at hl 1 rfl) ?_
  refine k_callv (va_runV (As := [.int (nI v)]) (rest := []) ⟨hx, hb, hml, hown, hts⟩ (c_K_requireVersion1 l D tk s.heap.size ad g rr tl  V hV2 hV v (by omega)) (cwV 1 hts (gV t_747 t_749 s_4 t_1 t_750) rfl rfl rfl (by decide +kernel) ⟨Nat.le_of_ble_eq_true rfl, Nat.le_of_ble_eq_true rfl⟩) (k_preV hP hK hD hnw 0 rfl rfl) rfl rfl hl.1 rfl (lv_room (Nat.le_of_ble_eq_true rfl)) d_K_root_2 hc0) hD hS hA (fun _ H locs hp2 hP hD hK hS => ?_)
  replace hP : va_P D CC (wC tk ad g rr ++ tl) H := hP
  replace hD : va_D A (wC tk ad g rr ++ tl) := hD
  refine lv_aload_n hx hb d_K_root_5 rfl (lv_at hl 0 rfl) ?_
  refine gf_K_19 (v := .ref (ad 3)) hx hb hT hown hK hP 0 rfl rfl d_K_root_6 ?_
  refine lv_iload_n hx hb d_K_root_9 rfl (lv_at hl 1 rfl) ?_
  refine k_calli (va_runV (As := [.int (nI v)]) (rest := []) ⟨hx, hb, hml, hown, hts⟩ (c_H_rootOf l D tk H.size ad g rr tl S ca bl hst Xs V hV1 hV2 hh v (by omega)) (cwV 1 hts (gV t_789 t_790 t_791 t_3 t_792) rfl rfl rfl (by decide +kernel) ⟨Nat.le_of_ble_eq_true rfl, Nat.le_of_ble_eq_true rfl⟩) (k_preV hP hK hD hnw 3 rfl rfl) rfl rfl hl.1 rfl (lv_room (Nat.le_of_ble_eq_true rfl)) d_K_root_10 hc0) hD hS hA (fun _ _ H locs hp10 hP hD hK hS => ?_)
  subst hp10
  replace hP : va_P D CC (wC tk ad g rr ++ tl) H := hP
  replace hD : va_D A (wC tk ad g rr ++ tl) := hD
  exact k_iret (v := rt (Xs v)) hQ hx hb hr hlk hK hP hD hS () rfl rfl d_K_root_13

set_option maxHeartbeats 4000000 in
set_option maxRecDepth 100000 in
theorem c_K_digest1 (l : Launch) (D : va_G) (tk : Nat → ClassId) (sz : Nat) (ad : Nat → Nat) (g : Nat → Nat → Int32) (rr : Nat → Nat → Option Nat) (tl : va_W) (S : List ck_I) (ca : Nat → Nat) (bl : Nat → Nat → Option Nat) (hst : sI tk tl S ca bl) (Xs : Nat → List kv_I) (V : Nat) (hV1 : 1 ≤ V) (hV2 : V ≤ 16) (hh : ∀ v, v < V → so (Xs v) ∧ tOf S ca (Xs v) (rr 1 v)) (hV : g 2 0 = nI V) (n : Nat) (hn : n ≤ V) : Met l y_K_digest w_K_digest ({ frames := 7, cells := 0, slots := 0, locals := 158 }) (va_Pc [.ref (ad 0), .int (nI n)] (k_pre D (TY tk) sz (wC tk ad g rr ++ tl))) (va_Qi (fun (r : Int32) (_ : Unit) => r = if n = 0 then 0 else slC (fun v => rt (Xs v)) 4 0 n) (fun u t => k_at D (TY tk) (va_A (wC tk ad g rr ++ tl) sz) ((fun _ => wC tk ad g rr ++ tl) u) t) (va_A (wC tk ad g rr ++ tl) sz)) 0 0 (va_A (wC tk ad g rr ++ tl) sz) := by
  refine k_ofW (fun A => va_Qi (fun (r : Int32) (_ : Unit) => r = if n = 0 then 0 else slC (fun v => rt (Xs v)) 4 0 n) (fun u t => k_at D (TY tk) A ((fun _ => wC tk ad g rr ++ tl) u) t) A) (by decide) (Nat.le_of_ble_eq_true rfl) ?_
  intro p e s m args below meth c Q A ls hQ hx hb hr hlk hin hts hT hown hml hnw hP hK hD hA hsz hl
  have hS : va_S A s.heap s.heap [] := va_S.rf
  have hc0 : 0 + 0 ≤ 0 ∧ 0 + 0 ≤ 0 := ⟨by decide, by decide⟩
  replace hl : lv_has ls 2 [(0, .ref (ad 0)), (1, .int (nI n))] := hl
  replace hP : va_P D CC (wC tk ad g rr ++ tl) s.heap := hP
  replace hK : va_K D CC (TY tk) s := hK
  refine lv_iload_n hx hb d_K_digest_0 rfl (lv_at hl 1 rfl) ?_
  refine st_if_lt hx hb (by omega) d_K_digest_1 (tgt := 19) (by decide) (fun hc1 => hc1.elim) (fun hc1 => ?_)
  refine lv_iload_n hx hb d_K_digest_4 rfl (lv_at hl 1 rfl) ?_
  refine lv_aload_n hx hb d_K_digest_5 rfl (lv_at hl 0 rfl) ?_
  refine gf_K_19 (v := .ref (ad 3)) hx hb hT hown hK hP 0 rfl rfl d_K_digest_6 ?_
  refine gf_K_89 (v := .int (g 2 0)) hx hb hT hown hK hP 3 rfl rfl d_K_digest_9 ?_
  refine st_top (show g 2 0 = nI V from hV) ?_
  refine st_icmp_gt hx hb (by omega) (by omega) d_K_digest_12 (tgt := 19) (by decide) (fun hc12 => absurd hc12 (by omega)) (fun hc12 => ?_)
  refine lv_iconst (v := nI 1) hx hb d_K_digest_15 (by decide) ?_
  refine lv_goto hx hb d_K_digest_16 (tgt := 20) (by decide) ?_
  refine k_callv (va_runS (As := [.int (nI 1)]) (rest := []) ⟨hx, hb, hml, hown, hts⟩ (c_K_require1 l D tk s.heap.size (wC tk ad g rr ++ tl)) (cwS 1 hts (gS t_290 t_291 t_1 t_292) rfl rfl rfl (by decide +kernel) ⟨Nat.le_of_ble_eq_true rfl, Nat.le_of_ble_eq_true rfl⟩) (k_preS hP hK hD hnw) rfl rfl hl.1 rfl (lv_room (Nat.le_of_ble_eq_true rfl)) d_K_digest_20 hc0) hD hS hA (fun _ H locs hp20 hP hD hK hS => ?_)
  replace hP : va_P D CC (wC tk ad g rr ++ tl) H := hP
  replace hD : va_D A (wC tk ad g rr ++ tl) := hD
  refine lv_iload_n hx hb d_K_digest_23 rfl (lv_at hl 1 rfl) ?_
  refine st_if_ne hx hb (by omega) d_K_digest_24 (tgt := 31) (by decide) (fun hc24 => ?_) (fun hc24 => ?_)
  · skip
    refine lv_aload_n hx hb d_K_digest_31 rfl (lv_at hl 0 rfl) ?_
    refine gf_K_19 (v := .ref (ad 3)) hx hb hT hown hK hP 0 rfl rfl d_K_digest_32 ?_
    refine lv_iconst (v := nI 0) hx hb d_K_digest_35 (by decide) ?_
    refine lv_iload_n hx hb d_K_digest_36 rfl (lv_at hl 1 rfl) ?_
    refine k_calli (va_runVN (As := [.int (nI 0), .int (nI n)]) (rest := []) ⟨hx, hb, hml, hown, hts⟩ (c_H_seal4 l D tk H.size ad g rr tl S ca bl hst Xs V hV1 hV2 hh 0 n (by omega) (by omega) (by omega)) ⟨(va_cnB 2 hts (gB t_803) rfl rfl rfl (hnw.1 _ _ _ _ n_800) (hT _ t_3) (by decide +kernel) ⟨Nat.le_of_ble_eq_true rfl, Nat.le_of_ble_eq_true rfl⟩), hT _ t_802, hT _ s_5⟩ (k_preV hP hK hD hnw 3 rfl rfl) rfl rfl hl.1 rfl (lv_room (Nat.le_of_ble_eq_true rfl)) d_K_digest_37 hc0) hD hS hA (fun _ _ H locs hp37 hP hD hK hS => ?_)
    subst hp37
    replace hP : va_P D CC (wC tk ad g rr ++ tl) H := hP
    replace hD : va_D A (wC tk ad g rr ++ tl) := hD
    exact k_iret (v := slC (fun v => rt (Xs v)) 4 0 n) hQ hx hb hr hlk hK hP hD hS () rfl (by first | (rw [if_pos (by omega)]; rfl) | rw [if_neg (by omega)]) d_K_digest_40
  · skip
    refine lv_iconst (v := nI 0) hx hb d_K_digest_27 (by decide) ?_
    refine lv_goto hx hb d_K_digest_28 (tgt := 40) (by decide) ?_
    exact k_iret (v := nI 0) hQ hx hb hr hlk hK hP hD hS () rfl (by first | (rw [if_pos (by omega)]; rfl) | rw [if_neg (by omega)]) d_K_digest_40
