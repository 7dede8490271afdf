theorem pf_last {key : Nat} {Y : List kv_I} {k : Nat} (h : Y.length ≤ k + 1) : pf key (Y.drop k) = 0 := by
  have hl : (Y.drop k).length ≤ 1 := by rw [List.length_drop]; omega
  match hd : Y.drop k with
  | [] => rfl
  | [_] => rfl
  | x :: y :: r => rw [hd] at hl; simp at hl
theorem pf_stop {key : Nat} {Y : List kv_I} {k : Nat} {x : kv_I} (hx : Y[k]? = some x) (h : key ≤ x.1) : pf key (Y.drop k) = 0 := by
  obtain ⟨hk, e⟩ := List.getElem?_eq_some_iff.mp hx
  rw [List.drop_eq_getElem_cons hk, e]
  match hd : Y.drop (k + 1) with
  | [] => rfl
  | y :: r => unfold pf; rw [if_pos h]
theorem pf_step {key : Nat} {Y : List kv_I} {k : Nat} {x : kv_I} (hx : Y[k]? = some x) (hl : k + 1 < Y.length) (h : x.1 < key) : pf key (Y.drop k) = pf key (Y.drop (k + 1)) + 1 := by
  obtain ⟨hk, e⟩ := List.getElem?_eq_some_iff.mp hx
  rw [List.drop_eq_getElem_cons hk, e]
  match hd : Y.drop (k + 1) with
  | [] => have := congrArg List.length hd; rw [List.length_drop] at this; simp at this; omega
  | y :: r => conv => lhs; unfold pf
              rw [if_neg (by omega)]
theorem it_at {Y : List kv_I} {k : Nat} (h : k < Y.length) : ∃ x, Y[k]? = some x := ⟨_, List.getElem?_eq_getElem h⟩

theorem so_len {X : List kv_I} (h : so X) : X.length ≤ 48 := by
  have h1 : (X.map (fun x => x.1)).Pairwise (· < ·) := List.pairwise_map.mpr h.1
  have h2 := cn_le (P := fun _ => true) (X.map (fun x => x.1)) 0 48 h1 (fun k hk => by
    obtain ⟨x, hx, rfl⟩ := List.mem_map.mp hk
    exact ⟨Nat.zero_le _, by have := h.2 x hx; omega, rfl⟩)
  rw [List.length_map] at h2
  have h3 : cn (fun _ => true) 0 48 = 48 := by decide +kernel
  omega
theorem pa_len {l : Nat} {X : List kv_I} (h : so X) : (pa l X).length ≤ 48 := by
  have h1 := pa_lks (l := l) h
  have h2 := cn_le (P := fun _ => true) ((pa l X).map lk) 0 48 h1 (fun k hk => by
    obtain ⟨p, hp, rfl⟩ := List.mem_map.mp hk
    exact ⟨Nat.zero_le _, by have := lk_lt (pa_so h hp) (pa_ne p hp); omega, rfl⟩)
  rw [List.length_map] at h2
  have h3 : cn (fun _ => true) 0 48 = 48 := by decide +kernel
  omega

set_option maxHeartbeats 4000000 in
set_option maxRecDepth 100000 in
theorem c_C_placeFor (l : Launch) (D : va_G) (tk : Nat → ClassId) (sz : Nat) (ws : va_W) (a lv : Nat) (Y : List kv_I) (b : Nat → Option Nat) (o : Option Nat) (hc : cAt tk ws a lv Y b o) (hY : Y ≠ []) (hYl : Y.length ≤ 48) (hYk : ∀ x ∈ Y, x.1 < 48) (key : Nat) (hkey : key < 48) : Met l y_C_placeFor w_C_placeFor ({ frames := 0, cells := 0, slots := 0, locals := 0 }) (va_Pc [.ref a, .int (nI key)] (k_pre D (TY tk) sz ws)) (va_Qi (fun (r : Int32) (_ : Unit) => r = nI (pf key Y)) (fun u t => k_at D (TY tk) (va_A ws sz) ((fun _ => ws) u) t) (va_A ws sz)) 0 0 (va_A ws sz) := by
  refine k_ofW (fun A => va_Qi (fun (r : Int32) (_ : Unit) => r = nI (pf key Y)) (fun u t => k_at D (TY tk) A ((fun _ => ws) u) t) A) (by decide) (Nat.le_of_ble_eq_true rfl) ?_
  intro p e s m args below meth c Q A ls hQ hx hb hr hlk hin hts hT hown hml hnw hP hK hD hA hsz hl
  have hS : va_S A s.heap s.heap [] := va_S.rf
  have hc0 : 0 + 0 ≤ 0 ∧ 0 + 0 ≤ 0 := ⟨by decide, by decide⟩
  replace hl : lv_has ls 3 [(0, .ref a), (1, .int (nI key))] := hl
  replace hP : va_P D CC ws s.heap := hP
  replace hK : va_K D CC (TY tk) s := hK
  obtain ⟨q, ka, va, ba, fk, fv, h1, h2, h3, h4, h5⟩ := hc
  refine lv_iconst (v := nI 0) hx hb d_C_placeFor_0 (by decide) ?_
  refine lv_istore_n (lv' := [(2, .int (nI 0)), (0, .ref a), (1, .int (nI key))]) hx hb d_C_placeFor_1 rfl hl (by decide) rfl (fun ls hl => ?_)
  have key2 : ∀ (n2 : Nat) (k : Nat) (ls : Array Slot) (H : Heap) (locs : List Loc), Y.length - k < n2 → (k < Y.length) → (pf key Y = k + pf key (Y.drop k)) → lv_has ls 3 [(0, .ref a), (1, .int (nI key)), (2, .int (nI k))] → va_P D CC ws H → va_D A ws → va_S A s.heap H locs → W p l e ({ frames := 0, cells := 0, slots := 0, locals := 0 } : Room) s m args below meth c H locs 0 0 Q (F0 m 2 ls []) := by
    intro n2
    induction n2 with
    | zero => intro k ls H locs hn; exact absurd hn (Nat.not_lt_zero _)
    | succ n2 ih2 =>
      intro k ls H locs hn2 hk hpf hl hP hD hS
      refine lv_iload_n hx hb d_C_placeFor_2 rfl (lv_at hl 2 rfl) ?_
      refine lv_aload_n hx hb d_C_placeFor_3 rfl (lv_at hl 0 rfl) ?_
      refine gf_C_32 (v := .ref ka) hx hb hT hown hK hP q h1 rfl d_C_placeFor_4 ?_
      refine va_alen (v := nI Y.length) hx hb hK hP (q + 1) 0 h2 rfl rfl d_C_placeFor_7 ?_
      refine lv_iconst (v := nI 1) hx hb d_C_placeFor_8 (by decide) ?_
      refine st_isub hx hb (by omega) d_C_placeFor_9 ?_
      refine st_icmp_ge hx hb (by omega) (by omega) d_C_placeFor_10 (tgt := 29) (by decide) (fun hc10 => ?_) (fun hc10 => ?_)
      · skip
        refine lv_iload_n hx hb d_C_placeFor_29 rfl (lv_at hl 2 rfl) ?_
        exact k_iret (v := nI k) hQ hx hb hr hlk hK hP hD hS () rfl (congrArg nI (by first | (rw [pf_last (by omega)] at hpf; omega) | (rw [pf_stop hx9 (by omega)] at hpf; omega))) d_C_placeFor_30
      · skip
        refine lv_aload_n hx hb d_C_placeFor_13 rfl (lv_at hl 0 rfl) ?_
        refine gf_C_32 (v := .ref ka) hx hb hT hown hK hP q h1 rfl d_C_placeFor_14 ?_
        refine lv_iload_n hx hb d_C_placeFor_17 rfl (lv_at hl 2 rfl) ?_
        refine st_iald hx hb hK hP (q + 1) 0 h2 rfl (by omega) (by omega) d_C_placeFor_18 ?_
        obtain ⟨x9, hx9⟩ := it_at (Y := Y) hk
        have hx8 : x9.1 < 48 := hYk _ (List.mem_of_getElem? hx9)
        refine st_top (show fk k = nI x9.1 from (h5 k x9 hx9).1) ?_
        refine lv_iload_n hx hb d_C_placeFor_19 rfl (lv_at hl 1 rfl) ?_
        refine st_icmp_ge hx hb (by omega) (by omega) d_C_placeFor_20 (tgt := 29) (by decide) (fun hc20 => ?_) (fun hc20 => ?_)
        · skip
          refine lv_iload_n hx hb d_C_placeFor_29 rfl (lv_at hl 2 rfl) ?_
          exact k_iret (v := nI k) hQ hx hb hr hlk hK hP hD hS () rfl (congrArg nI (by first | (rw [pf_last (by omega)] at hpf; omega) | (rw [pf_stop hx9 (by omega)] at hpf; omega))) d_C_placeFor_30
        · skip
          refine lv_iinc (k := 2) (v := nI (k + 1)) (lv' := [(2, .int (nI (k + 1))), (0, .ref a), (1, .int (nI key))]) hx hb d_C_placeFor_23 hl rfl (nI_add _ _) (by decide) rfl (fun ls hl => ?_)
          refine lv_goto hx hb d_C_placeFor_26 (tgt := 2) (by decide) ?_
          exact ih2 (k + 1) ls _ _ (by omega) (by omega) (by rw [pf_step hx9 (by omega) (by omega)] at hpf; omega) (lv_sub hl [1, 2, 0] rfl) hP hD hS
  exact key2 _ 0 ls _ _ (Nat.lt_succ_self _) (List.length_pos_iff.mpr hY) (by rw [List.drop_zero, Nat.zero_add]) (lv_sub hl [1, 2, 0] rfl) hP hD hS

set_option maxHeartbeats 4000000 in
set_option maxRecDepth 100000 in
theorem c_C_under (l : Launch) (D : va_G) (tk : Nat → ClassId) (sz : Nat) (ws : va_W) (a lv : Nat) (Y : List kv_I) (b : Nat → Option Nat) (o : Option Nat) (hc : cAt tk ws a lv Y b o) (hY : Y ≠ []) (hYl : Y.length ≤ 48) (hYk : ∀ x ∈ Y, x.1 < 48) (key : Nat) (hkey : key < 48) : Met l y_C_under w_C_under ({ frames := 1, cells := 0, slots := 0, locals := 22 }) (va_Pc [.ref a, .int (nI key)] (k_pre D (TY tk) sz ws)) (va_Qq (fun (r : Option Nat) (_ : Unit) => r = b (pf key Y)) (fun u t => k_at D (TY tk) (va_A ws sz) ((fun _ => ws) u) t) (va_A ws sz)) 0 0 (va_A ws sz) := by
  refine k_ofW (fun A => va_Qq (fun (r : Option Nat) (_ : Unit) => r = b (pf key Y)) (fun u t => k_at D (TY tk) A ((fun _ => ws) u) t) A) (by decide) (Nat.le_of_ble_eq_true rfl) ?_
  intro p e s m args below meth c Q A ls hQ hx hb hr hlk hin hts hT hown hml hnw hP hK hD hA hsz hl
  have hS : va_S A s.heap s.heap [] := va_S.rf
  have hc0 : 0 + 0 ≤ 0 ∧ 0 + 0 ≤ 0 := ⟨by decide, by decide⟩
  replace hl : lv_has ls 2 [(0, .ref a), (1, .int (nI key))] := hl
  replace hP : va_P D CC ws s.heap := hP
  replace hK : va_K D CC (TY tk) s := hK
  have hc9 := hc
  obtain ⟨q, ka, va, ba, fk, fv, h1, h2, h3, h4, h5⟩ := hc
  refine lv_aload_n hx hb d_C_under_0 rfl (lv_at hl 0 rfl) ?_
  refine gf_C_37 (v := .ref ba) hx hb hT hown hK hP q h1 rfl d_C_under_1 ?_
  refine lv_aload_n hx hb d_C_under_4 rfl (lv_at hl 0 rfl) ?_
  refine lv_iload_n hx hb d_C_under_5 rfl (lv_at hl 1 rfl) ?_
  refine k_calli (va_runV (As := [.int (nI key)]) (rest := [.ref ba]) ⟨hx, hb, hml, hown, hts⟩ (c_C_placeFor l D tk s.heap.size ws a lv Y b o hc9 hY hYl hYk key hkey) (cwV 1 hts (gV t_220 t_221 t_222 t_15 t_223) rfl rfl rfl (by decide +kernel) ⟨Nat.le_of_ble_eq_true rfl, Nat.le_of_ble_eq_true rfl⟩) (k_preV hP hK hD hnw q h1 rfl) rfl rfl hl.1 rfl (lv_room (Nat.le_of_ble_eq_true rfl)) d_C_under_6 hc0) hD hS hA (fun _ _ H locs hp6 hP hD hK hS => ?_)
  subst hp6
  have hpl := pf_lt (key := key) hY
  replace hP : va_P D CC ws H := hP
  replace hD : va_D A ws := hD
  refine st_aald hx hb hK hP (q + 3) 3 h4 rfl (by omega) (by omega) d_C_under_9 ?_
  exact k_aret (r := (b (pf key Y))) hQ hx hb hr (Or.inl ⟨_, rfl⟩) hlk hK hP hD hS () rfl rfl d_C_under_10

/-- the store of the class in the world -/
def sI (tk : Nat → ClassId) (ws : va_W) (S : List ck_I) (ca : Nat → Nat) (bl : Nat → Nat → Option Nat) : Prop := st_ok S ca bl ∧ ∀ c l p, S[c]? = some (l, p) → cAt tk ws (ca c) l (im l p) (bl c) ((pv S (lk p) c).map ca)
theorem sI_C {tk : Nat → ClassId} {ad : Nat → Nat} {g : Nat → Nat → Int32} {rr : Nat → Nat → Option Nat} {tl : va_W} {S : List ck_I} {ca : Nat → Nat} {bl : Nat → Nat → Option Nat} (h : sI tk tl S ca bl) : sI tk (wC tk ad g rr ++ tl) S ca bl := ⟨h.1, fun c l p e => cAt_C (h.2 c l p e)⟩
/-- the top chunk of a content -/
def tOf (S : List ck_I) (ca : Nat → Nat) (X : List kv_I) (t : Option Nat) : Prop := (X = [] ∧ t = none) ∨ ∃ d l, t = some (ca d) ∧ S[d]? = some (l, X) ∧ l + 1 = hg X
/-- a chunk of level 0 with items Y, or none -/
def bot (S : List ck_I) (ca : Nat → Nat) (r : Option Nat) (Y : List kv_I) : Prop := (r = none ∧ Y = []) ∨ ∃ d, r = some (ca d) ∧ S[d]? = some (0, Y)
theorem im_l48 {l : Nat} {X : List kv_I} (h : so X) : (im l X).length ≤ 48 := by
  cases l with
  | zero => exact so_len h
  | succ l =>
    rw [im_succ, List.length_map]
    exact pa_len h
theorem im_key {l : Nat} {X : List kv_I} (h : so X) : ∀ x ∈ im l X, x.1 < 48 := by
  cases l with
  | zero => exact h.2
  | succ l =>
    intro x hx
    rw [im_succ, List.mem_map] at hx
    obtain ⟨p, hp, rfl⟩ := hx
    exact lk_lt (pa_so h hp) (pa_ne p hp)
theorem im_nn {l : Nat} {X : List kv_I} (h : X ≠ []) : im l X ≠ [] := by
  cases l with
  | zero => exact h
  | succ l =>
    rw [im_succ]
    intro q
    exact h (pa_nil.mp (List.map_eq_nil_iff.mp q))
/-- one step down: the chunk under the place of a key -/
theorem un_step {S : List ck_I} {ca : Nat → Nat} {bl : Nat → Nat → Option Nat} (h : st_ok S ca bl) {c l : Nat} {p : List kv_I} (hc : S[c]? = some (l, p)) (key : Nat) : (l = 0 → bl c (pf key (im l p)) = none ∧ pc_ key (pa 0 p) = p) ∧ ∀ l', l = l' + 1 → ∃ d, S[d]? = some (l', pc_ key (pa l' p)) ∧ bl c (pf key (im l p)) = some (ca d) ∧ pc_ key (pa 0 (pc_ key (pa l' p))) = pc_ key (pa 0 p) := by
  obtain ⟨h1, h2, h3, h4, h5, h6⟩ := h.2.2 c l p hc
  refine ⟨fun e => ⟨h5 e _, ?_⟩, fun l' e => ?_⟩
  · subst e; rw [h3]; rfl
  · subst e
    have hne : pa l' p ≠ [] := fun q => h2 (pa_nil.mp q)
    obtain ⟨d, hd1, hd2, hd3⟩ := h6 l' rfl (pf key (im (l' + 1) p)) (pc_ key (pa l' p)) (by rw [im_succ]; exact pc_at hne)
    refine ⟨d, hd2, hd3, ?_⟩
    have h7 : l' = 0 ∨ l' = 1 := by omega
    rcases h7 with rfl | rfl
    · rw [pa_atom 0 _ (pc_mem hne)]; rfl
    · exact pc_down h1 h2 key 0
def btS (S : List ck_I) (ca : Nat → Nat) (X : List kv_I) (key : Nat) (cur bo : Option Nat) (n9 : Nat) : Prop := (cur = none ∧ n9 = 0 ∧ ∃ Y, bot S ca bo Y ∧ gt_ Y key = gt_ X key) ∨ ∃ c l p, cur = some (ca c) ∧ S[c]? = some (l, p) ∧ n9 = l + 1 ∧ pc_ key (pa 0 p) = pc_ key (pa 0 X)
theorem btS_step {tk : Nat → ClassId} {ws : va_W} {S : List ck_I} {ca : Nat → Nat} {bl : Nat → Nat → Option Nat} (h : sI tk ws S ca bl) {X : List kv_I} (hX : so X) (hX2 : X ≠ []) {key c l : Nat} {p : List kv_I} (hc : S[c]? = some (l, p)) (hp : pc_ key (pa 0 p) = pc_ key (pa 0 X)) : btS S ca X key (bl c (pf key (im l p))) (some (ca c)) l := by
  obtain ⟨u1, u2⟩ := un_step h.1 hc key
  cases l with
  | zero =>
    obtain ⟨e1, e2⟩ := u1 rfl
    refine Or.inl ⟨e1, rfl, p, Or.inr ⟨c, rfl, hc⟩, ?_⟩
    rw [← e2, hp]; exact pc_gt hX hX2 key
  | succ l' =>
    obtain ⟨d, hd1, hd2, hd3⟩ := u2 l' rfl
    exact Or.inr ⟨d, l', _, hd2, hd1, rfl, hd3.trans hp⟩
theorem btS_init {S : List ck_I} {ca : Nat → Nat} {X : List kv_I} {t : Option Nat} (h : tOf S ca X t) (key : Nat) : ∃ n9, n9 < 400 ∧ btS S ca X key t none n9 := by
  rcases h with ⟨h1, h2⟩ | ⟨d, l, h1, h2, h3⟩
  · exact ⟨0, by decide, Or.inl ⟨h2, rfl, [], Or.inl ⟨rfl, rfl⟩, by rw [h1]⟩⟩
  · exact ⟨l + 1, by have := hg_le X; omega, Or.inr ⟨d, l, X, h1, h2, rfl, rfl⟩⟩

theorem pz9 {tk : Nat → ClassId} {ws : va_W} {S : List ck_I} {ca : Nat → Nat} {bl : Nat → Nat → Option Nat} (h : sI tk ws S ca bl) {key c l : Nat} {p : List kv_I} (hc : S[c]? = some (l, p)) (q : pc_ key (pa 0 p) = pc_ key (pa 0 [])) : False := by
  have hp := h.1.2.2 c l p hc
  have hne : pa 0 p ≠ [] := fun z => hp.2.1 (pa_nil.mp z)
  have h1 := pa_ne _ (pc_mem (key := key) hne)
  rw [q] at h1
  exact h1 rfl

set_option maxHeartbeats 4000000 in
set_option maxRecDepth 100000 in
theorem c_K_bottomFor (l : Launch) (D : va_G) (tk : Nat → ClassId) (sz : Nat) (ws : va_W) (S : List ck_I) (ca : Nat → Nat) (bl : Nat → Nat → Option Nat) (hst : sI tk ws S ca bl) (X : List kv_I) (hX : so X) (tp : Option Nat) (htp : tOf S ca X tp) (key : Nat) (hkey : key < 48) : Met l y_K_bottomFor w_K_bottomFor ({ frames := 2, cells := 0, slots := 0, locals := 43 }) (va_Pc [va_rf tp, .int (nI key)] (k_pre D (TY tk) sz ws)) (va_Qq (fun (r : Option Nat) (Y : List kv_I) => bot S ca r Y ∧ gt_ Y key = gt_ X key) (fun u t => k_at D (TY tk) (va_A ws sz) ((fun _ => ws) u) t) (va_A ws sz)) 0 0 (va_A ws sz) := by
  refine k_ofW (fun A => va_Qq (fun (r : Option Nat) (Y : List kv_I) => bot S ca r Y ∧ gt_ Y key = gt_ X key) (fun u t => k_at D (TY tk) A ((fun _ => ws) u) t) A) (by decide) (by cases tp <;> exact Nat.le_of_ble_eq_true rfl) ?_
  intro p e s m args below meth c Q A ls hQ hx hb hr hlk hin hts hT hown hml hnw hP hK hD hA hsz hl
  have hS : va_S A s.heap s.heap [] := va_S.rf
  have hc0 : 0 + 0 ≤ 0 ∧ 0 + 0 ≤ 0 := ⟨by decide, by decide⟩
  replace hl : lv_has ls 4 [(0, va_rf tp), (1, .int (nI key))] := by cases tp <;> exact hl
  replace hP : va_P D CC ws s.heap := hP
  replace hK : va_K D CC (TY tk) s := hK
  refine lv_null hx hb d_K_bottomFor_0 ?_
  refine lv_astore_nN (lv' := [(2, .null), (0, va_rf tp), (1, .int (nI key))]) hx hb d_K_bottomFor_1 rfl hl (by decide) rfl (fun ls hl => ?_)
  refine sq_aload_n hx hb d_K_bottomFor_2 rfl (lv_at hl 1 rfl) ?_
  refine sq_astore_n (lv' := [(3, va_rf tp), (2, .null), (0, va_rf tp), (1, .int (nI key))]) hx hb d_K_bottomFor_3 rfl hl (by decide) rfl (fun ls hl => ?_)
  obtain ⟨n0, hn00, hn0⟩ := btS_init htp key
  replace hl : lv_has ls 4 [(3, va_rf tp), (2, va_rf none), (0, va_rf tp), (1, .int (nI key))] := hl
  have key4 : ∀ (n4 : Nat) (cur : Option Nat) (bo : Option Nat) (n9 : Nat) (ls : Array Slot) (H : Heap) (locs : List Loc), n9 < n4 → (btS S ca X key cur bo n9) → lv_has ls 4 [(0, va_rf tp), (1, .int (nI key)), (2, va_rf bo), (3, va_rf cur)] → va_P D CC ws H → va_D A ws → va_S A s.heap H locs → W p l e ({ frames := 2, cells := 0, slots := 0, locals := 43 } : Room) s m args below meth c H locs 0 0 Q (F0 m 4 ls []) := by
    intro n4
    induction n4 with
    | zero => intro cur bo n9 ls H locs hn; exact absurd hn (Nat.not_lt_zero _)
    | succ n4 ih4 =>
      intro cur bo n9 ls H locs hn4 hcu hl hP hD hS
      refine sq_aload_n hx hb d_K_bottomFor_4 rfl (lv_at hl 3 rfl) ?_
      refine sq_ifnull (r := cur) hx hb d_K_bottomFor_5 (tgt := 19) (by decide) (fun hc5 => ?_) (fun hc5 => ?_)
      · skip
        obtain ⟨Y9, hY9, hg9⟩ : ∃ Y, bot S ca bo Y ∧ gt_ Y key = gt_ X key := hcu.elim (fun q => q.2.2) (fun ⟨c, l, p, e, _⟩ => by rw [hc5] at e; cases e)
        refine sq_aload_n hx hb d_K_bottomFor_19 rfl (lv_at hl 2 rfl) ?_
        exact k_aret (r := bo) hQ hx hb hr (Or.inl ⟨_, rfl⟩) hlk hK hP hD hS Y9 rfl (⟨hY9, hg9⟩) d_K_bottomFor_20
      · skip
        have hcu2 : ∃ c l p, cur = some (ca c) ∧ S[c]? = some (l, p) ∧ n9 = l + 1 ∧ pc_ key (pa 0 p) = pc_ key (pa 0 X) := hcu.resolve_left (fun q => hc5 q.1)
        obtain ⟨c9, l9, p9, h9a, h9b, h9c, h9d⟩ := hcu2
        subst h9a
        obtain ⟨q9z, ka9z, va9z, ba9z, fk9z, fv9z, h19z, h29z, h39z, h49z, h59z⟩ := hst.2 c9 l9 p9 h9b
        replace hl : lv_has ls 4 [(0, va_rf tp), (1, .int (nI key)), (2, va_rf bo), (3, .ref (ca c9))] := hl
        refine lv_aload_n hx hb d_K_bottomFor_8 rfl (lv_at hl 3 rfl) ?_
        refine lv_astore_n (lv' := [(2, .ref (ca c9)), (0, va_rf tp), (1, .int (nI key)), (3, .ref (ca c9))]) hx hb d_K_bottomFor_9 rfl hl (by decide) rfl (fun ls hl => ?_)
        refine lv_aload_n hx hb d_K_bottomFor_10 rfl (lv_at hl 3 rfl) ?_
        refine lv_iload_n hx hb d_K_bottomFor_11 rfl (lv_at hl 2 rfl) ?_
        refine k_callq (va_runV (As := [.int (nI key)]) (rest := []) ⟨hx, hb, hml, hown, hts⟩ (c_C_under l D tk H.size ws (ca c9) l9 (im l9 p9) (bl c9) ((pv S (lk p9) c9).map ca) (hst.2 c9 l9 p9 h9b) (im_nn (hst.1.2.2 c9 l9 p9 h9b).2.1) (im_l48 (hst.1.2.2 c9 l9 p9 h9b).1) (im_key (hst.1.2.2 c9 l9 p9 h9b).1) key hkey) (cwV 1 hts (gV t_216 t_217 t_218 t_15 t_219) rfl rfl rfl (by decide +kernel) ⟨Nat.le_of_ble_eq_true rfl, Nat.le_of_ble_eq_true rfl⟩) (k_preV hP hK hD hnw q9z h19z rfl) rfl rfl hl.1 rfl (lv_room (Nat.le_of_ble_eq_true rfl)) d_K_bottomFor_12 hc0) hD hS hA (fun _ _ H locs hp12 hP hD hK hS => ?_)
        subst hp12
        replace hP : va_P D CC ws H := hP
        replace hD : va_D A ws := hD
        refine sq_astore_n (lv' := [(3, va_rf (bl c9 (pf key (im l9 p9)))), (2, .ref (ca c9)), (0, va_rf tp), (1, .int (nI key))]) hx hb d_K_bottomFor_15 rfl hl (by decide) rfl (fun ls hl => ?_)
        refine lv_goto hx hb d_K_bottomFor_16 (tgt := 4) (by decide) ?_
        exact ih4 (bl c9 (pf key (im l9 p9))) (some (ca c9)) l9 ls _ _ (by omega) (btS_step hst hX (by rintro rfl; exact absurd h9d (by intro q; exact pz9 hst h9b q)) h9b h9d) (lv_sub hl [2, 3, 1, 0] rfl) hP hD hS
  exact key4 _ tp none n0 ls _ _ (Nat.lt_succ_self _) hn0 (lv_sub hl [2, 3, 1, 0] rfl) hP hD hS

set_option maxHeartbeats 4000000 in
set_option maxRecDepth 100000 in
theorem c_K_holds (l : Launch) (D : va_G) (tk : Nat → ClassId) (sz : Nat) (ws : va_W) (S : List ck_I) (ca : Nat → Nat) (bl : Nat → Nat → Option Nat) (hst : sI tk ws S ca bl) (r0 : Option Nat) (Y : List kv_I) (hbo : bot S ca r0 Y) (key : Nat) (hkey : key < 48) : Met l y_K_holds w_K_holds ({ frames := 1, cells := 0, slots := 0, locals := 22 }) (va_Pc [va_rf r0, .int (nI key)] (k_pre D (TY tk) sz ws)) (va_Qi (fun (r : Int32) (_ : Unit) => r = if gt_ Y key = none then nI 0 else nI 1) (fun u t => k_at D (TY tk) (va_A ws sz) ((fun _ => ws) u) t) (va_A ws sz)) 0 0 (va_A ws sz) := by
  refine k_ofW (fun A => va_Qi (fun (r : Int32) (_ : Unit) => r = if gt_ Y key = none then nI 0 else nI 1) (fun u t => k_at D (TY tk) A ((fun _ => ws) u) t) A) (by decide) (by cases r0 <;> exact Nat.le_of_ble_eq_true rfl) ?_
  intro p e s m args below meth c Q A ls hQ hx hb hr hlk hin hts hT hown hml hnw hP hK hD hA hsz hl
  have hS : va_S A s.heap s.heap [] := va_S.rf
  have hc0 : 0 + 0 ≤ 0 ∧ 0 + 0 ≤ 0 := ⟨by decide, by decide⟩
  replace hl : lv_has ls 2 [(0, va_rf r0), (1, .int (nI key))] := by cases r0 <;> exact hl
  replace hP : va_P D CC ws s.heap := hP
  replace hK : va_K D CC (TY tk) s := hK
  refine sq_aload_n hx hb d_K_holds_0 rfl (lv_at hl 0 rfl) ?_
  refine sq_ifnull (r := r0) hx hb d_K_holds_1 (tgt := 22) (by decide) (fun hc1 => ?_) (fun hc1 => ?_)
  · skip
    have hYn : gt_ Y key = none := hbo.elim (fun q => by rw [q.2]; rfl) (fun ⟨d, e, _⟩ => by rw [hc1] at e; cases e)
    refine lv_iconst (v := nI 0) hx hb d_K_holds_22 (by decide) ?_
    exact k_zret (v := nI 0) hQ hx hb hr hlk hK hP hD hS () rfl (by decide) (by first | rw [if_pos hYn] | rw [hx7, if_neg (show ¬ x9.1 = key by omega), if_pos rfl] | rw [hx7, if_pos (show x9.1 = key by omega), if_neg (by simp)]) d_K_holds_23
  · skip
    obtain ⟨d9, h9a, h9b⟩ := hbo.resolve_left (fun q => hc1 q.1)
    subst h9a
    have hck : cAt tk ws (ca d9) 0 Y (bl d9) ((pv S (lk Y) d9).map ca) := hst.2 d9 0 Y h9b
    have hY := (hst.1.2.2 d9 0 Y h9b).2.1
    have hso := (hst.1.2.2 d9 0 Y h9b).1
    obtain ⟨q, ka, va, ba, fk, fv, h1, h2, h3, h4, h5⟩ := id hck
    replace hl : lv_has ls 2 [(0, .ref (ca d9)), (1, .int (nI key))] := hl
    refine lv_aload_n hx hb d_K_holds_4 rfl (lv_at hl 0 rfl) ?_
    refine gf_K_222 (v := .ref ka) hx hb hT hown hK hP q h1 rfl d_K_holds_5 ?_
    refine lv_aload_n hx hb d_K_holds_8 rfl (lv_at hl 0 rfl) ?_
    refine lv_iload_n hx hb d_K_holds_9 rfl (lv_at hl 1 rfl) ?_
    refine k_calli (va_runV (As := [.int (nI key)]) (rest := [.ref ka]) ⟨hx, hb, hml, hown, hts⟩ (c_C_placeFor l D tk s.heap.size ws (ca d9) 0 Y (bl d9) ((pv S (lk Y) d9).map ca) hck hY (so_len hso) hso.2 key hkey) (cwV 1 hts (gV t_227 t_221 t_222 t_15 t_223) rfl rfl rfl (by decide +kernel) ⟨Nat.le_of_ble_eq_true rfl, Nat.le_of_ble_eq_true rfl⟩) (k_preV hP hK hD hnw q h1 rfl) rfl rfl hl.1 rfl (lv_room (Nat.le_of_ble_eq_true rfl)) d_K_holds_10 hc0) hD hS hA (fun _ _ H locs hp10 hP hD hK hS => ?_)
    subst hp10
    have hpl := pf_lt (key := key) hY
    have hYl9 := so_len hso
    obtain ⟨x9, hx9, hx7⟩ := pf_gt (key := key) hso hY
    have hx8 : x9.1 < 48 := hso.2 _ (List.mem_of_getElem? hx9)
    replace hP : va_P D CC ws H := hP
    replace hD : va_D A ws := hD
    refine st_iald hx hb hK hP (q + 1) 0 h2 rfl (by omega) (by omega) d_K_holds_13 ?_
    refine st_top (show fk (pf key Y) = nI x9.1 from (h5 _ x9 hx9).1) ?_
    refine lv_iload_n hx hb d_K_holds_14 rfl (lv_at hl 1 rfl) ?_
    refine st_icmp_ne hx hb (by omega) (by omega) d_K_holds_15 (tgt := 22) (by decide) (fun hc15 => ?_) (fun hc15 => ?_)
    · skip
      refine lv_iconst (v := nI 0) hx hb d_K_holds_22 (by decide) ?_
      exact k_zret (v := nI 0) hQ hx hb hr hlk hK hP hD hS () rfl (by decide) (by first | rw [if_pos hYn] | rw [hx7, if_neg (show ¬ x9.1 = key by omega), if_pos rfl] | rw [hx7, if_pos (show x9.1 = key by omega), if_neg (by simp)]) d_K_holds_23
    · skip
      refine lv_iconst (v := nI 1) hx hb d_K_holds_18 (by decide) ?_
      refine lv_goto hx hb d_K_holds_19 (tgt := 23) (by decide) ?_
      exact k_zret (v := nI 1) hQ hx hb hr hlk hK hP hD hS () rfl (by decide) (by first | rw [if_pos hYn] | rw [hx7, if_neg (show ¬ x9.1 = key by omega), if_pos rfl] | rw [hx7, if_pos (show x9.1 = key by omega), if_neg (by simp)]) d_K_holds_23

set_option maxHeartbeats 4000000 in
set_option maxRecDepth 100000 in
theorem c_K_valueIn (l : Launch) (D : va_G) (tk : Nat → ClassId) (sz : Nat) (ws : va_W) (S : List ck_I) (ca : Nat → Nat) (bl : Nat → Nat → Option Nat) (hst : sI tk ws S ca bl) (r0 : Option Nat) (Y : List kv_I) (hbo : bot S ca r0 Y) (key : Nat) (hkey : key < 48) : Met l y_K_valueIn w_K_valueIn ({ frames := 1, cells := 0, slots := 0, locals := 22 }) (va_Pc [va_rf r0, .int (nI key)] (k_pre D (TY tk) sz ws)) (va_Qi (fun (r : Int32) (_ : Unit) => ∀ v, gt_ Y key = some v → r = v) (fun u t => k_at D (TY tk) (va_A ws sz) ((fun _ => ws) u) t) (va_A ws sz)) 0 0 (va_A ws sz) := by
  refine k_ofW (fun A => va_Qi (fun (r : Int32) (_ : Unit) => ∀ v, gt_ Y key = some v → r = v) (fun u t => k_at D (TY tk) A ((fun _ => ws) u) t) A) (by decide) (by cases r0 <;> exact Nat.le_of_ble_eq_true rfl) ?_
  intro p e s m args below meth c Q A ls hQ hx hb hr hlk hin hts hT hown hml hnw hP hK hD hA hsz hl
  have hS : va_S A s.heap s.heap [] := va_S.rf
  have hc0 : 0 + 0 ≤ 0 ∧ 0 + 0 ≤ 0 := ⟨by decide, by decide⟩
  replace hl : lv_has ls 2 [(0, va_rf r0), (1, .int (nI key))] := by cases r0 <;> exact hl
  replace hP : va_P D CC ws s.heap := hP
  replace hK : va_K D CC (TY tk) s := hK
  refine sq_aload_n hx hb d_K_valueIn_0 rfl (lv_at hl 0 rfl) ?_
  refine sq_ifnonnull (r := r0) hx hb d_K_valueIn_1 (tgt := 8) (by decide) (fun hc1 => ?_) (fun hc1 => ?_)
  · skip
    obtain ⟨d9, h9a, h9b⟩ := hbo.resolve_left (fun q => hc1 q.1)
    subst h9a
    have hck : cAt tk ws (ca d9) 0 Y (bl d9) ((pv S (lk Y) d9).map ca) := hst.2 d9 0 Y h9b
    have hY := (hst.1.2.2 d9 0 Y h9b).2.1
    have hso := (hst.1.2.2 d9 0 Y h9b).1
    obtain ⟨q, ka, va, ba, fk, fv, h1, h2, h3, h4, h5⟩ := id hck
    replace hl : lv_has ls 2 [(0, .ref (ca d9)), (1, .int (nI key))] := hl
    refine lv_aload_n hx hb d_K_valueIn_8 rfl (lv_at hl 0 rfl) ?_
    refine gf_K_228 (v := .ref va) hx hb hT hown hK hP q h1 rfl d_K_valueIn_9 ?_
    refine lv_aload_n hx hb d_K_valueIn_12 rfl (lv_at hl 0 rfl) ?_
    refine lv_iload_n hx hb d_K_valueIn_13 rfl (lv_at hl 1 rfl) ?_
    refine k_calli (va_runV (As := [.int (nI key)]) (rest := [.ref va]) ⟨hx, hb, hml, hown, hts⟩ (c_C_placeFor l D tk s.heap.size ws (ca d9) 0 Y (bl d9) ((pv S (lk Y) d9).map ca) hck hY (so_len hso) hso.2 key hkey) (cwV 1 hts (gV t_227 t_221 t_222 t_15 t_223) rfl rfl rfl (by decide +kernel) ⟨Nat.le_of_ble_eq_true rfl, Nat.le_of_ble_eq_true rfl⟩) (k_preV hP hK hD hnw q h1 rfl) rfl rfl hl.1 rfl (lv_room (Nat.le_of_ble_eq_true rfl)) d_K_valueIn_14 hc0) hD hS hA (fun _ _ H locs hp14 hP hD hK hS => ?_)
    subst hp14
    have hpl := pf_lt (key := key) hY
    have hYl9 := so_len hso
    obtain ⟨x9, hx9, hx7⟩ := pf_gt (key := key) hso hY
    have hx8 : x9.1 < 48 := hso.2 _ (List.mem_of_getElem? hx9)
    replace hP : va_P D CC ws H := hP
    replace hD : va_D A ws := hD
    refine st_iald hx hb hK hP (q + 2) 0 h3 rfl (by omega) (by omega) d_K_valueIn_17 ?_
    refine st_top (show fv (pf key Y) = x9.2 from (h5 _ x9 hx9).2) ?_
    exact k_iret (v := x9.2) hQ hx hb hr hlk hK hP hD hS () rfl (fun v9 hv9 => by first | (rw [hYn] at hv9; cases hv9) | (rw [hx7] at hv9; split at hv9 <;> first | exact Option.some.inj hv9 | cases hv9)) d_K_valueIn_18
  · skip
    have hYn : gt_ Y key = none := hbo.elim (fun q => by rw [q.2]; rfl) (fun ⟨d, e, _⟩ => by rw [hc1] at e; cases e)
    refine lv_iconst (v := nI 0) hx hb d_K_valueIn_4 (by decide) ?_
    refine lv_goto hx hb d_K_valueIn_5 (tgt := 18) (by decide) ?_
    exact k_iret (v := nI 0) hQ hx hb hr hlk hK hP hD hS () rfl (fun v9 hv9 => by first | (rw [hYn] at hv9; cases hv9) | (rw [hx7] at hv9; split at hv9 <;> first | exact Option.some.inj hv9 | cases hv9)) d_K_valueIn_18
