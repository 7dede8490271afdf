/-- an entry of the reference's store, as an int -/
def cw (e : Nat × Nat × Nat × Nat) : Nat := e.1 + 8 * e.2.1 + 4096 * e.2.2.1 + 262144 * e.2.2.2
def sel (lo : Nat) (f : Nat → Option Int32) (k : Nat) : Option Int32 := if lo ≤ k then f k else none
theorem le_low {low : Int32} {lo k : Nat} (h : low + nI 1 = nI lo) (hlo : lo ≤ 64) (hk : k ≤ 64) : nI k ≤ low ↔ k < lo := by
  have e : low = dm lo := by
    unfold dm
    rw [← h]
    rw [Int32.add_sub_cancel]
  rw [e]
  cases lo with
  | zero =>
    constructor
    · intro q
      have : dm 0 = -1 := by decide
      rw [this, Int32.le_iff_toInt_le, nI_toInt (by omega)] at q
      have e2 : ((-1 : Int32)).toInt = -1 := by decide
      omega
    · intro q; omega
  | succ lo =>
    rw [dm_eq (by omega), Nat.add_sub_cancel, nI_leI (by omega) (by omega)]
    omega
theorem dm_add (c : Nat) : dm c + nI 1 = nI c := by
  unfold dm
  rw [Int32.sub_add_cancel]
theorem cw_lt {e : Nat × Nat × Nat × Nat} (h1 : e.1 < 8) (h2 : e.2.1 < 180) (h3 : e.2.2.1 < 64) (h4 : e.2.2.2 < 48) : cw e < 2 ^ 24 := by unfold cw; omega
theorem cw_1 {e : Nat × Nat × Nat × Nat} (h1 : e.1 < 8) (h2 : e.2.1 < 180) (h3 : e.2.2.1 < 64) (h4 : e.2.2.2 < 48) : nI (cw e) &&& nI 7 = nI e.1 := by
  have := cw_lt h1 h2 h3 h4
  rw [pk_andN (by omega) 3 (by decide)]
  congr 1
  unfold cw
  omega
theorem cw_4 {e : Nat × Nat × Nat × Nat} (h1 : e.1 < 8) (h2 : e.2.1 < 180) (h3 : e.2.2.1 < 64) (h4 : e.2.2.2 < 48) : nI (cw e) >>> (nI 18 &&& 31) = nI e.2.2.2 := by
  have := cw_lt h1 h2 h3 h4
  rw [pk_shrN (by omega) _ 18 (by decide)]
  congr 1
  unfold cw
  omega
theorem cw_2 {e : Nat × Nat × Nat × Nat} (h1 : e.1 < 8) (h2 : e.2.1 < 180) (h3 : e.2.2.1 < 64) (h4 : e.2.2.2 < 48) : (nI (cw e) >>> (nI 3 &&& 31)) &&& nI 511 = nI e.2.1 := by
  have := cw_lt h1 h2 h3 h4
  rw [pk_shrN (by omega) _ 3 (by decide), pk_andN (by omega) 9 (by decide)]
  congr 1
  unfold cw
  omega
theorem cw_3 {e : Nat × Nat × Nat × Nat} (h1 : e.1 < 8) (h2 : e.2.1 < 180) (h3 : e.2.2.1 < 64) (h4 : e.2.2.2 < 48) : (nI (cw e) >>> (nI 12 &&& 31)) &&& nI 63 = nI e.2.2.1 := by
  have := cw_lt h1 h2 h3 h4
  rw [pk_shrN (by omega) _ 12 (by decide), pk_andN (by omega) 6 (by decide)]
  congr 1
  unfold cw
  omega
theorem cmp_0 (x y : Int64) : lg_cmp x y = 0 ↔ x = y := by
  unfold lg_cmp
  split
  · next h => exact ⟨fun q => absurd q (by decide), fun q => by subst q; exact absurd h (by first | exact Int64.lt_irrefl | (intro z; exact Int64.lt_irrefl z))⟩
  · split
    · next h => exact ⟨fun _ => h, fun _ => rfl⟩
    · next h => exact ⟨fun q => absurd q (by decide), fun q => absurd q h⟩
/-- an entry is the wanted one -/
def smE (fm : Nat → Nat → Option Int32) (f0 : Nat → Option Int32) (lv lo hi : Nat) (e : Nat × Nat × Nat × Nat) (k : Nat) : Prop := (e.1 = lv ∧ e.2.2.2 = hi) ∧ ∀ j, j < k → sel e.2.2.1 (fm e.2.1) j = sel lo f0 j
theorem smE_s {fm : Nat → Nat → Option Int32} {f0 : Nat → Option Int32} {lv lo hi : Nat} {e : Nat × Nat × Nat × Nat} {k : Nat} : smE fm f0 lv lo hi e (k + 1) ↔ smE fm f0 lv lo hi e k ∧ sel e.2.2.1 (fm e.2.1) k = sel lo f0 k := by
  unfold smE
  constructor
  · rintro ⟨h1, h2⟩; exact ⟨⟨h1, fun j hj => h2 j (by omega)⟩, h2 k (by omega)⟩
  · rintro ⟨⟨h1, h2⟩, h3⟩
    refine ⟨h1, fun j hj => ?_⟩
    by_cases q : j = k
    · subst q; exact h3
    · exact h2 j (by omega)
theorem smE_m {fm : Nat → Nat → Option Int32} {f0 : Nat → Option Int32} {lv lo hi : Nat} {e : Nat × Nat × Nat × Nat} {k n : Nat} (h : smE fm f0 lv lo hi e n) (hk : k ≤ n) : smE fm f0 lv lo hi e k := ⟨h.1, fun j hj => h.2 j (by omega)⟩
theorem sel_n1 {lo k : Nat} {f : Nat → Option Int32} (h : f k = none) : sel lo f k = none := by unfold sel; rw [h]; split <;> rfl
theorem sel_n2 {lo k : Nat} {f : Nat → Option Int32} (h : k < lo) : sel lo f k = none := by unfold sel; rw [if_neg (by omega)]
theorem sel_y {lo k : Nat} {f : Nat → Option Int32} {v : Int32} (h : lo ≤ k) (hf : f k = some v) : sel lo f k = some v := by unfold sel; rw [if_pos h]; exact hf

set_option maxHeartbeats 4000000 in
set_option maxRecDepth 100000 in
theorem c_M_stored (l : Launch) (D : va_G) (tk : Nat → ClassId) (sz : Nat) (h : Nat) (ad : Nat → Nat) (g : Nat → Nat → Int32) (la : Nat → Int64) (tl : va_W) (E : List (Nat × Nat × Nat × Nat)) (fm : Nat → Nat → Option Int32) (f0 : Nat → Option Int32) (lv lo hi : Nat) (low : Int32) (hEl : E.length ≤ 3400) (hE6 : g 6 0 = nI E.length) (hE7 : ∀ (c : Nat) (e : Nat × Nat × Nat × Nat), E[c]? = some e → g 7 c = nI (cw e) ∧ e.1 < 8 ∧ e.2.1 < 180 ∧ e.2.2.1 < 64 ∧ e.2.2.2 < 48) (hla : ∀ (c : Nat) (e : Nat × Nat × Nat × Nat), E[c]? = some e → ∀ k, k < 48 → ((((la e.2.1) >>> ((nI k).toInt64 &&& 63)) &&& 1 = 1) ↔ ¬ fm e.2.1 k = none) ∧ ∀ v, fm e.2.1 k = some v → g 10 (48 * e.2.1 + k) = v) (hf0 : ∀ k, k < 48 → (g 1 (768 + k) = 0 ↔ f0 k = none) ∧ ∀ v, f0 k = some v → g 2 (768 + k) = v) (hlv : lv < 8) (hhi : hi < 48) (hlo : lo ≤ 48) (hlow : low + nI 1 = nI lo) (_d : Decidable (∃ (i : Nat) (e : Nat × Nat × Nat × Nat), E[i]? = some e ∧ smE fm f0 lv lo hi e (hi + 1))) (_d2 : ∀ e k, Decidable (smE fm f0 lv lo hi e k)) : Met l y_M_stored w_M_stored ({ frames := 0, cells := 0, slots := 0, locals := 0 }) (va_Pc [.ref h, .int (nI lv), .int low, .int (nI hi)] (k_pre D (TY tk) sz (wM tk h ad g la ++ tl))) (va_Qi (fun (r : Int32) (_ : Unit) => r = if (∃ (i : Nat) (e : Nat × Nat × Nat × Nat), E[i]? = some e ∧ smE fm f0 lv lo hi e (hi + 1)) then nI 1 else nI 0) (fun u t => k_at D (TY tk) (va_A (wM tk h ad g la ++ tl) sz) ((fun _ => wM tk h ad g la ++ tl) u) t) (va_A (wM tk h ad g la ++ tl) sz)) 0 0 (va_A (wM tk h ad g la ++ tl) sz) := by
  refine k_ofW (fun A => va_Qi (fun (r : Int32) (_ : Unit) => r = if (∃ (i : Nat) (e : Nat × Nat × Nat × Nat), E[i]? = some e ∧ smE fm f0 lv lo hi e (hi + 1)) then nI 1 else nI 0) (fun u t => k_at D (TY tk) A ((fun _ => wM tk h ad g la ++ tl) u) t) A) (by decide) (Nat.le_of_ble_eq_true rfl) ?_
  intro p e s m args below meth c Q A ls hQ hx hb hr hlk hin hts hT hown hml hnw hP hK hD hA hsz hl
  have hS : va_S A s.heap s.heap [] := va_S.rf
  have hc0 : 0 + 0 ≤ 0 ∧ 0 + 0 ≤ 0 := ⟨by decide, by decide⟩
  replace hl : lv_has ls 11 [(0, .ref h), (1, .int (nI lv)), (2, .int low), (3, .int (nI hi))] := hl
  replace hP : va_P D CC (wM tk h ad g la ++ tl) s.heap := hP
  replace hK : va_K D CC (TY tk) s := hK
  refine lv_iconst (v := nI 0) hx hb d_M_stored_0 (by decide) ?_
  refine lv_istore (lv' := [(4, .int (nI 0)), (0, .ref h), (1, .int (nI lv)), (2, .int low), (3, .int (nI hi))]) hx hb d_M_stored_1 hl (by decide) rfl (fun ls hl => ?_)
  have key3 : ∀ (n3 : Nat) (c9 : Nat) (ls : Array Slot) (H : Heap) (locs : List Loc), E.length - c9 < n3 → (c9 ≤ E.length) → (∀ i e, i < c9 → E[i]? = some e → ¬ smE fm f0 lv lo hi e (hi + 1)) → lv_has ls 11 [(0, .ref h), (1, .int (nI lv)), (2, .int low), (3, .int (nI hi)), (4, .int (nI c9))] → va_P D CC (wM tk h ad g la ++ tl) H → va_D A (wM tk h ad g la ++ tl) → va_S A s.heap H locs → W p l e ({ frames := 0, cells := 0, slots := 0, locals := 0 } : Room) s m args below meth c H locs 0 0 Q (F0 m 3 ls []) := by
    intro n3
    induction n3 with
    | zero => intro c9 ls H locs hn; exact absurd hn (Nat.not_lt_zero _)
    | succ n3 ih3 =>
      intro c9 ls H locs hn3 hc hno hl hP hD hS
      refine lv_iload hx hb d_M_stored_3 (lv_at hl 4 rfl) ?_
      refine lv_aload_n hx hb d_M_stored_5 rfl (lv_at hl 0 rfl) ?_
      refine gf_M_111 (v := .int (g 6 0)) hx hb hT hown hK hP 0 rfl rfl d_M_stored_6 ?_
      refine st_top (show g 6 0 = nI E.length from hE6) ?_
      refine st_icmp_ge hx hb (by omega) (by omega) d_M_stored_9 (tgt := 216) (by decide) (fun hc9 => ?_) (fun hc9 => ?_)
      · skip
        refine lv_iconst (v := nI 0) hx hb d_M_stored_216 (by decide) ?_
        exact k_zret (v := nI 0) hQ hx hb hr hlk hK hP hD hS () rfl (by decide) ((if_neg (fun ⟨i, e, q1, q2⟩ => hno i e (by have := (List.getElem?_eq_some_iff.mp q1).1; omega) q1 q2)).symm) d_M_stored_217
      · skip
        obtain ⟨e9, he9⟩ : ∃ e9, E[c9]? = some e9 := ⟨_, List.getElem?_eq_getElem hc9⟩
        obtain ⟨e7, b1, b2, b3, b4⟩ := hE7 c9 e9 he9
        have hlaE := hla c9 e9 he9
        refine lv_aload_n hx hb d_M_stored_12 rfl (lv_at hl 0 rfl) ?_
        refine gf_M_20 (v := .ref (ad 7)) hx hb hT hown hK hP 0 rfl rfl d_M_stored_13 ?_
        refine lv_iload hx hb d_M_stored_16 (lv_at hl 4 rfl) ?_
        refine st_iald hx hb hK hP 4 0 rfl rfl (by omega) (by decide) d_M_stored_18 ?_
        refine st_top (show g 7 c9 = nI (cw e9) from e7) ?_
        refine lv_bipush (v := nI 7) hx hb d_M_stored_19 (by decide) ?_
        refine lv_iand hx hb d_M_stored_21 ?_
        refine st_top (show (nI (cw e9)) &&& (nI 7) = nI e9.1 from cw_1 b1 b2 b3 b4) ?_
        refine lv_iload_n hx hb d_M_stored_22 rfl (lv_at hl 1 rfl) ?_
        refine st_icmp_ne hx hb (by omega) (by omega) d_M_stored_23 (tgt := 44) (by decide) (fun hc23 => ?_) (fun hc23 => ?_)
        · skip
          refine lv_iconst (v := nI 0) hx hb d_M_stored_44 (by decide) ?_
          refine lv_istore (lv' := [(5, .int (nI 0)), (0, .ref h), (1, .int (nI lv)), (2, .int low), (3, .int (nI hi)), (4, .int (nI c9))]) hx hb d_M_stored_45 hl (by decide) rfl (fun ls hl => ?_)
          refine lv_aload_n hx hb d_M_stored_47 rfl (lv_at hl 1 rfl) ?_
          refine gf_M_20 (v := .ref (ad 7)) hx hb hT hown hK hP 0 rfl rfl d_M_stored_48 ?_
          refine lv_iload hx hb d_M_stored_51 (lv_at hl 5 rfl) ?_
          refine st_iald hx hb hK hP 4 0 rfl rfl (by omega) (by decide) d_M_stored_53 ?_
          refine st_top (show g 7 c9 = nI (cw e9) from e7) ?_
          refine lv_iconst (v := nI 3) hx hb d_M_stored_54 (by decide) ?_
          refine lv_ishr hx hb d_M_stored_55 ?_
          refine lv_sipush (v := nI 511) hx hb d_M_stored_56 (by decide) ?_
          refine lv_iand hx hb d_M_stored_59 ?_
          refine st_top (show ((nI (cw e9)) >>> ((nI 3) &&& 31)) &&& (nI 511) = nI e9.2.1 from cw_2 b1 b2 b3 b4) ?_
          refine lv_istore (lv' := [(6, .int (nI e9.2.1)), (5, .int (nI 0)), (0, .ref h), (1, .int (nI lv)), (2, .int low), (3, .int (nI hi)), (4, .int (nI c9))]) hx hb d_M_stored_60 hl (by decide) rfl (fun ls hl => ?_)
          refine lv_aload_n hx hb d_M_stored_62 rfl (lv_at hl 2 rfl) ?_
          refine gf_M_20 (v := .ref (ad 7)) hx hb hT hown hK hP 0 rfl rfl d_M_stored_63 ?_
          refine lv_iload hx hb d_M_stored_66 (lv_at hl 6 rfl) ?_
          refine st_iald hx hb hK hP 4 0 rfl rfl (by omega) (by decide) d_M_stored_68 ?_
          refine st_top (show g 7 c9 = nI (cw e9) from e7) ?_
          refine lv_bipush (v := nI 12) hx hb d_M_stored_69 (by decide) ?_
          refine lv_ishr hx hb d_M_stored_71 ?_
          refine lv_bipush (v := nI 63) hx hb d_M_stored_72 (by decide) ?_
          refine lv_iand hx hb d_M_stored_74 ?_
          refine st_top (show ((nI (cw e9)) >>> ((nI 12) &&& 31)) &&& (nI 63) = nI e9.2.2.1 from cw_3 b1 b2 b3 b4) ?_
          refine lv_iconst (v := nI 1) hx hb d_M_stored_75 (by decide) ?_
          refine lv_isub hx hb d_M_stored_76 ?_
          refine lv_istore (lv' := [(7, .int ((nI e9.2.2.1) - (nI 1))), (6, .int (nI e9.2.1)), (5, .int (nI 0)), (0, .ref h), (1, .int (nI lv)), (2, .int low), (3, .int (nI hi)), (4, .int (nI c9))]) hx hb d_M_stored_77 hl (by decide) rfl (fun ls hl => ?_)
          refine lv_iconst (v := nI 0) hx hb d_M_stored_79 (by decide) ?_
          refine lv_istore (lv' := [(8, .int (nI 0)), (7, .int ((nI e9.2.2.1) - (nI 1))), (6, .int (nI e9.2.1)), (5, .int (nI 0)), (0, .ref h), (1, .int (nI lv)), (2, .int low), (3, .int (nI hi)), (4, .int (nI c9))]) hx hb d_M_stored_80 hl (by decide) rfl (fun ls hl => ?_)
          replace hl : lv_has ls 11 [(8, .int (nI 0)), (7, .int (dm e9.2.2.1)), (6, .int (nI e9.2.1)), (5, .int (nI 0)), (0, .ref h), (1, .int (nI lv)), (2, .int low), (3, .int (nI hi)), (4, .int (nI c9))] := hl
          have key82 : ∀ (n82 : Nat) (k : Nat) (s5 : Int32) (ls : Array Slot) (H : Heap) (locs : List Loc), hi + 1 - k < n82 → (k ≤ hi + 1) → (s5 = if smE fm f0 lv lo hi e9 k then nI 1 else nI 0) → lv_has ls 11 [(0, .ref h), (1, .int (nI lv)), (2, .int low), (3, .int (nI hi)), (4, .int (nI c9)), (5, .int s5), (6, .int (nI e9.2.1)), (7, .int (dm e9.2.2.1)), (8, .int (nI k))] → va_P D CC (wM tk h ad g la ++ tl) H → va_D A (wM tk h ad g la ++ tl) → va_S A s.heap H locs → W p l e ({ frames := 0, cells := 0, slots := 0, locals := 0 } : Room) s m args below meth c H locs 0 0 Q (F0 m 82 ls []) := by
            intro n82
            induction n82 with
            | zero => intro k s5 ls H locs hn; exact absurd hn (Nat.not_lt_zero _)
            | succ n82 ih82 =>
              intro k s5 ls H locs hn82 hk hs5 hl hP hD hS
              refine lv_iload hx hb d_M_stored_82 (lv_at hl 8 rfl) ?_
              refine lv_iload_n hx hb d_M_stored_84 rfl (lv_at hl 3 rfl) ?_
              refine st_icmp_gt hx hb (by omega) (by omega) d_M_stored_85 (tgt := 203) (by decide) (fun hc85 => ?_) (fun hc85 => ?_)
              · skip
                have hke : k = hi + 1 := by omega
                refine lv_iload hx hb d_M_stored_203 (lv_at hl 5 rfl) ?_
                refine lv_if_eq hx hb d_M_stored_205 (tgt := 210) (by decide) (fun hc205 => ?_) (fun hc205 => ?_)
                · skip
                  have hnsm : ¬ smE fm f0 lv lo hi e9 (hi + 1) := fun q => by rw [hs5, hke] at hc205; exact ifx.mp hc205 q
                  refine lv_iinc (k := 4) (v := nI (c9 + 1)) (lv' := [(4, .int (nI (c9 + 1))), (0, .ref h), (1, .int (nI lv)), (2, .int low), (3, .int (nI hi)), (5, .int s5), (6, .int (nI e9.2.1)), (7, .int (dm e9.2.2.1)), (8, .int (nI k))]) hx hb d_M_stored_210 hl rfl (nI_add _ _) (by decide) rfl (fun ls hl => ?_)
                  refine lv_goto hx hb d_M_stored_213 (tgt := 3) (by decide) ?_
                  exact ih3 (c9 + 1) ls _ _ (by omega) (by omega) (fun i e hi2 hie => by by_cases q : i = c9; (subst q; rw [he9] at hie; cases hie; exact hnsm); exact hno i e (by omega) hie) (lv_sub hl [1, 2, 3, 4, 0] rfl) hP hD hS
                · skip
                  have hex : (∃ (i : Nat) (e : Nat × Nat × Nat × Nat), E[i]? = some e ∧ smE fm f0 lv lo hi e (hi + 1)) := ⟨c9, e9, he9, Classical.byContradiction (fun q => hc205 (by rw [hs5, hke]; exact ifx.mpr q))⟩
                  refine lv_iconst (v := nI 1) hx hb d_M_stored_208 (by decide) ?_
                  exact k_zret (v := nI 1) hQ hx hb hr hlk hK hP hD hS () rfl (by decide) ((if_pos hex).symm) d_M_stored_209
              · skip
                refine lv_iload hx hb d_M_stored_88 (lv_at hl 5 rfl) ?_
                refine lv_if_eq hx hb d_M_stored_90 (tgt := 203) (by decide) (fun hc90 => ?_) (fun hc90 => ?_)
                · skip
                  have hnsm : ¬ smE fm f0 lv lo hi e9 (hi + 1) := fun q => by rw [hs5] at hc90; exact ifx.mp hc90 (smE_m q hk)
                  refine lv_iload hx hb d_M_stored_203 (lv_at hl 5 rfl) ?_
                  refine lv_if_eq hx hb d_M_stored_205 (tgt := 210) (by decide) (fun hc205 => ?_) (fun hc205 => absurd hc90 hc205)
                  refine lv_iinc (k := 4) (v := nI (c9 + 1)) (lv' := [(4, .int (nI (c9 + 1))), (0, .ref h), (1, .int (nI lv)), (2, .int low), (3, .int (nI hi)), (5, .int s5), (6, .int (nI e9.2.1)), (7, .int (dm e9.2.2.1)), (8, .int (nI k))]) hx hb d_M_stored_210 hl rfl (nI_add _ _) (by decide) rfl (fun ls hl => ?_)
                  refine lv_goto hx hb d_M_stored_213 (tgt := 3) (by decide) ?_
                  exact ih3 (c9 + 1) ls _ _ (by omega) (by omega) (fun i e hi2 hie => by by_cases q : i = c9; (subst q; rw [he9] at hie; cases hie; exact hnsm); exact hno i e (by omega) hie) (lv_sub hl [1, 2, 3, 4, 0] rfl) hP hD hS
                · skip
                  have hsm : smE fm f0 lv lo hi e9 k := Classical.byContradiction (fun q => hc90 (by rw [hs5]; exact ifx.mpr q))
                  refine lv_aload_n hx hb d_M_stored_93 rfl (lv_at hl 0 rfl) ?_
                  refine gf_M_23 (v := .ref (ad 9)) hx hb hT hown hK hP 0 rfl rfl d_M_stored_94 ?_
                  refine lv_iload hx hb d_M_stored_97 (lv_at hl 6 rfl) ?_
                  refine st_lald hx hb hK hP 5 2 rfl rfl (by omega) (by decide) d_M_stored_99 ?_
                  refine lv_iload hx hb d_M_stored_100 (lv_at hl 8 rfl) ?_
                  refine lv_lshr (v := (la e9.2.1) >>> ((nI k).toInt64 &&& 63)) hx hb d_M_stored_102 rfl ?_
                  refine lv_lconst (v := 1) hx hb d_M_stored_103 (by decide) ?_
                  refine lv_land hx hb d_M_stored_104 ?_
                  refine lv_lconst (v := 1) hx hb d_M_stored_105 (by decide) ?_
                  refine W.lcmp hx hb d_M_stored_106 ?_
                  refine lv_if_ne hx hb d_M_stored_107 (tgt := 121) (by decide) (fun hc107 => ?_) (fun hc107 => ?_)
                  · skip
                    have hth : sel e9.2.2.1 (fm e9.2.1) k = none := sel_n1 (Classical.byContradiction (fun q => hc107 ((cmp_0 _ _).mpr ((hlaE k (by omega)).1.mpr q))))
                    refine lv_iconst (v := nI 0) hx hb d_M_stored_121 (by decide) ?_
                    refine lv_istore (lv' := [(9, .int (nI 0)), (0, .ref h), (1, .int (nI lv)), (2, .int low), (3, .int (nI hi)), (4, .int (nI c9)), (5, .int s5), (6, .int (nI e9.2.1)), (7, .int (dm e9.2.2.1)), (8, .int (nI k))]) hx hb d_M_stored_122 hl (by decide) rfl (fun ls hl => ?_)
                    refine lv_aload_n hx hb d_M_stored_124 rfl (lv_at hl 1 rfl) ?_
                    refine gf_M_7 (v := .ref (ad 1)) hx hb hT hown hK hP 0 rfl rfl d_M_stored_125 ?_
                    refine lv_sipush (v := nI 768) hx hb d_M_stored_128 (by decide) ?_
                    refine lv_iload hx hb d_M_stored_131 (lv_at hl 9 rfl) ?_
                    refine st_iadd hx hb d_M_stored_133 ?_
                    refine st_zald hx hb hK hP 1 1 rfl rfl (by omega) (by decide) d_M_stored_134 ?_
                    refine lv_if_eq hx hb d_M_stored_135 (tgt := 148) (by decide) (fun hc135 => ?_) (fun hc135 => ?_)
                    · skip
                      have hhe : sel lo f0 k = none := sel_n1 ((hf0 k (by omega)).1.mp hc135)
                      refine lv_iconst (v := nI 0) hx hb d_M_stored_148 (by decide) ?_
                      refine lv_istore (lv' := [(10, .int (nI 0)), (9, .int (nI 0)), (0, .ref h), (1, .int (nI lv)), (2, .int low), (3, .int (nI hi)), (4, .int (nI c9)), (5, .int s5), (6, .int (nI e9.2.1)), (7, .int (dm e9.2.2.1)), (8, .int (nI k))]) hx hb d_M_stored_149 hl (by decide) rfl (fun ls hl => ?_)
                      refine lv_iload hx hb d_M_stored_151 (lv_at hl 1 rfl) ?_
                      refine lv_iload hx hb d_M_stored_153 (lv_at hl 0 rfl) ?_
                      refine st_icmp_ne hx hb (by omega) (by omega) d_M_stored_155 (tgt := 194) (by decide) (fun hc155 => (by exfalso; first | exact hc155 | omega)) (fun hc155 => ?_)
                      refine lv_iload hx hb d_M_stored_158 (lv_at hl 0 rfl) ?_
                      refine st_if_eq hx hb (by omega) d_M_stored_160 (tgt := 190) (by decide) (fun hc160 => ?_) (fun hc160 => (by exfalso; first | exact hc160 | omega))
                      refine lv_iconst (v := nI 1) hx hb d_M_stored_190 (by decide) ?_
                      refine lv_goto hx hb d_M_stored_191 (tgt := 195) (by decide) ?_
                      refine lv_istore (lv' := [(5, .int (nI 1)), (10, .int (nI 0)), (9, .int (nI 0)), (0, .ref h), (1, .int (nI lv)), (2, .int low), (3, .int (nI hi)), (4, .int (nI c9)), (6, .int (nI e9.2.1)), (7, .int (dm e9.2.2.1)), (8, .int (nI k))]) hx hb d_M_stored_195 hl (by decide) rfl (fun ls hl => ?_)
                      refine lv_iinc (k := 10) (v := nI (k + 1)) (lv' := [(8, .int (nI (k + 1))), (5, .int (nI 1)), (10, .int (nI 0)), (9, .int (nI 0)), (0, .ref h), (1, .int (nI lv)), (2, .int low), (3, .int (nI hi)), (4, .int (nI c9)), (6, .int (nI e9.2.1)), (7, .int (dm e9.2.2.1))]) hx hb d_M_stored_197 hl rfl (nI_add _ _) (by decide) rfl (fun ls hl => ?_)
                      refine lv_goto hx hb d_M_stored_200 (tgt := 82) (by decide) ?_
                      exact ih82 (k + 1) (nI 1) ls _ _ (by omega) (by omega) ((if_pos (smE_s.mpr ⟨hsm, by first | (rw [hth, hhe]; done) | (rw [hth, hhe, hc187]; done)⟩)).symm) (lv_sub hl [4, 5, 6, 7, 8, 1, 9, 10, 0] rfl) hP hD hS
                    · skip
                      refine lv_iload hx hb d_M_stored_138 (lv_at hl 9 rfl) ?_
                      refine lv_iload_n hx hb d_M_stored_140 rfl (lv_at hl 3 rfl) ?_
                      refine lv_icmp_le hx hb d_M_stored_141 (tgt := 148) (by decide) (fun hc141 => ?_) (fun hc141 => ?_)
                      · skip
                        have hhe : sel lo f0 k = none := sel_n2 ((le_low hlow (by omega) (by omega)).mp hc141)
                        refine lv_iconst (v := nI 0) hx hb d_M_stored_148 (by decide) ?_
                        refine lv_istore (lv' := [(10, .int (nI 0)), (9, .int (nI 0)), (0, .ref h), (1, .int (nI lv)), (2, .int low), (3, .int (nI hi)), (4, .int (nI c9)), (5, .int s5), (6, .int (nI e9.2.1)), (7, .int (dm e9.2.2.1)), (8, .int (nI k))]) hx hb d_M_stored_149 hl (by decide) rfl (fun ls hl => ?_)
                        refine lv_iload hx hb d_M_stored_151 (lv_at hl 1 rfl) ?_
                        refine lv_iload hx hb d_M_stored_153 (lv_at hl 0 rfl) ?_
                        refine st_icmp_ne hx hb (by omega) (by omega) d_M_stored_155 (tgt := 194) (by decide) (fun hc155 => (by exfalso; first | exact hc155 | omega)) (fun hc155 => ?_)
                        refine lv_iload hx hb d_M_stored_158 (lv_at hl 0 rfl) ?_
                        refine st_if_eq hx hb (by omega) d_M_stored_160 (tgt := 190) (by decide) (fun hc160 => ?_) (fun hc160 => (by exfalso; first | exact hc160 | omega))
                        refine lv_iconst (v := nI 1) hx hb d_M_stored_190 (by decide) ?_
                        refine lv_goto hx hb d_M_stored_191 (tgt := 195) (by decide) ?_
                        refine lv_istore (lv' := [(5, .int (nI 1)), (10, .int (nI 0)), (9, .int (nI 0)), (0, .ref h), (1, .int (nI lv)), (2, .int low), (3, .int (nI hi)), (4, .int (nI c9)), (6, .int (nI e9.2.1)), (7, .int (dm e9.2.2.1)), (8, .int (nI k))]) hx hb d_M_stored_195 hl (by decide) rfl (fun ls hl => ?_)
                        refine lv_iinc (k := 10) (v := nI (k + 1)) (lv' := [(8, .int (nI (k + 1))), (5, .int (nI 1)), (10, .int (nI 0)), (9, .int (nI 0)), (0, .ref h), (1, .int (nI lv)), (2, .int low), (3, .int (nI hi)), (4, .int (nI c9)), (6, .int (nI e9.2.1)), (7, .int (dm e9.2.2.1))]) hx hb d_M_stored_197 hl rfl (nI_add _ _) (by decide) rfl (fun ls hl => ?_)
                        refine lv_goto hx hb d_M_stored_200 (tgt := 82) (by decide) ?_
                        exact ih82 (k + 1) (nI 1) ls _ _ (by omega) (by omega) ((if_pos (smE_s.mpr ⟨hsm, by first | (rw [hth, hhe]; done) | (rw [hth, hhe, hc187]; done)⟩)).symm) (lv_sub hl [4, 5, 6, 7, 8, 1, 9, 10, 0] rfl) hP hD hS
                      · skip
                        obtain ⟨v2, hv2⟩ := Option.ne_none_iff_exists'.mp (fun q => hc135 ((hf0 k (by omega)).1.mpr q))
                        have hhe : sel lo f0 k = some (g 2 (768 + k)) := sel_y (Nat.le_of_not_lt (fun q => hc141 ((le_low hlow (by omega) (by omega)).mpr q))) (by rw [(hf0 k (by omega)).2 v2 hv2]; exact hv2)
                        refine lv_iconst (v := nI 1) hx hb d_M_stored_144 (by decide) ?_
                        refine lv_goto hx hb d_M_stored_145 (tgt := 149) (by decide) ?_
                        refine lv_istore (lv' := [(10, .int (nI 1)), (9, .int (nI 0)), (0, .ref h), (1, .int (nI lv)), (2, .int low), (3, .int (nI hi)), (4, .int (nI c9)), (5, .int s5), (6, .int (nI e9.2.1)), (7, .int (dm e9.2.2.1)), (8, .int (nI k))]) hx hb d_M_stored_149 hl (by decide) rfl (fun ls hl => ?_)
                        refine lv_iload hx hb d_M_stored_151 (lv_at hl 1 rfl) ?_
                        refine lv_iload hx hb d_M_stored_153 (lv_at hl 0 rfl) ?_
                        refine st_icmp_ne hx hb (by omega) (by omega) d_M_stored_155 (tgt := 194) (by decide) (fun hc155 => ?_) (fun hc155 => (by exfalso; first | exact hc155 | omega))
                        refine lv_iconst (v := nI 0) hx hb d_M_stored_194 (by decide) ?_
                        refine lv_istore (lv' := [(5, .int (nI 0)), (10, .int (nI 1)), (9, .int (nI 0)), (0, .ref h), (1, .int (nI lv)), (2, .int low), (3, .int (nI hi)), (4, .int (nI c9)), (6, .int (nI e9.2.1)), (7, .int (dm e9.2.2.1)), (8, .int (nI k))]) hx hb d_M_stored_195 hl (by decide) rfl (fun ls hl => ?_)
                        refine lv_iinc (k := 10) (v := nI (k + 1)) (lv' := [(8, .int (nI (k + 1))), (5, .int (nI 0)), (10, .int (nI 1)), (9, .int (nI 0)), (0, .ref h), (1, .int (nI lv)), (2, .int low), (3, .int (nI hi)), (4, .int (nI c9)), (6, .int (nI e9.2.1)), (7, .int (dm e9.2.2.1))]) hx hb d_M_stored_197 hl rfl (nI_add _ _) (by decide) rfl (fun ls hl => ?_)
                        refine lv_goto hx hb d_M_stored_200 (tgt := 82) (by decide) ?_
                        exact ih82 (k + 1) (nI 0) ls _ _ (by omega) (by omega) ((if_neg (fun q => (fun q => by first | (rw [hth, hhe] at q; cases q; done) | (rw [hth, hhe] at q; exact hc187 (Option.some.inj q))) (smE_s.mp q).2)).symm) (lv_sub hl [4, 5, 6, 7, 8, 1, 9, 10, 0] rfl) hP hD hS
                  · skip
                    refine lv_iload hx hb d_M_stored_110 (lv_at hl 8 rfl) ?_
                    refine lv_iload hx hb d_M_stored_112 (lv_at hl 7 rfl) ?_
                    refine lv_icmp_le hx hb d_M_stored_114 (tgt := 121) (by decide) (fun hc114 => ?_) (fun hc114 => ?_)
                    · skip
                      have hth : sel e9.2.2.1 (fm e9.2.1) k = none := sel_n2 ((le_low (dm_add _) (by omega) (by omega)).mp hc114)
                      refine lv_iconst (v := nI 0) hx hb d_M_stored_121 (by decide) ?_
                      refine lv_istore (lv' := [(9, .int (nI 0)), (0, .ref h), (1, .int (nI lv)), (2, .int low), (3, .int (nI hi)), (4, .int (nI c9)), (5, .int s5), (6, .int (nI e9.2.1)), (7, .int (dm e9.2.2.1)), (8, .int (nI k))]) hx hb d_M_stored_122 hl (by decide) rfl (fun ls hl => ?_)
                      refine lv_aload_n hx hb d_M_stored_124 rfl (lv_at hl 1 rfl) ?_
                      refine gf_M_7 (v := .ref (ad 1)) hx hb hT hown hK hP 0 rfl rfl d_M_stored_125 ?_
                      refine lv_sipush (v := nI 768) hx hb d_M_stored_128 (by decide) ?_
                      refine lv_iload hx hb d_M_stored_131 (lv_at hl 9 rfl) ?_
                      refine st_iadd hx hb d_M_stored_133 ?_
                      refine st_zald hx hb hK hP 1 1 rfl rfl (by omega) (by decide) d_M_stored_134 ?_
                      refine lv_if_eq hx hb d_M_stored_135 (tgt := 148) (by decide) (fun hc135 => ?_) (fun hc135 => ?_)
                      · skip
                        have hhe : sel lo f0 k = none := sel_n1 ((hf0 k (by omega)).1.mp hc135)
                        refine lv_iconst (v := nI 0) hx hb d_M_stored_148 (by decide) ?_
                        refine lv_istore (lv' := [(10, .int (nI 0)), (9, .int (nI 0)), (0, .ref h), (1, .int (nI lv)), (2, .int low), (3, .int (nI hi)), (4, .int (nI c9)), (5, .int s5), (6, .int (nI e9.2.1)), (7, .int (dm e9.2.2.1)), (8, .int (nI k))]) hx hb d_M_stored_149 hl (by decide) rfl (fun ls hl => ?_)
                        refine lv_iload hx hb d_M_stored_151 (lv_at hl 1 rfl) ?_
                        refine lv_iload hx hb d_M_stored_153 (lv_at hl 0 rfl) ?_
                        refine st_icmp_ne hx hb (by omega) (by omega) d_M_stored_155 (tgt := 194) (by decide) (fun hc155 => (by exfalso; first | exact hc155 | omega)) (fun hc155 => ?_)
                        refine lv_iload hx hb d_M_stored_158 (lv_at hl 0 rfl) ?_
                        refine st_if_eq hx hb (by omega) d_M_stored_160 (tgt := 190) (by decide) (fun hc160 => ?_) (fun hc160 => (by exfalso; first | exact hc160 | omega))
                        refine lv_iconst (v := nI 1) hx hb d_M_stored_190 (by decide) ?_
                        refine lv_goto hx hb d_M_stored_191 (tgt := 195) (by decide) ?_
                        refine lv_istore (lv' := [(5, .int (nI 1)), (10, .int (nI 0)), (9, .int (nI 0)), (0, .ref h), (1, .int (nI lv)), (2, .int low), (3, .int (nI hi)), (4, .int (nI c9)), (6, .int (nI e9.2.1)), (7, .int (dm e9.2.2.1)), (8, .int (nI k))]) hx hb d_M_stored_195 hl (by decide) rfl (fun ls hl => ?_)
                        refine lv_iinc (k := 10) (v := nI (k + 1)) (lv' := [(8, .int (nI (k + 1))), (5, .int (nI 1)), (10, .int (nI 0)), (9, .int (nI 0)), (0, .ref h), (1, .int (nI lv)), (2, .int low), (3, .int (nI hi)), (4, .int (nI c9)), (6, .int (nI e9.2.1)), (7, .int (dm e9.2.2.1))]) hx hb d_M_stored_197 hl rfl (nI_add _ _) (by decide) rfl (fun ls hl => ?_)
                        refine lv_goto hx hb d_M_stored_200 (tgt := 82) (by decide) ?_
                        exact ih82 (k + 1) (nI 1) ls _ _ (by omega) (by omega) ((if_pos (smE_s.mpr ⟨hsm, by first | (rw [hth, hhe]; done) | (rw [hth, hhe, hc187]; done)⟩)).symm) (lv_sub hl [4, 5, 6, 7, 8, 1, 9, 10, 0] rfl) hP hD hS
                      · skip
                        refine lv_iload hx hb d_M_stored_138 (lv_at hl 9 rfl) ?_
                        refine lv_iload_n hx hb d_M_stored_140 rfl (lv_at hl 3 rfl) ?_
                        refine lv_icmp_le hx hb d_M_stored_141 (tgt := 148) (by decide) (fun hc141 => ?_) (fun hc141 => ?_)
                        · skip
                          have hhe : sel lo f0 k = none := sel_n2 ((le_low hlow (by omega) (by omega)).mp hc141)
                          refine lv_iconst (v := nI 0) hx hb d_M_stored_148 (by decide) ?_
                          refine lv_istore (lv' := [(10, .int (nI 0)), (9, .int (nI 0)), (0, .ref h), (1, .int (nI lv)), (2, .int low), (3, .int (nI hi)), (4, .int (nI c9)), (5, .int s5), (6, .int (nI e9.2.1)), (7, .int (dm e9.2.2.1)), (8, .int (nI k))]) hx hb d_M_stored_149 hl (by decide) rfl (fun ls hl => ?_)
                          refine lv_iload hx hb d_M_stored_151 (lv_at hl 1 rfl) ?_
                          refine lv_iload hx hb d_M_stored_153 (lv_at hl 0 rfl) ?_
                          refine st_icmp_ne hx hb (by omega) (by omega) d_M_stored_155 (tgt := 194) (by decide) (fun hc155 => (by exfalso; first | exact hc155 | omega)) (fun hc155 => ?_)
                          refine lv_iload hx hb d_M_stored_158 (lv_at hl 0 rfl) ?_
                          refine st_if_eq hx hb (by omega) d_M_stored_160 (tgt := 190) (by decide) (fun hc160 => ?_) (fun hc160 => (by exfalso; first | exact hc160 | omega))
                          refine lv_iconst (v := nI 1) hx hb d_M_stored_190 (by decide) ?_
                          refine lv_goto hx hb d_M_stored_191 (tgt := 195) (by decide) ?_
                          refine lv_istore (lv' := [(5, .int (nI 1)), (10, .int (nI 0)), (9, .int (nI 0)), (0, .ref h), (1, .int (nI lv)), (2, .int low), (3, .int (nI hi)), (4, .int (nI c9)), (6, .int (nI e9.2.1)), (7, .int (dm e9.2.2.1)), (8, .int (nI k))]) hx hb d_M_stored_195 hl (by decide) rfl (fun ls hl => ?_)
                          refine lv_iinc (k := 10) (v := nI (k + 1)) (lv' := [(8, .int (nI (k + 1))), (5, .int (nI 1)), (10, .int (nI 0)), (9, .int (nI 0)), (0, .ref h), (1, .int (nI lv)), (2, .int low), (3, .int (nI hi)), (4, .int (nI c9)), (6, .int (nI e9.2.1)), (7, .int (dm e9.2.2.1))]) hx hb d_M_stored_197 hl rfl (nI_add _ _) (by decide) rfl (fun ls hl => ?_)
                          refine lv_goto hx hb d_M_stored_200 (tgt := 82) (by decide) ?_
                          exact ih82 (k + 1) (nI 1) ls _ _ (by omega) (by omega) ((if_pos (smE_s.mpr ⟨hsm, by first | (rw [hth, hhe]; done) | (rw [hth, hhe, hc187]; done)⟩)).symm) (lv_sub hl [4, 5, 6, 7, 8, 1, 9, 10, 0] rfl) hP hD hS
                        · skip
                          obtain ⟨v2, hv2⟩ := Option.ne_none_iff_exists'.mp (fun q => hc135 ((hf0 k (by omega)).1.mpr q))
                          have hhe : sel lo f0 k = some (g 2 (768 + k)) := sel_y (Nat.le_of_not_lt (fun q => hc141 ((le_low hlow (by omega) (by omega)).mpr q))) (by rw [(hf0 k (by omega)).2 v2 hv2]; exact hv2)
                          refine lv_iconst (v := nI 1) hx hb d_M_stored_144 (by decide) ?_
                          refine lv_goto hx hb d_M_stored_145 (tgt := 149) (by decide) ?_
                          refine lv_istore (lv' := [(10, .int (nI 1)), (9, .int (nI 0)), (0, .ref h), (1, .int (nI lv)), (2, .int low), (3, .int (nI hi)), (4, .int (nI c9)), (5, .int s5), (6, .int (nI e9.2.1)), (7, .int (dm e9.2.2.1)), (8, .int (nI k))]) hx hb d_M_stored_149 hl (by decide) rfl (fun ls hl => ?_)
                          refine lv_iload hx hb d_M_stored_151 (lv_at hl 1 rfl) ?_
                          refine lv_iload hx hb d_M_stored_153 (lv_at hl 0 rfl) ?_
                          refine st_icmp_ne hx hb (by omega) (by omega) d_M_stored_155 (tgt := 194) (by decide) (fun hc155 => ?_) (fun hc155 => (by exfalso; first | exact hc155 | omega))
                          refine lv_iconst (v := nI 0) hx hb d_M_stored_194 (by decide) ?_
                          refine lv_istore (lv' := [(5, .int (nI 0)), (10, .int (nI 1)), (9, .int (nI 0)), (0, .ref h), (1, .int (nI lv)), (2, .int low), (3, .int (nI hi)), (4, .int (nI c9)), (6, .int (nI e9.2.1)), (7, .int (dm e9.2.2.1)), (8, .int (nI k))]) hx hb d_M_stored_195 hl (by decide) rfl (fun ls hl => ?_)
                          refine lv_iinc (k := 10) (v := nI (k + 1)) (lv' := [(8, .int (nI (k + 1))), (5, .int (nI 0)), (10, .int (nI 1)), (9, .int (nI 0)), (0, .ref h), (1, .int (nI lv)), (2, .int low), (3, .int (nI hi)), (4, .int (nI c9)), (6, .int (nI e9.2.1)), (7, .int (dm e9.2.2.1))]) hx hb d_M_stored_197 hl rfl (nI_add _ _) (by decide) rfl (fun ls hl => ?_)
                          refine lv_goto hx hb d_M_stored_200 (tgt := 82) (by decide) ?_
                          exact ih82 (k + 1) (nI 0) ls _ _ (by omega) (by omega) ((if_neg (fun q => (fun q => by first | (rw [hth, hhe] at q; cases q; done) | (rw [hth, hhe] at q; exact hc187 (Option.some.inj q))) (smE_s.mp q).2)).symm) (lv_sub hl [4, 5, 6, 7, 8, 1, 9, 10, 0] rfl) hP hD hS
                    · skip
                      obtain ⟨v1, hv1⟩ := Option.ne_none_iff_exists'.mp ((hlaE k (by omega)).1.mp ((cmp_0 _ _).mp hc107))
                      have hth : sel e9.2.2.1 (fm e9.2.1) k = some (g 10 (48 * e9.2.1 + k)) := sel_y (Nat.le_of_not_lt (fun q => hc114 ((le_low (dm_add _) (by omega) (by omega)).mpr q))) (by rw [(hlaE k (by omega)).2 v1 hv1]; exact hv1)
                      refine lv_iconst (v := nI 1) hx hb d_M_stored_117 (by decide) ?_
                      refine lv_goto hx hb d_M_stored_118 (tgt := 122) (by decide) ?_
                      refine lv_istore (lv' := [(9, .int (nI 1)), (0, .ref h), (1, .int (nI lv)), (2, .int low), (3, .int (nI hi)), (4, .int (nI c9)), (5, .int s5), (6, .int (nI e9.2.1)), (7, .int (dm e9.2.2.1)), (8, .int (nI k))]) hx hb d_M_stored_122 hl (by decide) rfl (fun ls hl => ?_)
                      refine lv_aload_n hx hb d_M_stored_124 rfl (lv_at hl 1 rfl) ?_
                      refine gf_M_7 (v := .ref (ad 1)) hx hb hT hown hK hP 0 rfl rfl d_M_stored_125 ?_
                      refine lv_sipush (v := nI 768) hx hb d_M_stored_128 (by decide) ?_
                      refine lv_iload hx hb d_M_stored_131 (lv_at hl 9 rfl) ?_
                      refine st_iadd hx hb d_M_stored_133 ?_
                      refine st_zald hx hb hK hP 1 1 rfl rfl (by omega) (by decide) d_M_stored_134 ?_
                      refine lv_if_eq hx hb d_M_stored_135 (tgt := 148) (by decide) (fun hc135 => ?_) (fun hc135 => ?_)
                      · skip
                        have hhe : sel lo f0 k = none := sel_n1 ((hf0 k (by omega)).1.mp hc135)
                        refine lv_iconst (v := nI 0) hx hb d_M_stored_148 (by decide) ?_
                        refine lv_istore (lv' := [(10, .int (nI 0)), (9, .int (nI 1)), (0, .ref h), (1, .int (nI lv)), (2, .int low), (3, .int (nI hi)), (4, .int (nI c9)), (5, .int s5), (6, .int (nI e9.2.1)), (7, .int (dm e9.2.2.1)), (8, .int (nI k))]) hx hb d_M_stored_149 hl (by decide) rfl (fun ls hl => ?_)
                        refine lv_iload hx hb d_M_stored_151 (lv_at hl 1 rfl) ?_
                        refine lv_iload hx hb d_M_stored_153 (lv_at hl 0 rfl) ?_
                        refine st_icmp_ne hx hb (by omega) (by omega) d_M_stored_155 (tgt := 194) (by decide) (fun hc155 => ?_) (fun hc155 => (by exfalso; first | exact hc155 | omega))
                        refine lv_iconst (v := nI 0) hx hb d_M_stored_194 (by decide) ?_
                        refine lv_istore (lv' := [(5, .int (nI 0)), (10, .int (nI 0)), (9, .int (nI 1)), (0, .ref h), (1, .int (nI lv)), (2, .int low), (3, .int (nI hi)), (4, .int (nI c9)), (6, .int (nI e9.2.1)), (7, .int (dm e9.2.2.1)), (8, .int (nI k))]) hx hb d_M_stored_195 hl (by decide) rfl (fun ls hl => ?_)
                        refine lv_iinc (k := 10) (v := nI (k + 1)) (lv' := [(8, .int (nI (k + 1))), (5, .int (nI 0)), (10, .int (nI 0)), (9, .int (nI 1)), (0, .ref h), (1, .int (nI lv)), (2, .int low), (3, .int (nI hi)), (4, .int (nI c9)), (6, .int (nI e9.2.1)), (7, .int (dm e9.2.2.1))]) hx hb d_M_stored_197 hl rfl (nI_add _ _) (by decide) rfl (fun ls hl => ?_)
                        refine lv_goto hx hb d_M_stored_200 (tgt := 82) (by decide) ?_
                        exact ih82 (k + 1) (nI 0) ls _ _ (by omega) (by omega) ((if_neg (fun q => (fun q => by first | (rw [hth, hhe] at q; cases q; done) | (rw [hth, hhe] at q; exact hc187 (Option.some.inj q))) (smE_s.mp q).2)).symm) (lv_sub hl [4, 5, 6, 7, 8, 1, 9, 10, 0] rfl) hP hD hS
                      · skip
                        refine lv_iload hx hb d_M_stored_138 (lv_at hl 9 rfl) ?_
                        refine lv_iload_n hx hb d_M_stored_140 rfl (lv_at hl 3 rfl) ?_
                        refine lv_icmp_le hx hb d_M_stored_141 (tgt := 148) (by decide) (fun hc141 => ?_) (fun hc141 => ?_)
                        · skip
                          have hhe : sel lo f0 k = none := sel_n2 ((le_low hlow (by omega) (by omega)).mp hc141)
                          refine lv_iconst (v := nI 0) hx hb d_M_stored_148 (by decide) ?_
                          refine lv_istore (lv' := [(10, .int (nI 0)), (9, .int (nI 1)), (0, .ref h), (1, .int (nI lv)), (2, .int low), (3, .int (nI hi)), (4, .int (nI c9)), (5, .int s5), (6, .int (nI e9.2.1)), (7, .int (dm e9.2.2.1)), (8, .int (nI k))]) hx hb d_M_stored_149 hl (by decide) rfl (fun ls hl => ?_)
                          refine lv_iload hx hb d_M_stored_151 (lv_at hl 1 rfl) ?_
                          refine lv_iload hx hb d_M_stored_153 (lv_at hl 0 rfl) ?_
                          refine st_icmp_ne hx hb (by omega) (by omega) d_M_stored_155 (tgt := 194) (by decide) (fun hc155 => ?_) (fun hc155 => (by exfalso; first | exact hc155 | omega))
                          refine lv_iconst (v := nI 0) hx hb d_M_stored_194 (by decide) ?_
                          refine lv_istore (lv' := [(5, .int (nI 0)), (10, .int (nI 0)), (9, .int (nI 1)), (0, .ref h), (1, .int (nI lv)), (2, .int low), (3, .int (nI hi)), (4, .int (nI c9)), (6, .int (nI e9.2.1)), (7, .int (dm e9.2.2.1)), (8, .int (nI k))]) hx hb d_M_stored_195 hl (by decide) rfl (fun ls hl => ?_)
                          refine lv_iinc (k := 10) (v := nI (k + 1)) (lv' := [(8, .int (nI (k + 1))), (5, .int (nI 0)), (10, .int (nI 0)), (9, .int (nI 1)), (0, .ref h), (1, .int (nI lv)), (2, .int low), (3, .int (nI hi)), (4, .int (nI c9)), (6, .int (nI e9.2.1)), (7, .int (dm e9.2.2.1))]) hx hb d_M_stored_197 hl rfl (nI_add _ _) (by decide) rfl (fun ls hl => ?_)
                          refine lv_goto hx hb d_M_stored_200 (tgt := 82) (by decide) ?_
                          exact ih82 (k + 1) (nI 0) ls _ _ (by omega) (by omega) ((if_neg (fun q => (fun q => by first | (rw [hth, hhe] at q; cases q; done) | (rw [hth, hhe] at q; exact hc187 (Option.some.inj q))) (smE_s.mp q).2)).symm) (lv_sub hl [4, 5, 6, 7, 8, 1, 9, 10, 0] rfl) hP hD hS
                        · skip
                          obtain ⟨v2, hv2⟩ := Option.ne_none_iff_exists'.mp (fun q => hc135 ((hf0 k (by omega)).1.mpr q))
                          have hhe : sel lo f0 k = some (g 2 (768 + k)) := sel_y (Nat.le_of_not_lt (fun q => hc141 ((le_low hlow (by omega) (by omega)).mpr q))) (by rw [(hf0 k (by omega)).2 v2 hv2]; exact hv2)
                          refine lv_iconst (v := nI 1) hx hb d_M_stored_144 (by decide) ?_
                          refine lv_goto hx hb d_M_stored_145 (tgt := 149) (by decide) ?_
                          refine lv_istore (lv' := [(10, .int (nI 1)), (9, .int (nI 1)), (0, .ref h), (1, .int (nI lv)), (2, .int low), (3, .int (nI hi)), (4, .int (nI c9)), (5, .int s5), (6, .int (nI e9.2.1)), (7, .int (dm e9.2.2.1)), (8, .int (nI k))]) hx hb d_M_stored_149 hl (by decide) rfl (fun ls hl => ?_)
                          refine lv_iload hx hb d_M_stored_151 (lv_at hl 1 rfl) ?_
                          refine lv_iload hx hb d_M_stored_153 (lv_at hl 0 rfl) ?_
                          refine st_icmp_ne hx hb (by omega) (by omega) d_M_stored_155 (tgt := 194) (by decide) (fun hc155 => (by exfalso; first | exact hc155 | omega)) (fun hc155 => ?_)
                          refine lv_iload hx hb d_M_stored_158 (lv_at hl 0 rfl) ?_
                          refine st_if_eq hx hb (by omega) d_M_stored_160 (tgt := 190) (by decide) (fun hc160 => (by exfalso; first | exact hc160 | omega)) (fun hc160 => ?_)
                          refine lv_aload_n hx hb d_M_stored_163 rfl (lv_at hl 2 rfl) ?_
                          refine gf_M_27 (v := .ref (ad 10)) hx hb hT hown hK hP 0 rfl rfl d_M_stored_164 ?_
                          refine lv_bipush (v := nI 48) hx hb d_M_stored_167 (by decide) ?_
                          refine lv_iload hx hb d_M_stored_169 (lv_at hl 8 rfl) ?_
                          refine st_imul hx hb d_M_stored_171 ?_
                          refine lv_iload hx hb d_M_stored_172 (lv_at hl 10 rfl) ?_
                          refine st_iadd hx hb d_M_stored_174 ?_
                          refine st_iald hx hb hK hP 6 0 rfl rfl (by omega) (by decide) d_M_stored_175 ?_
                          refine lv_aload_n hx hb d_M_stored_176 rfl (lv_at hl 2 rfl) ?_
                          refine gf_M_13 (v := .ref (ad 2)) hx hb hT hown hK hP 0 rfl rfl d_M_stored_177 ?_
                          refine lv_sipush (v := nI 768) hx hb d_M_stored_180 (by decide) ?_
                          refine lv_iload hx hb d_M_stored_183 (lv_at hl 10 rfl) ?_
                          refine st_iadd hx hb d_M_stored_185 ?_
                          refine st_iald hx hb hK hP 2 0 rfl rfl (by omega) (by decide) d_M_stored_186 ?_
                          refine lv_icmp_ne hx hb d_M_stored_187 (tgt := 194) (by decide) (fun hc187 => ?_) (fun hc187 => ?_)
                          · skip
                            refine lv_iconst (v := nI 0) hx hb d_M_stored_194 (by decide) ?_
                            refine lv_istore (lv' := [(5, .int (nI 0)), (10, .int (nI 1)), (9, .int (nI 1)), (0, .ref h), (1, .int (nI lv)), (2, .int low), (3, .int (nI hi)), (4, .int (nI c9)), (6, .int (nI e9.2.1)), (7, .int (dm e9.2.2.1)), (8, .int (nI k))]) hx hb d_M_stored_195 hl (by decide) rfl (fun ls hl => ?_)
                            refine lv_iinc (k := 10) (v := nI (k + 1)) (lv' := [(8, .int (nI (k + 1))), (5, .int (nI 0)), (10, .int (nI 1)), (9, .int (nI 1)), (0, .ref h), (1, .int (nI lv)), (2, .int low), (3, .int (nI hi)), (4, .int (nI c9)), (6, .int (nI e9.2.1)), (7, .int (dm e9.2.2.1))]) hx hb d_M_stored_197 hl rfl (nI_add _ _) (by decide) rfl (fun ls hl => ?_)
                            refine lv_goto hx hb d_M_stored_200 (tgt := 82) (by decide) ?_
                            exact ih82 (k + 1) (nI 0) ls _ _ (by omega) (by omega) ((if_neg (fun q => (fun q => by first | (rw [hth, hhe] at q; cases q; done) | (rw [hth, hhe] at q; exact hc187 (Option.some.inj q))) (smE_s.mp q).2)).symm) (lv_sub hl [4, 5, 6, 7, 8, 1, 9, 10, 0] rfl) hP hD hS
                          · skip
                            refine lv_iconst (v := nI 1) hx hb d_M_stored_190 (by decide) ?_
                            refine lv_goto hx hb d_M_stored_191 (tgt := 195) (by decide) ?_
                            refine lv_istore (lv' := [(5, .int (nI 1)), (10, .int (nI 1)), (9, .int (nI 1)), (0, .ref h), (1, .int (nI lv)), (2, .int low), (3, .int (nI hi)), (4, .int (nI c9)), (6, .int (nI e9.2.1)), (7, .int (dm e9.2.2.1)), (8, .int (nI k))]) hx hb d_M_stored_195 hl (by decide) rfl (fun ls hl => ?_)
                            refine lv_iinc (k := 10) (v := nI (k + 1)) (lv' := [(8, .int (nI (k + 1))), (5, .int (nI 1)), (10, .int (nI 1)), (9, .int (nI 1)), (0, .ref h), (1, .int (nI lv)), (2, .int low), (3, .int (nI hi)), (4, .int (nI c9)), (6, .int (nI e9.2.1)), (7, .int (dm e9.2.2.1))]) hx hb d_M_stored_197 hl rfl (nI_add _ _) (by decide) rfl (fun ls hl => ?_)
                            refine lv_goto hx hb d_M_stored_200 (tgt := 82) (by decide) ?_
                            exact ih82 (k + 1) (nI 1) ls _ _ (by omega) (by omega) ((if_pos (smE_s.mpr ⟨hsm, by first | (rw [hth, hhe]; done) | (rw [hth, hhe, hc187]; done)⟩)).symm) (lv_sub hl [4, 5, 6, 7, 8, 1, 9, 10, 0] rfl) hP hD hS
          exact key82 _ 0 (nI 0) ls _ _ (Nat.lt_succ_self _) (by omega) ((if_neg (fun q => by first | exact hc23 q.1.1 | exact hc37 q.1.2)).symm) (lv_sub hl [4, 5, 6, 7, 8, 3, 2, 1, 0] rfl) hP hD hS
        · skip
          refine lv_aload_n hx hb d_M_stored_26 rfl (lv_at hl 0 rfl) ?_
          refine gf_M_20 (v := .ref (ad 7)) hx hb hT hown hK hP 0 rfl rfl d_M_stored_27 ?_
          refine lv_iload hx hb d_M_stored_30 (lv_at hl 4 rfl) ?_
          refine st_iald hx hb hK hP 4 0 rfl rfl (by omega) (by decide) d_M_stored_32 ?_
          refine st_top (show g 7 c9 = nI (cw e9) from e7) ?_
          refine lv_bipush (v := nI 18) hx hb d_M_stored_33 (by decide) ?_
          refine lv_ishr hx hb d_M_stored_35 ?_
          refine st_top (show (nI (cw e9)) >>> ((nI 18) &&& 31) = nI e9.2.2.2 from cw_4 b1 b2 b3 b4) ?_
          refine lv_iload_n hx hb d_M_stored_36 rfl (lv_at hl 3 rfl) ?_
          refine st_icmp_ne hx hb (by omega) (by omega) d_M_stored_37 (tgt := 44) (by decide) (fun hc37 => ?_) (fun hc37 => ?_)
          · skip
            refine lv_iconst (v := nI 0) hx hb d_M_stored_44 (by decide) ?_
            refine lv_istore (lv' := [(5, .int (nI 0)), (0, .ref h), (1, .int (nI lv)), (2, .int low), (3, .int (nI hi)), (4, .int (nI c9))]) hx hb d_M_stored_45 hl (by decide) rfl (fun ls hl => ?_)
            refine lv_aload_n hx hb d_M_stored_47 rfl (lv_at hl 1 rfl) ?_
            refine gf_M_20 (v := .ref (ad 7)) hx hb hT hown hK hP 0 rfl rfl d_M_stored_48 ?_
            refine lv_iload hx hb d_M_stored_51 (lv_at hl 5 rfl) ?_
            refine st_iald hx hb hK hP 4 0 rfl rfl (by omega) (by decide) d_M_stored_53 ?_
            refine st_top (show g 7 c9 = nI (cw e9) from e7) ?_
            refine lv_iconst (v := nI 3) hx hb d_M_stored_54 (by decide) ?_
            refine lv_ishr hx hb d_M_stored_55 ?_
            refine lv_sipush (v := nI 511) hx hb d_M_stored_56 (by decide) ?_
            refine lv_iand hx hb d_M_stored_59 ?_
            refine st_top (show ((nI (cw e9)) >>> ((nI 3) &&& 31)) &&& (nI 511) = nI e9.2.1 from cw_2 b1 b2 b3 b4) ?_
            refine lv_istore (lv' := [(6, .int (nI e9.2.1)), (5, .int (nI 0)), (0, .ref h), (1, .int (nI lv)), (2, .int low), (3, .int (nI hi)), (4, .int (nI c9))]) hx hb d_M_stored_60 hl (by decide) rfl (fun ls hl => ?_)
            refine lv_aload_n hx hb d_M_stored_62 rfl (lv_at hl 2 rfl) ?_
            refine gf_M_20 (v := .ref (ad 7)) hx hb hT hown hK hP 0 rfl rfl d_M_stored_63 ?_
            refine lv_iload hx hb d_M_stored_66 (lv_at hl 6 rfl) ?_
            refine st_iald hx hb hK hP 4 0 rfl rfl (by omega) (by decide) d_M_stored_68 ?_
            refine st_top (show g 7 c9 = nI (cw e9) from e7) ?_
            refine lv_bipush (v := nI 12) hx hb d_M_stored_69 (by decide) ?_
            refine lv_ishr hx hb d_M_stored_71 ?_
            refine lv_bipush (v := nI 63) hx hb d_M_stored_72 (by decide) ?_
            refine lv_iand hx hb d_M_stored_74 ?_
            refine st_top (show ((nI (cw e9)) >>> ((nI 12) &&& 31)) &&& (nI 63) = nI e9.2.2.1 from cw_3 b1 b2 b3 b4) ?_
            refine lv_iconst (v := nI 1) hx hb d_M_stored_75 (by decide) ?_
            refine lv_isub hx hb d_M_stored_76 ?_
            refine lv_istore (lv' := [(7, .int ((nI e9.2.2.1) - (nI 1))), (6, .int (nI e9.2.1)), (5, .int (nI 0)), (0, .ref h), (1, .int (nI lv)), (2, .int low), (3, .int (nI hi)), (4, .int (nI c9))]) hx hb d_M_stored_77 hl (by decide) rfl (fun ls hl => ?_)
            refine lv_iconst (v := nI 0) hx hb d_M_stored_79 (by decide) ?_
            refine lv_istore (lv' := [(8, .int (nI 0)), (7, .int ((nI e9.2.2.1) - (nI 1))), (6, .int (nI e9.2.1)), (5, .int (nI 0)), (0, .ref h), (1, .int (nI lv)), (2, .int low), (3, .int (nI hi)), (4, .int (nI c9))]) hx hb d_M_stored_80 hl (by decide) rfl (fun ls hl => ?_)
            replace hl : lv_has ls 11 [(8, .int (nI 0)), (7, .int (dm e9.2.2.1)), (6, .int (nI e9.2.1)), (5, .int (nI 0)), (0, .ref h), (1, .int (nI lv)), (2, .int low), (3, .int (nI hi)), (4, .int (nI c9))] := hl
            have key82 : ∀ (n82 : Nat) (k : Nat) (s5 : Int32) (ls : Array Slot) (H : Heap) (locs : List Loc), hi + 1 - k < n82 → (k ≤ hi + 1) → (s5 = if smE fm f0 lv lo hi e9 k then nI 1 else nI 0) → lv_has ls 11 [(0, .ref h), (1, .int (nI lv)), (2, .int low), (3, .int (nI hi)), (4, .int (nI c9)), (5, .int s5), (6, .int (nI e9.2.1)), (7, .int (dm e9.2.2.1)), (8, .int (nI k))] → va_P D CC (wM tk h ad g la ++ tl) H → va_D A (wM tk h ad g la ++ tl) → va_S A s.heap H locs → W p l e ({ frames := 0, cells := 0, slots := 0, locals := 0 } : Room) s m args below meth c H locs 0 0 Q (F0 m 82 ls []) := by
              intro n82
              induction n82 with
              | zero => intro k s5 ls H locs hn; exact absurd hn (Nat.not_lt_zero _)
              | succ n82 ih82 =>
                intro k s5 ls H locs hn82 hk hs5 hl hP hD hS
                refine lv_iload hx hb d_M_stored_82 (lv_at hl 8 rfl) ?_
                refine lv_iload_n hx hb d_M_stored_84 rfl (lv_at hl 3 rfl) ?_
                refine st_icmp_gt hx hb (by omega) (by omega) d_M_stored_85 (tgt := 203) (by decide) (fun hc85 => ?_) (fun hc85 => ?_)
                · skip
                  have hke : k = hi + 1 := by omega
                  refine lv_iload hx hb d_M_stored_203 (lv_at hl 5 rfl) ?_
                  refine lv_if_eq hx hb d_M_stored_205 (tgt := 210) (by decide) (fun hc205 => ?_) (fun hc205 => ?_)
                  · skip
                    have hnsm : ¬ smE fm f0 lv lo hi e9 (hi + 1) := fun q => by rw [hs5, hke] at hc205; exact ifx.mp hc205 q
                    refine lv_iinc (k := 4) (v := nI (c9 + 1)) (lv' := [(4, .int (nI (c9 + 1))), (0, .ref h), (1, .int (nI lv)), (2, .int low), (3, .int (nI hi)), (5, .int s5), (6, .int (nI e9.2.1)), (7, .int (dm e9.2.2.1)), (8, .int (nI k))]) hx hb d_M_stored_210 hl rfl (nI_add _ _) (by decide) rfl (fun ls hl => ?_)
                    refine lv_goto hx hb d_M_stored_213 (tgt := 3) (by decide) ?_
                    exact ih3 (c9 + 1) ls _ _ (by omega) (by omega) (fun i e hi2 hie => by by_cases q : i = c9; (subst q; rw [he9] at hie; cases hie; exact hnsm); exact hno i e (by omega) hie) (lv_sub hl [1, 2, 3, 4, 0] rfl) hP hD hS
                  · skip
                    have hex : (∃ (i : Nat) (e : Nat × Nat × Nat × Nat), E[i]? = some e ∧ smE fm f0 lv lo hi e (hi + 1)) := ⟨c9, e9, he9, Classical.byContradiction (fun q => hc205 (by rw [hs5, hke]; exact ifx.mpr q))⟩
                    refine lv_iconst (v := nI 1) hx hb d_M_stored_208 (by decide) ?_
                    exact k_zret (v := nI 1) hQ hx hb hr hlk hK hP hD hS () rfl (by decide) ((if_pos hex).symm) d_M_stored_209
                · skip
                  refine lv_iload hx hb d_M_stored_88 (lv_at hl 5 rfl) ?_
                  refine lv_if_eq hx hb d_M_stored_90 (tgt := 203) (by decide) (fun hc90 => ?_) (fun hc90 => ?_)
                  · skip
                    have hnsm : ¬ smE fm f0 lv lo hi e9 (hi + 1) := fun q => by rw [hs5] at hc90; exact ifx.mp hc90 (smE_m q hk)
                    refine lv_iload hx hb d_M_stored_203 (lv_at hl 5 rfl) ?_
                    refine lv_if_eq hx hb d_M_stored_205 (tgt := 210) (by decide) (fun hc205 => ?_) (fun hc205 => absurd hc90 hc205)
                    refine lv_iinc (k := 4) (v := nI (c9 + 1)) (lv' := [(4, .int (nI (c9 + 1))), (0, .ref h), (1, .int (nI lv)), (2, .int low), (3, .int (nI hi)), (5, .int s5), (6, .int (nI e9.2.1)), (7, .int (dm e9.2.2.1)), (8, .int (nI k))]) hx hb d_M_stored_210 hl rfl (nI_add _ _) (by decide) rfl (fun ls hl => ?_)
                    refine lv_goto hx hb d_M_stored_213 (tgt := 3) (by decide) ?_
                    exact ih3 (c9 + 1) ls _ _ (by omega) (by omega) (fun i e hi2 hie => by by_cases q : i = c9; (subst q; rw [he9] at hie; cases hie; exact hnsm); exact hno i e (by omega) hie) (lv_sub hl [1, 2, 3, 4, 0] rfl) hP hD hS
                  · skip
                    have hsm : smE fm f0 lv lo hi e9 k := Classical.byContradiction (fun q => hc90 (by rw [hs5]; exact ifx.mpr q))
                    refine lv_aload_n hx hb d_M_stored_93 rfl (lv_at hl 0 rfl) ?_
                    refine gf_M_23 (v := .ref (ad 9)) hx hb hT hown hK hP 0 rfl rfl d_M_stored_94 ?_
                    refine lv_iload hx hb d_M_stored_97 (lv_at hl 6 rfl) ?_
                    refine st_lald hx hb hK hP 5 2 rfl rfl (by omega) (by decide) d_M_stored_99 ?_
                    refine lv_iload hx hb d_M_stored_100 (lv_at hl 8 rfl) ?_
                    refine lv_lshr (v := (la e9.2.1) >>> ((nI k).toInt64 &&& 63)) hx hb d_M_stored_102 rfl ?_
                    refine lv_lconst (v := 1) hx hb d_M_stored_103 (by decide) ?_
                    refine lv_land hx hb d_M_stored_104 ?_
                    refine lv_lconst (v := 1) hx hb d_M_stored_105 (by decide) ?_
                    refine W.lcmp hx hb d_M_stored_106 ?_
                    refine lv_if_ne hx hb d_M_stored_107 (tgt := 121) (by decide) (fun hc107 => ?_) (fun hc107 => ?_)
                    · skip
                      have hth : sel e9.2.2.1 (fm e9.2.1) k = none := sel_n1 (Classical.byContradiction (fun q => hc107 ((cmp_0 _ _).mpr ((hlaE k (by omega)).1.mpr q))))
                      refine lv_iconst (v := nI 0) hx hb d_M_stored_121 (by decide) ?_
                      refine lv_istore (lv' := [(9, .int (nI 0)), (0, .ref h), (1, .int (nI lv)), (2, .int low), (3, .int (nI hi)), (4, .int (nI c9)), (5, .int s5), (6, .int (nI e9.2.1)), (7, .int (dm e9.2.2.1)), (8, .int (nI k))]) hx hb d_M_stored_122 hl (by decide) rfl (fun ls hl => ?_)
                      refine lv_aload_n hx hb d_M_stored_124 rfl (lv_at hl 1 rfl) ?_
                      refine gf_M_7 (v := .ref (ad 1)) hx hb hT hown hK hP 0 rfl rfl d_M_stored_125 ?_
                      refine lv_sipush (v := nI 768) hx hb d_M_stored_128 (by decide) ?_
                      refine lv_iload hx hb d_M_stored_131 (lv_at hl 9 rfl) ?_
                      refine st_iadd hx hb d_M_stored_133 ?_
                      refine st_zald hx hb hK hP 1 1 rfl rfl (by omega) (by decide) d_M_stored_134 ?_
                      refine lv_if_eq hx hb d_M_stored_135 (tgt := 148) (by decide) (fun hc135 => ?_) (fun hc135 => ?_)
                      · skip
                        have hhe : sel lo f0 k = none := sel_n1 ((hf0 k (by omega)).1.mp hc135)
                        refine lv_iconst (v := nI 0) hx hb d_M_stored_148 (by decide) ?_
                        refine lv_istore (lv' := [(10, .int (nI 0)), (9, .int (nI 0)), (0, .ref h), (1, .int (nI lv)), (2, .int low), (3, .int (nI hi)), (4, .int (nI c9)), (5, .int s5), (6, .int (nI e9.2.1)), (7, .int (dm e9.2.2.1)), (8, .int (nI k))]) hx hb d_M_stored_149 hl (by decide) rfl (fun ls hl => ?_)
                        refine lv_iload hx hb d_M_stored_151 (lv_at hl 1 rfl) ?_
                        refine lv_iload hx hb d_M_stored_153 (lv_at hl 0 rfl) ?_
                        refine st_icmp_ne hx hb (by omega) (by omega) d_M_stored_155 (tgt := 194) (by decide) (fun hc155 => (by exfalso; first | exact hc155 | omega)) (fun hc155 => ?_)
                        refine lv_iload hx hb d_M_stored_158 (lv_at hl 0 rfl) ?_
                        refine st_if_eq hx hb (by omega) d_M_stored_160 (tgt := 190) (by decide) (fun hc160 => ?_) (fun hc160 => (by exfalso; first | exact hc160 | omega))
                        refine lv_iconst (v := nI 1) hx hb d_M_stored_190 (by decide) ?_
                        refine lv_goto hx hb d_M_stored_191 (tgt := 195) (by decide) ?_
                        refine lv_istore (lv' := [(5, .int (nI 1)), (10, .int (nI 0)), (9, .int (nI 0)), (0, .ref h), (1, .int (nI lv)), (2, .int low), (3, .int (nI hi)), (4, .int (nI c9)), (6, .int (nI e9.2.1)), (7, .int (dm e9.2.2.1)), (8, .int (nI k))]) hx hb d_M_stored_195 hl (by decide) rfl (fun ls hl => ?_)
                        refine lv_iinc (k := 10) (v := nI (k + 1)) (lv' := [(8, .int (nI (k + 1))), (5, .int (nI 1)), (10, .int (nI 0)), (9, .int (nI 0)), (0, .ref h), (1, .int (nI lv)), (2, .int low), (3, .int (nI hi)), (4, .int (nI c9)), (6, .int (nI e9.2.1)), (7, .int (dm e9.2.2.1))]) hx hb d_M_stored_197 hl rfl (nI_add _ _) (by decide) rfl (fun ls hl => ?_)
                        refine lv_goto hx hb d_M_stored_200 (tgt := 82) (by decide) ?_
                        exact ih82 (k + 1) (nI 1) ls _ _ (by omega) (by omega) ((if_pos (smE_s.mpr ⟨hsm, by first | (rw [hth, hhe]; done) | (rw [hth, hhe, hc187]; done)⟩)).symm) (lv_sub hl [4, 5, 6, 7, 8, 1, 9, 10, 0] rfl) hP hD hS
                      · skip
                        refine lv_iload hx hb d_M_stored_138 (lv_at hl 9 rfl) ?_
                        refine lv_iload_n hx hb d_M_stored_140 rfl (lv_at hl 3 rfl) ?_
                        refine lv_icmp_le hx hb d_M_stored_141 (tgt := 148) (by decide) (fun hc141 => ?_) (fun hc141 => ?_)
                        · skip
                          have hhe : sel lo f0 k = none := sel_n2 ((le_low hlow (by omega) (by omega)).mp hc141)
                          refine lv_iconst (v := nI 0) hx hb d_M_stored_148 (by decide) ?_
                          refine lv_istore (lv' := [(10, .int (nI 0)), (9, .int (nI 0)), (0, .ref h), (1, .int (nI lv)), (2, .int low), (3, .int (nI hi)), (4, .int (nI c9)), (5, .int s5), (6, .int (nI e9.2.1)), (7, .int (dm e9.2.2.1)), (8, .int (nI k))]) hx hb d_M_stored_149 hl (by decide) rfl (fun ls hl => ?_)
                          refine lv_iload hx hb d_M_stored_151 (lv_at hl 1 rfl) ?_
                          refine lv_iload hx hb d_M_stored_153 (lv_at hl 0 rfl) ?_
                          refine st_icmp_ne hx hb (by omega) (by omega) d_M_stored_155 (tgt := 194) (by decide) (fun hc155 => (by exfalso; first | exact hc155 | omega)) (fun hc155 => ?_)
                          refine lv_iload hx hb d_M_stored_158 (lv_at hl 0 rfl) ?_
                          refine st_if_eq hx hb (by omega) d_M_stored_160 (tgt := 190) (by decide) (fun hc160 => ?_) (fun hc160 => (by exfalso; first | exact hc160 | omega))
                          refine lv_iconst (v := nI 1) hx hb d_M_stored_190 (by decide) ?_
                          refine lv_goto hx hb d_M_stored_191 (tgt := 195) (by decide) ?_
                          refine lv_istore (lv' := [(5, .int (nI 1)), (10, .int (nI 0)), (9, .int (nI 0)), (0, .ref h), (1, .int (nI lv)), (2, .int low), (3, .int (nI hi)), (4, .int (nI c9)), (6, .int (nI e9.2.1)), (7, .int (dm e9.2.2.1)), (8, .int (nI k))]) hx hb d_M_stored_195 hl (by decide) rfl (fun ls hl => ?_)
                          refine lv_iinc (k := 10) (v := nI (k + 1)) (lv' := [(8, .int (nI (k + 1))), (5, .int (nI 1)), (10, .int (nI 0)), (9, .int (nI 0)), (0, .ref h), (1, .int (nI lv)), (2, .int low), (3, .int (nI hi)), (4, .int (nI c9)), (6, .int (nI e9.2.1)), (7, .int (dm e9.2.2.1))]) hx hb d_M_stored_197 hl rfl (nI_add _ _) (by decide) rfl (fun ls hl => ?_)
                          refine lv_goto hx hb d_M_stored_200 (tgt := 82) (by decide) ?_
                          exact ih82 (k + 1) (nI 1) ls _ _ (by omega) (by omega) ((if_pos (smE_s.mpr ⟨hsm, by first | (rw [hth, hhe]; done) | (rw [hth, hhe, hc187]; done)⟩)).symm) (lv_sub hl [4, 5, 6, 7, 8, 1, 9, 10, 0] rfl) hP hD hS
                        · skip
                          obtain ⟨v2, hv2⟩ := Option.ne_none_iff_exists'.mp (fun q => hc135 ((hf0 k (by omega)).1.mpr q))
                          have hhe : sel lo f0 k = some (g 2 (768 + k)) := sel_y (Nat.le_of_not_lt (fun q => hc141 ((le_low hlow (by omega) (by omega)).mpr q))) (by rw [(hf0 k (by omega)).2 v2 hv2]; exact hv2)
                          refine lv_iconst (v := nI 1) hx hb d_M_stored_144 (by decide) ?_
                          refine lv_goto hx hb d_M_stored_145 (tgt := 149) (by decide) ?_
                          refine lv_istore (lv' := [(10, .int (nI 1)), (9, .int (nI 0)), (0, .ref h), (1, .int (nI lv)), (2, .int low), (3, .int (nI hi)), (4, .int (nI c9)), (5, .int s5), (6, .int (nI e9.2.1)), (7, .int (dm e9.2.2.1)), (8, .int (nI k))]) hx hb d_M_stored_149 hl (by decide) rfl (fun ls hl => ?_)
                          refine lv_iload hx hb d_M_stored_151 (lv_at hl 1 rfl) ?_
                          refine lv_iload hx hb d_M_stored_153 (lv_at hl 0 rfl) ?_
                          refine st_icmp_ne hx hb (by omega) (by omega) d_M_stored_155 (tgt := 194) (by decide) (fun hc155 => ?_) (fun hc155 => (by exfalso; first | exact hc155 | omega))
                          refine lv_iconst (v := nI 0) hx hb d_M_stored_194 (by decide) ?_
                          refine lv_istore (lv' := [(5, .int (nI 0)), (10, .int (nI 1)), (9, .int (nI 0)), (0, .ref h), (1, .int (nI lv)), (2, .int low), (3, .int (nI hi)), (4, .int (nI c9)), (6, .int (nI e9.2.1)), (7, .int (dm e9.2.2.1)), (8, .int (nI k))]) hx hb d_M_stored_195 hl (by decide) rfl (fun ls hl => ?_)
                          refine lv_iinc (k := 10) (v := nI (k + 1)) (lv' := [(8, .int (nI (k + 1))), (5, .int (nI 0)), (10, .int (nI 1)), (9, .int (nI 0)), (0, .ref h), (1, .int (nI lv)), (2, .int low), (3, .int (nI hi)), (4, .int (nI c9)), (6, .int (nI e9.2.1)), (7, .int (dm e9.2.2.1))]) hx hb d_M_stored_197 hl rfl (nI_add _ _) (by decide) rfl (fun ls hl => ?_)
                          refine lv_goto hx hb d_M_stored_200 (tgt := 82) (by decide) ?_
                          exact ih82 (k + 1) (nI 0) ls _ _ (by omega) (by omega) ((if_neg (fun q => (fun q => by first | (rw [hth, hhe] at q; cases q; done) | (rw [hth, hhe] at q; exact hc187 (Option.some.inj q))) (smE_s.mp q).2)).symm) (lv_sub hl [4, 5, 6, 7, 8, 1, 9, 10, 0] rfl) hP hD hS
                    · skip
                      refine lv_iload hx hb d_M_stored_110 (lv_at hl 8 rfl) ?_
                      refine lv_iload hx hb d_M_stored_112 (lv_at hl 7 rfl) ?_
                      refine lv_icmp_le hx hb d_M_stored_114 (tgt := 121) (by decide) (fun hc114 => ?_) (fun hc114 => ?_)
                      · skip
                        have hth : sel e9.2.2.1 (fm e9.2.1) k = none := sel_n2 ((le_low (dm_add _) (by omega) (by omega)).mp hc114)
                        refine lv_iconst (v := nI 0) hx hb d_M_stored_121 (by decide) ?_
                        refine lv_istore (lv' := [(9, .int (nI 0)), (0, .ref h), (1, .int (nI lv)), (2, .int low), (3, .int (nI hi)), (4, .int (nI c9)), (5, .int s5), (6, .int (nI e9.2.1)), (7, .int (dm e9.2.2.1)), (8, .int (nI k))]) hx hb d_M_stored_122 hl (by decide) rfl (fun ls hl => ?_)
                        refine lv_aload_n hx hb d_M_stored_124 rfl (lv_at hl 1 rfl) ?_
                        refine gf_M_7 (v := .ref (ad 1)) hx hb hT hown hK hP 0 rfl rfl d_M_stored_125 ?_
                        refine lv_sipush (v := nI 768) hx hb d_M_stored_128 (by decide) ?_
                        refine lv_iload hx hb d_M_stored_131 (lv_at hl 9 rfl) ?_
                        refine st_iadd hx hb d_M_stored_133 ?_
                        refine st_zald hx hb hK hP 1 1 rfl rfl (by omega) (by decide) d_M_stored_134 ?_
                        refine lv_if_eq hx hb d_M_stored_135 (tgt := 148) (by decide) (fun hc135 => ?_) (fun hc135 => ?_)
                        · skip
                          have hhe : sel lo f0 k = none := sel_n1 ((hf0 k (by omega)).1.mp hc135)
                          refine lv_iconst (v := nI 0) hx hb d_M_stored_148 (by decide) ?_
                          refine lv_istore (lv' := [(10, .int (nI 0)), (9, .int (nI 0)), (0, .ref h), (1, .int (nI lv)), (2, .int low), (3, .int (nI hi)), (4, .int (nI c9)), (5, .int s5), (6, .int (nI e9.2.1)), (7, .int (dm e9.2.2.1)), (8, .int (nI k))]) hx hb d_M_stored_149 hl (by decide) rfl (fun ls hl => ?_)
                          refine lv_iload hx hb d_M_stored_151 (lv_at hl 1 rfl) ?_
                          refine lv_iload hx hb d_M_stored_153 (lv_at hl 0 rfl) ?_
                          refine st_icmp_ne hx hb (by omega) (by omega) d_M_stored_155 (tgt := 194) (by decide) (fun hc155 => (by exfalso; first | exact hc155 | omega)) (fun hc155 => ?_)
                          refine lv_iload hx hb d_M_stored_158 (lv_at hl 0 rfl) ?_
                          refine st_if_eq hx hb (by omega) d_M_stored_160 (tgt := 190) (by decide) (fun hc160 => ?_) (fun hc160 => (by exfalso; first | exact hc160 | omega))
                          refine lv_iconst (v := nI 1) hx hb d_M_stored_190 (by decide) ?_
                          refine lv_goto hx hb d_M_stored_191 (tgt := 195) (by decide) ?_
                          refine lv_istore (lv' := [(5, .int (nI 1)), (10, .int (nI 0)), (9, .int (nI 0)), (0, .ref h), (1, .int (nI lv)), (2, .int low), (3, .int (nI hi)), (4, .int (nI c9)), (6, .int (nI e9.2.1)), (7, .int (dm e9.2.2.1)), (8, .int (nI k))]) hx hb d_M_stored_195 hl (by decide) rfl (fun ls hl => ?_)
                          refine lv_iinc (k := 10) (v := nI (k + 1)) (lv' := [(8, .int (nI (k + 1))), (5, .int (nI 1)), (10, .int (nI 0)), (9, .int (nI 0)), (0, .ref h), (1, .int (nI lv)), (2, .int low), (3, .int (nI hi)), (4, .int (nI c9)), (6, .int (nI e9.2.1)), (7, .int (dm e9.2.2.1))]) hx hb d_M_stored_197 hl rfl (nI_add _ _) (by decide) rfl (fun ls hl => ?_)
                          refine lv_goto hx hb d_M_stored_200 (tgt := 82) (by decide) ?_
                          exact ih82 (k + 1) (nI 1) ls _ _ (by omega) (by omega) ((if_pos (smE_s.mpr ⟨hsm, by first | (rw [hth, hhe]; done) | (rw [hth, hhe, hc187]; done)⟩)).symm) (lv_sub hl [4, 5, 6, 7, 8, 1, 9, 10, 0] rfl) hP hD hS
                        · skip
                          refine lv_iload hx hb d_M_stored_138 (lv_at hl 9 rfl) ?_
                          refine lv_iload_n hx hb d_M_stored_140 rfl (lv_at hl 3 rfl) ?_
                          refine lv_icmp_le hx hb d_M_stored_141 (tgt := 148) (by decide) (fun hc141 => ?_) (fun hc141 => ?_)
                          · skip
                            have hhe : sel lo f0 k = none := sel_n2 ((le_low hlow (by omega) (by omega)).mp hc141)
                            refine lv_iconst (v := nI 0) hx hb d_M_stored_148 (by decide) ?_
                            refine lv_istore (lv' := [(10, .int (nI 0)), (9, .int (nI 0)), (0, .ref h), (1, .int (nI lv)), (2, .int low), (3, .int (nI hi)), (4, .int (nI c9)), (5, .int s5), (6, .int (nI e9.2.1)), (7, .int (dm e9.2.2.1)), (8, .int (nI k))]) hx hb d_M_stored_149 hl (by decide) rfl (fun ls hl => ?_)
                            refine lv_iload hx hb d_M_stored_151 (lv_at hl 1 rfl) ?_
                            refine lv_iload hx hb d_M_stored_153 (lv_at hl 0 rfl) ?_
                            refine st_icmp_ne hx hb (by omega) (by omega) d_M_stored_155 (tgt := 194) (by decide) (fun hc155 => (by exfalso; first | exact hc155 | omega)) (fun hc155 => ?_)
                            refine lv_iload hx hb d_M_stored_158 (lv_at hl 0 rfl) ?_
                            refine st_if_eq hx hb (by omega) d_M_stored_160 (tgt := 190) (by decide) (fun hc160 => ?_) (fun hc160 => (by exfalso; first | exact hc160 | omega))
                            refine lv_iconst (v := nI 1) hx hb d_M_stored_190 (by decide) ?_
                            refine lv_goto hx hb d_M_stored_191 (tgt := 195) (by decide) ?_
                            refine lv_istore (lv' := [(5, .int (nI 1)), (10, .int (nI 0)), (9, .int (nI 0)), (0, .ref h), (1, .int (nI lv)), (2, .int low), (3, .int (nI hi)), (4, .int (nI c9)), (6, .int (nI e9.2.1)), (7, .int (dm e9.2.2.1)), (8, .int (nI k))]) hx hb d_M_stored_195 hl (by decide) rfl (fun ls hl => ?_)
                            refine lv_iinc (k := 10) (v := nI (k + 1)) (lv' := [(8, .int (nI (k + 1))), (5, .int (nI 1)), (10, .int (nI 0)), (9, .int (nI 0)), (0, .ref h), (1, .int (nI lv)), (2, .int low), (3, .int (nI hi)), (4, .int (nI c9)), (6, .int (nI e9.2.1)), (7, .int (dm e9.2.2.1))]) hx hb d_M_stored_197 hl rfl (nI_add _ _) (by decide) rfl (fun ls hl => ?_)
                            refine lv_goto hx hb d_M_stored_200 (tgt := 82) (by decide) ?_
                            exact ih82 (k + 1) (nI 1) ls _ _ (by omega) (by omega) ((if_pos (smE_s.mpr ⟨hsm, by first | (rw [hth, hhe]; done) | (rw [hth, hhe, hc187]; done)⟩)).symm) (lv_sub hl [4, 5, 6, 7, 8, 1, 9, 10, 0] rfl) hP hD hS
                          · skip
                            obtain ⟨v2, hv2⟩ := Option.ne_none_iff_exists'.mp (fun q => hc135 ((hf0 k (by omega)).1.mpr q))
                            have hhe : sel lo f0 k = some (g 2 (768 + k)) := sel_y (Nat.le_of_not_lt (fun q => hc141 ((le_low hlow (by omega) (by omega)).mpr q))) (by rw [(hf0 k (by omega)).2 v2 hv2]; exact hv2)
                            refine lv_iconst (v := nI 1) hx hb d_M_stored_144 (by decide) ?_
                            refine lv_goto hx hb d_M_stored_145 (tgt := 149) (by decide) ?_
                            refine lv_istore (lv' := [(10, .int (nI 1)), (9, .int (nI 0)), (0, .ref h), (1, .int (nI lv)), (2, .int low), (3, .int (nI hi)), (4, .int (nI c9)), (5, .int s5), (6, .int (nI e9.2.1)), (7, .int (dm e9.2.2.1)), (8, .int (nI k))]) hx hb d_M_stored_149 hl (by decide) rfl (fun ls hl => ?_)
                            refine lv_iload hx hb d_M_stored_151 (lv_at hl 1 rfl) ?_
                            refine lv_iload hx hb d_M_stored_153 (lv_at hl 0 rfl) ?_
                            refine st_icmp_ne hx hb (by omega) (by omega) d_M_stored_155 (tgt := 194) (by decide) (fun hc155 => ?_) (fun hc155 => (by exfalso; first | exact hc155 | omega))
                            refine lv_iconst (v := nI 0) hx hb d_M_stored_194 (by decide) ?_
                            refine lv_istore (lv' := [(5, .int (nI 0)), (10, .int (nI 1)), (9, .int (nI 0)), (0, .ref h), (1, .int (nI lv)), (2, .int low), (3, .int (nI hi)), (4, .int (nI c9)), (6, .int (nI e9.2.1)), (7, .int (dm e9.2.2.1)), (8, .int (nI k))]) hx hb d_M_stored_195 hl (by decide) rfl (fun ls hl => ?_)
                            refine lv_iinc (k := 10) (v := nI (k + 1)) (lv' := [(8, .int (nI (k + 1))), (5, .int (nI 0)), (10, .int (nI 1)), (9, .int (nI 0)), (0, .ref h), (1, .int (nI lv)), (2, .int low), (3, .int (nI hi)), (4, .int (nI c9)), (6, .int (nI e9.2.1)), (7, .int (dm e9.2.2.1))]) hx hb d_M_stored_197 hl rfl (nI_add _ _) (by decide) rfl (fun ls hl => ?_)
                            refine lv_goto hx hb d_M_stored_200 (tgt := 82) (by decide) ?_
                            exact ih82 (k + 1) (nI 0) ls _ _ (by omega) (by omega) ((if_neg (fun q => (fun q => by first | (rw [hth, hhe] at q; cases q; done) | (rw [hth, hhe] at q; exact hc187 (Option.some.inj q))) (smE_s.mp q).2)).symm) (lv_sub hl [4, 5, 6, 7, 8, 1, 9, 10, 0] rfl) hP hD hS
                      · skip
                        obtain ⟨v1, hv1⟩ := Option.ne_none_iff_exists'.mp ((hlaE k (by omega)).1.mp ((cmp_0 _ _).mp hc107))
                        have hth : sel e9.2.2.1 (fm e9.2.1) k = some (g 10 (48 * e9.2.1 + k)) := sel_y (Nat.le_of_not_lt (fun q => hc114 ((le_low (dm_add _) (by omega) (by omega)).mpr q))) (by rw [(hlaE k (by omega)).2 v1 hv1]; exact hv1)
                        refine lv_iconst (v := nI 1) hx hb d_M_stored_117 (by decide) ?_
                        refine lv_goto hx hb d_M_stored_118 (tgt := 122) (by decide) ?_
                        refine lv_istore (lv' := [(9, .int (nI 1)), (0, .ref h), (1, .int (nI lv)), (2, .int low), (3, .int (nI hi)), (4, .int (nI c9)), (5, .int s5), (6, .int (nI e9.2.1)), (7, .int (dm e9.2.2.1)), (8, .int (nI k))]) hx hb d_M_stored_122 hl (by decide) rfl (fun ls hl => ?_)
                        refine lv_aload_n hx hb d_M_stored_124 rfl (lv_at hl 1 rfl) ?_
                        refine gf_M_7 (v := .ref (ad 1)) hx hb hT hown hK hP 0 rfl rfl d_M_stored_125 ?_
                        refine lv_sipush (v := nI 768) hx hb d_M_stored_128 (by decide) ?_
                        refine lv_iload hx hb d_M_stored_131 (lv_at hl 9 rfl) ?_
                        refine st_iadd hx hb d_M_stored_133 ?_
                        refine st_zald hx hb hK hP 1 1 rfl rfl (by omega) (by decide) d_M_stored_134 ?_
                        refine lv_if_eq hx hb d_M_stored_135 (tgt := 148) (by decide) (fun hc135 => ?_) (fun hc135 => ?_)
                        · skip
                          have hhe : sel lo f0 k = none := sel_n1 ((hf0 k (by omega)).1.mp hc135)
                          refine lv_iconst (v := nI 0) hx hb d_M_stored_148 (by decide) ?_
                          refine lv_istore (lv' := [(10, .int (nI 0)), (9, .int (nI 1)), (0, .ref h), (1, .int (nI lv)), (2, .int low), (3, .int (nI hi)), (4, .int (nI c9)), (5, .int s5), (6, .int (nI e9.2.1)), (7, .int (dm e9.2.2.1)), (8, .int (nI k))]) hx hb d_M_stored_149 hl (by decide) rfl (fun ls hl => ?_)
                          refine lv_iload hx hb d_M_stored_151 (lv_at hl 1 rfl) ?_
                          refine lv_iload hx hb d_M_stored_153 (lv_at hl 0 rfl) ?_
                          refine st_icmp_ne hx hb (by omega) (by omega) d_M_stored_155 (tgt := 194) (by decide) (fun hc155 => ?_) (fun hc155 => (by exfalso; first | exact hc155 | omega))
                          refine lv_iconst (v := nI 0) hx hb d_M_stored_194 (by decide) ?_
                          refine lv_istore (lv' := [(5, .int (nI 0)), (10, .int (nI 0)), (9, .int (nI 1)), (0, .ref h), (1, .int (nI lv)), (2, .int low), (3, .int (nI hi)), (4, .int (nI c9)), (6, .int (nI e9.2.1)), (7, .int (dm e9.2.2.1)), (8, .int (nI k))]) hx hb d_M_stored_195 hl (by decide) rfl (fun ls hl => ?_)
                          refine lv_iinc (k := 10) (v := nI (k + 1)) (lv' := [(8, .int (nI (k + 1))), (5, .int (nI 0)), (10, .int (nI 0)), (9, .int (nI 1)), (0, .ref h), (1, .int (nI lv)), (2, .int low), (3, .int (nI hi)), (4, .int (nI c9)), (6, .int (nI e9.2.1)), (7, .int (dm e9.2.2.1))]) hx hb d_M_stored_197 hl rfl (nI_add _ _) (by decide) rfl (fun ls hl => ?_)
                          refine lv_goto hx hb d_M_stored_200 (tgt := 82) (by decide) ?_
                          exact ih82 (k + 1) (nI 0) ls _ _ (by omega) (by omega) ((if_neg (fun q => (fun q => by first | (rw [hth, hhe] at q; cases q; done) | (rw [hth, hhe] at q; exact hc187 (Option.some.inj q))) (smE_s.mp q).2)).symm) (lv_sub hl [4, 5, 6, 7, 8, 1, 9, 10, 0] rfl) hP hD hS
                        · skip
                          refine lv_iload hx hb d_M_stored_138 (lv_at hl 9 rfl) ?_
                          refine lv_iload_n hx hb d_M_stored_140 rfl (lv_at hl 3 rfl) ?_
                          refine lv_icmp_le hx hb d_M_stored_141 (tgt := 148) (by decide) (fun hc141 => ?_) (fun hc141 => ?_)
                          · skip
                            have hhe : sel lo f0 k = none := sel_n2 ((le_low hlow (by omega) (by omega)).mp hc141)
                            refine lv_iconst (v := nI 0) hx hb d_M_stored_148 (by decide) ?_
                            refine lv_istore (lv' := [(10, .int (nI 0)), (9, .int (nI 1)), (0, .ref h), (1, .int (nI lv)), (2, .int low), (3, .int (nI hi)), (4, .int (nI c9)), (5, .int s5), (6, .int (nI e9.2.1)), (7, .int (dm e9.2.2.1)), (8, .int (nI k))]) hx hb d_M_stored_149 hl (by decide) rfl (fun ls hl => ?_)
                            refine lv_iload hx hb d_M_stored_151 (lv_at hl 1 rfl) ?_
                            refine lv_iload hx hb d_M_stored_153 (lv_at hl 0 rfl) ?_
                            refine st_icmp_ne hx hb (by omega) (by omega) d_M_stored_155 (tgt := 194) (by decide) (fun hc155 => ?_) (fun hc155 => (by exfalso; first | exact hc155 | omega))
                            refine lv_iconst (v := nI 0) hx hb d_M_stored_194 (by decide) ?_
                            refine lv_istore (lv' := [(5, .int (nI 0)), (10, .int (nI 0)), (9, .int (nI 1)), (0, .ref h), (1, .int (nI lv)), (2, .int low), (3, .int (nI hi)), (4, .int (nI c9)), (6, .int (nI e9.2.1)), (7, .int (dm e9.2.2.1)), (8, .int (nI k))]) hx hb d_M_stored_195 hl (by decide) rfl (fun ls hl => ?_)
                            refine lv_iinc (k := 10) (v := nI (k + 1)) (lv' := [(8, .int (nI (k + 1))), (5, .int (nI 0)), (10, .int (nI 0)), (9, .int (nI 1)), (0, .ref h), (1, .int (nI lv)), (2, .int low), (3, .int (nI hi)), (4, .int (nI c9)), (6, .int (nI e9.2.1)), (7, .int (dm e9.2.2.1))]) hx hb d_M_stored_197 hl rfl (nI_add _ _) (by decide) rfl (fun ls hl => ?_)
                            refine lv_goto hx hb d_M_stored_200 (tgt := 82) (by decide) ?_
                            exact ih82 (k + 1) (nI 0) ls _ _ (by omega) (by omega) ((if_neg (fun q => (fun q => by first | (rw [hth, hhe] at q; cases q; done) | (rw [hth, hhe] at q; exact hc187 (Option.some.inj q))) (smE_s.mp q).2)).symm) (lv_sub hl [4, 5, 6, 7, 8, 1, 9, 10, 0] rfl) hP hD hS
                          · skip
                            obtain ⟨v2, hv2⟩ := Option.ne_none_iff_exists'.mp (fun q => hc135 ((hf0 k (by omega)).1.mpr q))
                            have hhe : sel lo f0 k = some (g 2 (768 + k)) := sel_y (Nat.le_of_not_lt (fun q => hc141 ((le_low hlow (by omega) (by omega)).mpr q))) (by rw [(hf0 k (by omega)).2 v2 hv2]; exact hv2)
                            refine lv_iconst (v := nI 1) hx hb d_M_stored_144 (by decide) ?_
                            refine lv_goto hx hb d_M_stored_145 (tgt := 149) (by decide) ?_
                            refine lv_istore (lv' := [(10, .int (nI 1)), (9, .int (nI 1)), (0, .ref h), (1, .int (nI lv)), (2, .int low), (3, .int (nI hi)), (4, .int (nI c9)), (5, .int s5), (6, .int (nI e9.2.1)), (7, .int (dm e9.2.2.1)), (8, .int (nI k))]) hx hb d_M_stored_149 hl (by decide) rfl (fun ls hl => ?_)
                            refine lv_iload hx hb d_M_stored_151 (lv_at hl 1 rfl) ?_
                            refine lv_iload hx hb d_M_stored_153 (lv_at hl 0 rfl) ?_
                            refine st_icmp_ne hx hb (by omega) (by omega) d_M_stored_155 (tgt := 194) (by decide) (fun hc155 => (by exfalso; first | exact hc155 | omega)) (fun hc155 => ?_)
                            refine lv_iload hx hb d_M_stored_158 (lv_at hl 0 rfl) ?_
                            refine st_if_eq hx hb (by omega) d_M_stored_160 (tgt := 190) (by decide) (fun hc160 => (by exfalso; first | exact hc160 | omega)) (fun hc160 => ?_)
                            refine lv_aload_n hx hb d_M_stored_163 rfl (lv_at hl 2 rfl) ?_
                            refine gf_M_27 (v := .ref (ad 10)) hx hb hT hown hK hP 0 rfl rfl d_M_stored_164 ?_
                            refine lv_bipush (v := nI 48) hx hb d_M_stored_167 (by decide) ?_
                            refine lv_iload hx hb d_M_stored_169 (lv_at hl 8 rfl) ?_
                            refine st_imul hx hb d_M_stored_171 ?_
                            refine lv_iload hx hb d_M_stored_172 (lv_at hl 10 rfl) ?_
                            refine st_iadd hx hb d_M_stored_174 ?_
                            refine st_iald hx hb hK hP 6 0 rfl rfl (by omega) (by decide) d_M_stored_175 ?_
                            refine lv_aload_n hx hb d_M_stored_176 rfl (lv_at hl 2 rfl) ?_
                            refine gf_M_13 (v := .ref (ad 2)) hx hb hT hown hK hP 0 rfl rfl d_M_stored_177 ?_
                            refine lv_sipush (v := nI 768) hx hb d_M_stored_180 (by decide) ?_
                            refine lv_iload hx hb d_M_stored_183 (lv_at hl 10 rfl) ?_
                            refine st_iadd hx hb d_M_stored_185 ?_
                            refine st_iald hx hb hK hP 2 0 rfl rfl (by omega) (by decide) d_M_stored_186 ?_
                            refine lv_icmp_ne hx hb d_M_stored_187 (tgt := 194) (by decide) (fun hc187 => ?_) (fun hc187 => ?_)
                            · skip
                              refine lv_iconst (v := nI 0) hx hb d_M_stored_194 (by decide) ?_
                              refine lv_istore (lv' := [(5, .int (nI 0)), (10, .int (nI 1)), (9, .int (nI 1)), (0, .ref h), (1, .int (nI lv)), (2, .int low), (3, .int (nI hi)), (4, .int (nI c9)), (6, .int (nI e9.2.1)), (7, .int (dm e9.2.2.1)), (8, .int (nI k))]) hx hb d_M_stored_195 hl (by decide) rfl (fun ls hl => ?_)
                              refine lv_iinc (k := 10) (v := nI (k + 1)) (lv' := [(8, .int (nI (k + 1))), (5, .int (nI 0)), (10, .int (nI 1)), (9, .int (nI 1)), (0, .ref h), (1, .int (nI lv)), (2, .int low), (3, .int (nI hi)), (4, .int (nI c9)), (6, .int (nI e9.2.1)), (7, .int (dm e9.2.2.1))]) hx hb d_M_stored_197 hl rfl (nI_add _ _) (by decide) rfl (fun ls hl => ?_)
                              refine lv_goto hx hb d_M_stored_200 (tgt := 82) (by decide) ?_
                              exact ih82 (k + 1) (nI 0) ls _ _ (by omega) (by omega) ((if_neg (fun q => (fun q => by first | (rw [hth, hhe] at q; cases q; done) | (rw [hth, hhe] at q; exact hc187 (Option.some.inj q))) (smE_s.mp q).2)).symm) (lv_sub hl [4, 5, 6, 7, 8, 1, 9, 10, 0] rfl) hP hD hS
                            · skip
                              refine lv_iconst (v := nI 1) hx hb d_M_stored_190 (by decide) ?_
                              refine lv_goto hx hb d_M_stored_191 (tgt := 195) (by decide) ?_
                              refine lv_istore (lv' := [(5, .int (nI 1)), (10, .int (nI 1)), (9, .int (nI 1)), (0, .ref h), (1, .int (nI lv)), (2, .int low), (3, .int (nI hi)), (4, .int (nI c9)), (6, .int (nI e9.2.1)), (7, .int (dm e9.2.2.1)), (8, .int (nI k))]) hx hb d_M_stored_195 hl (by decide) rfl (fun ls hl => ?_)
                              refine lv_iinc (k := 10) (v := nI (k + 1)) (lv' := [(8, .int (nI (k + 1))), (5, .int (nI 1)), (10, .int (nI 1)), (9, .int (nI 1)), (0, .ref h), (1, .int (nI lv)), (2, .int low), (3, .int (nI hi)), (4, .int (nI c9)), (6, .int (nI e9.2.1)), (7, .int (dm e9.2.2.1))]) hx hb d_M_stored_197 hl rfl (nI_add _ _) (by decide) rfl (fun ls hl => ?_)
                              refine lv_goto hx hb d_M_stored_200 (tgt := 82) (by decide) ?_
                              exact ih82 (k + 1) (nI 1) ls _ _ (by omega) (by omega) ((if_pos (smE_s.mpr ⟨hsm, by first | (rw [hth, hhe]; done) | (rw [hth, hhe, hc187]; done)⟩)).symm) (lv_sub hl [4, 5, 6, 7, 8, 1, 9, 10, 0] rfl) hP hD hS
            exact key82 _ 0 (nI 0) ls _ _ (Nat.lt_succ_self _) (by omega) ((if_neg (fun q => by first | exact hc23 q.1.1 | exact hc37 q.1.2)).symm) (lv_sub hl [4, 5, 6, 7, 8, 3, 2, 1, 0] rfl) hP hD hS
          · skip
            refine lv_iconst (v := nI 1) hx hb d_M_stored_40 (by decide) ?_
            refine lv_goto hx hb d_M_stored_41 (tgt := 45) (by decide) ?_
            refine lv_istore (lv' := [(5, .int (nI 1)), (0, .ref h), (1, .int (nI lv)), (2, .int low), (3, .int (nI hi)), (4, .int (nI c9))]) hx hb d_M_stored_45 hl (by decide) rfl (fun ls hl => ?_)
            refine lv_aload_n hx hb d_M_stored_47 rfl (lv_at hl 1 rfl) ?_
            refine gf_M_20 (v := .ref (ad 7)) hx hb hT hown hK hP 0 rfl rfl d_M_stored_48 ?_
            refine lv_iload hx hb d_M_stored_51 (lv_at hl 5 rfl) ?_
            refine st_iald hx hb hK hP 4 0 rfl rfl (by omega) (by decide) d_M_stored_53 ?_
            refine st_top (show g 7 c9 = nI (cw e9) from e7) ?_
            refine lv_iconst (v := nI 3) hx hb d_M_stored_54 (by decide) ?_
            refine lv_ishr hx hb d_M_stored_55 ?_
            refine lv_sipush (v := nI 511) hx hb d_M_stored_56 (by decide) ?_
            refine lv_iand hx hb d_M_stored_59 ?_
            refine st_top (show ((nI (cw e9)) >>> ((nI 3) &&& 31)) &&& (nI 511) = nI e9.2.1 from cw_2 b1 b2 b3 b4) ?_
            refine lv_istore (lv' := [(6, .int (nI e9.2.1)), (5, .int (nI 1)), (0, .ref h), (1, .int (nI lv)), (2, .int low), (3, .int (nI hi)), (4, .int (nI c9))]) hx hb d_M_stored_60 hl (by decide) rfl (fun ls hl => ?_)
            refine lv_aload_n hx hb d_M_stored_62 rfl (lv_at hl 2 rfl) ?_
            refine gf_M_20 (v := .ref (ad 7)) hx hb hT hown hK hP 0 rfl rfl d_M_stored_63 ?_
            refine lv_iload hx hb d_M_stored_66 (lv_at hl 6 rfl) ?_
            refine st_iald hx hb hK hP 4 0 rfl rfl (by omega) (by decide) d_M_stored_68 ?_
            refine st_top (show g 7 c9 = nI (cw e9) from e7) ?_
            refine lv_bipush (v := nI 12) hx hb d_M_stored_69 (by decide) ?_
            refine lv_ishr hx hb d_M_stored_71 ?_
            refine lv_bipush (v := nI 63) hx hb d_M_stored_72 (by decide) ?_
            refine lv_iand hx hb d_M_stored_74 ?_
            refine st_top (show ((nI (cw e9)) >>> ((nI 12) &&& 31)) &&& (nI 63) = nI e9.2.2.1 from cw_3 b1 b2 b3 b4) ?_
            refine lv_iconst (v := nI 1) hx hb d_M_stored_75 (by decide) ?_
            refine lv_isub hx hb d_M_stored_76 ?_
            refine lv_istore (lv' := [(7, .int ((nI e9.2.2.1) - (nI 1))), (6, .int (nI e9.2.1)), (5, .int (nI 1)), (0, .ref h), (1, .int (nI lv)), (2, .int low), (3, .int (nI hi)), (4, .int (nI c9))]) hx hb d_M_stored_77 hl (by decide) rfl (fun ls hl => ?_)
            refine lv_iconst (v := nI 0) hx hb d_M_stored_79 (by decide) ?_
            refine lv_istore (lv' := [(8, .int (nI 0)), (7, .int ((nI e9.2.2.1) - (nI 1))), (6, .int (nI e9.2.1)), (5, .int (nI 1)), (0, .ref h), (1, .int (nI lv)), (2, .int low), (3, .int (nI hi)), (4, .int (nI c9))]) hx hb d_M_stored_80 hl (by decide) rfl (fun ls hl => ?_)
            replace hl : lv_has ls 11 [(8, .int (nI 0)), (7, .int (dm e9.2.2.1)), (6, .int (nI e9.2.1)), (5, .int (nI 1)), (0, .ref h), (1, .int (nI lv)), (2, .int low), (3, .int (nI hi)), (4, .int (nI c9))] := hl
            have key82 : ∀ (n82 : Nat) (k : Nat) (s5 : Int32) (ls : Array Slot) (H : Heap) (locs : List Loc), hi + 1 - k < n82 → (k ≤ hi + 1) → (s5 = if smE fm f0 lv lo hi e9 k then nI 1 else nI 0) → lv_has ls 11 [(0, .ref h), (1, .int (nI lv)), (2, .int low), (3, .int (nI hi)), (4, .int (nI c9)), (5, .int s5), (6, .int (nI e9.2.1)), (7, .int (dm e9.2.2.1)), (8, .int (nI k))] → va_P D CC (wM tk h ad g la ++ tl) H → va_D A (wM tk h ad g la ++ tl) → va_S A s.heap H locs → W p l e ({ frames := 0, cells := 0, slots := 0, locals := 0 } : Room) s m args below meth c H locs 0 0 Q (F0 m 82 ls []) := by
              intro n82
              induction n82 with
              | zero => intro k s5 ls H locs hn; exact absurd hn (Nat.not_lt_zero _)
              | succ n82 ih82 =>
                intro k s5 ls H locs hn82 hk hs5 hl hP hD hS
                refine lv_iload hx hb d_M_stored_82 (lv_at hl 8 rfl) ?_
                refine lv_iload_n hx hb d_M_stored_84 rfl (lv_at hl 3 rfl) ?_
                refine st_icmp_gt hx hb (by omega) (by omega) d_M_stored_85 (tgt := 203) (by decide) (fun hc85 => ?_) (fun hc85 => ?_)
                · skip
                  have hke : k = hi + 1 := by omega
                  refine lv_iload hx hb d_M_stored_203 (lv_at hl 5 rfl) ?_
                  refine lv_if_eq hx hb d_M_stored_205 (tgt := 210) (by decide) (fun hc205 => ?_) (fun hc205 => ?_)
                  · skip
                    have hnsm : ¬ smE fm f0 lv lo hi e9 (hi + 1) := fun q => by rw [hs5, hke] at hc205; exact ifx.mp hc205 q
                    refine lv_iinc (k := 4) (v := nI (c9 + 1)) (lv' := [(4, .int (nI (c9 + 1))), (0, .ref h), (1, .int (nI lv)), (2, .int low), (3, .int (nI hi)), (5, .int s5), (6, .int (nI e9.2.1)), (7, .int (dm e9.2.2.1)), (8, .int (nI k))]) hx hb d_M_stored_210 hl rfl (nI_add _ _) (by decide) rfl (fun ls hl => ?_)
                    refine lv_goto hx hb d_M_stored_213 (tgt := 3) (by decide) ?_
                    exact ih3 (c9 + 1) ls _ _ (by omega) (by omega) (fun i e hi2 hie => by by_cases q : i = c9; (subst q; rw [he9] at hie; cases hie; exact hnsm); exact hno i e (by omega) hie) (lv_sub hl [1, 2, 3, 4, 0] rfl) hP hD hS
                  · skip
                    have hex : (∃ (i : Nat) (e : Nat × Nat × Nat × Nat), E[i]? = some e ∧ smE fm f0 lv lo hi e (hi + 1)) := ⟨c9, e9, he9, Classical.byContradiction (fun q => hc205 (by rw [hs5, hke]; exact ifx.mpr q))⟩
                    refine lv_iconst (v := nI 1) hx hb d_M_stored_208 (by decide) ?_
                    exact k_zret (v := nI 1) hQ hx hb hr hlk hK hP hD hS () rfl (by decide) ((if_pos hex).symm) d_M_stored_209
                · skip
                  refine lv_iload hx hb d_M_stored_88 (lv_at hl 5 rfl) ?_
                  refine lv_if_eq hx hb d_M_stored_90 (tgt := 203) (by decide) (fun hc90 => ?_) (fun hc90 => ?_)
                  · skip
                    have hnsm : ¬ smE fm f0 lv lo hi e9 (hi + 1) := fun q => by rw [hs5] at hc90; exact ifx.mp hc90 (smE_m q hk)
                    refine lv_iload hx hb d_M_stored_203 (lv_at hl 5 rfl) ?_
                    refine lv_if_eq hx hb d_M_stored_205 (tgt := 210) (by decide) (fun hc205 => ?_) (fun hc205 => absurd hc90 hc205)
                    refine lv_iinc (k := 4) (v := nI (c9 + 1)) (lv' := [(4, .int (nI (c9 + 1))), (0, .ref h), (1, .int (nI lv)), (2, .int low), (3, .int (nI hi)), (5, .int s5), (6, .int (nI e9.2.1)), (7, .int (dm e9.2.2.1)), (8, .int (nI k))]) hx hb d_M_stored_210 hl rfl (nI_add _ _) (by decide) rfl (fun ls hl => ?_)
                    refine lv_goto hx hb d_M_stored_213 (tgt := 3) (by decide) ?_
                    exact ih3 (c9 + 1) ls _ _ (by omega) (by omega) (fun i e hi2 hie => by by_cases q : i = c9; (subst q; rw [he9] at hie; cases hie; exact hnsm); exact hno i e (by omega) hie) (lv_sub hl [1, 2, 3, 4, 0] rfl) hP hD hS
                  · skip
                    have hsm : smE fm f0 lv lo hi e9 k := Classical.byContradiction (fun q => hc90 (by rw [hs5]; exact ifx.mpr q))
                    refine lv_aload_n hx hb d_M_stored_93 rfl (lv_at hl 0 rfl) ?_
                    refine gf_M_23 (v := .ref (ad 9)) hx hb hT hown hK hP 0 rfl rfl d_M_stored_94 ?_
                    refine lv_iload hx hb d_M_stored_97 (lv_at hl 6 rfl) ?_
                    refine st_lald hx hb hK hP 5 2 rfl rfl (by omega) (by decide) d_M_stored_99 ?_
                    refine lv_iload hx hb d_M_stored_100 (lv_at hl 8 rfl) ?_
                    refine lv_lshr (v := (la e9.2.1) >>> ((nI k).toInt64 &&& 63)) hx hb d_M_stored_102 rfl ?_
                    refine lv_lconst (v := 1) hx hb d_M_stored_103 (by decide) ?_
                    refine lv_land hx hb d_M_stored_104 ?_
                    refine lv_lconst (v := 1) hx hb d_M_stored_105 (by decide) ?_
                    refine W.lcmp hx hb d_M_stored_106 ?_
                    refine lv_if_ne hx hb d_M_stored_107 (tgt := 121) (by decide) (fun hc107 => ?_) (fun hc107 => ?_)
                    · skip
                      have hth : sel e9.2.2.1 (fm e9.2.1) k = none := sel_n1 (Classical.byContradiction (fun q => hc107 ((cmp_0 _ _).mpr ((hlaE k (by omega)).1.mpr q))))
                      refine lv_iconst (v := nI 0) hx hb d_M_stored_121 (by decide) ?_
                      refine lv_istore (lv' := [(9, .int (nI 0)), (0, .ref h), (1, .int (nI lv)), (2, .int low), (3, .int (nI hi)), (4, .int (nI c9)), (5, .int s5), (6, .int (nI e9.2.1)), (7, .int (dm e9.2.2.1)), (8, .int (nI k))]) hx hb d_M_stored_122 hl (by decide) rfl (fun ls hl => ?_)
                      refine lv_aload_n hx hb d_M_stored_124 rfl (lv_at hl 1 rfl) ?_
                      refine gf_M_7 (v := .ref (ad 1)) hx hb hT hown hK hP 0 rfl rfl d_M_stored_125 ?_
                      refine lv_sipush (v := nI 768) hx hb d_M_stored_128 (by decide) ?_
                      refine lv_iload hx hb d_M_stored_131 (lv_at hl 9 rfl) ?_
                      refine st_iadd hx hb d_M_stored_133 ?_
                      refine st_zald hx hb hK hP 1 1 rfl rfl (by omega) (by decide) d_M_stored_134 ?_
                      refine lv_if_eq hx hb d_M_stored_135 (tgt := 148) (by decide) (fun hc135 => ?_) (fun hc135 => ?_)
                      · skip
                        have hhe : sel lo f0 k = none := sel_n1 ((hf0 k (by omega)).1.mp hc135)
                        refine lv_iconst (v := nI 0) hx hb d_M_stored_148 (by decide) ?_
                        refine lv_istore (lv' := [(10, .int (nI 0)), (9, .int (nI 0)), (0, .ref h), (1, .int (nI lv)), (2, .int low), (3, .int (nI hi)), (4, .int (nI c9)), (5, .int s5), (6, .int (nI e9.2.1)), (7, .int (dm e9.2.2.1)), (8, .int (nI k))]) hx hb d_M_stored_149 hl (by decide) rfl (fun ls hl => ?_)
                        refine lv_iload hx hb d_M_stored_151 (lv_at hl 1 rfl) ?_
                        refine lv_iload hx hb d_M_stored_153 (lv_at hl 0 rfl) ?_
                        refine st_icmp_ne hx hb (by omega) (by omega) d_M_stored_155 (tgt := 194) (by decide) (fun hc155 => (by exfalso; first | exact hc155 | omega)) (fun hc155 => ?_)
                        refine lv_iload hx hb d_M_stored_158 (lv_at hl 0 rfl) ?_
                        refine st_if_eq hx hb (by omega) d_M_stored_160 (tgt := 190) (by decide) (fun hc160 => ?_) (fun hc160 => (by exfalso; first | exact hc160 | omega))
                        refine lv_iconst (v := nI 1) hx hb d_M_stored_190 (by decide) ?_
                        refine lv_goto hx hb d_M_stored_191 (tgt := 195) (by decide) ?_
                        refine lv_istore (lv' := [(5, .int (nI 1)), (10, .int (nI 0)), (9, .int (nI 0)), (0, .ref h), (1, .int (nI lv)), (2, .int low), (3, .int (nI hi)), (4, .int (nI c9)), (6, .int (nI e9.2.1)), (7, .int (dm e9.2.2.1)), (8, .int (nI k))]) hx hb d_M_stored_195 hl (by decide) rfl (fun ls hl => ?_)
                        refine lv_iinc (k := 10) (v := nI (k + 1)) (lv' := [(8, .int (nI (k + 1))), (5, .int (nI 1)), (10, .int (nI 0)), (9, .int (nI 0)), (0, .ref h), (1, .int (nI lv)), (2, .int low), (3, .int (nI hi)), (4, .int (nI c9)), (6, .int (nI e9.2.1)), (7, .int (dm e9.2.2.1))]) hx hb d_M_stored_197 hl rfl (nI_add _ _) (by decide) rfl (fun ls hl => ?_)
                        refine lv_goto hx hb d_M_stored_200 (tgt := 82) (by decide) ?_
                        exact ih82 (k + 1) (nI 1) ls _ _ (by omega) (by omega) ((if_pos (smE_s.mpr ⟨hsm, by first | (rw [hth, hhe]; done) | (rw [hth, hhe, hc187]; done)⟩)).symm) (lv_sub hl [4, 5, 6, 7, 8, 1, 9, 10, 0] rfl) hP hD hS
                      · skip
                        refine lv_iload hx hb d_M_stored_138 (lv_at hl 9 rfl) ?_
                        refine lv_iload_n hx hb d_M_stored_140 rfl (lv_at hl 3 rfl) ?_
                        refine lv_icmp_le hx hb d_M_stored_141 (tgt := 148) (by decide) (fun hc141 => ?_) (fun hc141 => ?_)
                        · skip
                          have hhe : sel lo f0 k = none := sel_n2 ((le_low hlow (by omega) (by omega)).mp hc141)
                          refine lv_iconst (v := nI 0) hx hb d_M_stored_148 (by decide) ?_
                          refine lv_istore (lv' := [(10, .int (nI 0)), (9, .int (nI 0)), (0, .ref h), (1, .int (nI lv)), (2, .int low), (3, .int (nI hi)), (4, .int (nI c9)), (5, .int s5), (6, .int (nI e9.2.1)), (7, .int (dm e9.2.2.1)), (8, .int (nI k))]) hx hb d_M_stored_149 hl (by decide) rfl (fun ls hl => ?_)
                          refine lv_iload hx hb d_M_stored_151 (lv_at hl 1 rfl) ?_
                          refine lv_iload hx hb d_M_stored_153 (lv_at hl 0 rfl) ?_
                          refine st_icmp_ne hx hb (by omega) (by omega) d_M_stored_155 (tgt := 194) (by decide) (fun hc155 => (by exfalso; first | exact hc155 | omega)) (fun hc155 => ?_)
                          refine lv_iload hx hb d_M_stored_158 (lv_at hl 0 rfl) ?_
                          refine st_if_eq hx hb (by omega) d_M_stored_160 (tgt := 190) (by decide) (fun hc160 => ?_) (fun hc160 => (by exfalso; first | exact hc160 | omega))
                          refine lv_iconst (v := nI 1) hx hb d_M_stored_190 (by decide) ?_
                          refine lv_goto hx hb d_M_stored_191 (tgt := 195) (by decide) ?_
                          refine lv_istore (lv' := [(5, .int (nI 1)), (10, .int (nI 0)), (9, .int (nI 0)), (0, .ref h), (1, .int (nI lv)), (2, .int low), (3, .int (nI hi)), (4, .int (nI c9)), (6, .int (nI e9.2.1)), (7, .int (dm e9.2.2.1)), (8, .int (nI k))]) hx hb d_M_stored_195 hl (by decide) rfl (fun ls hl => ?_)
                          refine lv_iinc (k := 10) (v := nI (k + 1)) (lv' := [(8, .int (nI (k + 1))), (5, .int (nI 1)), (10, .int (nI 0)), (9, .int (nI 0)), (0, .ref h), (1, .int (nI lv)), (2, .int low), (3, .int (nI hi)), (4, .int (nI c9)), (6, .int (nI e9.2.1)), (7, .int (dm e9.2.2.1))]) hx hb d_M_stored_197 hl rfl (nI_add _ _) (by decide) rfl (fun ls hl => ?_)
                          refine lv_goto hx hb d_M_stored_200 (tgt := 82) (by decide) ?_
                          exact ih82 (k + 1) (nI 1) ls _ _ (by omega) (by omega) ((if_pos (smE_s.mpr ⟨hsm, by first | (rw [hth, hhe]; done) | (rw [hth, hhe, hc187]; done)⟩)).symm) (lv_sub hl [4, 5, 6, 7, 8, 1, 9, 10, 0] rfl) hP hD hS
                        · skip
                          obtain ⟨v2, hv2⟩ := Option.ne_none_iff_exists'.mp (fun q => hc135 ((hf0 k (by omega)).1.mpr q))
                          have hhe : sel lo f0 k = some (g 2 (768 + k)) := sel_y (Nat.le_of_not_lt (fun q => hc141 ((le_low hlow (by omega) (by omega)).mpr q))) (by rw [(hf0 k (by omega)).2 v2 hv2]; exact hv2)
                          refine lv_iconst (v := nI 1) hx hb d_M_stored_144 (by decide) ?_
                          refine lv_goto hx hb d_M_stored_145 (tgt := 149) (by decide) ?_
                          refine lv_istore (lv' := [(10, .int (nI 1)), (9, .int (nI 0)), (0, .ref h), (1, .int (nI lv)), (2, .int low), (3, .int (nI hi)), (4, .int (nI c9)), (5, .int s5), (6, .int (nI e9.2.1)), (7, .int (dm e9.2.2.1)), (8, .int (nI k))]) hx hb d_M_stored_149 hl (by decide) rfl (fun ls hl => ?_)
                          refine lv_iload hx hb d_M_stored_151 (lv_at hl 1 rfl) ?_
                          refine lv_iload hx hb d_M_stored_153 (lv_at hl 0 rfl) ?_
                          refine st_icmp_ne hx hb (by omega) (by omega) d_M_stored_155 (tgt := 194) (by decide) (fun hc155 => ?_) (fun hc155 => (by exfalso; first | exact hc155 | omega))
                          refine lv_iconst (v := nI 0) hx hb d_M_stored_194 (by decide) ?_
                          refine lv_istore (lv' := [(5, .int (nI 0)), (10, .int (nI 1)), (9, .int (nI 0)), (0, .ref h), (1, .int (nI lv)), (2, .int low), (3, .int (nI hi)), (4, .int (nI c9)), (6, .int (nI e9.2.1)), (7, .int (dm e9.2.2.1)), (8, .int (nI k))]) hx hb d_M_stored_195 hl (by decide) rfl (fun ls hl => ?_)
                          refine lv_iinc (k := 10) (v := nI (k + 1)) (lv' := [(8, .int (nI (k + 1))), (5, .int (nI 0)), (10, .int (nI 1)), (9, .int (nI 0)), (0, .ref h), (1, .int (nI lv)), (2, .int low), (3, .int (nI hi)), (4, .int (nI c9)), (6, .int (nI e9.2.1)), (7, .int (dm e9.2.2.1))]) hx hb d_M_stored_197 hl rfl (nI_add _ _) (by decide) rfl (fun ls hl => ?_)
                          refine lv_goto hx hb d_M_stored_200 (tgt := 82) (by decide) ?_
                          exact ih82 (k + 1) (nI 0) ls _ _ (by omega) (by omega) ((if_neg (fun q => (fun q => by first | (rw [hth, hhe] at q; cases q; done) | (rw [hth, hhe] at q; exact hc187 (Option.some.inj q))) (smE_s.mp q).2)).symm) (lv_sub hl [4, 5, 6, 7, 8, 1, 9, 10, 0] rfl) hP hD hS
                    · skip
                      refine lv_iload hx hb d_M_stored_110 (lv_at hl 8 rfl) ?_
                      refine lv_iload hx hb d_M_stored_112 (lv_at hl 7 rfl) ?_
                      refine lv_icmp_le hx hb d_M_stored_114 (tgt := 121) (by decide) (fun hc114 => ?_) (fun hc114 => ?_)
                      · skip
                        have hth : sel e9.2.2.1 (fm e9.2.1) k = none := sel_n2 ((le_low (dm_add _) (by omega) (by omega)).mp hc114)
                        refine lv_iconst (v := nI 0) hx hb d_M_stored_121 (by decide) ?_
                        refine lv_istore (lv' := [(9, .int (nI 0)), (0, .ref h), (1, .int (nI lv)), (2, .int low), (3, .int (nI hi)), (4, .int (nI c9)), (5, .int s5), (6, .int (nI e9.2.1)), (7, .int (dm e9.2.2.1)), (8, .int (nI k))]) hx hb d_M_stored_122 hl (by decide) rfl (fun ls hl => ?_)
                        refine lv_aload_n hx hb d_M_stored_124 rfl (lv_at hl 1 rfl) ?_
                        refine gf_M_7 (v := .ref (ad 1)) hx hb hT hown hK hP 0 rfl rfl d_M_stored_125 ?_
                        refine lv_sipush (v := nI 768) hx hb d_M_stored_128 (by decide) ?_
                        refine lv_iload hx hb d_M_stored_131 (lv_at hl 9 rfl) ?_
                        refine st_iadd hx hb d_M_stored_133 ?_
                        refine st_zald hx hb hK hP 1 1 rfl rfl (by omega) (by decide) d_M_stored_134 ?_
                        refine lv_if_eq hx hb d_M_stored_135 (tgt := 148) (by decide) (fun hc135 => ?_) (fun hc135 => ?_)
                        · skip
                          have hhe : sel lo f0 k = none := sel_n1 ((hf0 k (by omega)).1.mp hc135)
                          refine lv_iconst (v := nI 0) hx hb d_M_stored_148 (by decide) ?_
                          refine lv_istore (lv' := [(10, .int (nI 0)), (9, .int (nI 0)), (0, .ref h), (1, .int (nI lv)), (2, .int low), (3, .int (nI hi)), (4, .int (nI c9)), (5, .int s5), (6, .int (nI e9.2.1)), (7, .int (dm e9.2.2.1)), (8, .int (nI k))]) hx hb d_M_stored_149 hl (by decide) rfl (fun ls hl => ?_)
                          refine lv_iload hx hb d_M_stored_151 (lv_at hl 1 rfl) ?_
                          refine lv_iload hx hb d_M_stored_153 (lv_at hl 0 rfl) ?_
                          refine st_icmp_ne hx hb (by omega) (by omega) d_M_stored_155 (tgt := 194) (by decide) (fun hc155 => (by exfalso; first | exact hc155 | omega)) (fun hc155 => ?_)
                          refine lv_iload hx hb d_M_stored_158 (lv_at hl 0 rfl) ?_
                          refine st_if_eq hx hb (by omega) d_M_stored_160 (tgt := 190) (by decide) (fun hc160 => ?_) (fun hc160 => (by exfalso; first | exact hc160 | omega))
                          refine lv_iconst (v := nI 1) hx hb d_M_stored_190 (by decide) ?_
                          refine lv_goto hx hb d_M_stored_191 (tgt := 195) (by decide) ?_
                          refine lv_istore (lv' := [(5, .int (nI 1)), (10, .int (nI 0)), (9, .int (nI 0)), (0, .ref h), (1, .int (nI lv)), (2, .int low), (3, .int (nI hi)), (4, .int (nI c9)), (6, .int (nI e9.2.1)), (7, .int (dm e9.2.2.1)), (8, .int (nI k))]) hx hb d_M_stored_195 hl (by decide) rfl (fun ls hl => ?_)
                          refine lv_iinc (k := 10) (v := nI (k + 1)) (lv' := [(8, .int (nI (k + 1))), (5, .int (nI 1)), (10, .int (nI 0)), (9, .int (nI 0)), (0, .ref h), (1, .int (nI lv)), (2, .int low), (3, .int (nI hi)), (4, .int (nI c9)), (6, .int (nI e9.2.1)), (7, .int (dm e9.2.2.1))]) hx hb d_M_stored_197 hl rfl (nI_add _ _) (by decide) rfl (fun ls hl => ?_)
                          refine lv_goto hx hb d_M_stored_200 (tgt := 82) (by decide) ?_
                          exact ih82 (k + 1) (nI 1) ls _ _ (by omega) (by omega) ((if_pos (smE_s.mpr ⟨hsm, by first | (rw [hth, hhe]; done) | (rw [hth, hhe, hc187]; done)⟩)).symm) (lv_sub hl [4, 5, 6, 7, 8, 1, 9, 10, 0] rfl) hP hD hS
                        · skip
                          refine lv_iload hx hb d_M_stored_138 (lv_at hl 9 rfl) ?_
                          refine lv_iload_n hx hb d_M_stored_140 rfl (lv_at hl 3 rfl) ?_
                          refine lv_icmp_le hx hb d_M_stored_141 (tgt := 148) (by decide) (fun hc141 => ?_) (fun hc141 => ?_)
                          · skip
                            have hhe : sel lo f0 k = none := sel_n2 ((le_low hlow (by omega) (by omega)).mp hc141)
                            refine lv_iconst (v := nI 0) hx hb d_M_stored_148 (by decide) ?_
                            refine lv_istore (lv' := [(10, .int (nI 0)), (9, .int (nI 0)), (0, .ref h), (1, .int (nI lv)), (2, .int low), (3, .int (nI hi)), (4, .int (nI c9)), (5, .int s5), (6, .int (nI e9.2.1)), (7, .int (dm e9.2.2.1)), (8, .int (nI k))]) hx hb d_M_stored_149 hl (by decide) rfl (fun ls hl => ?_)
                            refine lv_iload hx hb d_M_stored_151 (lv_at hl 1 rfl) ?_
                            refine lv_iload hx hb d_M_stored_153 (lv_at hl 0 rfl) ?_
                            refine st_icmp_ne hx hb (by omega) (by omega) d_M_stored_155 (tgt := 194) (by decide) (fun hc155 => (by exfalso; first | exact hc155 | omega)) (fun hc155 => ?_)
                            refine lv_iload hx hb d_M_stored_158 (lv_at hl 0 rfl) ?_
                            refine st_if_eq hx hb (by omega) d_M_stored_160 (tgt := 190) (by decide) (fun hc160 => ?_) (fun hc160 => (by exfalso; first | exact hc160 | omega))
                            refine lv_iconst (v := nI 1) hx hb d_M_stored_190 (by decide) ?_
                            refine lv_goto hx hb d_M_stored_191 (tgt := 195) (by decide) ?_
                            refine lv_istore (lv' := [(5, .int (nI 1)), (10, .int (nI 0)), (9, .int (nI 0)), (0, .ref h), (1, .int (nI lv)), (2, .int low), (3, .int (nI hi)), (4, .int (nI c9)), (6, .int (nI e9.2.1)), (7, .int (dm e9.2.2.1)), (8, .int (nI k))]) hx hb d_M_stored_195 hl (by decide) rfl (fun ls hl => ?_)
                            refine lv_iinc (k := 10) (v := nI (k + 1)) (lv' := [(8, .int (nI (k + 1))), (5, .int (nI 1)), (10, .int (nI 0)), (9, .int (nI 0)), (0, .ref h), (1, .int (nI lv)), (2, .int low), (3, .int (nI hi)), (4, .int (nI c9)), (6, .int (nI e9.2.1)), (7, .int (dm e9.2.2.1))]) hx hb d_M_stored_197 hl rfl (nI_add _ _) (by decide) rfl (fun ls hl => ?_)
                            refine lv_goto hx hb d_M_stored_200 (tgt := 82) (by decide) ?_
                            exact ih82 (k + 1) (nI 1) ls _ _ (by omega) (by omega) ((if_pos (smE_s.mpr ⟨hsm, by first | (rw [hth, hhe]; done) | (rw [hth, hhe, hc187]; done)⟩)).symm) (lv_sub hl [4, 5, 6, 7, 8, 1, 9, 10, 0] rfl) hP hD hS
                          · skip
                            obtain ⟨v2, hv2⟩ := Option.ne_none_iff_exists'.mp (fun q => hc135 ((hf0 k (by omega)).1.mpr q))
                            have hhe : sel lo f0 k = some (g 2 (768 + k)) := sel_y (Nat.le_of_not_lt (fun q => hc141 ((le_low hlow (by omega) (by omega)).mpr q))) (by rw [(hf0 k (by omega)).2 v2 hv2]; exact hv2)
                            refine lv_iconst (v := nI 1) hx hb d_M_stored_144 (by decide) ?_
                            refine lv_goto hx hb d_M_stored_145 (tgt := 149) (by decide) ?_
                            refine lv_istore (lv' := [(10, .int (nI 1)), (9, .int (nI 0)), (0, .ref h), (1, .int (nI lv)), (2, .int low), (3, .int (nI hi)), (4, .int (nI c9)), (5, .int s5), (6, .int (nI e9.2.1)), (7, .int (dm e9.2.2.1)), (8, .int (nI k))]) hx hb d_M_stored_149 hl (by decide) rfl (fun ls hl => ?_)
                            refine lv_iload hx hb d_M_stored_151 (lv_at hl 1 rfl) ?_
                            refine lv_iload hx hb d_M_stored_153 (lv_at hl 0 rfl) ?_
                            refine st_icmp_ne hx hb (by omega) (by omega) d_M_stored_155 (tgt := 194) (by decide) (fun hc155 => ?_) (fun hc155 => (by exfalso; first | exact hc155 | omega))
                            refine lv_iconst (v := nI 0) hx hb d_M_stored_194 (by decide) ?_
                            refine lv_istore (lv' := [(5, .int (nI 0)), (10, .int (nI 1)), (9, .int (nI 0)), (0, .ref h), (1, .int (nI lv)), (2, .int low), (3, .int (nI hi)), (4, .int (nI c9)), (6, .int (nI e9.2.1)), (7, .int (dm e9.2.2.1)), (8, .int (nI k))]) hx hb d_M_stored_195 hl (by decide) rfl (fun ls hl => ?_)
                            refine lv_iinc (k := 10) (v := nI (k + 1)) (lv' := [(8, .int (nI (k + 1))), (5, .int (nI 0)), (10, .int (nI 1)), (9, .int (nI 0)), (0, .ref h), (1, .int (nI lv)), (2, .int low), (3, .int (nI hi)), (4, .int (nI c9)), (6, .int (nI e9.2.1)), (7, .int (dm e9.2.2.1))]) hx hb d_M_stored_197 hl rfl (nI_add _ _) (by decide) rfl (fun ls hl => ?_)
                            refine lv_goto hx hb d_M_stored_200 (tgt := 82) (by decide) ?_
                            exact ih82 (k + 1) (nI 0) ls _ _ (by omega) (by omega) ((if_neg (fun q => (fun q => by first | (rw [hth, hhe] at q; cases q; done) | (rw [hth, hhe] at q; exact hc187 (Option.some.inj q))) (smE_s.mp q).2)).symm) (lv_sub hl [4, 5, 6, 7, 8, 1, 9, 10, 0] rfl) hP hD hS
                      · skip
                        obtain ⟨v1, hv1⟩ := Option.ne_none_iff_exists'.mp ((hlaE k (by omega)).1.mp ((cmp_0 _ _).mp hc107))
                        have hth : sel e9.2.2.1 (fm e9.2.1) k = some (g 10 (48 * e9.2.1 + k)) := sel_y (Nat.le_of_not_lt (fun q => hc114 ((le_low (dm_add _) (by omega) (by omega)).mpr q))) (by rw [(hlaE k (by omega)).2 v1 hv1]; exact hv1)
                        refine lv_iconst (v := nI 1) hx hb d_M_stored_117 (by decide) ?_
                        refine lv_goto hx hb d_M_stored_118 (tgt := 122) (by decide) ?_
                        refine lv_istore (lv' := [(9, .int (nI 1)), (0, .ref h), (1, .int (nI lv)), (2, .int low), (3, .int (nI hi)), (4, .int (nI c9)), (5, .int s5), (6, .int (nI e9.2.1)), (7, .int (dm e9.2.2.1)), (8, .int (nI k))]) hx hb d_M_stored_122 hl (by decide) rfl (fun ls hl => ?_)
                        refine lv_aload_n hx hb d_M_stored_124 rfl (lv_at hl 1 rfl) ?_
                        refine gf_M_7 (v := .ref (ad 1)) hx hb hT hown hK hP 0 rfl rfl d_M_stored_125 ?_
                        refine lv_sipush (v := nI 768) hx hb d_M_stored_128 (by decide) ?_
                        refine lv_iload hx hb d_M_stored_131 (lv_at hl 9 rfl) ?_
                        refine st_iadd hx hb d_M_stored_133 ?_
                        refine st_zald hx hb hK hP 1 1 rfl rfl (by omega) (by decide) d_M_stored_134 ?_
                        refine lv_if_eq hx hb d_M_stored_135 (tgt := 148) (by decide) (fun hc135 => ?_) (fun hc135 => ?_)
                        · skip
                          have hhe : sel lo f0 k = none := sel_n1 ((hf0 k (by omega)).1.mp hc135)
                          refine lv_iconst (v := nI 0) hx hb d_M_stored_148 (by decide) ?_
                          refine lv_istore (lv' := [(10, .int (nI 0)), (9, .int (nI 1)), (0, .ref h), (1, .int (nI lv)), (2, .int low), (3, .int (nI hi)), (4, .int (nI c9)), (5, .int s5), (6, .int (nI e9.2.1)), (7, .int (dm e9.2.2.1)), (8, .int (nI k))]) hx hb d_M_stored_149 hl (by decide) rfl (fun ls hl => ?_)
                          refine lv_iload hx hb d_M_stored_151 (lv_at hl 1 rfl) ?_
                          refine lv_iload hx hb d_M_stored_153 (lv_at hl 0 rfl) ?_
                          refine st_icmp_ne hx hb (by omega) (by omega) d_M_stored_155 (tgt := 194) (by decide) (fun hc155 => ?_) (fun hc155 => (by exfalso; first | exact hc155 | omega))
                          refine lv_iconst (v := nI 0) hx hb d_M_stored_194 (by decide) ?_
                          refine lv_istore (lv' := [(5, .int (nI 0)), (10, .int (nI 0)), (9, .int (nI 1)), (0, .ref h), (1, .int (nI lv)), (2, .int low), (3, .int (nI hi)), (4, .int (nI c9)), (6, .int (nI e9.2.1)), (7, .int (dm e9.2.2.1)), (8, .int (nI k))]) hx hb d_M_stored_195 hl (by decide) rfl (fun ls hl => ?_)
                          refine lv_iinc (k := 10) (v := nI (k + 1)) (lv' := [(8, .int (nI (k + 1))), (5, .int (nI 0)), (10, .int (nI 0)), (9, .int (nI 1)), (0, .ref h), (1, .int (nI lv)), (2, .int low), (3, .int (nI hi)), (4, .int (nI c9)), (6, .int (nI e9.2.1)), (7, .int (dm e9.2.2.1))]) hx hb d_M_stored_197 hl rfl (nI_add _ _) (by decide) rfl (fun ls hl => ?_)
                          refine lv_goto hx hb d_M_stored_200 (tgt := 82) (by decide) ?_
                          exact ih82 (k + 1) (nI 0) ls _ _ (by omega) (by omega) ((if_neg (fun q => (fun q => by first | (rw [hth, hhe] at q; cases q; done) | (rw [hth, hhe] at q; exact hc187 (Option.some.inj q))) (smE_s.mp q).2)).symm) (lv_sub hl [4, 5, 6, 7, 8, 1, 9, 10, 0] rfl) hP hD hS
                        · skip
                          refine lv_iload hx hb d_M_stored_138 (lv_at hl 9 rfl) ?_
                          refine lv_iload_n hx hb d_M_stored_140 rfl (lv_at hl 3 rfl) ?_
                          refine lv_icmp_le hx hb d_M_stored_141 (tgt := 148) (by decide) (fun hc141 => ?_) (fun hc141 => ?_)
                          · skip
                            have hhe : sel lo f0 k = none := sel_n2 ((le_low hlow (by omega) (by omega)).mp hc141)
                            refine lv_iconst (v := nI 0) hx hb d_M_stored_148 (by decide) ?_
                            refine lv_istore (lv' := [(10, .int (nI 0)), (9, .int (nI 1)), (0, .ref h), (1, .int (nI lv)), (2, .int low), (3, .int (nI hi)), (4, .int (nI c9)), (5, .int s5), (6, .int (nI e9.2.1)), (7, .int (dm e9.2.2.1)), (8, .int (nI k))]) hx hb d_M_stored_149 hl (by decide) rfl (fun ls hl => ?_)
                            refine lv_iload hx hb d_M_stored_151 (lv_at hl 1 rfl) ?_
                            refine lv_iload hx hb d_M_stored_153 (lv_at hl 0 rfl) ?_
                            refine st_icmp_ne hx hb (by omega) (by omega) d_M_stored_155 (tgt := 194) (by decide) (fun hc155 => ?_) (fun hc155 => (by exfalso; first | exact hc155 | omega))
                            refine lv_iconst (v := nI 0) hx hb d_M_stored_194 (by decide) ?_
                            refine lv_istore (lv' := [(5, .int (nI 0)), (10, .int (nI 0)), (9, .int (nI 1)), (0, .ref h), (1, .int (nI lv)), (2, .int low), (3, .int (nI hi)), (4, .int (nI c9)), (6, .int (nI e9.2.1)), (7, .int (dm e9.2.2.1)), (8, .int (nI k))]) hx hb d_M_stored_195 hl (by decide) rfl (fun ls hl => ?_)
                            refine lv_iinc (k := 10) (v := nI (k + 1)) (lv' := [(8, .int (nI (k + 1))), (5, .int (nI 0)), (10, .int (nI 0)), (9, .int (nI 1)), (0, .ref h), (1, .int (nI lv)), (2, .int low), (3, .int (nI hi)), (4, .int (nI c9)), (6, .int (nI e9.2.1)), (7, .int (dm e9.2.2.1))]) hx hb d_M_stored_197 hl rfl (nI_add _ _) (by decide) rfl (fun ls hl => ?_)
                            refine lv_goto hx hb d_M_stored_200 (tgt := 82) (by decide) ?_
                            exact ih82 (k + 1) (nI 0) ls _ _ (by omega) (by omega) ((if_neg (fun q => (fun q => by first | (rw [hth, hhe] at q; cases q; done) | (rw [hth, hhe] at q; exact hc187 (Option.some.inj q))) (smE_s.mp q).2)).symm) (lv_sub hl [4, 5, 6, 7, 8, 1, 9, 10, 0] rfl) hP hD hS
                          · skip
                            obtain ⟨v2, hv2⟩ := Option.ne_none_iff_exists'.mp (fun q => hc135 ((hf0 k (by omega)).1.mpr q))
                            have hhe : sel lo f0 k = some (g 2 (768 + k)) := sel_y (Nat.le_of_not_lt (fun q => hc141 ((le_low hlow (by omega) (by omega)).mpr q))) (by rw [(hf0 k (by omega)).2 v2 hv2]; exact hv2)
                            refine lv_iconst (v := nI 1) hx hb d_M_stored_144 (by decide) ?_
                            refine lv_goto hx hb d_M_stored_145 (tgt := 149) (by decide) ?_
                            refine lv_istore (lv' := [(10, .int (nI 1)), (9, .int (nI 1)), (0, .ref h), (1, .int (nI lv)), (2, .int low), (3, .int (nI hi)), (4, .int (nI c9)), (5, .int s5), (6, .int (nI e9.2.1)), (7, .int (dm e9.2.2.1)), (8, .int (nI k))]) hx hb d_M_stored_149 hl (by decide) rfl (fun ls hl => ?_)
                            refine lv_iload hx hb d_M_stored_151 (lv_at hl 1 rfl) ?_
                            refine lv_iload hx hb d_M_stored_153 (lv_at hl 0 rfl) ?_
                            refine st_icmp_ne hx hb (by omega) (by omega) d_M_stored_155 (tgt := 194) (by decide) (fun hc155 => (by exfalso; first | exact hc155 | omega)) (fun hc155 => ?_)
                            refine lv_iload hx hb d_M_stored_158 (lv_at hl 0 rfl) ?_
                            refine st_if_eq hx hb (by omega) d_M_stored_160 (tgt := 190) (by decide) (fun hc160 => (by exfalso; first | exact hc160 | omega)) (fun hc160 => ?_)
                            refine lv_aload_n hx hb d_M_stored_163 rfl (lv_at hl 2 rfl) ?_
                            refine gf_M_27 (v := .ref (ad 10)) hx hb hT hown hK hP 0 rfl rfl d_M_stored_164 ?_
                            refine lv_bipush (v := nI 48) hx hb d_M_stored_167 (by decide) ?_
                            refine lv_iload hx hb d_M_stored_169 (lv_at hl 8 rfl) ?_
                            refine st_imul hx hb d_M_stored_171 ?_
                            refine lv_iload hx hb d_M_stored_172 (lv_at hl 10 rfl) ?_
                            refine st_iadd hx hb d_M_stored_174 ?_
                            refine st_iald hx hb hK hP 6 0 rfl rfl (by omega) (by decide) d_M_stored_175 ?_
                            refine lv_aload_n hx hb d_M_stored_176 rfl (lv_at hl 2 rfl) ?_
                            refine gf_M_13 (v := .ref (ad 2)) hx hb hT hown hK hP 0 rfl rfl d_M_stored_177 ?_
                            refine lv_sipush (v := nI 768) hx hb d_M_stored_180 (by decide) ?_
                            refine lv_iload hx hb d_M_stored_183 (lv_at hl 10 rfl) ?_
                            refine st_iadd hx hb d_M_stored_185 ?_
                            refine st_iald hx hb hK hP 2 0 rfl rfl (by omega) (by decide) d_M_stored_186 ?_
                            refine lv_icmp_ne hx hb d_M_stored_187 (tgt := 194) (by decide) (fun hc187 => ?_) (fun hc187 => ?_)
                            · skip
                              refine lv_iconst (v := nI 0) hx hb d_M_stored_194 (by decide) ?_
                              refine lv_istore (lv' := [(5, .int (nI 0)), (10, .int (nI 1)), (9, .int (nI 1)), (0, .ref h), (1, .int (nI lv)), (2, .int low), (3, .int (nI hi)), (4, .int (nI c9)), (6, .int (nI e9.2.1)), (7, .int (dm e9.2.2.1)), (8, .int (nI k))]) hx hb d_M_stored_195 hl (by decide) rfl (fun ls hl => ?_)
                              refine lv_iinc (k := 10) (v := nI (k + 1)) (lv' := [(8, .int (nI (k + 1))), (5, .int (nI 0)), (10, .int (nI 1)), (9, .int (nI 1)), (0, .ref h), (1, .int (nI lv)), (2, .int low), (3, .int (nI hi)), (4, .int (nI c9)), (6, .int (nI e9.2.1)), (7, .int (dm e9.2.2.1))]) hx hb d_M_stored_197 hl rfl (nI_add _ _) (by decide) rfl (fun ls hl => ?_)
                              refine lv_goto hx hb d_M_stored_200 (tgt := 82) (by decide) ?_
                              exact ih82 (k + 1) (nI 0) ls _ _ (by omega) (by omega) ((if_neg (fun q => (fun q => by first | (rw [hth, hhe] at q; cases q; done) | (rw [hth, hhe] at q; exact hc187 (Option.some.inj q))) (smE_s.mp q).2)).symm) (lv_sub hl [4, 5, 6, 7, 8, 1, 9, 10, 0] rfl) hP hD hS
                            · skip
                              refine lv_iconst (v := nI 1) hx hb d_M_stored_190 (by decide) ?_
                              refine lv_goto hx hb d_M_stored_191 (tgt := 195) (by decide) ?_
                              refine lv_istore (lv' := [(5, .int (nI 1)), (10, .int (nI 1)), (9, .int (nI 1)), (0, .ref h), (1, .int (nI lv)), (2, .int low), (3, .int (nI hi)), (4, .int (nI c9)), (6, .int (nI e9.2.1)), (7, .int (dm e9.2.2.1)), (8, .int (nI k))]) hx hb d_M_stored_195 hl (by decide) rfl (fun ls hl => ?_)
                              refine lv_iinc (k := 10) (v := nI (k + 1)) (lv' := [(8, .int (nI (k + 1))), (5, .int (nI 1)), (10, .int (nI 1)), (9, .int (nI 1)), (0, .ref h), (1, .int (nI lv)), (2, .int low), (3, .int (nI hi)), (4, .int (nI c9)), (6, .int (nI e9.2.1)), (7, .int (dm e9.2.2.1))]) hx hb d_M_stored_197 hl rfl (nI_add _ _) (by decide) rfl (fun ls hl => ?_)
                              refine lv_goto hx hb d_M_stored_200 (tgt := 82) (by decide) ?_
                              exact ih82 (k + 1) (nI 1) ls _ _ (by omega) (by omega) ((if_pos (smE_s.mpr ⟨hsm, by first | (rw [hth, hhe]; done) | (rw [hth, hhe, hc187]; done)⟩)).symm) (lv_sub hl [4, 5, 6, 7, 8, 1, 9, 10, 0] rfl) hP hD hS
            exact key82 _ 0 (nI 1) ls _ _ (Nat.lt_succ_self _) (by omega) ((if_pos ⟨⟨hc23, hc37⟩, fun j hj => absurd hj (Nat.not_lt_zero _)⟩).symm) (lv_sub hl [4, 5, 6, 7, 8, 3, 2, 1, 0] rfl) hP hD hS
  exact key3 _ 0 ls _ _ (Nat.lt_succ_self _) (by omega) (fun i e hi2 _ => absurd hi2 (Nat.not_lt_zero _)) (lv_sub hl [1, 2, 3, 4, 0] rfl) hP hD hS
