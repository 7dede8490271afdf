def lkC (f : Nat → Int32) (t0 p : Nat) : Nat := rb f t0 (p + 1 + 5 * (rb f t0 p - 1))
def enC (f : Nat → Int32) (t0 p : Nat) : Nat := p + 1 + 5 * rb f t0 p
def cxC (f : Nat → Int32) (t0 p : Nat) : List kv_I := itC f t0 p (rb f t0 p)
def trC (f : Nat → Int32) (t0 key : Nat) : Nat → Nat → Option kv_I → Prop
  | 0, _, _ => True
  | c + 1, p, ov => ckC f t0 p ∧ (∀ o, ov = some o → hs c (cxC f t0 p) = o.2 ∧ lkC f t0 p = o.1) ∧ trC f t0 key c (enC f t0 p) (some (ch_ key (cxC f t0 p)))
def trEC (f : Nat → Int32) (t0 : Nat) : Nat → Nat → Nat
  | 0, p => p
  | c + 1, p => trEC f t0 c (enC f t0 p)
def trO (f : Nat → Int32) (t0 key : Nat) : Nat → Nat → Option kv_I → Option kv_I
  | 0, _, ov => ov
  | c + 1, p, _ => trO f t0 key c (enC f t0 p) (some (ch_ key (cxC f t0 p)))
def okT (f : Nat → Int32) (t0 p9 key : Nat) : Prop := rb f t0 p9 ≤ 6 ∧ trC f t0 key (rb f t0 p9) (p9 + 1) none
def rtC (f : Nat → Int32) (t0 p9 : Nat) : Int32 := if rb f t0 p9 = 0 then 0 else hs (rb f t0 p9 - 1) (cxC f t0 (p9 + 1))
def rtF (f : Nat → Int32) (t0 p9 key c p : Nat) (ov : Option kv_I) (u : Nat → Nat → Int32) : Prop := (c ≤ rb f t0 p9 ∧ rb f t0 p9 ≤ 6) ∧ vS u f t0 p ∧ p ≤ p9 + 1 + 241 * (rb f t0 p9 - c) ∧ u 12 0 = nI (rb f t0 p9) ∧ (okT f t0 p9 key ↔ trC f t0 key c p ov) ∧ (trEC f t0 (rb f t0 p9) (p9 + 1) = trEC f t0 c p ∧ trO f t0 key (rb f t0 p9) (p9 + 1) none = trO f t0 key c p ov) ∧ (c = rb f t0 p9 → ov = none ∧ u 13 0 = 0 ∧ p = p9 + 1) ∧ (c < rb f t0 p9 → u 13 0 = hs (rb f t0 p9 - 1) (cxC f t0 (p9 + 1)) ∧ ∃ o, ov = some o ∧ o.1 < 256 ∧ u 16 0 = nI o.1 ∧ u 17 0 = o.2)
theorem ch_256 {f : Nat → Int32} {t0 key p n : Nat} (hby : byF f t0) (hn : 1 ≤ n) : (ch_ key (itC f t0 p n)).1 < 256 := by
  have hne : itC f t0 p n ≠ [] := by
    intro q
    have := congrArg List.length q
    rw [itC_len] at this
    simp at this; omega
  have hm : ch_ key (itC f t0 p n) ∈ itC f t0 p n := by
    unfold ch_
    rw [List.getD_eq_getElem?_getD, List.getElem?_eq_getElem (pf_lt hne)]
    exact List.getElem_mem _
  unfold itC at hm
  obtain ⟨i, _, e⟩ := List.mem_map.mp hm
  unfold itC
  rw [← e]
  exact rb_lt hby _
theorem rt_step {f : Nat → Int32} {t0 p9 key c p : Nat} {ov : Option kv_I} {u w : Nat → Nat → Int32} (hby : byF f t0) (h : rtF f t0 p9 key (c + 1) p ov u) (hck : ckC f t0 p) (hv : vS w f t0 (enC f t0 p)) (h12 : w 12 0 = nI (rb f t0 p9)) (h16 : w 16 0 = nI (ch_ key (cxC f t0 p)).1) (h17 : w 17 0 = (ch_ key (cxC f t0 p)).2)
    (hr1 : c + 1 = rb f t0 p9 → w 13 0 = hs c (cxC f t0 p)) (hr2 : c + 1 < rb f t0 p9 → w 13 0 = u 13 0) (hov : ∀ o, ov = some o → hs c (cxC f t0 p) = o.2 ∧ lkC f t0 p = o.1) : rtF f t0 p9 key c (enC f t0 p) (some (ch_ key (cxC f t0 p))) w := by
  obtain ⟨a1, a2, a3, a4, a5, a6, a7, a8⟩ := h
  refine ⟨⟨by omega, a1.2⟩, hv, ?_, h12, ?_, ⟨a6.1.trans rfl, a6.2.trans rfl⟩, fun q => by omega, fun _ => ⟨?_, _, rfl, ch_256 hby hck.1.1, h16, h17⟩⟩
  · have := hck.1.2
    unfold enC
    omega
  · rw [a5]
    constructor
    · intro q; exact q.2.2
    · intro q; exact ⟨hck, hov, q⟩
  · by_cases e : c + 1 = rb f t0 p9
    · obtain ⟨_, _, e3⟩ := a7 e
      rw [hr1 e, e3, show rb f t0 p9 - 1 = c by omega]
    · rw [hr2 (by omega)]
      exact (a8 (by omega)).1
theorem rt_init {f : Nat → Int32} {t0 p9 key : Nat} {w : Nat → Nat → Int32} (h6 : rb f t0 p9 ≤ 6) (hv : vS w f t0 (p9 + 1)) (h12 : w 12 0 = nI (rb f t0 p9)) (h13 : w 13 0 = 0) : rtF f t0 p9 key (rb f t0 p9) (p9 + 1) none w :=
  ⟨⟨Nat.le_refl _, h6⟩, hv, by omega, h12, ⟨fun q => q.2, fun q => ⟨h6, q⟩⟩, ⟨rfl, rfl⟩, fun _ => ⟨rfl, h13, rfl⟩, fun q => by omega⟩
theorem rt_end {f : Nat → Int32} {t0 p9 key p : Nat} {ov : Option kv_I} {u : Nat → Nat → Int32} (h : rtF f t0 p9 key 0 p ov u) : okT f t0 p9 key ∧ vS u f t0 (trEC f t0 (rb f t0 p9) (p9 + 1)) ∧ u 12 0 = nI (rb f t0 p9) ∧ u 13 0 = rtC f t0 p9 ∧ ∀ o, trO f t0 key (rb f t0 p9) (p9 + 1) none = some o → u 16 0 = nI o.1 ∧ u 17 0 = o.2 := by
  obtain ⟨a1, a2, a3, a4, a5, a6, a7, a8⟩ := h
  refine ⟨a5.mpr trivial, by rw [a6.1]; exact a2, a4, ?_, fun o ho => ?_⟩
  · unfold rtC
    by_cases e : rb f t0 p9 = 0
    · rw [if_pos e]; exact (a7 e.symm).2.1
    · rw [if_neg e]; exact (a8 (by omega)).1
  · rw [a6.2] at ho
    by_cases e : 0 = rb f t0 p9
    · rw [(a7 e).1] at ho; cases ho
    · obtain ⟨_, o2, e1, _, e2, e3⟩ := a8 (by omega)
      rw [e1] at ho
      have : o2 = o := Option.some.inj ho
      subst this
      exact ⟨e2, e3⟩

set_option maxHeartbeats 4000000 in
set_option maxRecDepth 100000 in
theorem c_V_readTree (l : Launch) (D : va_G) (tk : Nat → ClassId) (sz : Nat) (ad : Nat → Nat) (g : Nat → Nat → Int32) (rr : Nat → Nat → Option Nat) (tl : va_W) (f : Nat → Int32) (t0 : Nat) (ht0 : t0 ≤ 400) (hby : byF f t0) (p9 key : Nat) (hp9 : p9 + 2000 < 2 ^ 20) (hkey : key < 48) (hv : vS g f t0 p9) : Met l y_V_readTree w_V_readTree ({ frames := 4, cells := 0, slots := 0, locals := 90 }) (va_Pc [.ref (ad 15), .int (nI key)] (k_pre D (TY tk) sz (wC tk ad g rr ++ tl))) (va_Qi (fun (r : Int32) (u : Nat → Nat → Int32) => frx [11, 12, 13, 14, 15, 16, 17] g u ∧ ((r = nI 1 ∧ okT f t0 p9 key ∧ vS u f t0 (trEC f t0 (rb f t0 p9) (p9 + 1)) ∧ u 12 0 = nI (rb f t0 p9) ∧ u 13 0 = rtC f t0 p9 ∧ ∀ o, trO f t0 key (rb f t0 p9) (p9 + 1) none = some o → u 16 0 = nI o.1 ∧ u 17 0 = o.2) ∨ (¬ okT f t0 p9 key ∧ r = nI 0))) (fun u t => k_at D (TY tk) (va_A (wC tk ad g rr ++ tl) sz) ((fun u => wC tk ad u rr ++ tl) u) t) (va_A (wC tk ad g rr ++ tl) sz)) 0 0 (va_A (wC tk ad g rr ++ tl) sz) := by
  refine k_ofW (fun A => va_Qi (fun (r : Int32) (u : Nat → Nat → Int32) => frx [11, 12, 13, 14, 15, 16, 17] g u ∧ ((r = nI 1 ∧ okT f t0 p9 key ∧ vS u f t0 (trEC f t0 (rb f t0 p9) (p9 + 1)) ∧ u 12 0 = nI (rb f t0 p9) ∧ u 13 0 = rtC f t0 p9 ∧ ∀ o, trO f t0 key (rb f t0 p9) (p9 + 1) none = some o → u 16 0 = nI o.1 ∧ u 17 0 = o.2) ∨ (¬ okT f t0 p9 key ∧ r = nI 0))) (fun u t => k_at D (TY tk) A ((fun u => wC tk ad u rr ++ tl) u) t) A) (by decide) (Nat.le_of_ble_eq_true rfl) ?_
  intro p e s m args below meth c Q A ls hQ hx hb hr hlk hin hts hT hown hml hnw hP hK hD hA hsz hl
  have hS : va_S A s.heap s.heap [] := va_S.rf
  have hc0 : 0 + 0 ≤ 0 ∧ 0 + 0 ≤ 0 := ⟨by decide, by decide⟩
  replace hl : lv_has ls 5 [(0, .ref (ad 15)), (1, .int (nI key))] := hl
  replace hP : va_P D CC (wC tk ad g rr ++ tl) s.heap := hP
  replace hK : va_K D CC (TY tk) s := hK
  refine lv_aload_n hx hb d_V_readTree_0 rfl (lv_at hl 0 rfl) ?_
  refine lv_aload_n hx hb d_V_readTree_1 rfl (lv_at hl 0 rfl) ?_
  refine k_calli (va_runV (As := []) (rest := [.ref (ad 15)]) ⟨hx, hb, hml, hown, hts⟩ (c_V_nextByte l D tk s.heap.size ad g rr tl f t0 ht0 hby p9 (by omega) hv) (cwV 0 hts (gV t_880 t_882 s_9 t_8 t_883) rfl rfl rfl (by decide +kernel) ⟨Nat.le_of_ble_eq_true rfl, Nat.le_of_ble_eq_true rfl⟩) (k_preV hP hK hD hnw 15 rfl rfl) rfl rfl hl.1 rfl (lv_room (Nat.le_of_ble_eq_true rfl)) d_V_readTree_2 hc0) hD hS hA (fun _ _ H locs hp2 hP hD hK hS => ?_)
  subst hp2
  have hrb1 := rb_lt hby p9
  replace hP : va_P D CC (wC tk ad (mup g 11 0 (nI (p9 + 1))) rr ++ tl) H := hP
  replace hD : va_D A (wC tk ad (mup g 11 0 (nI (p9 + 1))) rr ++ tl) := hD
  refine pf_V_25 hx hb hT hown hK hP hD hS 15 rfl (Nat.le_of_ble_eq_true rfl) d_V_readTree_5 (fun H locs hP hD hS => ?_)
  replace hP : va_P D CC (wC tk ad (mup (mup g 11 0 (nI (p9 + 1))) 12 0 (nI (rb f t0 p9))) rr ++ tl) H := Eq.mp (congrArg (fun w => va_P D CC w H) (sC_15_3 tk ad (mup g 11 0 (nI (p9 + 1))) rr tl (nI (rb f t0 p9)))) hP
  replace hD : va_D A (wC tk ad (mup (mup g 11 0 (nI (p9 + 1))) 12 0 (nI (rb f t0 p9))) rr ++ tl) := Eq.mp (congrArg (fun w => va_D A w) (sC_15_3 tk ad (mup g 11 0 (nI (p9 + 1))) rr tl (nI (rb f t0 p9)))) hD
  refine lv_aload_n hx hb d_V_readTree_8 rfl (lv_at hl 0 rfl) ?_
  refine lv_iconst (v := nI 0) hx hb d_V_readTree_9 (by decide) ?_
  refine pf_V_28 hx hb hT hown hK hP hD hS 15 rfl (Nat.le_of_ble_eq_true rfl) d_V_readTree_10 (fun H locs hP hD hS => ?_)
  replace hP : va_P D CC (wC tk ad (mup (mup (mup g 11 0 (nI (p9 + 1))) 12 0 (nI (rb f t0 p9))) 13 0 (nI 0)) rr ++ tl) H := Eq.mp (congrArg (fun w => va_P D CC w H) (sC_15_4 tk ad (mup (mup g 11 0 (nI (p9 + 1))) 12 0 (nI (rb f t0 p9))) rr tl (nI 0))) hP
  replace hD : va_D A (wC tk ad (mup (mup (mup g 11 0 (nI (p9 + 1))) 12 0 (nI (rb f t0 p9))) 13 0 (nI 0)) rr ++ tl) := Eq.mp (congrArg (fun w => va_D A w) (sC_15_4 tk ad (mup (mup g 11 0 (nI (p9 + 1))) 12 0 (nI (rb f t0 p9))) rr tl (nI 0))) hD
  refine lv_aload_n hx hb d_V_readTree_13 rfl (lv_at hl 0 rfl) ?_
  refine gf_V_25 (v := .int ((mup (mup (mup g 11 0 (nI (p9 + 1))) 12 0 (nI (rb f t0 p9))) 13 0 (nI 0)) 12 0)) hx hb hT hown hK hP 15 rfl rfl d_V_readTree_14 ?_
  refine st_top (show (mup (mup (mup g 11 0 (nI (p9 + 1))) 12 0 (nI (rb f t0 p9))) 13 0 (nI 0)) 12 0 = nI (rb f t0 p9) from (rd_ne (by decide) rd_eq)) ?_
  refine lv_bipush (v := nI 6) hx hb d_V_readTree_17 (by decide) ?_
  refine st_icmp_le hx hb (by omega) (by omega) d_V_readTree_19 (tgt := 24) (by decide) (fun hc19 => ?_) (fun hc19 => ?_)
  · skip
    refine lv_aload_n hx hb d_V_readTree_24 rfl (lv_at hl 0 rfl) ?_
    refine gf_V_25 (v := .int ((mup (mup (mup g 11 0 (nI (p9 + 1))) 12 0 (nI (rb f t0 p9))) 13 0 (nI 0)) 12 0)) hx hb hT hown hK hP 15 rfl rfl d_V_readTree_25 ?_
    refine st_top (show (mup (mup (mup g 11 0 (nI (p9 + 1))) 12 0 (nI (rb f t0 p9))) 13 0 (nI 0)) 12 0 = nI (rb f t0 p9) from (rd_ne (by decide) rd_eq)) ?_
    refine lv_iconst (v := nI 1) hx hb d_V_readTree_28 (by decide) ?_
    refine lv_isub hx hb d_V_readTree_29 ?_
    refine lv_istore_n (lv' := [(2, .int ((nI (rb f t0 p9)) - (nI 1))), (0, .ref (ad 15)), (1, .int (nI key))]) hx hb d_V_readTree_30 rfl hl (by decide) rfl (fun ls hl => ?_)
    have key31 : ∀ (n31 : Nat) (c0 : Nat) (p0 : Nat) (ov : Option kv_I) (u : Nat → Nat → Int32) (ls : Array Slot) (H : Heap) (locs : List Loc), c0 < n31 → (frx [11, 12, 13, 14, 15, 16, 17] g u) → (rtF f t0 p9 key c0 p0 ov u) → lv_has ls 5 [(0, .ref (ad 15)), (1, .int (nI key)), (2, .int (dm c0))] → va_P D CC (wC tk ad u rr ++ tl) H → va_D A (wC tk ad u rr ++ tl) → va_S A s.heap H locs → W p l e ({ frames := 4, cells := 0, slots := 0, locals := 90 } : Room) s m args below meth c H locs 0 0 Q (F0 m 31 ls []) := by
      intro n31
      induction n31 with
      | zero => intro c0 p0 ov u ls H locs hn; exact absurd hn (Nat.not_lt_zero _)
      | succ n31 ih31 =>
        intro c0 p0 ov u ls H locs hn31 hfr hF hl hP hD hS
        refine lv_iload_n hx hb d_V_readTree_31 rfl (lv_at hl 2 rfl) ?_
        refine lv_if_lt hx hb d_V_readTree_32 (tgt := 103) (by decide) (fun hc32 => ?_) (fun hc32 => ?_)
        · skip
          refine lv_iconst (v := nI 1) hx hb d_V_readTree_103 (by decide) ?_
          exact k_zret (v := nI 1) hQ hx hb hr hlk hK hP hD hS u rfl (by decide) (⟨hfr, Or.inl ⟨rfl, rt_end (by have e9 := dm_lt (by have := hF.1; have := rb_lt hby p9; omega) hc32; subst e9; exact hF)⟩⟩) d_V_readTree_104
        · skip
          have hc1 := dm_nlt hc32
          obtain ⟨c, rfl⟩ : ∃ c, c0 = c + 1 := ⟨c0 - 1, by omega⟩
          rw [show dm (c + 1) = nI c from dm_eq (by omega)] at hl
          have hcb := hF.1
          refine lv_aload_n hx hb d_V_readTree_35 rfl (lv_at hl 0 rfl) ?_
          refine gf_V_37 (v := .int (u 16 0)) hx hb hT hown hK hP 15 rfl rfl d_V_readTree_36 ?_
          refine lv_istore_n (lv' := [(3, .int (u 16 0)), (0, .ref (ad 15)), (1, .int (nI key)), (2, .int (nI c))]) hx hb d_V_readTree_39 rfl hl (by decide) rfl (fun ls hl => ?_)
          refine lv_aload_n hx hb d_V_readTree_40 rfl (lv_at hl 1 rfl) ?_
          refine gf_V_40 (v := .int (u 17 0)) hx hb hT hown hK hP 15 rfl rfl d_V_readTree_41 ?_
          refine lv_istore (lv' := [(4, .int (u 17 0)), (3, .int (u 16 0)), (0, .ref (ad 15)), (1, .int (nI key)), (2, .int (nI c))]) hx hb d_V_readTree_44 hl (by decide) rfl (fun ls hl => ?_)
          refine lv_aload_n hx hb d_V_readTree_46 rfl (lv_at hl 2 rfl) ?_
          refine lv_iload_n hx hb d_V_readTree_47 rfl (lv_at hl 4 rfl) ?_
          refine lv_iload_n hx hb d_V_readTree_48 rfl (lv_at hl 3 rfl) ?_
          refine k_calli (va_runV (As := [.int (nI c), .int (nI key)]) (rest := []) ⟨hx, hb, hml, hown, hts⟩ (c_V_readChunk l D tk H.size ad u rr tl f t0 ht0 hby p0 c key (by have := hF.2.2.1; omega) hkey hF.2.1) (cwV 2 hts (gV t_889 t_891 s_11 t_8 t_892) rfl rfl rfl (by decide +kernel) ⟨Nat.le_of_ble_eq_true rfl, Nat.le_of_ble_eq_true rfl⟩) (k_preV hP hK hD hnw 15 rfl rfl) rfl rfl hl.1 rfl (lv_room (Nat.le_of_ble_eq_true rfl)) d_V_readTree_49 hc0) hD hS hA (fun r49 w49 H locs ⟨hfw, how⟩ hP hD hK hS => ?_)
          have h12w : w49 12 0 = nI (rb f t0 p9) := by rw [hfw 12 (by decide)]; exact hF.2.2.2.1
          replace hP : va_P D CC (wC tk ad w49 rr ++ tl) H := hP
          replace hD : va_D A (wC tk ad w49 rr ++ tl) := hD
          refine lv_if_ne hx hb d_V_readTree_52 (tgt := 57) (by decide) (fun hc52 => ?_) (fun hc52 => ?_)
          · skip
            obtain ⟨hck, hr1, hvw, hrc⟩ := how.resolve_right (fun q => hc52 q.2)
            have hck1 := hck.1.1
            have hn0 : rb f t0 p0 ≠ 0 := by omega
            refine lv_iload_n hx hb d_V_readTree_57 rfl (lv_at hl 4 rfl) ?_
            refine lv_aload_n hx hb d_V_readTree_58 rfl (lv_at hl 2 rfl) ?_
            refine gf_V_25 (v := .int (w49 12 0)) hx hb hT hown hK hP 15 rfl rfl d_V_readTree_59 ?_
            refine st_top (show w49 12 0 = nI (rb f t0 p9) from h12w) ?_
            refine lv_iconst (v := nI 1) hx hb d_V_readTree_62 (by decide) ?_
            refine st_isub hx hb (by omega) d_V_readTree_63 ?_
            refine st_icmp_ne hx hb (by omega) (by omega) d_V_readTree_64 (tgt := 78) (by decide) (fun hc64 => ?_) (fun hc64 => ?_)
            · skip
              obtain ⟨_, o9, ho1, ho2, ho3, ho4⟩ := hF.2.2.2.2.2.2.2 (by omega)
              refine lv_aload_n hx hb d_V_readTree_78 rfl (lv_at hl 2 rfl) ?_
              refine gf_V_34 (v := .int (w49 15 0)) hx hb hT hown hK hP 15 rfl rfl d_V_readTree_79 ?_
              refine lv_iload_n hx hb d_V_readTree_82 rfl (lv_at hl 1 rfl) ?_
              refine lv_icmp_ne hx hb d_V_readTree_83 (tgt := 95) (by decide) (fun hc83 => ?_) (fun hc83 => ?_)
              · skip
                have hno : ¬ okT f t0 p9 key := fun q => hc83 (by have e9 := ((hF.2.2.2.2.1.mp q).2.1 o9 ho1).2; rw [hrc.2.1, if_neg hn0, ho3]; exact congrArg nI e9)
                refine lv_iconst (v := nI 0) hx hb d_V_readTree_95 (by decide) ?_
                exact k_zret (v := nI 0) hQ hx hb hr hlk hK hP hD hS w49 rfl (by decide) (⟨frx_t hfr (show frx [11, 12, 13, 14, 15, 16, 17] u w49 from (fun x h9 => hfw x (fun h8 => h9 (by revert h8; simp; omega)))) (fun x h9 => ⟨h9, h9⟩), Or.inr ⟨hno, rfl⟩⟩) d_V_readTree_96
              · skip
                refine lv_aload_n hx hb d_V_readTree_86 rfl (lv_at hl 2 rfl) ?_
                refine gf_V_31 (v := .int (w49 14 0)) hx hb hT hown hK hP 15 rfl rfl d_V_readTree_87 ?_
                refine lv_iload hx hb d_V_readTree_90 (lv_at hl 0 rfl) ?_
                refine lv_icmp_eq hx hb d_V_readTree_92 (tgt := 97) (by decide) (fun hc92 => ?_) (fun hc92 => ?_)
                · skip
                  refine lv_iinc (k := 4) (v := (nI c) + (-1)) (lv' := [(2, .int ((nI c) + (-1))), (4, .int (u 17 0)), (3, .int (u 16 0)), (0, .ref (ad 15)), (1, .int (nI key))]) hx hb d_V_readTree_97 hl rfl rfl (by decide) rfl (fun ls hl => ?_)
                  refine lv_goto hx hb d_V_readTree_100 (tgt := 31) (by decide) ?_
                  rw [dm_m1] at hl
                  exact ih31 c (enC f t0 p0) (some (ch_ key (cxC f t0 p0))) w49 ls _ _ (by omega) (frx_t hfr (show frx [11, 12, 13, 14, 15, 16, 17] u w49 from (fun x h9 => hfw x (fun h8 => h9 (by revert h8; simp; omega)))) (fun x h9 => ⟨h9, h9⟩)) (rt_step hby hF hck hvw h12w (hrc.2.2.2 hn0).1 (hrc.2.2.2 hn0).2 (fun q => absurd q (by omega)) (fun _ => congrFun (hfw 13 (by decide)) 0) (fun o ho => by rw [ho1] at ho; have e9 : o9 = o := Option.some.inj ho; subst e9; refine ⟨by rw [← ho4]; exact hrc.1.symm.trans hc92, ?_⟩; have e8 := hrc.2.1.symm.trans hc83; rw [if_neg hn0, ho3] at e8; exact (nI_eq (Nat.lt_trans (rb_lt hby _) (by decide)) (by omega)).mp e8)) (lv_sub hl [3, 4, 0] rfl) hP hD hS
                · skip
                  have hno : ¬ okT f t0 p9 key := fun q => hc92 (by have e9 := ((hF.2.2.2.2.1.mp q).2.1 o9 ho1).1; rw [hrc.1, ho4]; exact e9)
                  refine lv_iconst (v := nI 0) hx hb d_V_readTree_95 (by decide) ?_
                  exact k_zret (v := nI 0) hQ hx hb hr hlk hK hP hD hS w49 rfl (by decide) (⟨frx_t hfr (show frx [11, 12, 13, 14, 15, 16, 17] u w49 from (fun x h9 => hfw x (fun h8 => h9 (by revert h8; simp; omega)))) (fun x h9 => ⟨h9, h9⟩), Or.inr ⟨hno, rfl⟩⟩) d_V_readTree_96
            · skip
              refine lv_aload_n hx hb d_V_readTree_67 rfl (lv_at hl 2 rfl) ?_
              refine lv_aload_n hx hb d_V_readTree_68 rfl (lv_at hl 2 rfl) ?_
              refine gf_V_31 (v := .int (w49 14 0)) hx hb hT hown hK hP 15 rfl rfl d_V_readTree_69 ?_
              refine pf_V_28 hx hb hT hown hK hP hD hS 15 rfl (Nat.le_of_ble_eq_true rfl) d_V_readTree_72 (fun H locs hP hD hS => ?_)
              replace hP : va_P D CC (wC tk ad (mup w49 13 0 (w49 14 0)) rr ++ tl) H := Eq.mp (congrArg (fun w => va_P D CC w H) (sC_15_4 tk ad w49 rr tl (w49 14 0))) hP
              replace hD : va_D A (wC tk ad (mup w49 13 0 (w49 14 0)) rr ++ tl) := Eq.mp (congrArg (fun w => va_D A w) (sC_15_4 tk ad w49 rr tl (w49 14 0))) hD
              refine lv_goto hx hb d_V_readTree_75 (tgt := 97) (by decide) ?_
              refine lv_iinc (k := 4) (v := (nI c) + (-1)) (lv' := [(2, .int ((nI c) + (-1))), (4, .int (u 17 0)), (3, .int (u 16 0)), (0, .ref (ad 15)), (1, .int (nI key))]) hx hb d_V_readTree_97 hl rfl rfl (by decide) rfl (fun ls hl => ?_)
              refine lv_goto hx hb d_V_readTree_100 (tgt := 31) (by decide) ?_
              rw [dm_m1] at hl
              exact ih31 c (enC f t0 p0) (some (ch_ key (cxC f t0 p0))) (mup w49 13 0 (w49 14 0)) ls _ _ (by omega) (frx_t hfr (show frx [11, 12, 13, 14, 15, 16, 17] u (mup w49 13 0 (w49 14 0)) from frx_2 (fun x h9 => hfw x (fun h8 => h9 (by revert h8; simp; omega))) (by decide)) (fun x h9 => ⟨h9, h9⟩)) (rt_step hby hF hck (vS_o (by decide) hvw) (rd_ne (by decide) h12w) (rd_ne (by decide) (hrc.2.2.2 hn0).1) (rd_ne (by decide) (hrc.2.2.2 hn0).2) (fun _ => rd_eq.trans hrc.1) (fun q => absurd q (by omega)) (fun o ho => by rw [(hF.2.2.2.2.2.2.1 (by omega)).1] at ho; cases ho)) (lv_sub hl [3, 4, 0] rfl) hP hD hS
          · skip
            have hnk : ¬ ckC f t0 p0 := how.elim (fun q => by rw [q.2.1] at hc52; exact absurd hc52 (by decide)) (fun q => q.1)
            have hno : ¬ okT f t0 p9 key := fun q => hnk (hF.2.2.2.2.1.mp q).1
            refine lv_iconst (v := nI 0) hx hb d_V_readTree_55 (by decide) ?_
            exact k_zret (v := nI 0) hQ hx hb hr hlk hK hP hD hS w49 rfl (by decide) (⟨frx_t hfr (show frx [11, 12, 13, 14, 15, 16, 17] u w49 from (fun x h9 => hfw x (fun h8 => h9 (by revert h8; simp; omega)))) (fun x h9 => ⟨h9, h9⟩), Or.inr ⟨hno, rfl⟩⟩) d_V_readTree_56
    exact key31 _ (rb f t0 p9) (p9 + 1) none (mup (mup (mup g 11 0 (nI (p9 + 1))) 12 0 (nI (rb f t0 p9))) 13 0 (nI 0)) ls _ _ (Nat.lt_succ_self _) (frx_2 (frx_2 (frx_2 frx_r (by decide)) (by decide)) (by decide)) (rt_init hc19 (vS_o (by decide) (vS_o (by decide) (vS_p _ hv))) (rd_ne (by decide) rd_eq) rd_eq) (lv_sub hl [1, 2, 0] rfl) hP hD hS
  · skip
    refine lv_iconst (v := nI 0) hx hb d_V_readTree_22 (by decide) ?_
    exact k_zret (v := nI 0) hQ hx hb hr hlk hK hP hD hS (mup (mup (mup g 11 0 (nI (p9 + 1))) 12 0 (nI (rb f t0 p9))) 13 0 (nI 0)) rfl (by decide) (⟨(frx_2 (frx_2 (frx_2 frx_r (by decide)) (by decide)) (by decide)), Or.inr ⟨fun q => absurd q.1 (by omega), rfl⟩⟩) d_V_readTree_23

def clC (J : Nat → Int32) (x : Int32) : Nat → Nat → Nat → Int32 × Nat
  | 0, _, _ => (x, 0)
  | d + 1, v, q => if q < 2 then (x, 0) else if v < hf q then (jn (clC J x d v (hf q)).1 (J (clC J x d v (hf q)).2), (clC J x d v (hf q)).2 + 1) else (jn (J (clC J x d (v - hf q) (q - hf q)).2) (clC J x d (v - hf q) (q - hf q)).1, (clC J x d (v - hf q) (q - hf q)).2 + 1)
theorem clC_le (J : Nat → Int32) (x : Int32) : ∀ d v q, (clC J x d v q).2 ≤ d := by
  intro d
  induction d with
  | zero => intro v q; exact Nat.le_refl _
  | succ d ih =>
    intro v q
    rw [clC]
    split
    · exact Nat.zero_le _
    · split
      · exact Nat.succ_le_succ (ih _ _)
      · exact Nat.succ_le_succ (ih _ _)
theorem clC_z (J : Nat → Int32) (x : Int32) (k v : Nat) {q : Nat} (h : q < 2) : clC J x k v q = (x, 0) := by
  cases k with
  | zero => rfl
  | succ d => rw [clC, if_pos h]
theorem clC_l (J : Nat → Int32) (x : Int32) {k d : Nat} (hk : k = d + 1) {v q : Nat} (h : ¬ q < 2) (h2 : v < hf q) : clC J x k v q = (jn (clC J x d v (hf q)).1 (J (clC J x d v (hf q)).2), (clC J x d v (hf q)).2 + 1) := by
  subst hk
  rw [clC, if_neg h, if_pos h2]
theorem clC_r (J : Nat → Int32) (x : Int32) {k d : Nat} (hk : k = d + 1) {v q : Nat} (h : ¬ q < 2) (h2 : ¬ v < hf q) : clC J x k v q = (jn (J (clC J x d (v - hf q) (q - hf q)).2) (clC J x d (v - hf q) (q - hf q)).1, (clC J x d (v - hf q) (q - hf q)).2 + 1) := by
  subst hk
  rw [clC, if_neg h, if_neg h2]
/-- older, whole, ints read -/
def rpC (J : Nat → Int32) (one : Int32) : Nat → Nat → Nat → Nat → Int32 × Int32 × Nat
  | 0, p, _, _ => if p = 0 then (one, one, 0) else (J 0, J 0, 1)
  | d + 1, p, q, m => if q ≤ m then (if p = 0 then (one, one, 0) else (J 0, J 0, 1)) else if m ≤ hf q then ((rpC J one d p (hf q) m).1, jn (rpC J one d p (hf q) m).2.1 (J (rpC J one d p (hf q) m).2.2), (rpC J one d p (hf q) m).2.2 + 1) else (jn (J (rpC J one d (p + hf q) (q - hf q) (m - hf q)).2.2) (rpC J one d (p + hf q) (q - hf q) (m - hf q)).1, jn (J (rpC J one d (p + hf q) (q - hf q) (m - hf q)).2.2) (rpC J one d (p + hf q) (q - hf q) (m - hf q)).2.1, (rpC J one d (p + hf q) (q - hf q) (m - hf q)).2.2 + 1)
theorem rpC_le (J : Nat → Int32) (one : Int32) : ∀ d p q m, (rpC J one d p q m).2.2 ≤ d + 1 := by
  intro d
  induction d with
  | zero => intro p q m; rw [rpC]; split <;> simp
  | succ d ih =>
    intro p q m
    rw [rpC]
    split
    · split <;> simp
    · split
      · exact Nat.succ_le_succ (ih _ _ _)
      · exact Nat.succ_le_succ (ih _ _ _)
theorem rpC_0 (J : Nat → Int32) (one : Int32) (k : Nat) {p q m : Nat} (h : q ≤ m) (hp : p = 0) (hk : k = 0 ∨ q ≤ m) : rpC J one k p q m = (one, one, 0) := by
  cases k with
  | zero => rw [rpC, if_pos hp]
  | succ d => rw [rpC, if_pos h, if_pos hp]
theorem rpC_1 (J : Nat → Int32) (one : Int32) (k : Nat) {p q m : Nat} (h : q ≤ m) (hp : ¬ p = 0) : rpC J one k p q m = (J 0, J 0, 1) := by
  cases k with
  | zero => rw [rpC, if_neg hp]
  | succ d => rw [rpC, if_pos h, if_neg hp]
theorem rpC_l (J : Nat → Int32) (one : Int32) {k d : Nat} (hk : k = d + 1) {p q m : Nat} (h : ¬ q ≤ m) (h2 : m ≤ hf q) : rpC J one k p q m = ((rpC J one d p (hf q) m).1, jn (rpC J one d p (hf q) m).2.1 (J (rpC J one d p (hf q) m).2.2), (rpC J one d p (hf q) m).2.2 + 1) := by
  subst hk
  rw [rpC, if_neg h, if_pos h2]
theorem rpC_r (J : Nat → Int32) (one : Int32) {k d : Nat} (hk : k = d + 1) {p q m : Nat} (h : ¬ q ≤ m) (h2 : ¬ m ≤ hf q) : rpC J one k p q m = (jn (J (rpC J one d (p + hf q) (q - hf q) (m - hf q)).2.2) (rpC J one d (p + hf q) (q - hf q) (m - hf q)).1, jn (J (rpC J one d (p + hf q) (q - hf q) (m - hf q)).2.2) (rpC J one d (p + hf q) (q - hf q) (m - hf q)).2.1, (rpC J one d (p + hf q) (q - hf q) (m - hf q)).2.2 + 1) := by
  subst hk
  rw [rpC, if_neg h, if_neg h2]

set_option maxHeartbeats 4000000 in
set_option maxRecDepth 100000 in
theorem c_V_climb0 (l : Launch) (D : va_G) (tk : Nat → ClassId) (sz : Nat) (ad : Nat → Nat) (g : Nat → Nat → Int32) (rr : Nat → Nat → Option Nat) (tl : va_W) (f : Nat → Int32) (t0 : Nat) (ht0 : t0 ≤ 400) (hby : byF f t0) (p9 : Nat) (hp9 : p9 + 40 < 2 ^ 20) (x9 : Int32) (v9 q9 : Nat) (hq1 : 1 ≤ q9) (hq2 : q9 ≤ 1) (hvq : v9 < q9) (hv : vS g f t0 p9) : Met l y_V_climb w_V_climb ({ frames := 0, cells := 0, slots := 0, locals := 0 }) (va_Pc [.ref (ad 15), .int x9, .int (nI v9), .int (nI q9)] (k_pre D (TY tk) sz (wC tk ad g rr ++ tl))) (va_Qi (fun (r : Int32) (u : Nat → Nat → Int32) => r = (clC (fun k => ri f t0 (p9 + 4 * k)) x9 0 v9 q9).1 ∧ (vS u f t0 (p9 + 4 * (clC (fun k => ri f t0 (p9 + 4 * k)) x9 0 v9 q9).2) ∧ frx [11] g u)) (fun u t => k_at D (TY tk) (va_A (wC tk ad g rr ++ tl) sz) ((fun u => wC tk ad u rr ++ tl) u) t) (va_A (wC tk ad g rr ++ tl) sz)) 0 0 (va_A (wC tk ad g rr ++ tl) sz) := by
  refine k_ofW (fun A => va_Qi (fun (r : Int32) (u : Nat → Nat → Int32) => r = (clC (fun k => ri f t0 (p9 + 4 * k)) x9 0 v9 q9).1 ∧ (vS u f t0 (p9 + 4 * (clC (fun k => ri f t0 (p9 + 4 * k)) x9 0 v9 q9).2) ∧ frx [11] g u)) (fun u t => k_at D (TY tk) A ((fun u => wC tk ad u rr ++ tl) u) t) A) (by decide) (Nat.le_of_ble_eq_true rfl) ?_
  intro p e s m args below meth c Q A ls hQ hx hb hr hlk hin hts hT hown hml hnw hP hK hD hA hsz hl
  have hS : va_S A s.heap s.heap [] := va_S.rf
  have hc0 : 0 + 0 ≤ 0 ∧ 0 + 0 ≤ 0 := ⟨by decide, by decide⟩
  replace hl : lv_has ls 6 [(0, .ref (ad 15)), (1, .int x9), (2, .int (nI v9)), (3, .int (nI q9))] := hl
  replace hP : va_P D CC (wC tk ad g rr ++ tl) s.heap := hP
  replace hK : va_K D CC (TY tk) s := hK
  refine lv_iload_n hx hb d_V_climb_0 rfl (lv_at hl 3 rfl) ?_
  refine lv_iconst (v := nI 2) hx hb d_V_climb_1 (by decide) ?_
  refine st_icmp_ge hx hb (by omega) (by omega) d_V_climb_2 (tgt := 7) (by decide) (fun hc2 => absurd hc2 (by omega)) (fun hc2 => ?_)
  refine lv_iload_n hx hb d_V_climb_5 rfl (lv_at hl 1 rfl) ?_
  exact k_iret (v := x9) hQ hx hb hr hlk hK hP hD hS g rfl (⟨by rw [clC_z (fun k => ri f t0 (p9 + 4 * k)) x9 0 v9 (show q9 < 2 by omega)], by rw [clC_z (fun k => ri f t0 (p9 + 4 * k)) x9 0 v9 (show q9 < 2 by omega)]; exact ⟨hv, frx_r⟩⟩) d_V_climb_6

set_option maxHeartbeats 4000000 in
set_option maxRecDepth 100000 in
theorem c_V_climb1 (l : Launch) (D : va_G) (tk : Nat → ClassId) (sz : Nat) (ad : Nat → Nat) (g : Nat → Nat → Int32) (rr : Nat → Nat → Option Nat) (tl : va_W) (f : Nat → Int32) (t0 : Nat) (ht0 : t0 ≤ 400) (hby : byF f t0) (p9 : Nat) (hp9 : p9 + 40 < 2 ^ 20) (x9 : Int32) (v9 q9 : Nat) (hq1 : 1 ≤ q9) (hq2 : q9 ≤ 2) (hvq : v9 < q9) (hv : vS g f t0 p9) : Met l y_V_climb w_V_climb ({ frames := 3, cells := 0, slots := 0, locals := 64 }) (va_Pc [.ref (ad 15), .int x9, .int (nI v9), .int (nI q9)] (k_pre D (TY tk) sz (wC tk ad g rr ++ tl))) (va_Qi (fun (r : Int32) (u : Nat → Nat → Int32) => r = (clC (fun k => ri f t0 (p9 + 4 * k)) x9 1 v9 q9).1 ∧ (vS u f t0 (p9 + 4 * (clC (fun k => ri f t0 (p9 + 4 * k)) x9 1 v9 q9).2) ∧ frx [11] g u)) (fun u t => k_at D (TY tk) (va_A (wC tk ad g rr ++ tl) sz) ((fun u => wC tk ad u rr ++ tl) u) t) (va_A (wC tk ad g rr ++ tl) sz)) 0 0 (va_A (wC tk ad g rr ++ tl) sz) := by
  refine k_ofW (fun A => va_Qi (fun (r : Int32) (u : Nat → Nat → Int32) => r = (clC (fun k => ri f t0 (p9 + 4 * k)) x9 1 v9 q9).1 ∧ (vS u f t0 (p9 + 4 * (clC (fun k => ri f t0 (p9 + 4 * k)) x9 1 v9 q9).2) ∧ frx [11] g u)) (fun u t => k_at D (TY tk) A ((fun u => wC tk ad u rr ++ tl) u) t) A) (by decide) (Nat.le_of_ble_eq_true rfl) ?_
  intro p e s m args below meth c Q A ls hQ hx hb hr hlk hin hts hT hown hml hnw hP hK hD hA hsz hl
  have hS : va_S A s.heap s.heap [] := va_S.rf
  have hc0 : 0 + 0 ≤ 0 ∧ 0 + 0 ≤ 0 := ⟨by decide, by decide⟩
  replace hl : lv_has ls 6 [(0, .ref (ad 15)), (1, .int x9), (2, .int (nI v9)), (3, .int (nI q9))] := hl
  replace hP : va_P D CC (wC tk ad g rr ++ tl) s.heap := hP
  replace hK : va_K D CC (TY tk) s := hK
  refine lv_iload_n hx hb d_V_climb_0 rfl (lv_at hl 3 rfl) ?_
  refine lv_iconst (v := nI 2) hx hb d_V_climb_1 (by decide) ?_
  refine st_icmp_ge hx hb (by omega) (by omega) d_V_climb_2 (tgt := 7) (by decide) (fun hc2 => ?_) (fun hc2 => ?_)
  · skip
    refine lv_iload_n hx hb d_V_climb_7 rfl (lv_at hl 3 rfl) ?_
    refine k_calli (va_runSN (As := [.int (nI q9)]) (rest := []) ⟨hx, hb, hml, hown, hts⟩ (c_K_half l D tk s.heap.size q9 (by omega) (wC tk ad g rr ++ tl)) ⟨(va_cnB 1 hts (gB t_810) rfl rfl rfl (hnw.1 _ _ _ _ n_903) (hT _ t_1) (by decide +kernel) ⟨Nat.le_of_ble_eq_true rfl, Nat.le_of_ble_eq_true rfl⟩), hT _ t_809, trivial⟩ (k_preS hP hK hD hnw) rfl rfl hl.1 rfl (lv_room (Nat.le_of_ble_eq_true rfl)) d_V_climb_8 hc0) hD hS hA (fun _ _ H locs hp8 hP hD hK hS => ?_)
    subst hp8
    have hhf := hf_b (q := q9) (by omega) (by omega)
    replace hP : va_P D CC (wC tk ad g rr ++ tl) H := hP
    replace hD : va_D A (wC tk ad g rr ++ tl) := hD
    refine lv_istore (lv' := [(4, .int (nI (hf q9))), (0, .ref (ad 15)), (1, .int x9), (2, .int (nI v9)), (3, .int (nI q9))]) hx hb d_V_climb_11 hl (by decide) rfl (fun ls hl => ?_)
    refine lv_iload_n hx hb d_V_climb_13 rfl (lv_at hl 3 rfl) ?_
    refine lv_iload hx hb d_V_climb_14 (lv_at hl 0 rfl) ?_
    refine st_icmp_ge hx hb (by omega) (by omega) d_V_climb_16 (tgt := 39) (by decide) (fun hc16 => ?_) (fun hc16 => ?_)
    · skip
      refine lv_aload_n hx hb d_V_climb_39 rfl (lv_at hl 1 rfl) ?_
      refine lv_iload_n hx hb d_V_climb_40 rfl (lv_at hl 2 rfl) ?_
      refine lv_iload_n hx hb d_V_climb_41 rfl (lv_at hl 3 rfl) ?_
      refine lv_iload hx hb d_V_climb_42 (lv_at hl 0 rfl) ?_
      refine st_isub hx hb (by omega) d_V_climb_44 ?_
      refine lv_iload_n hx hb d_V_climb_45 rfl (lv_at hl 4 rfl) ?_
      refine lv_iload hx hb d_V_climb_46 (lv_at hl 0 rfl) ?_
      refine st_isub hx hb (by omega) d_V_climb_48 ?_
      refine k_calli (va_runV (As := [.int x9, .int (nI (v9 - (hf q9))), .int (nI (q9 - (hf q9)))]) (rest := []) ⟨hx, hb, hml, hown, hts⟩ (c_V_climb0 l D tk H.size ad g rr tl f t0 ht0 hby p9 (by omega) x9 (v9 - (hf q9)) (q9 - (hf q9)) (by omega) (by omega) (by omega) hv) (cwV 3 hts (gV t_899 t_901 s_13 t_8 t_902) rfl rfl rfl (by decide +kernel) ⟨Nat.le_of_ble_eq_true rfl, Nat.le_of_ble_eq_true rfl⟩) (k_preV hP hK hD hnw 15 rfl rfl) rfl rfl hl.1 rfl (lv_room (Nat.le_of_ble_eq_true rfl)) d_V_climb_49 hc0) hD hS hA (fun rr1 u1 H locs ⟨he1, hc1⟩ hP hD hK hS => ?_)
      subst rr1
      have hle1 := clC_le (fun k => ri f t0 (p9 + 4 * k)) x9 0 (v9 - (hf q9)) (q9 - (hf q9))
      replace hP : va_P D CC (wC tk ad u1 rr ++ tl) H := hP
      replace hD : va_D A (wC tk ad u1 rr ++ tl) := hD
      refine lv_istore (lv' := [(5, .int ((clC (fun k => ri f t0 (p9 + 4 * k)) x9 0 (v9 - (hf q9)) (q9 - (hf q9))).1)), (4, .int (nI (hf q9))), (0, .ref (ad 15)), (1, .int x9), (2, .int (nI v9)), (3, .int (nI q9))]) hx hb d_V_climb_52 hl (by decide) rfl (fun ls hl => ?_)
      refine lv_aload_n hx hb d_V_climb_54 rfl (lv_at hl 2 rfl) ?_
      refine k_calli (va_runV (As := []) (rest := []) ⟨hx, hb, hml, hown, hts⟩ (c_V_nextInt l D tk H.size ad u1 rr tl f t0 ht0 hby (p9 + 4 * (clC (fun k => ri f t0 (p9 + 4 * k)) x9 0 (v9 - (hf q9)) (q9 - (hf q9))).2) (by omega) hc1.1) (cwV 0 hts (gV t_894 t_896 s_12 t_8 t_897) rfl rfl rfl (by decide +kernel) ⟨Nat.le_of_ble_eq_true rfl, Nat.le_of_ble_eq_true rfl⟩) (k_preV hP hK hD hnw 15 rfl rfl) rfl rfl hl.1 rfl (lv_room (Nat.le_of_ble_eq_true rfl)) d_V_climb_55 hc0) hD hS hA (fun _ _ H locs hp55 hP hD hK hS => ?_)
      subst hp55
      replace hP : va_P D CC (wC tk ad (mup u1 11 0 (nI (p9 + 4 * (clC (fun k => ri f t0 (p9 + 4 * k)) x9 0 (v9 - (hf q9)) (q9 - (hf q9))).2 + 4))) rr ++ tl) H := hP
      replace hD : va_D A (wC tk ad (mup u1 11 0 (nI (p9 + 4 * (clC (fun k => ri f t0 (p9 + 4 * k)) x9 0 (v9 - (hf q9)) (q9 - (hf q9))).2 + 4))) rr ++ tl) := hD
      refine lv_iload hx hb d_V_climb_58 (lv_at hl 0 rfl) ?_
      refine k_calli (va_runSN (As := [.int (ri f t0 (p9 + 4 * (clC (fun k => ri f t0 (p9 + 4 * k)) x9 0 (v9 - (hf q9)) (q9 - (hf q9))).2)), .int ((clC (fun k => ri f t0 (p9 + 4 * k)) x9 0 (v9 - (hf q9)) (q9 - (hf q9))).1)]) (rest := []) ⟨hx, hb, hml, hown, hts⟩ (c_K_join l D tk H.size (ri f t0 (p9 + 4 * (clC (fun k => ri f t0 (p9 + 4 * k)) x9 0 (v9 - (hf q9)) (q9 - (hf q9))).2)) ((clC (fun k => ri f t0 (p9 + 4 * k)) x9 0 (v9 - (hf q9)) (q9 - (hf q9))).1) (wC tk ad (mup u1 11 0 (nI (p9 + 4 * (clC (fun k => ri f t0 (p9 + 4 * k)) x9 0 (v9 - (hf q9)) (q9 - (hf q9))).2 + 4))) rr ++ tl)) ⟨(va_cnB 2 hts (gB t_814) rfl rfl rfl (hnw.1 _ _ _ _ n_904) (hT _ t_1) (by decide +kernel) ⟨Nat.le_of_ble_eq_true rfl, Nat.le_of_ble_eq_true rfl⟩), hT _ t_813, trivial⟩ (k_preS hP hK hD hnw) rfl rfl hl.1 rfl (lv_room (Nat.le_of_ble_eq_true rfl)) d_V_climb_60 hc0) hD hS hA (fun _ _ H locs hp60 hP hD hK hS => ?_)
      subst hp60
      replace hP : va_P D CC (wC tk ad (mup u1 11 0 (nI (p9 + 4 * (clC (fun k => ri f t0 (p9 + 4 * k)) x9 0 (v9 - (hf q9)) (q9 - (hf q9))).2 + 4))) rr ++ tl) H := hP
      replace hD : va_D A (wC tk ad (mup u1 11 0 (nI (p9 + 4 * (clC (fun k => ri f t0 (p9 + 4 * k)) x9 0 (v9 - (hf q9)) (q9 - (hf q9))).2 + 4))) rr ++ tl) := hD
      exact k_iret (v := jn (ri f t0 (p9 + 4 * (clC (fun k => ri f t0 (p9 + 4 * k)) x9 0 (v9 - (hf q9)) (q9 - (hf q9))).2)) ((clC (fun k => ri f t0 (p9 + 4 * k)) x9 0 (v9 - (hf q9)) (q9 - (hf q9))).1)) hQ hx hb hr hlk hK hP hD hS (mup u1 11 0 (nI (p9 + 4 * (clC (fun k => ri f t0 (p9 + 4 * k)) x9 0 (v9 - (hf q9)) (q9 - (hf q9))).2 + 4))) rfl (⟨by rw [clC_r (fun k => ri f t0 (p9 + 4 * k)) x9 (k := 1) (d := 0) rfl (show ¬ q9 < 2 by omega) (by omega)], by rw [clC_r (fun k => ri f t0 (p9 + 4 * k)) x9 (k := 1) (d := 0) rfl (show ¬ q9 < 2 by omega) (by omega)]; exact ⟨vS_p _ hc1.1, frx_2 hc1.2 (by decide)⟩⟩) d_V_climb_63
    · skip
      refine lv_aload_n hx hb d_V_climb_19 rfl (lv_at hl 1 rfl) ?_
      refine lv_iload_n hx hb d_V_climb_20 rfl (lv_at hl 2 rfl) ?_
      refine lv_iload_n hx hb d_V_climb_21 rfl (lv_at hl 3 rfl) ?_
      refine lv_iload hx hb d_V_climb_22 (lv_at hl 0 rfl) ?_
      refine k_calli (va_runV (As := [.int x9, .int (nI v9), .int (nI (hf q9))]) (rest := []) ⟨hx, hb, hml, hown, hts⟩ (c_V_climb0 l D tk H.size ad g rr tl f t0 ht0 hby p9 (by omega) x9 v9 (hf q9) (by omega) (by omega) (by omega) hv) (cwV 3 hts (gV t_899 t_901 s_13 t_8 t_902) rfl rfl rfl (by decide +kernel) ⟨Nat.le_of_ble_eq_true rfl, Nat.le_of_ble_eq_true rfl⟩) (k_preV hP hK hD hnw 15 rfl rfl) rfl rfl hl.1 rfl (lv_room (Nat.le_of_ble_eq_true rfl)) d_V_climb_24 hc0) hD hS hA (fun rr2 u2 H locs ⟨he2, hc2⟩ hP hD hK hS => ?_)
      subst rr2
      have hle2 := clC_le (fun k => ri f t0 (p9 + 4 * k)) x9 0 v9 (hf q9)
      replace hP : va_P D CC (wC tk ad u2 rr ++ tl) H := hP
      replace hD : va_D A (wC tk ad u2 rr ++ tl) := hD
      refine lv_istore (lv' := [(5, .int ((clC (fun k => ri f t0 (p9 + 4 * k)) x9 0 v9 (hf q9)).1)), (4, .int (nI (hf q9))), (0, .ref (ad 15)), (1, .int x9), (2, .int (nI v9)), (3, .int (nI q9))]) hx hb d_V_climb_27 hl (by decide) rfl (fun ls hl => ?_)
      refine lv_iload hx hb d_V_climb_29 (lv_at hl 0 rfl) ?_
      refine lv_aload_n hx hb d_V_climb_31 rfl (lv_at hl 2 rfl) ?_
      refine k_calli (va_runV (As := []) (rest := [.int ((clC (fun k => ri f t0 (p9 + 4 * k)) x9 0 v9 (hf q9)).1)]) ⟨hx, hb, hml, hown, hts⟩ (c_V_nextInt l D tk H.size ad u2 rr tl f t0 ht0 hby (p9 + 4 * (clC (fun k => ri f t0 (p9 + 4 * k)) x9 0 v9 (hf q9)).2) (by omega) hc2.1) (cwV 0 hts (gV t_894 t_896 s_12 t_8 t_897) rfl rfl rfl (by decide +kernel) ⟨Nat.le_of_ble_eq_true rfl, Nat.le_of_ble_eq_true rfl⟩) (k_preV hP hK hD hnw 15 rfl rfl) rfl rfl hl.1 rfl (lv_room (Nat.le_of_ble_eq_true rfl)) d_V_climb_32 hc0) hD hS hA (fun _ _ H locs hp32 hP hD hK hS => ?_)
      subst hp32
      replace hP : va_P D CC (wC tk ad (mup u2 11 0 (nI (p9 + 4 * (clC (fun k => ri f t0 (p9 + 4 * k)) x9 0 v9 (hf q9)).2 + 4))) rr ++ tl) H := hP
      replace hD : va_D A (wC tk ad (mup u2 11 0 (nI (p9 + 4 * (clC (fun k => ri f t0 (p9 + 4 * k)) x9 0 v9 (hf q9)).2 + 4))) rr ++ tl) := hD
      refine k_calli (va_runSN (As := [.int ((clC (fun k => ri f t0 (p9 + 4 * k)) x9 0 v9 (hf q9)).1), .int (ri f t0 (p9 + 4 * (clC (fun k => ri f t0 (p9 + 4 * k)) x9 0 v9 (hf q9)).2))]) (rest := []) ⟨hx, hb, hml, hown, hts⟩ (c_K_join l D tk H.size ((clC (fun k => ri f t0 (p9 + 4 * k)) x9 0 v9 (hf q9)).1) (ri f t0 (p9 + 4 * (clC (fun k => ri f t0 (p9 + 4 * k)) x9 0 v9 (hf q9)).2)) (wC tk ad (mup u2 11 0 (nI (p9 + 4 * (clC (fun k => ri f t0 (p9 + 4 * k)) x9 0 v9 (hf q9)).2 + 4))) rr ++ tl)) ⟨(va_cnB 2 hts (gB t_814) rfl rfl rfl (hnw.1 _ _ _ _ n_904) (hT _ t_1) (by decide +kernel) ⟨Nat.le_of_ble_eq_true rfl, Nat.le_of_ble_eq_true rfl⟩), hT _ t_813, trivial⟩ (k_preS hP hK hD hnw) rfl rfl hl.1 rfl (lv_room (Nat.le_of_ble_eq_true rfl)) d_V_climb_35 hc0) hD hS hA (fun _ _ H locs hp35 hP hD hK hS => ?_)
      subst hp35
      replace hP : va_P D CC (wC tk ad (mup u2 11 0 (nI (p9 + 4 * (clC (fun k => ri f t0 (p9 + 4 * k)) x9 0 v9 (hf q9)).2 + 4))) rr ++ tl) H := hP
      replace hD : va_D A (wC tk ad (mup u2 11 0 (nI (p9 + 4 * (clC (fun k => ri f t0 (p9 + 4 * k)) x9 0 v9 (hf q9)).2 + 4))) rr ++ tl) := hD
      exact k_iret (v := jn ((clC (fun k => ri f t0 (p9 + 4 * k)) x9 0 v9 (hf q9)).1) (ri f t0 (p9 + 4 * (clC (fun k => ri f t0 (p9 + 4 * k)) x9 0 v9 (hf q9)).2))) hQ hx hb hr hlk hK hP hD hS (mup u2 11 0 (nI (p9 + 4 * (clC (fun k => ri f t0 (p9 + 4 * k)) x9 0 v9 (hf q9)).2 + 4))) rfl (⟨by rw [clC_l (fun k => ri f t0 (p9 + 4 * k)) x9 (k := 1) (d := 0) rfl (show ¬ q9 < 2 by omega) (by omega)], by rw [clC_l (fun k => ri f t0 (p9 + 4 * k)) x9 (k := 1) (d := 0) rfl (show ¬ q9 < 2 by omega) (by omega)]; exact ⟨vS_p _ hc2.1, frx_2 hc2.2 (by decide)⟩⟩) d_V_climb_38
  · skip
    refine lv_iload_n hx hb d_V_climb_5 rfl (lv_at hl 1 rfl) ?_
    exact k_iret (v := x9) hQ hx hb hr hlk hK hP hD hS g rfl (⟨by rw [clC_z (fun k => ri f t0 (p9 + 4 * k)) x9 1 v9 (show q9 < 2 by omega)], by rw [clC_z (fun k => ri f t0 (p9 + 4 * k)) x9 1 v9 (show q9 < 2 by omega)]; exact ⟨hv, frx_r⟩⟩) d_V_climb_6

set_option maxHeartbeats 4000000 in
set_option maxRecDepth 100000 in
theorem c_V_climb2 (l : Launch) (D : va_G) (tk : Nat → ClassId) (sz : Nat) (ad : Nat → Nat) (g : Nat → Nat → Int32) (rr : Nat → Nat → Option Nat) (tl : va_W) (f : Nat → Int32) (t0 : Nat) (ht0 : t0 ≤ 400) (hby : byF f t0) (p9 : Nat) (hp9 : p9 + 40 < 2 ^ 20) (x9 : Int32) (v9 q9 : Nat) (hq1 : 1 ≤ q9) (hq2 : q9 ≤ 4) (hvq : v9 < q9) (hv : vS g f t0 p9) : Met l y_V_climb w_V_climb ({ frames := 4, cells := 0, slots := 0, locals := 89 }) (va_Pc [.ref (ad 15), .int x9, .int (nI v9), .int (nI q9)] (k_pre D (TY tk) sz (wC tk ad g rr ++ tl))) (va_Qi (fun (r : Int32) (u : Nat → Nat → Int32) => r = (clC (fun k => ri f t0 (p9 + 4 * k)) x9 2 v9 q9).1 ∧ (vS u f t0 (p9 + 4 * (clC (fun k => ri f t0 (p9 + 4 * k)) x9 2 v9 q9).2) ∧ frx [11] g u)) (fun u t => k_at D (TY tk) (va_A (wC tk ad g rr ++ tl) sz) ((fun u => wC tk ad u rr ++ tl) u) t) (va_A (wC tk ad g rr ++ tl) sz)) 0 0 (va_A (wC tk ad g rr ++ tl) sz) := by
  refine k_ofW (fun A => va_Qi (fun (r : Int32) (u : Nat → Nat → Int32) => r = (clC (fun k => ri f t0 (p9 + 4 * k)) x9 2 v9 q9).1 ∧ (vS u f t0 (p9 + 4 * (clC (fun k => ri f t0 (p9 + 4 * k)) x9 2 v9 q9).2) ∧ frx [11] g u)) (fun u t => k_at D (TY tk) A ((fun u => wC tk ad u rr ++ tl) u) t) A) (by decide) (Nat.le_of_ble_eq_true rfl) ?_
  intro p e s m args below meth c Q A ls hQ hx hb hr hlk hin hts hT hown hml hnw hP hK hD hA hsz hl
  have hS : va_S A s.heap s.heap [] := va_S.rf
  have hc0 : 0 + 0 ≤ 0 ∧ 0 + 0 ≤ 0 := ⟨by decide, by decide⟩
  replace hl : lv_has ls 6 [(0, .ref (ad 15)), (1, .int x9), (2, .int (nI v9)), (3, .int (nI q9))] := hl
  replace hP : va_P D CC (wC tk ad g rr ++ tl) s.heap := hP
  replace hK : va_K D CC (TY tk) s := hK
  refine lv_iload_n hx hb d_V_climb_0 rfl (lv_at hl 3 rfl) ?_
  refine lv_iconst (v := nI 2) hx hb d_V_climb_1 (by decide) ?_
  refine st_icmp_ge hx hb (by omega) (by omega) d_V_climb_2 (tgt := 7) (by decide) (fun hc2 => ?_) (fun hc2 => ?_)
  · skip
    refine lv_iload_n hx hb d_V_climb_7 rfl (lv_at hl 3 rfl) ?_
    refine k_calli (va_runSN (As := [.int (nI q9)]) (rest := []) ⟨hx, hb, hml, hown, hts⟩ (c_K_half l D tk s.heap.size q9 (by omega) (wC tk ad g rr ++ tl)) ⟨(va_cnB 1 hts (gB t_810) rfl rfl rfl (hnw.1 _ _ _ _ n_903) (hT _ t_1) (by decide +kernel) ⟨Nat.le_of_ble_eq_true rfl, Nat.le_of_ble_eq_true rfl⟩), hT _ t_809, trivial⟩ (k_preS hP hK hD hnw) rfl rfl hl.1 rfl (lv_room (Nat.le_of_ble_eq_true rfl)) d_V_climb_8 hc0) hD hS hA (fun _ _ H locs hp8 hP hD hK hS => ?_)
    subst hp8
    have hhf := hf_b (q := q9) (by omega) (by omega)
    replace hP : va_P D CC (wC tk ad g rr ++ tl) H := hP
    replace hD : va_D A (wC tk ad g rr ++ tl) := hD
    refine lv_istore (lv' := [(4, .int (nI (hf q9))), (0, .ref (ad 15)), (1, .int x9), (2, .int (nI v9)), (3, .int (nI q9))]) hx hb d_V_climb_11 hl (by decide) rfl (fun ls hl => ?_)
    refine lv_iload_n hx hb d_V_climb_13 rfl (lv_at hl 3 rfl) ?_
    refine lv_iload hx hb d_V_climb_14 (lv_at hl 0 rfl) ?_
    refine st_icmp_ge hx hb (by omega) (by omega) d_V_climb_16 (tgt := 39) (by decide) (fun hc16 => ?_) (fun hc16 => ?_)
    · skip
      refine lv_aload_n hx hb d_V_climb_39 rfl (lv_at hl 1 rfl) ?_
      refine lv_iload_n hx hb d_V_climb_40 rfl (lv_at hl 2 rfl) ?_
      refine lv_iload_n hx hb d_V_climb_41 rfl (lv_at hl 3 rfl) ?_
      refine lv_iload hx hb d_V_climb_42 (lv_at hl 0 rfl) ?_
      refine st_isub hx hb (by omega) d_V_climb_44 ?_
      refine lv_iload_n hx hb d_V_climb_45 rfl (lv_at hl 4 rfl) ?_
      refine lv_iload hx hb d_V_climb_46 (lv_at hl 0 rfl) ?_
      refine st_isub hx hb (by omega) d_V_climb_48 ?_
      refine k_calli (va_runV (As := [.int x9, .int (nI (v9 - (hf q9))), .int (nI (q9 - (hf q9)))]) (rest := []) ⟨hx, hb, hml, hown, hts⟩ (c_V_climb1 l D tk H.size ad g rr tl f t0 ht0 hby p9 (by omega) x9 (v9 - (hf q9)) (q9 - (hf q9)) (by omega) (by omega) (by omega) hv) (cwV 3 hts (gV t_899 t_901 s_13 t_8 t_902) rfl rfl rfl (by decide +kernel) ⟨Nat.le_of_ble_eq_true rfl, Nat.le_of_ble_eq_true rfl⟩) (k_preV hP hK hD hnw 15 rfl rfl) rfl rfl hl.1 rfl (lv_room (Nat.le_of_ble_eq_true rfl)) d_V_climb_49 hc0) hD hS hA (fun rr1 u1 H locs ⟨he1, hc1⟩ hP hD hK hS => ?_)
      subst rr1
      have hle1 := clC_le (fun k => ri f t0 (p9 + 4 * k)) x9 1 (v9 - (hf q9)) (q9 - (hf q9))
      replace hP : va_P D CC (wC tk ad u1 rr ++ tl) H := hP
      replace hD : va_D A (wC tk ad u1 rr ++ tl) := hD
      refine lv_istore (lv' := [(5, .int ((clC (fun k => ri f t0 (p9 + 4 * k)) x9 1 (v9 - (hf q9)) (q9 - (hf q9))).1)), (4, .int (nI (hf q9))), (0, .ref (ad 15)), (1, .int x9), (2, .int (nI v9)), (3, .int (nI q9))]) hx hb d_V_climb_52 hl (by decide) rfl (fun ls hl => ?_)
      refine lv_aload_n hx hb d_V_climb_54 rfl (lv_at hl 2 rfl) ?_
      refine k_calli (va_runV (As := []) (rest := []) ⟨hx, hb, hml, hown, hts⟩ (c_V_nextInt l D tk H.size ad u1 rr tl f t0 ht0 hby (p9 + 4 * (clC (fun k => ri f t0 (p9 + 4 * k)) x9 1 (v9 - (hf q9)) (q9 - (hf q9))).2) (by omega) hc1.1) (cwV 0 hts (gV t_894 t_896 s_12 t_8 t_897) rfl rfl rfl (by decide +kernel) ⟨Nat.le_of_ble_eq_true rfl, Nat.le_of_ble_eq_true rfl⟩) (k_preV hP hK hD hnw 15 rfl rfl) rfl rfl hl.1 rfl (lv_room (Nat.le_of_ble_eq_true rfl)) d_V_climb_55 hc0) hD hS hA (fun _ _ H locs hp55 hP hD hK hS => ?_)
      subst hp55
      replace hP : va_P D CC (wC tk ad (mup u1 11 0 (nI (p9 + 4 * (clC (fun k => ri f t0 (p9 + 4 * k)) x9 1 (v9 - (hf q9)) (q9 - (hf q9))).2 + 4))) rr ++ tl) H := hP
      replace hD : va_D A (wC tk ad (mup u1 11 0 (nI (p9 + 4 * (clC (fun k => ri f t0 (p9 + 4 * k)) x9 1 (v9 - (hf q9)) (q9 - (hf q9))).2 + 4))) rr ++ tl) := hD
      refine lv_iload hx hb d_V_climb_58 (lv_at hl 0 rfl) ?_
      refine k_calli (va_runSN (As := [.int (ri f t0 (p9 + 4 * (clC (fun k => ri f t0 (p9 + 4 * k)) x9 1 (v9 - (hf q9)) (q9 - (hf q9))).2)), .int ((clC (fun k => ri f t0 (p9 + 4 * k)) x9 1 (v9 - (hf q9)) (q9 - (hf q9))).1)]) (rest := []) ⟨hx, hb, hml, hown, hts⟩ (c_K_join l D tk H.size (ri f t0 (p9 + 4 * (clC (fun k => ri f t0 (p9 + 4 * k)) x9 1 (v9 - (hf q9)) (q9 - (hf q9))).2)) ((clC (fun k => ri f t0 (p9 + 4 * k)) x9 1 (v9 - (hf q9)) (q9 - (hf q9))).1) (wC tk ad (mup u1 11 0 (nI (p9 + 4 * (clC (fun k => ri f t0 (p9 + 4 * k)) x9 1 (v9 - (hf q9)) (q9 - (hf q9))).2 + 4))) rr ++ tl)) ⟨(va_cnB 2 hts (gB t_814) rfl rfl rfl (hnw.1 _ _ _ _ n_904) (hT _ t_1) (by decide +kernel) ⟨Nat.le_of_ble_eq_true rfl, Nat.le_of_ble_eq_true rfl⟩), hT _ t_813, trivial⟩ (k_preS hP hK hD hnw) rfl rfl hl.1 rfl (lv_room (Nat.le_of_ble_eq_true rfl)) d_V_climb_60 hc0) hD hS hA (fun _ _ H locs hp60 hP hD hK hS => ?_)
      subst hp60
      replace hP : va_P D CC (wC tk ad (mup u1 11 0 (nI (p9 + 4 * (clC (fun k => ri f t0 (p9 + 4 * k)) x9 1 (v9 - (hf q9)) (q9 - (hf q9))).2 + 4))) rr ++ tl) H := hP
      replace hD : va_D A (wC tk ad (mup u1 11 0 (nI (p9 + 4 * (clC (fun k => ri f t0 (p9 + 4 * k)) x9 1 (v9 - (hf q9)) (q9 - (hf q9))).2 + 4))) rr ++ tl) := hD
      exact k_iret (v := jn (ri f t0 (p9 + 4 * (clC (fun k => ri f t0 (p9 + 4 * k)) x9 1 (v9 - (hf q9)) (q9 - (hf q9))).2)) ((clC (fun k => ri f t0 (p9 + 4 * k)) x9 1 (v9 - (hf q9)) (q9 - (hf q9))).1)) hQ hx hb hr hlk hK hP hD hS (mup u1 11 0 (nI (p9 + 4 * (clC (fun k => ri f t0 (p9 + 4 * k)) x9 1 (v9 - (hf q9)) (q9 - (hf q9))).2 + 4))) rfl (⟨by rw [clC_r (fun k => ri f t0 (p9 + 4 * k)) x9 (k := 2) (d := 1) rfl (show ¬ q9 < 2 by omega) (by omega)], by rw [clC_r (fun k => ri f t0 (p9 + 4 * k)) x9 (k := 2) (d := 1) rfl (show ¬ q9 < 2 by omega) (by omega)]; exact ⟨vS_p _ hc1.1, frx_2 hc1.2 (by decide)⟩⟩) d_V_climb_63
    · skip
      refine lv_aload_n hx hb d_V_climb_19 rfl (lv_at hl 1 rfl) ?_
      refine lv_iload_n hx hb d_V_climb_20 rfl (lv_at hl 2 rfl) ?_
      refine lv_iload_n hx hb d_V_climb_21 rfl (lv_at hl 3 rfl) ?_
      refine lv_iload hx hb d_V_climb_22 (lv_at hl 0 rfl) ?_
      refine k_calli (va_runV (As := [.int x9, .int (nI v9), .int (nI (hf q9))]) (rest := []) ⟨hx, hb, hml, hown, hts⟩ (c_V_climb1 l D tk H.size ad g rr tl f t0 ht0 hby p9 (by omega) x9 v9 (hf q9) (by omega) (by omega) (by omega) hv) (cwV 3 hts (gV t_899 t_901 s_13 t_8 t_902) rfl rfl rfl (by decide +kernel) ⟨Nat.le_of_ble_eq_true rfl, Nat.le_of_ble_eq_true rfl⟩) (k_preV hP hK hD hnw 15 rfl rfl) rfl rfl hl.1 rfl (lv_room (Nat.le_of_ble_eq_true rfl)) d_V_climb_24 hc0) hD hS hA (fun rr2 u2 H locs ⟨he2, hc2⟩ hP hD hK hS => ?_)
      subst rr2
      have hle2 := clC_le (fun k => ri f t0 (p9 + 4 * k)) x9 1 v9 (hf q9)
      replace hP : va_P D CC (wC tk ad u2 rr ++ tl) H := hP
      replace hD : va_D A (wC tk ad u2 rr ++ tl) := hD
      refine lv_istore (lv' := [(5, .int ((clC (fun k => ri f t0 (p9 + 4 * k)) x9 1 v9 (hf q9)).1)), (4, .int (nI (hf q9))), (0, .ref (ad 15)), (1, .int x9), (2, .int (nI v9)), (3, .int (nI q9))]) hx hb d_V_climb_27 hl (by decide) rfl (fun ls hl => ?_)
      refine lv_iload hx hb d_V_climb_29 (lv_at hl 0 rfl) ?_
      refine lv_aload_n hx hb d_V_climb_31 rfl (lv_at hl 2 rfl) ?_
      refine k_calli (va_runV (As := []) (rest := [.int ((clC (fun k => ri f t0 (p9 + 4 * k)) x9 1 v9 (hf q9)).1)]) ⟨hx, hb, hml, hown, hts⟩ (c_V_nextInt l D tk H.size ad u2 rr tl f t0 ht0 hby (p9 + 4 * (clC (fun k => ri f t0 (p9 + 4 * k)) x9 1 v9 (hf q9)).2) (by omega) hc2.1) (cwV 0 hts (gV t_894 t_896 s_12 t_8 t_897) rfl rfl rfl (by decide +kernel) ⟨Nat.le_of_ble_eq_true rfl, Nat.le_of_ble_eq_true rfl⟩) (k_preV hP hK hD hnw 15 rfl rfl) rfl rfl hl.1 rfl (lv_room (Nat.le_of_ble_eq_true rfl)) d_V_climb_32 hc0) hD hS hA (fun _ _ H locs hp32 hP hD hK hS => ?_)
      subst hp32
      replace hP : va_P D CC (wC tk ad (mup u2 11 0 (nI (p9 + 4 * (clC (fun k => ri f t0 (p9 + 4 * k)) x9 1 v9 (hf q9)).2 + 4))) rr ++ tl) H := hP
      replace hD : va_D A (wC tk ad (mup u2 11 0 (nI (p9 + 4 * (clC (fun k => ri f t0 (p9 + 4 * k)) x9 1 v9 (hf q9)).2 + 4))) rr ++ tl) := hD
      refine k_calli (va_runSN (As := [.int ((clC (fun k => ri f t0 (p9 + 4 * k)) x9 1 v9 (hf q9)).1), .int (ri f t0 (p9 + 4 * (clC (fun k => ri f t0 (p9 + 4 * k)) x9 1 v9 (hf q9)).2))]) (rest := []) ⟨hx, hb, hml, hown, hts⟩ (c_K_join l D tk H.size ((clC (fun k => ri f t0 (p9 + 4 * k)) x9 1 v9 (hf q9)).1) (ri f t0 (p9 + 4 * (clC (fun k => ri f t0 (p9 + 4 * k)) x9 1 v9 (hf q9)).2)) (wC tk ad (mup u2 11 0 (nI (p9 + 4 * (clC (fun k => ri f t0 (p9 + 4 * k)) x9 1 v9 (hf q9)).2 + 4))) rr ++ tl)) ⟨(va_cnB 2 hts (gB t_814) rfl rfl rfl (hnw.1 _ _ _ _ n_904) (hT _ t_1) (by decide +kernel) ⟨Nat.le_of_ble_eq_true rfl, Nat.le_of_ble_eq_true rfl⟩), hT _ t_813, trivial⟩ (k_preS hP hK hD hnw) rfl rfl hl.1 rfl (lv_room (Nat.le_of_ble_eq_true rfl)) d_V_climb_35 hc0) hD hS hA (fun _ _ H locs hp35 hP hD hK hS => ?_)
      subst hp35
      replace hP : va_P D CC (wC tk ad (mup u2 11 0 (nI (p9 + 4 * (clC (fun k => ri f t0 (p9 + 4 * k)) x9 1 v9 (hf q9)).2 + 4))) rr ++ tl) H := hP
      replace hD : va_D A (wC tk ad (mup u2 11 0 (nI (p9 + 4 * (clC (fun k => ri f t0 (p9 + 4 * k)) x9 1 v9 (hf q9)).2 + 4))) rr ++ tl) := hD
      exact k_iret (v := jn ((clC (fun k => ri f t0 (p9 + 4 * k)) x9 1 v9 (hf q9)).1) (ri f t0 (p9 + 4 * (clC (fun k => ri f t0 (p9 + 4 * k)) x9 1 v9 (hf q9)).2))) hQ hx hb hr hlk hK hP hD hS (mup u2 11 0 (nI (p9 + 4 * (clC (fun k => ri f t0 (p9 + 4 * k)) x9 1 v9 (hf q9)).2 + 4))) rfl (⟨by rw [clC_l (fun k => ri f t0 (p9 + 4 * k)) x9 (k := 2) (d := 1) rfl (show ¬ q9 < 2 by omega) (by omega)], by rw [clC_l (fun k => ri f t0 (p9 + 4 * k)) x9 (k := 2) (d := 1) rfl (show ¬ q9 < 2 by omega) (by omega)]; exact ⟨vS_p _ hc2.1, frx_2 hc2.2 (by decide)⟩⟩) d_V_climb_38
  · skip
    refine lv_iload_n hx hb d_V_climb_5 rfl (lv_at hl 1 rfl) ?_
    exact k_iret (v := x9) hQ hx hb hr hlk hK hP hD hS g rfl (⟨by rw [clC_z (fun k => ri f t0 (p9 + 4 * k)) x9 2 v9 (show q9 < 2 by omega)], by rw [clC_z (fun k => ri f t0 (p9 + 4 * k)) x9 2 v9 (show q9 < 2 by omega)]; exact ⟨hv, frx_r⟩⟩) d_V_climb_6

set_option maxHeartbeats 4000000 in
set_option maxRecDepth 100000 in
theorem c_V_climb3 (l : Launch) (D : va_G) (tk : Nat → ClassId) (sz : Nat) (ad : Nat → Nat) (g : Nat → Nat → Int32) (rr : Nat → Nat → Option Nat) (tl : va_W) (f : Nat → Int32) (t0 : Nat) (ht0 : t0 ≤ 400) (hby : byF f t0) (p9 : Nat) (hp9 : p9 + 40 < 2 ^ 20) (x9 : Int32) (v9 q9 : Nat) (hq1 : 1 ≤ q9) (hq2 : q9 ≤ 8) (hvq : v9 < q9) (hv : vS g f t0 p9) : Met l y_V_climb w_V_climb ({ frames := 5, cells := 0, slots := 0, locals := 114 }) (va_Pc [.ref (ad 15), .int x9, .int (nI v9), .int (nI q9)] (k_pre D (TY tk) sz (wC tk ad g rr ++ tl))) (va_Qi (fun (r : Int32) (u : Nat → Nat → Int32) => r = (clC (fun k => ri f t0 (p9 + 4 * k)) x9 3 v9 q9).1 ∧ (vS u f t0 (p9 + 4 * (clC (fun k => ri f t0 (p9 + 4 * k)) x9 3 v9 q9).2) ∧ frx [11] g u)) (fun u t => k_at D (TY tk) (va_A (wC tk ad g rr ++ tl) sz) ((fun u => wC tk ad u rr ++ tl) u) t) (va_A (wC tk ad g rr ++ tl) sz)) 0 0 (va_A (wC tk ad g rr ++ tl) sz) := by
  refine k_ofW (fun A => va_Qi (fun (r : Int32) (u : Nat → Nat → Int32) => r = (clC (fun k => ri f t0 (p9 + 4 * k)) x9 3 v9 q9).1 ∧ (vS u f t0 (p9 + 4 * (clC (fun k => ri f t0 (p9 + 4 * k)) x9 3 v9 q9).2) ∧ frx [11] g u)) (fun u t => k_at D (TY tk) A ((fun u => wC tk ad u rr ++ tl) u) t) A) (by decide) (Nat.le_of_ble_eq_true rfl) ?_
  intro p e s m args below meth c Q A ls hQ hx hb hr hlk hin hts hT hown hml hnw hP hK hD hA hsz hl
  have hS : va_S A s.heap s.heap [] := va_S.rf
  have hc0 : 0 + 0 ≤ 0 ∧ 0 + 0 ≤ 0 := ⟨by decide, by decide⟩
  replace hl : lv_has ls 6 [(0, .ref (ad 15)), (1, .int x9), (2, .int (nI v9)), (3, .int (nI q9))] := hl
  replace hP : va_P D CC (wC tk ad g rr ++ tl) s.heap := hP
  replace hK : va_K D CC (TY tk) s := hK
  refine lv_iload_n hx hb d_V_climb_0 rfl (lv_at hl 3 rfl) ?_
  refine lv_iconst (v := nI 2) hx hb d_V_climb_1 (by decide) ?_
  refine st_icmp_ge hx hb (by omega) (by omega) d_V_climb_2 (tgt := 7) (by decide) (fun hc2 => ?_) (fun hc2 => ?_)
  · skip
    refine lv_iload_n hx hb d_V_climb_7 rfl (lv_at hl 3 rfl) ?_
    refine k_calli (va_runSN (As := [.int (nI q9)]) (rest := []) ⟨hx, hb, hml, hown, hts⟩ (c_K_half l D tk s.heap.size q9 (by omega) (wC tk ad g rr ++ tl)) ⟨(va_cnB 1 hts (gB t_810) rfl rfl rfl (hnw.1 _ _ _ _ n_903) (hT _ t_1) (by decide +kernel) ⟨Nat.le_of_ble_eq_true rfl, Nat.le_of_ble_eq_true rfl⟩), hT _ t_809, trivial⟩ (k_preS hP hK hD hnw) rfl rfl hl.1 rfl (lv_room (Nat.le_of_ble_eq_true rfl)) d_V_climb_8 hc0) hD hS hA (fun _ _ H locs hp8 hP hD hK hS => ?_)
    subst hp8
    have hhf := hf_b (q := q9) (by omega) (by omega)
    replace hP : va_P D CC (wC tk ad g rr ++ tl) H := hP
    replace hD : va_D A (wC tk ad g rr ++ tl) := hD
    refine lv_istore (lv' := [(4, .int (nI (hf q9))), (0, .ref (ad 15)), (1, .int x9), (2, .int (nI v9)), (3, .int (nI q9))]) hx hb d_V_climb_11 hl (by decide) rfl (fun ls hl => ?_)
    refine lv_iload_n hx hb d_V_climb_13 rfl (lv_at hl 3 rfl) ?_
    refine lv_iload hx hb d_V_climb_14 (lv_at hl 0 rfl) ?_
    refine st_icmp_ge hx hb (by omega) (by omega) d_V_climb_16 (tgt := 39) (by decide) (fun hc16 => ?_) (fun hc16 => ?_)
    · skip
      refine lv_aload_n hx hb d_V_climb_39 rfl (lv_at hl 1 rfl) ?_
      refine lv_iload_n hx hb d_V_climb_40 rfl (lv_at hl 2 rfl) ?_
      refine lv_iload_n hx hb d_V_climb_41 rfl (lv_at hl 3 rfl) ?_
      refine lv_iload hx hb d_V_climb_42 (lv_at hl 0 rfl) ?_
      refine st_isub hx hb (by omega) d_V_climb_44 ?_
      refine lv_iload_n hx hb d_V_climb_45 rfl (lv_at hl 4 rfl) ?_
      refine lv_iload hx hb d_V_climb_46 (lv_at hl 0 rfl) ?_
      refine st_isub hx hb (by omega) d_V_climb_48 ?_
      refine k_calli (va_runV (As := [.int x9, .int (nI (v9 - (hf q9))), .int (nI (q9 - (hf q9)))]) (rest := []) ⟨hx, hb, hml, hown, hts⟩ (c_V_climb2 l D tk H.size ad g rr tl f t0 ht0 hby p9 (by omega) x9 (v9 - (hf q9)) (q9 - (hf q9)) (by omega) (by omega) (by omega) hv) (cwV 3 hts (gV t_899 t_901 s_13 t_8 t_902) rfl rfl rfl (by decide +kernel) ⟨Nat.le_of_ble_eq_true rfl, Nat.le_of_ble_eq_true rfl⟩) (k_preV hP hK hD hnw 15 rfl rfl) rfl rfl hl.1 rfl (lv_room (Nat.le_of_ble_eq_true rfl)) d_V_climb_49 hc0) hD hS hA (fun rr1 u1 H locs ⟨he1, hc1⟩ hP hD hK hS => ?_)
      subst rr1
      have hle1 := clC_le (fun k => ri f t0 (p9 + 4 * k)) x9 2 (v9 - (hf q9)) (q9 - (hf q9))
      replace hP : va_P D CC (wC tk ad u1 rr ++ tl) H := hP
      replace hD : va_D A (wC tk ad u1 rr ++ tl) := hD
      refine lv_istore (lv' := [(5, .int ((clC (fun k => ri f t0 (p9 + 4 * k)) x9 2 (v9 - (hf q9)) (q9 - (hf q9))).1)), (4, .int (nI (hf q9))), (0, .ref (ad 15)), (1, .int x9), (2, .int (nI v9)), (3, .int (nI q9))]) hx hb d_V_climb_52 hl (by decide) rfl (fun ls hl => ?_)
      refine lv_aload_n hx hb d_V_climb_54 rfl (lv_at hl 2 rfl) ?_
      refine k_calli (va_runV (As := []) (rest := []) ⟨hx, hb, hml, hown, hts⟩ (c_V_nextInt l D tk H.size ad u1 rr tl f t0 ht0 hby (p9 + 4 * (clC (fun k => ri f t0 (p9 + 4 * k)) x9 2 (v9 - (hf q9)) (q9 - (hf q9))).2) (by omega) hc1.1) (cwV 0 hts (gV t_894 t_896 s_12 t_8 t_897) rfl rfl rfl (by decide +kernel) ⟨Nat.le_of_ble_eq_true rfl, Nat.le_of_ble_eq_true rfl⟩) (k_preV hP hK hD hnw 15 rfl rfl) rfl rfl hl.1 rfl (lv_room (Nat.le_of_ble_eq_true rfl)) d_V_climb_55 hc0) hD hS hA (fun _ _ H locs hp55 hP hD hK hS => ?_)
      subst hp55
      replace hP : va_P D CC (wC tk ad (mup u1 11 0 (nI (p9 + 4 * (clC (fun k => ri f t0 (p9 + 4 * k)) x9 2 (v9 - (hf q9)) (q9 - (hf q9))).2 + 4))) rr ++ tl) H := hP
      replace hD : va_D A (wC tk ad (mup u1 11 0 (nI (p9 + 4 * (clC (fun k => ri f t0 (p9 + 4 * k)) x9 2 (v9 - (hf q9)) (q9 - (hf q9))).2 + 4))) rr ++ tl) := hD
      refine lv_iload hx hb d_V_climb_58 (lv_at hl 0 rfl) ?_
      refine k_calli (va_runSN (As := [.int (ri f t0 (p9 + 4 * (clC (fun k => ri f t0 (p9 + 4 * k)) x9 2 (v9 - (hf q9)) (q9 - (hf q9))).2)), .int ((clC (fun k => ri f t0 (p9 + 4 * k)) x9 2 (v9 - (hf q9)) (q9 - (hf q9))).1)]) (rest := []) ⟨hx, hb, hml, hown, hts⟩ (c_K_join l D tk H.size (ri f t0 (p9 + 4 * (clC (fun k => ri f t0 (p9 + 4 * k)) x9 2 (v9 - (hf q9)) (q9 - (hf q9))).2)) ((clC (fun k => ri f t0 (p9 + 4 * k)) x9 2 (v9 - (hf q9)) (q9 - (hf q9))).1) (wC tk ad (mup u1 11 0 (nI (p9 + 4 * (clC (fun k => ri f t0 (p9 + 4 * k)) x9 2 (v9 - (hf q9)) (q9 - (hf q9))).2 + 4))) rr ++ tl)) ⟨(va_cnB 2 hts (gB t_814) rfl rfl rfl (hnw.1 _ _ _ _ n_904) (hT _ t_1) (by decide +kernel) ⟨Nat.le_of_ble_eq_true rfl, Nat.le_of_ble_eq_true rfl⟩), hT _ t_813, trivial⟩ (k_preS hP hK hD hnw) rfl rfl hl.1 rfl (lv_room (Nat.le_of_ble_eq_true rfl)) d_V_climb_60 hc0) hD hS hA (fun _ _ H locs hp60 hP hD hK hS => ?_)
      subst hp60
      replace hP : va_P D CC (wC tk ad (mup u1 11 0 (nI (p9 + 4 * (clC (fun k => ri f t0 (p9 + 4 * k)) x9 2 (v9 - (hf q9)) (q9 - (hf q9))).2 + 4))) rr ++ tl) H := hP
      replace hD : va_D A (wC tk ad (mup u1 11 0 (nI (p9 + 4 * (clC (fun k => ri f t0 (p9 + 4 * k)) x9 2 (v9 - (hf q9)) (q9 - (hf q9))).2 + 4))) rr ++ tl) := hD
      exact k_iret (v := jn (ri f t0 (p9 + 4 * (clC (fun k => ri f t0 (p9 + 4 * k)) x9 2 (v9 - (hf q9)) (q9 - (hf q9))).2)) ((clC (fun k => ri f t0 (p9 + 4 * k)) x9 2 (v9 - (hf q9)) (q9 - (hf q9))).1)) hQ hx hb hr hlk hK hP hD hS (mup u1 11 0 (nI (p9 + 4 * (clC (fun k => ri f t0 (p9 + 4 * k)) x9 2 (v9 - (hf q9)) (q9 - (hf q9))).2 + 4))) rfl (⟨by rw [clC_r (fun k => ri f t0 (p9 + 4 * k)) x9 (k := 3) (d := 2) rfl (show ¬ q9 < 2 by omega) (by omega)], by rw [clC_r (fun k => ri f t0 (p9 + 4 * k)) x9 (k := 3) (d := 2) rfl (show ¬ q9 < 2 by omega) (by omega)]; exact ⟨vS_p _ hc1.1, frx_2 hc1.2 (by decide)⟩⟩) d_V_climb_63
    · skip
      refine lv_aload_n hx hb d_V_climb_19 rfl (lv_at hl 1 rfl) ?_
      refine lv_iload_n hx hb d_V_climb_20 rfl (lv_at hl 2 rfl) ?_
      refine lv_iload_n hx hb d_V_climb_21 rfl (lv_at hl 3 rfl) ?_
      refine lv_iload hx hb d_V_climb_22 (lv_at hl 0 rfl) ?_
      refine k_calli (va_runV (As := [.int x9, .int (nI v9), .int (nI (hf q9))]) (rest := []) ⟨hx, hb, hml, hown, hts⟩ (c_V_climb2 l D tk H.size ad g rr tl f t0 ht0 hby p9 (by omega) x9 v9 (hf q9) (by omega) (by omega) (by omega) hv) (cwV 3 hts (gV t_899 t_901 s_13 t_8 t_902) rfl rfl rfl (by decide +kernel) ⟨Nat.le_of_ble_eq_true rfl, Nat.le_of_ble_eq_true rfl⟩) (k_preV hP hK hD hnw 15 rfl rfl) rfl rfl hl.1 rfl (lv_room (Nat.le_of_ble_eq_true rfl)) d_V_climb_24 hc0) hD hS hA (fun rr2 u2 H locs ⟨he2, hc2⟩ hP hD hK hS => ?_)
      subst rr2
      have hle2 := clC_le (fun k => ri f t0 (p9 + 4 * k)) x9 2 v9 (hf q9)
      replace hP : va_P D CC (wC tk ad u2 rr ++ tl) H := hP
      replace hD : va_D A (wC tk ad u2 rr ++ tl) := hD
      refine lv_istore (lv' := [(5, .int ((clC (fun k => ri f t0 (p9 + 4 * k)) x9 2 v9 (hf q9)).1)), (4, .int (nI (hf q9))), (0, .ref (ad 15)), (1, .int x9), (2, .int (nI v9)), (3, .int (nI q9))]) hx hb d_V_climb_27 hl (by decide) rfl (fun ls hl => ?_)
      refine lv_iload hx hb d_V_climb_29 (lv_at hl 0 rfl) ?_
      refine lv_aload_n hx hb d_V_climb_31 rfl (lv_at hl 2 rfl) ?_
      refine k_calli (va_runV (As := []) (rest := [.int ((clC (fun k => ri f t0 (p9 + 4 * k)) x9 2 v9 (hf q9)).1)]) ⟨hx, hb, hml, hown, hts⟩ (c_V_nextInt l D tk H.size ad u2 rr tl f t0 ht0 hby (p9 + 4 * (clC (fun k => ri f t0 (p9 + 4 * k)) x9 2 v9 (hf q9)).2) (by omega) hc2.1) (cwV 0 hts (gV t_894 t_896 s_12 t_8 t_897) rfl rfl rfl (by decide +kernel) ⟨Nat.le_of_ble_eq_true rfl, Nat.le_of_ble_eq_true rfl⟩) (k_preV hP hK hD hnw 15 rfl rfl) rfl rfl hl.1 rfl (lv_room (Nat.le_of_ble_eq_true rfl)) d_V_climb_32 hc0) hD hS hA (fun _ _ H locs hp32 hP hD hK hS => ?_)
      subst hp32
      replace hP : va_P D CC (wC tk ad (mup u2 11 0 (nI (p9 + 4 * (clC (fun k => ri f t0 (p9 + 4 * k)) x9 2 v9 (hf q9)).2 + 4))) rr ++ tl) H := hP
      replace hD : va_D A (wC tk ad (mup u2 11 0 (nI (p9 + 4 * (clC (fun k => ri f t0 (p9 + 4 * k)) x9 2 v9 (hf q9)).2 + 4))) rr ++ tl) := hD
      refine k_calli (va_runSN (As := [.int ((clC (fun k => ri f t0 (p9 + 4 * k)) x9 2 v9 (hf q9)).1), .int (ri f t0 (p9 + 4 * (clC (fun k => ri f t0 (p9 + 4 * k)) x9 2 v9 (hf q9)).2))]) (rest := []) ⟨hx, hb, hml, hown, hts⟩ (c_K_join l D tk H.size ((clC (fun k => ri f t0 (p9 + 4 * k)) x9 2 v9 (hf q9)).1) (ri f t0 (p9 + 4 * (clC (fun k => ri f t0 (p9 + 4 * k)) x9 2 v9 (hf q9)).2)) (wC tk ad (mup u2 11 0 (nI (p9 + 4 * (clC (fun k => ri f t0 (p9 + 4 * k)) x9 2 v9 (hf q9)).2 + 4))) rr ++ tl)) ⟨(va_cnB 2 hts (gB t_814) rfl rfl rfl (hnw.1 _ _ _ _ n_904) (hT _ t_1) (by decide +kernel) ⟨Nat.le_of_ble_eq_true rfl, Nat.le_of_ble_eq_true rfl⟩), hT _ t_813, trivial⟩ (k_preS hP hK hD hnw) rfl rfl hl.1 rfl (lv_room (Nat.le_of_ble_eq_true rfl)) d_V_climb_35 hc0) hD hS hA (fun _ _ H locs hp35 hP hD hK hS => ?_)
      subst hp35
      replace hP : va_P D CC (wC tk ad (mup u2 11 0 (nI (p9 + 4 * (clC (fun k => ri f t0 (p9 + 4 * k)) x9 2 v9 (hf q9)).2 + 4))) rr ++ tl) H := hP
      replace hD : va_D A (wC tk ad (mup u2 11 0 (nI (p9 + 4 * (clC (fun k => ri f t0 (p9 + 4 * k)) x9 2 v9 (hf q9)).2 + 4))) rr ++ tl) := hD
      exact k_iret (v := jn ((clC (fun k => ri f t0 (p9 + 4 * k)) x9 2 v9 (hf q9)).1) (ri f t0 (p9 + 4 * (clC (fun k => ri f t0 (p9 + 4 * k)) x9 2 v9 (hf q9)).2))) hQ hx hb hr hlk hK hP hD hS (mup u2 11 0 (nI (p9 + 4 * (clC (fun k => ri f t0 (p9 + 4 * k)) x9 2 v9 (hf q9)).2 + 4))) rfl (⟨by rw [clC_l (fun k => ri f t0 (p9 + 4 * k)) x9 (k := 3) (d := 2) rfl (show ¬ q9 < 2 by omega) (by omega)], by rw [clC_l (fun k => ri f t0 (p9 + 4 * k)) x9 (k := 3) (d := 2) rfl (show ¬ q9 < 2 by omega) (by omega)]; exact ⟨vS_p _ hc2.1, frx_2 hc2.2 (by decide)⟩⟩) d_V_climb_38
  · skip
    refine lv_iload_n hx hb d_V_climb_5 rfl (lv_at hl 1 rfl) ?_
    exact k_iret (v := x9) hQ hx hb hr hlk hK hP hD hS g rfl (⟨by rw [clC_z (fun k => ri f t0 (p9 + 4 * k)) x9 3 v9 (show q9 < 2 by omega)], by rw [clC_z (fun k => ri f t0 (p9 + 4 * k)) x9 3 v9 (show q9 < 2 by omega)]; exact ⟨hv, frx_r⟩⟩) d_V_climb_6

set_option maxHeartbeats 4000000 in
set_option maxRecDepth 100000 in
theorem c_V_climb4 (l : Launch) (D : va_G) (tk : Nat → ClassId) (sz : Nat) (ad : Nat → Nat) (g : Nat → Nat → Int32) (rr : Nat → Nat → Option Nat) (tl : va_W) (f : Nat → Int32) (t0 : Nat) (ht0 : t0 ≤ 400) (hby : byF f t0) (p9 : Nat) (hp9 : p9 + 40 < 2 ^ 20) (x9 : Int32) (v9 q9 : Nat) (hq1 : 1 ≤ q9) (hq2 : q9 ≤ 16) (hvq : v9 < q9) (hv : vS g f t0 p9) : Met l y_V_climb w_V_climb ({ frames := 6, cells := 0, slots := 0, locals := 139 }) (va_Pc [.ref (ad 15), .int x9, .int (nI v9), .int (nI q9)] (k_pre D (TY tk) sz (wC tk ad g rr ++ tl))) (va_Qi (fun (r : Int32) (u : Nat → Nat → Int32) => r = (clC (fun k => ri f t0 (p9 + 4 * k)) x9 4 v9 q9).1 ∧ (vS u f t0 (p9 + 4 * (clC (fun k => ri f t0 (p9 + 4 * k)) x9 4 v9 q9).2) ∧ frx [11] g u)) (fun u t => k_at D (TY tk) (va_A (wC tk ad g rr ++ tl) sz) ((fun u => wC tk ad u rr ++ tl) u) t) (va_A (wC tk ad g rr ++ tl) sz)) 0 0 (va_A (wC tk ad g rr ++ tl) sz) := by
  refine k_ofW (fun A => va_Qi (fun (r : Int32) (u : Nat → Nat → Int32) => r = (clC (fun k => ri f t0 (p9 + 4 * k)) x9 4 v9 q9).1 ∧ (vS u f t0 (p9 + 4 * (clC (fun k => ri f t0 (p9 + 4 * k)) x9 4 v9 q9).2) ∧ frx [11] g u)) (fun u t => k_at D (TY tk) A ((fun u => wC tk ad u rr ++ tl) u) t) A) (by decide) (Nat.le_of_ble_eq_true rfl) ?_
  intro p e s m args below meth c Q A ls hQ hx hb hr hlk hin hts hT hown hml hnw hP hK hD hA hsz hl
  have hS : va_S A s.heap s.heap [] := va_S.rf
  have hc0 : 0 + 0 ≤ 0 ∧ 0 + 0 ≤ 0 := ⟨by decide, by decide⟩
  replace hl : lv_has ls 6 [(0, .ref (ad 15)), (1, .int x9), (2, .int (nI v9)), (3, .int (nI q9))] := hl
  replace hP : va_P D CC (wC tk ad g rr ++ tl) s.heap := hP
  replace hK : va_K D CC (TY tk) s := hK
  refine lv_iload_n hx hb d_V_climb_0 rfl (lv_at hl 3 rfl) ?_
  refine lv_iconst (v := nI 2) hx hb d_V_climb_1 (by decide) ?_
  refine st_icmp_ge hx hb (by omega) (by omega) d_V_climb_2 (tgt := 7) (by decide) (fun hc2 => ?_) (fun hc2 => ?_)
  · skip
    refine lv_iload_n hx hb d_V_climb_7 rfl (lv_at hl 3 rfl) ?_
    refine k_calli (va_runSN (As := [.int (nI q9)]) (rest := []) ⟨hx, hb, hml, hown, hts⟩ (c_K_half l D tk s.heap.size q9 (by omega) (wC tk ad g rr ++ tl)) ⟨(va_cnB 1 hts (gB t_810) rfl rfl rfl (hnw.1 _ _ _ _ n_903) (hT _ t_1) (by decide +kernel) ⟨Nat.le_of_ble_eq_true rfl, Nat.le_of_ble_eq_true rfl⟩), hT _ t_809, trivial⟩ (k_preS hP hK hD hnw) rfl rfl hl.1 rfl (lv_room (Nat.le_of_ble_eq_true rfl)) d_V_climb_8 hc0) hD hS hA (fun _ _ H locs hp8 hP hD hK hS => ?_)
    subst hp8
    have hhf := hf_b (q := q9) (by omega) (by omega)
    replace hP : va_P D CC (wC tk ad g rr ++ tl) H := hP
    replace hD : va_D A (wC tk ad g rr ++ tl) := hD
    refine lv_istore (lv' := [(4, .int (nI (hf q9))), (0, .ref (ad 15)), (1, .int x9), (2, .int (nI v9)), (3, .int (nI q9))]) hx hb d_V_climb_11 hl (by decide) rfl (fun ls hl => ?_)
    refine lv_iload_n hx hb d_V_climb_13 rfl (lv_at hl 3 rfl) ?_
    refine lv_iload hx hb d_V_climb_14 (lv_at hl 0 rfl) ?_
    refine st_icmp_ge hx hb (by omega) (by omega) d_V_climb_16 (tgt := 39) (by decide) (fun hc16 => ?_) (fun hc16 => ?_)
    · skip
      refine lv_aload_n hx hb d_V_climb_39 rfl (lv_at hl 1 rfl) ?_
      refine lv_iload_n hx hb d_V_climb_40 rfl (lv_at hl 2 rfl) ?_
      refine lv_iload_n hx hb d_V_climb_41 rfl (lv_at hl 3 rfl) ?_
      refine lv_iload hx hb d_V_climb_42 (lv_at hl 0 rfl) ?_
      refine st_isub hx hb (by omega) d_V_climb_44 ?_
      refine lv_iload_n hx hb d_V_climb_45 rfl (lv_at hl 4 rfl) ?_
      refine lv_iload hx hb d_V_climb_46 (lv_at hl 0 rfl) ?_
      refine st_isub hx hb (by omega) d_V_climb_48 ?_
      refine k_calli (va_runV (As := [.int x9, .int (nI (v9 - (hf q9))), .int (nI (q9 - (hf q9)))]) (rest := []) ⟨hx, hb, hml, hown, hts⟩ (c_V_climb3 l D tk H.size ad g rr tl f t0 ht0 hby p9 (by omega) x9 (v9 - (hf q9)) (q9 - (hf q9)) (by omega) (by omega) (by omega) hv) (cwV 3 hts (gV t_899 t_901 s_13 t_8 t_902) rfl rfl rfl (by decide +kernel) ⟨Nat.le_of_ble_eq_true rfl, Nat.le_of_ble_eq_true rfl⟩) (k_preV hP hK hD hnw 15 rfl rfl) rfl rfl hl.1 rfl (lv_room (Nat.le_of_ble_eq_true rfl)) d_V_climb_49 hc0) hD hS hA (fun rr1 u1 H locs ⟨he1, hc1⟩ hP hD hK hS => ?_)
      subst rr1
      have hle1 := clC_le (fun k => ri f t0 (p9 + 4 * k)) x9 3 (v9 - (hf q9)) (q9 - (hf q9))
      replace hP : va_P D CC (wC tk ad u1 rr ++ tl) H := hP
      replace hD : va_D A (wC tk ad u1 rr ++ tl) := hD
      refine lv_istore (lv' := [(5, .int ((clC (fun k => ri f t0 (p9 + 4 * k)) x9 3 (v9 - (hf q9)) (q9 - (hf q9))).1)), (4, .int (nI (hf q9))), (0, .ref (ad 15)), (1, .int x9), (2, .int (nI v9)), (3, .int (nI q9))]) hx hb d_V_climb_52 hl (by decide) rfl (fun ls hl => ?_)
      refine lv_aload_n hx hb d_V_climb_54 rfl (lv_at hl 2 rfl) ?_
      refine k_calli (va_runV (As := []) (rest := []) ⟨hx, hb, hml, hown, hts⟩ (c_V_nextInt l D tk H.size ad u1 rr tl f t0 ht0 hby (p9 + 4 * (clC (fun k => ri f t0 (p9 + 4 * k)) x9 3 (v9 - (hf q9)) (q9 - (hf q9))).2) (by omega) hc1.1) (cwV 0 hts (gV t_894 t_896 s_12 t_8 t_897) rfl rfl rfl (by decide +kernel) ⟨Nat.le_of_ble_eq_true rfl, Nat.le_of_ble_eq_true rfl⟩) (k_preV hP hK hD hnw 15 rfl rfl) rfl rfl hl.1 rfl (lv_room (Nat.le_of_ble_eq_true rfl)) d_V_climb_55 hc0) hD hS hA (fun _ _ H locs hp55 hP hD hK hS => ?_)
      subst hp55
      replace hP : va_P D CC (wC tk ad (mup u1 11 0 (nI (p9 + 4 * (clC (fun k => ri f t0 (p9 + 4 * k)) x9 3 (v9 - (hf q9)) (q9 - (hf q9))).2 + 4))) rr ++ tl) H := hP
      replace hD : va_D A (wC tk ad (mup u1 11 0 (nI (p9 + 4 * (clC (fun k => ri f t0 (p9 + 4 * k)) x9 3 (v9 - (hf q9)) (q9 - (hf q9))).2 + 4))) rr ++ tl) := hD
      refine lv_iload hx hb d_V_climb_58 (lv_at hl 0 rfl) ?_
      refine k_calli (va_runSN (As := [.int (ri f t0 (p9 + 4 * (clC (fun k => ri f t0 (p9 + 4 * k)) x9 3 (v9 - (hf q9)) (q9 - (hf q9))).2)), .int ((clC (fun k => ri f t0 (p9 + 4 * k)) x9 3 (v9 - (hf q9)) (q9 - (hf q9))).1)]) (rest := []) ⟨hx, hb, hml, hown, hts⟩ (c_K_join l D tk H.size (ri f t0 (p9 + 4 * (clC (fun k => ri f t0 (p9 + 4 * k)) x9 3 (v9 - (hf q9)) (q9 - (hf q9))).2)) ((clC (fun k => ri f t0 (p9 + 4 * k)) x9 3 (v9 - (hf q9)) (q9 - (hf q9))).1) (wC tk ad (mup u1 11 0 (nI (p9 + 4 * (clC (fun k => ri f t0 (p9 + 4 * k)) x9 3 (v9 - (hf q9)) (q9 - (hf q9))).2 + 4))) rr ++ tl)) ⟨(va_cnB 2 hts (gB t_814) rfl rfl rfl (hnw.1 _ _ _ _ n_904) (hT _ t_1) (by decide +kernel) ⟨Nat.le_of_ble_eq_true rfl, Nat.le_of_ble_eq_true rfl⟩), hT _ t_813, trivial⟩ (k_preS hP hK hD hnw) rfl rfl hl.1 rfl (lv_room (Nat.le_of_ble_eq_true rfl)) d_V_climb_60 hc0) hD hS hA (fun _ _ H locs hp60 hP hD hK hS => ?_)
      subst hp60
      replace hP : va_P D CC (wC tk ad (mup u1 11 0 (nI (p9 + 4 * (clC (fun k => ri f t0 (p9 + 4 * k)) x9 3 (v9 - (hf q9)) (q9 - (hf q9))).2 + 4))) rr ++ tl) H := hP
      replace hD : va_D A (wC tk ad (mup u1 11 0 (nI (p9 + 4 * (clC (fun k => ri f t0 (p9 + 4 * k)) x9 3 (v9 - (hf q9)) (q9 - (hf q9))).2 + 4))) rr ++ tl) := hD
      exact k_iret (v := jn (ri f t0 (p9 + 4 * (clC (fun k => ri f t0 (p9 + 4 * k)) x9 3 (v9 - (hf q9)) (q9 - (hf q9))).2)) ((clC (fun k => ri f t0 (p9 + 4 * k)) x9 3 (v9 - (hf q9)) (q9 - (hf q9))).1)) hQ hx hb hr hlk hK hP hD hS (mup u1 11 0 (nI (p9 + 4 * (clC (fun k => ri f t0 (p9 + 4 * k)) x9 3 (v9 - (hf q9)) (q9 - (hf q9))).2 + 4))) rfl (⟨by rw [clC_r (fun k => ri f t0 (p9 + 4 * k)) x9 (k := 4) (d := 3) rfl (show ¬ q9 < 2 by omega) (by omega)], by rw [clC_r (fun k => ri f t0 (p9 + 4 * k)) x9 (k := 4) (d := 3) rfl (show ¬ q9 < 2 by omega) (by omega)]; exact ⟨vS_p _ hc1.1, frx_2 hc1.2 (by decide)⟩⟩) d_V_climb_63
    · skip
      refine lv_aload_n hx hb d_V_climb_19 rfl (lv_at hl 1 rfl) ?_
      refine lv_iload_n hx hb d_V_climb_20 rfl (lv_at hl 2 rfl) ?_
      refine lv_iload_n hx hb d_V_climb_21 rfl (lv_at hl 3 rfl) ?_
      refine lv_iload hx hb d_V_climb_22 (lv_at hl 0 rfl) ?_
      refine k_calli (va_runV (As := [.int x9, .int (nI v9), .int (nI (hf q9))]) (rest := []) ⟨hx, hb, hml, hown, hts⟩ (c_V_climb3 l D tk H.size ad g rr tl f t0 ht0 hby p9 (by omega) x9 v9 (hf q9) (by omega) (by omega) (by omega) hv) (cwV 3 hts (gV t_899 t_901 s_13 t_8 t_902) rfl rfl rfl (by decide +kernel) ⟨Nat.le_of_ble_eq_true rfl, Nat.le_of_ble_eq_true rfl⟩) (k_preV hP hK hD hnw 15 rfl rfl) rfl rfl hl.1 rfl (lv_room (Nat.le_of_ble_eq_true rfl)) d_V_climb_24 hc0) hD hS hA (fun rr2 u2 H locs ⟨he2, hc2⟩ hP hD hK hS => ?_)
      subst rr2
      have hle2 := clC_le (fun k => ri f t0 (p9 + 4 * k)) x9 3 v9 (hf q9)
      replace hP : va_P D CC (wC tk ad u2 rr ++ tl) H := hP
      replace hD : va_D A (wC tk ad u2 rr ++ tl) := hD
      refine lv_istore (lv' := [(5, .int ((clC (fun k => ri f t0 (p9 + 4 * k)) x9 3 v9 (hf q9)).1)), (4, .int (nI (hf q9))), (0, .ref (ad 15)), (1, .int x9), (2, .int (nI v9)), (3, .int (nI q9))]) hx hb d_V_climb_27 hl (by decide) rfl (fun ls hl => ?_)
      refine lv_iload hx hb d_V_climb_29 (lv_at hl 0 rfl) ?_
      refine lv_aload_n hx hb d_V_climb_31 rfl (lv_at hl 2 rfl) ?_
      refine k_calli (va_runV (As := []) (rest := [.int ((clC (fun k => ri f t0 (p9 + 4 * k)) x9 3 v9 (hf q9)).1)]) ⟨hx, hb, hml, hown, hts⟩ (c_V_nextInt l D tk H.size ad u2 rr tl f t0 ht0 hby (p9 + 4 * (clC (fun k => ri f t0 (p9 + 4 * k)) x9 3 v9 (hf q9)).2) (by omega) hc2.1) (cwV 0 hts (gV t_894 t_896 s_12 t_8 t_897) rfl rfl rfl (by decide +kernel) ⟨Nat.le_of_ble_eq_true rfl, Nat.le_of_ble_eq_true rfl⟩) (k_preV hP hK hD hnw 15 rfl rfl) rfl rfl hl.1 rfl (lv_room (Nat.le_of_ble_eq_true rfl)) d_V_climb_32 hc0) hD hS hA (fun _ _ H locs hp32 hP hD hK hS => ?_)
      subst hp32
      replace hP : va_P D CC (wC tk ad (mup u2 11 0 (nI (p9 + 4 * (clC (fun k => ri f t0 (p9 + 4 * k)) x9 3 v9 (hf q9)).2 + 4))) rr ++ tl) H := hP
      replace hD : va_D A (wC tk ad (mup u2 11 0 (nI (p9 + 4 * (clC (fun k => ri f t0 (p9 + 4 * k)) x9 3 v9 (hf q9)).2 + 4))) rr ++ tl) := hD
      refine k_calli (va_runSN (As := [.int ((clC (fun k => ri f t0 (p9 + 4 * k)) x9 3 v9 (hf q9)).1), .int (ri f t0 (p9 + 4 * (clC (fun k => ri f t0 (p9 + 4 * k)) x9 3 v9 (hf q9)).2))]) (rest := []) ⟨hx, hb, hml, hown, hts⟩ (c_K_join l D tk H.size ((clC (fun k => ri f t0 (p9 + 4 * k)) x9 3 v9 (hf q9)).1) (ri f t0 (p9 + 4 * (clC (fun k => ri f t0 (p9 + 4 * k)) x9 3 v9 (hf q9)).2)) (wC tk ad (mup u2 11 0 (nI (p9 + 4 * (clC (fun k => ri f t0 (p9 + 4 * k)) x9 3 v9 (hf q9)).2 + 4))) rr ++ tl)) ⟨(va_cnB 2 hts (gB t_814) rfl rfl rfl (hnw.1 _ _ _ _ n_904) (hT _ t_1) (by decide +kernel) ⟨Nat.le_of_ble_eq_true rfl, Nat.le_of_ble_eq_true rfl⟩), hT _ t_813, trivial⟩ (k_preS hP hK hD hnw) rfl rfl hl.1 rfl (lv_room (Nat.le_of_ble_eq_true rfl)) d_V_climb_35 hc0) hD hS hA (fun _ _ H locs hp35 hP hD hK hS => ?_)
      subst hp35
      replace hP : va_P D CC (wC tk ad (mup u2 11 0 (nI (p9 + 4 * (clC (fun k => ri f t0 (p9 + 4 * k)) x9 3 v9 (hf q9)).2 + 4))) rr ++ tl) H := hP
      replace hD : va_D A (wC tk ad (mup u2 11 0 (nI (p9 + 4 * (clC (fun k => ri f t0 (p9 + 4 * k)) x9 3 v9 (hf q9)).2 + 4))) rr ++ tl) := hD
      exact k_iret (v := jn ((clC (fun k => ri f t0 (p9 + 4 * k)) x9 3 v9 (hf q9)).1) (ri f t0 (p9 + 4 * (clC (fun k => ri f t0 (p9 + 4 * k)) x9 3 v9 (hf q9)).2))) hQ hx hb hr hlk hK hP hD hS (mup u2 11 0 (nI (p9 + 4 * (clC (fun k => ri f t0 (p9 + 4 * k)) x9 3 v9 (hf q9)).2 + 4))) rfl (⟨by rw [clC_l (fun k => ri f t0 (p9 + 4 * k)) x9 (k := 4) (d := 3) rfl (show ¬ q9 < 2 by omega) (by omega)], by rw [clC_l (fun k => ri f t0 (p9 + 4 * k)) x9 (k := 4) (d := 3) rfl (show ¬ q9 < 2 by omega) (by omega)]; exact ⟨vS_p _ hc2.1, frx_2 hc2.2 (by decide)⟩⟩) d_V_climb_38
  · skip
    refine lv_iload_n hx hb d_V_climb_5 rfl (lv_at hl 1 rfl) ?_
    exact k_iret (v := x9) hQ hx hb hr hlk hK hP hD hS g rfl (⟨by rw [clC_z (fun k => ri f t0 (p9 + 4 * k)) x9 4 v9 (show q9 < 2 by omega)], by rw [clC_z (fun k => ri f t0 (p9 + 4 * k)) x9 4 v9 (show q9 < 2 by omega)]; exact ⟨hv, frx_r⟩⟩) d_V_climb_6

set_option maxHeartbeats 4000000 in
set_option maxRecDepth 100000 in
theorem c_V_readPart0 (l : Launch) (D : va_G) (tk : Nat → ClassId) (sz : Nat) (ad : Nat → Nat) (g : Nat → Nat → Int32) (rr : Nat → Nat → Option Nat) (tl : va_W) (f : Nat → Int32) (t0 : Nat) (ht0 : t0 ≤ 400) (hby : byF f t0) (p9 : Nat) (hp9 : p9 + 40 < 2 ^ 20) (one : Int32) (fr9 q9 m9 : Nat) (hq : 1 ≤ q9 ∧ q9 ≤ 1) (hm : 1 ≤ m9 ∧ m9 ≤ q9) (hf9 : fr9 + q9 ≤ 16) (hv : vS g f t0 p9) : Met l y_V_readPart w_V_readPart ({ frames := 3, cells := 0, slots := 0, locals := 64 }) (va_Pc [.ref (ad 15), .int one, .int (nI fr9), .int (nI q9), .int (nI m9)] (k_pre D (TY tk) sz (wC tk ad g rr ++ tl))) (va_Qv (fun (u : Nat → Nat → Int32) => vS u f t0 (p9 + 4 * (rpC (fun k => ri f t0 (p9 + 4 * k)) one 0 fr9 q9 m9).2.2) ∧ u 18 0 = (rpC (fun k => ri f t0 (p9 + 4 * k)) one 0 fr9 q9 m9).1 ∧ u 19 0 = (rpC (fun k => ri f t0 (p9 + 4 * k)) one 0 fr9 q9 m9).2.1 ∧ frx [11, 18, 19] g u) (fun u t => k_at D (TY tk) (va_A (wC tk ad g rr ++ tl) sz) ((fun u => wC tk ad u rr ++ tl) u) t) (va_A (wC tk ad g rr ++ tl) sz)) 0 0 (va_A (wC tk ad g rr ++ tl) sz) := by
  refine k_ofW (fun A => va_Qv (fun (u : Nat → Nat → Int32) => vS u f t0 (p9 + 4 * (rpC (fun k => ri f t0 (p9 + 4 * k)) one 0 fr9 q9 m9).2.2) ∧ u 18 0 = (rpC (fun k => ri f t0 (p9 + 4 * k)) one 0 fr9 q9 m9).1 ∧ u 19 0 = (rpC (fun k => ri f t0 (p9 + 4 * k)) one 0 fr9 q9 m9).2.1 ∧ frx [11, 18, 19] g u) (fun u t => k_at D (TY tk) A ((fun u => wC tk ad u rr ++ tl) u) t) A) (by decide) (Nat.le_of_ble_eq_true rfl) ?_
  intro p e s m args below meth c Q A ls hQ hx hb hr hlk hin hts hT hown hml hnw hP hK hD hA hsz hl
  have hS : va_S A s.heap s.heap [] := va_S.rf
  have hc0 : 0 + 0 ≤ 0 ∧ 0 + 0 ≤ 0 := ⟨by decide, by decide⟩
  replace hl : lv_has ls 7 [(0, .ref (ad 15)), (1, .int one), (2, .int (nI fr9)), (3, .int (nI q9)), (4, .int (nI m9))] := hl
  replace hP : va_P D CC (wC tk ad g rr ++ tl) s.heap := hP
  replace hK : va_K D CC (TY tk) s := hK
  refine lv_iload hx hb d_V_readPart_0 (lv_at hl 4 rfl) ?_
  refine lv_iload_n hx hb d_V_readPart_2 rfl (lv_at hl 3 rfl) ?_
  refine st_icmp_lt hx hb (by omega) (by omega) d_V_readPart_3 (tgt := 31) (by decide) (fun hc3 => absurd hc3 (by omega)) (fun hc3 => ?_)
  refine lv_aload_n hx hb d_V_readPart_6 rfl (lv_at hl 0 rfl) ?_
  refine lv_iload_n hx hb d_V_readPart_7 rfl (lv_at hl 2 rfl) ?_
  refine st_if_ne hx hb (by omega) d_V_readPart_8 (tgt := 15) (by decide) (fun hc8 => ?_) (fun hc8 => ?_)
  · skip
    refine lv_aload_n hx hb d_V_readPart_15 rfl (lv_at hl 0 rfl) ?_
    refine k_calli (va_runV (As := []) (rest := [.ref (ad 15)]) ⟨hx, hb, hml, hown, hts⟩ (c_V_nextInt l D tk s.heap.size ad g rr tl f t0 ht0 hby p9 (by omega) hv) (cwV 0 hts (gV t_894 t_896 s_12 t_8 t_897) rfl rfl rfl (by decide +kernel) ⟨Nat.le_of_ble_eq_true rfl, Nat.le_of_ble_eq_true rfl⟩) (k_preV hP hK hD hnw 15 rfl rfl) rfl rfl hl.1 rfl (lv_room (Nat.le_of_ble_eq_true rfl)) d_V_readPart_16 hc0) hD hS hA (fun _ _ H locs hp16 hP hD hK hS => ?_)
    subst hp16
    replace hP : va_P D CC (wC tk ad (mup g 11 0 (nI (p9 + 4))) rr ++ tl) H := hP
    replace hD : va_D A (wC tk ad (mup g 11 0 (nI (p9 + 4))) rr ++ tl) := hD
    refine pf_V_43 hx hb hT hown hK hP hD hS 15 rfl (Nat.le_of_ble_eq_true rfl) d_V_readPart_19 (fun H locs hP hD hS => ?_)
    replace hP : va_P D CC (wC tk ad (mup (mup g 11 0 (nI (p9 + 4))) 18 0 (ri f t0 p9)) rr ++ tl) H := Eq.mp (congrArg (fun w => va_P D CC w H) (sC_15_9 tk ad (mup g 11 0 (nI (p9 + 4))) rr tl (ri f t0 p9))) hP
    replace hD : va_D A (wC tk ad (mup (mup g 11 0 (nI (p9 + 4))) 18 0 (ri f t0 p9)) rr ++ tl) := Eq.mp (congrArg (fun w => va_D A w) (sC_15_9 tk ad (mup g 11 0 (nI (p9 + 4))) rr tl (ri f t0 p9))) hD
    refine lv_aload_n hx hb d_V_readPart_22 rfl (lv_at hl 0 rfl) ?_
    refine lv_aload_n hx hb d_V_readPart_23 rfl (lv_at hl 0 rfl) ?_
    refine gf_V_43 (v := .int ((mup (mup g 11 0 (nI (p9 + 4))) 18 0 (ri f t0 p9)) 18 0)) hx hb hT hown hK hP 15 rfl rfl d_V_readPart_24 ?_
    refine st_top (show (mup (mup g 11 0 (nI (p9 + 4))) 18 0 (ri f t0 p9)) 18 0 = ri f t0 p9 from rd_eq) ?_
    refine pf_V_46 hx hb hT hown hK hP hD hS 15 rfl (Nat.le_of_ble_eq_true rfl) d_V_readPart_27 (fun H locs hP hD hS => ?_)
    replace hP : va_P D CC (wC tk ad (mup (mup (mup g 11 0 (nI (p9 + 4))) 18 0 (ri f t0 p9)) 19 0 (ri f t0 p9)) rr ++ tl) H := Eq.mp (congrArg (fun w => va_P D CC w H) (sC_15_10 tk ad (mup (mup g 11 0 (nI (p9 + 4))) 18 0 (ri f t0 p9)) rr tl (ri f t0 p9))) hP
    replace hD : va_D A (wC tk ad (mup (mup (mup g 11 0 (nI (p9 + 4))) 18 0 (ri f t0 p9)) 19 0 (ri f t0 p9)) rr ++ tl) := Eq.mp (congrArg (fun w => va_D A w) (sC_15_10 tk ad (mup (mup g 11 0 (nI (p9 + 4))) 18 0 (ri f t0 p9)) rr tl (ri f t0 p9))) hD
    exact k_vret hQ hx hb hr hlk hK hP hD hS (mup (mup (mup g 11 0 (nI (p9 + 4))) 18 0 (ri f t0 p9)) 19 0 (ri f t0 p9)) rfl (by rw [rpC_1 (fun k => ri f t0 (p9 + 4 * k)) one 0 (show q9 ≤ m9 by omega) (show ¬ fr9 = 0 by omega)]; exact ⟨(vS_o (by decide) (vS_o (by decide) (vS_p _ hv))), (rd_ne (by decide) rd_eq), rd_eq, (frx_2 (frx_2 (frx_2 frx_r (by decide)) (by decide)) (by decide))⟩) d_V_readPart_30
  · skip
    refine lv_iload_n hx hb d_V_readPart_11 rfl (lv_at hl 1 rfl) ?_
    refine lv_goto hx hb d_V_readPart_12 (tgt := 19) (by decide) ?_
    refine pf_V_43 hx hb hT hown hK hP hD hS 15 rfl (Nat.le_of_ble_eq_true rfl) d_V_readPart_19 (fun H locs hP hD hS => ?_)
    replace hP : va_P D CC (wC tk ad (mup g 18 0 one) rr ++ tl) H := Eq.mp (congrArg (fun w => va_P D CC w H) (sC_15_9 tk ad g rr tl one)) hP
    replace hD : va_D A (wC tk ad (mup g 18 0 one) rr ++ tl) := Eq.mp (congrArg (fun w => va_D A w) (sC_15_9 tk ad g rr tl one)) hD
    refine lv_aload_n hx hb d_V_readPart_22 rfl (lv_at hl 0 rfl) ?_
    refine lv_aload_n hx hb d_V_readPart_23 rfl (lv_at hl 0 rfl) ?_
    refine gf_V_43 (v := .int ((mup g 18 0 one) 18 0)) hx hb hT hown hK hP 15 rfl rfl d_V_readPart_24 ?_
    refine st_top (show (mup g 18 0 one) 18 0 = one from rd_eq) ?_
    refine pf_V_46 hx hb hT hown hK hP hD hS 15 rfl (Nat.le_of_ble_eq_true rfl) d_V_readPart_27 (fun H locs hP hD hS => ?_)
    replace hP : va_P D CC (wC tk ad (mup (mup g 18 0 one) 19 0 one) rr ++ tl) H := Eq.mp (congrArg (fun w => va_P D CC w H) (sC_15_10 tk ad (mup g 18 0 one) rr tl one)) hP
    replace hD : va_D A (wC tk ad (mup (mup g 18 0 one) 19 0 one) rr ++ tl) := Eq.mp (congrArg (fun w => va_D A w) (sC_15_10 tk ad (mup g 18 0 one) rr tl one)) hD
    exact k_vret hQ hx hb hr hlk hK hP hD hS (mup (mup g 18 0 one) 19 0 one) rfl (by rw [rpC_0 (fun k => ri f t0 (p9 + 4 * k)) one 0 (show q9 ≤ m9 by omega) (show fr9 = 0 by omega) (Or.inr (by omega))]; exact ⟨(vS_o (by decide) (vS_o (by decide) hv)), (rd_ne (by decide) rd_eq), rd_eq, (frx_2 (frx_2 frx_r (by decide)) (by decide))⟩) d_V_readPart_30

set_option maxHeartbeats 4000000 in
set_option maxRecDepth 100000 in
theorem c_V_readPart1 (l : Launch) (D : va_G) (tk : Nat → ClassId) (sz : Nat) (ad : Nat → Nat) (g : Nat → Nat → Int32) (rr : Nat → Nat → Option Nat) (tl : va_W) (f : Nat → Int32) (t0 : Nat) (ht0 : t0 ≤ 400) (hby : byF f t0) (p9 : Nat) (hp9 : p9 + 40 < 2 ^ 20) (one : Int32) (fr9 q9 m9 : Nat) (hq : 1 ≤ q9 ∧ q9 ≤ 2) (hm : 1 ≤ m9 ∧ m9 ≤ q9) (hf9 : fr9 + q9 ≤ 16) (hv : vS g f t0 p9) : Met l y_V_readPart w_V_readPart ({ frames := 4, cells := 0, slots := 0, locals := 90 }) (va_Pc [.ref (ad 15), .int one, .int (nI fr9), .int (nI q9), .int (nI m9)] (k_pre D (TY tk) sz (wC tk ad g rr ++ tl))) (va_Qv (fun (u : Nat → Nat → Int32) => vS u f t0 (p9 + 4 * (rpC (fun k => ri f t0 (p9 + 4 * k)) one 1 fr9 q9 m9).2.2) ∧ u 18 0 = (rpC (fun k => ri f t0 (p9 + 4 * k)) one 1 fr9 q9 m9).1 ∧ u 19 0 = (rpC (fun k => ri f t0 (p9 + 4 * k)) one 1 fr9 q9 m9).2.1 ∧ frx [11, 18, 19] g u) (fun u t => k_at D (TY tk) (va_A (wC tk ad g rr ++ tl) sz) ((fun u => wC tk ad u rr ++ tl) u) t) (va_A (wC tk ad g rr ++ tl) sz)) 0 0 (va_A (wC tk ad g rr ++ tl) sz) := by
  refine k_ofW (fun A => va_Qv (fun (u : Nat → Nat → Int32) => vS u f t0 (p9 + 4 * (rpC (fun k => ri f t0 (p9 + 4 * k)) one 1 fr9 q9 m9).2.2) ∧ u 18 0 = (rpC (fun k => ri f t0 (p9 + 4 * k)) one 1 fr9 q9 m9).1 ∧ u 19 0 = (rpC (fun k => ri f t0 (p9 + 4 * k)) one 1 fr9 q9 m9).2.1 ∧ frx [11, 18, 19] g u) (fun u t => k_at D (TY tk) A ((fun u => wC tk ad u rr ++ tl) u) t) A) (by decide) (Nat.le_of_ble_eq_true rfl) ?_
  intro p e s m args below meth c Q A ls hQ hx hb hr hlk hin hts hT hown hml hnw hP hK hD hA hsz hl
  have hS : va_S A s.heap s.heap [] := va_S.rf
  have hc0 : 0 + 0 ≤ 0 ∧ 0 + 0 ≤ 0 := ⟨by decide, by decide⟩
  replace hl : lv_has ls 7 [(0, .ref (ad 15)), (1, .int one), (2, .int (nI fr9)), (3, .int (nI q9)), (4, .int (nI m9))] := hl
  replace hP : va_P D CC (wC tk ad g rr ++ tl) s.heap := hP
  replace hK : va_K D CC (TY tk) s := hK
  refine lv_iload hx hb d_V_readPart_0 (lv_at hl 4 rfl) ?_
  refine lv_iload_n hx hb d_V_readPart_2 rfl (lv_at hl 3 rfl) ?_
  refine st_icmp_lt hx hb (by omega) (by omega) d_V_readPart_3 (tgt := 31) (by decide) (fun hc3 => ?_) (fun hc3 => ?_)
  · skip
    refine lv_iload_n hx hb d_V_readPart_31 rfl (lv_at hl 3 rfl) ?_
    refine k_calli (va_runSN (As := [.int (nI q9)]) (rest := []) ⟨hx, hb, hml, hown, hts⟩ (c_K_half l D tk s.heap.size q9 (by omega) (wC tk ad g rr ++ tl)) ⟨(va_cnB 1 hts (gB t_810) rfl rfl rfl (hnw.1 _ _ _ _ n_903) (hT _ t_1) (by decide +kernel) ⟨Nat.le_of_ble_eq_true rfl, Nat.le_of_ble_eq_true rfl⟩), hT _ t_809, trivial⟩ (k_preS hP hK hD hnw) rfl rfl hl.1 rfl (lv_room (Nat.le_of_ble_eq_true rfl)) d_V_readPart_32 hc0) hD hS hA (fun _ _ H locs hp32 hP hD hK hS => ?_)
    subst hp32
    have hhf := hf_b (q := q9) (by omega) (by omega)
    replace hP : va_P D CC (wC tk ad g rr ++ tl) H := hP
    replace hD : va_D A (wC tk ad g rr ++ tl) := hD
    refine lv_istore (lv' := [(5, .int (nI (hf q9))), (0, .ref (ad 15)), (1, .int one), (2, .int (nI fr9)), (3, .int (nI q9)), (4, .int (nI m9))]) hx hb d_V_readPart_35 hl (by decide) rfl (fun ls hl => ?_)
    refine lv_iload hx hb d_V_readPart_37 (lv_at hl 5 rfl) ?_
    refine lv_iload hx hb d_V_readPart_39 (lv_at hl 0 rfl) ?_
    refine st_icmp_gt hx hb (by omega) (by omega) d_V_readPart_41 (tgt := 72) (by decide) (fun hc41 => ?_) (fun hc41 => ?_)
    · skip
      refine lv_aload_n hx hb d_V_readPart_72 rfl (lv_at hl 1 rfl) ?_
      refine lv_iload_n hx hb d_V_readPart_73 rfl (lv_at hl 2 rfl) ?_
      refine lv_iload_n hx hb d_V_readPart_74 rfl (lv_at hl 3 rfl) ?_
      refine lv_iload hx hb d_V_readPart_75 (lv_at hl 0 rfl) ?_
      refine st_iadd hx hb d_V_readPart_77 ?_
      refine lv_iload_n hx hb d_V_readPart_78 rfl (lv_at hl 4 rfl) ?_
      refine lv_iload hx hb d_V_readPart_79 (lv_at hl 0 rfl) ?_
      refine st_isub hx hb (by omega) d_V_readPart_81 ?_
      refine lv_iload hx hb d_V_readPart_82 (lv_at hl 5 rfl) ?_
      refine lv_iload hx hb d_V_readPart_84 (lv_at hl 0 rfl) ?_
      refine st_isub hx hb (by omega) d_V_readPart_86 ?_
      refine k_callv (va_runV (As := [.int one, .int (nI (fr9 + (hf q9))), .int (nI (q9 - (hf q9))), .int (nI (m9 - (hf q9)))]) (rest := []) ⟨hx, hb, hml, hown, hts⟩ (c_V_readPart0 l D tk H.size ad g rr tl f t0 ht0 hby p9 (by omega) one (fr9 + (hf q9)) (q9 - (hf q9)) (m9 - (hf q9)) (by omega) (by omega) (by omega) hv) (cwV 4 hts (gV t_921 t_923 s_14 t_8 t_924) rfl rfl rfl (by decide +kernel) ⟨Nat.le_of_ble_eq_true rfl, Nat.le_of_ble_eq_true rfl⟩) (k_preV hP hK hD hnw 15 rfl rfl) rfl rfl hl.1 rfl (lv_room (Nat.le_of_ble_eq_true rfl)) d_V_readPart_87 hc0) hD hS hA (fun u1 H locs hc1 hP hD hK hS => ?_)
      have hle1 := rpC_le (fun k => ri f t0 (p9 + 4 * k)) one 0 (fr9 + (hf q9)) (q9 - (hf q9)) (m9 - (hf q9))
      replace hP : va_P D CC (wC tk ad u1 rr ++ tl) H := hP
      replace hD : va_D A (wC tk ad u1 rr ++ tl) := hD
      refine lv_aload_n hx hb d_V_readPart_90 rfl (lv_at hl 1 rfl) ?_
      refine k_calli (va_runV (As := []) (rest := []) ⟨hx, hb, hml, hown, hts⟩ (c_V_nextInt l D tk H.size ad u1 rr tl f t0 ht0 hby (p9 + 4 * (rpC (fun k => ri f t0 (p9 + 4 * k)) one 0 (fr9 + (hf q9)) (q9 - (hf q9)) (m9 - (hf q9))).2.2) (by omega) hc1.1) (cwV 0 hts (gV t_894 t_896 s_12 t_8 t_897) rfl rfl rfl (by decide +kernel) ⟨Nat.le_of_ble_eq_true rfl, Nat.le_of_ble_eq_true rfl⟩) (k_preV hP hK hD hnw 15 rfl rfl) rfl rfl hl.1 rfl (lv_room (Nat.le_of_ble_eq_true rfl)) d_V_readPart_91 hc0) hD hS hA (fun _ _ H locs hp91 hP hD hK hS => ?_)
      subst hp91
      replace hP : va_P D CC (wC tk ad (mup u1 11 0 (nI (p9 + 4 * (rpC (fun k => ri f t0 (p9 + 4 * k)) one 0 (fr9 + (hf q9)) (q9 - (hf q9)) (m9 - (hf q9))).2.2 + 4))) rr ++ tl) H := hP
      replace hD : va_D A (wC tk ad (mup u1 11 0 (nI (p9 + 4 * (rpC (fun k => ri f t0 (p9 + 4 * k)) one 0 (fr9 + (hf q9)) (q9 - (hf q9)) (m9 - (hf q9))).2.2 + 4))) rr ++ tl) := hD
      refine lv_istore (lv' := [(6, .int (ri f t0 (p9 + 4 * (rpC (fun k => ri f t0 (p9 + 4 * k)) one 0 (fr9 + (hf q9)) (q9 - (hf q9)) (m9 - (hf q9))).2.2))), (5, .int (nI (hf q9))), (0, .ref (ad 15)), (1, .int one), (2, .int (nI fr9)), (3, .int (nI q9)), (4, .int (nI m9))]) hx hb d_V_readPart_94 hl (by decide) rfl (fun ls hl => ?_)
      refine lv_aload_n hx hb d_V_readPart_96 rfl (lv_at hl 2 rfl) ?_
      refine lv_iload hx hb d_V_readPart_97 (lv_at hl 0 rfl) ?_
      refine lv_aload_n hx hb d_V_readPart_99 rfl (lv_at hl 2 rfl) ?_
      refine gf_V_43 (v := .int ((mup u1 11 0 (nI (p9 + 4 * (rpC (fun k => ri f t0 (p9 + 4 * k)) one 0 (fr9 + (hf q9)) (q9 - (hf q9)) (m9 - (hf q9))).2.2 + 4))) 18 0)) hx hb hT hown hK hP 15 rfl rfl d_V_readPart_100 ?_
      refine st_top (show (mup u1 11 0 (nI (p9 + 4 * (rpC (fun k => ri f t0 (p9 + 4 * k)) one 0 (fr9 + (hf q9)) (q9 - (hf q9)) (m9 - (hf q9))).2.2 + 4))) 18 0 = u1 18 0 from (rd_ne (by decide) rfl)) ?_
      refine k_calli (va_runSN (As := [.int (ri f t0 (p9 + 4 * (rpC (fun k => ri f t0 (p9 + 4 * k)) one 0 (fr9 + (hf q9)) (q9 - (hf q9)) (m9 - (hf q9))).2.2)), .int (u1 18 0)]) (rest := [.ref (ad 15)]) ⟨hx, hb, hml, hown, hts⟩ (c_K_join l D tk H.size (ri f t0 (p9 + 4 * (rpC (fun k => ri f t0 (p9 + 4 * k)) one 0 (fr9 + (hf q9)) (q9 - (hf q9)) (m9 - (hf q9))).2.2)) (u1 18 0) (wC tk ad (mup u1 11 0 (nI (p9 + 4 * (rpC (fun k => ri f t0 (p9 + 4 * k)) one 0 (fr9 + (hf q9)) (q9 - (hf q9)) (m9 - (hf q9))).2.2 + 4))) rr ++ tl)) ⟨(va_cnB 2 hts (gB t_814) rfl rfl rfl (hnw.1 _ _ _ _ n_904) (hT _ t_1) (by decide +kernel) ⟨Nat.le_of_ble_eq_true rfl, Nat.le_of_ble_eq_true rfl⟩), hT _ t_813, trivial⟩ (k_preS hP hK hD hnw) rfl rfl hl.1 rfl (lv_room (Nat.le_of_ble_eq_true rfl)) d_V_readPart_103 hc0) hD hS hA (fun _ _ H locs hp103 hP hD hK hS => ?_)
      subst hp103
      replace hP : va_P D CC (wC tk ad (mup u1 11 0 (nI (p9 + 4 * (rpC (fun k => ri f t0 (p9 + 4 * k)) one 0 (fr9 + (hf q9)) (q9 - (hf q9)) (m9 - (hf q9))).2.2 + 4))) rr ++ tl) H := hP
      replace hD : va_D A (wC tk ad (mup u1 11 0 (nI (p9 + 4 * (rpC (fun k => ri f t0 (p9 + 4 * k)) one 0 (fr9 + (hf q9)) (q9 - (hf q9)) (m9 - (hf q9))).2.2 + 4))) rr ++ tl) := hD
      refine pf_V_43 hx hb hT hown hK hP hD hS 15 rfl (Nat.le_of_ble_eq_true rfl) d_V_readPart_106 (fun H locs hP hD hS => ?_)
      replace hP : va_P D CC (wC tk ad (mup (mup u1 11 0 (nI (p9 + 4 * (rpC (fun k => ri f t0 (p9 + 4 * k)) one 0 (fr9 + (hf q9)) (q9 - (hf q9)) (m9 - (hf q9))).2.2 + 4))) 18 0 (jn (ri f t0 (p9 + 4 * (rpC (fun k => ri f t0 (p9 + 4 * k)) one 0 (fr9 + (hf q9)) (q9 - (hf q9)) (m9 - (hf q9))).2.2)) (u1 18 0))) rr ++ tl) H := Eq.mp (congrArg (fun w => va_P D CC w H) (sC_15_9 tk ad (mup u1 11 0 (nI (p9 + 4 * (rpC (fun k => ri f t0 (p9 + 4 * k)) one 0 (fr9 + (hf q9)) (q9 - (hf q9)) (m9 - (hf q9))).2.2 + 4))) rr tl (jn (ri f t0 (p9 + 4 * (rpC (fun k => ri f t0 (p9 + 4 * k)) one 0 (fr9 + (hf q9)) (q9 - (hf q9)) (m9 - (hf q9))).2.2)) (u1 18 0)))) hP
      replace hD : va_D A (wC tk ad (mup (mup u1 11 0 (nI (p9 + 4 * (rpC (fun k => ri f t0 (p9 + 4 * k)) one 0 (fr9 + (hf q9)) (q9 - (hf q9)) (m9 - (hf q9))).2.2 + 4))) 18 0 (jn (ri f t0 (p9 + 4 * (rpC (fun k => ri f t0 (p9 + 4 * k)) one 0 (fr9 + (hf q9)) (q9 - (hf q9)) (m9 - (hf q9))).2.2)) (u1 18 0))) rr ++ tl) := Eq.mp (congrArg (fun w => va_D A w) (sC_15_9 tk ad (mup u1 11 0 (nI (p9 + 4 * (rpC (fun k => ri f t0 (p9 + 4 * k)) one 0 (fr9 + (hf q9)) (q9 - (hf q9)) (m9 - (hf q9))).2.2 + 4))) rr tl (jn (ri f t0 (p9 + 4 * (rpC (fun k => ri f t0 (p9 + 4 * k)) one 0 (fr9 + (hf q9)) (q9 - (hf q9)) (m9 - (hf q9))).2.2)) (u1 18 0)))) hD
      refine lv_aload_n hx hb d_V_readPart_109 rfl (lv_at hl 2 rfl) ?_
      refine lv_iload hx hb d_V_readPart_110 (lv_at hl 0 rfl) ?_
      refine lv_aload_n hx hb d_V_readPart_112 rfl (lv_at hl 2 rfl) ?_
      refine gf_V_46 (v := .int ((mup (mup u1 11 0 (nI (p9 + 4 * (rpC (fun k => ri f t0 (p9 + 4 * k)) one 0 (fr9 + (hf q9)) (q9 - (hf q9)) (m9 - (hf q9))).2.2 + 4))) 18 0 (jn (ri f t0 (p9 + 4 * (rpC (fun k => ri f t0 (p9 + 4 * k)) one 0 (fr9 + (hf q9)) (q9 - (hf q9)) (m9 - (hf q9))).2.2)) (u1 18 0))) 19 0)) hx hb hT hown hK hP 15 rfl rfl d_V_readPart_113 ?_
      refine st_top (show (mup (mup u1 11 0 (nI (p9 + 4 * (rpC (fun k => ri f t0 (p9 + 4 * k)) one 0 (fr9 + (hf q9)) (q9 - (hf q9)) (m9 - (hf q9))).2.2 + 4))) 18 0 (jn (ri f t0 (p9 + 4 * (rpC (fun k => ri f t0 (p9 + 4 * k)) one 0 (fr9 + (hf q9)) (q9 - (hf q9)) (m9 - (hf q9))).2.2)) (u1 18 0))) 19 0 = u1 19 0 from (rd_ne (by decide) (rd_ne (by decide) rfl))) ?_
      refine k_calli (va_runSN (As := [.int (ri f t0 (p9 + 4 * (rpC (fun k => ri f t0 (p9 + 4 * k)) one 0 (fr9 + (hf q9)) (q9 - (hf q9)) (m9 - (hf q9))).2.2)), .int (u1 19 0)]) (rest := [.ref (ad 15)]) ⟨hx, hb, hml, hown, hts⟩ (c_K_join l D tk H.size (ri f t0 (p9 + 4 * (rpC (fun k => ri f t0 (p9 + 4 * k)) one 0 (fr9 + (hf q9)) (q9 - (hf q9)) (m9 - (hf q9))).2.2)) (u1 19 0) (wC tk ad (mup (mup u1 11 0 (nI (p9 + 4 * (rpC (fun k => ri f t0 (p9 + 4 * k)) one 0 (fr9 + (hf q9)) (q9 - (hf q9)) (m9 - (hf q9))).2.2 + 4))) 18 0 (jn (ri f t0 (p9 + 4 * (rpC (fun k => ri f t0 (p9 + 4 * k)) one 0 (fr9 + (hf q9)) (q9 - (hf q9)) (m9 - (hf q9))).2.2)) (u1 18 0))) rr ++ tl)) ⟨(va_cnB 2 hts (gB t_814) rfl rfl rfl (hnw.1 _ _ _ _ n_904) (hT _ t_1) (by decide +kernel) ⟨Nat.le_of_ble_eq_true rfl, Nat.le_of_ble_eq_true rfl⟩), hT _ t_813, trivial⟩ (k_preS hP hK hD hnw) rfl rfl hl.1 rfl (lv_room (Nat.le_of_ble_eq_true rfl)) d_V_readPart_116 hc0) hD hS hA (fun _ _ H locs hp116 hP hD hK hS => ?_)
      subst hp116
      replace hP : va_P D CC (wC tk ad (mup (mup u1 11 0 (nI (p9 + 4 * (rpC (fun k => ri f t0 (p9 + 4 * k)) one 0 (fr9 + (hf q9)) (q9 - (hf q9)) (m9 - (hf q9))).2.2 + 4))) 18 0 (jn (ri f t0 (p9 + 4 * (rpC (fun k => ri f t0 (p9 + 4 * k)) one 0 (fr9 + (hf q9)) (q9 - (hf q9)) (m9 - (hf q9))).2.2)) (u1 18 0))) rr ++ tl) H := hP
      replace hD : va_D A (wC tk ad (mup (mup u1 11 0 (nI (p9 + 4 * (rpC (fun k => ri f t0 (p9 + 4 * k)) one 0 (fr9 + (hf q9)) (q9 - (hf q9)) (m9 - (hf q9))).2.2 + 4))) 18 0 (jn (ri f t0 (p9 + 4 * (rpC (fun k => ri f t0 (p9 + 4 * k)) one 0 (fr9 + (hf q9)) (q9 - (hf q9)) (m9 - (hf q9))).2.2)) (u1 18 0))) rr ++ tl) := hD
      refine pf_V_46 hx hb hT hown hK hP hD hS 15 rfl (Nat.le_of_ble_eq_true rfl) d_V_readPart_119 (fun H locs hP hD hS => ?_)
      replace hP : va_P D CC (wC tk ad (mup (mup (mup u1 11 0 (nI (p9 + 4 * (rpC (fun k => ri f t0 (p9 + 4 * k)) one 0 (fr9 + (hf q9)) (q9 - (hf q9)) (m9 - (hf q9))).2.2 + 4))) 18 0 (jn (ri f t0 (p9 + 4 * (rpC (fun k => ri f t0 (p9 + 4 * k)) one 0 (fr9 + (hf q9)) (q9 - (hf q9)) (m9 - (hf q9))).2.2)) (u1 18 0))) 19 0 (jn (ri f t0 (p9 + 4 * (rpC (fun k => ri f t0 (p9 + 4 * k)) one 0 (fr9 + (hf q9)) (q9 - (hf q9)) (m9 - (hf q9))).2.2)) (u1 19 0))) rr ++ tl) H := Eq.mp (congrArg (fun w => va_P D CC w H) (sC_15_10 tk ad (mup (mup u1 11 0 (nI (p9 + 4 * (rpC (fun k => ri f t0 (p9 + 4 * k)) one 0 (fr9 + (hf q9)) (q9 - (hf q9)) (m9 - (hf q9))).2.2 + 4))) 18 0 (jn (ri f t0 (p9 + 4 * (rpC (fun k => ri f t0 (p9 + 4 * k)) one 0 (fr9 + (hf q9)) (q9 - (hf q9)) (m9 - (hf q9))).2.2)) (u1 18 0))) rr tl (jn (ri f t0 (p9 + 4 * (rpC (fun k => ri f t0 (p9 + 4 * k)) one 0 (fr9 + (hf q9)) (q9 - (hf q9)) (m9 - (hf q9))).2.2)) (u1 19 0)))) hP
      replace hD : va_D A (wC tk ad (mup (mup (mup u1 11 0 (nI (p9 + 4 * (rpC (fun k => ri f t0 (p9 + 4 * k)) one 0 (fr9 + (hf q9)) (q9 - (hf q9)) (m9 - (hf q9))).2.2 + 4))) 18 0 (jn (ri f t0 (p9 + 4 * (rpC (fun k => ri f t0 (p9 + 4 * k)) one 0 (fr9 + (hf q9)) (q9 - (hf q9)) (m9 - (hf q9))).2.2)) (u1 18 0))) 19 0 (jn (ri f t0 (p9 + 4 * (rpC (fun k => ri f t0 (p9 + 4 * k)) one 0 (fr9 + (hf q9)) (q9 - (hf q9)) (m9 - (hf q9))).2.2)) (u1 19 0))) rr ++ tl) := Eq.mp (congrArg (fun w => va_D A w) (sC_15_10 tk ad (mup (mup u1 11 0 (nI (p9 + 4 * (rpC (fun k => ri f t0 (p9 + 4 * k)) one 0 (fr9 + (hf q9)) (q9 - (hf q9)) (m9 - (hf q9))).2.2 + 4))) 18 0 (jn (ri f t0 (p9 + 4 * (rpC (fun k => ri f t0 (p9 + 4 * k)) one 0 (fr9 + (hf q9)) (q9 - (hf q9)) (m9 - (hf q9))).2.2)) (u1 18 0))) rr tl (jn (ri f t0 (p9 + 4 * (rpC (fun k => ri f t0 (p9 + 4 * k)) one 0 (fr9 + (hf q9)) (q9 - (hf q9)) (m9 - (hf q9))).2.2)) (u1 19 0)))) hD
      exact k_vret hQ hx hb hr hlk hK hP hD hS (mup (mup (mup u1 11 0 (nI (p9 + 4 * (rpC (fun k => ri f t0 (p9 + 4 * k)) one 0 (fr9 + (hf q9)) (q9 - (hf q9)) (m9 - (hf q9))).2.2 + 4))) 18 0 (jn (ri f t0 (p9 + 4 * (rpC (fun k => ri f t0 (p9 + 4 * k)) one 0 (fr9 + (hf q9)) (q9 - (hf q9)) (m9 - (hf q9))).2.2)) (u1 18 0))) 19 0 (jn (ri f t0 (p9 + 4 * (rpC (fun k => ri f t0 (p9 + 4 * k)) one 0 (fr9 + (hf q9)) (q9 - (hf q9)) (m9 - (hf q9))).2.2)) (u1 19 0))) rfl (by rw [rpC_r (fun k => ri f t0 (p9 + 4 * k)) one (k := 1) (d := 0) rfl (show ¬ q9 ≤ m9 by omega) (by omega)]; exact ⟨(vS_o (by decide) (vS_o (by decide) (vS_p _ hc1.1))), by rw [← hc1.2.1]; exact (rd_ne (by decide) rd_eq), by rw [← hc1.2.2.1]; exact rd_eq, (frx_2 (frx_2 (frx_2 hc1.2.2.2 (by decide)) (by decide)) (by decide))⟩) d_V_readPart_122
    · skip
      refine lv_aload_n hx hb d_V_readPart_44 rfl (lv_at hl 1 rfl) ?_
      refine lv_iload_n hx hb d_V_readPart_45 rfl (lv_at hl 2 rfl) ?_
      refine lv_iload_n hx hb d_V_readPart_46 rfl (lv_at hl 3 rfl) ?_
      refine lv_iload hx hb d_V_readPart_47 (lv_at hl 0 rfl) ?_
      refine lv_iload hx hb d_V_readPart_49 (lv_at hl 5 rfl) ?_
      refine k_callv (va_runV (As := [.int one, .int (nI fr9), .int (nI (hf q9)), .int (nI m9)]) (rest := []) ⟨hx, hb, hml, hown, hts⟩ (c_V_readPart0 l D tk H.size ad g rr tl f t0 ht0 hby p9 (by omega) one fr9 (hf q9) m9 (by omega) (by omega) (by omega) hv) (cwV 4 hts (gV t_921 t_923 s_14 t_8 t_924) rfl rfl rfl (by decide +kernel) ⟨Nat.le_of_ble_eq_true rfl, Nat.le_of_ble_eq_true rfl⟩) (k_preV hP hK hD hnw 15 rfl rfl) rfl rfl hl.1 rfl (lv_room (Nat.le_of_ble_eq_true rfl)) d_V_readPart_51 hc0) hD hS hA (fun u2 H locs hc2 hP hD hK hS => ?_)
      have hle2 := rpC_le (fun k => ri f t0 (p9 + 4 * k)) one 0 fr9 (hf q9) m9
      replace hP : va_P D CC (wC tk ad u2 rr ++ tl) H := hP
      replace hD : va_D A (wC tk ad u2 rr ++ tl) := hD
      refine lv_aload_n hx hb d_V_readPart_54 rfl (lv_at hl 1 rfl) ?_
      refine lv_aload_n hx hb d_V_readPart_55 rfl (lv_at hl 1 rfl) ?_
      refine gf_V_46 (v := .int (u2 19 0)) hx hb hT hown hK hP 15 rfl rfl d_V_readPart_56 ?_
      refine lv_aload_n hx hb d_V_readPart_59 rfl (lv_at hl 1 rfl) ?_
      refine k_calli (va_runV (As := []) (rest := [.int (u2 19 0), .ref (ad 15)]) ⟨hx, hb, hml, hown, hts⟩ (c_V_nextInt l D tk H.size ad u2 rr tl f t0 ht0 hby (p9 + 4 * (rpC (fun k => ri f t0 (p9 + 4 * k)) one 0 fr9 (hf q9) m9).2.2) (by omega) hc2.1) (cwV 0 hts (gV t_894 t_896 s_12 t_8 t_897) rfl rfl rfl (by decide +kernel) ⟨Nat.le_of_ble_eq_true rfl, Nat.le_of_ble_eq_true rfl⟩) (k_preV hP hK hD hnw 15 rfl rfl) rfl rfl hl.1 rfl (lv_room (Nat.le_of_ble_eq_true rfl)) d_V_readPart_60 hc0) hD hS hA (fun _ _ H locs hp60 hP hD hK hS => ?_)
      subst hp60
      replace hP : va_P D CC (wC tk ad (mup u2 11 0 (nI (p9 + 4 * (rpC (fun k => ri f t0 (p9 + 4 * k)) one 0 fr9 (hf q9) m9).2.2 + 4))) rr ++ tl) H := hP
      replace hD : va_D A (wC tk ad (mup u2 11 0 (nI (p9 + 4 * (rpC (fun k => ri f t0 (p9 + 4 * k)) one 0 fr9 (hf q9) m9).2.2 + 4))) rr ++ tl) := hD
      refine k_calli (va_runSN (As := [.int (u2 19 0), .int (ri f t0 (p9 + 4 * (rpC (fun k => ri f t0 (p9 + 4 * k)) one 0 fr9 (hf q9) m9).2.2))]) (rest := [.ref (ad 15)]) ⟨hx, hb, hml, hown, hts⟩ (c_K_join l D tk H.size (u2 19 0) (ri f t0 (p9 + 4 * (rpC (fun k => ri f t0 (p9 + 4 * k)) one 0 fr9 (hf q9) m9).2.2)) (wC tk ad (mup u2 11 0 (nI (p9 + 4 * (rpC (fun k => ri f t0 (p9 + 4 * k)) one 0 fr9 (hf q9) m9).2.2 + 4))) rr ++ tl)) ⟨(va_cnB 2 hts (gB t_814) rfl rfl rfl (hnw.1 _ _ _ _ n_904) (hT _ t_1) (by decide +kernel) ⟨Nat.le_of_ble_eq_true rfl, Nat.le_of_ble_eq_true rfl⟩), hT _ t_813, trivial⟩ (k_preS hP hK hD hnw) rfl rfl hl.1 rfl (lv_room (Nat.le_of_ble_eq_true rfl)) d_V_readPart_63 hc0) hD hS hA (fun _ _ H locs hp63 hP hD hK hS => ?_)
      subst hp63
      replace hP : va_P D CC (wC tk ad (mup u2 11 0 (nI (p9 + 4 * (rpC (fun k => ri f t0 (p9 + 4 * k)) one 0 fr9 (hf q9) m9).2.2 + 4))) rr ++ tl) H := hP
      replace hD : va_D A (wC tk ad (mup u2 11 0 (nI (p9 + 4 * (rpC (fun k => ri f t0 (p9 + 4 * k)) one 0 fr9 (hf q9) m9).2.2 + 4))) rr ++ tl) := hD
      refine pf_V_46 hx hb hT hown hK hP hD hS 15 rfl (Nat.le_of_ble_eq_true rfl) d_V_readPart_66 (fun H locs hP hD hS => ?_)
      replace hP : va_P D CC (wC tk ad (mup (mup u2 11 0 (nI (p9 + 4 * (rpC (fun k => ri f t0 (p9 + 4 * k)) one 0 fr9 (hf q9) m9).2.2 + 4))) 19 0 (jn (u2 19 0) (ri f t0 (p9 + 4 * (rpC (fun k => ri f t0 (p9 + 4 * k)) one 0 fr9 (hf q9) m9).2.2)))) rr ++ tl) H := Eq.mp (congrArg (fun w => va_P D CC w H) (sC_15_10 tk ad (mup u2 11 0 (nI (p9 + 4 * (rpC (fun k => ri f t0 (p9 + 4 * k)) one 0 fr9 (hf q9) m9).2.2 + 4))) rr tl (jn (u2 19 0) (ri f t0 (p9 + 4 * (rpC (fun k => ri f t0 (p9 + 4 * k)) one 0 fr9 (hf q9) m9).2.2))))) hP
      replace hD : va_D A (wC tk ad (mup (mup u2 11 0 (nI (p9 + 4 * (rpC (fun k => ri f t0 (p9 + 4 * k)) one 0 fr9 (hf q9) m9).2.2 + 4))) 19 0 (jn (u2 19 0) (ri f t0 (p9 + 4 * (rpC (fun k => ri f t0 (p9 + 4 * k)) one 0 fr9 (hf q9) m9).2.2)))) rr ++ tl) := Eq.mp (congrArg (fun w => va_D A w) (sC_15_10 tk ad (mup u2 11 0 (nI (p9 + 4 * (rpC (fun k => ri f t0 (p9 + 4 * k)) one 0 fr9 (hf q9) m9).2.2 + 4))) rr tl (jn (u2 19 0) (ri f t0 (p9 + 4 * (rpC (fun k => ri f t0 (p9 + 4 * k)) one 0 fr9 (hf q9) m9).2.2))))) hD
      refine lv_goto hx hb d_V_readPart_69 (tgt := 122) (by decide) ?_
      exact k_vret hQ hx hb hr hlk hK hP hD hS (mup (mup u2 11 0 (nI (p9 + 4 * (rpC (fun k => ri f t0 (p9 + 4 * k)) one 0 fr9 (hf q9) m9).2.2 + 4))) 19 0 (jn (u2 19 0) (ri f t0 (p9 + 4 * (rpC (fun k => ri f t0 (p9 + 4 * k)) one 0 fr9 (hf q9) m9).2.2)))) rfl (by rw [rpC_l (fun k => ri f t0 (p9 + 4 * k)) one (k := 1) (d := 0) rfl (show ¬ q9 ≤ m9 by omega) (by omega)]; exact ⟨(vS_o (by decide) (vS_p _ hc2.1)), by rw [← hc2.2.1]; exact (rd_ne (by decide) (rd_ne (by decide) rfl)), by rw [← hc2.2.2.1]; exact rd_eq, (frx_2 (frx_2 hc2.2.2.2 (by decide)) (by decide))⟩) d_V_readPart_122
  · skip
    refine lv_aload_n hx hb d_V_readPart_6 rfl (lv_at hl 0 rfl) ?_
    refine lv_iload_n hx hb d_V_readPart_7 rfl (lv_at hl 2 rfl) ?_
    refine st_if_ne hx hb (by omega) d_V_readPart_8 (tgt := 15) (by decide) (fun hc8 => ?_) (fun hc8 => ?_)
    · skip
      refine lv_aload_n hx hb d_V_readPart_15 rfl (lv_at hl 0 rfl) ?_
      refine k_calli (va_runV (As := []) (rest := [.ref (ad 15)]) ⟨hx, hb, hml, hown, hts⟩ (c_V_nextInt l D tk s.heap.size ad g rr tl f t0 ht0 hby p9 (by omega) hv) (cwV 0 hts (gV t_894 t_896 s_12 t_8 t_897) rfl rfl rfl (by decide +kernel) ⟨Nat.le_of_ble_eq_true rfl, Nat.le_of_ble_eq_true rfl⟩) (k_preV hP hK hD hnw 15 rfl rfl) rfl rfl hl.1 rfl (lv_room (Nat.le_of_ble_eq_true rfl)) d_V_readPart_16 hc0) hD hS hA (fun _ _ H locs hp16 hP hD hK hS => ?_)
      subst hp16
      replace hP : va_P D CC (wC tk ad (mup g 11 0 (nI (p9 + 4))) rr ++ tl) H := hP
      replace hD : va_D A (wC tk ad (mup g 11 0 (nI (p9 + 4))) rr ++ tl) := hD
      refine pf_V_43 hx hb hT hown hK hP hD hS 15 rfl (Nat.le_of_ble_eq_true rfl) d_V_readPart_19 (fun H locs hP hD hS => ?_)
      replace hP : va_P D CC (wC tk ad (mup (mup g 11 0 (nI (p9 + 4))) 18 0 (ri f t0 p9)) rr ++ tl) H := Eq.mp (congrArg (fun w => va_P D CC w H) (sC_15_9 tk ad (mup g 11 0 (nI (p9 + 4))) rr tl (ri f t0 p9))) hP
      replace hD : va_D A (wC tk ad (mup (mup g 11 0 (nI (p9 + 4))) 18 0 (ri f t0 p9)) rr ++ tl) := Eq.mp (congrArg (fun w => va_D A w) (sC_15_9 tk ad (mup g 11 0 (nI (p9 + 4))) rr tl (ri f t0 p9))) hD
      refine lv_aload_n hx hb d_V_readPart_22 rfl (lv_at hl 0 rfl) ?_
      refine lv_aload_n hx hb d_V_readPart_23 rfl (lv_at hl 0 rfl) ?_
      refine gf_V_43 (v := .int ((mup (mup g 11 0 (nI (p9 + 4))) 18 0 (ri f t0 p9)) 18 0)) hx hb hT hown hK hP 15 rfl rfl d_V_readPart_24 ?_
      refine st_top (show (mup (mup g 11 0 (nI (p9 + 4))) 18 0 (ri f t0 p9)) 18 0 = ri f t0 p9 from rd_eq) ?_
      refine pf_V_46 hx hb hT hown hK hP hD hS 15 rfl (Nat.le_of_ble_eq_true rfl) d_V_readPart_27 (fun H locs hP hD hS => ?_)
      replace hP : va_P D CC (wC tk ad (mup (mup (mup g 11 0 (nI (p9 + 4))) 18 0 (ri f t0 p9)) 19 0 (ri f t0 p9)) rr ++ tl) H := Eq.mp (congrArg (fun w => va_P D CC w H) (sC_15_10 tk ad (mup (mup g 11 0 (nI (p9 + 4))) 18 0 (ri f t0 p9)) rr tl (ri f t0 p9))) hP
      replace hD : va_D A (wC tk ad (mup (mup (mup g 11 0 (nI (p9 + 4))) 18 0 (ri f t0 p9)) 19 0 (ri f t0 p9)) rr ++ tl) := Eq.mp (congrArg (fun w => va_D A w) (sC_15_10 tk ad (mup (mup g 11 0 (nI (p9 + 4))) 18 0 (ri f t0 p9)) rr tl (ri f t0 p9))) hD
      exact k_vret hQ hx hb hr hlk hK hP hD hS (mup (mup (mup g 11 0 (nI (p9 + 4))) 18 0 (ri f t0 p9)) 19 0 (ri f t0 p9)) rfl (by rw [rpC_1 (fun k => ri f t0 (p9 + 4 * k)) one 1 (show q9 ≤ m9 by omega) (show ¬ fr9 = 0 by omega)]; exact ⟨(vS_o (by decide) (vS_o (by decide) (vS_p _ hv))), (rd_ne (by decide) rd_eq), rd_eq, (frx_2 (frx_2 (frx_2 frx_r (by decide)) (by decide)) (by decide))⟩) d_V_readPart_30
    · skip
      refine lv_iload_n hx hb d_V_readPart_11 rfl (lv_at hl 1 rfl) ?_
      refine lv_goto hx hb d_V_readPart_12 (tgt := 19) (by decide) ?_
      refine pf_V_43 hx hb hT hown hK hP hD hS 15 rfl (Nat.le_of_ble_eq_true rfl) d_V_readPart_19 (fun H locs hP hD hS => ?_)
      replace hP : va_P D CC (wC tk ad (mup g 18 0 one) rr ++ tl) H := Eq.mp (congrArg (fun w => va_P D CC w H) (sC_15_9 tk ad g rr tl one)) hP
      replace hD : va_D A (wC tk ad (mup g 18 0 one) rr ++ tl) := Eq.mp (congrArg (fun w => va_D A w) (sC_15_9 tk ad g rr tl one)) hD
      refine lv_aload_n hx hb d_V_readPart_22 rfl (lv_at hl 0 rfl) ?_
      refine lv_aload_n hx hb d_V_readPart_23 rfl (lv_at hl 0 rfl) ?_
      refine gf_V_43 (v := .int ((mup g 18 0 one) 18 0)) hx hb hT hown hK hP 15 rfl rfl d_V_readPart_24 ?_
      refine st_top (show (mup g 18 0 one) 18 0 = one from rd_eq) ?_
      refine pf_V_46 hx hb hT hown hK hP hD hS 15 rfl (Nat.le_of_ble_eq_true rfl) d_V_readPart_27 (fun H locs hP hD hS => ?_)
      replace hP : va_P D CC (wC tk ad (mup (mup g 18 0 one) 19 0 one) rr ++ tl) H := Eq.mp (congrArg (fun w => va_P D CC w H) (sC_15_10 tk ad (mup g 18 0 one) rr tl one)) hP
      replace hD : va_D A (wC tk ad (mup (mup g 18 0 one) 19 0 one) rr ++ tl) := Eq.mp (congrArg (fun w => va_D A w) (sC_15_10 tk ad (mup g 18 0 one) rr tl one)) hD
      exact k_vret hQ hx hb hr hlk hK hP hD hS (mup (mup g 18 0 one) 19 0 one) rfl (by rw [rpC_0 (fun k => ri f t0 (p9 + 4 * k)) one 1 (show q9 ≤ m9 by omega) (show fr9 = 0 by omega) (Or.inr (by omega))]; exact ⟨(vS_o (by decide) (vS_o (by decide) hv)), (rd_ne (by decide) rd_eq), rd_eq, (frx_2 (frx_2 frx_r (by decide)) (by decide))⟩) d_V_readPart_30

set_option maxHeartbeats 4000000 in
set_option maxRecDepth 100000 in
theorem c_V_readPart2 (l : Launch) (D : va_G) (tk : Nat → ClassId) (sz : Nat) (ad : Nat → Nat) (g : Nat → Nat → Int32) (rr : Nat → Nat → Option Nat) (tl : va_W) (f : Nat → Int32) (t0 : Nat) (ht0 : t0 ≤ 400) (hby : byF f t0) (p9 : Nat) (hp9 : p9 + 40 < 2 ^ 20) (one : Int32) (fr9 q9 m9 : Nat) (hq : 1 ≤ q9 ∧ q9 ≤ 4) (hm : 1 ≤ m9 ∧ m9 ≤ q9) (hf9 : fr9 + q9 ≤ 16) (hv : vS g f t0 p9) : Met l y_V_readPart w_V_readPart ({ frames := 5, cells := 0, slots := 0, locals := 116 }) (va_Pc [.ref (ad 15), .int one, .int (nI fr9), .int (nI q9), .int (nI m9)] (k_pre D (TY tk) sz (wC tk ad g rr ++ tl))) (va_Qv (fun (u : Nat → Nat → Int32) => vS u f t0 (p9 + 4 * (rpC (fun k => ri f t0 (p9 + 4 * k)) one 2 fr9 q9 m9).2.2) ∧ u 18 0 = (rpC (fun k => ri f t0 (p9 + 4 * k)) one 2 fr9 q9 m9).1 ∧ u 19 0 = (rpC (fun k => ri f t0 (p9 + 4 * k)) one 2 fr9 q9 m9).2.1 ∧ frx [11, 18, 19] g u) (fun u t => k_at D (TY tk) (va_A (wC tk ad g rr ++ tl) sz) ((fun u => wC tk ad u rr ++ tl) u) t) (va_A (wC tk ad g rr ++ tl) sz)) 0 0 (va_A (wC tk ad g rr ++ tl) sz) := by
  refine k_ofW (fun A => va_Qv (fun (u : Nat → Nat → Int32) => vS u f t0 (p9 + 4 * (rpC (fun k => ri f t0 (p9 + 4 * k)) one 2 fr9 q9 m9).2.2) ∧ u 18 0 = (rpC (fun k => ri f t0 (p9 + 4 * k)) one 2 fr9 q9 m9).1 ∧ u 19 0 = (rpC (fun k => ri f t0 (p9 + 4 * k)) one 2 fr9 q9 m9).2.1 ∧ frx [11, 18, 19] g u) (fun u t => k_at D (TY tk) A ((fun u => wC tk ad u rr ++ tl) u) t) A) (by decide) (Nat.le_of_ble_eq_true rfl) ?_
  intro p e s m args below meth c Q A ls hQ hx hb hr hlk hin hts hT hown hml hnw hP hK hD hA hsz hl
  have hS : va_S A s.heap s.heap [] := va_S.rf
  have hc0 : 0 + 0 ≤ 0 ∧ 0 + 0 ≤ 0 := ⟨by decide, by decide⟩
  replace hl : lv_has ls 7 [(0, .ref (ad 15)), (1, .int one), (2, .int (nI fr9)), (3, .int (nI q9)), (4, .int (nI m9))] := hl
  replace hP : va_P D CC (wC tk ad g rr ++ tl) s.heap := hP
  replace hK : va_K D CC (TY tk) s := hK
  refine lv_iload hx hb d_V_readPart_0 (lv_at hl 4 rfl) ?_
  refine lv_iload_n hx hb d_V_readPart_2 rfl (lv_at hl 3 rfl) ?_
  refine st_icmp_lt hx hb (by omega) (by omega) d_V_readPart_3 (tgt := 31) (by decide) (fun hc3 => ?_) (fun hc3 => ?_)
  · skip
    refine lv_iload_n hx hb d_V_readPart_31 rfl (lv_at hl 3 rfl) ?_
    refine k_calli (va_runSN (As := [.int (nI q9)]) (rest := []) ⟨hx, hb, hml, hown, hts⟩ (c_K_half l D tk s.heap.size q9 (by omega) (wC tk ad g rr ++ tl)) ⟨(va_cnB 1 hts (gB t_810) rfl rfl rfl (hnw.1 _ _ _ _ n_903) (hT _ t_1) (by decide +kernel) ⟨Nat.le_of_ble_eq_true rfl, Nat.le_of_ble_eq_true rfl⟩), hT _ t_809, trivial⟩ (k_preS hP hK hD hnw) rfl rfl hl.1 rfl (lv_room (Nat.le_of_ble_eq_true rfl)) d_V_readPart_32 hc0) hD hS hA (fun _ _ H locs hp32 hP hD hK hS => ?_)
    subst hp32
    have hhf := hf_b (q := q9) (by omega) (by omega)
    replace hP : va_P D CC (wC tk ad g rr ++ tl) H := hP
    replace hD : va_D A (wC tk ad g rr ++ tl) := hD
    refine lv_istore (lv' := [(5, .int (nI (hf q9))), (0, .ref (ad 15)), (1, .int one), (2, .int (nI fr9)), (3, .int (nI q9)), (4, .int (nI m9))]) hx hb d_V_readPart_35 hl (by decide) rfl (fun ls hl => ?_)
    refine lv_iload hx hb d_V_readPart_37 (lv_at hl 5 rfl) ?_
    refine lv_iload hx hb d_V_readPart_39 (lv_at hl 0 rfl) ?_
    refine st_icmp_gt hx hb (by omega) (by omega) d_V_readPart_41 (tgt := 72) (by decide) (fun hc41 => ?_) (fun hc41 => ?_)
    · skip
      refine lv_aload_n hx hb d_V_readPart_72 rfl (lv_at hl 1 rfl) ?_
      refine lv_iload_n hx hb d_V_readPart_73 rfl (lv_at hl 2 rfl) ?_
      refine lv_iload_n hx hb d_V_readPart_74 rfl (lv_at hl 3 rfl) ?_
      refine lv_iload hx hb d_V_readPart_75 (lv_at hl 0 rfl) ?_
      refine st_iadd hx hb d_V_readPart_77 ?_
      refine lv_iload_n hx hb d_V_readPart_78 rfl (lv_at hl 4 rfl) ?_
      refine lv_iload hx hb d_V_readPart_79 (lv_at hl 0 rfl) ?_
      refine st_isub hx hb (by omega) d_V_readPart_81 ?_
      refine lv_iload hx hb d_V_readPart_82 (lv_at hl 5 rfl) ?_
      refine lv_iload hx hb d_V_readPart_84 (lv_at hl 0 rfl) ?_
      refine st_isub hx hb (by omega) d_V_readPart_86 ?_
      refine k_callv (va_runV (As := [.int one, .int (nI (fr9 + (hf q9))), .int (nI (q9 - (hf q9))), .int (nI (m9 - (hf q9)))]) (rest := []) ⟨hx, hb, hml, hown, hts⟩ (c_V_readPart1 l D tk H.size ad g rr tl f t0 ht0 hby p9 (by omega) one (fr9 + (hf q9)) (q9 - (hf q9)) (m9 - (hf q9)) (by omega) (by omega) (by omega) hv) (cwV 4 hts (gV t_921 t_923 s_14 t_8 t_924) rfl rfl rfl (by decide +kernel) ⟨Nat.le_of_ble_eq_true rfl, Nat.le_of_ble_eq_true rfl⟩) (k_preV hP hK hD hnw 15 rfl rfl) rfl rfl hl.1 rfl (lv_room (Nat.le_of_ble_eq_true rfl)) d_V_readPart_87 hc0) hD hS hA (fun u1 H locs hc1 hP hD hK hS => ?_)
      have hle1 := rpC_le (fun k => ri f t0 (p9 + 4 * k)) one 1 (fr9 + (hf q9)) (q9 - (hf q9)) (m9 - (hf q9))
      replace hP : va_P D CC (wC tk ad u1 rr ++ tl) H := hP
      replace hD : va_D A (wC tk ad u1 rr ++ tl) := hD
      refine lv_aload_n hx hb d_V_readPart_90 rfl (lv_at hl 1 rfl) ?_
      refine k_calli (va_runV (As := []) (rest := []) ⟨hx, hb, hml, hown, hts⟩ (c_V_nextInt l D tk H.size ad u1 rr tl f t0 ht0 hby (p9 + 4 * (rpC (fun k => ri f t0 (p9 + 4 * k)) one 1 (fr9 + (hf q9)) (q9 - (hf q9)) (m9 - (hf q9))).2.2) (by omega) hc1.1) (cwV 0 hts (gV t_894 t_896 s_12 t_8 t_897) rfl rfl rfl (by decide +kernel) ⟨Nat.le_of_ble_eq_true rfl, Nat.le_of_ble_eq_true rfl⟩) (k_preV hP hK hD hnw 15 rfl rfl) rfl rfl hl.1 rfl (lv_room (Nat.le_of_ble_eq_true rfl)) d_V_readPart_91 hc0) hD hS hA (fun _ _ H locs hp91 hP hD hK hS => ?_)
      subst hp91
      replace hP : va_P D CC (wC tk ad (mup u1 11 0 (nI (p9 + 4 * (rpC (fun k => ri f t0 (p9 + 4 * k)) one 1 (fr9 + (hf q9)) (q9 - (hf q9)) (m9 - (hf q9))).2.2 + 4))) rr ++ tl) H := hP
      replace hD : va_D A (wC tk ad (mup u1 11 0 (nI (p9 + 4 * (rpC (fun k => ri f t0 (p9 + 4 * k)) one 1 (fr9 + (hf q9)) (q9 - (hf q9)) (m9 - (hf q9))).2.2 + 4))) rr ++ tl) := hD
      refine lv_istore (lv' := [(6, .int (ri f t0 (p9 + 4 * (rpC (fun k => ri f t0 (p9 + 4 * k)) one 1 (fr9 + (hf q9)) (q9 - (hf q9)) (m9 - (hf q9))).2.2))), (5, .int (nI (hf q9))), (0, .ref (ad 15)), (1, .int one), (2, .int (nI fr9)), (3, .int (nI q9)), (4, .int (nI m9))]) hx hb d_V_readPart_94 hl (by decide) rfl (fun ls hl => ?_)
      refine lv_aload_n hx hb d_V_readPart_96 rfl (lv_at hl 2 rfl) ?_
      refine lv_iload hx hb d_V_readPart_97 (lv_at hl 0 rfl) ?_
      refine lv_aload_n hx hb d_V_readPart_99 rfl (lv_at hl 2 rfl) ?_
      refine gf_V_43 (v := .int ((mup u1 11 0 (nI (p9 + 4 * (rpC (fun k => ri f t0 (p9 + 4 * k)) one 1 (fr9 + (hf q9)) (q9 - (hf q9)) (m9 - (hf q9))).2.2 + 4))) 18 0)) hx hb hT hown hK hP 15 rfl rfl d_V_readPart_100 ?_
      refine st_top (show (mup u1 11 0 (nI (p9 + 4 * (rpC (fun k => ri f t0 (p9 + 4 * k)) one 1 (fr9 + (hf q9)) (q9 - (hf q9)) (m9 - (hf q9))).2.2 + 4))) 18 0 = u1 18 0 from (rd_ne (by decide) rfl)) ?_
      refine k_calli (va_runSN (As := [.int (ri f t0 (p9 + 4 * (rpC (fun k => ri f t0 (p9 + 4 * k)) one 1 (fr9 + (hf q9)) (q9 - (hf q9)) (m9 - (hf q9))).2.2)), .int (u1 18 0)]) (rest := [.ref (ad 15)]) ⟨hx, hb, hml, hown, hts⟩ (c_K_join l D tk H.size (ri f t0 (p9 + 4 * (rpC (fun k => ri f t0 (p9 + 4 * k)) one 1 (fr9 + (hf q9)) (q9 - (hf q9)) (m9 - (hf q9))).2.2)) (u1 18 0) (wC tk ad (mup u1 11 0 (nI (p9 + 4 * (rpC (fun k => ri f t0 (p9 + 4 * k)) one 1 (fr9 + (hf q9)) (q9 - (hf q9)) (m9 - (hf q9))).2.2 + 4))) rr ++ tl)) ⟨(va_cnB 2 hts (gB t_814) rfl rfl rfl (hnw.1 _ _ _ _ n_904) (hT _ t_1) (by decide +kernel) ⟨Nat.le_of_ble_eq_true rfl, Nat.le_of_ble_eq_true rfl⟩), hT _ t_813, trivial⟩ (k_preS hP hK hD hnw) rfl rfl hl.1 rfl (lv_room (Nat.le_of_ble_eq_true rfl)) d_V_readPart_103 hc0) hD hS hA (fun _ _ H locs hp103 hP hD hK hS => ?_)
      subst hp103
      replace hP : va_P D CC (wC tk ad (mup u1 11 0 (nI (p9 + 4 * (rpC (fun k => ri f t0 (p9 + 4 * k)) one 1 (fr9 + (hf q9)) (q9 - (hf q9)) (m9 - (hf q9))).2.2 + 4))) rr ++ tl) H := hP
      replace hD : va_D A (wC tk ad (mup u1 11 0 (nI (p9 + 4 * (rpC (fun k => ri f t0 (p9 + 4 * k)) one 1 (fr9 + (hf q9)) (q9 - (hf q9)) (m9 - (hf q9))).2.2 + 4))) rr ++ tl) := hD
      refine pf_V_43 hx hb hT hown hK hP hD hS 15 rfl (Nat.le_of_ble_eq_true rfl) d_V_readPart_106 (fun H locs hP hD hS => ?_)
      replace hP : va_P D CC (wC tk ad (mup (mup u1 11 0 (nI (p9 + 4 * (rpC (fun k => ri f t0 (p9 + 4 * k)) one 1 (fr9 + (hf q9)) (q9 - (hf q9)) (m9 - (hf q9))).2.2 + 4))) 18 0 (jn (ri f t0 (p9 + 4 * (rpC (fun k => ri f t0 (p9 + 4 * k)) one 1 (fr9 + (hf q9)) (q9 - (hf q9)) (m9 - (hf q9))).2.2)) (u1 18 0))) rr ++ tl) H := Eq.mp (congrArg (fun w => va_P D CC w H) (sC_15_9 tk ad (mup u1 11 0 (nI (p9 + 4 * (rpC (fun k => ri f t0 (p9 + 4 * k)) one 1 (fr9 + (hf q9)) (q9 - (hf q9)) (m9 - (hf q9))).2.2 + 4))) rr tl (jn (ri f t0 (p9 + 4 * (rpC (fun k => ri f t0 (p9 + 4 * k)) one 1 (fr9 + (hf q9)) (q9 - (hf q9)) (m9 - (hf q9))).2.2)) (u1 18 0)))) hP
      replace hD : va_D A (wC tk ad (mup (mup u1 11 0 (nI (p9 + 4 * (rpC (fun k => ri f t0 (p9 + 4 * k)) one 1 (fr9 + (hf q9)) (q9 - (hf q9)) (m9 - (hf q9))).2.2 + 4))) 18 0 (jn (ri f t0 (p9 + 4 * (rpC (fun k => ri f t0 (p9 + 4 * k)) one 1 (fr9 + (hf q9)) (q9 - (hf q9)) (m9 - (hf q9))).2.2)) (u1 18 0))) rr ++ tl) := Eq.mp (congrArg (fun w => va_D A w) (sC_15_9 tk ad (mup u1 11 0 (nI (p9 + 4 * (rpC (fun k => ri f t0 (p9 + 4 * k)) one 1 (fr9 + (hf q9)) (q9 - (hf q9)) (m9 - (hf q9))).2.2 + 4))) rr tl (jn (ri f t0 (p9 + 4 * (rpC (fun k => ri f t0 (p9 + 4 * k)) one 1 (fr9 + (hf q9)) (q9 - (hf q9)) (m9 - (hf q9))).2.2)) (u1 18 0)))) hD
      refine lv_aload_n hx hb d_V_readPart_109 rfl (lv_at hl 2 rfl) ?_
      refine lv_iload hx hb d_V_readPart_110 (lv_at hl 0 rfl) ?_
      refine lv_aload_n hx hb d_V_readPart_112 rfl (lv_at hl 2 rfl) ?_
      refine gf_V_46 (v := .int ((mup (mup u1 11 0 (nI (p9 + 4 * (rpC (fun k => ri f t0 (p9 + 4 * k)) one 1 (fr9 + (hf q9)) (q9 - (hf q9)) (m9 - (hf q9))).2.2 + 4))) 18 0 (jn (ri f t0 (p9 + 4 * (rpC (fun k => ri f t0 (p9 + 4 * k)) one 1 (fr9 + (hf q9)) (q9 - (hf q9)) (m9 - (hf q9))).2.2)) (u1 18 0))) 19 0)) hx hb hT hown hK hP 15 rfl rfl d_V_readPart_113 ?_
      refine st_top (show (mup (mup u1 11 0 (nI (p9 + 4 * (rpC (fun k => ri f t0 (p9 + 4 * k)) one 1 (fr9 + (hf q9)) (q9 - (hf q9)) (m9 - (hf q9))).2.2 + 4))) 18 0 (jn (ri f t0 (p9 + 4 * (rpC (fun k => ri f t0 (p9 + 4 * k)) one 1 (fr9 + (hf q9)) (q9 - (hf q9)) (m9 - (hf q9))).2.2)) (u1 18 0))) 19 0 = u1 19 0 from (rd_ne (by decide) (rd_ne (by decide) rfl))) ?_
      refine k_calli (va_runSN (As := [.int (ri f t0 (p9 + 4 * (rpC (fun k => ri f t0 (p9 + 4 * k)) one 1 (fr9 + (hf q9)) (q9 - (hf q9)) (m9 - (hf q9))).2.2)), .int (u1 19 0)]) (rest := [.ref (ad 15)]) ⟨hx, hb, hml, hown, hts⟩ (c_K_join l D tk H.size (ri f t0 (p9 + 4 * (rpC (fun k => ri f t0 (p9 + 4 * k)) one 1 (fr9 + (hf q9)) (q9 - (hf q9)) (m9 - (hf q9))).2.2)) (u1 19 0) (wC tk ad (mup (mup u1 11 0 (nI (p9 + 4 * (rpC (fun k => ri f t0 (p9 + 4 * k)) one 1 (fr9 + (hf q9)) (q9 - (hf q9)) (m9 - (hf q9))).2.2 + 4))) 18 0 (jn (ri f t0 (p9 + 4 * (rpC (fun k => ri f t0 (p9 + 4 * k)) one 1 (fr9 + (hf q9)) (q9 - (hf q9)) (m9 - (hf q9))).2.2)) (u1 18 0))) rr ++ tl)) ⟨(va_cnB 2 hts (gB t_814) rfl rfl rfl (hnw.1 _ _ _ _ n_904) (hT _ t_1) (by decide +kernel) ⟨Nat.le_of_ble_eq_true rfl, Nat.le_of_ble_eq_true rfl⟩), hT _ t_813, trivial⟩ (k_preS hP hK hD hnw) rfl rfl hl.1 rfl (lv_room (Nat.le_of_ble_eq_true rfl)) d_V_readPart_116 hc0) hD hS hA (fun _ _ H locs hp116 hP hD hK hS => ?_)
      subst hp116
      replace hP : va_P D CC (wC tk ad (mup (mup u1 11 0 (nI (p9 + 4 * (rpC (fun k => ri f t0 (p9 + 4 * k)) one 1 (fr9 + (hf q9)) (q9 - (hf q9)) (m9 - (hf q9))).2.2 + 4))) 18 0 (jn (ri f t0 (p9 + 4 * (rpC (fun k => ri f t0 (p9 + 4 * k)) one 1 (fr9 + (hf q9)) (q9 - (hf q9)) (m9 - (hf q9))).2.2)) (u1 18 0))) rr ++ tl) H := hP
      replace hD : va_D A (wC tk ad (mup (mup u1 11 0 (nI (p9 + 4 * (rpC (fun k => ri f t0 (p9 + 4 * k)) one 1 (fr9 + (hf q9)) (q9 - (hf q9)) (m9 - (hf q9))).2.2 + 4))) 18 0 (jn (ri f t0 (p9 + 4 * (rpC (fun k => ri f t0 (p9 + 4 * k)) one 1 (fr9 + (hf q9)) (q9 - (hf q9)) (m9 - (hf q9))).2.2)) (u1 18 0))) rr ++ tl) := hD
      refine pf_V_46 hx hb hT hown hK hP hD hS 15 rfl (Nat.le_of_ble_eq_true rfl) d_V_readPart_119 (fun H locs hP hD hS => ?_)
      replace hP : va_P D CC (wC tk ad (mup (mup (mup u1 11 0 (nI (p9 + 4 * (rpC (fun k => ri f t0 (p9 + 4 * k)) one 1 (fr9 + (hf q9)) (q9 - (hf q9)) (m9 - (hf q9))).2.2 + 4))) 18 0 (jn (ri f t0 (p9 + 4 * (rpC (fun k => ri f t0 (p9 + 4 * k)) one 1 (fr9 + (hf q9)) (q9 - (hf q9)) (m9 - (hf q9))).2.2)) (u1 18 0))) 19 0 (jn (ri f t0 (p9 + 4 * (rpC (fun k => ri f t0 (p9 + 4 * k)) one 1 (fr9 + (hf q9)) (q9 - (hf q9)) (m9 - (hf q9))).2.2)) (u1 19 0))) rr ++ tl) H := Eq.mp (congrArg (fun w => va_P D CC w H) (sC_15_10 tk ad (mup (mup u1 11 0 (nI (p9 + 4 * (rpC (fun k => ri f t0 (p9 + 4 * k)) one 1 (fr9 + (hf q9)) (q9 - (hf q9)) (m9 - (hf q9))).2.2 + 4))) 18 0 (jn (ri f t0 (p9 + 4 * (rpC (fun k => ri f t0 (p9 + 4 * k)) one 1 (fr9 + (hf q9)) (q9 - (hf q9)) (m9 - (hf q9))).2.2)) (u1 18 0))) rr tl (jn (ri f t0 (p9 + 4 * (rpC (fun k => ri f t0 (p9 + 4 * k)) one 1 (fr9 + (hf q9)) (q9 - (hf q9)) (m9 - (hf q9))).2.2)) (u1 19 0)))) hP
      replace hD : va_D A (wC tk ad (mup (mup (mup u1 11 0 (nI (p9 + 4 * (rpC (fun k => ri f t0 (p9 + 4 * k)) one 1 (fr9 + (hf q9)) (q9 - (hf q9)) (m9 - (hf q9))).2.2 + 4))) 18 0 (jn (ri f t0 (p9 + 4 * (rpC (fun k => ri f t0 (p9 + 4 * k)) one 1 (fr9 + (hf q9)) (q9 - (hf q9)) (m9 - (hf q9))).2.2)) (u1 18 0))) 19 0 (jn (ri f t0 (p9 + 4 * (rpC (fun k => ri f t0 (p9 + 4 * k)) one 1 (fr9 + (hf q9)) (q9 - (hf q9)) (m9 - (hf q9))).2.2)) (u1 19 0))) rr ++ tl) := Eq.mp (congrArg (fun w => va_D A w) (sC_15_10 tk ad (mup (mup u1 11 0 (nI (p9 + 4 * (rpC (fun k => ri f t0 (p9 + 4 * k)) one 1 (fr9 + (hf q9)) (q9 - (hf q9)) (m9 - (hf q9))).2.2 + 4))) 18 0 (jn (ri f t0 (p9 + 4 * (rpC (fun k => ri f t0 (p9 + 4 * k)) one 1 (fr9 + (hf q9)) (q9 - (hf q9)) (m9 - (hf q9))).2.2)) (u1 18 0))) rr tl (jn (ri f t0 (p9 + 4 * (rpC (fun k => ri f t0 (p9 + 4 * k)) one 1 (fr9 + (hf q9)) (q9 - (hf q9)) (m9 - (hf q9))).2.2)) (u1 19 0)))) hD
      exact k_vret hQ hx hb hr hlk hK hP hD hS (mup (mup (mup u1 11 0 (nI (p9 + 4 * (rpC (fun k => ri f t0 (p9 + 4 * k)) one 1 (fr9 + (hf q9)) (q9 - (hf q9)) (m9 - (hf q9))).2.2 + 4))) 18 0 (jn (ri f t0 (p9 + 4 * (rpC (fun k => ri f t0 (p9 + 4 * k)) one 1 (fr9 + (hf q9)) (q9 - (hf q9)) (m9 - (hf q9))).2.2)) (u1 18 0))) 19 0 (jn (ri f t0 (p9 + 4 * (rpC (fun k => ri f t0 (p9 + 4 * k)) one 1 (fr9 + (hf q9)) (q9 - (hf q9)) (m9 - (hf q9))).2.2)) (u1 19 0))) rfl (by rw [rpC_r (fun k => ri f t0 (p9 + 4 * k)) one (k := 2) (d := 1) rfl (show ¬ q9 ≤ m9 by omega) (by omega)]; exact ⟨(vS_o (by decide) (vS_o (by decide) (vS_p _ hc1.1))), by rw [← hc1.2.1]; exact (rd_ne (by decide) rd_eq), by rw [← hc1.2.2.1]; exact rd_eq, (frx_2 (frx_2 (frx_2 hc1.2.2.2 (by decide)) (by decide)) (by decide))⟩) d_V_readPart_122
    · skip
      refine lv_aload_n hx hb d_V_readPart_44 rfl (lv_at hl 1 rfl) ?_
      refine lv_iload_n hx hb d_V_readPart_45 rfl (lv_at hl 2 rfl) ?_
      refine lv_iload_n hx hb d_V_readPart_46 rfl (lv_at hl 3 rfl) ?_
      refine lv_iload hx hb d_V_readPart_47 (lv_at hl 0 rfl) ?_
      refine lv_iload hx hb d_V_readPart_49 (lv_at hl 5 rfl) ?_
      refine k_callv (va_runV (As := [.int one, .int (nI fr9), .int (nI (hf q9)), .int (nI m9)]) (rest := []) ⟨hx, hb, hml, hown, hts⟩ (c_V_readPart1 l D tk H.size ad g rr tl f t0 ht0 hby p9 (by omega) one fr9 (hf q9) m9 (by omega) (by omega) (by omega) hv) (cwV 4 hts (gV t_921 t_923 s_14 t_8 t_924) rfl rfl rfl (by decide +kernel) ⟨Nat.le_of_ble_eq_true rfl, Nat.le_of_ble_eq_true rfl⟩) (k_preV hP hK hD hnw 15 rfl rfl) rfl rfl hl.1 rfl (lv_room (Nat.le_of_ble_eq_true rfl)) d_V_readPart_51 hc0) hD hS hA (fun u2 H locs hc2 hP hD hK hS => ?_)
      have hle2 := rpC_le (fun k => ri f t0 (p9 + 4 * k)) one 1 fr9 (hf q9) m9
      replace hP : va_P D CC (wC tk ad u2 rr ++ tl) H := hP
      replace hD : va_D A (wC tk ad u2 rr ++ tl) := hD
      refine lv_aload_n hx hb d_V_readPart_54 rfl (lv_at hl 1 rfl) ?_
      refine lv_aload_n hx hb d_V_readPart_55 rfl (lv_at hl 1 rfl) ?_
      refine gf_V_46 (v := .int (u2 19 0)) hx hb hT hown hK hP 15 rfl rfl d_V_readPart_56 ?_
      refine lv_aload_n hx hb d_V_readPart_59 rfl (lv_at hl 1 rfl) ?_
      refine k_calli (va_runV (As := []) (rest := [.int (u2 19 0), .ref (ad 15)]) ⟨hx, hb, hml, hown, hts⟩ (c_V_nextInt l D tk H.size ad u2 rr tl f t0 ht0 hby (p9 + 4 * (rpC (fun k => ri f t0 (p9 + 4 * k)) one 1 fr9 (hf q9) m9).2.2) (by omega) hc2.1) (cwV 0 hts (gV t_894 t_896 s_12 t_8 t_897) rfl rfl rfl (by decide +kernel) ⟨Nat.le_of_ble_eq_true rfl, Nat.le_of_ble_eq_true rfl⟩) (k_preV hP hK hD hnw 15 rfl rfl) rfl rfl hl.1 rfl (lv_room (Nat.le_of_ble_eq_true rfl)) d_V_readPart_60 hc0) hD hS hA (fun _ _ H locs hp60 hP hD hK hS => ?_)
      subst hp60
      replace hP : va_P D CC (wC tk ad (mup u2 11 0 (nI (p9 + 4 * (rpC (fun k => ri f t0 (p9 + 4 * k)) one 1 fr9 (hf q9) m9).2.2 + 4))) rr ++ tl) H := hP
      replace hD : va_D A (wC tk ad (mup u2 11 0 (nI (p9 + 4 * (rpC (fun k => ri f t0 (p9 + 4 * k)) one 1 fr9 (hf q9) m9).2.2 + 4))) rr ++ tl) := hD
      refine k_calli (va_runSN (As := [.int (u2 19 0), .int (ri f t0 (p9 + 4 * (rpC (fun k => ri f t0 (p9 + 4 * k)) one 1 fr9 (hf q9) m9).2.2))]) (rest := [.ref (ad 15)]) ⟨hx, hb, hml, hown, hts⟩ (c_K_join l D tk H.size (u2 19 0) (ri f t0 (p9 + 4 * (rpC (fun k => ri f t0 (p9 + 4 * k)) one 1 fr9 (hf q9) m9).2.2)) (wC tk ad (mup u2 11 0 (nI (p9 + 4 * (rpC (fun k => ri f t0 (p9 + 4 * k)) one 1 fr9 (hf q9) m9).2.2 + 4))) rr ++ tl)) ⟨(va_cnB 2 hts (gB t_814) rfl rfl rfl (hnw.1 _ _ _ _ n_904) (hT _ t_1) (by decide +kernel) ⟨Nat.le_of_ble_eq_true rfl, Nat.le_of_ble_eq_true rfl⟩), hT _ t_813, trivial⟩ (k_preS hP hK hD hnw) rfl rfl hl.1 rfl (lv_room (Nat.le_of_ble_eq_true rfl)) d_V_readPart_63 hc0) hD hS hA (fun _ _ H locs hp63 hP hD hK hS => ?_)
      subst hp63
      replace hP : va_P D CC (wC tk ad (mup u2 11 0 (nI (p9 + 4 * (rpC (fun k => ri f t0 (p9 + 4 * k)) one 1 fr9 (hf q9) m9).2.2 + 4))) rr ++ tl) H := hP
      replace hD : va_D A (wC tk ad (mup u2 11 0 (nI (p9 + 4 * (rpC (fun k => ri f t0 (p9 + 4 * k)) one 1 fr9 (hf q9) m9).2.2 + 4))) rr ++ tl) := hD
      refine pf_V_46 hx hb hT hown hK hP hD hS 15 rfl (Nat.le_of_ble_eq_true rfl) d_V_readPart_66 (fun H locs hP hD hS => ?_)
      replace hP : va_P D CC (wC tk ad (mup (mup u2 11 0 (nI (p9 + 4 * (rpC (fun k => ri f t0 (p9 + 4 * k)) one 1 fr9 (hf q9) m9).2.2 + 4))) 19 0 (jn (u2 19 0) (ri f t0 (p9 + 4 * (rpC (fun k => ri f t0 (p9 + 4 * k)) one 1 fr9 (hf q9) m9).2.2)))) rr ++ tl) H := Eq.mp (congrArg (fun w => va_P D CC w H) (sC_15_10 tk ad (mup u2 11 0 (nI (p9 + 4 * (rpC (fun k => ri f t0 (p9 + 4 * k)) one 1 fr9 (hf q9) m9).2.2 + 4))) rr tl (jn (u2 19 0) (ri f t0 (p9 + 4 * (rpC (fun k => ri f t0 (p9 + 4 * k)) one 1 fr9 (hf q9) m9).2.2))))) hP
      replace hD : va_D A (wC tk ad (mup (mup u2 11 0 (nI (p9 + 4 * (rpC (fun k => ri f t0 (p9 + 4 * k)) one 1 fr9 (hf q9) m9).2.2 + 4))) 19 0 (jn (u2 19 0) (ri f t0 (p9 + 4 * (rpC (fun k => ri f t0 (p9 + 4 * k)) one 1 fr9 (hf q9) m9).2.2)))) rr ++ tl) := Eq.mp (congrArg (fun w => va_D A w) (sC_15_10 tk ad (mup u2 11 0 (nI (p9 + 4 * (rpC (fun k => ri f t0 (p9 + 4 * k)) one 1 fr9 (hf q9) m9).2.2 + 4))) rr tl (jn (u2 19 0) (ri f t0 (p9 + 4 * (rpC (fun k => ri f t0 (p9 + 4 * k)) one 1 fr9 (hf q9) m9).2.2))))) hD
      refine lv_goto hx hb d_V_readPart_69 (tgt := 122) (by decide) ?_
      exact k_vret hQ hx hb hr hlk hK hP hD hS (mup (mup u2 11 0 (nI (p9 + 4 * (rpC (fun k => ri f t0 (p9 + 4 * k)) one 1 fr9 (hf q9) m9).2.2 + 4))) 19 0 (jn (u2 19 0) (ri f t0 (p9 + 4 * (rpC (fun k => ri f t0 (p9 + 4 * k)) one 1 fr9 (hf q9) m9).2.2)))) rfl (by rw [rpC_l (fun k => ri f t0 (p9 + 4 * k)) one (k := 2) (d := 1) rfl (show ¬ q9 ≤ m9 by omega) (by omega)]; exact ⟨(vS_o (by decide) (vS_p _ hc2.1)), by rw [← hc2.2.1]; exact (rd_ne (by decide) (rd_ne (by decide) rfl)), by rw [← hc2.2.2.1]; exact rd_eq, (frx_2 (frx_2 hc2.2.2.2 (by decide)) (by decide))⟩) d_V_readPart_122
  · skip
    refine lv_aload_n hx hb d_V_readPart_6 rfl (lv_at hl 0 rfl) ?_
    refine lv_iload_n hx hb d_V_readPart_7 rfl (lv_at hl 2 rfl) ?_
    refine st_if_ne hx hb (by omega) d_V_readPart_8 (tgt := 15) (by decide) (fun hc8 => ?_) (fun hc8 => ?_)
    · skip
      refine lv_aload_n hx hb d_V_readPart_15 rfl (lv_at hl 0 rfl) ?_
      refine k_calli (va_runV (As := []) (rest := [.ref (ad 15)]) ⟨hx, hb, hml, hown, hts⟩ (c_V_nextInt l D tk s.heap.size ad g rr tl f t0 ht0 hby p9 (by omega) hv) (cwV 0 hts (gV t_894 t_896 s_12 t_8 t_897) rfl rfl rfl (by decide +kernel) ⟨Nat.le_of_ble_eq_true rfl, Nat.le_of_ble_eq_true rfl⟩) (k_preV hP hK hD hnw 15 rfl rfl) rfl rfl hl.1 rfl (lv_room (Nat.le_of_ble_eq_true rfl)) d_V_readPart_16 hc0) hD hS hA (fun _ _ H locs hp16 hP hD hK hS => ?_)
      subst hp16
      replace hP : va_P D CC (wC tk ad (mup g 11 0 (nI (p9 + 4))) rr ++ tl) H := hP
      replace hD : va_D A (wC tk ad (mup g 11 0 (nI (p9 + 4))) rr ++ tl) := hD
      refine pf_V_43 hx hb hT hown hK hP hD hS 15 rfl (Nat.le_of_ble_eq_true rfl) d_V_readPart_19 (fun H locs hP hD hS => ?_)
      replace hP : va_P D CC (wC tk ad (mup (mup g 11 0 (nI (p9 + 4))) 18 0 (ri f t0 p9)) rr ++ tl) H := Eq.mp (congrArg (fun w => va_P D CC w H) (sC_15_9 tk ad (mup g 11 0 (nI (p9 + 4))) rr tl (ri f t0 p9))) hP
      replace hD : va_D A (wC tk ad (mup (mup g 11 0 (nI (p9 + 4))) 18 0 (ri f t0 p9)) rr ++ tl) := Eq.mp (congrArg (fun w => va_D A w) (sC_15_9 tk ad (mup g 11 0 (nI (p9 + 4))) rr tl (ri f t0 p9))) hD
      refine lv_aload_n hx hb d_V_readPart_22 rfl (lv_at hl 0 rfl) ?_
      refine lv_aload_n hx hb d_V_readPart_23 rfl (lv_at hl 0 rfl) ?_
      refine gf_V_43 (v := .int ((mup (mup g 11 0 (nI (p9 + 4))) 18 0 (ri f t0 p9)) 18 0)) hx hb hT hown hK hP 15 rfl rfl d_V_readPart_24 ?_
      refine st_top (show (mup (mup g 11 0 (nI (p9 + 4))) 18 0 (ri f t0 p9)) 18 0 = ri f t0 p9 from rd_eq) ?_
      refine pf_V_46 hx hb hT hown hK hP hD hS 15 rfl (Nat.le_of_ble_eq_true rfl) d_V_readPart_27 (fun H locs hP hD hS => ?_)
      replace hP : va_P D CC (wC tk ad (mup (mup (mup g 11 0 (nI (p9 + 4))) 18 0 (ri f t0 p9)) 19 0 (ri f t0 p9)) rr ++ tl) H := Eq.mp (congrArg (fun w => va_P D CC w H) (sC_15_10 tk ad (mup (mup g 11 0 (nI (p9 + 4))) 18 0 (ri f t0 p9)) rr tl (ri f t0 p9))) hP
      replace hD : va_D A (wC tk ad (mup (mup (mup g 11 0 (nI (p9 + 4))) 18 0 (ri f t0 p9)) 19 0 (ri f t0 p9)) rr ++ tl) := Eq.mp (congrArg (fun w => va_D A w) (sC_15_10 tk ad (mup (mup g 11 0 (nI (p9 + 4))) 18 0 (ri f t0 p9)) rr tl (ri f t0 p9))) hD
      exact k_vret hQ hx hb hr hlk hK hP hD hS (mup (mup (mup g 11 0 (nI (p9 + 4))) 18 0 (ri f t0 p9)) 19 0 (ri f t0 p9)) rfl (by rw [rpC_1 (fun k => ri f t0 (p9 + 4 * k)) one 2 (show q9 ≤ m9 by omega) (show ¬ fr9 = 0 by omega)]; exact ⟨(vS_o (by decide) (vS_o (by decide) (vS_p _ hv))), (rd_ne (by decide) rd_eq), rd_eq, (frx_2 (frx_2 (frx_2 frx_r (by decide)) (by decide)) (by decide))⟩) d_V_readPart_30
    · skip
      refine lv_iload_n hx hb d_V_readPart_11 rfl (lv_at hl 1 rfl) ?_
      refine lv_goto hx hb d_V_readPart_12 (tgt := 19) (by decide) ?_
      refine pf_V_43 hx hb hT hown hK hP hD hS 15 rfl (Nat.le_of_ble_eq_true rfl) d_V_readPart_19 (fun H locs hP hD hS => ?_)
      replace hP : va_P D CC (wC tk ad (mup g 18 0 one) rr ++ tl) H := Eq.mp (congrArg (fun w => va_P D CC w H) (sC_15_9 tk ad g rr tl one)) hP
      replace hD : va_D A (wC tk ad (mup g 18 0 one) rr ++ tl) := Eq.mp (congrArg (fun w => va_D A w) (sC_15_9 tk ad g rr tl one)) hD
      refine lv_aload_n hx hb d_V_readPart_22 rfl (lv_at hl 0 rfl) ?_
      refine lv_aload_n hx hb d_V_readPart_23 rfl (lv_at hl 0 rfl) ?_
      refine gf_V_43 (v := .int ((mup g 18 0 one) 18 0)) hx hb hT hown hK hP 15 rfl rfl d_V_readPart_24 ?_
      refine st_top (show (mup g 18 0 one) 18 0 = one from rd_eq) ?_
      refine pf_V_46 hx hb hT hown hK hP hD hS 15 rfl (Nat.le_of_ble_eq_true rfl) d_V_readPart_27 (fun H locs hP hD hS => ?_)
      replace hP : va_P D CC (wC tk ad (mup (mup g 18 0 one) 19 0 one) rr ++ tl) H := Eq.mp (congrArg (fun w => va_P D CC w H) (sC_15_10 tk ad (mup g 18 0 one) rr tl one)) hP
      replace hD : va_D A (wC tk ad (mup (mup g 18 0 one) 19 0 one) rr ++ tl) := Eq.mp (congrArg (fun w => va_D A w) (sC_15_10 tk ad (mup g 18 0 one) rr tl one)) hD
      exact k_vret hQ hx hb hr hlk hK hP hD hS (mup (mup g 18 0 one) 19 0 one) rfl (by rw [rpC_0 (fun k => ri f t0 (p9 + 4 * k)) one 2 (show q9 ≤ m9 by omega) (show fr9 = 0 by omega) (Or.inr (by omega))]; exact ⟨(vS_o (by decide) (vS_o (by decide) hv)), (rd_ne (by decide) rd_eq), rd_eq, (frx_2 (frx_2 frx_r (by decide)) (by decide))⟩) d_V_readPart_30

set_option maxHeartbeats 4000000 in
set_option maxRecDepth 100000 in
theorem c_V_readPart3 (l : Launch) (D : va_G) (tk : Nat → ClassId) (sz : Nat) (ad : Nat → Nat) (g : Nat → Nat → Int32) (rr : Nat → Nat → Option Nat) (tl : va_W) (f : Nat → Int32) (t0 : Nat) (ht0 : t0 ≤ 400) (hby : byF f t0) (p9 : Nat) (hp9 : p9 + 40 < 2 ^ 20) (one : Int32) (fr9 q9 m9 : Nat) (hq : 1 ≤ q9 ∧ q9 ≤ 8) (hm : 1 ≤ m9 ∧ m9 ≤ q9) (hf9 : fr9 + q9 ≤ 16) (hv : vS g f t0 p9) : Met l y_V_readPart w_V_readPart ({ frames := 6, cells := 0, slots := 0, locals := 142 }) (va_Pc [.ref (ad 15), .int one, .int (nI fr9), .int (nI q9), .int (nI m9)] (k_pre D (TY tk) sz (wC tk ad g rr ++ tl))) (va_Qv (fun (u : Nat → Nat → Int32) => vS u f t0 (p9 + 4 * (rpC (fun k => ri f t0 (p9 + 4 * k)) one 3 fr9 q9 m9).2.2) ∧ u 18 0 = (rpC (fun k => ri f t0 (p9 + 4 * k)) one 3 fr9 q9 m9).1 ∧ u 19 0 = (rpC (fun k => ri f t0 (p9 + 4 * k)) one 3 fr9 q9 m9).2.1 ∧ frx [11, 18, 19] g u) (fun u t => k_at D (TY tk) (va_A (wC tk ad g rr ++ tl) sz) ((fun u => wC tk ad u rr ++ tl) u) t) (va_A (wC tk ad g rr ++ tl) sz)) 0 0 (va_A (wC tk ad g rr ++ tl) sz) := by
  refine k_ofW (fun A => va_Qv (fun (u : Nat → Nat → Int32) => vS u f t0 (p9 + 4 * (rpC (fun k => ri f t0 (p9 + 4 * k)) one 3 fr9 q9 m9).2.2) ∧ u 18 0 = (rpC (fun k => ri f t0 (p9 + 4 * k)) one 3 fr9 q9 m9).1 ∧ u 19 0 = (rpC (fun k => ri f t0 (p9 + 4 * k)) one 3 fr9 q9 m9).2.1 ∧ frx [11, 18, 19] g u) (fun u t => k_at D (TY tk) A ((fun u => wC tk ad u rr ++ tl) u) t) A) (by decide) (Nat.le_of_ble_eq_true rfl) ?_
  intro p e s m args below meth c Q A ls hQ hx hb hr hlk hin hts hT hown hml hnw hP hK hD hA hsz hl
  have hS : va_S A s.heap s.heap [] := va_S.rf
  have hc0 : 0 + 0 ≤ 0 ∧ 0 + 0 ≤ 0 := ⟨by decide, by decide⟩
  replace hl : lv_has ls 7 [(0, .ref (ad 15)), (1, .int one), (2, .int (nI fr9)), (3, .int (nI q9)), (4, .int (nI m9))] := hl
  replace hP : va_P D CC (wC tk ad g rr ++ tl) s.heap := hP
  replace hK : va_K D CC (TY tk) s := hK
  refine lv_iload hx hb d_V_readPart_0 (lv_at hl 4 rfl) ?_
  refine lv_iload_n hx hb d_V_readPart_2 rfl (lv_at hl 3 rfl) ?_
  refine st_icmp_lt hx hb (by omega) (by omega) d_V_readPart_3 (tgt := 31) (by decide) (fun hc3 => ?_) (fun hc3 => ?_)
  · skip
    refine lv_iload_n hx hb d_V_readPart_31 rfl (lv_at hl 3 rfl) ?_
    refine k_calli (va_runSN (As := [.int (nI q9)]) (rest := []) ⟨hx, hb, hml, hown, hts⟩ (c_K_half l D tk s.heap.size q9 (by omega) (wC tk ad g rr ++ tl)) ⟨(va_cnB 1 hts (gB t_810) rfl rfl rfl (hnw.1 _ _ _ _ n_903) (hT _ t_1) (by decide +kernel) ⟨Nat.le_of_ble_eq_true rfl, Nat.le_of_ble_eq_true rfl⟩), hT _ t_809, trivial⟩ (k_preS hP hK hD hnw) rfl rfl hl.1 rfl (lv_room (Nat.le_of_ble_eq_true rfl)) d_V_readPart_32 hc0) hD hS hA (fun _ _ H locs hp32 hP hD hK hS => ?_)
    subst hp32
    have hhf := hf_b (q := q9) (by omega) (by omega)
    replace hP : va_P D CC (wC tk ad g rr ++ tl) H := hP
    replace hD : va_D A (wC tk ad g rr ++ tl) := hD
    refine lv_istore (lv' := [(5, .int (nI (hf q9))), (0, .ref (ad 15)), (1, .int one), (2, .int (nI fr9)), (3, .int (nI q9)), (4, .int (nI m9))]) hx hb d_V_readPart_35 hl (by decide) rfl (fun ls hl => ?_)
    refine lv_iload hx hb d_V_readPart_37 (lv_at hl 5 rfl) ?_
    refine lv_iload hx hb d_V_readPart_39 (lv_at hl 0 rfl) ?_
    refine st_icmp_gt hx hb (by omega) (by omega) d_V_readPart_41 (tgt := 72) (by decide) (fun hc41 => ?_) (fun hc41 => ?_)
    · skip
      refine lv_aload_n hx hb d_V_readPart_72 rfl (lv_at hl 1 rfl) ?_
      refine lv_iload_n hx hb d_V_readPart_73 rfl (lv_at hl 2 rfl) ?_
      refine lv_iload_n hx hb d_V_readPart_74 rfl (lv_at hl 3 rfl) ?_
      refine lv_iload hx hb d_V_readPart_75 (lv_at hl 0 rfl) ?_
      refine st_iadd hx hb d_V_readPart_77 ?_
      refine lv_iload_n hx hb d_V_readPart_78 rfl (lv_at hl 4 rfl) ?_
      refine lv_iload hx hb d_V_readPart_79 (lv_at hl 0 rfl) ?_
      refine st_isub hx hb (by omega) d_V_readPart_81 ?_
      refine lv_iload hx hb d_V_readPart_82 (lv_at hl 5 rfl) ?_
      refine lv_iload hx hb d_V_readPart_84 (lv_at hl 0 rfl) ?_
      refine st_isub hx hb (by omega) d_V_readPart_86 ?_
      refine k_callv (va_runV (As := [.int one, .int (nI (fr9 + (hf q9))), .int (nI (q9 - (hf q9))), .int (nI (m9 - (hf q9)))]) (rest := []) ⟨hx, hb, hml, hown, hts⟩ (c_V_readPart2 l D tk H.size ad g rr tl f t0 ht0 hby p9 (by omega) one (fr9 + (hf q9)) (q9 - (hf q9)) (m9 - (hf q9)) (by omega) (by omega) (by omega) hv) (cwV 4 hts (gV t_921 t_923 s_14 t_8 t_924) rfl rfl rfl (by decide +kernel) ⟨Nat.le_of_ble_eq_true rfl, Nat.le_of_ble_eq_true rfl⟩) (k_preV hP hK hD hnw 15 rfl rfl) rfl rfl hl.1 rfl (lv_room (Nat.le_of_ble_eq_true rfl)) d_V_readPart_87 hc0) hD hS hA (fun u1 H locs hc1 hP hD hK hS => ?_)
      have hle1 := rpC_le (fun k => ri f t0 (p9 + 4 * k)) one 2 (fr9 + (hf q9)) (q9 - (hf q9)) (m9 - (hf q9))
      replace hP : va_P D CC (wC tk ad u1 rr ++ tl) H := hP
      replace hD : va_D A (wC tk ad u1 rr ++ tl) := hD
      refine lv_aload_n hx hb d_V_readPart_90 rfl (lv_at hl 1 rfl) ?_
      refine k_calli (va_runV (As := []) (rest := []) ⟨hx, hb, hml, hown, hts⟩ (c_V_nextInt l D tk H.size ad u1 rr tl f t0 ht0 hby (p9 + 4 * (rpC (fun k => ri f t0 (p9 + 4 * k)) one 2 (fr9 + (hf q9)) (q9 - (hf q9)) (m9 - (hf q9))).2.2) (by omega) hc1.1) (cwV 0 hts (gV t_894 t_896 s_12 t_8 t_897) rfl rfl rfl (by decide +kernel) ⟨Nat.le_of_ble_eq_true rfl, Nat.le_of_ble_eq_true rfl⟩) (k_preV hP hK hD hnw 15 rfl rfl) rfl rfl hl.1 rfl (lv_room (Nat.le_of_ble_eq_true rfl)) d_V_readPart_91 hc0) hD hS hA (fun _ _ H locs hp91 hP hD hK hS => ?_)
      subst hp91
      replace hP : va_P D CC (wC tk ad (mup u1 11 0 (nI (p9 + 4 * (rpC (fun k => ri f t0 (p9 + 4 * k)) one 2 (fr9 + (hf q9)) (q9 - (hf q9)) (m9 - (hf q9))).2.2 + 4))) rr ++ tl) H := hP
      replace hD : va_D A (wC tk ad (mup u1 11 0 (nI (p9 + 4 * (rpC (fun k => ri f t0 (p9 + 4 * k)) one 2 (fr9 + (hf q9)) (q9 - (hf q9)) (m9 - (hf q9))).2.2 + 4))) rr ++ tl) := hD
      refine lv_istore (lv' := [(6, .int (ri f t0 (p9 + 4 * (rpC (fun k => ri f t0 (p9 + 4 * k)) one 2 (fr9 + (hf q9)) (q9 - (hf q9)) (m9 - (hf q9))).2.2))), (5, .int (nI (hf q9))), (0, .ref (ad 15)), (1, .int one), (2, .int (nI fr9)), (3, .int (nI q9)), (4, .int (nI m9))]) hx hb d_V_readPart_94 hl (by decide) rfl (fun ls hl => ?_)
      refine lv_aload_n hx hb d_V_readPart_96 rfl (lv_at hl 2 rfl) ?_
      refine lv_iload hx hb d_V_readPart_97 (lv_at hl 0 rfl) ?_
      refine lv_aload_n hx hb d_V_readPart_99 rfl (lv_at hl 2 rfl) ?_
      refine gf_V_43 (v := .int ((mup u1 11 0 (nI (p9 + 4 * (rpC (fun k => ri f t0 (p9 + 4 * k)) one 2 (fr9 + (hf q9)) (q9 - (hf q9)) (m9 - (hf q9))).2.2 + 4))) 18 0)) hx hb hT hown hK hP 15 rfl rfl d_V_readPart_100 ?_
      refine st_top (show (mup u1 11 0 (nI (p9 + 4 * (rpC (fun k => ri f t0 (p9 + 4 * k)) one 2 (fr9 + (hf q9)) (q9 - (hf q9)) (m9 - (hf q9))).2.2 + 4))) 18 0 = u1 18 0 from (rd_ne (by decide) rfl)) ?_
      refine k_calli (va_runSN (As := [.int (ri f t0 (p9 + 4 * (rpC (fun k => ri f t0 (p9 + 4 * k)) one 2 (fr9 + (hf q9)) (q9 - (hf q9)) (m9 - (hf q9))).2.2)), .int (u1 18 0)]) (rest := [.ref (ad 15)]) ⟨hx, hb, hml, hown, hts⟩ (c_K_join l D tk H.size (ri f t0 (p9 + 4 * (rpC (fun k => ri f t0 (p9 + 4 * k)) one 2 (fr9 + (hf q9)) (q9 - (hf q9)) (m9 - (hf q9))).2.2)) (u1 18 0) (wC tk ad (mup u1 11 0 (nI (p9 + 4 * (rpC (fun k => ri f t0 (p9 + 4 * k)) one 2 (fr9 + (hf q9)) (q9 - (hf q9)) (m9 - (hf q9))).2.2 + 4))) rr ++ tl)) ⟨(va_cnB 2 hts (gB t_814) rfl rfl rfl (hnw.1 _ _ _ _ n_904) (hT _ t_1) (by decide +kernel) ⟨Nat.le_of_ble_eq_true rfl, Nat.le_of_ble_eq_true rfl⟩), hT _ t_813, trivial⟩ (k_preS hP hK hD hnw) rfl rfl hl.1 rfl (lv_room (Nat.le_of_ble_eq_true rfl)) d_V_readPart_103 hc0) hD hS hA (fun _ _ H locs hp103 hP hD hK hS => ?_)
      subst hp103
      replace hP : va_P D CC (wC tk ad (mup u1 11 0 (nI (p9 + 4 * (rpC (fun k => ri f t0 (p9 + 4 * k)) one 2 (fr9 + (hf q9)) (q9 - (hf q9)) (m9 - (hf q9))).2.2 + 4))) rr ++ tl) H := hP
      replace hD : va_D A (wC tk ad (mup u1 11 0 (nI (p9 + 4 * (rpC (fun k => ri f t0 (p9 + 4 * k)) one 2 (fr9 + (hf q9)) (q9 - (hf q9)) (m9 - (hf q9))).2.2 + 4))) rr ++ tl) := hD
      refine pf_V_43 hx hb hT hown hK hP hD hS 15 rfl (Nat.le_of_ble_eq_true rfl) d_V_readPart_106 (fun H locs hP hD hS => ?_)
      replace hP : va_P D CC (wC tk ad (mup (mup u1 11 0 (nI (p9 + 4 * (rpC (fun k => ri f t0 (p9 + 4 * k)) one 2 (fr9 + (hf q9)) (q9 - (hf q9)) (m9 - (hf q9))).2.2 + 4))) 18 0 (jn (ri f t0 (p9 + 4 * (rpC (fun k => ri f t0 (p9 + 4 * k)) one 2 (fr9 + (hf q9)) (q9 - (hf q9)) (m9 - (hf q9))).2.2)) (u1 18 0))) rr ++ tl) H := Eq.mp (congrArg (fun w => va_P D CC w H) (sC_15_9 tk ad (mup u1 11 0 (nI (p9 + 4 * (rpC (fun k => ri f t0 (p9 + 4 * k)) one 2 (fr9 + (hf q9)) (q9 - (hf q9)) (m9 - (hf q9))).2.2 + 4))) rr tl (jn (ri f t0 (p9 + 4 * (rpC (fun k => ri f t0 (p9 + 4 * k)) one 2 (fr9 + (hf q9)) (q9 - (hf q9)) (m9 - (hf q9))).2.2)) (u1 18 0)))) hP
      replace hD : va_D A (wC tk ad (mup (mup u1 11 0 (nI (p9 + 4 * (rpC (fun k => ri f t0 (p9 + 4 * k)) one 2 (fr9 + (hf q9)) (q9 - (hf q9)) (m9 - (hf q9))).2.2 + 4))) 18 0 (jn (ri f t0 (p9 + 4 * (rpC (fun k => ri f t0 (p9 + 4 * k)) one 2 (fr9 + (hf q9)) (q9 - (hf q9)) (m9 - (hf q9))).2.2)) (u1 18 0))) rr ++ tl) := Eq.mp (congrArg (fun w => va_D A w) (sC_15_9 tk ad (mup u1 11 0 (nI (p9 + 4 * (rpC (fun k => ri f t0 (p9 + 4 * k)) one 2 (fr9 + (hf q9)) (q9 - (hf q9)) (m9 - (hf q9))).2.2 + 4))) rr tl (jn (ri f t0 (p9 + 4 * (rpC (fun k => ri f t0 (p9 + 4 * k)) one 2 (fr9 + (hf q9)) (q9 - (hf q9)) (m9 - (hf q9))).2.2)) (u1 18 0)))) hD
      refine lv_aload_n hx hb d_V_readPart_109 rfl (lv_at hl 2 rfl) ?_
      refine lv_iload hx hb d_V_readPart_110 (lv_at hl 0 rfl) ?_
      refine lv_aload_n hx hb d_V_readPart_112 rfl (lv_at hl 2 rfl) ?_
      refine gf_V_46 (v := .int ((mup (mup u1 11 0 (nI (p9 + 4 * (rpC (fun k => ri f t0 (p9 + 4 * k)) one 2 (fr9 + (hf q9)) (q9 - (hf q9)) (m9 - (hf q9))).2.2 + 4))) 18 0 (jn (ri f t0 (p9 + 4 * (rpC (fun k => ri f t0 (p9 + 4 * k)) one 2 (fr9 + (hf q9)) (q9 - (hf q9)) (m9 - (hf q9))).2.2)) (u1 18 0))) 19 0)) hx hb hT hown hK hP 15 rfl rfl d_V_readPart_113 ?_
      refine st_top (show (mup (mup u1 11 0 (nI (p9 + 4 * (rpC (fun k => ri f t0 (p9 + 4 * k)) one 2 (fr9 + (hf q9)) (q9 - (hf q9)) (m9 - (hf q9))).2.2 + 4))) 18 0 (jn (ri f t0 (p9 + 4 * (rpC (fun k => ri f t0 (p9 + 4 * k)) one 2 (fr9 + (hf q9)) (q9 - (hf q9)) (m9 - (hf q9))).2.2)) (u1 18 0))) 19 0 = u1 19 0 from (rd_ne (by decide) (rd_ne (by decide) rfl))) ?_
      refine k_calli (va_runSN (As := [.int (ri f t0 (p9 + 4 * (rpC (fun k => ri f t0 (p9 + 4 * k)) one 2 (fr9 + (hf q9)) (q9 - (hf q9)) (m9 - (hf q9))).2.2)), .int (u1 19 0)]) (rest := [.ref (ad 15)]) ⟨hx, hb, hml, hown, hts⟩ (c_K_join l D tk H.size (ri f t0 (p9 + 4 * (rpC (fun k => ri f t0 (p9 + 4 * k)) one 2 (fr9 + (hf q9)) (q9 - (hf q9)) (m9 - (hf q9))).2.2)) (u1 19 0) (wC tk ad (mup (mup u1 11 0 (nI (p9 + 4 * (rpC (fun k => ri f t0 (p9 + 4 * k)) one 2 (fr9 + (hf q9)) (q9 - (hf q9)) (m9 - (hf q9))).2.2 + 4))) 18 0 (jn (ri f t0 (p9 + 4 * (rpC (fun k => ri f t0 (p9 + 4 * k)) one 2 (fr9 + (hf q9)) (q9 - (hf q9)) (m9 - (hf q9))).2.2)) (u1 18 0))) rr ++ tl)) ⟨(va_cnB 2 hts (gB t_814) rfl rfl rfl (hnw.1 _ _ _ _ n_904) (hT _ t_1) (by decide +kernel) ⟨Nat.le_of_ble_eq_true rfl, Nat.le_of_ble_eq_true rfl⟩), hT _ t_813, trivial⟩ (k_preS hP hK hD hnw) rfl rfl hl.1 rfl (lv_room (Nat.le_of_ble_eq_true rfl)) d_V_readPart_116 hc0) hD hS hA (fun _ _ H locs hp116 hP hD hK hS => ?_)
      subst hp116
      replace hP : va_P D CC (wC tk ad (mup (mup u1 11 0 (nI (p9 + 4 * (rpC (fun k => ri f t0 (p9 + 4 * k)) one 2 (fr9 + (hf q9)) (q9 - (hf q9)) (m9 - (hf q9))).2.2 + 4))) 18 0 (jn (ri f t0 (p9 + 4 * (rpC (fun k => ri f t0 (p9 + 4 * k)) one 2 (fr9 + (hf q9)) (q9 - (hf q9)) (m9 - (hf q9))).2.2)) (u1 18 0))) rr ++ tl) H := hP
      replace hD : va_D A (wC tk ad (mup (mup u1 11 0 (nI (p9 + 4 * (rpC (fun k => ri f t0 (p9 + 4 * k)) one 2 (fr9 + (hf q9)) (q9 - (hf q9)) (m9 - (hf q9))).2.2 + 4))) 18 0 (jn (ri f t0 (p9 + 4 * (rpC (fun k => ri f t0 (p9 + 4 * k)) one 2 (fr9 + (hf q9)) (q9 - (hf q9)) (m9 - (hf q9))).2.2)) (u1 18 0))) rr ++ tl) := hD
      refine pf_V_46 hx hb hT hown hK hP hD hS 15 rfl (Nat.le_of_ble_eq_true rfl) d_V_readPart_119 (fun H locs hP hD hS => ?_)
      replace hP : va_P D CC (wC tk ad (mup (mup (mup u1 11 0 (nI (p9 + 4 * (rpC (fun k => ri f t0 (p9 + 4 * k)) one 2 (fr9 + (hf q9)) (q9 - (hf q9)) (m9 - (hf q9))).2.2 + 4))) 18 0 (jn (ri f t0 (p9 + 4 * (rpC (fun k => ri f t0 (p9 + 4 * k)) one 2 (fr9 + (hf q9)) (q9 - (hf q9)) (m9 - (hf q9))).2.2)) (u1 18 0))) 19 0 (jn (ri f t0 (p9 + 4 * (rpC (fun k => ri f t0 (p9 + 4 * k)) one 2 (fr9 + (hf q9)) (q9 - (hf q9)) (m9 - (hf q9))).2.2)) (u1 19 0))) rr ++ tl) H := Eq.mp (congrArg (fun w => va_P D CC w H) (sC_15_10 tk ad (mup (mup u1 11 0 (nI (p9 + 4 * (rpC (fun k => ri f t0 (p9 + 4 * k)) one 2 (fr9 + (hf q9)) (q9 - (hf q9)) (m9 - (hf q9))).2.2 + 4))) 18 0 (jn (ri f t0 (p9 + 4 * (rpC (fun k => ri f t0 (p9 + 4 * k)) one 2 (fr9 + (hf q9)) (q9 - (hf q9)) (m9 - (hf q9))).2.2)) (u1 18 0))) rr tl (jn (ri f t0 (p9 + 4 * (rpC (fun k => ri f t0 (p9 + 4 * k)) one 2 (fr9 + (hf q9)) (q9 - (hf q9)) (m9 - (hf q9))).2.2)) (u1 19 0)))) hP
      replace hD : va_D A (wC tk ad (mup (mup (mup u1 11 0 (nI (p9 + 4 * (rpC (fun k => ri f t0 (p9 + 4 * k)) one 2 (fr9 + (hf q9)) (q9 - (hf q9)) (m9 - (hf q9))).2.2 + 4))) 18 0 (jn (ri f t0 (p9 + 4 * (rpC (fun k => ri f t0 (p9 + 4 * k)) one 2 (fr9 + (hf q9)) (q9 - (hf q9)) (m9 - (hf q9))).2.2)) (u1 18 0))) 19 0 (jn (ri f t0 (p9 + 4 * (rpC (fun k => ri f t0 (p9 + 4 * k)) one 2 (fr9 + (hf q9)) (q9 - (hf q9)) (m9 - (hf q9))).2.2)) (u1 19 0))) rr ++ tl) := Eq.mp (congrArg (fun w => va_D A w) (sC_15_10 tk ad (mup (mup u1 11 0 (nI (p9 + 4 * (rpC (fun k => ri f t0 (p9 + 4 * k)) one 2 (fr9 + (hf q9)) (q9 - (hf q9)) (m9 - (hf q9))).2.2 + 4))) 18 0 (jn (ri f t0 (p9 + 4 * (rpC (fun k => ri f t0 (p9 + 4 * k)) one 2 (fr9 + (hf q9)) (q9 - (hf q9)) (m9 - (hf q9))).2.2)) (u1 18 0))) rr tl (jn (ri f t0 (p9 + 4 * (rpC (fun k => ri f t0 (p9 + 4 * k)) one 2 (fr9 + (hf q9)) (q9 - (hf q9)) (m9 - (hf q9))).2.2)) (u1 19 0)))) hD
      exact k_vret hQ hx hb hr hlk hK hP hD hS (mup (mup (mup u1 11 0 (nI (p9 + 4 * (rpC (fun k => ri f t0 (p9 + 4 * k)) one 2 (fr9 + (hf q9)) (q9 - (hf q9)) (m9 - (hf q9))).2.2 + 4))) 18 0 (jn (ri f t0 (p9 + 4 * (rpC (fun k => ri f t0 (p9 + 4 * k)) one 2 (fr9 + (hf q9)) (q9 - (hf q9)) (m9 - (hf q9))).2.2)) (u1 18 0))) 19 0 (jn (ri f t0 (p9 + 4 * (rpC (fun k => ri f t0 (p9 + 4 * k)) one 2 (fr9 + (hf q9)) (q9 - (hf q9)) (m9 - (hf q9))).2.2)) (u1 19 0))) rfl (by rw [rpC_r (fun k => ri f t0 (p9 + 4 * k)) one (k := 3) (d := 2) rfl (show ¬ q9 ≤ m9 by omega) (by omega)]; exact ⟨(vS_o (by decide) (vS_o (by decide) (vS_p _ hc1.1))), by rw [← hc1.2.1]; exact (rd_ne (by decide) rd_eq), by rw [← hc1.2.2.1]; exact rd_eq, (frx_2 (frx_2 (frx_2 hc1.2.2.2 (by decide)) (by decide)) (by decide))⟩) d_V_readPart_122
    · skip
      refine lv_aload_n hx hb d_V_readPart_44 rfl (lv_at hl 1 rfl) ?_
      refine lv_iload_n hx hb d_V_readPart_45 rfl (lv_at hl 2 rfl) ?_
      refine lv_iload_n hx hb d_V_readPart_46 rfl (lv_at hl 3 rfl) ?_
      refine lv_iload hx hb d_V_readPart_47 (lv_at hl 0 rfl) ?_
      refine lv_iload hx hb d_V_readPart_49 (lv_at hl 5 rfl) ?_
      refine k_callv (va_runV (As := [.int one, .int (nI fr9), .int (nI (hf q9)), .int (nI m9)]) (rest := []) ⟨hx, hb, hml, hown, hts⟩ (c_V_readPart2 l D tk H.size ad g rr tl f t0 ht0 hby p9 (by omega) one fr9 (hf q9) m9 (by omega) (by omega) (by omega) hv) (cwV 4 hts (gV t_921 t_923 s_14 t_8 t_924) rfl rfl rfl (by decide +kernel) ⟨Nat.le_of_ble_eq_true rfl, Nat.le_of_ble_eq_true rfl⟩) (k_preV hP hK hD hnw 15 rfl rfl) rfl rfl hl.1 rfl (lv_room (Nat.le_of_ble_eq_true rfl)) d_V_readPart_51 hc0) hD hS hA (fun u2 H locs hc2 hP hD hK hS => ?_)
      have hle2 := rpC_le (fun k => ri f t0 (p9 + 4 * k)) one 2 fr9 (hf q9) m9
      replace hP : va_P D CC (wC tk ad u2 rr ++ tl) H := hP
      replace hD : va_D A (wC tk ad u2 rr ++ tl) := hD
      refine lv_aload_n hx hb d_V_readPart_54 rfl (lv_at hl 1 rfl) ?_
      refine lv_aload_n hx hb d_V_readPart_55 rfl (lv_at hl 1 rfl) ?_
      refine gf_V_46 (v := .int (u2 19 0)) hx hb hT hown hK hP 15 rfl rfl d_V_readPart_56 ?_
      refine lv_aload_n hx hb d_V_readPart_59 rfl (lv_at hl 1 rfl) ?_
      refine k_calli (va_runV (As := []) (rest := [.int (u2 19 0), .ref (ad 15)]) ⟨hx, hb, hml, hown, hts⟩ (c_V_nextInt l D tk H.size ad u2 rr tl f t0 ht0 hby (p9 + 4 * (rpC (fun k => ri f t0 (p9 + 4 * k)) one 2 fr9 (hf q9) m9).2.2) (by omega) hc2.1) (cwV 0 hts (gV t_894 t_896 s_12 t_8 t_897) rfl rfl rfl (by decide +kernel) ⟨Nat.le_of_ble_eq_true rfl, Nat.le_of_ble_eq_true rfl⟩) (k_preV hP hK hD hnw 15 rfl rfl) rfl rfl hl.1 rfl (lv_room (Nat.le_of_ble_eq_true rfl)) d_V_readPart_60 hc0) hD hS hA (fun _ _ H locs hp60 hP hD hK hS => ?_)
      subst hp60
      replace hP : va_P D CC (wC tk ad (mup u2 11 0 (nI (p9 + 4 * (rpC (fun k => ri f t0 (p9 + 4 * k)) one 2 fr9 (hf q9) m9).2.2 + 4))) rr ++ tl) H := hP
      replace hD : va_D A (wC tk ad (mup u2 11 0 (nI (p9 + 4 * (rpC (fun k => ri f t0 (p9 + 4 * k)) one 2 fr9 (hf q9) m9).2.2 + 4))) rr ++ tl) := hD
      refine k_calli (va_runSN (As := [.int (u2 19 0), .int (ri f t0 (p9 + 4 * (rpC (fun k => ri f t0 (p9 + 4 * k)) one 2 fr9 (hf q9) m9).2.2))]) (rest := [.ref (ad 15)]) ⟨hx, hb, hml, hown, hts⟩ (c_K_join l D tk H.size (u2 19 0) (ri f t0 (p9 + 4 * (rpC (fun k => ri f t0 (p9 + 4 * k)) one 2 fr9 (hf q9) m9).2.2)) (wC tk ad (mup u2 11 0 (nI (p9 + 4 * (rpC (fun k => ri f t0 (p9 + 4 * k)) one 2 fr9 (hf q9) m9).2.2 + 4))) rr ++ tl)) ⟨(va_cnB 2 hts (gB t_814) rfl rfl rfl (hnw.1 _ _ _ _ n_904) (hT _ t_1) (by decide +kernel) ⟨Nat.le_of_ble_eq_true rfl, Nat.le_of_ble_eq_true rfl⟩), hT _ t_813, trivial⟩ (k_preS hP hK hD hnw) rfl rfl hl.1 rfl (lv_room (Nat.le_of_ble_eq_true rfl)) d_V_readPart_63 hc0) hD hS hA (fun _ _ H locs hp63 hP hD hK hS => ?_)
      subst hp63
      replace hP : va_P D CC (wC tk ad (mup u2 11 0 (nI (p9 + 4 * (rpC (fun k => ri f t0 (p9 + 4 * k)) one 2 fr9 (hf q9) m9).2.2 + 4))) rr ++ tl) H := hP
      replace hD : va_D A (wC tk ad (mup u2 11 0 (nI (p9 + 4 * (rpC (fun k => ri f t0 (p9 + 4 * k)) one 2 fr9 (hf q9) m9).2.2 + 4))) rr ++ tl) := hD
      refine pf_V_46 hx hb hT hown hK hP hD hS 15 rfl (Nat.le_of_ble_eq_true rfl) d_V_readPart_66 (fun H locs hP hD hS => ?_)
      replace hP : va_P D CC (wC tk ad (mup (mup u2 11 0 (nI (p9 + 4 * (rpC (fun k => ri f t0 (p9 + 4 * k)) one 2 fr9 (hf q9) m9).2.2 + 4))) 19 0 (jn (u2 19 0) (ri f t0 (p9 + 4 * (rpC (fun k => ri f t0 (p9 + 4 * k)) one 2 fr9 (hf q9) m9).2.2)))) rr ++ tl) H := Eq.mp (congrArg (fun w => va_P D CC w H) (sC_15_10 tk ad (mup u2 11 0 (nI (p9 + 4 * (rpC (fun k => ri f t0 (p9 + 4 * k)) one 2 fr9 (hf q9) m9).2.2 + 4))) rr tl (jn (u2 19 0) (ri f t0 (p9 + 4 * (rpC (fun k => ri f t0 (p9 + 4 * k)) one 2 fr9 (hf q9) m9).2.2))))) hP
      replace hD : va_D A (wC tk ad (mup (mup u2 11 0 (nI (p9 + 4 * (rpC (fun k => ri f t0 (p9 + 4 * k)) one 2 fr9 (hf q9) m9).2.2 + 4))) 19 0 (jn (u2 19 0) (ri f t0 (p9 + 4 * (rpC (fun k => ri f t0 (p9 + 4 * k)) one 2 fr9 (hf q9) m9).2.2)))) rr ++ tl) := Eq.mp (congrArg (fun w => va_D A w) (sC_15_10 tk ad (mup u2 11 0 (nI (p9 + 4 * (rpC (fun k => ri f t0 (p9 + 4 * k)) one 2 fr9 (hf q9) m9).2.2 + 4))) rr tl (jn (u2 19 0) (ri f t0 (p9 + 4 * (rpC (fun k => ri f t0 (p9 + 4 * k)) one 2 fr9 (hf q9) m9).2.2))))) hD
      refine lv_goto hx hb d_V_readPart_69 (tgt := 122) (by decide) ?_
      exact k_vret hQ hx hb hr hlk hK hP hD hS (mup (mup u2 11 0 (nI (p9 + 4 * (rpC (fun k => ri f t0 (p9 + 4 * k)) one 2 fr9 (hf q9) m9).2.2 + 4))) 19 0 (jn (u2 19 0) (ri f t0 (p9 + 4 * (rpC (fun k => ri f t0 (p9 + 4 * k)) one 2 fr9 (hf q9) m9).2.2)))) rfl (by rw [rpC_l (fun k => ri f t0 (p9 + 4 * k)) one (k := 3) (d := 2) rfl (show ¬ q9 ≤ m9 by omega) (by omega)]; exact ⟨(vS_o (by decide) (vS_p _ hc2.1)), by rw [← hc2.2.1]; exact (rd_ne (by decide) (rd_ne (by decide) rfl)), by rw [← hc2.2.2.1]; exact rd_eq, (frx_2 (frx_2 hc2.2.2.2 (by decide)) (by decide))⟩) d_V_readPart_122
  · skip
    refine lv_aload_n hx hb d_V_readPart_6 rfl (lv_at hl 0 rfl) ?_
    refine lv_iload_n hx hb d_V_readPart_7 rfl (lv_at hl 2 rfl) ?_
    refine st_if_ne hx hb (by omega) d_V_readPart_8 (tgt := 15) (by decide) (fun hc8 => ?_) (fun hc8 => ?_)
    · skip
      refine lv_aload_n hx hb d_V_readPart_15 rfl (lv_at hl 0 rfl) ?_
      refine k_calli (va_runV (As := []) (rest := [.ref (ad 15)]) ⟨hx, hb, hml, hown, hts⟩ (c_V_nextInt l D tk s.heap.size ad g rr tl f t0 ht0 hby p9 (by omega) hv) (cwV 0 hts (gV t_894 t_896 s_12 t_8 t_897) rfl rfl rfl (by decide +kernel) ⟨Nat.le_of_ble_eq_true rfl, Nat.le_of_ble_eq_true rfl⟩) (k_preV hP hK hD hnw 15 rfl rfl) rfl rfl hl.1 rfl (lv_room (Nat.le_of_ble_eq_true rfl)) d_V_readPart_16 hc0) hD hS hA (fun _ _ H locs hp16 hP hD hK hS => ?_)
      subst hp16
      replace hP : va_P D CC (wC tk ad (mup g 11 0 (nI (p9 + 4))) rr ++ tl) H := hP
      replace hD : va_D A (wC tk ad (mup g 11 0 (nI (p9 + 4))) rr ++ tl) := hD
      refine pf_V_43 hx hb hT hown hK hP hD hS 15 rfl (Nat.le_of_ble_eq_true rfl) d_V_readPart_19 (fun H locs hP hD hS => ?_)
      replace hP : va_P D CC (wC tk ad (mup (mup g 11 0 (nI (p9 + 4))) 18 0 (ri f t0 p9)) rr ++ tl) H := Eq.mp (congrArg (fun w => va_P D CC w H) (sC_15_9 tk ad (mup g 11 0 (nI (p9 + 4))) rr tl (ri f t0 p9))) hP
      replace hD : va_D A (wC tk ad (mup (mup g 11 0 (nI (p9 + 4))) 18 0 (ri f t0 p9)) rr ++ tl) := Eq.mp (congrArg (fun w => va_D A w) (sC_15_9 tk ad (mup g 11 0 (nI (p9 + 4))) rr tl (ri f t0 p9))) hD
      refine lv_aload_n hx hb d_V_readPart_22 rfl (lv_at hl 0 rfl) ?_
      refine lv_aload_n hx hb d_V_readPart_23 rfl (lv_at hl 0 rfl) ?_
      refine gf_V_43 (v := .int ((mup (mup g 11 0 (nI (p9 + 4))) 18 0 (ri f t0 p9)) 18 0)) hx hb hT hown hK hP 15 rfl rfl d_V_readPart_24 ?_
      refine st_top (show (mup (mup g 11 0 (nI (p9 + 4))) 18 0 (ri f t0 p9)) 18 0 = ri f t0 p9 from rd_eq) ?_
      refine pf_V_46 hx hb hT hown hK hP hD hS 15 rfl (Nat.le_of_ble_eq_true rfl) d_V_readPart_27 (fun H locs hP hD hS => ?_)
      replace hP : va_P D CC (wC tk ad (mup (mup (mup g 11 0 (nI (p9 + 4))) 18 0 (ri f t0 p9)) 19 0 (ri f t0 p9)) rr ++ tl) H := Eq.mp (congrArg (fun w => va_P D CC w H) (sC_15_10 tk ad (mup (mup g 11 0 (nI (p9 + 4))) 18 0 (ri f t0 p9)) rr tl (ri f t0 p9))) hP
      replace hD : va_D A (wC tk ad (mup (mup (mup g 11 0 (nI (p9 + 4))) 18 0 (ri f t0 p9)) 19 0 (ri f t0 p9)) rr ++ tl) := Eq.mp (congrArg (fun w => va_D A w) (sC_15_10 tk ad (mup (mup g 11 0 (nI (p9 + 4))) 18 0 (ri f t0 p9)) rr tl (ri f t0 p9))) hD
      exact k_vret hQ hx hb hr hlk hK hP hD hS (mup (mup (mup g 11 0 (nI (p9 + 4))) 18 0 (ri f t0 p9)) 19 0 (ri f t0 p9)) rfl (by rw [rpC_1 (fun k => ri f t0 (p9 + 4 * k)) one 3 (show q9 ≤ m9 by omega) (show ¬ fr9 = 0 by omega)]; exact ⟨(vS_o (by decide) (vS_o (by decide) (vS_p _ hv))), (rd_ne (by decide) rd_eq), rd_eq, (frx_2 (frx_2 (frx_2 frx_r (by decide)) (by decide)) (by decide))⟩) d_V_readPart_30
    · skip
      refine lv_iload_n hx hb d_V_readPart_11 rfl (lv_at hl 1 rfl) ?_
      refine lv_goto hx hb d_V_readPart_12 (tgt := 19) (by decide) ?_
      refine pf_V_43 hx hb hT hown hK hP hD hS 15 rfl (Nat.le_of_ble_eq_true rfl) d_V_readPart_19 (fun H locs hP hD hS => ?_)
      replace hP : va_P D CC (wC tk ad (mup g 18 0 one) rr ++ tl) H := Eq.mp (congrArg (fun w => va_P D CC w H) (sC_15_9 tk ad g rr tl one)) hP
      replace hD : va_D A (wC tk ad (mup g 18 0 one) rr ++ tl) := Eq.mp (congrArg (fun w => va_D A w) (sC_15_9 tk ad g rr tl one)) hD
      refine lv_aload_n hx hb d_V_readPart_22 rfl (lv_at hl 0 rfl) ?_
      refine lv_aload_n hx hb d_V_readPart_23 rfl (lv_at hl 0 rfl) ?_
      refine gf_V_43 (v := .int ((mup g 18 0 one) 18 0)) hx hb hT hown hK hP 15 rfl rfl d_V_readPart_24 ?_
      refine st_top (show (mup g 18 0 one) 18 0 = one from rd_eq) ?_
      refine pf_V_46 hx hb hT hown hK hP hD hS 15 rfl (Nat.le_of_ble_eq_true rfl) d_V_readPart_27 (fun H locs hP hD hS => ?_)
      replace hP : va_P D CC (wC tk ad (mup (mup g 18 0 one) 19 0 one) rr ++ tl) H := Eq.mp (congrArg (fun w => va_P D CC w H) (sC_15_10 tk ad (mup g 18 0 one) rr tl one)) hP
      replace hD : va_D A (wC tk ad (mup (mup g 18 0 one) 19 0 one) rr ++ tl) := Eq.mp (congrArg (fun w => va_D A w) (sC_15_10 tk ad (mup g 18 0 one) rr tl one)) hD
      exact k_vret hQ hx hb hr hlk hK hP hD hS (mup (mup g 18 0 one) 19 0 one) rfl (by rw [rpC_0 (fun k => ri f t0 (p9 + 4 * k)) one 3 (show q9 ≤ m9 by omega) (show fr9 = 0 by omega) (Or.inr (by omega))]; exact ⟨(vS_o (by decide) (vS_o (by decide) hv)), (rd_ne (by decide) rd_eq), rd_eq, (frx_2 (frx_2 frx_r (by decide)) (by decide))⟩) d_V_readPart_30

set_option maxHeartbeats 4000000 in
set_option maxRecDepth 100000 in
theorem c_V_readPart4 (l : Launch) (D : va_G) (tk : Nat → ClassId) (sz : Nat) (ad : Nat → Nat) (g : Nat → Nat → Int32) (rr : Nat → Nat → Option Nat) (tl : va_W) (f : Nat → Int32) (t0 : Nat) (ht0 : t0 ≤ 400) (hby : byF f t0) (p9 : Nat) (hp9 : p9 + 40 < 2 ^ 20) (one : Int32) (fr9 q9 m9 : Nat) (hq : 1 ≤ q9 ∧ q9 ≤ 16) (hm : 1 ≤ m9 ∧ m9 ≤ q9) (hf9 : fr9 + q9 ≤ 16) (hv : vS g f t0 p9) : Met l y_V_readPart w_V_readPart ({ frames := 7, cells := 0, slots := 0, locals := 168 }) (va_Pc [.ref (ad 15), .int one, .int (nI fr9), .int (nI q9), .int (nI m9)] (k_pre D (TY tk) sz (wC tk ad g rr ++ tl))) (va_Qv (fun (u : Nat → Nat → Int32) => vS u f t0 (p9 + 4 * (rpC (fun k => ri f t0 (p9 + 4 * k)) one 4 fr9 q9 m9).2.2) ∧ u 18 0 = (rpC (fun k => ri f t0 (p9 + 4 * k)) one 4 fr9 q9 m9).1 ∧ u 19 0 = (rpC (fun k => ri f t0 (p9 + 4 * k)) one 4 fr9 q9 m9).2.1 ∧ frx [11, 18, 19] g u) (fun u t => k_at D (TY tk) (va_A (wC tk ad g rr ++ tl) sz) ((fun u => wC tk ad u rr ++ tl) u) t) (va_A (wC tk ad g rr ++ tl) sz)) 0 0 (va_A (wC tk ad g rr ++ tl) sz) := by
  refine k_ofW (fun A => va_Qv (fun (u : Nat → Nat → Int32) => vS u f t0 (p9 + 4 * (rpC (fun k => ri f t0 (p9 + 4 * k)) one 4 fr9 q9 m9).2.2) ∧ u 18 0 = (rpC (fun k => ri f t0 (p9 + 4 * k)) one 4 fr9 q9 m9).1 ∧ u 19 0 = (rpC (fun k => ri f t0 (p9 + 4 * k)) one 4 fr9 q9 m9).2.1 ∧ frx [11, 18, 19] g u) (fun u t => k_at D (TY tk) A ((fun u => wC tk ad u rr ++ tl) u) t) A) (by decide) (Nat.le_of_ble_eq_true rfl) ?_
  intro p e s m args below meth c Q A ls hQ hx hb hr hlk hin hts hT hown hml hnw hP hK hD hA hsz hl
  have hS : va_S A s.heap s.heap [] := va_S.rf
  have hc0 : 0 + 0 ≤ 0 ∧ 0 + 0 ≤ 0 := ⟨by decide, by decide⟩
  replace hl : lv_has ls 7 [(0, .ref (ad 15)), (1, .int one), (2, .int (nI fr9)), (3, .int (nI q9)), (4, .int (nI m9))] := hl
  replace hP : va_P D CC (wC tk ad g rr ++ tl) s.heap := hP
  replace hK : va_K D CC (TY tk) s := hK
  refine lv_iload hx hb d_V_readPart_0 (lv_at hl 4 rfl) ?_
  refine lv_iload_n hx hb d_V_readPart_2 rfl (lv_at hl 3 rfl) ?_
  refine st_icmp_lt hx hb (by omega) (by omega) d_V_readPart_3 (tgt := 31) (by decide) (fun hc3 => ?_) (fun hc3 => ?_)
  · skip
    refine lv_iload_n hx hb d_V_readPart_31 rfl (lv_at hl 3 rfl) ?_
    refine k_calli (va_runSN (As := [.int (nI q9)]) (rest := []) ⟨hx, hb, hml, hown, hts⟩ (c_K_half l D tk s.heap.size q9 (by omega) (wC tk ad g rr ++ tl)) ⟨(va_cnB 1 hts (gB t_810) rfl rfl rfl (hnw.1 _ _ _ _ n_903) (hT _ t_1) (by decide +kernel) ⟨Nat.le_of_ble_eq_true rfl, Nat.le_of_ble_eq_true rfl⟩), hT _ t_809, trivial⟩ (k_preS hP hK hD hnw) rfl rfl hl.1 rfl (lv_room (Nat.le_of_ble_eq_true rfl)) d_V_readPart_32 hc0) hD hS hA (fun _ _ H locs hp32 hP hD hK hS => ?_)
    subst hp32
    have hhf := hf_b (q := q9) (by omega) (by omega)
    replace hP : va_P D CC (wC tk ad g rr ++ tl) H := hP
    replace hD : va_D A (wC tk ad g rr ++ tl) := hD
    refine lv_istore (lv' := [(5, .int (nI (hf q9))), (0, .ref (ad 15)), (1, .int one), (2, .int (nI fr9)), (3, .int (nI q9)), (4, .int (nI m9))]) hx hb d_V_readPart_35 hl (by decide) rfl (fun ls hl => ?_)
    refine lv_iload hx hb d_V_readPart_37 (lv_at hl 5 rfl) ?_
    refine lv_iload hx hb d_V_readPart_39 (lv_at hl 0 rfl) ?_
    refine st_icmp_gt hx hb (by omega) (by omega) d_V_readPart_41 (tgt := 72) (by decide) (fun hc41 => ?_) (fun hc41 => ?_)
    · skip
      refine lv_aload_n hx hb d_V_readPart_72 rfl (lv_at hl 1 rfl) ?_
      refine lv_iload_n hx hb d_V_readPart_73 rfl (lv_at hl 2 rfl) ?_
      refine lv_iload_n hx hb d_V_readPart_74 rfl (lv_at hl 3 rfl) ?_
      refine lv_iload hx hb d_V_readPart_75 (lv_at hl 0 rfl) ?_
      refine st_iadd hx hb d_V_readPart_77 ?_
      refine lv_iload_n hx hb d_V_readPart_78 rfl (lv_at hl 4 rfl) ?_
      refine lv_iload hx hb d_V_readPart_79 (lv_at hl 0 rfl) ?_
      refine st_isub hx hb (by omega) d_V_readPart_81 ?_
      refine lv_iload hx hb d_V_readPart_82 (lv_at hl 5 rfl) ?_
      refine lv_iload hx hb d_V_readPart_84 (lv_at hl 0 rfl) ?_
      refine st_isub hx hb (by omega) d_V_readPart_86 ?_
      refine k_callv (va_runV (As := [.int one, .int (nI (fr9 + (hf q9))), .int (nI (q9 - (hf q9))), .int (nI (m9 - (hf q9)))]) (rest := []) ⟨hx, hb, hml, hown, hts⟩ (c_V_readPart3 l D tk H.size ad g rr tl f t0 ht0 hby p9 (by omega) one (fr9 + (hf q9)) (q9 - (hf q9)) (m9 - (hf q9)) (by omega) (by omega) (by omega) hv) (cwV 4 hts (gV t_921 t_923 s_14 t_8 t_924) rfl rfl rfl (by decide +kernel) ⟨Nat.le_of_ble_eq_true rfl, Nat.le_of_ble_eq_true rfl⟩) (k_preV hP hK hD hnw 15 rfl rfl) rfl rfl hl.1 rfl (lv_room (Nat.le_of_ble_eq_true rfl)) d_V_readPart_87 hc0) hD hS hA (fun u1 H locs hc1 hP hD hK hS => ?_)
      have hle1 := rpC_le (fun k => ri f t0 (p9 + 4 * k)) one 3 (fr9 + (hf q9)) (q9 - (hf q9)) (m9 - (hf q9))
      replace hP : va_P D CC (wC tk ad u1 rr ++ tl) H := hP
      replace hD : va_D A (wC tk ad u1 rr ++ tl) := hD
      refine lv_aload_n hx hb d_V_readPart_90 rfl (lv_at hl 1 rfl) ?_
      refine k_calli (va_runV (As := []) (rest := []) ⟨hx, hb, hml, hown, hts⟩ (c_V_nextInt l D tk H.size ad u1 rr tl f t0 ht0 hby (p9 + 4 * (rpC (fun k => ri f t0 (p9 + 4 * k)) one 3 (fr9 + (hf q9)) (q9 - (hf q9)) (m9 - (hf q9))).2.2) (by omega) hc1.1) (cwV 0 hts (gV t_894 t_896 s_12 t_8 t_897) rfl rfl rfl (by decide +kernel) ⟨Nat.le_of_ble_eq_true rfl, Nat.le_of_ble_eq_true rfl⟩) (k_preV hP hK hD hnw 15 rfl rfl) rfl rfl hl.1 rfl (lv_room (Nat.le_of_ble_eq_true rfl)) d_V_readPart_91 hc0) hD hS hA (fun _ _ H locs hp91 hP hD hK hS => ?_)
      subst hp91
      replace hP : va_P D CC (wC tk ad (mup u1 11 0 (nI (p9 + 4 * (rpC (fun k => ri f t0 (p9 + 4 * k)) one 3 (fr9 + (hf q9)) (q9 - (hf q9)) (m9 - (hf q9))).2.2 + 4))) rr ++ tl) H := hP
      replace hD : va_D A (wC tk ad (mup u1 11 0 (nI (p9 + 4 * (rpC (fun k => ri f t0 (p9 + 4 * k)) one 3 (fr9 + (hf q9)) (q9 - (hf q9)) (m9 - (hf q9))).2.2 + 4))) rr ++ tl) := hD
      refine lv_istore (lv' := [(6, .int (ri f t0 (p9 + 4 * (rpC (fun k => ri f t0 (p9 + 4 * k)) one 3 (fr9 + (hf q9)) (q9 - (hf q9)) (m9 - (hf q9))).2.2))), (5, .int (nI (hf q9))), (0, .ref (ad 15)), (1, .int one), (2, .int (nI fr9)), (3, .int (nI q9)), (4, .int (nI m9))]) hx hb d_V_readPart_94 hl (by decide) rfl (fun ls hl => ?_)
      refine lv_aload_n hx hb d_V_readPart_96 rfl (lv_at hl 2 rfl) ?_
      refine lv_iload hx hb d_V_readPart_97 (lv_at hl 0 rfl) ?_
      refine lv_aload_n hx hb d_V_readPart_99 rfl (lv_at hl 2 rfl) ?_
      refine gf_V_43 (v := .int ((mup u1 11 0 (nI (p9 + 4 * (rpC (fun k => ri f t0 (p9 + 4 * k)) one 3 (fr9 + (hf q9)) (q9 - (hf q9)) (m9 - (hf q9))).2.2 + 4))) 18 0)) hx hb hT hown hK hP 15 rfl rfl d_V_readPart_100 ?_
      refine st_top (show (mup u1 11 0 (nI (p9 + 4 * (rpC (fun k => ri f t0 (p9 + 4 * k)) one 3 (fr9 + (hf q9)) (q9 - (hf q9)) (m9 - (hf q9))).2.2 + 4))) 18 0 = u1 18 0 from (rd_ne (by decide) rfl)) ?_
      refine k_calli (va_runSN (As := [.int (ri f t0 (p9 + 4 * (rpC (fun k => ri f t0 (p9 + 4 * k)) one 3 (fr9 + (hf q9)) (q9 - (hf q9)) (m9 - (hf q9))).2.2)), .int (u1 18 0)]) (rest := [.ref (ad 15)]) ⟨hx, hb, hml, hown, hts⟩ (c_K_join l D tk H.size (ri f t0 (p9 + 4 * (rpC (fun k => ri f t0 (p9 + 4 * k)) one 3 (fr9 + (hf q9)) (q9 - (hf q9)) (m9 - (hf q9))).2.2)) (u1 18 0) (wC tk ad (mup u1 11 0 (nI (p9 + 4 * (rpC (fun k => ri f t0 (p9 + 4 * k)) one 3 (fr9 + (hf q9)) (q9 - (hf q9)) (m9 - (hf q9))).2.2 + 4))) rr ++ tl)) ⟨(va_cnB 2 hts (gB t_814) rfl rfl rfl (hnw.1 _ _ _ _ n_904) (hT _ t_1) (by decide +kernel) ⟨Nat.le_of_ble_eq_true rfl, Nat.le_of_ble_eq_true rfl⟩), hT _ t_813, trivial⟩ (k_preS hP hK hD hnw) rfl rfl hl.1 rfl (lv_room (Nat.le_of_ble_eq_true rfl)) d_V_readPart_103 hc0) hD hS hA (fun _ _ H locs hp103 hP hD hK hS => ?_)
      subst hp103
      replace hP : va_P D CC (wC tk ad (mup u1 11 0 (nI (p9 + 4 * (rpC (fun k => ri f t0 (p9 + 4 * k)) one 3 (fr9 + (hf q9)) (q9 - (hf q9)) (m9 - (hf q9))).2.2 + 4))) rr ++ tl) H := hP
      replace hD : va_D A (wC tk ad (mup u1 11 0 (nI (p9 + 4 * (rpC (fun k => ri f t0 (p9 + 4 * k)) one 3 (fr9 + (hf q9)) (q9 - (hf q9)) (m9 - (hf q9))).2.2 + 4))) rr ++ tl) := hD
      refine pf_V_43 hx hb hT hown hK hP hD hS 15 rfl (Nat.le_of_ble_eq_true rfl) d_V_readPart_106 (fun H locs hP hD hS => ?_)
      replace hP : va_P D CC (wC tk ad (mup (mup u1 11 0 (nI (p9 + 4 * (rpC (fun k => ri f t0 (p9 + 4 * k)) one 3 (fr9 + (hf q9)) (q9 - (hf q9)) (m9 - (hf q9))).2.2 + 4))) 18 0 (jn (ri f t0 (p9 + 4 * (rpC (fun k => ri f t0 (p9 + 4 * k)) one 3 (fr9 + (hf q9)) (q9 - (hf q9)) (m9 - (hf q9))).2.2)) (u1 18 0))) rr ++ tl) H := Eq.mp (congrArg (fun w => va_P D CC w H) (sC_15_9 tk ad (mup u1 11 0 (nI (p9 + 4 * (rpC (fun k => ri f t0 (p9 + 4 * k)) one 3 (fr9 + (hf q9)) (q9 - (hf q9)) (m9 - (hf q9))).2.2 + 4))) rr tl (jn (ri f t0 (p9 + 4 * (rpC (fun k => ri f t0 (p9 + 4 * k)) one 3 (fr9 + (hf q9)) (q9 - (hf q9)) (m9 - (hf q9))).2.2)) (u1 18 0)))) hP
      replace hD : va_D A (wC tk ad (mup (mup u1 11 0 (nI (p9 + 4 * (rpC (fun k => ri f t0 (p9 + 4 * k)) one 3 (fr9 + (hf q9)) (q9 - (hf q9)) (m9 - (hf q9))).2.2 + 4))) 18 0 (jn (ri f t0 (p9 + 4 * (rpC (fun k => ri f t0 (p9 + 4 * k)) one 3 (fr9 + (hf q9)) (q9 - (hf q9)) (m9 - (hf q9))).2.2)) (u1 18 0))) rr ++ tl) := Eq.mp (congrArg (fun w => va_D A w) (sC_15_9 tk ad (mup u1 11 0 (nI (p9 + 4 * (rpC (fun k => ri f t0 (p9 + 4 * k)) one 3 (fr9 + (hf q9)) (q9 - (hf q9)) (m9 - (hf q9))).2.2 + 4))) rr tl (jn (ri f t0 (p9 + 4 * (rpC (fun k => ri f t0 (p9 + 4 * k)) one 3 (fr9 + (hf q9)) (q9 - (hf q9)) (m9 - (hf q9))).2.2)) (u1 18 0)))) hD
      refine lv_aload_n hx hb d_V_readPart_109 rfl (lv_at hl 2 rfl) ?_
      refine lv_iload hx hb d_V_readPart_110 (lv_at hl 0 rfl) ?_
      refine lv_aload_n hx hb d_V_readPart_112 rfl (lv_at hl 2 rfl) ?_
      refine gf_V_46 (v := .int ((mup (mup u1 11 0 (nI (p9 + 4 * (rpC (fun k => ri f t0 (p9 + 4 * k)) one 3 (fr9 + (hf q9)) (q9 - (hf q9)) (m9 - (hf q9))).2.2 + 4))) 18 0 (jn (ri f t0 (p9 + 4 * (rpC (fun k => ri f t0 (p9 + 4 * k)) one 3 (fr9 + (hf q9)) (q9 - (hf q9)) (m9 - (hf q9))).2.2)) (u1 18 0))) 19 0)) hx hb hT hown hK hP 15 rfl rfl d_V_readPart_113 ?_
      refine st_top (show (mup (mup u1 11 0 (nI (p9 + 4 * (rpC (fun k => ri f t0 (p9 + 4 * k)) one 3 (fr9 + (hf q9)) (q9 - (hf q9)) (m9 - (hf q9))).2.2 + 4))) 18 0 (jn (ri f t0 (p9 + 4 * (rpC (fun k => ri f t0 (p9 + 4 * k)) one 3 (fr9 + (hf q9)) (q9 - (hf q9)) (m9 - (hf q9))).2.2)) (u1 18 0))) 19 0 = u1 19 0 from (rd_ne (by decide) (rd_ne (by decide) rfl))) ?_
      refine k_calli (va_runSN (As := [.int (ri f t0 (p9 + 4 * (rpC (fun k => ri f t0 (p9 + 4 * k)) one 3 (fr9 + (hf q9)) (q9 - (hf q9)) (m9 - (hf q9))).2.2)), .int (u1 19 0)]) (rest := [.ref (ad 15)]) ⟨hx, hb, hml, hown, hts⟩ (c_K_join l D tk H.size (ri f t0 (p9 + 4 * (rpC (fun k => ri f t0 (p9 + 4 * k)) one 3 (fr9 + (hf q9)) (q9 - (hf q9)) (m9 - (hf q9))).2.2)) (u1 19 0) (wC tk ad (mup (mup u1 11 0 (nI (p9 + 4 * (rpC (fun k => ri f t0 (p9 + 4 * k)) one 3 (fr9 + (hf q9)) (q9 - (hf q9)) (m9 - (hf q9))).2.2 + 4))) 18 0 (jn (ri f t0 (p9 + 4 * (rpC (fun k => ri f t0 (p9 + 4 * k)) one 3 (fr9 + (hf q9)) (q9 - (hf q9)) (m9 - (hf q9))).2.2)) (u1 18 0))) rr ++ tl)) ⟨(va_cnB 2 hts (gB t_814) rfl rfl rfl (hnw.1 _ _ _ _ n_904) (hT _ t_1) (by decide +kernel) ⟨Nat.le_of_ble_eq_true rfl, Nat.le_of_ble_eq_true rfl⟩), hT _ t_813, trivial⟩ (k_preS hP hK hD hnw) rfl rfl hl.1 rfl (lv_room (Nat.le_of_ble_eq_true rfl)) d_V_readPart_116 hc0) hD hS hA (fun _ _ H locs hp116 hP hD hK hS => ?_)
      subst hp116
      replace hP : va_P D CC (wC tk ad (mup (mup u1 11 0 (nI (p9 + 4 * (rpC (fun k => ri f t0 (p9 + 4 * k)) one 3 (fr9 + (hf q9)) (q9 - (hf q9)) (m9 - (hf q9))).2.2 + 4))) 18 0 (jn (ri f t0 (p9 + 4 * (rpC (fun k => ri f t0 (p9 + 4 * k)) one 3 (fr9 + (hf q9)) (q9 - (hf q9)) (m9 - (hf q9))).2.2)) (u1 18 0))) rr ++ tl) H := hP
      replace hD : va_D A (wC tk ad (mup (mup u1 11 0 (nI (p9 + 4 * (rpC (fun k => ri f t0 (p9 + 4 * k)) one 3 (fr9 + (hf q9)) (q9 - (hf q9)) (m9 - (hf q9))).2.2 + 4))) 18 0 (jn (ri f t0 (p9 + 4 * (rpC (fun k => ri f t0 (p9 + 4 * k)) one 3 (fr9 + (hf q9)) (q9 - (hf q9)) (m9 - (hf q9))).2.2)) (u1 18 0))) rr ++ tl) := hD
      refine pf_V_46 hx hb hT hown hK hP hD hS 15 rfl (Nat.le_of_ble_eq_true rfl) d_V_readPart_119 (fun H locs hP hD hS => ?_)
      replace hP : va_P D CC (wC tk ad (mup (mup (mup u1 11 0 (nI (p9 + 4 * (rpC (fun k => ri f t0 (p9 + 4 * k)) one 3 (fr9 + (hf q9)) (q9 - (hf q9)) (m9 - (hf q9))).2.2 + 4))) 18 0 (jn (ri f t0 (p9 + 4 * (rpC (fun k => ri f t0 (p9 + 4 * k)) one 3 (fr9 + (hf q9)) (q9 - (hf q9)) (m9 - (hf q9))).2.2)) (u1 18 0))) 19 0 (jn (ri f t0 (p9 + 4 * (rpC (fun k => ri f t0 (p9 + 4 * k)) one 3 (fr9 + (hf q9)) (q9 - (hf q9)) (m9 - (hf q9))).2.2)) (u1 19 0))) rr ++ tl) H := Eq.mp (congrArg (fun w => va_P D CC w H) (sC_15_10 tk ad (mup (mup u1 11 0 (nI (p9 + 4 * (rpC (fun k => ri f t0 (p9 + 4 * k)) one 3 (fr9 + (hf q9)) (q9 - (hf q9)) (m9 - (hf q9))).2.2 + 4))) 18 0 (jn (ri f t0 (p9 + 4 * (rpC (fun k => ri f t0 (p9 + 4 * k)) one 3 (fr9 + (hf q9)) (q9 - (hf q9)) (m9 - (hf q9))).2.2)) (u1 18 0))) rr tl (jn (ri f t0 (p9 + 4 * (rpC (fun k => ri f t0 (p9 + 4 * k)) one 3 (fr9 + (hf q9)) (q9 - (hf q9)) (m9 - (hf q9))).2.2)) (u1 19 0)))) hP
      replace hD : va_D A (wC tk ad (mup (mup (mup u1 11 0 (nI (p9 + 4 * (rpC (fun k => ri f t0 (p9 + 4 * k)) one 3 (fr9 + (hf q9)) (q9 - (hf q9)) (m9 - (hf q9))).2.2 + 4))) 18 0 (jn (ri f t0 (p9 + 4 * (rpC (fun k => ri f t0 (p9 + 4 * k)) one 3 (fr9 + (hf q9)) (q9 - (hf q9)) (m9 - (hf q9))).2.2)) (u1 18 0))) 19 0 (jn (ri f t0 (p9 + 4 * (rpC (fun k => ri f t0 (p9 + 4 * k)) one 3 (fr9 + (hf q9)) (q9 - (hf q9)) (m9 - (hf q9))).2.2)) (u1 19 0))) rr ++ tl) := Eq.mp (congrArg (fun w => va_D A w) (sC_15_10 tk ad (mup (mup u1 11 0 (nI (p9 + 4 * (rpC (fun k => ri f t0 (p9 + 4 * k)) one 3 (fr9 + (hf q9)) (q9 - (hf q9)) (m9 - (hf q9))).2.2 + 4))) 18 0 (jn (ri f t0 (p9 + 4 * (rpC (fun k => ri f t0 (p9 + 4 * k)) one 3 (fr9 + (hf q9)) (q9 - (hf q9)) (m9 - (hf q9))).2.2)) (u1 18 0))) rr tl (jn (ri f t0 (p9 + 4 * (rpC (fun k => ri f t0 (p9 + 4 * k)) one 3 (fr9 + (hf q9)) (q9 - (hf q9)) (m9 - (hf q9))).2.2)) (u1 19 0)))) hD
      exact k_vret hQ hx hb hr hlk hK hP hD hS (mup (mup (mup u1 11 0 (nI (p9 + 4 * (rpC (fun k => ri f t0 (p9 + 4 * k)) one 3 (fr9 + (hf q9)) (q9 - (hf q9)) (m9 - (hf q9))).2.2 + 4))) 18 0 (jn (ri f t0 (p9 + 4 * (rpC (fun k => ri f t0 (p9 + 4 * k)) one 3 (fr9 + (hf q9)) (q9 - (hf q9)) (m9 - (hf q9))).2.2)) (u1 18 0))) 19 0 (jn (ri f t0 (p9 + 4 * (rpC (fun k => ri f t0 (p9 + 4 * k)) one 3 (fr9 + (hf q9)) (q9 - (hf q9)) (m9 - (hf q9))).2.2)) (u1 19 0))) rfl (by rw [rpC_r (fun k => ri f t0 (p9 + 4 * k)) one (k := 4) (d := 3) rfl (show ¬ q9 ≤ m9 by omega) (by omega)]; exact ⟨(vS_o (by decide) (vS_o (by decide) (vS_p _ hc1.1))), by rw [← hc1.2.1]; exact (rd_ne (by decide) rd_eq), by rw [← hc1.2.2.1]; exact rd_eq, (frx_2 (frx_2 (frx_2 hc1.2.2.2 (by decide)) (by decide)) (by decide))⟩) d_V_readPart_122
    · skip
      refine lv_aload_n hx hb d_V_readPart_44 rfl (lv_at hl 1 rfl) ?_
      refine lv_iload_n hx hb d_V_readPart_45 rfl (lv_at hl 2 rfl) ?_
      refine lv_iload_n hx hb d_V_readPart_46 rfl (lv_at hl 3 rfl) ?_
      refine lv_iload hx hb d_V_readPart_47 (lv_at hl 0 rfl) ?_
      refine lv_iload hx hb d_V_readPart_49 (lv_at hl 5 rfl) ?_
      refine k_callv (va_runV (As := [.int one, .int (nI fr9), .int (nI (hf q9)), .int (nI m9)]) (rest := []) ⟨hx, hb, hml, hown, hts⟩ (c_V_readPart3 l D tk H.size ad g rr tl f t0 ht0 hby p9 (by omega) one fr9 (hf q9) m9 (by omega) (by omega) (by omega) hv) (cwV 4 hts (gV t_921 t_923 s_14 t_8 t_924) rfl rfl rfl (by decide +kernel) ⟨Nat.le_of_ble_eq_true rfl, Nat.le_of_ble_eq_true rfl⟩) (k_preV hP hK hD hnw 15 rfl rfl) rfl rfl hl.1 rfl (lv_room (Nat.le_of_ble_eq_true rfl)) d_V_readPart_51 hc0) hD hS hA (fun u2 H locs hc2 hP hD hK hS => ?_)
      have hle2 := rpC_le (fun k => ri f t0 (p9 + 4 * k)) one 3 fr9 (hf q9) m9
      replace hP : va_P D CC (wC tk ad u2 rr ++ tl) H := hP
      replace hD : va_D A (wC tk ad u2 rr ++ tl) := hD
      refine lv_aload_n hx hb d_V_readPart_54 rfl (lv_at hl 1 rfl) ?_
      refine lv_aload_n hx hb d_V_readPart_55 rfl (lv_at hl 1 rfl) ?_
      refine gf_V_46 (v := .int (u2 19 0)) hx hb hT hown hK hP 15 rfl rfl d_V_readPart_56 ?_
      refine lv_aload_n hx hb d_V_readPart_59 rfl (lv_at hl 1 rfl) ?_
      refine k_calli (va_runV (As := []) (rest := [.int (u2 19 0), .ref (ad 15)]) ⟨hx, hb, hml, hown, hts⟩ (c_V_nextInt l D tk H.size ad u2 rr tl f t0 ht0 hby (p9 + 4 * (rpC (fun k => ri f t0 (p9 + 4 * k)) one 3 fr9 (hf q9) m9).2.2) (by omega) hc2.1) (cwV 0 hts (gV t_894 t_896 s_12 t_8 t_897) rfl rfl rfl (by decide +kernel) ⟨Nat.le_of_ble_eq_true rfl, Nat.le_of_ble_eq_true rfl⟩) (k_preV hP hK hD hnw 15 rfl rfl) rfl rfl hl.1 rfl (lv_room (Nat.le_of_ble_eq_true rfl)) d_V_readPart_60 hc0) hD hS hA (fun _ _ H locs hp60 hP hD hK hS => ?_)
      subst hp60
      replace hP : va_P D CC (wC tk ad (mup u2 11 0 (nI (p9 + 4 * (rpC (fun k => ri f t0 (p9 + 4 * k)) one 3 fr9 (hf q9) m9).2.2 + 4))) rr ++ tl) H := hP
      replace hD : va_D A (wC tk ad (mup u2 11 0 (nI (p9 + 4 * (rpC (fun k => ri f t0 (p9 + 4 * k)) one 3 fr9 (hf q9) m9).2.2 + 4))) rr ++ tl) := hD
      refine k_calli (va_runSN (As := [.int (u2 19 0), .int (ri f t0 (p9 + 4 * (rpC (fun k => ri f t0 (p9 + 4 * k)) one 3 fr9 (hf q9) m9).2.2))]) (rest := [.ref (ad 15)]) ⟨hx, hb, hml, hown, hts⟩ (c_K_join l D tk H.size (u2 19 0) (ri f t0 (p9 + 4 * (rpC (fun k => ri f t0 (p9 + 4 * k)) one 3 fr9 (hf q9) m9).2.2)) (wC tk ad (mup u2 11 0 (nI (p9 + 4 * (rpC (fun k => ri f t0 (p9 + 4 * k)) one 3 fr9 (hf q9) m9).2.2 + 4))) rr ++ tl)) ⟨(va_cnB 2 hts (gB t_814) rfl rfl rfl (hnw.1 _ _ _ _ n_904) (hT _ t_1) (by decide +kernel) ⟨Nat.le_of_ble_eq_true rfl, Nat.le_of_ble_eq_true rfl⟩), hT _ t_813, trivial⟩ (k_preS hP hK hD hnw) rfl rfl hl.1 rfl (lv_room (Nat.le_of_ble_eq_true rfl)) d_V_readPart_63 hc0) hD hS hA (fun _ _ H locs hp63 hP hD hK hS => ?_)
      subst hp63
      replace hP : va_P D CC (wC tk ad (mup u2 11 0 (nI (p9 + 4 * (rpC (fun k => ri f t0 (p9 + 4 * k)) one 3 fr9 (hf q9) m9).2.2 + 4))) rr ++ tl) H := hP
      replace hD : va_D A (wC tk ad (mup u2 11 0 (nI (p9 + 4 * (rpC (fun k => ri f t0 (p9 + 4 * k)) one 3 fr9 (hf q9) m9).2.2 + 4))) rr ++ tl) := hD
      refine pf_V_46 hx hb hT hown hK hP hD hS 15 rfl (Nat.le_of_ble_eq_true rfl) d_V_readPart_66 (fun H locs hP hD hS => ?_)
      replace hP : va_P D CC (wC tk ad (mup (mup u2 11 0 (nI (p9 + 4 * (rpC (fun k => ri f t0 (p9 + 4 * k)) one 3 fr9 (hf q9) m9).2.2 + 4))) 19 0 (jn (u2 19 0) (ri f t0 (p9 + 4 * (rpC (fun k => ri f t0 (p9 + 4 * k)) one 3 fr9 (hf q9) m9).2.2)))) rr ++ tl) H := Eq.mp (congrArg (fun w => va_P D CC w H) (sC_15_10 tk ad (mup u2 11 0 (nI (p9 + 4 * (rpC (fun k => ri f t0 (p9 + 4 * k)) one 3 fr9 (hf q9) m9).2.2 + 4))) rr tl (jn (u2 19 0) (ri f t0 (p9 + 4 * (rpC (fun k => ri f t0 (p9 + 4 * k)) one 3 fr9 (hf q9) m9).2.2))))) hP
      replace hD : va_D A (wC tk ad (mup (mup u2 11 0 (nI (p9 + 4 * (rpC (fun k => ri f t0 (p9 + 4 * k)) one 3 fr9 (hf q9) m9).2.2 + 4))) 19 0 (jn (u2 19 0) (ri f t0 (p9 + 4 * (rpC (fun k => ri f t0 (p9 + 4 * k)) one 3 fr9 (hf q9) m9).2.2)))) rr ++ tl) := Eq.mp (congrArg (fun w => va_D A w) (sC_15_10 tk ad (mup u2 11 0 (nI (p9 + 4 * (rpC (fun k => ri f t0 (p9 + 4 * k)) one 3 fr9 (hf q9) m9).2.2 + 4))) rr tl (jn (u2 19 0) (ri f t0 (p9 + 4 * (rpC (fun k => ri f t0 (p9 + 4 * k)) one 3 fr9 (hf q9) m9).2.2))))) hD
      refine lv_goto hx hb d_V_readPart_69 (tgt := 122) (by decide) ?_
      exact k_vret hQ hx hb hr hlk hK hP hD hS (mup (mup u2 11 0 (nI (p9 + 4 * (rpC (fun k => ri f t0 (p9 + 4 * k)) one 3 fr9 (hf q9) m9).2.2 + 4))) 19 0 (jn (u2 19 0) (ri f t0 (p9 + 4 * (rpC (fun k => ri f t0 (p9 + 4 * k)) one 3 fr9 (hf q9) m9).2.2)))) rfl (by rw [rpC_l (fun k => ri f t0 (p9 + 4 * k)) one (k := 4) (d := 3) rfl (show ¬ q9 ≤ m9 by omega) (by omega)]; exact ⟨(vS_o (by decide) (vS_p _ hc2.1)), by rw [← hc2.2.1]; exact (rd_ne (by decide) (rd_ne (by decide) rfl)), by rw [← hc2.2.2.1]; exact rd_eq, (frx_2 (frx_2 hc2.2.2.2 (by decide)) (by decide))⟩) d_V_readPart_122
  · skip
    refine lv_aload_n hx hb d_V_readPart_6 rfl (lv_at hl 0 rfl) ?_
    refine lv_iload_n hx hb d_V_readPart_7 rfl (lv_at hl 2 rfl) ?_
    refine st_if_ne hx hb (by omega) d_V_readPart_8 (tgt := 15) (by decide) (fun hc8 => ?_) (fun hc8 => ?_)
    · skip
      refine lv_aload_n hx hb d_V_readPart_15 rfl (lv_at hl 0 rfl) ?_
      refine k_calli (va_runV (As := []) (rest := [.ref (ad 15)]) ⟨hx, hb, hml, hown, hts⟩ (c_V_nextInt l D tk s.heap.size ad g rr tl f t0 ht0 hby p9 (by omega) hv) (cwV 0 hts (gV t_894 t_896 s_12 t_8 t_897) rfl rfl rfl (by decide +kernel) ⟨Nat.le_of_ble_eq_true rfl, Nat.le_of_ble_eq_true rfl⟩) (k_preV hP hK hD hnw 15 rfl rfl) rfl rfl hl.1 rfl (lv_room (Nat.le_of_ble_eq_true rfl)) d_V_readPart_16 hc0) hD hS hA (fun _ _ H locs hp16 hP hD hK hS => ?_)
      subst hp16
      replace hP : va_P D CC (wC tk ad (mup g 11 0 (nI (p9 + 4))) rr ++ tl) H := hP
      replace hD : va_D A (wC tk ad (mup g 11 0 (nI (p9 + 4))) rr ++ tl) := hD
      refine pf_V_43 hx hb hT hown hK hP hD hS 15 rfl (Nat.le_of_ble_eq_true rfl) d_V_readPart_19 (fun H locs hP hD hS => ?_)
      replace hP : va_P D CC (wC tk ad (mup (mup g 11 0 (nI (p9 + 4))) 18 0 (ri f t0 p9)) rr ++ tl) H := Eq.mp (congrArg (fun w => va_P D CC w H) (sC_15_9 tk ad (mup g 11 0 (nI (p9 + 4))) rr tl (ri f t0 p9))) hP
      replace hD : va_D A (wC tk ad (mup (mup g 11 0 (nI (p9 + 4))) 18 0 (ri f t0 p9)) rr ++ tl) := Eq.mp (congrArg (fun w => va_D A w) (sC_15_9 tk ad (mup g 11 0 (nI (p9 + 4))) rr tl (ri f t0 p9))) hD
      refine lv_aload_n hx hb d_V_readPart_22 rfl (lv_at hl 0 rfl) ?_
      refine lv_aload_n hx hb d_V_readPart_23 rfl (lv_at hl 0 rfl) ?_
      refine gf_V_43 (v := .int ((mup (mup g 11 0 (nI (p9 + 4))) 18 0 (ri f t0 p9)) 18 0)) hx hb hT hown hK hP 15 rfl rfl d_V_readPart_24 ?_
      refine st_top (show (mup (mup g 11 0 (nI (p9 + 4))) 18 0 (ri f t0 p9)) 18 0 = ri f t0 p9 from rd_eq) ?_
      refine pf_V_46 hx hb hT hown hK hP hD hS 15 rfl (Nat.le_of_ble_eq_true rfl) d_V_readPart_27 (fun H locs hP hD hS => ?_)
      replace hP : va_P D CC (wC tk ad (mup (mup (mup g 11 0 (nI (p9 + 4))) 18 0 (ri f t0 p9)) 19 0 (ri f t0 p9)) rr ++ tl) H := Eq.mp (congrArg (fun w => va_P D CC w H) (sC_15_10 tk ad (mup (mup g 11 0 (nI (p9 + 4))) 18 0 (ri f t0 p9)) rr tl (ri f t0 p9))) hP
      replace hD : va_D A (wC tk ad (mup (mup (mup g 11 0 (nI (p9 + 4))) 18 0 (ri f t0 p9)) 19 0 (ri f t0 p9)) rr ++ tl) := Eq.mp (congrArg (fun w => va_D A w) (sC_15_10 tk ad (mup (mup g 11 0 (nI (p9 + 4))) 18 0 (ri f t0 p9)) rr tl (ri f t0 p9))) hD
      exact k_vret hQ hx hb hr hlk hK hP hD hS (mup (mup (mup g 11 0 (nI (p9 + 4))) 18 0 (ri f t0 p9)) 19 0 (ri f t0 p9)) rfl (by rw [rpC_1 (fun k => ri f t0 (p9 + 4 * k)) one 4 (show q9 ≤ m9 by omega) (show ¬ fr9 = 0 by omega)]; exact ⟨(vS_o (by decide) (vS_o (by decide) (vS_p _ hv))), (rd_ne (by decide) rd_eq), rd_eq, (frx_2 (frx_2 (frx_2 frx_r (by decide)) (by decide)) (by decide))⟩) d_V_readPart_30
    · skip
      refine lv_iload_n hx hb d_V_readPart_11 rfl (lv_at hl 1 rfl) ?_
      refine lv_goto hx hb d_V_readPart_12 (tgt := 19) (by decide) ?_
      refine pf_V_43 hx hb hT hown hK hP hD hS 15 rfl (Nat.le_of_ble_eq_true rfl) d_V_readPart_19 (fun H locs hP hD hS => ?_)
      replace hP : va_P D CC (wC tk ad (mup g 18 0 one) rr ++ tl) H := Eq.mp (congrArg (fun w => va_P D CC w H) (sC_15_9 tk ad g rr tl one)) hP
      replace hD : va_D A (wC tk ad (mup g 18 0 one) rr ++ tl) := Eq.mp (congrArg (fun w => va_D A w) (sC_15_9 tk ad g rr tl one)) hD
      refine lv_aload_n hx hb d_V_readPart_22 rfl (lv_at hl 0 rfl) ?_
      refine lv_aload_n hx hb d_V_readPart_23 rfl (lv_at hl 0 rfl) ?_
      refine gf_V_43 (v := .int ((mup g 18 0 one) 18 0)) hx hb hT hown hK hP 15 rfl rfl d_V_readPart_24 ?_
      refine st_top (show (mup g 18 0 one) 18 0 = one from rd_eq) ?_
      refine pf_V_46 hx hb hT hown hK hP hD hS 15 rfl (Nat.le_of_ble_eq_true rfl) d_V_readPart_27 (fun H locs hP hD hS => ?_)
      replace hP : va_P D CC (wC tk ad (mup (mup g 18 0 one) 19 0 one) rr ++ tl) H := Eq.mp (congrArg (fun w => va_P D CC w H) (sC_15_10 tk ad (mup g 18 0 one) rr tl one)) hP
      replace hD : va_D A (wC tk ad (mup (mup g 18 0 one) 19 0 one) rr ++ tl) := Eq.mp (congrArg (fun w => va_D A w) (sC_15_10 tk ad (mup g 18 0 one) rr tl one)) hD
      exact k_vret hQ hx hb hr hlk hK hP hD hS (mup (mup g 18 0 one) 19 0 one) rfl (by rw [rpC_0 (fun k => ri f t0 (p9 + 4 * k)) one 4 (show q9 ≤ m9 by omega) (show fr9 = 0 by omega) (Or.inr (by omega))]; exact ⟨(vS_o (by decide) (vS_o (by decide) hv)), (rd_ne (by decide) rd_eq), rd_eq, (frx_2 (frx_2 frx_r (by decide)) (by decide))⟩) d_V_readPart_30
