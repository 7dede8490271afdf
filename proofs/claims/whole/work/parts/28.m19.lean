theorem prev_key {g : Nat → Nat → Int32} {X : List kv_I} {l : Nat} {a b : List (List kv_I)} (hr : lr g l (im l X)) (h : pa l X = a ++ b) (ha : a ≠ []) : 0 < (a.map (im l)).flatten.length ∧ g 13 (48 * l + (a.map (im l)).flatten.length - 1) = nI (lo_ a) - nI 1 := by
  obtain ⟨a2, q, rfl⟩ : ∃ a2 q, a = a2 ++ [q] := ⟨a.dropLast, a.getLast ha, (List.dropLast_concat_getLast ha).symm⟩
  rw [List.append_assoc] at h
  have hp := piece_rows hr h
  have hq : q ≠ [] := pa_ne (X := X) (l := l) q (by rw [h]; simp)
  rw [hp.2.2.2.2]
  refine ⟨by omega, ?_⟩
  rw [lo_snoc, ← nI_1, ← Nat.add_assoc, im_lastk hq hp.2.1, show (1 : Int32) = nI 1 from rfl, Int32.add_sub_cancel]
/-- a list of entries went on, with entries of one map -/
def ext (mp : Nat) (E0 E : List (Nat × Nat × Nat × Nat)) : Prop := ∃ N, E = E0 ++ N ∧ ∀ e, e ∈ N → e.2.1 = mp
theorem ext_r {mp : Nat} {E : List (Nat × Nat × Nat × Nat)} : ext mp E E := ⟨[], (List.append_nil _).symm, fun e h => by cases h⟩
theorem ext_p {mp : Nat} {E0 E : List (Nat × Nat × Nat × Nat)} (h : ext mp E0 E) (lv lo hi : Nat) : ext mp E0 (E ++ [(lv, mp, lo, hi)]) := by
  obtain ⟨N, e, hN⟩ := h
  refine ⟨N ++ [(lv, mp, lo, hi)], by rw [e, List.append_assoc], fun x hx => ?_⟩
  rcases List.mem_append.mp hx with q | q
  · exact hN x q
  · rw [List.mem_singleton] at q; rw [q]
theorem lo_48 {f0 : Nat → Option Int32} {l : Nat} {a b : List (List kv_I)} (h : pa l (ol f0 48) = a ++ b) : lo_ a ≤ 48 := by
  unfold lo_
  cases e : a.getLast? with
  | none => exact Nat.zero_le _
  | some q =>
    have hq : q ∈ pa l (ol f0 48) := by rw [h]; exact List.mem_append_left _ (List.mem_of_getLast? e)
    have := lk_lt (pa_so (ol_is f0) hq) (pa_ne q hq)
    simp only
    omega

set_option maxHeartbeats 4000000 in
set_option maxRecDepth 100000 in
theorem c_M_written (l : Launch) (D : va_G) (tk : Nat → ClassId) (sz : Nat) (h : Nat) (ad : Nat → Nat) (g : Nat → Nat → Int32) (la : Nat → Int64) (tl : va_W) (E0 : List (Nat × Nat × Nat × Nat)) (fm : Nat → Nat → Option Int32) (f0 : Nat → Option Int32) (mp fl : Nat) (h11 : g 11 0 = nI (hg (ol f0 48))) (hrow : ∀ l, l < hg (ol f0 48) → lr g l (im l (ol f0 48))) (hsr0 : srM g la fm E0) (hE0 : E0.length + 17 ≤ 3400) (hmp : mp < 180) (h8g : g 8 0 = nI mp) (h5g : g 5 0 = nI fl) (hfl : fl ≤ 40) (hfmp : fm mp = f0) (hf0 : ∀ k, k < 48 → (g 1 (768 + k) = 0 ↔ f0 k = none) ∧ ∀ v, f0 k = some v → g 2 (768 + k) = v) (hmr : ∀ k, k < 48 → ((((la mp) >>> ((nI k).toInt64 &&& 63)) &&& 1 = 1) ↔ ¬ fm mp k = none) ∧ ∀ v, fm mp k = some v → g 10 (48 * mp + k) = v) : Met l y_M_written w_M_written ({ frames := 3, cells := 0, slots := 0, locals := 66 }) (va_Pc [.ref h] (k_pre D (TY tk) sz (wM tk h ad g la ++ tl))) (va_Qi (fun (r : Int32) (u : (Nat → Nat → Int32) × List (Nat × Nat × Nat × Nat)) => ((kq (rq (ol f0 48)) (E0.map (ent fm)) fl).1 = true → r = wrZ (kq (rq (ol f0 48)) (E0.map (ent fm)) fl).2.2 ∧ u.1 5 0 = nI (wr (kq (rq (ol f0 48)) (E0.map (ent fm)) fl).2.2).2) ∧ ((kq (rq (ol f0 48)) (E0.map (ent fm)) fl).1 = false → r = 0 ∧ u.1 5 0 = nI (kq (rq (ol f0 48)) (E0.map (ent fm)) fl).2.2) ∧ u.2.map (ent fm) = (kq (rq (ol f0 48)) (E0.map (ent fm)) fl).2.1 ∧ srM u.1 la fm u.2 ∧ u.2.length ≤ E0.length + 17 ∧ frx [5, 6, 7] g u.1 ∧ ext mp E0 u.2) (fun u t => k_at D (TY tk) (va_A (wM tk h ad g la ++ tl) sz) ((fun (u : (Nat → Nat → Int32) × List (Nat × Nat × Nat × Nat)) => wM tk h ad u.1 la ++ tl) u) t) (va_A (wM tk h ad g la ++ tl) sz)) 0 0 (va_A (wM tk h ad g la ++ tl) sz) := by
  refine k_ofW (fun A => va_Qi (fun (r : Int32) (u : (Nat → Nat → Int32) × List (Nat × Nat × Nat × Nat)) => ((kq (rq (ol f0 48)) (E0.map (ent fm)) fl).1 = true → r = wrZ (kq (rq (ol f0 48)) (E0.map (ent fm)) fl).2.2 ∧ u.1 5 0 = nI (wr (kq (rq (ol f0 48)) (E0.map (ent fm)) fl).2.2).2) ∧ ((kq (rq (ol f0 48)) (E0.map (ent fm)) fl).1 = false → r = 0 ∧ u.1 5 0 = nI (kq (rq (ol f0 48)) (E0.map (ent fm)) fl).2.2) ∧ u.2.map (ent fm) = (kq (rq (ol f0 48)) (E0.map (ent fm)) fl).2.1 ∧ srM u.1 la fm u.2 ∧ u.2.length ≤ E0.length + 17 ∧ frx [5, 6, 7] g u.1 ∧ ext mp E0 u.2) (fun u t => k_at D (TY tk) A ((fun (u : (Nat → Nat → Int32) × List (Nat × Nat × Nat × Nat)) => wM tk h ad u.1 la ++ tl) u) t) A) (by decide) (Nat.le_of_ble_eq_true rfl) ?_
  intro p e s m args below meth c Q A ls hQ hx hb hr hlk hin hts hT hown hml hnw hP hK hD hA hsz hl
  have hS : va_S A s.heap s.heap [] := va_S.rf
  have hc0 : 0 + 0 ≤ 0 ∧ 0 + 0 ≤ 0 := ⟨by decide, by decide⟩
  replace hl : lv_has ls 6 [(0, .ref h)] := hl
  replace hP : va_P D CC (wM tk h ad g la ++ tl) s.heap := hP
  replace hK : va_K D CC (TY tk) s := hK
  refine lv_iconst (v := nI 0) hx hb d_M_written_0 (by decide) ?_
  refine lv_istore_n (lv' := [(1, .int (nI 0)), (0, .ref h)]) hx hb d_M_written_1 rfl hl (by decide) rfl (fun ls hl => ?_)
  have key2 : ∀ (n2 : Nat) (lv : Nat) (γ : Nat → Nat → Int32) (E : List (Nat × Nat × Nat × Nat)) (fc : Nat) (ls : Array Slot) (H : Heap) (locs : List Loc), 3 - lv < n2 → (lv ≤ hg (ol f0 48)) → (kq (Dl (ol f0 48) lv) (E0.map (ent fm)) fl = (true, E.map (ent fm), fc)) → (srM γ la fm E) → (γ 5 0 = nI fc ∧ fc ≤ 40) → (E.length ≤ E0.length + (Dl (ol f0 48) lv).length) → (frx [5, 6, 7] g γ) → (ext mp E0 E) → lv_has ls 6 [(0, .ref h), (1, .int (nI lv))] → va_P D CC (wM tk h ad γ la ++ tl) H → va_D A (wM tk h ad γ la ++ tl) → va_S A s.heap H locs → W p l e ({ frames := 3, cells := 0, slots := 0, locals := 66 } : Room) s m args below meth c H locs 0 0 Q (F0 m 2 ls []) := by
    intro n2
    induction n2 with
    | zero => intro lv γ E fc ls H locs hn; exact absurd hn (Nat.not_lt_zero _)
    | succ n2 ih2 =>
      intro lv γ E fc ls H locs hn2 hlv hkq hsr h5 hEc hfr hex9 hl hP hD hS
      have hh3 := hg_le (ol f0 48)
      refine lv_iload_n hx hb d_M_written_2 rfl (lv_at hl 1 rfl) ?_
      refine lv_aload_n hx hb d_M_written_3 rfl (lv_at hl 0 rfl) ?_
      refine gf_M_89 (v := .int (γ 11 0)) hx hb hT hown hK hP 0 rfl rfl d_M_written_4 ?_
      refine st_top (show γ 11 0 = nI (hg (ol f0 48)) from (congrFun (hfr 11 (by decide)) 0).trans h11) ?_
      refine st_icmp_ge hx hb (by omega) (by omega) d_M_written_7 (tgt := 108) (by decide) (fun hc7 => ?_) (fun hc7 => ?_)
      · skip
        have hlh : lv = hg (ol f0 48) := by omega
        have hKq : (kq (rq (ol f0 48)) (E0.map (ent fm)) fl) = (true, E.map (ent fm), fc) := by rw [show rq (ol f0 48) = Dl (ol f0 48) (hg (ol f0 48)) from rfl, ← hlh]; exact hkq
        rw [hlh] at hEc
        refine lv_aload_n hx hb d_M_written_108 rfl (lv_at hl 0 rfl) ?_
        refine k_calli (va_runV (As := []) (rest := []) ⟨hx, hb, hml, hown, hts⟩ (c_M_writes l D tk H.size h ad γ la tl fc (by omega) h5.1) (cwV 0 hts (gV t_1099 t_1101 s_25 t_9 t_1102) rfl rfl rfl (by decide +kernel) ⟨Nat.le_of_ble_eq_true rfl, Nat.le_of_ble_eq_true rfl⟩) (k_preV hP hK hD hnw 0 rfl rfl) rfl rfl hl.1 rfl (lv_room (Nat.le_of_ble_eq_true rfl)) d_M_written_109 hc0) hD hS hA (fun _ _ H locs hp109 hP hD hK hS => ?_)
        subst hp109
        replace hP : va_P D CC (wM tk h ad (mup γ 5 0 (nI (wr fc).2)) la ++ tl) H := hP
        replace hD : va_D A (wM tk h ad (mup γ 5 0 (nI (wr fc).2)) la ++ tl) := hD
        exact k_zret (v := wrZ fc) hQ hx hb hr hlk hK hP hD hS ((mup γ 5 0 (nI (wr fc).2)), E) rfl (by first | decide | (unfold wrZ; split <;> decide)) (⟨fun _ => ⟨by rw [hKq], by rw [hKq]; exact (rd_eq : mup γ 5 0 (nI (wr fc).2) 5 0 = nI (wr fc).2)⟩, fun q => (by rw [hKq] at q; cases q), by rw [hKq], sr_5 hsr _, (show E.length ≤ E0.length + 17 by have := rq_len (ol_is f0); have e : rq (ol f0 48) = Dl (ol f0 48) (hg (ol f0 48)) := rfl; rw [e] at this; omega), frx_t hfr (L' := [5]) frx_m (fun x h => ⟨h, fun q => h (by simp at q ⊢; omega)⟩), hex9⟩) d_M_written_112
      · skip
        have hl9 : lv < hg (ol f0 48) := hc7
        refine lv_iconst (v := nI 0) hx hb d_M_written_10 (by decide) ?_
        refine lv_istore_n (lv' := [(2, .int (nI 0)), (0, .ref h), (1, .int (nI lv))]) hx hb d_M_written_11 rfl hl (by decide) rfl (fun ls hl => ?_)
        replace hl : lv_has ls 6 [(2, .int (nI ((([] : List (List kv_I)).map (im lv)).flatten.length))), (0, .ref h), (1, .int (nI lv))] := hl
        have key12 : ∀ (n12 : Nat) (a : List (List kv_I)) (b : List (List kv_I)) (γ : Nat → Nat → Int32) (E : List (Nat × Nat × Nat × Nat)) (fc : Nat) (ls : Array Slot) (H : Heap) (locs : List Loc), b.length < n12 → (pa lv (ol f0 48) = a ++ b) → (kq (Dl (ol f0 48) lv ++ a.map (fun p => (lv, p))) (E0.map (ent fm)) fl = (true, E.map (ent fm), fc)) → (srM γ la fm E) → (γ 5 0 = nI fc ∧ fc ≤ 40) → (E.length ≤ E0.length + (Dl (ol f0 48) lv ++ a.map (fun p => (lv, p))).length) → (frx [5, 6, 7] g γ) → (ext mp E0 E) → lv_has ls 6 [(0, .ref h), (1, .int (nI lv)), (2, .int (nI ((a.map (im lv)).flatten.length)))] → va_P D CC (wM tk h ad γ la ++ tl) H → va_D A (wM tk h ad γ la ++ tl) → va_S A s.heap H locs → W p l e ({ frames := 3, cells := 0, slots := 0, locals := 66 } : Room) s m args below meth c H locs 0 0 Q (F0 m 12 ls []) := by
          intro n12
          induction n12 with
          | zero => intro a b γ E fc ls H locs hn; exact absurd hn (Nat.not_lt_zero _)
          | succ n12 ih12 =>
            intro a b γ E fc ls H locs hn12 hab hkq hsr h5 hEc hfr hex9 hl hP hD hS
            have hrc : lr γ lv (im lv (ol f0 48)) := lr_c (hrow lv hl9) (by rw [hfr 12 (by decide)]) (hfr 13 (by decide)) (hfr 14 (by decide))
            have hil : ((a.map (im lv)).flatten.length) ≤ (im lv (ol f0 48)).length := by rw [← rows_all lv (ol f0 48), hab, List.map_append, List.flatten_append, List.length_append]; omega
            have hi48z := im_len (ol_is f0) lv
            have h8 : γ 8 0 = nI mp := (congrFun (hfr 8 (by decide)) 0).trans h8g
            have hf0g : ∀ k, k < 48 → (γ 1 (768 + k) = 0 ↔ f0 k = none) ∧ ∀ v, f0 k = some v → γ 2 (768 + k) = v := fun k hk => by rw [hfr 1 (by decide), hfr 2 (by decide)]; exact hf0 k hk
            refine lv_iload_n hx hb d_M_written_12 rfl (lv_at hl 2 rfl) ?_
            refine lv_aload_n hx hb d_M_written_13 rfl (lv_at hl 0 rfl) ?_
            refine gf_M_30 (v := .ref (ad 12)) hx hb hT hown hK hP 0 rfl rfl d_M_written_14 ?_
            refine lv_iload_n hx hb d_M_written_17 rfl (lv_at hl 1 rfl) ?_
            refine st_iald hx hb hK hP 7 0 rfl rfl (by omega) (by decide) d_M_written_18 ?_
            refine st_top (show γ 12 lv = nI ((im lv (ol f0 48)).length) from hrc.1) ?_
            refine st_icmp_ge hx hb (by omega) (by omega) d_M_written_19 (tgt := 102) (by decide) (fun hc19 => ?_) (fun hc19 => ?_)
            · skip
              have hb0 : b = [] := by cases b with
                | nil => rfl
                | cons p b2 => exfalso; have := piece_rows hrc hab; omega
              have hab9 : pa lv (ol f0 48) = a := by rw [hab, hb0, List.append_nil]
              refine lv_iinc (k := 1) (v := nI (lv + 1)) (lv' := [(1, .int (nI (lv + 1))), (0, .ref h), (2, .int (nI ((a.map (im lv)).flatten.length)))]) hx hb d_M_written_102 hl rfl (nI_add _ _) (by decide) rfl (fun ls hl => ?_)
              refine lv_goto hx hb d_M_written_105 (tgt := 2) (by decide) ?_
              exact ih2 (lv + 1) γ E fc ls _ _ (by omega) (by omega) (by rw [Dl_s, hab9]; exact hkq) hsr h5 (by rw [Dl_s, hab9]; exact hEc) hfr hex9 (lv_sub hl [1, 0] rfl) hP hD hS
            · skip
              obtain ⟨p, b2, hb2⟩ : ∃ p b2, b = p :: b2 := List.exists_cons_of_ne_nil (fun q => by rw [q, List.append_nil] at hab; rw [← hab, rows_all] at hc19; omega)
              rw [hb2] at hab
              have hpr := piece_rows hrc hab
              have hpm : p ∈ pa lv (ol f0 48) := by rw [hab]; simp
              have hpn : p ≠ [] := pa_ne p hpm
              have hlk48 : lk p < 48 := lk_lt (pa_so (ol_is f0) hpm) hpn
              have hlo48 : lo_ a ≤ 48 := lo_48 hab
              have hct : p = ct f0 (lo_ a) (lk p) := pa_ct hab
              have hi48 := im_len (ol_is f0) lv
              obtain ⟨rr, hrr⟩ := rq_split (X := (ol f0 48)) hl9
              have hrl := rq_len (ol_is f0)
              have hlen9 := hrl
              rw [hrr, hab, List.map_append, List.map_cons] at hlen9
              simp only [List.length_append, List.length_map, List.length_cons] at hlen9 hEc
              refine lv_aload_n hx hb d_M_written_22 rfl (lv_at hl 0 rfl) ?_
              refine lv_iload_n hx hb d_M_written_23 rfl (lv_at hl 1 rfl) ?_
              refine lv_iload_n hx hb d_M_written_24 rfl (lv_at hl 2 rfl) ?_
              refine k_calli (va_runV (As := [.int (nI lv), .int (nI ((a.map (im lv)).flatten.length))]) (rest := []) ⟨hx, hb, hml, hown, hts⟩ (c_M_chunkEnd l D tk H.size h ad γ la tl lv (im lv (ol f0 48)).length ((a.map (im lv)).flatten.length) (fun j => ((im lv (ol f0 48)).getD j (0, 0)).1) (by omega) (by omega) (by omega) (by omega) hrc.1 (fun j hj => lr_ky hrc hj)) (cwV 2 hts (gV t_1072 t_1074 s_20 t_9 t_1075) rfl rfl rfl (by decide +kernel) ⟨Nat.le_of_ble_eq_true rfl, Nat.le_of_ble_eq_true rfl⟩) (k_preV hP hK hD hnw 0 rfl rfl) rfl rfl hl.1 rfl (lv_room (Nat.le_of_ble_eq_true rfl)) d_M_written_25 hc0) hD hS hA (fun _ _ H locs hp25 hP hD hK hS => ?_)
              subst hp25
              replace hP : va_P D CC (wM tk h ad γ la ++ tl) H := hP
              replace hD : va_D A (wM tk h ad γ la ++ tl) := hD
              refine st_top (show nI (fs_ (fun j => en lv ((im lv (ol f0 48)).getD j (0, 0)).1) (im lv (ol f0 48)).length ((a.map (im lv)).flatten.length) + 1) = nI (((a.map (im lv)).flatten.length) + (im lv p).length) from congrArg nI hpr.1) ?_
              refine lv_istore_n (lv' := [(3, .int (nI (((a.map (im lv)).flatten.length) + (im lv p).length))), (0, .ref h), (1, .int (nI lv)), (2, .int (nI ((a.map (im lv)).flatten.length)))]) hx hb d_M_written_28 rfl hl (by decide) rfl (fun ls hl => ?_)
              refine lv_iload_n hx hb d_M_written_29 rfl (lv_at hl 3 rfl) ?_
              refine st_if_ne hx hb (by omega) d_M_written_30 (tgt := 37) (by decide) (fun hc30 => ?_) (fun hc30 => ?_)
              · skip
                have hlow : nI (lo_ a) - nI 1 + nI 1 = nI (lo_ a) := Int32.sub_add_cancel _ _
                refine lv_aload_n hx hb d_M_written_37 rfl (lv_at hl 1 rfl) ?_
                refine gf_M_33 (v := .ref (ad 13)) hx hb hT hown hK hP 0 rfl rfl d_M_written_38 ?_
                refine lv_bipush (v := nI 48) hx hb d_M_written_41 (by decide) ?_
                refine lv_iload_n hx hb d_M_written_43 rfl (lv_at hl 2 rfl) ?_
                refine st_imul hx hb d_M_written_44 ?_
                refine lv_iload_n hx hb d_M_written_45 rfl (lv_at hl 3 rfl) ?_
                refine st_iadd hx hb d_M_written_46 ?_
                refine lv_iconst (v := nI 1) hx hb d_M_written_47 (by decide) ?_
                refine st_isub hx hb (by omega) d_M_written_48 ?_
                refine st_iald hx hb hK hP 8 0 rfl rfl (by omega) (by decide) d_M_written_49 ?_
                refine st_top (show γ 13 (((48 * lv) + ((a.map (im lv)).flatten.length)) - 1) = nI (lo_ a) - nI 1 from (prev_key hrc hab (fun q => by rw [q] at hc30; simp at hc30)).2) ?_
                refine lv_istore (lv' := [(4, .int (nI (lo_ a) - nI 1)), (3, .int (nI (((a.map (im lv)).flatten.length) + (im lv p).length))), (0, .ref h), (1, .int (nI lv)), (2, .int (nI ((a.map (im lv)).flatten.length)))]) hx hb d_M_written_50 hl (by decide) rfl (fun ls hl => ?_)
                refine lv_aload_n hx hb d_M_written_52 rfl (lv_at hl 2 rfl) ?_
                refine gf_M_33 (v := .ref (ad 13)) hx hb hT hown hK hP 0 rfl rfl d_M_written_53 ?_
                refine lv_bipush (v := nI 48) hx hb d_M_written_56 (by decide) ?_
                refine lv_iload_n hx hb d_M_written_58 rfl (lv_at hl 3 rfl) ?_
                refine st_imul hx hb d_M_written_59 ?_
                refine lv_iload_n hx hb d_M_written_60 rfl (lv_at hl 1 rfl) ?_
                refine st_iadd hx hb d_M_written_61 ?_
                refine lv_iconst (v := nI 1) hx hb d_M_written_62 (by decide) ?_
                refine st_isub hx hb (by omega) d_M_written_63 ?_
                refine st_iald hx hb hK hP 8 0 rfl rfl (by omega) (by decide) d_M_written_64 ?_
                refine st_top (show γ 13 (((48 * lv) + (((a.map (im lv)).flatten.length) + (im lv p).length)) - 1) = nI (lk p) from by rw [← Nat.add_assoc]; exact im_lastk hpn hpr.2.1) ?_
                refine lv_istore (lv' := [(5, .int (nI (lk p))), (4, .int (nI (lo_ a) - nI 1)), (3, .int (nI (((a.map (im lv)).flatten.length) + (im lv p).length))), (0, .ref h), (1, .int (nI lv)), (2, .int (nI ((a.map (im lv)).flatten.length)))]) hx hb d_M_written_65 hl (by decide) rfl (fun ls hl => ?_)
                refine lv_aload_n hx hb d_M_written_67 rfl (lv_at hl 3 rfl) ?_
                refine lv_iload_n hx hb d_M_written_68 rfl (lv_at hl 4 rfl) ?_
                refine lv_iload hx hb d_M_written_69 (lv_at hl 1 rfl) ?_
                refine lv_iload hx hb d_M_written_71 (lv_at hl 0 rfl) ?_
                refine k_calli (va_runV (As := [.int (nI lv), .int (nI (lo_ a) - nI 1), .int (nI (lk p))]) (rest := []) ⟨hx, hb, hml, hown, hts⟩ (c_M_stored l D tk H.size h ad γ la tl E fm f0 lv (lo_ a) (lk p) (nI (lo_ a) - nI 1) (by omega) hsr.1 (fun c e hc => (hsr.2 c e hc).1) (fun c e hc => (hsr.2 c e hc).2.2) hf0g (by omega) hlk48 hlo48 hlow (Classical.propDecidable _) (fun _ _ => Classical.propDecidable _)) (cwV 3 hts (gV t_1095 t_1097 s_24 t_9 t_1098) rfl rfl rfl (by decide +kernel) ⟨Nat.le_of_ble_eq_true rfl, Nat.le_of_ble_eq_true rfl⟩) (k_preV hP hK hD hnw 0 rfl rfl) rfl rfl hl.1 rfl (lv_room (Nat.le_of_ble_eq_true rfl)) d_M_written_73 hc0) hD hS hA (fun r73 _ H locs hp73 hP hD hK hS => ?_)
                replace hP : va_P D CC (wM tk h ad γ la ++ tl) H := hP
                replace hD : va_D A (wM tk h ad γ la ++ tl) := hD
                refine lv_if_ne hx hb d_M_written_76 (tgt := 97) (by decide) (fun hc76 => ?_) (fun hc76 => ?_)
                · skip
                  have hin : (lv, p) ∈ E.map (ent fm) := by rw [hct]; exact (sr_ex hsr hlk48 (by rw [← hct])).mp (Classical.byContradiction (fun q => hc76 (by rw [hp73]; exact ifx.mpr q)))
                  refine lv_iload_n hx hb d_M_written_97 rfl (lv_at hl 2 rfl) ?_
                  refine lv_istore_n (lv' := [(2, .int (nI (((a.map (im lv)).flatten.length) + (im lv p).length))), (5, .int (nI (lk p))), (4, .int (nI (lo_ a) - nI 1)), (3, .int (nI (((a.map (im lv)).flatten.length) + (im lv p).length))), (0, .ref h), (1, .int (nI lv))]) hx hb d_M_written_98 rfl hl (by decide) rfl (fun ls hl => ?_)
                  refine lv_goto hx hb d_M_written_99 (tgt := 12) (by decide) ?_
                  replace hl : lv_has ls 6 [(2, .int (nI (((a ++ [p]).map (im lv)).flatten.length))), (5, .int (nI (lk p))), (4, .int (nI (lo_ a) - nI 1)), (3, .int (nI (((a.map (im lv)).flatten.length) + (im lv p).length))), (0, .ref h), (1, .int (nI lv))] := by rw [hpr.2.2.2.2]; exact hl
                  exact ih12 (a ++ [p]) b2 γ E fc ls _ _ (by rw [hb2] at hn12; simp only [List.length_cons] at hn12; omega) (by rw [List.append_assoc]; exact hab) (by rw [List.map_append, ← List.append_assoc]; exact kq_1 hkq hin) hsr h5 (by simp only [List.length_append, List.length_map, List.length_singleton] at hEc ⊢; omega) hfr hex9 (lv_sub hl [4, 5, 0] rfl) hP hD hS
                · skip
                  have hnin : (lv, p) ∉ E.map (ent fm) := fun q => by rw [hp73] at hc76; exact ifx.mp hc76 ((sr_ex hsr hlk48 (by rw [← hct])).mpr (by rw [← hct]; exact q))
                  refine lv_aload_n hx hb d_M_written_79 rfl (lv_at hl 3 rfl) ?_
                  refine k_calli (va_runV (As := []) (rest := []) ⟨hx, hb, hml, hown, hts⟩ (c_M_writes l D tk H.size h ad γ la tl fc (by omega) h5.1) (cwV 0 hts (gV t_1099 t_1101 s_25 t_9 t_1102) rfl rfl rfl (by decide +kernel) ⟨Nat.le_of_ble_eq_true rfl, Nat.le_of_ble_eq_true rfl⟩) (k_preV hP hK hD hnw 0 rfl rfl) rfl rfl hl.1 rfl (lv_room (Nat.le_of_ble_eq_true rfl)) d_M_written_80 hc0) hD hS hA (fun _ _ H locs hp80 hP hD hK hS => ?_)
                  subst hp80
                  replace hP : va_P D CC (wM tk h ad (mup γ 5 0 (nI (wr fc).2)) la ++ tl) H := hP
                  replace hD : va_D A (wM tk h ad (mup γ 5 0 (nI (wr fc).2)) la ++ tl) := hD
                  refine lv_if_ne hx hb d_M_written_83 (tgt := 88) (by decide) (fun hc83 => ?_) (fun hc83 => ?_)
                  · skip
                    have hwt : (wr fc).1 = true := Classical.byContradiction (fun q => hc83 (if_neg q))
                    refine lv_aload_n hx hb d_M_written_88 rfl (lv_at hl 3 rfl) ?_
                    refine lv_iload_n hx hb d_M_written_89 rfl (lv_at hl 4 rfl) ?_
                    refine lv_iload hx hb d_M_written_90 (lv_at hl 1 rfl) ?_
                    refine lv_iload hx hb d_M_written_92 (lv_at hl 0 rfl) ?_
                    refine k_callv (va_runV (As := [.int (nI lv), .int (nI (lo_ a) - nI 1), .int (nI (lk p))]) (rest := []) ⟨hx, hb, hml, hown, hts⟩ (c_M_store l D tk H.size h ad (mup γ 5 0 (nI (wr fc).2)) la tl lv (lk p) E.length mp (nI (lo_ a) - nI 1) (by omega) (rd_ne (by decide) hsr.1) (rd_ne (by decide) h8)) (cwV 3 hts (gV t_1103 t_1105 s_26 t_9 t_1106) rfl rfl rfl (by decide +kernel) ⟨Nat.le_of_ble_eq_true rfl, Nat.le_of_ble_eq_true rfl⟩) (k_preV hP hK hD hnw 0 rfl rfl) rfl rfl hl.1 rfl (lv_room (Nat.le_of_ble_eq_true rfl)) d_M_written_94 hc0) hD hS hA (fun _ H locs hp94 hP hD hK hS => ?_)
                    rw [chE_cw (by omega) hmp hlo48 hlk48 hlow] at hP hD
                    replace hP : va_P D CC (wM tk h ad (mup (mup (mup γ 5 0 (nI (wr fc).2)) 7 E.length (nI (cw (lv, mp, lo_ a, lk p)))) 6 0 (nI (E.length + 1))) la ++ tl) H := hP
                    replace hD : va_D A (wM tk h ad (mup (mup (mup γ 5 0 (nI (wr fc).2)) 7 E.length (nI (cw (lv, mp, lo_ a, lk p)))) 6 0 (nI (E.length + 1))) la ++ tl) := hD
                    refine lv_iload_n hx hb d_M_written_97 rfl (lv_at hl 2 rfl) ?_
                    refine lv_istore_n (lv' := [(2, .int (nI (((a.map (im lv)).flatten.length) + (im lv p).length))), (5, .int (nI (lk p))), (4, .int (nI (lo_ a) - nI 1)), (3, .int (nI (((a.map (im lv)).flatten.length) + (im lv p).length))), (0, .ref h), (1, .int (nI lv))]) hx hb d_M_written_98 rfl hl (by decide) rfl (fun ls hl => ?_)
                    refine lv_goto hx hb d_M_written_99 (tgt := 12) (by decide) ?_
                    replace hl : lv_has ls 6 [(2, .int (nI (((a ++ [p]).map (im lv)).flatten.length))), (5, .int (nI (lk p))), (4, .int (nI (lo_ a) - nI 1)), (3, .int (nI (((a.map (im lv)).flatten.length) + (im lv p).length))), (0, .ref h), (1, .int (nI lv))] := by rw [hpr.2.2.2.2]; exact hl
                    exact ih12 (a ++ [p]) b2 (mup (mup (mup γ 5 0 (nI (wr fc).2)) 7 E.length (nI (cw (lv, mp, lo_ a, lk p)))) 6 0 (nI (E.length + 1))) (E ++ [(lv, mp, lo_ a, lk p)]) ((wr fc).2) ls _ _ (by rw [hb2] at hn12; simp only [List.length_cons] at hn12; omega) (by rw [List.append_assoc]; exact hab) (by rw [List.map_append, ← List.append_assoc, List.map_append]; have e8 : ent fm (lv, mp, lo_ a, lk p) = (lv, p) := (show (lv, ct (fm mp) (lo_ a) (lk p)) = (lv, p) from by rw [hfmp, ← hct]); show kq (_ ++ [(lv, p)]) _ fl = (true, _ ++ [ent fm (lv, mp, lo_ a, lk p)], _); rw [e8]; exact kq_2 hkq hnin hwt) (sr_push (sr_5 hsr _) (by omega) hmp hlo48 hlk48 (by rw [hfmp, ← hct]) (fun k hk => ⟨(hmr k hk).1, fun v hv => rd_ne (by decide) ((congrFun (hfr 10 (by decide)) _).trans ((hmr k hk).2 v hv))⟩)) (⟨rd_ne (by decide) (rd_ne (by decide) rd_eq), wr_le h5.2⟩) (by simp only [List.length_append, List.length_map, List.length_singleton] at hEc ⊢; omega) (frx_t (frx_t (frx_t hfr (L' := [5]) frx_m (M := [5, 6, 7]) (fun x h => ⟨h, fun q => h (by simp at q ⊢; omega)⟩)) (L' := [7]) frx_m (M := [5, 6, 7]) (fun x h => ⟨h, fun q => h (by simp at q ⊢; omega)⟩)) (L' := [6]) frx_m (fun x h => ⟨h, fun q => h (by simp at q ⊢; omega)⟩)) (ext_p hex9 _ _ _) (lv_sub hl [4, 5, 0] rfl) hP hD hS
                  · skip
                    have hwf : ¬ (wr fc).1 = true := fun q => by unfold wrZ at hc83; rw [if_pos q] at hc83; exact absurd hc83 (by decide)
                    have hKq : (kq (rq (ol f0 48)) (E0.map (ent fm)) fl) = (false, E.map (ent fm), (wr fc).2) := by rw [hrr, hab, List.map_append, List.map_cons, List.append_assoc, List.cons_append, ← List.append_assoc]; exact kq_3 hkq hnin hwf _
                    refine lv_iconst (v := nI 0) hx hb d_M_written_86 (by decide) ?_
                    exact k_zret (v := nI 0) hQ hx hb hr hlk hK hP hD hS ((mup γ 5 0 (nI (wr fc).2)), E) rfl (by first | decide | (unfold wrZ; split <;> decide)) (⟨fun q => (by rw [hKq] at q; cases q), fun _ => ⟨rfl, by rw [hKq]; exact (rd_eq : mup γ 5 0 (nI (wr fc).2) 5 0 = nI (wr fc).2)⟩, by rw [hKq], sr_5 hsr _, (show E.length ≤ E0.length + 17 by omega), frx_t hfr (L' := [5]) frx_m (fun x h => ⟨h, fun q => h (by simp at q ⊢; omega)⟩), hex9⟩) d_M_written_87
              · skip
                have ha0 : a = [] := Classical.byContradiction (fun q => by have := (prev_key hrc hab q).1; omega)
                have hlow : (-1 : Int32) + nI 1 = nI (lo_ a) := by rw [ha0]; decide
                refine lv_iconst (v := -1) hx hb d_M_written_33 (by decide) ?_
                refine lv_goto hx hb d_M_written_34 (tgt := 50) (by decide) ?_
                refine lv_istore (lv' := [(4, .int (-1)), (3, .int (nI (((a.map (im lv)).flatten.length) + (im lv p).length))), (0, .ref h), (1, .int (nI lv)), (2, .int (nI ((a.map (im lv)).flatten.length)))]) hx hb d_M_written_50 hl (by decide) rfl (fun ls hl => ?_)
                refine lv_aload_n hx hb d_M_written_52 rfl (lv_at hl 2 rfl) ?_
                refine gf_M_33 (v := .ref (ad 13)) hx hb hT hown hK hP 0 rfl rfl d_M_written_53 ?_
                refine lv_bipush (v := nI 48) hx hb d_M_written_56 (by decide) ?_
                refine lv_iload_n hx hb d_M_written_58 rfl (lv_at hl 3 rfl) ?_
                refine st_imul hx hb d_M_written_59 ?_
                refine lv_iload_n hx hb d_M_written_60 rfl (lv_at hl 1 rfl) ?_
                refine st_iadd hx hb d_M_written_61 ?_
                refine lv_iconst (v := nI 1) hx hb d_M_written_62 (by decide) ?_
                refine st_isub hx hb (by omega) d_M_written_63 ?_
                refine st_iald hx hb hK hP 8 0 rfl rfl (by omega) (by decide) d_M_written_64 ?_
                refine st_top (show γ 13 (((48 * lv) + (((a.map (im lv)).flatten.length) + (im lv p).length)) - 1) = nI (lk p) from by rw [← Nat.add_assoc]; exact im_lastk hpn hpr.2.1) ?_
                refine lv_istore (lv' := [(5, .int (nI (lk p))), (4, .int (-1)), (3, .int (nI (((a.map (im lv)).flatten.length) + (im lv p).length))), (0, .ref h), (1, .int (nI lv)), (2, .int (nI ((a.map (im lv)).flatten.length)))]) hx hb d_M_written_65 hl (by decide) rfl (fun ls hl => ?_)
                refine lv_aload_n hx hb d_M_written_67 rfl (lv_at hl 3 rfl) ?_
                refine lv_iload_n hx hb d_M_written_68 rfl (lv_at hl 4 rfl) ?_
                refine lv_iload hx hb d_M_written_69 (lv_at hl 1 rfl) ?_
                refine lv_iload hx hb d_M_written_71 (lv_at hl 0 rfl) ?_
                refine k_calli (va_runV (As := [.int (nI lv), .int (-1), .int (nI (lk p))]) (rest := []) ⟨hx, hb, hml, hown, hts⟩ (c_M_stored l D tk H.size h ad γ la tl E fm f0 lv (lo_ a) (lk p) (-1) (by omega) hsr.1 (fun c e hc => (hsr.2 c e hc).1) (fun c e hc => (hsr.2 c e hc).2.2) hf0g (by omega) hlk48 hlo48 hlow (Classical.propDecidable _) (fun _ _ => Classical.propDecidable _)) (cwV 3 hts (gV t_1095 t_1097 s_24 t_9 t_1098) rfl rfl rfl (by decide +kernel) ⟨Nat.le_of_ble_eq_true rfl, Nat.le_of_ble_eq_true rfl⟩) (k_preV hP hK hD hnw 0 rfl rfl) rfl rfl hl.1 rfl (lv_room (Nat.le_of_ble_eq_true rfl)) d_M_written_73 hc0) hD hS hA (fun r73 _ H locs hp73 hP hD hK hS => ?_)
                replace hP : va_P D CC (wM tk h ad γ la ++ tl) H := hP
                replace hD : va_D A (wM tk h ad γ la ++ tl) := hD
                refine lv_if_ne hx hb d_M_written_76 (tgt := 97) (by decide) (fun hc76 => ?_) (fun hc76 => ?_)
                · skip
                  have hin : (lv, p) ∈ E.map (ent fm) := by rw [hct]; exact (sr_ex hsr hlk48 (by rw [← hct])).mp (Classical.byContradiction (fun q => hc76 (by rw [hp73]; exact ifx.mpr q)))
                  refine lv_iload_n hx hb d_M_written_97 rfl (lv_at hl 2 rfl) ?_
                  refine lv_istore_n (lv' := [(2, .int (nI (((a.map (im lv)).flatten.length) + (im lv p).length))), (5, .int (nI (lk p))), (4, .int (-1)), (3, .int (nI (((a.map (im lv)).flatten.length) + (im lv p).length))), (0, .ref h), (1, .int (nI lv))]) hx hb d_M_written_98 rfl hl (by decide) rfl (fun ls hl => ?_)
                  refine lv_goto hx hb d_M_written_99 (tgt := 12) (by decide) ?_
                  replace hl : lv_has ls 6 [(2, .int (nI (((a ++ [p]).map (im lv)).flatten.length))), (5, .int (nI (lk p))), (4, .int (-1)), (3, .int (nI (((a.map (im lv)).flatten.length) + (im lv p).length))), (0, .ref h), (1, .int (nI lv))] := by rw [hpr.2.2.2.2]; exact hl
                  exact ih12 (a ++ [p]) b2 γ E fc ls _ _ (by rw [hb2] at hn12; simp only [List.length_cons] at hn12; omega) (by rw [List.append_assoc]; exact hab) (by rw [List.map_append, ← List.append_assoc]; exact kq_1 hkq hin) hsr h5 (by simp only [List.length_append, List.length_map, List.length_singleton] at hEc ⊢; omega) hfr hex9 (lv_sub hl [4, 5, 0] rfl) hP hD hS
                · skip
                  have hnin : (lv, p) ∉ E.map (ent fm) := fun q => by rw [hp73] at hc76; exact ifx.mp hc76 ((sr_ex hsr hlk48 (by rw [← hct])).mpr (by rw [← hct]; exact q))
                  refine lv_aload_n hx hb d_M_written_79 rfl (lv_at hl 3 rfl) ?_
                  refine k_calli (va_runV (As := []) (rest := []) ⟨hx, hb, hml, hown, hts⟩ (c_M_writes l D tk H.size h ad γ la tl fc (by omega) h5.1) (cwV 0 hts (gV t_1099 t_1101 s_25 t_9 t_1102) rfl rfl rfl (by decide +kernel) ⟨Nat.le_of_ble_eq_true rfl, Nat.le_of_ble_eq_true rfl⟩) (k_preV hP hK hD hnw 0 rfl rfl) rfl rfl hl.1 rfl (lv_room (Nat.le_of_ble_eq_true rfl)) d_M_written_80 hc0) hD hS hA (fun _ _ H locs hp80 hP hD hK hS => ?_)
                  subst hp80
                  replace hP : va_P D CC (wM tk h ad (mup γ 5 0 (nI (wr fc).2)) la ++ tl) H := hP
                  replace hD : va_D A (wM tk h ad (mup γ 5 0 (nI (wr fc).2)) la ++ tl) := hD
                  refine lv_if_ne hx hb d_M_written_83 (tgt := 88) (by decide) (fun hc83 => ?_) (fun hc83 => ?_)
                  · skip
                    have hwt : (wr fc).1 = true := Classical.byContradiction (fun q => hc83 (if_neg q))
                    refine lv_aload_n hx hb d_M_written_88 rfl (lv_at hl 3 rfl) ?_
                    refine lv_iload_n hx hb d_M_written_89 rfl (lv_at hl 4 rfl) ?_
                    refine lv_iload hx hb d_M_written_90 (lv_at hl 1 rfl) ?_
                    refine lv_iload hx hb d_M_written_92 (lv_at hl 0 rfl) ?_
                    refine k_callv (va_runV (As := [.int (nI lv), .int (-1), .int (nI (lk p))]) (rest := []) ⟨hx, hb, hml, hown, hts⟩ (c_M_store l D tk H.size h ad (mup γ 5 0 (nI (wr fc).2)) la tl lv (lk p) E.length mp (-1) (by omega) (rd_ne (by decide) hsr.1) (rd_ne (by decide) h8)) (cwV 3 hts (gV t_1103 t_1105 s_26 t_9 t_1106) rfl rfl rfl (by decide +kernel) ⟨Nat.le_of_ble_eq_true rfl, Nat.le_of_ble_eq_true rfl⟩) (k_preV hP hK hD hnw 0 rfl rfl) rfl rfl hl.1 rfl (lv_room (Nat.le_of_ble_eq_true rfl)) d_M_written_94 hc0) hD hS hA (fun _ H locs hp94 hP hD hK hS => ?_)
                    rw [chE_cw (by omega) hmp hlo48 hlk48 hlow] at hP hD
                    replace hP : va_P D CC (wM tk h ad (mup (mup (mup γ 5 0 (nI (wr fc).2)) 7 E.length (nI (cw (lv, mp, lo_ a, lk p)))) 6 0 (nI (E.length + 1))) la ++ tl) H := hP
                    replace hD : va_D A (wM tk h ad (mup (mup (mup γ 5 0 (nI (wr fc).2)) 7 E.length (nI (cw (lv, mp, lo_ a, lk p)))) 6 0 (nI (E.length + 1))) la ++ tl) := hD
                    refine lv_iload_n hx hb d_M_written_97 rfl (lv_at hl 2 rfl) ?_
                    refine lv_istore_n (lv' := [(2, .int (nI (((a.map (im lv)).flatten.length) + (im lv p).length))), (5, .int (nI (lk p))), (4, .int (-1)), (3, .int (nI (((a.map (im lv)).flatten.length) + (im lv p).length))), (0, .ref h), (1, .int (nI lv))]) hx hb d_M_written_98 rfl hl (by decide) rfl (fun ls hl => ?_)
                    refine lv_goto hx hb d_M_written_99 (tgt := 12) (by decide) ?_
                    replace hl : lv_has ls 6 [(2, .int (nI (((a ++ [p]).map (im lv)).flatten.length))), (5, .int (nI (lk p))), (4, .int (-1)), (3, .int (nI (((a.map (im lv)).flatten.length) + (im lv p).length))), (0, .ref h), (1, .int (nI lv))] := by rw [hpr.2.2.2.2]; exact hl
                    exact ih12 (a ++ [p]) b2 (mup (mup (mup γ 5 0 (nI (wr fc).2)) 7 E.length (nI (cw (lv, mp, lo_ a, lk p)))) 6 0 (nI (E.length + 1))) (E ++ [(lv, mp, lo_ a, lk p)]) ((wr fc).2) ls _ _ (by rw [hb2] at hn12; simp only [List.length_cons] at hn12; omega) (by rw [List.append_assoc]; exact hab) (by rw [List.map_append, ← List.append_assoc, List.map_append]; have e8 : ent fm (lv, mp, lo_ a, lk p) = (lv, p) := (show (lv, ct (fm mp) (lo_ a) (lk p)) = (lv, p) from by rw [hfmp, ← hct]); show kq (_ ++ [(lv, p)]) _ fl = (true, _ ++ [ent fm (lv, mp, lo_ a, lk p)], _); rw [e8]; exact kq_2 hkq hnin hwt) (sr_push (sr_5 hsr _) (by omega) hmp hlo48 hlk48 (by rw [hfmp, ← hct]) (fun k hk => ⟨(hmr k hk).1, fun v hv => rd_ne (by decide) ((congrFun (hfr 10 (by decide)) _).trans ((hmr k hk).2 v hv))⟩)) (⟨rd_ne (by decide) (rd_ne (by decide) rd_eq), wr_le h5.2⟩) (by simp only [List.length_append, List.length_map, List.length_singleton] at hEc ⊢; omega) (frx_t (frx_t (frx_t hfr (L' := [5]) frx_m (M := [5, 6, 7]) (fun x h => ⟨h, fun q => h (by simp at q ⊢; omega)⟩)) (L' := [7]) frx_m (M := [5, 6, 7]) (fun x h => ⟨h, fun q => h (by simp at q ⊢; omega)⟩)) (L' := [6]) frx_m (fun x h => ⟨h, fun q => h (by simp at q ⊢; omega)⟩)) (ext_p hex9 _ _ _) (lv_sub hl [4, 5, 0] rfl) hP hD hS
                  · skip
                    have hwf : ¬ (wr fc).1 = true := fun q => by unfold wrZ at hc83; rw [if_pos q] at hc83; exact absurd hc83 (by decide)
                    have hKq : (kq (rq (ol f0 48)) (E0.map (ent fm)) fl) = (false, E.map (ent fm), (wr fc).2) := by rw [hrr, hab, List.map_append, List.map_cons, List.append_assoc, List.cons_append, ← List.append_assoc]; exact kq_3 hkq hnin hwf _
                    refine lv_iconst (v := nI 0) hx hb d_M_written_86 (by decide) ?_
                    exact k_zret (v := nI 0) hQ hx hb hr hlk hK hP hD hS ((mup γ 5 0 (nI (wr fc).2)), E) rfl (by first | decide | (unfold wrZ; split <;> decide)) (⟨fun q => (by rw [hKq] at q; cases q), fun _ => ⟨rfl, by rw [hKq]; exact (rd_eq : mup γ 5 0 (nI (wr fc).2) 5 0 = nI (wr fc).2)⟩, by rw [hKq], sr_5 hsr _, (show E.length ≤ E0.length + 17 by omega), frx_t hfr (L' := [5]) frx_m (fun x h => ⟨h, fun q => h (by simp at q ⊢; omega)⟩), hex9⟩) d_M_written_87
        exact key12 _ ([]) (pa lv (ol f0 48)) γ E fc ls _ _ (Nat.lt_succ_self _) rfl (by rw [List.map_nil, List.append_nil]; exact hkq) hsr h5 (by rw [List.map_nil, List.append_nil]; exact hEc) hfr hex9 (lv_sub hl [1, 2, 0] rfl) hP hD hS
  exact key2 _ 0 g E0 fl ls _ _ (Nat.lt_succ_self _) (by omega) rfl hsr0 (⟨h5g, hfl⟩) (by omega) frx_r ext_r (lv_sub hl [1, 0] rfl) hP hD hS
