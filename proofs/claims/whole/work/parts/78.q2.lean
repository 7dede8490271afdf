theorem hts_of {s : State} {args : Array Value} (hT : ∀ w ∈ TT, w.before args s = true) : ∀ w ∈ Cond.initialized "SealedBookModel" :: TT, w.before args s = true := fun w hw => by
  rcases List.mem_cons.mp hw with rfl | hw
  · exact hT _ t_9
  · exact hT _ hw
section QQ
variable {p : Program} {l : Launch} {e : Env} {s : State} {m : MethodId} {below : List Frame} {meth : Method} {c : Code} {H : Heap} {locs : List Loc} {cells slots : Nat} {Q : State → Prop}
variable {b L : Nat} {xs : Nat → Int32} {D : va_G} {tk : Nat → ClassId} {ac am : Nat → Nat} {gc gm : Nat → Nat → Int32} {rr : Nat → Nat → Option Nat} {ao h : Nat} {fo : Nat → Int64} {la : Nat → Int64} {tl : va_W} {pc : Nat} {ls : Array Slot} {rest : List Value} {lv : List (Nat × Value)}
variable {n : Nat} {S : List ck_I} {ca : Nat → Nat} {bl : Nat → Nat → Option Nat} {f : Nat} {fm : Nat → Nat → Option Int32} {E : List (Nat × Nat × Nat × Nat)} {mp : Nat} {Xs : Nat → List kv_I} {V : Nat} {f0 : Nat → Option Int32} {B : List Int32} {ft : Nat → Int32} {t0 : Nat}

set_option maxHeartbeats 4000000 in
set_option maxRecDepth 100000 in
theorem q_thr (C : LC p l s m c b L xs D tk) (hP : va_P D CC (wL tk ac gc rr ao fo h am gm la tl) H) (hD : va_D (AL s) (wL tk ac gc rr ao fo h am gm la tl)) (hS : va_S (AL s) s.heap H locs) (hl : lv_has ls 7 lv) (hcl : cells ≤ 601024) (hsl : slots ≤ 7293034) {i2 i5 : Nat} (k2 : lv[i2]? = some (2, .ref h)) {r : Int32} (k5 : lv[i5]? = some (5, .int r)) (hr : gm 0 0 = r) (d0 : decode code pc = .ok (.aload_n 2, 1)) (d1 : decode code (pc + 1) = .ok (.invokevirtual 66, 3)) (d2 : decode code (pc + 4) = .ok (.iload 5, 2)) (d3 : decode code (pc + 6) = .ok (.if_icmp .eq 5, 3))
    (kk : ∀ (H1 : Heap) (locs1 : List Loc), va_P D CC (wL tk ac gc rr ao fo h am gm la tl) H1 → va_D (AL s) (wL tk ac gc rr ao fo h am gm la tl) → va_S (AL s) s.heap H1 locs1 → W p l e room_1 s m #[Value.ref b] below meth c H1 locs1 cells slots Q (F0 m (pc + 11) ls [])) : W p l e room_1 s m #[Value.ref b] below meth c H locs cells slots Q (F0 m pc ls []) := by
  obtain ⟨⟨hx, hb, hml, hown⟩, hT, hnw, hxF, hK, ⟨hX, hbl, hL⟩, htr⟩ := C
  have hts := hts_of hT
  have hcc : cells + 0 ≤ room_1.cells ∧ slots + 0 ≤ room_1.slots := ⟨hcl, hsl⟩
  refine lv_aload_n hx hb d0 rfl (lv_at hl i2 k2) ?_
  have hP2 := vP_perm (wL_pm tk ac gc rr ao fo h am gm la tl) hP
  have hD2 := vD_perm (wL_pm tk ac gc rr ao fo h am gm la tl) hD
  refine k_calli (va_runV (As := []) (rest := []) ⟨hx, hb, hml, hown, hts⟩ (c_M_thrown l D tk H.size h am gm la (wR tk ac gc rr ao fo tl)) (cwV 0 hts (gV t_1029 t_1030 t_1031 t_9 t_1032) rfl rfl rfl (by decide +kernel) ⟨Nat.le_of_ble_eq_true rfl, Nat.le_of_ble_eq_true rfl⟩) (k_preV hP2 hK hD2 hnw 0 rfl rfl) rfl rfl hl.1 rfl (lv_room (Nat.le_of_ble_eq_true rfl)) d1 hcc) hD2 hS AL_in (fun r9 u9 H1 locs1 hp hP hD hK hS => ?_)
  refine lv_iload hx hb d2 (lv_at hl i5 k5) ?_
  refine lv_icmp_eq hx hb d3 (tgt := pc + 11) (by omega) (fun _ => ?_) (fun q => absurd (hp.trans hr) q)
  exact kk H1 locs1 (vP_perm (wL_pm tk ac gc rr ao fo h am gm la tl).symm hP) (vD_perm (wL_pm tk ac gc rr ao fo h am gm la tl).symm hD) hS
set_option maxHeartbeats 4000000 in
set_option maxRecDepth 100000 in
theorem q_cmp (C : LC p l s m c b L xs D tk) (hP : va_P D CC (wL tk ac gc rr ao fo h am gm la tl) H) (hD : va_D (AL s) (wL tk ac gc rr ao fo h am gm la tl)) (hS : va_S (AL s) s.heap H locs) (hl : lv_has ls 7 lv) {i3 i5 i6 : Nat} (k3 : lv[i3]? = some (3, .ref ao)) {r r6 : Int32} (k5 : lv[i5]? = some (5, .int r)) (k6 : lv[i6]? = some (6, .int r6)) (hr : r = 0 → fo 0 = r6.toInt64) (d0 : decode code pc = .ok (.iload 5, 2)) (d1 : decode code (pc + 2) = .ok (.ifCond .ne 15, 3)) (d2 : decode code (pc + 5) = .ok (.aload_n 3, 1)) (d3 : decode code (pc + 6) = .ok (.iconst 0, 1)) (d4 : decode code (pc + 7) = .ok (.laload, 1)) (d5 : decode code (pc + 8) = .ok (.iload 6, 2)) (d6 : decode code (pc + 10) = .ok (.i2l, 1)) (d7 : decode code (pc + 11) = .ok (.lcmp, 1)) (d8 : decode code (pc + 12) = .ok (.ifCond .eq 5, 3))
    (kk : W p l e room_1 s m #[Value.ref b] below meth c H locs cells slots Q (F0 m (pc + 17) ls [])) : W p l e room_1 s m #[Value.ref b] below meth c H locs cells slots Q (F0 m pc ls []) := by
  obtain ⟨⟨hx, hb, hml, hown⟩, hT, hnw, hxF, hK, ⟨hX, hbl, hL⟩, htr⟩ := C
  have hts := hts_of hT
  refine lv_iload hx hb d0 (lv_at hl i5 k5) ?_
  refine lv_if_ne hx hb d1 (tgt := pc + 17) (by omega) (fun _ => kk) (fun hz => ?_)
  refine lv_aload_n hx hb d2 rfl (lv_at hl i3 k3) ?_
  refine lv_iconst (v := nI 0) hx hb d3 (by decide) ?_
  refine st_lald (f := fo) hx hb hK hP 18 2 rfl rfl (by decide) (by decide) d4 ?_
  refine lv_iload hx hb d5 (lv_at hl i6 k6) ?_
  refine lv_i2l (v := r6.toInt64) hx hb d6 rfl ?_
  refine W.lcmp hx hb d7 ?_
  refine lv_if_eq hx hb d8 (tgt := pc + 17) (by omega) (fun _ => kk) (fun q => absurd ((lg_cmp_eq _ _).mpr (hr hz)) q)
set_option maxHeartbeats 4000000 in
set_option maxRecDepth 100000 in
theorem q_cmz (C : LC p l s m c b L xs D tk) (hP : va_P D CC (wL tk ac gc rr ao fo h am gm la tl) H) (hD : va_D (AL s) (wL tk ac gc rr ao fo h am gm la tl)) (hS : va_S (AL s) s.heap H locs) (hl : lv_has ls 7 lv) {i3 i5 i6 : Nat} (k3 : lv[i3]? = some (3, .ref ao)) {r r6 : Int32} (k5 : lv[i5]? = some (5, .int r)) (k6 : lv[i6]? = some (6, .int r6)) (hr : r = 0 → fo 0 = if r6 = 0 then 0 else 1) (d0 : decode code pc = .ok (.iload 5, 2)) (d1 : decode code (pc + 2) = .ok (.ifCond .ne 22, 3)) (d2 : decode code (pc + 5) = .ok (.aload_n 3, 1)) (d3 : decode code (pc + 6) = .ok (.iconst 0, 1)) (d4 : decode code (pc + 7) = .ok (.laload, 1)) (d5 : decode code (pc + 8) = .ok (.iload 6, 2)) (d6 : decode code (pc + 10) = .ok (.ifCond .eq 7, 3)) (d7 : decode code (pc + 13) = .ok (.lconst 1, 1)) (d8 : decode code (pc + 14) = .ok (.goto 4, 3)) (d9 : decode code (pc + 17) = .ok (.lconst 0, 1)) (d10 : decode code (pc + 18) = .ok (.lcmp, 1)) (d11 : decode code (pc + 19) = .ok (.ifCond .eq 5, 3))
    (kk : W p l e room_1 s m #[Value.ref b] below meth c H locs cells slots Q (F0 m (pc + 24) ls [])) : W p l e room_1 s m #[Value.ref b] below meth c H locs cells slots Q (F0 m pc ls []) := by
  obtain ⟨⟨hx, hb, hml, hown⟩, hT, hnw, hxF, hK, ⟨hX, hbl, hL⟩, htr⟩ := C
  have hts := hts_of hT
  refine lv_iload hx hb d0 (lv_at hl i5 k5) ?_
  refine lv_if_ne hx hb d1 (tgt := pc + 24) (by omega) (fun _ => kk) (fun hz => ?_)
  refine lv_aload_n hx hb d2 rfl (lv_at hl i3 k3) ?_
  refine lv_iconst (v := nI 0) hx hb d3 (by decide) ?_
  refine st_lald (f := fo) hx hb hK hP 18 2 rfl rfl (by decide) (by decide) d4 ?_
  refine lv_iload hx hb d5 (lv_at hl i6 k6) ?_
  refine lv_if_eq hx hb d6 (tgt := pc + 17) (by omega) (fun q6 => ?_) (fun q6 => ?_)
  · refine lv_lconst (v := 0) hx hb d9 (by decide) ?_
    refine W.lcmp hx hb d10 ?_
    exact lv_if_eq hx hb d11 (tgt := pc + 24) (by omega) (fun _ => kk) (fun q => absurd ((lg_cmp_eq _ _).mpr ((hr hz).trans (if_pos q6))) q)
  · refine lv_lconst (v := 1) hx hb d7 (by decide) ?_
    refine lv_goto hx hb d8 (tgt := pc + 18) (by omega) ?_
    refine W.lcmp hx hb d10 ?_
    exact lv_if_eq hx hb d11 (tgt := pc + 24) (by omega) (fun _ => kk) (fun q => absurd ((lg_cmp_eq _ _).mpr ((hr hz).trans (if_neg q6))) q)
end QQ
