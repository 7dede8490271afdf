theorem J_start (tk : Nat → ClassId) : J tk [] g0C (fun _ _ => none) g0M (fun _ => 0) 0 := by
  refine JX.j (S := []) (ca := fun _ => 0) (bl := fun _ _ => none) (f := 0) (fm := fun _ _ => none) (E := []) (mp := 0) (Xs := fun _ => []) (V := 1) (f0 := fun _ => none) (B := []) (ft := fun _ => 0) (t0 := 0) ⟨⟨⟨⟨⟨List.nodup_nil, fun c d hc => absurd hc (Nat.not_lt_zero _), fun c l p hc => (by cases hc)⟩, fun c l p hc => (by cases hc)⟩, fun k _ => rfl, rfl, rfl, by decide⟩, ⟨rfl, fun c e hc => (by cases hc)⟩, fun e he => (by cases he), rfl, rfl, rfl, Nat.le_refl _⟩, ?_, ?_, ?_, ?_⟩
  · exact ⟨⟨by decide, by decide⟩, ⟨rfl, rfl⟩, fun v _ => ⟨⟨List.Pairwise.nil, fun x hx => (by cases hx)⟩, Or.inl ⟨rfl, rfl⟩⟩, fun v _ c hc => (by cases hc), fun j _ => rfl, fun j _ k _ => ⟨⟨fun _ => rfl, fun _ => rfl⟩, fun v hv => (by cases hv)⟩⟩
  · exact ⟨⟨fun _ => Or.inl rfl, fun _ => Or.inl rfl⟩, fun k _ => ⟨⟨fun _ => rfl, fun _ => rfl⟩, fun v hv => (by cases hv)⟩, fun k _ => ⟨⟨fun _ => rfl, fun _ => rfl⟩, fun v hv => (by cases hv)⟩⟩
  · exact ⟨⟨⟨rfl, fun i x hx => (by cases hx)⟩, ⟨rfl, fun i x hx => (by cases hx)⟩, Nat.zero_le _, fun x hx => (by cases hx)⟩, ⟨Nat.zero_le _, rfl, rfl, rfl, fun i hi => absurd hi (Nat.not_lt_zero _), fun i hi => absurd hi (Nat.not_lt_zero _)⟩, rfl⟩
  · exact ⟨0, 0, fun _ k _ => rfl, fun _ => rfl, Nat.le_refl _⟩
theorem aK {args : Array Value} {s : State} {ty : FieldType} (h : (Cond.arrayClass ty).before args s = true) : ∃ cA, ArrOfT s cA ty ∧ s.vm.findClass ("[" ++ ty.toString) = some cA := by
  obtain ⟨cA, kA, comp, f1, f2, f3⟩ := Cond.arrayClass_spec h
  exact ⟨cA, fun N z => ⟨(fun k h => by cases h), kA, f2, comp, f3⟩, f1⟩
theorem aO {args : Array Value} {s : State} {C : String} (h : (Cond.arrayOver (.object C)).before args s = true) : ∃ cA, ArrOfT s cA (.object C) ∧ va_RA s cA (.object C) := by
  obtain ⟨comp, cA, kA, f0, _, f2, f3, f4⟩ := Cond.arrayOver_spec h
  exact ⟨cA, fun N z => ⟨(fun k h => by cases h), kA, f2, comp, f3⟩, kA, comp, f2, f3, f0, f4⟩
set_option maxRecDepth 100000 in
theorem K_start {args : Array Value} {s : State} (hT : ∀ w ∈ TT, w.before args s = true) (hAO : va_AO "SealedBook$Chunk" s) : ∃ (D : va_G) (tk : Nat → ClassId), va_K D CC (TY tk) s := by
  obtain ⟨c0, i0, h0⟩ := u_known hT in_B (hT _ t_123)
  obtain ⟨c1, i1, h1⟩ := u_known hT in_C (hT _ t_443)
  obtain ⟨c2, i2, h2⟩ := u_known hT in_H (hT _ t_57)
  obtain ⟨c3, i3, h3⟩ := u_known hT in_P (hT _ t_117)
  obtain ⟨c4, i4, h4⟩ := u_known hT in_R (hT _ t_91)
  obtain ⟨c5, i5, h5⟩ := u_known hT in_S (hT _ t_37)
  obtain ⟨c6, i6, h6⟩ := u_known hT in_T (hT _ t_74)
  obtain ⟨c7, i7, h7⟩ := u_known hT in_V (hT _ t_143)
  obtain ⟨c8, i8, h8⟩ := u_known hT in_K (hT _ t_29)
  obtain ⟨c9, i9, h9⟩ := u_known hT in_M (hT _ t_926)
  obtain ⟨a0, x0, y0⟩ := aK (hT _ t_89)
  obtain ⟨a1, x1, y1⟩ := aK (hT _ t_88)
  obtain ⟨a2, x2, y2⟩ := aK (hT _ t_1028)
  obtain ⟨a3, x3, y3⟩ := aO (va_AO.use (A := args) hAO)
  refine ⟨(fun k => match k with | 0 => c0 | 1 => c1 | 2 => c2 | 3 => c3 | 4 => c4 | 5 => c5 | 6 => c6 | 7 => c7 | 8 => c8 | _ => c9, fun k => match k with | 0 => i0 | 1 => i1 | 2 => i2 | 3 => i3 | 4 => i4 | 5 => i5 | 6 => i6 | 7 => i7 | 8 => i8 | _ => i9), fun k => match k with | 0 => a0 | 1 => a1 | 2 => a2 | _ => a3, fun c q hq => ?_, fun k q hq => ?_⟩
  · match c, hq with
    | 0, hq => cases hq; exact h0
    | 1, hq => cases hq; exact h1
    | 2, hq => cases hq; exact h2
    | 3, hq => cases hq; exact h3
    | 4, hq => cases hq; exact h4
    | 5, hq => cases hq; exact h5
    | 6, hq => cases hq; exact h6
    | 7, hq => cases hq; exact h7
    | 8, hq => cases hq; exact h8
    | 9, hq => cases hq; exact h9
    | c + 10, hq => cases hq
  · match k, hq with
    | 0, hq => cases hq; exact ⟨x0, y0⟩
    | 1, hq => cases hq; exact ⟨x1, y1⟩
    | 2, hq => cases hq; exact ⟨x2, y2⟩
    | 3, hq => cases hq; exact ⟨x3, y3⟩
    | c + 4, hq => cases hq
theorem w_at {args : Array Value} {s : State} (hts : ∀ w ∈ lw_tbl, w.before args s = true) {w : Cond} (i : Nat) (h : tables_1[i]? = some w) : w.before args s = true := hts w (List.mem_append_right _ (List.mem_of_getElem? h))
theorem nwp_start {args : Array Value} {s : State} (hts : ∀ w ∈ lw_tbl, w.before args s = true) : nwp s := ⟨fun a i x h hm => va_Nw.of rfl (hts _ (List.mem_append_right _ hm)), va_AO.of (w_at hts 43 (by decide +kernel))⟩
theorem vk_start {args : Array Value} {s : State} {own tx : String} {k cur : Nat} (hc : s.vm.findClass own = some cur) (h : (Cond.stringRef own k tx).before args s = true) : ∃ q, vk_R own k tx q s := by
  obtain ⟨_, _, _, a, -, -, -, -, -, h2⟩ := Cond.stringRef_spec hc h
  exact ⟨a, vk_R.of h h2⟩
set_option maxRecDepth 100000 in
theorem xF_start {args : Array Value} {s : State} {D : va_G} {tk : Nat → ClassId} (hts : ∀ w ∈ lw_tbl, w.before args s = true) (hgv : (Jvm.Cond.and given_1 narrow_1).before args s = true) (hK : va_K D CC (TY tk) s) : xF s s.heap := by
  have hs := flat_of_before _ hgv
  have hcur : s.vm.findClass "SealedBook" = some (D.1 8) := (hK.1 8 _ rfl).2.1
  refine ⟨fun w hw => ?_, ⟨va_Nc.of (hs _ (by decide +kernel)), va_Nc.of (hs _ (by decide +kernel))⟩, ⟨vk_start hcur (w_at hts 334 (by decide +kernel)), vk_start hcur (w_at hts 374 (by decide +kernel)), vk_start hcur (w_at hts 763 (by decide +kernel))⟩, xst.of (w_at hts 320 (by decide +kernel)) (hs _ (by decide +kernel)), xst.of (w_at hts 322 (by decide +kernel)) (hs _ (by decide +kernel))⟩
  simp only [xW, List.mem_cons, List.not_mem_nil, or_false] at hw
  rcases hw with rfl | rfl | rfl | rfl | rfl | rfl
  · exact va_Nw.of rfl (w_at hts 297 (by decide +kernel))
  · exact va_Nw.of rfl (w_at hts 299 (by decide +kernel))
  · exact va_Nw.of rfl (w_at hts 301 (by decide +kernel))
  · exact va_Nw.of rfl (w_at hts 295 (by decide +kernel))
  · exact va_Nw.of rfl (w_at hts 367 (by decide +kernel))
  · exact va_Nw.of rfl (w_at hts 756 (by decide +kernel))
