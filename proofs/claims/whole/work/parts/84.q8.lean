theorem sub5 {L : Nat} (h : L ≤ 2560) : (nI L - nI 5).toInt = (L : Int) - 5 := by
  by_cases h5 : 5 ≤ L
  · rw [pk_sub h5, nI_toInt (by omega)]; omega
  · have : L = 0 ∨ L = 1 ∨ L = 2 ∨ L = 3 ∨ L = 4 := by omega
    rcases this with rfl | rfl | rfl | rfl | rfl <;> decide
theorem in19 (z : Int32) : (∃ k : Nat, k < 19 ∧ z = nI k) ∨ (z.toInt < 0 ∨ 18 < z.toInt) := by
  by_cases h : z.toInt < 0 ∨ 18 < z.toInt
  · exact Or.inr h
  · refine Or.inl ⟨z.toInt.toNat, by omega, ?_⟩
    apply Int32.toInt_inj.mp
    rw [nI_toInt (by omega)]; omega
section QQ
variable {p : Program} {l : Launch} {e : Env} {s : State} {m : MethodId} {below : List Frame} {meth : Method} {c : Code} {H : Heap} {locs : List Loc} {cells slots : Nat} {Q : State → Prop}
variable {b L : Nat} {xs : Nat → Int32} {D : va_G} {tk : Nat → ClassId} {ac am : Nat → Nat} {gc gm : Nat → Nat → Int32} {rr : Nat → Nat → Option Nat} {ao h : Nat} {fo : Nat → Int64} {la : Nat → Int64} {tl : va_W} {pc : Nat} {ls : Array Slot} {rest : List Value} {lv : List (Nat × Value)}
variable {n : Nat} {S : List ck_I} {ca : Nat → Nat} {bl : Nat → Nat → Option Nat} {f : Nat} {fm : Nat → Nat → Option Int32} {E : List (Nat × Nat × Nat × Nat)} {mp : Nat} {Xs : Nat → List kv_I} {V : Nat} {f0 : Nat → Option Int32} {B : List Int32} {ft : Nat → Int32} {t0 : Nat}

set_option maxHeartbeats 4000000 in
set_option maxRecDepth 100000 in
theorem law_loop (C : LC p l s m c b L xs D tk) (hend : ∀ (ls : Array Slot) (H : Heap) (locs : List Loc) (cells slots : Nat), cells ≤ 601024 → slots ≤ 7293034 → va_S (AL s) s.heap H locs → W p l e room_1 s m #[Value.ref b] below meth c H locs cells slots Q (F0 m 1062 ls [])) :
    ∀ (N n cells slots : Nat), 512 - n < N → n ≤ 512 → cells + 156 * (512 - n) ≤ 601024 → slots + 5856 * (512 - n) ≤ 7293034 → GO p l e s m below meth c Q b D tk ac am ao h n n cells slots 23 := by
  have C0 := C
  obtain ⟨⟨hx, hb, hml, hown⟩, hT, hnw, hxF, hK, ⟨hX, hbl, hL⟩, htr⟩ := C
  have hts := hts_of hT
  intro N
  induction N with
  | zero => intro n cells slots h; exact absurd h (Nat.not_lt_zero _)
  | succ N ih =>
    intro n cells slots hN hn512 hcl hsl gc rr fo gm la tl ls H locs hJ hl hP hD hS
    refine lv_iload hx hb d_law_23 (lv_at hl 4 rfl) ?_
    refine lv_aload_n hx hb d_law_25 rfl (lv_at hl 0 rfl) ?_
    refine va_slen hx hb hX hbl (fun q => absurd hbl (Nat.not_lt.mpr q)) hS d_law_26 ?_
    refine lv_iconst (v := nI 5) hx hb d_law_27 (by decide) ?_
    refine lv_isub hx hb d_law_28 ?_
    refine lv_icmp_gt hx hb d_law_29 (tgt := 1062) (by decide) (fun _ => hend ls H locs cells slots (by omega) (by omega) hS) (fun hc => ?_)
    have hn : 5 * n + 5 ≤ L := by
      have h1 : ¬ (nI L - nI 5) < nI (5 * n) := hc
      rw [Int32.lt_iff_toInt_lt, sub5 hL, nI_toInt (by omega)] at h1
      omega
    have hcl2 : cells + 156 ≤ 601024 := by omega
    have hsl2 : slots + 5856 ≤ 7293034 := by omega
    have kk : GO p l e s m below meth c Q b D tk ac am ao h (n + 1) n (cells + 156) (slots + 5856) 1056 := by
      intro gc rr fo gm la tl ls H locs hJ hl hP hD hS
      refine lv_iinc (k := 4) (v := nI (5 * (n + 1))) (lv' := [(4, .int (nI (5 * (n + 1)))), (0, .ref b), (1, .ref (ac 0)), (2, .ref h), (3, .ref ao)]) hx hb d_law_1056 hl rfl (nI_add _ _) (by decide) rfl (fun ls hl => ?_)
      refine lv_goto hx hb d_law_1059 (tgt := 23) (by decide) ?_
      exact ih (n + 1) (cells + 156) (slots + 5856) (by omega) (by omega) (by omega) (by omega) gc rr fo gm la tl ls H locs hJ (lv_sub hl [1, 2, 3, 4, 0] rfl) hP hD hS
    refine lv_aload_n hx hb d_law_32 rfl (lv_at hl 0 rfl) ?_
    refine lv_iload hx hb d_law_33 (lv_at hl 4 rfl) ?_
    refine q_sld C0 hS (show 5 * n < L by omega) d_law_35 ?_
    refine lv_bipush (v := nI 31) hx hb d_law_36 (by decide) ?_
    refine lv_iand hx hb d_law_38 ?_
    refine lv_topi (fun z ez => ?_)
    rcases in19 z with ⟨k, hk, rfl⟩ | hz
    · have hk2 : k = 0 ∨ k = 1 ∨ k = 2 ∨ k = 3 ∨ k = 4 ∨ k = 5 ∨ k = 6 ∨ k = 7 ∨ k = 8 ∨ k = 9 ∨ k = 10 ∨ k = 11 ∨ k = 12 ∨ k = 13 ∨ k = 14 ∨ k = 15 ∨ k = 16 ∨ k = 17 ∨ k = 18 := by omega
      rcases hk2 with rfl | rfl | rfl | rfl | rfl | rfl | rfl | rfl | rfl | rfl | rfl | rfl | rfl | rfl | rfl | rfl | rfl | rfl | rfl
      · exact lv_tableIn (off := 89) (tgt := 128) hx hb d_law_39 (by decide) (by decide) rfl (by decide) (go_put C0 hn hcl2 hsl2 kk gc rr fo gm la tl ls H locs hJ hl hP hD hS)
      · exact lv_tableIn (off := 137) (tgt := 176) hx hb d_law_39 (by decide) (by decide) rfl (by decide) (go_delete C0 hn hcl2 hsl2 kk gc rr fo gm la tl ls H locs hJ hl hP hD hS)
      · exact lv_tableIn (off := 200) (tgt := 239) hx hb d_law_39 (by decide) (by decide) rfl (by decide) (go_commit C0 hn hcl2 hsl2 kk gc rr fo gm la tl ls H locs hJ hl hP hD hS)
      · exact lv_tableIn (off := 244) (tgt := 283) hx hb d_law_39 (by decide) (by decide) rfl (by decide) (go_rollback C0 hn hcl2 hsl2 kk gc rr fo gm la tl ls H locs hJ hl hP hD hS)
      · exact lv_tableIn (off := 255) (tgt := 294) hx hb d_law_39 (by decide) (by decide) rfl (by decide) (go_fail C0 hn hcl2 hsl2 kk gc rr fo gm la tl ls H locs hJ hl hP hD hS)
      · exact lv_tableIn (off := 280) (tgt := 319) hx hb d_law_39 (by decide) (by decide) rfl (by decide) (go_chunks C0 hn hcl2 hsl2 kk gc rr fo gm la tl ls H locs hJ hl hP hD hS)
      · exact lv_tableIn (off := 293) (tgt := 332) hx hb d_law_39 (by decide) (by decide) rfl (by decide) (go_versions C0 hn hcl2 hsl2 kk gc rr fo gm la tl ls H locs hJ hl hP hD hS)
      · exact lv_tableIn (off := 306) (tgt := 345) hx hb d_law_39 (by decide) (by decide) rfl (by decide) (go_get C0 hn hcl2 hsl2 kk gc rr fo gm la tl ls H locs hJ hl hP hD hS)
      · exact lv_tableIn (off := 374) (tgt := 413) hx hb d_law_39 (by decide) (by decide) rfl (by decide) (go_range C0 hn hcl2 hsl2 kk gc rr fo gm la tl ls H locs hJ hl hP hD hS)
      · exact lv_tableIn (off := 454) (tgt := 493) hx hb d_law_39 (by decide) (by decide) rfl (by decide) (go_root C0 hn hcl2 hsl2 kk gc rr fo gm la tl ls H locs hJ hl hP hD hS)
      · exact lv_tableIn (off := 510) (tgt := 549) hx hb d_law_39 (by decide) (by decide) rfl (by decide) (go_digest C0 hn hcl2 hsl2 kk gc rr fo gm la tl ls H locs hJ hl hP hD hS)
      · exact lv_tableIn (off := 566) (tgt := 605) hx hb d_law_39 (by decide) (by decide) rfl (by decide) (go_prove C0 hn hcl2 hsl2 kk gc rr fo gm la tl ls H locs hJ hl hP hD hS)
      · exact lv_tableIn (off := 646) (tgt := 685) hx hb d_law_39 (by decide) (by decide) rfl (by decide) (go_proveGrowth C0 hn hcl2 hsl2 kk gc rr fo gm la tl ls H locs hJ hl hP hD hS)
      · exact lv_tableIn (off := 714) (tgt := 753) hx hb d_law_39 (by decide) (by decide) rfl (by decide) (go_proof C0 hn hcl2 hsl2 kk gc rr fo gm la tl ls H locs hJ hl hP hD hS)
      · exact lv_tableIn (off := 739) (tgt := 778) hx hb d_law_39 (by decide) (by decide) rfl (by decide) (go_take C0 hn hcl2 hsl2 kk gc rr fo gm la tl ls H locs hJ hl hP hD hS)
      · exact lv_tableIn (off := 776) (tgt := 815) hx hb d_law_39 (by decide) (by decide) rfl (by decide) (go_carry C0 hn hcl2 hsl2 kk gc rr fo gm la tl ls H locs hJ hl hP hD hS)
      · exact lv_tableIn (off := 813) (tgt := 852) hx hb d_law_39 (by decide) (by decide) rfl (by decide) (go_verify C0 hn hcl2 hsl2 kk gc rr fo gm la tl ls H locs hJ hl hP hD hS)
      · exact lv_tableIn (off := 905) (tgt := 944) hx hb d_law_39 (by decide) (by decide) rfl (by decide) (go_shown C0 hn hcl2 hsl2 kk gc rr fo gm la tl ls H locs hJ hl hP hD hS)
      · exact lv_tableIn (off := 918) (tgt := 957) hx hb d_law_39 (by decide) (by decide) rfl (by decide) (go_verifyGrowth C0 hn hcl2 hsl2 kk gc rr fo gm la tl ls H locs hJ hl hP hD hS)
    · exact lv_tableOut (tgt := 1056) hx hb d_law_39 hz (by decide) (go_none C0 hn hcl2 hsl2 kk gc rr fo gm la tl ls H locs hJ hl hP hD hS)
end QQ
