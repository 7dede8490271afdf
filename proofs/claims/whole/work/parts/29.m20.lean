theorem sh_k : ∀ k, k < 48 → (((nI k).toInt64 &&& 63).toBitVec.smod 64).toNat = k := by decide +kernel
theorem one_k : ∀ k, k < 48 → ((1 : Int64) <<< ((nI k).toInt64 &&& 63)).toBitVec = BitVec.twoPow 64 k := by decide +kernel
theorem and_1 (b : BitVec 64) : b &&& 1#64 = 1#64 ↔ b.getLsbD 0 = true := by
  constructor
  · intro h
    have := congrArg (fun x => x.getLsbD 0) h
    simpa using this
  · intro h
    apply BitVec.eq_of_getLsbD_eq
    intro i hi
    rw [BitVec.getLsbD_and]
    by_cases q : i = 0
    · subst q; rw [h]; rfl
    · have e : (1#64).getLsbD i = false := by simp [q]
      rw [e, Bool.and_false]
theorem bit_1 (w : Int64) {k : Nat} (hk : k < 48) : (w >>> ((nI k).toInt64 &&& 63)) &&& 1 = 1 ↔ w.toBitVec.getLsbD k = true := by
  rw [← Int64.toBitVec_inj, Int64.toBitVec_and, Int64.toBitVec_shiftRight]
  show _ &&& 1#64 = 1#64 ↔ _
  rw [and_1]
  show ((w.toBitVec.sshiftRight (((nI k).toInt64 &&& 63).toBitVec.smod 64).toNat)).getLsbD 0 = true ↔ _
  rw [sh_k k hk, BitVec.getLsbD_sshiftRight]
  simp [show k < 64 by omega]
theorem bt_bit (f : Nat → Int32) : ∀ n, n ≤ 48 → ∀ j, j < 64 → (btM f n).toBitVec.getLsbD j = (decide (j < n) && !decide (f (768 + j) = 0)) := by
  intro n
  induction n with
  | zero => intro _ j _; simp [btM]
  | succ n ih =>
    intro hn j hj
    rw [btM_succ, Int64.toBitVec_or, BitVec.getLsbD_or, ih (by omega) j hj]
    by_cases h0 : f (768 + n) = 0
    · rw [if_pos h0]
      by_cases q : j = n
      · subst q; simp [h0]
      · have e1 : decide (j < n + 1) = decide (j < n) := by
          by_cases z : j < n
          · simp [z]; omega
          · simp [z]; omega
        rw [e1]; simp
    · rw [if_neg h0, one_k n (by omega), BitVec.getLsbD_twoPow]
      by_cases q : j = n
      · subst q; simp [h0, hj]
      · have e1 : decide (j < n + 1) = decide (j < n) := by
          by_cases z : j < n
          · simp [z]; omega
          · simp [z]; omega
        rw [e1]
        have e2 : decide (n = j) = false := by simp; omega
        simp [e2]
theorem bt_row (f : Nat → Int32) {k : Nat} (hk : k < 48) : ((btM f 48) >>> ((nI k).toInt64 &&& 63)) &&& 1 = 1 ↔ ¬ f (768 + k) = 0 := by
  rw [bit_1 _ hk, bt_bit f 48 (Nat.le_refl _) k (by omega)]
  simp [hk]
