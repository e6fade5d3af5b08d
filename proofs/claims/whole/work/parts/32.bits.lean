/-! BITS of a set -/
theorem nI_k31 {k : Nat} (hk : k < 8) : nI k &&& 31 = nI k := by
  rcases (show k = 0 ∨ k = 1 ∨ k = 2 ∨ k = 3 ∨ k = 4 ∨ k = 5 ∨ k = 6 ∨ k = 7 by omega) with rfl | rfl | rfl | rfl | rfl | rfl | rfl | rfl <;> decide
theorem shr_bit {x : Int32} {k : Nat} (hk : k < 8) : (x >>> (nI k &&& 31)).toBitVec = x.toBitVec.sshiftRight k := by
  rw [nI_k31 hk, Int32.toBitVec_shiftRight]
  rcases (show k = 0 ∨ k = 1 ∨ k = 2 ∨ k = 3 ∨ k = 4 ∨ k = 5 ∨ k = 6 ∨ k = 7 by omega) with rfl | rfl | rfl | rfl | rfl | rfl | rfl | rfl <;> rfl
theorem hs_bit {x : Int32} {k : Nat} (hk : k < 8) : hsF x (nI k) = x.toBitVec.getLsbD k := by
  have e : ((x >>> (nI k &&& 31)) &&& 1).toBitVec = x.toBitVec.sshiftRight k &&& 1#32 := by
    rw [Int32.toBitVec_and, shr_bit hk]
    rfl
  have g : (x.toBitVec.sshiftRight k).getLsbD 0 = x.toBitVec.getLsbD k := by
    rw [BitVec.getLsbD_sshiftRight]
    simp [show k < 32 by omega]
  have o : ∀ w : BitVec 32, (w &&& 1#32 = 1#32) ↔ w.getLsbD 0 = true := by
    intro w
    have e : (w &&& 1#32).toNat = w.toNat % 2 := by rw [BitVec.toNat_and]; exact Nat.and_one_is_mod _
    rw [BitVec.getLsbD, Nat.testBit_zero, decide_eq_true_iff]
    constructor
    · intro q
      rw [← e, q]
      rfl
    · intro q
      exact BitVec.eq_of_toNat_eq (e.trans q)
  unfold hsF
  rw [← g]
  by_cases q : (x.toBitVec.sshiftRight k).getLsbD 0 = true
  · rw [q, decide_eq_true_iff, ← Int32.toBitVec_inj, e]
    exact (o _).mpr q
  · rw [Bool.not_eq_true] at q
    rw [q, decide_eq_false_iff_not, ← Int32.toBitVec_inj, e]
    intro z
    rw [(o _).mp z] at q
    cases q
theorem hs_or {x y : Int32} {k : Nat} (hk : k < 8) : hsF (x ||| y) (nI k) = (hsF x (nI k) || hsF y (nI k)) := by
  rw [hs_bit hk, hs_bit hk, hs_bit hk, Int32.toBitVec_or, BitVec.getLsbD_or]
theorem hs_and {x y : Int32} {k : Nat} (hk : k < 8) : hsF (x &&& y) (nI k) = (hsF x (nI k) && hsF y (nI k)) := by
  rw [hs_bit hk, hs_bit hk, hs_bit hk, Int32.toBitVec_and, BitVec.getLsbD_and]
theorem hs_xor {x y : Int32} {k : Nat} (hk : k < 8) : hsF (x ^^^ y) (nI k) = (hsF x (nI k) ^^ hsF y (nI k)) := by
  rw [hs_bit hk, hs_bit hk, hs_bit hk, Int32.toBitVec_xor, BitVec.getLsbD_xor]
theorem hs_0 {k : Nat} (hk : k < 8) : hsF 0 (nI k) = false := by rw [hs_bit hk]; exact BitVec.getLsbD_zero
theorem hs_1 {j k : Nat} (hj : j < 8) (hk : k < 8) : hsF ((1 : Int32) <<< (nI j &&& 31)) (nI k) = decide (j = k) := by
  have z : ∀ j k : Fin 8, hsF ((1 : Int32) <<< (nI j.1 &&& 31)) (nI k.1) = decide (j.1 = k.1) := by decide +kernel
  exact z ⟨j, hj⟩ ⟨k, hk⟩
theorem hs_m1 {k : Nat} (hk : k < 8) : hsF (-1) (nI k) = true := by
  have z : ∀ k : Fin 8, hsF (-1) (nI k.1) = true := by decide +kernel
  exact z ⟨k, hk⟩
theorem hs_nat {n k : Nat} (hk : k < 8) (hn : n < 2 ^ 31) : hsF (nI n) (nI k) = n.testBit k := by
  rw [hs_bit hk]
  show (BitVec.ofNat 32 n).getLsbD k = n.testBit k
  rw [BitVec.getLsbD_ofNat]
  simp [show k < 32 by omega]
