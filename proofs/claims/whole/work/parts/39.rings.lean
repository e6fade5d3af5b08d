/-! RINGS: the same sets -/
theorem allB_iff {p : Nat → Bool} : ∀ m, allB p m = true ↔ ∀ x, x < m → p x = true
  | 0 => ⟨fun _ x hx => absurd hx (by omega), fun _ => rfl⟩
  | m + 1 => by
    rw [allB, Bool.and_eq_true, allB_iff m]
    constructor
    · rintro ⟨a, b⟩ x hx
      rcases Nat.lt_or_ge x m with q | q
      · exact a x q
      · rw [show x = m by omega]; exact b
    · intro a
      exact ⟨fun x hx => a x (by omega), a m (by omega)⟩
theorem cI_top {o t : Nat → Nat} {n x N : Nat} (hn : ∀ k, n.testBit k = true → k < N) : ∀ j, cI o t n x (N + j) = cI o t n x N
  | 0 => rfl
  | j + 1 => by
    rw [← Nat.add_assoc, cI, if_neg (fun q => by have := hn _ q; omega)]
    exact cI_top hn j
theorem sub_bits {S : St} (h : bkE S 30 0) {n : Nat} (hn : n < 256) (hw : withF (nI n) (owS S 30) = true) : ∀ k, n.testBit k = true → k < szB S 30 ∧ owF S 30 (nI k) = true := by
  intro k hk
  have h8 : k < 8 := by
    rcases Nat.lt_or_ge k 8 with q | q
    · exact q
    · have e : n.testBit k = false := Nat.testBit_lt_two_pow (Nat.lt_of_lt_of_le hn (show 2 ^ 8 ≤ 2 ^ k from Nat.pow_le_pow_right (by omega) q))
      rw [e] at hk
      cases hk
  unfold withF at hw
  rw [decide_eq_true_iff] at hw
  have e := hs_0 h8
  rw [← hw, hs_and h8, hs_xor h8, hs_m1 h8, hs_nat h8 (by omega), hk, Bool.true_and, owS_db h, db_hs h h8] at e
  have ho : owF S 30 (nI k) = true := by
    cases q : owF S 30 (nI k)
    · rw [q] at e; cases e
    · rfl
  refine ⟨?_, ho⟩
  rcases Nat.lt_or_ge k (szB S 30) with q | q
  · exact q
  · rw [ow_out h q (by omega)] at ho
    cases ho
theorem rg_is {S : St} (h : bkE S 30 0) (hP : okP S) {n : Nat} (hn : n < 256) : rgP (owS S 30) (deW S 30) n = rgM S (nI n) := by
  have h8 := h.1.2
  unfold rgP rgM
  have ew : withF (nI n) (owS S 30) = decide (nI n &&& (dbM S ^^^ -1) = 0) := by rw [owS_db h]; rfl
  cases hw : withF (nI n) (owS S 30)
  · rw [← ew, hw]; rfl
  · rw [← ew, hw, Bool.true_and, Bool.true_and]
    have hb := sub_bits h hn hw
    have c8 : ∀ x, cI (oN S) (tN S) n x 8 = cI (oN S) (tN S) n x (szB S 30) := by
      intro x
      have := cI_top (o := oN S) (t := tN S) (x := x) (fun k hk => (hb k hk).1) (8 - szB S 30)
      rw [show szB S 30 + (8 - szB S 30) = 8 by omega] at this
      exact this
    have bd : ∀ x, -8 ≤ cI (oN S) (tN S) n x 8 ∧ cI (oN S) (tN S) n x 8 ≤ 8 := fun x => cI_bd (o := oN S) (t := tN S) (n := n) (x := x) 8
    rw [sb_pack h hP hb 8]
    have s1 : Int32.ofInt (sI6 (fun x => cI (oN S) (tN S) n x 8)) = 0 ↔ ∀ x, x < 6 → cI (oN S) (tN S) n x 8 = 0 := by
      have b0 := bd 0
      have b1 := bd 1
      have b2 := bd 2
      have b3 := bd 3
      have b4 := bd 4
      have b5 := bd 5
      refine (i32_0 ?_ ?_).trans (sI6_0 bd)
      · simp only [sI6]; omega
      · simp only [sI6]; omega
    have s2 : allB (fun x => decide (obM S (nI x) (nI n) = 0)) 6 = true ↔ ∀ x, x < 6 → cI (oN S) (tN S) n x 8 = 0 := by
      rw [allB_iff]
      refine forall_congr' (fun x => forall_congr' (fun hx => ?_))
      have b := bd x
      rw [decide_eq_true_iff, obM, ob_c hP hx (by omega) (by rw [bE_nM h]; exact h8) (nM S) (Nat.le_refl _), bE_nM h, ← c8 x]
      exact i32_0 (by omega) (by omega)
    rw [Bool.eq_iff_iff, decide_eq_true_iff, s1, s2]
theorem kb_hs {k : Int32} {n : Nat} : kbF k n = hsF (nI n) k := rfl
