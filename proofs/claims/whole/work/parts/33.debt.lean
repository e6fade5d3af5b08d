/-! THE SAME DEBTS -/
theorem of3 (k : Int32) : isOfF k 3 = (decide (k = 3) || decide (k = 5)) := by
  unfold isOfF parF
  by_cases a : k = 4
  · subst a; decide
  · rw [if_neg a]
    by_cases b : k = 5
    · subst b; decide
    · rw [if_neg b, decide_eq_false b]
      show (decide (k = 3) || false || false) = _
      rw [Bool.or_false]
theorem of2 (k : Int32) : isOfF k 2 = (decide (k = 2) || decide (k = 4)) := by
  unfold isOfF parF
  by_cases a : k = 4
  · subst a; decide
  · rw [if_neg a, decide_eq_false a]
    by_cases b : k = 5
    · subst b; decide
    · rw [if_neg b]
      show (decide (k = 2) || false || false) = _
      rw [Bool.or_false]
theorem ow_is {S : St} (h : bkE S 30 0) {k : Nat} (hk : k < szB S 30) : owF S 30 (nI k) = (hsF (gA S 59 2) (nI k) && !isFoM S k) := by
  rw [owF, n_lt h hk, n_f0 h hk, of3]; rfl
theorem ow_out {S : St} (h : bkE S 30 0) {k : Nat} (hk : szB S 30 ≤ k) (h8 : k < 2 ^ 31) : owF S 30 (nI k) = false := by
  have e : hasF S 30 (nI k) = false := by
    unfold hasF
    rw [h.1.1, Bool.and_eq_false_iff]
    refine Or.inr ?_
    rw [Bool.not_eq_false', decide_eq_true_iff]
    exact nI_le hk h8
  rw [owF, litF, e]
  rfl
theorem owS_db {S : St} (h : bkE S 30 0) : owS S 30 = dbM S := by
  have hN := h.1.2
  have z1 : ∀ n, n ≤ szB S 30 → setB (fun i => owF S 30 (nI i)) n = dbR S n := by
    intro n
    induction n with
    | zero => intro _; rfl
    | succ n ih =>
      intro hn
      rw [setB, dbR, ih (by omega), ow_is h (by omega)]
      split
      · rfl
      · exact Int32.or_zero.symm
  have z2 : ∀ m, setB (fun i => owF S 30 (nI i)) (szB S 30 + m) = if m ≤ 8 then setB (fun i => owF S 30 (nI i)) (szB S 30) else setB (fun i => owF S 30 (nI i)) (szB S 30 + m) := by
    intro m
    induction m with
    | zero => rfl
    | succ m ih =>
      split
      · rename_i q
        rw [← Nat.add_assoc, setB, ow_out h (by omega) (by omega), if_neg (by decide), ih, if_pos (by omega)]
      · rfl
  unfold owS dbM
  rw [bE_nM h, ← z1 _ (Nat.le_refl _)]
  have e := z2 (8 - szB S 30)
  rw [show szB S 30 + (8 - szB S 30) = 8 by omega, if_pos (by omega)] at e
  exact e
theorem hs_set {p : Nat → Bool} {k : Nat} (hk : k < 8) : ∀ m, m ≤ 8 → hsF (setB p m) (nI k) = (decide (k < m) && p k)
  | 0, _ => by rw [setB, hs_0 hk]; rfl
  | m + 1, hm => by
    have ih := hs_set (p := p) hk m (by omega)
    rw [setB]
    by_cases q : p m = true
    · rw [if_pos q, hs_or hk, ih, hs_1 (by omega) hk]
      by_cases a : m = k
      · subst a
        rw [q, decide_eq_true (Nat.lt_succ_self m), decide_eq_true (rfl : m = m), Bool.or_true]
        rfl
      · rw [decide_eq_false a, Bool.or_false, show decide (k < m + 1) = decide (k < m) from decide_eq_decide.mpr (by omega)]
    · rw [if_neg q, ih]
      by_cases a : m = k
      · subst a
        rw [Bool.not_eq_true] at q
        rw [q, Bool.and_false, Bool.and_false]
      · rw [show decide (k < m + 1) = decide (k < m) from decide_eq_decide.mpr (by omega)]
theorem db_hs {S : St} (h : bkE S 30 0) {k : Nat} (hk : k < 8) : hsF (dbM S) (nI k) = owF S 30 (nI k) := by
  rw [← owS_db h, owS, hs_set hk 8 (Nat.le_refl _), decide_eq_true hk, Bool.true_and]
theorem bal_ob {S : St} (h : bkE S 30 0) {x : Int32} : balF S 30 x = obM S x (dbM S) + 100 := by
  have hN := h.1.2
  rw [balF, obM, bE_nM h]
  have z : ∀ n, n ≤ szB S 30 → balR S 30 x n = obR S x (dbM S) n + 100 := by
    intro n
    induction n with
    | zero => intro _; rfl
    | succ n ih =>
      intro hn
      rw [balR, obR, ih (by omega), db_hs h (by omega), n_f1 h (by omega), n_f2 h (by omega)]
      generalize obR S x (dbM S) n = o
      cases owF S 30 (nI n) && decide (gA S 59 (27 + n) = x) <;> cases owF S 30 (nI n) && decide (gA S 59 (19 + n) = x) <;> simp only [if_true, if_false, Bool.false_eq_true] <;> grind
  exact z _ (Nat.le_refl _)
theorem cm3 {S : St} (h : bkE S 30 0) : cmF S 30 3 = mnR S 3 5 (nM S) := by
  rw [cmF, bE_nM h]
  have z : ∀ n, n ≤ szB S 30 → sumB (fun i => isOfF (fldF S 30 0 (nI i)) 3) (fun _ => 1) n = mnR S 3 5 n := by
    intro n
    induction n with
    | zero => intro _; rfl
    | succ n ih =>
      intro hn
      rw [sumB, mnR, ih (by omega), n_f0 h (by omega), of3]
      split
      · rfl
      · exact (Int32.add_zero _).symm
  exact z _ (Nat.le_refl _)
theorem cm2 {S : St} (h : bkE S 30 0) : cmF S 30 2 = mnR S 2 4 (nM S) := by
  rw [cmF, bE_nM h]
  have z : ∀ n, n ≤ szB S 30 → sumB (fun i => isOfF (fldF S 30 0 (nI i)) 2) (fun _ => 1) n = mnR S 2 4 n := by
    intro n
    induction n with
    | zero => intro _; rfl
    | succ n ih =>
      intro hn
      rw [sumB, mnR, ih (by omega), n_f0 h (by omega), of2]
      split
      · rfl
      · exact (Int32.add_zero _).symm
  exact z _ (Nat.le_refl _)
