/-! ROWS, TEXTS, KEPT BANKS and the counts -/
/-- N strips from cell k on, and the reference's sizes and data: the same -/
def rwE (S : St) (k sz dat N M : Nat) : Prop := ∀ n, n < N → (gI S (k + n) 1 = -1 ∧ gA S sz n = -1) ∨ ∃ m, m ≤ M ∧ gI S (k + n) 1 = nI m ∧ gA S sz n = nI m ∧ ∀ i, i < m → gA S (k + 10 + n) i = gA S dat (M * n + i)
def kpE (S : St) : Prop := ∀ n, n < 3 → bkE S (31 + n) (444 + 444 * n)
theorem rw_sz {S : St} {k sz dat N M : Nat} (h : rwE S k sz dat N M) {n : Nat} (hn : n < N) : gI S (k + n) 1 = gA S sz n := by
  rcases h n hn with ⟨a, b⟩ | ⟨m, _, a, b, _⟩
  · rw [a, b]
  · rw [a, b]
theorem th_is {S : St} {k sz dat N M : Nat} (h : rwE S k sz dat N M) : sumB (fun i => !misF S (k + i)) (fun _ => 1) N = thF (gA S sz) N := by
  have z : ∀ n, n ≤ N → sumB (fun i => !misF S (k + i)) (fun _ => 1) n = thF (gA S sz) n := by
    intro n
    induction n with
    | zero => intro _; rfl
    | succ n ih =>
      intro hn
      rw [sumB, thF, ih (by omega)]
      unfold misF
      rw [rw_sz h (n := n) (by omega), Bool.not_not]
      by_cases q : 0 ≤ gA S sz n
      · rw [decide_eq_true q, if_pos rfl, if_pos q]
      · rw [decide_eq_false q, if_neg (by decide), if_neg q]; exact (Int32.add_zero _).symm
  exact z _ (Nat.le_refl _)
theorem thK_is {S : St} (h : kpE S) : thK S = bkR (gA S 59) 3 := by
  have z : ∀ n, n ≤ 3 → sumB (fun i => !decide (gI S (31 + i) 6 ≤ 0)) (fun _ => 1) n = bkR (gA S 59) n := by
    intro n
    induction n with
    | zero => intro _; rfl
    | succ n ih =>
      intro hn
      obtain ⟨⟨a, b⟩, _, c, _⟩ := h n (by omega)
      rw [sumB, bkR, ih (by omega), c, a]
      by_cases q : szB S (31 + n) = 0
      · rw [q, if_pos (show (nI 0 : Int32) = 0 from rfl), if_neg (by decide)]; exact (Int32.add_zero _).symm
      · rw [if_neg (nI_ne0 (by omega) (by omega)), if_pos (by rw [Bool.not_eq_true', decide_eq_false_iff_not]; exact Int32.not_le.mpr (nI_gt0 (by omega) (by omega)))]
  exact z _ (Nat.le_refl _)
theorem ct_is {S : St} (h : bkE S 30 0) (hr : rwE S 10 60 61 6 40) (ht : rwE S 16 62 63 4 60) (hk : kpE S) {what : Int32} : ctF S what = cnM S what := by
  unfold ctF cnM
  rw [n_no h, n_night h, n_done h, n_lit h, show lgF S 30 = gaR S (nM S) from ga_lg h, cm3 h, cm2 h, show thR S = thF (gA S 60) 6 from th_is hr, show thT S = thF (gA S 62) 4 from th_is ht, thK_is hk]
