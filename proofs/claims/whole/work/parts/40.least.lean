/-! RING, RINGS, LEAST: the same answers -/
theorem bc_on {n : Nat} (hn : n < 256) : bcF (nI n) = onF (nI n) := by
  have z : ∀ n : Fin 256, bcF (nI n.1) = onF (nI n.1) := by decide +kernel
  exact z ⟨n, hn⟩
theorem lr_rb {S : St} (h : bkE S 30 0) (hP : okP S) : ∀ n, n ≤ 256 → (∃ j, j < 256 ∧ rbM S n = nI j) ∧ lrR (owS S 30) (deW S 30) n = rbM S n
  | 0, _ => ⟨⟨0, by omega, rfl⟩, rfl⟩
  | n + 1, hn => by
    obtain ⟨⟨j, hj, ej⟩, ih⟩ := lr_rb h hP n (by omega)
    rw [lrR, rbM, ih, rg_is h hP (by omega), ej, bc_on hj, bc_on (show n < 256 by omega)]
    refine ⟨?_, rfl⟩
    split
    · exact ⟨n, by omega, rfl⟩
    · exact ⟨j, hj, rfl⟩
theorem sr_ls {S : St} (h : bkE S 30 0) (hP : okP S) {k : Nat} : ∀ n, n ≤ 256 → (∃ j, j < 256 ∧ lsM S k n = nI j) ∧ srR (owS S 30) (deW S 30) (nI k) n = lsM S k n
  | 0, _ => ⟨⟨0, by omega, rfl⟩, rfl⟩
  | n + 1, hn => by
    obtain ⟨⟨j, hj, ej⟩, ih⟩ := sr_ls h hP (k := k) n (by omega)
    rw [srR, lsM, ih, rg_is h hP (by omega), ej, bc_on hj, bc_on (show n < 256 by omega), kb_hs]
    have e : ((decide (nI j = 0) || decide (onF (nI n) < onF (nI j))) && (rgM S (nI n) && hsF (nI n) (nI k))) = (hsF (nI n) (nI k) && rgM S (nI n) && (decide (nI j = 0) || decide (onF (nI n) < onF (nI j)))) := by
      cases rgM S (nI n) <;> cases hsF (nI n) (nI k) <;> cases (decide (nI j = 0) || decide (onF (nI n) < onF (nI j))) <;> rfl
    rw [e]
    refine ⟨?_, rfl⟩
    split
    · exact ⟨n, by omega, rfl⟩
    · exact ⟨j, hj, rfl⟩
theorem rk_is {S : St} (h : bkE S 30 0) (hP : okP S) {k : Nat} : ∀ n, n ≤ 256 → sumB (fun n => rgP (owS S 30) (deW S 30) n && kbF (nI k) n) (fun _ => 1) n = rkM S k n
  | 0, _ => rfl
  | n + 1, hn => by
    rw [sumB, rkM, rk_is h hP n (by omega), rg_is h hP (by omega), kb_hs, Bool.and_comm]
    split
    · rfl
    · exact (Int32.add_zero _).symm
