/-! THE LOTS' NUMBERS -/
theorem sd_nat {s : Nat} (hs : s < 2147483647) : ∀ n, ∃ v, v < 2147483647 ∧ sdM (nI s) n = lN v
  | 0 => ⟨s, hs, nI_l (by omega)⟩
  | n + 1 => by
    obtain ⟨v, hv, ev⟩ := sd_nat hs n
    refine ⟨v * 48271 % 2147483647, Nat.mod_lt _ (by omega), ?_⟩
    rw [sdM, ev, ltN, show (48271 : Int64) = lN 48271 from rfl, show (2147483647 : Int64) = lN 2147483647 from rfl, lN_mul, rem_nat (by omega) (by omega)]
theorem lk_nat {S : St} (hz : okM S) (h0 : 0 < nM S) {v : Nat} (hv : v < 2147483647) : lkM S (lN v) = nI (v / 8 % nM S) := by
  have := hz.2
  have q : v / 8 ≤ v := Nat.div_le_self v 8
  rw [lkM, hz.1, nI_l (by omega), show (8 : Int64) = lN 8 from rfl, div_nat (by omega) (by omega), rem_nat (by omega) (by omega), lN_i]
theorem lk_ok {S : St} (hz : okM S) (h0 : 0 < nM S) {s : Nat} (hs : s < 2147483647) (n : Nat) : (lkM S (sdM (nI s) (n + 1))).toNatClampNeg < 8 ∧ lkM S (sdM (nI s) (n + 1)) = nI (lkM S (sdM (nI s) (n + 1))).toNatClampNeg := by
  obtain ⟨v, hv, ev⟩ := sd_nat hs (n + 1)
  have := hz.2
  have m : v / 8 % nM S < nM S := Nat.mod_lt _ h0
  rw [ev, lk_nat hz h0 hv, nI_clamp (by omega)]
  exact ⟨by omega, rfl⟩
