/-! LOWEST TERMS: the greatest divisor of naturals -/
theorem lN_toI {n : Nat} (h : n < 2 ^ 62) : (lN n).toInt = (n : Int) := lg_ofNat_toInt (by omega)
theorem lN_inj {a b : Nat} (ha : a < 2 ^ 62) (hb : b < 2 ^ 62) (h : lN a = lN b) : a = b := by
  have := congrArg Int64.toInt h
  rw [lN_toI ha, lN_toI hb] at this
  omega
theorem div_nat {a b : Nat} (ha : a < 2 ^ 62) (hb : b < 2 ^ 62) : lN a / lN b = lN (a / b) := by
  have q : a / b ≤ a := Nat.div_le_self a b
  obtain ⟨c, e⟩ : ∃ c, c = a / b := ⟨_, rfl⟩
  rw [← e] at q ⊢
  rw [← Int64.toInt_inj, Int64.toInt_div, lN_toI ha, lN_toI hb, lN_toI (by omega), Int.tdiv_eq_ediv_of_nonneg (by omega), show ((a : Int) / (b : Int)) = (c : Int) from by rw [e]; rfl, Int.bmod_eq_of_le (by omega) (by omega)]
theorem rem_nat {a b : Nat} (ha : a < 2 ^ 62) (hb : b < 2 ^ 62) : lN a - lN a / lN b * lN b = lN (a % b) := by
  rw [div_nat ha hb, lN_mul, lN_sub (Nat.div_mul_le_self a b)]
  congr 1
  have := Nat.div_add_mod a b
  rw [Nat.mul_comm] at this
  omega
theorem lN_z {b : Nat} (hb : b < 2 ^ 62) : lN b = 0 ↔ b = 0 := ⟨fun h => lN_inj hb (by omega) h, fun h => by rw [h]; rfl⟩
theorem gdE_nat : ∀ k f a b : Nat, a < 2 ^ 62 → b < 2 ^ 62 → b < 2 ^ k → 2 * k ≤ f → gdE f (lN a) (lN b) = true
  | 0, f, a, b, _, hb, h, _ => by
    have e : b = 0 := by omega
    subst e
    cases f with
    | zero => rfl
    | succ f => rw [gdE, decide_eq_true (show lN 0 = 0 from rfl)]; rfl
  | k + 1, f, a, b, ha, hb, h, hf => by
    obtain ⟨f, rfl⟩ : ∃ g, f = g + 2 := ⟨f - 2, by omega⟩
    rw [gdE]
    by_cases q : b = 0
    · rw [decide_eq_true ((lN_z hb).mpr q)]; rfl
    · rw [rem_nat ha hb, gdE]
      have hr : a % b < b := Nat.mod_lt _ (by omega)
      by_cases r : a % b = 0
      · rw [r, decide_eq_true (show lN 0 = 0 from rfl), Bool.true_or, Bool.or_true]
      · rw [rem_nat hb (by omega)]
        have h2 : b % (a % b) < a % b := Nat.mod_lt _ (by omega)
        have h3 : b % (a % b) + a % b ≤ b := by
          have d := Nat.div_add_mod b (a % b)
          have p : 1 ≤ b / (a % b) := (Nat.one_le_div_iff (by omega)).mpr (by omega)
          have m : a % b * 1 ≤ a % b * (b / (a % b)) := Nat.mul_le_mul_left _ p
          omega
        rw [gdE_nat k f (a % b) (b % (a % b)) (by omega) (by omega) (by rw [Nat.pow_succ] at h; omega) (by omega), Bool.or_true, Bool.or_true]
theorem gdR_nat : ∀ f a b : Nat, a < 2 ^ 62 → b < 2 ^ 62 → gdE f (lN a) (lN b) = true → gdR f (lN a) (lN b) = lN (Nat.gcd a b)
  | 0, a, b, _, hb, h => by
    rw [gdE, decide_eq_true_iff, lN_z hb] at h
    subst h
    rw [Nat.gcd_zero_right]; rfl
  | f + 1, a, b, ha, hb, h => by
    rw [gdR]
    by_cases q : b = 0
    · subst q
      rw [if_pos (show lN 0 = 0 from rfl), Nat.gcd_zero_right]
    · have hr : a % b < b := Nat.mod_lt _ (by omega)
      rw [gdE, decide_eq_false (fun z => q ((lN_z hb).mp z)), Bool.false_or, rem_nat ha hb] at h
      rw [if_neg (fun z => q ((lN_z hb).mp z)), rem_nat ha hb, gdR_nat f b (a % b) hb (by omega) h, Nat.gcd_comm, ← Nat.gcd_rec, Nat.gcd_comm]
theorem gdE_ok {a b : Nat} (ha : a < 2 ^ 62) (hb : b < 2 ^ 62) : gdE 200 (lN a) (lN b) = true := gdE_nat 62 200 a b ha hb hb (by omega)
theorem gdF_nat {a b : Nat} (ha : a < 2 ^ 62) (hb : b < 2 ^ 62) : gdF (lN a) (lN b) = lN (Nat.gcd a b) := gdR_nat 200 a b ha hb (gdE_ok ha hb)
theorem gdF_n0 {a b : Nat} (ha : a < 2 ^ 62) (hb : b < 2 ^ 62) (h : 0 < b) : ¬ gdF (lN a) (lN b) = 0 := by
  have p := Nat.gcd_pos_of_pos_right a h
  have l := Nat.gcd_le_right a h
  rw [gdF_nat ha hb, lN_z (by omega)]
  omega
