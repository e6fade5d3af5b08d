/-! BASE: truth values as ints, loops, switches, which kind a cell is -/
def bI (b : Bool) : Int32 := if b then 1 else 0
theorem bI_t : bI true = 1 := rfl
theorem bI_f : bI false = 0 := rfl
theorem bI_0 {b : Bool} : bI b = 0 ↔ b = false := by cases b <;> decide
theorem bI_n0 {b : Bool} : ¬ bI b = 0 ↔ b = true := by cases b <;> decide
theorem nar_b (b : Bool) : narrow .boolean (.int (bI b)) = .int (bI b) := by cases b <;> rfl
theorem some_int {x y : Int32} (h : x = y) : (some (Value.int x)) = some (Value.int y) := by rw [h]
theorem some_long {x y : Int64} (h : x = y) : (some (Value.long x)) = some (Value.long y) := by rw [h]
theorem dn_ind (N : Nat) {P : Nat → Prop} (h : ∀ n, n ≤ N → (n < N → P (n + 1)) → P n) : ∀ n, n ≤ N → P n := by
  have key : ∀ d n, n ≤ N → N - n ≤ d → P n := by
    intro d
    induction d with
    | zero => exact fun n hn hd => h n hn (fun q => absurd q (by omega))
    | succ d ih => exact fun n hn hd => h n hn (fun q => ih (n + 1) q (by omega))
  exact fun n hn => key (N - n) n hn (Nat.le_refl _)
theorem up_ind {α : Type} (μ : α → Nat) {P : α → Prop} (h : ∀ a, (∀ b, μ b < μ a → P b) → P a) : ∀ a, P a := by
  have key : ∀ d a, μ a ≤ d → P a := by
    intro d
    induction d with
    | zero => exact fun a ha => h a (fun b hb => absurd hb (by omega))
    | succ d ih => exact fun a ha => h a (fun b hb => ih b (by omega))
  exact fun a => key (μ a) a (Nat.le_refl _)
section GB
variable {E : En} {X : Xt} {I : Ym} {S : St} {pc : Nat} {L : List (Nat × Value)} {st : List Value}
theorem g_b_eq {b : Bool} {off : Int} {tgt : Nat} (hd : decode I.2.1 pc = .ok (.ifCond .eq off, 3)) (ht : (pc : Int) + off = (tgt : Int)) (kt : b = false → G E X I S tgt L st) (kf : b = true → G E X I S (pc + 3) L st) : G E X I S pc L (.int (bI b) :: st) := g_if_eq hd ht (fun q => kt (bI_0.mp q)) (fun q => kf (bI_n0.mp q))
theorem g_b_ne {b : Bool} {off : Int} {tgt : Nat} (hd : decode I.2.1 pc = .ok (.ifCond .ne off, 3)) (ht : (pc : Int) + off = (tgt : Int)) (kt : b = true → G E X I S tgt L st) (kf : b = false → G E X I S (pc + 3) L st) : G E X I S pc L (.int (bI b) :: st) := g_if_ne hd ht (fun q => kt (bI_n0.mp q)) (fun q => kf (bI_0.mp q))
theorem g_lc_eq {x y : Int64} {off : Int} {tgt : Nat} (hd : decode I.2.1 pc = .ok (.ifCond .eq off, 3)) (ht : (pc : Int) + off = (tgt : Int)) (kt : x = y → G E X I S tgt L st) (kf : ¬ x = y → G E X I S (pc + 3) L st) : G E X I S pc L (.int (lg_cmp x y) :: st) := g_if_eq hd ht (fun q => kt ((lg_cmp_eq x y).mp q)) (fun q => kf (fun z => q ((lg_cmp_eq x y).mpr z)))
theorem g_lc_ne {x y : Int64} {off : Int} {tgt : Nat} (hd : decode I.2.1 pc = .ok (.ifCond .ne off, 3)) (ht : (pc : Int) + off = (tgt : Int)) (kt : ¬ x = y → G E X I S tgt L st) (kf : x = y → G E X I S (pc + 3) L st) : G E X I S pc L (.int (lg_cmp x y) :: st) := g_if_ne hd ht (fun q => kt (fun z => q ((lg_cmp_eq x y).mpr z))) (fun q => kf ((lg_cmp_eq x y).mp q))
theorem g_lc_lt {x y : Int64} {off : Int} {tgt : Nat} (hd : decode I.2.1 pc = .ok (.ifCond .lt off, 3)) (ht : (pc : Int) + off = (tgt : Int)) (kt : x < y → G E X I S tgt L st) (kf : ¬ x < y → G E X I S (pc + 3) L st) : G E X I S pc L (.int (lg_cmp x y) :: st) := g_if_lt hd ht (fun q => kt ((lg_cmp_lt x y).mp q)) (fun q => kf (fun z => q ((lg_cmp_lt x y).mpr z)))
theorem g_lc_ge {x y : Int64} {off : Int} {tgt : Nat} (hd : decode I.2.1 pc = .ok (.ifCond .ge off, 3)) (ht : (pc : Int) + off = (tgt : Int)) (kt : y ≤ x → G E X I S tgt L st) (kf : ¬ y ≤ x → G E X I S (pc + 3) L st) : G E X I S pc L (.int (lg_cmp x y) :: st) := g_if_ge hd ht (fun q => kt ((lg_cmp_ge x y).mp q)) (fun q => kf (fun z => q ((lg_cmp_ge x y).mpr z)))
theorem g_lc_gt {x y : Int64} {off : Int} {tgt : Nat} (hd : decode I.2.1 pc = .ok (.ifCond .gt off, 3)) (ht : (pc : Int) + off = (tgt : Int)) (kt : y < x → G E X I S tgt L st) (kf : ¬ y < x → G E X I S (pc + 3) L st) : G E X I S pc L (.int (lg_cmp x y) :: st) := g_if_gt hd ht (fun q => kt ((lg_cmp_gt x y).mp q)) (fun q => kf (fun z => q ((lg_cmp_gt x y).mpr z)))
theorem g_lc_le {x y : Int64} {off : Int} {tgt : Nat} (hd : decode I.2.1 pc = .ok (.ifCond .le off, 3)) (ht : (pc : Int) + off = (tgt : Int)) (kt : x ≤ y → G E X I S tgt L st) (kf : ¬ x ≤ y → G E X I S (pc + 3) L st) : G E X I S pc L (.int (lg_cmp x y) :: st) := g_if_le hd ht (fun q => kt ((lg_cmp_le x y).mp q)) (fun q => kf (fun z => q ((lg_cmp_le x y).mpr z)))
end GB
theorem kd_all {P : Nat → Prop} [DecidablePred P] (h : (List.range 72).all (fun k => decide (P k)) = true) {k c : Nat} (hk : kd k = c) (hc : c ≠ 99) : P k := by
  have := List.all_eq_true.mp h k (List.mem_range.mpr (kd_lt hk hc))
  exact of_decide_eq_true this
theorem kd_c {k : Nat} (h : kd k = 3) : kd (k + 10) = 6 := kd_all (P := fun k => kd k = 3 → kd (k + 10) = 6) (by decide +kernel) h (by omega) h
theorem kd_b0 {b : Nat} (h : kd b = 0) : kd (34 + 6 * (b - 30)) = 6 := kd_all (P := fun k => kd k = 0 → kd (34 + 6 * (k - 30)) = 6) (by decide +kernel) h (by omega) h
theorem kd_b {b : Nat} (j : Nat) (h : kd b = 0) (hj : j ≤ 5) : kd (34 + 6 * (b - 30) + j) = 6 := by
  have q : kd b = 0 → ∀ j, j < 6 → kd (34 + 6 * (b - 30) + j) = 6 := kd_all (P := fun k => kd k = 0 → ∀ j, j < 6 → kd (34 + 6 * (k - 30) + j) = 6) (by decide +kernel) h (by omega)
  exact q h j (by omega)
theorem kd_bln {b : Nat} (j : Nat) (h : kd b = 0) (hj : j ≤ 4) : ln (34 + 6 * (b - 30) + j) = 8 := by
  have q : kd b = 0 → ∀ j, j < 5 → ln (34 + 6 * (b - 30) + j) = 8 := kd_all (P := fun k => kd k = 0 → ∀ j, j < 5 → ln (34 + 6 * (k - 30) + j) = 8) (by decide +kernel) h (by omega)
  exact q h j (by omega)
theorem kd_bln5 {b : Nat} (h : kd b = 0) : ln (34 + 6 * (b - 30) + 5) = 40 := kd_all (P := fun k => kd k = 0 → ln (34 + 6 * (k - 30) + 5) = 40) (by decide +kernel) h (by omega) h
theorem kd_bng {b : Nat} (h : kd b = 0) : 30 ≤ b ∧ b < 34 := kd_all (P := fun k => kd k = 0 → 30 ≤ k ∧ k < 34) (by decide +kernel) h (by omega) h
theorem kd_sng {k : Nat} (h : kd k = 3) : 10 ≤ k ∧ k < 20 := kd_all (P := fun k => kd k = 3 → 10 ≤ k ∧ k < 20) (by decide +kernel) h (by omega) h
theorem kd_r {n : Nat} (h : n < 6) : kd (10 + n) = 3 := co_dec (N := 6) (P := fun n => kd (10 + n) = 3) (by decide +kernel) h
theorem kd_k {n : Nat} (h : n < 4) : kd (16 + n) = 3 := co_dec (N := 4) (P := fun n => kd (16 + n) = 3) (by decide +kernel) h
theorem kd_kc {n : Nat} (h : n < 3) : kd (31 + n) = 0 := co_dec (N := 3) (P := fun n => kd (31 + n) = 0) (by decide +kernel) h
theorem ln_c {k : Nat} (h : kd k = 3) : 40 ≤ ln (k + 10) ∧ ln (k + 10) ≤ 60 := kd_all (P := fun k => kd k = 3 → 40 ≤ ln (k + 10) ∧ ln (k + 10) ≤ 60) (by decide +kernel) h (by omega) h
theorem ln_r {n : Nat} (h : n < 6) : ln (10 + n + 10) = 40 := co_dec (N := 6) (P := fun n => ln (10 + n + 10) = 40) (by decide +kernel) h
theorem ln_t {n : Nat} (h : n < 4) : ln (16 + n + 10) = 60 := co_dec (N := 4) (P := fun n => ln (16 + n + 10) = 60) (by decide +kernel) h
def ltrI (n : Nat) : Int32 := [108, 106, 100, 102, 111, 109].getD n 0
theorem i32_rng (x : Int32) : -2147483648 ≤ x.toInt ∧ x.toInt < 2147483648 := by
  have h1 := Int32.le_toInt x
  have h2 := Int32.toInt_lt x
  omega
/-- an int that is not below 0 nor n or more -/
theorem ix_of {x y : Int32} {N : Nat} (hy : y = nI N) (hN : N < 2 ^ 31) (h0 : ¬ x < 0) (h1 : ¬ y ≤ x) : ∃ j : Nat, j < N ∧ x = nI j := by
  obtain ⟨j, hj, rfl⟩ := nI_of h0
  refine ⟨j, ?_, rfl⟩
  rcases Nat.lt_or_ge j N with q | q
  · exact q
  · exact absurd (by rw [hy]; exact nI_le q hj) h1
theorem nle_of {n N : Nat} {x y : Int32} (hx : x = nI n) (hy : y = nI N) (hn : n < 2 ^ 31) (hN : N < 2 ^ 31) (h : y ≤ x) : N ≤ n := by
  rw [hx, hy] at h
  exact (nI_leI hN hn).mp h
theorem nlt_of {n N : Nat} {x y : Int32} (hx : x = nI n) (hy : y = nI N) (hn : n < 2 ^ 31) (hN : N < 2 ^ 31) (h : ¬ y ≤ x) : n < N := by
  rw [hx, hy] at h
  exact Nat.not_le.mp (fun q => h ((nI_leI hN hn).mpr q))
theorem tsw0_5 (x : Int32) : x = 0 ∨ x = 1 ∨ x = 2 ∨ x = 3 ∨ x = 4 ∨ x = 5 ∨ (x.toInt < 0 ∨ 5 < x.toInt) := by
  have key : ∀ k : Nat, k ≤ 5 → x.toInt = (k : Int) → x = nI k := fun k hk h => by
    rw [← Int32.toInt_inj, h, nI_toInt (by omega)]
  have h : x.toInt = 0 ∨ x.toInt = 1 ∨ x.toInt = 2 ∨ x.toInt = 3 ∨ x.toInt = 4 ∨ x.toInt = 5 ∨ (x.toInt < 0 ∨ 5 < x.toInt) := by omega
  rcases h with h | h | h | h | h | h | h
  · exact Or.inl (key 0 (by omega) h)
  · exact Or.inr (Or.inl (key 1 (by omega) h))
  · exact Or.inr (Or.inr (Or.inl (key 2 (by omega) h)))
  · exact Or.inr (Or.inr (Or.inr (Or.inl (key 3 (by omega) h))))
  · exact Or.inr (Or.inr (Or.inr (Or.inr (Or.inl (key 4 (by omega) h)))))
  · exact Or.inr (Or.inr (Or.inr (Or.inr (Or.inr (Or.inl (key 5 (by omega) h))))))
  · exact Or.inr (Or.inr (Or.inr (Or.inr (Or.inr (Or.inr (h))))))
theorem tsw0_2 (x : Int32) : x = 0 ∨ x = 1 ∨ x = 2 ∨ (x.toInt < 0 ∨ 2 < x.toInt) := by
  have key : ∀ k : Nat, k ≤ 2 → x.toInt = (k : Int) → x = nI k := fun k hk h => by
    rw [← Int32.toInt_inj, h, nI_toInt (by omega)]
  have h : x.toInt = 0 ∨ x.toInt = 1 ∨ x.toInt = 2 ∨ (x.toInt < 0 ∨ 2 < x.toInt) := by omega
  rcases h with h | h | h | h
  · exact Or.inl (key 0 (by omega) h)
  · exact Or.inr (Or.inl (key 1 (by omega) h))
  · exact Or.inr (Or.inr (Or.inl (key 2 (by omega) h)))
  · exact Or.inr (Or.inr (Or.inr (h)))
theorem tsw1_5 (x : Int32) : x = 1 ∨ x = 2 ∨ x = 3 ∨ x = 4 ∨ x = 5 ∨ (x.toInt < 1 ∨ 5 < x.toInt) := by
  have key : ∀ k : Nat, k ≤ 5 → x.toInt = (k : Int) → x = nI k := fun k hk h => by
    rw [← Int32.toInt_inj, h, nI_toInt (by omega)]
  have h : x.toInt = 1 ∨ x.toInt = 2 ∨ x.toInt = 3 ∨ x.toInt = 4 ∨ x.toInt = 5 ∨ (x.toInt < 1 ∨ 5 < x.toInt) := by omega
  rcases h with h | h | h | h | h | h
  · exact Or.inl (key 1 (by omega) h)
  · exact Or.inr (Or.inl (key 2 (by omega) h))
  · exact Or.inr (Or.inr (Or.inl (key 3 (by omega) h)))
  · exact Or.inr (Or.inr (Or.inr (Or.inl (key 4 (by omega) h))))
  · exact Or.inr (Or.inr (Or.inr (Or.inr (Or.inl (key 5 (by omega) h)))))
  · exact Or.inr (Or.inr (Or.inr (Or.inr (Or.inr (h)))))
theorem tsw2_5 (x : Int32) : x = 2 ∨ x = 3 ∨ x = 4 ∨ x = 5 ∨ (x.toInt < 2 ∨ 5 < x.toInt) := by
  have key : ∀ k : Nat, k ≤ 5 → x.toInt = (k : Int) → x = nI k := fun k hk h => by
    rw [← Int32.toInt_inj, h, nI_toInt (by omega)]
  have h : x.toInt = 2 ∨ x.toInt = 3 ∨ x.toInt = 4 ∨ x.toInt = 5 ∨ (x.toInt < 2 ∨ 5 < x.toInt) := by omega
  rcases h with h | h | h | h | h
  · exact Or.inl (key 2 (by omega) h)
  · exact Or.inr (Or.inl (key 3 (by omega) h))
  · exact Or.inr (Or.inr (Or.inl (key 4 (by omega) h)))
  · exact Or.inr (Or.inr (Or.inr (Or.inl (key 5 (by omega) h))))
  · exact Or.inr (Or.inr (Or.inr (Or.inr (h))))
theorem tsw0_9 (x : Int32) : x = 0 ∨ x = 1 ∨ x = 2 ∨ x = 3 ∨ x = 4 ∨ x = 5 ∨ x = 6 ∨ x = 7 ∨ x = 8 ∨ x = 9 ∨ (x.toInt < 0 ∨ 9 < x.toInt) := by
  have key : ∀ k : Nat, k ≤ 9 → x.toInt = (k : Int) → x = nI k := fun k hk h => by
    rw [← Int32.toInt_inj, h, nI_toInt (by omega)]
  have h : x.toInt = 0 ∨ x.toInt = 1 ∨ x.toInt = 2 ∨ x.toInt = 3 ∨ x.toInt = 4 ∨ x.toInt = 5 ∨ x.toInt = 6 ∨ x.toInt = 7 ∨ x.toInt = 8 ∨ x.toInt = 9 ∨ (x.toInt < 0 ∨ 9 < x.toInt) := by omega
  rcases h with h | h | h | h | h | h | h | h | h | h | h
  · exact Or.inl (key 0 (by omega) h)
  · exact Or.inr (Or.inl (key 1 (by omega) h))
  · exact Or.inr (Or.inr (Or.inl (key 2 (by omega) h)))
  · exact Or.inr (Or.inr (Or.inr (Or.inl (key 3 (by omega) h))))
  · exact Or.inr (Or.inr (Or.inr (Or.inr (Or.inl (key 4 (by omega) h)))))
  · exact Or.inr (Or.inr (Or.inr (Or.inr (Or.inr (Or.inl (key 5 (by omega) h))))))
  · exact Or.inr (Or.inr (Or.inr (Or.inr (Or.inr (Or.inr (Or.inl (key 6 (by omega) h)))))))
  · exact Or.inr (Or.inr (Or.inr (Or.inr (Or.inr (Or.inr (Or.inr (Or.inl (key 7 (by omega) h))))))))
  · exact Or.inr (Or.inr (Or.inr (Or.inr (Or.inr (Or.inr (Or.inr (Or.inr (Or.inl (key 8 (by omega) h)))))))))
  · exact Or.inr (Or.inr (Or.inr (Or.inr (Or.inr (Or.inr (Or.inr (Or.inr (Or.inr (Or.inl (key 9 (by omega) h))))))))))
  · exact Or.inr (Or.inr (Or.inr (Or.inr (Or.inr (Or.inr (Or.inr (Or.inr (Or.inr (Or.inr (h))))))))))
theorem tsw1_4 (x : Int32) : x = 1 ∨ x = 2 ∨ x = 3 ∨ x = 4 ∨ (x.toInt < 1 ∨ 4 < x.toInt) := by
  have key : ∀ k : Nat, k ≤ 4 → x.toInt = (k : Int) → x = nI k := fun k hk h => by
    rw [← Int32.toInt_inj, h, nI_toInt (by omega)]
  have h : x.toInt = 1 ∨ x.toInt = 2 ∨ x.toInt = 3 ∨ x.toInt = 4 ∨ (x.toInt < 1 ∨ 4 < x.toInt) := by omega
  rcases h with h | h | h | h | h
  · exact Or.inl (key 1 (by omega) h)
  · exact Or.inr (Or.inl (key 2 (by omega) h))
  · exact Or.inr (Or.inr (Or.inl (key 3 (by omega) h)))
  · exact Or.inr (Or.inr (Or.inr (Or.inl (key 4 (by omega) h))))
  · exact Or.inr (Or.inr (Or.inr (Or.inr (h))))
theorem tsw0_46 (x : Int32) : x = 0 ∨ x = 1 ∨ x = 2 ∨ x = 3 ∨ x = 4 ∨ x = 5 ∨ x = 6 ∨ x = 7 ∨ x = 8 ∨ x = 9 ∨ x = 10 ∨ x = 11 ∨ x = 12 ∨ x = 13 ∨ x = 14 ∨ x = 15 ∨ x = 16 ∨ x = 17 ∨ x = 18 ∨ x = 19 ∨ x = 20 ∨ x = 21 ∨ x = 22 ∨ x = 23 ∨ x = 24 ∨ x = 25 ∨ x = 26 ∨ x = 27 ∨ x = 28 ∨ x = 29 ∨ x = 30 ∨ x = 31 ∨ x = 32 ∨ x = 33 ∨ x = 34 ∨ x = 35 ∨ x = 36 ∨ x = 37 ∨ x = 38 ∨ x = 39 ∨ x = 40 ∨ x = 41 ∨ x = 42 ∨ x = 43 ∨ x = 44 ∨ x = 45 ∨ x = 46 ∨ (x.toInt < 0 ∨ 46 < x.toInt) := by
  have key : ∀ k : Nat, k ≤ 46 → x.toInt = (k : Int) → x = nI k := fun k hk h => by
    rw [← Int32.toInt_inj, h, nI_toInt (by omega)]
  have h : x.toInt = 0 ∨ x.toInt = 1 ∨ x.toInt = 2 ∨ x.toInt = 3 ∨ x.toInt = 4 ∨ x.toInt = 5 ∨ x.toInt = 6 ∨ x.toInt = 7 ∨ x.toInt = 8 ∨ x.toInt = 9 ∨ x.toInt = 10 ∨ x.toInt = 11 ∨ x.toInt = 12 ∨ x.toInt = 13 ∨ x.toInt = 14 ∨ x.toInt = 15 ∨ x.toInt = 16 ∨ x.toInt = 17 ∨ x.toInt = 18 ∨ x.toInt = 19 ∨ x.toInt = 20 ∨ x.toInt = 21 ∨ x.toInt = 22 ∨ x.toInt = 23 ∨ x.toInt = 24 ∨ x.toInt = 25 ∨ x.toInt = 26 ∨ x.toInt = 27 ∨ x.toInt = 28 ∨ x.toInt = 29 ∨ x.toInt = 30 ∨ x.toInt = 31 ∨ x.toInt = 32 ∨ x.toInt = 33 ∨ x.toInt = 34 ∨ x.toInt = 35 ∨ x.toInt = 36 ∨ x.toInt = 37 ∨ x.toInt = 38 ∨ x.toInt = 39 ∨ x.toInt = 40 ∨ x.toInt = 41 ∨ x.toInt = 42 ∨ x.toInt = 43 ∨ x.toInt = 44 ∨ x.toInt = 45 ∨ x.toInt = 46 ∨ (x.toInt < 0 ∨ 46 < x.toInt) := by omega
  rcases h with h | h | h | h | h | h | h | h | h | h | h | h | h | h | h | h | h | h | h | h | h | h | h | h | h | h | h | h | h | h | h | h | h | h | h | h | h | h | h | h | h | h | h | h | h | h | h | h
  · exact Or.inl (key 0 (by omega) h)
  · exact Or.inr (Or.inl (key 1 (by omega) h))
  · exact Or.inr (Or.inr (Or.inl (key 2 (by omega) h)))
  · exact Or.inr (Or.inr (Or.inr (Or.inl (key 3 (by omega) h))))
  · exact Or.inr (Or.inr (Or.inr (Or.inr (Or.inl (key 4 (by omega) h)))))
  · exact Or.inr (Or.inr (Or.inr (Or.inr (Or.inr (Or.inl (key 5 (by omega) h))))))
  · exact Or.inr (Or.inr (Or.inr (Or.inr (Or.inr (Or.inr (Or.inl (key 6 (by omega) h)))))))
  · exact Or.inr (Or.inr (Or.inr (Or.inr (Or.inr (Or.inr (Or.inr (Or.inl (key 7 (by omega) h))))))))
  · exact Or.inr (Or.inr (Or.inr (Or.inr (Or.inr (Or.inr (Or.inr (Or.inr (Or.inl (key 8 (by omega) h)))))))))
  · exact Or.inr (Or.inr (Or.inr (Or.inr (Or.inr (Or.inr (Or.inr (Or.inr (Or.inr (Or.inl (key 9 (by omega) h))))))))))
  · exact Or.inr (Or.inr (Or.inr (Or.inr (Or.inr (Or.inr (Or.inr (Or.inr (Or.inr (Or.inr (Or.inl (key 10 (by omega) h)))))))))))
  · exact Or.inr (Or.inr (Or.inr (Or.inr (Or.inr (Or.inr (Or.inr (Or.inr (Or.inr (Or.inr (Or.inr (Or.inl (key 11 (by omega) h))))))))))))
  · exact Or.inr (Or.inr (Or.inr (Or.inr (Or.inr (Or.inr (Or.inr (Or.inr (Or.inr (Or.inr (Or.inr (Or.inr (Or.inl (key 12 (by omega) h)))))))))))))
  · exact Or.inr (Or.inr (Or.inr (Or.inr (Or.inr (Or.inr (Or.inr (Or.inr (Or.inr (Or.inr (Or.inr (Or.inr (Or.inr (Or.inl (key 13 (by omega) h))))))))))))))
  · exact Or.inr (Or.inr (Or.inr (Or.inr (Or.inr (Or.inr (Or.inr (Or.inr (Or.inr (Or.inr (Or.inr (Or.inr (Or.inr (Or.inr (Or.inl (key 14 (by omega) h)))))))))))))))
  · exact Or.inr (Or.inr (Or.inr (Or.inr (Or.inr (Or.inr (Or.inr (Or.inr (Or.inr (Or.inr (Or.inr (Or.inr (Or.inr (Or.inr (Or.inr (Or.inl (key 15 (by omega) h))))))))))))))))
  · exact Or.inr (Or.inr (Or.inr (Or.inr (Or.inr (Or.inr (Or.inr (Or.inr (Or.inr (Or.inr (Or.inr (Or.inr (Or.inr (Or.inr (Or.inr (Or.inr (Or.inl (key 16 (by omega) h)))))))))))))))))
  · exact Or.inr (Or.inr (Or.inr (Or.inr (Or.inr (Or.inr (Or.inr (Or.inr (Or.inr (Or.inr (Or.inr (Or.inr (Or.inr (Or.inr (Or.inr (Or.inr (Or.inr (Or.inl (key 17 (by omega) h))))))))))))))))))
  · exact Or.inr (Or.inr (Or.inr (Or.inr (Or.inr (Or.inr (Or.inr (Or.inr (Or.inr (Or.inr (Or.inr (Or.inr (Or.inr (Or.inr (Or.inr (Or.inr (Or.inr (Or.inr (Or.inl (key 18 (by omega) h)))))))))))))))))))
  · exact Or.inr (Or.inr (Or.inr (Or.inr (Or.inr (Or.inr (Or.inr (Or.inr (Or.inr (Or.inr (Or.inr (Or.inr (Or.inr (Or.inr (Or.inr (Or.inr (Or.inr (Or.inr (Or.inr (Or.inl (key 19 (by omega) h))))))))))))))))))))
  · exact Or.inr (Or.inr (Or.inr (Or.inr (Or.inr (Or.inr (Or.inr (Or.inr (Or.inr (Or.inr (Or.inr (Or.inr (Or.inr (Or.inr (Or.inr (Or.inr (Or.inr (Or.inr (Or.inr (Or.inr (Or.inl (key 20 (by omega) h)))))))))))))))))))))
  · exact Or.inr (Or.inr (Or.inr (Or.inr (Or.inr (Or.inr (Or.inr (Or.inr (Or.inr (Or.inr (Or.inr (Or.inr (Or.inr (Or.inr (Or.inr (Or.inr (Or.inr (Or.inr (Or.inr (Or.inr (Or.inr (Or.inl (key 21 (by omega) h))))))))))))))))))))))
  · exact Or.inr (Or.inr (Or.inr (Or.inr (Or.inr (Or.inr (Or.inr (Or.inr (Or.inr (Or.inr (Or.inr (Or.inr (Or.inr (Or.inr (Or.inr (Or.inr (Or.inr (Or.inr (Or.inr (Or.inr (Or.inr (Or.inr (Or.inl (key 22 (by omega) h)))))))))))))))))))))))
  · exact Or.inr (Or.inr (Or.inr (Or.inr (Or.inr (Or.inr (Or.inr (Or.inr (Or.inr (Or.inr (Or.inr (Or.inr (Or.inr (Or.inr (Or.inr (Or.inr (Or.inr (Or.inr (Or.inr (Or.inr (Or.inr (Or.inr (Or.inr (Or.inl (key 23 (by omega) h))))))))))))))))))))))))
  · exact Or.inr (Or.inr (Or.inr (Or.inr (Or.inr (Or.inr (Or.inr (Or.inr (Or.inr (Or.inr (Or.inr (Or.inr (Or.inr (Or.inr (Or.inr (Or.inr (Or.inr (Or.inr (Or.inr (Or.inr (Or.inr (Or.inr (Or.inr (Or.inr (Or.inl (key 24 (by omega) h)))))))))))))))))))))))))
  · exact Or.inr (Or.inr (Or.inr (Or.inr (Or.inr (Or.inr (Or.inr (Or.inr (Or.inr (Or.inr (Or.inr (Or.inr (Or.inr (Or.inr (Or.inr (Or.inr (Or.inr (Or.inr (Or.inr (Or.inr (Or.inr (Or.inr (Or.inr (Or.inr (Or.inr (Or.inl (key 25 (by omega) h))))))))))))))))))))))))))
  · exact Or.inr (Or.inr (Or.inr (Or.inr (Or.inr (Or.inr (Or.inr (Or.inr (Or.inr (Or.inr (Or.inr (Or.inr (Or.inr (Or.inr (Or.inr (Or.inr (Or.inr (Or.inr (Or.inr (Or.inr (Or.inr (Or.inr (Or.inr (Or.inr (Or.inr (Or.inr (Or.inl (key 26 (by omega) h)))))))))))))))))))))))))))
  · exact Or.inr (Or.inr (Or.inr (Or.inr (Or.inr (Or.inr (Or.inr (Or.inr (Or.inr (Or.inr (Or.inr (Or.inr (Or.inr (Or.inr (Or.inr (Or.inr (Or.inr (Or.inr (Or.inr (Or.inr (Or.inr (Or.inr (Or.inr (Or.inr (Or.inr (Or.inr (Or.inr (Or.inl (key 27 (by omega) h))))))))))))))))))))))))))))
  · exact Or.inr (Or.inr (Or.inr (Or.inr (Or.inr (Or.inr (Or.inr (Or.inr (Or.inr (Or.inr (Or.inr (Or.inr (Or.inr (Or.inr (Or.inr (Or.inr (Or.inr (Or.inr (Or.inr (Or.inr (Or.inr (Or.inr (Or.inr (Or.inr (Or.inr (Or.inr (Or.inr (Or.inr (Or.inl (key 28 (by omega) h)))))))))))))))))))))))))))))
  · exact Or.inr (Or.inr (Or.inr (Or.inr (Or.inr (Or.inr (Or.inr (Or.inr (Or.inr (Or.inr (Or.inr (Or.inr (Or.inr (Or.inr (Or.inr (Or.inr (Or.inr (Or.inr (Or.inr (Or.inr (Or.inr (Or.inr (Or.inr (Or.inr (Or.inr (Or.inr (Or.inr (Or.inr (Or.inr (Or.inl (key 29 (by omega) h))))))))))))))))))))))))))))))
  · exact Or.inr (Or.inr (Or.inr (Or.inr (Or.inr (Or.inr (Or.inr (Or.inr (Or.inr (Or.inr (Or.inr (Or.inr (Or.inr (Or.inr (Or.inr (Or.inr (Or.inr (Or.inr (Or.inr (Or.inr (Or.inr (Or.inr (Or.inr (Or.inr (Or.inr (Or.inr (Or.inr (Or.inr (Or.inr (Or.inr (Or.inl (key 30 (by omega) h)))))))))))))))))))))))))))))))
  · exact Or.inr (Or.inr (Or.inr (Or.inr (Or.inr (Or.inr (Or.inr (Or.inr (Or.inr (Or.inr (Or.inr (Or.inr (Or.inr (Or.inr (Or.inr (Or.inr (Or.inr (Or.inr (Or.inr (Or.inr (Or.inr (Or.inr (Or.inr (Or.inr (Or.inr (Or.inr (Or.inr (Or.inr (Or.inr (Or.inr (Or.inr (Or.inl (key 31 (by omega) h))))))))))))))))))))))))))))))))
  · exact Or.inr (Or.inr (Or.inr (Or.inr (Or.inr (Or.inr (Or.inr (Or.inr (Or.inr (Or.inr (Or.inr (Or.inr (Or.inr (Or.inr (Or.inr (Or.inr (Or.inr (Or.inr (Or.inr (Or.inr (Or.inr (Or.inr (Or.inr (Or.inr (Or.inr (Or.inr (Or.inr (Or.inr (Or.inr (Or.inr (Or.inr (Or.inr (Or.inl (key 32 (by omega) h)))))))))))))))))))))))))))))))))
  · exact Or.inr (Or.inr (Or.inr (Or.inr (Or.inr (Or.inr (Or.inr (Or.inr (Or.inr (Or.inr (Or.inr (Or.inr (Or.inr (Or.inr (Or.inr (Or.inr (Or.inr (Or.inr (Or.inr (Or.inr (Or.inr (Or.inr (Or.inr (Or.inr (Or.inr (Or.inr (Or.inr (Or.inr (Or.inr (Or.inr (Or.inr (Or.inr (Or.inr (Or.inl (key 33 (by omega) h))))))))))))))))))))))))))))))))))
  · exact Or.inr (Or.inr (Or.inr (Or.inr (Or.inr (Or.inr (Or.inr (Or.inr (Or.inr (Or.inr (Or.inr (Or.inr (Or.inr (Or.inr (Or.inr (Or.inr (Or.inr (Or.inr (Or.inr (Or.inr (Or.inr (Or.inr (Or.inr (Or.inr (Or.inr (Or.inr (Or.inr (Or.inr (Or.inr (Or.inr (Or.inr (Or.inr (Or.inr (Or.inr (Or.inl (key 34 (by omega) h)))))))))))))))))))))))))))))))))))
  · exact Or.inr (Or.inr (Or.inr (Or.inr (Or.inr (Or.inr (Or.inr (Or.inr (Or.inr (Or.inr (Or.inr (Or.inr (Or.inr (Or.inr (Or.inr (Or.inr (Or.inr (Or.inr (Or.inr (Or.inr (Or.inr (Or.inr (Or.inr (Or.inr (Or.inr (Or.inr (Or.inr (Or.inr (Or.inr (Or.inr (Or.inr (Or.inr (Or.inr (Or.inr (Or.inr (Or.inl (key 35 (by omega) h))))))))))))))))))))))))))))))))))))
  · exact Or.inr (Or.inr (Or.inr (Or.inr (Or.inr (Or.inr (Or.inr (Or.inr (Or.inr (Or.inr (Or.inr (Or.inr (Or.inr (Or.inr (Or.inr (Or.inr (Or.inr (Or.inr (Or.inr (Or.inr (Or.inr (Or.inr (Or.inr (Or.inr (Or.inr (Or.inr (Or.inr (Or.inr (Or.inr (Or.inr (Or.inr (Or.inr (Or.inr (Or.inr (Or.inr (Or.inr (Or.inl (key 36 (by omega) h)))))))))))))))))))))))))))))))))))))
  · exact Or.inr (Or.inr (Or.inr (Or.inr (Or.inr (Or.inr (Or.inr (Or.inr (Or.inr (Or.inr (Or.inr (Or.inr (Or.inr (Or.inr (Or.inr (Or.inr (Or.inr (Or.inr (Or.inr (Or.inr (Or.inr (Or.inr (Or.inr (Or.inr (Or.inr (Or.inr (Or.inr (Or.inr (Or.inr (Or.inr (Or.inr (Or.inr (Or.inr (Or.inr (Or.inr (Or.inr (Or.inr (Or.inl (key 37 (by omega) h))))))))))))))))))))))))))))))))))))))
  · exact Or.inr (Or.inr (Or.inr (Or.inr (Or.inr (Or.inr (Or.inr (Or.inr (Or.inr (Or.inr (Or.inr (Or.inr (Or.inr (Or.inr (Or.inr (Or.inr (Or.inr (Or.inr (Or.inr (Or.inr (Or.inr (Or.inr (Or.inr (Or.inr (Or.inr (Or.inr (Or.inr (Or.inr (Or.inr (Or.inr (Or.inr (Or.inr (Or.inr (Or.inr (Or.inr (Or.inr (Or.inr (Or.inr (Or.inl (key 38 (by omega) h)))))))))))))))))))))))))))))))))))))))
  · exact Or.inr (Or.inr (Or.inr (Or.inr (Or.inr (Or.inr (Or.inr (Or.inr (Or.inr (Or.inr (Or.inr (Or.inr (Or.inr (Or.inr (Or.inr (Or.inr (Or.inr (Or.inr (Or.inr (Or.inr (Or.inr (Or.inr (Or.inr (Or.inr (Or.inr (Or.inr (Or.inr (Or.inr (Or.inr (Or.inr (Or.inr (Or.inr (Or.inr (Or.inr (Or.inr (Or.inr (Or.inr (Or.inr (Or.inr (Or.inl (key 39 (by omega) h))))))))))))))))))))))))))))))))))))))))
  · exact Or.inr (Or.inr (Or.inr (Or.inr (Or.inr (Or.inr (Or.inr (Or.inr (Or.inr (Or.inr (Or.inr (Or.inr (Or.inr (Or.inr (Or.inr (Or.inr (Or.inr (Or.inr (Or.inr (Or.inr (Or.inr (Or.inr (Or.inr (Or.inr (Or.inr (Or.inr (Or.inr (Or.inr (Or.inr (Or.inr (Or.inr (Or.inr (Or.inr (Or.inr (Or.inr (Or.inr (Or.inr (Or.inr (Or.inr (Or.inr (Or.inl (key 40 (by omega) h)))))))))))))))))))))))))))))))))))))))))
  · exact Or.inr (Or.inr (Or.inr (Or.inr (Or.inr (Or.inr (Or.inr (Or.inr (Or.inr (Or.inr (Or.inr (Or.inr (Or.inr (Or.inr (Or.inr (Or.inr (Or.inr (Or.inr (Or.inr (Or.inr (Or.inr (Or.inr (Or.inr (Or.inr (Or.inr (Or.inr (Or.inr (Or.inr (Or.inr (Or.inr (Or.inr (Or.inr (Or.inr (Or.inr (Or.inr (Or.inr (Or.inr (Or.inr (Or.inr (Or.inr (Or.inr (Or.inl (key 41 (by omega) h))))))))))))))))))))))))))))))))))))))))))
  · exact Or.inr (Or.inr (Or.inr (Or.inr (Or.inr (Or.inr (Or.inr (Or.inr (Or.inr (Or.inr (Or.inr (Or.inr (Or.inr (Or.inr (Or.inr (Or.inr (Or.inr (Or.inr (Or.inr (Or.inr (Or.inr (Or.inr (Or.inr (Or.inr (Or.inr (Or.inr (Or.inr (Or.inr (Or.inr (Or.inr (Or.inr (Or.inr (Or.inr (Or.inr (Or.inr (Or.inr (Or.inr (Or.inr (Or.inr (Or.inr (Or.inr (Or.inr (Or.inl (key 42 (by omega) h)))))))))))))))))))))))))))))))))))))))))))
  · exact Or.inr (Or.inr (Or.inr (Or.inr (Or.inr (Or.inr (Or.inr (Or.inr (Or.inr (Or.inr (Or.inr (Or.inr (Or.inr (Or.inr (Or.inr (Or.inr (Or.inr (Or.inr (Or.inr (Or.inr (Or.inr (Or.inr (Or.inr (Or.inr (Or.inr (Or.inr (Or.inr (Or.inr (Or.inr (Or.inr (Or.inr (Or.inr (Or.inr (Or.inr (Or.inr (Or.inr (Or.inr (Or.inr (Or.inr (Or.inr (Or.inr (Or.inr (Or.inr (Or.inl (key 43 (by omega) h))))))))))))))))))))))))))))))))))))))))))))
  · exact Or.inr (Or.inr (Or.inr (Or.inr (Or.inr (Or.inr (Or.inr (Or.inr (Or.inr (Or.inr (Or.inr (Or.inr (Or.inr (Or.inr (Or.inr (Or.inr (Or.inr (Or.inr (Or.inr (Or.inr (Or.inr (Or.inr (Or.inr (Or.inr (Or.inr (Or.inr (Or.inr (Or.inr (Or.inr (Or.inr (Or.inr (Or.inr (Or.inr (Or.inr (Or.inr (Or.inr (Or.inr (Or.inr (Or.inr (Or.inr (Or.inr (Or.inr (Or.inr (Or.inr (Or.inl (key 44 (by omega) h)))))))))))))))))))))))))))))))))))))))))))))
  · exact Or.inr (Or.inr (Or.inr (Or.inr (Or.inr (Or.inr (Or.inr (Or.inr (Or.inr (Or.inr (Or.inr (Or.inr (Or.inr (Or.inr (Or.inr (Or.inr (Or.inr (Or.inr (Or.inr (Or.inr (Or.inr (Or.inr (Or.inr (Or.inr (Or.inr (Or.inr (Or.inr (Or.inr (Or.inr (Or.inr (Or.inr (Or.inr (Or.inr (Or.inr (Or.inr (Or.inr (Or.inr (Or.inr (Or.inr (Or.inr (Or.inr (Or.inr (Or.inr (Or.inr (Or.inr (Or.inl (key 45 (by omega) h))))))))))))))))))))))))))))))))))))))))))))))
  · exact Or.inr (Or.inr (Or.inr (Or.inr (Or.inr (Or.inr (Or.inr (Or.inr (Or.inr (Or.inr (Or.inr (Or.inr (Or.inr (Or.inr (Or.inr (Or.inr (Or.inr (Or.inr (Or.inr (Or.inr (Or.inr (Or.inr (Or.inr (Or.inr (Or.inr (Or.inr (Or.inr (Or.inr (Or.inr (Or.inr (Or.inr (Or.inr (Or.inr (Or.inr (Or.inr (Or.inr (Or.inr (Or.inr (Or.inr (Or.inr (Or.inr (Or.inr (Or.inr (Or.inr (Or.inr (Or.inr (Or.inl (key 46 (by omega) h)))))))))))))))))))))))))))))))))))))))))))))))
  · exact Or.inr (Or.inr (Or.inr (Or.inr (Or.inr (Or.inr (Or.inr (Or.inr (Or.inr (Or.inr (Or.inr (Or.inr (Or.inr (Or.inr (Or.inr (Or.inr (Or.inr (Or.inr (Or.inr (Or.inr (Or.inr (Or.inr (Or.inr (Or.inr (Or.inr (Or.inr (Or.inr (Or.inr (Or.inr (Or.inr (Or.inr (Or.inr (Or.inr (Or.inr (Or.inr (Or.inr (Or.inr (Or.inr (Or.inr (Or.inr (Or.inr (Or.inr (Or.inr (Or.inr (Or.inr (Or.inr (Or.inr (h)))))))))))))))))))))))))))))))))))))))))))))))
