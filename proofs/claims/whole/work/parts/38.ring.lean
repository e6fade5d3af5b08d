/-! RINGS: six sums in one number -/
def dI (a x : Nat) : Int := if a = x then 1 else 0
def cI (o t : Nat → Nat) (n x : Nat) : Nat → Int | 0 => 0 | k + 1 => if n.testBit k = true then cI o t n x k + dI (o k) x - dI (t k) x else cI o t n x k
def sI6 (c : Nat → Int) : Int := c 0 + 32 * c 1 + 1024 * c 2 + 32768 * c 3 + 1048576 * c 4 + 33554432 * c 5
theorem cI_bd {o t : Nat → Nat} {n x : Nat} : ∀ m : Nat, -(m : Int) ≤ cI o t n x m ∧ cI o t n x m ≤ m
  | 0 => ⟨Int.le_refl _, Int.le_refl _⟩
  | m + 1 => by
    obtain ⟨a, b⟩ := cI_bd (o := o) (t := t) (n := n) (x := x) m
    have p1 : 0 ≤ dI (o m) x ∧ dI (o m) x ≤ 1 := by unfold dI; split <;> omega
    have p2 : 0 ≤ dI (t m) x ∧ dI (t m) x ≤ 1 := by unfold dI; split <;> omega
    rw [cI]
    split <;> omega
theorem sI6_0 {c : Nat → Int} (h : ∀ x, -8 ≤ c x ∧ c x ≤ 8) : sI6 c = 0 ↔ ∀ x, x < 6 → c x = 0 := by
  have h0 := h 0
  have h1 := h 1
  have h2 := h 2
  have h3 := h 3
  have h4 := h 4
  have h5 := h 5
  unfold sI6
  constructor
  · intro e x hx
    have : c 0 = 0 ∧ c 1 = 0 ∧ c 2 = 0 ∧ c 3 = 0 ∧ c 4 = 0 ∧ c 5 = 0 := by omega
    rcases (show x = 0 ∨ x = 1 ∨ x = 2 ∨ x = 3 ∨ x = 4 ∨ x = 5 by omega) with rfl | rfl | rfl | rfl | rfl | rfl <;> omega
  · intro e
    rw [e 0 (by omega), e 1 (by omega), e 2 (by omega), e 3 (by omega), e 4 (by omega), e 5 (by omega)]
    rfl
theorem sI6_d {a : Nat} (ha : a < 6) : (1 : Int32) <<< ((5 * nI a) &&& 31) = Int32.ofInt (sI6 (dI a)) := by
  rcases (show a = 0 ∨ a = 1 ∨ a = 2 ∨ a = 3 ∨ a = 4 ∨ a = 5 by omega) with rfl | rfl | rfl | rfl | rfl | rfl <;> decide +kernel
theorem i32_0 {v : Int} (h1 : -2147483648 ≤ v) (h2 : v < 2147483648) : Int32.ofInt v = 0 ↔ v = 0 := by
  constructor
  · intro e
    have := congrArg Int32.toInt e
    rw [Int32.toInt_ofInt, show Int32.size = 4294967296 from rfl, Int.bmod_eq_of_le (by omega) (by omega)] at this
    exact this
  · intro e
    rw [e]; rfl
theorem sb_pack {S : St} (h : bkE S 30 0) (hP : okP S) {n : Nat} (hn : ∀ k, n.testBit k = true → k < szB S 30 ∧ owF S 30 (nI k) = true) : ∀ m, sbR (deW S 30) n m = Int32.ofInt (sI6 (fun x => cI (oN S) (tN S) n x m))
  | 0 => rfl
  | m + 1 => by
    rw [sbR, sb_pack h hP hn m]
    by_cases q : n.testBit m = true
    · obtain ⟨hm, ho⟩ := hn m q
      have hm' : m < nM S := by rw [bE_nM h]; exact hm
      obtain ⟨⟨a1, a2⟩, b1, b2⟩ := hP m hm'
      rw [if_pos q, deW, if_pos ho, n_f1 h hm, n_f2 h hm, a1, b1, sI6_d a2, sI6_d b2, ← Int32.ofInt_sub, ← Int32.ofInt_add]
      congr 1
      unfold sI6
      simp only [cI, if_pos q]
      omega
    · rw [if_neg q]
      congr 1
      unfold sI6
      simp only [cI, if_neg q]
theorem ob_c {S : St} (hP : okP S) {n x : Nat} (hx : x < 6) (hn : n < 2 ^ 31) (h8 : nM S ≤ 8) : ∀ m, m ≤ nM S → obR S (nI x) (nI n) m = Int32.ofInt (cI (oN S) (tN S) n x m)
  | 0, _ => rfl
  | m + 1, hm => by
    obtain ⟨⟨a1, a2⟩, b1, b2⟩ := hP m (by omega)
    have e1 : decide (gA S 59 (19 + m) = nI x) = decide (oN S m = x) := by rw [a1]; exact decide_eq_decide.mpr (nI_eq (by omega) (by omega))
    have e2 : decide (gA S 59 (27 + m) = nI x) = decide (tN S m = x) := by rw [b1]; exact decide_eq_decide.mpr (nI_eq (by omega) (by omega))
    rw [obR, ob_c hP hx hn h8 m (by omega), hs_nat (by omega) hn, e1, e2, cI]
    by_cases q : n.testBit m = true
    · rw [q, Bool.true_and, Bool.true_and, if_pos rfl, Int32.ofInt_sub, Int32.ofInt_add]
      unfold dI
      by_cases a : oN S m = x <;> by_cases b : tN S m = x <;> simp only [a, b, decide_true, decide_false, if_true, if_false, Bool.false_eq_true] <;> rfl
    · rw [Bool.not_eq_true] at q
      rw [q, Bool.false_and, Bool.false_and, if_neg (by decide), if_neg (by decide), Int32.add_zero, Int32.sub_zero]
