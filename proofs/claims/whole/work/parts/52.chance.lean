/-! ODDS, MID: alike -/
/-- n's bits are all l's -/
def tbS (l n : Nat) : Prop := ∀ k, n.testBit k = true → l.testBit k = true
theorem tb_big {x N k : Nat} (hx : x < 2 ^ N) (hk : N ≤ k) : x.testBit k = false := Nat.testBit_lt_two_pow (Nat.lt_of_lt_of_le hx (Nat.pow_le_pow_right (n := 2) (by omega) hk))
theorem tb_top {N y k : Nat} (hy : y < 2 ^ N) : (2 ^ N + y).testBit k = if k = N then true else y.testBit k := by
  by_cases q : k = N
  · rw [if_pos q, q, Nat.testBit_two_pow_add_eq, Nat.testBit_lt_two_pow hy]; rfl
  · rw [if_neg q]
    rcases Nat.lt_or_ge k N with w | w
    · exact Nat.testBit_two_pow_add_gt w y
    · rw [tb_big (N := N + 1) (by rw [Nat.pow_succ]; omega) (by omega), tb_big hy (by omega)]
theorem tb_ge {N x : Nat} (hx : x < 2 ^ (N + 1)) (h : 2 ^ N ≤ x) : ∃ y, y < 2 ^ N ∧ x = 2 ^ N + y := ⟨x - 2 ^ N, by rw [Nat.pow_succ] at hx; omega, by omega⟩
theorem sub_tb : ∀ N l n, l < 2 ^ N → n < 2 ^ N → tbS l n → n ≤ l ∧ ∀ k, (l - n).testBit k = (l.testBit k && !n.testBit k)
  | 0, l, n, hl, hn, _ => by
    have e1 : l = 0 := by omega
    have e2 : n = 0 := by omega
    subst e1; subst e2
    exact ⟨Nat.le_refl _, fun k => by simp⟩
  | N + 1, l, n, hl, hn, h => by
    rcases Nat.lt_or_ge l (2 ^ N) with a | a
    · rcases Nat.lt_or_ge n (2 ^ N) with b | b
      · exact sub_tb N l n a b h
      · obtain ⟨y, hy, rfl⟩ := tb_ge hn b
        have := h N (by rw [tb_top hy, if_pos rfl])
        rw [tb_big a (Nat.le_refl _)] at this
        exact absurd this (by decide)
    · obtain ⟨x, hx, rfl⟩ := tb_ge hl a
      rcases Nat.lt_or_ge n (2 ^ N) with b | b
      · have s : tbS x n := fun k hk => by
          have z := h k hk
          rw [tb_top hx] at z
          by_cases q : k = N
          · rw [q, tb_big b (Nat.le_refl _)] at hk
            exact absurd hk (by decide)
          · rw [if_neg q] at z; exact z
        obtain ⟨c, d⟩ := sub_tb N x n hx b s
        refine ⟨by omega, fun k => ?_⟩
        rw [show 2 ^ N + x - n = 2 ^ N + (x - n) by omega, tb_top (show x - n < 2 ^ N by omega), tb_top hx]
        by_cases q : k = N
        · rw [if_pos q, if_pos q, q, tb_big b (Nat.le_refl _)]; rfl
        · rw [if_neg q, if_neg q, d]
      · obtain ⟨y, hy, rfl⟩ := tb_ge hn b
        have s : tbS x y := fun k hk => by
          by_cases q : k = N
          · rw [q, tb_big hy (Nat.le_refl _)] at hk
            exact absurd hk (by decide)
          · have z := h k (by rw [tb_top hy, if_neg q]; exact hk)
            rw [tb_top hx, if_neg q] at z; exact z
        obtain ⟨c, d⟩ := sub_tb N x y hx hy s
        refine ⟨by omega, fun k => ?_⟩
        rw [show 2 ^ N + x - (2 ^ N + y) = x - y by omega, d, tb_top hx, tb_top hy]
        by_cases q : k = N
        · rw [if_pos q, if_pos q, q, tb_big hx (Nat.le_refl _)]; rfl
        · rw [if_neg q, if_neg q]
/-- the lower bits -/
def lwN (l : Nat) : Nat → Nat | 0 => 0 | N + 1 => if l.testBit N = true then 2 ^ N + lwN l N else lwN l N
theorem lw_lt (l : Nat) : ∀ N, lwN l N < 2 ^ N
  | 0 => by show 0 < 1; omega
  | N + 1 => by
    have := lw_lt l N
    rw [lwN, Nat.pow_succ]
    split <;> omega
theorem lw_tb (l : Nat) : ∀ N k, (lwN l N).testBit k = (decide (k < N) && l.testBit k)
  | 0, k => by rw [lwN, Nat.zero_testBit, decide_eq_false (by omega)]; rfl
  | N + 1, k => by
    have ih := lw_tb l N k
    have hl := lw_lt l N
    rw [lwN]
    by_cases q : k = N
    · subst q
      cases w : l.testBit k
      · rw [if_neg (by decide), tb_big hl (Nat.le_refl _), Bool.and_false]
      · rw [if_pos rfl, tb_top hl, if_pos rfl, decide_eq_true (by omega)]; rfl
    · have e : decide (k < N + 1) = decide (k < N) := by
        by_cases z : k < N
        · rw [decide_eq_true z, decide_eq_true (by omega)]
        · rw [decide_eq_false z, decide_eq_false (by omega)]
      rw [e, ← ih]
      split
      · rw [tb_top hl, if_neg q]
      · rfl
theorem lw_self {l N : Nat} (h : l < 2 ^ N) : lwN l N = l := Nat.eq_of_testBit_eq (fun k => by
  rw [lw_tb]
  by_cases q : k < N
  · rw [decide_eq_true q, Bool.true_and]
  · rw [decide_eq_false q, tb_big h (by omega)]; rfl)
/-- a sum over the sets within l, as a tree -/
def qS (l : Nat) : Nat → (Nat → Nat) → Nat
  | 0, G => G 0
  | N + 1, G => if l.testBit N = true then qS l N G + qS l N (fun n => G (2 ^ N + n)) else qS l N G
theorem qS_eq {l : Nat} : ∀ N (G F : Nat → Nat), (∀ n, n < 2 ^ N → tbS l n → G n = F n) → qS l N G = qS l N F
  | 0, G, F, h => h 0 (by show 0 < 1; omega) (fun k hk => by rw [Nat.zero_testBit] at hk; exact absurd hk (by decide))
  | N + 1, G, F, h => by
    have p := Nat.pow_succ (n := 2) (m := N)
    rw [qS, qS, qS_eq N G F (fun n hn ht => h n (by omega) ht)]
    by_cases q : l.testBit N = true
    · rw [if_pos q, if_pos q, qS_eq N _ (fun n => F (2 ^ N + n)) (fun n hn ht => h (2 ^ N + n) (by omega) (fun k hk => by
        rw [tb_top hn] at hk
        by_cases z : k = N
        · rw [z]; exact q
        · rw [if_neg z] at hk; exact ht k hk))]
    · rw [if_neg q, if_neg q]
theorem qS_le {l : Nat} : ∀ N (G F : Nat → Nat), (∀ n, G n ≤ F n) → qS l N G ≤ qS l N F
  | 0, G, F, h => h 0
  | N + 1, G, F, h => by
    have h1 := qS_le (l := l) N G F h
    have h2 := qS_le (l := l) N (fun n => G (2 ^ N + n)) (fun n => F (2 ^ N + n)) (fun n => h _)
    rw [qS, qS]
    split <;> omega
theorem qS_add {l : Nat} : ∀ N (G F : Nat → Nat), qS l N (fun n => G n + F n) = qS l N G + qS l N F
  | 0, _, _ => rfl
  | N + 1, G, F => by
    rw [qS, qS, qS, qS_add N G F, qS_add N (fun n => G (2 ^ N + n)) (fun n => F (2 ^ N + n))]
    split <;> omega
theorem qS_mul {l a : Nat} : ∀ N (G : Nat → Nat), qS l N (fun n => a * G n) = a * qS l N G
  | 0, _ => rfl
  | N + 1, G => by
    rw [qS, qS, qS_mul N G, qS_mul N (fun n => G (2 ^ N + n))]
    split
    · rw [Nat.mul_add]
    · rfl
theorem qS_rev {l : Nat} : ∀ N (G : Nat → Nat), qS l N G = qS l N (fun n => G (lwN l N - n))
  | 0, _ => rfl
  | N + 1, G => by
    have hl := lw_lt l N
    have sb : ∀ n, n < 2 ^ N → tbS l n → n ≤ lwN l N := fun n hn ht => (sub_tb N (lwN l N) n hl hn (fun k hk => by
      rw [lw_tb, ht k hk, Bool.and_true, decide_eq_true_eq]
      rcases Nat.lt_or_ge k N with w | w
      · exact w
      · rw [tb_big hn w] at hk; exact absurd hk (by decide))).1
    by_cases q : l.testBit N = true
    · rw [qS, qS, if_pos q, if_pos q, lwN, if_pos q]
      have e1 : qS l N (fun n => G (2 ^ N + lwN l N - n)) = qS l N (fun n => G (2 ^ N + n)) := by
        rw [qS_rev N (fun n => G (2 ^ N + n))]
        refine qS_eq N _ _ (fun n hn ht => ?_)
        have := sb n hn ht
        show G (2 ^ N + lwN l N - n) = G (2 ^ N + (lwN l N - n))
        rw [show 2 ^ N + lwN l N - n = 2 ^ N + (lwN l N - n) by omega]
      have e2 : qS l N (fun n => G (2 ^ N + lwN l N - (2 ^ N + n))) = qS l N G := by
        rw [qS_rev N G]
        refine qS_eq N _ _ (fun n hn ht => ?_)
        show G (2 ^ N + lwN l N - (2 ^ N + n)) = G (lwN l N - n)
        rw [show 2 ^ N + lwN l N - (2 ^ N + n) = lwN l N - n by omega]
      rw [e1, e2, Nat.add_comm]
    · rw [qS, qS, if_neg q, if_neg q, lwN, if_neg q]
      exact qS_rev N G
/-- the same sum, set by set -/
def sS (P : Nat → Bool) (G : Nat → Nat) : Nat → Nat | 0 => 0 | n + 1 => if P n = true then sS P G n + G n else sS P G n
theorem sS_add {P : Nat → Bool} {G : Nat → Nat} {M : Nat} : ∀ j, sS P G (M + j) = sS P G M + sS (fun n => P (M + n)) (fun n => G (M + n)) j
  | 0 => rfl
  | j + 1 => by
    rw [← Nat.add_assoc, sS, sS_add j, sS]
    split
    · rw [Nat.add_assoc]
    · rfl
theorem sS_eq {P P' : Nat → Bool} {G : Nat → Nat} : ∀ j, (∀ n, n < j → P n = P' n) → sS P G j = sS P' G j
  | 0, _ => rfl
  | j + 1, h => by rw [sS, sS, sS_eq j (fun n hn => h n (by omega)), h j (by omega)]
theorem sS_0 {G : Nat → Nat} : ∀ j, sS (fun _ => false) G j = 0
  | 0 => rfl
  | j + 1 => by rw [sS, sS_0 j]; rfl
theorem sS_q {l : Nat} {P : Nat → Bool} (hP : ∀ n, n < 256 → (P n = true ↔ tbS l n)) : ∀ N, N ≤ 8 → ∀ G, sS P G (2 ^ N) = qS l N G
  | 0, _, G => by
    show (if P 0 = true then 0 + G 0 else 0) = G 0
    rw [if_pos ((hP 0 (by omega)).mpr (fun k hk => by rw [Nat.zero_testBit] at hk; exact absurd hk (by decide))), Nat.zero_add]
  | N + 1, hN, G => by
    have p := Nat.pow_succ (n := 2) (m := N)
    have p8 : 2 ^ (N + 1) ≤ 256 := p256 hN
    rw [show 2 ^ (N + 1) = 2 ^ N + 2 ^ N by omega, sS_add, sS_q hP N (by omega), qS]
    by_cases q : l.testBit N = true
    · rw [if_pos q, sS_eq (P' := P) (2 ^ N), sS_q hP N (by omega)]
      intro n hn
      have a := hP n (by omega)
      have b := hP (2 ^ N + n) (by omega)
      have c : tbS l (2 ^ N + n) ↔ tbS l n := by
        constructor
        · intro z k hk
          by_cases w : k = N
          · rw [w]; exact q
          · exact z k (by rw [tb_top hn, if_neg w]; exact hk)
        · intro z k hk
          by_cases w : k = N
          · rw [w]; exact q
          · rw [tb_top hn, if_neg w] at hk; exact z k hk
      rw [Bool.eq_iff_iff]
      exact b.trans (c.trans a.symm)
    · rw [if_neg q, sS_eq (P' := fun _ => false) (2 ^ N), sS_0]
      · rfl
      · intro n hn
        refine bF (fun z => q ?_)
        exact (hP (2 ^ N + n) (by omega)).mp z N (by rw [tb_top hn, if_pos rfl])
theorem with_iff {n l : Nat} (hn : n < 256) (hl : l < 256) : withF (nI n) (nI l) = true ↔ tbS l n := by
  constructor
  · exact with_bits hn hl
  · intro h
    unfold withF
    rw [decide_eq_true_eq, ← Int32.toBitVec_inj, Int32.toBitVec_and, Int32.toBitVec_xor]
    refine BitVec.eq_of_getLsbD_eq (fun i hi => ?_)
    rw [BitVec.getLsbD_and, BitVec.getLsbD_xor]
    have e1 : (nI n).toBitVec.getLsbD i = n.testBit i := by
      show (BitVec.ofNat 32 n).getLsbD i = _
      rw [BitVec.getLsbD_ofNat]; simp [hi]
    have e2 : (nI l).toBitVec.getLsbD i = l.testBit i := by
      show (BitVec.ofNat 32 l).getLsbD i = _
      rw [BitVec.getLsbD_ofNat]; simp [hi]
    have e3 : (-1 : Int32).toBitVec.getLsbD i = true := by
      show (BitVec.allOnes 32).getLsbD i = true
      rw [BitVec.getLsbD_allOnes]; simp [hi]
    have e4 : (0 : Int32).toBitVec.getLsbD i = false := BitVec.getLsbD_zero
    rw [e1, e2, e3, e4]
    have := h i
    cases a : n.testBit i
    · rfl
    · rw [this a]; rfl
/-! the numbers -/
def brN (g : Nat → Nat) (l n : Nat) : Nat → Nat | 0 => 0 | k + 1 => brN g l n k + (if (l.testBit k && !n.testBit k) = true then g k else 0)
def wN (q r l n : Nat) : Nat → Nat | 0 => 1 | k + 1 => wN q r l n k * (if l.testBit k = true then (if n.testBit k = true then q else r) else 1)
def dN (l : Nat) : Nat → Nat | 0 => 1 | k + 1 => dN l k * (if l.testBit k = true then 12 else 1)
theorem wN_pow {q r l n m : Nat} (hm : ∀ k, m.testBit k = (l.testBit k && !n.testBit k)) (hn : tbS l n) : ∀ k, wN q r l n k = q ^ onN n k * r ^ onN m k
  | 0 => rfl
  | k + 1 => by
    rw [wN, onN, onN, wN_pow hm hn k, hm k]
    have := hn k
    cases a : n.testBit k
    · cases b : l.testBit k
      · rw [if_neg (by decide), if_neg (by decide), if_neg (by decide), Nat.mul_one]; rfl
      · show _ * r = q ^ onN n k * r ^ (onN m k + 1)
        rw [Nat.pow_succ, Nat.mul_assoc]
    · rw [this a]
      show _ * q = q ^ (onN n k + 1) * r ^ onN m k
      rw [Nat.pow_succ, Nat.mul_assoc, Nat.mul_comm (r ^ onN m k) q, ← Nat.mul_assoc]
theorem dN_pow {l : Nat} : ∀ k, dN l k = 12 ^ onN l k
  | 0 => rfl
  | k + 1 => by
    rw [dN, onN, dN_pow k]
    split
    · rw [Nat.pow_succ]
    · rw [Nat.mul_one]; rfl
theorem wN_lo {q r l n n' : Nat} : ∀ k, (∀ i, i < k → n.testBit i = n'.testBit i) → wN q r l n k = wN q r l n' k
  | 0, _ => rfl
  | k + 1, h => by rw [wN, wN, wN_lo k (fun i hi => h i (by omega)), h k (by omega)]
theorem brN_lo {g : Nat → Nat} {l n n' : Nat} : ∀ k, (∀ i, i < k → n.testBit i = n'.testBit i) → brN g l n k = brN g l n' k
  | 0, _ => rfl
  | k + 1, h => by rw [brN, brN, brN_lo k (fun i hi => h i (by omega)), h k (by omega)]
theorem qw_is {q r l : Nat} (hqr : q + r = 12) : ∀ N, qS l N (fun n => wN q r l n N) = dN l N
  | 0 => rfl
  | N + 1 => by
    rw [qS, dN]
    by_cases c : l.testBit N = true
    · rw [if_pos c, if_pos c, qS_eq N _ (fun n => r * wN q r l n N), qS_eq N (fun n => wN q r l (2 ^ N + n) (N + 1)) (fun n => q * wN q r l n N), qS_mul, qS_mul, qw_is hqr N, ← Nat.add_mul, Nat.add_comm r q, hqr, Nat.mul_comm]
      · intro n hn _
        show wN q r l (2 ^ N + n) (N + 1) = _
        rw [wN, c, if_pos rfl, tb_top hn, if_pos rfl, if_pos rfl, wN_lo N (n' := n) (fun i hi => by rw [tb_top hn, if_neg (by omega)]), Nat.mul_comm]
      · intro n hn _
        show wN q r l n (N + 1) = _
        rw [wN, c, if_pos rfl, tb_big hn (Nat.le_refl _), if_neg (by decide), Nat.mul_comm]
    · rw [if_neg c, if_neg c, Nat.mul_one, ← qw_is hqr N]
      refine qS_eq N _ _ (fun n hn _ => ?_)
      show wN q r l n (N + 1) = _
      rw [wN, if_neg c, Nat.mul_one]
theorem qe_is {g : Nat → Nat} {q r l : Nat} (hqr : q + r = 12) : ∀ N, 12 * qS l N (fun n => wN q r l n N * brN g l n N) = r * dN l N * brN g l 0 N
  | 0 => by show 12 * (1 * 0) = r * 1 * 0; omega
  | N + 1 => by
    have ih := qe_is (g := g) (l := l) hqr N
    by_cases c : l.testBit N = true
    · have e1 : qS l N (fun n => wN q r l n (N + 1) * brN g l n (N + 1)) = r * qS l N (fun n => wN q r l n N * brN g l n N) + r * g N * dN l N := by
        rw [← qw_is hqr N, ← qS_mul, ← qS_mul, ← qS_add]
        refine qS_eq N _ _ (fun n hn _ => ?_)
        show wN q r l n (N + 1) * brN g l n (N + 1) = r * (wN q r l n N * brN g l n N) + r * g N * wN q r l n N
        rw [wN, brN, c, if_pos rfl, tb_big hn (Nat.le_refl _), if_neg (by decide)]
        show wN q r l n N * r * (brN g l n N + g N) = _
        rw [Nat.mul_add, Nat.mul_comm (wN q r l n N) r, Nat.mul_assoc, Nat.mul_assoc, Nat.mul_assoc, Nat.mul_comm (wN q r l n N) (g N)]
      have e2 : qS l N (fun n => wN q r l (2 ^ N + n) (N + 1) * brN g l (2 ^ N + n) (N + 1)) = q * qS l N (fun n => wN q r l n N * brN g l n N) := by
        rw [← qS_mul]
        refine qS_eq N _ _ (fun n hn _ => ?_)
        have lo : ∀ i, i < N → (2 ^ N + n).testBit i = n.testBit i := fun i hi => by rw [tb_top hn, if_neg (by omega)]
        show wN q r l (2 ^ N + n) (N + 1) * brN g l (2 ^ N + n) (N + 1) = q * (wN q r l n N * brN g l n N)
        rw [wN, brN, c, if_pos rfl, tb_top hn, if_pos rfl, if_pos rfl, wN_lo N lo, brN_lo N lo]
        show wN q r l n N * q * (brN g l n N + 0) = _
        rw [Nat.add_zero, Nat.mul_comm (wN q r l n N) q, Nat.mul_assoc]
      rw [qS, if_pos c, e1, e2, dN, brN, if_pos c, c, Nat.zero_testBit]
      show 12 * (r * qS l N (fun n => wN q r l n N * brN g l n N) + r * g N * dN l N + q * qS l N (fun n => wN q r l n N * brN g l n N)) = r * (dN l N * 12) * (brN g l 0 N + g N)
      generalize qS l N (fun n => wN q r l n N * brN g l n N) = x at ih ⊢
      generalize dN l N = d at ih ⊢
      generalize brN g l 0 N = b at ih ⊢
      generalize g N = t
      have hq : q = 12 - r := by omega
      have e3 : r * x + q * x = 12 * x := by rw [← Nat.add_mul, show r + q = 12 by omega]
      have e4 : 12 * (r * x + r * t * d + q * x) = 12 * (12 * x) + 12 * (r * t * d) := by rw [← e3]; omega
      rw [e4, ih]
      have e5 : r * (d * 12) * (b + t) = 12 * (r * d * b) + 12 * (r * t * d) := by
        rw [Nat.mul_add]
        have a1 : r * (d * 12) * b = 12 * (r * d * b) := by
          rw [← Nat.mul_assoc r d 12, Nat.mul_comm (r * d) 12, Nat.mul_assoc]
        have a2 : r * (d * 12) * t = 12 * (r * t * d) := by
          rw [← Nat.mul_assoc r d 12, Nat.mul_comm (r * d) 12, Nat.mul_assoc, Nat.mul_assoc r d t, Nat.mul_comm d t, ← Nat.mul_assoc r t d]
        rw [a1, a2]
      rw [e5]
    · rw [qS, if_neg c, dN, brN, if_neg c, bF c, Nat.mul_one]
      show 12 * _ = r * dN l N * brN g l 0 N
      rw [← ih]
      congr 1
      refine qS_eq N _ _ (fun n hn _ => ?_)
      show wN q r l n (N + 1) * brN g l n (N + 1) = _
      rw [wN, brN, if_neg c, bF c, Nat.mul_one]
      rfl
/-- two fractions that are the same have the same lowest terms -/
theorem frac {a b c d : Nat} (hb : 0 < b) (hd : 0 < d) (h : a * d = c * b) : a / Nat.gcd a b = c / Nat.gcd c d ∧ b / Nat.gcd a b = d / Nat.gcd c d := by
  have g1 : 0 < Nat.gcd a b := Nat.gcd_pos_of_pos_right a hb
  have g2 : 0 < Nat.gcd c d := Nat.gcd_pos_of_pos_right c hd
  obtain ⟨x, hx⟩ := Nat.gcd_dvd_left a b
  obtain ⟨y, hy⟩ := Nat.gcd_dvd_right a b
  obtain ⟨z, hz⟩ := Nat.gcd_dvd_left c d
  obtain ⟨w, hw⟩ := Nat.gcd_dvd_right c d
  have p1 : Nat.Coprime (a / Nat.gcd a b) (b / Nat.gcd a b) := Nat.coprime_div_gcd_div_gcd g1
  have p2 : Nat.Coprime (c / Nat.gcd c d) (d / Nat.gcd c d) := Nat.coprime_div_gcd_div_gcd g2
  have ex : a / Nat.gcd a b = x := Nat.div_eq_of_eq_mul_right g1 hx
  have ey : b / Nat.gcd a b = y := Nat.div_eq_of_eq_mul_right g1 hy
  have ez : c / Nat.gcd c d = z := Nat.div_eq_of_eq_mul_right g2 hz
  have ew : d / Nat.gcd c d = w := Nat.div_eq_of_eq_mul_right g2 hw
  rw [ex, ey] at p1
  rw [ez, ew] at p2
  rw [ex, ey, ez, ew]
  generalize Nat.gcd a b = g at g1 hx hy
  generalize Nat.gcd c d = k at g2 hz hw
  rw [hx, hy, hz, hw] at h
  have e : x * w = z * y := by
    have e1 : (g * k) * (x * w) = (g * k) * (z * y) := by
      have l1 : g * x * (k * w) = (g * k) * (x * w) := by rw [Nat.mul_assoc, Nat.mul_left_comm x k w, ← Nat.mul_assoc]
      have l2 : k * z * (g * y) = (g * k) * (z * y) := by rw [Nat.mul_assoc, Nat.mul_left_comm z g y, ← Nat.mul_assoc, Nat.mul_comm k g]
      rw [← l1, ← l2]; exact h
    exact Nat.eq_of_mul_eq_mul_left (Nat.mul_pos g1 g2) e1
  have y0 : 0 < y := by
    rcases Nat.eq_zero_or_pos y with q | q
    · rw [q] at hy; omega
    · exact q
  have d1 : y ∣ w := Nat.Coprime.dvd_of_dvd_mul_left p1.symm ⟨z, by rw [e, Nat.mul_comm]⟩
  have d2 : w ∣ y := Nat.Coprime.dvd_of_dvd_mul_left p2.symm ⟨x, by rw [← e, Nat.mul_comm]⟩
  have eyw : y = w := Nat.dvd_antisymm d1 d2
  refine ⟨?_, eyw⟩
  rw [← eyw] at e
  exact Nat.eq_of_mul_eq_mul_right y0 e
