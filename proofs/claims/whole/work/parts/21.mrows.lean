/-! THE REFERENCE: small questions, rows, texts -/
theorem nI_aE {x y : Int32} {a b : Nat} (h1 : x = nI a) (h2 : y = nI b) : x + y = nI (a + b) := by rw [h1, h2, nI_add]
theorem nI_mE {x y : Int32} {a b : Nat} (h1 : x = nI a) (h2 : y = nI b) : x * y = nI (a * b) := by rw [h1, h2, pk_mul]
theorem nI_sE {x y : Int32} {a b : Nat} (h1 : x = nI a) (h2 : y = nI b) (h : b ≤ a) : x - y = nI (a - b) := by rw [h1, h2, pk_sub h]
def inF (v lo hi : Int64) : Bool := !decide (v < lo) && !decide (hi < v)
theorem in_gen {x : Int32} {m : Nat} (hm : m < 2 ^ 31) {h : Int64} (hh : h.toInt = (m : Int) - 1) : inF x.toInt64 0 h = idxF m x := by
  unfold inF idxF
  have e1 : (x.toInt64 < 0) ↔ (x < 0) := by
    rw [Int64.lt_iff_toInt_lt, Int32.lt_iff_toInt_lt, Int32.toInt_toInt64]
    rfl
  have e2 : (h < x.toInt64) ↔ (nI m ≤ x) := by
    rw [Int64.lt_iff_toInt_lt, Int32.le_iff_toInt_le, Int32.toInt_toInt64, hh, nI_toInt hm]
    omega
  simp only [e1, e2]
theorem in_sz {x : Int32} {m : Nat} (hm : m < 2 ^ 31) : inF x.toInt64 0 (nI m - 1).toInt64 = idxF m x := by
  refine in_gen hm ?_
  rw [Int32.toInt_toInt64]
  cases m with
  | zero => rfl
  | succ m => rw [nI_pred, nI_toInt (by omega)]; omega
theorem idx_in {j m : Nat} (hj : j < m) (hM : m < 2 ^ 31) : idxF m (nI j) = true := by
  unfold idxF
  have a : ¬ nI j < 0 := nI_pos (by omega)
  have b : ¬ nI m ≤ nI j := nI_ge hj hM
  simp [a, b]
theorem idx_nat {x : Int32} {m : Nat} (hM : m < 2 ^ 31) (h : idxF m x = true) : ∃ j : Nat, j < m ∧ x = nI j := by
  unfold idxF at h
  rw [Bool.and_eq_true, Bool.not_eq_true', Bool.not_eq_true', decide_eq_false_iff_not, decide_eq_false_iff_not] at h
  exact ix_of rfl hM h.1 h.2
def hsF (set k : Int32) : Bool := decide ((set >>> (k &&& 31)) &&& 1 = 1)
def onR (set : Int32) : Nat → Int32 | 0 => 0 | n + 1 => onR set n + ((set >>> (nI n &&& 31)) &&& 1)
def onF (set : Int32) : Int32 := onR set 8
def fndS (S : St) (f : Nat) : St := sA (sI S 58 5 (nI f)) 64 (upd (gA S 64) f (gA S 64 f + 1))
def nM (S : St) : Nat := (gA S 59 0).toNatClampNeg
def okM (S : St) : Prop := gA S 59 0 = nI (nM S) ∧ nM S ≤ 8
def movF (f : Nat → Int32) (a b m : Nat) : Nat → Int32 := fun i => if b ≤ i ∧ i < b + m then f (a + (i - b)) else f i
theorem movF_0 (f : Nat → Int32) (a b : Nat) : movF f a b 0 = f := by
  funext i
  simp only [movF]
  rw [if_neg (by omega)]
theorem movF_s (f : Nat → Int32) {a b m N : Nat} (hm : m < N) (hd : a + N ≤ b ∨ b + N ≤ a) : upd (movF f a b m) (b + m) (movF f a b m (a + m)) = movF f a b (m + 1) := by
  have e : movF f a b m (a + m) = f (a + m) := by
    unfold movF
    rw [if_neg (by omega)]
  rw [e]
  funext i
  unfold movF upd
  by_cases h : i = b + m
  · subst h
    rw [if_pos rfl, if_pos (by omega)]
    congr 1
    omega
  · rw [if_neg h]
    dsimp only
    by_cases h2 : b ≤ i ∧ i < b + m
    · rw [if_pos h2, if_pos (by omega)]
    · rw [if_neg h2, if_neg (by omega)]
/-- places k .. k + m - 1 are v -/
def fllF (f : Nat → Int32) (k : Nat) (v : Int32) (m : Nat) : Nat → Int32 := fun i => if k ≤ i ∧ i < k + m then v else f i
theorem fllF_0 (f : Nat → Int32) (k : Nat) (v : Int32) : fllF f k v 0 = f := by
  funext i
  simp only [fllF]
  rw [if_neg (by omega)]
theorem fllF_s (f : Nat → Int32) (k : Nat) (v : Int32) (m : Nat) : upd (fllF f k v m) (k + m) v = fllF f k v (m + 1) := by
  funext i
  unfold fllF upd
  by_cases h : i = k + m
  · subst h
    rw [if_pos rfl, if_pos (by omega)]
  · rw [if_neg h]
    dsimp only
    by_cases h2 : k ≤ i ∧ i < k + m
    · rw [if_pos h2, if_pos (by omega)]
    · rw [if_neg h2, if_neg (by omega)]
theorem mean0 {m : Nat} (h0 : 0 < m) (h : m ≤ 40) : ¬ lN m = 0 := by
  intro q
  have := congrArg Int64.toInt q
  rw [lN_toInt (by omega)] at this
  have h9 : (0 : Int64).toInt = 0 := rfl
  omega
set_option maxRecDepth 100000 in
set_option maxHeartbeats 4000000 in
theorem c_X9_in (E : En) (S : St) (v lo hi : Int64) : CTe E i_X9_in S [.long v, .long lo, .long hi] S (some (.int (bI (inF v lo hi)))) := by
  refine ct_of [(0, .long v), (2, .long lo), (4, .long hi)] (by decide +kernel) (Nat.le_of_ble_eq_true rfl) rfl (fun X hM => ?_)
  refine g_lload_n (pc := 0) dX9_in_0 0 rfl rfl ?_
  refine g_lload_n (pc := 1) dX9_in_1 1 rfl rfl ?_
  refine g_lcmp (pc := 2) dX9_in_2 ?_
  refine g_lc_lt (pc := 3) (tgt := 17) dX9_in_3 (by decide) (fun c_3 => ?_) (fun c_3 => ?_)
  · have k_3 := Int64.not_le.mpr c_3
    refine g_iconst (pc := 17) (v := 0) dX9_in_17 (by decide) ?_
    exact g_iret (pc := 18) hM rfl rfl ⟨rfl, some_int (by simp only [inF, bI, c_3, k_3, if_true, if_false, Bool.false_eq_true, Bool.not_true, Bool.not_false, Bool.and_true, Bool.true_and, Bool.and_false, Bool.false_and, Bool.or_true, Bool.true_or, Bool.or_false, Bool.false_or, decide_true, decide_false, Bool.and_self])⟩ dX9_in_18
  · have k_3 := Int64.not_lt.mp c_3
    refine g_lload_n (pc := 6) dX9_in_6 0 rfl rfl ?_
    refine g_lload (pc := 7) dX9_in_7 2 rfl ?_
    refine g_lcmp (pc := 9) dX9_in_9 ?_
    refine g_lc_gt (pc := 10) (tgt := 17) dX9_in_10 (by decide) (fun c_10 => ?_) (fun c_10 => ?_)
    · have k_10 := Int64.not_le.mpr c_10
      refine g_iconst (pc := 17) (v := 0) dX9_in_17 (by decide) ?_
      exact g_iret (pc := 18) hM rfl rfl ⟨rfl, some_int (by simp only [inF, bI, c_3, k_3, c_10, k_10, if_true, if_false, Bool.false_eq_true, Bool.not_true, Bool.not_false, Bool.and_true, Bool.true_and, Bool.and_false, Bool.false_and, Bool.or_true, Bool.true_or, Bool.or_false, Bool.false_or, decide_true, decide_false, Bool.and_self])⟩ dX9_in_18
    · have k_10 := Int64.not_lt.mp c_10
      refine g_iconst (pc := 13) (v := 1) dX9_in_13 (by decide) ?_
      refine g_goto (pc := 14) (tgt := 18) dX9_in_14 (by decide) ?_
      exact g_iret (pc := 18) hM rfl rfl ⟨rfl, some_int (by simp only [inF, bI, c_3, k_3, c_10, k_10, if_true, if_false, Bool.false_eq_true, Bool.not_true, Bool.not_false, Bool.and_true, Bool.true_and, Bool.and_false, Bool.false_and, Bool.or_true, Bool.true_or, Bool.or_false, Bool.false_or, decide_true, decide_false, Bool.and_self])⟩ dX9_in_18
set_option maxRecDepth 100000 in
set_option maxHeartbeats 4000000 in
theorem c_X9_has (E : En) (S : St) (s k : Int32) : CTe E i_X9_has S [.int s, .int k] S (some (.int (bI (hsF s k)))) := by
  refine ct_of [(0, .int s), (1, .int k)] (by decide +kernel) (Nat.le_of_ble_eq_true rfl) rfl (fun X hM => ?_)
  refine g_iload_n (pc := 0) dX9_has_0 0 rfl rfl ?_
  refine g_iload_n (pc := 1) dX9_has_1 1 rfl rfl ?_
  refine g_ishr (pc := 2) dX9_has_2 ?_
  refine g_iconst (pc := 3) (v := 1) dX9_has_3 (by decide) ?_
  refine g_iand (pc := 4) dX9_has_4 ?_
  refine g_iconst (pc := 5) (v := 1) dX9_has_5 (by decide) ?_
  refine g_icmp_ne (pc := 6) (tgt := 13) dX9_has_6 (by decide) (fun c_6 => ?_) (fun c_6 => ?_)
  · refine g_iconst (pc := 13) (v := 0) dX9_has_13 (by decide) ?_
    exact g_iret (pc := 14) hM rfl rfl ⟨rfl, some_int (by simp only [hsF, bI, c_6, if_true, if_false, Bool.false_eq_true, Bool.not_true, Bool.not_false, Bool.and_true, Bool.true_and, Bool.and_false, Bool.false_and, Bool.or_true, Bool.true_or, Bool.or_false, Bool.false_or, decide_true, decide_false, Bool.and_self])⟩ dX9_has_14
  · refine g_iconst (pc := 9) (v := 1) dX9_has_9 (by decide) ?_
    refine g_goto (pc := 10) (tgt := 14) dX9_has_10 (by decide) ?_
    exact g_iret (pc := 14) hM rfl rfl ⟨rfl, some_int (by simp only [hsF, bI, eq_true c_6, if_true, if_false, Bool.false_eq_true, Bool.not_true, Bool.not_false, Bool.and_true, Bool.true_and, Bool.and_false, Bool.false_and, Bool.or_true, Bool.true_or, Bool.or_false, Bool.false_or, decide_true, decide_false, Bool.and_self])⟩ dX9_has_14
set_option maxRecDepth 100000 in
set_option maxHeartbeats 4000000 in
theorem c_X9_ones (E : En) (S : St) (s : Int32) : CTe E i_X9_ones S [.int s] S (some (.int (onF s))) := by
  refine ct_of [(0, .int s)] (by decide +kernel) (Nat.le_of_ble_eq_true rfl) rfl (fun X hM => ?_)
  refine g_iconst (pc := 0) (v := 0) dX9_ones_0 (by decide) ?_
  refine g_istore_n (pc := 1) (L' := [(1, .int 0), (0, .int s)]) dX9_ones_1 rfl (Nat.le_of_ble_eq_true rfl) rfl ?_
  refine g_iconst (pc := 2) (v := 0) dX9_ones_2 (by decide) ?_
  refine g_istore_n (pc := 3) (L' := [(2, .int 0), (1, .int 0), (0, .int s)]) dX9_ones_3 rfl (Nat.le_of_ble_eq_true rfl) rfl ?_
  have H_4 : ∀ n : Nat, n ≤ 8 → G E X i_X9_ones S 4 [(0, .int s), (1, .int (onR s n)), (2, .int (nI n))] [] := by
    refine dn_ind 8 (fun n hn_4 ih_4 => ?_)
    refine g_iload_n (pc := 4) dX9_ones_4 2 rfl rfl ?_
    refine g_bipush (pc := 5) (v := 8) dX9_ones_5 (by decide) ?_
    refine g_icmp_ge (pc := 7) (tgt := 24) dX9_ones_7 (by decide) (fun c_7 => ?_) (fun c_7 => ?_)
    · have k_7 := Int32.not_lt.mpr c_7
      have he_4 : n = 8 := Nat.le_antisymm hn_4 (by exact nle_of (N := 8) rfl rfl (by omega) (by omega) c_7)
      rw [he_4]
      refine g_iload_n (pc := 24) dX9_ones_24 1 rfl rfl ?_
      exact g_iret (pc := 25) hM rfl rfl ⟨rfl, rfl⟩ dX9_ones_25
    · have k_7 := Int32.not_le.mp c_7
      have hlt_4 : n < 8 := by exact nlt_of (N := 8) rfl rfl (by omega) (by omega) c_7
      refine g_iload_n (pc := 10) dX9_ones_10 1 rfl rfl ?_
      refine g_iload_n (pc := 11) dX9_ones_11 0 rfl rfl ?_
      refine g_iload_n (pc := 12) dX9_ones_12 2 rfl rfl ?_
      refine g_ishr (pc := 13) dX9_ones_13 ?_
      refine g_iconst (pc := 14) (v := 1) dX9_ones_14 (by decide) ?_
      refine g_iand (pc := 15) dX9_ones_15 ?_
      refine g_iadd (pc := 16) dX9_ones_16 ?_
      refine g_istore_n (pc := 17) (L' := [(1, .int (onR s n + ((s >>> ((nI n) &&& 31)) &&& 1))), (0, .int s), (2, .int (nI n))]) dX9_ones_17 rfl (Nat.le_of_ble_eq_true rfl) rfl ?_
      refine g_iinc (pc := 18) (L' := [(2, .int (nI n + 1)), (1, .int (onR s n + ((s >>> ((nI n) &&& 31)) &&& 1))), (0, .int s)]) dX9_ones_18 (k := 2) rfl (v := nI n + 1) rfl (Nat.le_of_ble_eq_true rfl) rfl ?_
      refine g_goto (pc := 21) (tgt := 4) dX9_ones_21 (by decide) ?_
      refine g_sub (L' := [(0, .int s), (1, .int (onR s n + ((s >>> ((nI n) &&& 31)) &&& 1))), (2, .int (nI n + 1))]) [2, 1, 0] rfl ?_
      exact g_eq rfl (by rw [nI_1]; rfl) rfl (ih_4 hlt_4)
  refine g_sub (L' := [(0, .int s), (1, .int 0), (2, .int 0)]) [2, 1, 0] rfl ?_
  exact g_eq rfl rfl rfl (H_4 0 (Nat.zero_le _))
set_option maxRecDepth 100000 in
set_option maxHeartbeats 4000000 in
theorem c_X9_finds (E : En) (S : St) (f : Nat) (hf : f < 6) : CTe E i_X9_finds S [.ref (eA E 58), .int (nI f)] (fndS S f) (some (.int (-3))) := by
  refine ct_of [(0, .ref (eA E 58)), (1, .int (nI f))] (by decide +kernel) (Nat.le_of_ble_eq_true rfl) rfl (fun X hM => ?_)
  refine g_aload_n (pc := 0) dX9_finds_0 0 rfl rfl ?_
  refine g_iload_n (pc := 1) dX9_finds_1 1 rfl rfl ?_
  refine pf_X9_53 (pc := 2) rfl dX9_finds_2 ?_
  refine g_aload_n (pc := 5) dX9_finds_5 0 rfl rfl ?_
  refine gf_X9_25 (pc := 6) rfl dX9_finds_6 ?_
  refine g_iload_n (pc := 9) dX9_finds_9 1 rfl rfl ?_
  refine g_dup2 (pc := 10) dX9_finds_10 rfl rfl ?_
  refine g_iald (pc := 11) f rfl rfl (show f < 6 from hf) (by decide) dX9_finds_11 ?_
  refine g_iconst (pc := 12) (v := 1) dX9_finds_12 (by decide) ?_
  refine g_iadd (pc := 13) dX9_finds_13 ?_
  refine g_iast (pc := 14) f rfl rfl (show f < 6 from hf) (by decide) dX9_finds_14 ?_
  refine g_bipush (pc := 15) (v := -3) dX9_finds_15 (by decide) ?_
  exact g_iret (pc := 17) hM rfl rfl ⟨rfl, rfl⟩ dX9_finds_17
set_option maxRecDepth 100000 in
set_option maxHeartbeats 4000000 in
theorem c_X9_tells (E : En) (S : St) (v : Int32) : CTe E i_X9_tells S [.ref (eA E 58), .int v] (sI S 58 7 v) (some (.int 1)) := by
  refine ct_of [(0, .ref (eA E 58)), (1, .int v)] (by decide +kernel) (Nat.le_of_ble_eq_true rfl) rfl (fun X hM => ?_)
  refine g_aload_n (pc := 0) dX9_tells_0 0 rfl rfl ?_
  refine g_iload_n (pc := 1) dX9_tells_1 1 rfl rfl ?_
  refine pf_X9_57 (pc := 2) rfl dX9_tells_2 ?_
  refine g_iconst (pc := 5) (v := 1) dX9_tells_5 (by decide) ?_
  exact g_iret (pc := 6) hM rfl rfl ⟨rfl, rfl⟩ dX9_tells_6
set_option maxRecDepth 100000 in
set_option maxHeartbeats 4000000 in
theorem c_X9_bring (E : En) (S : St) (a b : Nat) (ha : a + 444 ≤ 1776) (hb : b + 444 ≤ 1776) (hd : a + 444 ≤ b ∨ b + 444 ≤ a) : CTe E i_X9_bring S [.ref (eA E 58), .int (nI a), .int (nI b)] (sA S 59 (movF (gA S 59) a b 444)) none := by
  refine ct_of [(0, .ref (eA E 58)), (1, .int (nI a)), (2, .int (nI b))] (by decide +kernel) (Nat.le_of_ble_eq_true rfl) rfl (fun X hM => ?_)
  refine g_iconst (pc := 0) (v := 0) dX9_bring_0 (by decide) ?_
  refine g_istore_n (pc := 1) (L' := [(3, .int 0), (0, .ref (eA E 58)), (1, .int (nI a)), (2, .int (nI b))]) dX9_bring_1 rfl (Nat.le_of_ble_eq_true rfl) rfl ?_
  have H_2 : ∀ n : Nat, n ≤ 444 → G E X i_X9_bring (sA S 59 (movF (gA S 59) a b n)) 2 [(0, .ref (eA E 58)), (1, .int (nI a)), (2, .int (nI b)), (3, .int (nI n))] [] := by
    refine dn_ind 444 (fun n hn_2 ih_2 => ?_)
    refine g_iload_n (pc := 2) dX9_bring_2 3 rfl rfl ?_
    refine g_sipush (pc := 3) (v := 444) dX9_bring_3 (by decide) ?_
    refine g_icmp_ge (pc := 6) (tgt := 31) dX9_bring_6 (by decide) (fun c_6 => ?_) (fun c_6 => ?_)
    · have k_6 := Int32.not_lt.mpr c_6
      have he_2 : n = 444 := Nat.le_antisymm hn_2 (by exact nle_of (N := 444) rfl rfl (by omega) (by omega) c_6)
      rw [he_2]
      exact g_vret (pc := 31) hM rfl ⟨rfl, rfl⟩ dX9_bring_31
    · have k_6 := Int32.not_le.mp c_6
      have hlt_2 : n < 444 := by exact nlt_of (N := 444) rfl rfl (by omega) (by omega) c_6
      refine g_aload_n (pc := 9) dX9_bring_9 0 rfl rfl ?_
      refine gf_X9_7 (pc := 10) rfl dX9_bring_10 ?_
      refine g_iload_n (pc := 13) dX9_bring_13 2 rfl rfl ?_
      refine g_iload_n (pc := 14) dX9_bring_14 3 rfl rfl ?_
      refine g_iadd (pc := 15) dX9_bring_15 ?_
      refine g_aload_n (pc := 16) dX9_bring_16 0 rfl rfl ?_
      refine gf_X9_7 (pc := 17) rfl dX9_bring_17 ?_
      refine g_iload_n (pc := 20) dX9_bring_20 1 rfl rfl ?_
      refine g_iload_n (pc := 21) dX9_bring_21 3 rfl rfl ?_
      refine g_iadd (pc := 22) dX9_bring_22 ?_
      refine g_iald (pc := 23) (a + n) (nI_aE rfl rfl) rfl (show a + n < 1776 by omega) (by decide) dX9_bring_23 ?_
      refine g_iast (pc := 24) (b + n) (nI_aE rfl rfl) rfl (show b + n < 1776 by omega) (by decide) dX9_bring_24 ?_
      refine g_iinc (pc := 25) (L' := [(3, .int (nI n + 1)), (0, .ref (eA E 58)), (1, .int (nI a)), (2, .int (nI b))]) dX9_bring_25 (k := 3) rfl (v := nI n + 1) rfl (Nat.le_of_ble_eq_true rfl) rfl ?_
      refine g_goto (pc := 28) (tgt := 2) dX9_bring_28 (by decide) ?_
      refine g_sub (L' := [(0, .ref (eA E 58)), (1, .int (nI a)), (2, .int (nI b)), (3, .int (nI n + 1))]) [1, 2, 3, 0] rfl ?_
      exact g_eq (by rw [sA_sA, gA_same, movF_s _ hlt_2 hd]) (by simp only [nI_1]) rfl (ih_2 hlt_2)
  refine g_sub (L' := [(0, .ref (eA E 58)), (1, .int (nI a)), (2, .int (nI b)), (3, .int 0)]) [1, 2, 3, 0] rfl ?_
  exact g_eq (by rw [movF_0, sA_self]) rfl rfl (H_2 0 (Nat.zero_le _))
set_option maxRecDepth 100000 in
set_option maxHeartbeats 4000000 in
theorem c_X9_isRow (E : En) (S : St) (r : Int32) : CTe E i_X9_isRow S [.int r] S (some (.int (bI (idxF 6 r)))) := by
  refine ct_of [(0, .int r)] (by decide +kernel) (Nat.le_of_ble_eq_true rfl) rfl (fun X hM => ?_)
  refine g_iload_n (pc := 0) dX9_isRow_0 0 rfl rfl ?_
  refine g_i2l (pc := 1) dX9_isRow_1 ?_
  refine g_lconst (pc := 2) (v := 0) dX9_isRow_2 (by decide) ?_
  refine g_ldc2 (pc := 3) kw_X9_60 dX9_isRow_3 ?_
  refine g_invS (pc := 6) j_X9_in mw_X9_62 dX9_isRow_6 (by rfl) (c_X9_in E S r.toInt64 0 5 ) (Nat.le_of_ble_eq_true rfl) (Nat.le_of_ble_eq_true rfl) (by rfl) (Nat.le_of_ble_eq_true rfl) ?_
  exact g_iret (pc := 9) hM rfl (nar_b _) ⟨rfl, some_int (congrArg bI (in_gen (m := 6) (by omega) (by decide)))⟩ dX9_isRow_9
set_option maxRecDepth 100000 in
set_option maxHeartbeats 4000000 in
theorem c_X9_isText (E : En) (S : St) (r : Int32) : CTe E i_X9_isText S [.int r] S (some (.int (bI (idxF 4 r)))) := by
  refine ct_of [(0, .int r)] (by decide +kernel) (Nat.le_of_ble_eq_true rfl) rfl (fun X hM => ?_)
  refine g_iload_n (pc := 0) dX9_isText_0 0 rfl rfl ?_
  refine g_i2l (pc := 1) dX9_isText_1 ?_
  refine g_lconst (pc := 2) (v := 0) dX9_isText_2 (by decide) ?_
  refine g_ldc2 (pc := 3) kw_X9_66 dX9_isText_3 ?_
  refine g_invS (pc := 6) j_X9_in mw_X9_62 dX9_isText_6 (by rfl) (c_X9_in E S r.toInt64 0 3 ) (Nat.le_of_ble_eq_true rfl) (Nat.le_of_ble_eq_true rfl) (by rfl) (Nat.le_of_ble_eq_true rfl) ?_
  exact g_iret (pc := 9) hM rfl (nar_b _) ⟨rfl, some_int (congrArg bI (in_gen (m := 4) (by omega) (by decide)))⟩ dX9_isText_9
set_option maxRecDepth 100000 in
set_option maxHeartbeats 4000000 in
theorem c_X9_isPlace (E : En) (S : St) (r : Int32) : CTe E i_X9_isPlace S [.int r] S (some (.int (bI (placeF r)))) := by
  refine ct_of [(0, .int r)] (by decide +kernel) (Nat.le_of_ble_eq_true rfl) rfl (fun X hM => ?_)
  refine g_iload_n (pc := 0) dX9_isPlace_0 0 rfl rfl ?_
  refine g_i2l (pc := 1) dX9_isPlace_1 ?_
  refine g_lconst (pc := 2) (v := 0) dX9_isPlace_2 (by decide) ?_
  refine g_ldc2 (pc := 3) kw_X9_68 dX9_isPlace_3 ?_
  refine g_invS (pc := 6) j_X9_in mw_X9_62 dX9_isPlace_6 (by rfl) (c_X9_in E S r.toInt64 0 9 ) (Nat.le_of_ble_eq_true rfl) (Nat.le_of_ble_eq_true rfl) (by rfl) (Nat.le_of_ble_eq_true rfl) ?_
  exact g_iret (pc := 9) hM rfl (nar_b _) ⟨rfl, some_int (congrArg bI (in_gen (m := 10) (by omega) (by decide)))⟩ dX9_isPlace_9
set_option maxRecDepth 100000 in
set_option maxHeartbeats 4000000 in
theorem c_X9_isLight (E : En) (S : St) (k : Int32) (hz : okM S) : CTe E i_X9_isLight S [.ref (eA E 58), .int k] S (some (.int (bI (idxF (nM S) k)))) := by
  refine ct_of [(0, .ref (eA E 58)), (1, .int k)] (by decide +kernel) (Nat.le_of_ble_eq_true rfl) rfl (fun X hM => ?_)
  refine g_iload_n (pc := 0) dX9_isLight_0 1 rfl rfl ?_
  refine g_i2l (pc := 1) dX9_isLight_1 ?_
  refine g_lconst (pc := 2) (v := 0) dX9_isLight_2 (by decide) ?_
  refine g_aload_n (pc := 3) dX9_isLight_3 0 rfl rfl ?_
  refine gf_X9_7 (pc := 4) rfl dX9_isLight_4 ?_
  refine g_iconst (pc := 7) (v := 0) dX9_isLight_7 (by decide) ?_
  refine g_iald (pc := 8) 0 rfl rfl (by decide) (by decide) dX9_isLight_8 ?_
  refine g_iconst (pc := 9) (v := 1) dX9_isLight_9 (by decide) ?_
  refine g_isub (pc := 10) dX9_isLight_10 ?_
  refine g_i2l (pc := 11) dX9_isLight_11 ?_
  refine g_invS (pc := 12) j_X9_in mw_X9_62 dX9_isLight_12 (by rfl) (c_X9_in E S k.toInt64 0 ((gA S 59 0 - 1).toInt64) ) (Nat.le_of_ble_eq_true rfl) (Nat.le_of_ble_eq_true rfl) (by rfl) (Nat.le_of_ble_eq_true rfl) ?_
  exact g_iret (pc := 15) hM rfl (nar_b _) ⟨rfl, some_int (by rw [hz.1, in_sz (by have := hz.2; omega)])⟩ dX9_isLight_15
set_option maxRecDepth 100000 in
set_option maxHeartbeats 4000000 in
theorem c_X9_row_bad (E : En) (S : St) (r x : Int32) (hr : idxF 6 r = false) : CTe E i_X9_row S [.ref (eA E 58), .int r, .int x] S (some (.int (-1))) := by
  refine ct_of [(0, .ref (eA E 58)), (1, .int r), (2, .int x)] (by decide +kernel) (Nat.le_of_ble_eq_true rfl) rfl (fun X hM => ?_)
  refine g_iload_n (pc := 0) dX9_row_0 1 rfl rfl ?_
  refine g_invS (pc := 1) j_X9_isRow mw_X9_70 dX9_row_1 (by rfl) (c_X9_isRow E S r ) (Nat.le_of_ble_eq_true rfl) (Nat.le_of_ble_eq_true rfl) (by rfl) (Nat.le_of_ble_eq_true rfl) ?_
  refine g_b_eq (pc := 4) (tgt := 13) dX9_row_4 (by decide) (fun c_4 => ?_) (fun c_4 => ?_)
  · refine g_iconst (pc := 13) (v := -1) dX9_row_13 (by decide) ?_
    exact g_iret (pc := 14) hM rfl rfl ⟨rfl, rfl⟩ dX9_row_14
  · exact absurd (hr.symm.trans c_4) (by decide)
set_option maxRecDepth 100000 in
set_option maxHeartbeats 4000000 in
theorem c_X9_row_big (E : En) (S : St) (n : Nat) (x : Int32) (hn : n < 6) (h : nI 40 < x) : CTe E i_X9_row S [.ref (eA E 58), .int (nI n), .int x] S (some (.int (-1))) := by
  have hi := idx_in hn (show 6 < 2 ^ 31 by omega)
  refine ct_of [(0, .ref (eA E 58)), (1, .int (nI n)), (2, .int x)] (by decide +kernel) (Nat.le_of_ble_eq_true rfl) rfl (fun X hM => ?_)
  refine g_iload_n (pc := 0) dX9_row_0 1 rfl rfl ?_
  refine g_invS (pc := 1) j_X9_isRow mw_X9_70 dX9_row_1 (by rfl) (c_X9_isRow E S (nI n) ) (Nat.le_of_ble_eq_true rfl) (Nat.le_of_ble_eq_true rfl) (by rfl) (Nat.le_of_ble_eq_true rfl) ?_
  refine g_b_eq (pc := 4) (tgt := 13) dX9_row_4 (by decide) (fun c_4 => ?_) (fun c_4 => ?_)
  · exact absurd (hi.symm.trans c_4) (by decide)
  · refine g_iload_n (pc := 7) dX9_row_7 2 rfl rfl ?_
    refine g_bipush (pc := 8) (v := 40) dX9_row_8 (by decide) ?_
    refine g_icmp_le (pc := 10) (tgt := 15) dX9_row_10 (by decide) (fun c_10 => ?_) (fun c_10 => ?_)
    · have k_10 := Int32.not_lt.mpr c_10
      exact absurd h (Int32.not_lt.mpr c_10)
    · have k_10 := Int32.not_le.mp c_10
      refine g_iconst (pc := 13) (v := -1) dX9_row_13 (by decide) ?_
      exact g_iret (pc := 14) hM rfl rfl ⟨rfl, rfl⟩ dX9_row_14
set_option maxRecDepth 100000 in
set_option maxHeartbeats 4000000 in
theorem c_X9_row_neg (E : En) (S : St) (n : Nat) (x : Int32) (hn : n < 6) (h : x < 0) : CTe E i_X9_row S [.ref (eA E 58), .int (nI n), .int x] (fndS S 5) (some (.int (-3))) := by
  have hi := idx_in hn (show 6 < 2 ^ 31 by omega)
  refine ct_of [(0, .ref (eA E 58)), (1, .int (nI n)), (2, .int x)] (by decide +kernel) (Nat.le_of_ble_eq_true rfl) rfl (fun X hM => ?_)
  refine g_iload_n (pc := 0) dX9_row_0 1 rfl rfl ?_
  refine g_invS (pc := 1) j_X9_isRow mw_X9_70 dX9_row_1 (by rfl) (c_X9_isRow E S (nI n) ) (Nat.le_of_ble_eq_true rfl) (Nat.le_of_ble_eq_true rfl) (by rfl) (Nat.le_of_ble_eq_true rfl) ?_
  refine g_b_eq (pc := 4) (tgt := 13) dX9_row_4 (by decide) (fun c_4 => ?_) (fun c_4 => ?_)
  · exact absurd (hi.symm.trans c_4) (by decide)
  · refine g_iload_n (pc := 7) dX9_row_7 2 rfl rfl ?_
    refine g_bipush (pc := 8) (v := 40) dX9_row_8 (by decide) ?_
    refine g_icmp_le (pc := 10) (tgt := 15) dX9_row_10 (by decide) (fun c_10 => ?_) (fun c_10 => ?_)
    · have k_10 := Int32.not_lt.mpr c_10
      refine g_iload_n (pc := 15) dX9_row_15 2 rfl rfl ?_
      refine g_if_ge (pc := 16) (tgt := 25) dX9_row_16 (by decide) (fun c_16 => ?_) (fun c_16 => ?_)
      · have k_16 := Int32.not_lt.mpr c_16
        exact absurd h (Int32.not_lt.mpr c_16)
      · have k_16 := Int32.not_le.mp c_16
        refine g_aload_n (pc := 19) dX9_row_19 0 rfl rfl ?_
        refine g_iconst (pc := 20) (v := 5) dX9_row_20 (by decide) ?_
        refine g_invV (pc := 21) j_X9_finds mw_X9_74 dX9_row_21 (rcv_X9) (by rfl) (c_X9_finds E S 5 (by first | assumption | omega | rfl)) (Nat.le_of_ble_eq_true rfl) (Nat.le_of_ble_eq_true rfl) (by rfl) (Nat.le_of_ble_eq_true rfl) ?_
        exact g_iret (pc := 24) hM rfl rfl ⟨rfl, rfl⟩ dX9_row_24
    · have k_10 := Int32.not_le.mp c_10
      exact absurd (Int32.le_of_lt (Int32.lt_of_lt_of_le h (by decide))) c_10
set_option maxRecDepth 100000 in
set_option maxHeartbeats 4000000 in
theorem c_X9_row_ok (E : En) (S : St) (n m : Nat) (hn : n < 6) (hm : m ≤ 40) : CTe E i_X9_row S [.ref (eA E 58), .int (nI n), .int (nI m)] (sA (sA S 60 (upd (gA S 60) n (nI m))) 61 (fllF (gA S 61) (40 * n) 0 40)) (some (.int (nI m))) := by
  have hi := idx_in hn (show 6 < 2 ^ 31 by omega)
  refine ct_of [(0, .ref (eA E 58)), (1, .int (nI n)), (2, .int (nI m))] (by decide +kernel) (Nat.le_of_ble_eq_true rfl) rfl (fun X hM => ?_)
  refine g_iload_n (pc := 0) dX9_row_0 1 rfl rfl ?_
  refine g_invS (pc := 1) j_X9_isRow mw_X9_70 dX9_row_1 (by rfl) (c_X9_isRow E S (nI n) ) (Nat.le_of_ble_eq_true rfl) (Nat.le_of_ble_eq_true rfl) (by rfl) (Nat.le_of_ble_eq_true rfl) ?_
  refine g_b_eq (pc := 4) (tgt := 13) dX9_row_4 (by decide) (fun c_4 => ?_) (fun c_4 => ?_)
  · exact absurd (hi.symm.trans c_4) (by decide)
  · refine g_iload_n (pc := 7) dX9_row_7 2 rfl rfl ?_
    refine g_bipush (pc := 8) (v := 40) dX9_row_8 (by decide) ?_
    refine g_icmp_le (pc := 10) (tgt := 15) dX9_row_10 (by decide) (fun c_10 => ?_) (fun c_10 => ?_)
    · have k_10 := Int32.not_lt.mpr c_10
      refine g_iload_n (pc := 15) dX9_row_15 2 rfl rfl ?_
      refine g_if_ge (pc := 16) (tgt := 25) dX9_row_16 (by decide) (fun c_16 => ?_) (fun c_16 => ?_)
      · have k_16 := Int32.not_lt.mpr c_16
        refine g_aload_n (pc := 25) dX9_row_25 0 rfl rfl ?_
        refine gf_X9_13 (pc := 26) rfl dX9_row_26 ?_
        refine g_iload_n (pc := 29) dX9_row_29 1 rfl rfl ?_
        refine g_iload_n (pc := 30) dX9_row_30 2 rfl rfl ?_
        refine g_iast (pc := 31) n rfl rfl (show n < 6 from hn) (by decide) dX9_row_31 ?_
        refine g_iconst (pc := 32) (v := 0) dX9_row_32 (by decide) ?_
        refine g_istore_n (pc := 33) (L' := [(3, .int 0), (0, .ref (eA E 58)), (1, .int (nI n)), (2, .int (nI m))]) dX9_row_33 rfl (Nat.le_of_ble_eq_true rfl) rfl ?_
        have H_34 : ∀ j : Nat, j ≤ 40 → G E X i_X9_row (sA (sA S 60 (upd (gA S 60) n (nI m))) 61 (fllF (gA S 61) (40 * n) 0 j)) 34 [(0, .ref (eA E 58)), (1, .int (nI n)), (2, .int (nI m)), (3, .int (nI j))] [] := by
          refine dn_ind 40 (fun j hn_34 ih_34 => ?_)
          refine g_iload_n (pc := 34) dX9_row_34 3 rfl rfl ?_
          refine g_bipush (pc := 35) (v := 40) dX9_row_35 (by decide) ?_
          refine g_icmp_ge (pc := 37) (tgt := 58) dX9_row_37 (by decide) (fun c_37 => ?_) (fun c_37 => ?_)
          · have k_37 := Int32.not_lt.mpr c_37
            have he_34 : j = 40 := Nat.le_antisymm hn_34 (by exact nle_of (N := 40) rfl rfl (by omega) (by omega) c_37)
            rw [he_34]
            refine g_iload_n (pc := 58) dX9_row_58 2 rfl rfl ?_
            exact g_iret (pc := 59) hM rfl rfl ⟨rfl, rfl⟩ dX9_row_59
          · have k_37 := Int32.not_le.mp c_37
            have hlt_34 : j < 40 := by exact nlt_of (N := 40) rfl rfl (by omega) (by omega) c_37
            refine g_aload_n (pc := 40) dX9_row_40 0 rfl rfl ?_
            refine gf_X9_16 (pc := 41) rfl dX9_row_41 ?_
            refine g_bipush (pc := 44) (v := 40) dX9_row_44 (by decide) ?_
            refine g_iload_n (pc := 46) dX9_row_46 1 rfl rfl ?_
            refine g_imul (pc := 47) dX9_row_47 ?_
            refine g_iload_n (pc := 48) dX9_row_48 3 rfl rfl ?_
            refine g_iadd (pc := 49) dX9_row_49 ?_
            refine g_iconst (pc := 50) (v := 0) dX9_row_50 (by decide) ?_
            refine g_iast (pc := 51) ((40 * n) + j) (nI_aE (nI_mE rfl rfl) rfl) rfl (show (40 * n) + j < 240 by omega) (by decide) dX9_row_51 ?_
            refine g_iinc (pc := 52) (L' := [(3, .int (nI j + 1)), (0, .ref (eA E 58)), (1, .int (nI n)), (2, .int (nI m))]) dX9_row_52 (k := 3) rfl (v := nI j + 1) rfl (Nat.le_of_ble_eq_true rfl) rfl ?_
            refine g_goto (pc := 55) (tgt := 34) dX9_row_55 (by decide) ?_
            refine g_sub (L' := [(0, .ref (eA E 58)), (1, .int (nI n)), (2, .int (nI m)), (3, .int (nI j + 1))]) [1, 2, 3, 0] rfl ?_
            exact g_eq (by rw [sA_sA, gA_same, fllF_s]) (by simp only [nI_1]) rfl (ih_34 hlt_34)
        refine g_sub (L' := [(0, .ref (eA E 58)), (1, .int (nI n)), (2, .int (nI m)), (3, .int 0)]) [1, 2, 3, 0] rfl ?_
        exact g_eq (by rw [fllF_0]; exact (sA_self (sA S 60 (upd (gA S 60) n (nI m))) 61).symm) rfl rfl (H_34 0 (Nat.zero_le _))
      · have k_16 := Int32.not_le.mp c_16
        exact absurd (nI_pos' (by omega)) c_16
    · have k_10 := Int32.not_le.mp c_10
      exact absurd (nI_le (b := 40) hm (by omega)) c_10
set_option maxRecDepth 100000 in
set_option maxHeartbeats 4000000 in
theorem c_X9_text_bad (E : En) (S : St) (r x : Int32) (hr : idxF 4 r = false) : CTe E i_X9_text S [.ref (eA E 58), .int r, .int x] S (some (.int (-1))) := by
  refine ct_of [(0, .ref (eA E 58)), (1, .int r), (2, .int x)] (by decide +kernel) (Nat.le_of_ble_eq_true rfl) rfl (fun X hM => ?_)
  refine g_iload_n (pc := 0) dX9_text_0 1 rfl rfl ?_
  refine g_invS (pc := 1) j_X9_isText mw_X9_80 dX9_text_1 (by rfl) (c_X9_isText E S r ) (Nat.le_of_ble_eq_true rfl) (Nat.le_of_ble_eq_true rfl) (by rfl) (Nat.le_of_ble_eq_true rfl) ?_
  refine g_b_eq (pc := 4) (tgt := 13) dX9_text_4 (by decide) (fun c_4 => ?_) (fun c_4 => ?_)
  · refine g_iconst (pc := 13) (v := -1) dX9_text_13 (by decide) ?_
    exact g_iret (pc := 14) hM rfl rfl ⟨rfl, rfl⟩ dX9_text_14
  · exact absurd (hr.symm.trans c_4) (by decide)
set_option maxRecDepth 100000 in
set_option maxHeartbeats 4000000 in
theorem c_X9_text_big (E : En) (S : St) (n : Nat) (x : Int32) (hn : n < 4) (h : nI 60 < x) : CTe E i_X9_text S [.ref (eA E 58), .int (nI n), .int x] S (some (.int (-1))) := by
  have hi := idx_in hn (show 4 < 2 ^ 31 by omega)
  refine ct_of [(0, .ref (eA E 58)), (1, .int (nI n)), (2, .int x)] (by decide +kernel) (Nat.le_of_ble_eq_true rfl) rfl (fun X hM => ?_)
  refine g_iload_n (pc := 0) dX9_text_0 1 rfl rfl ?_
  refine g_invS (pc := 1) j_X9_isText mw_X9_80 dX9_text_1 (by rfl) (c_X9_isText E S (nI n) ) (Nat.le_of_ble_eq_true rfl) (Nat.le_of_ble_eq_true rfl) (by rfl) (Nat.le_of_ble_eq_true rfl) ?_
  refine g_b_eq (pc := 4) (tgt := 13) dX9_text_4 (by decide) (fun c_4 => ?_) (fun c_4 => ?_)
  · exact absurd (hi.symm.trans c_4) (by decide)
  · refine g_iload_n (pc := 7) dX9_text_7 2 rfl rfl ?_
    refine g_bipush (pc := 8) (v := 60) dX9_text_8 (by decide) ?_
    refine g_icmp_le (pc := 10) (tgt := 15) dX9_text_10 (by decide) (fun c_10 => ?_) (fun c_10 => ?_)
    · have k_10 := Int32.not_lt.mpr c_10
      exact absurd h (Int32.not_lt.mpr c_10)
    · have k_10 := Int32.not_le.mp c_10
      refine g_iconst (pc := 13) (v := -1) dX9_text_13 (by decide) ?_
      exact g_iret (pc := 14) hM rfl rfl ⟨rfl, rfl⟩ dX9_text_14
set_option maxRecDepth 100000 in
set_option maxHeartbeats 4000000 in
theorem c_X9_text_neg (E : En) (S : St) (n : Nat) (x : Int32) (hn : n < 4) (h : x < 0) : CTe E i_X9_text S [.ref (eA E 58), .int (nI n), .int x] (fndS S 5) (some (.int (-3))) := by
  have hi := idx_in hn (show 4 < 2 ^ 31 by omega)
  refine ct_of [(0, .ref (eA E 58)), (1, .int (nI n)), (2, .int x)] (by decide +kernel) (Nat.le_of_ble_eq_true rfl) rfl (fun X hM => ?_)
  refine g_iload_n (pc := 0) dX9_text_0 1 rfl rfl ?_
  refine g_invS (pc := 1) j_X9_isText mw_X9_80 dX9_text_1 (by rfl) (c_X9_isText E S (nI n) ) (Nat.le_of_ble_eq_true rfl) (Nat.le_of_ble_eq_true rfl) (by rfl) (Nat.le_of_ble_eq_true rfl) ?_
  refine g_b_eq (pc := 4) (tgt := 13) dX9_text_4 (by decide) (fun c_4 => ?_) (fun c_4 => ?_)
  · exact absurd (hi.symm.trans c_4) (by decide)
  · refine g_iload_n (pc := 7) dX9_text_7 2 rfl rfl ?_
    refine g_bipush (pc := 8) (v := 60) dX9_text_8 (by decide) ?_
    refine g_icmp_le (pc := 10) (tgt := 15) dX9_text_10 (by decide) (fun c_10 => ?_) (fun c_10 => ?_)
    · have k_10 := Int32.not_lt.mpr c_10
      refine g_iload_n (pc := 15) dX9_text_15 2 rfl rfl ?_
      refine g_if_ge (pc := 16) (tgt := 25) dX9_text_16 (by decide) (fun c_16 => ?_) (fun c_16 => ?_)
      · have k_16 := Int32.not_lt.mpr c_16
        exact absurd h (Int32.not_lt.mpr c_16)
      · have k_16 := Int32.not_le.mp c_16
        refine g_aload_n (pc := 19) dX9_text_19 0 rfl rfl ?_
        refine g_iconst (pc := 20) (v := 5) dX9_text_20 (by decide) ?_
        refine g_invV (pc := 21) j_X9_finds mw_X9_74 dX9_text_21 (rcv_X9) (by rfl) (c_X9_finds E S 5 (by first | assumption | omega | rfl)) (Nat.le_of_ble_eq_true rfl) (Nat.le_of_ble_eq_true rfl) (by rfl) (Nat.le_of_ble_eq_true rfl) ?_
        exact g_iret (pc := 24) hM rfl rfl ⟨rfl, rfl⟩ dX9_text_24
    · have k_10 := Int32.not_le.mp c_10
      exact absurd (Int32.le_of_lt (Int32.lt_of_lt_of_le h (by decide))) c_10
set_option maxRecDepth 100000 in
set_option maxHeartbeats 4000000 in
theorem c_X9_text_ok (E : En) (S : St) (n m : Nat) (hn : n < 4) (hm : m ≤ 60) : CTe E i_X9_text S [.ref (eA E 58), .int (nI n), .int (nI m)] (sA (sA S 62 (upd (gA S 62) n (nI m))) 63 (fllF (gA S 63) (60 * n) 32 60)) (some (.int (nI m))) := by
  have hi := idx_in hn (show 4 < 2 ^ 31 by omega)
  refine ct_of [(0, .ref (eA E 58)), (1, .int (nI n)), (2, .int (nI m))] (by decide +kernel) (Nat.le_of_ble_eq_true rfl) rfl (fun X hM => ?_)
  refine g_iload_n (pc := 0) dX9_text_0 1 rfl rfl ?_
  refine g_invS (pc := 1) j_X9_isText mw_X9_80 dX9_text_1 (by rfl) (c_X9_isText E S (nI n) ) (Nat.le_of_ble_eq_true rfl) (Nat.le_of_ble_eq_true rfl) (by rfl) (Nat.le_of_ble_eq_true rfl) ?_
  refine g_b_eq (pc := 4) (tgt := 13) dX9_text_4 (by decide) (fun c_4 => ?_) (fun c_4 => ?_)
  · exact absurd (hi.symm.trans c_4) (by decide)
  · refine g_iload_n (pc := 7) dX9_text_7 2 rfl rfl ?_
    refine g_bipush (pc := 8) (v := 60) dX9_text_8 (by decide) ?_
    refine g_icmp_le (pc := 10) (tgt := 15) dX9_text_10 (by decide) (fun c_10 => ?_) (fun c_10 => ?_)
    · have k_10 := Int32.not_lt.mpr c_10
      refine g_iload_n (pc := 15) dX9_text_15 2 rfl rfl ?_
      refine g_if_ge (pc := 16) (tgt := 25) dX9_text_16 (by decide) (fun c_16 => ?_) (fun c_16 => ?_)
      · have k_16 := Int32.not_lt.mpr c_16
        refine g_aload_n (pc := 25) dX9_text_25 0 rfl rfl ?_
        refine gf_X9_19 (pc := 26) rfl dX9_text_26 ?_
        refine g_iload_n (pc := 29) dX9_text_29 1 rfl rfl ?_
        refine g_iload_n (pc := 30) dX9_text_30 2 rfl rfl ?_
        refine g_iast (pc := 31) n rfl rfl (show n < 4 from hn) (by decide) dX9_text_31 ?_
        refine g_iconst (pc := 32) (v := 0) dX9_text_32 (by decide) ?_
        refine g_istore_n (pc := 33) (L' := [(3, .int 0), (0, .ref (eA E 58)), (1, .int (nI n)), (2, .int (nI m))]) dX9_text_33 rfl (Nat.le_of_ble_eq_true rfl) rfl ?_
        have H_34 : ∀ j : Nat, j ≤ 60 → G E X i_X9_text (sA (sA S 62 (upd (gA S 62) n (nI m))) 63 (fllF (gA S 63) (60 * n) 32 j)) 34 [(0, .ref (eA E 58)), (1, .int (nI n)), (2, .int (nI m)), (3, .int (nI j))] [] := by
          refine dn_ind 60 (fun j hn_34 ih_34 => ?_)
          refine g_iload_n (pc := 34) dX9_text_34 3 rfl rfl ?_
          refine g_bipush (pc := 35) (v := 60) dX9_text_35 (by decide) ?_
          refine g_icmp_ge (pc := 37) (tgt := 59) dX9_text_37 (by decide) (fun c_37 => ?_) (fun c_37 => ?_)
          · have k_37 := Int32.not_lt.mpr c_37
            have he_34 : j = 60 := Nat.le_antisymm hn_34 (by exact nle_of (N := 60) rfl rfl (by omega) (by omega) c_37)
            rw [he_34]
            refine g_iload_n (pc := 59) dX9_text_59 2 rfl rfl ?_
            exact g_iret (pc := 60) hM rfl rfl ⟨rfl, rfl⟩ dX9_text_60
          · have k_37 := Int32.not_le.mp c_37
            have hlt_34 : j < 60 := by exact nlt_of (N := 60) rfl rfl (by omega) (by omega) c_37
            refine g_aload_n (pc := 40) dX9_text_40 0 rfl rfl ?_
            refine gf_X9_22 (pc := 41) rfl dX9_text_41 ?_
            refine g_bipush (pc := 44) (v := 60) dX9_text_44 (by decide) ?_
            refine g_iload_n (pc := 46) dX9_text_46 1 rfl rfl ?_
            refine g_imul (pc := 47) dX9_text_47 ?_
            refine g_iload_n (pc := 48) dX9_text_48 3 rfl rfl ?_
            refine g_iadd (pc := 49) dX9_text_49 ?_
            refine g_bipush (pc := 50) (v := 32) dX9_text_50 (by decide) ?_
            refine g_iast (pc := 52) ((60 * n) + j) (nI_aE (nI_mE rfl rfl) rfl) rfl (show (60 * n) + j < 240 by omega) (by decide) dX9_text_52 ?_
            refine g_iinc (pc := 53) (L' := [(3, .int (nI j + 1)), (0, .ref (eA E 58)), (1, .int (nI n)), (2, .int (nI m))]) dX9_text_53 (k := 3) rfl (v := nI j + 1) rfl (Nat.le_of_ble_eq_true rfl) rfl ?_
            refine g_goto (pc := 56) (tgt := 34) dX9_text_56 (by decide) ?_
            refine g_sub (L' := [(0, .ref (eA E 58)), (1, .int (nI n)), (2, .int (nI m)), (3, .int (nI j + 1))]) [1, 2, 3, 0] rfl ?_
            exact g_eq (by rw [sA_sA, gA_same, fllF_s]) (by simp only [nI_1]) rfl (ih_34 hlt_34)
        refine g_sub (L' := [(0, .ref (eA E 58)), (1, .int (nI n)), (2, .int (nI m)), (3, .int 0)]) [1, 2, 3, 0] rfl ?_
        exact g_eq (by rw [fllF_0]; exact (sA_self (sA S 62 (upd (gA S 62) n (nI m))) 63).symm) rfl rfl (H_34 0 (Nat.zero_le _))
      · have k_16 := Int32.not_le.mp c_16
        exact absurd (nI_pos' (by omega)) c_16
    · have k_10 := Int32.not_le.mp c_10
      exact absurd (nI_le (b := 60) hm (by omega)) c_10
set_option maxRecDepth 100000 in
set_option maxHeartbeats 4000000 in
theorem c_X9_lay_bad (E : En) (S : St) (r : Int32) (i : Int32) (v : Int32) (hr : idxF 6 r = false) : CTe E i_X9_lay S [.ref (eA E 58), .int r, .int i, .int v] S (some (.int (-1))) := by
  refine ct_of [(0, .ref (eA E 58)), (1, .int r), (2, .int i), (3, .int v)] (by decide +kernel) (Nat.le_of_ble_eq_true rfl) rfl (fun X hM => ?_)
  refine g_iload_n (pc := 0) dX9_lay_0 1 rfl rfl ?_
  refine g_invS (pc := 1) j_X9_isRow mw_X9_70 dX9_lay_1 (by rfl) (c_X9_isRow E S r ) (Nat.le_of_ble_eq_true rfl) (Nat.le_of_ble_eq_true rfl) (by rfl) (Nat.le_of_ble_eq_true rfl) ?_
  refine g_b_ne (pc := 4) (tgt := 9) dX9_lay_4 (by decide) (fun c_4 => ?_) (fun c_4 => ?_)
  · exact absurd (hr.symm.trans c_4) (by decide)
  · refine g_iconst (pc := 7) (v := -1) dX9_lay_7 (by decide) ?_
    exact g_iret (pc := 8) hM rfl rfl ⟨rfl, rfl⟩ dX9_lay_8
set_option maxRecDepth 100000 in
set_option maxHeartbeats 4000000 in
theorem c_X9_lay_m (E : En) (S : St) (n : Nat) (i : Int32) (v : Int32) (hn : n < 6) (h : gA S 60 n = -1) : CTe E i_X9_lay S [.ref (eA E 58), .int (nI n), .int i, .int v] (fndS S 1) (some (.int (-3))) := by
  have hi := idx_in hn (show 6 < 2 ^ 31 by omega)
  refine ct_of [(0, .ref (eA E 58)), (1, .int (nI n)), (2, .int i), (3, .int v)] (by decide +kernel) (Nat.le_of_ble_eq_true rfl) rfl (fun X hM => ?_)
  refine g_iload_n (pc := 0) dX9_lay_0 1 rfl rfl ?_
  refine g_invS (pc := 1) j_X9_isRow mw_X9_70 dX9_lay_1 (by rfl) (c_X9_isRow E S (nI n) ) (Nat.le_of_ble_eq_true rfl) (Nat.le_of_ble_eq_true rfl) (by rfl) (Nat.le_of_ble_eq_true rfl) ?_
  refine g_b_ne (pc := 4) (tgt := 9) dX9_lay_4 (by decide) (fun c_4 => ?_) (fun c_4 => ?_)
  · refine g_aload_n (pc := 9) dX9_lay_9 0 rfl rfl ?_
    refine gf_X9_13 (pc := 10) rfl dX9_lay_10 ?_
    refine g_iload_n (pc := 13) dX9_lay_13 1 rfl rfl ?_
    refine g_iald (pc := 14) n rfl rfl (show n < 6 from hn) (by decide) dX9_lay_14 ?_
    refine g_if_ge (pc := 15) (tgt := 24) dX9_lay_15 (by decide) (fun c_15 => ?_) (fun c_15 => ?_)
    · have k_15 := Int32.not_lt.mpr c_15
      exact absurd c_15 (by rw [h]; decide)
    · have k_15 := Int32.not_le.mp c_15
      refine g_aload_n (pc := 18) dX9_lay_18 0 rfl rfl ?_
      refine g_iconst (pc := 19) (v := 1) dX9_lay_19 (by decide) ?_
      refine g_invV (pc := 20) j_X9_finds mw_X9_74 dX9_lay_20 (rcv_X9) (by rfl) (c_X9_finds E S 1 (by first | assumption | omega | rfl)) (Nat.le_of_ble_eq_true rfl) (Nat.le_of_ble_eq_true rfl) (by rfl) (Nat.le_of_ble_eq_true rfl) ?_
      exact g_iret (pc := 23) hM rfl rfl ⟨rfl, rfl⟩ dX9_lay_23
  · exact absurd (hi.symm.trans c_4) (by decide)
set_option maxRecDepth 100000 in
set_option maxHeartbeats 4000000 in
theorem c_X9_lay_b (E : En) (S : St) (n m : Nat) (i : Int32) (v : Int32) (hn : n < 6) (hm : gA S 60 n = nI m) (hm2 : m ≤ 40) (h2 : idxF m i = false) : CTe E i_X9_lay S [.ref (eA E 58), .int (nI n), .int i, .int v] (fndS S 2) (some (.int (-3))) := by
  have hi := idx_in hn (show 6 < 2 ^ 31 by omega)
  refine ct_of [(0, .ref (eA E 58)), (1, .int (nI n)), (2, .int i), (3, .int v)] (by decide +kernel) (Nat.le_of_ble_eq_true rfl) rfl (fun X hM => ?_)
  refine g_iload_n (pc := 0) dX9_lay_0 1 rfl rfl ?_
  refine g_invS (pc := 1) j_X9_isRow mw_X9_70 dX9_lay_1 (by rfl) (c_X9_isRow E S (nI n) ) (Nat.le_of_ble_eq_true rfl) (Nat.le_of_ble_eq_true rfl) (by rfl) (Nat.le_of_ble_eq_true rfl) ?_
  refine g_b_ne (pc := 4) (tgt := 9) dX9_lay_4 (by decide) (fun c_4 => ?_) (fun c_4 => ?_)
  · refine g_aload_n (pc := 9) dX9_lay_9 0 rfl rfl ?_
    refine gf_X9_13 (pc := 10) rfl dX9_lay_10 ?_
    refine g_iload_n (pc := 13) dX9_lay_13 1 rfl rfl ?_
    refine g_iald (pc := 14) n rfl rfl (show n < 6 from hn) (by decide) dX9_lay_14 ?_
    refine g_if_ge (pc := 15) (tgt := 24) dX9_lay_15 (by decide) (fun c_15 => ?_) (fun c_15 => ?_)
    · have k_15 := Int32.not_lt.mpr c_15
      refine g_iload_n (pc := 24) dX9_lay_24 2 rfl rfl ?_
      refine g_i2l (pc := 25) dX9_lay_25 ?_
      refine g_lconst (pc := 26) (v := 0) dX9_lay_26 (by decide) ?_
      refine g_aload_n (pc := 27) dX9_lay_27 0 rfl rfl ?_
      refine gf_X9_13 (pc := 28) rfl dX9_lay_28 ?_
      refine g_iload_n (pc := 31) dX9_lay_31 1 rfl rfl ?_
      refine g_iald (pc := 32) n rfl rfl (show n < 6 from hn) (by decide) dX9_lay_32 ?_
      refine g_iconst (pc := 33) (v := 1) dX9_lay_33 (by decide) ?_
      refine g_isub (pc := 34) dX9_lay_34 ?_
      refine g_i2l (pc := 35) dX9_lay_35 ?_
      refine g_invS (pc := 36) j_X9_in mw_X9_62 dX9_lay_36 (by rfl) (c_X9_in E S i.toInt64 0 ((gA S 60 n - 1).toInt64) ) (Nat.le_of_ble_eq_true rfl) (Nat.le_of_ble_eq_true rfl) (by rfl) (Nat.le_of_ble_eq_true rfl) ?_
      rw [hm, in_sz (by omega)]
      refine g_b_ne (pc := 39) (tgt := 48) dX9_lay_39 (by decide) (fun c_39 => ?_) (fun c_39 => ?_)
      · exact absurd (h2.symm.trans c_39) (by decide)
      · refine g_aload_n (pc := 42) dX9_lay_42 0 rfl rfl ?_
        refine g_iconst (pc := 43) (v := 2) dX9_lay_43 (by decide) ?_
        refine g_invV (pc := 44) j_X9_finds mw_X9_74 dX9_lay_44 (rcv_X9) (by rfl) (c_X9_finds E S 2 (by first | assumption | omega | rfl)) (Nat.le_of_ble_eq_true rfl) (Nat.le_of_ble_eq_true rfl) (by rfl) (Nat.le_of_ble_eq_true rfl) ?_
        exact g_iret (pc := 47) hM rfl rfl ⟨rfl, rfl⟩ dX9_lay_47
    · have k_15 := Int32.not_le.mp c_15
      exact absurd (by rw [hm]; exact nI_pos' (by omega)) c_15
  · exact absurd (hi.symm.trans c_4) (by decide)
set_option maxRecDepth 100000 in
set_option maxHeartbeats 4000000 in
theorem c_X9_lay_ok (E : En) (S : St) (n j m : Nat) (v : Int32) (hn : n < 6) (hm : gA S 60 n = nI m) (hm2 : m ≤ 40) (hj : j < m) : CTe E i_X9_lay S [.ref (eA E 58), .int (nI n), .int (nI j), .int v] (sI (sA S 61 (upd (gA S 61) (40 * n + j) v)) 58 7 (gA S 61 (40 * n + j))) (some (.int 1)) := by
  have hi := idx_in hn (show 6 < 2 ^ 31 by omega)
  have h2 := idx_in hj (show m < 2 ^ 31 by omega)
  refine ct_of [(0, .ref (eA E 58)), (1, .int (nI n)), (2, .int (nI j)), (3, .int v)] (by decide +kernel) (Nat.le_of_ble_eq_true rfl) rfl (fun X hM => ?_)
  refine g_iload_n (pc := 0) dX9_lay_0 1 rfl rfl ?_
  refine g_invS (pc := 1) j_X9_isRow mw_X9_70 dX9_lay_1 (by rfl) (c_X9_isRow E S (nI n) ) (Nat.le_of_ble_eq_true rfl) (Nat.le_of_ble_eq_true rfl) (by rfl) (Nat.le_of_ble_eq_true rfl) ?_
  refine g_b_ne (pc := 4) (tgt := 9) dX9_lay_4 (by decide) (fun c_4 => ?_) (fun c_4 => ?_)
  · refine g_aload_n (pc := 9) dX9_lay_9 0 rfl rfl ?_
    refine gf_X9_13 (pc := 10) rfl dX9_lay_10 ?_
    refine g_iload_n (pc := 13) dX9_lay_13 1 rfl rfl ?_
    refine g_iald (pc := 14) n rfl rfl (show n < 6 from hn) (by decide) dX9_lay_14 ?_
    refine g_if_ge (pc := 15) (tgt := 24) dX9_lay_15 (by decide) (fun c_15 => ?_) (fun c_15 => ?_)
    · have k_15 := Int32.not_lt.mpr c_15
      refine g_iload_n (pc := 24) dX9_lay_24 2 rfl rfl ?_
      refine g_i2l (pc := 25) dX9_lay_25 ?_
      refine g_lconst (pc := 26) (v := 0) dX9_lay_26 (by decide) ?_
      refine g_aload_n (pc := 27) dX9_lay_27 0 rfl rfl ?_
      refine gf_X9_13 (pc := 28) rfl dX9_lay_28 ?_
      refine g_iload_n (pc := 31) dX9_lay_31 1 rfl rfl ?_
      refine g_iald (pc := 32) n rfl rfl (show n < 6 from hn) (by decide) dX9_lay_32 ?_
      refine g_iconst (pc := 33) (v := 1) dX9_lay_33 (by decide) ?_
      refine g_isub (pc := 34) dX9_lay_34 ?_
      refine g_i2l (pc := 35) dX9_lay_35 ?_
      refine g_invS (pc := 36) j_X9_in mw_X9_62 dX9_lay_36 (by rfl) (c_X9_in E S ((nI j).toInt64) 0 ((gA S 60 n - 1).toInt64) ) (Nat.le_of_ble_eq_true rfl) (Nat.le_of_ble_eq_true rfl) (by rfl) (Nat.le_of_ble_eq_true rfl) ?_
      rw [hm, in_sz (by omega)]
      refine g_b_ne (pc := 39) (tgt := 48) dX9_lay_39 (by decide) (fun c_39 => ?_) (fun c_39 => ?_)
      · refine g_aload_n (pc := 48) dX9_lay_48 0 rfl rfl ?_
        refine gf_X9_16 (pc := 49) rfl dX9_lay_49 ?_
        refine g_bipush (pc := 52) (v := 40) dX9_lay_52 (by decide) ?_
        refine g_iload_n (pc := 54) dX9_lay_54 1 rfl rfl ?_
        refine g_imul (pc := 55) dX9_lay_55 ?_
        refine g_iload_n (pc := 56) dX9_lay_56 2 rfl rfl ?_
        refine g_iadd (pc := 57) dX9_lay_57 ?_
        refine g_iald (pc := 58) ((40 * n) + j) (nI_aE (nI_mE rfl rfl) rfl) rfl (show (40 * n) + j < 240 by omega) (by decide) dX9_lay_58 ?_
        refine g_istore (pc := 59) (L' := [(4, .int (gA S 61 ((40 * n) + j))), (0, .ref (eA E 58)), (1, .int (nI n)), (2, .int (nI j)), (3, .int v)]) dX9_lay_59 (Nat.le_of_ble_eq_true rfl) rfl ?_
        refine g_aload_n (pc := 61) dX9_lay_61 1 rfl rfl ?_
        refine gf_X9_16 (pc := 62) rfl dX9_lay_62 ?_
        refine g_bipush (pc := 65) (v := 40) dX9_lay_65 (by decide) ?_
        refine g_iload_n (pc := 67) dX9_lay_67 2 rfl rfl ?_
        refine g_imul (pc := 68) dX9_lay_68 ?_
        refine g_iload_n (pc := 69) dX9_lay_69 3 rfl rfl ?_
        refine g_iadd (pc := 70) dX9_lay_70 ?_
        refine g_iload_n (pc := 71) dX9_lay_71 4 rfl rfl ?_
        refine g_iast (pc := 72) ((40 * n) + j) (nI_aE (nI_mE rfl rfl) rfl) rfl (show (40 * n) + j < 240 by omega) (by decide) dX9_lay_72 ?_
        refine g_aload_n (pc := 73) dX9_lay_73 1 rfl rfl ?_
        refine g_iload (pc := 74) dX9_lay_74 0 rfl ?_
        refine g_invV (pc := 76) j_X9_tells mw_X9_77 dX9_lay_76 (rcv_X9) (by rfl) (c_X9_tells E (sA S 61 (upd (gA S 61) ((40 * n) + j) v)) (gA S 61 ((40 * n) + j)) ) (Nat.le_of_ble_eq_true rfl) (Nat.le_of_ble_eq_true rfl) (by rfl) (Nat.le_of_ble_eq_true rfl) ?_
        exact g_iret (pc := 79) hM rfl rfl ⟨rfl, rfl⟩ dX9_lay_79
      · exact absurd (h2.symm.trans c_39) (by decide)
    · have k_15 := Int32.not_le.mp c_15
      exact absurd (by rw [hm]; exact nI_pos' (by omega)) c_15
  · exact absurd (hi.symm.trans c_4) (by decide)
set_option maxRecDepth 100000 in
set_option maxHeartbeats 4000000 in
theorem c_X9_at_bad (E : En) (S : St) (r : Int32) (i : Int32) (hr : idxF 6 r = false) : CTe E i_X9_at S [.ref (eA E 58), .int r, .int i] S (some (.int (-1))) := by
  refine ct_of [(0, .ref (eA E 58)), (1, .int r), (2, .int i)] (by decide +kernel) (Nat.le_of_ble_eq_true rfl) rfl (fun X hM => ?_)
  refine g_iload_n (pc := 0) dX9_at_0 1 rfl rfl ?_
  refine g_invS (pc := 1) j_X9_isRow mw_X9_70 dX9_at_1 (by rfl) (c_X9_isRow E S r ) (Nat.le_of_ble_eq_true rfl) (Nat.le_of_ble_eq_true rfl) (by rfl) (Nat.le_of_ble_eq_true rfl) ?_
  refine g_b_ne (pc := 4) (tgt := 9) dX9_at_4 (by decide) (fun c_4 => ?_) (fun c_4 => ?_)
  · exact absurd (hr.symm.trans c_4) (by decide)
  · refine g_iconst (pc := 7) (v := -1) dX9_at_7 (by decide) ?_
    exact g_iret (pc := 8) hM rfl rfl ⟨rfl, rfl⟩ dX9_at_8
set_option maxRecDepth 100000 in
set_option maxHeartbeats 4000000 in
theorem c_X9_at_m (E : En) (S : St) (n : Nat) (i : Int32) (hn : n < 6) (h : gA S 60 n = -1) : CTe E i_X9_at S [.ref (eA E 58), .int (nI n), .int i] (fndS S 1) (some (.int (-3))) := by
  have hi := idx_in hn (show 6 < 2 ^ 31 by omega)
  refine ct_of [(0, .ref (eA E 58)), (1, .int (nI n)), (2, .int i)] (by decide +kernel) (Nat.le_of_ble_eq_true rfl) rfl (fun X hM => ?_)
  refine g_iload_n (pc := 0) dX9_at_0 1 rfl rfl ?_
  refine g_invS (pc := 1) j_X9_isRow mw_X9_70 dX9_at_1 (by rfl) (c_X9_isRow E S (nI n) ) (Nat.le_of_ble_eq_true rfl) (Nat.le_of_ble_eq_true rfl) (by rfl) (Nat.le_of_ble_eq_true rfl) ?_
  refine g_b_ne (pc := 4) (tgt := 9) dX9_at_4 (by decide) (fun c_4 => ?_) (fun c_4 => ?_)
  · refine g_aload_n (pc := 9) dX9_at_9 0 rfl rfl ?_
    refine gf_X9_13 (pc := 10) rfl dX9_at_10 ?_
    refine g_iload_n (pc := 13) dX9_at_13 1 rfl rfl ?_
    refine g_iald (pc := 14) n rfl rfl (show n < 6 from hn) (by decide) dX9_at_14 ?_
    refine g_if_ge (pc := 15) (tgt := 24) dX9_at_15 (by decide) (fun c_15 => ?_) (fun c_15 => ?_)
    · have k_15 := Int32.not_lt.mpr c_15
      exact absurd c_15 (by rw [h]; decide)
    · have k_15 := Int32.not_le.mp c_15
      refine g_aload_n (pc := 18) dX9_at_18 0 rfl rfl ?_
      refine g_iconst (pc := 19) (v := 1) dX9_at_19 (by decide) ?_
      refine g_invV (pc := 20) j_X9_finds mw_X9_74 dX9_at_20 (rcv_X9) (by rfl) (c_X9_finds E S 1 (by first | assumption | omega | rfl)) (Nat.le_of_ble_eq_true rfl) (Nat.le_of_ble_eq_true rfl) (by rfl) (Nat.le_of_ble_eq_true rfl) ?_
      exact g_iret (pc := 23) hM rfl rfl ⟨rfl, rfl⟩ dX9_at_23
  · exact absurd (hi.symm.trans c_4) (by decide)
set_option maxRecDepth 100000 in
set_option maxHeartbeats 4000000 in
theorem c_X9_at_b (E : En) (S : St) (n m : Nat) (i : Int32) (hn : n < 6) (hm : gA S 60 n = nI m) (hm2 : m ≤ 40) (h2 : idxF m i = false) : CTe E i_X9_at S [.ref (eA E 58), .int (nI n), .int i] (fndS S 2) (some (.int (-3))) := by
  have hi := idx_in hn (show 6 < 2 ^ 31 by omega)
  refine ct_of [(0, .ref (eA E 58)), (1, .int (nI n)), (2, .int i)] (by decide +kernel) (Nat.le_of_ble_eq_true rfl) rfl (fun X hM => ?_)
  refine g_iload_n (pc := 0) dX9_at_0 1 rfl rfl ?_
  refine g_invS (pc := 1) j_X9_isRow mw_X9_70 dX9_at_1 (by rfl) (c_X9_isRow E S (nI n) ) (Nat.le_of_ble_eq_true rfl) (Nat.le_of_ble_eq_true rfl) (by rfl) (Nat.le_of_ble_eq_true rfl) ?_
  refine g_b_ne (pc := 4) (tgt := 9) dX9_at_4 (by decide) (fun c_4 => ?_) (fun c_4 => ?_)
  · refine g_aload_n (pc := 9) dX9_at_9 0 rfl rfl ?_
    refine gf_X9_13 (pc := 10) rfl dX9_at_10 ?_
    refine g_iload_n (pc := 13) dX9_at_13 1 rfl rfl ?_
    refine g_iald (pc := 14) n rfl rfl (show n < 6 from hn) (by decide) dX9_at_14 ?_
    refine g_if_ge (pc := 15) (tgt := 24) dX9_at_15 (by decide) (fun c_15 => ?_) (fun c_15 => ?_)
    · have k_15 := Int32.not_lt.mpr c_15
      refine g_iload_n (pc := 24) dX9_at_24 2 rfl rfl ?_
      refine g_i2l (pc := 25) dX9_at_25 ?_
      refine g_lconst (pc := 26) (v := 0) dX9_at_26 (by decide) ?_
      refine g_aload_n (pc := 27) dX9_at_27 0 rfl rfl ?_
      refine gf_X9_13 (pc := 28) rfl dX9_at_28 ?_
      refine g_iload_n (pc := 31) dX9_at_31 1 rfl rfl ?_
      refine g_iald (pc := 32) n rfl rfl (show n < 6 from hn) (by decide) dX9_at_32 ?_
      refine g_iconst (pc := 33) (v := 1) dX9_at_33 (by decide) ?_
      refine g_isub (pc := 34) dX9_at_34 ?_
      refine g_i2l (pc := 35) dX9_at_35 ?_
      refine g_invS (pc := 36) j_X9_in mw_X9_62 dX9_at_36 (by rfl) (c_X9_in E S i.toInt64 0 ((gA S 60 n - 1).toInt64) ) (Nat.le_of_ble_eq_true rfl) (Nat.le_of_ble_eq_true rfl) (by rfl) (Nat.le_of_ble_eq_true rfl) ?_
      rw [hm, in_sz (by omega)]
      refine g_b_ne (pc := 39) (tgt := 48) dX9_at_39 (by decide) (fun c_39 => ?_) (fun c_39 => ?_)
      · exact absurd (h2.symm.trans c_39) (by decide)
      · refine g_aload_n (pc := 42) dX9_at_42 0 rfl rfl ?_
        refine g_iconst (pc := 43) (v := 2) dX9_at_43 (by decide) ?_
        refine g_invV (pc := 44) j_X9_finds mw_X9_74 dX9_at_44 (rcv_X9) (by rfl) (c_X9_finds E S 2 (by first | assumption | omega | rfl)) (Nat.le_of_ble_eq_true rfl) (Nat.le_of_ble_eq_true rfl) (by rfl) (Nat.le_of_ble_eq_true rfl) ?_
        exact g_iret (pc := 47) hM rfl rfl ⟨rfl, rfl⟩ dX9_at_47
    · have k_15 := Int32.not_le.mp c_15
      exact absurd (by rw [hm]; exact nI_pos' (by omega)) c_15
  · exact absurd (hi.symm.trans c_4) (by decide)
set_option maxRecDepth 100000 in
set_option maxHeartbeats 4000000 in
theorem c_X9_at_ok (E : En) (S : St) (n j m : Nat) (hn : n < 6) (hm : gA S 60 n = nI m) (hm2 : m ≤ 40) (hj : j < m) : CTe E i_X9_at S [.ref (eA E 58), .int (nI n), .int (nI j)] (sI S 58 7 (gA S 61 (40 * n + j))) (some (.int 1)) := by
  have hi := idx_in hn (show 6 < 2 ^ 31 by omega)
  have h2 := idx_in hj (show m < 2 ^ 31 by omega)
  refine ct_of [(0, .ref (eA E 58)), (1, .int (nI n)), (2, .int (nI j))] (by decide +kernel) (Nat.le_of_ble_eq_true rfl) rfl (fun X hM => ?_)
  refine g_iload_n (pc := 0) dX9_at_0 1 rfl rfl ?_
  refine g_invS (pc := 1) j_X9_isRow mw_X9_70 dX9_at_1 (by rfl) (c_X9_isRow E S (nI n) ) (Nat.le_of_ble_eq_true rfl) (Nat.le_of_ble_eq_true rfl) (by rfl) (Nat.le_of_ble_eq_true rfl) ?_
  refine g_b_ne (pc := 4) (tgt := 9) dX9_at_4 (by decide) (fun c_4 => ?_) (fun c_4 => ?_)
  · refine g_aload_n (pc := 9) dX9_at_9 0 rfl rfl ?_
    refine gf_X9_13 (pc := 10) rfl dX9_at_10 ?_
    refine g_iload_n (pc := 13) dX9_at_13 1 rfl rfl ?_
    refine g_iald (pc := 14) n rfl rfl (show n < 6 from hn) (by decide) dX9_at_14 ?_
    refine g_if_ge (pc := 15) (tgt := 24) dX9_at_15 (by decide) (fun c_15 => ?_) (fun c_15 => ?_)
    · have k_15 := Int32.not_lt.mpr c_15
      refine g_iload_n (pc := 24) dX9_at_24 2 rfl rfl ?_
      refine g_i2l (pc := 25) dX9_at_25 ?_
      refine g_lconst (pc := 26) (v := 0) dX9_at_26 (by decide) ?_
      refine g_aload_n (pc := 27) dX9_at_27 0 rfl rfl ?_
      refine gf_X9_13 (pc := 28) rfl dX9_at_28 ?_
      refine g_iload_n (pc := 31) dX9_at_31 1 rfl rfl ?_
      refine g_iald (pc := 32) n rfl rfl (show n < 6 from hn) (by decide) dX9_at_32 ?_
      refine g_iconst (pc := 33) (v := 1) dX9_at_33 (by decide) ?_
      refine g_isub (pc := 34) dX9_at_34 ?_
      refine g_i2l (pc := 35) dX9_at_35 ?_
      refine g_invS (pc := 36) j_X9_in mw_X9_62 dX9_at_36 (by rfl) (c_X9_in E S ((nI j).toInt64) 0 ((gA S 60 n - 1).toInt64) ) (Nat.le_of_ble_eq_true rfl) (Nat.le_of_ble_eq_true rfl) (by rfl) (Nat.le_of_ble_eq_true rfl) ?_
      rw [hm, in_sz (by omega)]
      refine g_b_ne (pc := 39) (tgt := 48) dX9_at_39 (by decide) (fun c_39 => ?_) (fun c_39 => ?_)
      · refine g_aload_n (pc := 48) dX9_at_48 0 rfl rfl ?_
        refine g_aload_n (pc := 49) dX9_at_49 0 rfl rfl ?_
        refine gf_X9_16 (pc := 50) rfl dX9_at_50 ?_
        refine g_bipush (pc := 53) (v := 40) dX9_at_53 (by decide) ?_
        refine g_iload_n (pc := 55) dX9_at_55 1 rfl rfl ?_
        refine g_imul (pc := 56) dX9_at_56 ?_
        refine g_iload_n (pc := 57) dX9_at_57 2 rfl rfl ?_
        refine g_iadd (pc := 58) dX9_at_58 ?_
        refine g_iald (pc := 59) ((40 * n) + j) (nI_aE (nI_mE rfl rfl) rfl) rfl (show (40 * n) + j < 240 by omega) (by decide) dX9_at_59 ?_
        refine g_invV (pc := 60) j_X9_tells mw_X9_77 dX9_at_60 (rcv_X9) (by rfl) (c_X9_tells E S (gA S 61 ((40 * n) + j)) ) (Nat.le_of_ble_eq_true rfl) (Nat.le_of_ble_eq_true rfl) (by rfl) (Nat.le_of_ble_eq_true rfl) ?_
        exact g_iret (pc := 63) hM rfl rfl ⟨rfl, rfl⟩ dX9_at_63
      · exact absurd (h2.symm.trans c_39) (by decide)
    · have k_15 := Int32.not_le.mp c_15
      exact absurd (by rw [hm]; exact nI_pos' (by omega)) c_15
  · exact absurd (hi.symm.trans c_4) (by decide)
set_option maxRecDepth 100000 in
set_option maxHeartbeats 4000000 in
theorem c_X9_put_bad (E : En) (S : St) (r : Int32) (i : Int32) (v : Int32) (hr : idxF 4 r = false) : CTe E i_X9_put S [.ref (eA E 58), .int r, .int i, .int v] S (some (.int (-1))) := by
  refine ct_of [(0, .ref (eA E 58)), (1, .int r), (2, .int i), (3, .int v)] (by decide +kernel) (Nat.le_of_ble_eq_true rfl) rfl (fun X hM => ?_)
  refine g_iload_n (pc := 0) dX9_put_0 1 rfl rfl ?_
  refine g_invS (pc := 1) j_X9_isText mw_X9_80 dX9_put_1 (by rfl) (c_X9_isText E S r ) (Nat.le_of_ble_eq_true rfl) (Nat.le_of_ble_eq_true rfl) (by rfl) (Nat.le_of_ble_eq_true rfl) ?_
  refine g_b_ne (pc := 4) (tgt := 9) dX9_put_4 (by decide) (fun c_4 => ?_) (fun c_4 => ?_)
  · exact absurd (hr.symm.trans c_4) (by decide)
  · refine g_iconst (pc := 7) (v := -1) dX9_put_7 (by decide) ?_
    exact g_iret (pc := 8) hM rfl rfl ⟨rfl, rfl⟩ dX9_put_8
set_option maxRecDepth 100000 in
set_option maxHeartbeats 4000000 in
theorem c_X9_put_m (E : En) (S : St) (n : Nat) (i : Int32) (v : Int32) (hn : n < 4) (h : gA S 62 n = -1) : CTe E i_X9_put S [.ref (eA E 58), .int (nI n), .int i, .int v] (fndS S 1) (some (.int (-3))) := by
  have hi := idx_in hn (show 4 < 2 ^ 31 by omega)
  refine ct_of [(0, .ref (eA E 58)), (1, .int (nI n)), (2, .int i), (3, .int v)] (by decide +kernel) (Nat.le_of_ble_eq_true rfl) rfl (fun X hM => ?_)
  refine g_iload_n (pc := 0) dX9_put_0 1 rfl rfl ?_
  refine g_invS (pc := 1) j_X9_isText mw_X9_80 dX9_put_1 (by rfl) (c_X9_isText E S (nI n) ) (Nat.le_of_ble_eq_true rfl) (Nat.le_of_ble_eq_true rfl) (by rfl) (Nat.le_of_ble_eq_true rfl) ?_
  refine g_b_ne (pc := 4) (tgt := 9) dX9_put_4 (by decide) (fun c_4 => ?_) (fun c_4 => ?_)
  · refine g_aload_n (pc := 9) dX9_put_9 0 rfl rfl ?_
    refine gf_X9_19 (pc := 10) rfl dX9_put_10 ?_
    refine g_iload_n (pc := 13) dX9_put_13 1 rfl rfl ?_
    refine g_iald (pc := 14) n rfl rfl (show n < 4 from hn) (by decide) dX9_put_14 ?_
    refine g_if_ge (pc := 15) (tgt := 24) dX9_put_15 (by decide) (fun c_15 => ?_) (fun c_15 => ?_)
    · have k_15 := Int32.not_lt.mpr c_15
      exact absurd c_15 (by rw [h]; decide)
    · have k_15 := Int32.not_le.mp c_15
      refine g_aload_n (pc := 18) dX9_put_18 0 rfl rfl ?_
      refine g_iconst (pc := 19) (v := 1) dX9_put_19 (by decide) ?_
      refine g_invV (pc := 20) j_X9_finds mw_X9_74 dX9_put_20 (rcv_X9) (by rfl) (c_X9_finds E S 1 (by first | assumption | omega | rfl)) (Nat.le_of_ble_eq_true rfl) (Nat.le_of_ble_eq_true rfl) (by rfl) (Nat.le_of_ble_eq_true rfl) ?_
      exact g_iret (pc := 23) hM rfl rfl ⟨rfl, rfl⟩ dX9_put_23
  · exact absurd (hi.symm.trans c_4) (by decide)
set_option maxRecDepth 100000 in
set_option maxHeartbeats 4000000 in
theorem c_X9_put_b (E : En) (S : St) (n m : Nat) (i : Int32) (v : Int32) (hn : n < 4) (hm : gA S 62 n = nI m) (hm2 : m ≤ 60) (h2 : idxF m i = false) : CTe E i_X9_put S [.ref (eA E 58), .int (nI n), .int i, .int v] (fndS S 2) (some (.int (-3))) := by
  have hi := idx_in hn (show 4 < 2 ^ 31 by omega)
  refine ct_of [(0, .ref (eA E 58)), (1, .int (nI n)), (2, .int i), (3, .int v)] (by decide +kernel) (Nat.le_of_ble_eq_true rfl) rfl (fun X hM => ?_)
  refine g_iload_n (pc := 0) dX9_put_0 1 rfl rfl ?_
  refine g_invS (pc := 1) j_X9_isText mw_X9_80 dX9_put_1 (by rfl) (c_X9_isText E S (nI n) ) (Nat.le_of_ble_eq_true rfl) (Nat.le_of_ble_eq_true rfl) (by rfl) (Nat.le_of_ble_eq_true rfl) ?_
  refine g_b_ne (pc := 4) (tgt := 9) dX9_put_4 (by decide) (fun c_4 => ?_) (fun c_4 => ?_)
  · refine g_aload_n (pc := 9) dX9_put_9 0 rfl rfl ?_
    refine gf_X9_19 (pc := 10) rfl dX9_put_10 ?_
    refine g_iload_n (pc := 13) dX9_put_13 1 rfl rfl ?_
    refine g_iald (pc := 14) n rfl rfl (show n < 4 from hn) (by decide) dX9_put_14 ?_
    refine g_if_ge (pc := 15) (tgt := 24) dX9_put_15 (by decide) (fun c_15 => ?_) (fun c_15 => ?_)
    · have k_15 := Int32.not_lt.mpr c_15
      refine g_iload_n (pc := 24) dX9_put_24 2 rfl rfl ?_
      refine g_i2l (pc := 25) dX9_put_25 ?_
      refine g_lconst (pc := 26) (v := 0) dX9_put_26 (by decide) ?_
      refine g_aload_n (pc := 27) dX9_put_27 0 rfl rfl ?_
      refine gf_X9_19 (pc := 28) rfl dX9_put_28 ?_
      refine g_iload_n (pc := 31) dX9_put_31 1 rfl rfl ?_
      refine g_iald (pc := 32) n rfl rfl (show n < 4 from hn) (by decide) dX9_put_32 ?_
      refine g_iconst (pc := 33) (v := 1) dX9_put_33 (by decide) ?_
      refine g_isub (pc := 34) dX9_put_34 ?_
      refine g_i2l (pc := 35) dX9_put_35 ?_
      refine g_invS (pc := 36) j_X9_in mw_X9_62 dX9_put_36 (by rfl) (c_X9_in E S i.toInt64 0 ((gA S 62 n - 1).toInt64) ) (Nat.le_of_ble_eq_true rfl) (Nat.le_of_ble_eq_true rfl) (by rfl) (Nat.le_of_ble_eq_true rfl) ?_
      rw [hm, in_sz (by omega)]
      refine g_b_ne (pc := 39) (tgt := 48) dX9_put_39 (by decide) (fun c_39 => ?_) (fun c_39 => ?_)
      · exact absurd (h2.symm.trans c_39) (by decide)
      · refine g_aload_n (pc := 42) dX9_put_42 0 rfl rfl ?_
        refine g_iconst (pc := 43) (v := 2) dX9_put_43 (by decide) ?_
        refine g_invV (pc := 44) j_X9_finds mw_X9_74 dX9_put_44 (rcv_X9) (by rfl) (c_X9_finds E S 2 (by first | assumption | omega | rfl)) (Nat.le_of_ble_eq_true rfl) (Nat.le_of_ble_eq_true rfl) (by rfl) (Nat.le_of_ble_eq_true rfl) ?_
        exact g_iret (pc := 47) hM rfl rfl ⟨rfl, rfl⟩ dX9_put_47
    · have k_15 := Int32.not_le.mp c_15
      exact absurd (by rw [hm]; exact nI_pos' (by omega)) c_15
  · exact absurd (hi.symm.trans c_4) (by decide)
set_option maxRecDepth 100000 in
set_option maxHeartbeats 4000000 in
theorem c_X9_put_ok (E : En) (S : St) (n j m : Nat) (v : Int32) (hn : n < 4) (hm : gA S 62 n = nI m) (hm2 : m ≤ 60) (hj : j < m) : CTe E i_X9_put S [.ref (eA E 58), .int (nI n), .int (nI j), .int v] (sA S 63 (upd (gA S 63) (60 * n + j) v.toInt8.toInt32)) (some (.int (gA S 63 (60 * n + j) + 1000))) := by
  have hi := idx_in hn (show 4 < 2 ^ 31 by omega)
  have h2 := idx_in hj (show m < 2 ^ 31 by omega)
  refine ct_of [(0, .ref (eA E 58)), (1, .int (nI n)), (2, .int (nI j)), (3, .int v)] (by decide +kernel) (Nat.le_of_ble_eq_true rfl) rfl (fun X hM => ?_)
  refine g_iload_n (pc := 0) dX9_put_0 1 rfl rfl ?_
  refine g_invS (pc := 1) j_X9_isText mw_X9_80 dX9_put_1 (by rfl) (c_X9_isText E S (nI n) ) (Nat.le_of_ble_eq_true rfl) (Nat.le_of_ble_eq_true rfl) (by rfl) (Nat.le_of_ble_eq_true rfl) ?_
  refine g_b_ne (pc := 4) (tgt := 9) dX9_put_4 (by decide) (fun c_4 => ?_) (fun c_4 => ?_)
  · refine g_aload_n (pc := 9) dX9_put_9 0 rfl rfl ?_
    refine gf_X9_19 (pc := 10) rfl dX9_put_10 ?_
    refine g_iload_n (pc := 13) dX9_put_13 1 rfl rfl ?_
    refine g_iald (pc := 14) n rfl rfl (show n < 4 from hn) (by decide) dX9_put_14 ?_
    refine g_if_ge (pc := 15) (tgt := 24) dX9_put_15 (by decide) (fun c_15 => ?_) (fun c_15 => ?_)
    · have k_15 := Int32.not_lt.mpr c_15
      refine g_iload_n (pc := 24) dX9_put_24 2 rfl rfl ?_
      refine g_i2l (pc := 25) dX9_put_25 ?_
      refine g_lconst (pc := 26) (v := 0) dX9_put_26 (by decide) ?_
      refine g_aload_n (pc := 27) dX9_put_27 0 rfl rfl ?_
      refine gf_X9_19 (pc := 28) rfl dX9_put_28 ?_
      refine g_iload_n (pc := 31) dX9_put_31 1 rfl rfl ?_
      refine g_iald (pc := 32) n rfl rfl (show n < 4 from hn) (by decide) dX9_put_32 ?_
      refine g_iconst (pc := 33) (v := 1) dX9_put_33 (by decide) ?_
      refine g_isub (pc := 34) dX9_put_34 ?_
      refine g_i2l (pc := 35) dX9_put_35 ?_
      refine g_invS (pc := 36) j_X9_in mw_X9_62 dX9_put_36 (by rfl) (c_X9_in E S ((nI j).toInt64) 0 ((gA S 62 n - 1).toInt64) ) (Nat.le_of_ble_eq_true rfl) (Nat.le_of_ble_eq_true rfl) (by rfl) (Nat.le_of_ble_eq_true rfl) ?_
      rw [hm, in_sz (by omega)]
      refine g_b_ne (pc := 39) (tgt := 48) dX9_put_39 (by decide) (fun c_39 => ?_) (fun c_39 => ?_)
      · refine g_aload_n (pc := 48) dX9_put_48 0 rfl rfl ?_
        refine gf_X9_22 (pc := 49) rfl dX9_put_49 ?_
        refine g_bipush (pc := 52) (v := 60) dX9_put_52 (by decide) ?_
        refine g_iload_n (pc := 54) dX9_put_54 1 rfl rfl ?_
        refine g_imul (pc := 55) dX9_put_55 ?_
        refine g_iload_n (pc := 56) dX9_put_56 2 rfl rfl ?_
        refine g_iadd (pc := 57) dX9_put_57 ?_
        refine g_iald (pc := 58) ((60 * n) + j) (nI_aE (nI_mE rfl rfl) rfl) rfl (show (60 * n) + j < 240 by omega) (by decide) dX9_put_58 ?_
        refine g_istore (pc := 59) (L' := [(4, .int (gA S 63 ((60 * n) + j))), (0, .ref (eA E 58)), (1, .int (nI n)), (2, .int (nI j)), (3, .int v)]) dX9_put_59 (Nat.le_of_ble_eq_true rfl) rfl ?_
        refine g_aload_n (pc := 61) dX9_put_61 1 rfl rfl ?_
        refine gf_X9_22 (pc := 62) rfl dX9_put_62 ?_
        refine g_bipush (pc := 65) (v := 60) dX9_put_65 (by decide) ?_
        refine g_iload_n (pc := 67) dX9_put_67 2 rfl rfl ?_
        refine g_imul (pc := 68) dX9_put_68 ?_
        refine g_iload_n (pc := 69) dX9_put_69 3 rfl rfl ?_
        refine g_iadd (pc := 70) dX9_put_70 ?_
        refine g_iload_n (pc := 71) dX9_put_71 4 rfl rfl ?_
        refine g_i2b (pc := 72) dX9_put_72 ?_
        refine g_iast (pc := 73) ((60 * n) + j) (nI_aE (nI_mE rfl rfl) rfl) rfl (show (60 * n) + j < 240 by omega) (by decide) dX9_put_73 ?_
        refine g_iload (pc := 74) dX9_put_74 0 rfl ?_
        refine g_sipush (pc := 76) (v := 1000) dX9_put_76 (by decide) ?_
        refine g_iadd (pc := 79) dX9_put_79 ?_
        exact g_iret (pc := 80) hM rfl rfl ⟨rfl, rfl⟩ dX9_put_80
      · exact absurd (h2.symm.trans c_39) (by decide)
    · have k_15 := Int32.not_le.mp c_15
      exact absurd (by rw [hm]; exact nI_pos' (by omega)) c_15
  · exact absurd (hi.symm.trans c_4) (by decide)
set_option maxRecDepth 100000 in
set_option maxHeartbeats 4000000 in
theorem c_X9_tear_bad (E : En) (S : St) (r : Int32) (hr : idxF 6 r = false) : CTe E i_X9_tear S [.ref (eA E 58), .int r] S (some (.int (-1))) := by
  refine ct_of [(0, .ref (eA E 58)), (1, .int r)] (by decide +kernel) (Nat.le_of_ble_eq_true rfl) rfl (fun X hM => ?_)
  refine g_iload_n (pc := 0) dX9_tear_0 1 rfl rfl ?_
  refine g_invS (pc := 1) j_X9_isRow mw_X9_70 dX9_tear_1 (by rfl) (c_X9_isRow E S r ) (Nat.le_of_ble_eq_true rfl) (Nat.le_of_ble_eq_true rfl) (by rfl) (Nat.le_of_ble_eq_true rfl) ?_
  refine g_b_ne (pc := 4) (tgt := 9) dX9_tear_4 (by decide) (fun c_4 => ?_) (fun c_4 => ?_)
  · exact absurd (hr.symm.trans c_4) (by decide)
  · refine g_iconst (pc := 7) (v := -1) dX9_tear_7 (by decide) ?_
    exact g_iret (pc := 8) hM rfl rfl ⟨rfl, rfl⟩ dX9_tear_8
set_option maxRecDepth 100000 in
set_option maxHeartbeats 4000000 in
theorem c_X9_tear_m (E : En) (S : St) (n : Nat) (hn : n < 6) (h : gA S 60 n = -1) : CTe E i_X9_tear S [.ref (eA E 58), .int (nI n)] (fndS S 1) (some (.int (-3))) := by
  have hi := idx_in hn (show 6 < 2 ^ 31 by omega)
  refine ct_of [(0, .ref (eA E 58)), (1, .int (nI n))] (by decide +kernel) (Nat.le_of_ble_eq_true rfl) rfl (fun X hM => ?_)
  refine g_iload_n (pc := 0) dX9_tear_0 1 rfl rfl ?_
  refine g_invS (pc := 1) j_X9_isRow mw_X9_70 dX9_tear_1 (by rfl) (c_X9_isRow E S (nI n) ) (Nat.le_of_ble_eq_true rfl) (Nat.le_of_ble_eq_true rfl) (by rfl) (Nat.le_of_ble_eq_true rfl) ?_
  refine g_b_ne (pc := 4) (tgt := 9) dX9_tear_4 (by decide) (fun c_4 => ?_) (fun c_4 => ?_)
  · refine g_aload_n (pc := 9) dX9_tear_9 0 rfl rfl ?_
    refine gf_X9_13 (pc := 10) rfl dX9_tear_10 ?_
    refine g_iload_n (pc := 13) dX9_tear_13 1 rfl rfl ?_
    refine g_iald (pc := 14) n rfl rfl (show n < 6 from hn) (by decide) dX9_tear_14 ?_
    refine g_if_ge (pc := 15) (tgt := 24) dX9_tear_15 (by decide) (fun c_15 => ?_) (fun c_15 => ?_)
    · have k_15 := Int32.not_lt.mpr c_15
      exact absurd c_15 (by rw [h]; decide)
    · have k_15 := Int32.not_le.mp c_15
      refine g_aload_n (pc := 18) dX9_tear_18 0 rfl rfl ?_
      refine g_iconst (pc := 19) (v := 1) dX9_tear_19 (by decide) ?_
      refine g_invV (pc := 20) j_X9_finds mw_X9_74 dX9_tear_20 (rcv_X9) (by rfl) (c_X9_finds E S 1 (by first | assumption | omega | rfl)) (Nat.le_of_ble_eq_true rfl) (Nat.le_of_ble_eq_true rfl) (by rfl) (Nat.le_of_ble_eq_true rfl) ?_
      exact g_iret (pc := 23) hM rfl rfl ⟨rfl, rfl⟩ dX9_tear_23
  · exact absurd (hi.symm.trans c_4) (by decide)
set_option maxRecDepth 100000 in
set_option maxHeartbeats 4000000 in
theorem c_X9_tear_ok (E : En) (S : St) (n m : Nat) (hn : n < 6) (hm : gA S 60 n = nI m) (hm2 : m ≤ 40) : CTe E i_X9_tear S [.ref (eA E 58), .int (nI n)] (sA S 60 (upd (gA S 60) n (-1))) (some (.int 1)) := by
  have hi := idx_in hn (show 6 < 2 ^ 31 by omega)
  refine ct_of [(0, .ref (eA E 58)), (1, .int (nI n))] (by decide +kernel) (Nat.le_of_ble_eq_true rfl) rfl (fun X hM => ?_)
  refine g_iload_n (pc := 0) dX9_tear_0 1 rfl rfl ?_
  refine g_invS (pc := 1) j_X9_isRow mw_X9_70 dX9_tear_1 (by rfl) (c_X9_isRow E S (nI n) ) (Nat.le_of_ble_eq_true rfl) (Nat.le_of_ble_eq_true rfl) (by rfl) (Nat.le_of_ble_eq_true rfl) ?_
  refine g_b_ne (pc := 4) (tgt := 9) dX9_tear_4 (by decide) (fun c_4 => ?_) (fun c_4 => ?_)
  · refine g_aload_n (pc := 9) dX9_tear_9 0 rfl rfl ?_
    refine gf_X9_13 (pc := 10) rfl dX9_tear_10 ?_
    refine g_iload_n (pc := 13) dX9_tear_13 1 rfl rfl ?_
    refine g_iald (pc := 14) n rfl rfl (show n < 6 from hn) (by decide) dX9_tear_14 ?_
    refine g_if_ge (pc := 15) (tgt := 24) dX9_tear_15 (by decide) (fun c_15 => ?_) (fun c_15 => ?_)
    · have k_15 := Int32.not_lt.mpr c_15
      refine g_aload_n (pc := 24) dX9_tear_24 0 rfl rfl ?_
      refine gf_X9_13 (pc := 25) rfl dX9_tear_25 ?_
      refine g_iload_n (pc := 28) dX9_tear_28 1 rfl rfl ?_
      refine g_iconst (pc := 29) (v := -1) dX9_tear_29 (by decide) ?_
      refine g_iast (pc := 30) n rfl rfl (show n < 6 from hn) (by decide) dX9_tear_30 ?_
      refine g_iconst (pc := 31) (v := 1) dX9_tear_31 (by decide) ?_
      exact g_iret (pc := 32) hM rfl rfl ⟨rfl, rfl⟩ dX9_tear_32
    · have k_15 := Int32.not_le.mp c_15
      exact absurd (by rw [hm]; exact nI_pos' (by omega)) c_15
  · exact absurd (hi.symm.trans c_4) (by decide)
set_option maxRecDepth 100000 in
set_option maxHeartbeats 4000000 in
theorem c_X9_mean_bad (E : En) (S : St) (r : Int32) (hr : idxF 6 r = false) : CTe E i_X9_mean S [.ref (eA E 58), .int r] S (some (.int (-1))) := by
  refine ct_of [(0, .ref (eA E 58)), (1, .int r)] (by decide +kernel) (Nat.le_of_ble_eq_true rfl) rfl (fun X hM => ?_)
  refine g_iload_n (pc := 0) dX9_mean_0 1 rfl rfl ?_
  refine g_invS (pc := 1) j_X9_isRow mw_X9_70 dX9_mean_1 (by rfl) (c_X9_isRow E S r ) (Nat.le_of_ble_eq_true rfl) (Nat.le_of_ble_eq_true rfl) (by rfl) (Nat.le_of_ble_eq_true rfl) ?_
  refine g_b_ne (pc := 4) (tgt := 9) dX9_mean_4 (by decide) (fun c_4 => ?_) (fun c_4 => ?_)
  · exact absurd (hr.symm.trans c_4) (by decide)
  · refine g_iconst (pc := 7) (v := -1) dX9_mean_7 (by decide) ?_
    exact g_iret (pc := 8) hM rfl rfl ⟨rfl, rfl⟩ dX9_mean_8
set_option maxRecDepth 100000 in
set_option maxHeartbeats 4000000 in
theorem c_X9_mean_m (E : En) (S : St) (n : Nat) (hn : n < 6) (h : gA S 60 n = -1) : CTe E i_X9_mean S [.ref (eA E 58), .int (nI n)] (fndS S 1) (some (.int (-3))) := by
  have hi := idx_in hn (show 6 < 2 ^ 31 by omega)
  refine ct_of [(0, .ref (eA E 58)), (1, .int (nI n))] (by decide +kernel) (Nat.le_of_ble_eq_true rfl) rfl (fun X hM => ?_)
  refine g_iload_n (pc := 0) dX9_mean_0 1 rfl rfl ?_
  refine g_invS (pc := 1) j_X9_isRow mw_X9_70 dX9_mean_1 (by rfl) (c_X9_isRow E S (nI n) ) (Nat.le_of_ble_eq_true rfl) (Nat.le_of_ble_eq_true rfl) (by rfl) (Nat.le_of_ble_eq_true rfl) ?_
  refine g_b_ne (pc := 4) (tgt := 9) dX9_mean_4 (by decide) (fun c_4 => ?_) (fun c_4 => ?_)
  · refine g_aload_n (pc := 9) dX9_mean_9 0 rfl rfl ?_
    refine gf_X9_13 (pc := 10) rfl dX9_mean_10 ?_
    refine g_iload_n (pc := 13) dX9_mean_13 1 rfl rfl ?_
    refine g_iald (pc := 14) n rfl rfl (show n < 6 from hn) (by decide) dX9_mean_14 ?_
    refine g_if_ge (pc := 15) (tgt := 24) dX9_mean_15 (by decide) (fun c_15 => ?_) (fun c_15 => ?_)
    · have k_15 := Int32.not_lt.mpr c_15
      exact absurd c_15 (by rw [h]; decide)
    · have k_15 := Int32.not_le.mp c_15
      refine g_aload_n (pc := 18) dX9_mean_18 0 rfl rfl ?_
      refine g_iconst (pc := 19) (v := 1) dX9_mean_19 (by decide) ?_
      refine g_invV (pc := 20) j_X9_finds mw_X9_74 dX9_mean_20 (rcv_X9) (by rfl) (c_X9_finds E S 1 (by first | assumption | omega | rfl)) (Nat.le_of_ble_eq_true rfl) (Nat.le_of_ble_eq_true rfl) (by rfl) (Nat.le_of_ble_eq_true rfl) ?_
      exact g_iret (pc := 23) hM rfl rfl ⟨rfl, rfl⟩ dX9_mean_23
  · exact absurd (hi.symm.trans c_4) (by decide)
set_option maxRecDepth 100000 in
set_option maxHeartbeats 4000000 in
theorem c_X9_mean_0 (E : En) (S : St) (n : Nat) (hn : n < 6) (hm : gA S 60 n = nI 0) : CTe E i_X9_mean S [.ref (eA E 58), .int (nI n)] (fndS S 4) (some (.int (-3))) := by
  have hi := idx_in hn (show 6 < 2 ^ 31 by omega)
  refine ct_of [(0, .ref (eA E 58)), (1, .int (nI n))] (by decide +kernel) (Nat.le_of_ble_eq_true rfl) rfl (fun X hM => ?_)
  refine g_iload_n (pc := 0) dX9_mean_0 1 rfl rfl ?_
  refine g_invS (pc := 1) j_X9_isRow mw_X9_70 dX9_mean_1 (by rfl) (c_X9_isRow E S (nI n) ) (Nat.le_of_ble_eq_true rfl) (Nat.le_of_ble_eq_true rfl) (by rfl) (Nat.le_of_ble_eq_true rfl) ?_
  refine g_b_ne (pc := 4) (tgt := 9) dX9_mean_4 (by decide) (fun c_4 => ?_) (fun c_4 => ?_)
  · refine g_aload_n (pc := 9) dX9_mean_9 0 rfl rfl ?_
    refine gf_X9_13 (pc := 10) rfl dX9_mean_10 ?_
    refine g_iload_n (pc := 13) dX9_mean_13 1 rfl rfl ?_
    refine g_iald (pc := 14) n rfl rfl (show n < 6 from hn) (by decide) dX9_mean_14 ?_
    refine g_if_ge (pc := 15) (tgt := 24) dX9_mean_15 (by decide) (fun c_15 => ?_) (fun c_15 => ?_)
    · have k_15 := Int32.not_lt.mpr c_15
      refine g_aload_n (pc := 24) dX9_mean_24 0 rfl rfl ?_
      refine gf_X9_13 (pc := 25) rfl dX9_mean_25 ?_
      refine g_iload_n (pc := 28) dX9_mean_28 1 rfl rfl ?_
      refine g_iald (pc := 29) n rfl rfl (show n < 6 from hn) (by decide) dX9_mean_29 ?_
      refine g_if_ne (pc := 30) (tgt := 39) dX9_mean_30 (by decide) (fun c_30 => ?_) (fun c_30 => ?_)
      · exact absurd (hm.trans nI_0) c_30
      · refine g_aload_n (pc := 33) dX9_mean_33 0 rfl rfl ?_
        refine g_iconst (pc := 34) (v := 4) dX9_mean_34 (by decide) ?_
        refine g_invV (pc := 35) j_X9_finds mw_X9_74 dX9_mean_35 (rcv_X9) (by rfl) (c_X9_finds E S 4 (by first | assumption | omega | rfl)) (Nat.le_of_ble_eq_true rfl) (Nat.le_of_ble_eq_true rfl) (by rfl) (Nat.le_of_ble_eq_true rfl) ?_
        exact g_iret (pc := 38) hM rfl rfl ⟨rfl, rfl⟩ dX9_mean_38
    · have k_15 := Int32.not_le.mp c_15
      exact absurd (by rw [hm]; decide) c_15
  · exact absurd (hi.symm.trans c_4) (by decide)
set_option maxRecDepth 100000 in
set_option maxHeartbeats 4000000 in
theorem c_X9_mean_ok (E : En) (S : St) (n m : Nat) (hn : n < 6) (hm : gA S 60 n = nI m) (h0 : 0 < m) (hm2 : m ≤ 40) : CTe E i_X9_mean S [.ref (eA E 58), .int (nI n)] (sI S 58 7 ((sumL (fun i => gA S 61 (40 * n + i)) m / lN m).toInt32)) (some (.int 1)) := by
  have hi := idx_in hn (show 6 < 2 ^ 31 by omega)
  refine ct_of [(0, .ref (eA E 58)), (1, .int (nI n))] (by decide +kernel) (Nat.le_of_ble_eq_true rfl) rfl (fun X hM => ?_)
  refine g_iload_n (pc := 0) dX9_mean_0 1 rfl rfl ?_
  refine g_invS (pc := 1) j_X9_isRow mw_X9_70 dX9_mean_1 (by rfl) (c_X9_isRow E S (nI n) ) (Nat.le_of_ble_eq_true rfl) (Nat.le_of_ble_eq_true rfl) (by rfl) (Nat.le_of_ble_eq_true rfl) ?_
  refine g_b_ne (pc := 4) (tgt := 9) dX9_mean_4 (by decide) (fun c_4 => ?_) (fun c_4 => ?_)
  · refine g_aload_n (pc := 9) dX9_mean_9 0 rfl rfl ?_
    refine gf_X9_13 (pc := 10) rfl dX9_mean_10 ?_
    refine g_iload_n (pc := 13) dX9_mean_13 1 rfl rfl ?_
    refine g_iald (pc := 14) n rfl rfl (show n < 6 from hn) (by decide) dX9_mean_14 ?_
    refine g_if_ge (pc := 15) (tgt := 24) dX9_mean_15 (by decide) (fun c_15 => ?_) (fun c_15 => ?_)
    · have k_15 := Int32.not_lt.mpr c_15
      refine g_aload_n (pc := 24) dX9_mean_24 0 rfl rfl ?_
      refine gf_X9_13 (pc := 25) rfl dX9_mean_25 ?_
      refine g_iload_n (pc := 28) dX9_mean_28 1 rfl rfl ?_
      refine g_iald (pc := 29) n rfl rfl (show n < 6 from hn) (by decide) dX9_mean_29 ?_
      refine g_if_ne (pc := 30) (tgt := 39) dX9_mean_30 (by decide) (fun c_30 => ?_) (fun c_30 => ?_)
      · refine g_lconst (pc := 39) (v := 0) dX9_mean_39 (by decide) ?_
        refine g_lstore_n (pc := 40) (L' := [(2, .long 0), (0, .ref (eA E 58)), (1, .int (nI n))]) dX9_mean_40 rfl (Nat.le_of_ble_eq_true rfl) rfl ?_
        refine g_iconst (pc := 41) (v := 0) dX9_mean_41 (by decide) ?_
        refine g_istore (pc := 42) (L' := [(4, .int 0), (2, .long 0), (0, .ref (eA E 58)), (1, .int (nI n))]) dX9_mean_42 (Nat.le_of_ble_eq_true rfl) rfl ?_
        have H_44 : ∀ j : Nat, j ≤ m → G E X i_X9_mean S 44 [(0, .ref (eA E 58)), (1, .int (nI n)), (2, .long (sumL (fun i => gA S 61 (40 * n + i)) j)), (4, .int (nI j))] [] := by
          refine dn_ind m (fun j hn_44 ih_44 => ?_)
          refine g_iload (pc := 44) dX9_mean_44 3 rfl ?_
          refine g_aload_n (pc := 46) dX9_mean_46 0 rfl rfl ?_
          refine gf_X9_13 (pc := 47) rfl dX9_mean_47 ?_
          refine g_iload_n (pc := 50) dX9_mean_50 1 rfl rfl ?_
          refine g_iald (pc := 51) n rfl rfl (show n < 6 from hn) (by decide) dX9_mean_51 ?_
          refine g_icmp_ge (pc := 52) (tgt := 77) dX9_mean_52 (by decide) (fun c_52 => ?_) (fun c_52 => ?_)
          · have k_52 := Int32.not_lt.mpr c_52
            have he_44 : j = m := Nat.le_antisymm hn_44 (by exact nle_of (N := m) rfl hm (by omega) (by omega) c_52)
            rw [he_44]
            refine g_aload_n (pc := 77) dX9_mean_77 0 rfl rfl ?_
            refine g_lload_n (pc := 78) dX9_mean_78 2 rfl rfl ?_
            refine g_aload_n (pc := 79) dX9_mean_79 0 rfl rfl ?_
            refine gf_X9_13 (pc := 80) rfl dX9_mean_80 ?_
            refine g_iload_n (pc := 83) dX9_mean_83 1 rfl rfl ?_
            refine g_iald (pc := 84) n rfl rfl (show n < 6 from hn) (by decide) dX9_mean_84 ?_
            refine g_i2l (pc := 85) dX9_mean_85 ?_
            refine g_ldiv (pc := 86) dX9_mean_86 (by rw [hm, nI_l (by omega)]; exact mean0 h0 hm2) ?_
            refine g_l2i (pc := 87) dX9_mean_87 ?_
            refine g_invV (pc := 88) j_X9_tells mw_X9_77 dX9_mean_88 (rcv_X9) (by rfl) (c_X9_tells E S ((sumL (fun i => gA S 61 (40 * n + i)) m / (gA S 60 n).toInt64).toInt32) ) (Nat.le_of_ble_eq_true rfl) (Nat.le_of_ble_eq_true rfl) (by rfl) (Nat.le_of_ble_eq_true rfl) ?_
            exact g_iret (pc := 91) hM rfl rfl ⟨by rw [hm, nI_l (by omega)], rfl⟩ dX9_mean_91
          · have k_52 := Int32.not_le.mp c_52
            have hlt_44 : j < m := by exact nlt_of (N := m) rfl hm (by omega) (by omega) c_52
            refine g_lload_n (pc := 55) dX9_mean_55 2 rfl rfl ?_
            refine g_aload_n (pc := 56) dX9_mean_56 0 rfl rfl ?_
            refine gf_X9_16 (pc := 57) rfl dX9_mean_57 ?_
            refine g_bipush (pc := 60) (v := 40) dX9_mean_60 (by decide) ?_
            refine g_iload_n (pc := 62) dX9_mean_62 1 rfl rfl ?_
            refine g_imul (pc := 63) dX9_mean_63 ?_
            refine g_iload (pc := 64) dX9_mean_64 3 rfl ?_
            refine g_iadd (pc := 66) dX9_mean_66 ?_
            refine g_iald (pc := 67) ((40 * n) + j) (nI_aE (nI_mE rfl rfl) rfl) rfl (show (40 * n) + j < 240 by omega) (by decide) dX9_mean_67 ?_
            refine g_i2l (pc := 68) dX9_mean_68 ?_
            refine g_ladd (pc := 69) dX9_mean_69 ?_
            refine g_lstore_n (pc := 70) (L' := [(2, .long (sumL (fun i => gA S 61 (40 * n + i)) j + (gA S 61 ((40 * n) + j)).toInt64)), (0, .ref (eA E 58)), (1, .int (nI n)), (4, .int (nI j))]) dX9_mean_70 rfl (Nat.le_of_ble_eq_true rfl) rfl ?_
            refine g_iinc (pc := 71) (L' := [(4, .int (nI j + 1)), (2, .long (sumL (fun i => gA S 61 (40 * n + i)) j + (gA S 61 ((40 * n) + j)).toInt64)), (0, .ref (eA E 58)), (1, .int (nI n))]) dX9_mean_71 (k := 3) rfl (v := nI j + 1) rfl (Nat.le_of_ble_eq_true rfl) rfl ?_
            refine g_goto (pc := 74) (tgt := 44) dX9_mean_74 (by decide) ?_
            refine g_sub (L' := [(0, .ref (eA E 58)), (1, .int (nI n)), (2, .long (sumL (fun i => gA S 61 (40 * n + i)) j + (gA S 61 ((40 * n) + j)).toInt64)), (4, .int (nI j + 1))]) [2, 3, 1, 0] rfl ?_
            exact g_eq rfl (by rw [nI_1]; rfl) rfl (ih_44 hlt_44)
        refine g_sub (L' := [(0, .ref (eA E 58)), (1, .int (nI n)), (2, .long 0), (4, .int 0)]) [2, 3, 1, 0] rfl ?_
        exact g_eq rfl rfl rfl (H_44 0 (Nat.zero_le _))
      · exact absurd (hm.symm.trans c_30) (nI_ne0 h0 (by omega))
    · have k_15 := Int32.not_le.mp c_15
      exact absurd (by rw [hm]; exact nI_pos' (by omega)) c_15
  · exact absurd (hi.symm.trans c_4) (by decide)
set_option maxRecDepth 100000 in
set_option maxHeartbeats 4000000 in
theorem c_X9_copy_bad (E : En) (S : St) (r t i j z : Int32) (h : ¬ (idxF 6 r = true ∧ idxF 6 t = true)) : CTe E i_X9_copy S [.ref (eA E 58), .int r, .int i, .int t, .int j, .int z] S (some (.int (-1))) := by
  refine ct_of [(0, .ref (eA E 58)), (1, .int r), (2, .int i), (3, .int t), (4, .int j), (5, .int z)] (by decide +kernel) (Nat.le_of_ble_eq_true rfl) rfl (fun X hM => ?_)
  refine g_iload_n (pc := 0) dX9_copy_0 1 rfl rfl ?_
  refine g_invS (pc := 1) j_X9_isRow mw_X9_70 dX9_copy_1 (by rfl) (c_X9_isRow E S r ) (Nat.le_of_ble_eq_true rfl) (Nat.le_of_ble_eq_true rfl) (by rfl) (Nat.le_of_ble_eq_true rfl) ?_
  refine g_b_eq (pc := 4) (tgt := 14) dX9_copy_4 (by decide) (fun c_4 => ?_) (fun c_4 => ?_)
  · refine g_iconst (pc := 14) (v := -1) dX9_copy_14 (by decide) ?_
    exact g_iret (pc := 15) hM rfl rfl ⟨rfl, rfl⟩ dX9_copy_15
  · refine g_iload_n (pc := 7) dX9_copy_7 3 rfl rfl ?_
    refine g_invS (pc := 8) j_X9_isRow mw_X9_70 dX9_copy_8 (by rfl) (c_X9_isRow E S t ) (Nat.le_of_ble_eq_true rfl) (Nat.le_of_ble_eq_true rfl) (by rfl) (Nat.le_of_ble_eq_true rfl) ?_
    refine g_b_ne (pc := 11) (tgt := 16) dX9_copy_11 (by decide) (fun c_11 => ?_) (fun c_11 => ?_)
    · exact absurd ⟨c_4, c_11⟩ h
    · refine g_iconst (pc := 14) (v := -1) dX9_copy_14 (by decide) ?_
      exact g_iret (pc := 15) hM rfl rfl ⟨rfl, rfl⟩ dX9_copy_15
set_option maxRecDepth 100000 in
set_option maxHeartbeats 4000000 in
theorem c_X9_copy_neg (E : En) (S : St) (n t : Nat) (i j z : Int32) (hn : n < 6) (ht : t < 6) (h : z < 0) : CTe E i_X9_copy S [.ref (eA E 58), .int (nI n), .int i, .int (nI t), .int j, .int z] (fndS S 5) (some (.int (-3))) := by
  have hi := idx_in hn (show 6 < 2 ^ 31 by omega)
  have hi2 := idx_in ht (show 6 < 2 ^ 31 by omega)
  refine ct_of [(0, .ref (eA E 58)), (1, .int (nI n)), (2, .int i), (3, .int (nI t)), (4, .int j), (5, .int z)] (by decide +kernel) (Nat.le_of_ble_eq_true rfl) rfl (fun X hM => ?_)
  refine g_iload_n (pc := 0) dX9_copy_0 1 rfl rfl ?_
  refine g_invS (pc := 1) j_X9_isRow mw_X9_70 dX9_copy_1 (by rfl) (c_X9_isRow E S (nI n) ) (Nat.le_of_ble_eq_true rfl) (Nat.le_of_ble_eq_true rfl) (by rfl) (Nat.le_of_ble_eq_true rfl) ?_
  refine g_b_eq (pc := 4) (tgt := 14) dX9_copy_4 (by decide) (fun c_4 => ?_) (fun c_4 => ?_)
  · exact absurd (hi.symm.trans c_4) (by decide)
  · refine g_iload_n (pc := 7) dX9_copy_7 3 rfl rfl ?_
    refine g_invS (pc := 8) j_X9_isRow mw_X9_70 dX9_copy_8 (by rfl) (c_X9_isRow E S (nI t) ) (Nat.le_of_ble_eq_true rfl) (Nat.le_of_ble_eq_true rfl) (by rfl) (Nat.le_of_ble_eq_true rfl) ?_
    refine g_b_ne (pc := 11) (tgt := 16) dX9_copy_11 (by decide) (fun c_11 => ?_) (fun c_11 => ?_)
    · refine g_iload (pc := 16) dX9_copy_16 5 rfl ?_
      refine g_if_ge (pc := 18) (tgt := 27) dX9_copy_18 (by decide) (fun c_18 => ?_) (fun c_18 => ?_)
      · have k_18 := Int32.not_lt.mpr c_18
        exact absurd h (Int32.not_lt.mpr c_18)
      · have k_18 := Int32.not_le.mp c_18
        refine g_aload_n (pc := 21) dX9_copy_21 0 rfl rfl ?_
        refine g_iconst (pc := 22) (v := 5) dX9_copy_22 (by decide) ?_
        refine g_invV (pc := 23) j_X9_finds mw_X9_74 dX9_copy_23 (rcv_X9) (by rfl) (c_X9_finds E S 5 (by first | assumption | omega | rfl)) (Nat.le_of_ble_eq_true rfl) (Nat.le_of_ble_eq_true rfl) (by rfl) (Nat.le_of_ble_eq_true rfl) ?_
        exact g_iret (pc := 26) hM rfl rfl ⟨rfl, rfl⟩ dX9_copy_26
    · exact absurd (hi2.symm.trans c_11) (by decide)
set_option maxRecDepth 100000 in
set_option maxHeartbeats 4000000 in
theorem c_X9_copy_m (E : En) (S : St) (n t : Nat) (i j z : Int32) (hn : n < 6) (ht : t < 6) (h : ¬ z < 0) (h1 : gA S 60 n = -1 ∨ gA S 60 t = -1) : CTe E i_X9_copy S [.ref (eA E 58), .int (nI n), .int i, .int (nI t), .int j, .int z] (fndS S 1) (some (.int (-3))) := by
  have hi := idx_in hn (show 6 < 2 ^ 31 by omega)
  have hi2 := idx_in ht (show 6 < 2 ^ 31 by omega)
  refine ct_of [(0, .ref (eA E 58)), (1, .int (nI n)), (2, .int i), (3, .int (nI t)), (4, .int j), (5, .int z)] (by decide +kernel) (Nat.le_of_ble_eq_true rfl) rfl (fun X hM => ?_)
  refine g_iload_n (pc := 0) dX9_copy_0 1 rfl rfl ?_
  refine g_invS (pc := 1) j_X9_isRow mw_X9_70 dX9_copy_1 (by rfl) (c_X9_isRow E S (nI n) ) (Nat.le_of_ble_eq_true rfl) (Nat.le_of_ble_eq_true rfl) (by rfl) (Nat.le_of_ble_eq_true rfl) ?_
  refine g_b_eq (pc := 4) (tgt := 14) dX9_copy_4 (by decide) (fun c_4 => ?_) (fun c_4 => ?_)
  · exact absurd (hi.symm.trans c_4) (by decide)
  · refine g_iload_n (pc := 7) dX9_copy_7 3 rfl rfl ?_
    refine g_invS (pc := 8) j_X9_isRow mw_X9_70 dX9_copy_8 (by rfl) (c_X9_isRow E S (nI t) ) (Nat.le_of_ble_eq_true rfl) (Nat.le_of_ble_eq_true rfl) (by rfl) (Nat.le_of_ble_eq_true rfl) ?_
    refine g_b_ne (pc := 11) (tgt := 16) dX9_copy_11 (by decide) (fun c_11 => ?_) (fun c_11 => ?_)
    · refine g_iload (pc := 16) dX9_copy_16 5 rfl ?_
      refine g_if_ge (pc := 18) (tgt := 27) dX9_copy_18 (by decide) (fun c_18 => ?_) (fun c_18 => ?_)
      · have k_18 := Int32.not_lt.mpr c_18
        refine g_aload_n (pc := 27) dX9_copy_27 0 rfl rfl ?_
        refine gf_X9_13 (pc := 28) rfl dX9_copy_28 ?_
        refine g_iload_n (pc := 31) dX9_copy_31 1 rfl rfl ?_
        refine g_iald (pc := 32) n rfl rfl (show n < 6 from hn) (by decide) dX9_copy_32 ?_
        refine g_if_lt (pc := 33) (tgt := 45) dX9_copy_33 (by decide) (fun c_33 => ?_) (fun c_33 => ?_)
        · have k_33 := Int32.not_le.mpr c_33
          refine g_aload_n (pc := 45) dX9_copy_45 0 rfl rfl ?_
          refine g_iconst (pc := 46) (v := 1) dX9_copy_46 (by decide) ?_
          refine g_invV (pc := 47) j_X9_finds mw_X9_74 dX9_copy_47 (rcv_X9) (by rfl) (c_X9_finds E S 1 (by first | assumption | omega | rfl)) (Nat.le_of_ble_eq_true rfl) (Nat.le_of_ble_eq_true rfl) (by rfl) (Nat.le_of_ble_eq_true rfl) ?_
          exact g_iret (pc := 50) hM rfl rfl ⟨rfl, rfl⟩ dX9_copy_50
        · have k_33 := Int32.not_lt.mp c_33
          refine g_aload_n (pc := 36) dX9_copy_36 0 rfl rfl ?_
          refine gf_X9_13 (pc := 37) rfl dX9_copy_37 ?_
          refine g_iload_n (pc := 40) dX9_copy_40 3 rfl rfl ?_
          refine g_iald (pc := 41) t rfl rfl (show t < 6 from ht) (by decide) dX9_copy_41 ?_
          refine g_if_ge (pc := 42) (tgt := 51) dX9_copy_42 (by decide) (fun c_42 => ?_) (fun c_42 => ?_)
          · have k_42 := Int32.not_lt.mpr c_42
            exact absurd h1 (by intro q; rcases q with q | q; exact absurd c_33 (by rw [q]; decide); exact absurd c_42 (by rw [q]; decide))
          · have k_42 := Int32.not_le.mp c_42
            refine g_aload_n (pc := 45) dX9_copy_45 0 rfl rfl ?_
            refine g_iconst (pc := 46) (v := 1) dX9_copy_46 (by decide) ?_
            refine g_invV (pc := 47) j_X9_finds mw_X9_74 dX9_copy_47 (rcv_X9) (by rfl) (c_X9_finds E S 1 (by first | assumption | omega | rfl)) (Nat.le_of_ble_eq_true rfl) (Nat.le_of_ble_eq_true rfl) (by rfl) (Nat.le_of_ble_eq_true rfl) ?_
            exact g_iret (pc := 50) hM rfl rfl ⟨rfl, rfl⟩ dX9_copy_50
      · have k_18 := Int32.not_le.mp c_18
        exact absurd (Int32.not_le.mp c_18) h
    · exact absurd (hi2.symm.trans c_11) (by decide)
set_option maxRecDepth 100000 in
set_option maxHeartbeats 4000000 in
theorem c_X9_copy_b (E : En) (S : St) (n t m m2 : Nat) (i j z : Int32) (hn : n < 6) (ht : t < 6) (h : ¬ z < 0) (hm : gA S 60 n = nI m) (hm2 : gA S 60 t = nI m2) (hl : m ≤ 40) (hl2 : m2 ≤ 40) (h3 : ¬ (¬ i < 0 ∧ ¬ j < 0 ∧ ¬ (nI m).toInt64 < i.toInt64 + z.toInt64 ∧ j.toInt64 + z.toInt64 ≤ (nI m2).toInt64)) : CTe E i_X9_copy S [.ref (eA E 58), .int (nI n), .int i, .int (nI t), .int j, .int z] (fndS S 2) (some (.int (-3))) := by
  have hi := idx_in hn (show 6 < 2 ^ 31 by omega)
  have hi2 := idx_in ht (show 6 < 2 ^ 31 by omega)
  refine ct_of [(0, .ref (eA E 58)), (1, .int (nI n)), (2, .int i), (3, .int (nI t)), (4, .int j), (5, .int z)] (by decide +kernel) (Nat.le_of_ble_eq_true rfl) rfl (fun X hM => ?_)
  refine g_iload_n (pc := 0) dX9_copy_0 1 rfl rfl ?_
  refine g_invS (pc := 1) j_X9_isRow mw_X9_70 dX9_copy_1 (by rfl) (c_X9_isRow E S (nI n) ) (Nat.le_of_ble_eq_true rfl) (Nat.le_of_ble_eq_true rfl) (by rfl) (Nat.le_of_ble_eq_true rfl) ?_
  refine g_b_eq (pc := 4) (tgt := 14) dX9_copy_4 (by decide) (fun c_4 => ?_) (fun c_4 => ?_)
  · exact absurd (hi.symm.trans c_4) (by decide)
  · refine g_iload_n (pc := 7) dX9_copy_7 3 rfl rfl ?_
    refine g_invS (pc := 8) j_X9_isRow mw_X9_70 dX9_copy_8 (by rfl) (c_X9_isRow E S (nI t) ) (Nat.le_of_ble_eq_true rfl) (Nat.le_of_ble_eq_true rfl) (by rfl) (Nat.le_of_ble_eq_true rfl) ?_
    refine g_b_ne (pc := 11) (tgt := 16) dX9_copy_11 (by decide) (fun c_11 => ?_) (fun c_11 => ?_)
    · refine g_iload (pc := 16) dX9_copy_16 5 rfl ?_
      refine g_if_ge (pc := 18) (tgt := 27) dX9_copy_18 (by decide) (fun c_18 => ?_) (fun c_18 => ?_)
      · have k_18 := Int32.not_lt.mpr c_18
        refine g_aload_n (pc := 27) dX9_copy_27 0 rfl rfl ?_
        refine gf_X9_13 (pc := 28) rfl dX9_copy_28 ?_
        refine g_iload_n (pc := 31) dX9_copy_31 1 rfl rfl ?_
        refine g_iald (pc := 32) n rfl rfl (show n < 6 from hn) (by decide) dX9_copy_32 ?_
        refine g_if_lt (pc := 33) (tgt := 45) dX9_copy_33 (by decide) (fun c_33 => ?_) (fun c_33 => ?_)
        · have k_33 := Int32.not_le.mpr c_33
          exact absurd c_33 (by rw [hm]; exact nI_pos (by omega))
        · have k_33 := Int32.not_lt.mp c_33
          refine g_aload_n (pc := 36) dX9_copy_36 0 rfl rfl ?_
          refine gf_X9_13 (pc := 37) rfl dX9_copy_37 ?_
          refine g_iload_n (pc := 40) dX9_copy_40 3 rfl rfl ?_
          refine g_iald (pc := 41) t rfl rfl (show t < 6 from ht) (by decide) dX9_copy_41 ?_
          refine g_if_ge (pc := 42) (tgt := 51) dX9_copy_42 (by decide) (fun c_42 => ?_) (fun c_42 => ?_)
          · have k_42 := Int32.not_lt.mpr c_42
            refine g_iload_n (pc := 51) dX9_copy_51 2 rfl rfl ?_
            refine g_if_lt (pc := 52) (tgt := 95) dX9_copy_52 (by decide) (fun c_52 => ?_) (fun c_52 => ?_)
            · have k_52 := Int32.not_le.mpr c_52
              refine g_aload_n (pc := 95) dX9_copy_95 0 rfl rfl ?_
              refine g_iconst (pc := 96) (v := 2) dX9_copy_96 (by decide) ?_
              refine g_invV (pc := 97) j_X9_finds mw_X9_74 dX9_copy_97 (rcv_X9) (by rfl) (c_X9_finds E S 2 (by first | assumption | omega | rfl)) (Nat.le_of_ble_eq_true rfl) (Nat.le_of_ble_eq_true rfl) (by rfl) (Nat.le_of_ble_eq_true rfl) ?_
              exact g_iret (pc := 100) hM rfl rfl ⟨rfl, rfl⟩ dX9_copy_100
            · have k_52 := Int32.not_lt.mp c_52
              refine g_iload (pc := 55) dX9_copy_55 4 rfl ?_
              refine g_if_lt (pc := 57) (tgt := 95) dX9_copy_57 (by decide) (fun c_57 => ?_) (fun c_57 => ?_)
              · have k_57 := Int32.not_le.mpr c_57
                refine g_aload_n (pc := 95) dX9_copy_95 0 rfl rfl ?_
                refine g_iconst (pc := 96) (v := 2) dX9_copy_96 (by decide) ?_
                refine g_invV (pc := 97) j_X9_finds mw_X9_74 dX9_copy_97 (rcv_X9) (by rfl) (c_X9_finds E S 2 (by first | assumption | omega | rfl)) (Nat.le_of_ble_eq_true rfl) (Nat.le_of_ble_eq_true rfl) (by rfl) (Nat.le_of_ble_eq_true rfl) ?_
                exact g_iret (pc := 100) hM rfl rfl ⟨rfl, rfl⟩ dX9_copy_100
              · have k_57 := Int32.not_lt.mp c_57
                refine g_iload_n (pc := 60) dX9_copy_60 2 rfl rfl ?_
                refine g_i2l (pc := 61) dX9_copy_61 ?_
                refine g_iload (pc := 62) dX9_copy_62 5 rfl ?_
                refine g_i2l (pc := 64) dX9_copy_64 ?_
                refine g_ladd (pc := 65) dX9_copy_65 ?_
                refine g_aload_n (pc := 66) dX9_copy_66 0 rfl rfl ?_
                refine gf_X9_13 (pc := 67) rfl dX9_copy_67 ?_
                refine g_iload_n (pc := 70) dX9_copy_70 1 rfl rfl ?_
                refine g_iald (pc := 71) n rfl rfl (show n < 6 from hn) (by decide) dX9_copy_71 ?_
                refine g_i2l (pc := 72) dX9_copy_72 ?_
                refine g_lcmp (pc := 73) dX9_copy_73 ?_
                refine g_lc_gt (pc := 74) (tgt := 95) dX9_copy_74 (by decide) (fun c_74 => ?_) (fun c_74 => ?_)
                · have k_74 := Int64.not_le.mpr c_74
                  refine g_aload_n (pc := 95) dX9_copy_95 0 rfl rfl ?_
                  refine g_iconst (pc := 96) (v := 2) dX9_copy_96 (by decide) ?_
                  refine g_invV (pc := 97) j_X9_finds mw_X9_74 dX9_copy_97 (rcv_X9) (by rfl) (c_X9_finds E S 2 (by first | assumption | omega | rfl)) (Nat.le_of_ble_eq_true rfl) (Nat.le_of_ble_eq_true rfl) (by rfl) (Nat.le_of_ble_eq_true rfl) ?_
                  exact g_iret (pc := 100) hM rfl rfl ⟨rfl, rfl⟩ dX9_copy_100
                · have k_74 := Int64.not_lt.mp c_74
                  refine g_iload (pc := 77) dX9_copy_77 4 rfl ?_
                  refine g_i2l (pc := 79) dX9_copy_79 ?_
                  refine g_iload (pc := 80) dX9_copy_80 5 rfl ?_
                  refine g_i2l (pc := 82) dX9_copy_82 ?_
                  refine g_ladd (pc := 83) dX9_copy_83 ?_
                  refine g_aload_n (pc := 84) dX9_copy_84 0 rfl rfl ?_
                  refine gf_X9_13 (pc := 85) rfl dX9_copy_85 ?_
                  refine g_iload_n (pc := 88) dX9_copy_88 3 rfl rfl ?_
                  refine g_iald (pc := 89) t rfl rfl (show t < 6 from ht) (by decide) dX9_copy_89 ?_
                  refine g_i2l (pc := 90) dX9_copy_90 ?_
                  refine g_lcmp (pc := 91) dX9_copy_91 ?_
                  refine g_lc_le (pc := 92) (tgt := 101) dX9_copy_92 (by decide) (fun c_92 => ?_) (fun c_92 => ?_)
                  · have k_92 := Int64.not_lt.mpr c_92
                    exact absurd ⟨c_52, c_57, by rw [← hm]; exact c_74, by rw [← hm2]; exact c_92⟩ h3
                  · have k_92 := Int64.not_le.mp c_92
                    refine g_aload_n (pc := 95) dX9_copy_95 0 rfl rfl ?_
                    refine g_iconst (pc := 96) (v := 2) dX9_copy_96 (by decide) ?_
                    refine g_invV (pc := 97) j_X9_finds mw_X9_74 dX9_copy_97 (rcv_X9) (by rfl) (c_X9_finds E S 2 (by first | assumption | omega | rfl)) (Nat.le_of_ble_eq_true rfl) (Nat.le_of_ble_eq_true rfl) (by rfl) (Nat.le_of_ble_eq_true rfl) ?_
                    exact g_iret (pc := 100) hM rfl rfl ⟨rfl, rfl⟩ dX9_copy_100
          · have k_42 := Int32.not_le.mp c_42
            exact absurd (by rw [hm2]; exact nI_pos' (by omega)) c_42
      · have k_18 := Int32.not_le.mp c_18
        exact absurd (Int32.not_le.mp c_18) h
    · exact absurd (hi2.symm.trans c_11) (by decide)
/-- a run of z places from a on, put from b on, n of them done -/
def cpyH (f h : Nat → Int32) (a n : Nat) : Nat → Int32 := fun i => if i < n then f (a + i) else h i
theorem cpyH_0 (f h : Nat → Int32) (a : Nat) : cpyH f h a 0 = h := by funext i; simp [cpyH]
theorem cpyH_s (f h : Nat → Int32) (a n : Nat) : upd (cpyH f h a n) n (f (a + n)) = cpyH f h a (n + 1) := by
  funext i
  unfold cpyH upd
  by_cases q : i = n
  · subst q
    rw [if_pos rfl, if_pos (by omega)]
  · rw [if_neg q]
    dsimp only
    by_cases q2 : i < n
    · rw [if_pos q2, if_pos (by omega)]
    · rw [if_neg q2, if_neg (by omega)]
def cpyB (f g : Nat → Int32) (b n : Nat) : Nat → Int32 := fun i => if b ≤ i ∧ i < b + n then g (i - b) else f i
theorem cpyB_0 (f g : Nat → Int32) (b : Nat) : cpyB f g b 0 = f := by
  funext i
  simp only [cpyB]
  rw [if_neg (by omega)]
theorem cpyB_s (f g : Nat → Int32) (b n : Nat) : upd (cpyB f g b n) (b + n) (g n) = cpyB f g b (n + 1) := by
  funext i
  unfold cpyB upd
  by_cases q : i = b + n
  · subst q
    rw [if_pos rfl, if_pos (by omega), show b + n - b = n by omega]
  · rw [if_neg q]
    dsimp only
    by_cases q2 : b ≤ i ∧ i < b + n
    · rw [if_pos q2, if_pos (by omega)]
    · rw [if_neg q2, if_neg (by omega)]
theorem i64_add {a z : Nat} (ha : a < 2 ^ 30) (hz : z < 2 ^ 30) : (nI a).toInt64 + (nI z).toInt64 = lN (a + z) := by rw [nI_l (by omega), nI_l (by omega), lN_add]
set_option maxRecDepth 100000 in
set_option maxHeartbeats 4000000 in
theorem c_X9_copy_ok (E : En) (S : St) (n t a b z m m2 : Nat) (hn : n < 6) (ht : t < 6) (hm : gA S 60 n = nI m) (hm2 : gA S 60 t = nI m2) (hl : m ≤ 40) (hl2 : m2 ≤ 40) (ha : a + z ≤ m) (hb : b + z ≤ m2) : CTe E i_X9_copy S [.ref (eA E 58), .int (nI n), .int (nI a), .int (nI t), .int (nI b), .int (nI z)] (sA (sA S 65 (cpyH (gA S 61) (gA S 65) (40 * n + a) z)) 61 (cpyB (gA S 61) (cpyH (gA S 61) (gA S 65) (40 * n + a) z) (40 * t + b) z)) (some (.int 1)) := by
  have hi := idx_in hn (show 6 < 2 ^ 31 by omega)
  have hi2 := idx_in ht (show 6 < 2 ^ 31 by omega)
  refine ct_of [(0, .ref (eA E 58)), (1, .int (nI n)), (2, .int (nI a)), (3, .int (nI t)), (4, .int (nI b)), (5, .int (nI z))] (by decide +kernel) (Nat.le_of_ble_eq_true rfl) rfl (fun X hM => ?_)
  refine g_iload_n (pc := 0) dX9_copy_0 1 rfl rfl ?_
  refine g_invS (pc := 1) j_X9_isRow mw_X9_70 dX9_copy_1 (by rfl) (c_X9_isRow E S (nI n) ) (Nat.le_of_ble_eq_true rfl) (Nat.le_of_ble_eq_true rfl) (by rfl) (Nat.le_of_ble_eq_true rfl) ?_
  refine g_b_eq (pc := 4) (tgt := 14) dX9_copy_4 (by decide) (fun c_4 => ?_) (fun c_4 => ?_)
  · exact absurd (hi.symm.trans c_4) (by decide)
  · refine g_iload_n (pc := 7) dX9_copy_7 3 rfl rfl ?_
    refine g_invS (pc := 8) j_X9_isRow mw_X9_70 dX9_copy_8 (by rfl) (c_X9_isRow E S (nI t) ) (Nat.le_of_ble_eq_true rfl) (Nat.le_of_ble_eq_true rfl) (by rfl) (Nat.le_of_ble_eq_true rfl) ?_
    refine g_b_ne (pc := 11) (tgt := 16) dX9_copy_11 (by decide) (fun c_11 => ?_) (fun c_11 => ?_)
    · refine g_iload (pc := 16) dX9_copy_16 5 rfl ?_
      refine g_if_ge (pc := 18) (tgt := 27) dX9_copy_18 (by decide) (fun c_18 => ?_) (fun c_18 => ?_)
      · have k_18 := Int32.not_lt.mpr c_18
        refine g_aload_n (pc := 27) dX9_copy_27 0 rfl rfl ?_
        refine gf_X9_13 (pc := 28) rfl dX9_copy_28 ?_
        refine g_iload_n (pc := 31) dX9_copy_31 1 rfl rfl ?_
        refine g_iald (pc := 32) n rfl rfl (show n < 6 from hn) (by decide) dX9_copy_32 ?_
        refine g_if_lt (pc := 33) (tgt := 45) dX9_copy_33 (by decide) (fun c_33 => ?_) (fun c_33 => ?_)
        · have k_33 := Int32.not_le.mpr c_33
          exact absurd c_33 (by rw [hm]; exact nI_pos (by omega))
        · have k_33 := Int32.not_lt.mp c_33
          refine g_aload_n (pc := 36) dX9_copy_36 0 rfl rfl ?_
          refine gf_X9_13 (pc := 37) rfl dX9_copy_37 ?_
          refine g_iload_n (pc := 40) dX9_copy_40 3 rfl rfl ?_
          refine g_iald (pc := 41) t rfl rfl (show t < 6 from ht) (by decide) dX9_copy_41 ?_
          refine g_if_ge (pc := 42) (tgt := 51) dX9_copy_42 (by decide) (fun c_42 => ?_) (fun c_42 => ?_)
          · have k_42 := Int32.not_lt.mpr c_42
            refine g_iload_n (pc := 51) dX9_copy_51 2 rfl rfl ?_
            refine g_if_lt (pc := 52) (tgt := 95) dX9_copy_52 (by decide) (fun c_52 => ?_) (fun c_52 => ?_)
            · have k_52 := Int32.not_le.mpr c_52
              exact absurd c_52 (nI_pos (by omega))
            · have k_52 := Int32.not_lt.mp c_52
              refine g_iload (pc := 55) dX9_copy_55 4 rfl ?_
              refine g_if_lt (pc := 57) (tgt := 95) dX9_copy_57 (by decide) (fun c_57 => ?_) (fun c_57 => ?_)
              · have k_57 := Int32.not_le.mpr c_57
                exact absurd c_57 (nI_pos (by omega))
              · have k_57 := Int32.not_lt.mp c_57
                refine g_iload_n (pc := 60) dX9_copy_60 2 rfl rfl ?_
                refine g_i2l (pc := 61) dX9_copy_61 ?_
                refine g_iload (pc := 62) dX9_copy_62 5 rfl ?_
                refine g_i2l (pc := 64) dX9_copy_64 ?_
                refine g_ladd (pc := 65) dX9_copy_65 ?_
                refine g_aload_n (pc := 66) dX9_copy_66 0 rfl rfl ?_
                refine gf_X9_13 (pc := 67) rfl dX9_copy_67 ?_
                refine g_iload_n (pc := 70) dX9_copy_70 1 rfl rfl ?_
                refine g_iald (pc := 71) n rfl rfl (show n < 6 from hn) (by decide) dX9_copy_71 ?_
                refine g_i2l (pc := 72) dX9_copy_72 ?_
                refine g_lcmp (pc := 73) dX9_copy_73 ?_
                refine g_lc_gt (pc := 74) (tgt := 95) dX9_copy_74 (by decide) (fun c_74 => ?_) (fun c_74 => ?_)
                · have k_74 := Int64.not_le.mpr c_74
                  exact absurd ((lN_lt (a := m) (b := a + z) (by omega) (by omega)).mp (by rw [← i64_add (by omega) (by omega), ← nI_l (n := m) (by omega), ← hm]; exact c_74)) (by omega)
                · have k_74 := Int64.not_lt.mp c_74
                  refine g_iload (pc := 77) dX9_copy_77 4 rfl ?_
                  refine g_i2l (pc := 79) dX9_copy_79 ?_
                  refine g_iload (pc := 80) dX9_copy_80 5 rfl ?_
                  refine g_i2l (pc := 82) dX9_copy_82 ?_
                  refine g_ladd (pc := 83) dX9_copy_83 ?_
                  refine g_aload_n (pc := 84) dX9_copy_84 0 rfl rfl ?_
                  refine gf_X9_13 (pc := 85) rfl dX9_copy_85 ?_
                  refine g_iload_n (pc := 88) dX9_copy_88 3 rfl rfl ?_
                  refine g_iald (pc := 89) t rfl rfl (show t < 6 from ht) (by decide) dX9_copy_89 ?_
                  refine g_i2l (pc := 90) dX9_copy_90 ?_
                  refine g_lcmp (pc := 91) dX9_copy_91 ?_
                  refine g_lc_le (pc := 92) (tgt := 101) dX9_copy_92 (by decide) (fun c_92 => ?_) (fun c_92 => ?_)
                  · have k_92 := Int64.not_lt.mpr c_92
                    refine g_iconst (pc := 101) (v := 0) dX9_copy_101 (by decide) ?_
                    refine g_istore (pc := 102) (L' := [(6, .int 0), (0, .ref (eA E 58)), (1, .int (nI n)), (2, .int (nI a)), (3, .int (nI t)), (4, .int (nI b)), (5, .int (nI z))]) dX9_copy_102 (Nat.le_of_ble_eq_true rfl) rfl ?_
                    have H_104 : ∀ q : Nat, q ≤ z → G E X i_X9_copy (sA S 65 (cpyH (gA S 61) (gA S 65) (40 * n + a) q)) 104 [(0, .ref (eA E 58)), (1, .int (nI n)), (2, .int (nI a)), (3, .int (nI t)), (4, .int (nI b)), (5, .int (nI z)), (6, .int (nI q))] [] := by
                      refine dn_ind z (fun q hn_104 ih_104 => ?_)
                      refine g_iload (pc := 104) dX9_copy_104 6 rfl ?_
                      refine g_iload (pc := 106) dX9_copy_106 5 rfl ?_
                      refine g_icmp_ge (pc := 108) (tgt := 138) dX9_copy_108 (by decide) (fun c_108 => ?_) (fun c_108 => ?_)
                      · have k_108 := Int32.not_lt.mpr c_108
                        have he_104 : q = z := Nat.le_antisymm hn_104 (by exact nle_of (N := z) rfl rfl (by omega) (by omega) c_108)
                        rw [he_104]
                        refine g_iconst (pc := 138) (v := 0) dX9_copy_138 (by decide) ?_
                        refine g_istore (pc := 139) (L' := [(6, .int 0), (0, .ref (eA E 58)), (1, .int (nI n)), (2, .int (nI a)), (3, .int (nI t)), (4, .int (nI b)), (5, .int (nI z))]) dX9_copy_139 (Nat.le_of_ble_eq_true rfl) rfl ?_
                        have H_141 : ∀ q : Nat, q ≤ z → G E X i_X9_copy (sA (sA S 65 (cpyH (gA S 61) (gA S 65) (40 * n + a) z)) 61 (cpyB (gA S 61) (cpyH (gA S 61) (gA S 65) (40 * n + a) z) (40 * t + b) q)) 141 [(0, .ref (eA E 58)), (1, .int (nI n)), (2, .int (nI a)), (3, .int (nI t)), (4, .int (nI b)), (5, .int (nI z)), (6, .int (nI q))] [] := by
                          refine dn_ind z (fun q hn_141 ih_141 => ?_)
                          refine g_iload (pc := 141) dX9_copy_141 6 rfl ?_
                          refine g_iload (pc := 143) dX9_copy_143 5 rfl ?_
                          refine g_icmp_ge (pc := 145) (tgt := 176) dX9_copy_145 (by decide) (fun c_145 => ?_) (fun c_145 => ?_)
                          · have k_145 := Int32.not_lt.mpr c_145
                            have he_141 : q = z := Nat.le_antisymm hn_141 (by exact nle_of (N := z) rfl rfl (by omega) (by omega) c_145)
                            rw [he_141]
                            refine g_iconst (pc := 176) (v := 1) dX9_copy_176 (by decide) ?_
                            exact g_iret (pc := 177) hM rfl rfl ⟨rfl, rfl⟩ dX9_copy_177
                          · have k_145 := Int32.not_le.mp c_145
                            have hlt_141 : q < z := by exact nlt_of (N := z) rfl rfl (by omega) (by omega) c_145
                            refine g_aload_n (pc := 148) dX9_copy_148 0 rfl rfl ?_
                            refine gf_X9_16 (pc := 149) rfl dX9_copy_149 ?_
                            refine g_bipush (pc := 152) (v := 40) dX9_copy_152 (by decide) ?_
                            refine g_iload_n (pc := 154) dX9_copy_154 3 rfl rfl ?_
                            refine g_imul (pc := 155) dX9_copy_155 ?_
                            refine g_iload (pc := 156) dX9_copy_156 4 rfl ?_
                            refine g_iadd (pc := 158) dX9_copy_158 ?_
                            refine g_iload (pc := 159) dX9_copy_159 6 rfl ?_
                            refine g_iadd (pc := 161) dX9_copy_161 ?_
                            refine g_aload_n (pc := 162) dX9_copy_162 0 rfl rfl ?_
                            refine gf_X9_32 (pc := 163) rfl dX9_copy_163 ?_
                            refine g_iload (pc := 166) dX9_copy_166 6 rfl ?_
                            refine g_iald (pc := 168) q rfl rfl (show q < 40 by omega) (by decide) dX9_copy_168 ?_
                            refine g_iast (pc := 169) (((40 * t) + b) + q) (nI_aE (nI_aE (nI_mE rfl rfl) rfl) rfl) rfl (show ((40 * t) + b) + q < 240 by omega) (by decide) dX9_copy_169 ?_
                            refine g_iinc (pc := 170) (L' := [(6, .int (nI q + 1)), (0, .ref (eA E 58)), (1, .int (nI n)), (2, .int (nI a)), (3, .int (nI t)), (4, .int (nI b)), (5, .int (nI z))]) dX9_copy_170 (k := 6) rfl (v := nI q + 1) rfl (Nat.le_of_ble_eq_true rfl) rfl ?_
                            refine g_goto (pc := 173) (tgt := 141) dX9_copy_173 (by decide) ?_
                            refine g_sub (L' := [(0, .ref (eA E 58)), (1, .int (nI n)), (2, .int (nI a)), (3, .int (nI t)), (4, .int (nI b)), (5, .int (nI z)), (6, .int (nI q + 1))]) [1, 2, 3, 4, 5, 6, 0] rfl ?_
                            exact g_eq (by rw [sA_sA, gA_same, gA_ne (by omega), gA_same, cpyB_s]) (by simp only [nI_1]) rfl (ih_141 hlt_141)
                        refine g_sub (L' := [(0, .ref (eA E 58)), (1, .int (nI n)), (2, .int (nI a)), (3, .int (nI t)), (4, .int (nI b)), (5, .int (nI z)), (6, .int 0)]) [1, 2, 3, 4, 5, 6, 0] rfl ?_
                        exact g_eq (by rw [cpyB_0]; exact (sA_self (sA S 65 (cpyH (gA S 61) (gA S 65) (40 * n + a) z)) 61).symm) rfl rfl (H_141 0 (Nat.zero_le _))
                      · have k_108 := Int32.not_le.mp c_108
                        have hlt_104 : q < z := by exact nlt_of (N := z) rfl rfl (by omega) (by omega) c_108
                        refine g_aload_n (pc := 111) dX9_copy_111 0 rfl rfl ?_
                        refine gf_X9_32 (pc := 112) rfl dX9_copy_112 ?_
                        refine g_iload (pc := 115) dX9_copy_115 6 rfl ?_
                        refine g_aload_n (pc := 117) dX9_copy_117 0 rfl rfl ?_
                        refine gf_X9_16 (pc := 118) rfl dX9_copy_118 ?_
                        refine g_bipush (pc := 121) (v := 40) dX9_copy_121 (by decide) ?_
                        refine g_iload_n (pc := 123) dX9_copy_123 1 rfl rfl ?_
                        refine g_imul (pc := 124) dX9_copy_124 ?_
                        refine g_iload_n (pc := 125) dX9_copy_125 2 rfl rfl ?_
                        refine g_iadd (pc := 126) dX9_copy_126 ?_
                        refine g_iload (pc := 127) dX9_copy_127 6 rfl ?_
                        refine g_iadd (pc := 129) dX9_copy_129 ?_
                        refine g_iald (pc := 130) (((40 * n) + a) + q) (nI_aE (nI_aE (nI_mE rfl rfl) rfl) rfl) rfl (show ((40 * n) + a) + q < 240 by omega) (by decide) dX9_copy_130 ?_
                        refine g_iast (pc := 131) q rfl rfl (show q < 40 by omega) (by decide) dX9_copy_131 ?_
                        refine g_iinc (pc := 132) (L' := [(6, .int (nI q + 1)), (0, .ref (eA E 58)), (1, .int (nI n)), (2, .int (nI a)), (3, .int (nI t)), (4, .int (nI b)), (5, .int (nI z))]) dX9_copy_132 (k := 6) rfl (v := nI q + 1) rfl (Nat.le_of_ble_eq_true rfl) rfl ?_
                        refine g_goto (pc := 135) (tgt := 104) dX9_copy_135 (by decide) ?_
                        refine g_sub (L' := [(0, .ref (eA E 58)), (1, .int (nI n)), (2, .int (nI a)), (3, .int (nI t)), (4, .int (nI b)), (5, .int (nI z)), (6, .int (nI q + 1))]) [1, 2, 3, 4, 5, 6, 0] rfl ?_
                        exact g_eq (by rw [sA_sA, gA_same, gA_ne (by omega), cpyH_s]) (by simp only [nI_1]) rfl (ih_104 hlt_104)
                    refine g_sub (L' := [(0, .ref (eA E 58)), (1, .int (nI n)), (2, .int (nI a)), (3, .int (nI t)), (4, .int (nI b)), (5, .int (nI z)), (6, .int 0)]) [1, 2, 3, 4, 5, 6, 0] rfl ?_
                    exact g_eq (by rw [cpyH_0, sA_self]) rfl rfl (H_104 0 (Nat.zero_le _))
                  · have k_92 := Int64.not_le.mp c_92
                    exact absurd (by rw [hm2, i64_add (by omega) (by omega), nI_l (by omega)]; exact (lN_le (by omega) (by omega)).mpr hb) c_92
          · have k_42 := Int32.not_le.mp c_42
            exact absurd (by rw [hm2]; exact nI_pos' (by omega)) c_42
      · have k_18 := Int32.not_le.mp c_18
        exact absurd (nI_pos' (by omega)) c_18
    · exact absurd (hi2.symm.trans c_11) (by decide)
