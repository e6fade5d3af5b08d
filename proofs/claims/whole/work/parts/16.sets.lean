/-! SETS -/
def ushF (x n : Int32) : Int32 := (x.toUInt32 >>> (n.toUInt32 &&& Int32.toUInt32 31)).toInt32
def bc1 (i : Int32) : Int32 := i - (ushF i 1 &&& 1431655765)
def bc2 (i : Int32) : Int32 := (i &&& 858993459) + (ushF i 2 &&& 858993459)
def bc3 (i : Int32) : Int32 := (i + ushF i 4) &&& 252645135
def bc4 (i : Int32) : Int32 := i + ushF i 8
def bc5 (i : Int32) : Int32 := i + ushF i 16
/-- Integer.bitCount -/
def bcF (i : Int32) : Int32 := bc5 (bc4 (bc3 (bc2 (bc1 i)))) &&& 63
theorem kw_J6_265 : Cond.constant RJ6 265 (1431655765) ∈ TT := TT_t2 (List.mem_of_getElem? (i := 64) (by decide +kernel)) (by decide +kernel)
theorem kw_J6_266 : Cond.constant RJ6 266 (858993459) ∈ TT := TT_t2 (List.mem_of_getElem? (i := 65) (by decide +kernel)) (by decide +kernel)
theorem kw_J6_267 : Cond.constant RJ6 267 (252645135) ∈ TT := TT_t2 (List.mem_of_getElem? (i := 66) (by decide +kernel)) (by decide +kernel)
set_option maxRecDepth 100000 in
set_option maxHeartbeats 4000000 in
theorem c_J6_bitCount (E : En) (S : St) (x : Int32) : CTe E i_J6_bitCount S [.int x] S (some (.int (bcF x))) := by
  refine ct_of [(0, .int x)] (by decide +kernel) (Nat.le_of_ble_eq_true rfl) rfl (fun X hM => ?_)
  refine g_iload_n (pc := 0) dJ6_bitCount_0f7a4_0 0 rfl rfl ?_
  refine g_iload_n (pc := 1) dJ6_bitCount_0f7a4_1 0 rfl rfl ?_
  refine g_iconst (pc := 2) (v := 1) dJ6_bitCount_0f7a4_2 (by decide) ?_
  refine g_iushr (pc := 3) dJ6_bitCount_0f7a4_3 ?_
  refine g_ldcw (pc := 4) kw_J6_265 dJ6_bitCount_0f7a4_4 ?_
  refine g_iand (pc := 7) dJ6_bitCount_0f7a4_7 ?_
  refine g_isub (pc := 8) dJ6_bitCount_0f7a4_8 ?_
  refine g_istore_n (pc := 9) (L' := [(0, .int (bc1 x))]) dJ6_bitCount_0f7a4_9 rfl (Nat.le_of_ble_eq_true rfl) rfl ?_
  refine g_iload_n (pc := 10) dJ6_bitCount_0f7a4_10 0 rfl rfl ?_
  refine g_ldcw (pc := 11) kw_J6_266 dJ6_bitCount_0f7a4_11 ?_
  refine g_iand (pc := 14) dJ6_bitCount_0f7a4_14 ?_
  refine g_iload_n (pc := 15) dJ6_bitCount_0f7a4_15 0 rfl rfl ?_
  refine g_iconst (pc := 16) (v := 2) dJ6_bitCount_0f7a4_16 (by decide) ?_
  refine g_iushr (pc := 17) dJ6_bitCount_0f7a4_17 ?_
  refine g_ldcw (pc := 18) kw_J6_266 dJ6_bitCount_0f7a4_18 ?_
  refine g_iand (pc := 21) dJ6_bitCount_0f7a4_21 ?_
  refine g_iadd (pc := 22) dJ6_bitCount_0f7a4_22 ?_
  refine g_istore_n (pc := 23) (L' := [(0, .int (bc2 (bc1 x)))]) dJ6_bitCount_0f7a4_23 rfl (Nat.le_of_ble_eq_true rfl) rfl ?_
  refine g_iload_n (pc := 24) dJ6_bitCount_0f7a4_24 0 rfl rfl ?_
  refine g_iload_n (pc := 25) dJ6_bitCount_0f7a4_25 0 rfl rfl ?_
  refine g_iconst (pc := 26) (v := 4) dJ6_bitCount_0f7a4_26 (by decide) ?_
  refine g_iushr (pc := 27) dJ6_bitCount_0f7a4_27 ?_
  refine g_iadd (pc := 28) dJ6_bitCount_0f7a4_28 ?_
  refine g_ldcw (pc := 29) kw_J6_267 dJ6_bitCount_0f7a4_29 ?_
  refine g_iand (pc := 32) dJ6_bitCount_0f7a4_32 ?_
  refine g_istore_n (pc := 33) (L' := [(0, .int (bc3 (bc2 (bc1 x))))]) dJ6_bitCount_0f7a4_33 rfl (Nat.le_of_ble_eq_true rfl) rfl ?_
  refine g_iload_n (pc := 34) dJ6_bitCount_0f7a4_34 0 rfl rfl ?_
  refine g_iload_n (pc := 35) dJ6_bitCount_0f7a4_35 0 rfl rfl ?_
  refine g_bipush (pc := 36) (v := 8) dJ6_bitCount_0f7a4_36 (by decide) ?_
  refine g_iushr (pc := 38) dJ6_bitCount_0f7a4_38 ?_
  refine g_iadd (pc := 39) dJ6_bitCount_0f7a4_39 ?_
  refine g_istore_n (pc := 40) (L' := [(0, .int (bc4 (bc3 (bc2 (bc1 x)))))]) dJ6_bitCount_0f7a4_40 rfl (Nat.le_of_ble_eq_true rfl) rfl ?_
  refine g_iload_n (pc := 41) dJ6_bitCount_0f7a4_41 0 rfl rfl ?_
  refine g_iload_n (pc := 42) dJ6_bitCount_0f7a4_42 0 rfl rfl ?_
  refine g_bipush (pc := 43) (v := 16) dJ6_bitCount_0f7a4_43 (by decide) ?_
  refine g_iushr (pc := 45) dJ6_bitCount_0f7a4_45 ?_
  refine g_iadd (pc := 46) dJ6_bitCount_0f7a4_46 ?_
  refine g_istore_n (pc := 47) (L' := [(0, .int (bc5 (bc4 (bc3 (bc2 (bc1 x))))))]) dJ6_bitCount_0f7a4_47 rfl (Nat.le_of_ble_eq_true rfl) rfl ?_
  refine g_iload_n (pc := 48) dJ6_bitCount_0f7a4_48 0 rfl rfl ?_
  refine g_bipush (pc := 49) (v := 63) dJ6_bitCount_0f7a4_49 (by decide) ?_
  refine g_iand (pc := 51) dJ6_bitCount_0f7a4_51 ?_
  exact g_iret (pc := 52) hM rfl rfl ⟨rfl, rfl⟩ dJ6_bitCount_0f7a4_52
def withF (s w : Int32) : Bool := decide (s &&& (w ^^^ (-1)) = 0)
/-- the sum of the weights of a set's members below k -/
def sbR (w : Nat → Int32) (n : Nat) : Nat → Int32 | 0 => 0 | k + 1 => if n.testBit k then sbR w n k + w k else sbR w n k
def smF (w g : Nat → Int32) (m : Nat) : Nat → Int32 := fun n => if n < m then sbR w n 8 else g n
def fillG (p g : Nat → Int32) (m : Nat) : Nat → Int32 := fun i => if i < m then p i else g i
theorem fillG_0 (p g : Nat → Int32) : fillG p g 0 = g := by funext i; simp [fillG]
theorem fillG_s (p g : Nat → Int32) (n : Nat) : upd (fillG p g n) n (p n) = fillG p g (n + 1) := by
  funext i
  unfold fillG upd
  by_cases h : i = n
  · subst h; simp
  · by_cases h2 : i < n
    · simp [h, h2, Nat.lt_succ_of_lt h2]
    · simp [h, h2, show ¬ i < n + 1 by omega]
theorem fillG_in {p g : Nat → Int32} {m i : Nat} (h : i < m) : fillG p g m i = p i := by simp [fillG, h]
theorem sbR_add (w : Nat → Int32) {k j : Nat} (hj : j < 2 ^ k) (hk : k < 8) : sbR w (j + 2 ^ k) 8 = sbR w j 8 + w k := by
  have hb : ∀ i, (j + 2 ^ k).testBit i = if i = k then true else j.testBit i := by
    intro i
    rw [Nat.add_comm]
    rcases Nat.lt_trichotomy i k with h | h | h
    · rw [Nat.testBit_two_pow_add_gt h, if_neg (by omega)]
    · subst h
      rw [Nat.testBit_two_pow_add_eq, Nat.testBit_lt_two_pow hj, if_pos rfl]; rfl
    · have h1 : 2 ^ k + j < 2 ^ (k + 1) := by rw [Nat.pow_succ]; omega
      have h2 : 2 ^ (k + 1) ≤ 2 ^ i := Nat.pow_le_pow_right (by omega) h
      rw [Nat.testBit_lt_two_pow (by omega), if_neg (by omega), Nat.testBit_lt_two_pow (by omega)]
  have hjk : j.testBit k = false := Nat.testBit_lt_two_pow hj
  have key : ∀ K, sbR w (j + 2 ^ k) K = if k < K then sbR w j K + w k else sbR w j K := by
    intro K
    induction K with
    | zero => rfl
    | succ K ih =>
      rw [sbR, sbR, ih, hb K]
      rcases Nat.lt_trichotomy K k with h | h | h
      · rw [if_neg (show ¬ K = k by omega), if_neg (show ¬ k < K by omega), if_neg (show ¬ k < K + 1 by omega)]
      · subst h
        rw [if_pos rfl, if_neg (show ¬ K < K by omega), if_pos (show K < K + 1 by omega), hjk]
        rfl
      · rw [if_neg (show ¬ K = k by omega), if_pos (show k < K by omega), if_pos (show k < K + 1 by omega)]
        cases j.testBit K
        · rfl
        · show sbR w j K + w k + w K = sbR w j K + w K + w k
          rw [Int32.add_assoc, Int32.add_assoc, Int32.add_comm (w k)]
  rw [key 8, if_pos hk]
theorem smF_1 (w g : Nat → Int32) : upd g 0 0 = smF w g 1 := by
  funext i
  unfold smF upd
  by_cases h : i = 0
  · subst h
    simp [sbR]
  · simp [h, show ¬ i < 1 by omega]
theorem smF_s (w g : Nat → Int32) {k j : Nat} (hj : j < 2 ^ k) (hk : k < 8) : upd (smF w g (2 ^ k + j)) (j + 2 ^ k) (smF w g (2 ^ k + j) j + w k) = smF w g (2 ^ k + (j + 1)) := by
  funext i
  have h0 : smF w g (2 ^ k + j) j = sbR w j 8 := by unfold smF; rw [if_pos (by omega)]
  rw [h0, ← sbR_add w hj hk]
  unfold upd smF
  by_cases h : i = j + 2 ^ k
  · subst h
    rw [if_pos rfl, if_pos (by omega)]
  · rw [if_neg h]
    by_cases h2 : i < 2 ^ k + j
    · rw [if_pos h2, if_pos (by omega)]
    · rw [if_neg h2, if_neg (by omega)]
theorem shl1 {k : Nat} (hk : k < 31) : (1 : Int32) <<< (nI k &&& 31) = nI (2 ^ k) := co_dec (N := 31) (P := fun k => (1 : Int32) <<< (nI k &&& 31) = nI (2 ^ k)) (by decide +kernel) hk
theorem pow8 {k : Nat} (hk : k ≤ 8) : 2 ^ k ≤ 256 := by
  have := Nat.pow_le_pow_right (n := 2) (by omega) hk
  omega
/-- the scratch rows after the weights w are summed -/
def scrF (S : St) (w : Nat → Int32) : St := sA (sA S 6 (fillG w (gA S 6) 8)) 7 (smF (fillG w (gA S 6) 8) (gA S 7) 256)
def glW (S : St) (b : Nat) (place : Int32) (i : Nat) : Int32 := if hasF S b (nI i) then glaF S b (nI i) place (gI S b 8) else 0
def deW (S : St) (b : Nat) (i : Nat) : Int32 := if owF S b (nI i) then ((1 : Int32) <<< ((5 * fldF S b 1 (nI i)) &&& 31)) - ((1 : Int32) <<< ((5 * fldF S b 2 (nI i)) &&& 31)) else 0
def owS (S : St) (b : Nat) : Int32 := setB (fun i => owF S b (nI i)) 8
def rgP (ow : Int32) (w : Nat → Int32) (n : Nat) : Bool := withF (nI n) ow && decide (sbR w n 8 = 0)
def lrR (ow : Int32) (w : Nat → Int32) : Nat → Int32 | 0 => 0 | n + 1 => if rgP ow w n && decide (bcF (lrR ow w n) < bcF (nI n)) then nI n else lrR ow w n
def kbF (k : Int32) (n : Nat) : Bool := decide ((nI n >>> (k &&& 31)) &&& 1 = 1)
def srR (ow : Int32) (w : Nat → Int32) (k : Int32) : Nat → Int32 | 0 => 0 | n + 1 => if (decide (srR ow w k n = 0) || decide (bcF (nI n) < bcF (srR ow w k n))) && (rgP ow w n && kbF k n) then nI n else srR ow w k n
def faR (lit whole v : Int32) (w : Nat → Int32) : Nat → Int32 | 0 => lit | n + 1 => if decide (bcF (nI n) < bcF (faR lit whole v w n)) && (withF (nI n) lit && decide (whole - sbR w n 8 ≤ v)) then nI n else faR lit whole v w n
def pwG (a : Int64) (x : Int32) : Nat → Int64 | 0 => 1 | n + 1 => if nI n < x then pwG a x n * a else pwG a x n
def wyR (lit v p : Int32) (w : Nat → Int32) : Nat → Int64 | 0 => 0 | n + 1 => if withF (nI n) lit && decide (sbR w n 8 ≤ v) then wyR lit v p w n + pwG p.toInt64 (bcF (lit - nI n)) 8 * pwG (12 - p).toInt64 (bcF (nI n)) 8 else wyR lit v p w n
theorem pwG_st (a : Int64) (x : Int32) {n : Nat} (hn : n ≤ 8) (h : x ≤ nI n) : pwG a x 8 = pwG a x n := by
  have key : ∀ d, n + d ≤ 8 → pwG a x (n + d) = pwG a x n := by
    intro d
    induction d with
    | zero => intro _; rfl
    | succ d ih =>
      intro hd
      have h1 : ¬ nI (n + d) < x := by
        intro q
        have a1 := Int32.lt_iff_toInt_lt.mp q
        have a2 := Int32.le_iff_toInt_le.mp h
        rw [nI_toInt (by omega)] at a1 a2
        omega
      show (if nI (n + d) < x then _ else _) = _
      rw [if_neg h1]
      exact ih (by omega)
  have := key (8 - n) (by omega)
  rwa [show n + (8 - n) = 8 by omega] at this
set_option maxRecDepth 100000 in
set_option maxHeartbeats 4000000 in
theorem c_X4_isWithin (E : En) (S : St) (s w : Int32) : CTe E i_X4_isWithin S [.int s, .int w] S (some (.int (bI (withF s w)))) := by
  refine ct_of [(0, .int s), (1, .int w)] (by decide +kernel) (Nat.le_of_ble_eq_true rfl) rfl (fun X hM => ?_)
  refine g_iload_n (pc := 0) dX4_isWithin_0 0 rfl rfl ?_
  refine g_iload_n (pc := 1) dX4_isWithin_1 1 rfl rfl ?_
  refine g_iconst (pc := 2) (v := -1) dX4_isWithin_2 (by decide) ?_
  refine g_ixor (pc := 3) dX4_isWithin_3 ?_
  refine g_iand (pc := 4) dX4_isWithin_4 ?_
  refine g_if_ne (pc := 5) (tgt := 12) dX4_isWithin_5 (by decide) (fun c_5 => ?_) (fun c_5 => ?_)
  · refine g_iconst (pc := 12) (v := 0) dX4_isWithin_12 (by decide) ?_
    exact g_iret (pc := 13) hM rfl rfl ⟨rfl, some_int (by simp only [withF, bI, c_5, if_true, if_false, Bool.false_eq_true, Bool.not_true, Bool.not_false, Bool.and_true, Bool.true_and, Bool.and_false, Bool.false_and, Bool.or_true, Bool.true_or, Bool.or_false, Bool.false_or, decide_true, decide_false, Bool.and_self])⟩ dX4_isWithin_13
  · refine g_iconst (pc := 8) (v := 1) dX4_isWithin_8 (by decide) ?_
    refine g_goto (pc := 9) (tgt := 13) dX4_isWithin_9 (by decide) ?_
    exact g_iret (pc := 13) hM rfl rfl ⟨rfl, some_int (by simp only [withF, bI, eq_true c_5, if_true, if_false, Bool.false_eq_true, Bool.not_true, Bool.not_false, Bool.and_true, Bool.true_and, Bool.and_false, Bool.false_and, Bool.or_true, Bool.true_or, Bool.or_false, Bool.false_or, decide_true, decide_false, Bool.and_self])⟩ dX4_isWithin_13
set_option maxRecDepth 100000 in
set_option maxHeartbeats 4000000 in
theorem c_X4_setsOf (E : En) (S : St) (b : Nat) (hb : kd b = 0) (hz : okB S b) : CTe E i_X4_setsOf S [.ref (eA E b)] S (some (.int (nI (2 ^ szB S b)))) := by
  refine ct_of [(0, .ref (eA E b))] (by decide +kernel) (Nat.le_of_ble_eq_true rfl) rfl (fun X hM => ?_)
  refine g_iconst (pc := 0) (v := 1) dX4_setsOf_0 (by decide) ?_
  refine g_aload_n (pc := 1) dX4_setsOf_1 0 rfl rfl ?_
  refine g_invV (pc := 2) j_X0_size mw_X4_18 dX4_setsOf_2 (rcv_X0 (by assumption)) (by rfl) (c_X0_size E S b (by assumption)) (Nat.le_of_ble_eq_true rfl) (Nat.le_of_ble_eq_true rfl) (by rfl) (Nat.le_of_ble_eq_true rfl) ?_
  refine g_bipush (pc := 5) (v := 8) dX4_setsOf_5 (by decide) ?_
  refine g_min (pc := 7) mw_X4_24 dX4_setsOf_7 (Nat.le_of_ble_eq_true rfl) (Nat.le_of_ble_eq_true rfl) ?_
  refine g_ishl (pc := 10) dX4_setsOf_10 ?_
  exact g_iret (pc := 11) hM rfl rfl ⟨rfl, some_int (by rw [hz.1, if_neg (show ¬ (8 : Int32) < nI (szB S b) from nI_nlt (a := 8) hz.2 (by omega)), shl1 (by have := hz.2; omega)])⟩ dX4_setsOf_11
set_option maxRecDepth 100000 in
set_option maxHeartbeats 4000000 in
theorem c_X4_power (E : En) (S : St) (a x : Int32) : CTe E i_X4_power S [.int a, .int x] S (some (.long (pwG a.toInt64 x 8))) := by
  refine ct_of [(0, .int a), (1, .int x)] (by decide +kernel) (Nat.le_of_ble_eq_true rfl) rfl (fun X hM => ?_)
  refine g_lconst (pc := 0) (v := 1) dX4_power_0 (by decide) ?_
  refine g_lstore_n (pc := 1) (L' := [(2, .long 1), (0, .int a), (1, .int x)]) dX4_power_1 rfl (Nat.le_of_ble_eq_true rfl) rfl ?_
  refine g_iconst (pc := 2) (v := 0) dX4_power_2 (by decide) ?_
  refine g_istore (pc := 3) (L' := [(4, .int 0), (2, .long 1), (0, .int a), (1, .int x)]) dX4_power_3 (Nat.le_of_ble_eq_true rfl) rfl ?_
  have H_5 : ∀ n : Nat, n ≤ 8 → G E X i_X4_power S 5 [(0, .int a), (1, .int x), (2, .long (pwG a.toInt64 x n)), (4, .int (nI n))] [] := by
    refine dn_ind 8 (fun n hn_5 ih_5 => ?_)
    refine g_iload (pc := 5) dX4_power_5 3 rfl ?_
    refine g_iload_n (pc := 7) dX4_power_7 1 rfl rfl ?_
    refine g_icmp_ge (pc := 8) (tgt := 29) dX4_power_8 (by decide) (fun c_8 => ?_) (fun c_8 => ?_)
    · have k_8 := Int32.not_lt.mpr c_8
      refine g_lload_n (pc := 29) dX4_power_29 2 rfl rfl ?_
      exact g_lret (pc := 30) hM rfl ⟨rfl, some_long (by rw [pwG_st _ _ hn_5 c_8])⟩ dX4_power_30
    · have k_8 := Int32.not_le.mp c_8
      refine g_iload (pc := 11) dX4_power_11 3 rfl ?_
      refine g_bipush (pc := 13) (v := 8) dX4_power_13 (by decide) ?_
      refine g_icmp_ge (pc := 15) (tgt := 29) dX4_power_15 (by decide) (fun c_15 => ?_) (fun c_15 => ?_)
      · have k_15 := Int32.not_lt.mpr c_15
        have he_5 : n = 8 := Nat.le_antisymm hn_5 (nle_of (N := 8) rfl rfl (by omega) (by omega) c_15)
        refine g_lload_n (pc := 29) dX4_power_29 2 rfl rfl ?_
        exact g_lret (pc := 30) hM rfl ⟨rfl, some_long (by rw [he_5])⟩ dX4_power_30
      · have k_15 := Int32.not_le.mp c_15
        have hlt_5 : n < 8 := nlt_of (N := 8) rfl rfl (by omega) (by omega) c_15
        refine g_lload_n (pc := 18) dX4_power_18 2 rfl rfl ?_
        refine g_iload_n (pc := 19) dX4_power_19 0 rfl rfl ?_
        refine g_i2l (pc := 20) dX4_power_20 ?_
        refine g_lmul (pc := 21) dX4_power_21 ?_
        refine g_lstore_n (pc := 22) (L' := [(2, .long (pwG a.toInt64 x n * a.toInt64)), (0, .int a), (1, .int x), (4, .int (nI n))]) dX4_power_22 rfl (Nat.le_of_ble_eq_true rfl) rfl ?_
        refine g_iinc (pc := 23) (L' := [(4, .int (nI n + 1)), (2, .long (pwG a.toInt64 x n * a.toInt64)), (0, .int a), (1, .int x)]) dX4_power_23 (k := 3) rfl (v := nI n + 1) rfl (Nat.le_of_ble_eq_true rfl) rfl ?_
        refine g_goto (pc := 26) (tgt := 5) dX4_power_26 (by decide) ?_
        refine g_sub (L' := [(0, .int a), (1, .int x), (2, .long (pwG a.toInt64 x n * a.toInt64)), (4, .int (nI n + 1))]) [2, 3, 1, 0] rfl ?_
        exact g_eq rfl (by simp only [nI_1, pwG, if_pos k_8]) rfl (ih_5 hlt_5)
  refine g_sub (L' := [(0, .int a), (1, .int x), (2, .long 1), (4, .int 0)]) [2, 3, 1, 0] rfl ?_
  exact g_eq rfl rfl rfl (H_5 0 (Nat.zero_le _))
set_option maxRecDepth 100000 in
set_option maxHeartbeats 4000000 in
theorem c_X4_sumUp (E : En) (S : St)  : CTe E i_X4_sumUp S [.ref (eA E 5)] (sA S 7 (smF (gA S 6) (gA S 7) 256)) none := by
  refine ct_of [(0, .ref (eA E 5))] (by decide +kernel) (Nat.le_of_ble_eq_true rfl) rfl (fun X hM => ?_)
  refine g_aload_n (pc := 0) dX4_sumUp_0 0 rfl rfl ?_
  refine gf_X4_15 (pc := 1) rfl dX4_sumUp_1 ?_
  refine g_iconst (pc := 4) (v := 0) dX4_sumUp_4 (by decide) ?_
  refine g_iconst (pc := 5) (v := 0) dX4_sumUp_5 (by decide) ?_
  refine g_iast (pc := 6) 0 rfl rfl (by decide) (by decide) dX4_sumUp_6 ?_
  refine g_iconst (pc := 7) (v := 0) dX4_sumUp_7 (by decide) ?_
  refine g_istore_n (pc := 8) (L' := [(1, .int 0), (0, .ref (eA E 5))]) dX4_sumUp_8 rfl (Nat.le_of_ble_eq_true rfl) rfl ?_
  have H_9 : ∀ k : Nat, k ≤ 8 → G E X i_X4_sumUp (sA S 7 (smF (gA S 6) (gA S 7) (2 ^ k))) 9 [(0, .ref (eA E 5)), (1, .int (nI k))] [] := by
    refine dn_ind 8 (fun k hn_9 ih_9 => ?_)
    refine g_iload_n (pc := 9) dX4_sumUp_9 1 rfl rfl ?_
    refine g_bipush (pc := 10) (v := 8) dX4_sumUp_10 (by decide) ?_
    refine g_icmp_ge (pc := 12) (tgt := 59) dX4_sumUp_12 (by decide) (fun c_12 => ?_) (fun c_12 => ?_)
    · have k_12 := Int32.not_lt.mpr c_12
      have he_9 : k = 8 := Nat.le_antisymm hn_9 (by exact nle_of (N := 8) rfl rfl (by omega) (by omega) c_12)
      rw [he_9]
      exact g_vret (pc := 59) hM rfl ⟨rfl, rfl⟩ dX4_sumUp_59
    · have k_12 := Int32.not_le.mp c_12
      have hlt_9 : k < 8 := by exact nlt_of (N := 8) rfl rfl (by omega) (by omega) c_12
      have hp := pow8 (show k ≤ 7 + 1 by omega)
      have hp7 : 2 ^ k ≤ 128 := by have := Nat.pow_le_pow_right (n := 2) (by omega) (show k ≤ 7 by omega); omega
      refine g_iconst (pc := 15) (v := 1) dX4_sumUp_15 (by decide) ?_
      refine g_iload_n (pc := 16) dX4_sumUp_16 1 rfl rfl ?_
      refine g_ishl (pc := 17) dX4_sumUp_17 ?_
      rw [shl1 (by omega)]
      refine g_istore_n (pc := 18) (L' := [(2, .int (nI (2 ^ k))), (0, .ref (eA E 5)), (1, .int (nI k))]) dX4_sumUp_18 rfl (Nat.le_of_ble_eq_true rfl) rfl ?_
      refine g_iconst (pc := 19) (v := 0) dX4_sumUp_19 (by decide) ?_
      refine g_istore_n (pc := 20) (L' := [(3, .int 0), (2, .int (nI (2 ^ k))), (0, .ref (eA E 5)), (1, .int (nI k))]) dX4_sumUp_20 rfl (Nat.le_of_ble_eq_true rfl) rfl ?_
      have H_21 : ∀ n : Nat, n ≤ 2 ^ k → G E X i_X4_sumUp (sA S 7 (smF (gA S 6) (gA S 7) (2 ^ k + n))) 21 [(0, .ref (eA E 5)), (1, .int (nI k)), (2, .int (nI (2 ^ k))), (3, .int (nI n))] [] := by
        refine dn_ind (2 ^ k) (fun n hn_21 ih_21 => ?_)
        refine g_iload_n (pc := 21) dX4_sumUp_21 3 rfl rfl ?_
        refine g_iload_n (pc := 22) dX4_sumUp_22 2 rfl rfl ?_
        refine g_icmp_ge (pc := 23) (tgt := 53) dX4_sumUp_23 (by decide) (fun c_23 => ?_) (fun c_23 => ?_)
        · have k_23 := Int32.not_lt.mpr c_23
          have he_21 : n = 2 ^ k := Nat.le_antisymm hn_21 (by exact nle_of (N := 2 ^ k) rfl rfl (by omega) (by omega) c_23)
          rw [he_21]
          refine g_iinc (pc := 53) (L' := [(1, .int (nI k + 1)), (0, .ref (eA E 5)), (2, .int (nI (2 ^ k))), (3, .int (nI (2 ^ k)))]) dX4_sumUp_53 (k := 1) rfl (v := nI k + 1) rfl (Nat.le_of_ble_eq_true rfl) rfl ?_
          refine g_goto (pc := 56) (tgt := 9) dX4_sumUp_56 (by decide) ?_
          refine g_sub (L' := [(0, .ref (eA E 5)), (1, .int (nI k + 1))]) [1, 0] rfl ?_
          exact g_eq (by rw [show 2 ^ k + 2 ^ k = 2 ^ (k + 1) by rw [Nat.pow_succ]; omega]) (by rw [nI_1]) rfl (ih_9 hlt_9)
        · have k_23 := Int32.not_le.mp c_23
          have hlt_21 : n < 2 ^ k := by exact nlt_of (N := 2 ^ k) rfl rfl (by omega) (by omega) c_23
          refine g_aload_n (pc := 26) dX4_sumUp_26 0 rfl rfl ?_
          refine gf_X4_15 (pc := 27) rfl dX4_sumUp_27 ?_
          refine g_iload_n (pc := 30) dX4_sumUp_30 3 rfl rfl ?_
          refine g_iload_n (pc := 31) dX4_sumUp_31 2 rfl rfl ?_
          refine g_iadd (pc := 32) dX4_sumUp_32 ?_
          refine g_aload_n (pc := 33) dX4_sumUp_33 0 rfl rfl ?_
          refine gf_X4_15 (pc := 34) rfl dX4_sumUp_34 ?_
          refine g_iload_n (pc := 37) dX4_sumUp_37 3 rfl rfl ?_
          refine g_iald (pc := 38) n rfl rfl (show n < 256 by omega) (by decide) dX4_sumUp_38 ?_
          refine g_aload_n (pc := 39) dX4_sumUp_39 0 rfl rfl ?_
          refine gf_X4_9 (pc := 40) rfl dX4_sumUp_40 ?_
          refine g_iload_n (pc := 43) dX4_sumUp_43 1 rfl rfl ?_
          refine g_iald (pc := 44) k rfl rfl (show k < 8 from hlt_9) (by decide) dX4_sumUp_44 ?_
          refine g_iadd (pc := 45) dX4_sumUp_45 ?_
          refine g_iast (pc := 46) (n + 2 ^ k) (nI_add n (2 ^ k)) rfl (show n + 2 ^ k < 256 by omega) (by decide) dX4_sumUp_46 ?_
          refine g_iinc (pc := 47) (L' := [(3, .int (nI n + 1)), (0, .ref (eA E 5)), (1, .int (nI k)), (2, .int (nI (2 ^ k)))]) dX4_sumUp_47 (k := 3) rfl (v := nI n + 1) rfl (Nat.le_of_ble_eq_true rfl) rfl ?_
          refine g_goto (pc := 50) (tgt := 21) dX4_sumUp_50 (by decide) ?_
          refine g_sub (L' := [(0, .ref (eA E 5)), (1, .int (nI k)), (2, .int (nI (2 ^ k))), (3, .int (nI n + 1))]) [1, 2, 3, 0] rfl ?_
          exact g_eq (by rw [sA_sA, gA_same, gA_ne (by omega), smF_s _ _ hlt_21 hlt_9]) (by simp only [nI_1]) rfl (ih_21 hlt_21)
      refine g_sub (L' := [(0, .ref (eA E 5)), (1, .int (nI k)), (2, .int (nI (2 ^ k))), (3, .int 0)]) [2, 3, 1, 0] rfl ?_
      exact g_eq rfl rfl rfl (H_21 0 (Nat.zero_le _))
  refine g_sub (L' := [(0, .ref (eA E 5)), (1, .int 0)]) [1, 0] rfl ?_
  exact g_eq (by rw [smF_1 (gA S 6) (gA S 7)]) rfl rfl (H_9 0 (Nat.zero_le _))
set_option maxRecDepth 100000 in
set_option maxHeartbeats 4000000 in
theorem c_X4_sumGlow (E : En) (S : St) (b : Nat) (place : Int32) (hb : kd b = 0) (hz : okB S b) : CTe E i_X4_sumGlow S [.ref (eA E 5), .ref (eA E b), .int place] (scrF S (glW S b place)) none := by
  have hb2 := kd_bng hb
  refine ct_of [(0, .ref (eA E 5)), (1, .ref (eA E b)), (2, .int place)] (by decide +kernel) (Nat.le_of_ble_eq_true rfl) rfl (fun X hM => ?_)
  refine g_iconst (pc := 0) (v := 0) dX4_sumGlow_0 (by decide) ?_
  refine g_istore_n (pc := 1) (L' := [(3, .int 0), (0, .ref (eA E 5)), (1, .ref (eA E b)), (2, .int place)]) dX4_sumGlow_1 rfl (Nat.le_of_ble_eq_true rfl) rfl ?_
  have H_2 : ∀ n : Nat, n ≤ 8 → G E X i_X4_sumGlow (sA S 6 (fillG (glW S b place) (gA S 6) n)) 2 [(0, .ref (eA E 5)), (1, .ref (eA E b)), (2, .int place), (3, .int (nI n))] [] := by
    refine dn_ind 8 (fun n hn_2 ih_2 => ?_)
    refine g_iload_n (pc := 2) dX4_sumGlow_2 3 rfl rfl ?_
    refine g_bipush (pc := 3) (v := 8) dX4_sumGlow_3 (by decide) ?_
    refine g_icmp_ge (pc := 5) (tgt := 42) dX4_sumGlow_5 (by decide) (fun c_5 => ?_) (fun c_5 => ?_)
    · have k_5 := Int32.not_lt.mpr c_5
      have he_2 : n = 8 := Nat.le_antisymm hn_2 (by exact nle_of (N := 8) rfl rfl (by omega) (by omega) c_5)
      rw [he_2]
      refine g_aload_n (pc := 42) dX4_sumGlow_42 0 rfl rfl ?_
      refine g_invN (pc := 43) j_X4_sumUp mw_X4_41 dX4_sumGlow_43 (rcv_X4) (by rfl) (c_X4_sumUp E (sA S 6 (fillG (glW S b place) (gA S 6) 8)) ) (Nat.le_of_ble_eq_true rfl) (Nat.le_of_ble_eq_true rfl) (by rfl) (Nat.le_of_ble_eq_true rfl) ?_
      exact g_vret (pc := 46) hM rfl ⟨by rw [gA_same, gA_ne (by omega)]; rfl, rfl⟩ dX4_sumGlow_46
    · have k_5 := Int32.not_le.mp c_5
      have hlt_2 : n < 8 := by exact nlt_of (N := 8) rfl rfl (by omega) (by omega) c_5
      refine g_aload_n (pc := 8) dX4_sumGlow_8 0 rfl rfl ?_
      refine gf_X4_9 (pc := 9) rfl dX4_sumGlow_9 ?_
      refine g_iload_n (pc := 12) dX4_sumGlow_12 3 rfl rfl ?_
      refine g_aload_n (pc := 13) dX4_sumGlow_13 1 rfl rfl ?_
      refine g_iload_n (pc := 14) dX4_sumGlow_14 3 rfl rfl ?_
      refine g_invV (pc := 15) j_X0_has mw_X4_30 dX4_sumGlow_15 (rcv_X0 (by assumption)) (by rfl) (c_X0_has E (sA S 6 (fillG (glW S b place) (gA S 6) n)) b (nI n) (by assumption)) (Nat.le_of_ble_eq_true rfl) (Nat.le_of_ble_eq_true rfl) (by rfl) (Nat.le_of_ble_eq_true rfl) ?_
      refine g_b_eq (pc := 18) (tgt := 34) dX4_sumGlow_18 (by decide) (fun c_18 => ?_) (fun c_18 => ?_)
      · rw [hasF_eq (sameB_sA (sameB_rf S b) (by omega) (by omega))] at c_18
        refine g_iconst (pc := 34) (v := 0) dX4_sumGlow_34 (by decide) ?_
        refine g_iast (pc := 35) n rfl rfl (show n < 8 from hlt_2) (by decide) dX4_sumGlow_35 ?_
        refine g_iinc (pc := 36) (L' := [(3, .int (nI n + 1)), (0, .ref (eA E 5)), (1, .ref (eA E b)), (2, .int place)]) dX4_sumGlow_36 (k := 3) rfl (v := nI n + 1) rfl (Nat.le_of_ble_eq_true rfl) rfl ?_
        refine g_goto (pc := 39) (tgt := 2) dX4_sumGlow_39 (by decide) ?_
        refine g_sub (L' := [(0, .ref (eA E 5)), (1, .ref (eA E b)), (2, .int place), (3, .int (nI n + 1))]) [1, 2, 3, 0] rfl ?_
        have ev : glW S b place n = 0 := by rw [glW, c_18]; rfl
        exact g_eq (by rw [sA_sA, gA_same, ← fillG_s, ev]) (by rw [nI_1]) rfl (ih_2 hlt_2)
      · rw [hasF_eq (sameB_sA (sameB_rf S b) (by omega) (by omega))] at c_18
        refine g_aload_n (pc := 21) dX4_sumGlow_21 1 rfl rfl ?_
        refine g_iload_n (pc := 22) dX4_sumGlow_22 3 rfl rfl ?_
        refine g_iload_n (pc := 23) dX4_sumGlow_23 2 rfl rfl ?_
        refine g_aload_n (pc := 24) dX4_sumGlow_24 1 rfl rfl ?_
        refine g_invV (pc := 25) j_X0_thisNight mw_X4_34 dX4_sumGlow_25 (rcv_X0 (by assumption)) (by rfl) (c_X0_thisNight E (sA S 6 (fillG (glW S b place) (gA S 6) n)) b (by assumption)) (Nat.le_of_ble_eq_true rfl) (Nat.le_of_ble_eq_true rfl) (by rfl) (Nat.le_of_ble_eq_true rfl) ?_
        refine g_invV (pc := 28) j_X0_glowAt mw_X4_37 dX4_sumGlow_28 (rcv_X0 (by assumption)) (by rfl) (c_X0_glowAt E (sA S 6 (fillG (glW S b place) (gA S 6) n)) b (nI n) place (gI (sA S 6 (fillG (glW S b place) (gA S 6) n)) b 8) (by assumption) hz) (Nat.le_of_ble_eq_true rfl) (Nat.le_of_ble_eq_true rfl) (by rfl) (Nat.le_of_ble_eq_true rfl) ?_
        rw [glaF_eq (sameB_sA (sameB_rf S b) (by omega) (by omega))]
        refine g_goto (pc := 31) (tgt := 35) dX4_sumGlow_31 (by decide) ?_
        refine g_iast (pc := 35) n rfl rfl (show n < 8 from hlt_2) (by decide) dX4_sumGlow_35 ?_
        refine g_iinc (pc := 36) (L' := [(3, .int (nI n + 1)), (0, .ref (eA E 5)), (1, .ref (eA E b)), (2, .int place)]) dX4_sumGlow_36 (k := 3) rfl (v := nI n + 1) rfl (Nat.le_of_ble_eq_true rfl) rfl ?_
        refine g_goto (pc := 39) (tgt := 2) dX4_sumGlow_39 (by decide) ?_
        refine g_sub (L' := [(0, .ref (eA E 5)), (1, .ref (eA E b)), (2, .int place), (3, .int (nI n + 1))]) [1, 2, 3, 0] rfl ?_
        have ev : glW S b place n = glaF S b (nI n) place (gI S b 8) := by rw [glW, c_18]; rfl
        exact g_eq (by rw [sA_sA, gA_same, ← fillG_s, ev]; rfl) (by rw [nI_1]) rfl (ih_2 hlt_2)
  refine g_sub (L' := [(0, .ref (eA E 5)), (1, .ref (eA E b)), (2, .int place), (3, .int 0)]) [1, 2, 3, 0] rfl ?_
  exact g_eq (by rw [fillG_0, sA_self]) rfl rfl (H_2 0 (Nat.zero_le _))
theorem fa_upd_twice2 (f : Nat → Int32) (i : Nat) (x y : Int32) : upd (upd f i x) i y = upd f i y := by
  funext j
  unfold upd
  by_cases h : j = i <;> simp [h]
set_option maxRecDepth 100000 in
set_option maxHeartbeats 4000000 in
theorem c_X4_sumDebts (E : En) (S : St) (b : Nat) (hb : kd b = 0) (hz : okB S b) : CTe E i_X4_sumDebts S [.ref (eA E 5), .ref (eA E b)] (scrF S (deW S b)) (some (.int (owS S b))) := by
  have hb2 := kd_bng hb
  refine ct_of [(0, .ref (eA E 5)), (1, .ref (eA E b))] (by decide +kernel) (Nat.le_of_ble_eq_true rfl) rfl (fun X hM => ?_)
  refine g_iconst (pc := 0) (v := 0) dX4_sumDebts_0 (by decide) ?_
  refine g_istore_n (pc := 1) (L' := [(2, .int 0), (0, .ref (eA E 5)), (1, .ref (eA E b))]) dX4_sumDebts_1 rfl (Nat.le_of_ble_eq_true rfl) rfl ?_
  refine g_iconst (pc := 2) (v := 0) dX4_sumDebts_2 (by decide) ?_
  refine g_istore_n (pc := 3) (L' := [(3, .int 0), (2, .int 0), (0, .ref (eA E 5)), (1, .ref (eA E b))]) dX4_sumDebts_3 rfl (Nat.le_of_ble_eq_true rfl) rfl ?_
  have H_4 : ∀ n : Nat, n ≤ 8 → G E X i_X4_sumDebts (sA S 6 (fillG (deW S b) (gA S 6) n)) 4 [(0, .ref (eA E 5)), (1, .ref (eA E b)), (2, .int (setB (fun i => owF S b (nI i)) n)), (3, .int (nI n))] [] := by
    refine dn_ind 8 (fun n hn_4 ih_4 => ?_)
    refine g_iload_n (pc := 4) dX4_sumDebts_4 3 rfl rfl ?_
    refine g_bipush (pc := 5) (v := 8) dX4_sumDebts_5 (by decide) ?_
    refine g_icmp_ge (pc := 7) (tgt := 62) dX4_sumDebts_7 (by decide) (fun c_7 => ?_) (fun c_7 => ?_)
    · have k_7 := Int32.not_lt.mpr c_7
      have he_4 : n = 8 := Nat.le_antisymm hn_4 (by exact nle_of (N := 8) rfl rfl (by omega) (by omega) c_7)
      rw [he_4]
      refine g_aload_n (pc := 62) dX4_sumDebts_62 0 rfl rfl ?_
      refine g_invN (pc := 63) j_X4_sumUp mw_X4_41 dX4_sumDebts_63 (rcv_X4) (by rfl) (c_X4_sumUp E (sA S 6 (fillG (deW S b) (gA S 6) 8)) ) (Nat.le_of_ble_eq_true rfl) (Nat.le_of_ble_eq_true rfl) (by rfl) (Nat.le_of_ble_eq_true rfl) ?_
      refine g_iload_n (pc := 66) dX4_sumDebts_66 2 rfl rfl ?_
      exact g_iret (pc := 67) hM rfl rfl ⟨by rw [gA_same, gA_ne (by omega)]; rfl, rfl⟩ dX4_sumDebts_67
    · have k_7 := Int32.not_le.mp c_7
      have hlt_4 : n < 8 := by exact nlt_of (N := 8) rfl rfl (by omega) (by omega) c_7
      refine g_aload_n (pc := 10) dX4_sumDebts_10 0 rfl rfl ?_
      refine gf_X4_9 (pc := 11) rfl dX4_sumDebts_11 ?_
      refine g_iload_n (pc := 14) dX4_sumDebts_14 3 rfl rfl ?_
      refine g_iconst (pc := 15) (v := 0) dX4_sumDebts_15 (by decide) ?_
      refine g_iast (pc := 16) n rfl rfl (show n < 8 from hlt_4) (by decide) dX4_sumDebts_16 ?_
      refine g_aload_n (pc := 17) dX4_sumDebts_17 1 rfl rfl ?_
      refine g_iload_n (pc := 18) dX4_sumDebts_18 3 rfl rfl ?_
      refine g_invV (pc := 19) j_X0_isOwing mw_X4_44 dX4_sumDebts_19 (rcv_X0 (by assumption)) (by rfl) (c_X0_isOwing E (sA (sA S 6 (fillG (deW S b) (gA S 6) n)) 6 (upd (gA (sA S 6 (fillG (deW S b) (gA S 6) n)) 6) n 0)) b (nI n) (by assumption) hz) (Nat.le_of_ble_eq_true rfl) (Nat.le_of_ble_eq_true rfl) (by rfl) (Nat.le_of_ble_eq_true rfl) ?_
      refine g_b_eq (pc := 22) (tgt := 56) dX4_sumDebts_22 (by decide) (fun c_22 => ?_) (fun c_22 => ?_)
      · rw [owF_eq (sameB_sA (sameB_sA (sameB_rf S b) (by omega) (by omega)) (by omega) (by omega))] at c_22
        refine g_iinc (pc := 56) (L' := [(3, .int (nI n + 1)), (0, .ref (eA E 5)), (1, .ref (eA E b)), (2, .int (setB (fun i => owF S b (nI i)) n))]) dX4_sumDebts_56 (k := 3) rfl (v := nI n + 1) rfl (Nat.le_of_ble_eq_true rfl) rfl ?_
        refine g_goto (pc := 59) (tgt := 4) dX4_sumDebts_59 (by decide) ?_
        refine g_sub (L' := [(0, .ref (eA E 5)), (1, .ref (eA E b)), (2, .int (setB (fun i => owF S b (nI i)) n)), (3, .int (nI n + 1))]) [1, 2, 3, 0] rfl ?_
        have ev : deW S b n = 0 := by rw [deW, c_22]; rfl
        exact g_eq (by rw [sA_sA, gA_same, ← fillG_s, ev]) (by simp only [nI_1, setB, c_22, if_false, Bool.false_eq_true]) rfl (ih_4 hlt_4)
      · rw [owF_eq (sameB_sA (sameB_sA (sameB_rf S b) (by omega) (by omega)) (by omega) (by omega))] at c_22
        refine g_aload_n (pc := 25) dX4_sumDebts_25 0 rfl rfl ?_
        refine gf_X4_9 (pc := 26) rfl dX4_sumDebts_26 ?_
        refine g_iload_n (pc := 29) dX4_sumDebts_29 3 rfl rfl ?_
        refine g_iconst (pc := 30) (v := 1) dX4_sumDebts_30 (by decide) ?_
        refine g_iconst (pc := 31) (v := 5) dX4_sumDebts_31 (by decide) ?_
        refine g_aload_n (pc := 32) dX4_sumDebts_32 1 rfl rfl ?_
        refine g_iload_n (pc := 33) dX4_sumDebts_33 3 rfl rfl ?_
        refine g_invV (pc := 34) j_X0_owerOf mw_X4_47 dX4_sumDebts_34 (rcv_X0 (by assumption)) (by rfl) (c_X0_owerOf E (sA (sA S 6 (fillG (deW S b) (gA S 6) n)) 6 (upd (gA (sA S 6 (fillG (deW S b) (gA S 6) n)) 6) n 0)) b (nI n) (by assumption) hz) (Nat.le_of_ble_eq_true rfl) (Nat.le_of_ble_eq_true rfl) (by rfl) (Nat.le_of_ble_eq_true rfl) ?_
        refine g_imul (pc := 37) dX4_sumDebts_37 ?_
        refine g_ishl (pc := 38) dX4_sumDebts_38 ?_
        refine g_iconst (pc := 39) (v := 1) dX4_sumDebts_39 (by decide) ?_
        refine g_iconst (pc := 40) (v := 5) dX4_sumDebts_40 (by decide) ?_
        refine g_aload_n (pc := 41) dX4_sumDebts_41 1 rfl rfl ?_
        refine g_iload_n (pc := 42) dX4_sumDebts_42 3 rfl rfl ?_
        refine g_invV (pc := 43) j_X0_creditorOf mw_X4_51 dX4_sumDebts_43 (rcv_X0 (by assumption)) (by rfl) (c_X0_creditorOf E (sA (sA S 6 (fillG (deW S b) (gA S 6) n)) 6 (upd (gA (sA S 6 (fillG (deW S b) (gA S 6) n)) 6) n 0)) b (nI n) (by assumption) hz) (Nat.le_of_ble_eq_true rfl) (Nat.le_of_ble_eq_true rfl) (by rfl) (Nat.le_of_ble_eq_true rfl) ?_
        refine g_imul (pc := 46) dX4_sumDebts_46 ?_
        refine g_ishl (pc := 47) dX4_sumDebts_47 ?_
        refine g_isub (pc := 48) dX4_sumDebts_48 ?_
        refine g_iast (pc := 49) n rfl rfl (show n < 8 from hlt_4) (by decide) dX4_sumDebts_49 ?_
        refine g_iload_n (pc := 50) dX4_sumDebts_50 2 rfl rfl ?_
        refine g_iconst (pc := 51) (v := 1) dX4_sumDebts_51 (by decide) ?_
        refine g_iload_n (pc := 52) dX4_sumDebts_52 3 rfl rfl ?_
        refine g_ishl (pc := 53) dX4_sumDebts_53 ?_
        refine g_ior (pc := 54) dX4_sumDebts_54 ?_
        refine g_istore_n (pc := 55) (L' := [(2, .int (setB (fun i => owF S b (nI i)) n ||| ((1 : Int32) <<< ((nI n) &&& 31)))), (0, .ref (eA E 5)), (1, .ref (eA E b)), (3, .int (nI n))]) dX4_sumDebts_55 rfl (Nat.le_of_ble_eq_true rfl) rfl ?_
        refine g_iinc (pc := 56) (L' := [(3, .int (nI n + 1)), (2, .int (setB (fun i => owF S b (nI i)) n ||| ((1 : Int32) <<< ((nI n) &&& 31)))), (0, .ref (eA E 5)), (1, .ref (eA E b))]) dX4_sumDebts_56 (k := 3) rfl (v := nI n + 1) rfl (Nat.le_of_ble_eq_true rfl) rfl ?_
        refine g_goto (pc := 59) (tgt := 4) dX4_sumDebts_59 (by decide) ?_
        refine g_sub (L' := [(0, .ref (eA E 5)), (1, .ref (eA E b)), (2, .int (setB (fun i => owF S b (nI i)) n ||| ((1 : Int32) <<< ((nI n) &&& 31)))), (3, .int (nI n + 1))]) [2, 3, 1, 0] rfl ?_
        have ev : deW S b n = ((1 : Int32) <<< ((5 * fldF S b 1 (nI n)) &&& 31)) - ((1 : Int32) <<< ((5 * fldF S b 2 (nI n)) &&& 31)) := by rw [deW, c_22]; rfl
        exact g_eq (by rw [sA_sA, gA_same, sA_sA, gA_same, fa_upd_twice2, ← fillG_s, ev, fldF_eq (sameB_sA (sameB_sA (sameB_rf S b) (by omega) (by omega)) (by omega) (by omega)) (by omega), fldF_eq (sameB_sA (sameB_sA (sameB_rf S b) (by omega) (by omega)) (by omega) (by omega)) (by omega)]) (by simp only [nI_1, setB, c_22, if_true]) rfl (ih_4 hlt_4)
  refine g_sub (L' := [(0, .ref (eA E 5)), (1, .ref (eA E b)), (2, .int 0), (3, .int 0)]) [2, 3, 1, 0] rfl ?_
  exact g_eq (by rw [fillG_0, sA_self]) rfl rfl (H_4 0 (Nat.zero_le _))
theorem sums_at {S : St} {w : Nat → Int32} {n : Nat} (hn : n < 256) : gA (scrF S w) 7 n = sbR (fillG w (gA S 6) 8) n 8 := by
  unfold scrF
  rw [gA_same, smF, if_pos hn]
theorem sbR_fill (w g : Nat → Int32) (n : Nat) : sbR (fillG w g 8) n 8 = sbR w n 8 := by
  have key : ∀ K, K ≤ 8 → sbR (fillG w g 8) n K = sbR w n K := by
    intro K
    induction K with
    | zero => intro _; rfl
    | succ K ih =>
      intro hK
      rw [sbR, sbR, ih (by omega), fillG_in (by omega)]
  exact key 8 (by omega)
theorem sums_is {S : St} {w : Nat → Int32} {n : Nat} (hn : n < 256) : gA (scrF S w) 7 n = sbR w n 8 := by rw [sums_at hn, sbR_fill]
theorem sameB_scr {S : St} {b : Nat} (w : Nat → Int32) (hb : 30 ≤ b) : sameB (scrF S w) S b := sameB_sA (sameB_sA (sameB_rf S b) hb (by omega)) hb (by omega)
theorem szB_scr {S : St} {b : Nat} (w : Nat → Int32) : szB (scrF S w) b = szB S b := rfl
set_option maxRecDepth 100000 in
set_option maxHeartbeats 4000000 in
theorem c_X4_largestRing (E : En) (S : St) (b : Nat) (hb : kd b = 0) (hz : okB S b) : CTe E i_X4_largestRing S [.ref (eA E 5), .ref (eA E b)] (scrF S (deW S b)) (some (.int (lrR (owS S b) (deW S b) (2 ^ szB S b)))) := by
  have hb2 := kd_bng hb
  have hp := pow8 hz.2
  refine ct_of [(0, .ref (eA E 5)), (1, .ref (eA E b))] (by decide +kernel) (Nat.le_of_ble_eq_true rfl) rfl (fun X hM => ?_)
  refine g_aload_n (pc := 0) dX4_largestRing_0 0 rfl rfl ?_
  refine g_aload_n (pc := 1) dX4_largestRing_1 1 rfl rfl ?_
  refine g_invV (pc := 2) j_X4_sumDebts mw_X4_54 dX4_largestRing_2 (rcv_X4) (by rfl) (c_X4_sumDebts E S b (by assumption) hz) (Nat.le_of_ble_eq_true rfl) (Nat.le_of_ble_eq_true rfl) (by rfl) (Nat.le_of_ble_eq_true rfl) ?_
  refine g_istore_n (pc := 5) (L' := [(2, .int (owS S b)), (0, .ref (eA E 5)), (1, .ref (eA E b))]) dX4_largestRing_5 rfl (Nat.le_of_ble_eq_true rfl) rfl ?_
  refine g_iconst (pc := 6) (v := 0) dX4_largestRing_6 (by decide) ?_
  refine g_istore_n (pc := 7) (L' := [(3, .int 0), (2, .int (owS S b)), (0, .ref (eA E 5)), (1, .ref (eA E b))]) dX4_largestRing_7 rfl (Nat.le_of_ble_eq_true rfl) rfl ?_
  refine g_iconst (pc := 8) (v := 0) dX4_largestRing_8 (by decide) ?_
  refine g_istore (pc := 9) (L' := [(4, .int 0), (3, .int 0), (2, .int (owS S b)), (0, .ref (eA E 5)), (1, .ref (eA E b))]) dX4_largestRing_9 (Nat.le_of_ble_eq_true rfl) rfl ?_
  have H_11 : ∀ n : Nat, n ≤ 2 ^ szB S b → G E X i_X4_largestRing (scrF S (deW S b)) 11 [(0, .ref (eA E 5)), (1, .ref (eA E b)), (2, .int (owS S b)), (3, .int (lrR (owS S b) (deW S b) n)), (4, .int (nI n))] [] := by
    refine dn_ind (2 ^ szB S b) (fun n hn_11 ih_11 => ?_)
    refine g_iload (pc := 11) dX4_largestRing_11 4 rfl ?_
    refine g_aload_n (pc := 13) dX4_largestRing_13 1 rfl rfl ?_
    refine g_invS (pc := 14) j_X4_setsOf mw_X4_58 dX4_largestRing_14 (by rfl) (c_X4_setsOf E (scrF S (deW S b)) b (by assumption) hz) (Nat.le_of_ble_eq_true rfl) (Nat.le_of_ble_eq_true rfl) (by rfl) (Nat.le_of_ble_eq_true rfl) ?_
    refine g_icmp_ge (pc := 17) (tgt := 60) dX4_largestRing_17 (by decide) (fun c_17 => ?_) (fun c_17 => ?_)
    · have k_17 := Int32.not_lt.mpr c_17
      have he_11 : n = 2 ^ szB S b := Nat.le_antisymm hn_11 (by exact nle_of (N := 2 ^ szB S b) rfl (by rw [szB_scr]) (by omega) (by omega) c_17)
      rw [he_11]
      refine g_iload_n (pc := 60) dX4_largestRing_60 3 rfl rfl ?_
      exact g_iret (pc := 61) hM rfl rfl ⟨rfl, rfl⟩ dX4_largestRing_61
    · have k_17 := Int32.not_le.mp c_17
      have hlt_11 : n < 2 ^ szB S b := by exact nlt_of (N := 2 ^ szB S b) rfl (by rw [szB_scr]) (by omega) (by omega) c_17
      refine g_iload (pc := 20) dX4_largestRing_20 4 rfl ?_
      refine g_iload_n (pc := 22) dX4_largestRing_22 2 rfl rfl ?_
      refine g_invS (pc := 23) j_X4_isWithin mw_X4_61 dX4_largestRing_23 (by rfl) (c_X4_isWithin E (scrF S (deW S b)) (nI n) (owS S b) ) (Nat.le_of_ble_eq_true rfl) (Nat.le_of_ble_eq_true rfl) (by rfl) (Nat.le_of_ble_eq_true rfl) ?_
      refine g_b_eq (pc := 26) (tgt := 54) dX4_largestRing_26 (by decide) (fun c_26 => ?_) (fun c_26 => ?_)
      · refine g_iinc (pc := 54) (L' := [(4, .int (nI n + 1)), (0, .ref (eA E 5)), (1, .ref (eA E b)), (2, .int (owS S b)), (3, .int (lrR (owS S b) (deW S b) n))]) dX4_largestRing_54 (k := 4) rfl (v := nI n + 1) rfl (Nat.le_of_ble_eq_true rfl) rfl ?_
        refine g_goto (pc := 57) (tgt := 11) dX4_largestRing_57 (by decide) ?_
        refine g_sub (L' := [(0, .ref (eA E 5)), (1, .ref (eA E b)), (2, .int (owS S b)), (3, .int (lrR (owS S b) (deW S b) n)), (4, .int (nI n + 1))]) [1, 2, 3, 4, 0] rfl ?_
        exact g_eq rfl (by simp only [nI_1, lrR, rgP, kbF, c_26, if_true, if_false, Bool.false_eq_true, Bool.not_true, Bool.not_false, Bool.and_true, Bool.true_and, Bool.and_false, Bool.false_and, Bool.or_true, Bool.true_or, Bool.or_false, Bool.false_or, decide_true, decide_false, Bool.and_self]) rfl (ih_11 hlt_11)
      · refine g_aload_n (pc := 29) dX4_largestRing_29 0 rfl rfl ?_
        refine gf_X4_15 (pc := 30) rfl dX4_largestRing_30 ?_
        refine g_iload (pc := 33) dX4_largestRing_33 4 rfl ?_
        refine g_iald (pc := 35) n rfl rfl (show n < 256 by omega) (by decide) dX4_largestRing_35 ?_
        refine g_if_ne (pc := 36) (tgt := 54) dX4_largestRing_36 (by decide) (fun c_36 => ?_) (fun c_36 => ?_)
        · rw [sums_is (show n < 256 by omega)] at c_36
          refine g_iinc (pc := 54) (L' := [(4, .int (nI n + 1)), (0, .ref (eA E 5)), (1, .ref (eA E b)), (2, .int (owS S b)), (3, .int (lrR (owS S b) (deW S b) n))]) dX4_largestRing_54 (k := 4) rfl (v := nI n + 1) rfl (Nat.le_of_ble_eq_true rfl) rfl ?_
          refine g_goto (pc := 57) (tgt := 11) dX4_largestRing_57 (by decide) ?_
          refine g_sub (L' := [(0, .ref (eA E 5)), (1, .ref (eA E b)), (2, .int (owS S b)), (3, .int (lrR (owS S b) (deW S b) n)), (4, .int (nI n + 1))]) [1, 2, 3, 4, 0] rfl ?_
          exact g_eq rfl (by simp only [nI_1, lrR, rgP, kbF, c_26, c_36, if_true, if_false, Bool.false_eq_true, Bool.not_true, Bool.not_false, Bool.and_true, Bool.true_and, Bool.and_false, Bool.false_and, Bool.or_true, Bool.true_or, Bool.or_false, Bool.false_or, decide_true, decide_false, Bool.and_self]) rfl (ih_11 hlt_11)
        · rw [sums_is (show n < 256 by omega)] at c_36
          refine g_iload (pc := 39) dX4_largestRing_39 4 rfl ?_
          refine g_invS (pc := 41) j_J6_bitCount mw_X4_65 dX4_largestRing_41 (by rfl) (c_J6_bitCount E (scrF S (deW S b)) (nI n) ) (Nat.le_of_ble_eq_true rfl) (Nat.le_of_ble_eq_true rfl) (by rfl) (Nat.le_of_ble_eq_true rfl) ?_
          refine g_iload_n (pc := 44) dX4_largestRing_44 3 rfl rfl ?_
          refine g_invS (pc := 45) j_J6_bitCount mw_X4_65 dX4_largestRing_45 (by rfl) (c_J6_bitCount E (scrF S (deW S b)) (lrR (owS S b) (deW S b) n) ) (Nat.le_of_ble_eq_true rfl) (Nat.le_of_ble_eq_true rfl) (by rfl) (Nat.le_of_ble_eq_true rfl) ?_
          refine g_icmp_le (pc := 48) (tgt := 54) dX4_largestRing_48 (by decide) (fun c_48 => ?_) (fun c_48 => ?_)
          · have k_48 := Int32.not_lt.mpr c_48
            refine g_iinc (pc := 54) (L' := [(4, .int (nI n + 1)), (0, .ref (eA E 5)), (1, .ref (eA E b)), (2, .int (owS S b)), (3, .int (lrR (owS S b) (deW S b) n))]) dX4_largestRing_54 (k := 4) rfl (v := nI n + 1) rfl (Nat.le_of_ble_eq_true rfl) rfl ?_
            refine g_goto (pc := 57) (tgt := 11) dX4_largestRing_57 (by decide) ?_
            refine g_sub (L' := [(0, .ref (eA E 5)), (1, .ref (eA E b)), (2, .int (owS S b)), (3, .int (lrR (owS S b) (deW S b) n)), (4, .int (nI n + 1))]) [1, 2, 3, 4, 0] rfl ?_
            exact g_eq rfl (by simp only [nI_1, lrR, rgP, kbF, c_26, eq_true c_36, c_48, k_48, if_true, if_false, Bool.false_eq_true, Bool.not_true, Bool.not_false, Bool.and_true, Bool.true_and, Bool.and_false, Bool.false_and, Bool.or_true, Bool.true_or, Bool.or_false, Bool.false_or, decide_true, decide_false, Bool.and_self]) rfl (ih_11 hlt_11)
          · have k_48 := Int32.not_le.mp c_48
            refine g_iload (pc := 51) dX4_largestRing_51 4 rfl ?_
            refine g_istore_n (pc := 53) (L' := [(3, .int (nI n)), (0, .ref (eA E 5)), (1, .ref (eA E b)), (2, .int (owS S b)), (4, .int (nI n))]) dX4_largestRing_53 rfl (Nat.le_of_ble_eq_true rfl) rfl ?_
            refine g_iinc (pc := 54) (L' := [(4, .int (nI n + 1)), (3, .int (nI n)), (0, .ref (eA E 5)), (1, .ref (eA E b)), (2, .int (owS S b))]) dX4_largestRing_54 (k := 4) rfl (v := nI n + 1) rfl (Nat.le_of_ble_eq_true rfl) rfl ?_
            refine g_goto (pc := 57) (tgt := 11) dX4_largestRing_57 (by decide) ?_
            refine g_sub (L' := [(0, .ref (eA E 5)), (1, .ref (eA E b)), (2, .int (owS S b)), (3, .int (nI n)), (4, .int (nI n + 1))]) [2, 3, 4, 1, 0] rfl ?_
            exact g_eq rfl (by simp only [nI_1, lrR, rgP, kbF, c_26, eq_true c_36, c_48, k_48, if_true, if_false, Bool.false_eq_true, Bool.not_true, Bool.not_false, Bool.and_true, Bool.true_and, Bool.and_false, Bool.false_and, Bool.or_true, Bool.true_or, Bool.or_false, Bool.false_or, decide_true, decide_false, Bool.and_self]) rfl (ih_11 hlt_11)
  refine g_sub (L' := [(0, .ref (eA E 5)), (1, .ref (eA E b)), (2, .int (owS S b)), (3, .int 0), (4, .int 0)]) [3, 4, 2, 1, 0] rfl ?_
  exact g_eq rfl rfl rfl (H_11 0 (Nat.zero_le _))
set_option maxRecDepth 100000 in
set_option maxHeartbeats 4000000 in
theorem c_X4_ringsWith (E : En) (S : St) (b : Nat) (k : Int32) (hb : kd b = 0) (hz : okB S b) : CTe E i_X4_ringsWith S [.ref (eA E 5), .ref (eA E b), .int k] (scrF S (deW S b)) (some (.int (sumB (fun n => rgP (owS S b) (deW S b) n && kbF k n) (fun _ => 1) (2 ^ szB S b)))) := by
  have hb2 := kd_bng hb
  have hp := pow8 hz.2
  refine ct_of [(0, .ref (eA E 5)), (1, .ref (eA E b)), (2, .int k)] (by decide +kernel) (Nat.le_of_ble_eq_true rfl) rfl (fun X hM => ?_)
  refine g_aload_n (pc := 0) dX4_ringsWith_0 0 rfl rfl ?_
  refine g_aload_n (pc := 1) dX4_ringsWith_1 1 rfl rfl ?_
  refine g_invV (pc := 2) j_X4_sumDebts mw_X4_54 dX4_ringsWith_2 (rcv_X4) (by rfl) (c_X4_sumDebts E S b (by assumption) hz) (Nat.le_of_ble_eq_true rfl) (Nat.le_of_ble_eq_true rfl) (by rfl) (Nat.le_of_ble_eq_true rfl) ?_
  refine g_istore_n (pc := 5) (L' := [(3, .int (owS S b)), (0, .ref (eA E 5)), (1, .ref (eA E b)), (2, .int k)]) dX4_ringsWith_5 rfl (Nat.le_of_ble_eq_true rfl) rfl ?_
  refine g_iconst (pc := 6) (v := 0) dX4_ringsWith_6 (by decide) ?_
  refine g_istore (pc := 7) (L' := [(4, .int 0), (3, .int (owS S b)), (0, .ref (eA E 5)), (1, .ref (eA E b)), (2, .int k)]) dX4_ringsWith_7 (Nat.le_of_ble_eq_true rfl) rfl ?_
  refine g_iconst (pc := 9) (v := 0) dX4_ringsWith_9 (by decide) ?_
  refine g_istore (pc := 10) (L' := [(5, .int 0), (4, .int 0), (3, .int (owS S b)), (0, .ref (eA E 5)), (1, .ref (eA E b)), (2, .int k)]) dX4_ringsWith_10 (Nat.le_of_ble_eq_true rfl) rfl ?_
  have H_12 : ∀ n : Nat, n ≤ 2 ^ szB S b → G E X i_X4_ringsWith (scrF S (deW S b)) 12 [(0, .ref (eA E 5)), (1, .ref (eA E b)), (2, .int k), (3, .int (owS S b)), (4, .int (sumB (fun n => rgP (owS S b) (deW S b) n && kbF k n) (fun _ => 1) n)), (5, .int (nI n))] [] := by
    refine dn_ind (2 ^ szB S b) (fun n hn_12 ih_12 => ?_)
    refine g_iload (pc := 12) dX4_ringsWith_12 5 rfl ?_
    refine g_aload_n (pc := 14) dX4_ringsWith_14 1 rfl rfl ?_
    refine g_invS (pc := 15) j_X4_setsOf mw_X4_58 dX4_ringsWith_15 (by rfl) (c_X4_setsOf E (scrF S (deW S b)) b (by assumption) hz) (Nat.le_of_ble_eq_true rfl) (Nat.le_of_ble_eq_true rfl) (by rfl) (Nat.le_of_ble_eq_true rfl) ?_
    refine g_icmp_ge (pc := 18) (tgt := 59) dX4_ringsWith_18 (by decide) (fun c_18 => ?_) (fun c_18 => ?_)
    · have k_18 := Int32.not_lt.mpr c_18
      have he_12 : n = 2 ^ szB S b := Nat.le_antisymm hn_12 (by exact nle_of (N := 2 ^ szB S b) rfl (by rw [szB_scr]) (by omega) (by omega) c_18)
      rw [he_12]
      refine g_iload (pc := 59) dX4_ringsWith_59 4 rfl ?_
      exact g_iret (pc := 61) hM rfl rfl ⟨rfl, rfl⟩ dX4_ringsWith_61
    · have k_18 := Int32.not_le.mp c_18
      have hlt_12 : n < 2 ^ szB S b := by exact nlt_of (N := 2 ^ szB S b) rfl (by rw [szB_scr]) (by omega) (by omega) c_18
      refine g_iload (pc := 21) dX4_ringsWith_21 5 rfl ?_
      refine g_iload_n (pc := 23) dX4_ringsWith_23 3 rfl rfl ?_
      refine g_invS (pc := 24) j_X4_isWithin mw_X4_61 dX4_ringsWith_24 (by rfl) (c_X4_isWithin E (scrF S (deW S b)) (nI n) (owS S b) ) (Nat.le_of_ble_eq_true rfl) (Nat.le_of_ble_eq_true rfl) (by rfl) (Nat.le_of_ble_eq_true rfl) ?_
      refine g_b_eq (pc := 27) (tgt := 53) dX4_ringsWith_27 (by decide) (fun c_27 => ?_) (fun c_27 => ?_)
      · refine g_iinc (pc := 53) (L' := [(5, .int (nI n + 1)), (0, .ref (eA E 5)), (1, .ref (eA E b)), (2, .int k), (3, .int (owS S b)), (4, .int (sumB (fun n => rgP (owS S b) (deW S b) n && kbF k n) (fun _ => 1) n))]) dX4_ringsWith_53 (k := 5) rfl (v := nI n + 1) rfl (Nat.le_of_ble_eq_true rfl) rfl ?_
        refine g_goto (pc := 56) (tgt := 12) dX4_ringsWith_56 (by decide) ?_
        refine g_sub (L' := [(0, .ref (eA E 5)), (1, .ref (eA E b)), (2, .int k), (3, .int (owS S b)), (4, .int (sumB (fun n => rgP (owS S b) (deW S b) n && kbF k n) (fun _ => 1) n)), (5, .int (nI n + 1))]) [1, 2, 3, 4, 5, 0] rfl ?_
        exact g_eq rfl (by simp only [nI_1, sumB, rgP, kbF, c_27, if_true, if_false, Bool.false_eq_true, Bool.not_true, Bool.not_false, Bool.and_true, Bool.true_and, Bool.and_false, Bool.false_and, Bool.or_true, Bool.true_or, Bool.or_false, Bool.false_or, decide_true, decide_false, Bool.and_self]) rfl (ih_12 hlt_12)
      · refine g_aload_n (pc := 30) dX4_ringsWith_30 0 rfl rfl ?_
        refine gf_X4_15 (pc := 31) rfl dX4_ringsWith_31 ?_
        refine g_iload (pc := 34) dX4_ringsWith_34 5 rfl ?_
        refine g_iald (pc := 36) n rfl rfl (show n < 256 by omega) (by decide) dX4_ringsWith_36 ?_
        refine g_if_ne (pc := 37) (tgt := 53) dX4_ringsWith_37 (by decide) (fun c_37 => ?_) (fun c_37 => ?_)
        · rw [sums_is (show n < 256 by omega)] at c_37
          refine g_iinc (pc := 53) (L' := [(5, .int (nI n + 1)), (0, .ref (eA E 5)), (1, .ref (eA E b)), (2, .int k), (3, .int (owS S b)), (4, .int (sumB (fun n => rgP (owS S b) (deW S b) n && kbF k n) (fun _ => 1) n))]) dX4_ringsWith_53 (k := 5) rfl (v := nI n + 1) rfl (Nat.le_of_ble_eq_true rfl) rfl ?_
          refine g_goto (pc := 56) (tgt := 12) dX4_ringsWith_56 (by decide) ?_
          refine g_sub (L' := [(0, .ref (eA E 5)), (1, .ref (eA E b)), (2, .int k), (3, .int (owS S b)), (4, .int (sumB (fun n => rgP (owS S b) (deW S b) n && kbF k n) (fun _ => 1) n)), (5, .int (nI n + 1))]) [1, 2, 3, 4, 5, 0] rfl ?_
          exact g_eq rfl (by simp only [nI_1, sumB, rgP, kbF, c_27, c_37, if_true, if_false, Bool.false_eq_true, Bool.not_true, Bool.not_false, Bool.and_true, Bool.true_and, Bool.and_false, Bool.false_and, Bool.or_true, Bool.true_or, Bool.or_false, Bool.false_or, decide_true, decide_false, Bool.and_self]) rfl (ih_12 hlt_12)
        · rw [sums_is (show n < 256 by omega)] at c_37
          refine g_iload (pc := 40) dX4_ringsWith_40 5 rfl ?_
          refine g_iload_n (pc := 42) dX4_ringsWith_42 2 rfl rfl ?_
          refine g_ishr (pc := 43) dX4_ringsWith_43 ?_
          refine g_iconst (pc := 44) (v := 1) dX4_ringsWith_44 (by decide) ?_
          refine g_iand (pc := 45) dX4_ringsWith_45 ?_
          refine g_iconst (pc := 46) (v := 1) dX4_ringsWith_46 (by decide) ?_
          refine g_icmp_ne (pc := 47) (tgt := 53) dX4_ringsWith_47 (by decide) (fun c_47 => ?_) (fun c_47 => ?_)
          · refine g_iinc (pc := 53) (L' := [(5, .int (nI n + 1)), (0, .ref (eA E 5)), (1, .ref (eA E b)), (2, .int k), (3, .int (owS S b)), (4, .int (sumB (fun n => rgP (owS S b) (deW S b) n && kbF k n) (fun _ => 1) n))]) dX4_ringsWith_53 (k := 5) rfl (v := nI n + 1) rfl (Nat.le_of_ble_eq_true rfl) rfl ?_
            refine g_goto (pc := 56) (tgt := 12) dX4_ringsWith_56 (by decide) ?_
            refine g_sub (L' := [(0, .ref (eA E 5)), (1, .ref (eA E b)), (2, .int k), (3, .int (owS S b)), (4, .int (sumB (fun n => rgP (owS S b) (deW S b) n && kbF k n) (fun _ => 1) n)), (5, .int (nI n + 1))]) [1, 2, 3, 4, 5, 0] rfl ?_
            exact g_eq rfl (by simp only [nI_1, sumB, rgP, kbF, c_27, eq_true c_37, c_47, if_true, if_false, Bool.false_eq_true, Bool.not_true, Bool.not_false, Bool.and_true, Bool.true_and, Bool.and_false, Bool.false_and, Bool.or_true, Bool.true_or, Bool.or_false, Bool.false_or, decide_true, decide_false, Bool.and_self]) rfl (ih_12 hlt_12)
          · refine g_iinc (pc := 50) (L' := [(4, .int (sumB (fun n => rgP (owS S b) (deW S b) n && kbF k n) (fun _ => 1) n + 1)), (0, .ref (eA E 5)), (1, .ref (eA E b)), (2, .int k), (3, .int (owS S b)), (5, .int (nI n))]) dX4_ringsWith_50 (k := 4) rfl (v := sumB (fun n => rgP (owS S b) (deW S b) n && kbF k n) (fun _ => 1) n + 1) rfl (Nat.le_of_ble_eq_true rfl) rfl ?_
            refine g_iinc (pc := 53) (L' := [(5, .int (nI n + 1)), (4, .int (sumB (fun n => rgP (owS S b) (deW S b) n && kbF k n) (fun _ => 1) n + 1)), (0, .ref (eA E 5)), (1, .ref (eA E b)), (2, .int k), (3, .int (owS S b))]) dX4_ringsWith_53 (k := 5) rfl (v := nI n + 1) rfl (Nat.le_of_ble_eq_true rfl) rfl ?_
            refine g_goto (pc := 56) (tgt := 12) dX4_ringsWith_56 (by decide) ?_
            refine g_sub (L' := [(0, .ref (eA E 5)), (1, .ref (eA E b)), (2, .int k), (3, .int (owS S b)), (4, .int (sumB (fun n => rgP (owS S b) (deW S b) n && kbF k n) (fun _ => 1) n + 1)), (5, .int (nI n + 1))]) [2, 3, 4, 5, 1, 0] rfl ?_
            exact g_eq rfl (by simp only [nI_1, sumB, rgP, kbF, c_27, eq_true c_37, eq_true c_47, if_true, if_false, Bool.false_eq_true, Bool.not_true, Bool.not_false, Bool.and_true, Bool.true_and, Bool.and_false, Bool.false_and, Bool.or_true, Bool.true_or, Bool.or_false, Bool.false_or, decide_true, decide_false, Bool.and_self]) rfl (ih_12 hlt_12)
  refine g_sub (L' := [(0, .ref (eA E 5)), (1, .ref (eA E b)), (2, .int k), (3, .int (owS S b)), (4, .int 0), (5, .int 0)]) [3, 4, 5, 2, 1, 0] rfl ?_
  exact g_eq rfl rfl rfl (H_12 0 (Nat.zero_le _))
set_option maxRecDepth 100000 in
set_option maxHeartbeats 4000000 in
theorem c_X4_smallestRingWith (E : En) (S : St) (b : Nat) (k : Int32) (hb : kd b = 0) (hz : okB S b) : CTe E i_X4_smallestRingWith S [.ref (eA E 5), .ref (eA E b), .int k] (scrF S (deW S b)) (some (.int (srR (owS S b) (deW S b) k (2 ^ szB S b)))) := by
  have hb2 := kd_bng hb
  have hp := pow8 hz.2
  refine ct_of [(0, .ref (eA E 5)), (1, .ref (eA E b)), (2, .int k)] (by decide +kernel) (Nat.le_of_ble_eq_true rfl) rfl (fun X hM => ?_)
  refine g_aload_n (pc := 0) dX4_smallestRingWith_0 0 rfl rfl ?_
  refine g_aload_n (pc := 1) dX4_smallestRingWith_1 1 rfl rfl ?_
  refine g_invV (pc := 2) j_X4_sumDebts mw_X4_54 dX4_smallestRingWith_2 (rcv_X4) (by rfl) (c_X4_sumDebts E S b (by assumption) hz) (Nat.le_of_ble_eq_true rfl) (Nat.le_of_ble_eq_true rfl) (by rfl) (Nat.le_of_ble_eq_true rfl) ?_
  refine g_istore_n (pc := 5) (L' := [(3, .int (owS S b)), (0, .ref (eA E 5)), (1, .ref (eA E b)), (2, .int k)]) dX4_smallestRingWith_5 rfl (Nat.le_of_ble_eq_true rfl) rfl ?_
  refine g_iconst (pc := 6) (v := 0) dX4_smallestRingWith_6 (by decide) ?_
  refine g_istore (pc := 7) (L' := [(4, .int 0), (3, .int (owS S b)), (0, .ref (eA E 5)), (1, .ref (eA E b)), (2, .int k)]) dX4_smallestRingWith_7 (Nat.le_of_ble_eq_true rfl) rfl ?_
  refine g_iconst (pc := 9) (v := 0) dX4_smallestRingWith_9 (by decide) ?_
  refine g_istore (pc := 10) (L' := [(5, .int 0), (4, .int 0), (3, .int (owS S b)), (0, .ref (eA E 5)), (1, .ref (eA E b)), (2, .int k)]) dX4_smallestRingWith_10 (Nat.le_of_ble_eq_true rfl) rfl ?_
  have H_12 : ∀ n : Nat, n ≤ 2 ^ szB S b → G E X i_X4_smallestRingWith (scrF S (deW S b)) 12 [(0, .ref (eA E 5)), (1, .ref (eA E b)), (2, .int k), (3, .int (owS S b)), (4, .int (srR (owS S b) (deW S b) k n)), (5, .int (nI n))] [] := by
    refine dn_ind (2 ^ szB S b) (fun n hn_12 ih_12 => ?_)
    refine g_iload (pc := 12) dX4_smallestRingWith_12 5 rfl ?_
    refine g_aload_n (pc := 14) dX4_smallestRingWith_14 1 rfl rfl ?_
    refine g_invS (pc := 15) j_X4_setsOf mw_X4_58 dX4_smallestRingWith_15 (by rfl) (c_X4_setsOf E (scrF S (deW S b)) b (by assumption) hz) (Nat.le_of_ble_eq_true rfl) (Nat.le_of_ble_eq_true rfl) (by rfl) (Nat.le_of_ble_eq_true rfl) ?_
    refine g_icmp_ge (pc := 18) (tgt := 90) dX4_smallestRingWith_18 (by decide) (fun c_18 => ?_) (fun c_18 => ?_)
    · have k_18 := Int32.not_lt.mpr c_18
      have he_12 : n = 2 ^ szB S b := Nat.le_antisymm hn_12 (by exact nle_of (N := 2 ^ szB S b) rfl (by rw [szB_scr]) (by omega) (by omega) c_18)
      rw [he_12]
      refine g_iload (pc := 90) dX4_smallestRingWith_90 4 rfl ?_
      exact g_iret (pc := 92) hM rfl rfl ⟨rfl, rfl⟩ dX4_smallestRingWith_92
    · have k_18 := Int32.not_le.mp c_18
      have hlt_12 : n < 2 ^ szB S b := by exact nlt_of (N := 2 ^ szB S b) rfl (by rw [szB_scr]) (by omega) (by omega) c_18
      refine g_iload (pc := 21) dX4_smallestRingWith_21 4 rfl ?_
      refine g_if_eq (pc := 23) (tgt := 39) dX4_smallestRingWith_23 (by decide) (fun c_23 => ?_) (fun c_23 => ?_)
      · refine g_iconst (pc := 39) (v := 1) dX4_smallestRingWith_39 (by decide) ?_
        refine g_goto (pc := 40) (tgt := 44) dX4_smallestRingWith_40 (by decide) ?_
        refine g_istore (pc := 44) (L' := [(6, .int 1), (0, .ref (eA E 5)), (1, .ref (eA E b)), (2, .int k), (3, .int (owS S b)), (4, .int (srR (owS S b) (deW S b) k n)), (5, .int (nI n))]) dX4_smallestRingWith_44 (Nat.le_of_ble_eq_true rfl) rfl ?_
        refine g_iload (pc := 46) dX4_smallestRingWith_46 0 rfl ?_
        refine g_if_eq (pc := 48) (tgt := 84) dX4_smallestRingWith_48 (by decide) (fun c_48 => ?_) (fun c_48 => ?_)
        · exact absurd c_48 (by decide)
        · refine g_iload (pc := 51) dX4_smallestRingWith_51 6 rfl ?_
          refine g_iload_n (pc := 53) dX4_smallestRingWith_53 4 rfl rfl ?_
          refine g_invS (pc := 54) j_X4_isWithin mw_X4_61 dX4_smallestRingWith_54 (by rfl) (c_X4_isWithin E (scrF S (deW S b)) (nI n) (owS S b) ) (Nat.le_of_ble_eq_true rfl) (Nat.le_of_ble_eq_true rfl) (by rfl) (Nat.le_of_ble_eq_true rfl) ?_
          refine g_b_eq (pc := 57) (tgt := 84) dX4_smallestRingWith_57 (by decide) (fun c_57 => ?_) (fun c_57 => ?_)
          · refine g_iinc (pc := 84) (L' := [(5, .int (nI n + 1)), (6, .int 1), (0, .ref (eA E 5)), (1, .ref (eA E b)), (2, .int k), (3, .int (owS S b)), (4, .int (srR (owS S b) (deW S b) k n))]) dX4_smallestRingWith_84 (k := 6) rfl (v := nI n + 1) rfl (Nat.le_of_ble_eq_true rfl) rfl ?_
            refine g_goto (pc := 87) (tgt := 12) dX4_smallestRingWith_87 (by decide) ?_
            refine g_sub (L' := [(0, .ref (eA E 5)), (1, .ref (eA E b)), (2, .int k), (3, .int (owS S b)), (4, .int (srR (owS S b) (deW S b) k n)), (5, .int (nI n + 1))]) [2, 3, 4, 5, 6, 0] rfl ?_
            exact g_eq rfl (by simp only [nI_1, srR, rgP, kbF, eq_true c_23, c_57, if_true, if_false, Bool.false_eq_true, Bool.not_true, Bool.not_false, Bool.and_true, Bool.true_and, Bool.and_false, Bool.false_and, Bool.or_true, Bool.true_or, Bool.or_false, Bool.false_or, decide_true, decide_false, Bool.and_self]) rfl (ih_12 hlt_12)
          · refine g_aload_n (pc := 60) dX4_smallestRingWith_60 1 rfl rfl ?_
            refine gf_X4_15 (pc := 61) rfl dX4_smallestRingWith_61 ?_
            refine g_iload (pc := 64) dX4_smallestRingWith_64 6 rfl ?_
            refine g_iald (pc := 66) n rfl rfl (show n < 256 by omega) (by decide) dX4_smallestRingWith_66 ?_
            refine g_if_ne (pc := 67) (tgt := 84) dX4_smallestRingWith_67 (by decide) (fun c_67 => ?_) (fun c_67 => ?_)
            · rw [sums_is (show n < 256 by omega)] at c_67
              refine g_iinc (pc := 84) (L' := [(5, .int (nI n + 1)), (6, .int 1), (0, .ref (eA E 5)), (1, .ref (eA E b)), (2, .int k), (3, .int (owS S b)), (4, .int (srR (owS S b) (deW S b) k n))]) dX4_smallestRingWith_84 (k := 6) rfl (v := nI n + 1) rfl (Nat.le_of_ble_eq_true rfl) rfl ?_
              refine g_goto (pc := 87) (tgt := 12) dX4_smallestRingWith_87 (by decide) ?_
              refine g_sub (L' := [(0, .ref (eA E 5)), (1, .ref (eA E b)), (2, .int k), (3, .int (owS S b)), (4, .int (srR (owS S b) (deW S b) k n)), (5, .int (nI n + 1))]) [2, 3, 4, 5, 6, 0] rfl ?_
              exact g_eq rfl (by simp only [nI_1, srR, rgP, kbF, eq_true c_23, c_57, c_67, if_true, if_false, Bool.false_eq_true, Bool.not_true, Bool.not_false, Bool.and_true, Bool.true_and, Bool.and_false, Bool.false_and, Bool.or_true, Bool.true_or, Bool.or_false, Bool.false_or, decide_true, decide_false, Bool.and_self]) rfl (ih_12 hlt_12)
            · rw [sums_is (show n < 256 by omega)] at c_67
              refine g_iload (pc := 70) dX4_smallestRingWith_70 6 rfl ?_
              refine g_iload_n (pc := 72) dX4_smallestRingWith_72 3 rfl rfl ?_
              refine g_ishr (pc := 73) dX4_smallestRingWith_73 ?_
              refine g_iconst (pc := 74) (v := 1) dX4_smallestRingWith_74 (by decide) ?_
              refine g_iand (pc := 75) dX4_smallestRingWith_75 ?_
              refine g_iconst (pc := 76) (v := 1) dX4_smallestRingWith_76 (by decide) ?_
              refine g_icmp_ne (pc := 77) (tgt := 84) dX4_smallestRingWith_77 (by decide) (fun c_77 => ?_) (fun c_77 => ?_)
              · refine g_iinc (pc := 84) (L' := [(5, .int (nI n + 1)), (6, .int 1), (0, .ref (eA E 5)), (1, .ref (eA E b)), (2, .int k), (3, .int (owS S b)), (4, .int (srR (owS S b) (deW S b) k n))]) dX4_smallestRingWith_84 (k := 6) rfl (v := nI n + 1) rfl (Nat.le_of_ble_eq_true rfl) rfl ?_
                refine g_goto (pc := 87) (tgt := 12) dX4_smallestRingWith_87 (by decide) ?_
                refine g_sub (L' := [(0, .ref (eA E 5)), (1, .ref (eA E b)), (2, .int k), (3, .int (owS S b)), (4, .int (srR (owS S b) (deW S b) k n)), (5, .int (nI n + 1))]) [2, 3, 4, 5, 6, 0] rfl ?_
                exact g_eq rfl (by simp only [nI_1, srR, rgP, kbF, eq_true c_23, c_57, eq_true c_67, c_77, if_true, if_false, Bool.false_eq_true, Bool.not_true, Bool.not_false, Bool.and_true, Bool.true_and, Bool.and_false, Bool.false_and, Bool.or_true, Bool.true_or, Bool.or_false, Bool.false_or, decide_true, decide_false, Bool.and_self]) rfl (ih_12 hlt_12)
              · refine g_iload (pc := 80) dX4_smallestRingWith_80 6 rfl ?_
                refine g_istore (pc := 82) (L' := [(4, .int (nI n)), (6, .int 1), (0, .ref (eA E 5)), (1, .ref (eA E b)), (2, .int k), (3, .int (owS S b)), (5, .int (nI n))]) dX4_smallestRingWith_82 (Nat.le_of_ble_eq_true rfl) rfl ?_
                refine g_iinc (pc := 84) (L' := [(5, .int (nI n + 1)), (4, .int (nI n)), (6, .int 1), (0, .ref (eA E 5)), (1, .ref (eA E b)), (2, .int k), (3, .int (owS S b))]) dX4_smallestRingWith_84 (k := 6) rfl (v := nI n + 1) rfl (Nat.le_of_ble_eq_true rfl) rfl ?_
                refine g_goto (pc := 87) (tgt := 12) dX4_smallestRingWith_87 (by decide) ?_
                refine g_sub (L' := [(0, .ref (eA E 5)), (1, .ref (eA E b)), (2, .int k), (3, .int (owS S b)), (4, .int (nI n)), (5, .int (nI n + 1))]) [3, 4, 5, 6, 1, 0] rfl ?_
                exact g_eq rfl (by simp only [nI_1, srR, rgP, kbF, eq_true c_23, c_57, eq_true c_67, eq_true c_77, if_true, if_false, Bool.false_eq_true, Bool.not_true, Bool.not_false, Bool.and_true, Bool.true_and, Bool.and_false, Bool.false_and, Bool.or_true, Bool.true_or, Bool.or_false, Bool.false_or, decide_true, decide_false, Bool.and_self]) rfl (ih_12 hlt_12)
      · refine g_iload (pc := 26) dX4_smallestRingWith_26 5 rfl ?_
        refine g_invS (pc := 28) j_J6_bitCount mw_X4_65 dX4_smallestRingWith_28 (by rfl) (c_J6_bitCount E (scrF S (deW S b)) (nI n) ) (Nat.le_of_ble_eq_true rfl) (Nat.le_of_ble_eq_true rfl) (by rfl) (Nat.le_of_ble_eq_true rfl) ?_
        refine g_iload (pc := 31) dX4_smallestRingWith_31 4 rfl ?_
        refine g_invS (pc := 33) j_J6_bitCount mw_X4_65 dX4_smallestRingWith_33 (by rfl) (c_J6_bitCount E (scrF S (deW S b)) (srR (owS S b) (deW S b) k n) ) (Nat.le_of_ble_eq_true rfl) (Nat.le_of_ble_eq_true rfl) (by rfl) (Nat.le_of_ble_eq_true rfl) ?_
        refine g_icmp_ge (pc := 36) (tgt := 43) dX4_smallestRingWith_36 (by decide) (fun c_36 => ?_) (fun c_36 => ?_)
        · have k_36 := Int32.not_lt.mpr c_36
          refine g_iconst (pc := 43) (v := 0) dX4_smallestRingWith_43 (by decide) ?_
          refine g_istore (pc := 44) (L' := [(6, .int 0), (0, .ref (eA E 5)), (1, .ref (eA E b)), (2, .int k), (3, .int (owS S b)), (4, .int (srR (owS S b) (deW S b) k n)), (5, .int (nI n))]) dX4_smallestRingWith_44 (Nat.le_of_ble_eq_true rfl) rfl ?_
          refine g_iload (pc := 46) dX4_smallestRingWith_46 0 rfl ?_
          refine g_if_eq (pc := 48) (tgt := 84) dX4_smallestRingWith_48 (by decide) (fun c_48 => ?_) (fun c_48 => ?_)
          · refine g_iinc (pc := 84) (L' := [(5, .int (nI n + 1)), (6, .int 0), (0, .ref (eA E 5)), (1, .ref (eA E b)), (2, .int k), (3, .int (owS S b)), (4, .int (srR (owS S b) (deW S b) k n))]) dX4_smallestRingWith_84 (k := 6) rfl (v := nI n + 1) rfl (Nat.le_of_ble_eq_true rfl) rfl ?_
            refine g_goto (pc := 87) (tgt := 12) dX4_smallestRingWith_87 (by decide) ?_
            refine g_sub (L' := [(0, .ref (eA E 5)), (1, .ref (eA E b)), (2, .int k), (3, .int (owS S b)), (4, .int (srR (owS S b) (deW S b) k n)), (5, .int (nI n + 1))]) [2, 3, 4, 5, 6, 0] rfl ?_
            exact g_eq rfl (by simp only [nI_1, srR, rgP, kbF, c_23, c_36, k_36, if_true, if_false, Bool.false_eq_true, Bool.not_true, Bool.not_false, Bool.and_true, Bool.true_and, Bool.and_false, Bool.false_and, Bool.or_true, Bool.true_or, Bool.or_false, Bool.false_or, decide_true, decide_false, Bool.and_self]) rfl (ih_12 hlt_12)
          · exact absurd c_48 (by decide)
        · have k_36 := Int32.not_le.mp c_36
          refine g_iconst (pc := 39) (v := 1) dX4_smallestRingWith_39 (by decide) ?_
          refine g_goto (pc := 40) (tgt := 44) dX4_smallestRingWith_40 (by decide) ?_
          refine g_istore (pc := 44) (L' := [(6, .int 1), (0, .ref (eA E 5)), (1, .ref (eA E b)), (2, .int k), (3, .int (owS S b)), (4, .int (srR (owS S b) (deW S b) k n)), (5, .int (nI n))]) dX4_smallestRingWith_44 (Nat.le_of_ble_eq_true rfl) rfl ?_
          refine g_iload (pc := 46) dX4_smallestRingWith_46 0 rfl ?_
          refine g_if_eq (pc := 48) (tgt := 84) dX4_smallestRingWith_48 (by decide) (fun c_48 => ?_) (fun c_48 => ?_)
          · exact absurd c_48 (by decide)
          · refine g_iload (pc := 51) dX4_smallestRingWith_51 6 rfl ?_
            refine g_iload_n (pc := 53) dX4_smallestRingWith_53 4 rfl rfl ?_
            refine g_invS (pc := 54) j_X4_isWithin mw_X4_61 dX4_smallestRingWith_54 (by rfl) (c_X4_isWithin E (scrF S (deW S b)) (nI n) (owS S b) ) (Nat.le_of_ble_eq_true rfl) (Nat.le_of_ble_eq_true rfl) (by rfl) (Nat.le_of_ble_eq_true rfl) ?_
            refine g_b_eq (pc := 57) (tgt := 84) dX4_smallestRingWith_57 (by decide) (fun c_57 => ?_) (fun c_57 => ?_)
            · refine g_iinc (pc := 84) (L' := [(5, .int (nI n + 1)), (6, .int 1), (0, .ref (eA E 5)), (1, .ref (eA E b)), (2, .int k), (3, .int (owS S b)), (4, .int (srR (owS S b) (deW S b) k n))]) dX4_smallestRingWith_84 (k := 6) rfl (v := nI n + 1) rfl (Nat.le_of_ble_eq_true rfl) rfl ?_
              refine g_goto (pc := 87) (tgt := 12) dX4_smallestRingWith_87 (by decide) ?_
              refine g_sub (L' := [(0, .ref (eA E 5)), (1, .ref (eA E b)), (2, .int k), (3, .int (owS S b)), (4, .int (srR (owS S b) (deW S b) k n)), (5, .int (nI n + 1))]) [2, 3, 4, 5, 6, 0] rfl ?_
              exact g_eq rfl (by simp only [nI_1, srR, rgP, kbF, c_23, c_36, k_36, c_57, if_true, if_false, Bool.false_eq_true, Bool.not_true, Bool.not_false, Bool.and_true, Bool.true_and, Bool.and_false, Bool.false_and, Bool.or_true, Bool.true_or, Bool.or_false, Bool.false_or, decide_true, decide_false, Bool.and_self]) rfl (ih_12 hlt_12)
            · refine g_aload_n (pc := 60) dX4_smallestRingWith_60 1 rfl rfl ?_
              refine gf_X4_15 (pc := 61) rfl dX4_smallestRingWith_61 ?_
              refine g_iload (pc := 64) dX4_smallestRingWith_64 6 rfl ?_
              refine g_iald (pc := 66) n rfl rfl (show n < 256 by omega) (by decide) dX4_smallestRingWith_66 ?_
              refine g_if_ne (pc := 67) (tgt := 84) dX4_smallestRingWith_67 (by decide) (fun c_67 => ?_) (fun c_67 => ?_)
              · rw [sums_is (show n < 256 by omega)] at c_67
                refine g_iinc (pc := 84) (L' := [(5, .int (nI n + 1)), (6, .int 1), (0, .ref (eA E 5)), (1, .ref (eA E b)), (2, .int k), (3, .int (owS S b)), (4, .int (srR (owS S b) (deW S b) k n))]) dX4_smallestRingWith_84 (k := 6) rfl (v := nI n + 1) rfl (Nat.le_of_ble_eq_true rfl) rfl ?_
                refine g_goto (pc := 87) (tgt := 12) dX4_smallestRingWith_87 (by decide) ?_
                refine g_sub (L' := [(0, .ref (eA E 5)), (1, .ref (eA E b)), (2, .int k), (3, .int (owS S b)), (4, .int (srR (owS S b) (deW S b) k n)), (5, .int (nI n + 1))]) [2, 3, 4, 5, 6, 0] rfl ?_
                exact g_eq rfl (by simp only [nI_1, srR, rgP, kbF, c_23, c_36, k_36, c_57, c_67, if_true, if_false, Bool.false_eq_true, Bool.not_true, Bool.not_false, Bool.and_true, Bool.true_and, Bool.and_false, Bool.false_and, Bool.or_true, Bool.true_or, Bool.or_false, Bool.false_or, decide_true, decide_false, Bool.and_self]) rfl (ih_12 hlt_12)
              · rw [sums_is (show n < 256 by omega)] at c_67
                refine g_iload (pc := 70) dX4_smallestRingWith_70 6 rfl ?_
                refine g_iload_n (pc := 72) dX4_smallestRingWith_72 3 rfl rfl ?_
                refine g_ishr (pc := 73) dX4_smallestRingWith_73 ?_
                refine g_iconst (pc := 74) (v := 1) dX4_smallestRingWith_74 (by decide) ?_
                refine g_iand (pc := 75) dX4_smallestRingWith_75 ?_
                refine g_iconst (pc := 76) (v := 1) dX4_smallestRingWith_76 (by decide) ?_
                refine g_icmp_ne (pc := 77) (tgt := 84) dX4_smallestRingWith_77 (by decide) (fun c_77 => ?_) (fun c_77 => ?_)
                · refine g_iinc (pc := 84) (L' := [(5, .int (nI n + 1)), (6, .int 1), (0, .ref (eA E 5)), (1, .ref (eA E b)), (2, .int k), (3, .int (owS S b)), (4, .int (srR (owS S b) (deW S b) k n))]) dX4_smallestRingWith_84 (k := 6) rfl (v := nI n + 1) rfl (Nat.le_of_ble_eq_true rfl) rfl ?_
                  refine g_goto (pc := 87) (tgt := 12) dX4_smallestRingWith_87 (by decide) ?_
                  refine g_sub (L' := [(0, .ref (eA E 5)), (1, .ref (eA E b)), (2, .int k), (3, .int (owS S b)), (4, .int (srR (owS S b) (deW S b) k n)), (5, .int (nI n + 1))]) [2, 3, 4, 5, 6, 0] rfl ?_
                  exact g_eq rfl (by simp only [nI_1, srR, rgP, kbF, c_23, c_36, k_36, c_57, eq_true c_67, c_77, if_true, if_false, Bool.false_eq_true, Bool.not_true, Bool.not_false, Bool.and_true, Bool.true_and, Bool.and_false, Bool.false_and, Bool.or_true, Bool.true_or, Bool.or_false, Bool.false_or, decide_true, decide_false, Bool.and_self]) rfl (ih_12 hlt_12)
                · refine g_iload (pc := 80) dX4_smallestRingWith_80 6 rfl ?_
                  refine g_istore (pc := 82) (L' := [(4, .int (nI n)), (6, .int 1), (0, .ref (eA E 5)), (1, .ref (eA E b)), (2, .int k), (3, .int (owS S b)), (5, .int (nI n))]) dX4_smallestRingWith_82 (Nat.le_of_ble_eq_true rfl) rfl ?_
                  refine g_iinc (pc := 84) (L' := [(5, .int (nI n + 1)), (4, .int (nI n)), (6, .int 1), (0, .ref (eA E 5)), (1, .ref (eA E b)), (2, .int k), (3, .int (owS S b))]) dX4_smallestRingWith_84 (k := 6) rfl (v := nI n + 1) rfl (Nat.le_of_ble_eq_true rfl) rfl ?_
                  refine g_goto (pc := 87) (tgt := 12) dX4_smallestRingWith_87 (by decide) ?_
                  refine g_sub (L' := [(0, .ref (eA E 5)), (1, .ref (eA E b)), (2, .int k), (3, .int (owS S b)), (4, .int (nI n)), (5, .int (nI n + 1))]) [3, 4, 5, 6, 1, 0] rfl ?_
                  exact g_eq rfl (by simp only [nI_1, srR, rgP, kbF, c_23, c_36, k_36, c_57, eq_true c_67, eq_true c_77, if_true, if_false, Bool.false_eq_true, Bool.not_true, Bool.not_false, Bool.and_true, Bool.true_and, Bool.and_false, Bool.false_and, Bool.or_true, Bool.true_or, Bool.or_false, Bool.false_or, decide_true, decide_false, Bool.and_self]) rfl (ih_12 hlt_12)
  refine g_sub (L' := [(0, .ref (eA E 5)), (1, .ref (eA E b)), (2, .int k), (3, .int (owS S b)), (4, .int 0), (5, .int 0)]) [3, 4, 5, 2, 1, 0] rfl ?_
  exact g_eq rfl rfl rfl (H_12 0 (Nat.zero_le _))
set_option maxRecDepth 100000 in
set_option maxHeartbeats 4000000 in
theorem c_X4_fewestToAnswer (E : En) (S : St) (b : Nat) (place v : Int32) (hb : kd b = 0) (hz : okB S b) : CTe E i_X4_fewestToAnswer S [.ref (eA E 5), .ref (eA E b), .int place, .int v] (scrF S (glW S b place)) (some (.int (faR (gI S b 7) (briF S b place (gI S b 8)) v (glW S b place) (2 ^ szB S b)))) := by
  have hb2 := kd_bng hb
  have hp := pow8 hz.2
  refine ct_of [(0, .ref (eA E 5)), (1, .ref (eA E b)), (2, .int place), (3, .int v)] (by decide +kernel) (Nat.le_of_ble_eq_true rfl) rfl (fun X hM => ?_)
  refine g_aload_n (pc := 0) dX4_fewestToAnswer_0 0 rfl rfl ?_
  refine g_aload_n (pc := 1) dX4_fewestToAnswer_1 1 rfl rfl ?_
  refine g_iload_n (pc := 2) dX4_fewestToAnswer_2 2 rfl rfl ?_
  refine g_invN (pc := 3) j_X4_sumGlow mw_X4_70 dX4_fewestToAnswer_3 (rcv_X4) (by rfl) (c_X4_sumGlow E S b place (by assumption) hz) (Nat.le_of_ble_eq_true rfl) (Nat.le_of_ble_eq_true rfl) (by rfl) (Nat.le_of_ble_eq_true rfl) ?_
  refine g_aload_n (pc := 6) dX4_fewestToAnswer_6 1 rfl rfl ?_
  refine g_invV (pc := 7) j_X0_litSet mw_X4_74 dX4_fewestToAnswer_7 (rcv_X0 (by assumption)) (by rfl) (c_X0_litSet E (scrF S (glW S b place)) b (by assumption)) (Nat.le_of_ble_eq_true rfl) (Nat.le_of_ble_eq_true rfl) (by rfl) (Nat.le_of_ble_eq_true rfl) ?_
  refine g_istore (pc := 10) (L' := [(4, .int (gI (scrF S (glW S b place)) b 7)), (0, .ref (eA E 5)), (1, .ref (eA E b)), (2, .int place), (3, .int v)]) dX4_fewestToAnswer_10 (Nat.le_of_ble_eq_true rfl) rfl ?_
  refine g_aload_n (pc := 12) dX4_fewestToAnswer_12 2 rfl rfl ?_
  refine g_iload_n (pc := 13) dX4_fewestToAnswer_13 3 rfl rfl ?_
  refine g_aload_n (pc := 14) dX4_fewestToAnswer_14 2 rfl rfl ?_
  refine g_invV (pc := 15) j_X0_thisNight mw_X4_34 dX4_fewestToAnswer_15 (rcv_X0 (by assumption)) (by rfl) (c_X0_thisNight E (scrF S (glW S b place)) b (by assumption)) (Nat.le_of_ble_eq_true rfl) (Nat.le_of_ble_eq_true rfl) (by rfl) (Nat.le_of_ble_eq_true rfl) ?_
  refine g_invV (pc := 18) j_X0_brightAt mw_X4_77 dX4_fewestToAnswer_18 (rcv_X0 (by assumption)) (by rfl) (c_X0_brightAt E (scrF S (glW S b place)) b place (gI (scrF S (glW S b place)) b 8) (by assumption) hz) (Nat.le_of_ble_eq_true rfl) (Nat.le_of_ble_eq_true rfl) (by rfl) (Nat.le_of_ble_eq_true rfl) ?_
  rw [briF_eq (sameB_scr _ (by omega))]
  refine g_istore (pc := 21) (L' := [(5, .int (briF S b place (gI S b 8))), (4, .int (gI (scrF S (glW S b place)) b 7)), (0, .ref (eA E 5)), (1, .ref (eA E b)), (2, .int place), (3, .int v)]) dX4_fewestToAnswer_21 (Nat.le_of_ble_eq_true rfl) rfl ?_
  refine g_iload (pc := 23) dX4_fewestToAnswer_23 1 rfl ?_
  refine g_istore (pc := 25) (L' := [(6, .int (gI (scrF S (glW S b place)) b 7)), (5, .int (briF S b place (gI S b 8))), (4, .int (gI (scrF S (glW S b place)) b 7)), (0, .ref (eA E 5)), (1, .ref (eA E b)), (2, .int place), (3, .int v)]) dX4_fewestToAnswer_25 (Nat.le_of_ble_eq_true rfl) rfl ?_
  refine g_iconst (pc := 27) (v := 0) dX4_fewestToAnswer_27 (by decide) ?_
  refine g_istore (pc := 28) (L' := [(7, .int 0), (6, .int (gI (scrF S (glW S b place)) b 7)), (5, .int (briF S b place (gI S b 8))), (4, .int (gI (scrF S (glW S b place)) b 7)), (0, .ref (eA E 5)), (1, .ref (eA E b)), (2, .int place), (3, .int v)]) dX4_fewestToAnswer_28 (Nat.le_of_ble_eq_true rfl) rfl ?_
  have H_30 : ∀ n : Nat, n ≤ 2 ^ szB S b → G E X i_X4_fewestToAnswer (scrF S (glW S b place)) 30 [(0, .ref (eA E 5)), (1, .ref (eA E b)), (2, .int place), (3, .int v), (4, .int (gI S b 7)), (5, .int (briF S b place (gI S b 8))), (6, .int (faR (gI S b 7) (briF S b place (gI S b 8)) v (glW S b place) n)), (7, .int (nI n))] [] := by
    refine dn_ind (2 ^ szB S b) (fun n hn_30 ih_30 => ?_)
    refine g_iload (pc := 30) dX4_fewestToAnswer_30 7 rfl ?_
    refine g_aload_n (pc := 32) dX4_fewestToAnswer_32 1 rfl rfl ?_
    refine g_invS (pc := 33) j_X4_setsOf mw_X4_58 dX4_fewestToAnswer_33 (by rfl) (c_X4_setsOf E (scrF S (glW S b place)) b (by assumption) hz) (Nat.le_of_ble_eq_true rfl) (Nat.le_of_ble_eq_true rfl) (by rfl) (Nat.le_of_ble_eq_true rfl) ?_
    refine g_icmp_ge (pc := 36) (tgt := 98) dX4_fewestToAnswer_36 (by decide) (fun c_36 => ?_) (fun c_36 => ?_)
    · have k_36 := Int32.not_lt.mpr c_36
      have he_30 : n = 2 ^ szB S b := Nat.le_antisymm hn_30 (by exact nle_of (N := 2 ^ szB S b) rfl (by rw [szB_scr]) (by omega) (by omega) c_36)
      rw [he_30]
      refine g_iload (pc := 98) dX4_fewestToAnswer_98 6 rfl ?_
      exact g_iret (pc := 100) hM rfl rfl ⟨rfl, rfl⟩ dX4_fewestToAnswer_100
    · have k_36 := Int32.not_le.mp c_36
      have hlt_30 : n < 2 ^ szB S b := by exact nlt_of (N := 2 ^ szB S b) rfl (by rw [szB_scr]) (by omega) (by omega) c_36
      refine g_iload (pc := 39) dX4_fewestToAnswer_39 7 rfl ?_
      refine g_invS (pc := 41) j_J6_bitCount mw_X4_65 dX4_fewestToAnswer_41 (by rfl) (c_J6_bitCount E (scrF S (glW S b place)) (nI n) ) (Nat.le_of_ble_eq_true rfl) (Nat.le_of_ble_eq_true rfl) (by rfl) (Nat.le_of_ble_eq_true rfl) ?_
      refine g_iload (pc := 44) dX4_fewestToAnswer_44 6 rfl ?_
      refine g_invS (pc := 46) j_J6_bitCount mw_X4_65 dX4_fewestToAnswer_46 (by rfl) (c_J6_bitCount E (scrF S (glW S b place)) (faR (gI S b 7) (briF S b place (gI S b 8)) v (glW S b place) n) ) (Nat.le_of_ble_eq_true rfl) (Nat.le_of_ble_eq_true rfl) (by rfl) (Nat.le_of_ble_eq_true rfl) ?_
      refine g_icmp_ge (pc := 49) (tgt := 56) dX4_fewestToAnswer_49 (by decide) (fun c_49 => ?_) (fun c_49 => ?_)
      · have k_49 := Int32.not_lt.mpr c_49
        refine g_iconst (pc := 56) (v := 0) dX4_fewestToAnswer_56 (by decide) ?_
        refine g_istore (pc := 57) (L' := [(8, .int 0), (0, .ref (eA E 5)), (1, .ref (eA E b)), (2, .int place), (3, .int v), (4, .int (gI S b 7)), (5, .int (briF S b place (gI S b 8))), (6, .int (faR (gI S b 7) (briF S b place (gI S b 8)) v (glW S b place) n)), (7, .int (nI n))]) dX4_fewestToAnswer_57 (Nat.le_of_ble_eq_true rfl) rfl ?_
        refine g_iload (pc := 59) dX4_fewestToAnswer_59 0 rfl ?_
        refine g_if_eq (pc := 61) (tgt := 92) dX4_fewestToAnswer_61 (by decide) (fun c_61 => ?_) (fun c_61 => ?_)
        · refine g_iinc (pc := 92) (L' := [(7, .int (nI n + 1)), (8, .int 0), (0, .ref (eA E 5)), (1, .ref (eA E b)), (2, .int place), (3, .int v), (4, .int (gI S b 7)), (5, .int (briF S b place (gI S b 8))), (6, .int (faR (gI S b 7) (briF S b place (gI S b 8)) v (glW S b place) n))]) dX4_fewestToAnswer_92 (k := 8) rfl (v := nI n + 1) rfl (Nat.le_of_ble_eq_true rfl) rfl ?_
          refine g_goto (pc := 95) (tgt := 30) dX4_fewestToAnswer_95 (by decide) ?_
          refine g_sub (L' := [(0, .ref (eA E 5)), (1, .ref (eA E b)), (2, .int place), (3, .int v), (4, .int (gI S b 7)), (5, .int (briF S b place (gI S b 8))), (6, .int (faR (gI S b 7) (briF S b place (gI S b 8)) v (glW S b place) n)), (7, .int (nI n + 1))]) [2, 3, 4, 5, 6, 7, 8, 0] rfl ?_
          exact g_eq rfl (by simp only [nI_1, faR, rgP, kbF, c_49, k_49, if_true, if_false, Bool.false_eq_true, Bool.not_true, Bool.not_false, Bool.and_true, Bool.true_and, Bool.and_false, Bool.false_and, Bool.or_true, Bool.true_or, Bool.or_false, Bool.false_or, decide_true, decide_false, Bool.and_self]) rfl (ih_30 hlt_30)
        · exact absurd c_61 (by decide)
      · have k_49 := Int32.not_le.mp c_49
        refine g_iconst (pc := 52) (v := 1) dX4_fewestToAnswer_52 (by decide) ?_
        refine g_goto (pc := 53) (tgt := 57) dX4_fewestToAnswer_53 (by decide) ?_
        refine g_istore (pc := 57) (L' := [(8, .int 1), (0, .ref (eA E 5)), (1, .ref (eA E b)), (2, .int place), (3, .int v), (4, .int (gI S b 7)), (5, .int (briF S b place (gI S b 8))), (6, .int (faR (gI S b 7) (briF S b place (gI S b 8)) v (glW S b place) n)), (7, .int (nI n))]) dX4_fewestToAnswer_57 (Nat.le_of_ble_eq_true rfl) rfl ?_
        refine g_iload (pc := 59) dX4_fewestToAnswer_59 0 rfl ?_
        refine g_if_eq (pc := 61) (tgt := 92) dX4_fewestToAnswer_61 (by decide) (fun c_61 => ?_) (fun c_61 => ?_)
        · exact absurd c_61 (by decide)
        · refine g_iload (pc := 64) dX4_fewestToAnswer_64 8 rfl ?_
          refine g_iload (pc := 66) dX4_fewestToAnswer_66 5 rfl ?_
          refine g_invS (pc := 68) j_X4_isWithin mw_X4_61 dX4_fewestToAnswer_68 (by rfl) (c_X4_isWithin E (scrF S (glW S b place)) (nI n) (gI S b 7) ) (Nat.le_of_ble_eq_true rfl) (Nat.le_of_ble_eq_true rfl) (by rfl) (Nat.le_of_ble_eq_true rfl) ?_
          refine g_b_eq (pc := 71) (tgt := 92) dX4_fewestToAnswer_71 (by decide) (fun c_71 => ?_) (fun c_71 => ?_)
          · refine g_iinc (pc := 92) (L' := [(7, .int (nI n + 1)), (8, .int 1), (0, .ref (eA E 5)), (1, .ref (eA E b)), (2, .int place), (3, .int v), (4, .int (gI S b 7)), (5, .int (briF S b place (gI S b 8))), (6, .int (faR (gI S b 7) (briF S b place (gI S b 8)) v (glW S b place) n))]) dX4_fewestToAnswer_92 (k := 8) rfl (v := nI n + 1) rfl (Nat.le_of_ble_eq_true rfl) rfl ?_
            refine g_goto (pc := 95) (tgt := 30) dX4_fewestToAnswer_95 (by decide) ?_
            refine g_sub (L' := [(0, .ref (eA E 5)), (1, .ref (eA E b)), (2, .int place), (3, .int v), (4, .int (gI S b 7)), (5, .int (briF S b place (gI S b 8))), (6, .int (faR (gI S b 7) (briF S b place (gI S b 8)) v (glW S b place) n)), (7, .int (nI n + 1))]) [2, 3, 4, 5, 6, 7, 8, 0] rfl ?_
            exact g_eq rfl (by simp only [nI_1, faR, rgP, kbF, c_49, k_49, c_71, if_true, if_false, Bool.false_eq_true, Bool.not_true, Bool.not_false, Bool.and_true, Bool.true_and, Bool.and_false, Bool.false_and, Bool.or_true, Bool.true_or, Bool.or_false, Bool.false_or, decide_true, decide_false, Bool.and_self]) rfl (ih_30 hlt_30)
          · refine g_iload (pc := 74) dX4_fewestToAnswer_74 6 rfl ?_
            refine g_aload_n (pc := 76) dX4_fewestToAnswer_76 1 rfl rfl ?_
            refine gf_X4_15 (pc := 77) rfl dX4_fewestToAnswer_77 ?_
            refine g_iload (pc := 80) dX4_fewestToAnswer_80 8 rfl ?_
            refine g_iald (pc := 82) n rfl rfl (show n < 256 by omega) (by decide) dX4_fewestToAnswer_82 ?_
            refine g_isub (pc := 83) dX4_fewestToAnswer_83 ?_
            refine g_iload_n (pc := 84) dX4_fewestToAnswer_84 4 rfl rfl ?_
            refine g_icmp_gt (pc := 85) (tgt := 92) dX4_fewestToAnswer_85 (by decide) (fun c_85 => ?_) (fun c_85 => ?_)
            · have k_85 := Int32.not_le.mpr c_85
              rw [sums_is (show n < 256 by omega)] at c_85 k_85
              refine g_iinc (pc := 92) (L' := [(7, .int (nI n + 1)), (8, .int 1), (0, .ref (eA E 5)), (1, .ref (eA E b)), (2, .int place), (3, .int v), (4, .int (gI S b 7)), (5, .int (briF S b place (gI S b 8))), (6, .int (faR (gI S b 7) (briF S b place (gI S b 8)) v (glW S b place) n))]) dX4_fewestToAnswer_92 (k := 8) rfl (v := nI n + 1) rfl (Nat.le_of_ble_eq_true rfl) rfl ?_
              refine g_goto (pc := 95) (tgt := 30) dX4_fewestToAnswer_95 (by decide) ?_
              refine g_sub (L' := [(0, .ref (eA E 5)), (1, .ref (eA E b)), (2, .int place), (3, .int v), (4, .int (gI S b 7)), (5, .int (briF S b place (gI S b 8))), (6, .int (faR (gI S b 7) (briF S b place (gI S b 8)) v (glW S b place) n)), (7, .int (nI n + 1))]) [2, 3, 4, 5, 6, 7, 8, 0] rfl ?_
              exact g_eq rfl (by simp only [nI_1, faR, rgP, kbF, c_49, k_49, c_71, c_85, k_85, if_true, if_false, Bool.false_eq_true, Bool.not_true, Bool.not_false, Bool.and_true, Bool.true_and, Bool.and_false, Bool.false_and, Bool.or_true, Bool.true_or, Bool.or_false, Bool.false_or, decide_true, decide_false, Bool.and_self]) rfl (ih_30 hlt_30)
            · have k_85 := Int32.not_lt.mp c_85
              rw [sums_is (show n < 256 by omega)] at c_85 k_85
              refine g_iload (pc := 88) dX4_fewestToAnswer_88 8 rfl ?_
              refine g_istore (pc := 90) (L' := [(6, .int (nI n)), (8, .int 1), (0, .ref (eA E 5)), (1, .ref (eA E b)), (2, .int place), (3, .int v), (4, .int (gI S b 7)), (5, .int (briF S b place (gI S b 8))), (7, .int (nI n))]) dX4_fewestToAnswer_90 (Nat.le_of_ble_eq_true rfl) rfl ?_
              refine g_iinc (pc := 92) (L' := [(7, .int (nI n + 1)), (6, .int (nI n)), (8, .int 1), (0, .ref (eA E 5)), (1, .ref (eA E b)), (2, .int place), (3, .int v), (4, .int (gI S b 7)), (5, .int (briF S b place (gI S b 8)))]) dX4_fewestToAnswer_92 (k := 8) rfl (v := nI n + 1) rfl (Nat.le_of_ble_eq_true rfl) rfl ?_
              refine g_goto (pc := 95) (tgt := 30) dX4_fewestToAnswer_95 (by decide) ?_
              refine g_sub (L' := [(0, .ref (eA E 5)), (1, .ref (eA E b)), (2, .int place), (3, .int v), (4, .int (gI S b 7)), (5, .int (briF S b place (gI S b 8))), (6, .int (nI n)), (7, .int (nI n + 1))]) [3, 4, 5, 6, 7, 8, 1, 0] rfl ?_
              exact g_eq rfl (by simp only [nI_1, faR, rgP, kbF, c_49, k_49, c_71, c_85, k_85, if_true, if_false, Bool.false_eq_true, Bool.not_true, Bool.not_false, Bool.and_true, Bool.true_and, Bool.and_false, Bool.false_and, Bool.or_true, Bool.true_or, Bool.or_false, Bool.false_or, decide_true, decide_false, Bool.and_self]) rfl (ih_30 hlt_30)
  refine g_sub (L' := [(0, .ref (eA E 5)), (1, .ref (eA E b)), (2, .int place), (3, .int v), (4, .int (gI (scrF S (glW S b place)) b 7)), (5, .int (briF S b place (gI S b 8))), (6, .int (gI (scrF S (glW S b place)) b 7)), (7, .int 0)]) [4, 5, 6, 7, 3, 2, 1, 0] rfl ?_
  exact g_eq rfl rfl rfl (H_30 0 (Nat.zero_le _))
set_option maxRecDepth 100000 in
set_option maxHeartbeats 4000000 in
theorem c_X4_waysToBeDark (E : En) (S : St) (b : Nat) (place v p : Int32) (hb : kd b = 0) (hz : okB S b) : CTe E i_X4_waysToBeDark S [.ref (eA E 5), .ref (eA E b), .int place, .int v, .int p] (scrF S (glW S b place)) (some (.long (wyR (gI S b 7) v p (glW S b place) (2 ^ szB S b)))) := by
  have hb2 := kd_bng hb
  have hp := pow8 hz.2
  refine ct_of [(0, .ref (eA E 5)), (1, .ref (eA E b)), (2, .int place), (3, .int v), (4, .int p)] (by decide +kernel) (Nat.le_of_ble_eq_true rfl) rfl (fun X hM => ?_)
  refine g_aload_n (pc := 0) dX4_waysToBeDark_0 0 rfl rfl ?_
  refine g_aload_n (pc := 1) dX4_waysToBeDark_1 1 rfl rfl ?_
  refine g_iload_n (pc := 2) dX4_waysToBeDark_2 2 rfl rfl ?_
  refine g_invN (pc := 3) j_X4_sumGlow mw_X4_70 dX4_waysToBeDark_3 (rcv_X4) (by rfl) (c_X4_sumGlow E S b place (by assumption) hz) (Nat.le_of_ble_eq_true rfl) (Nat.le_of_ble_eq_true rfl) (by rfl) (Nat.le_of_ble_eq_true rfl) ?_
  refine g_aload_n (pc := 6) dX4_waysToBeDark_6 1 rfl rfl ?_
  refine g_invV (pc := 7) j_X0_litSet mw_X4_74 dX4_waysToBeDark_7 (rcv_X0 (by assumption)) (by rfl) (c_X0_litSet E (scrF S (glW S b place)) b (by assumption)) (Nat.le_of_ble_eq_true rfl) (Nat.le_of_ble_eq_true rfl) (by rfl) (Nat.le_of_ble_eq_true rfl) ?_
  refine g_istore (pc := 10) (L' := [(5, .int (gI (scrF S (glW S b place)) b 7)), (0, .ref (eA E 5)), (1, .ref (eA E b)), (2, .int place), (3, .int v), (4, .int p)]) dX4_waysToBeDark_10 (Nat.le_of_ble_eq_true rfl) rfl ?_
  refine g_lconst (pc := 12) (v := 0) dX4_waysToBeDark_12 (by decide) ?_
  refine g_lstore (pc := 13) (L' := [(6, .long 0), (5, .int (gI (scrF S (glW S b place)) b 7)), (0, .ref (eA E 5)), (1, .ref (eA E b)), (2, .int place), (3, .int v), (4, .int p)]) dX4_waysToBeDark_13 (Nat.le_of_ble_eq_true rfl) rfl ?_
  refine g_iconst (pc := 15) (v := 0) dX4_waysToBeDark_15 (by decide) ?_
  refine g_istore (pc := 16) (L' := [(8, .int 0), (6, .long 0), (5, .int (gI (scrF S (glW S b place)) b 7)), (0, .ref (eA E 5)), (1, .ref (eA E b)), (2, .int place), (3, .int v), (4, .int p)]) dX4_waysToBeDark_16 (Nat.le_of_ble_eq_true rfl) rfl ?_
  have H_18 : ∀ n : Nat, n ≤ 2 ^ szB S b → G E X i_X4_waysToBeDark (scrF S (glW S b place)) 18 [(0, .ref (eA E 5)), (1, .ref (eA E b)), (2, .int place), (3, .int v), (4, .int p), (5, .int (gI S b 7)), (6, .long (wyR (gI S b 7) v p (glW S b place) n)), (8, .int (nI n))] [] := by
    refine dn_ind (2 ^ szB S b) (fun n hn_18 ih_18 => ?_)
    refine g_iload (pc := 18) dX4_waysToBeDark_18 7 rfl ?_
    refine g_aload_n (pc := 20) dX4_waysToBeDark_20 1 rfl rfl ?_
    refine g_invS (pc := 21) j_X4_setsOf mw_X4_58 dX4_waysToBeDark_21 (by rfl) (c_X4_setsOf E (scrF S (glW S b place)) b (by assumption) hz) (Nat.le_of_ble_eq_true rfl) (Nat.le_of_ble_eq_true rfl) (by rfl) (Nat.le_of_ble_eq_true rfl) ?_
    refine g_icmp_ge (pc := 24) (tgt := 90) dX4_waysToBeDark_24 (by decide) (fun c_24 => ?_) (fun c_24 => ?_)
    · have k_24 := Int32.not_lt.mpr c_24
      have he_18 : n = 2 ^ szB S b := Nat.le_antisymm hn_18 (by exact nle_of (N := 2 ^ szB S b) rfl (by rw [szB_scr]) (by omega) (by omega) c_24)
      rw [he_18]
      refine g_lload (pc := 90) dX4_waysToBeDark_90 6 rfl ?_
      exact g_lret (pc := 92) hM rfl ⟨rfl, rfl⟩ dX4_waysToBeDark_92
    · have k_24 := Int32.not_le.mp c_24
      have hlt_18 : n < 2 ^ szB S b := by exact nlt_of (N := 2 ^ szB S b) rfl (by rw [szB_scr]) (by omega) (by omega) c_24
      refine g_iload (pc := 27) dX4_waysToBeDark_27 7 rfl ?_
      refine g_iload (pc := 29) dX4_waysToBeDark_29 5 rfl ?_
      refine g_invS (pc := 31) j_X4_isWithin mw_X4_61 dX4_waysToBeDark_31 (by rfl) (c_X4_isWithin E (scrF S (glW S b place)) (nI n) (gI S b 7) ) (Nat.le_of_ble_eq_true rfl) (Nat.le_of_ble_eq_true rfl) (by rfl) (Nat.le_of_ble_eq_true rfl) ?_
      refine g_b_eq (pc := 34) (tgt := 84) dX4_waysToBeDark_34 (by decide) (fun c_34 => ?_) (fun c_34 => ?_)
      · refine g_iinc (pc := 84) (L' := [(8, .int (nI n + 1)), (0, .ref (eA E 5)), (1, .ref (eA E b)), (2, .int place), (3, .int v), (4, .int p), (5, .int (gI S b 7)), (6, .long (wyR (gI S b 7) v p (glW S b place) n))]) dX4_waysToBeDark_84 (k := 7) rfl (v := nI n + 1) rfl (Nat.le_of_ble_eq_true rfl) rfl ?_
        refine g_goto (pc := 87) (tgt := 18) dX4_waysToBeDark_87 (by decide) ?_
        refine g_sub (L' := [(0, .ref (eA E 5)), (1, .ref (eA E b)), (2, .int place), (3, .int v), (4, .int p), (5, .int (gI S b 7)), (6, .long (wyR (gI S b 7) v p (glW S b place) n)), (8, .int (nI n + 1))]) [1, 2, 3, 4, 5, 6, 7, 0] rfl ?_
        exact g_eq rfl (by simp only [nI_1, wyR, rgP, kbF, c_34, if_true, if_false, Bool.false_eq_true, Bool.not_true, Bool.not_false, Bool.and_true, Bool.true_and, Bool.and_false, Bool.false_and, Bool.or_true, Bool.true_or, Bool.or_false, Bool.false_or, decide_true, decide_false, Bool.and_self]) rfl (ih_18 hlt_18)
      · refine g_aload_n (pc := 37) dX4_waysToBeDark_37 0 rfl rfl ?_
        refine gf_X4_15 (pc := 38) rfl dX4_waysToBeDark_38 ?_
        refine g_iload (pc := 41) dX4_waysToBeDark_41 7 rfl ?_
        refine g_iald (pc := 43) n rfl rfl (show n < 256 by omega) (by decide) dX4_waysToBeDark_43 ?_
        refine g_iload_n (pc := 44) dX4_waysToBeDark_44 3 rfl rfl ?_
        refine g_icmp_gt (pc := 45) (tgt := 84) dX4_waysToBeDark_45 (by decide) (fun c_45 => ?_) (fun c_45 => ?_)
        · have k_45 := Int32.not_le.mpr c_45
          rw [sums_is (show n < 256 by omega)] at c_45 k_45
          refine g_iinc (pc := 84) (L' := [(8, .int (nI n + 1)), (0, .ref (eA E 5)), (1, .ref (eA E b)), (2, .int place), (3, .int v), (4, .int p), (5, .int (gI S b 7)), (6, .long (wyR (gI S b 7) v p (glW S b place) n))]) dX4_waysToBeDark_84 (k := 7) rfl (v := nI n + 1) rfl (Nat.le_of_ble_eq_true rfl) rfl ?_
          refine g_goto (pc := 87) (tgt := 18) dX4_waysToBeDark_87 (by decide) ?_
          refine g_sub (L' := [(0, .ref (eA E 5)), (1, .ref (eA E b)), (2, .int place), (3, .int v), (4, .int p), (5, .int (gI S b 7)), (6, .long (wyR (gI S b 7) v p (glW S b place) n)), (8, .int (nI n + 1))]) [1, 2, 3, 4, 5, 6, 7, 0] rfl ?_
          exact g_eq rfl (by simp only [nI_1, wyR, rgP, kbF, c_34, c_45, k_45, if_true, if_false, Bool.false_eq_true, Bool.not_true, Bool.not_false, Bool.and_true, Bool.true_and, Bool.and_false, Bool.false_and, Bool.or_true, Bool.true_or, Bool.or_false, Bool.false_or, decide_true, decide_false, Bool.and_self]) rfl (ih_18 hlt_18)
        · have k_45 := Int32.not_lt.mp c_45
          rw [sums_is (show n < 256 by omega)] at c_45 k_45
          refine g_iload (pc := 48) dX4_waysToBeDark_48 5 rfl ?_
          refine g_iload (pc := 50) dX4_waysToBeDark_50 7 rfl ?_
          refine g_isub (pc := 52) dX4_waysToBeDark_52 ?_
          refine g_invS (pc := 53) j_J6_bitCount mw_X4_65 dX4_waysToBeDark_53 (by rfl) (c_J6_bitCount E (scrF S (glW S b place)) (gI S b 7 - nI n) ) (Nat.le_of_ble_eq_true rfl) (Nat.le_of_ble_eq_true rfl) (by rfl) (Nat.le_of_ble_eq_true rfl) ?_
          refine g_istore (pc := 56) (L' := [(9, .int (bcF (gI S b 7 - nI n))), (0, .ref (eA E 5)), (1, .ref (eA E b)), (2, .int place), (3, .int v), (4, .int p), (5, .int (gI S b 7)), (6, .long (wyR (gI S b 7) v p (glW S b place) n)), (8, .int (nI n))]) dX4_waysToBeDark_56 (Nat.le_of_ble_eq_true rfl) rfl ?_
          refine g_lload (pc := 58) dX4_waysToBeDark_58 7 rfl ?_
          refine g_iload (pc := 60) dX4_waysToBeDark_60 5 rfl ?_
          refine g_iload (pc := 62) dX4_waysToBeDark_62 0 rfl ?_
          refine g_invS (pc := 64) j_X4_power mw_X4_90 dX4_waysToBeDark_64 (by rfl) (c_X4_power E (scrF S (glW S b place)) p (bcF (gI S b 7 - nI n)) ) (Nat.le_of_ble_eq_true rfl) (Nat.le_of_ble_eq_true rfl) (by rfl) (Nat.le_of_ble_eq_true rfl) ?_
          refine g_bipush (pc := 67) (v := 12) dX4_waysToBeDark_67 (by decide) ?_
          refine g_iload (pc := 69) dX4_waysToBeDark_69 5 rfl ?_
          refine g_isub (pc := 71) dX4_waysToBeDark_71 ?_
          refine g_iload (pc := 72) dX4_waysToBeDark_72 8 rfl ?_
          refine g_invS (pc := 74) j_J6_bitCount mw_X4_65 dX4_waysToBeDark_74 (by rfl) (c_J6_bitCount E (scrF S (glW S b place)) (nI n) ) (Nat.le_of_ble_eq_true rfl) (Nat.le_of_ble_eq_true rfl) (by rfl) (Nat.le_of_ble_eq_true rfl) ?_
          refine g_invS (pc := 77) j_X4_power mw_X4_90 dX4_waysToBeDark_77 (by rfl) (c_X4_power E (scrF S (glW S b place)) (12 - p) (bcF (nI n)) ) (Nat.le_of_ble_eq_true rfl) (Nat.le_of_ble_eq_true rfl) (by rfl) (Nat.le_of_ble_eq_true rfl) ?_
          refine g_lmul (pc := 80) dX4_waysToBeDark_80 ?_
          refine g_ladd (pc := 81) dX4_waysToBeDark_81 ?_
          refine g_lstore (pc := 82) (L' := [(6, .long (wyR (gI S b 7) v p (glW S b place) n + (pwG p.toInt64 (bcF (gI S b 7 - nI n)) 8 * pwG (12 - p).toInt64 (bcF (nI n)) 8))), (9, .int (bcF (gI S b 7 - nI n))), (0, .ref (eA E 5)), (1, .ref (eA E b)), (2, .int place), (3, .int v), (4, .int p), (5, .int (gI S b 7)), (8, .int (nI n))]) dX4_waysToBeDark_82 (Nat.le_of_ble_eq_true rfl) rfl ?_
          refine g_iinc (pc := 84) (L' := [(8, .int (nI n + 1)), (6, .long (wyR (gI S b 7) v p (glW S b place) n + (pwG p.toInt64 (bcF (gI S b 7 - nI n)) 8 * pwG (12 - p).toInt64 (bcF (nI n)) 8))), (9, .int (bcF (gI S b 7 - nI n))), (0, .ref (eA E 5)), (1, .ref (eA E b)), (2, .int place), (3, .int v), (4, .int p), (5, .int (gI S b 7))]) dX4_waysToBeDark_84 (k := 8) rfl (v := nI n + 1) rfl (Nat.le_of_ble_eq_true rfl) rfl ?_
          refine g_goto (pc := 87) (tgt := 18) dX4_waysToBeDark_87 (by decide) ?_
          refine g_sub (L' := [(0, .ref (eA E 5)), (1, .ref (eA E b)), (2, .int place), (3, .int v), (4, .int p), (5, .int (gI S b 7)), (6, .long (wyR (gI S b 7) v p (glW S b place) n + (pwG p.toInt64 (bcF (gI S b 7 - nI n)) 8 * pwG (12 - p).toInt64 (bcF (nI n)) 8))), (8, .int (nI n + 1))]) [3, 4, 5, 6, 7, 8, 1, 0] rfl ?_
          exact g_eq rfl (by simp only [nI_1, wyR, rgP, kbF, c_34, c_45, k_45, if_true, if_false, Bool.false_eq_true, Bool.not_true, Bool.not_false, Bool.and_true, Bool.true_and, Bool.and_false, Bool.false_and, Bool.or_true, Bool.true_or, Bool.or_false, Bool.false_or, decide_true, decide_false, Bool.and_self]) rfl (ih_18 hlt_18)
  refine g_sub (L' := [(0, .ref (eA E 5)), (1, .ref (eA E b)), (2, .int place), (3, .int v), (4, .int p), (5, .int (gI (scrF S (glW S b place)) b 7)), (6, .long 0), (8, .int 0)]) [3, 4, 5, 6, 7, 2, 1, 0] rfl ?_
  exact g_eq rfl rfl rfl (H_18 0 (Nat.zero_le _))
