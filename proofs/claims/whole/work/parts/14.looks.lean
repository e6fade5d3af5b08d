/-! LOOKS, and the small questions of GlowDebts -/
def placeF (x : Int32) : Bool := !decide (x < 0) && !decide (10 ≤ x)
def persF (x : Int32) : Bool := !decide (x < 0) && !decide (6 ≤ x)
def strF (x y : Int32) : Bool := placeF x && placeF y && decide (x ≤ y)
def allB (p : Nat → Bool) : Nat → Bool | 0 => true | n + 1 => allB p n && p n
theorem allB_f {p : Nat → Bool} {n N : Nat} (h : n < N) (hp : p n = false) : allB p N = false := by
  induction N with
  | zero => omega
  | succ N ih =>
    rcases Nat.lt_or_ge n N with q | q
    · rw [allB, ih q]; rfl
    · have : n = N := by omega
      subst this
      rw [allB, hp, Bool.and_false]
def setB (p : Nat → Bool) : Nat → Int32 | 0 => 0 | n + 1 => if p n then setB p n ||| ((1 : Int32) <<< (nI n &&& 31)) else setB p n
def bitF (x : Int32) (i : Nat) : Bool := decide ((x >>> (nI i &&& 31)) &&& 1 = 1)
def prP (S : St) (k i : Nat) : Bool := !decide (getF S k (nI i) < 0) && decide (getF S k (nI i) ≤ 99)
def tlP (S : St) (k i : Nat) : Bool := decide (getF S k (nI i) = -9) || (!decide (getF S k (nI i) < 0) && decide (getF S k (nI i) ≤ 200))
def fitP (S : St) (kind first : Int32) (k j : Nat) : Bool := decide (glowF kind first (getF S k (nI (2 * j))) = getF S k (nI (2 * j) + 1))
def fitF (S : St) (kind first : Int32) (k m : Nat) : Bool := allB (fitP S kind first k) (m / 2)
def hmF (kinds first night glow : Int32) : Int32 := sumB (fun i => bitF kinds i && decide (glowF (nI i) first night = glow)) (fun _ => 1) 6
def lpR (kinds first night : Int32) : Nat → Int32 | 0 => 0 | n + 1 => if bitF kinds n then (if lpR kinds first night n < hmF kinds first night (glowF (nI n) first night) then hmF kinds first night (glowF (nI n) first night) else lpR kinds first night n) else lpR kinds first night n
def lpF (kinds first night : Int32) : Int32 := lpR kinds first night 6
def tnR (kinds first : Int32) : Nat → Int32 × Int32 | 0 => (0, lpF kinds first 0) | n + 1 => if lpF kinds first (nI (n + 1)) < (tnR kinds first n).2 then (nI (n + 1), lpF kinds first (nI (n + 1))) else tnR kinds first n
def fowB (S : St) (b : Nat) (k ower : Int32) (i : Nat) : Int32 := if nI i = ower then (if nI i = fldF S b 1 k then balF S b (nI i) - bI (owF S b k) else balF S b (nI i)) + bI (owF S b k) else (if nI i = fldF S b 1 k then balF S b (nI i) - bI (owF S b k) else balF S b (nI i))
def fowP (S : St) (b : Nat) (k ower : Int32) (r i : Nat) : Bool := decide (getF S r (nI i) = -9) || decide (getF S r (nI i) = fowB S b k ower i)
def fowF (S : St) (b : Nat) (k : Int32) (r : Nat) : Int32 := setB (fun i => !decide (nI i = fldF S b 2 k) && allB (fowP S b k (nI i) r) 6) 6
set_option maxRecDepth 100000 in
set_option maxHeartbeats 4000000 in
theorem c_X8_isPlace (E : En) (S : St) (x : Int32) : CTe E i_X8_isPlace S [.int x] S (some (.int (bI (placeF x)))) := by
  refine ct_of [(0, .int x)] (by decide +kernel) (Nat.le_of_ble_eq_true rfl) rfl (fun X hM => ?_)
  refine g_iload_n (pc := 0) dX8_isPlace_0 0 rfl rfl ?_
  refine g_if_lt (pc := 1) (tgt := 14) dX8_isPlace_1 (by decide) (fun c_1 => ?_) (fun c_1 => ?_)
  · have k_1 := Int32.not_le.mpr c_1
    refine g_iconst (pc := 14) (v := 0) dX8_isPlace_14 (by decide) ?_
    exact g_iret (pc := 15) hM rfl rfl ⟨rfl, some_int (by simp only [placeF, bI, c_1, k_1, if_true, if_false, Bool.false_eq_true, Bool.not_true, Bool.not_false, Bool.and_true, Bool.true_and, Bool.and_false, Bool.false_and, Bool.or_true, Bool.true_or, Bool.or_false, Bool.false_or, decide_true, decide_false, Bool.and_self])⟩ dX8_isPlace_15
  · have k_1 := Int32.not_lt.mp c_1
    refine g_iload_n (pc := 4) dX8_isPlace_4 0 rfl rfl ?_
    refine g_bipush (pc := 5) (v := 10) dX8_isPlace_5 (by decide) ?_
    refine g_icmp_ge (pc := 7) (tgt := 14) dX8_isPlace_7 (by decide) (fun c_7 => ?_) (fun c_7 => ?_)
    · have k_7 := Int32.not_lt.mpr c_7
      refine g_iconst (pc := 14) (v := 0) dX8_isPlace_14 (by decide) ?_
      exact g_iret (pc := 15) hM rfl rfl ⟨rfl, some_int (by simp only [placeF, bI, c_1, k_1, c_7, k_7, if_true, if_false, Bool.false_eq_true, Bool.not_true, Bool.not_false, Bool.and_true, Bool.true_and, Bool.and_false, Bool.false_and, Bool.or_true, Bool.true_or, Bool.or_false, Bool.false_or, decide_true, decide_false, Bool.and_self])⟩ dX8_isPlace_15
    · have k_7 := Int32.not_le.mp c_7
      refine g_iconst (pc := 10) (v := 1) dX8_isPlace_10 (by decide) ?_
      refine g_goto (pc := 11) (tgt := 15) dX8_isPlace_11 (by decide) ?_
      exact g_iret (pc := 15) hM rfl rfl ⟨rfl, some_int (by simp only [placeF, bI, c_1, k_1, c_7, k_7, if_true, if_false, Bool.false_eq_true, Bool.not_true, Bool.not_false, Bool.and_true, Bool.true_and, Bool.and_false, Bool.false_and, Bool.or_true, Bool.true_or, Bool.or_false, Bool.false_or, decide_true, decide_false, Bool.and_self])⟩ dX8_isPlace_15
set_option maxRecDepth 100000 in
set_option maxHeartbeats 4000000 in
theorem c_X8_isPerson (E : En) (S : St) (x : Int32) : CTe E i_X8_isPerson S [.int x] S (some (.int (bI (persF x)))) := by
  refine ct_of [(0, .int x)] (by decide +kernel) (Nat.le_of_ble_eq_true rfl) rfl (fun X hM => ?_)
  refine g_iload_n (pc := 0) dX8_isPerson_0 0 rfl rfl ?_
  refine g_if_lt (pc := 1) (tgt := 14) dX8_isPerson_1 (by decide) (fun c_1 => ?_) (fun c_1 => ?_)
  · have k_1 := Int32.not_le.mpr c_1
    refine g_iconst (pc := 14) (v := 0) dX8_isPerson_14 (by decide) ?_
    exact g_iret (pc := 15) hM rfl rfl ⟨rfl, some_int (by simp only [persF, bI, c_1, k_1, if_true, if_false, Bool.false_eq_true, Bool.not_true, Bool.not_false, Bool.and_true, Bool.true_and, Bool.and_false, Bool.false_and, Bool.or_true, Bool.true_or, Bool.or_false, Bool.false_or, decide_true, decide_false, Bool.and_self])⟩ dX8_isPerson_15
  · have k_1 := Int32.not_lt.mp c_1
    refine g_iload_n (pc := 4) dX8_isPerson_4 0 rfl rfl ?_
    refine g_bipush (pc := 5) (v := 6) dX8_isPerson_5 (by decide) ?_
    refine g_icmp_ge (pc := 7) (tgt := 14) dX8_isPerson_7 (by decide) (fun c_7 => ?_) (fun c_7 => ?_)
    · have k_7 := Int32.not_lt.mpr c_7
      refine g_iconst (pc := 14) (v := 0) dX8_isPerson_14 (by decide) ?_
      exact g_iret (pc := 15) hM rfl rfl ⟨rfl, some_int (by simp only [persF, bI, c_1, k_1, c_7, k_7, if_true, if_false, Bool.false_eq_true, Bool.not_true, Bool.not_false, Bool.and_true, Bool.true_and, Bool.and_false, Bool.false_and, Bool.or_true, Bool.true_or, Bool.or_false, Bool.false_or, decide_true, decide_false, Bool.and_self])⟩ dX8_isPerson_15
    · have k_7 := Int32.not_le.mp c_7
      refine g_iconst (pc := 10) (v := 1) dX8_isPerson_10 (by decide) ?_
      refine g_goto (pc := 11) (tgt := 15) dX8_isPerson_11 (by decide) ?_
      exact g_iret (pc := 15) hM rfl rfl ⟨rfl, some_int (by simp only [persF, bI, c_1, k_1, c_7, k_7, if_true, if_false, Bool.false_eq_true, Bool.not_true, Bool.not_false, Bool.and_true, Bool.true_and, Bool.and_false, Bool.false_and, Bool.or_true, Bool.true_or, Bool.or_false, Bool.false_or, decide_true, decide_false, Bool.and_self])⟩ dX8_isPerson_15
set_option maxRecDepth 100000 in
set_option maxHeartbeats 4000000 in
theorem c_X8_isStretch (E : En) (S : St) (x y : Int32) : CTe E i_X8_isStretch S [.int x, .int y] S (some (.int (bI (strF x y)))) := by
  refine ct_of [(0, .int x), (1, .int y)] (by decide +kernel) (Nat.le_of_ble_eq_true rfl) rfl (fun X hM => ?_)
  refine g_iload_n (pc := 0) dX8_isStretch_0 0 rfl rfl ?_
  refine g_invS (pc := 1) j_X8_isPlace mw_X8_181 dX8_isStretch_1 (by rfl) (c_X8_isPlace E S x ) (Nat.le_of_ble_eq_true rfl) (Nat.le_of_ble_eq_true rfl) (by rfl) (Nat.le_of_ble_eq_true rfl) ?_
  refine g_b_eq (pc := 4) (tgt := 23) dX8_isStretch_4 (by decide) (fun c_4 => ?_) (fun c_4 => ?_)
  · refine g_iconst (pc := 23) (v := 0) dX8_isStretch_23 (by decide) ?_
    exact g_iret (pc := 24) hM rfl rfl ⟨rfl, some_int (by simp only [strF, bI, c_4, if_true, if_false, Bool.false_eq_true, Bool.not_true, Bool.not_false, Bool.and_true, Bool.true_and, Bool.and_false, Bool.false_and, Bool.or_true, Bool.true_or, Bool.or_false, Bool.false_or, decide_true, decide_false, Bool.and_self])⟩ dX8_isStretch_24
  · refine g_iload_n (pc := 7) dX8_isStretch_7 1 rfl rfl ?_
    refine g_invS (pc := 8) j_X8_isPlace mw_X8_181 dX8_isStretch_8 (by rfl) (c_X8_isPlace E S y ) (Nat.le_of_ble_eq_true rfl) (Nat.le_of_ble_eq_true rfl) (by rfl) (Nat.le_of_ble_eq_true rfl) ?_
    refine g_b_eq (pc := 11) (tgt := 23) dX8_isStretch_11 (by decide) (fun c_11 => ?_) (fun c_11 => ?_)
    · refine g_iconst (pc := 23) (v := 0) dX8_isStretch_23 (by decide) ?_
      exact g_iret (pc := 24) hM rfl rfl ⟨rfl, some_int (by simp only [strF, bI, c_4, c_11, if_true, if_false, Bool.false_eq_true, Bool.not_true, Bool.not_false, Bool.and_true, Bool.true_and, Bool.and_false, Bool.false_and, Bool.or_true, Bool.true_or, Bool.or_false, Bool.false_or, decide_true, decide_false, Bool.and_self])⟩ dX8_isStretch_24
    · refine g_iload_n (pc := 14) dX8_isStretch_14 0 rfl rfl ?_
      refine g_iload_n (pc := 15) dX8_isStretch_15 1 rfl rfl ?_
      refine g_icmp_gt (pc := 16) (tgt := 23) dX8_isStretch_16 (by decide) (fun c_16 => ?_) (fun c_16 => ?_)
      · have k_16 := Int32.not_le.mpr c_16
        refine g_iconst (pc := 23) (v := 0) dX8_isStretch_23 (by decide) ?_
        exact g_iret (pc := 24) hM rfl rfl ⟨rfl, some_int (by simp only [strF, bI, c_4, c_11, c_16, k_16, if_true, if_false, Bool.false_eq_true, Bool.not_true, Bool.not_false, Bool.and_true, Bool.true_and, Bool.and_false, Bool.false_and, Bool.or_true, Bool.true_or, Bool.or_false, Bool.false_or, decide_true, decide_false, Bool.and_self])⟩ dX8_isStretch_24
      · have k_16 := Int32.not_lt.mp c_16
        refine g_iconst (pc := 19) (v := 1) dX8_isStretch_19 (by decide) ?_
        refine g_goto (pc := 20) (tgt := 24) dX8_isStretch_20 (by decide) ?_
        exact g_iret (pc := 24) hM rfl rfl ⟨rfl, some_int (by simp only [strF, bI, c_4, c_11, c_16, k_16, if_true, if_false, Bool.false_eq_true, Bool.not_true, Bool.not_false, Bool.and_true, Bool.true_and, Bool.and_false, Bool.false_and, Bool.or_true, Bool.true_or, Bool.or_false, Bool.false_or, decide_true, decide_false, Bool.and_self])⟩ dX8_isStretch_24
set_option maxRecDepth 100000 in
set_option maxHeartbeats 4000000 in
theorem c_X3_arePairs (E : En) (S : St) (k m : Nat) (hk : kd k = 3) (hm : gI S k 1 = nI m) (hm2 : m ≤ ln (k + 10)) : CTe E i_X3_arePairs S [.ref (eA E k)] S (some (.int (bI (allB (prP S k) m)))) := by
  have hs : (gI S k 1).toInt ≤ (ln (k + 10) : Int) := by have := ln_c hk; rw [hm, nI_toInt (by omega)]; omega
  have hln := ln_c hk
  refine ct_of [(0, .ref (eA E k))] (by decide +kernel) (Nat.le_of_ble_eq_true rfl) rfl (fun X hM => ?_)
  refine g_iconst (pc := 0) (v := 0) dX3_arePairs_0 (by decide) ?_
  refine g_istore_n (pc := 1) (L' := [(1, .int 0), (0, .ref (eA E k))]) dX3_arePairs_1 rfl (Nat.le_of_ble_eq_true rfl) rfl ?_
  have H_2 : ∀ n : Nat, n ≤ m → allB (prP S k) n = true → G E X i_X3_arePairs S 2 [(0, .ref (eA E k)), (1, .int (nI n))] [] := by
    refine dn_ind m (fun n hn_2 ih_2 hal => ?_)
    refine g_iload_n (pc := 2) dX3_arePairs_2 1 rfl rfl ?_
    refine g_aload_n (pc := 3) dX3_arePairs_3 0 rfl rfl ?_
    refine g_invV (pc := 4) j_X5_size mw_X3_9 dX3_arePairs_4 (rcv_X5 (by assumption)) (by rfl) (c_X5_size E S k (by assumption)) (Nat.le_of_ble_eq_true rfl) (Nat.le_of_ble_eq_true rfl) (by rfl) (Nat.le_of_ble_eq_true rfl) ?_
    refine g_icmp_ge (pc := 7) (tgt := 36) dX3_arePairs_7 (by decide) (fun c_7 => ?_) (fun c_7 => ?_)
    · have k_7 := Int32.not_lt.mpr c_7
      have he_2 : n = m := Nat.le_antisymm hn_2 (nle_of (N := m) rfl hm (by omega) (by omega) c_7)
      rw [he_2] at hal
      refine g_iconst (pc := 36) (v := 1) dX3_arePairs_36 (by decide) ?_
      exact g_iret (pc := 37) hM rfl rfl ⟨rfl, some_int (by rw [hal]; rfl)⟩ dX3_arePairs_37
    · have k_7 := Int32.not_le.mp c_7
      have hlt_2 : n < m := nlt_of (N := m) rfl hm (by omega) (by omega) c_7
      refine g_aload_n (pc := 10) dX3_arePairs_10 0 rfl rfl ?_
      refine g_iload_n (pc := 11) dX3_arePairs_11 1 rfl rfl ?_
      refine g_invV (pc := 12) j_X5_get mw_X3_15 dX3_arePairs_12 (rcv_X5 (by assumption)) (by rfl) (c_X5_get E S k (nI n) (by assumption) (by first | assumption | omega | rfl)) (Nat.le_of_ble_eq_true rfl) (Nat.le_of_ble_eq_true rfl) (by rfl) (Nat.le_of_ble_eq_true rfl) ?_
      refine g_if_lt (pc := 15) (tgt := 28) dX3_arePairs_15 (by decide) (fun c_15 => ?_) (fun c_15 => ?_)
      · have k_15 := Int32.not_le.mpr c_15
        refine g_iconst (pc := 28) (v := 0) dX3_arePairs_28 (by decide) ?_
        exact g_iret (pc := 29) hM rfl rfl ⟨rfl, some_int (by rw [allB_f hlt_2 (by simp only [prP, c_15, k_15, if_true, if_false, Bool.false_eq_true, Bool.not_true, Bool.not_false, Bool.and_true, Bool.true_and, Bool.and_false, Bool.false_and, Bool.or_true, Bool.true_or, Bool.or_false, Bool.false_or, decide_true, decide_false, Bool.and_self])]; rfl)⟩ dX3_arePairs_29
      · have k_15 := Int32.not_lt.mp c_15
        refine g_aload_n (pc := 18) dX3_arePairs_18 0 rfl rfl ?_
        refine g_iload_n (pc := 19) dX3_arePairs_19 1 rfl rfl ?_
        refine g_invV (pc := 20) j_X5_get mw_X3_15 dX3_arePairs_20 (rcv_X5 (by assumption)) (by rfl) (c_X5_get E S k (nI n) (by assumption) (by first | assumption | omega | rfl)) (Nat.le_of_ble_eq_true rfl) (Nat.le_of_ble_eq_true rfl) (by rfl) (Nat.le_of_ble_eq_true rfl) ?_
        refine g_bipush (pc := 23) (v := 99) dX3_arePairs_23 (by decide) ?_
        refine g_icmp_le (pc := 25) (tgt := 30) dX3_arePairs_25 (by decide) (fun c_25 => ?_) (fun c_25 => ?_)
        · have k_25 := Int32.not_lt.mpr c_25
          refine g_iinc (pc := 30) (L' := [(1, .int (nI n + 1)), (0, .ref (eA E k))]) dX3_arePairs_30 (k := 1) rfl (v := nI n + 1) rfl (Nat.le_of_ble_eq_true rfl) rfl ?_
          refine g_goto (pc := 33) (tgt := 2) dX3_arePairs_33 (by decide) ?_
          refine g_sub (L' := [(0, .ref (eA E k)), (1, .int (nI n + 1))]) [1, 0] rfl ?_
          exact g_eq rfl (by simp only [nI_1]) rfl (ih_2 hlt_2 (by rw [allB, hal, Bool.true_and]; simp only [prP, c_15, k_15, c_25, k_25, if_true, if_false, Bool.false_eq_true, Bool.not_true, Bool.not_false, Bool.and_true, Bool.true_and, Bool.and_false, Bool.false_and, Bool.or_true, Bool.true_or, Bool.or_false, Bool.false_or, decide_true, decide_false, Bool.and_self]))
        · have k_25 := Int32.not_le.mp c_25
          refine g_iconst (pc := 28) (v := 0) dX3_arePairs_28 (by decide) ?_
          exact g_iret (pc := 29) hM rfl rfl ⟨rfl, some_int (by rw [allB_f hlt_2 (by simp only [prP, c_15, k_15, c_25, k_25, if_true, if_false, Bool.false_eq_true, Bool.not_true, Bool.not_false, Bool.and_true, Bool.true_and, Bool.and_false, Bool.false_and, Bool.or_true, Bool.true_or, Bool.or_false, Bool.false_or, decide_true, decide_false, Bool.and_self])]; rfl)⟩ dX3_arePairs_29
  refine g_sub (L' := [(0, .ref (eA E k)), (1, .int 0)]) [1, 0] rfl ?_
  exact g_eq rfl rfl rfl (H_2 0 (by omega) rfl)
set_option maxRecDepth 100000 in
set_option maxHeartbeats 4000000 in
theorem c_X3_areTold (E : En) (S : St) (k m : Nat) (hk : kd k = 3) (hm : gI S k 1 = nI m) (hm2 : m ≤ ln (k + 10)) : CTe E i_X3_areTold S [.ref (eA E k)] S (some (.int (bI (allB (tlP S k) m)))) := by
  have hs : (gI S k 1).toInt ≤ (ln (k + 10) : Int) := by have := ln_c hk; rw [hm, nI_toInt (by omega)]; omega
  have hln := ln_c hk
  refine ct_of [(0, .ref (eA E k))] (by decide +kernel) (Nat.le_of_ble_eq_true rfl) rfl (fun X hM => ?_)
  refine g_iconst (pc := 0) (v := 0) dX3_areTold_0 (by decide) ?_
  refine g_istore_n (pc := 1) (L' := [(1, .int 0), (0, .ref (eA E k))]) dX3_areTold_1 rfl (Nat.le_of_ble_eq_true rfl) rfl ?_
  have H_2 : ∀ n : Nat, n ≤ m → allB (tlP S k) n = true → G E X i_X3_areTold S 2 [(0, .ref (eA E k)), (1, .int (nI n))] [] := by
    refine dn_ind m (fun n hn_2 ih_2 hal => ?_)
    refine g_iload_n (pc := 2) dX3_areTold_2 1 rfl rfl ?_
    refine g_aload_n (pc := 3) dX3_areTold_3 0 rfl rfl ?_
    refine g_invV (pc := 4) j_X5_size mw_X3_9 dX3_areTold_4 (rcv_X5 (by assumption)) (by rfl) (c_X5_size E S k (by assumption)) (Nat.le_of_ble_eq_true rfl) (Nat.le_of_ble_eq_true rfl) (by rfl) (Nat.le_of_ble_eq_true rfl) ?_
    refine g_icmp_ge (pc := 7) (tgt := 47) dX3_areTold_7 (by decide) (fun c_7 => ?_) (fun c_7 => ?_)
    · have k_7 := Int32.not_lt.mpr c_7
      have he_2 : n = m := Nat.le_antisymm hn_2 (nle_of (N := m) rfl hm (by omega) (by omega) c_7)
      rw [he_2] at hal
      refine g_iconst (pc := 47) (v := 1) dX3_areTold_47 (by decide) ?_
      exact g_iret (pc := 48) hM rfl rfl ⟨rfl, some_int (by rw [hal]; rfl)⟩ dX3_areTold_48
    · have k_7 := Int32.not_le.mp c_7
      have hlt_2 : n < m := nlt_of (N := m) rfl hm (by omega) (by omega) c_7
      refine g_aload_n (pc := 10) dX3_areTold_10 0 rfl rfl ?_
      refine g_iload_n (pc := 11) dX3_areTold_11 1 rfl rfl ?_
      refine g_invV (pc := 12) j_X5_get mw_X3_15 dX3_areTold_12 (rcv_X5 (by assumption)) (by rfl) (c_X5_get E S k (nI n) (by assumption) (by first | assumption | omega | rfl)) (Nat.le_of_ble_eq_true rfl) (Nat.le_of_ble_eq_true rfl) (by rfl) (Nat.le_of_ble_eq_true rfl) ?_
      refine g_bipush (pc := 15) (v := -9) dX3_areTold_15 (by decide) ?_
      refine g_icmp_eq (pc := 17) (tgt := 41) dX3_areTold_17 (by decide) (fun c_17 => ?_) (fun c_17 => ?_)
      · refine g_iinc (pc := 41) (L' := [(1, .int (nI n + 1)), (0, .ref (eA E k))]) dX3_areTold_41 (k := 1) rfl (v := nI n + 1) rfl (Nat.le_of_ble_eq_true rfl) rfl ?_
        refine g_goto (pc := 44) (tgt := 2) dX3_areTold_44 (by decide) ?_
        refine g_sub (L' := [(0, .ref (eA E k)), (1, .int (nI n + 1))]) [1, 0] rfl ?_
        exact g_eq rfl (by simp only [nI_1]) rfl (ih_2 hlt_2 (by rw [allB, hal, Bool.true_and]; simp only [tlP, eq_true c_17, if_true, if_false, Bool.false_eq_true, Bool.not_true, Bool.not_false, Bool.and_true, Bool.true_and, Bool.and_false, Bool.false_and, Bool.or_true, Bool.true_or, Bool.or_false, Bool.false_or, decide_true, decide_false, Bool.and_self]))
      · refine g_aload_n (pc := 20) dX3_areTold_20 0 rfl rfl ?_
        refine g_iload_n (pc := 21) dX3_areTold_21 1 rfl rfl ?_
        refine g_invV (pc := 22) j_X5_get mw_X3_15 dX3_areTold_22 (rcv_X5 (by assumption)) (by rfl) (c_X5_get E S k (nI n) (by assumption) (by first | assumption | omega | rfl)) (Nat.le_of_ble_eq_true rfl) (Nat.le_of_ble_eq_true rfl) (by rfl) (Nat.le_of_ble_eq_true rfl) ?_
        refine g_if_lt (pc := 25) (tgt := 39) dX3_areTold_25 (by decide) (fun c_25 => ?_) (fun c_25 => ?_)
        · have k_25 := Int32.not_le.mpr c_25
          refine g_iconst (pc := 39) (v := 0) dX3_areTold_39 (by decide) ?_
          exact g_iret (pc := 40) hM rfl rfl ⟨rfl, some_int (by rw [allB_f hlt_2 (by simp only [tlP, c_17, c_25, k_25, if_true, if_false, Bool.false_eq_true, Bool.not_true, Bool.not_false, Bool.and_true, Bool.true_and, Bool.and_false, Bool.false_and, Bool.or_true, Bool.true_or, Bool.or_false, Bool.false_or, decide_true, decide_false, Bool.and_self])]; rfl)⟩ dX3_areTold_40
        · have k_25 := Int32.not_lt.mp c_25
          refine g_aload_n (pc := 28) dX3_areTold_28 0 rfl rfl ?_
          refine g_iload_n (pc := 29) dX3_areTold_29 1 rfl rfl ?_
          refine g_invV (pc := 30) j_X5_get mw_X3_15 dX3_areTold_30 (rcv_X5 (by assumption)) (by rfl) (c_X5_get E S k (nI n) (by assumption) (by first | assumption | omega | rfl)) (Nat.le_of_ble_eq_true rfl) (Nat.le_of_ble_eq_true rfl) (by rfl) (Nat.le_of_ble_eq_true rfl) ?_
          refine g_sipush (pc := 33) (v := 200) dX3_areTold_33 (by decide) ?_
          refine g_icmp_le (pc := 36) (tgt := 41) dX3_areTold_36 (by decide) (fun c_36 => ?_) (fun c_36 => ?_)
          · have k_36 := Int32.not_lt.mpr c_36
            refine g_iinc (pc := 41) (L' := [(1, .int (nI n + 1)), (0, .ref (eA E k))]) dX3_areTold_41 (k := 1) rfl (v := nI n + 1) rfl (Nat.le_of_ble_eq_true rfl) rfl ?_
            refine g_goto (pc := 44) (tgt := 2) dX3_areTold_44 (by decide) ?_
            refine g_sub (L' := [(0, .ref (eA E k)), (1, .int (nI n + 1))]) [1, 0] rfl ?_
            exact g_eq rfl (by simp only [nI_1]) rfl (ih_2 hlt_2 (by rw [allB, hal, Bool.true_and]; simp only [tlP, c_17, c_25, k_25, c_36, k_36, if_true, if_false, Bool.false_eq_true, Bool.not_true, Bool.not_false, Bool.and_true, Bool.true_and, Bool.and_false, Bool.false_and, Bool.or_true, Bool.true_or, Bool.or_false, Bool.false_or, decide_true, decide_false, Bool.and_self]))
          · have k_36 := Int32.not_le.mp c_36
            refine g_iconst (pc := 39) (v := 0) dX3_areTold_39 (by decide) ?_
            exact g_iret (pc := 40) hM rfl rfl ⟨rfl, some_int (by rw [allB_f hlt_2 (by simp only [tlP, c_17, c_25, k_25, c_36, k_36, if_true, if_false, Bool.false_eq_true, Bool.not_true, Bool.not_false, Bool.and_true, Bool.true_and, Bool.and_false, Bool.false_and, Bool.or_true, Bool.true_or, Bool.or_false, Bool.false_or, decide_true, decide_false, Bool.and_self])]; rfl)⟩ dX3_areTold_40
  refine g_sub (L' := [(0, .ref (eA E k)), (1, .int 0)]) [1, 0] rfl ?_
  exact g_eq rfl rfl rfl (H_2 0 (by omega) rfl)
set_option maxRecDepth 100000 in
set_option maxHeartbeats 4000000 in
theorem c_X3_fit (E : En) (S : St) (kind first : Int32) (k m : Nat) (hk : kd k = 3) (hm : gI S k 1 = nI m) (hm2 : m ≤ ln (k + 10)) : CTe E i_X3_fit S [.int kind, .int first, .ref (eA E k)] S (some (.int (bI (fitF S kind first k m)))) := by
  have hs : (gI S k 1).toInt ≤ (ln (k + 10) : Int) := by have := ln_c hk; rw [hm, nI_toInt (by omega)]; omega
  have hln := ln_c hk
  refine ct_of [(0, .int kind), (1, .int first), (2, .ref (eA E k))] (by decide +kernel) (Nat.le_of_ble_eq_true rfl) rfl (fun X hM => ?_)
  refine g_iconst (pc := 0) (v := 0) dX3_fit_0 (by decide) ?_
  refine g_istore_n (pc := 1) (L' := [(3, .int 0), (0, .int kind), (1, .int first), (2, .ref (eA E k))]) dX3_fit_1 rfl (Nat.le_of_ble_eq_true rfl) rfl ?_
  have H_2 : ∀ n : Nat, n ≤ m / 2 → allB (fitP S kind first k) n = true → G E X i_X3_fit S 2 [(0, .int kind), (1, .int first), (2, .ref (eA E k)), (3, .int (nI (2 * n)))] [] := by
    refine dn_ind (m / 2) (fun n hn_2 ih_2 hal => ?_)
    refine g_iload_n (pc := 2) dX3_fit_2 3 rfl rfl ?_
    refine g_iconst (pc := 3) (v := 1) dX3_fit_3 (by decide) ?_
    refine g_iadd (pc := 4) dX3_fit_4 ?_
    refine g_aload_n (pc := 5) dX3_fit_5 2 rfl rfl ?_
    refine g_invV (pc := 6) j_X5_size mw_X3_9 dX3_fit_6 (rcv_X5 (by assumption)) (by rfl) (c_X5_size E S k (by assumption)) (Nat.le_of_ble_eq_true rfl) (Nat.le_of_ble_eq_true rfl) (by rfl) (Nat.le_of_ble_eq_true rfl) ?_
    refine g_icmp_ge (pc := 9) (tgt := 40) dX3_fit_9 (by decide) (fun c_9 => ?_) (fun c_9 => ?_)
    · have k_9 := Int32.not_lt.mpr c_9
      have he_2 : n = m / 2 := by have h9 : m ≤ 2 * n + 1 := by { rw [hm, nI_1] at c_9; exact (nI_leI (by omega) (by omega)).mp c_9 }; omega
      rw [he_2] at hal
      refine g_iconst (pc := 40) (v := 1) dX3_fit_40 (by decide) ?_
      exact g_iret (pc := 41) hM rfl rfl ⟨rfl, some_int (by rw [fitF, hal]; rfl)⟩ dX3_fit_41
    · have k_9 := Int32.not_le.mp c_9
      have hlt_2 : n < m / 2 := by have h9 : 2 * n + 1 < m := by { rw [hm, nI_1] at k_9; exact (nI_ltI (by omega) (by omega)).mp k_9 }; omega
      refine g_iload_n (pc := 12) dX3_fit_12 0 rfl rfl ?_
      refine g_iload_n (pc := 13) dX3_fit_13 1 rfl rfl ?_
      refine g_aload_n (pc := 14) dX3_fit_14 2 rfl rfl ?_
      refine g_iload_n (pc := 15) dX3_fit_15 3 rfl rfl ?_
      refine g_invV (pc := 16) j_X5_get mw_X3_15 dX3_fit_16 (rcv_X5 (by assumption)) (by rfl) (c_X5_get E S k (nI (2 * n)) (by assumption) (by first | assumption | omega | rfl)) (Nat.le_of_ble_eq_true rfl) (Nat.le_of_ble_eq_true rfl) (by rfl) (Nat.le_of_ble_eq_true rfl) ?_
      refine g_invS (pc := 19) j_X2_glow mw_X3_19 dX3_fit_19 (by rfl) (c_X2_glow E S kind first (getF S k (nI (2 * n))) ) (Nat.le_of_ble_eq_true rfl) (Nat.le_of_ble_eq_true rfl) (by rfl) (Nat.le_of_ble_eq_true rfl) ?_
      refine g_aload_n (pc := 22) dX3_fit_22 2 rfl rfl ?_
      refine g_iload_n (pc := 23) dX3_fit_23 3 rfl rfl ?_
      refine g_iconst (pc := 24) (v := 1) dX3_fit_24 (by decide) ?_
      refine g_iadd (pc := 25) dX3_fit_25 ?_
      refine g_invV (pc := 26) j_X5_get mw_X3_15 dX3_fit_26 (rcv_X5 (by assumption)) (by rfl) (c_X5_get E S k (nI (2 * n) + 1) (by assumption) (by first | assumption | omega | rfl)) (Nat.le_of_ble_eq_true rfl) (Nat.le_of_ble_eq_true rfl) (by rfl) (Nat.le_of_ble_eq_true rfl) ?_
      refine g_icmp_eq (pc := 29) (tgt := 34) dX3_fit_29 (by decide) (fun c_29 => ?_) (fun c_29 => ?_)
      · refine g_iinc (pc := 34) (L' := [(3, .int (nI (2 * n) + 2)), (0, .int kind), (1, .int first), (2, .ref (eA E k))]) dX3_fit_34 (k := 3) rfl (v := nI (2 * n) + 2) rfl (Nat.le_of_ble_eq_true rfl) rfl ?_
        refine g_goto (pc := 37) (tgt := 2) dX3_fit_37 (by decide) ?_
        refine g_sub (L' := [(0, .int kind), (1, .int first), (2, .ref (eA E k)), (3, .int (nI (2 * n) + 2))]) [1, 2, 3, 0] rfl ?_
        exact g_eq rfl (by rw [show nI (2 * n) + 2 = nI (2 * n + 2) from nI_add (2 * n) 2]; rfl) rfl (ih_2 hlt_2 (by rw [allB, hal, Bool.true_and]; simp only [fitP, eq_true c_29, if_true, if_false, Bool.false_eq_true, Bool.not_true, Bool.not_false, Bool.and_true, Bool.true_and, Bool.and_false, Bool.false_and, Bool.or_true, Bool.true_or, Bool.or_false, Bool.false_or, decide_true, decide_false, Bool.and_self]))
      · refine g_iconst (pc := 32) (v := 0) dX3_fit_32 (by decide) ?_
        exact g_iret (pc := 33) hM rfl rfl ⟨rfl, some_int (by rw [fitF, allB_f hlt_2 (by simp only [fitP, c_29, if_true, if_false, Bool.false_eq_true, Bool.not_true, Bool.not_false, Bool.and_true, Bool.true_and, Bool.and_false, Bool.false_and, Bool.or_true, Bool.true_or, Bool.or_false, Bool.false_or, decide_true, decide_false, Bool.and_self])]; rfl)⟩ dX3_fit_33
  refine g_sub (L' := [(0, .int kind), (1, .int first), (2, .ref (eA E k)), (3, .int 0)]) [1, 2, 3, 0] rfl ?_
  exact g_eq rfl rfl rfl (H_2 0 (by omega) rfl)
set_option maxRecDepth 100000 in
set_option maxHeartbeats 4000000 in
theorem c_X3_fittingFirsts (E : En) (S : St) (kind : Int32) (k m : Nat) (hk : kd k = 3) (hm : gI S k 1 = nI m) (hm2 : m ≤ ln (k + 10)) : CTe E i_X3_fittingFirsts S [.int kind, .ref (eA E k)] S (some (.int (setB (fun i => fitF S kind (nI i) k m) 10))) := by
  refine ct_of [(0, .int kind), (1, .ref (eA E k))] (by decide +kernel) (Nat.le_of_ble_eq_true rfl) rfl (fun X hM => ?_)
  refine g_iconst (pc := 0) (v := 0) dX3_fittingFirsts_0 (by decide) ?_
  refine g_istore_n (pc := 1) (L' := [(2, .int 0), (0, .int kind), (1, .ref (eA E k))]) dX3_fittingFirsts_1 rfl (Nat.le_of_ble_eq_true rfl) rfl ?_
  refine g_iconst (pc := 2) (v := 0) dX3_fittingFirsts_2 (by decide) ?_
  refine g_istore_n (pc := 3) (L' := [(3, .int 0), (2, .int 0), (0, .int kind), (1, .ref (eA E k))]) dX3_fittingFirsts_3 rfl (Nat.le_of_ble_eq_true rfl) rfl ?_
  have H_4 : ∀ n : Nat, n ≤ 10 → G E X i_X3_fittingFirsts S 4 [(0, .int kind), (1, .ref (eA E k)), (2, .int (setB (fun i => fitF S kind (nI i) k m) n)), (3, .int (nI n))] [] := by
    refine dn_ind 10 (fun n hn_4 ih_4 => ?_)
    refine g_iload_n (pc := 4) dX3_fittingFirsts_4 3 rfl rfl ?_
    refine g_bipush (pc := 5) (v := 10) dX3_fittingFirsts_5 (by decide) ?_
    refine g_icmp_ge (pc := 7) (tgt := 31) dX3_fittingFirsts_7 (by decide) (fun c_7 => ?_) (fun c_7 => ?_)
    · have k_7 := Int32.not_lt.mpr c_7
      have he_4 : n = 10 := Nat.le_antisymm hn_4 (by exact nle_of (N := 10) rfl rfl (by omega) (by omega) c_7)
      rw [he_4]
      refine g_iload_n (pc := 31) dX3_fittingFirsts_31 2 rfl rfl ?_
      exact g_iret (pc := 32) hM rfl rfl ⟨rfl, rfl⟩ dX3_fittingFirsts_32
    · have k_7 := Int32.not_le.mp c_7
      have hlt_4 : n < 10 := by exact nlt_of (N := 10) rfl rfl (by omega) (by omega) c_7
      refine g_iload_n (pc := 10) dX3_fittingFirsts_10 0 rfl rfl ?_
      refine g_iload_n (pc := 11) dX3_fittingFirsts_11 3 rfl rfl ?_
      refine g_aload_n (pc := 12) dX3_fittingFirsts_12 1 rfl rfl ?_
      refine g_invS (pc := 13) j_X3_fit mw_X3_25 dX3_fittingFirsts_13 (by rfl) (c_X3_fit E S kind (nI n) k m (by assumption) (by first | assumption | omega | rfl) (by first | assumption | omega | rfl)) (Nat.le_of_ble_eq_true rfl) (Nat.le_of_ble_eq_true rfl) (by rfl) (Nat.le_of_ble_eq_true rfl) ?_
      refine g_b_eq (pc := 16) (tgt := 25) dX3_fittingFirsts_16 (by decide) (fun c_16 => ?_) (fun c_16 => ?_)
      · refine g_iinc (pc := 25) (L' := [(3, .int (nI n + 1)), (0, .int kind), (1, .ref (eA E k)), (2, .int (setB (fun i => fitF S kind (nI i) k m) n))]) dX3_fittingFirsts_25 (k := 3) rfl (v := nI n + 1) rfl (Nat.le_of_ble_eq_true rfl) rfl ?_
        refine g_goto (pc := 28) (tgt := 4) dX3_fittingFirsts_28 (by decide) ?_
        refine g_sub (L' := [(0, .int kind), (1, .ref (eA E k)), (2, .int (setB (fun i => fitF S kind (nI i) k m) n)), (3, .int (nI n + 1))]) [1, 2, 3, 0] rfl ?_
        exact g_eq rfl (by simp only [nI_1, setB, c_16, if_true, if_false, Bool.false_eq_true, Bool.not_true, Bool.not_false, Bool.and_true, Bool.true_and, Bool.and_false, Bool.false_and, Bool.or_true, Bool.true_or, Bool.or_false, Bool.false_or, decide_true, decide_false, Bool.and_self]) rfl (ih_4 hlt_4)
      · refine g_iload_n (pc := 19) dX3_fittingFirsts_19 2 rfl rfl ?_
        refine g_iconst (pc := 20) (v := 1) dX3_fittingFirsts_20 (by decide) ?_
        refine g_iload_n (pc := 21) dX3_fittingFirsts_21 3 rfl rfl ?_
        refine g_ishl (pc := 22) dX3_fittingFirsts_22 ?_
        refine g_ior (pc := 23) dX3_fittingFirsts_23 ?_
        refine g_istore_n (pc := 24) (L' := [(2, .int (setB (fun i => fitF S kind (nI i) k m) n ||| ((1 : Int32) <<< ((nI n) &&& 31)))), (0, .int kind), (1, .ref (eA E k)), (3, .int (nI n))]) dX3_fittingFirsts_24 rfl (Nat.le_of_ble_eq_true rfl) rfl ?_
        refine g_iinc (pc := 25) (L' := [(3, .int (nI n + 1)), (2, .int (setB (fun i => fitF S kind (nI i) k m) n ||| ((1 : Int32) <<< ((nI n) &&& 31)))), (0, .int kind), (1, .ref (eA E k))]) dX3_fittingFirsts_25 (k := 3) rfl (v := nI n + 1) rfl (Nat.le_of_ble_eq_true rfl) rfl ?_
        refine g_goto (pc := 28) (tgt := 4) dX3_fittingFirsts_28 (by decide) ?_
        refine g_sub (L' := [(0, .int kind), (1, .ref (eA E k)), (2, .int (setB (fun i => fitF S kind (nI i) k m) n ||| ((1 : Int32) <<< ((nI n) &&& 31)))), (3, .int (nI n + 1))]) [2, 3, 1, 0] rfl ?_
        exact g_eq rfl (by simp only [nI_1, setB, c_16, if_true, if_false, Bool.false_eq_true, Bool.not_true, Bool.not_false, Bool.and_true, Bool.true_and, Bool.and_false, Bool.false_and, Bool.or_true, Bool.true_or, Bool.or_false, Bool.false_or, decide_true, decide_false, Bool.and_self]) rfl (ih_4 hlt_4)
  refine g_sub (L' := [(0, .int kind), (1, .ref (eA E k)), (2, .int 0), (3, .int 0)]) [2, 3, 1, 0] rfl ?_
  exact g_eq rfl rfl rfl (H_4 0 (Nat.zero_le _))
set_option maxRecDepth 100000 in
set_option maxHeartbeats 4000000 in
theorem c_X3_fittingKinds (E : En) (S : St) (first : Int32) (k m : Nat) (hk : kd k = 3) (hm : gI S k 1 = nI m) (hm2 : m ≤ ln (k + 10)) : CTe E i_X3_fittingKinds S [.int first, .ref (eA E k)] S (some (.int (setB (fun i => fitF S (nI i) first k m) 6))) := by
  refine ct_of [(0, .int first), (1, .ref (eA E k))] (by decide +kernel) (Nat.le_of_ble_eq_true rfl) rfl (fun X hM => ?_)
  refine g_iconst (pc := 0) (v := 0) dX3_fittingKinds_0 (by decide) ?_
  refine g_istore_n (pc := 1) (L' := [(2, .int 0), (0, .int first), (1, .ref (eA E k))]) dX3_fittingKinds_1 rfl (Nat.le_of_ble_eq_true rfl) rfl ?_
  refine g_iconst (pc := 2) (v := 0) dX3_fittingKinds_2 (by decide) ?_
  refine g_istore_n (pc := 3) (L' := [(3, .int 0), (2, .int 0), (0, .int first), (1, .ref (eA E k))]) dX3_fittingKinds_3 rfl (Nat.le_of_ble_eq_true rfl) rfl ?_
  have H_4 : ∀ n : Nat, n ≤ 6 → G E X i_X3_fittingKinds S 4 [(0, .int first), (1, .ref (eA E k)), (2, .int (setB (fun i => fitF S (nI i) first k m) n)), (3, .int (nI n))] [] := by
    refine dn_ind 6 (fun n hn_4 ih_4 => ?_)
    refine g_iload_n (pc := 4) dX3_fittingKinds_4 3 rfl rfl ?_
    refine g_bipush (pc := 5) (v := 6) dX3_fittingKinds_5 (by decide) ?_
    refine g_icmp_ge (pc := 7) (tgt := 31) dX3_fittingKinds_7 (by decide) (fun c_7 => ?_) (fun c_7 => ?_)
    · have k_7 := Int32.not_lt.mpr c_7
      have he_4 : n = 6 := Nat.le_antisymm hn_4 (by exact nle_of (N := 6) rfl rfl (by omega) (by omega) c_7)
      rw [he_4]
      refine g_iload_n (pc := 31) dX3_fittingKinds_31 2 rfl rfl ?_
      exact g_iret (pc := 32) hM rfl rfl ⟨rfl, rfl⟩ dX3_fittingKinds_32
    · have k_7 := Int32.not_le.mp c_7
      have hlt_4 : n < 6 := by exact nlt_of (N := 6) rfl rfl (by omega) (by omega) c_7
      refine g_iload_n (pc := 10) dX3_fittingKinds_10 3 rfl rfl ?_
      refine g_iload_n (pc := 11) dX3_fittingKinds_11 0 rfl rfl ?_
      refine g_aload_n (pc := 12) dX3_fittingKinds_12 1 rfl rfl ?_
      refine g_invS (pc := 13) j_X3_fit mw_X3_25 dX3_fittingKinds_13 (by rfl) (c_X3_fit E S (nI n) first k m (by assumption) (by first | assumption | omega | rfl) (by first | assumption | omega | rfl)) (Nat.le_of_ble_eq_true rfl) (Nat.le_of_ble_eq_true rfl) (by rfl) (Nat.le_of_ble_eq_true rfl) ?_
      refine g_b_eq (pc := 16) (tgt := 25) dX3_fittingKinds_16 (by decide) (fun c_16 => ?_) (fun c_16 => ?_)
      · refine g_iinc (pc := 25) (L' := [(3, .int (nI n + 1)), (0, .int first), (1, .ref (eA E k)), (2, .int (setB (fun i => fitF S (nI i) first k m) n))]) dX3_fittingKinds_25 (k := 3) rfl (v := nI n + 1) rfl (Nat.le_of_ble_eq_true rfl) rfl ?_
        refine g_goto (pc := 28) (tgt := 4) dX3_fittingKinds_28 (by decide) ?_
        refine g_sub (L' := [(0, .int first), (1, .ref (eA E k)), (2, .int (setB (fun i => fitF S (nI i) first k m) n)), (3, .int (nI n + 1))]) [1, 2, 3, 0] rfl ?_
        exact g_eq rfl (by simp only [nI_1, setB, c_16, if_true, if_false, Bool.false_eq_true, Bool.not_true, Bool.not_false, Bool.and_true, Bool.true_and, Bool.and_false, Bool.false_and, Bool.or_true, Bool.true_or, Bool.or_false, Bool.false_or, decide_true, decide_false, Bool.and_self]) rfl (ih_4 hlt_4)
      · refine g_iload_n (pc := 19) dX3_fittingKinds_19 2 rfl rfl ?_
        refine g_iconst (pc := 20) (v := 1) dX3_fittingKinds_20 (by decide) ?_
        refine g_iload_n (pc := 21) dX3_fittingKinds_21 3 rfl rfl ?_
        refine g_ishl (pc := 22) dX3_fittingKinds_22 ?_
        refine g_ior (pc := 23) dX3_fittingKinds_23 ?_
        refine g_istore_n (pc := 24) (L' := [(2, .int (setB (fun i => fitF S (nI i) first k m) n ||| ((1 : Int32) <<< ((nI n) &&& 31)))), (0, .int first), (1, .ref (eA E k)), (3, .int (nI n))]) dX3_fittingKinds_24 rfl (Nat.le_of_ble_eq_true rfl) rfl ?_
        refine g_iinc (pc := 25) (L' := [(3, .int (nI n + 1)), (2, .int (setB (fun i => fitF S (nI i) first k m) n ||| ((1 : Int32) <<< ((nI n) &&& 31)))), (0, .int first), (1, .ref (eA E k))]) dX3_fittingKinds_25 (k := 3) rfl (v := nI n + 1) rfl (Nat.le_of_ble_eq_true rfl) rfl ?_
        refine g_goto (pc := 28) (tgt := 4) dX3_fittingKinds_28 (by decide) ?_
        refine g_sub (L' := [(0, .int first), (1, .ref (eA E k)), (2, .int (setB (fun i => fitF S (nI i) first k m) n ||| ((1 : Int32) <<< ((nI n) &&& 31)))), (3, .int (nI n + 1))]) [2, 3, 1, 0] rfl ?_
        exact g_eq rfl (by simp only [nI_1, setB, c_16, if_true, if_false, Bool.false_eq_true, Bool.not_true, Bool.not_false, Bool.and_true, Bool.true_and, Bool.and_false, Bool.false_and, Bool.or_true, Bool.true_or, Bool.or_false, Bool.false_or, decide_true, decide_false, Bool.and_self]) rfl (ih_4 hlt_4)
  refine g_sub (L' := [(0, .int first), (1, .ref (eA E k)), (2, .int 0), (3, .int 0)]) [2, 3, 1, 0] rfl ?_
  exact g_eq rfl rfl rfl (H_4 0 (Nat.zero_le _))
set_option maxRecDepth 100000 in
set_option maxHeartbeats 4000000 in
theorem c_X3_howManyGlow (E : En) (S : St) (kinds first night glow : Int32) : CTe E i_X3_howManyGlow S [.int kinds, .int first, .int night, .int glow] S (some (.int (hmF kinds first night glow))) := by
  refine ct_of [(0, .int kinds), (1, .int first), (2, .int night), (3, .int glow)] (by decide +kernel) (Nat.le_of_ble_eq_true rfl) rfl (fun X hM => ?_)
  refine g_iconst (pc := 0) (v := 0) dX3_howManyGlow_0 (by decide) ?_
  refine g_istore (pc := 1) (L' := [(4, .int 0), (0, .int kinds), (1, .int first), (2, .int night), (3, .int glow)]) dX3_howManyGlow_1 (Nat.le_of_ble_eq_true rfl) rfl ?_
  refine g_iconst (pc := 3) (v := 0) dX3_howManyGlow_3 (by decide) ?_
  refine g_istore (pc := 4) (L' := [(5, .int 0), (4, .int 0), (0, .int kinds), (1, .int first), (2, .int night), (3, .int glow)]) dX3_howManyGlow_4 (Nat.le_of_ble_eq_true rfl) rfl ?_
  have H_6 : ∀ n : Nat, n ≤ 6 → G E X i_X3_howManyGlow S 6 [(0, .int kinds), (1, .int first), (2, .int night), (3, .int glow), (4, .int (sumB (fun i => bitF kinds i && decide (glowF (nI i) first night = glow)) (fun _ => 1) n)), (5, .int (nI n))] [] := by
    refine dn_ind 6 (fun n hn_6 ih_6 => ?_)
    refine g_iload (pc := 6) dX3_howManyGlow_6 5 rfl ?_
    refine g_bipush (pc := 8) (v := 6) dX3_howManyGlow_8 (by decide) ?_
    refine g_icmp_ge (pc := 10) (tgt := 43) dX3_howManyGlow_10 (by decide) (fun c_10 => ?_) (fun c_10 => ?_)
    · have k_10 := Int32.not_lt.mpr c_10
      have he_6 : n = 6 := Nat.le_antisymm hn_6 (by exact nle_of (N := 6) rfl rfl (by omega) (by omega) c_10)
      rw [he_6]
      refine g_iload (pc := 43) dX3_howManyGlow_43 4 rfl ?_
      exact g_iret (pc := 45) hM rfl rfl ⟨rfl, rfl⟩ dX3_howManyGlow_45
    · have k_10 := Int32.not_le.mp c_10
      have hlt_6 : n < 6 := by exact nlt_of (N := 6) rfl rfl (by omega) (by omega) c_10
      refine g_iload_n (pc := 13) dX3_howManyGlow_13 0 rfl rfl ?_
      refine g_iload (pc := 14) dX3_howManyGlow_14 5 rfl ?_
      refine g_ishr (pc := 16) dX3_howManyGlow_16 ?_
      refine g_iconst (pc := 17) (v := 1) dX3_howManyGlow_17 (by decide) ?_
      refine g_iand (pc := 18) dX3_howManyGlow_18 ?_
      refine g_iconst (pc := 19) (v := 1) dX3_howManyGlow_19 (by decide) ?_
      refine g_icmp_ne (pc := 20) (tgt := 37) dX3_howManyGlow_20 (by decide) (fun c_20 => ?_) (fun c_20 => ?_)
      · refine g_iinc (pc := 37) (L' := [(5, .int (nI n + 1)), (0, .int kinds), (1, .int first), (2, .int night), (3, .int glow), (4, .int (sumB (fun i => bitF kinds i && decide (glowF (nI i) first night = glow)) (fun _ => 1) n))]) dX3_howManyGlow_37 (k := 5) rfl (v := nI n + 1) rfl (Nat.le_of_ble_eq_true rfl) rfl ?_
        refine g_goto (pc := 40) (tgt := 6) dX3_howManyGlow_40 (by decide) ?_
        refine g_sub (L' := [(0, .int kinds), (1, .int first), (2, .int night), (3, .int glow), (4, .int (sumB (fun i => bitF kinds i && decide (glowF (nI i) first night = glow)) (fun _ => 1) n)), (5, .int (nI n + 1))]) [1, 2, 3, 4, 5, 0] rfl ?_
        exact g_eq rfl (by simp only [nI_1, sumB, bitF, c_20, if_true, if_false, Bool.false_eq_true, Bool.not_true, Bool.not_false, Bool.and_true, Bool.true_and, Bool.and_false, Bool.false_and, Bool.or_true, Bool.true_or, Bool.or_false, Bool.false_or, decide_true, decide_false, Bool.and_self]) rfl (ih_6 hlt_6)
      · refine g_iload (pc := 23) dX3_howManyGlow_23 5 rfl ?_
        refine g_iload_n (pc := 25) dX3_howManyGlow_25 1 rfl rfl ?_
        refine g_iload_n (pc := 26) dX3_howManyGlow_26 2 rfl rfl ?_
        refine g_invS (pc := 27) j_X2_glow mw_X3_19 dX3_howManyGlow_27 (by rfl) (c_X2_glow E S (nI n) first night ) (Nat.le_of_ble_eq_true rfl) (Nat.le_of_ble_eq_true rfl) (by rfl) (Nat.le_of_ble_eq_true rfl) ?_
        refine g_iload_n (pc := 30) dX3_howManyGlow_30 3 rfl rfl ?_
        refine g_icmp_ne (pc := 31) (tgt := 37) dX3_howManyGlow_31 (by decide) (fun c_31 => ?_) (fun c_31 => ?_)
        · refine g_iinc (pc := 37) (L' := [(5, .int (nI n + 1)), (0, .int kinds), (1, .int first), (2, .int night), (3, .int glow), (4, .int (sumB (fun i => bitF kinds i && decide (glowF (nI i) first night = glow)) (fun _ => 1) n))]) dX3_howManyGlow_37 (k := 5) rfl (v := nI n + 1) rfl (Nat.le_of_ble_eq_true rfl) rfl ?_
          refine g_goto (pc := 40) (tgt := 6) dX3_howManyGlow_40 (by decide) ?_
          refine g_sub (L' := [(0, .int kinds), (1, .int first), (2, .int night), (3, .int glow), (4, .int (sumB (fun i => bitF kinds i && decide (glowF (nI i) first night = glow)) (fun _ => 1) n)), (5, .int (nI n + 1))]) [1, 2, 3, 4, 5, 0] rfl ?_
          exact g_eq rfl (by simp only [nI_1, sumB, bitF, eq_true c_20, c_31, if_true, if_false, Bool.false_eq_true, Bool.not_true, Bool.not_false, Bool.and_true, Bool.true_and, Bool.and_false, Bool.false_and, Bool.or_true, Bool.true_or, Bool.or_false, Bool.false_or, decide_true, decide_false, Bool.and_self]) rfl (ih_6 hlt_6)
        · refine g_iinc (pc := 34) (L' := [(4, .int (sumB (fun i => bitF kinds i && decide (glowF (nI i) first night = glow)) (fun _ => 1) n + 1)), (0, .int kinds), (1, .int first), (2, .int night), (3, .int glow), (5, .int (nI n))]) dX3_howManyGlow_34 (k := 4) rfl (v := sumB (fun i => bitF kinds i && decide (glowF (nI i) first night = glow)) (fun _ => 1) n + 1) rfl (Nat.le_of_ble_eq_true rfl) rfl ?_
          refine g_iinc (pc := 37) (L' := [(5, .int (nI n + 1)), (4, .int (sumB (fun i => bitF kinds i && decide (glowF (nI i) first night = glow)) (fun _ => 1) n + 1)), (0, .int kinds), (1, .int first), (2, .int night), (3, .int glow)]) dX3_howManyGlow_37 (k := 5) rfl (v := nI n + 1) rfl (Nat.le_of_ble_eq_true rfl) rfl ?_
          refine g_goto (pc := 40) (tgt := 6) dX3_howManyGlow_40 (by decide) ?_
          refine g_sub (L' := [(0, .int kinds), (1, .int first), (2, .int night), (3, .int glow), (4, .int (sumB (fun i => bitF kinds i && decide (glowF (nI i) first night = glow)) (fun _ => 1) n + 1)), (5, .int (nI n + 1))]) [2, 3, 4, 5, 1, 0] rfl ?_
          exact g_eq rfl (by simp only [nI_1, sumB, bitF, eq_true c_20, eq_true c_31, if_true, if_false, Bool.false_eq_true, Bool.not_true, Bool.not_false, Bool.and_true, Bool.true_and, Bool.and_false, Bool.false_and, Bool.or_true, Bool.true_or, Bool.or_false, Bool.false_or, decide_true, decide_false, Bool.and_self]) rfl (ih_6 hlt_6)
  refine g_sub (L' := [(0, .int kinds), (1, .int first), (2, .int night), (3, .int glow), (4, .int 0), (5, .int 0)]) [2, 3, 4, 5, 1, 0] rfl ?_
  exact g_eq rfl rfl rfl (H_6 0 (Nat.zero_le _))
set_option maxRecDepth 100000 in
set_option maxHeartbeats 4000000 in
theorem c_X3_largestPart (E : En) (S : St) (kinds first night : Int32) : CTe E i_X3_largestPart S [.int kinds, .int first, .int night] S (some (.int (lpF kinds first night))) := by
  refine ct_of [(0, .int kinds), (1, .int first), (2, .int night)] (by decide +kernel) (Nat.le_of_ble_eq_true rfl) rfl (fun X hM => ?_)
  refine g_iconst (pc := 0) (v := 0) dX3_largestPart_0 (by decide) ?_
  refine g_istore_n (pc := 1) (L' := [(3, .int 0), (0, .int kinds), (1, .int first), (2, .int night)]) dX3_largestPart_1 rfl (Nat.le_of_ble_eq_true rfl) rfl ?_
  refine g_iconst (pc := 2) (v := 0) dX3_largestPart_2 (by decide) ?_
  refine g_istore (pc := 3) (L' := [(4, .int 0), (3, .int 0), (0, .int kinds), (1, .int first), (2, .int night)]) dX3_largestPart_3 (Nat.le_of_ble_eq_true rfl) rfl ?_
  have H_5 : ∀ n : Nat, n ≤ 6 → G E X i_X3_largestPart S 5 [(0, .int kinds), (1, .int first), (2, .int night), (3, .int (lpR kinds first night n)), (4, .int (nI n))] [] := by
    refine dn_ind 6 (fun n hn_5 ih_5 => ?_)
    refine g_iload (pc := 5) dX3_largestPart_5 4 rfl ?_
    refine g_bipush (pc := 7) (v := 6) dX3_largestPart_7 (by decide) ?_
    refine g_icmp_ge (pc := 9) (tgt := 46) dX3_largestPart_9 (by decide) (fun c_9 => ?_) (fun c_9 => ?_)
    · have k_9 := Int32.not_lt.mpr c_9
      have he_5 : n = 6 := Nat.le_antisymm hn_5 (by exact nle_of (N := 6) rfl rfl (by omega) (by omega) c_9)
      rw [he_5]
      refine g_iload_n (pc := 46) dX3_largestPart_46 3 rfl rfl ?_
      exact g_iret (pc := 47) hM rfl rfl ⟨rfl, rfl⟩ dX3_largestPart_47
    · have k_9 := Int32.not_le.mp c_9
      have hlt_5 : n < 6 := by exact nlt_of (N := 6) rfl rfl (by omega) (by omega) c_9
      refine g_iload_n (pc := 12) dX3_largestPart_12 0 rfl rfl ?_
      refine g_iload (pc := 13) dX3_largestPart_13 4 rfl ?_
      refine g_ishr (pc := 15) dX3_largestPart_15 ?_
      refine g_iconst (pc := 16) (v := 1) dX3_largestPart_16 (by decide) ?_
      refine g_iand (pc := 17) dX3_largestPart_17 ?_
      refine g_iconst (pc := 18) (v := 1) dX3_largestPart_18 (by decide) ?_
      refine g_icmp_ne (pc := 19) (tgt := 40) dX3_largestPart_19 (by decide) (fun c_19 => ?_) (fun c_19 => ?_)
      · refine g_iinc (pc := 40) (L' := [(4, .int (nI n + 1)), (0, .int kinds), (1, .int first), (2, .int night), (3, .int (lpR kinds first night n))]) dX3_largestPart_40 (k := 4) rfl (v := nI n + 1) rfl (Nat.le_of_ble_eq_true rfl) rfl ?_
        refine g_goto (pc := 43) (tgt := 5) dX3_largestPart_43 (by decide) ?_
        refine g_sub (L' := [(0, .int kinds), (1, .int first), (2, .int night), (3, .int (lpR kinds first night n)), (4, .int (nI n + 1))]) [1, 2, 3, 4, 0] rfl ?_
        exact g_eq rfl (by simp only [nI_1, lpR, bitF, c_19, if_true, if_false, Bool.false_eq_true, Bool.not_true, Bool.not_false, Bool.and_true, Bool.true_and, Bool.and_false, Bool.false_and, Bool.or_true, Bool.true_or, Bool.or_false, Bool.false_or, decide_true, decide_false, Bool.and_self]) rfl (ih_5 hlt_5)
      · refine g_iload_n (pc := 22) dX3_largestPart_22 3 rfl rfl ?_
        refine g_iload_n (pc := 23) dX3_largestPart_23 0 rfl rfl ?_
        refine g_iload_n (pc := 24) dX3_largestPart_24 1 rfl rfl ?_
        refine g_iload_n (pc := 25) dX3_largestPart_25 2 rfl rfl ?_
        refine g_iload (pc := 26) dX3_largestPart_26 4 rfl ?_
        refine g_iload_n (pc := 28) dX3_largestPart_28 1 rfl rfl ?_
        refine g_iload_n (pc := 29) dX3_largestPart_29 2 rfl rfl ?_
        refine g_invS (pc := 30) j_X2_glow mw_X3_19 dX3_largestPart_30 (by rfl) (c_X2_glow E S (nI n) first night ) (Nat.le_of_ble_eq_true rfl) (Nat.le_of_ble_eq_true rfl) (by rfl) (Nat.le_of_ble_eq_true rfl) ?_
        refine g_invS (pc := 33) j_X3_howManyGlow mw_X3_34 dX3_largestPart_33 (by rfl) (c_X3_howManyGlow E S kinds first night (glowF (nI n) first night) ) (Nat.le_of_ble_eq_true rfl) (Nat.le_of_ble_eq_true rfl) (by rfl) (Nat.le_of_ble_eq_true rfl) ?_
        refine g_max (pc := 36) mw_X3_38 dX3_largestPart_36 (Nat.le_of_ble_eq_true rfl) (Nat.le_of_ble_eq_true rfl) ?_
        refine g_istore_n (pc := 39) (L' := [(3, .int (if lpR kinds first night n < hmF kinds first night (glowF (nI n) first night) then hmF kinds first night (glowF (nI n) first night) else lpR kinds first night n)), (0, .int kinds), (1, .int first), (2, .int night), (4, .int (nI n))]) dX3_largestPart_39 rfl (Nat.le_of_ble_eq_true rfl) rfl ?_
        refine g_iinc (pc := 40) (L' := [(4, .int (nI n + 1)), (3, .int (if lpR kinds first night n < hmF kinds first night (glowF (nI n) first night) then hmF kinds first night (glowF (nI n) first night) else lpR kinds first night n)), (0, .int kinds), (1, .int first), (2, .int night)]) dX3_largestPart_40 (k := 4) rfl (v := nI n + 1) rfl (Nat.le_of_ble_eq_true rfl) rfl ?_
        refine g_goto (pc := 43) (tgt := 5) dX3_largestPart_43 (by decide) ?_
        refine g_sub (L' := [(0, .int kinds), (1, .int first), (2, .int night), (3, .int (if lpR kinds first night n < hmF kinds first night (glowF (nI n) first night) then hmF kinds first night (glowF (nI n) first night) else lpR kinds first night n)), (4, .int (nI n + 1))]) [2, 3, 4, 1, 0] rfl ?_
        exact g_eq rfl (by simp only [nI_1, lpR, bitF, eq_true c_19, if_true, if_false, Bool.false_eq_true, Bool.not_true, Bool.not_false, Bool.and_true, Bool.true_and, Bool.and_false, Bool.false_and, Bool.or_true, Bool.true_or, Bool.or_false, Bool.false_or, decide_true, decide_false, Bool.and_self]) rfl (ih_5 hlt_5)
  refine g_sub (L' := [(0, .int kinds), (1, .int first), (2, .int night), (3, .int 0), (4, .int 0)]) [2, 3, 4, 1, 0] rfl ?_
  exact g_eq rfl rfl rfl (H_5 0 (Nat.zero_le _))
set_option maxRecDepth 100000 in
set_option maxHeartbeats 4000000 in
theorem c_X3_tellingNight (E : En) (S : St) (kinds first : Int32) : CTe E i_X3_tellingNight S [.int kinds, .int first] S (some (.int ((tnR kinds first 20).1))) := by
  refine ct_of [(0, .int kinds), (1, .int first)] (by decide +kernel) (Nat.le_of_ble_eq_true rfl) rfl (fun X hM => ?_)
  refine g_iconst (pc := 0) (v := 0) dX3_tellingNight_0 (by decide) ?_
  refine g_istore_n (pc := 1) (L' := [(2, .int 0), (0, .int kinds), (1, .int first)]) dX3_tellingNight_1 rfl (Nat.le_of_ble_eq_true rfl) rfl ?_
  refine g_iload_n (pc := 2) dX3_tellingNight_2 1 rfl rfl ?_
  refine g_iload_n (pc := 3) dX3_tellingNight_3 2 rfl rfl ?_
  refine g_iconst (pc := 4) (v := 0) dX3_tellingNight_4 (by decide) ?_
  refine g_invS (pc := 5) j_X3_largestPart mw_X3_31 dX3_tellingNight_5 (by rfl) (c_X3_largestPart E S kinds first 0 ) (Nat.le_of_ble_eq_true rfl) (Nat.le_of_ble_eq_true rfl) (by rfl) (Nat.le_of_ble_eq_true rfl) ?_
  refine g_istore_n (pc := 8) (L' := [(3, .int (lpF kinds first 0)), (2, .int 0), (0, .int kinds), (1, .int first)]) dX3_tellingNight_8 rfl (Nat.le_of_ble_eq_true rfl) rfl ?_
  refine g_iconst (pc := 9) (v := 1) dX3_tellingNight_9 (by decide) ?_
  refine g_istore (pc := 10) (L' := [(4, .int 1), (3, .int (lpF kinds first 0)), (2, .int 0), (0, .int kinds), (1, .int first)]) dX3_tellingNight_10 (Nat.le_of_ble_eq_true rfl) rfl ?_
  have H_12 : ∀ n : Nat, n ≤ 20 → G E X i_X3_tellingNight S 12 [(0, .int kinds), (1, .int first), (2, .int ((tnR kinds first n).1)), (3, .int ((tnR kinds first n).2)), (4, .int (nI (n + 1)))] [] := by
    refine dn_ind 20 (fun n hn_12 ih_12 => ?_)
    refine g_iload (pc := 12) dX3_tellingNight_12 4 rfl ?_
    refine g_bipush (pc := 14) (v := 20) dX3_tellingNight_14 (by decide) ?_
    refine g_icmp_gt (pc := 16) (tgt := 46) dX3_tellingNight_16 (by decide) (fun c_16 => ?_) (fun c_16 => ?_)
    · have k_16 := Int32.not_le.mpr c_16
      have he_12 : n = 20 := Nat.le_antisymm hn_12 (by have := (nI_ltI (a := 20) (b := n + 1) (by omega) (by omega)).mp c_16; omega)
      rw [he_12]
      refine g_iload_n (pc := 46) dX3_tellingNight_46 2 rfl rfl ?_
      exact g_iret (pc := 47) hM rfl rfl ⟨rfl, rfl⟩ dX3_tellingNight_47
    · have k_16 := Int32.not_lt.mp c_16
      have hlt_12 : n < 20 := by have := (nI_leI (a := n + 1) (b := 20) (by omega) (by omega)).mp k_16; omega
      refine g_iload_n (pc := 19) dX3_tellingNight_19 0 rfl rfl ?_
      refine g_iload_n (pc := 20) dX3_tellingNight_20 1 rfl rfl ?_
      refine g_iload (pc := 21) dX3_tellingNight_21 4 rfl ?_
      refine g_invS (pc := 23) j_X3_largestPart mw_X3_31 dX3_tellingNight_23 (by rfl) (c_X3_largestPart E S kinds first (nI (n + 1)) ) (Nat.le_of_ble_eq_true rfl) (Nat.le_of_ble_eq_true rfl) (by rfl) (Nat.le_of_ble_eq_true rfl) ?_
      refine g_istore (pc := 26) (L' := [(5, .int (lpF kinds first (nI (n + 1)))), (0, .int kinds), (1, .int first), (2, .int ((tnR kinds first n).1)), (3, .int ((tnR kinds first n).2)), (4, .int (nI (n + 1)))]) dX3_tellingNight_26 (Nat.le_of_ble_eq_true rfl) rfl ?_
      refine g_iload (pc := 28) dX3_tellingNight_28 0 rfl ?_
      refine g_iload_n (pc := 30) dX3_tellingNight_30 4 rfl rfl ?_
      refine g_icmp_ge (pc := 31) (tgt := 40) dX3_tellingNight_31 (by decide) (fun c_31 => ?_) (fun c_31 => ?_)
      · have k_31 := Int32.not_lt.mpr c_31
        refine g_iinc (pc := 40) (L' := [(4, .int (nI (n + 1) + 1)), (5, .int (lpF kinds first (nI (n + 1)))), (0, .int kinds), (1, .int first), (2, .int ((tnR kinds first n).1)), (3, .int ((tnR kinds first n).2))]) dX3_tellingNight_40 (k := 5) rfl (v := nI (n + 1) + 1) rfl (Nat.le_of_ble_eq_true rfl) rfl ?_
        refine g_goto (pc := 43) (tgt := 12) dX3_tellingNight_43 (by decide) ?_
        refine g_sub (L' := [(0, .int kinds), (1, .int first), (2, .int ((tnR kinds first n).1)), (3, .int ((tnR kinds first n).2)), (4, .int (nI (n + 1) + 1))]) [2, 3, 4, 5, 0] rfl ?_
        exact g_eq rfl (by simp only [nI_1, tnR, c_31, k_31, if_true, if_false, Bool.false_eq_true, Bool.not_true, Bool.not_false, Bool.and_true, Bool.true_and, Bool.and_false, Bool.false_and, Bool.or_true, Bool.true_or, Bool.or_false, Bool.false_or, decide_true, decide_false, Bool.and_self]) rfl (ih_12 hlt_12)
      · have k_31 := Int32.not_le.mp c_31
        refine g_iload (pc := 34) dX3_tellingNight_34 0 rfl ?_
        refine g_istore_n (pc := 36) (L' := [(3, .int (lpF kinds first (nI (n + 1)))), (5, .int (lpF kinds first (nI (n + 1)))), (0, .int kinds), (1, .int first), (2, .int ((tnR kinds first n).1)), (4, .int (nI (n + 1)))]) dX3_tellingNight_36 rfl (Nat.le_of_ble_eq_true rfl) rfl ?_
        refine g_iload (pc := 37) dX3_tellingNight_37 5 rfl ?_
        refine g_istore_n (pc := 39) (L' := [(2, .int (nI (n + 1))), (3, .int (lpF kinds first (nI (n + 1)))), (5, .int (lpF kinds first (nI (n + 1)))), (0, .int kinds), (1, .int first), (4, .int (nI (n + 1)))]) dX3_tellingNight_39 rfl (Nat.le_of_ble_eq_true rfl) rfl ?_
        refine g_iinc (pc := 40) (L' := [(4, .int (nI (n + 1) + 1)), (2, .int (nI (n + 1))), (3, .int (lpF kinds first (nI (n + 1)))), (5, .int (lpF kinds first (nI (n + 1)))), (0, .int kinds), (1, .int first)]) dX3_tellingNight_40 (k := 5) rfl (v := nI (n + 1) + 1) rfl (Nat.le_of_ble_eq_true rfl) rfl ?_
        refine g_goto (pc := 43) (tgt := 12) dX3_tellingNight_43 (by decide) ?_
        refine g_sub (L' := [(0, .int kinds), (1, .int first), (2, .int (nI (n + 1))), (3, .int (lpF kinds first (nI (n + 1)))), (4, .int (nI (n + 1) + 1))]) [4, 5, 1, 2, 0] rfl ?_
        exact g_eq rfl (by simp only [nI_1, tnR, c_31, k_31, if_true, if_false, Bool.false_eq_true, Bool.not_true, Bool.not_false, Bool.and_true, Bool.true_and, Bool.and_false, Bool.false_and, Bool.or_true, Bool.true_or, Bool.or_false, Bool.false_or, decide_true, decide_false, Bool.and_self]) rfl (ih_12 hlt_12)
  refine g_sub (L' := [(0, .int kinds), (1, .int first), (2, .int 0), (3, .int (lpF kinds first 0)), (4, .int 1)]) [3, 4, 2, 1, 0] rfl ?_
  exact g_eq rfl rfl rfl (H_12 0 (Nat.zero_le _))
set_option maxRecDepth 100000 in
set_option maxHeartbeats 4000000 in
theorem c_X3_fitsOwer (E : En) (S : St) (b : Nat) (k ower : Int32) (r : Nat) (hb : kd b = 0) (hz : okB S b) (hr : kd r = 3) (hm : gI S r 1 = nI 6) (hm2 : 6 ≤ ln (r + 10)) : CTe E i_X3_fitsOwer S [.ref (eA E b), .int k, .int ower, .ref (eA E r)] S (some (.int (bI (allB (fowP S b k ower r) 6)))) := by
  have hs : (gI S r 1).toInt ≤ (ln (r + 10) : Int) := by have := ln_c hr; rw [hm, nI_toInt (by omega)]; omega
  refine ct_of [(0, .ref (eA E b)), (1, .int k), (2, .int ower), (3, .ref (eA E r))] (by decide +kernel) (Nat.le_of_ble_eq_true rfl) rfl (fun X hM => ?_)
  refine g_aload_n (pc := 0) dX3_fitsOwer_0 0 rfl rfl ?_
  refine g_iload_n (pc := 1) dX3_fitsOwer_1 1 rfl rfl ?_
  refine g_invV (pc := 2) j_X0_isOwing mw_X3_53 dX3_fitsOwer_2 (rcv_X0 (by assumption)) (by rfl) (c_X0_isOwing E S b k (by assumption) (by first | assumption | omega | rfl)) (Nat.le_of_ble_eq_true rfl) (Nat.le_of_ble_eq_true rfl) (by rfl) (Nat.le_of_ble_eq_true rfl) ?_
  refine g_b_eq (pc := 5) (tgt := 12) dX3_fitsOwer_5 (by decide) (fun c_5 => ?_) (fun c_5 => ?_)
  · refine g_iconst (pc := 12) (v := 0) dX3_fitsOwer_12 (by decide) ?_
    refine g_istore (pc := 13) (L' := [(4, .int 0), (0, .ref (eA E b)), (1, .int k), (2, .int ower), (3, .ref (eA E r))]) dX3_fitsOwer_13 (Nat.le_of_ble_eq_true rfl) rfl ?_
    refine g_iconst (pc := 15) (v := 0) dX3_fitsOwer_15 (by decide) ?_
    refine g_istore (pc := 16) (L' := [(5, .int 0), (4, .int 0), (0, .ref (eA E b)), (1, .int k), (2, .int ower), (3, .ref (eA E r))]) dX3_fitsOwer_16 (Nat.le_of_ble_eq_true rfl) rfl ?_
    have H_18 : ∀ n : Nat, n ≤ 6 → allB (fowP S b k ower r) n = true → G E X i_X3_fitsOwer S 18 [(0, .ref (eA E b)), (1, .int k), (2, .int ower), (3, .ref (eA E r)), (4, .int 0), (5, .int (nI n))] [] := by
      refine dn_ind 6 (fun n hn_18 ih_18 hal => ?_)
      refine g_iload (pc := 18) dX3_fitsOwer_18 5 rfl ?_
      refine g_bipush (pc := 20) (v := 6) dX3_fitsOwer_20 (by decide) ?_
      refine g_icmp_ge (pc := 22) (tgt := 93) dX3_fitsOwer_22 (by decide) (fun c_22 => ?_) (fun c_22 => ?_)
      · have k_22 := Int32.not_lt.mpr c_22
        have he_18 : n = 6 := Nat.le_antisymm hn_18 (nle_of (N := 6) rfl rfl (by omega) (by omega) c_22)
        rw [he_18] at hal
        refine g_iconst (pc := 93) (v := 1) dX3_fitsOwer_93 (by decide) ?_
        exact g_iret (pc := 94) hM rfl rfl ⟨rfl, some_int (by rw [hal]; rfl)⟩ dX3_fitsOwer_94
      · have k_22 := Int32.not_le.mp c_22
        have hlt_18 : n < 6 := nlt_of (N := 6) rfl rfl (by omega) (by omega) c_22
        refine g_aload_n (pc := 25) dX3_fitsOwer_25 0 rfl rfl ?_
        refine g_iload (pc := 26) dX3_fitsOwer_26 5 rfl ?_
        refine g_invV (pc := 28) j_X0_balanceOf mw_X3_57 dX3_fitsOwer_28 (rcv_X0 (by assumption)) (by rfl) (c_X0_balanceOf E S b (nI n) (by assumption) (by first | assumption | omega | rfl)) (Nat.le_of_ble_eq_true rfl) (Nat.le_of_ble_eq_true rfl) (by rfl) (Nat.le_of_ble_eq_true rfl) ?_
        refine g_istore (pc := 31) (L' := [(6, .int (balF S b (nI n))), (0, .ref (eA E b)), (1, .int k), (2, .int ower), (3, .ref (eA E r)), (4, .int 0), (5, .int (nI n))]) dX3_fitsOwer_31 (Nat.le_of_ble_eq_true rfl) rfl ?_
        refine g_iload (pc := 33) dX3_fitsOwer_33 6 rfl ?_
        refine g_aload_n (pc := 35) dX3_fitsOwer_35 1 rfl rfl ?_
        refine g_iload_n (pc := 36) dX3_fitsOwer_36 2 rfl rfl ?_
        refine g_invV (pc := 37) j_X0_owerOf mw_X3_60 dX3_fitsOwer_37 (rcv_X0 (by assumption)) (by rfl) (c_X0_owerOf E S b k (by assumption) (by first | assumption | omega | rfl)) (Nat.le_of_ble_eq_true rfl) (Nat.le_of_ble_eq_true rfl) (by rfl) (Nat.le_of_ble_eq_true rfl) ?_
        refine g_icmp_ne (pc := 40) (tgt := 50) dX3_fitsOwer_40 (by decide) (fun c_40 => ?_) (fun c_40 => ?_)
        · refine g_iload (pc := 50) dX3_fitsOwer_50 6 rfl ?_
          refine g_iload_n (pc := 52) dX3_fitsOwer_52 3 rfl rfl ?_
          refine g_icmp_ne (pc := 53) (tgt := 63) dX3_fitsOwer_53 (by decide) (fun c_53 => ?_) (fun c_53 => ?_)
          · refine g_aload_n (pc := 63) dX3_fitsOwer_63 4 rfl rfl ?_
            refine g_iload (pc := 64) dX3_fitsOwer_64 6 rfl ?_
            refine g_invV (pc := 66) j_X5_get mw_X3_15 dX3_fitsOwer_66 (rcv_X5 (by assumption)) (by rfl) (c_X5_get E S r (nI n) (by assumption) (by first | assumption | omega | rfl)) (Nat.le_of_ble_eq_true rfl) (Nat.le_of_ble_eq_true rfl) (by rfl) (Nat.le_of_ble_eq_true rfl) ?_
            refine g_bipush (pc := 69) (v := -9) dX3_fitsOwer_69 (by decide) ?_
            refine g_icmp_eq (pc := 71) (tgt := 87) dX3_fitsOwer_71 (by decide) (fun c_71 => ?_) (fun c_71 => ?_)
            · refine g_iinc (pc := 87) (L' := [(5, .int (nI n + 1)), (6, .int (balF S b (nI n))), (0, .ref (eA E b)), (1, .int k), (2, .int ower), (3, .ref (eA E r)), (4, .int 0)]) dX3_fitsOwer_87 (k := 6) rfl (v := nI n + 1) rfl (Nat.le_of_ble_eq_true rfl) rfl ?_
              refine g_goto (pc := 90) (tgt := 18) dX3_fitsOwer_90 (by decide) ?_
              refine g_sub (L' := [(0, .ref (eA E b)), (1, .int k), (2, .int ower), (3, .ref (eA E r)), (4, .int 0), (5, .int (nI n + 1))]) [2, 3, 4, 5, 6, 0] rfl ?_
              exact g_eq rfl (by simp only [nI_1]) rfl (ih_18 hlt_18 (by rw [allB, hal, Bool.true_and]; simp only [fowP, fowB, c_5, bI, c_40, c_53, eq_true c_71, if_true, if_false, Bool.false_eq_true, Bool.not_true, Bool.not_false, Bool.and_true, Bool.true_and, Bool.and_false, Bool.false_and, Bool.or_true, Bool.true_or, Bool.or_false, Bool.false_or, decide_true, decide_false, Bool.and_self]))
            · refine g_aload_n (pc := 74) dX3_fitsOwer_74 4 rfl rfl ?_
              refine g_iload (pc := 75) dX3_fitsOwer_75 6 rfl ?_
              refine g_invV (pc := 77) j_X5_get mw_X3_15 dX3_fitsOwer_77 (rcv_X5 (by assumption)) (by rfl) (c_X5_get E S r (nI n) (by assumption) (by first | assumption | omega | rfl)) (Nat.le_of_ble_eq_true rfl) (Nat.le_of_ble_eq_true rfl) (by rfl) (Nat.le_of_ble_eq_true rfl) ?_
              refine g_iload (pc := 80) dX3_fitsOwer_80 0 rfl ?_
              refine g_icmp_eq (pc := 82) (tgt := 87) dX3_fitsOwer_82 (by decide) (fun c_82 => ?_) (fun c_82 => ?_)
              · refine g_iinc (pc := 87) (L' := [(5, .int (nI n + 1)), (6, .int (balF S b (nI n))), (0, .ref (eA E b)), (1, .int k), (2, .int ower), (3, .ref (eA E r)), (4, .int 0)]) dX3_fitsOwer_87 (k := 6) rfl (v := nI n + 1) rfl (Nat.le_of_ble_eq_true rfl) rfl ?_
                refine g_goto (pc := 90) (tgt := 18) dX3_fitsOwer_90 (by decide) ?_
                refine g_sub (L' := [(0, .ref (eA E b)), (1, .int k), (2, .int ower), (3, .ref (eA E r)), (4, .int 0), (5, .int (nI n + 1))]) [2, 3, 4, 5, 6, 0] rfl ?_
                exact g_eq rfl (by simp only [nI_1]) rfl (ih_18 hlt_18 (by rw [allB, hal, Bool.true_and]; simp only [fowP, fowB, c_5, bI, c_40, c_53, c_71, eq_true c_82, if_true, if_false, Bool.false_eq_true, Bool.not_true, Bool.not_false, Bool.and_true, Bool.true_and, Bool.and_false, Bool.false_and, Bool.or_true, Bool.true_or, Bool.or_false, Bool.false_or, decide_true, decide_false, Bool.and_self]))
              · refine g_iconst (pc := 85) (v := 0) dX3_fitsOwer_85 (by decide) ?_
                exact g_iret (pc := 86) hM rfl rfl ⟨rfl, some_int (by rw [allB_f hlt_18 (by simp only [fowP, fowB, c_5, bI, c_40, c_53, c_71, c_82, if_true, if_false, Bool.false_eq_true, Bool.not_true, Bool.not_false, Bool.and_true, Bool.true_and, Bool.and_false, Bool.false_and, Bool.or_true, Bool.true_or, Bool.or_false, Bool.false_or, decide_true, decide_false, Bool.and_self])]; rfl)⟩ dX3_fitsOwer_86
          · refine g_iload (pc := 56) dX3_fitsOwer_56 0 rfl ?_
            refine g_iload (pc := 58) dX3_fitsOwer_58 5 rfl ?_
            refine g_iadd (pc := 60) dX3_fitsOwer_60 ?_
            refine g_istore (pc := 61) (L' := [(6, .int (balF S b (nI n) + 0)), (0, .ref (eA E b)), (1, .int k), (2, .int ower), (3, .ref (eA E r)), (4, .int 0), (5, .int (nI n))]) dX3_fitsOwer_61 (Nat.le_of_ble_eq_true rfl) rfl ?_
            refine g_aload_n (pc := 63) dX3_fitsOwer_63 4 rfl rfl ?_
            refine g_iload (pc := 64) dX3_fitsOwer_64 6 rfl ?_
            refine g_invV (pc := 66) j_X5_get mw_X3_15 dX3_fitsOwer_66 (rcv_X5 (by assumption)) (by rfl) (c_X5_get E S r (nI n) (by assumption) (by first | assumption | omega | rfl)) (Nat.le_of_ble_eq_true rfl) (Nat.le_of_ble_eq_true rfl) (by rfl) (Nat.le_of_ble_eq_true rfl) ?_
            refine g_bipush (pc := 69) (v := -9) dX3_fitsOwer_69 (by decide) ?_
            refine g_icmp_eq (pc := 71) (tgt := 87) dX3_fitsOwer_71 (by decide) (fun c_71 => ?_) (fun c_71 => ?_)
            · refine g_iinc (pc := 87) (L' := [(5, .int (nI n + 1)), (6, .int (balF S b (nI n) + 0)), (0, .ref (eA E b)), (1, .int k), (2, .int ower), (3, .ref (eA E r)), (4, .int 0)]) dX3_fitsOwer_87 (k := 6) rfl (v := nI n + 1) rfl (Nat.le_of_ble_eq_true rfl) rfl ?_
              refine g_goto (pc := 90) (tgt := 18) dX3_fitsOwer_90 (by decide) ?_
              refine g_sub (L' := [(0, .ref (eA E b)), (1, .int k), (2, .int ower), (3, .ref (eA E r)), (4, .int 0), (5, .int (nI n + 1))]) [2, 3, 4, 5, 6, 0] rfl ?_
              exact g_eq rfl (by simp only [nI_1]) rfl (ih_18 hlt_18 (by rw [allB, hal, Bool.true_and]; simp only [fowP, fowB, c_5, bI, c_40, eq_true c_53, eq_true c_71, if_true, if_false, Bool.false_eq_true, Bool.not_true, Bool.not_false, Bool.and_true, Bool.true_and, Bool.and_false, Bool.false_and, Bool.or_true, Bool.true_or, Bool.or_false, Bool.false_or, decide_true, decide_false, Bool.and_self]))
            · refine g_aload_n (pc := 74) dX3_fitsOwer_74 4 rfl rfl ?_
              refine g_iload (pc := 75) dX3_fitsOwer_75 6 rfl ?_
              refine g_invV (pc := 77) j_X5_get mw_X3_15 dX3_fitsOwer_77 (rcv_X5 (by assumption)) (by rfl) (c_X5_get E S r (nI n) (by assumption) (by first | assumption | omega | rfl)) (Nat.le_of_ble_eq_true rfl) (Nat.le_of_ble_eq_true rfl) (by rfl) (Nat.le_of_ble_eq_true rfl) ?_
              refine g_iload (pc := 80) dX3_fitsOwer_80 0 rfl ?_
              refine g_icmp_eq (pc := 82) (tgt := 87) dX3_fitsOwer_82 (by decide) (fun c_82 => ?_) (fun c_82 => ?_)
              · refine g_iinc (pc := 87) (L' := [(5, .int (nI n + 1)), (6, .int (balF S b (nI n) + 0)), (0, .ref (eA E b)), (1, .int k), (2, .int ower), (3, .ref (eA E r)), (4, .int 0)]) dX3_fitsOwer_87 (k := 6) rfl (v := nI n + 1) rfl (Nat.le_of_ble_eq_true rfl) rfl ?_
                refine g_goto (pc := 90) (tgt := 18) dX3_fitsOwer_90 (by decide) ?_
                refine g_sub (L' := [(0, .ref (eA E b)), (1, .int k), (2, .int ower), (3, .ref (eA E r)), (4, .int 0), (5, .int (nI n + 1))]) [2, 3, 4, 5, 6, 0] rfl ?_
                exact g_eq rfl (by simp only [nI_1]) rfl (ih_18 hlt_18 (by rw [allB, hal, Bool.true_and]; simp only [fowP, fowB, c_5, bI, c_40, eq_true c_53, c_71, eq_true c_82, if_true, if_false, Bool.false_eq_true, Bool.not_true, Bool.not_false, Bool.and_true, Bool.true_and, Bool.and_false, Bool.false_and, Bool.or_true, Bool.true_or, Bool.or_false, Bool.false_or, decide_true, decide_false, Bool.and_self]))
              · refine g_iconst (pc := 85) (v := 0) dX3_fitsOwer_85 (by decide) ?_
                exact g_iret (pc := 86) hM rfl rfl ⟨rfl, some_int (by rw [allB_f hlt_18 (by simp only [fowP, fowB, c_5, bI, c_40, eq_true c_53, c_71, c_82, if_true, if_false, Bool.false_eq_true, Bool.not_true, Bool.not_false, Bool.and_true, Bool.true_and, Bool.and_false, Bool.false_and, Bool.or_true, Bool.true_or, Bool.or_false, Bool.false_or, decide_true, decide_false, Bool.and_self])]; rfl)⟩ dX3_fitsOwer_86
        · refine g_iload (pc := 43) dX3_fitsOwer_43 0 rfl ?_
          refine g_iload (pc := 45) dX3_fitsOwer_45 5 rfl ?_
          refine g_isub (pc := 47) dX3_fitsOwer_47 ?_
          refine g_istore (pc := 48) (L' := [(6, .int (balF S b (nI n) - 0)), (0, .ref (eA E b)), (1, .int k), (2, .int ower), (3, .ref (eA E r)), (4, .int 0), (5, .int (nI n))]) dX3_fitsOwer_48 (Nat.le_of_ble_eq_true rfl) rfl ?_
          refine g_iload (pc := 50) dX3_fitsOwer_50 6 rfl ?_
          refine g_iload_n (pc := 52) dX3_fitsOwer_52 3 rfl rfl ?_
          refine g_icmp_ne (pc := 53) (tgt := 63) dX3_fitsOwer_53 (by decide) (fun c_53 => ?_) (fun c_53 => ?_)
          · refine g_aload_n (pc := 63) dX3_fitsOwer_63 4 rfl rfl ?_
            refine g_iload (pc := 64) dX3_fitsOwer_64 6 rfl ?_
            refine g_invV (pc := 66) j_X5_get mw_X3_15 dX3_fitsOwer_66 (rcv_X5 (by assumption)) (by rfl) (c_X5_get E S r (nI n) (by assumption) (by first | assumption | omega | rfl)) (Nat.le_of_ble_eq_true rfl) (Nat.le_of_ble_eq_true rfl) (by rfl) (Nat.le_of_ble_eq_true rfl) ?_
            refine g_bipush (pc := 69) (v := -9) dX3_fitsOwer_69 (by decide) ?_
            refine g_icmp_eq (pc := 71) (tgt := 87) dX3_fitsOwer_71 (by decide) (fun c_71 => ?_) (fun c_71 => ?_)
            · refine g_iinc (pc := 87) (L' := [(5, .int (nI n + 1)), (6, .int (balF S b (nI n) - 0)), (0, .ref (eA E b)), (1, .int k), (2, .int ower), (3, .ref (eA E r)), (4, .int 0)]) dX3_fitsOwer_87 (k := 6) rfl (v := nI n + 1) rfl (Nat.le_of_ble_eq_true rfl) rfl ?_
              refine g_goto (pc := 90) (tgt := 18) dX3_fitsOwer_90 (by decide) ?_
              refine g_sub (L' := [(0, .ref (eA E b)), (1, .int k), (2, .int ower), (3, .ref (eA E r)), (4, .int 0), (5, .int (nI n + 1))]) [2, 3, 4, 5, 6, 0] rfl ?_
              exact g_eq rfl (by simp only [nI_1]) rfl (ih_18 hlt_18 (by rw [allB, hal, Bool.true_and]; simp only [fowP, fowB, c_5, bI, eq_true c_40, c_53, eq_true c_71, if_true, if_false, Bool.false_eq_true, Bool.not_true, Bool.not_false, Bool.and_true, Bool.true_and, Bool.and_false, Bool.false_and, Bool.or_true, Bool.true_or, Bool.or_false, Bool.false_or, decide_true, decide_false, Bool.and_self]))
            · refine g_aload_n (pc := 74) dX3_fitsOwer_74 4 rfl rfl ?_
              refine g_iload (pc := 75) dX3_fitsOwer_75 6 rfl ?_
              refine g_invV (pc := 77) j_X5_get mw_X3_15 dX3_fitsOwer_77 (rcv_X5 (by assumption)) (by rfl) (c_X5_get E S r (nI n) (by assumption) (by first | assumption | omega | rfl)) (Nat.le_of_ble_eq_true rfl) (Nat.le_of_ble_eq_true rfl) (by rfl) (Nat.le_of_ble_eq_true rfl) ?_
              refine g_iload (pc := 80) dX3_fitsOwer_80 0 rfl ?_
              refine g_icmp_eq (pc := 82) (tgt := 87) dX3_fitsOwer_82 (by decide) (fun c_82 => ?_) (fun c_82 => ?_)
              · refine g_iinc (pc := 87) (L' := [(5, .int (nI n + 1)), (6, .int (balF S b (nI n) - 0)), (0, .ref (eA E b)), (1, .int k), (2, .int ower), (3, .ref (eA E r)), (4, .int 0)]) dX3_fitsOwer_87 (k := 6) rfl (v := nI n + 1) rfl (Nat.le_of_ble_eq_true rfl) rfl ?_
                refine g_goto (pc := 90) (tgt := 18) dX3_fitsOwer_90 (by decide) ?_
                refine g_sub (L' := [(0, .ref (eA E b)), (1, .int k), (2, .int ower), (3, .ref (eA E r)), (4, .int 0), (5, .int (nI n + 1))]) [2, 3, 4, 5, 6, 0] rfl ?_
                exact g_eq rfl (by simp only [nI_1]) rfl (ih_18 hlt_18 (by rw [allB, hal, Bool.true_and]; simp only [fowP, fowB, c_5, bI, eq_true c_40, c_53, c_71, eq_true c_82, if_true, if_false, Bool.false_eq_true, Bool.not_true, Bool.not_false, Bool.and_true, Bool.true_and, Bool.and_false, Bool.false_and, Bool.or_true, Bool.true_or, Bool.or_false, Bool.false_or, decide_true, decide_false, Bool.and_self]))
              · refine g_iconst (pc := 85) (v := 0) dX3_fitsOwer_85 (by decide) ?_
                exact g_iret (pc := 86) hM rfl rfl ⟨rfl, some_int (by rw [allB_f hlt_18 (by simp only [fowP, fowB, c_5, bI, eq_true c_40, c_53, c_71, c_82, if_true, if_false, Bool.false_eq_true, Bool.not_true, Bool.not_false, Bool.and_true, Bool.true_and, Bool.and_false, Bool.false_and, Bool.or_true, Bool.true_or, Bool.or_false, Bool.false_or, decide_true, decide_false, Bool.and_self])]; rfl)⟩ dX3_fitsOwer_86
          · refine g_iload (pc := 56) dX3_fitsOwer_56 0 rfl ?_
            refine g_iload (pc := 58) dX3_fitsOwer_58 5 rfl ?_
            refine g_iadd (pc := 60) dX3_fitsOwer_60 ?_
            refine g_istore (pc := 61) (L' := [(6, .int ((balF S b (nI n) - 0) + 0)), (0, .ref (eA E b)), (1, .int k), (2, .int ower), (3, .ref (eA E r)), (4, .int 0), (5, .int (nI n))]) dX3_fitsOwer_61 (Nat.le_of_ble_eq_true rfl) rfl ?_
            refine g_aload_n (pc := 63) dX3_fitsOwer_63 4 rfl rfl ?_
            refine g_iload (pc := 64) dX3_fitsOwer_64 6 rfl ?_
            refine g_invV (pc := 66) j_X5_get mw_X3_15 dX3_fitsOwer_66 (rcv_X5 (by assumption)) (by rfl) (c_X5_get E S r (nI n) (by assumption) (by first | assumption | omega | rfl)) (Nat.le_of_ble_eq_true rfl) (Nat.le_of_ble_eq_true rfl) (by rfl) (Nat.le_of_ble_eq_true rfl) ?_
            refine g_bipush (pc := 69) (v := -9) dX3_fitsOwer_69 (by decide) ?_
            refine g_icmp_eq (pc := 71) (tgt := 87) dX3_fitsOwer_71 (by decide) (fun c_71 => ?_) (fun c_71 => ?_)
            · refine g_iinc (pc := 87) (L' := [(5, .int (nI n + 1)), (6, .int ((balF S b (nI n) - 0) + 0)), (0, .ref (eA E b)), (1, .int k), (2, .int ower), (3, .ref (eA E r)), (4, .int 0)]) dX3_fitsOwer_87 (k := 6) rfl (v := nI n + 1) rfl (Nat.le_of_ble_eq_true rfl) rfl ?_
              refine g_goto (pc := 90) (tgt := 18) dX3_fitsOwer_90 (by decide) ?_
              refine g_sub (L' := [(0, .ref (eA E b)), (1, .int k), (2, .int ower), (3, .ref (eA E r)), (4, .int 0), (5, .int (nI n + 1))]) [2, 3, 4, 5, 6, 0] rfl ?_
              exact g_eq rfl (by simp only [nI_1]) rfl (ih_18 hlt_18 (by rw [allB, hal, Bool.true_and]; simp only [fowP, fowB, c_5, bI, eq_true c_40, eq_true c_53, eq_true c_71, if_true, if_false, Bool.false_eq_true, Bool.not_true, Bool.not_false, Bool.and_true, Bool.true_and, Bool.and_false, Bool.false_and, Bool.or_true, Bool.true_or, Bool.or_false, Bool.false_or, decide_true, decide_false, Bool.and_self]))
            · refine g_aload_n (pc := 74) dX3_fitsOwer_74 4 rfl rfl ?_
              refine g_iload (pc := 75) dX3_fitsOwer_75 6 rfl ?_
              refine g_invV (pc := 77) j_X5_get mw_X3_15 dX3_fitsOwer_77 (rcv_X5 (by assumption)) (by rfl) (c_X5_get E S r (nI n) (by assumption) (by first | assumption | omega | rfl)) (Nat.le_of_ble_eq_true rfl) (Nat.le_of_ble_eq_true rfl) (by rfl) (Nat.le_of_ble_eq_true rfl) ?_
              refine g_iload (pc := 80) dX3_fitsOwer_80 0 rfl ?_
              refine g_icmp_eq (pc := 82) (tgt := 87) dX3_fitsOwer_82 (by decide) (fun c_82 => ?_) (fun c_82 => ?_)
              · refine g_iinc (pc := 87) (L' := [(5, .int (nI n + 1)), (6, .int ((balF S b (nI n) - 0) + 0)), (0, .ref (eA E b)), (1, .int k), (2, .int ower), (3, .ref (eA E r)), (4, .int 0)]) dX3_fitsOwer_87 (k := 6) rfl (v := nI n + 1) rfl (Nat.le_of_ble_eq_true rfl) rfl ?_
                refine g_goto (pc := 90) (tgt := 18) dX3_fitsOwer_90 (by decide) ?_
                refine g_sub (L' := [(0, .ref (eA E b)), (1, .int k), (2, .int ower), (3, .ref (eA E r)), (4, .int 0), (5, .int (nI n + 1))]) [2, 3, 4, 5, 6, 0] rfl ?_
                exact g_eq rfl (by simp only [nI_1]) rfl (ih_18 hlt_18 (by rw [allB, hal, Bool.true_and]; simp only [fowP, fowB, c_5, bI, eq_true c_40, eq_true c_53, c_71, eq_true c_82, if_true, if_false, Bool.false_eq_true, Bool.not_true, Bool.not_false, Bool.and_true, Bool.true_and, Bool.and_false, Bool.false_and, Bool.or_true, Bool.true_or, Bool.or_false, Bool.false_or, decide_true, decide_false, Bool.and_self]))
              · refine g_iconst (pc := 85) (v := 0) dX3_fitsOwer_85 (by decide) ?_
                exact g_iret (pc := 86) hM rfl rfl ⟨rfl, some_int (by rw [allB_f hlt_18 (by simp only [fowP, fowB, c_5, bI, eq_true c_40, eq_true c_53, c_71, c_82, if_true, if_false, Bool.false_eq_true, Bool.not_true, Bool.not_false, Bool.and_true, Bool.true_and, Bool.and_false, Bool.false_and, Bool.or_true, Bool.true_or, Bool.or_false, Bool.false_or, decide_true, decide_false, Bool.and_self])]; rfl)⟩ dX3_fitsOwer_86
    refine g_sub (L' := [(0, .ref (eA E b)), (1, .int k), (2, .int ower), (3, .ref (eA E r)), (4, .int 0), (5, .int 0)]) [2, 3, 4, 5, 1, 0] rfl ?_
    exact g_eq rfl rfl rfl (H_18 0 (by omega) rfl)
  · refine g_iconst (pc := 8) (v := 1) dX3_fitsOwer_8 (by decide) ?_
    refine g_goto (pc := 9) (tgt := 13) dX3_fitsOwer_9 (by decide) ?_
    refine g_istore (pc := 13) (L' := [(4, .int 1), (0, .ref (eA E b)), (1, .int k), (2, .int ower), (3, .ref (eA E r))]) dX3_fitsOwer_13 (Nat.le_of_ble_eq_true rfl) rfl ?_
    refine g_iconst (pc := 15) (v := 0) dX3_fitsOwer_15 (by decide) ?_
    refine g_istore (pc := 16) (L' := [(5, .int 0), (4, .int 1), (0, .ref (eA E b)), (1, .int k), (2, .int ower), (3, .ref (eA E r))]) dX3_fitsOwer_16 (Nat.le_of_ble_eq_true rfl) rfl ?_
    have H_18 : ∀ n : Nat, n ≤ 6 → allB (fowP S b k ower r) n = true → G E X i_X3_fitsOwer S 18 [(0, .ref (eA E b)), (1, .int k), (2, .int ower), (3, .ref (eA E r)), (4, .int 1), (5, .int (nI n))] [] := by
      refine dn_ind 6 (fun n hn_18 ih_18 hal => ?_)
      refine g_iload (pc := 18) dX3_fitsOwer_18 5 rfl ?_
      refine g_bipush (pc := 20) (v := 6) dX3_fitsOwer_20 (by decide) ?_
      refine g_icmp_ge (pc := 22) (tgt := 93) dX3_fitsOwer_22 (by decide) (fun c_22 => ?_) (fun c_22 => ?_)
      · have k_22 := Int32.not_lt.mpr c_22
        have he_18 : n = 6 := Nat.le_antisymm hn_18 (nle_of (N := 6) rfl rfl (by omega) (by omega) c_22)
        rw [he_18] at hal
        refine g_iconst (pc := 93) (v := 1) dX3_fitsOwer_93 (by decide) ?_
        exact g_iret (pc := 94) hM rfl rfl ⟨rfl, some_int (by rw [hal]; rfl)⟩ dX3_fitsOwer_94
      · have k_22 := Int32.not_le.mp c_22
        have hlt_18 : n < 6 := nlt_of (N := 6) rfl rfl (by omega) (by omega) c_22
        refine g_aload_n (pc := 25) dX3_fitsOwer_25 0 rfl rfl ?_
        refine g_iload (pc := 26) dX3_fitsOwer_26 5 rfl ?_
        refine g_invV (pc := 28) j_X0_balanceOf mw_X3_57 dX3_fitsOwer_28 (rcv_X0 (by assumption)) (by rfl) (c_X0_balanceOf E S b (nI n) (by assumption) (by first | assumption | omega | rfl)) (Nat.le_of_ble_eq_true rfl) (Nat.le_of_ble_eq_true rfl) (by rfl) (Nat.le_of_ble_eq_true rfl) ?_
        refine g_istore (pc := 31) (L' := [(6, .int (balF S b (nI n))), (0, .ref (eA E b)), (1, .int k), (2, .int ower), (3, .ref (eA E r)), (4, .int 1), (5, .int (nI n))]) dX3_fitsOwer_31 (Nat.le_of_ble_eq_true rfl) rfl ?_
        refine g_iload (pc := 33) dX3_fitsOwer_33 6 rfl ?_
        refine g_aload_n (pc := 35) dX3_fitsOwer_35 1 rfl rfl ?_
        refine g_iload_n (pc := 36) dX3_fitsOwer_36 2 rfl rfl ?_
        refine g_invV (pc := 37) j_X0_owerOf mw_X3_60 dX3_fitsOwer_37 (rcv_X0 (by assumption)) (by rfl) (c_X0_owerOf E S b k (by assumption) (by first | assumption | omega | rfl)) (Nat.le_of_ble_eq_true rfl) (Nat.le_of_ble_eq_true rfl) (by rfl) (Nat.le_of_ble_eq_true rfl) ?_
        refine g_icmp_ne (pc := 40) (tgt := 50) dX3_fitsOwer_40 (by decide) (fun c_40 => ?_) (fun c_40 => ?_)
        · refine g_iload (pc := 50) dX3_fitsOwer_50 6 rfl ?_
          refine g_iload_n (pc := 52) dX3_fitsOwer_52 3 rfl rfl ?_
          refine g_icmp_ne (pc := 53) (tgt := 63) dX3_fitsOwer_53 (by decide) (fun c_53 => ?_) (fun c_53 => ?_)
          · refine g_aload_n (pc := 63) dX3_fitsOwer_63 4 rfl rfl ?_
            refine g_iload (pc := 64) dX3_fitsOwer_64 6 rfl ?_
            refine g_invV (pc := 66) j_X5_get mw_X3_15 dX3_fitsOwer_66 (rcv_X5 (by assumption)) (by rfl) (c_X5_get E S r (nI n) (by assumption) (by first | assumption | omega | rfl)) (Nat.le_of_ble_eq_true rfl) (Nat.le_of_ble_eq_true rfl) (by rfl) (Nat.le_of_ble_eq_true rfl) ?_
            refine g_bipush (pc := 69) (v := -9) dX3_fitsOwer_69 (by decide) ?_
            refine g_icmp_eq (pc := 71) (tgt := 87) dX3_fitsOwer_71 (by decide) (fun c_71 => ?_) (fun c_71 => ?_)
            · refine g_iinc (pc := 87) (L' := [(5, .int (nI n + 1)), (6, .int (balF S b (nI n))), (0, .ref (eA E b)), (1, .int k), (2, .int ower), (3, .ref (eA E r)), (4, .int 1)]) dX3_fitsOwer_87 (k := 6) rfl (v := nI n + 1) rfl (Nat.le_of_ble_eq_true rfl) rfl ?_
              refine g_goto (pc := 90) (tgt := 18) dX3_fitsOwer_90 (by decide) ?_
              refine g_sub (L' := [(0, .ref (eA E b)), (1, .int k), (2, .int ower), (3, .ref (eA E r)), (4, .int 1), (5, .int (nI n + 1))]) [2, 3, 4, 5, 6, 0] rfl ?_
              exact g_eq rfl (by simp only [nI_1]) rfl (ih_18 hlt_18 (by rw [allB, hal, Bool.true_and]; simp only [fowP, fowB, c_5, bI, c_40, c_53, eq_true c_71, if_true, if_false, Bool.false_eq_true, Bool.not_true, Bool.not_false, Bool.and_true, Bool.true_and, Bool.and_false, Bool.false_and, Bool.or_true, Bool.true_or, Bool.or_false, Bool.false_or, decide_true, decide_false, Bool.and_self]))
            · refine g_aload_n (pc := 74) dX3_fitsOwer_74 4 rfl rfl ?_
              refine g_iload (pc := 75) dX3_fitsOwer_75 6 rfl ?_
              refine g_invV (pc := 77) j_X5_get mw_X3_15 dX3_fitsOwer_77 (rcv_X5 (by assumption)) (by rfl) (c_X5_get E S r (nI n) (by assumption) (by first | assumption | omega | rfl)) (Nat.le_of_ble_eq_true rfl) (Nat.le_of_ble_eq_true rfl) (by rfl) (Nat.le_of_ble_eq_true rfl) ?_
              refine g_iload (pc := 80) dX3_fitsOwer_80 0 rfl ?_
              refine g_icmp_eq (pc := 82) (tgt := 87) dX3_fitsOwer_82 (by decide) (fun c_82 => ?_) (fun c_82 => ?_)
              · refine g_iinc (pc := 87) (L' := [(5, .int (nI n + 1)), (6, .int (balF S b (nI n))), (0, .ref (eA E b)), (1, .int k), (2, .int ower), (3, .ref (eA E r)), (4, .int 1)]) dX3_fitsOwer_87 (k := 6) rfl (v := nI n + 1) rfl (Nat.le_of_ble_eq_true rfl) rfl ?_
                refine g_goto (pc := 90) (tgt := 18) dX3_fitsOwer_90 (by decide) ?_
                refine g_sub (L' := [(0, .ref (eA E b)), (1, .int k), (2, .int ower), (3, .ref (eA E r)), (4, .int 1), (5, .int (nI n + 1))]) [2, 3, 4, 5, 6, 0] rfl ?_
                exact g_eq rfl (by simp only [nI_1]) rfl (ih_18 hlt_18 (by rw [allB, hal, Bool.true_and]; simp only [fowP, fowB, c_5, bI, c_40, c_53, c_71, eq_true c_82, if_true, if_false, Bool.false_eq_true, Bool.not_true, Bool.not_false, Bool.and_true, Bool.true_and, Bool.and_false, Bool.false_and, Bool.or_true, Bool.true_or, Bool.or_false, Bool.false_or, decide_true, decide_false, Bool.and_self]))
              · refine g_iconst (pc := 85) (v := 0) dX3_fitsOwer_85 (by decide) ?_
                exact g_iret (pc := 86) hM rfl rfl ⟨rfl, some_int (by rw [allB_f hlt_18 (by simp only [fowP, fowB, c_5, bI, c_40, c_53, c_71, c_82, if_true, if_false, Bool.false_eq_true, Bool.not_true, Bool.not_false, Bool.and_true, Bool.true_and, Bool.and_false, Bool.false_and, Bool.or_true, Bool.true_or, Bool.or_false, Bool.false_or, decide_true, decide_false, Bool.and_self])]; rfl)⟩ dX3_fitsOwer_86
          · refine g_iload (pc := 56) dX3_fitsOwer_56 0 rfl ?_
            refine g_iload (pc := 58) dX3_fitsOwer_58 5 rfl ?_
            refine g_iadd (pc := 60) dX3_fitsOwer_60 ?_
            refine g_istore (pc := 61) (L' := [(6, .int (balF S b (nI n) + 1)), (0, .ref (eA E b)), (1, .int k), (2, .int ower), (3, .ref (eA E r)), (4, .int 1), (5, .int (nI n))]) dX3_fitsOwer_61 (Nat.le_of_ble_eq_true rfl) rfl ?_
            refine g_aload_n (pc := 63) dX3_fitsOwer_63 4 rfl rfl ?_
            refine g_iload (pc := 64) dX3_fitsOwer_64 6 rfl ?_
            refine g_invV (pc := 66) j_X5_get mw_X3_15 dX3_fitsOwer_66 (rcv_X5 (by assumption)) (by rfl) (c_X5_get E S r (nI n) (by assumption) (by first | assumption | omega | rfl)) (Nat.le_of_ble_eq_true rfl) (Nat.le_of_ble_eq_true rfl) (by rfl) (Nat.le_of_ble_eq_true rfl) ?_
            refine g_bipush (pc := 69) (v := -9) dX3_fitsOwer_69 (by decide) ?_
            refine g_icmp_eq (pc := 71) (tgt := 87) dX3_fitsOwer_71 (by decide) (fun c_71 => ?_) (fun c_71 => ?_)
            · refine g_iinc (pc := 87) (L' := [(5, .int (nI n + 1)), (6, .int (balF S b (nI n) + 1)), (0, .ref (eA E b)), (1, .int k), (2, .int ower), (3, .ref (eA E r)), (4, .int 1)]) dX3_fitsOwer_87 (k := 6) rfl (v := nI n + 1) rfl (Nat.le_of_ble_eq_true rfl) rfl ?_
              refine g_goto (pc := 90) (tgt := 18) dX3_fitsOwer_90 (by decide) ?_
              refine g_sub (L' := [(0, .ref (eA E b)), (1, .int k), (2, .int ower), (3, .ref (eA E r)), (4, .int 1), (5, .int (nI n + 1))]) [2, 3, 4, 5, 6, 0] rfl ?_
              exact g_eq rfl (by simp only [nI_1]) rfl (ih_18 hlt_18 (by rw [allB, hal, Bool.true_and]; simp only [fowP, fowB, c_5, bI, c_40, eq_true c_53, eq_true c_71, if_true, if_false, Bool.false_eq_true, Bool.not_true, Bool.not_false, Bool.and_true, Bool.true_and, Bool.and_false, Bool.false_and, Bool.or_true, Bool.true_or, Bool.or_false, Bool.false_or, decide_true, decide_false, Bool.and_self]))
            · refine g_aload_n (pc := 74) dX3_fitsOwer_74 4 rfl rfl ?_
              refine g_iload (pc := 75) dX3_fitsOwer_75 6 rfl ?_
              refine g_invV (pc := 77) j_X5_get mw_X3_15 dX3_fitsOwer_77 (rcv_X5 (by assumption)) (by rfl) (c_X5_get E S r (nI n) (by assumption) (by first | assumption | omega | rfl)) (Nat.le_of_ble_eq_true rfl) (Nat.le_of_ble_eq_true rfl) (by rfl) (Nat.le_of_ble_eq_true rfl) ?_
              refine g_iload (pc := 80) dX3_fitsOwer_80 0 rfl ?_
              refine g_icmp_eq (pc := 82) (tgt := 87) dX3_fitsOwer_82 (by decide) (fun c_82 => ?_) (fun c_82 => ?_)
              · refine g_iinc (pc := 87) (L' := [(5, .int (nI n + 1)), (6, .int (balF S b (nI n) + 1)), (0, .ref (eA E b)), (1, .int k), (2, .int ower), (3, .ref (eA E r)), (4, .int 1)]) dX3_fitsOwer_87 (k := 6) rfl (v := nI n + 1) rfl (Nat.le_of_ble_eq_true rfl) rfl ?_
                refine g_goto (pc := 90) (tgt := 18) dX3_fitsOwer_90 (by decide) ?_
                refine g_sub (L' := [(0, .ref (eA E b)), (1, .int k), (2, .int ower), (3, .ref (eA E r)), (4, .int 1), (5, .int (nI n + 1))]) [2, 3, 4, 5, 6, 0] rfl ?_
                exact g_eq rfl (by simp only [nI_1]) rfl (ih_18 hlt_18 (by rw [allB, hal, Bool.true_and]; simp only [fowP, fowB, c_5, bI, c_40, eq_true c_53, c_71, eq_true c_82, if_true, if_false, Bool.false_eq_true, Bool.not_true, Bool.not_false, Bool.and_true, Bool.true_and, Bool.and_false, Bool.false_and, Bool.or_true, Bool.true_or, Bool.or_false, Bool.false_or, decide_true, decide_false, Bool.and_self]))
              · refine g_iconst (pc := 85) (v := 0) dX3_fitsOwer_85 (by decide) ?_
                exact g_iret (pc := 86) hM rfl rfl ⟨rfl, some_int (by rw [allB_f hlt_18 (by simp only [fowP, fowB, c_5, bI, c_40, eq_true c_53, c_71, c_82, if_true, if_false, Bool.false_eq_true, Bool.not_true, Bool.not_false, Bool.and_true, Bool.true_and, Bool.and_false, Bool.false_and, Bool.or_true, Bool.true_or, Bool.or_false, Bool.false_or, decide_true, decide_false, Bool.and_self])]; rfl)⟩ dX3_fitsOwer_86
        · refine g_iload (pc := 43) dX3_fitsOwer_43 0 rfl ?_
          refine g_iload (pc := 45) dX3_fitsOwer_45 5 rfl ?_
          refine g_isub (pc := 47) dX3_fitsOwer_47 ?_
          refine g_istore (pc := 48) (L' := [(6, .int (balF S b (nI n) - 1)), (0, .ref (eA E b)), (1, .int k), (2, .int ower), (3, .ref (eA E r)), (4, .int 1), (5, .int (nI n))]) dX3_fitsOwer_48 (Nat.le_of_ble_eq_true rfl) rfl ?_
          refine g_iload (pc := 50) dX3_fitsOwer_50 6 rfl ?_
          refine g_iload_n (pc := 52) dX3_fitsOwer_52 3 rfl rfl ?_
          refine g_icmp_ne (pc := 53) (tgt := 63) dX3_fitsOwer_53 (by decide) (fun c_53 => ?_) (fun c_53 => ?_)
          · refine g_aload_n (pc := 63) dX3_fitsOwer_63 4 rfl rfl ?_
            refine g_iload (pc := 64) dX3_fitsOwer_64 6 rfl ?_
            refine g_invV (pc := 66) j_X5_get mw_X3_15 dX3_fitsOwer_66 (rcv_X5 (by assumption)) (by rfl) (c_X5_get E S r (nI n) (by assumption) (by first | assumption | omega | rfl)) (Nat.le_of_ble_eq_true rfl) (Nat.le_of_ble_eq_true rfl) (by rfl) (Nat.le_of_ble_eq_true rfl) ?_
            refine g_bipush (pc := 69) (v := -9) dX3_fitsOwer_69 (by decide) ?_
            refine g_icmp_eq (pc := 71) (tgt := 87) dX3_fitsOwer_71 (by decide) (fun c_71 => ?_) (fun c_71 => ?_)
            · refine g_iinc (pc := 87) (L' := [(5, .int (nI n + 1)), (6, .int (balF S b (nI n) - 1)), (0, .ref (eA E b)), (1, .int k), (2, .int ower), (3, .ref (eA E r)), (4, .int 1)]) dX3_fitsOwer_87 (k := 6) rfl (v := nI n + 1) rfl (Nat.le_of_ble_eq_true rfl) rfl ?_
              refine g_goto (pc := 90) (tgt := 18) dX3_fitsOwer_90 (by decide) ?_
              refine g_sub (L' := [(0, .ref (eA E b)), (1, .int k), (2, .int ower), (3, .ref (eA E r)), (4, .int 1), (5, .int (nI n + 1))]) [2, 3, 4, 5, 6, 0] rfl ?_
              exact g_eq rfl (by simp only [nI_1]) rfl (ih_18 hlt_18 (by rw [allB, hal, Bool.true_and]; simp only [fowP, fowB, c_5, bI, eq_true c_40, c_53, eq_true c_71, if_true, if_false, Bool.false_eq_true, Bool.not_true, Bool.not_false, Bool.and_true, Bool.true_and, Bool.and_false, Bool.false_and, Bool.or_true, Bool.true_or, Bool.or_false, Bool.false_or, decide_true, decide_false, Bool.and_self]))
            · refine g_aload_n (pc := 74) dX3_fitsOwer_74 4 rfl rfl ?_
              refine g_iload (pc := 75) dX3_fitsOwer_75 6 rfl ?_
              refine g_invV (pc := 77) j_X5_get mw_X3_15 dX3_fitsOwer_77 (rcv_X5 (by assumption)) (by rfl) (c_X5_get E S r (nI n) (by assumption) (by first | assumption | omega | rfl)) (Nat.le_of_ble_eq_true rfl) (Nat.le_of_ble_eq_true rfl) (by rfl) (Nat.le_of_ble_eq_true rfl) ?_
              refine g_iload (pc := 80) dX3_fitsOwer_80 0 rfl ?_
              refine g_icmp_eq (pc := 82) (tgt := 87) dX3_fitsOwer_82 (by decide) (fun c_82 => ?_) (fun c_82 => ?_)
              · refine g_iinc (pc := 87) (L' := [(5, .int (nI n + 1)), (6, .int (balF S b (nI n) - 1)), (0, .ref (eA E b)), (1, .int k), (2, .int ower), (3, .ref (eA E r)), (4, .int 1)]) dX3_fitsOwer_87 (k := 6) rfl (v := nI n + 1) rfl (Nat.le_of_ble_eq_true rfl) rfl ?_
                refine g_goto (pc := 90) (tgt := 18) dX3_fitsOwer_90 (by decide) ?_
                refine g_sub (L' := [(0, .ref (eA E b)), (1, .int k), (2, .int ower), (3, .ref (eA E r)), (4, .int 1), (5, .int (nI n + 1))]) [2, 3, 4, 5, 6, 0] rfl ?_
                exact g_eq rfl (by simp only [nI_1]) rfl (ih_18 hlt_18 (by rw [allB, hal, Bool.true_and]; simp only [fowP, fowB, c_5, bI, eq_true c_40, c_53, c_71, eq_true c_82, if_true, if_false, Bool.false_eq_true, Bool.not_true, Bool.not_false, Bool.and_true, Bool.true_and, Bool.and_false, Bool.false_and, Bool.or_true, Bool.true_or, Bool.or_false, Bool.false_or, decide_true, decide_false, Bool.and_self]))
              · refine g_iconst (pc := 85) (v := 0) dX3_fitsOwer_85 (by decide) ?_
                exact g_iret (pc := 86) hM rfl rfl ⟨rfl, some_int (by rw [allB_f hlt_18 (by simp only [fowP, fowB, c_5, bI, eq_true c_40, c_53, c_71, c_82, if_true, if_false, Bool.false_eq_true, Bool.not_true, Bool.not_false, Bool.and_true, Bool.true_and, Bool.and_false, Bool.false_and, Bool.or_true, Bool.true_or, Bool.or_false, Bool.false_or, decide_true, decide_false, Bool.and_self])]; rfl)⟩ dX3_fitsOwer_86
          · refine g_iload (pc := 56) dX3_fitsOwer_56 0 rfl ?_
            refine g_iload (pc := 58) dX3_fitsOwer_58 5 rfl ?_
            refine g_iadd (pc := 60) dX3_fitsOwer_60 ?_
            refine g_istore (pc := 61) (L' := [(6, .int ((balF S b (nI n) - 1) + 1)), (0, .ref (eA E b)), (1, .int k), (2, .int ower), (3, .ref (eA E r)), (4, .int 1), (5, .int (nI n))]) dX3_fitsOwer_61 (Nat.le_of_ble_eq_true rfl) rfl ?_
            refine g_aload_n (pc := 63) dX3_fitsOwer_63 4 rfl rfl ?_
            refine g_iload (pc := 64) dX3_fitsOwer_64 6 rfl ?_
            refine g_invV (pc := 66) j_X5_get mw_X3_15 dX3_fitsOwer_66 (rcv_X5 (by assumption)) (by rfl) (c_X5_get E S r (nI n) (by assumption) (by first | assumption | omega | rfl)) (Nat.le_of_ble_eq_true rfl) (Nat.le_of_ble_eq_true rfl) (by rfl) (Nat.le_of_ble_eq_true rfl) ?_
            refine g_bipush (pc := 69) (v := -9) dX3_fitsOwer_69 (by decide) ?_
            refine g_icmp_eq (pc := 71) (tgt := 87) dX3_fitsOwer_71 (by decide) (fun c_71 => ?_) (fun c_71 => ?_)
            · refine g_iinc (pc := 87) (L' := [(5, .int (nI n + 1)), (6, .int ((balF S b (nI n) - 1) + 1)), (0, .ref (eA E b)), (1, .int k), (2, .int ower), (3, .ref (eA E r)), (4, .int 1)]) dX3_fitsOwer_87 (k := 6) rfl (v := nI n + 1) rfl (Nat.le_of_ble_eq_true rfl) rfl ?_
              refine g_goto (pc := 90) (tgt := 18) dX3_fitsOwer_90 (by decide) ?_
              refine g_sub (L' := [(0, .ref (eA E b)), (1, .int k), (2, .int ower), (3, .ref (eA E r)), (4, .int 1), (5, .int (nI n + 1))]) [2, 3, 4, 5, 6, 0] rfl ?_
              exact g_eq rfl (by simp only [nI_1]) rfl (ih_18 hlt_18 (by rw [allB, hal, Bool.true_and]; simp only [fowP, fowB, c_5, bI, eq_true c_40, eq_true c_53, eq_true c_71, if_true, if_false, Bool.false_eq_true, Bool.not_true, Bool.not_false, Bool.and_true, Bool.true_and, Bool.and_false, Bool.false_and, Bool.or_true, Bool.true_or, Bool.or_false, Bool.false_or, decide_true, decide_false, Bool.and_self]))
            · refine g_aload_n (pc := 74) dX3_fitsOwer_74 4 rfl rfl ?_
              refine g_iload (pc := 75) dX3_fitsOwer_75 6 rfl ?_
              refine g_invV (pc := 77) j_X5_get mw_X3_15 dX3_fitsOwer_77 (rcv_X5 (by assumption)) (by rfl) (c_X5_get E S r (nI n) (by assumption) (by first | assumption | omega | rfl)) (Nat.le_of_ble_eq_true rfl) (Nat.le_of_ble_eq_true rfl) (by rfl) (Nat.le_of_ble_eq_true rfl) ?_
              refine g_iload (pc := 80) dX3_fitsOwer_80 0 rfl ?_
              refine g_icmp_eq (pc := 82) (tgt := 87) dX3_fitsOwer_82 (by decide) (fun c_82 => ?_) (fun c_82 => ?_)
              · refine g_iinc (pc := 87) (L' := [(5, .int (nI n + 1)), (6, .int ((balF S b (nI n) - 1) + 1)), (0, .ref (eA E b)), (1, .int k), (2, .int ower), (3, .ref (eA E r)), (4, .int 1)]) dX3_fitsOwer_87 (k := 6) rfl (v := nI n + 1) rfl (Nat.le_of_ble_eq_true rfl) rfl ?_
                refine g_goto (pc := 90) (tgt := 18) dX3_fitsOwer_90 (by decide) ?_
                refine g_sub (L' := [(0, .ref (eA E b)), (1, .int k), (2, .int ower), (3, .ref (eA E r)), (4, .int 1), (5, .int (nI n + 1))]) [2, 3, 4, 5, 6, 0] rfl ?_
                exact g_eq rfl (by simp only [nI_1]) rfl (ih_18 hlt_18 (by rw [allB, hal, Bool.true_and]; simp only [fowP, fowB, c_5, bI, eq_true c_40, eq_true c_53, c_71, eq_true c_82, if_true, if_false, Bool.false_eq_true, Bool.not_true, Bool.not_false, Bool.and_true, Bool.true_and, Bool.and_false, Bool.false_and, Bool.or_true, Bool.true_or, Bool.or_false, Bool.false_or, decide_true, decide_false, Bool.and_self]))
              · refine g_iconst (pc := 85) (v := 0) dX3_fitsOwer_85 (by decide) ?_
                exact g_iret (pc := 86) hM rfl rfl ⟨rfl, some_int (by rw [allB_f hlt_18 (by simp only [fowP, fowB, c_5, bI, eq_true c_40, eq_true c_53, c_71, c_82, if_true, if_false, Bool.false_eq_true, Bool.not_true, Bool.not_false, Bool.and_true, Bool.true_and, Bool.and_false, Bool.false_and, Bool.or_true, Bool.true_or, Bool.or_false, Bool.false_or, decide_true, decide_false, Bool.and_self])]; rfl)⟩ dX3_fitsOwer_86
    refine g_sub (L' := [(0, .ref (eA E b)), (1, .int k), (2, .int ower), (3, .ref (eA E r)), (4, .int 1), (5, .int 0)]) [2, 3, 4, 5, 1, 0] rfl ?_
    exact g_eq rfl rfl rfl (H_18 0 (by omega) rfl)
set_option maxRecDepth 100000 in
set_option maxHeartbeats 4000000 in
theorem c_X3_fittingOwers (E : En) (S : St) (b : Nat) (k : Int32) (r : Nat) (hb : kd b = 0) (hz : okB S b) (hr : kd r = 3) (hm : gI S r 1 = nI 6) (hm2 : 6 ≤ ln (r + 10)) : CTe E i_X3_fittingOwers S [.ref (eA E b), .int k, .ref (eA E r)] S (some (.int (fowF S b k r))) := by
  refine ct_of [(0, .ref (eA E b)), (1, .int k), (2, .ref (eA E r))] (by decide +kernel) (Nat.le_of_ble_eq_true rfl) rfl (fun X hM => ?_)
  refine g_iconst (pc := 0) (v := 0) dX3_fittingOwers_0 (by decide) ?_
  refine g_istore_n (pc := 1) (L' := [(3, .int 0), (0, .ref (eA E b)), (1, .int k), (2, .ref (eA E r))]) dX3_fittingOwers_1 rfl (Nat.le_of_ble_eq_true rfl) rfl ?_
  refine g_iconst (pc := 2) (v := 0) dX3_fittingOwers_2 (by decide) ?_
  refine g_istore (pc := 3) (L' := [(4, .int 0), (3, .int 0), (0, .ref (eA E b)), (1, .int k), (2, .ref (eA E r))]) dX3_fittingOwers_3 (Nat.le_of_ble_eq_true rfl) rfl ?_
  have H_5 : ∀ n : Nat, n ≤ 6 → G E X i_X3_fittingOwers S 5 [(0, .ref (eA E b)), (1, .int k), (2, .ref (eA E r)), (3, .int (setB (fun i => !decide (nI i = fldF S b 2 k) && allB (fowP S b k (nI i) r) 6) n)), (4, .int (nI n))] [] := by
    refine dn_ind 6 (fun n hn_5 ih_5 => ?_)
    refine g_iload (pc := 5) dX3_fittingOwers_5 4 rfl ?_
    refine g_bipush (pc := 7) (v := 6) dX3_fittingOwers_7 (by decide) ?_
    refine g_icmp_ge (pc := 9) (tgt := 46) dX3_fittingOwers_9 (by decide) (fun c_9 => ?_) (fun c_9 => ?_)
    · have k_9 := Int32.not_lt.mpr c_9
      have he_5 : n = 6 := Nat.le_antisymm hn_5 (by exact nle_of (N := 6) rfl rfl (by omega) (by omega) c_9)
      rw [he_5]
      refine g_iload_n (pc := 46) dX3_fittingOwers_46 3 rfl rfl ?_
      exact g_iret (pc := 47) hM rfl rfl ⟨rfl, rfl⟩ dX3_fittingOwers_47
    · have k_9 := Int32.not_le.mp c_9
      have hlt_5 : n < 6 := by exact nlt_of (N := 6) rfl rfl (by omega) (by omega) c_9
      refine g_iload (pc := 12) dX3_fittingOwers_12 4 rfl ?_
      refine g_aload_n (pc := 14) dX3_fittingOwers_14 0 rfl rfl ?_
      refine g_iload_n (pc := 15) dX3_fittingOwers_15 1 rfl rfl ?_
      refine g_invV (pc := 16) j_X0_creditorOf mw_X3_44 dX3_fittingOwers_16 (rcv_X0 (by assumption)) (by rfl) (c_X0_creditorOf E S b k (by assumption) (by first | assumption | omega | rfl)) (Nat.le_of_ble_eq_true rfl) (Nat.le_of_ble_eq_true rfl) (by rfl) (Nat.le_of_ble_eq_true rfl) ?_
      refine g_icmp_eq (pc := 19) (tgt := 40) dX3_fittingOwers_19 (by decide) (fun c_19 => ?_) (fun c_19 => ?_)
      · refine g_iinc (pc := 40) (L' := [(4, .int (nI n + 1)), (0, .ref (eA E b)), (1, .int k), (2, .ref (eA E r)), (3, .int (setB (fun i => !decide (nI i = fldF S b 2 k) && allB (fowP S b k (nI i) r) 6) n))]) dX3_fittingOwers_40 (k := 4) rfl (v := nI n + 1) rfl (Nat.le_of_ble_eq_true rfl) rfl ?_
        refine g_goto (pc := 43) (tgt := 5) dX3_fittingOwers_43 (by decide) ?_
        refine g_sub (L' := [(0, .ref (eA E b)), (1, .int k), (2, .ref (eA E r)), (3, .int (setB (fun i => !decide (nI i = fldF S b 2 k) && allB (fowP S b k (nI i) r) 6) n)), (4, .int (nI n + 1))]) [1, 2, 3, 4, 0] rfl ?_
        exact g_eq rfl (by simp only [nI_1, setB, eq_true c_19, if_true, if_false, Bool.false_eq_true, Bool.not_true, Bool.not_false, Bool.and_true, Bool.true_and, Bool.and_false, Bool.false_and, Bool.or_true, Bool.true_or, Bool.or_false, Bool.false_or, decide_true, decide_false, Bool.and_self]) rfl (ih_5 hlt_5)
      · refine g_aload_n (pc := 22) dX3_fittingOwers_22 0 rfl rfl ?_
        refine g_iload_n (pc := 23) dX3_fittingOwers_23 1 rfl rfl ?_
        refine g_iload (pc := 24) dX3_fittingOwers_24 4 rfl ?_
        refine g_aload_n (pc := 26) dX3_fittingOwers_26 2 rfl rfl ?_
        refine g_invS (pc := 27) j_X3_fitsOwer mw_X3_49 dX3_fittingOwers_27 (by rfl) (c_X3_fitsOwer E S b k (nI n) r (by assumption) (by first | assumption | omega | rfl) (by assumption) (by first | assumption | omega | rfl) (by first | assumption | omega | rfl)) (Nat.le_of_ble_eq_true rfl) (Nat.le_of_ble_eq_true rfl) (by rfl) (Nat.le_of_ble_eq_true rfl) ?_
        refine g_b_eq (pc := 30) (tgt := 40) dX3_fittingOwers_30 (by decide) (fun c_30 => ?_) (fun c_30 => ?_)
        · refine g_iinc (pc := 40) (L' := [(4, .int (nI n + 1)), (0, .ref (eA E b)), (1, .int k), (2, .ref (eA E r)), (3, .int (setB (fun i => !decide (nI i = fldF S b 2 k) && allB (fowP S b k (nI i) r) 6) n))]) dX3_fittingOwers_40 (k := 4) rfl (v := nI n + 1) rfl (Nat.le_of_ble_eq_true rfl) rfl ?_
          refine g_goto (pc := 43) (tgt := 5) dX3_fittingOwers_43 (by decide) ?_
          refine g_sub (L' := [(0, .ref (eA E b)), (1, .int k), (2, .ref (eA E r)), (3, .int (setB (fun i => !decide (nI i = fldF S b 2 k) && allB (fowP S b k (nI i) r) 6) n)), (4, .int (nI n + 1))]) [1, 2, 3, 4, 0] rfl ?_
          exact g_eq rfl (by simp only [nI_1, setB, c_19, c_30, if_true, if_false, Bool.false_eq_true, Bool.not_true, Bool.not_false, Bool.and_true, Bool.true_and, Bool.and_false, Bool.false_and, Bool.or_true, Bool.true_or, Bool.or_false, Bool.false_or, decide_true, decide_false, Bool.and_self]) rfl (ih_5 hlt_5)
        · refine g_iload_n (pc := 33) dX3_fittingOwers_33 3 rfl rfl ?_
          refine g_iconst (pc := 34) (v := 1) dX3_fittingOwers_34 (by decide) ?_
          refine g_iload (pc := 35) dX3_fittingOwers_35 4 rfl ?_
          refine g_ishl (pc := 37) dX3_fittingOwers_37 ?_
          refine g_ior (pc := 38) dX3_fittingOwers_38 ?_
          refine g_istore_n (pc := 39) (L' := [(3, .int (setB (fun i => !decide (nI i = fldF S b 2 k) && allB (fowP S b k (nI i) r) 6) n ||| ((1 : Int32) <<< ((nI n) &&& 31)))), (0, .ref (eA E b)), (1, .int k), (2, .ref (eA E r)), (4, .int (nI n))]) dX3_fittingOwers_39 rfl (Nat.le_of_ble_eq_true rfl) rfl ?_
          refine g_iinc (pc := 40) (L' := [(4, .int (nI n + 1)), (3, .int (setB (fun i => !decide (nI i = fldF S b 2 k) && allB (fowP S b k (nI i) r) 6) n ||| ((1 : Int32) <<< ((nI n) &&& 31)))), (0, .ref (eA E b)), (1, .int k), (2, .ref (eA E r))]) dX3_fittingOwers_40 (k := 4) rfl (v := nI n + 1) rfl (Nat.le_of_ble_eq_true rfl) rfl ?_
          refine g_goto (pc := 43) (tgt := 5) dX3_fittingOwers_43 (by decide) ?_
          refine g_sub (L' := [(0, .ref (eA E b)), (1, .int k), (2, .ref (eA E r)), (3, .int (setB (fun i => !decide (nI i = fldF S b 2 k) && allB (fowP S b k (nI i) r) 6) n ||| ((1 : Int32) <<< ((nI n) &&& 31)))), (4, .int (nI n + 1))]) [2, 3, 4, 1, 0] rfl ?_
          exact g_eq rfl (by simp only [nI_1, setB, c_19, c_30, if_true, if_false, Bool.false_eq_true, Bool.not_true, Bool.not_false, Bool.and_true, Bool.true_and, Bool.and_false, Bool.false_and, Bool.or_true, Bool.true_or, Bool.or_false, Bool.false_or, decide_true, decide_false, Bool.and_self]) rfl (ih_5 hlt_5)
  refine g_sub (L' := [(0, .ref (eA E b)), (1, .int k), (2, .ref (eA E r)), (3, .int 0), (4, .int 0)]) [2, 3, 4, 1, 0] rfl ?_
  exact g_eq rfl rfl rfl (H_5 0 (Nat.zero_le _))
