/-! GLOWDEBTS: rows, texts, banks -/
def idxF (N : Nat) (r : Int32) : Bool := !decide (r < 0) && !decide (nI N ≤ r)
def refS (S : St) (f : Nat) : St := sI (sA S 4 (upd (gA S 4) f (gA S 4 f + 1))) 0 7 (nI f)
theorem holds_in {S : St} {k j m : Nat} (hm : gI S k 1 = nI m) (hj : j < m) (hM : m < 2 ^ 31) : holdsF S k (nI j) = true := by
  unfold holdsF
  rw [hm]
  have a : ¬ nI j < 0 := nI_pos (by omega)
  have b : ¬ nI m ≤ nI j := nI_ge hj hM
  simp [a, b]
theorem mis_of {S : St} {k m : Nat} (hm : gI S k 1 = nI m) (hM : m < 2 ^ 31) : misF S k = false := by
  unfold misF
  rw [hm]
  simp [nI_pos' hM]
def clrK (S : St) : Nat → St
  | 0 => S
  | n + 1 => sI (sI (sI (sI (clrK S n) (31 + n) 6 0) (31 + n) 7 0) (31 + n) 8 0) (31 + n) 9 0
set_option maxRecDepth 100000 in
set_option maxHeartbeats 4000000 in
theorem c_X8_rowOf_n (E : En) (S : St) (n : Nat) (hn : n < 6) : CTe E i_X8_rowOf S [.ref (eA E 0), .int (nI n)] S (some (.ref (eA E (10 + n)))) := by
  refine ct_of [(0, .ref (eA E 0)), (1, .int (nI n))] (by decide +kernel) (Nat.le_of_ble_eq_true rfl) rfl (fun X hM => ?_)
  refine g_iload_n (pc := 0) dX8_rowOf_0 1 rfl rfl ?_
  refine g_if_lt (pc := 1) (tgt := 22) dX8_rowOf_1 (by decide) (fun c_1 => ?_) (fun c_1 => ?_)
  · have k_1 := Int32.not_le.mpr c_1
    exact absurd c_1 (nI_pos (by omega))
  · have k_1 := Int32.not_lt.mp c_1
    refine g_iload_n (pc := 4) dX8_rowOf_4 1 rfl rfl ?_
    refine g_aload_n (pc := 5) dX8_rowOf_5 0 rfl rfl ?_
    refine gf_X8_11 (pc := 6) rfl dX8_rowOf_6 ?_
    refine g_alenS (pc := 9) (v := 6) (by first | exact Or.inl rfl | exact Or.inr rfl) rfl dX8_rowOf_9 ?_
    refine g_icmp_ge (pc := 10) (tgt := 22) dX8_rowOf_10 (by decide) (fun c_10 => ?_) (fun c_10 => ?_)
    · have k_10 := Int32.not_lt.mpr c_10
      exact absurd c_10 (nI_ge (a := n) (b := 6) (by omega) (by omega))
    · have k_10 := Int32.not_le.mp c_10
      refine g_aload_n (pc := 13) dX8_rowOf_13 0 rfl rfl ?_
      refine gf_X8_11 (pc := 14) rfl dX8_rowOf_14 ?_
      refine g_iload_n (pc := 17) dX8_rowOf_17 1 rfl rfl ?_
      refine g_aald1 (pc := 18) n rfl hn dX8_rowOf_18 ?_
      refine g_goto (pc := 19) (tgt := 23) dX8_rowOf_19 (by decide) ?_
      exact g_aret (pc := 23) hM rfl (Or.inr ⟨_, rfl⟩) ⟨rfl, rfl⟩ dX8_rowOf_23
set_option maxRecDepth 100000 in
set_option maxHeartbeats 4000000 in
theorem c_X8_rowOf_0 (E : En) (S : St) (r : Int32) (hr : idxF 6 r = false) : CTe E i_X8_rowOf S [.ref (eA E 0), .int r] S (some (.null)) := by
  refine ct_of [(0, .ref (eA E 0)), (1, .int r)] (by decide +kernel) (Nat.le_of_ble_eq_true rfl) rfl (fun X hM => ?_)
  refine g_iload_n (pc := 0) dX8_rowOf_0 1 rfl rfl ?_
  refine g_if_lt (pc := 1) (tgt := 22) dX8_rowOf_1 (by decide) (fun c_1 => ?_) (fun c_1 => ?_)
  · have k_1 := Int32.not_le.mpr c_1
    refine g_null (pc := 22) dX8_rowOf_22 ?_
    exact g_aret (pc := 23) hM rfl (Or.inl rfl) ⟨rfl, rfl⟩ dX8_rowOf_23
  · have k_1 := Int32.not_lt.mp c_1
    refine g_iload_n (pc := 4) dX8_rowOf_4 1 rfl rfl ?_
    refine g_aload_n (pc := 5) dX8_rowOf_5 0 rfl rfl ?_
    refine gf_X8_11 (pc := 6) rfl dX8_rowOf_6 ?_
    refine g_alenS (pc := 9) (v := 6) (by first | exact Or.inl rfl | exact Or.inr rfl) rfl dX8_rowOf_9 ?_
    refine g_icmp_ge (pc := 10) (tgt := 22) dX8_rowOf_10 (by decide) (fun c_10 => ?_) (fun c_10 => ?_)
    · have k_10 := Int32.not_lt.mpr c_10
      refine g_null (pc := 22) dX8_rowOf_22 ?_
      exact g_aret (pc := 23) hM rfl (Or.inl rfl) ⟨rfl, rfl⟩ dX8_rowOf_23
    · have k_10 := Int32.not_le.mp c_10
      exact absurd hr (by have h9 : ¬ nI 6 ≤ r := c_10; simp [idxF, c_1, h9])
set_option maxRecDepth 100000 in
set_option maxHeartbeats 4000000 in
theorem c_X8_textOf_n (E : En) (S : St) (n : Nat) (hn : n < 4) : CTe E i_X8_textOf S [.ref (eA E 0), .int (nI n)] S (some (.ref (eA E (16 + n)))) := by
  refine ct_of [(0, .ref (eA E 0)), (1, .int (nI n))] (by decide +kernel) (Nat.le_of_ble_eq_true rfl) rfl (fun X hM => ?_)
  refine g_iload_n (pc := 0) dX8_textOf_0 1 rfl rfl ?_
  refine g_if_lt (pc := 1) (tgt := 22) dX8_textOf_1 (by decide) (fun c_1 => ?_) (fun c_1 => ?_)
  · have k_1 := Int32.not_le.mpr c_1
    exact absurd c_1 (nI_pos (by omega))
  · have k_1 := Int32.not_lt.mp c_1
    refine g_iload_n (pc := 4) dX8_textOf_4 1 rfl rfl ?_
    refine g_aload_n (pc := 5) dX8_textOf_5 0 rfl rfl ?_
    refine gf_X8_15 (pc := 6) rfl dX8_textOf_6 ?_
    refine g_alenS (pc := 9) (v := 4) (by first | exact Or.inl rfl | exact Or.inr rfl) rfl dX8_textOf_9 ?_
    refine g_icmp_ge (pc := 10) (tgt := 22) dX8_textOf_10 (by decide) (fun c_10 => ?_) (fun c_10 => ?_)
    · have k_10 := Int32.not_lt.mpr c_10
      exact absurd c_10 (nI_ge (a := n) (b := 4) (by omega) (by omega))
    · have k_10 := Int32.not_le.mp c_10
      refine g_aload_n (pc := 13) dX8_textOf_13 0 rfl rfl ?_
      refine gf_X8_15 (pc := 14) rfl dX8_textOf_14 ?_
      refine g_iload_n (pc := 17) dX8_textOf_17 1 rfl rfl ?_
      refine g_aald2 (pc := 18) n rfl hn dX8_textOf_18 ?_
      refine g_goto (pc := 19) (tgt := 23) dX8_textOf_19 (by decide) ?_
      exact g_aret (pc := 23) hM rfl (Or.inr ⟨_, rfl⟩) ⟨rfl, rfl⟩ dX8_textOf_23
set_option maxRecDepth 100000 in
set_option maxHeartbeats 4000000 in
theorem c_X8_textOf_0 (E : En) (S : St) (r : Int32) (hr : idxF 4 r = false) : CTe E i_X8_textOf S [.ref (eA E 0), .int r] S (some (.null)) := by
  refine ct_of [(0, .ref (eA E 0)), (1, .int r)] (by decide +kernel) (Nat.le_of_ble_eq_true rfl) rfl (fun X hM => ?_)
  refine g_iload_n (pc := 0) dX8_textOf_0 1 rfl rfl ?_
  refine g_if_lt (pc := 1) (tgt := 22) dX8_textOf_1 (by decide) (fun c_1 => ?_) (fun c_1 => ?_)
  · have k_1 := Int32.not_le.mpr c_1
    refine g_null (pc := 22) dX8_textOf_22 ?_
    exact g_aret (pc := 23) hM rfl (Or.inl rfl) ⟨rfl, rfl⟩ dX8_textOf_23
  · have k_1 := Int32.not_lt.mp c_1
    refine g_iload_n (pc := 4) dX8_textOf_4 1 rfl rfl ?_
    refine g_aload_n (pc := 5) dX8_textOf_5 0 rfl rfl ?_
    refine gf_X8_15 (pc := 6) rfl dX8_textOf_6 ?_
    refine g_alenS (pc := 9) (v := 4) (by first | exact Or.inl rfl | exact Or.inr rfl) rfl dX8_textOf_9 ?_
    refine g_icmp_ge (pc := 10) (tgt := 22) dX8_textOf_10 (by decide) (fun c_10 => ?_) (fun c_10 => ?_)
    · have k_10 := Int32.not_lt.mpr c_10
      refine g_null (pc := 22) dX8_textOf_22 ?_
      exact g_aret (pc := 23) hM rfl (Or.inl rfl) ⟨rfl, rfl⟩ dX8_textOf_23
    · have k_10 := Int32.not_le.mp c_10
      exact absurd hr (by have h9 : ¬ nI 4 ≤ r := c_10; simp [idxF, c_1, h9])
set_option maxRecDepth 100000 in
set_option maxHeartbeats 4000000 in
theorem c_X8_keepOf_n (E : En) (S : St) (n : Nat) (hn : n < 3) : CTe E i_X8_keepOf S [.ref (eA E 0), .int (nI n)] S (some (.ref (eA E (31 + n)))) := by
  refine ct_of [(0, .ref (eA E 0)), (1, .int (nI n))] (by decide +kernel) (Nat.le_of_ble_eq_true rfl) rfl (fun X hM => ?_)
  refine g_iload_n (pc := 0) dX8_keepOf_0 1 rfl rfl ?_
  refine g_if_lt (pc := 1) (tgt := 22) dX8_keepOf_1 (by decide) (fun c_1 => ?_) (fun c_1 => ?_)
  · have k_1 := Int32.not_le.mpr c_1
    exact absurd c_1 (nI_pos (by omega))
  · have k_1 := Int32.not_lt.mp c_1
    refine g_iload_n (pc := 4) dX8_keepOf_4 1 rfl rfl ?_
    refine g_aload_n (pc := 5) dX8_keepOf_5 0 rfl rfl ?_
    refine gf_X8_25 (pc := 6) rfl dX8_keepOf_6 ?_
    refine g_alenB (pc := 9) dX8_keepOf_9 ?_
    refine g_icmp_ge (pc := 10) (tgt := 22) dX8_keepOf_10 (by decide) (fun c_10 => ?_) (fun c_10 => ?_)
    · have k_10 := Int32.not_lt.mpr c_10
      exact absurd c_10 (nI_ge (a := n) (b := 3) (by omega) (by omega))
    · have k_10 := Int32.not_le.mp c_10
      refine g_aload_n (pc := 13) dX8_keepOf_13 0 rfl rfl ?_
      refine gf_X8_25 (pc := 14) rfl dX8_keepOf_14 ?_
      refine g_iload_n (pc := 17) dX8_keepOf_17 1 rfl rfl ?_
      refine g_aald3 (pc := 18) n rfl hn dX8_keepOf_18 ?_
      refine g_goto (pc := 19) (tgt := 23) dX8_keepOf_19 (by decide) ?_
      exact g_aret (pc := 23) hM rfl (Or.inr ⟨_, rfl⟩) ⟨rfl, rfl⟩ dX8_keepOf_23
set_option maxRecDepth 100000 in
set_option maxHeartbeats 4000000 in
theorem c_X8_keepOf_0 (E : En) (S : St) (r : Int32) (hr : idxF 3 r = false) : CTe E i_X8_keepOf S [.ref (eA E 0), .int r] S (some (.null)) := by
  refine ct_of [(0, .ref (eA E 0)), (1, .int r)] (by decide +kernel) (Nat.le_of_ble_eq_true rfl) rfl (fun X hM => ?_)
  refine g_iload_n (pc := 0) dX8_keepOf_0 1 rfl rfl ?_
  refine g_if_lt (pc := 1) (tgt := 22) dX8_keepOf_1 (by decide) (fun c_1 => ?_) (fun c_1 => ?_)
  · have k_1 := Int32.not_le.mpr c_1
    refine g_null (pc := 22) dX8_keepOf_22 ?_
    exact g_aret (pc := 23) hM rfl (Or.inl rfl) ⟨rfl, rfl⟩ dX8_keepOf_23
  · have k_1 := Int32.not_lt.mp c_1
    refine g_iload_n (pc := 4) dX8_keepOf_4 1 rfl rfl ?_
    refine g_aload_n (pc := 5) dX8_keepOf_5 0 rfl rfl ?_
    refine gf_X8_25 (pc := 6) rfl dX8_keepOf_6 ?_
    refine g_alenB (pc := 9) dX8_keepOf_9 ?_
    refine g_icmp_ge (pc := 10) (tgt := 22) dX8_keepOf_10 (by decide) (fun c_10 => ?_) (fun c_10 => ?_)
    · have k_10 := Int32.not_lt.mpr c_10
      refine g_null (pc := 22) dX8_keepOf_22 ?_
      exact g_aret (pc := 23) hM rfl (Or.inl rfl) ⟨rfl, rfl⟩ dX8_keepOf_23
    · have k_10 := Int32.not_le.mp c_10
      exact absurd hr (by have h9 : ¬ nI 3 ≤ r := c_10; simp [idxF, c_1, h9])
set_option maxRecDepth 100000 in
set_option maxHeartbeats 4000000 in
theorem c_X8_refuse (E : En) (S : St) (f : Nat) (hf : f < 6) : CTe E i_X8_refuse S [.ref (eA E 0), .int (nI f)] (refS S f) (some (.int (-3))) := by
  refine ct_of [(0, .ref (eA E 0)), (1, .int (nI f))] (by decide +kernel) (Nat.le_of_ble_eq_true rfl) rfl (fun X hM => ?_)
  refine g_iload_n (pc := 0) dX8_refuse_0 1 rfl rfl ?_
  refine g_if_lt (pc := 1) (tgt := 28) dX8_refuse_1 (by decide) (fun c_1 => ?_) (fun c_1 => ?_)
  · have k_1 := Int32.not_le.mpr c_1
    exact absurd c_1 (nI_pos (by omega))
  · have k_1 := Int32.not_lt.mp c_1
    refine g_iload_n (pc := 4) dX8_refuse_4 1 rfl rfl ?_
    refine g_aload_n (pc := 5) dX8_refuse_5 0 rfl rfl ?_
    refine gf_X8_43 (pc := 6) rfl dX8_refuse_6 ?_
    refine g_alen (pc := 9) (v := 6) rfl rfl dX8_refuse_9 ?_
    refine g_icmp_ge (pc := 10) (tgt := 28) dX8_refuse_10 (by decide) (fun c_10 => ?_) (fun c_10 => ?_)
    · have k_10 := Int32.not_lt.mpr c_10
      exact absurd c_10 (nI_ge (a := f) (b := 6) (by omega) (by omega))
    · have k_10 := Int32.not_le.mp c_10
      refine g_aload_n (pc := 13) dX8_refuse_13 0 rfl rfl ?_
      refine gf_X8_43 (pc := 14) rfl dX8_refuse_14 ?_
      refine g_iload_n (pc := 17) dX8_refuse_17 1 rfl rfl ?_
      refine g_dup2 (pc := 18) dX8_refuse_18 rfl rfl ?_
      refine g_iald (pc := 19) f rfl rfl (show f < 6 from hf) (by decide) dX8_refuse_19 ?_
      refine g_iconst (pc := 20) (v := 1) dX8_refuse_20 (by decide) ?_
      refine g_iadd (pc := 21) dX8_refuse_21 ?_
      refine g_iast (pc := 22) f rfl rfl (show f < 6 from hf) (by decide) dX8_refuse_22 ?_
      refine g_aload_n (pc := 23) dX8_refuse_23 0 rfl rfl ?_
      refine g_iload_n (pc := 24) dX8_refuse_24 1 rfl rfl ?_
      refine pf_X8_47 (pc := 25) rfl dX8_refuse_25 ?_
      refine g_bipush (pc := 28) (v := -3) dX8_refuse_28 (by decide) ?_
      exact g_iret (pc := 30) hM rfl rfl ⟨rfl, rfl⟩ dX8_refuse_30
set_option maxRecDepth 100000 in
set_option maxHeartbeats 4000000 in
theorem c_X8_refusedMissing_0 (E : En) (S : St)  : CTe E i_X8_refusedMissing S [.ref (eA E 0), .null] S (some (.int (-1))) := by
  refine ct_of [(0, .ref (eA E 0)), (1, .null)] (by decide +kernel) (Nat.le_of_ble_eq_true rfl) rfl (fun X hM => ?_)
  refine g_aload_nN (pc := 0) dX8_refusedMissing_0 1 rfl rfl ?_
  refine g_ifnonnullN (pc := 1) dX8_refusedMissing_1 ?_
  refine g_iconst (pc := 4) (v := -1) dX8_refusedMissing_4 (by decide) ?_
  exact g_iret (pc := 5) hM rfl rfl ⟨rfl, rfl⟩ dX8_refusedMissing_5
set_option maxRecDepth 100000 in
set_option maxHeartbeats 4000000 in
theorem c_X8_refusedMissing_m (E : En) (S : St) (k : Nat) (hk : kd k = 3) (h : misF S k = true) : CTe E i_X8_refusedMissing S [.ref (eA E 0), .ref (eA E k)] (refS S 1) (some (.int (-3))) := by
  refine ct_of [(0, .ref (eA E 0)), (1, .ref (eA E k))] (by decide +kernel) (Nat.le_of_ble_eq_true rfl) rfl (fun X hM => ?_)
  refine g_aload_n (pc := 0) dX8_refusedMissing_0 1 rfl rfl ?_
  refine g_ifnonnull (pc := 1) (tgt := 6) dX8_refusedMissing_1 (by decide) ?_
  refine g_aload_n (pc := 6) dX8_refusedMissing_6 1 rfl rfl ?_
  refine g_invV (pc := 7) j_X5_isMissing mw_X8_94 dX8_refusedMissing_7 (rcv_X5 (by assumption)) (by rfl) (c_X5_isMissing E S k (by assumption)) (Nat.le_of_ble_eq_true rfl) (Nat.le_of_ble_eq_true rfl) (by rfl) (Nat.le_of_ble_eq_true rfl) ?_
  refine g_b_eq (pc := 10) (tgt := 21) dX8_refusedMissing_10 (by decide) (fun c_10 => ?_) (fun c_10 => ?_)
  · exact absurd (h.symm.trans c_10) (by decide)
  · refine g_aload_n (pc := 13) dX8_refusedMissing_13 0 rfl rfl ?_
    refine g_iconst (pc := 14) (v := 1) dX8_refusedMissing_14 (by decide) ?_
    refine g_invV (pc := 15) j_X8_refuse mw_X8_91 dX8_refusedMissing_15 (rcv_X8) (by rfl) (c_X8_refuse E S 1 (by first | assumption | omega | rfl)) (Nat.le_of_ble_eq_true rfl) (Nat.le_of_ble_eq_true rfl) (by rfl) (Nat.le_of_ble_eq_true rfl) ?_
    refine g_goto (pc := 18) (tgt := 22) dX8_refusedMissing_18 (by decide) ?_
    exact g_iret (pc := 22) hM rfl rfl ⟨rfl, rfl⟩ dX8_refusedMissing_22
set_option maxRecDepth 100000 in
set_option maxHeartbeats 4000000 in
theorem c_X8_refusedMissing_ok (E : En) (S : St) (k : Nat) (hk : kd k = 3) (h : misF S k = false) : CTe E i_X8_refusedMissing S [.ref (eA E 0), .ref (eA E k)] S (some (.int 0)) := by
  refine ct_of [(0, .ref (eA E 0)), (1, .ref (eA E k))] (by decide +kernel) (Nat.le_of_ble_eq_true rfl) rfl (fun X hM => ?_)
  refine g_aload_n (pc := 0) dX8_refusedMissing_0 1 rfl rfl ?_
  refine g_ifnonnull (pc := 1) (tgt := 6) dX8_refusedMissing_1 (by decide) ?_
  refine g_aload_n (pc := 6) dX8_refusedMissing_6 1 rfl rfl ?_
  refine g_invV (pc := 7) j_X5_isMissing mw_X8_94 dX8_refusedMissing_7 (rcv_X5 (by assumption)) (by rfl) (c_X5_isMissing E S k (by assumption)) (Nat.le_of_ble_eq_true rfl) (Nat.le_of_ble_eq_true rfl) (by rfl) (Nat.le_of_ble_eq_true rfl) ?_
  refine g_b_eq (pc := 10) (tgt := 21) dX8_refusedMissing_10 (by decide) (fun c_10 => ?_) (fun c_10 => ?_)
  · refine g_iconst (pc := 21) (v := 0) dX8_refusedMissing_21 (by decide) ?_
    exact g_iret (pc := 22) hM rfl rfl ⟨rfl, rfl⟩ dX8_refusedMissing_22
  · exact absurd (h.symm.trans c_10) (by decide)
set_option maxRecDepth 100000 in
set_option maxHeartbeats 4000000 in
theorem c_X8_refusedAt_0 (E : En) (S : St) (i : Int32) : CTe E i_X8_refusedAt S [.ref (eA E 0), .null, .int i] S (some (.int (-1))) := by
  refine ct_of [(0, .ref (eA E 0)), (1, .null), (2, .int i)] (by decide +kernel) (Nat.le_of_ble_eq_true rfl) rfl (fun X hM => ?_)
  refine g_aload_n (pc := 0) dX8_refusedAt_0 0 rfl rfl ?_
  refine g_aload_nN (pc := 1) dX8_refusedAt_1 1 rfl rfl ?_
  refine g_invV (pc := 2) j_X8_refusedMissing mw_X8_84 dX8_refusedAt_2 (rcv_X8) (by rfl) (c_X8_refusedMissing_0 E S ) (Nat.le_of_ble_eq_true rfl) (Nat.le_of_ble_eq_true rfl) (by rfl) (Nat.le_of_ble_eq_true rfl) ?_
  refine g_istore_n (pc := 5) (L' := [(3, .int (-1)), (0, .ref (eA E 0)), (1, .null), (2, .int i)]) dX8_refusedAt_5 rfl (Nat.le_of_ble_eq_true rfl) rfl ?_
  refine g_aload_nN (pc := 6) dX8_refusedAt_6 2 rfl rfl ?_
  refine g_ifnullN (pc := 7) (tgt := 14) dX8_refusedAt_7 (by decide) ?_
  refine g_iload_n (pc := 14) dX8_refusedAt_14 0 rfl rfl ?_
  exact g_iret (pc := 15) hM rfl rfl ⟨rfl, rfl⟩ dX8_refusedAt_15
set_option maxRecDepth 100000 in
set_option maxHeartbeats 4000000 in
theorem c_X8_refusedAt_m (E : En) (S : St) (k : Nat) (i : Int32) (hk : kd k = 3) (h : misF S k = true) : CTe E i_X8_refusedAt S [.ref (eA E 0), .ref (eA E k), .int i] (refS S 1) (some (.int (-3))) := by
  refine ct_of [(0, .ref (eA E 0)), (1, .ref (eA E k)), (2, .int i)] (by decide +kernel) (Nat.le_of_ble_eq_true rfl) rfl (fun X hM => ?_)
  refine g_aload_n (pc := 0) dX8_refusedAt_0 0 rfl rfl ?_
  refine g_aload_n (pc := 1) dX8_refusedAt_1 1 rfl rfl ?_
  refine g_invV (pc := 2) j_X8_refusedMissing mw_X8_84 dX8_refusedAt_2 (rcv_X8) (by rfl) (c_X8_refusedMissing_m E S k (by assumption) (by first | assumption | omega | rfl)) (Nat.le_of_ble_eq_true rfl) (Nat.le_of_ble_eq_true rfl) (by rfl) (Nat.le_of_ble_eq_true rfl) ?_
  refine g_istore_n (pc := 5) (L' := [(3, .int (-3)), (0, .ref (eA E 0)), (1, .ref (eA E k)), (2, .int i)]) dX8_refusedAt_5 rfl (Nat.le_of_ble_eq_true rfl) rfl ?_
  refine g_aload_n (pc := 6) dX8_refusedAt_6 2 rfl rfl ?_
  refine g_ifnull (pc := 7) dX8_refusedAt_7 ?_
  refine g_iload_n (pc := 10) dX8_refusedAt_10 0 rfl rfl ?_
  refine g_if_eq (pc := 11) (tgt := 16) dX8_refusedAt_11 (by decide) (fun c_11 => ?_) (fun c_11 => ?_)
  · exact absurd c_11 (by decide)
  · refine g_iload_n (pc := 14) dX8_refusedAt_14 0 rfl rfl ?_
    exact g_iret (pc := 15) hM rfl rfl ⟨rfl, rfl⟩ dX8_refusedAt_15
set_option maxRecDepth 100000 in
set_option maxHeartbeats 4000000 in
theorem c_X8_refusedAt_b (E : En) (S : St) (k : Nat) (i : Int32) (hk : kd k = 3) (h : misF S k = false) (h2 : holdsF S k i = false) : CTe E i_X8_refusedAt S [.ref (eA E 0), .ref (eA E k), .int i] (refS S 2) (some (.int (-3))) := by
  refine ct_of [(0, .ref (eA E 0)), (1, .ref (eA E k)), (2, .int i)] (by decide +kernel) (Nat.le_of_ble_eq_true rfl) rfl (fun X hM => ?_)
  refine g_aload_n (pc := 0) dX8_refusedAt_0 0 rfl rfl ?_
  refine g_aload_n (pc := 1) dX8_refusedAt_1 1 rfl rfl ?_
  refine g_invV (pc := 2) j_X8_refusedMissing mw_X8_84 dX8_refusedAt_2 (rcv_X8) (by rfl) (c_X8_refusedMissing_ok E S k (by assumption) (by first | assumption | omega | rfl)) (Nat.le_of_ble_eq_true rfl) (Nat.le_of_ble_eq_true rfl) (by rfl) (Nat.le_of_ble_eq_true rfl) ?_
  refine g_istore_n (pc := 5) (L' := [(3, .int 0), (0, .ref (eA E 0)), (1, .ref (eA E k)), (2, .int i)]) dX8_refusedAt_5 rfl (Nat.le_of_ble_eq_true rfl) rfl ?_
  refine g_aload_n (pc := 6) dX8_refusedAt_6 2 rfl rfl ?_
  refine g_ifnull (pc := 7) dX8_refusedAt_7 ?_
  refine g_iload_n (pc := 10) dX8_refusedAt_10 0 rfl rfl ?_
  refine g_if_eq (pc := 11) (tgt := 16) dX8_refusedAt_11 (by decide) (fun c_11 => ?_) (fun c_11 => ?_)
  · refine g_aload_n (pc := 16) dX8_refusedAt_16 2 rfl rfl ?_
    refine g_iload_n (pc := 17) dX8_refusedAt_17 3 rfl rfl ?_
    refine g_invV (pc := 18) j_X5_holds mw_X8_330 dX8_refusedAt_18 (rcv_X5 (by assumption)) (by rfl) (c_X5_holds E S k i (by assumption)) (Nat.le_of_ble_eq_true rfl) (Nat.le_of_ble_eq_true rfl) (by rfl) (Nat.le_of_ble_eq_true rfl) ?_
    refine g_b_eq (pc := 21) (tgt := 28) dX8_refusedAt_21 (by decide) (fun c_21 => ?_) (fun c_21 => ?_)
    · refine g_aload_n (pc := 28) dX8_refusedAt_28 1 rfl rfl ?_
      refine g_iconst (pc := 29) (v := 2) dX8_refusedAt_29 (by decide) ?_
      refine g_invV (pc := 30) j_X8_refuse mw_X8_91 dX8_refusedAt_30 (rcv_X8) (by rfl) (c_X8_refuse E S 2 (by first | assumption | omega | rfl)) (Nat.le_of_ble_eq_true rfl) (Nat.le_of_ble_eq_true rfl) (by rfl) (Nat.le_of_ble_eq_true rfl) ?_
      exact g_iret (pc := 33) hM rfl rfl ⟨rfl, rfl⟩ dX8_refusedAt_33
    · exact absurd (h2.symm.trans c_21) (by decide)
  · exact absurd c_11 (by decide)
set_option maxRecDepth 100000 in
set_option maxHeartbeats 4000000 in
theorem c_X8_refusedAt_ok (E : En) (S : St) (k : Nat) (i : Int32) (hk : kd k = 3) (h : misF S k = false) (h2 : holdsF S k i = true) : CTe E i_X8_refusedAt S [.ref (eA E 0), .ref (eA E k), .int i] S (some (.int 0)) := by
  refine ct_of [(0, .ref (eA E 0)), (1, .ref (eA E k)), (2, .int i)] (by decide +kernel) (Nat.le_of_ble_eq_true rfl) rfl (fun X hM => ?_)
  refine g_aload_n (pc := 0) dX8_refusedAt_0 0 rfl rfl ?_
  refine g_aload_n (pc := 1) dX8_refusedAt_1 1 rfl rfl ?_
  refine g_invV (pc := 2) j_X8_refusedMissing mw_X8_84 dX8_refusedAt_2 (rcv_X8) (by rfl) (c_X8_refusedMissing_ok E S k (by assumption) (by first | assumption | omega | rfl)) (Nat.le_of_ble_eq_true rfl) (Nat.le_of_ble_eq_true rfl) (by rfl) (Nat.le_of_ble_eq_true rfl) ?_
  refine g_istore_n (pc := 5) (L' := [(3, .int 0), (0, .ref (eA E 0)), (1, .ref (eA E k)), (2, .int i)]) dX8_refusedAt_5 rfl (Nat.le_of_ble_eq_true rfl) rfl ?_
  refine g_aload_n (pc := 6) dX8_refusedAt_6 2 rfl rfl ?_
  refine g_ifnull (pc := 7) dX8_refusedAt_7 ?_
  refine g_iload_n (pc := 10) dX8_refusedAt_10 0 rfl rfl ?_
  refine g_if_eq (pc := 11) (tgt := 16) dX8_refusedAt_11 (by decide) (fun c_11 => ?_) (fun c_11 => ?_)
  · refine g_aload_n (pc := 16) dX8_refusedAt_16 2 rfl rfl ?_
    refine g_iload_n (pc := 17) dX8_refusedAt_17 3 rfl rfl ?_
    refine g_invV (pc := 18) j_X5_holds mw_X8_330 dX8_refusedAt_18 (rcv_X5 (by assumption)) (by rfl) (c_X5_holds E S k i (by assumption)) (Nat.le_of_ble_eq_true rfl) (Nat.le_of_ble_eq_true rfl) (by rfl) (Nat.le_of_ble_eq_true rfl) ?_
    refine g_b_eq (pc := 21) (tgt := 28) dX8_refusedAt_21 (by decide) (fun c_21 => ?_) (fun c_21 => ?_)
    · exact absurd (h2.symm.trans c_21) (by decide)
    · refine g_iconst (pc := 24) (v := 0) dX8_refusedAt_24 (by decide) ?_
      refine g_goto (pc := 25) (tgt := 33) dX8_refusedAt_25 (by decide) ?_
      exact g_iret (pc := 33) hM rfl rfl ⟨rfl, rfl⟩ dX8_refusedAt_33
  · exact absurd c_11 (by decide)
set_option maxRecDepth 100000 in
set_option maxHeartbeats 4000000 in
theorem c_X8_makeAnew_0 (E : En) (S : St) (n v : Int32) : CTe E i_X8_makeAnew S [.ref (eA E 0), .null, .int n, .int v] S (some (.int (-1))) := by
  refine ct_of [(0, .ref (eA E 0)), (1, .null), (2, .int n), (3, .int v)] (by decide +kernel) (Nat.le_of_ble_eq_true rfl) rfl (fun X hM => ?_)
  refine g_aload_nN (pc := 0) dX8_makeAnew_0 1 rfl rfl ?_
  refine g_ifnullN (pc := 1) (tgt := 12) dX8_makeAnew_1 (by decide) ?_
  refine g_iconst (pc := 12) (v := -1) dX8_makeAnew_12 (by decide) ?_
  exact g_iret (pc := 13) hM rfl rfl ⟨rfl, rfl⟩ dX8_makeAnew_13
set_option maxRecDepth 100000 in
set_option maxHeartbeats 4000000 in
theorem c_X8_makeAnew_big (E : En) (S : St) (k : Nat) (n v : Int32) (hk : kd k = 3) (h : nI (ln (k + 10)) < n) : CTe E i_X8_makeAnew S [.ref (eA E 0), .ref (eA E k), .int n, .int v] S (some (.int (-1))) := by
  refine ct_of [(0, .ref (eA E 0)), (1, .ref (eA E k)), (2, .int n), (3, .int v)] (by decide +kernel) (Nat.le_of_ble_eq_true rfl) rfl (fun X hM => ?_)
  refine g_aload_n (pc := 0) dX8_makeAnew_0 1 rfl rfl ?_
  refine g_ifnull (pc := 1) dX8_makeAnew_1 ?_
  refine g_iload_n (pc := 4) dX8_makeAnew_4 2 rfl rfl ?_
  refine g_aload_n (pc := 5) dX8_makeAnew_5 1 rfl rfl ?_
  refine g_invV (pc := 6) j_X5_room mw_X8_336 dX8_makeAnew_6 (rcv_X5 (by assumption)) (by rfl) (c_X5_room E S k (by assumption)) (Nat.le_of_ble_eq_true rfl) (Nat.le_of_ble_eq_true rfl) (by rfl) (Nat.le_of_ble_eq_true rfl) ?_
  refine g_icmp_le (pc := 9) (tgt := 14) dX8_makeAnew_9 (by decide) (fun c_9 => ?_) (fun c_9 => ?_)
  · have k_9 := Int32.not_lt.mpr c_9
    exact absurd h (Int32.not_lt.mpr c_9)
  · have k_9 := Int32.not_le.mp c_9
    refine g_iconst (pc := 12) (v := -1) dX8_makeAnew_12 (by decide) ?_
    exact g_iret (pc := 13) hM rfl rfl ⟨rfl, rfl⟩ dX8_makeAnew_13
set_option maxRecDepth 100000 in
set_option maxHeartbeats 4000000 in
theorem c_X8_makeAnew_neg (E : En) (S : St) (k : Nat) (n v : Int32) (hk : kd k = 3) (h : n < 0) : CTe E i_X8_makeAnew S [.ref (eA E 0), .ref (eA E k), .int n, .int v] (refS S 5) (some (.int (-3))) := by
  refine ct_of [(0, .ref (eA E 0)), (1, .ref (eA E k)), (2, .int n), (3, .int v)] (by decide +kernel) (Nat.le_of_ble_eq_true rfl) rfl (fun X hM => ?_)
  refine g_aload_n (pc := 0) dX8_makeAnew_0 1 rfl rfl ?_
  refine g_ifnull (pc := 1) dX8_makeAnew_1 ?_
  refine g_iload_n (pc := 4) dX8_makeAnew_4 2 rfl rfl ?_
  refine g_aload_n (pc := 5) dX8_makeAnew_5 1 rfl rfl ?_
  refine g_invV (pc := 6) j_X5_room mw_X8_336 dX8_makeAnew_6 (rcv_X5 (by assumption)) (by rfl) (c_X5_room E S k (by assumption)) (Nat.le_of_ble_eq_true rfl) (Nat.le_of_ble_eq_true rfl) (by rfl) (Nat.le_of_ble_eq_true rfl) ?_
  refine g_icmp_le (pc := 9) (tgt := 14) dX8_makeAnew_9 (by decide) (fun c_9 => ?_) (fun c_9 => ?_)
  · have k_9 := Int32.not_lt.mpr c_9
    refine g_iload_n (pc := 14) dX8_makeAnew_14 2 rfl rfl ?_
    refine g_if_ge (pc := 15) (tgt := 24) dX8_makeAnew_15 (by decide) (fun c_15 => ?_) (fun c_15 => ?_)
    · have k_15 := Int32.not_lt.mpr c_15
      exact absurd h (Int32.not_lt.mpr c_15)
    · have k_15 := Int32.not_le.mp c_15
      refine g_aload_n (pc := 18) dX8_makeAnew_18 0 rfl rfl ?_
      refine g_iconst (pc := 19) (v := 5) dX8_makeAnew_19 (by decide) ?_
      refine g_invV (pc := 20) j_X8_refuse mw_X8_91 dX8_makeAnew_20 (rcv_X8) (by rfl) (c_X8_refuse E S 5 (by first | assumption | omega | rfl)) (Nat.le_of_ble_eq_true rfl) (Nat.le_of_ble_eq_true rfl) (by rfl) (Nat.le_of_ble_eq_true rfl) ?_
      exact g_iret (pc := 23) hM rfl rfl ⟨rfl, rfl⟩ dX8_makeAnew_23
  · have k_9 := Int32.not_le.mp c_9
    exact absurd (Int32.le_of_lt (Int32.lt_of_lt_of_le h (nI_pos' (n := ln (k + 10)) (by have := ln_c hk; omega)))) c_9
set_option maxRecDepth 100000 in
set_option maxHeartbeats 4000000 in
theorem c_X8_makeAnew_ok (E : En) (S : St) (k m : Nat) (v : Int32) (hk : kd k = 3) (hm : m ≤ ln (k + 10)) : CTe E i_X8_makeAnew S [.ref (eA E 0), .ref (eA E k), .int (nI m), .int v] (sA (sI S k 1 (nI m)) (k + 10) (fillF (gA S (k + 10)) v m)) (some (.int (nI m))) := by
  refine ct_of [(0, .ref (eA E 0)), (1, .ref (eA E k)), (2, .int (nI m)), (3, .int v)] (by decide +kernel) (Nat.le_of_ble_eq_true rfl) rfl (fun X hM => ?_)
  refine g_aload_n (pc := 0) dX8_makeAnew_0 1 rfl rfl ?_
  refine g_ifnull (pc := 1) dX8_makeAnew_1 ?_
  refine g_iload_n (pc := 4) dX8_makeAnew_4 2 rfl rfl ?_
  refine g_aload_n (pc := 5) dX8_makeAnew_5 1 rfl rfl ?_
  refine g_invV (pc := 6) j_X5_room mw_X8_336 dX8_makeAnew_6 (rcv_X5 (by assumption)) (by rfl) (c_X5_room E S k (by assumption)) (Nat.le_of_ble_eq_true rfl) (Nat.le_of_ble_eq_true rfl) (by rfl) (Nat.le_of_ble_eq_true rfl) ?_
  refine g_icmp_le (pc := 9) (tgt := 14) dX8_makeAnew_9 (by decide) (fun c_9 => ?_) (fun c_9 => ?_)
  · have k_9 := Int32.not_lt.mpr c_9
    refine g_iload_n (pc := 14) dX8_makeAnew_14 2 rfl rfl ?_
    refine g_if_ge (pc := 15) (tgt := 24) dX8_makeAnew_15 (by decide) (fun c_15 => ?_) (fun c_15 => ?_)
    · have k_15 := Int32.not_lt.mpr c_15
      refine g_aload_n (pc := 24) dX8_makeAnew_24 1 rfl rfl ?_
      refine g_iload_n (pc := 25) dX8_makeAnew_25 2 rfl rfl ?_
      refine g_iload_n (pc := 26) dX8_makeAnew_26 3 rfl rfl ?_
      refine g_invN (pc := 27) j_X5_renew mw_X8_339 dX8_makeAnew_27 (rcv_X5 (by assumption)) (by rfl) (c_X5_renew E S k m v (by assumption) (by first | assumption | omega | rfl)) (Nat.le_of_ble_eq_true rfl) (Nat.le_of_ble_eq_true rfl) (by rfl) (Nat.le_of_ble_eq_true rfl) ?_
      refine g_iload_n (pc := 30) dX8_makeAnew_30 2 rfl rfl ?_
      exact g_iret (pc := 31) hM rfl rfl ⟨rfl, rfl⟩ dX8_makeAnew_31
    · have k_15 := Int32.not_le.mp c_15
      exact absurd (nI_pos' (by have := ln_c hk; omega)) c_15
  · have k_9 := Int32.not_le.mp c_9
    exact absurd (nI_le hm (by have := ln_c hk; omega)) c_9
set_option maxRecDepth 100000 in
set_option maxHeartbeats 4000000 in
theorem c_X8_row_bad (E : En) (S : St) (r n : Int32) (hr : idxF 6 r = false) : CTe E i_X8_row S [.ref (eA E 0), .int r, .int n] S (some (.int (-1))) := by
  refine ct_of [(0, .ref (eA E 0)), (1, .int r), (2, .int n)] (by decide +kernel) (Nat.le_of_ble_eq_true rfl) rfl (fun X hM => ?_)
  refine g_aload_n (pc := 0) dX8_row_0 0 rfl rfl ?_
  refine g_aload_n (pc := 1) dX8_row_1 0 rfl rfl ?_
  refine g_iload_n (pc := 2) dX8_row_2 1 rfl rfl ?_
  refine g_invV (pc := 3) j_X8_rowOf mw_X8_64 dX8_row_3 (rcv_X8) (by rfl) (c_X8_rowOf_0 E S r (by first | assumption | omega | rfl)) (Nat.le_of_ble_eq_true rfl) (Nat.le_of_ble_eq_true rfl) (by rfl) (Nat.le_of_ble_eq_true rfl) ?_
  refine g_iload_n (pc := 6) dX8_row_6 2 rfl rfl ?_
  refine g_iconst (pc := 7) (v := 0) dX8_row_7 (by decide) ?_
  refine g_invV (pc := 8) j_X8_makeAnew mw_X8_68 dX8_row_8 (rcv_X8) (by rfl) (c_X8_makeAnew_0 E S n 0 ) (Nat.le_of_ble_eq_true rfl) (Nat.le_of_ble_eq_true rfl) (by rfl) (Nat.le_of_ble_eq_true rfl) ?_
  exact g_iret (pc := 11) hM rfl rfl ⟨rfl, rfl⟩ dX8_row_11
set_option maxRecDepth 100000 in
set_option maxHeartbeats 4000000 in
theorem c_X8_row_big (E : En) (S : St) (n : Nat) (x : Int32) (hn : n < 6) (h : nI 40 < x) : CTe E i_X8_row S [.ref (eA E 0), .int (nI n), .int x] S (some (.int (-1))) := by
  refine ct_of [(0, .ref (eA E 0)), (1, .int (nI n)), (2, .int x)] (by decide +kernel) (Nat.le_of_ble_eq_true rfl) rfl (fun X hM => ?_)
  refine g_aload_n (pc := 0) dX8_row_0 0 rfl rfl ?_
  refine g_aload_n (pc := 1) dX8_row_1 0 rfl rfl ?_
  refine g_iload_n (pc := 2) dX8_row_2 1 rfl rfl ?_
  refine g_invV (pc := 3) j_X8_rowOf mw_X8_64 dX8_row_3 (rcv_X8) (by rfl) (c_X8_rowOf_n E S n (by first | assumption | omega | rfl)) (Nat.le_of_ble_eq_true rfl) (Nat.le_of_ble_eq_true rfl) (by rfl) (Nat.le_of_ble_eq_true rfl) ?_
  refine g_iload_n (pc := 6) dX8_row_6 2 rfl rfl ?_
  refine g_iconst (pc := 7) (v := 0) dX8_row_7 (by decide) ?_
  refine g_invV (pc := 8) j_X8_makeAnew mw_X8_68 dX8_row_8 (rcv_X8) (by rfl) (c_X8_makeAnew_big E S (10 + n) x 0 (kd_r (by omega)) (by rw [ln_r hn]; exact h)) (Nat.le_of_ble_eq_true rfl) (Nat.le_of_ble_eq_true rfl) (by rfl) (Nat.le_of_ble_eq_true rfl) ?_
  exact g_iret (pc := 11) hM rfl rfl ⟨rfl, rfl⟩ dX8_row_11
set_option maxRecDepth 100000 in
set_option maxHeartbeats 4000000 in
theorem c_X8_row_neg (E : En) (S : St) (n : Nat) (x : Int32) (hn : n < 6) (h : x < 0) : CTe E i_X8_row S [.ref (eA E 0), .int (nI n), .int x] (refS S 5) (some (.int (-3))) := by
  refine ct_of [(0, .ref (eA E 0)), (1, .int (nI n)), (2, .int x)] (by decide +kernel) (Nat.le_of_ble_eq_true rfl) rfl (fun X hM => ?_)
  refine g_aload_n (pc := 0) dX8_row_0 0 rfl rfl ?_
  refine g_aload_n (pc := 1) dX8_row_1 0 rfl rfl ?_
  refine g_iload_n (pc := 2) dX8_row_2 1 rfl rfl ?_
  refine g_invV (pc := 3) j_X8_rowOf mw_X8_64 dX8_row_3 (rcv_X8) (by rfl) (c_X8_rowOf_n E S n (by first | assumption | omega | rfl)) (Nat.le_of_ble_eq_true rfl) (Nat.le_of_ble_eq_true rfl) (by rfl) (Nat.le_of_ble_eq_true rfl) ?_
  refine g_iload_n (pc := 6) dX8_row_6 2 rfl rfl ?_
  refine g_iconst (pc := 7) (v := 0) dX8_row_7 (by decide) ?_
  refine g_invV (pc := 8) j_X8_makeAnew mw_X8_68 dX8_row_8 (rcv_X8) (by rfl) (c_X8_makeAnew_neg E S (10 + n) x 0 (kd_r (by omega)) (by first | assumption | omega | rfl)) (Nat.le_of_ble_eq_true rfl) (Nat.le_of_ble_eq_true rfl) (by rfl) (Nat.le_of_ble_eq_true rfl) ?_
  exact g_iret (pc := 11) hM rfl rfl ⟨rfl, rfl⟩ dX8_row_11
set_option maxRecDepth 100000 in
set_option maxHeartbeats 4000000 in
theorem c_X8_row_ok (E : En) (S : St) (n m : Nat) (hn : n < 6) (hm : m ≤ 40) : CTe E i_X8_row S [.ref (eA E 0), .int (nI n), .int (nI m)] (sA (sI S (10 + n) 1 (nI m)) (10 + n + 10) (fillF (gA S (10 + n + 10)) 0 m)) (some (.int (nI m))) := by
  refine ct_of [(0, .ref (eA E 0)), (1, .int (nI n)), (2, .int (nI m))] (by decide +kernel) (Nat.le_of_ble_eq_true rfl) rfl (fun X hM => ?_)
  refine g_aload_n (pc := 0) dX8_row_0 0 rfl rfl ?_
  refine g_aload_n (pc := 1) dX8_row_1 0 rfl rfl ?_
  refine g_iload_n (pc := 2) dX8_row_2 1 rfl rfl ?_
  refine g_invV (pc := 3) j_X8_rowOf mw_X8_64 dX8_row_3 (rcv_X8) (by rfl) (c_X8_rowOf_n E S n (by first | assumption | omega | rfl)) (Nat.le_of_ble_eq_true rfl) (Nat.le_of_ble_eq_true rfl) (by rfl) (Nat.le_of_ble_eq_true rfl) ?_
  refine g_iload_n (pc := 6) dX8_row_6 2 rfl rfl ?_
  refine g_iconst (pc := 7) (v := 0) dX8_row_7 (by decide) ?_
  refine g_invV (pc := 8) j_X8_makeAnew mw_X8_68 dX8_row_8 (rcv_X8) (by rfl) (c_X8_makeAnew_ok E S (10 + n) m 0 (kd_r (by omega)) (by rw [ln_r hn]; exact hm)) (Nat.le_of_ble_eq_true rfl) (Nat.le_of_ble_eq_true rfl) (by rfl) (Nat.le_of_ble_eq_true rfl) ?_
  exact g_iret (pc := 11) hM rfl rfl ⟨rfl, rfl⟩ dX8_row_11
set_option maxRecDepth 100000 in
set_option maxHeartbeats 4000000 in
theorem c_X8_text_bad (E : En) (S : St) (r n : Int32) (hr : idxF 4 r = false) : CTe E i_X8_text S [.ref (eA E 0), .int r, .int n] S (some (.int (-1))) := by
  refine ct_of [(0, .ref (eA E 0)), (1, .int r), (2, .int n)] (by decide +kernel) (Nat.le_of_ble_eq_true rfl) rfl (fun X hM => ?_)
  refine g_aload_n (pc := 0) dX8_text_0 0 rfl rfl ?_
  refine g_aload_n (pc := 1) dX8_text_1 0 rfl rfl ?_
  refine g_iload_n (pc := 2) dX8_text_2 1 rfl rfl ?_
  refine g_invV (pc := 3) j_X8_textOf mw_X8_114 dX8_text_3 (rcv_X8) (by rfl) (c_X8_textOf_0 E S r (by first | assumption | omega | rfl)) (Nat.le_of_ble_eq_true rfl) (Nat.le_of_ble_eq_true rfl) (by rfl) (Nat.le_of_ble_eq_true rfl) ?_
  refine g_iload_n (pc := 6) dX8_text_6 2 rfl rfl ?_
  refine g_bipush (pc := 7) (v := 32) dX8_text_7 (by decide) ?_
  refine g_invV (pc := 9) j_X8_makeAnew mw_X8_68 dX8_text_9 (rcv_X8) (by rfl) (c_X8_makeAnew_0 E S n 32 ) (Nat.le_of_ble_eq_true rfl) (Nat.le_of_ble_eq_true rfl) (by rfl) (Nat.le_of_ble_eq_true rfl) ?_
  exact g_iret (pc := 12) hM rfl rfl ⟨rfl, rfl⟩ dX8_text_12
set_option maxRecDepth 100000 in
set_option maxHeartbeats 4000000 in
theorem c_X8_text_big (E : En) (S : St) (n : Nat) (x : Int32) (hn : n < 4) (h : nI 60 < x) : CTe E i_X8_text S [.ref (eA E 0), .int (nI n), .int x] S (some (.int (-1))) := by
  refine ct_of [(0, .ref (eA E 0)), (1, .int (nI n)), (2, .int x)] (by decide +kernel) (Nat.le_of_ble_eq_true rfl) rfl (fun X hM => ?_)
  refine g_aload_n (pc := 0) dX8_text_0 0 rfl rfl ?_
  refine g_aload_n (pc := 1) dX8_text_1 0 rfl rfl ?_
  refine g_iload_n (pc := 2) dX8_text_2 1 rfl rfl ?_
  refine g_invV (pc := 3) j_X8_textOf mw_X8_114 dX8_text_3 (rcv_X8) (by rfl) (c_X8_textOf_n E S n (by first | assumption | omega | rfl)) (Nat.le_of_ble_eq_true rfl) (Nat.le_of_ble_eq_true rfl) (by rfl) (Nat.le_of_ble_eq_true rfl) ?_
  refine g_iload_n (pc := 6) dX8_text_6 2 rfl rfl ?_
  refine g_bipush (pc := 7) (v := 32) dX8_text_7 (by decide) ?_
  refine g_invV (pc := 9) j_X8_makeAnew mw_X8_68 dX8_text_9 (rcv_X8) (by rfl) (c_X8_makeAnew_big E S (16 + n) x 32 (kd_k (by omega)) (by rw [ln_t hn]; exact h)) (Nat.le_of_ble_eq_true rfl) (Nat.le_of_ble_eq_true rfl) (by rfl) (Nat.le_of_ble_eq_true rfl) ?_
  exact g_iret (pc := 12) hM rfl rfl ⟨rfl, rfl⟩ dX8_text_12
set_option maxRecDepth 100000 in
set_option maxHeartbeats 4000000 in
theorem c_X8_text_neg (E : En) (S : St) (n : Nat) (x : Int32) (hn : n < 4) (h : x < 0) : CTe E i_X8_text S [.ref (eA E 0), .int (nI n), .int x] (refS S 5) (some (.int (-3))) := by
  refine ct_of [(0, .ref (eA E 0)), (1, .int (nI n)), (2, .int x)] (by decide +kernel) (Nat.le_of_ble_eq_true rfl) rfl (fun X hM => ?_)
  refine g_aload_n (pc := 0) dX8_text_0 0 rfl rfl ?_
  refine g_aload_n (pc := 1) dX8_text_1 0 rfl rfl ?_
  refine g_iload_n (pc := 2) dX8_text_2 1 rfl rfl ?_
  refine g_invV (pc := 3) j_X8_textOf mw_X8_114 dX8_text_3 (rcv_X8) (by rfl) (c_X8_textOf_n E S n (by first | assumption | omega | rfl)) (Nat.le_of_ble_eq_true rfl) (Nat.le_of_ble_eq_true rfl) (by rfl) (Nat.le_of_ble_eq_true rfl) ?_
  refine g_iload_n (pc := 6) dX8_text_6 2 rfl rfl ?_
  refine g_bipush (pc := 7) (v := 32) dX8_text_7 (by decide) ?_
  refine g_invV (pc := 9) j_X8_makeAnew mw_X8_68 dX8_text_9 (rcv_X8) (by rfl) (c_X8_makeAnew_neg E S (16 + n) x 32 (kd_k (by omega)) (by first | assumption | omega | rfl)) (Nat.le_of_ble_eq_true rfl) (Nat.le_of_ble_eq_true rfl) (by rfl) (Nat.le_of_ble_eq_true rfl) ?_
  exact g_iret (pc := 12) hM rfl rfl ⟨rfl, rfl⟩ dX8_text_12
set_option maxRecDepth 100000 in
set_option maxHeartbeats 4000000 in
theorem c_X8_text_ok (E : En) (S : St) (n m : Nat) (hn : n < 4) (hm : m ≤ 60) : CTe E i_X8_text S [.ref (eA E 0), .int (nI n), .int (nI m)] (sA (sI S (16 + n) 1 (nI m)) (16 + n + 10) (fillF (gA S (16 + n + 10)) 32 m)) (some (.int (nI m))) := by
  refine ct_of [(0, .ref (eA E 0)), (1, .int (nI n)), (2, .int (nI m))] (by decide +kernel) (Nat.le_of_ble_eq_true rfl) rfl (fun X hM => ?_)
  refine g_aload_n (pc := 0) dX8_text_0 0 rfl rfl ?_
  refine g_aload_n (pc := 1) dX8_text_1 0 rfl rfl ?_
  refine g_iload_n (pc := 2) dX8_text_2 1 rfl rfl ?_
  refine g_invV (pc := 3) j_X8_textOf mw_X8_114 dX8_text_3 (rcv_X8) (by rfl) (c_X8_textOf_n E S n (by first | assumption | omega | rfl)) (Nat.le_of_ble_eq_true rfl) (Nat.le_of_ble_eq_true rfl) (by rfl) (Nat.le_of_ble_eq_true rfl) ?_
  refine g_iload_n (pc := 6) dX8_text_6 2 rfl rfl ?_
  refine g_bipush (pc := 7) (v := 32) dX8_text_7 (by decide) ?_
  refine g_invV (pc := 9) j_X8_makeAnew mw_X8_68 dX8_text_9 (rcv_X8) (by rfl) (c_X8_makeAnew_ok E S (16 + n) m 32 (kd_k (by omega)) (by rw [ln_t hn]; exact hm)) (Nat.le_of_ble_eq_true rfl) (Nat.le_of_ble_eq_true rfl) (by rfl) (Nat.le_of_ble_eq_true rfl) ?_
  exact g_iret (pc := 12) hM rfl rfl ⟨rfl, rfl⟩ dX8_text_12
set_option maxRecDepth 100000 in
set_option maxHeartbeats 4000000 in
theorem c_X8_lay_bad (E : En) (S : St) (r i : Int32) (v : Int32) (hr : idxF 6 r = false) : CTe E i_X8_lay S [.ref (eA E 0), .int r, .int i, .int v] S (some (.int (-1))) := by
  refine ct_of [(0, .ref (eA E 0)), (1, .int r), (2, .int i), (3, .int v)] (by decide +kernel) (Nat.le_of_ble_eq_true rfl) rfl (fun X hM => ?_)
  refine g_aload_n (pc := 0) dX8_lay_0 0 rfl rfl ?_
  refine g_iload_n (pc := 1) dX8_lay_1 1 rfl rfl ?_
  refine g_invV (pc := 2) j_X8_rowOf mw_X8_64 dX8_lay_2 (rcv_X8) (by rfl) (c_X8_rowOf_0 E S r (by first | assumption | omega | rfl)) (Nat.le_of_ble_eq_true rfl) (Nat.le_of_ble_eq_true rfl) (by rfl) (Nat.le_of_ble_eq_true rfl) ?_
  refine g_astoreN (pc := 5) (L' := [(4, .null), (0, .ref (eA E 0)), (1, .int r), (2, .int i), (3, .int v)]) dX8_lay_5 (Nat.le_of_ble_eq_true rfl) rfl ?_
  refine g_aload_n (pc := 7) dX8_lay_7 1 rfl rfl ?_
  refine g_aloadN (pc := 8) dX8_lay_8 0 rfl ?_
  refine g_iload_n (pc := 10) dX8_lay_10 3 rfl rfl ?_
  refine g_invV (pc := 11) j_X8_refusedAt mw_X8_72 dX8_lay_11 (rcv_X8) (by rfl) (c_X8_refusedAt_0 E S i ) (Nat.le_of_ble_eq_true rfl) (Nat.le_of_ble_eq_true rfl) (by rfl) (Nat.le_of_ble_eq_true rfl) ?_
  refine g_istore (pc := 14) (L' := [(5, .int (-1)), (4, .null), (0, .ref (eA E 0)), (1, .int r), (2, .int i), (3, .int v)]) dX8_lay_14 (Nat.le_of_ble_eq_true rfl) rfl ?_
  refine g_aloadN (pc := 16) dX8_lay_16 1 rfl ?_
  refine g_ifnullN (pc := 18) (tgt := 26) dX8_lay_18 (by decide) ?_
  refine g_iload (pc := 26) dX8_lay_26 0 rfl ?_
  exact g_iret (pc := 28) hM rfl rfl ⟨rfl, rfl⟩ dX8_lay_28
set_option maxRecDepth 100000 in
set_option maxHeartbeats 4000000 in
theorem c_X8_lay_m (E : En) (S : St) (n : Nat) (i : Int32) (v : Int32) (hn : n < 6) (h : misF S (10 + n) = true) : CTe E i_X8_lay S [.ref (eA E 0), .int (nI n), .int i, .int v] (refS S 1) (some (.int (-3))) := by
  refine ct_of [(0, .ref (eA E 0)), (1, .int (nI n)), (2, .int i), (3, .int v)] (by decide +kernel) (Nat.le_of_ble_eq_true rfl) rfl (fun X hM => ?_)
  refine g_aload_n (pc := 0) dX8_lay_0 0 rfl rfl ?_
  refine g_iload_n (pc := 1) dX8_lay_1 1 rfl rfl ?_
  refine g_invV (pc := 2) j_X8_rowOf mw_X8_64 dX8_lay_2 (rcv_X8) (by rfl) (c_X8_rowOf_n E S n (by first | assumption | omega | rfl)) (Nat.le_of_ble_eq_true rfl) (Nat.le_of_ble_eq_true rfl) (by rfl) (Nat.le_of_ble_eq_true rfl) ?_
  refine g_astore (pc := 5) (L' := [(4, .ref (eA E (10 + n))), (0, .ref (eA E 0)), (1, .int (nI n)), (2, .int i), (3, .int v)]) dX8_lay_5 (Nat.le_of_ble_eq_true rfl) rfl ?_
  refine g_aload_n (pc := 7) dX8_lay_7 1 rfl rfl ?_
  refine g_aload (pc := 8) dX8_lay_8 0 rfl ?_
  refine g_iload_n (pc := 10) dX8_lay_10 3 rfl rfl ?_
  refine g_invV (pc := 11) j_X8_refusedAt mw_X8_72 dX8_lay_11 (rcv_X8) (by rfl) (c_X8_refusedAt_m E S (10 + n) i (kd_r (by omega)) (by first | assumption | omega | rfl)) (Nat.le_of_ble_eq_true rfl) (Nat.le_of_ble_eq_true rfl) (by rfl) (Nat.le_of_ble_eq_true rfl) ?_
  refine g_istore (pc := 14) (L' := [(5, .int (-3)), (4, .ref (eA E (10 + n))), (0, .ref (eA E 0)), (1, .int (nI n)), (2, .int i), (3, .int v)]) dX8_lay_14 (Nat.le_of_ble_eq_true rfl) rfl ?_
  refine g_aload (pc := 16) dX8_lay_16 1 rfl ?_
  refine g_ifnull (pc := 18) dX8_lay_18 ?_
  refine g_iload (pc := 21) dX8_lay_21 0 rfl ?_
  refine g_if_eq (pc := 23) (tgt := 29) dX8_lay_23 (by decide) (fun c_23 => ?_) (fun c_23 => ?_)
  · exact absurd c_23 (by decide)
  · refine g_iload (pc := 26) dX8_lay_26 0 rfl ?_
    exact g_iret (pc := 28) hM rfl rfl ⟨rfl, rfl⟩ dX8_lay_28
set_option maxRecDepth 100000 in
set_option maxHeartbeats 4000000 in
theorem c_X8_lay_b (E : En) (S : St) (n : Nat) (i : Int32) (v : Int32) (hn : n < 6) (h : misF S (10 + n) = false) (h2 : holdsF S (10 + n) i = false) : CTe E i_X8_lay S [.ref (eA E 0), .int (nI n), .int i, .int v] (refS S 2) (some (.int (-3))) := by
  refine ct_of [(0, .ref (eA E 0)), (1, .int (nI n)), (2, .int i), (3, .int v)] (by decide +kernel) (Nat.le_of_ble_eq_true rfl) rfl (fun X hM => ?_)
  refine g_aload_n (pc := 0) dX8_lay_0 0 rfl rfl ?_
  refine g_iload_n (pc := 1) dX8_lay_1 1 rfl rfl ?_
  refine g_invV (pc := 2) j_X8_rowOf mw_X8_64 dX8_lay_2 (rcv_X8) (by rfl) (c_X8_rowOf_n E S n (by first | assumption | omega | rfl)) (Nat.le_of_ble_eq_true rfl) (Nat.le_of_ble_eq_true rfl) (by rfl) (Nat.le_of_ble_eq_true rfl) ?_
  refine g_astore (pc := 5) (L' := [(4, .ref (eA E (10 + n))), (0, .ref (eA E 0)), (1, .int (nI n)), (2, .int i), (3, .int v)]) dX8_lay_5 (Nat.le_of_ble_eq_true rfl) rfl ?_
  refine g_aload_n (pc := 7) dX8_lay_7 1 rfl rfl ?_
  refine g_aload (pc := 8) dX8_lay_8 0 rfl ?_
  refine g_iload_n (pc := 10) dX8_lay_10 3 rfl rfl ?_
  refine g_invV (pc := 11) j_X8_refusedAt mw_X8_72 dX8_lay_11 (rcv_X8) (by rfl) (c_X8_refusedAt_b E S (10 + n) i (kd_r (by omega)) (by first | assumption | omega | rfl) (by first | assumption | omega | rfl)) (Nat.le_of_ble_eq_true rfl) (Nat.le_of_ble_eq_true rfl) (by rfl) (Nat.le_of_ble_eq_true rfl) ?_
  refine g_istore (pc := 14) (L' := [(5, .int (-3)), (4, .ref (eA E (10 + n))), (0, .ref (eA E 0)), (1, .int (nI n)), (2, .int i), (3, .int v)]) dX8_lay_14 (Nat.le_of_ble_eq_true rfl) rfl ?_
  refine g_aload (pc := 16) dX8_lay_16 1 rfl ?_
  refine g_ifnull (pc := 18) dX8_lay_18 ?_
  refine g_iload (pc := 21) dX8_lay_21 0 rfl ?_
  refine g_if_eq (pc := 23) (tgt := 29) dX8_lay_23 (by decide) (fun c_23 => ?_) (fun c_23 => ?_)
  · exact absurd c_23 (by decide)
  · refine g_iload (pc := 26) dX8_lay_26 0 rfl ?_
    exact g_iret (pc := 28) hM rfl rfl ⟨rfl, rfl⟩ dX8_lay_28
set_option maxRecDepth 100000 in
set_option maxHeartbeats 4000000 in
theorem c_X8_lay_ok (E : En) (S : St) (n j m : Nat) (v : Int32) (hn : n < 6) (hm : gI S (10 + n) 1 = nI m) (hj : j < m) (hm2 : m ≤ 40) : CTe E i_X8_lay S [.ref (eA E 0), .int (nI n), .int (nI j), .int v] (sA (sI S 0 8 (gA S (10 + n + 10) j)) (10 + n + 10) (upd (gA S (10 + n + 10)) j v)) (some (.int 1)) := by
  refine ct_of [(0, .ref (eA E 0)), (1, .int (nI n)), (2, .int (nI j)), (3, .int v)] (by decide +kernel) (Nat.le_of_ble_eq_true rfl) rfl (fun X hM => ?_)
  refine g_aload_n (pc := 0) dX8_lay_0 0 rfl rfl ?_
  refine g_iload_n (pc := 1) dX8_lay_1 1 rfl rfl ?_
  refine g_invV (pc := 2) j_X8_rowOf mw_X8_64 dX8_lay_2 (rcv_X8) (by rfl) (c_X8_rowOf_n E S n (by first | assumption | omega | rfl)) (Nat.le_of_ble_eq_true rfl) (Nat.le_of_ble_eq_true rfl) (by rfl) (Nat.le_of_ble_eq_true rfl) ?_
  refine g_astore (pc := 5) (L' := [(4, .ref (eA E (10 + n))), (0, .ref (eA E 0)), (1, .int (nI n)), (2, .int (nI j)), (3, .int v)]) dX8_lay_5 (Nat.le_of_ble_eq_true rfl) rfl ?_
  refine g_aload_n (pc := 7) dX8_lay_7 1 rfl rfl ?_
  refine g_aload (pc := 8) dX8_lay_8 0 rfl ?_
  refine g_iload_n (pc := 10) dX8_lay_10 3 rfl rfl ?_
  refine g_invV (pc := 11) j_X8_refusedAt mw_X8_72 dX8_lay_11 (rcv_X8) (by rfl) (c_X8_refusedAt_ok E S (10 + n) (nI j) (kd_r (by omega)) (mis_of hm (by omega)) (holds_in hm hj (by omega))) (Nat.le_of_ble_eq_true rfl) (Nat.le_of_ble_eq_true rfl) (by rfl) (Nat.le_of_ble_eq_true rfl) ?_
  refine g_istore (pc := 14) (L' := [(5, .int 0), (4, .ref (eA E (10 + n))), (0, .ref (eA E 0)), (1, .int (nI n)), (2, .int (nI j)), (3, .int v)]) dX8_lay_14 (Nat.le_of_ble_eq_true rfl) rfl ?_
  refine g_aload (pc := 16) dX8_lay_16 1 rfl ?_
  refine g_ifnull (pc := 18) dX8_lay_18 ?_
  refine g_iload (pc := 21) dX8_lay_21 0 rfl ?_
  refine g_if_eq (pc := 23) (tgt := 29) dX8_lay_23 (by decide) (fun c_23 => ?_) (fun c_23 => ?_)
  · refine g_aload_n (pc := 29) dX8_lay_29 2 rfl rfl ?_
    refine g_aload (pc := 30) dX8_lay_30 1 rfl ?_
    refine g_iload_n (pc := 32) dX8_lay_32 4 rfl rfl ?_
    refine g_invV (pc := 33) j_X5_get mw_X8_76 dX8_lay_33 (rcv_X5 (kd_r (by omega))) (by rfl) (c_X5_get E S (10 + n) (nI j) (kd_r (by omega)) (by rw [hm, nI_toInt (by omega), ln_r hn]; omega)) (Nat.le_of_ble_eq_true rfl) (Nat.le_of_ble_eq_true rfl) (by rfl) (Nat.le_of_ble_eq_true rfl) ?_
    rw [getF_in (m := m) hm hj (by omega)]
    refine pf_X8_51 (pc := 36) rfl dX8_lay_36 ?_
    refine g_aload (pc := 39) dX8_lay_39 1 rfl ?_
    refine g_iload_n (pc := 41) dX8_lay_41 4 rfl rfl ?_
    refine g_iload_n (pc := 42) dX8_lay_42 5 rfl rfl ?_
    refine g_invN (pc := 43) j_X5_set mw_X8_80 dX8_lay_43 (rcv_X5 (kd_r (by omega))) (by rfl) (c_X5_set E (sI S 0 8 (gA S (10 + n + 10) j)) (10 + n) (nI j) v (kd_r (by omega)) (by rw [gI_ne (by omega), hm, nI_toInt (by omega), ln_r hn]; omega)) (Nat.le_of_ble_eq_true rfl) (Nat.le_of_ble_eq_true rfl) (by rfl) (Nat.le_of_ble_eq_true rfl) ?_
    rw [setF_in (S := sI S 0 8 (gA S (10 + n + 10) j)) (m := m) (by rw [gI_ne (by omega)]; exact hm) hj (by omega)]
    refine g_iconst (pc := 46) (v := 1) dX8_lay_46 (by decide) ?_
    exact g_iret (pc := 47) hM rfl rfl ⟨rfl, rfl⟩ dX8_lay_47
  · exact absurd c_23 (by decide)
set_option maxRecDepth 100000 in
set_option maxHeartbeats 4000000 in
theorem c_X8_at_bad (E : En) (S : St) (r i : Int32) (hr : idxF 6 r = false) : CTe E i_X8_at S [.ref (eA E 0), .int r, .int i] S (some (.int (-1))) := by
  refine ct_of [(0, .ref (eA E 0)), (1, .int r), (2, .int i)] (by decide +kernel) (Nat.le_of_ble_eq_true rfl) rfl (fun X hM => ?_)
  refine g_aload_n (pc := 0) dX8_at_0 0 rfl rfl ?_
  refine g_iload_n (pc := 1) dX8_at_1 1 rfl rfl ?_
  refine g_invV (pc := 2) j_X8_rowOf mw_X8_64 dX8_at_2 (rcv_X8) (by rfl) (c_X8_rowOf_0 E S r (by first | assumption | omega | rfl)) (Nat.le_of_ble_eq_true rfl) (Nat.le_of_ble_eq_true rfl) (by rfl) (Nat.le_of_ble_eq_true rfl) ?_
  refine g_astore_nN (pc := 5) (L' := [(3, .null), (0, .ref (eA E 0)), (1, .int r), (2, .int i)]) dX8_at_5 rfl (Nat.le_of_ble_eq_true rfl) rfl ?_
  refine g_aload_n (pc := 6) dX8_at_6 1 rfl rfl ?_
  refine g_aload_nN (pc := 7) dX8_at_7 0 rfl rfl ?_
  refine g_iload_n (pc := 8) dX8_at_8 3 rfl rfl ?_
  refine g_invV (pc := 9) j_X8_refusedAt mw_X8_72 dX8_at_9 (rcv_X8) (by rfl) (c_X8_refusedAt_0 E S i ) (Nat.le_of_ble_eq_true rfl) (Nat.le_of_ble_eq_true rfl) (by rfl) (Nat.le_of_ble_eq_true rfl) ?_
  refine g_istore (pc := 12) (L' := [(4, .int (-1)), (3, .null), (0, .ref (eA E 0)), (1, .int r), (2, .int i)]) dX8_at_12 (Nat.le_of_ble_eq_true rfl) rfl ?_
  refine g_aload_nN (pc := 14) dX8_at_14 1 rfl rfl ?_
  refine g_ifnullN (pc := 15) (tgt := 23) dX8_at_15 (by decide) ?_
  refine g_iload (pc := 23) dX8_at_23 0 rfl ?_
  exact g_iret (pc := 25) hM rfl rfl ⟨rfl, rfl⟩ dX8_at_25
set_option maxRecDepth 100000 in
set_option maxHeartbeats 4000000 in
theorem c_X8_at_m (E : En) (S : St) (n : Nat) (i : Int32) (hn : n < 6) (h : misF S (10 + n) = true) : CTe E i_X8_at S [.ref (eA E 0), .int (nI n), .int i] (refS S 1) (some (.int (-3))) := by
  refine ct_of [(0, .ref (eA E 0)), (1, .int (nI n)), (2, .int i)] (by decide +kernel) (Nat.le_of_ble_eq_true rfl) rfl (fun X hM => ?_)
  refine g_aload_n (pc := 0) dX8_at_0 0 rfl rfl ?_
  refine g_iload_n (pc := 1) dX8_at_1 1 rfl rfl ?_
  refine g_invV (pc := 2) j_X8_rowOf mw_X8_64 dX8_at_2 (rcv_X8) (by rfl) (c_X8_rowOf_n E S n (by first | assumption | omega | rfl)) (Nat.le_of_ble_eq_true rfl) (Nat.le_of_ble_eq_true rfl) (by rfl) (Nat.le_of_ble_eq_true rfl) ?_
  refine g_astore_n (pc := 5) (L' := [(3, .ref (eA E (10 + n))), (0, .ref (eA E 0)), (1, .int (nI n)), (2, .int i)]) dX8_at_5 rfl (Nat.le_of_ble_eq_true rfl) rfl ?_
  refine g_aload_n (pc := 6) dX8_at_6 1 rfl rfl ?_
  refine g_aload_n (pc := 7) dX8_at_7 0 rfl rfl ?_
  refine g_iload_n (pc := 8) dX8_at_8 3 rfl rfl ?_
  refine g_invV (pc := 9) j_X8_refusedAt mw_X8_72 dX8_at_9 (rcv_X8) (by rfl) (c_X8_refusedAt_m E S (10 + n) i (kd_r (by omega)) (by first | assumption | omega | rfl)) (Nat.le_of_ble_eq_true rfl) (Nat.le_of_ble_eq_true rfl) (by rfl) (Nat.le_of_ble_eq_true rfl) ?_
  refine g_istore (pc := 12) (L' := [(4, .int (-3)), (3, .ref (eA E (10 + n))), (0, .ref (eA E 0)), (1, .int (nI n)), (2, .int i)]) dX8_at_12 (Nat.le_of_ble_eq_true rfl) rfl ?_
  refine g_aload_n (pc := 14) dX8_at_14 1 rfl rfl ?_
  refine g_ifnull (pc := 15) dX8_at_15 ?_
  refine g_iload (pc := 18) dX8_at_18 0 rfl ?_
  refine g_if_eq (pc := 20) (tgt := 26) dX8_at_20 (by decide) (fun c_20 => ?_) (fun c_20 => ?_)
  · exact absurd c_20 (by decide)
  · refine g_iload (pc := 23) dX8_at_23 0 rfl ?_
    exact g_iret (pc := 25) hM rfl rfl ⟨rfl, rfl⟩ dX8_at_25
set_option maxRecDepth 100000 in
set_option maxHeartbeats 4000000 in
theorem c_X8_at_b (E : En) (S : St) (n : Nat) (i : Int32) (hn : n < 6) (h : misF S (10 + n) = false) (h2 : holdsF S (10 + n) i = false) : CTe E i_X8_at S [.ref (eA E 0), .int (nI n), .int i] (refS S 2) (some (.int (-3))) := by
  refine ct_of [(0, .ref (eA E 0)), (1, .int (nI n)), (2, .int i)] (by decide +kernel) (Nat.le_of_ble_eq_true rfl) rfl (fun X hM => ?_)
  refine g_aload_n (pc := 0) dX8_at_0 0 rfl rfl ?_
  refine g_iload_n (pc := 1) dX8_at_1 1 rfl rfl ?_
  refine g_invV (pc := 2) j_X8_rowOf mw_X8_64 dX8_at_2 (rcv_X8) (by rfl) (c_X8_rowOf_n E S n (by first | assumption | omega | rfl)) (Nat.le_of_ble_eq_true rfl) (Nat.le_of_ble_eq_true rfl) (by rfl) (Nat.le_of_ble_eq_true rfl) ?_
  refine g_astore_n (pc := 5) (L' := [(3, .ref (eA E (10 + n))), (0, .ref (eA E 0)), (1, .int (nI n)), (2, .int i)]) dX8_at_5 rfl (Nat.le_of_ble_eq_true rfl) rfl ?_
  refine g_aload_n (pc := 6) dX8_at_6 1 rfl rfl ?_
  refine g_aload_n (pc := 7) dX8_at_7 0 rfl rfl ?_
  refine g_iload_n (pc := 8) dX8_at_8 3 rfl rfl ?_
  refine g_invV (pc := 9) j_X8_refusedAt mw_X8_72 dX8_at_9 (rcv_X8) (by rfl) (c_X8_refusedAt_b E S (10 + n) i (kd_r (by omega)) (by first | assumption | omega | rfl) (by first | assumption | omega | rfl)) (Nat.le_of_ble_eq_true rfl) (Nat.le_of_ble_eq_true rfl) (by rfl) (Nat.le_of_ble_eq_true rfl) ?_
  refine g_istore (pc := 12) (L' := [(4, .int (-3)), (3, .ref (eA E (10 + n))), (0, .ref (eA E 0)), (1, .int (nI n)), (2, .int i)]) dX8_at_12 (Nat.le_of_ble_eq_true rfl) rfl ?_
  refine g_aload_n (pc := 14) dX8_at_14 1 rfl rfl ?_
  refine g_ifnull (pc := 15) dX8_at_15 ?_
  refine g_iload (pc := 18) dX8_at_18 0 rfl ?_
  refine g_if_eq (pc := 20) (tgt := 26) dX8_at_20 (by decide) (fun c_20 => ?_) (fun c_20 => ?_)
  · exact absurd c_20 (by decide)
  · refine g_iload (pc := 23) dX8_at_23 0 rfl ?_
    exact g_iret (pc := 25) hM rfl rfl ⟨rfl, rfl⟩ dX8_at_25
set_option maxRecDepth 100000 in
set_option maxHeartbeats 4000000 in
theorem c_X8_at_ok (E : En) (S : St) (n j m : Nat) (hn : n < 6) (hm : gI S (10 + n) 1 = nI m) (hj : j < m) (hm2 : m ≤ 40) : CTe E i_X8_at S [.ref (eA E 0), .int (nI n), .int (nI j)] (sI S 0 8 (gA S (10 + n + 10) j)) (some (.int 1)) := by
  refine ct_of [(0, .ref (eA E 0)), (1, .int (nI n)), (2, .int (nI j))] (by decide +kernel) (Nat.le_of_ble_eq_true rfl) rfl (fun X hM => ?_)
  refine g_aload_n (pc := 0) dX8_at_0 0 rfl rfl ?_
  refine g_iload_n (pc := 1) dX8_at_1 1 rfl rfl ?_
  refine g_invV (pc := 2) j_X8_rowOf mw_X8_64 dX8_at_2 (rcv_X8) (by rfl) (c_X8_rowOf_n E S n (by first | assumption | omega | rfl)) (Nat.le_of_ble_eq_true rfl) (Nat.le_of_ble_eq_true rfl) (by rfl) (Nat.le_of_ble_eq_true rfl) ?_
  refine g_astore_n (pc := 5) (L' := [(3, .ref (eA E (10 + n))), (0, .ref (eA E 0)), (1, .int (nI n)), (2, .int (nI j))]) dX8_at_5 rfl (Nat.le_of_ble_eq_true rfl) rfl ?_
  refine g_aload_n (pc := 6) dX8_at_6 1 rfl rfl ?_
  refine g_aload_n (pc := 7) dX8_at_7 0 rfl rfl ?_
  refine g_iload_n (pc := 8) dX8_at_8 3 rfl rfl ?_
  refine g_invV (pc := 9) j_X8_refusedAt mw_X8_72 dX8_at_9 (rcv_X8) (by rfl) (c_X8_refusedAt_ok E S (10 + n) (nI j) (kd_r (by omega)) (mis_of hm (by omega)) (holds_in hm hj (by omega))) (Nat.le_of_ble_eq_true rfl) (Nat.le_of_ble_eq_true rfl) (by rfl) (Nat.le_of_ble_eq_true rfl) ?_
  refine g_istore (pc := 12) (L' := [(4, .int 0), (3, .ref (eA E (10 + n))), (0, .ref (eA E 0)), (1, .int (nI n)), (2, .int (nI j))]) dX8_at_12 (Nat.le_of_ble_eq_true rfl) rfl ?_
  refine g_aload_n (pc := 14) dX8_at_14 1 rfl rfl ?_
  refine g_ifnull (pc := 15) dX8_at_15 ?_
  refine g_iload (pc := 18) dX8_at_18 0 rfl ?_
  refine g_if_eq (pc := 20) (tgt := 26) dX8_at_20 (by decide) (fun c_20 => ?_) (fun c_20 => ?_)
  · refine g_aload_n (pc := 26) dX8_at_26 2 rfl rfl ?_
    refine g_aload_n (pc := 27) dX8_at_27 1 rfl rfl ?_
    refine g_iload_n (pc := 28) dX8_at_28 4 rfl rfl ?_
    refine g_invV (pc := 29) j_X5_get mw_X8_76 dX8_at_29 (rcv_X5 (kd_r (by omega))) (by rfl) (c_X5_get E S (10 + n) (nI j) (kd_r (by omega)) (by rw [hm, nI_toInt (by omega), ln_r hn]; omega)) (Nat.le_of_ble_eq_true rfl) (Nat.le_of_ble_eq_true rfl) (by rfl) (Nat.le_of_ble_eq_true rfl) ?_
    rw [getF_in (m := m) hm hj (by omega)]
    refine pf_X8_51 (pc := 32) rfl dX8_at_32 ?_
    refine g_iconst (pc := 35) (v := 1) dX8_at_35 (by decide) ?_
    exact g_iret (pc := 36) hM rfl rfl ⟨rfl, rfl⟩ dX8_at_36
  · exact absurd c_20 (by decide)
set_option maxRecDepth 100000 in
set_option maxHeartbeats 4000000 in
theorem c_X8_put_bad (E : En) (S : St) (r i : Int32) (v : Int32) (hr : idxF 4 r = false) : CTe E i_X8_put S [.ref (eA E 0), .int r, .int i, .int v] S (some (.int (-1))) := by
  refine ct_of [(0, .ref (eA E 0)), (1, .int r), (2, .int i), (3, .int v)] (by decide +kernel) (Nat.le_of_ble_eq_true rfl) rfl (fun X hM => ?_)
  refine g_aload_n (pc := 0) dX8_put_0 0 rfl rfl ?_
  refine g_iload_n (pc := 1) dX8_put_1 1 rfl rfl ?_
  refine g_invV (pc := 2) j_X8_textOf mw_X8_114 dX8_put_2 (rcv_X8) (by rfl) (c_X8_textOf_0 E S r (by first | assumption | omega | rfl)) (Nat.le_of_ble_eq_true rfl) (Nat.le_of_ble_eq_true rfl) (by rfl) (Nat.le_of_ble_eq_true rfl) ?_
  refine g_astoreN (pc := 5) (L' := [(4, .null), (0, .ref (eA E 0)), (1, .int r), (2, .int i), (3, .int v)]) dX8_put_5 (Nat.le_of_ble_eq_true rfl) rfl ?_
  refine g_aload_n (pc := 7) dX8_put_7 1 rfl rfl ?_
  refine g_aloadN (pc := 8) dX8_put_8 0 rfl ?_
  refine g_iload_n (pc := 10) dX8_put_10 3 rfl rfl ?_
  refine g_invV (pc := 11) j_X8_refusedAt mw_X8_72 dX8_put_11 (rcv_X8) (by rfl) (c_X8_refusedAt_0 E S i ) (Nat.le_of_ble_eq_true rfl) (Nat.le_of_ble_eq_true rfl) (by rfl) (Nat.le_of_ble_eq_true rfl) ?_
  refine g_istore (pc := 14) (L' := [(5, .int (-1)), (4, .null), (0, .ref (eA E 0)), (1, .int r), (2, .int i), (3, .int v)]) dX8_put_14 (Nat.le_of_ble_eq_true rfl) rfl ?_
  refine g_aloadN (pc := 16) dX8_put_16 1 rfl ?_
  refine g_ifnullN (pc := 18) (tgt := 26) dX8_put_18 (by decide) ?_
  refine g_iload (pc := 26) dX8_put_26 0 rfl ?_
  exact g_iret (pc := 28) hM rfl rfl ⟨rfl, rfl⟩ dX8_put_28
set_option maxRecDepth 100000 in
set_option maxHeartbeats 4000000 in
theorem c_X8_put_m (E : En) (S : St) (n : Nat) (i : Int32) (v : Int32) (hn : n < 4) (h : misF S (16 + n) = true) : CTe E i_X8_put S [.ref (eA E 0), .int (nI n), .int i, .int v] (refS S 1) (some (.int (-3))) := by
  refine ct_of [(0, .ref (eA E 0)), (1, .int (nI n)), (2, .int i), (3, .int v)] (by decide +kernel) (Nat.le_of_ble_eq_true rfl) rfl (fun X hM => ?_)
  refine g_aload_n (pc := 0) dX8_put_0 0 rfl rfl ?_
  refine g_iload_n (pc := 1) dX8_put_1 1 rfl rfl ?_
  refine g_invV (pc := 2) j_X8_textOf mw_X8_114 dX8_put_2 (rcv_X8) (by rfl) (c_X8_textOf_n E S n (by first | assumption | omega | rfl)) (Nat.le_of_ble_eq_true rfl) (Nat.le_of_ble_eq_true rfl) (by rfl) (Nat.le_of_ble_eq_true rfl) ?_
  refine g_astore (pc := 5) (L' := [(4, .ref (eA E (16 + n))), (0, .ref (eA E 0)), (1, .int (nI n)), (2, .int i), (3, .int v)]) dX8_put_5 (Nat.le_of_ble_eq_true rfl) rfl ?_
  refine g_aload_n (pc := 7) dX8_put_7 1 rfl rfl ?_
  refine g_aload (pc := 8) dX8_put_8 0 rfl ?_
  refine g_iload_n (pc := 10) dX8_put_10 3 rfl rfl ?_
  refine g_invV (pc := 11) j_X8_refusedAt mw_X8_72 dX8_put_11 (rcv_X8) (by rfl) (c_X8_refusedAt_m E S (16 + n) i (kd_k (by omega)) (by first | assumption | omega | rfl)) (Nat.le_of_ble_eq_true rfl) (Nat.le_of_ble_eq_true rfl) (by rfl) (Nat.le_of_ble_eq_true rfl) ?_
  refine g_istore (pc := 14) (L' := [(5, .int (-3)), (4, .ref (eA E (16 + n))), (0, .ref (eA E 0)), (1, .int (nI n)), (2, .int i), (3, .int v)]) dX8_put_14 (Nat.le_of_ble_eq_true rfl) rfl ?_
  refine g_aload (pc := 16) dX8_put_16 1 rfl ?_
  refine g_ifnull (pc := 18) dX8_put_18 ?_
  refine g_iload (pc := 21) dX8_put_21 0 rfl ?_
  refine g_if_eq (pc := 23) (tgt := 29) dX8_put_23 (by decide) (fun c_23 => ?_) (fun c_23 => ?_)
  · exact absurd c_23 (by decide)
  · refine g_iload (pc := 26) dX8_put_26 0 rfl ?_
    exact g_iret (pc := 28) hM rfl rfl ⟨rfl, rfl⟩ dX8_put_28
set_option maxRecDepth 100000 in
set_option maxHeartbeats 4000000 in
theorem c_X8_put_b (E : En) (S : St) (n : Nat) (i : Int32) (v : Int32) (hn : n < 4) (h : misF S (16 + n) = false) (h2 : holdsF S (16 + n) i = false) : CTe E i_X8_put S [.ref (eA E 0), .int (nI n), .int i, .int v] (refS S 2) (some (.int (-3))) := by
  refine ct_of [(0, .ref (eA E 0)), (1, .int (nI n)), (2, .int i), (3, .int v)] (by decide +kernel) (Nat.le_of_ble_eq_true rfl) rfl (fun X hM => ?_)
  refine g_aload_n (pc := 0) dX8_put_0 0 rfl rfl ?_
  refine g_iload_n (pc := 1) dX8_put_1 1 rfl rfl ?_
  refine g_invV (pc := 2) j_X8_textOf mw_X8_114 dX8_put_2 (rcv_X8) (by rfl) (c_X8_textOf_n E S n (by first | assumption | omega | rfl)) (Nat.le_of_ble_eq_true rfl) (Nat.le_of_ble_eq_true rfl) (by rfl) (Nat.le_of_ble_eq_true rfl) ?_
  refine g_astore (pc := 5) (L' := [(4, .ref (eA E (16 + n))), (0, .ref (eA E 0)), (1, .int (nI n)), (2, .int i), (3, .int v)]) dX8_put_5 (Nat.le_of_ble_eq_true rfl) rfl ?_
  refine g_aload_n (pc := 7) dX8_put_7 1 rfl rfl ?_
  refine g_aload (pc := 8) dX8_put_8 0 rfl ?_
  refine g_iload_n (pc := 10) dX8_put_10 3 rfl rfl ?_
  refine g_invV (pc := 11) j_X8_refusedAt mw_X8_72 dX8_put_11 (rcv_X8) (by rfl) (c_X8_refusedAt_b E S (16 + n) i (kd_k (by omega)) (by first | assumption | omega | rfl) (by first | assumption | omega | rfl)) (Nat.le_of_ble_eq_true rfl) (Nat.le_of_ble_eq_true rfl) (by rfl) (Nat.le_of_ble_eq_true rfl) ?_
  refine g_istore (pc := 14) (L' := [(5, .int (-3)), (4, .ref (eA E (16 + n))), (0, .ref (eA E 0)), (1, .int (nI n)), (2, .int i), (3, .int v)]) dX8_put_14 (Nat.le_of_ble_eq_true rfl) rfl ?_
  refine g_aload (pc := 16) dX8_put_16 1 rfl ?_
  refine g_ifnull (pc := 18) dX8_put_18 ?_
  refine g_iload (pc := 21) dX8_put_21 0 rfl ?_
  refine g_if_eq (pc := 23) (tgt := 29) dX8_put_23 (by decide) (fun c_23 => ?_) (fun c_23 => ?_)
  · exact absurd c_23 (by decide)
  · refine g_iload (pc := 26) dX8_put_26 0 rfl ?_
    exact g_iret (pc := 28) hM rfl rfl ⟨rfl, rfl⟩ dX8_put_28
set_option maxRecDepth 100000 in
set_option maxHeartbeats 4000000 in
theorem c_X8_put_ok (E : En) (S : St) (n j m : Nat) (v : Int32) (hn : n < 4) (hm : gI S (16 + n) 1 = nI m) (hj : j < m) (hm2 : m ≤ 60) : CTe E i_X8_put S [.ref (eA E 0), .int (nI n), .int (nI j), .int v] (sA S (16 + n + 10) (upd (gA S (16 + n + 10)) j v.toInt8.toInt32)) (some (.int (gA S (16 + n + 10) j + 1000))) := by
  refine ct_of [(0, .ref (eA E 0)), (1, .int (nI n)), (2, .int (nI j)), (3, .int v)] (by decide +kernel) (Nat.le_of_ble_eq_true rfl) rfl (fun X hM => ?_)
  refine g_aload_n (pc := 0) dX8_put_0 0 rfl rfl ?_
  refine g_iload_n (pc := 1) dX8_put_1 1 rfl rfl ?_
  refine g_invV (pc := 2) j_X8_textOf mw_X8_114 dX8_put_2 (rcv_X8) (by rfl) (c_X8_textOf_n E S n (by first | assumption | omega | rfl)) (Nat.le_of_ble_eq_true rfl) (Nat.le_of_ble_eq_true rfl) (by rfl) (Nat.le_of_ble_eq_true rfl) ?_
  refine g_astore (pc := 5) (L' := [(4, .ref (eA E (16 + n))), (0, .ref (eA E 0)), (1, .int (nI n)), (2, .int (nI j)), (3, .int v)]) dX8_put_5 (Nat.le_of_ble_eq_true rfl) rfl ?_
  refine g_aload_n (pc := 7) dX8_put_7 1 rfl rfl ?_
  refine g_aload (pc := 8) dX8_put_8 0 rfl ?_
  refine g_iload_n (pc := 10) dX8_put_10 3 rfl rfl ?_
  refine g_invV (pc := 11) j_X8_refusedAt mw_X8_72 dX8_put_11 (rcv_X8) (by rfl) (c_X8_refusedAt_ok E S (16 + n) (nI j) (kd_k (by omega)) (mis_of hm (by omega)) (holds_in hm hj (by omega))) (Nat.le_of_ble_eq_true rfl) (Nat.le_of_ble_eq_true rfl) (by rfl) (Nat.le_of_ble_eq_true rfl) ?_
  refine g_istore (pc := 14) (L' := [(5, .int 0), (4, .ref (eA E (16 + n))), (0, .ref (eA E 0)), (1, .int (nI n)), (2, .int (nI j)), (3, .int v)]) dX8_put_14 (Nat.le_of_ble_eq_true rfl) rfl ?_
  refine g_aload (pc := 16) dX8_put_16 1 rfl ?_
  refine g_ifnull (pc := 18) dX8_put_18 ?_
  refine g_iload (pc := 21) dX8_put_21 0 rfl ?_
  refine g_if_eq (pc := 23) (tgt := 29) dX8_put_23 (by decide) (fun c_23 => ?_) (fun c_23 => ?_)
  · refine g_aload (pc := 29) dX8_put_29 1 rfl ?_
    refine g_iload_n (pc := 31) dX8_put_31 4 rfl rfl ?_
    refine g_invV (pc := 32) j_X5_get mw_X8_76 dX8_put_32 (rcv_X5 (kd_k (by omega))) (by rfl) (c_X5_get E S (16 + n) (nI j) (kd_k (by omega)) (by rw [hm, nI_toInt (by omega), ln_t hn]; omega)) (Nat.le_of_ble_eq_true rfl) (Nat.le_of_ble_eq_true rfl) (by rfl) (Nat.le_of_ble_eq_true rfl) ?_
    rw [getF_in (m := m) hm hj (by omega)]
    refine g_istore (pc := 35) (L' := [(6, .int (gA S (16 + n + 10) j)), (5, .int 0), (4, .ref (eA E (16 + n))), (0, .ref (eA E 0)), (1, .int (nI n)), (2, .int (nI j)), (3, .int v)]) dX8_put_35 (Nat.le_of_ble_eq_true rfl) rfl ?_
    refine g_aload (pc := 37) dX8_put_37 2 rfl ?_
    refine g_iload_n (pc := 39) dX8_put_39 5 rfl rfl ?_
    refine g_iload_n (pc := 40) dX8_put_40 6 rfl rfl ?_
    refine g_i2b (pc := 41) dX8_put_41 ?_
    refine g_invN (pc := 42) j_X5_set mw_X8_80 dX8_put_42 (rcv_X5 (kd_k (by omega))) (by rfl) (c_X5_set E S (16 + n) (nI j) v.toInt8.toInt32 (kd_k (by omega)) (by rw [hm, nI_toInt (by omega), ln_t hn]; omega)) (Nat.le_of_ble_eq_true rfl) (Nat.le_of_ble_eq_true rfl) (by rfl) (Nat.le_of_ble_eq_true rfl) ?_
    rw [setF_in (S := S) (m := m) hm hj (by omega)]
    refine g_iload (pc := 45) dX8_put_45 0 rfl ?_
    refine g_sipush (pc := 47) (v := 1000) dX8_put_47 (by decide) ?_
    refine g_iadd (pc := 50) dX8_put_50 ?_
    exact g_iret (pc := 51) hM rfl rfl ⟨rfl, rfl⟩ dX8_put_51
  · exact absurd c_23 (by decide)
set_option maxRecDepth 100000 in
set_option maxHeartbeats 4000000 in
theorem c_X8_tear_bad (E : En) (S : St) (r : Int32) (hr : idxF 6 r = false) : CTe E i_X8_tear S [.ref (eA E 0), .int r] S (some (.int (-1))) := by
  refine ct_of [(0, .ref (eA E 0)), (1, .int r)] (by decide +kernel) (Nat.le_of_ble_eq_true rfl) rfl (fun X hM => ?_)
  refine g_aload_n (pc := 0) dX8_tear_0 0 rfl rfl ?_
  refine g_iload_n (pc := 1) dX8_tear_1 1 rfl rfl ?_
  refine g_invV (pc := 2) j_X8_rowOf mw_X8_64 dX8_tear_2 (rcv_X8) (by rfl) (c_X8_rowOf_0 E S r (by first | assumption | omega | rfl)) (Nat.le_of_ble_eq_true rfl) (Nat.le_of_ble_eq_true rfl) (by rfl) (Nat.le_of_ble_eq_true rfl) ?_
  refine g_astore_nN (pc := 5) (L' := [(2, .null), (0, .ref (eA E 0)), (1, .int r)]) dX8_tear_5 rfl (Nat.le_of_ble_eq_true rfl) rfl ?_
  refine g_aload_n (pc := 6) dX8_tear_6 1 rfl rfl ?_
  refine g_aload_nN (pc := 7) dX8_tear_7 0 rfl rfl ?_
  refine g_invV (pc := 8) j_X8_refusedMissing mw_X8_84 dX8_tear_8 (rcv_X8) (by rfl) (c_X8_refusedMissing_0 E S ) (Nat.le_of_ble_eq_true rfl) (Nat.le_of_ble_eq_true rfl) (by rfl) (Nat.le_of_ble_eq_true rfl) ?_
  refine g_istore_n (pc := 11) (L' := [(3, .int (-1)), (2, .null), (0, .ref (eA E 0)), (1, .int r)]) dX8_tear_11 rfl (Nat.le_of_ble_eq_true rfl) rfl ?_
  refine g_aload_nN (pc := 12) dX8_tear_12 1 rfl rfl ?_
  refine g_ifnullN (pc := 13) (tgt := 20) dX8_tear_13 (by decide) ?_
  refine g_iload_n (pc := 20) dX8_tear_20 0 rfl rfl ?_
  exact g_iret (pc := 21) hM rfl rfl ⟨rfl, rfl⟩ dX8_tear_21
set_option maxRecDepth 100000 in
set_option maxHeartbeats 4000000 in
theorem c_X8_tear_m (E : En) (S : St) (n : Nat) (hn : n < 6) (h : misF S (10 + n) = true) : CTe E i_X8_tear S [.ref (eA E 0), .int (nI n)] (refS S 1) (some (.int (-3))) := by
  refine ct_of [(0, .ref (eA E 0)), (1, .int (nI n))] (by decide +kernel) (Nat.le_of_ble_eq_true rfl) rfl (fun X hM => ?_)
  refine g_aload_n (pc := 0) dX8_tear_0 0 rfl rfl ?_
  refine g_iload_n (pc := 1) dX8_tear_1 1 rfl rfl ?_
  refine g_invV (pc := 2) j_X8_rowOf mw_X8_64 dX8_tear_2 (rcv_X8) (by rfl) (c_X8_rowOf_n E S n (by first | assumption | omega | rfl)) (Nat.le_of_ble_eq_true rfl) (Nat.le_of_ble_eq_true rfl) (by rfl) (Nat.le_of_ble_eq_true rfl) ?_
  refine g_astore_n (pc := 5) (L' := [(2, .ref (eA E (10 + n))), (0, .ref (eA E 0)), (1, .int (nI n))]) dX8_tear_5 rfl (Nat.le_of_ble_eq_true rfl) rfl ?_
  refine g_aload_n (pc := 6) dX8_tear_6 1 rfl rfl ?_
  refine g_aload_n (pc := 7) dX8_tear_7 0 rfl rfl ?_
  refine g_invV (pc := 8) j_X8_refusedMissing mw_X8_84 dX8_tear_8 (rcv_X8) (by rfl) (c_X8_refusedMissing_m E S (10 + n) (kd_r (by omega)) (by first | assumption | omega | rfl)) (Nat.le_of_ble_eq_true rfl) (Nat.le_of_ble_eq_true rfl) (by rfl) (Nat.le_of_ble_eq_true rfl) ?_
  refine g_istore_n (pc := 11) (L' := [(3, .int (-3)), (2, .ref (eA E (10 + n))), (0, .ref (eA E 0)), (1, .int (nI n))]) dX8_tear_11 rfl (Nat.le_of_ble_eq_true rfl) rfl ?_
  refine g_aload_n (pc := 12) dX8_tear_12 1 rfl rfl ?_
  refine g_ifnull (pc := 13) dX8_tear_13 ?_
  refine g_iload_n (pc := 16) dX8_tear_16 0 rfl rfl ?_
  refine g_if_eq (pc := 17) (tgt := 22) dX8_tear_17 (by decide) (fun c_17 => ?_) (fun c_17 => ?_)
  · exact absurd c_17 (by decide)
  · refine g_iload_n (pc := 20) dX8_tear_20 0 rfl rfl ?_
    exact g_iret (pc := 21) hM rfl rfl ⟨rfl, rfl⟩ dX8_tear_21
set_option maxRecDepth 100000 in
set_option maxHeartbeats 4000000 in
theorem c_X8_tear_ok (E : En) (S : St) (n : Nat) (hn : n < 6) (h : misF S (10 + n) = false) : CTe E i_X8_tear S [.ref (eA E 0), .int (nI n)] (sI S (10 + n) 1 (-1)) (some (.int 1)) := by
  refine ct_of [(0, .ref (eA E 0)), (1, .int (nI n))] (by decide +kernel) (Nat.le_of_ble_eq_true rfl) rfl (fun X hM => ?_)
  refine g_aload_n (pc := 0) dX8_tear_0 0 rfl rfl ?_
  refine g_iload_n (pc := 1) dX8_tear_1 1 rfl rfl ?_
  refine g_invV (pc := 2) j_X8_rowOf mw_X8_64 dX8_tear_2 (rcv_X8) (by rfl) (c_X8_rowOf_n E S n (by first | assumption | omega | rfl)) (Nat.le_of_ble_eq_true rfl) (Nat.le_of_ble_eq_true rfl) (by rfl) (Nat.le_of_ble_eq_true rfl) ?_
  refine g_astore_n (pc := 5) (L' := [(2, .ref (eA E (10 + n))), (0, .ref (eA E 0)), (1, .int (nI n))]) dX8_tear_5 rfl (Nat.le_of_ble_eq_true rfl) rfl ?_
  refine g_aload_n (pc := 6) dX8_tear_6 1 rfl rfl ?_
  refine g_aload_n (pc := 7) dX8_tear_7 0 rfl rfl ?_
  refine g_invV (pc := 8) j_X8_refusedMissing mw_X8_84 dX8_tear_8 (rcv_X8) (by rfl) (c_X8_refusedMissing_ok E S (10 + n) (kd_r (by omega)) (by first | assumption | omega | rfl)) (Nat.le_of_ble_eq_true rfl) (Nat.le_of_ble_eq_true rfl) (by rfl) (Nat.le_of_ble_eq_true rfl) ?_
  refine g_istore_n (pc := 11) (L' := [(3, .int 0), (2, .ref (eA E (10 + n))), (0, .ref (eA E 0)), (1, .int (nI n))]) dX8_tear_11 rfl (Nat.le_of_ble_eq_true rfl) rfl ?_
  refine g_aload_n (pc := 12) dX8_tear_12 1 rfl rfl ?_
  refine g_ifnull (pc := 13) dX8_tear_13 ?_
  refine g_iload_n (pc := 16) dX8_tear_16 0 rfl rfl ?_
  refine g_if_eq (pc := 17) (tgt := 22) dX8_tear_17 (by decide) (fun c_17 => ?_) (fun c_17 => ?_)
  · refine g_aload_n (pc := 22) dX8_tear_22 1 rfl rfl ?_
    refine g_invN (pc := 23) j_X5_remove mw_X8_88 dX8_tear_23 (rcv_X5 (kd_r (by omega))) (by rfl) (c_X5_remove E S (10 + n) (kd_r (by omega))) (Nat.le_of_ble_eq_true rfl) (Nat.le_of_ble_eq_true rfl) (by rfl) (Nat.le_of_ble_eq_true rfl) ?_
    refine g_iconst (pc := 26) (v := 1) dX8_tear_26 (by decide) ?_
    exact g_iret (pc := 27) hM rfl rfl ⟨rfl, rfl⟩ dX8_tear_27
  · exact absurd c_17 (by decide)
set_option maxRecDepth 100000 in
set_option maxHeartbeats 4000000 in
theorem c_X8_mean_bad (E : En) (S : St) (r : Int32) (hr : idxF 6 r = false) : CTe E i_X8_mean S [.ref (eA E 0), .int r] S (some (.int (-1))) := by
  refine ct_of [(0, .ref (eA E 0)), (1, .int r)] (by decide +kernel) (Nat.le_of_ble_eq_true rfl) rfl (fun X hM => ?_)
  refine g_aload_n (pc := 0) dX8_mean_0 0 rfl rfl ?_
  refine g_iload_n (pc := 1) dX8_mean_1 1 rfl rfl ?_
  refine g_invV (pc := 2) j_X8_rowOf mw_X8_64 dX8_mean_2 (rcv_X8) (by rfl) (c_X8_rowOf_0 E S r (by first | assumption | omega | rfl)) (Nat.le_of_ble_eq_true rfl) (Nat.le_of_ble_eq_true rfl) (by rfl) (Nat.le_of_ble_eq_true rfl) ?_
  refine g_astore_nN (pc := 5) (L' := [(2, .null), (0, .ref (eA E 0)), (1, .int r)]) dX8_mean_5 rfl (Nat.le_of_ble_eq_true rfl) rfl ?_
  refine g_aload_n (pc := 6) dX8_mean_6 1 rfl rfl ?_
  refine g_aload_nN (pc := 7) dX8_mean_7 0 rfl rfl ?_
  refine g_invV (pc := 8) j_X8_refusedMissing mw_X8_84 dX8_mean_8 (rcv_X8) (by rfl) (c_X8_refusedMissing_0 E S ) (Nat.le_of_ble_eq_true rfl) (Nat.le_of_ble_eq_true rfl) (by rfl) (Nat.le_of_ble_eq_true rfl) ?_
  refine g_istore_n (pc := 11) (L' := [(3, .int (-1)), (2, .null), (0, .ref (eA E 0)), (1, .int r)]) dX8_mean_11 rfl (Nat.le_of_ble_eq_true rfl) rfl ?_
  refine g_aload_nN (pc := 12) dX8_mean_12 1 rfl rfl ?_
  refine g_ifnullN (pc := 13) (tgt := 20) dX8_mean_13 (by decide) ?_
  refine g_iload_n (pc := 20) dX8_mean_20 0 rfl rfl ?_
  exact g_iret (pc := 21) hM rfl rfl ⟨rfl, rfl⟩ dX8_mean_21
set_option maxRecDepth 100000 in
set_option maxHeartbeats 4000000 in
theorem c_X8_mean_m (E : En) (S : St) (n : Nat) (hn : n < 6) (h : misF S (10 + n) = true) : CTe E i_X8_mean S [.ref (eA E 0), .int (nI n)] (refS S 1) (some (.int (-3))) := by
  refine ct_of [(0, .ref (eA E 0)), (1, .int (nI n))] (by decide +kernel) (Nat.le_of_ble_eq_true rfl) rfl (fun X hM => ?_)
  refine g_aload_n (pc := 0) dX8_mean_0 0 rfl rfl ?_
  refine g_iload_n (pc := 1) dX8_mean_1 1 rfl rfl ?_
  refine g_invV (pc := 2) j_X8_rowOf mw_X8_64 dX8_mean_2 (rcv_X8) (by rfl) (c_X8_rowOf_n E S n (by first | assumption | omega | rfl)) (Nat.le_of_ble_eq_true rfl) (Nat.le_of_ble_eq_true rfl) (by rfl) (Nat.le_of_ble_eq_true rfl) ?_
  refine g_astore_n (pc := 5) (L' := [(2, .ref (eA E (10 + n))), (0, .ref (eA E 0)), (1, .int (nI n))]) dX8_mean_5 rfl (Nat.le_of_ble_eq_true rfl) rfl ?_
  refine g_aload_n (pc := 6) dX8_mean_6 1 rfl rfl ?_
  refine g_aload_n (pc := 7) dX8_mean_7 0 rfl rfl ?_
  refine g_invV (pc := 8) j_X8_refusedMissing mw_X8_84 dX8_mean_8 (rcv_X8) (by rfl) (c_X8_refusedMissing_m E S (10 + n) (kd_r (by omega)) (by first | assumption | omega | rfl)) (Nat.le_of_ble_eq_true rfl) (Nat.le_of_ble_eq_true rfl) (by rfl) (Nat.le_of_ble_eq_true rfl) ?_
  refine g_istore_n (pc := 11) (L' := [(3, .int (-3)), (2, .ref (eA E (10 + n))), (0, .ref (eA E 0)), (1, .int (nI n))]) dX8_mean_11 rfl (Nat.le_of_ble_eq_true rfl) rfl ?_
  refine g_aload_n (pc := 12) dX8_mean_12 1 rfl rfl ?_
  refine g_ifnull (pc := 13) dX8_mean_13 ?_
  refine g_iload_n (pc := 16) dX8_mean_16 0 rfl rfl ?_
  refine g_if_eq (pc := 17) (tgt := 22) dX8_mean_17 (by decide) (fun c_17 => ?_) (fun c_17 => ?_)
  · exact absurd c_17 (by decide)
  · refine g_iload_n (pc := 20) dX8_mean_20 0 rfl rfl ?_
    exact g_iret (pc := 21) hM rfl rfl ⟨rfl, rfl⟩ dX8_mean_21
set_option maxRecDepth 100000 in
set_option maxHeartbeats 4000000 in
theorem c_X8_mean_0 (E : En) (S : St) (n : Nat) (hn : n < 6) (hm : gI S (10 + n) 1 = nI 0) : CTe E i_X8_mean S [.ref (eA E 0), .int (nI n)] (refS S 4) (some (.int (-3))) := by
  refine ct_of [(0, .ref (eA E 0)), (1, .int (nI n))] (by decide +kernel) (Nat.le_of_ble_eq_true rfl) rfl (fun X hM => ?_)
  refine g_aload_n (pc := 0) dX8_mean_0 0 rfl rfl ?_
  refine g_iload_n (pc := 1) dX8_mean_1 1 rfl rfl ?_
  refine g_invV (pc := 2) j_X8_rowOf mw_X8_64 dX8_mean_2 (rcv_X8) (by rfl) (c_X8_rowOf_n E S n (by first | assumption | omega | rfl)) (Nat.le_of_ble_eq_true rfl) (Nat.le_of_ble_eq_true rfl) (by rfl) (Nat.le_of_ble_eq_true rfl) ?_
  refine g_astore_n (pc := 5) (L' := [(2, .ref (eA E (10 + n))), (0, .ref (eA E 0)), (1, .int (nI n))]) dX8_mean_5 rfl (Nat.le_of_ble_eq_true rfl) rfl ?_
  refine g_aload_n (pc := 6) dX8_mean_6 1 rfl rfl ?_
  refine g_aload_n (pc := 7) dX8_mean_7 0 rfl rfl ?_
  refine g_invV (pc := 8) j_X8_refusedMissing mw_X8_84 dX8_mean_8 (rcv_X8) (by rfl) (c_X8_refusedMissing_ok E S (10 + n) (kd_r (by omega)) (mis_of hm (by omega))) (Nat.le_of_ble_eq_true rfl) (Nat.le_of_ble_eq_true rfl) (by rfl) (Nat.le_of_ble_eq_true rfl) ?_
  refine g_istore_n (pc := 11) (L' := [(3, .int 0), (2, .ref (eA E (10 + n))), (0, .ref (eA E 0)), (1, .int (nI n))]) dX8_mean_11 rfl (Nat.le_of_ble_eq_true rfl) rfl ?_
  refine g_aload_n (pc := 12) dX8_mean_12 1 rfl rfl ?_
  refine g_ifnull (pc := 13) dX8_mean_13 ?_
  refine g_iload_n (pc := 16) dX8_mean_16 0 rfl rfl ?_
  refine g_if_eq (pc := 17) (tgt := 22) dX8_mean_17 (by decide) (fun c_17 => ?_) (fun c_17 => ?_)
  · refine g_aload_n (pc := 22) dX8_mean_22 1 rfl rfl ?_
    refine g_invV (pc := 23) j_X5_size mw_X8_106 dX8_mean_23 (rcv_X5 (kd_r (by omega))) (by rfl) (c_X5_size E S (10 + n) (kd_r (by omega))) (Nat.le_of_ble_eq_true rfl) (Nat.le_of_ble_eq_true rfl) (by rfl) (Nat.le_of_ble_eq_true rfl) ?_
    refine g_istore (pc := 26) (L' := [(4, .int (gI S (10 + n) 1)), (3, .int 0), (2, .ref (eA E (10 + n))), (0, .ref (eA E 0)), (1, .int (nI n))]) dX8_mean_26 (Nat.le_of_ble_eq_true rfl) rfl ?_
    refine g_iload (pc := 28) dX8_mean_28 0 rfl ?_
    refine g_if_ne (pc := 30) (tgt := 39) dX8_mean_30 (by decide) (fun c_30 => ?_) (fun c_30 => ?_)
    · exact absurd (hm.trans nI_0) c_30
    · refine g_aload_n (pc := 33) dX8_mean_33 3 rfl rfl ?_
      refine g_iconst (pc := 34) (v := 4) dX8_mean_34 (by decide) ?_
      refine g_invV (pc := 35) j_X8_refuse mw_X8_91 dX8_mean_35 (rcv_X8) (by rfl) (c_X8_refuse E S 4 (by first | assumption | omega | rfl)) (Nat.le_of_ble_eq_true rfl) (Nat.le_of_ble_eq_true rfl) (by rfl) (Nat.le_of_ble_eq_true rfl) ?_
      exact g_iret (pc := 38) hM rfl rfl ⟨rfl, rfl⟩ dX8_mean_38
  · exact absurd c_17 (by decide)
set_option maxRecDepth 100000 in
set_option maxHeartbeats 4000000 in
theorem c_X8_mean_ok (E : En) (S : St) (n m : Nat) (hn : n < 6) (hm : gI S (10 + n) 1 = nI m) (h0 : 0 < m) (hm2 : m ≤ 40) : CTe E i_X8_mean S [.ref (eA E 0), .int (nI n)] (sI S 0 8 ((sumL (gA S (10 + n + 10)) m / lN m).toInt32)) (some (.int 1)) := by
  refine ct_of [(0, .ref (eA E 0)), (1, .int (nI n))] (by decide +kernel) (Nat.le_of_ble_eq_true rfl) rfl (fun X hM => ?_)
  refine g_aload_n (pc := 0) dX8_mean_0 0 rfl rfl ?_
  refine g_iload_n (pc := 1) dX8_mean_1 1 rfl rfl ?_
  refine g_invV (pc := 2) j_X8_rowOf mw_X8_64 dX8_mean_2 (rcv_X8) (by rfl) (c_X8_rowOf_n E S n (by first | assumption | omega | rfl)) (Nat.le_of_ble_eq_true rfl) (Nat.le_of_ble_eq_true rfl) (by rfl) (Nat.le_of_ble_eq_true rfl) ?_
  refine g_astore_n (pc := 5) (L' := [(2, .ref (eA E (10 + n))), (0, .ref (eA E 0)), (1, .int (nI n))]) dX8_mean_5 rfl (Nat.le_of_ble_eq_true rfl) rfl ?_
  refine g_aload_n (pc := 6) dX8_mean_6 1 rfl rfl ?_
  refine g_aload_n (pc := 7) dX8_mean_7 0 rfl rfl ?_
  refine g_invV (pc := 8) j_X8_refusedMissing mw_X8_84 dX8_mean_8 (rcv_X8) (by rfl) (c_X8_refusedMissing_ok E S (10 + n) (kd_r (by omega)) (mis_of hm (by omega))) (Nat.le_of_ble_eq_true rfl) (Nat.le_of_ble_eq_true rfl) (by rfl) (Nat.le_of_ble_eq_true rfl) ?_
  refine g_istore_n (pc := 11) (L' := [(3, .int 0), (2, .ref (eA E (10 + n))), (0, .ref (eA E 0)), (1, .int (nI n))]) dX8_mean_11 rfl (Nat.le_of_ble_eq_true rfl) rfl ?_
  refine g_aload_n (pc := 12) dX8_mean_12 1 rfl rfl ?_
  refine g_ifnull (pc := 13) dX8_mean_13 ?_
  refine g_iload_n (pc := 16) dX8_mean_16 0 rfl rfl ?_
  refine g_if_eq (pc := 17) (tgt := 22) dX8_mean_17 (by decide) (fun c_17 => ?_) (fun c_17 => ?_)
  · refine g_aload_n (pc := 22) dX8_mean_22 1 rfl rfl ?_
    refine g_invV (pc := 23) j_X5_size mw_X8_106 dX8_mean_23 (rcv_X5 (kd_r (by omega))) (by rfl) (c_X5_size E S (10 + n) (kd_r (by omega))) (Nat.le_of_ble_eq_true rfl) (Nat.le_of_ble_eq_true rfl) (by rfl) (Nat.le_of_ble_eq_true rfl) ?_
    refine g_istore (pc := 26) (L' := [(4, .int (gI S (10 + n) 1)), (3, .int 0), (2, .ref (eA E (10 + n))), (0, .ref (eA E 0)), (1, .int (nI n))]) dX8_mean_26 (Nat.le_of_ble_eq_true rfl) rfl ?_
    refine g_iload (pc := 28) dX8_mean_28 0 rfl ?_
    refine g_if_ne (pc := 30) (tgt := 39) dX8_mean_30 (by decide) (fun c_30 => ?_) (fun c_30 => ?_)
    · refine g_aload_n (pc := 39) dX8_mean_39 3 rfl rfl ?_
      refine g_aload_n (pc := 40) dX8_mean_40 2 rfl rfl ?_
      refine g_invV (pc := 41) j_X5_total mw_X8_110 dX8_mean_41 (rcv_X5 (kd_r (by omega))) (by rfl) (c_X5_total E S (10 + n) m (kd_r (by omega)) hm (by rw [ln_r hn]; exact hm2)) (Nat.le_of_ble_eq_true rfl) (Nat.le_of_ble_eq_true rfl) (by rfl) (Nat.le_of_ble_eq_true rfl) ?_
      refine g_iload (pc := 44) dX8_mean_44 0 rfl ?_
      refine g_i2l (pc := 46) dX8_mean_46 ?_
      refine g_ldiv (pc := 47) dX8_mean_47 (by rw [hm, nI_l (by omega)]; intro q; have := congrArg Int64.toInt q; rw [lN_toInt (by omega)] at this; have h9 : (0 : Int64).toInt = 0 := rfl; omega) ?_
      refine g_l2i (pc := 48) dX8_mean_48 ?_
      refine pf_X8_51 (pc := 49) rfl dX8_mean_49 ?_
      refine g_iconst (pc := 52) (v := 1) dX8_mean_52 (by decide) ?_
      exact g_iret (pc := 53) hM rfl rfl ⟨by rw [hm, nI_l (by omega)], rfl⟩ dX8_mean_53
    · exact absurd (hm.symm.trans c_30) (nI_ne0 h0 (by omega))
  · exact absurd c_17 (by decide)
set_option maxRecDepth 100000 in
set_option maxHeartbeats 4000000 in
theorem c_X8_fault_bad (E : En) (S : St) (r : Int32) (hr : idxF 4 r = false) : CTe E i_X8_fault S [.ref (eA E 0), .int r] S (some (.int (-1))) := by
  refine ct_of [(0, .ref (eA E 0)), (1, .int r)] (by decide +kernel) (Nat.le_of_ble_eq_true rfl) rfl (fun X hM => ?_)
  refine g_aload_n (pc := 0) dX8_fault_0 0 rfl rfl ?_
  refine g_iload_n (pc := 1) dX8_fault_1 1 rfl rfl ?_
  refine g_invV (pc := 2) j_X8_textOf mw_X8_114 dX8_fault_2 (rcv_X8) (by rfl) (c_X8_textOf_0 E S r (by first | assumption | omega | rfl)) (Nat.le_of_ble_eq_true rfl) (Nat.le_of_ble_eq_true rfl) (by rfl) (Nat.le_of_ble_eq_true rfl) ?_
  refine g_astore_nN (pc := 5) (L' := [(2, .null), (0, .ref (eA E 0)), (1, .int r)]) dX8_fault_5 rfl (Nat.le_of_ble_eq_true rfl) rfl ?_
  refine g_aload_n (pc := 6) dX8_fault_6 1 rfl rfl ?_
  refine g_aload_nN (pc := 7) dX8_fault_7 0 rfl rfl ?_
  refine g_invV (pc := 8) j_X8_refusedMissing mw_X8_84 dX8_fault_8 (rcv_X8) (by rfl) (c_X8_refusedMissing_0 E S ) (Nat.le_of_ble_eq_true rfl) (Nat.le_of_ble_eq_true rfl) (by rfl) (Nat.le_of_ble_eq_true rfl) ?_
  refine g_istore_n (pc := 11) (L' := [(3, .int (-1)), (2, .null), (0, .ref (eA E 0)), (1, .int r)]) dX8_fault_11 rfl (Nat.le_of_ble_eq_true rfl) rfl ?_
  refine g_aload_nN (pc := 12) dX8_fault_12 1 rfl rfl ?_
  refine g_ifnullN (pc := 13) (tgt := 20) dX8_fault_13 (by decide) ?_
  refine g_iload_n (pc := 20) dX8_fault_20 0 rfl rfl ?_
  exact g_iret (pc := 21) hM rfl rfl ⟨rfl, rfl⟩ dX8_fault_21
set_option maxRecDepth 100000 in
set_option maxHeartbeats 4000000 in
theorem c_X8_fault_m (E : En) (S : St) (n : Nat) (hn : n < 4) (h : misF S (16 + n) = true) : CTe E i_X8_fault S [.ref (eA E 0), .int (nI n)] (refS S 1) (some (.int (-3))) := by
  refine ct_of [(0, .ref (eA E 0)), (1, .int (nI n))] (by decide +kernel) (Nat.le_of_ble_eq_true rfl) rfl (fun X hM => ?_)
  refine g_aload_n (pc := 0) dX8_fault_0 0 rfl rfl ?_
  refine g_iload_n (pc := 1) dX8_fault_1 1 rfl rfl ?_
  refine g_invV (pc := 2) j_X8_textOf mw_X8_114 dX8_fault_2 (rcv_X8) (by rfl) (c_X8_textOf_n E S n (by first | assumption | omega | rfl)) (Nat.le_of_ble_eq_true rfl) (Nat.le_of_ble_eq_true rfl) (by rfl) (Nat.le_of_ble_eq_true rfl) ?_
  refine g_astore_n (pc := 5) (L' := [(2, .ref (eA E (16 + n))), (0, .ref (eA E 0)), (1, .int (nI n))]) dX8_fault_5 rfl (Nat.le_of_ble_eq_true rfl) rfl ?_
  refine g_aload_n (pc := 6) dX8_fault_6 1 rfl rfl ?_
  refine g_aload_n (pc := 7) dX8_fault_7 0 rfl rfl ?_
  refine g_invV (pc := 8) j_X8_refusedMissing mw_X8_84 dX8_fault_8 (rcv_X8) (by rfl) (c_X8_refusedMissing_m E S (16 + n) (kd_k (by omega)) (by first | assumption | omega | rfl)) (Nat.le_of_ble_eq_true rfl) (Nat.le_of_ble_eq_true rfl) (by rfl) (Nat.le_of_ble_eq_true rfl) ?_
  refine g_istore_n (pc := 11) (L' := [(3, .int (-3)), (2, .ref (eA E (16 + n))), (0, .ref (eA E 0)), (1, .int (nI n))]) dX8_fault_11 rfl (Nat.le_of_ble_eq_true rfl) rfl ?_
  refine g_aload_n (pc := 12) dX8_fault_12 1 rfl rfl ?_
  refine g_ifnull (pc := 13) dX8_fault_13 ?_
  refine g_iload_n (pc := 16) dX8_fault_16 0 rfl rfl ?_
  refine g_if_eq (pc := 17) (tgt := 22) dX8_fault_17 (by decide) (fun c_17 => ?_) (fun c_17 => ?_)
  · exact absurd c_17 (by decide)
  · refine g_iload_n (pc := 20) dX8_fault_20 0 rfl rfl ?_
    exact g_iret (pc := 21) hM rfl rfl ⟨rfl, rfl⟩ dX8_fault_21
set_option maxRecDepth 100000 in
set_option maxHeartbeats 4000000 in
theorem c_X8_fault_ok (E : En) (S : St) (n m : Nat) (hn : n < 4) (hm : gI S (16 + n) 1 = nI m) (hm2 : m ≤ 60) : CTe E i_X8_fault S [.ref (eA E 0), .int (nI n)] S (some (.int (ffR S (16 + n) (m + 7) 0 0))) := by
  refine ct_of [(0, .ref (eA E 0)), (1, .int (nI n))] (by decide +kernel) (Nat.le_of_ble_eq_true rfl) rfl (fun X hM => ?_)
  refine g_aload_n (pc := 0) dX8_fault_0 0 rfl rfl ?_
  refine g_iload_n (pc := 1) dX8_fault_1 1 rfl rfl ?_
  refine g_invV (pc := 2) j_X8_textOf mw_X8_114 dX8_fault_2 (rcv_X8) (by rfl) (c_X8_textOf_n E S n (by first | assumption | omega | rfl)) (Nat.le_of_ble_eq_true rfl) (Nat.le_of_ble_eq_true rfl) (by rfl) (Nat.le_of_ble_eq_true rfl) ?_
  refine g_astore_n (pc := 5) (L' := [(2, .ref (eA E (16 + n))), (0, .ref (eA E 0)), (1, .int (nI n))]) dX8_fault_5 rfl (Nat.le_of_ble_eq_true rfl) rfl ?_
  refine g_aload_n (pc := 6) dX8_fault_6 1 rfl rfl ?_
  refine g_aload_n (pc := 7) dX8_fault_7 0 rfl rfl ?_
  refine g_invV (pc := 8) j_X8_refusedMissing mw_X8_84 dX8_fault_8 (rcv_X8) (by rfl) (c_X8_refusedMissing_ok E S (16 + n) (kd_k (by omega)) (mis_of hm (by omega))) (Nat.le_of_ble_eq_true rfl) (Nat.le_of_ble_eq_true rfl) (by rfl) (Nat.le_of_ble_eq_true rfl) ?_
  refine g_istore_n (pc := 11) (L' := [(3, .int 0), (2, .ref (eA E (16 + n))), (0, .ref (eA E 0)), (1, .int (nI n))]) dX8_fault_11 rfl (Nat.le_of_ble_eq_true rfl) rfl ?_
  refine g_aload_n (pc := 12) dX8_fault_12 1 rfl rfl ?_
  refine g_ifnull (pc := 13) dX8_fault_13 ?_
  refine g_iload_n (pc := 16) dX8_fault_16 0 rfl rfl ?_
  refine g_if_eq (pc := 17) (tgt := 22) dX8_fault_17 (by decide) (fun c_17 => ?_) (fun c_17 => ?_)
  · refine g_aload_n (pc := 22) dX8_fault_22 1 rfl rfl ?_
    refine g_invS (pc := 23) j_X7_firstFault mw_X8_117 dX8_fault_23 (by rfl) (c_X7_firstFault E S (16 + n) m (kd_k (by omega)) hm (by rw [ln_t hn]; exact hm2)) (Nat.le_of_ble_eq_true rfl) (Nat.le_of_ble_eq_true rfl) (by rfl) (Nat.le_of_ble_eq_true rfl) ?_
    exact g_iret (pc := 26) hM rfl rfl ⟨rfl, rfl⟩ dX8_fault_26
  · exact absurd c_17 (by decide)
set_option maxRecDepth 100000 in
set_option maxHeartbeats 4000000 in
theorem c_X8_bank_bad (E : En) (S : St) (r : Int32) (hr : idxF 4 r = false) : CTe E i_X8_bank S [.ref (eA E 0), .int r] S (some (.int (-1))) := by
  refine ct_of [(0, .ref (eA E 0)), (1, .int r)] (by decide +kernel) (Nat.le_of_ble_eq_true rfl) rfl (fun X hM => ?_)
  refine g_aload_n (pc := 0) dX8_bank_0 0 rfl rfl ?_
  refine g_iload_n (pc := 1) dX8_bank_1 1 rfl rfl ?_
  refine g_invV (pc := 2) j_X8_textOf mw_X8_114 dX8_bank_2 (rcv_X8) (by rfl) (c_X8_textOf_0 E S r (by first | assumption | omega | rfl)) (Nat.le_of_ble_eq_true rfl) (Nat.le_of_ble_eq_true rfl) (by rfl) (Nat.le_of_ble_eq_true rfl) ?_
  refine g_astore_nN (pc := 5) (L' := [(2, .null), (0, .ref (eA E 0)), (1, .int r)]) dX8_bank_5 rfl (Nat.le_of_ble_eq_true rfl) rfl ?_
  refine g_aload_n (pc := 6) dX8_bank_6 1 rfl rfl ?_
  refine g_aload_nN (pc := 7) dX8_bank_7 0 rfl rfl ?_
  refine g_invV (pc := 8) j_X8_refusedMissing mw_X8_84 dX8_bank_8 (rcv_X8) (by rfl) (c_X8_refusedMissing_0 E S ) (Nat.le_of_ble_eq_true rfl) (Nat.le_of_ble_eq_true rfl) (by rfl) (Nat.le_of_ble_eq_true rfl) ?_
  refine g_istore_n (pc := 11) (L' := [(3, .int (-1)), (2, .null), (0, .ref (eA E 0)), (1, .int r)]) dX8_bank_11 rfl (Nat.le_of_ble_eq_true rfl) rfl ?_
  refine g_aload_nN (pc := 12) dX8_bank_12 1 rfl rfl ?_
  refine g_ifnullN (pc := 13) (tgt := 20) dX8_bank_13 (by decide) ?_
  refine g_iload_n (pc := 20) dX8_bank_20 0 rfl rfl ?_
  exact g_iret (pc := 21) hM rfl rfl ⟨rfl, rfl⟩ dX8_bank_21
set_option maxRecDepth 100000 in
set_option maxHeartbeats 4000000 in
theorem c_X8_bank_m (E : En) (S : St) (n : Nat) (hn : n < 4) (h : misF S (16 + n) = true) : CTe E i_X8_bank S [.ref (eA E 0), .int (nI n)] (refS S 1) (some (.int (-3))) := by
  refine ct_of [(0, .ref (eA E 0)), (1, .int (nI n))] (by decide +kernel) (Nat.le_of_ble_eq_true rfl) rfl (fun X hM => ?_)
  refine g_aload_n (pc := 0) dX8_bank_0 0 rfl rfl ?_
  refine g_iload_n (pc := 1) dX8_bank_1 1 rfl rfl ?_
  refine g_invV (pc := 2) j_X8_textOf mw_X8_114 dX8_bank_2 (rcv_X8) (by rfl) (c_X8_textOf_n E S n (by first | assumption | omega | rfl)) (Nat.le_of_ble_eq_true rfl) (Nat.le_of_ble_eq_true rfl) (by rfl) (Nat.le_of_ble_eq_true rfl) ?_
  refine g_astore_n (pc := 5) (L' := [(2, .ref (eA E (16 + n))), (0, .ref (eA E 0)), (1, .int (nI n))]) dX8_bank_5 rfl (Nat.le_of_ble_eq_true rfl) rfl ?_
  refine g_aload_n (pc := 6) dX8_bank_6 1 rfl rfl ?_
  refine g_aload_n (pc := 7) dX8_bank_7 0 rfl rfl ?_
  refine g_invV (pc := 8) j_X8_refusedMissing mw_X8_84 dX8_bank_8 (rcv_X8) (by rfl) (c_X8_refusedMissing_m E S (16 + n) (kd_k (by omega)) (by first | assumption | omega | rfl)) (Nat.le_of_ble_eq_true rfl) (Nat.le_of_ble_eq_true rfl) (by rfl) (Nat.le_of_ble_eq_true rfl) ?_
  refine g_istore_n (pc := 11) (L' := [(3, .int (-3)), (2, .ref (eA E (16 + n))), (0, .ref (eA E 0)), (1, .int (nI n))]) dX8_bank_11 rfl (Nat.le_of_ble_eq_true rfl) rfl ?_
  refine g_aload_n (pc := 12) dX8_bank_12 1 rfl rfl ?_
  refine g_ifnull (pc := 13) dX8_bank_13 ?_
  refine g_iload_n (pc := 16) dX8_bank_16 0 rfl rfl ?_
  refine g_if_eq (pc := 17) (tgt := 22) dX8_bank_17 (by decide) (fun c_17 => ?_) (fun c_17 => ?_)
  · exact absurd c_17 (by decide)
  · refine g_iload_n (pc := 20) dX8_bank_20 0 rfl rfl ?_
    exact g_iret (pc := 21) hM rfl rfl ⟨rfl, rfl⟩ dX8_bank_21
set_option maxRecDepth 100000 in
set_option maxHeartbeats 4000000 in
theorem c_X8_bank_f (E : En) (S : St) (n m : Nat) (hn : n < 4) (hm : gI S (16 + n) 1 = nI m) (hm2 : m ≤ 60) (h : ¬ ffR S (16 + n) (m + 7) 0 0 = -9) : CTe E i_X8_bank S [.ref (eA E 0), .int (nI n)] S (some (.int (-4))) := by
  refine ct_of [(0, .ref (eA E 0)), (1, .int (nI n))] (by decide +kernel) (Nat.le_of_ble_eq_true rfl) rfl (fun X hM => ?_)
  refine g_aload_n (pc := 0) dX8_bank_0 0 rfl rfl ?_
  refine g_iload_n (pc := 1) dX8_bank_1 1 rfl rfl ?_
  refine g_invV (pc := 2) j_X8_textOf mw_X8_114 dX8_bank_2 (rcv_X8) (by rfl) (c_X8_textOf_n E S n (by first | assumption | omega | rfl)) (Nat.le_of_ble_eq_true rfl) (Nat.le_of_ble_eq_true rfl) (by rfl) (Nat.le_of_ble_eq_true rfl) ?_
  refine g_astore_n (pc := 5) (L' := [(2, .ref (eA E (16 + n))), (0, .ref (eA E 0)), (1, .int (nI n))]) dX8_bank_5 rfl (Nat.le_of_ble_eq_true rfl) rfl ?_
  refine g_aload_n (pc := 6) dX8_bank_6 1 rfl rfl ?_
  refine g_aload_n (pc := 7) dX8_bank_7 0 rfl rfl ?_
  refine g_invV (pc := 8) j_X8_refusedMissing mw_X8_84 dX8_bank_8 (rcv_X8) (by rfl) (c_X8_refusedMissing_ok E S (16 + n) (kd_k (by omega)) (mis_of hm (by omega))) (Nat.le_of_ble_eq_true rfl) (Nat.le_of_ble_eq_true rfl) (by rfl) (Nat.le_of_ble_eq_true rfl) ?_
  refine g_istore_n (pc := 11) (L' := [(3, .int 0), (2, .ref (eA E (16 + n))), (0, .ref (eA E 0)), (1, .int (nI n))]) dX8_bank_11 rfl (Nat.le_of_ble_eq_true rfl) rfl ?_
  refine g_aload_n (pc := 12) dX8_bank_12 1 rfl rfl ?_
  refine g_ifnull (pc := 13) dX8_bank_13 ?_
  refine g_iload_n (pc := 16) dX8_bank_16 0 rfl rfl ?_
  refine g_if_eq (pc := 17) (tgt := 22) dX8_bank_17 (by decide) (fun c_17 => ?_) (fun c_17 => ?_)
  · refine g_aload_n (pc := 22) dX8_bank_22 1 rfl rfl ?_
    refine g_invS (pc := 23) j_X7_firstFault mw_X8_117 dX8_bank_23 (by rfl) (c_X7_firstFault E S (16 + n) m (kd_k (by omega)) hm (by rw [ln_t hn]; exact hm2)) (Nat.le_of_ble_eq_true rfl) (Nat.le_of_ble_eq_true rfl) (by rfl) (Nat.le_of_ble_eq_true rfl) ?_
    refine g_bipush (pc := 26) (v := -9) dX8_bank_26 (by decide) ?_
    refine g_icmp_eq (pc := 28) (tgt := 34) dX8_bank_28 (by decide) (fun c_28 => ?_) (fun c_28 => ?_)
    · exact absurd c_28 h
    · refine g_bipush (pc := 31) (v := -4) dX8_bank_31 (by decide) ?_
      exact g_iret (pc := 33) hM rfl rfl ⟨rfl, rfl⟩ dX8_bank_33
  · exact absurd c_17 (by decide)
set_option maxRecDepth 100000 in
set_option maxHeartbeats 4000000 in
theorem c_X8_bank_ok (E : En) (S : St) (n m : Nat) (hn : n < 4) (hm : gI S (16 + n) 1 = nI m) (hm2 : m ≤ 60) (h : ffR S (16 + n) (m + 7) 0 0 = -9) : CTe E i_X8_bank S [.ref (eA E 0), .int (nI n)] (clrK (rdR 30 (16 + n) (m + 7) 0 (sI (sI (sI (sI S 30 6 0) 30 7 0) 30 8 0) 30 9 0)) 3) (some (.int (gI (clrK (rdR 30 (16 + n) (m + 7) 0 (sI (sI (sI (sI S 30 6 0) 30 7 0) 30 8 0) 30 9 0)) 3) 30 6))) := by
  refine ct_of [(0, .ref (eA E 0)), (1, .int (nI n))] (by decide +kernel) (Nat.le_of_ble_eq_true rfl) rfl (fun X hM => ?_)
  refine g_aload_n (pc := 0) dX8_bank_0 0 rfl rfl ?_
  refine g_iload_n (pc := 1) dX8_bank_1 1 rfl rfl ?_
  refine g_invV (pc := 2) j_X8_textOf mw_X8_114 dX8_bank_2 (rcv_X8) (by rfl) (c_X8_textOf_n E S n (by first | assumption | omega | rfl)) (Nat.le_of_ble_eq_true rfl) (Nat.le_of_ble_eq_true rfl) (by rfl) (Nat.le_of_ble_eq_true rfl) ?_
  refine g_astore_n (pc := 5) (L' := [(2, .ref (eA E (16 + n))), (0, .ref (eA E 0)), (1, .int (nI n))]) dX8_bank_5 rfl (Nat.le_of_ble_eq_true rfl) rfl ?_
  refine g_aload_n (pc := 6) dX8_bank_6 1 rfl rfl ?_
  refine g_aload_n (pc := 7) dX8_bank_7 0 rfl rfl ?_
  refine g_invV (pc := 8) j_X8_refusedMissing mw_X8_84 dX8_bank_8 (rcv_X8) (by rfl) (c_X8_refusedMissing_ok E S (16 + n) (kd_k (by omega)) (mis_of hm (by omega))) (Nat.le_of_ble_eq_true rfl) (Nat.le_of_ble_eq_true rfl) (by rfl) (Nat.le_of_ble_eq_true rfl) ?_
  refine g_istore_n (pc := 11) (L' := [(3, .int 0), (2, .ref (eA E (16 + n))), (0, .ref (eA E 0)), (1, .int (nI n))]) dX8_bank_11 rfl (Nat.le_of_ble_eq_true rfl) rfl ?_
  refine g_aload_n (pc := 12) dX8_bank_12 1 rfl rfl ?_
  refine g_ifnull (pc := 13) dX8_bank_13 ?_
  refine g_iload_n (pc := 16) dX8_bank_16 0 rfl rfl ?_
  refine g_if_eq (pc := 17) (tgt := 22) dX8_bank_17 (by decide) (fun c_17 => ?_) (fun c_17 => ?_)
  · refine g_aload_n (pc := 22) dX8_bank_22 1 rfl rfl ?_
    refine g_invS (pc := 23) j_X7_firstFault mw_X8_117 dX8_bank_23 (by rfl) (c_X7_firstFault E S (16 + n) m (kd_k (by omega)) hm (by rw [ln_t hn]; exact hm2)) (Nat.le_of_ble_eq_true rfl) (Nat.le_of_ble_eq_true rfl) (by rfl) (Nat.le_of_ble_eq_true rfl) ?_
    refine g_bipush (pc := 26) (v := -9) dX8_bank_26 (by decide) ?_
    refine g_icmp_eq (pc := 28) (tgt := 34) dX8_bank_28 (by decide) (fun c_28 => ?_) (fun c_28 => ?_)
    · refine g_aload_n (pc := 34) dX8_bank_34 2 rfl rfl ?_
      refine gf_X8_21 (pc := 35) rfl dX8_bank_35 ?_
      refine g_aload_n (pc := 38) dX8_bank_38 1 rfl rfl ?_
      refine g_invSN (pc := 39) j_X7_readInto mw_X8_122 dX8_bank_39 (by rfl) (c_X7_readInto E S 30 (16 + n) m rfl (kd_k (by omega)) hm (by rw [ln_t hn]; exact hm2)) (Nat.le_of_ble_eq_true rfl) (Nat.le_of_ble_eq_true rfl) (by rfl) (Nat.le_of_ble_eq_true rfl) ?_
      refine g_iconst (pc := 42) (v := 0) dX8_bank_42 (by decide) ?_
      refine g_istore (pc := 43) (L' := [(4, .int 0), (3, .int 0), (2, .ref (eA E (16 + n))), (0, .ref (eA E 0)), (1, .int (nI n))]) dX8_bank_43 (Nat.le_of_ble_eq_true rfl) rfl ?_
      have H_45 : ∀ q : Nat, q ≤ 3 → G E X i_X8_bank (clrK (rdR 30 (16 + n) (m + 7) 0 (sI (sI (sI (sI S 30 6 0) 30 7 0) 30 8 0) 30 9 0)) q) 45 [(0, .ref (eA E 0)), (4, .int (nI q))] [] := by
        refine dn_ind 3 (fun q hn_45 ih_45 => ?_)
        refine g_iload (pc := 45) dX8_bank_45 1 rfl ?_
        refine g_aload_n (pc := 47) dX8_bank_47 0 rfl rfl ?_
        refine gf_X8_25 (pc := 48) rfl dX8_bank_48 ?_
        refine g_alenB (pc := 51) dX8_bank_51 ?_
        refine g_icmp_ge (pc := 52) (tgt := 79) dX8_bank_52 (by decide) (fun c_52 => ?_) (fun c_52 => ?_)
        · have k_52 := Int32.not_lt.mpr c_52
          have he_45 : q = 3 := Nat.le_antisymm hn_45 (by exact nle_of (N := 3) rfl rfl (by omega) (by omega) c_52)
          rw [he_45]
          refine g_aload_n (pc := 79) dX8_bank_79 0 rfl rfl ?_
          refine gf_X8_21 (pc := 80) rfl dX8_bank_80 ?_
          refine g_invV (pc := 83) j_X0_size mw_X8_133 dX8_bank_83 (rcv_X0 rfl) (by rfl) (c_X0_size E (clrK (rdR 30 (16 + n) (m + 7) 0 (sI (sI (sI (sI S 30 6 0) 30 7 0) 30 8 0) 30 9 0)) 3) 30 rfl) (Nat.le_of_ble_eq_true rfl) (Nat.le_of_ble_eq_true rfl) (by rfl) (Nat.le_of_ble_eq_true rfl) ?_
          exact g_iret (pc := 86) hM rfl rfl ⟨rfl, rfl⟩ dX8_bank_86
        · have k_52 := Int32.not_le.mp c_52
          have hlt_45 : q < 3 := by exact nlt_of (N := 3) rfl rfl (by omega) (by omega) c_52
          refine g_aload_n (pc := 55) dX8_bank_55 0 rfl rfl ?_
          refine g_iload (pc := 56) dX8_bank_56 1 rfl ?_
          refine g_invV (pc := 58) j_X8_keepOf mw_X8_126 dX8_bank_58 (rcv_X8) (by rfl) (c_X8_keepOf_n E (clrK (rdR 30 (16 + n) (m + 7) 0 (sI (sI (sI (sI S 30 6 0) 30 7 0) 30 8 0) 30 9 0)) q) q hlt_45) (Nat.le_of_ble_eq_true rfl) (Nat.le_of_ble_eq_true rfl) (by rfl) (Nat.le_of_ble_eq_true rfl) ?_
          refine g_astore (pc := 61) (L' := [(5, .ref (eA E (31 + q))), (0, .ref (eA E 0)), (4, .int (nI q))]) dX8_bank_61 (Nat.le_of_ble_eq_true rfl) rfl ?_
          refine g_aload (pc := 63) dX8_bank_63 0 rfl ?_
          refine g_ifnull (pc := 65) dX8_bank_65 ?_
          refine g_aload (pc := 68) dX8_bank_68 0 rfl ?_
          refine g_invN (pc := 70) j_X0_clear mw_X8_130 dX8_bank_70 (rcv_X0 (kd_kc (by omega))) (by rfl) (c_X0_clear E (clrK (rdR 30 (16 + n) (m + 7) 0 (sI (sI (sI (sI S 30 6 0) 30 7 0) 30 8 0) 30 9 0)) q) (31 + q) (kd_kc (by omega))) (Nat.le_of_ble_eq_true rfl) (Nat.le_of_ble_eq_true rfl) (by rfl) (Nat.le_of_ble_eq_true rfl) ?_
          refine g_iinc (pc := 73) (L' := [(4, .int (nI q + 1)), (5, .ref (eA E (31 + q))), (0, .ref (eA E 0))]) dX8_bank_73 (k := 2) rfl (v := nI q + 1) rfl (Nat.le_of_ble_eq_true rfl) rfl ?_
          refine g_goto (pc := 76) (tgt := 45) dX8_bank_76 (by decide) ?_
          refine g_sub (L' := [(0, .ref (eA E 0)), (4, .int (nI q + 1))]) [2, 0] rfl ?_
          exact g_eq rfl (by simp only [nI_1]) rfl (ih_45 hlt_45)
      refine g_sub (L' := [(0, .ref (eA E 0)), (4, .int 0)]) [3, 0] rfl ?_
      exact g_eq rfl rfl rfl (H_45 0 (Nat.zero_le _))
    · exact absurd h c_28
  · exact absurd c_17 (by decide)
theorem run_in {S : St} {k a z m : Nat} (hm : gI S k 1 = nI m) (h : a + z ≤ m) (hM : m < 2 ^ 31) : runF S k (nI a) (nI z) = true := by
  unfold runF
  rw [hm, pk_sub (by omega)]
  have h1 : ¬ nI m < 0 := nI_pos hM
  have h2 : ¬ nI z < 0 := nI_pos (by omega)
  have h3 : ¬ nI a < 0 := nI_pos (by omega)
  have h4 : nI a ≤ nI (m - z) := nI_le (by omega) (by omega)
  simp [h1, h2, h3, h4]
set_option maxRecDepth 100000 in
set_option maxHeartbeats 4000000 in
theorem c_X5_takeRun (E : En) (S : St) (k k2 a b z m m2 : Nat) (hk : kd k = 3) (hk2 : kd k2 = 3) (hm : gI S k 1 = nI m) (hm2 : gI S k2 1 = nI m2) (ha : a + z ≤ m2) (hb : b + z ≤ m) (hml : m ≤ ln (k + 10)) (hml2 : m2 ≤ ln (k2 + 10)) : CTe E i_X5_takeRun S [.ref (eA E k), .int (nI b), .ref (eA E k2), .int (nI a), .int (nI z)] (sA S (k + 10) (va_cpy (gA S (k2 + 10)) (gA S (k + 10)) a b z)) none := by
  have hl1 := ln_c hk
  have hl2 := ln_c hk2
  have hr1 := run_in hm2 ha (by omega)
  have hr2 := run_in hm hb (by omega)
  refine ct_of [(0, .ref (eA E k)), (1, .int (nI b)), (2, .ref (eA E k2)), (3, .int (nI a)), (4, .int (nI z))] (by decide +kernel) (Nat.le_of_ble_eq_true rfl) rfl (fun X hM => ?_)
  refine g_aload_n (pc := 0) dX5_takeRun_0 2 rfl rfl ?_
  refine g_ifnull (pc := 1) dX5_takeRun_1 ?_
  refine g_aload_n (pc := 4) dX5_takeRun_4 2 rfl rfl ?_
  refine g_iload_n (pc := 5) dX5_takeRun_5 3 rfl rfl ?_
  refine g_iload (pc := 6) dX5_takeRun_6 4 rfl ?_
  refine g_invV (pc := 8) j_X5_holdsRun mw_X5_30 dX5_takeRun_8 (rcv_X5 (by assumption)) (by rfl) (c_X5_holdsRun E S k2 (nI a) (nI z) (by assumption)) (Nat.le_of_ble_eq_true rfl) (Nat.le_of_ble_eq_true rfl) (by rfl) (Nat.le_of_ble_eq_true rfl) ?_
  refine g_b_eq (pc := 11) (tgt := 39) dX5_takeRun_11 (by decide) (fun c_11 => ?_) (fun c_11 => ?_)
  · exact absurd (hr1.symm.trans c_11) (by decide)
  · refine g_aload_n (pc := 14) dX5_takeRun_14 0 rfl rfl ?_
    refine g_iload_n (pc := 15) dX5_takeRun_15 1 rfl rfl ?_
    refine g_iload (pc := 16) dX5_takeRun_16 4 rfl ?_
    refine g_invV (pc := 18) j_X5_holdsRun mw_X5_30 dX5_takeRun_18 (rcv_X5 (by assumption)) (by rfl) (c_X5_holdsRun E S k (nI b) (nI z) (by assumption)) (Nat.le_of_ble_eq_true rfl) (Nat.le_of_ble_eq_true rfl) (by rfl) (Nat.le_of_ble_eq_true rfl) ?_
    refine g_b_eq (pc := 21) (tgt := 39) dX5_takeRun_21 (by decide) (fun c_21 => ?_) (fun c_21 => ?_)
    · exact absurd (hr2.symm.trans c_21) (by decide)
    · refine g_aload_n (pc := 24) dX5_takeRun_24 2 rfl rfl ?_
      refine gf_X5_19 (pc := 25) (by assumption) rfl dX5_takeRun_25 ?_
      refine g_iload_n (pc := 28) dX5_takeRun_28 3 rfl rfl ?_
      refine g_aload_n (pc := 29) dX5_takeRun_29 0 rfl rfl ?_
      refine gf_X5_19 (pc := 30) (by assumption) rfl dX5_takeRun_30 ?_
      refine g_iload_n (pc := 33) dX5_takeRun_33 1 rfl rfl ?_
      refine g_iload (pc := 34) dX5_takeRun_34 4 rfl ?_
      refine g_copy (pc := 36) a b z mw_X5_34 rfl rfl rfl (kd_c (by assumption)) (kd_c (by assumption)) (by omega) (by omega) (by omega) (by omega) dX5_takeRun_36 (Nat.le_of_ble_eq_true rfl) (Nat.le_of_ble_eq_true rfl) ?_
      exact g_vret (pc := 39) hM rfl ⟨rfl, rfl⟩ dX5_takeRun_39
set_option maxRecDepth 100000 in
set_option maxHeartbeats 4000000 in
theorem c_X8_copy_bb (E : En) (S : St) (r t i j z : Int32) (hr : idxF 6 r = false) (ht : idxF 6 t = false) : CTe E i_X8_copy S [.ref (eA E 0), .int r, .int i, .int t, .int j, .int z] S (some (.int (-1))) := by
  refine ct_of [(0, .ref (eA E 0)), (1, .int r), (2, .int i), (3, .int t), (4, .int j), (5, .int z)] (by decide +kernel) (Nat.le_of_ble_eq_true rfl) rfl (fun X hM => ?_)
  refine g_aload_n (pc := 0) dX8_copy_0 0 rfl rfl ?_
  refine g_iload_n (pc := 1) dX8_copy_1 1 rfl rfl ?_
  refine g_invV (pc := 2) j_X8_rowOf mw_X8_64 dX8_copy_2 (rcv_X8) (by rfl) (c_X8_rowOf_0 E S r (by first | assumption | omega | rfl)) (Nat.le_of_ble_eq_true rfl) (Nat.le_of_ble_eq_true rfl) (by rfl) (Nat.le_of_ble_eq_true rfl) ?_
  refine g_astoreN (pc := 5) (L' := [(6, .null), (0, .ref (eA E 0)), (1, .int r), (2, .int i), (3, .int t), (4, .int j), (5, .int z)]) dX8_copy_5 (Nat.le_of_ble_eq_true rfl) rfl ?_
  refine g_aload_n (pc := 7) dX8_copy_7 1 rfl rfl ?_
  refine g_iload_n (pc := 8) dX8_copy_8 4 rfl rfl ?_
  refine g_invV (pc := 9) j_X8_rowOf mw_X8_64 dX8_copy_9 (rcv_X8) (by rfl) (c_X8_rowOf_0 E S t ht) (Nat.le_of_ble_eq_true rfl) (Nat.le_of_ble_eq_true rfl) (by rfl) (Nat.le_of_ble_eq_true rfl) ?_
  refine g_astoreN (pc := 12) (L' := [(7, .null), (6, .null), (0, .ref (eA E 0)), (1, .int r), (2, .int i), (3, .int t), (4, .int j), (5, .int z)]) dX8_copy_12 (Nat.le_of_ble_eq_true rfl) rfl ?_
  refine g_aloadN (pc := 14) dX8_copy_14 1 rfl ?_
  refine g_ifnullN (pc := 16) (tgt := 24) dX8_copy_16 (by decide) ?_
  refine g_iconst (pc := 24) (v := -1) dX8_copy_24 (by decide) ?_
  exact g_iret (pc := 25) hM rfl rfl ⟨rfl, rfl⟩ dX8_copy_25
set_option maxRecDepth 100000 in
set_option maxHeartbeats 4000000 in
theorem c_X8_copy_bo (E : En) (S : St) (r : Int32) (t : Nat) (i j z : Int32) (hr : idxF 6 r = false) (ht : t < 6) : CTe E i_X8_copy S [.ref (eA E 0), .int r, .int i, .int (nI t), .int j, .int z] S (some (.int (-1))) := by
  refine ct_of [(0, .ref (eA E 0)), (1, .int r), (2, .int i), (3, .int (nI t)), (4, .int j), (5, .int z)] (by decide +kernel) (Nat.le_of_ble_eq_true rfl) rfl (fun X hM => ?_)
  refine g_aload_n (pc := 0) dX8_copy_0 0 rfl rfl ?_
  refine g_iload_n (pc := 1) dX8_copy_1 1 rfl rfl ?_
  refine g_invV (pc := 2) j_X8_rowOf mw_X8_64 dX8_copy_2 (rcv_X8) (by rfl) (c_X8_rowOf_0 E S r (by first | assumption | omega | rfl)) (Nat.le_of_ble_eq_true rfl) (Nat.le_of_ble_eq_true rfl) (by rfl) (Nat.le_of_ble_eq_true rfl) ?_
  refine g_astoreN (pc := 5) (L' := [(6, .null), (0, .ref (eA E 0)), (1, .int r), (2, .int i), (3, .int (nI t)), (4, .int j), (5, .int z)]) dX8_copy_5 (Nat.le_of_ble_eq_true rfl) rfl ?_
  refine g_aload_n (pc := 7) dX8_copy_7 1 rfl rfl ?_
  refine g_iload_n (pc := 8) dX8_copy_8 4 rfl rfl ?_
  refine g_invV (pc := 9) j_X8_rowOf mw_X8_64 dX8_copy_9 (rcv_X8) (by rfl) (c_X8_rowOf_n E S t (by first | assumption | omega | rfl)) (Nat.le_of_ble_eq_true rfl) (Nat.le_of_ble_eq_true rfl) (by rfl) (Nat.le_of_ble_eq_true rfl) ?_
  refine g_astore (pc := 12) (L' := [(7, .ref (eA E (10 + t))), (6, .null), (0, .ref (eA E 0)), (1, .int r), (2, .int i), (3, .int (nI t)), (4, .int j), (5, .int z)]) dX8_copy_12 (Nat.le_of_ble_eq_true rfl) rfl ?_
  refine g_aloadN (pc := 14) dX8_copy_14 1 rfl ?_
  refine g_ifnullN (pc := 16) (tgt := 24) dX8_copy_16 (by decide) ?_
  refine g_iconst (pc := 24) (v := -1) dX8_copy_24 (by decide) ?_
  exact g_iret (pc := 25) hM rfl rfl ⟨rfl, rfl⟩ dX8_copy_25
set_option maxRecDepth 100000 in
set_option maxHeartbeats 4000000 in
theorem c_X8_copy_ob (E : En) (S : St) (n : Nat) (t i j z : Int32) (hn : n < 6) (ht : idxF 6 t = false) : CTe E i_X8_copy S [.ref (eA E 0), .int (nI n), .int i, .int t, .int j, .int z] S (some (.int (-1))) := by
  refine ct_of [(0, .ref (eA E 0)), (1, .int (nI n)), (2, .int i), (3, .int t), (4, .int j), (5, .int z)] (by decide +kernel) (Nat.le_of_ble_eq_true rfl) rfl (fun X hM => ?_)
  refine g_aload_n (pc := 0) dX8_copy_0 0 rfl rfl ?_
  refine g_iload_n (pc := 1) dX8_copy_1 1 rfl rfl ?_
  refine g_invV (pc := 2) j_X8_rowOf mw_X8_64 dX8_copy_2 (rcv_X8) (by rfl) (c_X8_rowOf_n E S n (by first | assumption | omega | rfl)) (Nat.le_of_ble_eq_true rfl) (Nat.le_of_ble_eq_true rfl) (by rfl) (Nat.le_of_ble_eq_true rfl) ?_
  refine g_astore (pc := 5) (L' := [(6, .ref (eA E (10 + n))), (0, .ref (eA E 0)), (1, .int (nI n)), (2, .int i), (3, .int t), (4, .int j), (5, .int z)]) dX8_copy_5 (Nat.le_of_ble_eq_true rfl) rfl ?_
  refine g_aload_n (pc := 7) dX8_copy_7 1 rfl rfl ?_
  refine g_iload_n (pc := 8) dX8_copy_8 4 rfl rfl ?_
  refine g_invV (pc := 9) j_X8_rowOf mw_X8_64 dX8_copy_9 (rcv_X8) (by rfl) (c_X8_rowOf_0 E S t ht) (Nat.le_of_ble_eq_true rfl) (Nat.le_of_ble_eq_true rfl) (by rfl) (Nat.le_of_ble_eq_true rfl) ?_
  refine g_astoreN (pc := 12) (L' := [(7, .null), (6, .ref (eA E (10 + n))), (0, .ref (eA E 0)), (1, .int (nI n)), (2, .int i), (3, .int t), (4, .int j), (5, .int z)]) dX8_copy_12 (Nat.le_of_ble_eq_true rfl) rfl ?_
  refine g_aload (pc := 14) dX8_copy_14 1 rfl ?_
  refine g_ifnull (pc := 16) dX8_copy_16 ?_
  refine g_aloadN (pc := 19) dX8_copy_19 0 rfl ?_
  refine g_ifnonnullN (pc := 21) dX8_copy_21 ?_
  refine g_iconst (pc := 24) (v := -1) dX8_copy_24 (by decide) ?_
  exact g_iret (pc := 25) hM rfl rfl ⟨rfl, rfl⟩ dX8_copy_25
set_option maxRecDepth 100000 in
set_option maxHeartbeats 4000000 in
theorem c_X8_copy_neg (E : En) (S : St) (n t : Nat) (i j z : Int32) (hn : n < 6) (ht : t < 6) (h : z < 0) : CTe E i_X8_copy S [.ref (eA E 0), .int (nI n), .int i, .int (nI t), .int j, .int z] (refS S 5) (some (.int (-3))) := by
  refine ct_of [(0, .ref (eA E 0)), (1, .int (nI n)), (2, .int i), (3, .int (nI t)), (4, .int j), (5, .int z)] (by decide +kernel) (Nat.le_of_ble_eq_true rfl) rfl (fun X hM => ?_)
  refine g_aload_n (pc := 0) dX8_copy_0 0 rfl rfl ?_
  refine g_iload_n (pc := 1) dX8_copy_1 1 rfl rfl ?_
  refine g_invV (pc := 2) j_X8_rowOf mw_X8_64 dX8_copy_2 (rcv_X8) (by rfl) (c_X8_rowOf_n E S n (by first | assumption | omega | rfl)) (Nat.le_of_ble_eq_true rfl) (Nat.le_of_ble_eq_true rfl) (by rfl) (Nat.le_of_ble_eq_true rfl) ?_
  refine g_astore (pc := 5) (L' := [(6, .ref (eA E (10 + n))), (0, .ref (eA E 0)), (1, .int (nI n)), (2, .int i), (3, .int (nI t)), (4, .int j), (5, .int z)]) dX8_copy_5 (Nat.le_of_ble_eq_true rfl) rfl ?_
  refine g_aload_n (pc := 7) dX8_copy_7 1 rfl rfl ?_
  refine g_iload_n (pc := 8) dX8_copy_8 4 rfl rfl ?_
  refine g_invV (pc := 9) j_X8_rowOf mw_X8_64 dX8_copy_9 (rcv_X8) (by rfl) (c_X8_rowOf_n E S t (by first | assumption | omega | rfl)) (Nat.le_of_ble_eq_true rfl) (Nat.le_of_ble_eq_true rfl) (by rfl) (Nat.le_of_ble_eq_true rfl) ?_
  refine g_astore (pc := 12) (L' := [(7, .ref (eA E (10 + t))), (6, .ref (eA E (10 + n))), (0, .ref (eA E 0)), (1, .int (nI n)), (2, .int i), (3, .int (nI t)), (4, .int j), (5, .int z)]) dX8_copy_12 (Nat.le_of_ble_eq_true rfl) rfl ?_
  refine g_aload (pc := 14) dX8_copy_14 1 rfl ?_
  refine g_ifnull (pc := 16) dX8_copy_16 ?_
  refine g_aload (pc := 19) dX8_copy_19 0 rfl ?_
  refine g_ifnonnull (pc := 21) (tgt := 26) dX8_copy_21 (by decide) ?_
  refine g_iload (pc := 26) dX8_copy_26 7 rfl ?_
  refine g_if_ge (pc := 28) (tgt := 37) dX8_copy_28 (by decide) (fun c_28 => ?_) (fun c_28 => ?_)
  · have k_28 := Int32.not_lt.mpr c_28
    exact absurd h (Int32.not_lt.mpr c_28)
  · have k_28 := Int32.not_le.mp c_28
    refine g_aload_n (pc := 31) dX8_copy_31 2 rfl rfl ?_
    refine g_iconst (pc := 32) (v := 5) dX8_copy_32 (by decide) ?_
    refine g_invV (pc := 33) j_X8_refuse mw_X8_91 dX8_copy_33 (rcv_X8) (by rfl) (c_X8_refuse E S 5 (by first | assumption | omega | rfl)) (Nat.le_of_ble_eq_true rfl) (Nat.le_of_ble_eq_true rfl) (by rfl) (Nat.le_of_ble_eq_true rfl) ?_
    exact g_iret (pc := 36) hM rfl rfl ⟨rfl, rfl⟩ dX8_copy_36
set_option maxRecDepth 100000 in
set_option maxHeartbeats 4000000 in
theorem c_X8_copy_m1 (E : En) (S : St) (n t : Nat) (i j z : Int32) (hn : n < 6) (ht : t < 6) (h : ¬ z < 0) (h1 : misF S (10 + n) = true) : CTe E i_X8_copy S [.ref (eA E 0), .int (nI n), .int i, .int (nI t), .int j, .int z] (refS S 1) (some (.int (-3))) := by
  refine ct_of [(0, .ref (eA E 0)), (1, .int (nI n)), (2, .int i), (3, .int (nI t)), (4, .int j), (5, .int z)] (by decide +kernel) (Nat.le_of_ble_eq_true rfl) rfl (fun X hM => ?_)
  refine g_aload_n (pc := 0) dX8_copy_0 0 rfl rfl ?_
  refine g_iload_n (pc := 1) dX8_copy_1 1 rfl rfl ?_
  refine g_invV (pc := 2) j_X8_rowOf mw_X8_64 dX8_copy_2 (rcv_X8) (by rfl) (c_X8_rowOf_n E S n (by first | assumption | omega | rfl)) (Nat.le_of_ble_eq_true rfl) (Nat.le_of_ble_eq_true rfl) (by rfl) (Nat.le_of_ble_eq_true rfl) ?_
  refine g_astore (pc := 5) (L' := [(6, .ref (eA E (10 + n))), (0, .ref (eA E 0)), (1, .int (nI n)), (2, .int i), (3, .int (nI t)), (4, .int j), (5, .int z)]) dX8_copy_5 (Nat.le_of_ble_eq_true rfl) rfl ?_
  refine g_aload_n (pc := 7) dX8_copy_7 1 rfl rfl ?_
  refine g_iload_n (pc := 8) dX8_copy_8 4 rfl rfl ?_
  refine g_invV (pc := 9) j_X8_rowOf mw_X8_64 dX8_copy_9 (rcv_X8) (by rfl) (c_X8_rowOf_n E S t (by first | assumption | omega | rfl)) (Nat.le_of_ble_eq_true rfl) (Nat.le_of_ble_eq_true rfl) (by rfl) (Nat.le_of_ble_eq_true rfl) ?_
  refine g_astore (pc := 12) (L' := [(7, .ref (eA E (10 + t))), (6, .ref (eA E (10 + n))), (0, .ref (eA E 0)), (1, .int (nI n)), (2, .int i), (3, .int (nI t)), (4, .int j), (5, .int z)]) dX8_copy_12 (Nat.le_of_ble_eq_true rfl) rfl ?_
  refine g_aload (pc := 14) dX8_copy_14 1 rfl ?_
  refine g_ifnull (pc := 16) dX8_copy_16 ?_
  refine g_aload (pc := 19) dX8_copy_19 0 rfl ?_
  refine g_ifnonnull (pc := 21) (tgt := 26) dX8_copy_21 (by decide) ?_
  refine g_iload (pc := 26) dX8_copy_26 7 rfl ?_
  refine g_if_ge (pc := 28) (tgt := 37) dX8_copy_28 (by decide) (fun c_28 => ?_) (fun c_28 => ?_)
  · have k_28 := Int32.not_lt.mpr c_28
    refine g_aload (pc := 37) dX8_copy_37 1 rfl ?_
    refine g_invV (pc := 39) j_X5_isMissing mw_X8_94 dX8_copy_39 (rcv_X5 (kd_r (by omega))) (by rfl) (c_X5_isMissing E S (10 + n) (kd_r (by omega))) (Nat.le_of_ble_eq_true rfl) (Nat.le_of_ble_eq_true rfl) (by rfl) (Nat.le_of_ble_eq_true rfl) ?_
    refine g_b_ne (pc := 42) (tgt := 53) dX8_copy_42 (by decide) (fun c_42 => ?_) (fun c_42 => ?_)
    · refine g_aload_n (pc := 53) dX8_copy_53 2 rfl rfl ?_
      refine g_iconst (pc := 54) (v := 1) dX8_copy_54 (by decide) ?_
      refine g_invV (pc := 55) j_X8_refuse mw_X8_91 dX8_copy_55 (rcv_X8) (by rfl) (c_X8_refuse E S 1 (by first | assumption | omega | rfl)) (Nat.le_of_ble_eq_true rfl) (Nat.le_of_ble_eq_true rfl) (by rfl) (Nat.le_of_ble_eq_true rfl) ?_
      exact g_iret (pc := 58) hM rfl rfl ⟨rfl, rfl⟩ dX8_copy_58
    · exact absurd (h1.symm.trans c_42) (by decide)
  · have k_28 := Int32.not_le.mp c_28
    exact absurd (Int32.not_le.mp c_28) h
set_option maxRecDepth 100000 in
set_option maxHeartbeats 4000000 in
theorem c_X8_copy_m2 (E : En) (S : St) (n t : Nat) (i j z : Int32) (hn : n < 6) (ht : t < 6) (h : ¬ z < 0) (h1 : misF S (10 + n) = false) (h2 : misF S (10 + t) = true) : CTe E i_X8_copy S [.ref (eA E 0), .int (nI n), .int i, .int (nI t), .int j, .int z] (refS S 1) (some (.int (-3))) := by
  refine ct_of [(0, .ref (eA E 0)), (1, .int (nI n)), (2, .int i), (3, .int (nI t)), (4, .int j), (5, .int z)] (by decide +kernel) (Nat.le_of_ble_eq_true rfl) rfl (fun X hM => ?_)
  refine g_aload_n (pc := 0) dX8_copy_0 0 rfl rfl ?_
  refine g_iload_n (pc := 1) dX8_copy_1 1 rfl rfl ?_
  refine g_invV (pc := 2) j_X8_rowOf mw_X8_64 dX8_copy_2 (rcv_X8) (by rfl) (c_X8_rowOf_n E S n (by first | assumption | omega | rfl)) (Nat.le_of_ble_eq_true rfl) (Nat.le_of_ble_eq_true rfl) (by rfl) (Nat.le_of_ble_eq_true rfl) ?_
  refine g_astore (pc := 5) (L' := [(6, .ref (eA E (10 + n))), (0, .ref (eA E 0)), (1, .int (nI n)), (2, .int i), (3, .int (nI t)), (4, .int j), (5, .int z)]) dX8_copy_5 (Nat.le_of_ble_eq_true rfl) rfl ?_
  refine g_aload_n (pc := 7) dX8_copy_7 1 rfl rfl ?_
  refine g_iload_n (pc := 8) dX8_copy_8 4 rfl rfl ?_
  refine g_invV (pc := 9) j_X8_rowOf mw_X8_64 dX8_copy_9 (rcv_X8) (by rfl) (c_X8_rowOf_n E S t (by first | assumption | omega | rfl)) (Nat.le_of_ble_eq_true rfl) (Nat.le_of_ble_eq_true rfl) (by rfl) (Nat.le_of_ble_eq_true rfl) ?_
  refine g_astore (pc := 12) (L' := [(7, .ref (eA E (10 + t))), (6, .ref (eA E (10 + n))), (0, .ref (eA E 0)), (1, .int (nI n)), (2, .int i), (3, .int (nI t)), (4, .int j), (5, .int z)]) dX8_copy_12 (Nat.le_of_ble_eq_true rfl) rfl ?_
  refine g_aload (pc := 14) dX8_copy_14 1 rfl ?_
  refine g_ifnull (pc := 16) dX8_copy_16 ?_
  refine g_aload (pc := 19) dX8_copy_19 0 rfl ?_
  refine g_ifnonnull (pc := 21) (tgt := 26) dX8_copy_21 (by decide) ?_
  refine g_iload (pc := 26) dX8_copy_26 7 rfl ?_
  refine g_if_ge (pc := 28) (tgt := 37) dX8_copy_28 (by decide) (fun c_28 => ?_) (fun c_28 => ?_)
  · have k_28 := Int32.not_lt.mpr c_28
    refine g_aload (pc := 37) dX8_copy_37 1 rfl ?_
    refine g_invV (pc := 39) j_X5_isMissing mw_X8_94 dX8_copy_39 (rcv_X5 (kd_r (by omega))) (by rfl) (c_X5_isMissing E S (10 + n) (kd_r (by omega))) (Nat.le_of_ble_eq_true rfl) (Nat.le_of_ble_eq_true rfl) (by rfl) (Nat.le_of_ble_eq_true rfl) ?_
    refine g_b_ne (pc := 42) (tgt := 53) dX8_copy_42 (by decide) (fun c_42 => ?_) (fun c_42 => ?_)
    · exact absurd (h1.symm.trans c_42) (by decide)
    · refine g_aload (pc := 45) dX8_copy_45 0 rfl ?_
      refine g_invV (pc := 47) j_X5_isMissing mw_X8_94 dX8_copy_47 (rcv_X5 (kd_r (by omega))) (by rfl) (c_X5_isMissing E S (10 + t) (kd_r (by omega))) (Nat.le_of_ble_eq_true rfl) (Nat.le_of_ble_eq_true rfl) (by rfl) (Nat.le_of_ble_eq_true rfl) ?_
      refine g_b_eq (pc := 50) (tgt := 59) dX8_copy_50 (by decide) (fun c_50 => ?_) (fun c_50 => ?_)
      · exact absurd (h2.symm.trans c_50) (by decide)
      · refine g_aload_n (pc := 53) dX8_copy_53 2 rfl rfl ?_
        refine g_iconst (pc := 54) (v := 1) dX8_copy_54 (by decide) ?_
        refine g_invV (pc := 55) j_X8_refuse mw_X8_91 dX8_copy_55 (rcv_X8) (by rfl) (c_X8_refuse E S 1 (by first | assumption | omega | rfl)) (Nat.le_of_ble_eq_true rfl) (Nat.le_of_ble_eq_true rfl) (by rfl) (Nat.le_of_ble_eq_true rfl) ?_
        exact g_iret (pc := 58) hM rfl rfl ⟨rfl, rfl⟩ dX8_copy_58
  · have k_28 := Int32.not_le.mp c_28
    exact absurd (Int32.not_le.mp c_28) h
set_option maxRecDepth 100000 in
set_option maxHeartbeats 4000000 in
theorem c_X8_copy_b1 (E : En) (S : St) (n t : Nat) (i j z : Int32) (hn : n < 6) (ht : t < 6) (h : ¬ z < 0) (h1 : misF S (10 + n) = false) (h2 : misF S (10 + t) = false) (h3 : runF S (10 + n) i z = false) : CTe E i_X8_copy S [.ref (eA E 0), .int (nI n), .int i, .int (nI t), .int j, .int z] (refS S 2) (some (.int (-3))) := by
  refine ct_of [(0, .ref (eA E 0)), (1, .int (nI n)), (2, .int i), (3, .int (nI t)), (4, .int j), (5, .int z)] (by decide +kernel) (Nat.le_of_ble_eq_true rfl) rfl (fun X hM => ?_)
  refine g_aload_n (pc := 0) dX8_copy_0 0 rfl rfl ?_
  refine g_iload_n (pc := 1) dX8_copy_1 1 rfl rfl ?_
  refine g_invV (pc := 2) j_X8_rowOf mw_X8_64 dX8_copy_2 (rcv_X8) (by rfl) (c_X8_rowOf_n E S n (by first | assumption | omega | rfl)) (Nat.le_of_ble_eq_true rfl) (Nat.le_of_ble_eq_true rfl) (by rfl) (Nat.le_of_ble_eq_true rfl) ?_
  refine g_astore (pc := 5) (L' := [(6, .ref (eA E (10 + n))), (0, .ref (eA E 0)), (1, .int (nI n)), (2, .int i), (3, .int (nI t)), (4, .int j), (5, .int z)]) dX8_copy_5 (Nat.le_of_ble_eq_true rfl) rfl ?_
  refine g_aload_n (pc := 7) dX8_copy_7 1 rfl rfl ?_
  refine g_iload_n (pc := 8) dX8_copy_8 4 rfl rfl ?_
  refine g_invV (pc := 9) j_X8_rowOf mw_X8_64 dX8_copy_9 (rcv_X8) (by rfl) (c_X8_rowOf_n E S t (by first | assumption | omega | rfl)) (Nat.le_of_ble_eq_true rfl) (Nat.le_of_ble_eq_true rfl) (by rfl) (Nat.le_of_ble_eq_true rfl) ?_
  refine g_astore (pc := 12) (L' := [(7, .ref (eA E (10 + t))), (6, .ref (eA E (10 + n))), (0, .ref (eA E 0)), (1, .int (nI n)), (2, .int i), (3, .int (nI t)), (4, .int j), (5, .int z)]) dX8_copy_12 (Nat.le_of_ble_eq_true rfl) rfl ?_
  refine g_aload (pc := 14) dX8_copy_14 1 rfl ?_
  refine g_ifnull (pc := 16) dX8_copy_16 ?_
  refine g_aload (pc := 19) dX8_copy_19 0 rfl ?_
  refine g_ifnonnull (pc := 21) (tgt := 26) dX8_copy_21 (by decide) ?_
  refine g_iload (pc := 26) dX8_copy_26 7 rfl ?_
  refine g_if_ge (pc := 28) (tgt := 37) dX8_copy_28 (by decide) (fun c_28 => ?_) (fun c_28 => ?_)
  · have k_28 := Int32.not_lt.mpr c_28
    refine g_aload (pc := 37) dX8_copy_37 1 rfl ?_
    refine g_invV (pc := 39) j_X5_isMissing mw_X8_94 dX8_copy_39 (rcv_X5 (kd_r (by omega))) (by rfl) (c_X5_isMissing E S (10 + n) (kd_r (by omega))) (Nat.le_of_ble_eq_true rfl) (Nat.le_of_ble_eq_true rfl) (by rfl) (Nat.le_of_ble_eq_true rfl) ?_
    refine g_b_ne (pc := 42) (tgt := 53) dX8_copy_42 (by decide) (fun c_42 => ?_) (fun c_42 => ?_)
    · exact absurd (h1.symm.trans c_42) (by decide)
    · refine g_aload (pc := 45) dX8_copy_45 0 rfl ?_
      refine g_invV (pc := 47) j_X5_isMissing mw_X8_94 dX8_copy_47 (rcv_X5 (kd_r (by omega))) (by rfl) (c_X5_isMissing E S (10 + t) (kd_r (by omega))) (Nat.le_of_ble_eq_true rfl) (Nat.le_of_ble_eq_true rfl) (by rfl) (Nat.le_of_ble_eq_true rfl) ?_
      refine g_b_eq (pc := 50) (tgt := 59) dX8_copy_50 (by decide) (fun c_50 => ?_) (fun c_50 => ?_)
      · refine g_aload (pc := 59) dX8_copy_59 1 rfl ?_
        refine g_iload_n (pc := 61) dX8_copy_61 4 rfl rfl ?_
        refine g_iload (pc := 62) dX8_copy_62 7 rfl ?_
        refine g_invV (pc := 64) j_X5_holdsRun mw_X8_98 dX8_copy_64 (rcv_X5 (kd_r (by omega))) (by rfl) (c_X5_holdsRun E S (10 + n) i z (kd_r (by omega))) (Nat.le_of_ble_eq_true rfl) (Nat.le_of_ble_eq_true rfl) (by rfl) (Nat.le_of_ble_eq_true rfl) ?_
        refine g_b_eq (pc := 67) (tgt := 82) dX8_copy_67 (by decide) (fun c_67 => ?_) (fun c_67 => ?_)
        · refine g_aload_n (pc := 82) dX8_copy_82 2 rfl rfl ?_
          refine g_iconst (pc := 83) (v := 2) dX8_copy_83 (by decide) ?_
          refine g_invV (pc := 84) j_X8_refuse mw_X8_91 dX8_copy_84 (rcv_X8) (by rfl) (c_X8_refuse E S 2 (by first | assumption | omega | rfl)) (Nat.le_of_ble_eq_true rfl) (Nat.le_of_ble_eq_true rfl) (by rfl) (Nat.le_of_ble_eq_true rfl) ?_
          exact g_iret (pc := 87) hM rfl rfl ⟨rfl, rfl⟩ dX8_copy_87
        · exact absurd (h3.symm.trans c_67) (by decide)
      · exact absurd (h2.symm.trans c_50) (by decide)
  · have k_28 := Int32.not_le.mp c_28
    exact absurd (Int32.not_le.mp c_28) h
set_option maxRecDepth 100000 in
set_option maxHeartbeats 4000000 in
theorem c_X8_copy_b2 (E : En) (S : St) (n t : Nat) (i j z : Int32) (hn : n < 6) (ht : t < 6) (h : ¬ z < 0) (h1 : misF S (10 + n) = false) (h2 : misF S (10 + t) = false) (h3 : runF S (10 + n) i z = true) (h4 : runF S (10 + t) j z = false) : CTe E i_X8_copy S [.ref (eA E 0), .int (nI n), .int i, .int (nI t), .int j, .int z] (refS S 2) (some (.int (-3))) := by
  refine ct_of [(0, .ref (eA E 0)), (1, .int (nI n)), (2, .int i), (3, .int (nI t)), (4, .int j), (5, .int z)] (by decide +kernel) (Nat.le_of_ble_eq_true rfl) rfl (fun X hM => ?_)
  refine g_aload_n (pc := 0) dX8_copy_0 0 rfl rfl ?_
  refine g_iload_n (pc := 1) dX8_copy_1 1 rfl rfl ?_
  refine g_invV (pc := 2) j_X8_rowOf mw_X8_64 dX8_copy_2 (rcv_X8) (by rfl) (c_X8_rowOf_n E S n (by first | assumption | omega | rfl)) (Nat.le_of_ble_eq_true rfl) (Nat.le_of_ble_eq_true rfl) (by rfl) (Nat.le_of_ble_eq_true rfl) ?_
  refine g_astore (pc := 5) (L' := [(6, .ref (eA E (10 + n))), (0, .ref (eA E 0)), (1, .int (nI n)), (2, .int i), (3, .int (nI t)), (4, .int j), (5, .int z)]) dX8_copy_5 (Nat.le_of_ble_eq_true rfl) rfl ?_
  refine g_aload_n (pc := 7) dX8_copy_7 1 rfl rfl ?_
  refine g_iload_n (pc := 8) dX8_copy_8 4 rfl rfl ?_
  refine g_invV (pc := 9) j_X8_rowOf mw_X8_64 dX8_copy_9 (rcv_X8) (by rfl) (c_X8_rowOf_n E S t (by first | assumption | omega | rfl)) (Nat.le_of_ble_eq_true rfl) (Nat.le_of_ble_eq_true rfl) (by rfl) (Nat.le_of_ble_eq_true rfl) ?_
  refine g_astore (pc := 12) (L' := [(7, .ref (eA E (10 + t))), (6, .ref (eA E (10 + n))), (0, .ref (eA E 0)), (1, .int (nI n)), (2, .int i), (3, .int (nI t)), (4, .int j), (5, .int z)]) dX8_copy_12 (Nat.le_of_ble_eq_true rfl) rfl ?_
  refine g_aload (pc := 14) dX8_copy_14 1 rfl ?_
  refine g_ifnull (pc := 16) dX8_copy_16 ?_
  refine g_aload (pc := 19) dX8_copy_19 0 rfl ?_
  refine g_ifnonnull (pc := 21) (tgt := 26) dX8_copy_21 (by decide) ?_
  refine g_iload (pc := 26) dX8_copy_26 7 rfl ?_
  refine g_if_ge (pc := 28) (tgt := 37) dX8_copy_28 (by decide) (fun c_28 => ?_) (fun c_28 => ?_)
  · have k_28 := Int32.not_lt.mpr c_28
    refine g_aload (pc := 37) dX8_copy_37 1 rfl ?_
    refine g_invV (pc := 39) j_X5_isMissing mw_X8_94 dX8_copy_39 (rcv_X5 (kd_r (by omega))) (by rfl) (c_X5_isMissing E S (10 + n) (kd_r (by omega))) (Nat.le_of_ble_eq_true rfl) (Nat.le_of_ble_eq_true rfl) (by rfl) (Nat.le_of_ble_eq_true rfl) ?_
    refine g_b_ne (pc := 42) (tgt := 53) dX8_copy_42 (by decide) (fun c_42 => ?_) (fun c_42 => ?_)
    · exact absurd (h1.symm.trans c_42) (by decide)
    · refine g_aload (pc := 45) dX8_copy_45 0 rfl ?_
      refine g_invV (pc := 47) j_X5_isMissing mw_X8_94 dX8_copy_47 (rcv_X5 (kd_r (by omega))) (by rfl) (c_X5_isMissing E S (10 + t) (kd_r (by omega))) (Nat.le_of_ble_eq_true rfl) (Nat.le_of_ble_eq_true rfl) (by rfl) (Nat.le_of_ble_eq_true rfl) ?_
      refine g_b_eq (pc := 50) (tgt := 59) dX8_copy_50 (by decide) (fun c_50 => ?_) (fun c_50 => ?_)
      · refine g_aload (pc := 59) dX8_copy_59 1 rfl ?_
        refine g_iload_n (pc := 61) dX8_copy_61 4 rfl rfl ?_
        refine g_iload (pc := 62) dX8_copy_62 7 rfl ?_
        refine g_invV (pc := 64) j_X5_holdsRun mw_X8_98 dX8_copy_64 (rcv_X5 (kd_r (by omega))) (by rfl) (c_X5_holdsRun E S (10 + n) i z (kd_r (by omega))) (Nat.le_of_ble_eq_true rfl) (Nat.le_of_ble_eq_true rfl) (by rfl) (Nat.le_of_ble_eq_true rfl) ?_
        refine g_b_eq (pc := 67) (tgt := 82) dX8_copy_67 (by decide) (fun c_67 => ?_) (fun c_67 => ?_)
        · exact absurd (h3.symm.trans c_67) (by decide)
        · refine g_aload (pc := 70) dX8_copy_70 0 rfl ?_
          refine g_iload (pc := 72) dX8_copy_72 6 rfl ?_
          refine g_iload (pc := 74) dX8_copy_74 7 rfl ?_
          refine g_invV (pc := 76) j_X5_holdsRun mw_X8_98 dX8_copy_76 (rcv_X5 (kd_r (by omega))) (by rfl) (c_X5_holdsRun E S (10 + t) j z (kd_r (by omega))) (Nat.le_of_ble_eq_true rfl) (Nat.le_of_ble_eq_true rfl) (by rfl) (Nat.le_of_ble_eq_true rfl) ?_
          refine g_b_ne (pc := 79) (tgt := 88) dX8_copy_79 (by decide) (fun c_79 => ?_) (fun c_79 => ?_)
          · exact absurd (h4.symm.trans c_79) (by decide)
          · refine g_aload_n (pc := 82) dX8_copy_82 2 rfl rfl ?_
            refine g_iconst (pc := 83) (v := 2) dX8_copy_83 (by decide) ?_
            refine g_invV (pc := 84) j_X8_refuse mw_X8_91 dX8_copy_84 (rcv_X8) (by rfl) (c_X8_refuse E S 2 (by first | assumption | omega | rfl)) (Nat.le_of_ble_eq_true rfl) (Nat.le_of_ble_eq_true rfl) (by rfl) (Nat.le_of_ble_eq_true rfl) ?_
            exact g_iret (pc := 87) hM rfl rfl ⟨rfl, rfl⟩ dX8_copy_87
      · exact absurd (h2.symm.trans c_50) (by decide)
  · have k_28 := Int32.not_le.mp c_28
    exact absurd (Int32.not_le.mp c_28) h
set_option maxRecDepth 100000 in
set_option maxHeartbeats 4000000 in
theorem c_X8_copy_ok (E : En) (S : St) (n t a b z m m2 : Nat) (hn : n < 6) (ht : t < 6) (hm : gI S (10 + n) 1 = nI m) (hm2 : gI S (10 + t) 1 = nI m2) (ha : a + z ≤ m) (hb : b + z ≤ m2) (hl : m ≤ 40) (hl2 : m2 ≤ 40) : CTe E i_X8_copy S [.ref (eA E 0), .int (nI n), .int (nI a), .int (nI t), .int (nI b), .int (nI z)] (sA S (10 + t + 10) (va_cpy (gA S (10 + n + 10)) (gA S (10 + t + 10)) a b z)) (some (.int 1)) := by
  have h1 := mis_of hm (by omega)
  have h2 := mis_of hm2 (by omega)
  have h3 := run_in hm ha (by omega)
  have h4 := run_in hm2 hb (by omega)
  refine ct_of [(0, .ref (eA E 0)), (1, .int (nI n)), (2, .int (nI a)), (3, .int (nI t)), (4, .int (nI b)), (5, .int (nI z))] (by decide +kernel) (Nat.le_of_ble_eq_true rfl) rfl (fun X hM => ?_)
  refine g_aload_n (pc := 0) dX8_copy_0 0 rfl rfl ?_
  refine g_iload_n (pc := 1) dX8_copy_1 1 rfl rfl ?_
  refine g_invV (pc := 2) j_X8_rowOf mw_X8_64 dX8_copy_2 (rcv_X8) (by rfl) (c_X8_rowOf_n E S n (by first | assumption | omega | rfl)) (Nat.le_of_ble_eq_true rfl) (Nat.le_of_ble_eq_true rfl) (by rfl) (Nat.le_of_ble_eq_true rfl) ?_
  refine g_astore (pc := 5) (L' := [(6, .ref (eA E (10 + n))), (0, .ref (eA E 0)), (1, .int (nI n)), (2, .int (nI a)), (3, .int (nI t)), (4, .int (nI b)), (5, .int (nI z))]) dX8_copy_5 (Nat.le_of_ble_eq_true rfl) rfl ?_
  refine g_aload_n (pc := 7) dX8_copy_7 1 rfl rfl ?_
  refine g_iload_n (pc := 8) dX8_copy_8 4 rfl rfl ?_
  refine g_invV (pc := 9) j_X8_rowOf mw_X8_64 dX8_copy_9 (rcv_X8) (by rfl) (c_X8_rowOf_n E S t (by first | assumption | omega | rfl)) (Nat.le_of_ble_eq_true rfl) (Nat.le_of_ble_eq_true rfl) (by rfl) (Nat.le_of_ble_eq_true rfl) ?_
  refine g_astore (pc := 12) (L' := [(7, .ref (eA E (10 + t))), (6, .ref (eA E (10 + n))), (0, .ref (eA E 0)), (1, .int (nI n)), (2, .int (nI a)), (3, .int (nI t)), (4, .int (nI b)), (5, .int (nI z))]) dX8_copy_12 (Nat.le_of_ble_eq_true rfl) rfl ?_
  refine g_aload (pc := 14) dX8_copy_14 1 rfl ?_
  refine g_ifnull (pc := 16) dX8_copy_16 ?_
  refine g_aload (pc := 19) dX8_copy_19 0 rfl ?_
  refine g_ifnonnull (pc := 21) (tgt := 26) dX8_copy_21 (by decide) ?_
  refine g_iload (pc := 26) dX8_copy_26 7 rfl ?_
  refine g_if_ge (pc := 28) (tgt := 37) dX8_copy_28 (by decide) (fun c_28 => ?_) (fun c_28 => ?_)
  · have k_28 := Int32.not_lt.mpr c_28
    refine g_aload (pc := 37) dX8_copy_37 1 rfl ?_
    refine g_invV (pc := 39) j_X5_isMissing mw_X8_94 dX8_copy_39 (rcv_X5 (kd_r (by omega))) (by rfl) (c_X5_isMissing E S (10 + n) (kd_r (by omega))) (Nat.le_of_ble_eq_true rfl) (Nat.le_of_ble_eq_true rfl) (by rfl) (Nat.le_of_ble_eq_true rfl) ?_
    refine g_b_ne (pc := 42) (tgt := 53) dX8_copy_42 (by decide) (fun c_42 => ?_) (fun c_42 => ?_)
    · exact absurd (h1.symm.trans c_42) (by decide)
    · refine g_aload (pc := 45) dX8_copy_45 0 rfl ?_
      refine g_invV (pc := 47) j_X5_isMissing mw_X8_94 dX8_copy_47 (rcv_X5 (kd_r (by omega))) (by rfl) (c_X5_isMissing E S (10 + t) (kd_r (by omega))) (Nat.le_of_ble_eq_true rfl) (Nat.le_of_ble_eq_true rfl) (by rfl) (Nat.le_of_ble_eq_true rfl) ?_
      refine g_b_eq (pc := 50) (tgt := 59) dX8_copy_50 (by decide) (fun c_50 => ?_) (fun c_50 => ?_)
      · refine g_aload (pc := 59) dX8_copy_59 1 rfl ?_
        refine g_iload_n (pc := 61) dX8_copy_61 4 rfl rfl ?_
        refine g_iload (pc := 62) dX8_copy_62 7 rfl ?_
        refine g_invV (pc := 64) j_X5_holdsRun mw_X8_98 dX8_copy_64 (rcv_X5 (kd_r (by omega))) (by rfl) (c_X5_holdsRun E S (10 + n) (nI a) (nI z) (kd_r (by omega))) (Nat.le_of_ble_eq_true rfl) (Nat.le_of_ble_eq_true rfl) (by rfl) (Nat.le_of_ble_eq_true rfl) ?_
        refine g_b_eq (pc := 67) (tgt := 82) dX8_copy_67 (by decide) (fun c_67 => ?_) (fun c_67 => ?_)
        · exact absurd (h3.symm.trans c_67) (by decide)
        · refine g_aload (pc := 70) dX8_copy_70 0 rfl ?_
          refine g_iload (pc := 72) dX8_copy_72 6 rfl ?_
          refine g_iload (pc := 74) dX8_copy_74 7 rfl ?_
          refine g_invV (pc := 76) j_X5_holdsRun mw_X8_98 dX8_copy_76 (rcv_X5 (kd_r (by omega))) (by rfl) (c_X5_holdsRun E S (10 + t) (nI b) (nI z) (kd_r (by omega))) (Nat.le_of_ble_eq_true rfl) (Nat.le_of_ble_eq_true rfl) (by rfl) (Nat.le_of_ble_eq_true rfl) ?_
          refine g_b_ne (pc := 79) (tgt := 88) dX8_copy_79 (by decide) (fun c_79 => ?_) (fun c_79 => ?_)
          · refine g_aload (pc := 88) dX8_copy_88 0 rfl ?_
            refine g_iload (pc := 90) dX8_copy_90 6 rfl ?_
            refine g_aload (pc := 92) dX8_copy_92 1 rfl ?_
            refine g_iload_n (pc := 94) dX8_copy_94 4 rfl rfl ?_
            refine g_iload (pc := 95) dX8_copy_95 7 rfl ?_
            refine g_invN (pc := 97) j_X5_takeRun mw_X8_102 dX8_copy_97 (rcv_X5 (kd_r (by omega))) (by rfl) (c_X5_takeRun E S (10 + t) (10 + n) a b z m2 m (kd_r (by omega)) (kd_r (by omega)) hm2 hm ha hb (by rw [ln_r ht]; exact hl2) (by rw [ln_r hn]; exact hl)) (Nat.le_of_ble_eq_true rfl) (Nat.le_of_ble_eq_true rfl) (by rfl) (Nat.le_of_ble_eq_true rfl) ?_
            refine g_iconst (pc := 100) (v := 1) dX8_copy_100 (by decide) ?_
            exact g_iret (pc := 101) hM rfl rfl ⟨rfl, rfl⟩ dX8_copy_101
          · exact absurd (h4.symm.trans c_79) (by decide)
      · exact absurd (h2.symm.trans c_50) (by decide)
  · have k_28 := Int32.not_le.mp c_28
    exact absurd (nI_pos' (by omega)) c_28
