/-! GLOWDEBTS: the bank -/
theorem gI_pass6 (S : St) (b : Nat) : gI (passF S b) b 6 = gI S b 6 := by
  unfold passF
  rw [gI_ne (by omega), gI_wri _ _ _ _ _ _ _ (by omega)]
theorem gI_put6 (S : St) (b : Nat) (k : Int32) : gI (putF S b k) b 6 = gI S b 6 := by
  unfold putF
  split
  · rw [gI_ne (by omega), gI_wri _ _ _ _ _ _ _ (by omega)]
  · rfl
theorem gI_lig6 (S : St) (b : Nat) (k : Int32) : gI (ligF S b k) b 6 = gI S b 6 := by
  unfold ligF
  split
  · rw [gI_ne (by omega), gI_wri _ _ _ _ _ _ _ (by omega)]
  · rfl
theorem gI_car6 (S : St) (b : Nat) (k p : Int32) : gI (carF S b k p) b 6 = gI S b 6 := by
  unfold carF
  split
  · rw [gI_sA, gI_wri _ _ _ _ _ _ _ (by omega)]
  · rfl
def lgF (S : St) (b : Nat) : Int32 := sumB (fun i => litF S b (nI i)) (fun i => gloF S b (nI i) (gI S b 8)) (szB S b)
def stwR (S : St) (k : Int32) (a z : Nat) : Nat → Int32 × Int32
  | 0 => (0, shaF S 30 k 0 a z)
  | n + 1 => if shaF S 30 k (nI (n + 1)) a z < (stwR S k a z n).2 then (nI (n + 1), shaF S 30 k (nI (n + 1)) a z) else stwR S k a z n
def drkR (S : St) (w : Nat) : Nat → Int32 × Int32
  | 0 => (0, aloF S 30 0 (w - 1))
  | n + 1 => if aloF S 30 (n + 1) (n + w) < (drkR S w n).2 then (nI (n + 1), aloF S 30 (n + 1) (n + w)) else drkR S w n
def wayF (S : St) : Int32 := minF (wayL S 30 10).1 (wayL S 30 10).2
def lrF (S : St) : Int32 := lrR (owS S 30) (deW S 30) (2 ^ szB S 30)
def srF (S : St) (k : Int32) : Int32 := srR (owS S 30) (deW S 30) k (2 ^ szB S 30)
def faF (S : St) (p v : Int32) : Int32 := faR (gI S 30 7) (briF S 30 p (gI S 30 8)) v (glW S 30 p) (2 ^ szB S 30)
def spF (S : St) (t : Int32) : St := sA S 9 (stpO S 30 (stp0 (gA S 9) t 6) 5)
set_option maxRecDepth 100000 in
set_option maxHeartbeats 4000000 in
theorem c_X8_light_bad (E : En) (S : St) (k what : Int32) (hz : okB S 30) (h : ¬ (hasF S 30 k = true ∧ ¬ what < 0 ∧ what ≤ 6)) : CTe E i_X8_light S [.ref (eA E 0), .int k, .int what] S (some (.int (-1))) := by
  refine ct_of [(0, .ref (eA E 0)), (1, .int k), (2, .int what)] (by decide +kernel) (Nat.le_of_ble_eq_true rfl) rfl (fun X hM => ?_)
  refine g_aload_n (pc := 0) dX8_light_0 0 rfl rfl ?_
  refine gf_X8_21 (pc := 1) rfl dX8_light_1 ?_
  refine g_iload_n (pc := 4) dX8_light_4 1 rfl rfl ?_
  refine g_invV (pc := 5) j_X0_has mw_X8_134 dX8_light_5 (rcv_X0 rfl) (by rfl) (c_X0_has E S 30 k rfl) (Nat.le_of_ble_eq_true rfl) (Nat.le_of_ble_eq_true rfl) (by rfl) (Nat.le_of_ble_eq_true rfl) ?_
  refine g_b_eq (pc := 8) (tgt := 21) dX8_light_8 (by decide) (fun c_8 => ?_) (fun c_8 => ?_)
  · refine g_iconst (pc := 21) (v := -1) dX8_light_21 (by decide) ?_
    exact g_iret (pc := 22) hM rfl rfl ⟨rfl, rfl⟩ dX8_light_22
  · refine g_iload_n (pc := 11) dX8_light_11 2 rfl rfl ?_
    refine g_if_lt (pc := 12) (tgt := 21) dX8_light_12 (by decide) (fun c_12 => ?_) (fun c_12 => ?_)
    · have k_12 := Int32.not_le.mpr c_12
      refine g_iconst (pc := 21) (v := -1) dX8_light_21 (by decide) ?_
      exact g_iret (pc := 22) hM rfl rfl ⟨rfl, rfl⟩ dX8_light_22
    · have k_12 := Int32.not_lt.mp c_12
      refine g_iload_n (pc := 15) dX8_light_15 2 rfl rfl ?_
      refine g_bipush (pc := 16) (v := 6) dX8_light_16 (by decide) ?_
      refine g_icmp_le (pc := 18) (tgt := 23) dX8_light_18 (by decide) (fun c_18 => ?_) (fun c_18 => ?_)
      · have k_18 := Int32.not_lt.mpr c_18
        exact absurd ⟨c_8, c_12, c_18⟩ h
      · have k_18 := Int32.not_le.mp c_18
        refine g_iconst (pc := 21) (v := -1) dX8_light_21 (by decide) ?_
        exact g_iret (pc := 22) hM rfl rfl ⟨rfl, rfl⟩ dX8_light_22
set_option maxRecDepth 100000 in
set_option maxHeartbeats 4000000 in
theorem c_X8_light_ok (E : En) (S : St) (k what : Int32) (hz : okB S 30) (g1 : hasF S 30 k = true) (g2 : ¬ what < 0) (g3 : what ≤ 6) : CTe E i_X8_light S [.ref (eA E 0), .int k, .int what] (sI S 0 8 (partF S 30 k what)) (some (.int 1)) := by
  refine ct_of [(0, .ref (eA E 0)), (1, .int k), (2, .int what)] (by decide +kernel) (Nat.le_of_ble_eq_true rfl) rfl (fun X hM => ?_)
  refine g_aload_n (pc := 0) dX8_light_0 0 rfl rfl ?_
  refine gf_X8_21 (pc := 1) rfl dX8_light_1 ?_
  refine g_iload_n (pc := 4) dX8_light_4 1 rfl rfl ?_
  refine g_invV (pc := 5) j_X0_has mw_X8_134 dX8_light_5 (rcv_X0 rfl) (by rfl) (c_X0_has E S 30 k rfl) (Nat.le_of_ble_eq_true rfl) (Nat.le_of_ble_eq_true rfl) (by rfl) (Nat.le_of_ble_eq_true rfl) ?_
  refine g_b_eq (pc := 8) (tgt := 21) dX8_light_8 (by decide) (fun c_8 => ?_) (fun c_8 => ?_)
  · exact absurd (g1.symm.trans c_8) (by decide)
  · refine g_iload_n (pc := 11) dX8_light_11 2 rfl rfl ?_
    refine g_if_lt (pc := 12) (tgt := 21) dX8_light_12 (by decide) (fun c_12 => ?_) (fun c_12 => ?_)
    · have k_12 := Int32.not_le.mpr c_12
      (first | exact absurd g2 c_12 | exact absurd c_12 g2)
    · have k_12 := Int32.not_lt.mp c_12
      refine g_iload_n (pc := 15) dX8_light_15 2 rfl rfl ?_
      refine g_bipush (pc := 16) (v := 6) dX8_light_16 (by decide) ?_
      refine g_icmp_le (pc := 18) (tgt := 23) dX8_light_18 (by decide) (fun c_18 => ?_) (fun c_18 => ?_)
      · have k_18 := Int32.not_lt.mpr c_18
        refine g_aload_n (pc := 23) dX8_light_23 0 rfl rfl ?_
        refine g_aload_n (pc := 24) dX8_light_24 0 rfl rfl ?_
        refine gf_X8_21 (pc := 25) rfl dX8_light_25 ?_
        refine g_iload_n (pc := 28) dX8_light_28 1 rfl rfl ?_
        refine g_iload_n (pc := 29) dX8_light_29 2 rfl rfl ?_
        refine g_invV (pc := 30) j_X0_partOf mw_X8_138 dX8_light_30 (rcv_X0 rfl) (by rfl) (c_X0_partOf E S 30 k what rfl (by first | assumption | omega | rfl)) (Nat.le_of_ble_eq_true rfl) (Nat.le_of_ble_eq_true rfl) (by rfl) (Nat.le_of_ble_eq_true rfl) ?_
        refine pf_X8_51 (pc := 33) rfl dX8_light_33 ?_
        refine g_iconst (pc := 36) (v := 1) dX8_light_36 (by decide) ?_
        exact g_iret (pc := 37) hM rfl rfl ⟨rfl, rfl⟩ dX8_light_37
      · have k_18 := Int32.not_le.mp c_18
        (first | exact absurd g3 c_18 | exact absurd c_18 g3)
set_option maxRecDepth 100000 in
set_option maxHeartbeats 4000000 in
theorem c_X8_mark_bad (E : En) (S : St) (k kind : Int32) (hz : okB S 30) (h : ¬ (hasF S 30 k = true ∧ ¬ kind ≤ 0 ∧ kind < 6)) : CTe E i_X8_mark S [.ref (eA E 0), .int k, .int kind] S (some (.int (-1))) := by
  refine ct_of [(0, .ref (eA E 0)), (1, .int k), (2, .int kind)] (by decide +kernel) (Nat.le_of_ble_eq_true rfl) rfl (fun X hM => ?_)
  refine g_aload_n (pc := 0) dX8_mark_0 0 rfl rfl ?_
  refine gf_X8_21 (pc := 1) rfl dX8_mark_1 ?_
  refine g_iload_n (pc := 4) dX8_mark_4 1 rfl rfl ?_
  refine g_invV (pc := 5) j_X0_has mw_X8_134 dX8_mark_5 (rcv_X0 rfl) (by rfl) (c_X0_has E S 30 k rfl) (Nat.le_of_ble_eq_true rfl) (Nat.le_of_ble_eq_true rfl) (by rfl) (Nat.le_of_ble_eq_true rfl) ?_
  refine g_b_eq (pc := 8) (tgt := 21) dX8_mark_8 (by decide) (fun c_8 => ?_) (fun c_8 => ?_)
  · refine g_iconst (pc := 21) (v := -1) dX8_mark_21 (by decide) ?_
    exact g_iret (pc := 22) hM rfl rfl ⟨rfl, rfl⟩ dX8_mark_22
  · refine g_iload_n (pc := 11) dX8_mark_11 2 rfl rfl ?_
    refine g_if_le (pc := 12) (tgt := 21) dX8_mark_12 (by decide) (fun c_12 => ?_) (fun c_12 => ?_)
    · have k_12 := Int32.not_lt.mpr c_12
      refine g_iconst (pc := 21) (v := -1) dX8_mark_21 (by decide) ?_
      exact g_iret (pc := 22) hM rfl rfl ⟨rfl, rfl⟩ dX8_mark_22
    · have k_12 := Int32.not_le.mp c_12
      refine g_iload_n (pc := 15) dX8_mark_15 2 rfl rfl ?_
      refine g_bipush (pc := 16) (v := 6) dX8_mark_16 (by decide) ?_
      refine g_icmp_lt (pc := 18) (tgt := 23) dX8_mark_18 (by decide) (fun c_18 => ?_) (fun c_18 => ?_)
      · have k_18 := Int32.not_le.mpr c_18
        exact absurd ⟨c_8, c_12, c_18⟩ h
      · have k_18 := Int32.not_lt.mp c_18
        refine g_iconst (pc := 21) (v := -1) dX8_mark_21 (by decide) ?_
        exact g_iret (pc := 22) hM rfl rfl ⟨rfl, rfl⟩ dX8_mark_22
set_option maxRecDepth 100000 in
set_option maxHeartbeats 4000000 in
theorem c_X8_mark_u (E : En) (S : St) (k kind : Int32) (hz : okB S 30) (g1 : hasF S 30 k = true) (g2 : ¬ kind ≤ 0) (g3 : kind < 6) (h : ¬ (isOfF (fldF S 30 0 k) kind = true)) : CTe E i_X8_mark S [.ref (eA E 0), .int k, .int kind] (refS S 3) (some (.int (-3))) := by
  refine ct_of [(0, .ref (eA E 0)), (1, .int k), (2, .int kind)] (by decide +kernel) (Nat.le_of_ble_eq_true rfl) rfl (fun X hM => ?_)
  refine g_aload_n (pc := 0) dX8_mark_0 0 rfl rfl ?_
  refine gf_X8_21 (pc := 1) rfl dX8_mark_1 ?_
  refine g_iload_n (pc := 4) dX8_mark_4 1 rfl rfl ?_
  refine g_invV (pc := 5) j_X0_has mw_X8_134 dX8_mark_5 (rcv_X0 rfl) (by rfl) (c_X0_has E S 30 k rfl) (Nat.le_of_ble_eq_true rfl) (Nat.le_of_ble_eq_true rfl) (by rfl) (Nat.le_of_ble_eq_true rfl) ?_
  refine g_b_eq (pc := 8) (tgt := 21) dX8_mark_8 (by decide) (fun c_8 => ?_) (fun c_8 => ?_)
  · exact absurd (g1.symm.trans c_8) (by decide)
  · refine g_iload_n (pc := 11) dX8_mark_11 2 rfl rfl ?_
    refine g_if_le (pc := 12) (tgt := 21) dX8_mark_12 (by decide) (fun c_12 => ?_) (fun c_12 => ?_)
    · have k_12 := Int32.not_lt.mpr c_12
      (first | exact absurd g2 c_12 | exact absurd c_12 g2)
    · have k_12 := Int32.not_le.mp c_12
      refine g_iload_n (pc := 15) dX8_mark_15 2 rfl rfl ?_
      refine g_bipush (pc := 16) (v := 6) dX8_mark_16 (by decide) ?_
      refine g_icmp_lt (pc := 18) (tgt := 23) dX8_mark_18 (by decide) (fun c_18 => ?_) (fun c_18 => ?_)
      · have k_18 := Int32.not_le.mpr c_18
        refine g_aload_n (pc := 23) dX8_mark_23 0 rfl rfl ?_
        refine gf_X8_21 (pc := 24) rfl dX8_mark_24 ?_
        refine g_iload_n (pc := 27) dX8_mark_27 1 rfl rfl ?_
        refine g_invV (pc := 28) j_X0_kindOf mw_X8_142 dX8_mark_28 (rcv_X0 rfl) (by rfl) (c_X0_kindOf E S 30 k rfl (by first | assumption | omega | rfl)) (Nat.le_of_ble_eq_true rfl) (Nat.le_of_ble_eq_true rfl) (by rfl) (Nat.le_of_ble_eq_true rfl) ?_
        refine g_iload_n (pc := 31) dX8_mark_31 2 rfl rfl ?_
        refine g_invS (pc := 32) j_X2_isOf mw_X8_145 dX8_mark_32 (by rfl) (c_X2_isOf E S (fldF S 30 0 k) kind ) (Nat.le_of_ble_eq_true rfl) (Nat.le_of_ble_eq_true rfl) (by rfl) (Nat.le_of_ble_eq_true rfl) ?_
        refine g_b_ne (pc := 35) (tgt := 44) dX8_mark_35 (by decide) (fun c_35 => ?_) (fun c_35 => ?_)
        · exact absurd c_35 h
        · refine g_aload_n (pc := 38) dX8_mark_38 0 rfl rfl ?_
          refine g_iconst (pc := 39) (v := 3) dX8_mark_39 (by decide) ?_
          refine g_invV (pc := 40) j_X8_refuse mw_X8_91 dX8_mark_40 (rcv_X8) (by rfl) (c_X8_refuse E S 3 (by first | assumption | omega | rfl)) (Nat.le_of_ble_eq_true rfl) (Nat.le_of_ble_eq_true rfl) (by rfl) (Nat.le_of_ble_eq_true rfl) ?_
          exact g_iret (pc := 43) hM rfl rfl ⟨rfl, rfl⟩ dX8_mark_43
      · have k_18 := Int32.not_lt.mp c_18
        (first | exact absurd g3 c_18 | exact absurd c_18 g3)
set_option maxRecDepth 100000 in
set_option maxHeartbeats 4000000 in
theorem c_X8_mark_ok (E : En) (S : St) (k kind : Int32) (hz : okB S 30) (g1 : hasF S 30 k = true) (g2 : ¬ kind ≤ 0) (g3 : kind < 6) (g4 : isOfF (fldF S 30 0 k) kind = true) : CTe E i_X8_mark S [.ref (eA E 0), .int k, .int kind] S (some (.int (signF kind (fldF S 30 0 k) (fldF S 30 4 k) (gI S 30 8)))) := by
  refine ct_of [(0, .ref (eA E 0)), (1, .int k), (2, .int kind)] (by decide +kernel) (Nat.le_of_ble_eq_true rfl) rfl (fun X hM => ?_)
  refine g_aload_n (pc := 0) dX8_mark_0 0 rfl rfl ?_
  refine gf_X8_21 (pc := 1) rfl dX8_mark_1 ?_
  refine g_iload_n (pc := 4) dX8_mark_4 1 rfl rfl ?_
  refine g_invV (pc := 5) j_X0_has mw_X8_134 dX8_mark_5 (rcv_X0 rfl) (by rfl) (c_X0_has E S 30 k rfl) (Nat.le_of_ble_eq_true rfl) (Nat.le_of_ble_eq_true rfl) (by rfl) (Nat.le_of_ble_eq_true rfl) ?_
  refine g_b_eq (pc := 8) (tgt := 21) dX8_mark_8 (by decide) (fun c_8 => ?_) (fun c_8 => ?_)
  · exact absurd (g1.symm.trans c_8) (by decide)
  · refine g_iload_n (pc := 11) dX8_mark_11 2 rfl rfl ?_
    refine g_if_le (pc := 12) (tgt := 21) dX8_mark_12 (by decide) (fun c_12 => ?_) (fun c_12 => ?_)
    · have k_12 := Int32.not_lt.mpr c_12
      (first | exact absurd g2 c_12 | exact absurd c_12 g2)
    · have k_12 := Int32.not_le.mp c_12
      refine g_iload_n (pc := 15) dX8_mark_15 2 rfl rfl ?_
      refine g_bipush (pc := 16) (v := 6) dX8_mark_16 (by decide) ?_
      refine g_icmp_lt (pc := 18) (tgt := 23) dX8_mark_18 (by decide) (fun c_18 => ?_) (fun c_18 => ?_)
      · have k_18 := Int32.not_le.mpr c_18
        refine g_aload_n (pc := 23) dX8_mark_23 0 rfl rfl ?_
        refine gf_X8_21 (pc := 24) rfl dX8_mark_24 ?_
        refine g_iload_n (pc := 27) dX8_mark_27 1 rfl rfl ?_
        refine g_invV (pc := 28) j_X0_kindOf mw_X8_142 dX8_mark_28 (rcv_X0 rfl) (by rfl) (c_X0_kindOf E S 30 k rfl (by first | assumption | omega | rfl)) (Nat.le_of_ble_eq_true rfl) (Nat.le_of_ble_eq_true rfl) (by rfl) (Nat.le_of_ble_eq_true rfl) ?_
        refine g_iload_n (pc := 31) dX8_mark_31 2 rfl rfl ?_
        refine g_invS (pc := 32) j_X2_isOf mw_X8_145 dX8_mark_32 (by rfl) (c_X2_isOf E S (fldF S 30 0 k) kind ) (Nat.le_of_ble_eq_true rfl) (Nat.le_of_ble_eq_true rfl) (by rfl) (Nat.le_of_ble_eq_true rfl) ?_
        refine g_b_ne (pc := 35) (tgt := 44) dX8_mark_35 (by decide) (fun c_35 => ?_) (fun c_35 => ?_)
        · refine g_iload_n (pc := 44) dX8_mark_44 2 rfl rfl ?_
          refine g_aload_n (pc := 45) dX8_mark_45 0 rfl rfl ?_
          refine gf_X8_21 (pc := 46) rfl dX8_mark_46 ?_
          refine g_iload_n (pc := 49) dX8_mark_49 1 rfl rfl ?_
          refine g_invV (pc := 50) j_X0_kindOf mw_X8_142 dX8_mark_50 (rcv_X0 rfl) (by rfl) (c_X0_kindOf E S 30 k rfl (by first | assumption | omega | rfl)) (Nat.le_of_ble_eq_true rfl) (Nat.le_of_ble_eq_true rfl) (by rfl) (Nat.le_of_ble_eq_true rfl) ?_
          refine g_aload_n (pc := 53) dX8_mark_53 0 rfl rfl ?_
          refine gf_X8_21 (pc := 54) rfl dX8_mark_54 ?_
          refine g_iload_n (pc := 57) dX8_mark_57 1 rfl rfl ?_
          refine g_invV (pc := 58) j_X0_firstOf mw_X8_150 dX8_mark_58 (rcv_X0 rfl) (by rfl) (c_X0_firstOf E S 30 k rfl (by first | assumption | omega | rfl)) (Nat.le_of_ble_eq_true rfl) (Nat.le_of_ble_eq_true rfl) (by rfl) (Nat.le_of_ble_eq_true rfl) ?_
          refine g_aload_n (pc := 61) dX8_mark_61 0 rfl rfl ?_
          refine gf_X8_21 (pc := 62) rfl dX8_mark_62 ?_
          refine g_invV (pc := 65) j_X0_thisNight mw_X8_153 dX8_mark_65 (rcv_X0 rfl) (by rfl) (c_X0_thisNight E S 30 rfl) (Nat.le_of_ble_eq_true rfl) (Nat.le_of_ble_eq_true rfl) (by rfl) (Nat.le_of_ble_eq_true rfl) ?_
          refine g_invS (pc := 68) j_X2_signOf mw_X8_156 dX8_mark_68 (by rfl) (c_X2_signOf E S kind (fldF S 30 0 k) (fldF S 30 4 k) (gI S 30 8) ) (Nat.le_of_ble_eq_true rfl) (Nat.le_of_ble_eq_true rfl) (by rfl) (Nat.le_of_ble_eq_true rfl) ?_
          exact g_iret (pc := 71) hM rfl rfl ⟨rfl, rfl⟩ dX8_mark_71
        · exact absurd (g4.symm.trans c_35) (by decide)
      · have k_18 := Int32.not_lt.mp c_18
        (first | exact absurd g3 c_18 | exact absurd c_18 g3)
set_option maxRecDepth 100000 in
set_option maxHeartbeats 4000000 in
theorem c_X8_glows_bad (E : En) (S : St) (k night : Int32) (hz : okB S 30) (h : ¬ (hasF S 30 k = true ∧ ¬ night < 0 ∧ night ≤ 99)) : CTe E i_X8_glows S [.ref (eA E 0), .int k, .int night] S (some (.int (-1))) := by
  refine ct_of [(0, .ref (eA E 0)), (1, .int k), (2, .int night)] (by decide +kernel) (Nat.le_of_ble_eq_true rfl) rfl (fun X hM => ?_)
  refine g_aload_n (pc := 0) dX8_glows_0 0 rfl rfl ?_
  refine gf_X8_21 (pc := 1) rfl dX8_glows_1 ?_
  refine g_iload_n (pc := 4) dX8_glows_4 1 rfl rfl ?_
  refine g_invV (pc := 5) j_X0_has mw_X8_134 dX8_glows_5 (rcv_X0 rfl) (by rfl) (c_X0_has E S 30 k rfl) (Nat.le_of_ble_eq_true rfl) (Nat.le_of_ble_eq_true rfl) (by rfl) (Nat.le_of_ble_eq_true rfl) ?_
  refine g_b_eq (pc := 8) (tgt := 21) dX8_glows_8 (by decide) (fun c_8 => ?_) (fun c_8 => ?_)
  · refine g_iconst (pc := 21) (v := -1) dX8_glows_21 (by decide) ?_
    exact g_iret (pc := 22) hM rfl rfl ⟨rfl, rfl⟩ dX8_glows_22
  · refine g_iload_n (pc := 11) dX8_glows_11 2 rfl rfl ?_
    refine g_if_lt (pc := 12) (tgt := 21) dX8_glows_12 (by decide) (fun c_12 => ?_) (fun c_12 => ?_)
    · have k_12 := Int32.not_le.mpr c_12
      refine g_iconst (pc := 21) (v := -1) dX8_glows_21 (by decide) ?_
      exact g_iret (pc := 22) hM rfl rfl ⟨rfl, rfl⟩ dX8_glows_22
    · have k_12 := Int32.not_lt.mp c_12
      refine g_iload_n (pc := 15) dX8_glows_15 2 rfl rfl ?_
      refine g_bipush (pc := 16) (v := 99) dX8_glows_16 (by decide) ?_
      refine g_icmp_le (pc := 18) (tgt := 23) dX8_glows_18 (by decide) (fun c_18 => ?_) (fun c_18 => ?_)
      · have k_18 := Int32.not_lt.mpr c_18
        exact absurd ⟨c_8, c_12, c_18⟩ h
      · have k_18 := Int32.not_le.mp c_18
        refine g_iconst (pc := 21) (v := -1) dX8_glows_21 (by decide) ?_
        exact g_iret (pc := 22) hM rfl rfl ⟨rfl, rfl⟩ dX8_glows_22
set_option maxRecDepth 100000 in
set_option maxHeartbeats 4000000 in
theorem c_X8_glows_ok (E : En) (S : St) (k night : Int32) (hz : okB S 30) (g1 : hasF S 30 k = true) (g2 : ¬ night < 0) (g3 : night ≤ 99) : CTe E i_X8_glows S [.ref (eA E 0), .int k, .int night] S (some (.int (gloF S 30 k night))) := by
  refine ct_of [(0, .ref (eA E 0)), (1, .int k), (2, .int night)] (by decide +kernel) (Nat.le_of_ble_eq_true rfl) rfl (fun X hM => ?_)
  refine g_aload_n (pc := 0) dX8_glows_0 0 rfl rfl ?_
  refine gf_X8_21 (pc := 1) rfl dX8_glows_1 ?_
  refine g_iload_n (pc := 4) dX8_glows_4 1 rfl rfl ?_
  refine g_invV (pc := 5) j_X0_has mw_X8_134 dX8_glows_5 (rcv_X0 rfl) (by rfl) (c_X0_has E S 30 k rfl) (Nat.le_of_ble_eq_true rfl) (Nat.le_of_ble_eq_true rfl) (by rfl) (Nat.le_of_ble_eq_true rfl) ?_
  refine g_b_eq (pc := 8) (tgt := 21) dX8_glows_8 (by decide) (fun c_8 => ?_) (fun c_8 => ?_)
  · exact absurd (g1.symm.trans c_8) (by decide)
  · refine g_iload_n (pc := 11) dX8_glows_11 2 rfl rfl ?_
    refine g_if_lt (pc := 12) (tgt := 21) dX8_glows_12 (by decide) (fun c_12 => ?_) (fun c_12 => ?_)
    · have k_12 := Int32.not_le.mpr c_12
      (first | exact absurd g2 c_12 | exact absurd c_12 g2)
    · have k_12 := Int32.not_lt.mp c_12
      refine g_iload_n (pc := 15) dX8_glows_15 2 rfl rfl ?_
      refine g_bipush (pc := 16) (v := 99) dX8_glows_16 (by decide) ?_
      refine g_icmp_le (pc := 18) (tgt := 23) dX8_glows_18 (by decide) (fun c_18 => ?_) (fun c_18 => ?_)
      · have k_18 := Int32.not_lt.mpr c_18
        refine g_aload_n (pc := 23) dX8_glows_23 0 rfl rfl ?_
        refine gf_X8_21 (pc := 24) rfl dX8_glows_24 ?_
        refine g_iload_n (pc := 27) dX8_glows_27 1 rfl rfl ?_
        refine g_iload_n (pc := 28) dX8_glows_28 2 rfl rfl ?_
        refine g_invV (pc := 29) j_X0_glowOf mw_X8_160 dX8_glows_29 (rcv_X0 rfl) (by rfl) (c_X0_glowOf E S 30 k night rfl (by first | assumption | omega | rfl)) (Nat.le_of_ble_eq_true rfl) (Nat.le_of_ble_eq_true rfl) (by rfl) (Nat.le_of_ble_eq_true rfl) ?_
        exact g_iret (pc := 32) hM rfl rfl ⟨rfl, rfl⟩ dX8_glows_32
      · have k_18 := Int32.not_le.mp c_18
        (first | exact absurd g3 c_18 | exact absurd c_18 g3)
set_option maxRecDepth 100000 in
set_option maxHeartbeats 4000000 in
theorem c_X8_night_st (E : En) (S : St) (hz : okB S 30) (hd : okD S 30) (h : ¬ (¬ gI S 30 6 = 0 ∧ gI S 30 8 < 40)) : CTe E i_X8_night S [.ref (eA E 0)] S (some (.int (-4))) := by
  refine ct_of [(0, .ref (eA E 0))] (by decide +kernel) (Nat.le_of_ble_eq_true rfl) rfl (fun X hM => ?_)
  refine g_aload_n (pc := 0) dX8_night_0 0 rfl rfl ?_
  refine gf_X8_21 (pc := 1) rfl dX8_night_1 ?_
  refine g_invV (pc := 4) j_X0_size mw_X8_133 dX8_night_4 (rcv_X0 rfl) (by rfl) (c_X0_size E S 30 rfl) (Nat.le_of_ble_eq_true rfl) (Nat.le_of_ble_eq_true rfl) (by rfl) (Nat.le_of_ble_eq_true rfl) ?_
  refine g_if_eq (pc := 7) (tgt := 22) dX8_night_7 (by decide) (fun c_7 => ?_) (fun c_7 => ?_)
  · refine g_bipush (pc := 22) (v := -4) dX8_night_22 (by decide) ?_
    exact g_iret (pc := 24) hM rfl rfl ⟨rfl, rfl⟩ dX8_night_24
  · refine g_aload_n (pc := 10) dX8_night_10 0 rfl rfl ?_
    refine gf_X8_21 (pc := 11) rfl dX8_night_11 ?_
    refine g_invV (pc := 14) j_X0_thisNight mw_X8_153 dX8_night_14 (rcv_X0 rfl) (by rfl) (c_X0_thisNight E S 30 rfl) (Nat.le_of_ble_eq_true rfl) (Nat.le_of_ble_eq_true rfl) (by rfl) (Nat.le_of_ble_eq_true rfl) ?_
    refine g_bipush (pc := 17) (v := 40) dX8_night_17 (by decide) ?_
    refine g_icmp_lt (pc := 19) (tgt := 25) dX8_night_19 (by decide) (fun c_19 => ?_) (fun c_19 => ?_)
    · have k_19 := Int32.not_le.mpr c_19
      exact absurd ⟨c_7, c_19⟩ h
    · have k_19 := Int32.not_lt.mp c_19
      refine g_bipush (pc := 22) (v := -4) dX8_night_22 (by decide) ?_
      exact g_iret (pc := 24) hM rfl rfl ⟨rfl, rfl⟩ dX8_night_24
set_option maxRecDepth 100000 in
set_option maxHeartbeats 4000000 in
theorem c_X8_night_fu (E : En) (S : St) (hz : okB S 30) (hd : okD S 30) (g1 : ¬ gI S 30 6 = 0) (g2 : gI S 30 8 < 40) (h : ¬ (gI S 30 9 < 40)) : CTe E i_X8_night S [.ref (eA E 0)] S (some (.int (-2))) := by
  refine ct_of [(0, .ref (eA E 0))] (by decide +kernel) (Nat.le_of_ble_eq_true rfl) rfl (fun X hM => ?_)
  refine g_aload_n (pc := 0) dX8_night_0 0 rfl rfl ?_
  refine gf_X8_21 (pc := 1) rfl dX8_night_1 ?_
  refine g_invV (pc := 4) j_X0_size mw_X8_133 dX8_night_4 (rcv_X0 rfl) (by rfl) (c_X0_size E S 30 rfl) (Nat.le_of_ble_eq_true rfl) (Nat.le_of_ble_eq_true rfl) (by rfl) (Nat.le_of_ble_eq_true rfl) ?_
  refine g_if_eq (pc := 7) (tgt := 22) dX8_night_7 (by decide) (fun c_7 => ?_) (fun c_7 => ?_)
  · (first | exact absurd g1 c_7 | exact absurd c_7 g1)
  · refine g_aload_n (pc := 10) dX8_night_10 0 rfl rfl ?_
    refine gf_X8_21 (pc := 11) rfl dX8_night_11 ?_
    refine g_invV (pc := 14) j_X0_thisNight mw_X8_153 dX8_night_14 (rcv_X0 rfl) (by rfl) (c_X0_thisNight E S 30 rfl) (Nat.le_of_ble_eq_true rfl) (Nat.le_of_ble_eq_true rfl) (by rfl) (Nat.le_of_ble_eq_true rfl) ?_
    refine g_bipush (pc := 17) (v := 40) dX8_night_17 (by decide) ?_
    refine g_icmp_lt (pc := 19) (tgt := 25) dX8_night_19 (by decide) (fun c_19 => ?_) (fun c_19 => ?_)
    · have k_19 := Int32.not_le.mpr c_19
      refine g_aload_n (pc := 25) dX8_night_25 0 rfl rfl ?_
      refine gf_X8_21 (pc := 26) rfl dX8_night_26 ?_
      refine g_invV (pc := 29) j_X0_deedsDone mw_X8_163 dX8_night_29 (rcv_X0 rfl) (by rfl) (c_X0_deedsDone E S 30 rfl) (Nat.le_of_ble_eq_true rfl) (Nat.le_of_ble_eq_true rfl) (by rfl) (Nat.le_of_ble_eq_true rfl) ?_
      refine g_bipush (pc := 32) (v := 40) dX8_night_32 (by decide) ?_
      refine g_icmp_lt (pc := 34) (tgt := 40) dX8_night_34 (by decide) (fun c_34 => ?_) (fun c_34 => ?_)
      · have k_34 := Int32.not_le.mpr c_34
        exact absurd c_34 h
      · have k_34 := Int32.not_lt.mp c_34
        refine g_bipush (pc := 37) (v := -2) dX8_night_37 (by decide) ?_
        exact g_iret (pc := 39) hM rfl rfl ⟨rfl, rfl⟩ dX8_night_39
    · have k_19 := Int32.not_lt.mp c_19
      (first | exact absurd g2 c_19 | exact absurd c_19 g2)
set_option maxRecDepth 100000 in
set_option maxHeartbeats 4000000 in
theorem c_X8_night_ok (E : En) (S : St) (hz : okB S 30) (hd : okD S 30) (g1 : ¬ gI S 30 6 = 0) (g2 : gI S 30 8 < 40) (g3 : gI S 30 9 < 40) : CTe E i_X8_night S [.ref (eA E 0)] (passF S 30) (some (.int (lgF (passF S 30) 30))) := by
  refine ct_of [(0, .ref (eA E 0))] (by decide +kernel) (Nat.le_of_ble_eq_true rfl) rfl (fun X hM => ?_)
  refine g_aload_n (pc := 0) dX8_night_0 0 rfl rfl ?_
  refine gf_X8_21 (pc := 1) rfl dX8_night_1 ?_
  refine g_invV (pc := 4) j_X0_size mw_X8_133 dX8_night_4 (rcv_X0 rfl) (by rfl) (c_X0_size E S 30 rfl) (Nat.le_of_ble_eq_true rfl) (Nat.le_of_ble_eq_true rfl) (by rfl) (Nat.le_of_ble_eq_true rfl) ?_
  refine g_if_eq (pc := 7) (tgt := 22) dX8_night_7 (by decide) (fun c_7 => ?_) (fun c_7 => ?_)
  · (first | exact absurd g1 c_7 | exact absurd c_7 g1)
  · refine g_aload_n (pc := 10) dX8_night_10 0 rfl rfl ?_
    refine gf_X8_21 (pc := 11) rfl dX8_night_11 ?_
    refine g_invV (pc := 14) j_X0_thisNight mw_X8_153 dX8_night_14 (rcv_X0 rfl) (by rfl) (c_X0_thisNight E S 30 rfl) (Nat.le_of_ble_eq_true rfl) (Nat.le_of_ble_eq_true rfl) (by rfl) (Nat.le_of_ble_eq_true rfl) ?_
    refine g_bipush (pc := 17) (v := 40) dX8_night_17 (by decide) ?_
    refine g_icmp_lt (pc := 19) (tgt := 25) dX8_night_19 (by decide) (fun c_19 => ?_) (fun c_19 => ?_)
    · have k_19 := Int32.not_le.mpr c_19
      refine g_aload_n (pc := 25) dX8_night_25 0 rfl rfl ?_
      refine gf_X8_21 (pc := 26) rfl dX8_night_26 ?_
      refine g_invV (pc := 29) j_X0_deedsDone mw_X8_163 dX8_night_29 (rcv_X0 rfl) (by rfl) (c_X0_deedsDone E S 30 rfl) (Nat.le_of_ble_eq_true rfl) (Nat.le_of_ble_eq_true rfl) (by rfl) (Nat.le_of_ble_eq_true rfl) ?_
      refine g_bipush (pc := 32) (v := 40) dX8_night_32 (by decide) ?_
      refine g_icmp_lt (pc := 34) (tgt := 40) dX8_night_34 (by decide) (fun c_34 => ?_) (fun c_34 => ?_)
      · have k_34 := Int32.not_le.mpr c_34
        refine g_aload_n (pc := 40) dX8_night_40 0 rfl rfl ?_
        refine gf_X8_21 (pc := 41) rfl dX8_night_41 ?_
        refine g_invN (pc := 44) j_X0_passNight mw_X8_166 dX8_night_44 (rcv_X0 rfl) (by rfl) (c_X0_passNight E S 30 rfl (by first | assumption | omega | rfl)) (Nat.le_of_ble_eq_true rfl) (Nat.le_of_ble_eq_true rfl) (by rfl) (Nat.le_of_ble_eq_true rfl) ?_
        refine g_aload_n (pc := 47) dX8_night_47 0 rfl rfl ?_
        refine gf_X8_21 (pc := 48) rfl dX8_night_48 ?_
        refine g_invV (pc := 51) j_X0_litGlow mw_X8_169 dX8_night_51 (rcv_X0 rfl) (by rfl) (c_X0_litGlow E (passF S 30) 30 rfl (okB_of (gI_pass6 S 30) hz)) (Nat.le_of_ble_eq_true rfl) (Nat.le_of_ble_eq_true rfl) (by rfl) (Nat.le_of_ble_eq_true rfl) ?_
        exact g_iret (pc := 54) hM rfl rfl ⟨rfl, rfl⟩ dX8_night_54
      · have k_34 := Int32.not_lt.mp c_34
        (first | exact absurd g3 c_34 | exact absurd c_34 g3)
    · have k_19 := Int32.not_lt.mp c_19
      (first | exact absurd g2 c_19 | exact absurd c_19 g2)
set_option maxRecDepth 100000 in
set_option maxHeartbeats 4000000 in
theorem c_X8_answer_bad (E : En) (S : St) (k : Int32) (hz : okB S 30) (hd : okD S 30) (h : ¬ (hasF S 30 k = true)) : CTe E i_X8_answer S [.ref (eA E 0), .int k] S (some (.int (-1))) := by
  refine ct_of [(0, .ref (eA E 0)), (1, .int k)] (by decide +kernel) (Nat.le_of_ble_eq_true rfl) rfl (fun X hM => ?_)
  refine g_aload_n (pc := 0) dX8_answer_0 0 rfl rfl ?_
  refine gf_X8_21 (pc := 1) rfl dX8_answer_1 ?_
  refine g_iload_n (pc := 4) dX8_answer_4 1 rfl rfl ?_
  refine g_invV (pc := 5) j_X0_has mw_X8_134 dX8_answer_5 (rcv_X0 rfl) (by rfl) (c_X0_has E S 30 k rfl) (Nat.le_of_ble_eq_true rfl) (Nat.le_of_ble_eq_true rfl) (by rfl) (Nat.le_of_ble_eq_true rfl) ?_
  refine g_b_ne (pc := 8) (tgt := 13) dX8_answer_8 (by decide) (fun c_8 => ?_) (fun c_8 => ?_)
  · exact absurd c_8 h
  · refine g_iconst (pc := 11) (v := -1) dX8_answer_11 (by decide) ?_
    exact g_iret (pc := 12) hM rfl rfl ⟨rfl, rfl⟩ dX8_answer_12
set_option maxRecDepth 100000 in
set_option maxHeartbeats 4000000 in
theorem c_X8_answer_st (E : En) (S : St) (k : Int32) (hz : okB S 30) (hd : okD S 30) (g1 : hasF S 30 k = true) (h : ¬ (litF S 30 k = true)) : CTe E i_X8_answer S [.ref (eA E 0), .int k] S (some (.int (-4))) := by
  refine ct_of [(0, .ref (eA E 0)), (1, .int k)] (by decide +kernel) (Nat.le_of_ble_eq_true rfl) rfl (fun X hM => ?_)
  refine g_aload_n (pc := 0) dX8_answer_0 0 rfl rfl ?_
  refine gf_X8_21 (pc := 1) rfl dX8_answer_1 ?_
  refine g_iload_n (pc := 4) dX8_answer_4 1 rfl rfl ?_
  refine g_invV (pc := 5) j_X0_has mw_X8_134 dX8_answer_5 (rcv_X0 rfl) (by rfl) (c_X0_has E S 30 k rfl) (Nat.le_of_ble_eq_true rfl) (Nat.le_of_ble_eq_true rfl) (by rfl) (Nat.le_of_ble_eq_true rfl) ?_
  refine g_b_ne (pc := 8) (tgt := 13) dX8_answer_8 (by decide) (fun c_8 => ?_) (fun c_8 => ?_)
  · refine g_aload_n (pc := 13) dX8_answer_13 0 rfl rfl ?_
    refine gf_X8_21 (pc := 14) rfl dX8_answer_14 ?_
    refine g_iload_n (pc := 17) dX8_answer_17 1 rfl rfl ?_
    refine g_invV (pc := 18) j_X0_isLit mw_X8_172 dX8_answer_18 (rcv_X0 rfl) (by rfl) (c_X0_isLit E S 30 k rfl) (Nat.le_of_ble_eq_true rfl) (Nat.le_of_ble_eq_true rfl) (by rfl) (Nat.le_of_ble_eq_true rfl) ?_
    refine g_b_ne (pc := 21) (tgt := 27) dX8_answer_21 (by decide) (fun c_21 => ?_) (fun c_21 => ?_)
    · exact absurd c_21 h
    · refine g_bipush (pc := 24) (v := -4) dX8_answer_24 (by decide) ?_
      exact g_iret (pc := 26) hM rfl rfl ⟨rfl, rfl⟩ dX8_answer_26
  · exact absurd (g1.symm.trans c_8) (by decide)
set_option maxRecDepth 100000 in
set_option maxHeartbeats 4000000 in
theorem c_X8_answer_fu (E : En) (S : St) (k : Int32) (hz : okB S 30) (hd : okD S 30) (g1 : hasF S 30 k = true) (g2 : litF S 30 k = true) (h : ¬ (gI S 30 9 < 40)) : CTe E i_X8_answer S [.ref (eA E 0), .int k] S (some (.int (-2))) := by
  refine ct_of [(0, .ref (eA E 0)), (1, .int k)] (by decide +kernel) (Nat.le_of_ble_eq_true rfl) rfl (fun X hM => ?_)
  refine g_aload_n (pc := 0) dX8_answer_0 0 rfl rfl ?_
  refine gf_X8_21 (pc := 1) rfl dX8_answer_1 ?_
  refine g_iload_n (pc := 4) dX8_answer_4 1 rfl rfl ?_
  refine g_invV (pc := 5) j_X0_has mw_X8_134 dX8_answer_5 (rcv_X0 rfl) (by rfl) (c_X0_has E S 30 k rfl) (Nat.le_of_ble_eq_true rfl) (Nat.le_of_ble_eq_true rfl) (by rfl) (Nat.le_of_ble_eq_true rfl) ?_
  refine g_b_ne (pc := 8) (tgt := 13) dX8_answer_8 (by decide) (fun c_8 => ?_) (fun c_8 => ?_)
  · refine g_aload_n (pc := 13) dX8_answer_13 0 rfl rfl ?_
    refine gf_X8_21 (pc := 14) rfl dX8_answer_14 ?_
    refine g_iload_n (pc := 17) dX8_answer_17 1 rfl rfl ?_
    refine g_invV (pc := 18) j_X0_isLit mw_X8_172 dX8_answer_18 (rcv_X0 rfl) (by rfl) (c_X0_isLit E S 30 k rfl) (Nat.le_of_ble_eq_true rfl) (Nat.le_of_ble_eq_true rfl) (by rfl) (Nat.le_of_ble_eq_true rfl) ?_
    refine g_b_ne (pc := 21) (tgt := 27) dX8_answer_21 (by decide) (fun c_21 => ?_) (fun c_21 => ?_)
    · refine g_aload_n (pc := 27) dX8_answer_27 0 rfl rfl ?_
      refine gf_X8_21 (pc := 28) rfl dX8_answer_28 ?_
      refine g_invV (pc := 31) j_X0_deedsDone mw_X8_163 dX8_answer_31 (rcv_X0 rfl) (by rfl) (c_X0_deedsDone E S 30 rfl) (Nat.le_of_ble_eq_true rfl) (Nat.le_of_ble_eq_true rfl) (by rfl) (Nat.le_of_ble_eq_true rfl) ?_
      refine g_bipush (pc := 34) (v := 40) dX8_answer_34 (by decide) ?_
      refine g_icmp_lt (pc := 36) (tgt := 42) dX8_answer_36 (by decide) (fun c_36 => ?_) (fun c_36 => ?_)
      · have k_36 := Int32.not_le.mpr c_36
        exact absurd c_36 h
      · have k_36 := Int32.not_lt.mp c_36
        refine g_bipush (pc := 39) (v := -2) dX8_answer_39 (by decide) ?_
        exact g_iret (pc := 41) hM rfl rfl ⟨rfl, rfl⟩ dX8_answer_41
    · exact absurd (g2.symm.trans c_21) (by decide)
  · exact absurd (g1.symm.trans c_8) (by decide)
set_option maxRecDepth 100000 in
set_option maxHeartbeats 4000000 in
theorem c_X8_answer_ok (E : En) (S : St) (k : Int32) (hz : okB S 30) (hd : okD S 30) (g1 : hasF S 30 k = true) (g2 : litF S 30 k = true) (g3 : gI S 30 9 < 40) : CTe E i_X8_answer S [.ref (eA E 0), .int k] (putF S 30 k) (some (.int (gloF (putF S 30 k) 30 k (gI (putF S 30 k) 30 8)))) := by
  refine ct_of [(0, .ref (eA E 0)), (1, .int k)] (by decide +kernel) (Nat.le_of_ble_eq_true rfl) rfl (fun X hM => ?_)
  refine g_aload_n (pc := 0) dX8_answer_0 0 rfl rfl ?_
  refine gf_X8_21 (pc := 1) rfl dX8_answer_1 ?_
  refine g_iload_n (pc := 4) dX8_answer_4 1 rfl rfl ?_
  refine g_invV (pc := 5) j_X0_has mw_X8_134 dX8_answer_5 (rcv_X0 rfl) (by rfl) (c_X0_has E S 30 k rfl) (Nat.le_of_ble_eq_true rfl) (Nat.le_of_ble_eq_true rfl) (by rfl) (Nat.le_of_ble_eq_true rfl) ?_
  refine g_b_ne (pc := 8) (tgt := 13) dX8_answer_8 (by decide) (fun c_8 => ?_) (fun c_8 => ?_)
  · refine g_aload_n (pc := 13) dX8_answer_13 0 rfl rfl ?_
    refine gf_X8_21 (pc := 14) rfl dX8_answer_14 ?_
    refine g_iload_n (pc := 17) dX8_answer_17 1 rfl rfl ?_
    refine g_invV (pc := 18) j_X0_isLit mw_X8_172 dX8_answer_18 (rcv_X0 rfl) (by rfl) (c_X0_isLit E S 30 k rfl) (Nat.le_of_ble_eq_true rfl) (Nat.le_of_ble_eq_true rfl) (by rfl) (Nat.le_of_ble_eq_true rfl) ?_
    refine g_b_ne (pc := 21) (tgt := 27) dX8_answer_21 (by decide) (fun c_21 => ?_) (fun c_21 => ?_)
    · refine g_aload_n (pc := 27) dX8_answer_27 0 rfl rfl ?_
      refine gf_X8_21 (pc := 28) rfl dX8_answer_28 ?_
      refine g_invV (pc := 31) j_X0_deedsDone mw_X8_163 dX8_answer_31 (rcv_X0 rfl) (by rfl) (c_X0_deedsDone E S 30 rfl) (Nat.le_of_ble_eq_true rfl) (Nat.le_of_ble_eq_true rfl) (by rfl) (Nat.le_of_ble_eq_true rfl) ?_
      refine g_bipush (pc := 34) (v := 40) dX8_answer_34 (by decide) ?_
      refine g_icmp_lt (pc := 36) (tgt := 42) dX8_answer_36 (by decide) (fun c_36 => ?_) (fun c_36 => ?_)
      · have k_36 := Int32.not_le.mpr c_36
        refine g_aload_n (pc := 42) dX8_answer_42 0 rfl rfl ?_
        refine gf_X8_21 (pc := 43) rfl dX8_answer_43 ?_
        refine g_iload_n (pc := 46) dX8_answer_46 1 rfl rfl ?_
        refine g_invN (pc := 47) j_X0_putOut mw_X8_175 dX8_answer_47 (rcv_X0 rfl) (by rfl) (c_X0_putOut E S 30 k rfl (by first | assumption | omega | rfl)) (Nat.le_of_ble_eq_true rfl) (Nat.le_of_ble_eq_true rfl) (by rfl) (Nat.le_of_ble_eq_true rfl) ?_
        refine g_aload_n (pc := 50) dX8_answer_50 0 rfl rfl ?_
        refine gf_X8_21 (pc := 51) rfl dX8_answer_51 ?_
        refine g_iload_n (pc := 54) dX8_answer_54 1 rfl rfl ?_
        refine g_aload_n (pc := 55) dX8_answer_55 0 rfl rfl ?_
        refine gf_X8_21 (pc := 56) rfl dX8_answer_56 ?_
        refine g_invV (pc := 59) j_X0_thisNight mw_X8_153 dX8_answer_59 (rcv_X0 rfl) (by rfl) (c_X0_thisNight E (putF S 30 k) 30 rfl) (Nat.le_of_ble_eq_true rfl) (Nat.le_of_ble_eq_true rfl) (by rfl) (Nat.le_of_ble_eq_true rfl) ?_
        refine g_invV (pc := 62) j_X0_glowOf mw_X8_160 dX8_answer_62 (rcv_X0 rfl) (by rfl) (c_X0_glowOf E (putF S 30 k) 30 k (gI (putF S 30 k) 30 8) rfl (okB_of (gI_put6 S 30 k) hz)) (Nat.le_of_ble_eq_true rfl) (Nat.le_of_ble_eq_true rfl) (by rfl) (Nat.le_of_ble_eq_true rfl) ?_
        exact g_iret (pc := 65) hM rfl rfl ⟨rfl, rfl⟩ dX8_answer_65
      · have k_36 := Int32.not_lt.mp c_36
        (first | exact absurd g3 c_36 | exact absurd c_36 g3)
    · exact absurd (g2.symm.trans c_21) (by decide)
  · exact absurd (g1.symm.trans c_8) (by decide)
set_option maxRecDepth 100000 in
set_option maxHeartbeats 4000000 in
theorem c_X8_relight_bad (E : En) (S : St) (k : Int32) (hz : okB S 30) (hd : okD S 30) (h : ¬ (hasF S 30 k = true)) : CTe E i_X8_relight S [.ref (eA E 0), .int k] S (some (.int (-1))) := by
  refine ct_of [(0, .ref (eA E 0)), (1, .int k)] (by decide +kernel) (Nat.le_of_ble_eq_true rfl) rfl (fun X hM => ?_)
  refine g_aload_n (pc := 0) dX8_relight_0 0 rfl rfl ?_
  refine gf_X8_21 (pc := 1) rfl dX8_relight_1 ?_
  refine g_iload_n (pc := 4) dX8_relight_4 1 rfl rfl ?_
  refine g_invV (pc := 5) j_X0_has mw_X8_134 dX8_relight_5 (rcv_X0 rfl) (by rfl) (c_X0_has E S 30 k rfl) (Nat.le_of_ble_eq_true rfl) (Nat.le_of_ble_eq_true rfl) (by rfl) (Nat.le_of_ble_eq_true rfl) ?_
  refine g_b_ne (pc := 8) (tgt := 13) dX8_relight_8 (by decide) (fun c_8 => ?_) (fun c_8 => ?_)
  · exact absurd c_8 h
  · refine g_iconst (pc := 11) (v := -1) dX8_relight_11 (by decide) ?_
    exact g_iret (pc := 12) hM rfl rfl ⟨rfl, rfl⟩ dX8_relight_12
set_option maxRecDepth 100000 in
set_option maxHeartbeats 4000000 in
theorem c_X8_relight_st (E : En) (S : St) (k : Int32) (hz : okB S 30) (hd : okD S 30) (g1 : hasF S 30 k = true) (h : ¬ (litF S 30 k = false)) : CTe E i_X8_relight S [.ref (eA E 0), .int k] S (some (.int (-4))) := by
  refine ct_of [(0, .ref (eA E 0)), (1, .int k)] (by decide +kernel) (Nat.le_of_ble_eq_true rfl) rfl (fun X hM => ?_)
  refine g_aload_n (pc := 0) dX8_relight_0 0 rfl rfl ?_
  refine gf_X8_21 (pc := 1) rfl dX8_relight_1 ?_
  refine g_iload_n (pc := 4) dX8_relight_4 1 rfl rfl ?_
  refine g_invV (pc := 5) j_X0_has mw_X8_134 dX8_relight_5 (rcv_X0 rfl) (by rfl) (c_X0_has E S 30 k rfl) (Nat.le_of_ble_eq_true rfl) (Nat.le_of_ble_eq_true rfl) (by rfl) (Nat.le_of_ble_eq_true rfl) ?_
  refine g_b_ne (pc := 8) (tgt := 13) dX8_relight_8 (by decide) (fun c_8 => ?_) (fun c_8 => ?_)
  · refine g_aload_n (pc := 13) dX8_relight_13 0 rfl rfl ?_
    refine gf_X8_21 (pc := 14) rfl dX8_relight_14 ?_
    refine g_iload_n (pc := 17) dX8_relight_17 1 rfl rfl ?_
    refine g_invV (pc := 18) j_X0_isLit mw_X8_172 dX8_relight_18 (rcv_X0 rfl) (by rfl) (c_X0_isLit E S 30 k rfl) (Nat.le_of_ble_eq_true rfl) (Nat.le_of_ble_eq_true rfl) (by rfl) (Nat.le_of_ble_eq_true rfl) ?_
    refine g_b_eq (pc := 21) (tgt := 27) dX8_relight_21 (by decide) (fun c_21 => ?_) (fun c_21 => ?_)
    · exact absurd c_21 h
    · refine g_bipush (pc := 24) (v := -4) dX8_relight_24 (by decide) ?_
      exact g_iret (pc := 26) hM rfl rfl ⟨rfl, rfl⟩ dX8_relight_26
  · exact absurd (g1.symm.trans c_8) (by decide)
set_option maxRecDepth 100000 in
set_option maxHeartbeats 4000000 in
theorem c_X8_relight_fu (E : En) (S : St) (k : Int32) (hz : okB S 30) (hd : okD S 30) (g1 : hasF S 30 k = true) (g2 : litF S 30 k = false) (h : ¬ (gI S 30 9 < 40)) : CTe E i_X8_relight S [.ref (eA E 0), .int k] S (some (.int (-2))) := by
  refine ct_of [(0, .ref (eA E 0)), (1, .int k)] (by decide +kernel) (Nat.le_of_ble_eq_true rfl) rfl (fun X hM => ?_)
  refine g_aload_n (pc := 0) dX8_relight_0 0 rfl rfl ?_
  refine gf_X8_21 (pc := 1) rfl dX8_relight_1 ?_
  refine g_iload_n (pc := 4) dX8_relight_4 1 rfl rfl ?_
  refine g_invV (pc := 5) j_X0_has mw_X8_134 dX8_relight_5 (rcv_X0 rfl) (by rfl) (c_X0_has E S 30 k rfl) (Nat.le_of_ble_eq_true rfl) (Nat.le_of_ble_eq_true rfl) (by rfl) (Nat.le_of_ble_eq_true rfl) ?_
  refine g_b_ne (pc := 8) (tgt := 13) dX8_relight_8 (by decide) (fun c_8 => ?_) (fun c_8 => ?_)
  · refine g_aload_n (pc := 13) dX8_relight_13 0 rfl rfl ?_
    refine gf_X8_21 (pc := 14) rfl dX8_relight_14 ?_
    refine g_iload_n (pc := 17) dX8_relight_17 1 rfl rfl ?_
    refine g_invV (pc := 18) j_X0_isLit mw_X8_172 dX8_relight_18 (rcv_X0 rfl) (by rfl) (c_X0_isLit E S 30 k rfl) (Nat.le_of_ble_eq_true rfl) (Nat.le_of_ble_eq_true rfl) (by rfl) (Nat.le_of_ble_eq_true rfl) ?_
    refine g_b_eq (pc := 21) (tgt := 27) dX8_relight_21 (by decide) (fun c_21 => ?_) (fun c_21 => ?_)
    · refine g_aload_n (pc := 27) dX8_relight_27 0 rfl rfl ?_
      refine gf_X8_21 (pc := 28) rfl dX8_relight_28 ?_
      refine g_invV (pc := 31) j_X0_deedsDone mw_X8_163 dX8_relight_31 (rcv_X0 rfl) (by rfl) (c_X0_deedsDone E S 30 rfl) (Nat.le_of_ble_eq_true rfl) (Nat.le_of_ble_eq_true rfl) (by rfl) (Nat.le_of_ble_eq_true rfl) ?_
      refine g_bipush (pc := 34) (v := 40) dX8_relight_34 (by decide) ?_
      refine g_icmp_lt (pc := 36) (tgt := 42) dX8_relight_36 (by decide) (fun c_36 => ?_) (fun c_36 => ?_)
      · have k_36 := Int32.not_le.mpr c_36
        exact absurd c_36 h
      · have k_36 := Int32.not_lt.mp c_36
        refine g_bipush (pc := 39) (v := -2) dX8_relight_39 (by decide) ?_
        exact g_iret (pc := 41) hM rfl rfl ⟨rfl, rfl⟩ dX8_relight_41
    · exact absurd (g2.symm.trans c_21) (by decide)
  · exact absurd (g1.symm.trans c_8) (by decide)
set_option maxRecDepth 100000 in
set_option maxHeartbeats 4000000 in
theorem c_X8_relight_ok (E : En) (S : St) (k : Int32) (hz : okB S 30) (hd : okD S 30) (g1 : hasF S 30 k = true) (g2 : litF S 30 k = false) (g3 : gI S 30 9 < 40) : CTe E i_X8_relight S [.ref (eA E 0), .int k] (ligF S 30 k) (some (.int (gloF (ligF S 30 k) 30 k (gI (ligF S 30 k) 30 8)))) := by
  refine ct_of [(0, .ref (eA E 0)), (1, .int k)] (by decide +kernel) (Nat.le_of_ble_eq_true rfl) rfl (fun X hM => ?_)
  refine g_aload_n (pc := 0) dX8_relight_0 0 rfl rfl ?_
  refine gf_X8_21 (pc := 1) rfl dX8_relight_1 ?_
  refine g_iload_n (pc := 4) dX8_relight_4 1 rfl rfl ?_
  refine g_invV (pc := 5) j_X0_has mw_X8_134 dX8_relight_5 (rcv_X0 rfl) (by rfl) (c_X0_has E S 30 k rfl) (Nat.le_of_ble_eq_true rfl) (Nat.le_of_ble_eq_true rfl) (by rfl) (Nat.le_of_ble_eq_true rfl) ?_
  refine g_b_ne (pc := 8) (tgt := 13) dX8_relight_8 (by decide) (fun c_8 => ?_) (fun c_8 => ?_)
  · refine g_aload_n (pc := 13) dX8_relight_13 0 rfl rfl ?_
    refine gf_X8_21 (pc := 14) rfl dX8_relight_14 ?_
    refine g_iload_n (pc := 17) dX8_relight_17 1 rfl rfl ?_
    refine g_invV (pc := 18) j_X0_isLit mw_X8_172 dX8_relight_18 (rcv_X0 rfl) (by rfl) (c_X0_isLit E S 30 k rfl) (Nat.le_of_ble_eq_true rfl) (Nat.le_of_ble_eq_true rfl) (by rfl) (Nat.le_of_ble_eq_true rfl) ?_
    refine g_b_eq (pc := 21) (tgt := 27) dX8_relight_21 (by decide) (fun c_21 => ?_) (fun c_21 => ?_)
    · refine g_aload_n (pc := 27) dX8_relight_27 0 rfl rfl ?_
      refine gf_X8_21 (pc := 28) rfl dX8_relight_28 ?_
      refine g_invV (pc := 31) j_X0_deedsDone mw_X8_163 dX8_relight_31 (rcv_X0 rfl) (by rfl) (c_X0_deedsDone E S 30 rfl) (Nat.le_of_ble_eq_true rfl) (Nat.le_of_ble_eq_true rfl) (by rfl) (Nat.le_of_ble_eq_true rfl) ?_
      refine g_bipush (pc := 34) (v := 40) dX8_relight_34 (by decide) ?_
      refine g_icmp_lt (pc := 36) (tgt := 42) dX8_relight_36 (by decide) (fun c_36 => ?_) (fun c_36 => ?_)
      · have k_36 := Int32.not_le.mpr c_36
        refine g_aload_n (pc := 42) dX8_relight_42 0 rfl rfl ?_
        refine gf_X8_21 (pc := 43) rfl dX8_relight_43 ?_
        refine g_iload_n (pc := 46) dX8_relight_46 1 rfl rfl ?_
        refine g_invN (pc := 47) j_X0_lightAgain mw_X8_178 dX8_relight_47 (rcv_X0 rfl) (by rfl) (c_X0_lightAgain E S 30 k rfl (by first | assumption | omega | rfl)) (Nat.le_of_ble_eq_true rfl) (Nat.le_of_ble_eq_true rfl) (by rfl) (Nat.le_of_ble_eq_true rfl) ?_
        refine g_aload_n (pc := 50) dX8_relight_50 0 rfl rfl ?_
        refine gf_X8_21 (pc := 51) rfl dX8_relight_51 ?_
        refine g_iload_n (pc := 54) dX8_relight_54 1 rfl rfl ?_
        refine g_aload_n (pc := 55) dX8_relight_55 0 rfl rfl ?_
        refine gf_X8_21 (pc := 56) rfl dX8_relight_56 ?_
        refine g_invV (pc := 59) j_X0_thisNight mw_X8_153 dX8_relight_59 (rcv_X0 rfl) (by rfl) (c_X0_thisNight E (ligF S 30 k) 30 rfl) (Nat.le_of_ble_eq_true rfl) (Nat.le_of_ble_eq_true rfl) (by rfl) (Nat.le_of_ble_eq_true rfl) ?_
        refine g_invV (pc := 62) j_X0_glowOf mw_X8_160 dX8_relight_62 (rcv_X0 rfl) (by rfl) (c_X0_glowOf E (ligF S 30 k) 30 k (gI (ligF S 30 k) 30 8) rfl (okB_of (gI_lig6 S 30 k) hz)) (Nat.le_of_ble_eq_true rfl) (Nat.le_of_ble_eq_true rfl) (by rfl) (Nat.le_of_ble_eq_true rfl) ?_
        exact g_iret (pc := 65) hM rfl rfl ⟨rfl, rfl⟩ dX8_relight_65
      · have k_36 := Int32.not_lt.mp c_36
        (first | exact absurd g3 c_36 | exact absurd c_36 g3)
    · exact absurd (g2.symm.trans c_21) (by decide)
  · exact absurd (g1.symm.trans c_8) (by decide)
set_option maxRecDepth 100000 in
set_option maxHeartbeats 4000000 in
theorem c_X8_carry_bad (E : En) (S : St) (k p : Int32) (hz : okB S 30) (hd : okD S 30) (h : ¬ (hasF S 30 k = true ∧ placeF p = true)) : CTe E i_X8_carry S [.ref (eA E 0), .int k, .int p] S (some (.int (-1))) := by
  refine ct_of [(0, .ref (eA E 0)), (1, .int k), (2, .int p)] (by decide +kernel) (Nat.le_of_ble_eq_true rfl) rfl (fun X hM => ?_)
  refine g_aload_n (pc := 0) dX8_carry_0 0 rfl rfl ?_
  refine gf_X8_21 (pc := 1) rfl dX8_carry_1 ?_
  refine g_iload_n (pc := 4) dX8_carry_4 1 rfl rfl ?_
  refine g_invV (pc := 5) j_X0_has mw_X8_134 dX8_carry_5 (rcv_X0 rfl) (by rfl) (c_X0_has E S 30 k rfl) (Nat.le_of_ble_eq_true rfl) (Nat.le_of_ble_eq_true rfl) (by rfl) (Nat.le_of_ble_eq_true rfl) ?_
  refine g_b_eq (pc := 8) (tgt := 18) dX8_carry_8 (by decide) (fun c_8 => ?_) (fun c_8 => ?_)
  · refine g_iconst (pc := 18) (v := -1) dX8_carry_18 (by decide) ?_
    exact g_iret (pc := 19) hM rfl rfl ⟨rfl, rfl⟩ dX8_carry_19
  · refine g_iload_n (pc := 11) dX8_carry_11 2 rfl rfl ?_
    refine g_invS (pc := 12) j_X8_isPlace mw_X8_181 dX8_carry_12 (by rfl) (c_X8_isPlace E S p ) (Nat.le_of_ble_eq_true rfl) (Nat.le_of_ble_eq_true rfl) (by rfl) (Nat.le_of_ble_eq_true rfl) ?_
    refine g_b_ne (pc := 15) (tgt := 20) dX8_carry_15 (by decide) (fun c_15 => ?_) (fun c_15 => ?_)
    · exact absurd ⟨c_8, c_15⟩ h
    · refine g_iconst (pc := 18) (v := -1) dX8_carry_18 (by decide) ?_
      exact g_iret (pc := 19) hM rfl rfl ⟨rfl, rfl⟩ dX8_carry_19
set_option maxRecDepth 100000 in
set_option maxHeartbeats 4000000 in
theorem c_X8_carry_st (E : En) (S : St) (k p : Int32) (hz : okB S 30) (hd : okD S 30) (g1 : hasF S 30 k = true) (g2 : placeF p = true) (h : ¬ (¬ fldF S 30 3 k = p)) : CTe E i_X8_carry S [.ref (eA E 0), .int k, .int p] S (some (.int (-4))) := by
  refine ct_of [(0, .ref (eA E 0)), (1, .int k), (2, .int p)] (by decide +kernel) (Nat.le_of_ble_eq_true rfl) rfl (fun X hM => ?_)
  refine g_aload_n (pc := 0) dX8_carry_0 0 rfl rfl ?_
  refine gf_X8_21 (pc := 1) rfl dX8_carry_1 ?_
  refine g_iload_n (pc := 4) dX8_carry_4 1 rfl rfl ?_
  refine g_invV (pc := 5) j_X0_has mw_X8_134 dX8_carry_5 (rcv_X0 rfl) (by rfl) (c_X0_has E S 30 k rfl) (Nat.le_of_ble_eq_true rfl) (Nat.le_of_ble_eq_true rfl) (by rfl) (Nat.le_of_ble_eq_true rfl) ?_
  refine g_b_eq (pc := 8) (tgt := 18) dX8_carry_8 (by decide) (fun c_8 => ?_) (fun c_8 => ?_)
  · exact absurd (g1.symm.trans c_8) (by decide)
  · refine g_iload_n (pc := 11) dX8_carry_11 2 rfl rfl ?_
    refine g_invS (pc := 12) j_X8_isPlace mw_X8_181 dX8_carry_12 (by rfl) (c_X8_isPlace E S p ) (Nat.le_of_ble_eq_true rfl) (Nat.le_of_ble_eq_true rfl) (by rfl) (Nat.le_of_ble_eq_true rfl) ?_
    refine g_b_ne (pc := 15) (tgt := 20) dX8_carry_15 (by decide) (fun c_15 => ?_) (fun c_15 => ?_)
    · refine g_aload_n (pc := 20) dX8_carry_20 0 rfl rfl ?_
      refine gf_X8_21 (pc := 21) rfl dX8_carry_21 ?_
      refine g_iload_n (pc := 24) dX8_carry_24 1 rfl rfl ?_
      refine g_invV (pc := 25) j_X0_placeOf mw_X8_184 dX8_carry_25 (rcv_X0 rfl) (by rfl) (c_X0_placeOf E S 30 k rfl (by first | assumption | omega | rfl)) (Nat.le_of_ble_eq_true rfl) (Nat.le_of_ble_eq_true rfl) (by rfl) (Nat.le_of_ble_eq_true rfl) ?_
      refine g_istore_n (pc := 28) (L' := [(3, .int (fldF S 30 3 k)), (0, .ref (eA E 0)), (1, .int k), (2, .int p)]) dX8_carry_28 rfl (Nat.le_of_ble_eq_true rfl) rfl ?_
      refine g_iload_n (pc := 29) dX8_carry_29 0 rfl rfl ?_
      refine g_iload_n (pc := 30) dX8_carry_30 3 rfl rfl ?_
      refine g_icmp_ne (pc := 31) (tgt := 37) dX8_carry_31 (by decide) (fun c_31 => ?_) (fun c_31 => ?_)
      · exact absurd c_31 h
      · refine g_bipush (pc := 34) (v := -4) dX8_carry_34 (by decide) ?_
        exact g_iret (pc := 36) hM rfl rfl ⟨rfl, rfl⟩ dX8_carry_36
    · exact absurd (g2.symm.trans c_15) (by decide)
set_option maxRecDepth 100000 in
set_option maxHeartbeats 4000000 in
theorem c_X8_carry_fu (E : En) (S : St) (k p : Int32) (hz : okB S 30) (hd : okD S 30) (g1 : hasF S 30 k = true) (g2 : placeF p = true) (g3 : ¬ fldF S 30 3 k = p) (h : ¬ (gI S 30 9 < 40)) : CTe E i_X8_carry S [.ref (eA E 0), .int k, .int p] S (some (.int (-2))) := by
  refine ct_of [(0, .ref (eA E 0)), (1, .int k), (2, .int p)] (by decide +kernel) (Nat.le_of_ble_eq_true rfl) rfl (fun X hM => ?_)
  refine g_aload_n (pc := 0) dX8_carry_0 0 rfl rfl ?_
  refine gf_X8_21 (pc := 1) rfl dX8_carry_1 ?_
  refine g_iload_n (pc := 4) dX8_carry_4 1 rfl rfl ?_
  refine g_invV (pc := 5) j_X0_has mw_X8_134 dX8_carry_5 (rcv_X0 rfl) (by rfl) (c_X0_has E S 30 k rfl) (Nat.le_of_ble_eq_true rfl) (Nat.le_of_ble_eq_true rfl) (by rfl) (Nat.le_of_ble_eq_true rfl) ?_
  refine g_b_eq (pc := 8) (tgt := 18) dX8_carry_8 (by decide) (fun c_8 => ?_) (fun c_8 => ?_)
  · exact absurd (g1.symm.trans c_8) (by decide)
  · refine g_iload_n (pc := 11) dX8_carry_11 2 rfl rfl ?_
    refine g_invS (pc := 12) j_X8_isPlace mw_X8_181 dX8_carry_12 (by rfl) (c_X8_isPlace E S p ) (Nat.le_of_ble_eq_true rfl) (Nat.le_of_ble_eq_true rfl) (by rfl) (Nat.le_of_ble_eq_true rfl) ?_
    refine g_b_ne (pc := 15) (tgt := 20) dX8_carry_15 (by decide) (fun c_15 => ?_) (fun c_15 => ?_)
    · refine g_aload_n (pc := 20) dX8_carry_20 0 rfl rfl ?_
      refine gf_X8_21 (pc := 21) rfl dX8_carry_21 ?_
      refine g_iload_n (pc := 24) dX8_carry_24 1 rfl rfl ?_
      refine g_invV (pc := 25) j_X0_placeOf mw_X8_184 dX8_carry_25 (rcv_X0 rfl) (by rfl) (c_X0_placeOf E S 30 k rfl (by first | assumption | omega | rfl)) (Nat.le_of_ble_eq_true rfl) (Nat.le_of_ble_eq_true rfl) (by rfl) (Nat.le_of_ble_eq_true rfl) ?_
      refine g_istore_n (pc := 28) (L' := [(3, .int (fldF S 30 3 k)), (0, .ref (eA E 0)), (1, .int k), (2, .int p)]) dX8_carry_28 rfl (Nat.le_of_ble_eq_true rfl) rfl ?_
      refine g_iload_n (pc := 29) dX8_carry_29 0 rfl rfl ?_
      refine g_iload_n (pc := 30) dX8_carry_30 3 rfl rfl ?_
      refine g_icmp_ne (pc := 31) (tgt := 37) dX8_carry_31 (by decide) (fun c_31 => ?_) (fun c_31 => ?_)
      · refine g_aload_n (pc := 37) dX8_carry_37 1 rfl rfl ?_
        refine gf_X8_21 (pc := 38) rfl dX8_carry_38 ?_
        refine g_invV (pc := 41) j_X0_deedsDone mw_X8_163 dX8_carry_41 (rcv_X0 rfl) (by rfl) (c_X0_deedsDone E S 30 rfl) (Nat.le_of_ble_eq_true rfl) (Nat.le_of_ble_eq_true rfl) (by rfl) (Nat.le_of_ble_eq_true rfl) ?_
        refine g_bipush (pc := 44) (v := 40) dX8_carry_44 (by decide) ?_
        refine g_icmp_lt (pc := 46) (tgt := 52) dX8_carry_46 (by decide) (fun c_46 => ?_) (fun c_46 => ?_)
        · have k_46 := Int32.not_le.mpr c_46
          exact absurd c_46 h
        · have k_46 := Int32.not_lt.mp c_46
          refine g_bipush (pc := 49) (v := -2) dX8_carry_49 (by decide) ?_
          exact g_iret (pc := 51) hM rfl rfl ⟨rfl, rfl⟩ dX8_carry_51
      · (first | exact absurd g3 c_31 | exact absurd c_31 g3)
    · exact absurd (g2.symm.trans c_15) (by decide)
set_option maxRecDepth 100000 in
set_option maxHeartbeats 4000000 in
theorem c_X8_carry_ok (E : En) (S : St) (k p : Int32) (hz : okB S 30) (hd : okD S 30) (g1 : hasF S 30 k = true) (g2 : placeF p = true) (g3 : ¬ fldF S 30 3 k = p) (g4 : gI S 30 9 < 40) : CTe E i_X8_carry S [.ref (eA E 0), .int k, .int p] (carF S 30 k p) (some (.int (fldF S 30 3 k))) := by
  refine ct_of [(0, .ref (eA E 0)), (1, .int k), (2, .int p)] (by decide +kernel) (Nat.le_of_ble_eq_true rfl) rfl (fun X hM => ?_)
  refine g_aload_n (pc := 0) dX8_carry_0 0 rfl rfl ?_
  refine gf_X8_21 (pc := 1) rfl dX8_carry_1 ?_
  refine g_iload_n (pc := 4) dX8_carry_4 1 rfl rfl ?_
  refine g_invV (pc := 5) j_X0_has mw_X8_134 dX8_carry_5 (rcv_X0 rfl) (by rfl) (c_X0_has E S 30 k rfl) (Nat.le_of_ble_eq_true rfl) (Nat.le_of_ble_eq_true rfl) (by rfl) (Nat.le_of_ble_eq_true rfl) ?_
  refine g_b_eq (pc := 8) (tgt := 18) dX8_carry_8 (by decide) (fun c_8 => ?_) (fun c_8 => ?_)
  · exact absurd (g1.symm.trans c_8) (by decide)
  · refine g_iload_n (pc := 11) dX8_carry_11 2 rfl rfl ?_
    refine g_invS (pc := 12) j_X8_isPlace mw_X8_181 dX8_carry_12 (by rfl) (c_X8_isPlace E S p ) (Nat.le_of_ble_eq_true rfl) (Nat.le_of_ble_eq_true rfl) (by rfl) (Nat.le_of_ble_eq_true rfl) ?_
    refine g_b_ne (pc := 15) (tgt := 20) dX8_carry_15 (by decide) (fun c_15 => ?_) (fun c_15 => ?_)
    · refine g_aload_n (pc := 20) dX8_carry_20 0 rfl rfl ?_
      refine gf_X8_21 (pc := 21) rfl dX8_carry_21 ?_
      refine g_iload_n (pc := 24) dX8_carry_24 1 rfl rfl ?_
      refine g_invV (pc := 25) j_X0_placeOf mw_X8_184 dX8_carry_25 (rcv_X0 rfl) (by rfl) (c_X0_placeOf E S 30 k rfl (by first | assumption | omega | rfl)) (Nat.le_of_ble_eq_true rfl) (Nat.le_of_ble_eq_true rfl) (by rfl) (Nat.le_of_ble_eq_true rfl) ?_
      refine g_istore_n (pc := 28) (L' := [(3, .int (fldF S 30 3 k)), (0, .ref (eA E 0)), (1, .int k), (2, .int p)]) dX8_carry_28 rfl (Nat.le_of_ble_eq_true rfl) rfl ?_
      refine g_iload_n (pc := 29) dX8_carry_29 0 rfl rfl ?_
      refine g_iload_n (pc := 30) dX8_carry_30 3 rfl rfl ?_
      refine g_icmp_ne (pc := 31) (tgt := 37) dX8_carry_31 (by decide) (fun c_31 => ?_) (fun c_31 => ?_)
      · refine g_aload_n (pc := 37) dX8_carry_37 1 rfl rfl ?_
        refine gf_X8_21 (pc := 38) rfl dX8_carry_38 ?_
        refine g_invV (pc := 41) j_X0_deedsDone mw_X8_163 dX8_carry_41 (rcv_X0 rfl) (by rfl) (c_X0_deedsDone E S 30 rfl) (Nat.le_of_ble_eq_true rfl) (Nat.le_of_ble_eq_true rfl) (by rfl) (Nat.le_of_ble_eq_true rfl) ?_
        refine g_bipush (pc := 44) (v := 40) dX8_carry_44 (by decide) ?_
        refine g_icmp_lt (pc := 46) (tgt := 52) dX8_carry_46 (by decide) (fun c_46 => ?_) (fun c_46 => ?_)
        · have k_46 := Int32.not_le.mpr c_46
          refine g_aload_n (pc := 52) dX8_carry_52 1 rfl rfl ?_
          refine gf_X8_21 (pc := 53) rfl dX8_carry_53 ?_
          refine g_iload_n (pc := 56) dX8_carry_56 2 rfl rfl ?_
          refine g_iload_n (pc := 57) dX8_carry_57 3 rfl rfl ?_
          refine g_invN (pc := 58) j_X0_carryTo mw_X8_187 dX8_carry_58 (rcv_X0 rfl) (by rfl) (c_X0_carryTo E S 30 k p rfl (by first | assumption | omega | rfl) (by first | assumption | omega | rfl)) (Nat.le_of_ble_eq_true rfl) (Nat.le_of_ble_eq_true rfl) (by rfl) (Nat.le_of_ble_eq_true rfl) ?_
          refine g_iload_n (pc := 61) dX8_carry_61 0 rfl rfl ?_
          exact g_iret (pc := 62) hM rfl rfl ⟨rfl, rfl⟩ dX8_carry_62
        · have k_46 := Int32.not_lt.mp c_46
          (first | exact absurd g4 c_46 | exact absurd c_46 g4)
      · (first | exact absurd g3 c_31 | exact absurd c_31 g3)
    · exact absurd (g2.symm.trans c_15) (by decide)
set_option maxRecDepth 100000 in
set_option maxHeartbeats 4000000 in
theorem c_X8_undo_bad (E : En) (S : St) (n : Int32)  (h : ¬ (¬ n < 0 ∧ n ≤ gI S 30 9)) : CTe E i_X8_undo S [.ref (eA E 0), .int n] S (some (.int (-1))) := by
  refine ct_of [(0, .ref (eA E 0)), (1, .int n)] (by decide +kernel) (Nat.le_of_ble_eq_true rfl) rfl (fun X hM => ?_)
  refine g_iload_n (pc := 0) dX8_undo_0 1 rfl rfl ?_
  refine g_if_lt (pc := 1) (tgt := 15) dX8_undo_1 (by decide) (fun c_1 => ?_) (fun c_1 => ?_)
  · have k_1 := Int32.not_le.mpr c_1
    refine g_iconst (pc := 15) (v := -1) dX8_undo_15 (by decide) ?_
    exact g_iret (pc := 16) hM rfl rfl ⟨rfl, rfl⟩ dX8_undo_16
  · have k_1 := Int32.not_lt.mp c_1
    refine g_iload_n (pc := 4) dX8_undo_4 1 rfl rfl ?_
    refine g_aload_n (pc := 5) dX8_undo_5 0 rfl rfl ?_
    refine gf_X8_21 (pc := 6) rfl dX8_undo_6 ?_
    refine g_invV (pc := 9) j_X0_deedsDone mw_X8_163 dX8_undo_9 (rcv_X0 rfl) (by rfl) (c_X0_deedsDone E S 30 rfl) (Nat.le_of_ble_eq_true rfl) (Nat.le_of_ble_eq_true rfl) (by rfl) (Nat.le_of_ble_eq_true rfl) ?_
    refine g_icmp_le (pc := 12) (tgt := 17) dX8_undo_12 (by decide) (fun c_12 => ?_) (fun c_12 => ?_)
    · have k_12 := Int32.not_lt.mpr c_12
      exact absurd ⟨c_1, c_12⟩ h
    · have k_12 := Int32.not_le.mp c_12
      refine g_iconst (pc := 15) (v := -1) dX8_undo_15 (by decide) ?_
      exact g_iret (pc := 16) hM rfl rfl ⟨rfl, rfl⟩ dX8_undo_16
set_option maxRecDepth 100000 in
set_option maxHeartbeats 4000000 in
theorem c_X8_undo_ok (E : En) (S : St) (n0 M : Nat) (hz : okB S 30) (hd : okD S 30) (h9 : gI S 30 9 = nI (n0 + M)) (hnM : n0 + M ≤ 40) : CTe E i_X8_undo S [.ref (eA E 0), .int (nI n0)] (undoF 30 M S) (some (.int (gI S 30 9 - nI n0))) := by
  refine ct_of [(0, .ref (eA E 0)), (1, .int (nI n0))] (by decide +kernel) (Nat.le_of_ble_eq_true rfl) rfl (fun X hM => ?_)
  refine g_iload_n (pc := 0) dX8_undo_0 1 rfl rfl ?_
  refine g_if_lt (pc := 1) (tgt := 15) dX8_undo_1 (by decide) (fun c_1 => ?_) (fun c_1 => ?_)
  · have k_1 := Int32.not_le.mpr c_1
    exact absurd c_1 (nI_pos (by omega))
  · have k_1 := Int32.not_lt.mp c_1
    refine g_iload_n (pc := 4) dX8_undo_4 1 rfl rfl ?_
    refine g_aload_n (pc := 5) dX8_undo_5 0 rfl rfl ?_
    refine gf_X8_21 (pc := 6) rfl dX8_undo_6 ?_
    refine g_invV (pc := 9) j_X0_deedsDone mw_X8_163 dX8_undo_9 (rcv_X0 rfl) (by rfl) (c_X0_deedsDone E S 30 rfl) (Nat.le_of_ble_eq_true rfl) (Nat.le_of_ble_eq_true rfl) (by rfl) (Nat.le_of_ble_eq_true rfl) ?_
    refine g_icmp_le (pc := 12) (tgt := 17) dX8_undo_12 (by decide) (fun c_12 => ?_) (fun c_12 => ?_)
    · have k_12 := Int32.not_lt.mpr c_12
      refine g_aload_n (pc := 17) dX8_undo_17 0 rfl rfl ?_
      refine gf_X8_21 (pc := 18) rfl dX8_undo_18 ?_
      refine g_invV (pc := 21) j_X0_deedsDone mw_X8_163 dX8_undo_21 (rcv_X0 rfl) (by rfl) (c_X0_deedsDone E S 30 rfl) (Nat.le_of_ble_eq_true rfl) (Nat.le_of_ble_eq_true rfl) (by rfl) (Nat.le_of_ble_eq_true rfl) ?_
      refine g_iload_n (pc := 24) dX8_undo_24 1 rfl rfl ?_
      refine g_isub (pc := 25) dX8_undo_25 ?_
      refine g_istore_n (pc := 26) (L' := [(2, .int (gI S 30 9 - nI n0)), (0, .ref (eA E 0)), (1, .int (nI n0))]) dX8_undo_26 rfl (Nat.le_of_ble_eq_true rfl) rfl ?_
      refine g_aload_n (pc := 27) dX8_undo_27 1 rfl rfl ?_
      refine gf_X8_21 (pc := 28) rfl dX8_undo_28 ?_
      refine g_iload_n (pc := 31) dX8_undo_31 2 rfl rfl ?_
      refine g_invN (pc := 32) j_X0_takeBackFrom mw_X8_190 dX8_undo_32 (rcv_X0 rfl) (by rfl) (c_X0_takeBackFrom E S 30 n0 M rfl (by first | assumption | omega | rfl) (by first | assumption | omega | rfl) (by first | assumption | omega | rfl) (by first | assumption | omega | rfl)) (Nat.le_of_ble_eq_true rfl) (Nat.le_of_ble_eq_true rfl) (by rfl) (Nat.le_of_ble_eq_true rfl) ?_
      refine g_iload_n (pc := 35) dX8_undo_35 0 rfl rfl ?_
      exact g_iret (pc := 36) hM rfl rfl ⟨rfl, rfl⟩ dX8_undo_36
    · have k_12 := Int32.not_le.mp c_12
      exact absurd (by rw [h9]; exact nI_le (by omega) (by omega)) c_12
set_option maxRecDepth 100000 in
set_option maxHeartbeats 4000000 in
theorem c_X8_keep_bad (E : En) (S : St) (k : Int32) (hr : idxF 3 k = false) : CTe E i_X8_keep S [.ref (eA E 0), .int k] S (some (.int (-1))) := by
  refine ct_of [(0, .ref (eA E 0)), (1, .int k)] (by decide +kernel) (Nat.le_of_ble_eq_true rfl) rfl (fun X hM => ?_)
  refine g_aload_n (pc := 0) dX8_keep_0 0 rfl rfl ?_
  refine g_iload_n (pc := 1) dX8_keep_1 1 rfl rfl ?_
  refine g_invV (pc := 2) j_X8_keepOf mw_X8_126 dX8_keep_2 (rcv_X8) (by rfl) (c_X8_keepOf_0 E S k (by first | assumption | omega | rfl)) (Nat.le_of_ble_eq_true rfl) (Nat.le_of_ble_eq_true rfl) (by rfl) (Nat.le_of_ble_eq_true rfl) ?_
  refine g_astore_nN (pc := 5) (L' := [(2, .null), (0, .ref (eA E 0)), (1, .int k)]) dX8_keep_5 rfl (Nat.le_of_ble_eq_true rfl) rfl ?_
  refine g_aload_nN (pc := 6) dX8_keep_6 0 rfl rfl ?_
  refine g_ifnonnullN (pc := 7) dX8_keep_7 ?_
  refine g_iconst (pc := 10) (v := -1) dX8_keep_10 (by decide) ?_
  exact g_iret (pc := 11) hM rfl rfl ⟨rfl, rfl⟩ dX8_keep_11
set_option maxRecDepth 100000 in
set_option maxHeartbeats 4000000 in
theorem c_X8_keep_st (E : En) (S : St) (n : Nat) (hn : n < 3) (h : gI S 30 6 = 0) : CTe E i_X8_keep S [.ref (eA E 0), .int (nI n)] S (some (.int (-4))) := by
  refine ct_of [(0, .ref (eA E 0)), (1, .int (nI n))] (by decide +kernel) (Nat.le_of_ble_eq_true rfl) rfl (fun X hM => ?_)
  refine g_aload_n (pc := 0) dX8_keep_0 0 rfl rfl ?_
  refine g_iload_n (pc := 1) dX8_keep_1 1 rfl rfl ?_
  refine g_invV (pc := 2) j_X8_keepOf mw_X8_126 dX8_keep_2 (rcv_X8) (by rfl) (c_X8_keepOf_n E S n (by first | assumption | omega | rfl)) (Nat.le_of_ble_eq_true rfl) (Nat.le_of_ble_eq_true rfl) (by rfl) (Nat.le_of_ble_eq_true rfl) ?_
  refine g_astore_n (pc := 5) (L' := [(2, .ref (eA E (31 + n))), (0, .ref (eA E 0)), (1, .int (nI n))]) dX8_keep_5 rfl (Nat.le_of_ble_eq_true rfl) rfl ?_
  refine g_aload_n (pc := 6) dX8_keep_6 0 rfl rfl ?_
  refine g_ifnonnull (pc := 7) (tgt := 12) dX8_keep_7 (by decide) ?_
  refine g_aload_n (pc := 12) dX8_keep_12 1 rfl rfl ?_
  refine gf_X8_21 (pc := 13) rfl dX8_keep_13 ?_
  refine g_invV (pc := 16) j_X0_size mw_X8_133 dX8_keep_16 (rcv_X0 rfl) (by rfl) (c_X0_size E S 30 rfl) (Nat.le_of_ble_eq_true rfl) (Nat.le_of_ble_eq_true rfl) (by rfl) (Nat.le_of_ble_eq_true rfl) ?_
  refine g_if_ne (pc := 19) (tgt := 25) dX8_keep_19 (by decide) (fun c_19 => ?_) (fun c_19 => ?_)
  · exact absurd h c_19
  · refine g_bipush (pc := 22) (v := -4) dX8_keep_22 (by decide) ?_
    exact g_iret (pc := 24) hM rfl rfl ⟨rfl, rfl⟩ dX8_keep_24
set_option maxRecDepth 100000 in
set_option maxHeartbeats 4000000 in
theorem c_X8_keep_ok (E : En) (S : St) (n : Nat) (hn : n < 3) (h : ¬ gI S 30 6 = 0) : CTe E i_X8_keep S [.ref (eA E 0), .int (nI n)] (becF S (31 + n) 30) (some (.int (gI (becF S (31 + n) 30) (31 + n) 9))) := by
  refine ct_of [(0, .ref (eA E 0)), (1, .int (nI n))] (by decide +kernel) (Nat.le_of_ble_eq_true rfl) rfl (fun X hM => ?_)
  refine g_aload_n (pc := 0) dX8_keep_0 0 rfl rfl ?_
  refine g_iload_n (pc := 1) dX8_keep_1 1 rfl rfl ?_
  refine g_invV (pc := 2) j_X8_keepOf mw_X8_126 dX8_keep_2 (rcv_X8) (by rfl) (c_X8_keepOf_n E S n (by first | assumption | omega | rfl)) (Nat.le_of_ble_eq_true rfl) (Nat.le_of_ble_eq_true rfl) (by rfl) (Nat.le_of_ble_eq_true rfl) ?_
  refine g_astore_n (pc := 5) (L' := [(2, .ref (eA E (31 + n))), (0, .ref (eA E 0)), (1, .int (nI n))]) dX8_keep_5 rfl (Nat.le_of_ble_eq_true rfl) rfl ?_
  refine g_aload_n (pc := 6) dX8_keep_6 0 rfl rfl ?_
  refine g_ifnonnull (pc := 7) (tgt := 12) dX8_keep_7 (by decide) ?_
  refine g_aload_n (pc := 12) dX8_keep_12 1 rfl rfl ?_
  refine gf_X8_21 (pc := 13) rfl dX8_keep_13 ?_
  refine g_invV (pc := 16) j_X0_size mw_X8_133 dX8_keep_16 (rcv_X0 rfl) (by rfl) (c_X0_size E S 30 rfl) (Nat.le_of_ble_eq_true rfl) (Nat.le_of_ble_eq_true rfl) (by rfl) (Nat.le_of_ble_eq_true rfl) ?_
  refine g_if_ne (pc := 19) (tgt := 25) dX8_keep_19 (by decide) (fun c_19 => ?_) (fun c_19 => ?_)
  · refine g_aload_n (pc := 25) dX8_keep_25 0 rfl rfl ?_
    refine g_aload_n (pc := 26) dX8_keep_26 1 rfl rfl ?_
    refine gf_X8_21 (pc := 27) rfl dX8_keep_27 ?_
    refine g_invN (pc := 30) j_X0_become mw_X8_193 dX8_keep_30 (rcv_X0 (kd_kc (by omega))) (by rfl) (c_X0_become E S (31 + n) 30 (kd_kc (by omega)) rfl) (Nat.le_of_ble_eq_true rfl) (Nat.le_of_ble_eq_true rfl) (by rfl) (Nat.le_of_ble_eq_true rfl) ?_
    refine g_aload_n (pc := 33) dX8_keep_33 0 rfl rfl ?_
    refine g_invV (pc := 34) j_X0_deedsDone mw_X8_163 dX8_keep_34 (rcv_X0 (kd_kc (by omega))) (by rfl) (c_X0_deedsDone E (becF S (31 + n) 30) (31 + n) (kd_kc (by omega))) (Nat.le_of_ble_eq_true rfl) (Nat.le_of_ble_eq_true rfl) (by rfl) (Nat.le_of_ble_eq_true rfl) ?_
    exact g_iret (pc := 37) hM rfl rfl ⟨rfl, rfl⟩ dX8_keep_37
  · exact absurd c_19 h
set_option maxRecDepth 100000 in
set_option maxHeartbeats 4000000 in
theorem c_X8_on_bad (E : En) (S : St) (k : Int32) (hr : idxF 3 k = false) : CTe E i_X8_on S [.ref (eA E 0), .int k] S (some (.int (-1))) := by
  refine ct_of [(0, .ref (eA E 0)), (1, .int k)] (by decide +kernel) (Nat.le_of_ble_eq_true rfl) rfl (fun X hM => ?_)
  refine g_aload_n (pc := 0) dX8_on_0 0 rfl rfl ?_
  refine g_iload_n (pc := 1) dX8_on_1 1 rfl rfl ?_
  refine g_invV (pc := 2) j_X8_keepOf mw_X8_126 dX8_on_2 (rcv_X8) (by rfl) (c_X8_keepOf_0 E S k (by first | assumption | omega | rfl)) (Nat.le_of_ble_eq_true rfl) (Nat.le_of_ble_eq_true rfl) (by rfl) (Nat.le_of_ble_eq_true rfl) ?_
  refine g_astore_nN (pc := 5) (L' := [(2, .null), (0, .ref (eA E 0)), (1, .int k)]) dX8_on_5 rfl (Nat.le_of_ble_eq_true rfl) rfl ?_
  refine g_aload_nN (pc := 6) dX8_on_6 0 rfl rfl ?_
  refine g_ifnonnullN (pc := 7) dX8_on_7 ?_
  refine g_iconst (pc := 10) (v := -1) dX8_on_10 (by decide) ?_
  exact g_iret (pc := 11) hM rfl rfl ⟨rfl, rfl⟩ dX8_on_11
set_option maxRecDepth 100000 in
set_option maxHeartbeats 4000000 in
theorem c_X8_on_m (E : En) (S : St) (n : Nat) (hn : n < 3) (h : gI S (31 + n) 6 = 0) : CTe E i_X8_on S [.ref (eA E 0), .int (nI n)] (refS S 1) (some (.int (-3))) := by
  refine ct_of [(0, .ref (eA E 0)), (1, .int (nI n))] (by decide +kernel) (Nat.le_of_ble_eq_true rfl) rfl (fun X hM => ?_)
  refine g_aload_n (pc := 0) dX8_on_0 0 rfl rfl ?_
  refine g_iload_n (pc := 1) dX8_on_1 1 rfl rfl ?_
  refine g_invV (pc := 2) j_X8_keepOf mw_X8_126 dX8_on_2 (rcv_X8) (by rfl) (c_X8_keepOf_n E S n (by first | assumption | omega | rfl)) (Nat.le_of_ble_eq_true rfl) (Nat.le_of_ble_eq_true rfl) (by rfl) (Nat.le_of_ble_eq_true rfl) ?_
  refine g_astore_n (pc := 5) (L' := [(2, .ref (eA E (31 + n))), (0, .ref (eA E 0)), (1, .int (nI n))]) dX8_on_5 rfl (Nat.le_of_ble_eq_true rfl) rfl ?_
  refine g_aload_n (pc := 6) dX8_on_6 0 rfl rfl ?_
  refine g_ifnonnull (pc := 7) (tgt := 12) dX8_on_7 (by decide) ?_
  refine g_aload_n (pc := 12) dX8_on_12 0 rfl rfl ?_
  refine g_invV (pc := 13) j_X0_size mw_X8_133 dX8_on_13 (rcv_X0 (kd_kc (by omega))) (by rfl) (c_X0_size E S (31 + n) (kd_kc (by omega))) (Nat.le_of_ble_eq_true rfl) (Nat.le_of_ble_eq_true rfl) (by rfl) (Nat.le_of_ble_eq_true rfl) ?_
  refine g_if_ne (pc := 16) (tgt := 25) dX8_on_16 (by decide) (fun c_16 => ?_) (fun c_16 => ?_)
  · exact absurd h c_16
  · refine g_aload_n (pc := 19) dX8_on_19 1 rfl rfl ?_
    refine g_iconst (pc := 20) (v := 1) dX8_on_20 (by decide) ?_
    refine g_invV (pc := 21) j_X8_refuse mw_X8_91 dX8_on_21 (rcv_X8) (by rfl) (c_X8_refuse E S 1 (by first | assumption | omega | rfl)) (Nat.le_of_ble_eq_true rfl) (Nat.le_of_ble_eq_true rfl) (by rfl) (Nat.le_of_ble_eq_true rfl) ?_
    exact g_iret (pc := 24) hM rfl rfl ⟨rfl, rfl⟩ dX8_on_24
set_option maxRecDepth 100000 in
set_option maxHeartbeats 4000000 in
theorem c_X8_on_ok (E : En) (S : St) (n : Nat) (hn : n < 3) (h : ¬ gI S (31 + n) 6 = 0) : CTe E i_X8_on S [.ref (eA E 0), .int (nI n)] (becF S 30 (31 + n)) (some (.int (gI (becF S 30 (31 + n)) 30 9))) := by
  refine ct_of [(0, .ref (eA E 0)), (1, .int (nI n))] (by decide +kernel) (Nat.le_of_ble_eq_true rfl) rfl (fun X hM => ?_)
  refine g_aload_n (pc := 0) dX8_on_0 0 rfl rfl ?_
  refine g_iload_n (pc := 1) dX8_on_1 1 rfl rfl ?_
  refine g_invV (pc := 2) j_X8_keepOf mw_X8_126 dX8_on_2 (rcv_X8) (by rfl) (c_X8_keepOf_n E S n (by first | assumption | omega | rfl)) (Nat.le_of_ble_eq_true rfl) (Nat.le_of_ble_eq_true rfl) (by rfl) (Nat.le_of_ble_eq_true rfl) ?_
  refine g_astore_n (pc := 5) (L' := [(2, .ref (eA E (31 + n))), (0, .ref (eA E 0)), (1, .int (nI n))]) dX8_on_5 rfl (Nat.le_of_ble_eq_true rfl) rfl ?_
  refine g_aload_n (pc := 6) dX8_on_6 0 rfl rfl ?_
  refine g_ifnonnull (pc := 7) (tgt := 12) dX8_on_7 (by decide) ?_
  refine g_aload_n (pc := 12) dX8_on_12 0 rfl rfl ?_
  refine g_invV (pc := 13) j_X0_size mw_X8_133 dX8_on_13 (rcv_X0 (kd_kc (by omega))) (by rfl) (c_X0_size E S (31 + n) (kd_kc (by omega))) (Nat.le_of_ble_eq_true rfl) (Nat.le_of_ble_eq_true rfl) (by rfl) (Nat.le_of_ble_eq_true rfl) ?_
  refine g_if_ne (pc := 16) (tgt := 25) dX8_on_16 (by decide) (fun c_16 => ?_) (fun c_16 => ?_)
  · refine g_aload_n (pc := 25) dX8_on_25 1 rfl rfl ?_
    refine gf_X8_21 (pc := 26) rfl dX8_on_26 ?_
    refine g_aload_n (pc := 29) dX8_on_29 0 rfl rfl ?_
    refine g_invN (pc := 30) j_X0_become mw_X8_193 dX8_on_30 (rcv_X0 rfl) (by rfl) (c_X0_become E S 30 (31 + n) rfl (kd_kc (by omega))) (Nat.le_of_ble_eq_true rfl) (Nat.le_of_ble_eq_true rfl) (by rfl) (Nat.le_of_ble_eq_true rfl) ?_
    refine g_aload_n (pc := 33) dX8_on_33 1 rfl rfl ?_
    refine gf_X8_21 (pc := 34) rfl dX8_on_34 ?_
    refine g_invV (pc := 37) j_X0_deedsDone mw_X8_163 dX8_on_37 (rcv_X0 rfl) (by rfl) (c_X0_deedsDone E (becF S 30 (31 + n)) 30 rfl) (Nat.le_of_ble_eq_true rfl) (Nat.le_of_ble_eq_true rfl) (by rfl) (Nat.le_of_ble_eq_true rfl) ?_
    exact g_iret (pc := 40) hM rfl rfl ⟨rfl, rfl⟩ dX8_on_40
  · exact absurd c_16 h
set_option maxRecDepth 100000 in
set_option maxHeartbeats 4000000 in
theorem c_X8_bright_bad (E : En) (S : St) (p : Int32) (hz : okB S 30) (h : ¬ (placeF p = true)) : CTe E i_X8_bright S [.ref (eA E 0), .int p] S (some (.int (-1))) := by
  refine ct_of [(0, .ref (eA E 0)), (1, .int p)] (by decide +kernel) (Nat.le_of_ble_eq_true rfl) rfl (fun X hM => ?_)
  refine g_iload_n (pc := 0) dX8_bright_0 1 rfl rfl ?_
  refine g_invS (pc := 1) j_X8_isPlace mw_X8_181 dX8_bright_1 (by rfl) (c_X8_isPlace E S p ) (Nat.le_of_ble_eq_true rfl) (Nat.le_of_ble_eq_true rfl) (by rfl) (Nat.le_of_ble_eq_true rfl) ?_
  refine g_b_eq (pc := 4) (tgt := 25) dX8_bright_4 (by decide) (fun c_4 => ?_) (fun c_4 => ?_)
  · refine g_iconst (pc := 25) (v := -1) dX8_bright_25 (by decide) ?_
    exact g_iret (pc := 26) hM rfl rfl ⟨rfl, rfl⟩ dX8_bright_26
  · exact absurd c_4 h
set_option maxRecDepth 100000 in
set_option maxHeartbeats 4000000 in
theorem c_X8_bright_ok (E : En) (S : St) (p : Int32) (hz : okB S 30) (g1 : placeF p = true) : CTe E i_X8_bright S [.ref (eA E 0), .int p] S (some (.int (briF S 30 p (gI S 30 8)))) := by
  refine ct_of [(0, .ref (eA E 0)), (1, .int p)] (by decide +kernel) (Nat.le_of_ble_eq_true rfl) rfl (fun X hM => ?_)
  refine g_iload_n (pc := 0) dX8_bright_0 1 rfl rfl ?_
  refine g_invS (pc := 1) j_X8_isPlace mw_X8_181 dX8_bright_1 (by rfl) (c_X8_isPlace E S p ) (Nat.le_of_ble_eq_true rfl) (Nat.le_of_ble_eq_true rfl) (by rfl) (Nat.le_of_ble_eq_true rfl) ?_
  refine g_b_eq (pc := 4) (tgt := 25) dX8_bright_4 (by decide) (fun c_4 => ?_) (fun c_4 => ?_)
  · exact absurd (g1.symm.trans c_4) (by decide)
  · refine g_aload_n (pc := 7) dX8_bright_7 0 rfl rfl ?_
    refine gf_X8_21 (pc := 8) rfl dX8_bright_8 ?_
    refine g_iload_n (pc := 11) dX8_bright_11 1 rfl rfl ?_
    refine g_aload_n (pc := 12) dX8_bright_12 0 rfl rfl ?_
    refine gf_X8_21 (pc := 13) rfl dX8_bright_13 ?_
    refine g_invV (pc := 16) j_X0_thisNight mw_X8_153 dX8_bright_16 (rcv_X0 rfl) (by rfl) (c_X0_thisNight E S 30 rfl) (Nat.le_of_ble_eq_true rfl) (Nat.le_of_ble_eq_true rfl) (by rfl) (Nat.le_of_ble_eq_true rfl) ?_
    refine g_invV (pc := 19) j_X0_brightAt mw_X8_197 dX8_bright_19 (rcv_X0 rfl) (by rfl) (c_X0_brightAt E S 30 p (gI S 30 8) rfl (by first | assumption | omega | rfl)) (Nat.le_of_ble_eq_true rfl) (Nat.le_of_ble_eq_true rfl) (by rfl) (Nat.le_of_ble_eq_true rfl) ?_
    refine g_goto (pc := 22) (tgt := 26) dX8_bright_22 (by decide) ?_
    exact g_iret (pc := 26) hM rfl rfl ⟨rfl, rfl⟩ dX8_bright_26
set_option maxRecDepth 100000 in
set_option maxHeartbeats 4000000 in
theorem c_X8_along_bad (E : En) (S : St) (x y : Int32) (hz : okB S 30) (h : ¬ (strF x y = true)) : CTe E i_X8_along S [.ref (eA E 0), .int x, .int y] S (some (.int (-1))) := by
  refine ct_of [(0, .ref (eA E 0)), (1, .int x), (2, .int y)] (by decide +kernel) (Nat.le_of_ble_eq_true rfl) rfl (fun X hM => ?_)
  refine g_iload_n (pc := 0) dX8_along_0 1 rfl rfl ?_
  refine g_iload_n (pc := 1) dX8_along_1 2 rfl rfl ?_
  refine g_invS (pc := 2) j_X8_isStretch mw_X8_200 dX8_along_2 (by rfl) (c_X8_isStretch E S x y ) (Nat.le_of_ble_eq_true rfl) (Nat.le_of_ble_eq_true rfl) (by rfl) (Nat.le_of_ble_eq_true rfl) ?_
  refine g_b_eq (pc := 5) (tgt := 20) dX8_along_5 (by decide) (fun c_5 => ?_) (fun c_5 => ?_)
  · refine g_iconst (pc := 20) (v := -1) dX8_along_20 (by decide) ?_
    exact g_iret (pc := 21) hM rfl rfl ⟨rfl, rfl⟩ dX8_along_21
  · exact absurd c_5 h
set_option maxRecDepth 100000 in
set_option maxHeartbeats 4000000 in
theorem c_X8_along_ok (E : En) (S : St) (a z : Nat) (hz : okB S 30) (haz : a ≤ z + 1) (hz9 : z ≤ 9) (g1 : strF (nI a) (nI z) = true) : CTe E i_X8_along S [.ref (eA E 0), .int (nI a), .int (nI z)] S (some (.int (aloF S 30 a z))) := by
  refine ct_of [(0, .ref (eA E 0)), (1, .int (nI a)), (2, .int (nI z))] (by decide +kernel) (Nat.le_of_ble_eq_true rfl) rfl (fun X hM => ?_)
  refine g_iload_n (pc := 0) dX8_along_0 1 rfl rfl ?_
  refine g_iload_n (pc := 1) dX8_along_1 2 rfl rfl ?_
  refine g_invS (pc := 2) j_X8_isStretch mw_X8_200 dX8_along_2 (by rfl) (c_X8_isStretch E S (nI a) (nI z) ) (Nat.le_of_ble_eq_true rfl) (Nat.le_of_ble_eq_true rfl) (by rfl) (Nat.le_of_ble_eq_true rfl) ?_
  refine g_b_eq (pc := 5) (tgt := 20) dX8_along_5 (by decide) (fun c_5 => ?_) (fun c_5 => ?_)
  · exact absurd (g1.symm.trans c_5) (by decide)
  · refine g_aload_n (pc := 8) dX8_along_8 0 rfl rfl ?_
    refine gf_X8_21 (pc := 9) rfl dX8_along_9 ?_
    refine g_iload_n (pc := 12) dX8_along_12 1 rfl rfl ?_
    refine g_iload_n (pc := 13) dX8_along_13 2 rfl rfl ?_
    refine g_invV (pc := 14) j_X0_brightAlong mw_X8_203 dX8_along_14 (rcv_X0 rfl) (by rfl) (c_X0_brightAlong E S 30 a z rfl (by first | assumption | omega | rfl) (by first | assumption | omega | rfl) (by first | assumption | omega | rfl)) (Nat.le_of_ble_eq_true rfl) (Nat.le_of_ble_eq_true rfl) (by rfl) (Nat.le_of_ble_eq_true rfl) ?_
    refine g_goto (pc := 17) (tgt := 21) dX8_along_17 (by decide) ?_
    exact g_iret (pc := 21) hM rfl rfl ⟨rfl, rfl⟩ dX8_along_21
set_option maxRecDepth 100000 in
set_option maxHeartbeats 4000000 in
theorem c_X8_when_bad (E : En) (S : St) (p v : Int32) (hz : okB S 30) (h : ¬ (placeF p = true ∧ ¬ v < 0 ∧ v ≤ 200)) : CTe E i_X8_when S [.ref (eA E 0), .int p, .int v] S (some (.int (-1))) := by
  refine ct_of [(0, .ref (eA E 0)), (1, .int p), (2, .int v)] (by decide +kernel) (Nat.le_of_ble_eq_true rfl) rfl (fun X hM => ?_)
  refine g_iload_n (pc := 0) dX8_when_0 1 rfl rfl ?_
  refine g_invS (pc := 1) j_X8_isPlace mw_X8_181 dX8_when_1 (by rfl) (c_X8_isPlace E S p ) (Nat.le_of_ble_eq_true rfl) (Nat.le_of_ble_eq_true rfl) (by rfl) (Nat.le_of_ble_eq_true rfl) ?_
  refine g_b_eq (pc := 4) (tgt := 18) dX8_when_4 (by decide) (fun c_4 => ?_) (fun c_4 => ?_)
  · refine g_iconst (pc := 18) (v := -1) dX8_when_18 (by decide) ?_
    exact g_iret (pc := 19) hM rfl rfl ⟨rfl, rfl⟩ dX8_when_19
  · refine g_iload_n (pc := 7) dX8_when_7 2 rfl rfl ?_
    refine g_if_lt (pc := 8) (tgt := 18) dX8_when_8 (by decide) (fun c_8 => ?_) (fun c_8 => ?_)
    · have k_8 := Int32.not_le.mpr c_8
      refine g_iconst (pc := 18) (v := -1) dX8_when_18 (by decide) ?_
      exact g_iret (pc := 19) hM rfl rfl ⟨rfl, rfl⟩ dX8_when_19
    · have k_8 := Int32.not_lt.mp c_8
      refine g_iload_n (pc := 11) dX8_when_11 2 rfl rfl ?_
      refine g_sipush (pc := 12) (v := 200) dX8_when_12 (by decide) ?_
      refine g_icmp_le (pc := 15) (tgt := 20) dX8_when_15 (by decide) (fun c_15 => ?_) (fun c_15 => ?_)
      · have k_15 := Int32.not_lt.mpr c_15
        exact absurd ⟨c_4, c_8, c_15⟩ h
      · have k_15 := Int32.not_le.mp c_15
        refine g_iconst (pc := 18) (v := -1) dX8_when_18 (by decide) ?_
        exact g_iret (pc := 19) hM rfl rfl ⟨rfl, rfl⟩ dX8_when_19
set_option maxRecDepth 100000 in
set_option maxHeartbeats 4000000 in
theorem c_X8_when_ok (E : En) (S : St) (p v : Int32) (n : Nat) (hz : okB S 30) (g1 : placeF p = true) (g2 : ¬ v < 0) (g3 : v ≤ 200) (hn : n ≤ 40) (hno : ∀ j, j < n → ¬ v ≤ briF S 30 p (gI S 30 8 + nI j)) (hv : v ≤ briF S 30 p (gI S 30 8 + nI n)) : CTe E i_X8_when S [.ref (eA E 0), .int p, .int v] (sI S 0 8 (briF S 30 p (gI S 30 8 + nI n))) (some (.int (nI n))) := by
  refine ct_of [(0, .ref (eA E 0)), (1, .int p), (2, .int v)] (by decide +kernel) (Nat.le_of_ble_eq_true rfl) rfl (fun X hM => ?_)
  refine g_iload_n (pc := 0) dX8_when_0 1 rfl rfl ?_
  refine g_invS (pc := 1) j_X8_isPlace mw_X8_181 dX8_when_1 (by rfl) (c_X8_isPlace E S p ) (Nat.le_of_ble_eq_true rfl) (Nat.le_of_ble_eq_true rfl) (by rfl) (Nat.le_of_ble_eq_true rfl) ?_
  refine g_b_eq (pc := 4) (tgt := 18) dX8_when_4 (by decide) (fun c_4 => ?_) (fun c_4 => ?_)
  · exact absurd (g1.symm.trans c_4) (by decide)
  · refine g_iload_n (pc := 7) dX8_when_7 2 rfl rfl ?_
    refine g_if_lt (pc := 8) (tgt := 18) dX8_when_8 (by decide) (fun c_8 => ?_) (fun c_8 => ?_)
    · have k_8 := Int32.not_le.mpr c_8
      exact absurd c_8 g2
    · have k_8 := Int32.not_lt.mp c_8
      refine g_iload_n (pc := 11) dX8_when_11 2 rfl rfl ?_
      refine g_sipush (pc := 12) (v := 200) dX8_when_12 (by decide) ?_
      refine g_icmp_le (pc := 15) (tgt := 20) dX8_when_15 (by decide) (fun c_15 => ?_) (fun c_15 => ?_)
      · have k_15 := Int32.not_lt.mpr c_15
        refine g_iconst (pc := 20) (v := 0) dX8_when_20 (by decide) ?_
        refine g_istore_n (pc := 21) (L' := [(3, .int 0), (0, .ref (eA E 0)), (1, .int p), (2, .int v)]) dX8_when_21 rfl (Nat.le_of_ble_eq_true rfl) rfl ?_
        have H_22 : ∀ j : Nat, j ≤ n → G E X i_X8_when S 22 [(0, .ref (eA E 0)), (1, .int p), (2, .int v), (3, .int (nI j))] [] := by
          refine dn_ind n (fun j hn_22 ih_22 => ?_)
          refine g_iload_n (pc := 22) dX8_when_22 3 rfl rfl ?_
          refine g_bipush (pc := 23) (v := 40) dX8_when_23 (by decide) ?_
          refine g_icmp_gt (pc := 25) (tgt := 67) dX8_when_25 (by decide) (fun c_25 => ?_) (fun c_25 => ?_)
          · have k_25 := Int32.not_le.mpr c_25
            exact absurd c_25 (nI_nlt (a := 40) (by omega) (by omega))
          · have k_25 := Int32.not_lt.mp c_25
            refine g_aload_n (pc := 28) dX8_when_28 0 rfl rfl ?_
            refine gf_X8_21 (pc := 29) rfl dX8_when_29 ?_
            refine g_iload_n (pc := 32) dX8_when_32 1 rfl rfl ?_
            refine g_aload_n (pc := 33) dX8_when_33 0 rfl rfl ?_
            refine gf_X8_21 (pc := 34) rfl dX8_when_34 ?_
            refine g_invV (pc := 37) j_X0_thisNight mw_X8_153 dX8_when_37 (rcv_X0 rfl) (by rfl) (c_X0_thisNight E S 30 rfl) (Nat.le_of_ble_eq_true rfl) (Nat.le_of_ble_eq_true rfl) (by rfl) (Nat.le_of_ble_eq_true rfl) ?_
            refine g_iload_n (pc := 40) dX8_when_40 3 rfl rfl ?_
            refine g_iadd (pc := 41) dX8_when_41 ?_
            refine g_invV (pc := 42) j_X0_brightAt mw_X8_197 dX8_when_42 (rcv_X0 rfl) (by rfl) (c_X0_brightAt E S 30 p (gI S 30 8 + nI j) rfl (by first | assumption | omega | rfl)) (Nat.le_of_ble_eq_true rfl) (Nat.le_of_ble_eq_true rfl) (by rfl) (Nat.le_of_ble_eq_true rfl) ?_
            refine g_istore (pc := 45) (L' := [(4, .int (briF S 30 p (gI S 30 8 + nI j))), (0, .ref (eA E 0)), (1, .int p), (2, .int v), (3, .int (nI j))]) dX8_when_45 (Nat.le_of_ble_eq_true rfl) rfl ?_
            refine g_iload (pc := 47) dX8_when_47 0 rfl ?_
            refine g_iload_n (pc := 49) dX8_when_49 3 rfl rfl ?_
            refine g_icmp_lt (pc := 50) (tgt := 61) dX8_when_50 (by decide) (fun c_50 => ?_) (fun c_50 => ?_)
            · have k_50 := Int32.not_le.mpr c_50
              have hlt_22 : j < n := by rcases Nat.lt_or_ge j n with q | q; exact q; exact absurd (by rw [show j = n by omega]; exact hv) (Int32.not_le.mpr c_50)
              refine g_iinc (pc := 61) (L' := [(3, .int (nI j + 1)), (4, .int (briF S 30 p (gI S 30 8 + nI j))), (0, .ref (eA E 0)), (1, .int p), (2, .int v)]) dX8_when_61 (k := 4) rfl (v := nI j + 1) rfl (Nat.le_of_ble_eq_true rfl) rfl ?_
              refine g_goto (pc := 64) (tgt := 22) dX8_when_64 (by decide) ?_
              refine g_sub (L' := [(0, .ref (eA E 0)), (1, .int p), (2, .int v), (3, .int (nI j + 1))]) [2, 3, 4, 0] rfl ?_
              exact g_eq rfl (by rw [nI_1]) rfl (ih_22 hlt_22)
            · have k_50 := Int32.not_lt.mp c_50
              have he : j = n := by rcases Nat.lt_or_ge j n with q | q; exact absurd k_50 (hno j q); omega
              rw [he]
              refine g_aload_n (pc := 53) dX8_when_53 1 rfl rfl ?_
              refine g_iload (pc := 54) dX8_when_54 0 rfl ?_
              refine pf_X8_51 (pc := 56) rfl dX8_when_56 ?_
              refine g_iload_n (pc := 59) dX8_when_59 4 rfl rfl ?_
              exact g_iret (pc := 60) hM rfl rfl ⟨rfl, rfl⟩ dX8_when_60
        refine g_sub (L' := [(0, .ref (eA E 0)), (1, .int p), (2, .int v), (3, .int 0)]) [1, 2, 3, 0] rfl ?_
        exact H_22 0 (Nat.zero_le _)
      · have k_15 := Int32.not_le.mp c_15
        exact absurd g3 c_15
set_option maxRecDepth 100000 in
set_option maxHeartbeats 4000000 in
theorem c_X8_when_no (E : En) (S : St) (p v : Int32) (hz : okB S 30) (g1 : placeF p = true) (g2 : ¬ v < 0) (g3 : v ≤ 200) (hno : ∀ j, j ≤ 40 → ¬ v ≤ briF S 30 p (gI S 30 8 + nI j)) : CTe E i_X8_when S [.ref (eA E 0), .int p, .int v] S (some (.int (-9))) := by
  refine ct_of [(0, .ref (eA E 0)), (1, .int p), (2, .int v)] (by decide +kernel) (Nat.le_of_ble_eq_true rfl) rfl (fun X hM => ?_)
  refine g_iload_n (pc := 0) dX8_when_0 1 rfl rfl ?_
  refine g_invS (pc := 1) j_X8_isPlace mw_X8_181 dX8_when_1 (by rfl) (c_X8_isPlace E S p ) (Nat.le_of_ble_eq_true rfl) (Nat.le_of_ble_eq_true rfl) (by rfl) (Nat.le_of_ble_eq_true rfl) ?_
  refine g_b_eq (pc := 4) (tgt := 18) dX8_when_4 (by decide) (fun c_4 => ?_) (fun c_4 => ?_)
  · exact absurd (g1.symm.trans c_4) (by decide)
  · refine g_iload_n (pc := 7) dX8_when_7 2 rfl rfl ?_
    refine g_if_lt (pc := 8) (tgt := 18) dX8_when_8 (by decide) (fun c_8 => ?_) (fun c_8 => ?_)
    · have k_8 := Int32.not_le.mpr c_8
      exact absurd c_8 g2
    · have k_8 := Int32.not_lt.mp c_8
      refine g_iload_n (pc := 11) dX8_when_11 2 rfl rfl ?_
      refine g_sipush (pc := 12) (v := 200) dX8_when_12 (by decide) ?_
      refine g_icmp_le (pc := 15) (tgt := 20) dX8_when_15 (by decide) (fun c_15 => ?_) (fun c_15 => ?_)
      · have k_15 := Int32.not_lt.mpr c_15
        refine g_iconst (pc := 20) (v := 0) dX8_when_20 (by decide) ?_
        refine g_istore_n (pc := 21) (L' := [(3, .int 0), (0, .ref (eA E 0)), (1, .int p), (2, .int v)]) dX8_when_21 rfl (Nat.le_of_ble_eq_true rfl) rfl ?_
        have H_22 : ∀ j : Nat, j ≤ 41 → G E X i_X8_when S 22 [(0, .ref (eA E 0)), (1, .int p), (2, .int v), (3, .int (nI j))] [] := by
          refine dn_ind 41 (fun j hn_22 ih_22 => ?_)
          refine g_iload_n (pc := 22) dX8_when_22 3 rfl rfl ?_
          refine g_bipush (pc := 23) (v := 40) dX8_when_23 (by decide) ?_
          refine g_icmp_gt (pc := 25) (tgt := 67) dX8_when_25 (by decide) (fun c_25 => ?_) (fun c_25 => ?_)
          · have k_25 := Int32.not_le.mpr c_25
            refine g_bipush (pc := 67) (v := -9) dX8_when_67 (by decide) ?_
            exact g_iret (pc := 69) hM rfl rfl ⟨rfl, rfl⟩ dX8_when_69
          · have k_25 := Int32.not_lt.mp c_25
            have hlt_22 : j < 41 := by have := (nI_leI (a := j) (b := 40) (by omega) (by omega)).mp k_25; omega
            refine g_aload_n (pc := 28) dX8_when_28 0 rfl rfl ?_
            refine gf_X8_21 (pc := 29) rfl dX8_when_29 ?_
            refine g_iload_n (pc := 32) dX8_when_32 1 rfl rfl ?_
            refine g_aload_n (pc := 33) dX8_when_33 0 rfl rfl ?_
            refine gf_X8_21 (pc := 34) rfl dX8_when_34 ?_
            refine g_invV (pc := 37) j_X0_thisNight mw_X8_153 dX8_when_37 (rcv_X0 rfl) (by rfl) (c_X0_thisNight E S 30 rfl) (Nat.le_of_ble_eq_true rfl) (Nat.le_of_ble_eq_true rfl) (by rfl) (Nat.le_of_ble_eq_true rfl) ?_
            refine g_iload_n (pc := 40) dX8_when_40 3 rfl rfl ?_
            refine g_iadd (pc := 41) dX8_when_41 ?_
            refine g_invV (pc := 42) j_X0_brightAt mw_X8_197 dX8_when_42 (rcv_X0 rfl) (by rfl) (c_X0_brightAt E S 30 p (gI S 30 8 + nI j) rfl (by first | assumption | omega | rfl)) (Nat.le_of_ble_eq_true rfl) (Nat.le_of_ble_eq_true rfl) (by rfl) (Nat.le_of_ble_eq_true rfl) ?_
            refine g_istore (pc := 45) (L' := [(4, .int (briF S 30 p (gI S 30 8 + nI j))), (0, .ref (eA E 0)), (1, .int p), (2, .int v), (3, .int (nI j))]) dX8_when_45 (Nat.le_of_ble_eq_true rfl) rfl ?_
            refine g_iload (pc := 47) dX8_when_47 0 rfl ?_
            refine g_iload_n (pc := 49) dX8_when_49 3 rfl rfl ?_
            refine g_icmp_lt (pc := 50) (tgt := 61) dX8_when_50 (by decide) (fun c_50 => ?_) (fun c_50 => ?_)
            · have k_50 := Int32.not_le.mpr c_50
              refine g_iinc (pc := 61) (L' := [(3, .int (nI j + 1)), (4, .int (briF S 30 p (gI S 30 8 + nI j))), (0, .ref (eA E 0)), (1, .int p), (2, .int v)]) dX8_when_61 (k := 4) rfl (v := nI j + 1) rfl (Nat.le_of_ble_eq_true rfl) rfl ?_
              refine g_goto (pc := 64) (tgt := 22) dX8_when_64 (by decide) ?_
              refine g_sub (L' := [(0, .ref (eA E 0)), (1, .int p), (2, .int v), (3, .int (nI j + 1))]) [2, 3, 4, 0] rfl ?_
              exact g_eq rfl (by rw [nI_1]) rfl (ih_22 hlt_22)
            · have k_50 := Int32.not_lt.mp c_50
              exact absurd k_50 (hno j (by omega))
        refine g_sub (L' := [(0, .ref (eA E 0)), (1, .int p), (2, .int v), (3, .int 0)]) [1, 2, 3, 0] rfl ?_
        exact H_22 0 (Nat.zero_le _)
      · have k_15 := Int32.not_le.mp c_15
        exact absurd g3 c_15
set_option maxRecDepth 100000 in
set_option maxHeartbeats 4000000 in
theorem c_X8_stow_bad (E : En) (S : St) (k x y : Int32) (hz : okB S 30) (h : ¬ (hasF S 30 k = true ∧ strF x y = true)) : CTe E i_X8_stow S [.ref (eA E 0), .int k, .int x, .int y] S (some (.int (-1))) := by
  refine ct_of [(0, .ref (eA E 0)), (1, .int k), (2, .int x), (3, .int y)] (by decide +kernel) (Nat.le_of_ble_eq_true rfl) rfl (fun X hM => ?_)
  refine g_aload_n (pc := 0) dX8_stow_0 0 rfl rfl ?_
  refine gf_X8_21 (pc := 1) rfl dX8_stow_1 ?_
  refine g_iload_n (pc := 4) dX8_stow_4 1 rfl rfl ?_
  refine g_invV (pc := 5) j_X0_has mw_X8_134 dX8_stow_5 (rcv_X0 rfl) (by rfl) (c_X0_has E S 30 k rfl) (Nat.le_of_ble_eq_true rfl) (Nat.le_of_ble_eq_true rfl) (by rfl) (Nat.le_of_ble_eq_true rfl) ?_
  refine g_b_eq (pc := 8) (tgt := 19) dX8_stow_8 (by decide) (fun c_8 => ?_) (fun c_8 => ?_)
  · refine g_iconst (pc := 19) (v := -1) dX8_stow_19 (by decide) ?_
    exact g_iret (pc := 20) hM rfl rfl ⟨rfl, rfl⟩ dX8_stow_20
  · refine g_iload_n (pc := 11) dX8_stow_11 2 rfl rfl ?_
    refine g_iload_n (pc := 12) dX8_stow_12 3 rfl rfl ?_
    refine g_invS (pc := 13) j_X8_isStretch mw_X8_200 dX8_stow_13 (by rfl) (c_X8_isStretch E S x y ) (Nat.le_of_ble_eq_true rfl) (Nat.le_of_ble_eq_true rfl) (by rfl) (Nat.le_of_ble_eq_true rfl) ?_
    refine g_b_ne (pc := 16) (tgt := 21) dX8_stow_16 (by decide) (fun c_16 => ?_) (fun c_16 => ?_)
    · exact absurd ⟨c_8, c_16⟩ h
    · refine g_iconst (pc := 19) (v := -1) dX8_stow_19 (by decide) ?_
      exact g_iret (pc := 20) hM rfl rfl ⟨rfl, rfl⟩ dX8_stow_20
set_option maxRecDepth 100000 in
set_option maxHeartbeats 4000000 in
theorem c_X8_stow_ok (E : En) (S : St) (k : Int32) (a z : Nat) (hz : okB S 30) (haz : a ≤ z + 1) (hz9 : z ≤ 9) (g1 : hasF S 30 k = true) (g2 : strF (nI a) (nI z) = true) : CTe E i_X8_stow S [.ref (eA E 0), .int k, .int (nI a), .int (nI z)] (sI S 0 8 (aloF S 30 a z - shaF S 30 k (fldF S 30 3 k) a z + (stwR S k a z 9).2)) (some (.int ((stwR S k a z 9).1))) := by
  refine ct_of [(0, .ref (eA E 0)), (1, .int k), (2, .int (nI a)), (3, .int (nI z))] (by decide +kernel) (Nat.le_of_ble_eq_true rfl) rfl (fun X hM => ?_)
  refine g_aload_n (pc := 0) dX8_stow_0 0 rfl rfl ?_
  refine gf_X8_21 (pc := 1) rfl dX8_stow_1 ?_
  refine g_iload_n (pc := 4) dX8_stow_4 1 rfl rfl ?_
  refine g_invV (pc := 5) j_X0_has mw_X8_134 dX8_stow_5 (rcv_X0 rfl) (by rfl) (c_X0_has E S 30 k rfl) (Nat.le_of_ble_eq_true rfl) (Nat.le_of_ble_eq_true rfl) (by rfl) (Nat.le_of_ble_eq_true rfl) ?_
  refine g_b_eq (pc := 8) (tgt := 19) dX8_stow_8 (by decide) (fun c_8 => ?_) (fun c_8 => ?_)
  · exact absurd (g1.symm.trans c_8) (by decide)
  · refine g_iload_n (pc := 11) dX8_stow_11 2 rfl rfl ?_
    refine g_iload_n (pc := 12) dX8_stow_12 3 rfl rfl ?_
    refine g_invS (pc := 13) j_X8_isStretch mw_X8_200 dX8_stow_13 (by rfl) (c_X8_isStretch E S (nI a) (nI z) ) (Nat.le_of_ble_eq_true rfl) (Nat.le_of_ble_eq_true rfl) (by rfl) (Nat.le_of_ble_eq_true rfl) ?_
    refine g_b_ne (pc := 16) (tgt := 21) dX8_stow_16 (by decide) (fun c_16 => ?_) (fun c_16 => ?_)
    · refine g_aload_n (pc := 21) dX8_stow_21 0 rfl rfl ?_
      refine gf_X8_21 (pc := 22) rfl dX8_stow_22 ?_
      refine g_iload_n (pc := 25) dX8_stow_25 2 rfl rfl ?_
      refine g_iload_n (pc := 26) dX8_stow_26 3 rfl rfl ?_
      refine g_invV (pc := 27) j_X0_brightAlong mw_X8_203 dX8_stow_27 (rcv_X0 rfl) (by rfl) (c_X0_brightAlong E S 30 a z rfl (by first | assumption | omega | rfl) (by first | assumption | omega | rfl) (by first | assumption | omega | rfl)) (Nat.le_of_ble_eq_true rfl) (Nat.le_of_ble_eq_true rfl) (by rfl) (Nat.le_of_ble_eq_true rfl) ?_
      refine g_aload_n (pc := 30) dX8_stow_30 0 rfl rfl ?_
      refine gf_X8_21 (pc := 31) rfl dX8_stow_31 ?_
      refine g_iload_n (pc := 34) dX8_stow_34 1 rfl rfl ?_
      refine g_aload_n (pc := 35) dX8_stow_35 0 rfl rfl ?_
      refine gf_X8_21 (pc := 36) rfl dX8_stow_36 ?_
      refine g_iload_n (pc := 39) dX8_stow_39 1 rfl rfl ?_
      refine g_invV (pc := 40) j_X0_placeOf mw_X8_184 dX8_stow_40 (rcv_X0 rfl) (by rfl) (c_X0_placeOf E S 30 k rfl (by first | assumption | omega | rfl)) (Nat.le_of_ble_eq_true rfl) (Nat.le_of_ble_eq_true rfl) (by rfl) (Nat.le_of_ble_eq_true rfl) ?_
      refine g_iload_n (pc := 43) dX8_stow_43 2 rfl rfl ?_
      refine g_iload_n (pc := 44) dX8_stow_44 3 rfl rfl ?_
      refine g_invV (pc := 45) j_X0_shareAlong mw_X8_206 dX8_stow_45 (rcv_X0 rfl) (by rfl) (c_X0_shareAlong E S 30 k (fldF S 30 3 k) a z rfl (by first | assumption | omega | rfl) (by first | assumption | omega | rfl) (by first | assumption | omega | rfl)) (Nat.le_of_ble_eq_true rfl) (Nat.le_of_ble_eq_true rfl) (by rfl) (Nat.le_of_ble_eq_true rfl) ?_
      refine g_isub (pc := 48) dX8_stow_48 ?_
      refine g_istore (pc := 49) (L' := [(4, .int (aloF S 30 a z - shaF S 30 k (fldF S 30 3 k) a z)), (0, .ref (eA E 0)), (1, .int k), (2, .int (nI a)), (3, .int (nI z))]) dX8_stow_49 (Nat.le_of_ble_eq_true rfl) rfl ?_
      refine g_iconst (pc := 51) (v := 0) dX8_stow_51 (by decide) ?_
      refine g_istore (pc := 52) (L' := [(5, .int 0), (4, .int (aloF S 30 a z - shaF S 30 k (fldF S 30 3 k) a z)), (0, .ref (eA E 0)), (1, .int k), (2, .int (nI a)), (3, .int (nI z))]) dX8_stow_52 (Nat.le_of_ble_eq_true rfl) rfl ?_
      refine g_aload_n (pc := 54) dX8_stow_54 2 rfl rfl ?_
      refine gf_X8_21 (pc := 55) rfl dX8_stow_55 ?_
      refine g_iload_n (pc := 58) dX8_stow_58 3 rfl rfl ?_
      refine g_iconst (pc := 59) (v := 0) dX8_stow_59 (by decide) ?_
      refine g_iload_n (pc := 60) dX8_stow_60 4 rfl rfl ?_
      refine g_iload_n (pc := 61) dX8_stow_61 5 rfl rfl ?_
      refine g_invV (pc := 62) j_X0_shareAlong mw_X8_206 dX8_stow_62 (rcv_X0 rfl) (by rfl) (c_X0_shareAlong E S 30 k 0 a z rfl (by first | assumption | omega | rfl) (by first | assumption | omega | rfl) (by first | assumption | omega | rfl)) (Nat.le_of_ble_eq_true rfl) (Nat.le_of_ble_eq_true rfl) (by rfl) (Nat.le_of_ble_eq_true rfl) ?_
      refine g_istore (pc := 65) (L' := [(6, .int (shaF S 30 k 0 a z)), (5, .int 0), (4, .int (aloF S 30 a z - shaF S 30 k (fldF S 30 3 k) a z)), (0, .ref (eA E 0)), (1, .int k), (2, .int (nI a)), (3, .int (nI z))]) dX8_stow_65 (Nat.le_of_ble_eq_true rfl) rfl ?_
      refine g_iconst (pc := 67) (v := 1) dX8_stow_67 (by decide) ?_
      refine g_istore (pc := 68) (L' := [(7, .int 1), (6, .int (shaF S 30 k 0 a z)), (5, .int 0), (4, .int (aloF S 30 a z - shaF S 30 k (fldF S 30 3 k) a z)), (0, .ref (eA E 0)), (1, .int k), (2, .int (nI a)), (3, .int (nI z))]) dX8_stow_68 (Nat.le_of_ble_eq_true rfl) rfl ?_
      have H_70 : ∀ n : Nat, n ≤ 9 → G E X i_X8_stow S 70 [(0, .ref (eA E 0)), (1, .int k), (2, .int (nI a)), (3, .int (nI z)), (4, .int (aloF S 30 a z - shaF S 30 k (fldF S 30 3 k) a z)), (5, .int ((stwR S k a z n).1)), (6, .int ((stwR S k a z n).2)), (7, .int (nI (n + 1)))] [] := by
        refine dn_ind 9 (fun n hn_70 ih_70 => ?_)
        refine g_iload (pc := 70) dX8_stow_70 7 rfl ?_
        refine g_bipush (pc := 72) (v := 10) dX8_stow_72 (by decide) ?_
        refine g_icmp_ge (pc := 74) (tgt := 112) dX8_stow_74 (by decide) (fun c_74 => ?_) (fun c_74 => ?_)
        · have k_74 := Int32.not_lt.mpr c_74
          have he_70 : n = 9 := Nat.le_antisymm hn_70 (by have := (nI_leI (a := 10) (b := n + 1) (by omega) (by omega)).mp c_74; omega)
          rw [he_70]
          refine g_aload_n (pc := 112) dX8_stow_112 0 rfl rfl ?_
          refine g_iload (pc := 113) dX8_stow_113 4 rfl ?_
          refine g_iload (pc := 115) dX8_stow_115 6 rfl ?_
          refine g_iadd (pc := 117) dX8_stow_117 ?_
          refine pf_X8_51 (pc := 118) rfl dX8_stow_118 ?_
          refine g_iload (pc := 121) dX8_stow_121 5 rfl ?_
          exact g_iret (pc := 123) hM rfl rfl ⟨rfl, rfl⟩ dX8_stow_123
        · have k_74 := Int32.not_le.mp c_74
          have hlt_70 : n < 9 := by have := (nI_ltI (a := n + 1) (b := 10) (by omega) (by omega)).mp k_74; omega
          refine g_aload_n (pc := 77) dX8_stow_77 0 rfl rfl ?_
          refine gf_X8_21 (pc := 78) rfl dX8_stow_78 ?_
          refine g_iload_n (pc := 81) dX8_stow_81 1 rfl rfl ?_
          refine g_iload (pc := 82) dX8_stow_82 7 rfl ?_
          refine g_iload_n (pc := 84) dX8_stow_84 2 rfl rfl ?_
          refine g_iload_n (pc := 85) dX8_stow_85 3 rfl rfl ?_
          refine g_invV (pc := 86) j_X0_shareAlong mw_X8_206 dX8_stow_86 (rcv_X0 rfl) (by rfl) (c_X0_shareAlong E S 30 k (nI (n + 1)) a z rfl (by first | assumption | omega | rfl) (by first | assumption | omega | rfl) (by first | assumption | omega | rfl)) (Nat.le_of_ble_eq_true rfl) (Nat.le_of_ble_eq_true rfl) (by rfl) (Nat.le_of_ble_eq_true rfl) ?_
          refine g_istore (pc := 89) (L' := [(8, .int (shaF S 30 k (nI (n + 1)) a z)), (0, .ref (eA E 0)), (1, .int k), (2, .int (nI a)), (3, .int (nI z)), (4, .int (aloF S 30 a z - shaF S 30 k (fldF S 30 3 k) a z)), (5, .int ((stwR S k a z n).1)), (6, .int ((stwR S k a z n).2)), (7, .int (nI (n + 1)))]) dX8_stow_89 (Nat.le_of_ble_eq_true rfl) rfl ?_
          refine g_iload (pc := 91) dX8_stow_91 0 rfl ?_
          refine g_iload (pc := 93) dX8_stow_93 7 rfl ?_
          refine g_icmp_ge (pc := 95) (tgt := 106) dX8_stow_95 (by decide) (fun c_95 => ?_) (fun c_95 => ?_)
          · have k_95 := Int32.not_lt.mpr c_95
            refine g_iinc (pc := 106) (L' := [(7, .int (nI (n + 1) + 1)), (8, .int (shaF S 30 k (nI (n + 1)) a z)), (0, .ref (eA E 0)), (1, .int k), (2, .int (nI a)), (3, .int (nI z)), (4, .int (aloF S 30 a z - shaF S 30 k (fldF S 30 3 k) a z)), (5, .int ((stwR S k a z n).1)), (6, .int ((stwR S k a z n).2))]) dX8_stow_106 (k := 8) rfl (v := nI (n + 1) + 1) rfl (Nat.le_of_ble_eq_true rfl) rfl ?_
            refine g_goto (pc := 109) (tgt := 70) dX8_stow_109 (by decide) ?_
            refine g_sub (L' := [(0, .ref (eA E 0)), (1, .int k), (2, .int (nI a)), (3, .int (nI z)), (4, .int (aloF S 30 a z - shaF S 30 k (fldF S 30 3 k) a z)), (5, .int ((stwR S k a z n).1)), (6, .int ((stwR S k a z n).2)), (7, .int (nI (n + 1) + 1))]) [2, 3, 4, 5, 6, 7, 8, 0] rfl ?_
            exact g_eq rfl (by simp only [nI_1, stwR, c_95, k_95, if_true, if_false, Bool.false_eq_true, Bool.not_true, Bool.not_false, Bool.and_true, Bool.true_and, Bool.and_false, Bool.false_and, Bool.or_true, Bool.true_or, Bool.or_false, Bool.false_or, decide_true, decide_false, Bool.and_self]) rfl (ih_70 hlt_70)
          · have k_95 := Int32.not_le.mp c_95
            refine g_iload (pc := 98) dX8_stow_98 0 rfl ?_
            refine g_istore (pc := 100) (L' := [(6, .int (shaF S 30 k (nI (n + 1)) a z)), (8, .int (shaF S 30 k (nI (n + 1)) a z)), (0, .ref (eA E 0)), (1, .int k), (2, .int (nI a)), (3, .int (nI z)), (4, .int (aloF S 30 a z - shaF S 30 k (fldF S 30 3 k) a z)), (5, .int ((stwR S k a z n).1)), (7, .int (nI (n + 1)))]) dX8_stow_100 (Nat.le_of_ble_eq_true rfl) rfl ?_
            refine g_iload (pc := 102) dX8_stow_102 8 rfl ?_
            refine g_istore (pc := 104) (L' := [(5, .int (nI (n + 1))), (6, .int (shaF S 30 k (nI (n + 1)) a z)), (8, .int (shaF S 30 k (nI (n + 1)) a z)), (0, .ref (eA E 0)), (1, .int k), (2, .int (nI a)), (3, .int (nI z)), (4, .int (aloF S 30 a z - shaF S 30 k (fldF S 30 3 k) a z)), (7, .int (nI (n + 1)))]) dX8_stow_104 (Nat.le_of_ble_eq_true rfl) rfl ?_
            refine g_iinc (pc := 106) (L' := [(7, .int (nI (n + 1) + 1)), (5, .int (nI (n + 1))), (6, .int (shaF S 30 k (nI (n + 1)) a z)), (8, .int (shaF S 30 k (nI (n + 1)) a z)), (0, .ref (eA E 0)), (1, .int k), (2, .int (nI a)), (3, .int (nI z)), (4, .int (aloF S 30 a z - shaF S 30 k (fldF S 30 3 k) a z))]) dX8_stow_106 (k := 8) rfl (v := nI (n + 1) + 1) rfl (Nat.le_of_ble_eq_true rfl) rfl ?_
            refine g_goto (pc := 109) (tgt := 70) dX8_stow_109 (by decide) ?_
            refine g_sub (L' := [(0, .ref (eA E 0)), (1, .int k), (2, .int (nI a)), (3, .int (nI z)), (4, .int (aloF S 30 a z - shaF S 30 k (fldF S 30 3 k) a z)), (5, .int (nI (n + 1))), (6, .int (shaF S 30 k (nI (n + 1)) a z)), (7, .int (nI (n + 1) + 1))]) [4, 5, 6, 7, 8, 1, 2, 0] rfl ?_
            exact g_eq rfl (by simp only [nI_1, stwR, c_95, k_95, if_true, if_false, Bool.false_eq_true, Bool.not_true, Bool.not_false, Bool.and_true, Bool.true_and, Bool.and_false, Bool.false_and, Bool.or_true, Bool.true_or, Bool.or_false, Bool.false_or, decide_true, decide_false, Bool.and_self]) rfl (ih_70 hlt_70)
      refine g_sub (L' := [(0, .ref (eA E 0)), (1, .int k), (2, .int (nI a)), (3, .int (nI z)), (4, .int (aloF S 30 a z - shaF S 30 k (fldF S 30 3 k) a z)), (5, .int 0), (6, .int (shaF S 30 k 0 a z)), (7, .int 1)]) [4, 5, 6, 7, 3, 2, 1, 0] rfl ?_
      exact g_eq rfl rfl rfl (H_70 0 (Nat.zero_le _))
    · exact absurd (g2.symm.trans c_16) (by decide)
set_option maxRecDepth 100000 in
set_option maxHeartbeats 4000000 in
theorem c_X8_dark_bad (E : En) (S : St) (n : Int32) (hz : okB S 30) (h : ¬ (¬ n < 1 ∧ n ≤ 10)) : CTe E i_X8_dark S [.ref (eA E 0), .int n] S (some (.int (-1))) := by
  refine ct_of [(0, .ref (eA E 0)), (1, .int n)] (by decide +kernel) (Nat.le_of_ble_eq_true rfl) rfl (fun X hM => ?_)
  refine g_iload_n (pc := 0) dX8_dark_0 1 rfl rfl ?_
  refine g_iconst (pc := 1) (v := 1) dX8_dark_1 (by decide) ?_
  refine g_icmp_lt (pc := 2) (tgt := 11) dX8_dark_2 (by decide) (fun c_2 => ?_) (fun c_2 => ?_)
  · have k_2 := Int32.not_le.mpr c_2
    refine g_iconst (pc := 11) (v := -1) dX8_dark_11 (by decide) ?_
    exact g_iret (pc := 12) hM rfl rfl ⟨rfl, rfl⟩ dX8_dark_12
  · have k_2 := Int32.not_lt.mp c_2
    refine g_iload_n (pc := 5) dX8_dark_5 1 rfl rfl ?_
    refine g_bipush (pc := 6) (v := 10) dX8_dark_6 (by decide) ?_
    refine g_icmp_le (pc := 8) (tgt := 13) dX8_dark_8 (by decide) (fun c_8 => ?_) (fun c_8 => ?_)
    · have k_8 := Int32.not_lt.mpr c_8
      exact absurd ⟨c_2, c_8⟩ h
    · have k_8 := Int32.not_le.mp c_8
      refine g_iconst (pc := 11) (v := -1) dX8_dark_11 (by decide) ?_
      exact g_iret (pc := 12) hM rfl rfl ⟨rfl, rfl⟩ dX8_dark_12
set_option maxRecDepth 100000 in
set_option maxHeartbeats 4000000 in
theorem c_X8_dark_st (E : En) (S : St) (n : Int32) (hz : okB S 30) (g1 : ¬ n < 1) (g2 : n ≤ 10) (h : ¬ (¬ gI S 30 6 = 0)) : CTe E i_X8_dark S [.ref (eA E 0), .int n] S (some (.int (-4))) := by
  refine ct_of [(0, .ref (eA E 0)), (1, .int n)] (by decide +kernel) (Nat.le_of_ble_eq_true rfl) rfl (fun X hM => ?_)
  refine g_iload_n (pc := 0) dX8_dark_0 1 rfl rfl ?_
  refine g_iconst (pc := 1) (v := 1) dX8_dark_1 (by decide) ?_
  refine g_icmp_lt (pc := 2) (tgt := 11) dX8_dark_2 (by decide) (fun c_2 => ?_) (fun c_2 => ?_)
  · have k_2 := Int32.not_le.mpr c_2
    (first | exact absurd g1 c_2 | exact absurd c_2 g1)
  · have k_2 := Int32.not_lt.mp c_2
    refine g_iload_n (pc := 5) dX8_dark_5 1 rfl rfl ?_
    refine g_bipush (pc := 6) (v := 10) dX8_dark_6 (by decide) ?_
    refine g_icmp_le (pc := 8) (tgt := 13) dX8_dark_8 (by decide) (fun c_8 => ?_) (fun c_8 => ?_)
    · have k_8 := Int32.not_lt.mpr c_8
      refine g_aload_n (pc := 13) dX8_dark_13 0 rfl rfl ?_
      refine gf_X8_21 (pc := 14) rfl dX8_dark_14 ?_
      refine g_invV (pc := 17) j_X0_size mw_X8_133 dX8_dark_17 (rcv_X0 rfl) (by rfl) (c_X0_size E S 30 rfl) (Nat.le_of_ble_eq_true rfl) (Nat.le_of_ble_eq_true rfl) (by rfl) (Nat.le_of_ble_eq_true rfl) ?_
      refine g_if_ne (pc := 20) (tgt := 26) dX8_dark_20 (by decide) (fun c_20 => ?_) (fun c_20 => ?_)
      · exact absurd c_20 h
      · refine g_bipush (pc := 23) (v := -4) dX8_dark_23 (by decide) ?_
        exact g_iret (pc := 25) hM rfl rfl ⟨rfl, rfl⟩ dX8_dark_25
    · have k_8 := Int32.not_le.mp c_8
      (first | exact absurd g2 c_8 | exact absurd c_8 g2)
set_option maxRecDepth 100000 in
set_option maxHeartbeats 4000000 in
theorem c_X8_dark_ok (E : En) (S : St) (w : Nat) (hz : okB S 30) (hw1 : 1 ≤ w) (hw2 : w ≤ 10) (h : ¬ gI S 30 6 = 0) : CTe E i_X8_dark S [.ref (eA E 0), .int (nI w)] (sI S 0 8 (drkR S w (10 - w)).2) (some (.int ((drkR S w (10 - w)).1))) := by
  refine ct_of [(0, .ref (eA E 0)), (1, .int (nI w))] (by decide +kernel) (Nat.le_of_ble_eq_true rfl) rfl (fun X hM => ?_)
  refine g_iload_n (pc := 0) dX8_dark_0 1 rfl rfl ?_
  refine g_iconst (pc := 1) (v := 1) dX8_dark_1 (by decide) ?_
  refine g_icmp_lt (pc := 2) (tgt := 11) dX8_dark_2 (by decide) (fun c_2 => ?_) (fun c_2 => ?_)
  · have k_2 := Int32.not_le.mpr c_2
    exact absurd c_2 (nI_nlt (a := w) (b := 1) (by omega) (by omega))
  · have k_2 := Int32.not_lt.mp c_2
    refine g_iload_n (pc := 5) dX8_dark_5 1 rfl rfl ?_
    refine g_bipush (pc := 6) (v := 10) dX8_dark_6 (by decide) ?_
    refine g_icmp_le (pc := 8) (tgt := 13) dX8_dark_8 (by decide) (fun c_8 => ?_) (fun c_8 => ?_)
    · have k_8 := Int32.not_lt.mpr c_8
      refine g_aload_n (pc := 13) dX8_dark_13 0 rfl rfl ?_
      refine gf_X8_21 (pc := 14) rfl dX8_dark_14 ?_
      refine g_invV (pc := 17) j_X0_size mw_X8_133 dX8_dark_17 (rcv_X0 rfl) (by rfl) (c_X0_size E S 30 rfl) (Nat.le_of_ble_eq_true rfl) (Nat.le_of_ble_eq_true rfl) (by rfl) (Nat.le_of_ble_eq_true rfl) ?_
      refine g_if_ne (pc := 20) (tgt := 26) dX8_dark_20 (by decide) (fun c_20 => ?_) (fun c_20 => ?_)
      · refine g_iconst (pc := 26) (v := 0) dX8_dark_26 (by decide) ?_
        refine g_istore_n (pc := 27) (L' := [(2, .int 0), (0, .ref (eA E 0)), (1, .int (nI w))]) dX8_dark_27 rfl (Nat.le_of_ble_eq_true rfl) rfl ?_
        refine g_aload_n (pc := 28) dX8_dark_28 1 rfl rfl ?_
        refine gf_X8_21 (pc := 29) rfl dX8_dark_29 ?_
        refine g_iconst (pc := 32) (v := 0) dX8_dark_32 (by decide) ?_
        refine g_iload_n (pc := 33) dX8_dark_33 2 rfl rfl ?_
        refine g_iconst (pc := 34) (v := 1) dX8_dark_34 (by decide) ?_
        refine g_isub (pc := 35) dX8_dark_35 ?_
        rw [show nI w - 1 = nI (w - 1) from pk_sub (b := 1) (by omega)]
        refine g_invV (pc := 36) j_X0_brightAlong mw_X8_203 dX8_dark_36 (rcv_X0 rfl) (by rfl) (c_X0_brightAlong E S 30 0 (w - 1) rfl (by first | assumption | omega | rfl) (by first | assumption | omega | rfl) (by first | assumption | omega | rfl)) (Nat.le_of_ble_eq_true rfl) (Nat.le_of_ble_eq_true rfl) (by rfl) (Nat.le_of_ble_eq_true rfl) ?_
        refine g_istore_n (pc := 39) (L' := [(3, .int (aloF S 30 0 (w - 1))), (2, .int 0), (0, .ref (eA E 0)), (1, .int (nI w))]) dX8_dark_39 rfl (Nat.le_of_ble_eq_true rfl) rfl ?_
        refine g_iconst (pc := 40) (v := 1) dX8_dark_40 (by decide) ?_
        refine g_istore (pc := 41) (L' := [(4, .int 1), (3, .int (aloF S 30 0 (w - 1))), (2, .int 0), (0, .ref (eA E 0)), (1, .int (nI w))]) dX8_dark_41 (Nat.le_of_ble_eq_true rfl) rfl ?_
        have H_43 : ∀ m : Nat, m ≤ 10 - w → G E X i_X8_dark S 43 [(0, .ref (eA E 0)), (1, .int (nI w)), (2, .int ((drkR S w m).1)), (3, .int ((drkR S w m).2)), (4, .int (nI (m + 1)))] [] := by
          refine dn_ind (10 - w) (fun m hn_43 ih_43 => ?_)
          refine g_iload (pc := 43) dX8_dark_43 4 rfl ?_
          refine g_iload_n (pc := 45) dX8_dark_45 1 rfl rfl ?_
          refine g_iadd (pc := 46) dX8_dark_46 ?_
          refine g_bipush (pc := 47) (v := 10) dX8_dark_47 (by decide) ?_
          refine g_icmp_gt (pc := 49) (tgt := 87) dX8_dark_49 (by decide) (fun c_49 => ?_) (fun c_49 => ?_)
          · have k_49 := Int32.not_le.mpr c_49
            have he_43 : m = 10 - w := Nat.le_antisymm hn_43 (by rw [nI_add] at c_49; have := (nI_ltI (a := 10) (b := m + 1 + w) (by omega) (by omega)).mp c_49; omega)
            rw [he_43]
            refine g_aload_n (pc := 87) dX8_dark_87 0 rfl rfl ?_
            refine g_iload_n (pc := 88) dX8_dark_88 3 rfl rfl ?_
            refine pf_X8_51 (pc := 89) rfl dX8_dark_89 ?_
            refine g_iload_n (pc := 92) dX8_dark_92 2 rfl rfl ?_
            exact g_iret (pc := 93) hM rfl rfl ⟨rfl, rfl⟩ dX8_dark_93
          · have k_49 := Int32.not_lt.mp c_49
            have hlt_43 : m < 10 - w := by rw [nI_add] at k_49; have := (nI_leI (a := m + 1 + w) (b := 10) (by omega) (by omega)).mp k_49; omega
            refine g_aload_n (pc := 52) dX8_dark_52 0 rfl rfl ?_
            refine gf_X8_21 (pc := 53) rfl dX8_dark_53 ?_
            refine g_iload (pc := 56) dX8_dark_56 4 rfl ?_
            refine g_iload (pc := 58) dX8_dark_58 4 rfl ?_
            refine g_iload_n (pc := 60) dX8_dark_60 1 rfl rfl ?_
            refine g_iadd (pc := 61) dX8_dark_61 ?_
            refine g_iconst (pc := 62) (v := 1) dX8_dark_62 (by decide) ?_
            refine g_isub (pc := 63) dX8_dark_63 ?_
            rw [show nI (m + 1) + nI w - 1 = nI (m + w) by rw [nI_add, show m + 1 + w = (m + w) + 1 by omega, nI_pred]]
            refine g_invV (pc := 64) j_X0_brightAlong mw_X8_203 dX8_dark_64 (rcv_X0 rfl) (by rfl) (c_X0_brightAlong E S 30 (m + 1) (m + w) rfl (by first | assumption | omega | rfl) (by first | assumption | omega | rfl) (by first | assumption | omega | rfl)) (Nat.le_of_ble_eq_true rfl) (Nat.le_of_ble_eq_true rfl) (by rfl) (Nat.le_of_ble_eq_true rfl) ?_
            refine g_istore (pc := 67) (L' := [(5, .int (aloF S 30 (m + 1) (m + w))), (0, .ref (eA E 0)), (1, .int (nI w)), (2, .int ((drkR S w m).1)), (3, .int ((drkR S w m).2)), (4, .int (nI (m + 1)))]) dX8_dark_67 (Nat.le_of_ble_eq_true rfl) rfl ?_
            refine g_iload (pc := 69) dX8_dark_69 0 rfl ?_
            refine g_iload_n (pc := 71) dX8_dark_71 4 rfl rfl ?_
            refine g_icmp_ge (pc := 72) (tgt := 81) dX8_dark_72 (by decide) (fun c_72 => ?_) (fun c_72 => ?_)
            · have k_72 := Int32.not_lt.mpr c_72
              refine g_iinc (pc := 81) (L' := [(4, .int (nI (m + 1) + 1)), (5, .int (aloF S 30 (m + 1) (m + w))), (0, .ref (eA E 0)), (1, .int (nI w)), (2, .int ((drkR S w m).1)), (3, .int ((drkR S w m).2))]) dX8_dark_81 (k := 5) rfl (v := nI (m + 1) + 1) rfl (Nat.le_of_ble_eq_true rfl) rfl ?_
              refine g_goto (pc := 84) (tgt := 43) dX8_dark_84 (by decide) ?_
              refine g_sub (L' := [(0, .ref (eA E 0)), (1, .int (nI w)), (2, .int ((drkR S w m).1)), (3, .int ((drkR S w m).2)), (4, .int (nI (m + 1) + 1))]) [2, 3, 4, 5, 0] rfl ?_
              exact g_eq rfl (by simp only [nI_1, drkR, c_72, k_72, if_true, if_false, Bool.false_eq_true, Bool.not_true, Bool.not_false, Bool.and_true, Bool.true_and, Bool.and_false, Bool.false_and, Bool.or_true, Bool.true_or, Bool.or_false, Bool.false_or, decide_true, decide_false, Bool.and_self]) rfl (ih_43 hlt_43)
            · have k_72 := Int32.not_le.mp c_72
              refine g_iload (pc := 75) dX8_dark_75 0 rfl ?_
              refine g_istore_n (pc := 77) (L' := [(3, .int (aloF S 30 (m + 1) (m + w))), (5, .int (aloF S 30 (m + 1) (m + w))), (0, .ref (eA E 0)), (1, .int (nI w)), (2, .int ((drkR S w m).1)), (4, .int (nI (m + 1)))]) dX8_dark_77 rfl (Nat.le_of_ble_eq_true rfl) rfl ?_
              refine g_iload (pc := 78) dX8_dark_78 5 rfl ?_
              refine g_istore_n (pc := 80) (L' := [(2, .int (nI (m + 1))), (3, .int (aloF S 30 (m + 1) (m + w))), (5, .int (aloF S 30 (m + 1) (m + w))), (0, .ref (eA E 0)), (1, .int (nI w)), (4, .int (nI (m + 1)))]) dX8_dark_80 rfl (Nat.le_of_ble_eq_true rfl) rfl ?_
              refine g_iinc (pc := 81) (L' := [(4, .int (nI (m + 1) + 1)), (2, .int (nI (m + 1))), (3, .int (aloF S 30 (m + 1) (m + w))), (5, .int (aloF S 30 (m + 1) (m + w))), (0, .ref (eA E 0)), (1, .int (nI w))]) dX8_dark_81 (k := 5) rfl (v := nI (m + 1) + 1) rfl (Nat.le_of_ble_eq_true rfl) rfl ?_
              refine g_goto (pc := 84) (tgt := 43) dX8_dark_84 (by decide) ?_
              refine g_sub (L' := [(0, .ref (eA E 0)), (1, .int (nI w)), (2, .int (nI (m + 1))), (3, .int (aloF S 30 (m + 1) (m + w))), (4, .int (nI (m + 1) + 1))]) [4, 5, 1, 2, 0] rfl ?_
              exact g_eq rfl (by simp only [nI_1, drkR, c_72, k_72, if_true, if_false, Bool.false_eq_true, Bool.not_true, Bool.not_false, Bool.and_true, Bool.true_and, Bool.and_false, Bool.false_and, Bool.or_true, Bool.true_or, Bool.or_false, Bool.false_or, decide_true, decide_false, Bool.and_self]) rfl (ih_43 hlt_43)
        refine g_sub (L' := [(0, .ref (eA E 0)), (1, .int (nI w)), (2, .int 0), (3, .int (aloF S 30 0 (w - 1))), (4, .int 1)]) [3, 4, 2, 1, 0] rfl ?_
        exact g_eq rfl rfl rfl (H_43 0 (Nat.zero_le _))
      · exact absurd c_20 h
    · have k_8 := Int32.not_le.mp c_8
      exact absurd (nI_le (b := 10) (by omega) (by omega)) c_8
set_option maxRecDepth 100000 in
set_option maxHeartbeats 4000000 in
theorem c_X8_road_st (E : En) (S : St) (hz : okB S 30) (h : ¬ (¬ gI S 30 6 = 0)) : CTe E i_X8_road S [.ref (eA E 0)] S (some (.int (-4))) := by
  refine ct_of [(0, .ref (eA E 0))] (by decide +kernel) (Nat.le_of_ble_eq_true rfl) rfl (fun X hM => ?_)
  refine g_aload_n (pc := 0) dX8_road_0 0 rfl rfl ?_
  refine gf_X8_21 (pc := 1) rfl dX8_road_1 ?_
  refine g_invV (pc := 4) j_X0_size mw_X8_133 dX8_road_4 (rcv_X0 rfl) (by rfl) (c_X0_size E S 30 rfl) (Nat.le_of_ble_eq_true rfl) (Nat.le_of_ble_eq_true rfl) (by rfl) (Nat.le_of_ble_eq_true rfl) ?_
  refine g_if_ne (pc := 7) (tgt := 13) dX8_road_7 (by decide) (fun c_7 => ?_) (fun c_7 => ?_)
  · exact absurd c_7 h
  · refine g_bipush (pc := 10) (v := -4) dX8_road_10 (by decide) ?_
    exact g_iret (pc := 12) hM rfl rfl ⟨rfl, rfl⟩ dX8_road_12
set_option maxRecDepth 100000 in
set_option maxHeartbeats 4000000 in
theorem c_X8_road_ok (E : En) (S : St) (hz : okB S 30) (g1 : ¬ gI S 30 6 = 0) : CTe E i_X8_road S [.ref (eA E 0)] (sI S 0 8 (wayF S - wayF S / 1024 * 1024)) (some (.int (wayF S / 1024))) := by
  refine ct_of [(0, .ref (eA E 0))] (by decide +kernel) (Nat.le_of_ble_eq_true rfl) rfl (fun X hM => ?_)
  refine g_aload_n (pc := 0) dX8_road_0 0 rfl rfl ?_
  refine gf_X8_21 (pc := 1) rfl dX8_road_1 ?_
  refine g_invV (pc := 4) j_X0_size mw_X8_133 dX8_road_4 (rcv_X0 rfl) (by rfl) (c_X0_size E S 30 rfl) (Nat.le_of_ble_eq_true rfl) (Nat.le_of_ble_eq_true rfl) (by rfl) (Nat.le_of_ble_eq_true rfl) ?_
  refine g_if_ne (pc := 7) (tgt := 13) dX8_road_7 (by decide) (fun c_7 => ?_) (fun c_7 => ?_)
  · refine g_aload_n (pc := 13) dX8_road_13 0 rfl rfl ?_
    refine gf_X8_21 (pc := 14) rfl dX8_road_14 ?_
    refine g_invS (pc := 17) j_X6_darkest mw_X8_209 dX8_road_17 (by rfl) (c_X6_darkest E S 30 rfl (by first | assumption | omega | rfl)) (Nat.le_of_ble_eq_true rfl) (Nat.le_of_ble_eq_true rfl) (by rfl) (Nat.le_of_ble_eq_true rfl) ?_
    refine g_istore_n (pc := 20) (L' := [(1, .int (minF (wayL S 30 10).1 (wayL S 30 10).2)), (0, .ref (eA E 0))]) dX8_road_20 rfl (Nat.le_of_ble_eq_true rfl) rfl ?_
    refine g_aload_n (pc := 21) dX8_road_21 1 rfl rfl ?_
    refine g_iload_n (pc := 22) dX8_road_22 0 rfl rfl ?_
    refine g_invS (pc := 23) j_X6_placesOnRoad mw_X8_215 dX8_road_23 (by rfl) (c_X6_placesOnRoad E S (minF (wayL S 30 10).1 (wayL S 30 10).2) ) (Nat.le_of_ble_eq_true rfl) (Nat.le_of_ble_eq_true rfl) (by rfl) (Nat.le_of_ble_eq_true rfl) ?_
    refine pf_X8_51 (pc := 26) rfl dX8_road_26 ?_
    refine g_iload_n (pc := 29) dX8_road_29 0 rfl rfl ?_
    refine g_invS (pc := 30) j_X6_brightness mw_X8_218 dX8_road_30 (by rfl) (c_X6_brightness E (sI S 0 8 ((minF (wayL S 30 10).1 (wayL S 30 10).2) - (minF (wayL S 30 10).1 (wayL S 30 10).2) / 1024 * 1024)) (minF (wayL S 30 10).1 (wayL S 30 10).2) ) (Nat.le_of_ble_eq_true rfl) (Nat.le_of_ble_eq_true rfl) (by rfl) (Nat.le_of_ble_eq_true rfl) ?_
    exact g_iret (pc := 33) hM rfl rfl ⟨rfl, rfl⟩ dX8_road_33
  · (first | exact absurd g1 c_7 | exact absurd c_7 g1)
set_option maxRecDepth 100000 in
set_option maxHeartbeats 4000000 in
theorem c_X8_owes_bad (E : En) (S : St) (x : Int32) (hz : okB S 30) (h : ¬ (persF x = true)) : CTe E i_X8_owes S [.ref (eA E 0), .int x] S (some (.int (-1))) := by
  refine ct_of [(0, .ref (eA E 0)), (1, .int x)] (by decide +kernel) (Nat.le_of_ble_eq_true rfl) rfl (fun X hM => ?_)
  refine g_iload_n (pc := 0) dX8_owes_0 1 rfl rfl ?_
  refine g_invS (pc := 1) j_X8_isPerson mw_X8_221 dX8_owes_1 (by rfl) (c_X8_isPerson E S x ) (Nat.le_of_ble_eq_true rfl) (Nat.le_of_ble_eq_true rfl) (by rfl) (Nat.le_of_ble_eq_true rfl) ?_
  refine g_b_eq (pc := 4) (tgt := 18) dX8_owes_4 (by decide) (fun c_4 => ?_) (fun c_4 => ?_)
  · refine g_iconst (pc := 18) (v := -1) dX8_owes_18 (by decide) ?_
    exact g_iret (pc := 19) hM rfl rfl ⟨rfl, rfl⟩ dX8_owes_19
  · exact absurd c_4 h
set_option maxRecDepth 100000 in
set_option maxHeartbeats 4000000 in
theorem c_X8_owes_ok (E : En) (S : St) (x : Int32) (hz : okB S 30) (g1 : persF x = true) : CTe E i_X8_owes S [.ref (eA E 0), .int x] S (some (.int (balF S 30 x))) := by
  refine ct_of [(0, .ref (eA E 0)), (1, .int x)] (by decide +kernel) (Nat.le_of_ble_eq_true rfl) rfl (fun X hM => ?_)
  refine g_iload_n (pc := 0) dX8_owes_0 1 rfl rfl ?_
  refine g_invS (pc := 1) j_X8_isPerson mw_X8_221 dX8_owes_1 (by rfl) (c_X8_isPerson E S x ) (Nat.le_of_ble_eq_true rfl) (Nat.le_of_ble_eq_true rfl) (by rfl) (Nat.le_of_ble_eq_true rfl) ?_
  refine g_b_eq (pc := 4) (tgt := 18) dX8_owes_4 (by decide) (fun c_4 => ?_) (fun c_4 => ?_)
  · exact absurd (g1.symm.trans c_4) (by decide)
  · refine g_aload_n (pc := 7) dX8_owes_7 0 rfl rfl ?_
    refine gf_X8_21 (pc := 8) rfl dX8_owes_8 ?_
    refine g_iload_n (pc := 11) dX8_owes_11 1 rfl rfl ?_
    refine g_invV (pc := 12) j_X0_balanceOf mw_X8_224 dX8_owes_12 (rcv_X0 rfl) (by rfl) (c_X0_balanceOf E S 30 x rfl (by first | assumption | omega | rfl)) (Nat.le_of_ble_eq_true rfl) (Nat.le_of_ble_eq_true rfl) (by rfl) (Nat.le_of_ble_eq_true rfl) ?_
    refine g_goto (pc := 15) (tgt := 19) dX8_owes_15 (by decide) ?_
    exact g_iret (pc := 19) hM rfl rfl ⟨rfl, rfl⟩ dX8_owes_19
set_option maxRecDepth 100000 in
set_option maxHeartbeats 4000000 in
theorem c_X8_ring_st (E : En) (S : St) (hz : okB S 30) (h : ¬ (¬ gI S 30 6 = 0)) : CTe E i_X8_ring S [.ref (eA E 0)] S (some (.int (-4))) := by
  refine ct_of [(0, .ref (eA E 0))] (by decide +kernel) (Nat.le_of_ble_eq_true rfl) rfl (fun X hM => ?_)
  refine g_aload_n (pc := 0) dX8_ring_0 0 rfl rfl ?_
  refine gf_X8_21 (pc := 1) rfl dX8_ring_1 ?_
  refine g_invV (pc := 4) j_X0_size mw_X8_133 dX8_ring_4 (rcv_X0 rfl) (by rfl) (c_X0_size E S 30 rfl) (Nat.le_of_ble_eq_true rfl) (Nat.le_of_ble_eq_true rfl) (by rfl) (Nat.le_of_ble_eq_true rfl) ?_
  refine g_if_ne (pc := 7) (tgt := 13) dX8_ring_7 (by decide) (fun c_7 => ?_) (fun c_7 => ?_)
  · exact absurd c_7 h
  · refine g_bipush (pc := 10) (v := -4) dX8_ring_10 (by decide) ?_
    exact g_iret (pc := 12) hM rfl rfl ⟨rfl, rfl⟩ dX8_ring_12
set_option maxRecDepth 100000 in
set_option maxHeartbeats 4000000 in
theorem c_X8_ring_ok (E : En) (S : St) (hz : okB S 30) (g1 : ¬ gI S 30 6 = 0) : CTe E i_X8_ring S [.ref (eA E 0)] (sI (scrF S (deW S 30)) 0 8 (lrF S)) (some (.int (bcF (lrF S)))) := by
  refine ct_of [(0, .ref (eA E 0))] (by decide +kernel) (Nat.le_of_ble_eq_true rfl) rfl (fun X hM => ?_)
  refine g_aload_n (pc := 0) dX8_ring_0 0 rfl rfl ?_
  refine gf_X8_21 (pc := 1) rfl dX8_ring_1 ?_
  refine g_invV (pc := 4) j_X0_size mw_X8_133 dX8_ring_4 (rcv_X0 rfl) (by rfl) (c_X0_size E S 30 rfl) (Nat.le_of_ble_eq_true rfl) (Nat.le_of_ble_eq_true rfl) (by rfl) (Nat.le_of_ble_eq_true rfl) ?_
  refine g_if_ne (pc := 7) (tgt := 13) dX8_ring_7 (by decide) (fun c_7 => ?_) (fun c_7 => ?_)
  · refine g_aload_n (pc := 13) dX8_ring_13 0 rfl rfl ?_
    refine gf_X8_32 (pc := 14) rfl dX8_ring_14 ?_
    refine g_aload_n (pc := 17) dX8_ring_17 0 rfl rfl ?_
    refine gf_X8_21 (pc := 18) rfl dX8_ring_18 ?_
    refine g_invV (pc := 21) j_X4_largestRing mw_X8_227 dX8_ring_21 (rcv_X4) (by rfl) (c_X4_largestRing E S 30 rfl (by first | assumption | omega | rfl)) (Nat.le_of_ble_eq_true rfl) (Nat.le_of_ble_eq_true rfl) (by rfl) (Nat.le_of_ble_eq_true rfl) ?_
    refine g_istore_n (pc := 24) (L' := [(1, .int (lrR (owS S 30) (deW S 30) (2 ^ szB S 30))), (0, .ref (eA E 0))]) dX8_ring_24 rfl (Nat.le_of_ble_eq_true rfl) rfl ?_
    refine g_aload_n (pc := 25) dX8_ring_25 1 rfl rfl ?_
    refine g_iload_n (pc := 26) dX8_ring_26 0 rfl rfl ?_
    refine pf_X8_51 (pc := 27) rfl dX8_ring_27 ?_
    refine g_iload_n (pc := 30) dX8_ring_30 0 rfl rfl ?_
    refine g_invS (pc := 31) j_J6_bitCount mw_X8_230 dX8_ring_31 (by rfl) (c_J6_bitCount E (sI (scrF S (deW S 30)) 0 8 (lrR (owS S 30) (deW S 30) (2 ^ szB S 30))) (lrR (owS S 30) (deW S 30) (2 ^ szB S 30)) ) (Nat.le_of_ble_eq_true rfl) (Nat.le_of_ble_eq_true rfl) (by rfl) (Nat.le_of_ble_eq_true rfl) ?_
    exact g_iret (pc := 34) hM rfl rfl ⟨rfl, rfl⟩ dX8_ring_34
  · (first | exact absurd g1 c_7 | exact absurd c_7 g1)
set_option maxRecDepth 100000 in
set_option maxHeartbeats 4000000 in
theorem c_X8_rings_bad (E : En) (S : St) (k : Int32) (hz : okB S 30) (h : ¬ (hasF S 30 k = true)) : CTe E i_X8_rings S [.ref (eA E 0), .int k] S (some (.int (-1))) := by
  refine ct_of [(0, .ref (eA E 0)), (1, .int k)] (by decide +kernel) (Nat.le_of_ble_eq_true rfl) rfl (fun X hM => ?_)
  refine g_aload_n (pc := 0) dX8_rings_0 0 rfl rfl ?_
  refine gf_X8_21 (pc := 1) rfl dX8_rings_1 ?_
  refine g_iload_n (pc := 4) dX8_rings_4 1 rfl rfl ?_
  refine g_invV (pc := 5) j_X0_has mw_X8_134 dX8_rings_5 (rcv_X0 rfl) (by rfl) (c_X0_has E S 30 k rfl) (Nat.le_of_ble_eq_true rfl) (Nat.le_of_ble_eq_true rfl) (by rfl) (Nat.le_of_ble_eq_true rfl) ?_
  refine g_b_eq (pc := 8) (tgt := 26) dX8_rings_8 (by decide) (fun c_8 => ?_) (fun c_8 => ?_)
  · refine g_iconst (pc := 26) (v := -1) dX8_rings_26 (by decide) ?_
    exact g_iret (pc := 27) hM rfl rfl ⟨rfl, rfl⟩ dX8_rings_27
  · exact absurd c_8 h
set_option maxRecDepth 100000 in
set_option maxHeartbeats 4000000 in
theorem c_X8_rings_ok (E : En) (S : St) (k : Int32) (hz : okB S 30) (g1 : hasF S 30 k = true) : CTe E i_X8_rings S [.ref (eA E 0), .int k] (scrF S (deW S 30)) (some (.int (sumB (fun n => rgP (owS S 30) (deW S 30) n && kbF k n) (fun _ => 1) (2 ^ szB S 30)))) := by
  refine ct_of [(0, .ref (eA E 0)), (1, .int k)] (by decide +kernel) (Nat.le_of_ble_eq_true rfl) rfl (fun X hM => ?_)
  refine g_aload_n (pc := 0) dX8_rings_0 0 rfl rfl ?_
  refine gf_X8_21 (pc := 1) rfl dX8_rings_1 ?_
  refine g_iload_n (pc := 4) dX8_rings_4 1 rfl rfl ?_
  refine g_invV (pc := 5) j_X0_has mw_X8_134 dX8_rings_5 (rcv_X0 rfl) (by rfl) (c_X0_has E S 30 k rfl) (Nat.le_of_ble_eq_true rfl) (Nat.le_of_ble_eq_true rfl) (by rfl) (Nat.le_of_ble_eq_true rfl) ?_
  refine g_b_eq (pc := 8) (tgt := 26) dX8_rings_8 (by decide) (fun c_8 => ?_) (fun c_8 => ?_)
  · exact absurd (g1.symm.trans c_8) (by decide)
  · refine g_aload_n (pc := 11) dX8_rings_11 0 rfl rfl ?_
    refine gf_X8_32 (pc := 12) rfl dX8_rings_12 ?_
    refine g_aload_n (pc := 15) dX8_rings_15 0 rfl rfl ?_
    refine gf_X8_21 (pc := 16) rfl dX8_rings_16 ?_
    refine g_iload_n (pc := 19) dX8_rings_19 1 rfl rfl ?_
    refine g_invV (pc := 20) j_X4_ringsWith mw_X8_235 dX8_rings_20 (rcv_X4) (by rfl) (c_X4_ringsWith E S 30 k rfl (by first | assumption | omega | rfl)) (Nat.le_of_ble_eq_true rfl) (Nat.le_of_ble_eq_true rfl) (by rfl) (Nat.le_of_ble_eq_true rfl) ?_
    refine g_goto (pc := 23) (tgt := 27) dX8_rings_23 (by decide) ?_
    exact g_iret (pc := 27) hM rfl rfl ⟨rfl, rfl⟩ dX8_rings_27
set_option maxRecDepth 100000 in
set_option maxHeartbeats 4000000 in
theorem c_X8_least_bad (E : En) (S : St) (k : Int32) (hz : okB S 30) (h : ¬ (hasF S 30 k = true)) : CTe E i_X8_least S [.ref (eA E 0), .int k] S (some (.int (-1))) := by
  refine ct_of [(0, .ref (eA E 0)), (1, .int k)] (by decide +kernel) (Nat.le_of_ble_eq_true rfl) rfl (fun X hM => ?_)
  refine g_aload_n (pc := 0) dX8_least_0 0 rfl rfl ?_
  refine gf_X8_21 (pc := 1) rfl dX8_least_1 ?_
  refine g_iload_n (pc := 4) dX8_least_4 1 rfl rfl ?_
  refine g_invV (pc := 5) j_X0_has mw_X8_134 dX8_least_5 (rcv_X0 rfl) (by rfl) (c_X0_has E S 30 k rfl) (Nat.le_of_ble_eq_true rfl) (Nat.le_of_ble_eq_true rfl) (by rfl) (Nat.le_of_ble_eq_true rfl) ?_
  refine g_b_ne (pc := 8) (tgt := 13) dX8_least_8 (by decide) (fun c_8 => ?_) (fun c_8 => ?_)
  · exact absurd c_8 h
  · refine g_iconst (pc := 11) (v := -1) dX8_least_11 (by decide) ?_
    exact g_iret (pc := 12) hM rfl rfl ⟨rfl, rfl⟩ dX8_least_12
set_option maxRecDepth 100000 in
set_option maxHeartbeats 4000000 in
theorem c_X8_least_no (E : En) (S : St) (k : Int32) (hz : okB S 30) (g1 : hasF S 30 k = true) (h : ¬ (¬ srF S k = 0)) : CTe E i_X8_least S [.ref (eA E 0), .int k] (scrF S (deW S 30)) (some (.int (-9))) := by
  refine ct_of [(0, .ref (eA E 0)), (1, .int k)] (by decide +kernel) (Nat.le_of_ble_eq_true rfl) rfl (fun X hM => ?_)
  refine g_aload_n (pc := 0) dX8_least_0 0 rfl rfl ?_
  refine gf_X8_21 (pc := 1) rfl dX8_least_1 ?_
  refine g_iload_n (pc := 4) dX8_least_4 1 rfl rfl ?_
  refine g_invV (pc := 5) j_X0_has mw_X8_134 dX8_least_5 (rcv_X0 rfl) (by rfl) (c_X0_has E S 30 k rfl) (Nat.le_of_ble_eq_true rfl) (Nat.le_of_ble_eq_true rfl) (by rfl) (Nat.le_of_ble_eq_true rfl) ?_
  refine g_b_ne (pc := 8) (tgt := 13) dX8_least_8 (by decide) (fun c_8 => ?_) (fun c_8 => ?_)
  · refine g_aload_n (pc := 13) dX8_least_13 0 rfl rfl ?_
    refine gf_X8_32 (pc := 14) rfl dX8_least_14 ?_
    refine g_aload_n (pc := 17) dX8_least_17 0 rfl rfl ?_
    refine gf_X8_21 (pc := 18) rfl dX8_least_18 ?_
    refine g_iload_n (pc := 21) dX8_least_21 1 rfl rfl ?_
    refine g_invV (pc := 22) j_X4_smallestRingWith mw_X8_239 dX8_least_22 (rcv_X4) (by rfl) (c_X4_smallestRingWith E S 30 k rfl (by first | assumption | omega | rfl)) (Nat.le_of_ble_eq_true rfl) (Nat.le_of_ble_eq_true rfl) (by rfl) (Nat.le_of_ble_eq_true rfl) ?_
    refine g_istore_n (pc := 25) (L' := [(2, .int (srR (owS S 30) (deW S 30) k (2 ^ szB S 30))), (0, .ref (eA E 0)), (1, .int k)]) dX8_least_25 rfl (Nat.le_of_ble_eq_true rfl) rfl ?_
    refine g_iload_n (pc := 26) dX8_least_26 0 rfl rfl ?_
    refine g_if_ne (pc := 27) (tgt := 33) dX8_least_27 (by decide) (fun c_27 => ?_) (fun c_27 => ?_)
    · exact absurd c_27 h
    · refine g_bipush (pc := 30) (v := -9) dX8_least_30 (by decide) ?_
      exact g_iret (pc := 32) hM rfl rfl ⟨rfl, rfl⟩ dX8_least_32
  · exact absurd (g1.symm.trans c_8) (by decide)
set_option maxRecDepth 100000 in
set_option maxHeartbeats 4000000 in
theorem c_X8_least_ok (E : En) (S : St) (k : Int32) (hz : okB S 30) (g1 : hasF S 30 k = true) (g2 : ¬ srF S k = 0) : CTe E i_X8_least S [.ref (eA E 0), .int k] (sI (scrF S (deW S 30)) 0 8 (srF S k)) (some (.int (bcF (srF S k)))) := by
  refine ct_of [(0, .ref (eA E 0)), (1, .int k)] (by decide +kernel) (Nat.le_of_ble_eq_true rfl) rfl (fun X hM => ?_)
  refine g_aload_n (pc := 0) dX8_least_0 0 rfl rfl ?_
  refine gf_X8_21 (pc := 1) rfl dX8_least_1 ?_
  refine g_iload_n (pc := 4) dX8_least_4 1 rfl rfl ?_
  refine g_invV (pc := 5) j_X0_has mw_X8_134 dX8_least_5 (rcv_X0 rfl) (by rfl) (c_X0_has E S 30 k rfl) (Nat.le_of_ble_eq_true rfl) (Nat.le_of_ble_eq_true rfl) (by rfl) (Nat.le_of_ble_eq_true rfl) ?_
  refine g_b_ne (pc := 8) (tgt := 13) dX8_least_8 (by decide) (fun c_8 => ?_) (fun c_8 => ?_)
  · refine g_aload_n (pc := 13) dX8_least_13 0 rfl rfl ?_
    refine gf_X8_32 (pc := 14) rfl dX8_least_14 ?_
    refine g_aload_n (pc := 17) dX8_least_17 0 rfl rfl ?_
    refine gf_X8_21 (pc := 18) rfl dX8_least_18 ?_
    refine g_iload_n (pc := 21) dX8_least_21 1 rfl rfl ?_
    refine g_invV (pc := 22) j_X4_smallestRingWith mw_X8_239 dX8_least_22 (rcv_X4) (by rfl) (c_X4_smallestRingWith E S 30 k rfl (by first | assumption | omega | rfl)) (Nat.le_of_ble_eq_true rfl) (Nat.le_of_ble_eq_true rfl) (by rfl) (Nat.le_of_ble_eq_true rfl) ?_
    refine g_istore_n (pc := 25) (L' := [(2, .int (srR (owS S 30) (deW S 30) k (2 ^ szB S 30))), (0, .ref (eA E 0)), (1, .int k)]) dX8_least_25 rfl (Nat.le_of_ble_eq_true rfl) rfl ?_
    refine g_iload_n (pc := 26) dX8_least_26 0 rfl rfl ?_
    refine g_if_ne (pc := 27) (tgt := 33) dX8_least_27 (by decide) (fun c_27 => ?_) (fun c_27 => ?_)
    · refine g_aload_n (pc := 33) dX8_least_33 1 rfl rfl ?_
      refine g_iload_n (pc := 34) dX8_least_34 0 rfl rfl ?_
      refine pf_X8_51 (pc := 35) rfl dX8_least_35 ?_
      refine g_iload_n (pc := 38) dX8_least_38 0 rfl rfl ?_
      refine g_invS (pc := 39) j_J6_bitCount mw_X8_230 dX8_least_39 (by rfl) (c_J6_bitCount E (sI (scrF S (deW S 30)) 0 8 (srR (owS S 30) (deW S 30) k (2 ^ szB S 30))) (srR (owS S 30) (deW S 30) k (2 ^ szB S 30)) ) (Nat.le_of_ble_eq_true rfl) (Nat.le_of_ble_eq_true rfl) (by rfl) (Nat.le_of_ble_eq_true rfl) ?_
      exact g_iret (pc := 42) hM rfl rfl ⟨rfl, rfl⟩ dX8_least_42
    · (first | exact absurd g2 c_27 | exact absurd c_27 g2)
  · exact absurd (g1.symm.trans c_8) (by decide)
set_option maxRecDepth 100000 in
set_option maxHeartbeats 4000000 in
theorem c_X8_chain_bad0 (E : En) (S : St) (f t r : Int32) (hr : idxF 6 r = false) : CTe E i_X8_chain S [.ref (eA E 0), .int f, .int t, .int r] S (some (.int (-1))) := by
  refine ct_of [(0, .ref (eA E 0)), (1, .int f), (2, .int t), (3, .int r)] (by decide +kernel) (Nat.le_of_ble_eq_true rfl) rfl (fun X hM => ?_)
  refine g_aload_n (pc := 0) dX8_chain_0 0 rfl rfl ?_
  refine g_iload_n (pc := 1) dX8_chain_1 3 rfl rfl ?_
  refine g_invV (pc := 2) j_X8_rowOf mw_X8_64 dX8_chain_2 (rcv_X8) (by rfl) (c_X8_rowOf_0 E S r (by first | assumption | omega | rfl)) (Nat.le_of_ble_eq_true rfl) (Nat.le_of_ble_eq_true rfl) (by rfl) (Nat.le_of_ble_eq_true rfl) ?_
  refine g_astoreN (pc := 5) (L' := [(4, .null), (0, .ref (eA E 0)), (1, .int f), (2, .int t), (3, .int r)]) dX8_chain_5 (Nat.le_of_ble_eq_true rfl) rfl ?_
  refine g_iload_n (pc := 7) dX8_chain_7 2 rfl rfl ?_
  refine g_invS (pc := 8) j_X8_isPerson mw_X8_221 dX8_chain_8 (by rfl) (c_X8_isPerson E S f ) (Nat.le_of_ble_eq_true rfl) (Nat.le_of_ble_eq_true rfl) (by rfl) (Nat.le_of_ble_eq_true rfl) ?_
  refine g_b_eq (pc := 11) (tgt := 26) dX8_chain_11 (by decide) (fun c_11 => ?_) (fun c_11 => ?_)
  · refine g_iconst (pc := 26) (v := -1) dX8_chain_26 (by decide) ?_
    exact g_iret (pc := 27) hM rfl rfl ⟨rfl, rfl⟩ dX8_chain_27
  · refine g_iload_n (pc := 14) dX8_chain_14 3 rfl rfl ?_
    refine g_invS (pc := 15) j_X8_isPerson mw_X8_221 dX8_chain_15 (by rfl) (c_X8_isPerson E S t ) (Nat.le_of_ble_eq_true rfl) (Nat.le_of_ble_eq_true rfl) (by rfl) (Nat.le_of_ble_eq_true rfl) ?_
    refine g_b_eq (pc := 18) (tgt := 26) dX8_chain_18 (by decide) (fun c_18 => ?_) (fun c_18 => ?_)
    · refine g_iconst (pc := 26) (v := -1) dX8_chain_26 (by decide) ?_
      exact g_iret (pc := 27) hM rfl rfl ⟨rfl, rfl⟩ dX8_chain_27
    · refine g_aloadN (pc := 21) dX8_chain_21 0 rfl ?_
      refine g_ifnonnullN (pc := 23) dX8_chain_23 ?_
      refine g_iconst (pc := 26) (v := -1) dX8_chain_26 (by decide) ?_
      exact g_iret (pc := 27) hM rfl rfl ⟨rfl, rfl⟩ dX8_chain_27
set_option maxRecDepth 100000 in
set_option maxHeartbeats 4000000 in
theorem c_X8_chain_bad (E : En) (S : St) (f t : Int32) (n : Nat) (hz : okB S 30) (hn : n < 6) (h : ¬ (persF f = true ∧ persF t = true)) : CTe E i_X8_chain S [.ref (eA E 0), .int f, .int t, .int (nI n)] S (some (.int (-1))) := by
  refine ct_of [(0, .ref (eA E 0)), (1, .int f), (2, .int t), (3, .int (nI n))] (by decide +kernel) (Nat.le_of_ble_eq_true rfl) rfl (fun X hM => ?_)
  refine g_aload_n (pc := 0) dX8_chain_0 0 rfl rfl ?_
  refine g_iload_n (pc := 1) dX8_chain_1 3 rfl rfl ?_
  refine g_invV (pc := 2) j_X8_rowOf mw_X8_64 dX8_chain_2 (rcv_X8) (by rfl) (c_X8_rowOf_n E S n (by first | assumption | omega | rfl)) (Nat.le_of_ble_eq_true rfl) (Nat.le_of_ble_eq_true rfl) (by rfl) (Nat.le_of_ble_eq_true rfl) ?_
  refine g_astore (pc := 5) (L' := [(4, .ref (eA E (10 + n))), (0, .ref (eA E 0)), (1, .int f), (2, .int t), (3, .int (nI n))]) dX8_chain_5 (Nat.le_of_ble_eq_true rfl) rfl ?_
  refine g_iload_n (pc := 7) dX8_chain_7 2 rfl rfl ?_
  refine g_invS (pc := 8) j_X8_isPerson mw_X8_221 dX8_chain_8 (by rfl) (c_X8_isPerson E S f ) (Nat.le_of_ble_eq_true rfl) (Nat.le_of_ble_eq_true rfl) (by rfl) (Nat.le_of_ble_eq_true rfl) ?_
  refine g_b_eq (pc := 11) (tgt := 26) dX8_chain_11 (by decide) (fun c_11 => ?_) (fun c_11 => ?_)
  · refine g_iconst (pc := 26) (v := -1) dX8_chain_26 (by decide) ?_
    exact g_iret (pc := 27) hM rfl rfl ⟨rfl, rfl⟩ dX8_chain_27
  · refine g_iload_n (pc := 14) dX8_chain_14 3 rfl rfl ?_
    refine g_invS (pc := 15) j_X8_isPerson mw_X8_221 dX8_chain_15 (by rfl) (c_X8_isPerson E S t ) (Nat.le_of_ble_eq_true rfl) (Nat.le_of_ble_eq_true rfl) (by rfl) (Nat.le_of_ble_eq_true rfl) ?_
    refine g_b_eq (pc := 18) (tgt := 26) dX8_chain_18 (by decide) (fun c_18 => ?_) (fun c_18 => ?_)
    · refine g_iconst (pc := 26) (v := -1) dX8_chain_26 (by decide) ?_
      exact g_iret (pc := 27) hM rfl rfl ⟨rfl, rfl⟩ dX8_chain_27
    · exact absurd ⟨c_11, c_18⟩ h
set_option maxRecDepth 100000 in
set_option maxHeartbeats 4000000 in
theorem c_X8_chain_no (E : En) (S : St) (f t : Int32) (n : Nat) (hz : okB S 30) (hn : n < 6) (g1 : persF f = true) (g2 : persF t = true) (h : ¬ (¬ stpA (gA (spF S t) 9) f = -9)) : CTe E i_X8_chain S [.ref (eA E 0), .int f, .int t, .int (nI n)] (spF S t) (some (.int (-9))) := by
  refine ct_of [(0, .ref (eA E 0)), (1, .int f), (2, .int t), (3, .int (nI n))] (by decide +kernel) (Nat.le_of_ble_eq_true rfl) rfl (fun X hM => ?_)
  refine g_aload_n (pc := 0) dX8_chain_0 0 rfl rfl ?_
  refine g_iload_n (pc := 1) dX8_chain_1 3 rfl rfl ?_
  refine g_invV (pc := 2) j_X8_rowOf mw_X8_64 dX8_chain_2 (rcv_X8) (by rfl) (c_X8_rowOf_n E S n (by first | assumption | omega | rfl)) (Nat.le_of_ble_eq_true rfl) (Nat.le_of_ble_eq_true rfl) (by rfl) (Nat.le_of_ble_eq_true rfl) ?_
  refine g_astore (pc := 5) (L' := [(4, .ref (eA E (10 + n))), (0, .ref (eA E 0)), (1, .int f), (2, .int t), (3, .int (nI n))]) dX8_chain_5 (Nat.le_of_ble_eq_true rfl) rfl ?_
  refine g_iload_n (pc := 7) dX8_chain_7 2 rfl rfl ?_
  refine g_invS (pc := 8) j_X8_isPerson mw_X8_221 dX8_chain_8 (by rfl) (c_X8_isPerson E S f ) (Nat.le_of_ble_eq_true rfl) (Nat.le_of_ble_eq_true rfl) (by rfl) (Nat.le_of_ble_eq_true rfl) ?_
  refine g_b_eq (pc := 11) (tgt := 26) dX8_chain_11 (by decide) (fun c_11 => ?_) (fun c_11 => ?_)
  · exact absurd (g1.symm.trans c_11) (by decide)
  · refine g_iload_n (pc := 14) dX8_chain_14 3 rfl rfl ?_
    refine g_invS (pc := 15) j_X8_isPerson mw_X8_221 dX8_chain_15 (by rfl) (c_X8_isPerson E S t ) (Nat.le_of_ble_eq_true rfl) (Nat.le_of_ble_eq_true rfl) (by rfl) (Nat.le_of_ble_eq_true rfl) ?_
    refine g_b_eq (pc := 18) (tgt := 26) dX8_chain_18 (by decide) (fun c_18 => ?_) (fun c_18 => ?_)
    · exact absurd (g2.symm.trans c_18) (by decide)
    · refine g_aload (pc := 21) dX8_chain_21 0 rfl ?_
      refine g_ifnonnull (pc := 23) (tgt := 28) dX8_chain_23 (by decide) ?_
      refine g_aload_n (pc := 28) dX8_chain_28 1 rfl rfl ?_
      refine gf_X8_39 (pc := 29) rfl dX8_chain_29 ?_
      refine g_aload_n (pc := 32) dX8_chain_32 1 rfl rfl ?_
      refine gf_X8_21 (pc := 33) rfl dX8_chain_33 ?_
      refine g_iload_n (pc := 36) dX8_chain_36 2 rfl rfl ?_
      refine g_iload_n (pc := 37) dX8_chain_37 3 rfl rfl ?_
      refine g_invV (pc := 38) j_X1_shortest mw_X8_242 dX8_chain_38 (rcv_X1) (by rfl) (c_X1_shortest E S 30 f t rfl (by first | assumption | omega | rfl)) (Nat.le_of_ble_eq_true rfl) (Nat.le_of_ble_eq_true rfl) (by rfl) (Nat.le_of_ble_eq_true rfl) ?_
      rw [show stpO S 30 (stp0 (gA S 9) t 6) 5 = gA (spF S t) 9 from (gA_same _ _ _).symm, show sA S 9 (gA (spF S t) 9) = spF S t by rw [spF, gA_same]]
      refine g_istore (pc := 41) (L' := [(5, .int (stpA (gA (spF S t) 9) f)), (4, .ref (eA E (10 + n))), (0, .ref (eA E 0)), (1, .int f), (2, .int t), (3, .int (nI n))]) dX8_chain_41 (Nat.le_of_ble_eq_true rfl) rfl ?_
      refine g_iload (pc := 43) dX8_chain_43 0 rfl ?_
      refine g_bipush (pc := 45) (v := -9) dX8_chain_45 (by decide) ?_
      refine g_icmp_ne (pc := 47) (tgt := 53) dX8_chain_47 (by decide) (fun c_47 => ?_) (fun c_47 => ?_)
      · exact absurd c_47 h
      · refine g_bipush (pc := 50) (v := -9) dX8_chain_50 (by decide) ?_
        exact g_iret (pc := 52) hM rfl rfl ⟨rfl, rfl⟩ dX8_chain_52
set_option maxRecDepth 100000 in
set_option maxHeartbeats 4000000 in
theorem c_X8_chain_ok (E : En) (S : St) (f t : Int32) (n m : Nat) (hz : okB S 30) (hn : n < 6) (g1 : persF f = true) (g2 : persF t = true) (hm : stpA (gA (spF S t) 9) f = nI m) (hm6 : m ≤ 6) : CTe E i_X8_chain S [.ref (eA E 0), .int f, .int t, .int (nI n)] (sA (sI (spF S t) (10 + n) 1 (nI m)) (10 + n + 10) (chnG (spF S t) 30 f (fillF (gA (spF S t) (10 + n + 10)) 0 m) m)) (some (.int (nI m))) := by
  refine ct_of [(0, .ref (eA E 0)), (1, .int f), (2, .int t), (3, .int (nI n))] (by decide +kernel) (Nat.le_of_ble_eq_true rfl) rfl (fun X hM => ?_)
  refine g_aload_n (pc := 0) dX8_chain_0 0 rfl rfl ?_
  refine g_iload_n (pc := 1) dX8_chain_1 3 rfl rfl ?_
  refine g_invV (pc := 2) j_X8_rowOf mw_X8_64 dX8_chain_2 (rcv_X8) (by rfl) (c_X8_rowOf_n E S n (by first | assumption | omega | rfl)) (Nat.le_of_ble_eq_true rfl) (Nat.le_of_ble_eq_true rfl) (by rfl) (Nat.le_of_ble_eq_true rfl) ?_
  refine g_astore (pc := 5) (L' := [(4, .ref (eA E (10 + n))), (0, .ref (eA E 0)), (1, .int f), (2, .int t), (3, .int (nI n))]) dX8_chain_5 (Nat.le_of_ble_eq_true rfl) rfl ?_
  refine g_iload_n (pc := 7) dX8_chain_7 2 rfl rfl ?_
  refine g_invS (pc := 8) j_X8_isPerson mw_X8_221 dX8_chain_8 (by rfl) (c_X8_isPerson E S f ) (Nat.le_of_ble_eq_true rfl) (Nat.le_of_ble_eq_true rfl) (by rfl) (Nat.le_of_ble_eq_true rfl) ?_
  refine g_b_eq (pc := 11) (tgt := 26) dX8_chain_11 (by decide) (fun c_11 => ?_) (fun c_11 => ?_)
  · exact absurd (g1.symm.trans c_11) (by decide)
  · refine g_iload_n (pc := 14) dX8_chain_14 3 rfl rfl ?_
    refine g_invS (pc := 15) j_X8_isPerson mw_X8_221 dX8_chain_15 (by rfl) (c_X8_isPerson E S t ) (Nat.le_of_ble_eq_true rfl) (Nat.le_of_ble_eq_true rfl) (by rfl) (Nat.le_of_ble_eq_true rfl) ?_
    refine g_b_eq (pc := 18) (tgt := 26) dX8_chain_18 (by decide) (fun c_18 => ?_) (fun c_18 => ?_)
    · exact absurd (g2.symm.trans c_18) (by decide)
    · refine g_aload (pc := 21) dX8_chain_21 0 rfl ?_
      refine g_ifnonnull (pc := 23) (tgt := 28) dX8_chain_23 (by decide) ?_
      refine g_aload_n (pc := 28) dX8_chain_28 1 rfl rfl ?_
      refine gf_X8_39 (pc := 29) rfl dX8_chain_29 ?_
      refine g_aload_n (pc := 32) dX8_chain_32 1 rfl rfl ?_
      refine gf_X8_21 (pc := 33) rfl dX8_chain_33 ?_
      refine g_iload_n (pc := 36) dX8_chain_36 2 rfl rfl ?_
      refine g_iload_n (pc := 37) dX8_chain_37 3 rfl rfl ?_
      refine g_invV (pc := 38) j_X1_shortest mw_X8_242 dX8_chain_38 (rcv_X1) (by rfl) (c_X1_shortest E S 30 f t rfl (by first | assumption | omega | rfl)) (Nat.le_of_ble_eq_true rfl) (Nat.le_of_ble_eq_true rfl) (by rfl) (Nat.le_of_ble_eq_true rfl) ?_
      rw [show stpO S 30 (stp0 (gA S 9) t 6) 5 = gA (spF S t) 9 from (gA_same _ _ _).symm, show sA S 9 (gA (spF S t) 9) = spF S t by rw [spF, gA_same]]
      refine g_istore (pc := 41) (L' := [(5, .int (stpA (gA (spF S t) 9) f)), (4, .ref (eA E (10 + n))), (0, .ref (eA E 0)), (1, .int f), (2, .int t), (3, .int (nI n))]) dX8_chain_41 (Nat.le_of_ble_eq_true rfl) rfl ?_
      refine g_iload (pc := 43) dX8_chain_43 0 rfl ?_
      refine g_bipush (pc := 45) (v := -9) dX8_chain_45 (by decide) ?_
      refine g_icmp_ne (pc := 47) (tgt := 53) dX8_chain_47 (by decide) (fun c_47 => ?_) (fun c_47 => ?_)
      · refine g_aload_n (pc := 53) dX8_chain_53 2 rfl rfl ?_
        refine gf_X8_39 (pc := 54) rfl dX8_chain_54 ?_
        refine g_aload_n (pc := 57) dX8_chain_57 2 rfl rfl ?_
        refine gf_X8_21 (pc := 58) rfl dX8_chain_58 ?_
        refine g_iload_n (pc := 61) dX8_chain_61 3 rfl rfl ?_
        refine g_aload (pc := 62) dX8_chain_62 1 rfl ?_
        refine g_invN (pc := 64) j_X1_write mw_X8_246 dX8_chain_64 (rcv_X1) (by rfl) (c_X1_write E (spF S t) 30 (10 + n) m f rfl hz (kd_r (by omega)) hm (by first | assumption | omega | rfl)) (Nat.le_of_ble_eq_true rfl) (Nat.le_of_ble_eq_true rfl) (by rfl) (Nat.le_of_ble_eq_true rfl) ?_
        refine g_iload (pc := 67) dX8_chain_67 0 rfl ?_
        exact g_iret (pc := 69) hM rfl rfl ⟨rfl, some_int hm⟩ dX8_chain_69
      · exact absurd (hm.symm.trans c_47) (by intro q; have := congrArg Int32.toInt q; rw [nI_toInt (by omega)] at this; have h9 : (-9 : Int32).toInt = -9 := rfl; omega)
set_option maxRecDepth 100000 in
set_option maxHeartbeats 4000000 in
theorem c_X8_dim_bad (E : En) (S : St) (p v : Int32) (hz : okB S 30) (h : ¬ (placeF p = true ∧ ¬ v < 0 ∧ v ≤ 99)) : CTe E i_X8_dim S [.ref (eA E 0), .int p, .int v] S (some (.int (-1))) := by
  refine ct_of [(0, .ref (eA E 0)), (1, .int p), (2, .int v)] (by decide +kernel) (Nat.le_of_ble_eq_true rfl) rfl (fun X hM => ?_)
  refine g_iload_n (pc := 0) dX8_dim_0 1 rfl rfl ?_
  refine g_invS (pc := 1) j_X8_isPlace mw_X8_181 dX8_dim_1 (by rfl) (c_X8_isPlace E S p ) (Nat.le_of_ble_eq_true rfl) (Nat.le_of_ble_eq_true rfl) (by rfl) (Nat.le_of_ble_eq_true rfl) ?_
  refine g_b_eq (pc := 4) (tgt := 17) dX8_dim_4 (by decide) (fun c_4 => ?_) (fun c_4 => ?_)
  · refine g_iconst (pc := 17) (v := -1) dX8_dim_17 (by decide) ?_
    exact g_iret (pc := 18) hM rfl rfl ⟨rfl, rfl⟩ dX8_dim_18
  · refine g_iload_n (pc := 7) dX8_dim_7 2 rfl rfl ?_
    refine g_if_lt (pc := 8) (tgt := 17) dX8_dim_8 (by decide) (fun c_8 => ?_) (fun c_8 => ?_)
    · have k_8 := Int32.not_le.mpr c_8
      refine g_iconst (pc := 17) (v := -1) dX8_dim_17 (by decide) ?_
      exact g_iret (pc := 18) hM rfl rfl ⟨rfl, rfl⟩ dX8_dim_18
    · have k_8 := Int32.not_lt.mp c_8
      refine g_iload_n (pc := 11) dX8_dim_11 2 rfl rfl ?_
      refine g_bipush (pc := 12) (v := 99) dX8_dim_12 (by decide) ?_
      refine g_icmp_le (pc := 14) (tgt := 19) dX8_dim_14 (by decide) (fun c_14 => ?_) (fun c_14 => ?_)
      · have k_14 := Int32.not_lt.mpr c_14
        exact absurd ⟨c_4, c_8, c_14⟩ h
      · have k_14 := Int32.not_le.mp c_14
        refine g_iconst (pc := 17) (v := -1) dX8_dim_17 (by decide) ?_
        exact g_iret (pc := 18) hM rfl rfl ⟨rfl, rfl⟩ dX8_dim_18
set_option maxRecDepth 100000 in
set_option maxHeartbeats 4000000 in
theorem c_X8_dim_ok (E : En) (S : St) (p v : Int32) (hz : okB S 30) (g1 : placeF p = true) (g2 : ¬ v < 0) (g3 : v ≤ 99) : CTe E i_X8_dim S [.ref (eA E 0), .int p, .int v] (sI (scrF S (glW S 30 p)) 0 8 (faF S p v)) (some (.int (bcF (faF S p v)))) := by
  refine ct_of [(0, .ref (eA E 0)), (1, .int p), (2, .int v)] (by decide +kernel) (Nat.le_of_ble_eq_true rfl) rfl (fun X hM => ?_)
  refine g_iload_n (pc := 0) dX8_dim_0 1 rfl rfl ?_
  refine g_invS (pc := 1) j_X8_isPlace mw_X8_181 dX8_dim_1 (by rfl) (c_X8_isPlace E S p ) (Nat.le_of_ble_eq_true rfl) (Nat.le_of_ble_eq_true rfl) (by rfl) (Nat.le_of_ble_eq_true rfl) ?_
  refine g_b_eq (pc := 4) (tgt := 17) dX8_dim_4 (by decide) (fun c_4 => ?_) (fun c_4 => ?_)
  · exact absurd (g1.symm.trans c_4) (by decide)
  · refine g_iload_n (pc := 7) dX8_dim_7 2 rfl rfl ?_
    refine g_if_lt (pc := 8) (tgt := 17) dX8_dim_8 (by decide) (fun c_8 => ?_) (fun c_8 => ?_)
    · have k_8 := Int32.not_le.mpr c_8
      (first | exact absurd g2 c_8 | exact absurd c_8 g2)
    · have k_8 := Int32.not_lt.mp c_8
      refine g_iload_n (pc := 11) dX8_dim_11 2 rfl rfl ?_
      refine g_bipush (pc := 12) (v := 99) dX8_dim_12 (by decide) ?_
      refine g_icmp_le (pc := 14) (tgt := 19) dX8_dim_14 (by decide) (fun c_14 => ?_) (fun c_14 => ?_)
      · have k_14 := Int32.not_lt.mpr c_14
        refine g_aload_n (pc := 19) dX8_dim_19 0 rfl rfl ?_
        refine gf_X8_32 (pc := 20) rfl dX8_dim_20 ?_
        refine g_aload_n (pc := 23) dX8_dim_23 0 rfl rfl ?_
        refine gf_X8_21 (pc := 24) rfl dX8_dim_24 ?_
        refine g_iload_n (pc := 27) dX8_dim_27 1 rfl rfl ?_
        refine g_iload_n (pc := 28) dX8_dim_28 2 rfl rfl ?_
        refine g_invV (pc := 29) j_X4_fewestToAnswer mw_X8_250 dX8_dim_29 (rcv_X4) (by rfl) (c_X4_fewestToAnswer E S 30 p v rfl (by first | assumption | omega | rfl)) (Nat.le_of_ble_eq_true rfl) (Nat.le_of_ble_eq_true rfl) (by rfl) (Nat.le_of_ble_eq_true rfl) ?_
        refine g_istore_n (pc := 32) (L' := [(3, .int (faR (gI S 30 7) (briF S 30 p (gI S 30 8)) v (glW S 30 p) (2 ^ szB S 30))), (0, .ref (eA E 0)), (1, .int p), (2, .int v)]) dX8_dim_32 rfl (Nat.le_of_ble_eq_true rfl) rfl ?_
        refine g_aload_n (pc := 33) dX8_dim_33 1 rfl rfl ?_
        refine g_iload_n (pc := 34) dX8_dim_34 0 rfl rfl ?_
        refine pf_X8_51 (pc := 35) rfl dX8_dim_35 ?_
        refine g_iload_n (pc := 38) dX8_dim_38 0 rfl rfl ?_
        refine g_invS (pc := 39) j_J6_bitCount mw_X8_230 dX8_dim_39 (by rfl) (c_J6_bitCount E (sI (scrF S (glW S 30 p)) 0 8 (faR (gI S 30 7) (briF S 30 p (gI S 30 8)) v (glW S 30 p) (2 ^ szB S 30))) (faR (gI S 30 7) (briF S 30 p (gI S 30 8)) v (glW S 30 p) (2 ^ szB S 30)) ) (Nat.le_of_ble_eq_true rfl) (Nat.le_of_ble_eq_true rfl) (by rfl) (Nat.le_of_ble_eq_true rfl) ?_
        exact g_iret (pc := 42) hM rfl rfl ⟨rfl, rfl⟩ dX8_dim_42
      · have k_14 := Int32.not_le.mp c_14
        (first | exact absurd g3 c_14 | exact absurd c_14 g3)
