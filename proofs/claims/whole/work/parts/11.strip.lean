/-! KINDS and STRIP: what they answer, and their contracts -/
def parF (k : Int32) : Int32 := if k = 4 then 2 else if k = 5 then 3 else 0
def isOfF (k w : Int32) : Bool := decide (k = w) || decide (parF k = w) || decide (w = 0)
def dewF (first night : Int32) : Int32 := if first + night < 20 then first + night else 20
def forF (first night : Int32) : Int32 := 9 - first + (night - night / 2 * 2)
def glowF (kind first night : Int32) : Int32 := if kind = 1 then (first + 1) / 2 else if kind = 2 then dewF first night else if kind = 3 then forF first night else if kind = 4 then (if night < 5 then dewF first night else dewF first night / 2) else if kind = 5 then (if 5 < forF first night then forF first night else 5) else first
theorem glowF_out {kind first night : Int32} (h : kind.toInt < 1 ∨ 5 < kind.toInt) : glowF kind first night = first := by
  have h1 : ¬ kind = 1 := by rintro rfl; revert h; decide
  have h2 : ¬ kind = 2 := by rintro rfl; revert h; decide
  have h3 : ¬ kind = 3 := by rintro rfl; revert h; decide
  have h4 : ¬ kind = 4 := by rintro rfl; revert h; decide
  have h5 : ¬ kind = 5 := by rintro rfl; revert h; decide
  simp [glowF, h1, h2, h3, h4, h5]
def signF (kind own first night : Int32) : Int32 := if kind = 2 then (glowF own first night - glowF (parF kind) first night) + 100 else if kind = 3 then 100 - (glowF own first night - glowF (parF kind) first night) else if kind = 5 then glowF own first night - glowF (parF kind) first night else - (glowF own first night - glowF (parF kind) first night)
theorem signF_out {kind own first night : Int32} (h : kind.toInt < 2 ∨ 5 < kind.toInt) : signF kind own first night = - (glowF own first night - glowF (parF kind) first night) := by
  have h2 : ¬ kind = 2 := by rintro rfl; revert h; decide
  have h3 : ¬ kind = 3 := by rintro rfl; revert h; decide
  have h5 : ¬ kind = 5 := by rintro rfl; revert h; decide
  simp [signF, h2, h3, h5]
def letterF (c : Int32) : Int32 := if 108 = c then 0 else if 106 = c then 1 else if 100 = c then 2 else if 102 = c then 3 else if 111 = c then 4 else if 109 = c then 5 else -9
def misF (S : St) (k : Nat) : Bool := !decide (0 ≤ gI S k 1)
def holdsF (S : St) (k : Nat) (i : Int32) : Bool := !decide (i < 0) && !decide (gI S k 1 ≤ i)
def getF (S : St) (k : Nat) (i : Int32) : Int32 := if holdsF S k i then gA S (k + 10) i.toNatClampNeg else 0
def setF (S : St) (k : Nat) (i v : Int32) : St := if holdsF S k i then sA S (k + 10) (upd (gA S (k + 10)) i.toNatClampNeg v) else S
def fillF (f : Nat → Int32) (v : Int32) (m : Nat) : Nat → Int32 := fun i => if i < m then v else f i
theorem fillF_0 (f : Nat → Int32) (v : Int32) : fillF f v 0 = f := by funext i; simp [fillF]
theorem fillF_s (f : Nat → Int32) (v : Int32) (m : Nat) : upd (fillF f v m) m v = fillF f v (m + 1) := by
  funext i
  unfold fillF upd
  by_cases h : i = m
  · subst h; simp
  · by_cases h2 : i < m
    · simp [h, h2, Nat.lt_succ_of_lt h2]
    · simp [h, h2, show ¬ i < m + 1 by omega]
def sumL (f : Nat → Int32) : Nat → Int64 | 0 => 0 | n + 1 => sumL f n + (f n).toInt64
def runF (S : St) (k : Nat) (a n : Int32) : Bool := !decide (gI S k 1 < 0) && !decide (n < 0) && !decide (a < 0) && decide (a ≤ gI S k 1 - n)
/-- a place that a Strip holds is a place of its row -/
theorem holds_nat {S : St} {k : Nat} {i : Int32} (hs : (gI S k 1).toInt ≤ (ln (k + 10) : Int)) (h : holdsF S k i = true) : ∃ j : Nat, i = nI j ∧ j < ln (k + 10) ∧ i.toNatClampNeg = j ∧ (j : Int) < (gI S k 1).toInt := by
  unfold holdsF at h
  rw [Bool.and_eq_true, Bool.not_eq_true', Bool.not_eq_true', decide_eq_false_iff_not, decide_eq_false_iff_not] at h
  obtain ⟨j, hj, rfl⟩ := nI_of h.1
  have h2 := h.2
  rw [Int32.le_iff_toInt_le, nI_toInt hj] at h2
  exact ⟨j, rfl, by omega, nI_clamp hj, by omega⟩
theorem clampM {m N : Nat} (h : m ≤ N) (hN : N < 2 ^ 31) : (if (0 : Int32) < (if nI N < nI m then nI N else nI m) then (if nI N < nI m then nI N else nI m) else 0) = nI m := by
  have h1 : ¬ nI N < nI m := nI_nlt h hN
  rw [if_neg h1]
  by_cases h2 : (0 : Int32) < nI m
  · rw [if_pos h2]
  · rw [if_neg h2]
    have h3 : ¬ nI 0 < nI m := by rw [nI_0]; exact h2
    have : m = 0 := by
      rcases Nat.eq_zero_or_pos m with q | q
      · exact q
      · exact absurd (nI_lt q (by omega)) h3
    rw [this, nI_0]
set_option maxHeartbeats 4000000 in
theorem c_X2_parentOf (E : En) (S : St) (k : Int32) : CTe E i_X2_parentOf S [.int k] S (some (.int (parF k))) := by
  refine ct_of [(0, .int k)] (by decide +kernel) (Nat.le_of_ble_eq_true rfl) rfl (fun X hM => ?_)
  refine g_iload_n (pc := 0) dX2_parentOf_0 0 rfl rfl ?_
  by_cases h4 : k = 4
  · refine g_lookup (pc := 1) (tgt := 28) (off := 27) dX2_parentOf_1 (by decide) (by rw [h4]; rfl) (by decide) ?_
    refine g_iconst (pc := 28) (v := 2) dX2_parentOf_28 (by decide) ?_
    exact g_iret (pc := 29) hM rfl rfl ⟨rfl, some_int (by simp [parF, h4])⟩ dX2_parentOf_29
  · by_cases h5 : k = 5
    · refine g_lookup (pc := 1) (tgt := 30) (off := 29) dX2_parentOf_1 (by decide) (by rw [h5]; rfl) (by decide) ?_
      refine g_iconst (pc := 30) (v := 3) dX2_parentOf_30 (by decide) ?_
      exact g_iret (pc := 31) hM rfl rfl ⟨rfl, some_int (by simp [parF, h5])⟩ dX2_parentOf_31
    · refine g_lookup (pc := 1) (tgt := 32) (off := 31) dX2_parentOf_1 (by decide) (by show Op.lookupswitch.offset [(4, 27), (5, 29)] 31 k.toInt = 31; rw [lv_osw (k := 4) (a := 4) h4 rfl, lv_osw (k := 5) (a := 5) h5 rfl]; rfl) (by decide) ?_
      refine g_iconst (pc := 32) (v := 0) dX2_parentOf_32 (by decide) ?_
      exact g_iret (pc := 33) hM rfl rfl ⟨rfl, some_int (by simp [parF, h4, h5])⟩ dX2_parentOf_33
set_option maxRecDepth 100000 in
set_option maxHeartbeats 4000000 in
theorem c_X2_isOf (E : En) (S : St) (k w : Int32) : CTe E i_X2_isOf S [.int k, .int w] S (some (.int (bI (isOfF k w)))) := by
  refine ct_of [(0, .int k), (1, .int w)] (by decide +kernel) (Nat.le_of_ble_eq_true rfl) rfl (fun X hM => ?_)
  refine g_iload_n (pc := 0) dX2_isOf_0 0 rfl rfl ?_
  refine g_iload_n (pc := 1) dX2_isOf_1 1 rfl rfl ?_
  refine g_icmp_eq (pc := 2) (tgt := 17) dX2_isOf_2 (by decide) (fun c_2 => ?_) (fun c_2 => ?_)
  · refine g_iconst (pc := 17) (v := 1) dX2_isOf_17 (by decide) ?_
    refine g_goto (pc := 18) (tgt := 22) dX2_isOf_18 (by decide) ?_
    exact g_iret (pc := 22) hM rfl rfl ⟨rfl, some_int (by simp [isOfF, bI, *])⟩ dX2_isOf_22
  · refine g_iload_n (pc := 5) dX2_isOf_5 0 rfl rfl ?_
    refine g_invS (pc := 6) j_X2_parentOf mw_X2_15 dX2_isOf_6 (by rfl) (c_X2_parentOf E S k ) (Nat.le_of_ble_eq_true rfl) (Nat.le_of_ble_eq_true rfl) (by rfl) (Nat.le_of_ble_eq_true rfl) ?_
    refine g_iload_n (pc := 9) dX2_isOf_9 1 rfl rfl ?_
    refine g_icmp_eq (pc := 10) (tgt := 17) dX2_isOf_10 (by decide) (fun c_10 => ?_) (fun c_10 => ?_)
    · refine g_iconst (pc := 17) (v := 1) dX2_isOf_17 (by decide) ?_
      refine g_goto (pc := 18) (tgt := 22) dX2_isOf_18 (by decide) ?_
      exact g_iret (pc := 22) hM rfl rfl ⟨rfl, some_int (by simp [isOfF, bI, *])⟩ dX2_isOf_22
    · refine g_iload_n (pc := 13) dX2_isOf_13 1 rfl rfl ?_
      refine g_if_ne (pc := 14) (tgt := 21) dX2_isOf_14 (by decide) (fun c_14 => ?_) (fun c_14 => ?_)
      · refine g_iconst (pc := 21) (v := 0) dX2_isOf_21 (by decide) ?_
        exact g_iret (pc := 22) hM rfl rfl ⟨rfl, some_int (by simp [isOfF, bI, *])⟩ dX2_isOf_22
      · refine g_iconst (pc := 17) (v := 1) dX2_isOf_17 (by decide) ?_
        refine g_goto (pc := 18) (tgt := 22) dX2_isOf_18 (by decide) ?_
        exact g_iret (pc := 22) hM rfl rfl ⟨rfl, some_int (by simp [isOfF, bI, *])⟩ dX2_isOf_22
set_option maxRecDepth 100000 in
set_option maxHeartbeats 4000000 in
theorem c_X2_glow (E : En) (S : St) (kind first night : Int32) : CTe E i_X2_glow S [.int kind, .int first, .int night] S (some (.int (glowF kind first night))) := by
  refine ct_of [(0, .int kind), (1, .int first), (2, .int night)] (by decide +kernel) (Nat.le_of_ble_eq_true rfl) rfl (fun X hM => ?_)
  refine g_bipush (pc := 0) (v := 20) dX2_glow_0 (by decide) ?_
  refine g_iload_n (pc := 2) dX2_glow_2 1 rfl rfl ?_
  refine g_iload_n (pc := 3) dX2_glow_3 2 rfl rfl ?_
  refine g_iadd (pc := 4) dX2_glow_4 ?_
  refine g_min (pc := 5) mw_X2_19 dX2_glow_5 (Nat.le_of_ble_eq_true rfl) (Nat.le_of_ble_eq_true rfl) ?_
  refine g_istore_n (pc := 8) (L' := [(3, .int (if (first + night) < 20 then (first + night) else 20)), (0, .int kind), (1, .int first), (2, .int night)]) dX2_glow_8 rfl (Nat.le_of_ble_eq_true rfl) rfl ?_
  refine g_bipush (pc := 9) (v := 9) dX2_glow_9 (by decide) ?_
  refine g_iload_n (pc := 11) dX2_glow_11 2 rfl rfl ?_
  refine g_isub (pc := 12) dX2_glow_12 ?_
  refine g_iload_n (pc := 13) dX2_glow_13 3 rfl rfl ?_
  refine g_iconst (pc := 14) (v := 2) dX2_glow_14 (by decide) ?_
  refine g_irem (pc := 15) dX2_glow_15 (by decide) ?_
  refine g_iadd (pc := 16) dX2_glow_16 ?_
  refine g_istore (pc := 17) (L' := [(4, .int ((9 - first) + (night - night / 2 * 2))), (3, .int (if (first + night) < 20 then (first + night) else 20)), (0, .int kind), (1, .int first), (2, .int night)]) dX2_glow_17 (Nat.le_of_ble_eq_true rfl) rfl ?_
  refine g_iload_n (pc := 19) dX2_glow_19 2 rfl rfl ?_
  rcases tsw1_5 kind with c_20 | c_20 | c_20 | c_20 | c_20 | c_20
  · refine g_tsIn (pc := 20) (tgt := 56) dX2_glow_20 (by rw [c_20]; decide) (by rw [c_20]; decide) (by rw [c_20]; rfl) (by decide) ?_
    refine g_iload_n (pc := 56) dX2_glow_56 3 rfl rfl ?_
    refine g_iconst (pc := 57) (v := 1) dX2_glow_57 (by decide) ?_
    refine g_iadd (pc := 58) dX2_glow_58 ?_
    refine g_iconst (pc := 59) (v := 2) dX2_glow_59 (by decide) ?_
    refine g_idiv (pc := 60) dX2_glow_60 (by decide) ?_
    exact g_iret (pc := 61) hM rfl rfl ⟨rfl, some_int (by first | (rw [glowF_out (by assumption)]) | (simp [glowF, dewF, forF, *]; done) | (simp [glowF, dewF, forF, *]; rfl))⟩ dX2_glow_61
  · refine g_tsIn (pc := 20) (tgt := 62) dX2_glow_20 (by rw [c_20]; decide) (by rw [c_20]; decide) (by rw [c_20]; rfl) (by decide) ?_
    refine g_iload_n (pc := 62) dX2_glow_62 1 rfl rfl ?_
    exact g_iret (pc := 63) hM rfl rfl ⟨rfl, some_int (by first | (rw [glowF_out (by assumption)]) | (simp [glowF, dewF, forF, *]; done) | (simp [glowF, dewF, forF, *]; rfl))⟩ dX2_glow_63
  · refine g_tsIn (pc := 20) (tgt := 64) dX2_glow_20 (by rw [c_20]; decide) (by rw [c_20]; decide) (by rw [c_20]; rfl) (by decide) ?_
    refine g_iload (pc := 64) dX2_glow_64 0 rfl ?_
    exact g_iret (pc := 66) hM rfl rfl ⟨rfl, some_int (by first | (rw [glowF_out (by assumption)]) | (simp [glowF, dewF, forF, *]; done) | (simp [glowF, dewF, forF, *]; rfl))⟩ dX2_glow_66
  · refine g_tsIn (pc := 20) (tgt := 67) dX2_glow_20 (by rw [c_20]; decide) (by rw [c_20]; decide) (by rw [c_20]; rfl) (by decide) ?_
    refine g_iload_n (pc := 67) dX2_glow_67 4 rfl rfl ?_
    refine g_iconst (pc := 68) (v := 5) dX2_glow_68 (by decide) ?_
    refine g_icmp_ge (pc := 69) (tgt := 76) dX2_glow_69 (by decide) (fun c_69 => ?_) (fun c_69 => ?_)
    · have k_69 := Int32.not_lt.mpr c_69
      refine g_iload_n (pc := 76) dX2_glow_76 1 rfl rfl ?_
      refine g_iconst (pc := 77) (v := 2) dX2_glow_77 (by decide) ?_
      refine g_idiv (pc := 78) dX2_glow_78 (by decide) ?_
      exact g_iret (pc := 79) hM rfl rfl ⟨rfl, some_int (by first | (rw [glowF_out (by assumption)]) | (simp [glowF, dewF, forF, *]; done) | (simp [glowF, dewF, forF, *]; rfl))⟩ dX2_glow_79
    · have k_69 := Int32.not_le.mp c_69
      refine g_iload_n (pc := 72) dX2_glow_72 1 rfl rfl ?_
      refine g_goto (pc := 73) (tgt := 79) dX2_glow_73 (by decide) ?_
      exact g_iret (pc := 79) hM rfl rfl ⟨rfl, some_int (by first | (rw [glowF_out (by assumption)]) | (simp [glowF, dewF, forF, *]; done) | (simp [glowF, dewF, forF, *]; rfl))⟩ dX2_glow_79
  · refine g_tsIn (pc := 20) (tgt := 80) dX2_glow_20 (by rw [c_20]; decide) (by rw [c_20]; decide) (by rw [c_20]; rfl) (by decide) ?_
    refine g_iconst (pc := 80) (v := 5) dX2_glow_80 (by decide) ?_
    refine g_iload (pc := 81) dX2_glow_81 0 rfl ?_
    refine g_max (pc := 83) mw_X2_25 dX2_glow_83 (Nat.le_of_ble_eq_true rfl) (Nat.le_of_ble_eq_true rfl) ?_
    exact g_iret (pc := 86) hM rfl rfl ⟨rfl, some_int (by first | (rw [glowF_out (by assumption)]) | (simp [glowF, dewF, forF, *]; done) | (simp [glowF, dewF, forF, *]; rfl))⟩ dX2_glow_86
  · refine g_tsOut (pc := 20) (tgt := 87) dX2_glow_20 c_20 (by decide) ?_
    refine g_iload_n (pc := 87) dX2_glow_87 3 rfl rfl ?_
    exact g_iret (pc := 88) hM rfl rfl ⟨rfl, some_int (by first | (rw [glowF_out (by assumption)]) | (simp [glowF, dewF, forF, *]; done) | (simp [glowF, dewF, forF, *]; rfl))⟩ dX2_glow_88
set_option maxRecDepth 100000 in
set_option maxHeartbeats 4000000 in
theorem c_X2_signOf (E : En) (S : St) (kind own first night : Int32) : CTe E i_X2_signOf S [.int kind, .int own, .int first, .int night] S (some (.int (signF kind own first night))) := by
  refine ct_of [(0, .int kind), (1, .int own), (2, .int first), (3, .int night)] (by decide +kernel) (Nat.le_of_ble_eq_true rfl) rfl (fun X hM => ?_)
  refine g_iload_n (pc := 0) dX2_signOf_0 1 rfl rfl ?_
  refine g_iload_n (pc := 1) dX2_signOf_1 2 rfl rfl ?_
  refine g_iload_n (pc := 2) dX2_signOf_2 3 rfl rfl ?_
  refine g_invS (pc := 3) j_X2_glow mw_X2_28 dX2_signOf_3 (by rfl) (c_X2_glow E S own first night ) (Nat.le_of_ble_eq_true rfl) (Nat.le_of_ble_eq_true rfl) (by rfl) (Nat.le_of_ble_eq_true rfl) ?_
  refine g_iload_n (pc := 6) dX2_signOf_6 0 rfl rfl ?_
  refine g_invS (pc := 7) j_X2_parentOf mw_X2_15 dX2_signOf_7 (by rfl) (c_X2_parentOf E S kind ) (Nat.le_of_ble_eq_true rfl) (Nat.le_of_ble_eq_true rfl) (by rfl) (Nat.le_of_ble_eq_true rfl) ?_
  refine g_iload_n (pc := 10) dX2_signOf_10 2 rfl rfl ?_
  refine g_iload_n (pc := 11) dX2_signOf_11 3 rfl rfl ?_
  refine g_invS (pc := 12) j_X2_glow mw_X2_28 dX2_signOf_12 (by rfl) (c_X2_glow E S (parF kind) first night ) (Nat.le_of_ble_eq_true rfl) (Nat.le_of_ble_eq_true rfl) (by rfl) (Nat.le_of_ble_eq_true rfl) ?_
  refine g_isub (pc := 15) dX2_signOf_15 ?_
  refine g_istore (pc := 16) (L' := [(4, .int (glowF own first night - glowF (parF kind) first night)), (0, .int kind), (1, .int own), (2, .int first), (3, .int night)]) dX2_signOf_16 (Nat.le_of_ble_eq_true rfl) rfl ?_
  refine g_iload_n (pc := 18) dX2_signOf_18 1 rfl rfl ?_
  rcases tsw2_5 kind with c_19 | c_19 | c_19 | c_19 | c_19
  · refine g_tsIn (pc := 19) (tgt := 48) dX2_signOf_19 (by rw [c_19]; decide) (by rw [c_19]; decide) (by rw [c_19]; rfl) (by decide) ?_
    refine g_iload (pc := 48) dX2_signOf_48 0 rfl ?_
    refine g_bipush (pc := 50) (v := 100) dX2_signOf_50 (by decide) ?_
    refine g_iadd (pc := 52) dX2_signOf_52 ?_
    exact g_iret (pc := 53) hM rfl rfl ⟨rfl, some_int (by first | (rw [signF_out (by assumption)]) | (simp [signF, *]))⟩ dX2_signOf_53
  · refine g_tsIn (pc := 19) (tgt := 54) dX2_signOf_19 (by rw [c_19]; decide) (by rw [c_19]; decide) (by rw [c_19]; rfl) (by decide) ?_
    refine g_bipush (pc := 54) (v := 100) dX2_signOf_54 (by decide) ?_
    refine g_iload (pc := 56) dX2_signOf_56 0 rfl ?_
    refine g_isub (pc := 58) dX2_signOf_58 ?_
    exact g_iret (pc := 59) hM rfl rfl ⟨rfl, some_int (by first | (rw [signF_out (by assumption)]) | (simp [signF, *]))⟩ dX2_signOf_59
  · refine g_tsIn (pc := 19) (tgt := 63) dX2_signOf_19 (by rw [c_19]; decide) (by rw [c_19]; decide) (by rw [c_19]; rfl) (by decide) ?_
    refine g_iload (pc := 63) dX2_signOf_63 0 rfl ?_
    refine g_ineg (pc := 65) dX2_signOf_65 ?_
    exact g_iret (pc := 66) hM rfl rfl ⟨rfl, some_int (by first | (rw [signF_out (by assumption)]) | (simp [signF, *]))⟩ dX2_signOf_66
  · refine g_tsIn (pc := 19) (tgt := 60) dX2_signOf_19 (by rw [c_19]; decide) (by rw [c_19]; decide) (by rw [c_19]; rfl) (by decide) ?_
    refine g_iload (pc := 60) dX2_signOf_60 0 rfl ?_
    exact g_iret (pc := 62) hM rfl rfl ⟨rfl, some_int (by first | (rw [signF_out (by assumption)]) | (simp [signF, *]))⟩ dX2_signOf_62
  · refine g_tsOut (pc := 19) (tgt := 63) dX2_signOf_19 c_19 (by decide) ?_
    refine g_iload (pc := 63) dX2_signOf_63 0 rfl ?_
    refine g_ineg (pc := 65) dX2_signOf_65 ?_
    exact g_iret (pc := 66) hM rfl rfl ⟨rfl, some_int (by first | (rw [signF_out (by assumption)]) | (simp [signF, *]))⟩ dX2_signOf_66
set_option maxRecDepth 100000 in
set_option maxHeartbeats 4000000 in
theorem c_X2_ofLetter (E : En) (S : St) (c : Int32) : CTe E i_X2_ofLetter S [.int c] S (some (.int (letterF c))) := by
  refine ct_of [(0, .int c)] (by decide +kernel) (Nat.le_of_ble_eq_true rfl) rfl (fun X hM => ?_)
  refine g_iconst (pc := 0) (v := 0) dX2_ofLetter_0 (by decide) ?_
  refine g_istore_n (pc := 1) (L' := [(1, .int 0), (0, .int c)]) dX2_ofLetter_1 rfl (Nat.le_of_ble_eq_true rfl) rfl ?_
  have h9 : ∀ n : Nat, n < 6 → (∀ j, j < n → ¬ ltrI j = c) → ltrI n = c → nI n = letterF c := by
    intro n hn hno e
    have q0 := hno 0; have q1 := hno 1; have q2 := hno 2; have q3 := hno 3; have q4 := hno 4
    rcases (show n = 0 ∨ n = 1 ∨ n = 2 ∨ n = 3 ∨ n = 4 ∨ n = 5 by omega) with rfl | rfl | rfl | rfl | rfl | rfl <;> simp [ltrI] at q0 q1 q2 q3 q4 e <;> simp [letterF, *] <;> subst e <;> decide
  have h8 : (∀ j, j < 6 → ¬ ltrI j = c) → letterF c = -9 := by
    intro hno
    have q0 := hno 0; have q1 := hno 1; have q2 := hno 2; have q3 := hno 3; have q4 := hno 4; have q5 := hno 5
    simp [ltrI] at q0 q1 q2 q3 q4 q5
    simp [letterF, *]
  have H_2 : ∀ n : Nat, n ≤ 6 → (∀ j, j < n → ¬ ltrI j = c) → G E X i_X2_ofLetter S 2 [(0, .int c), (1, .int (nI n))] [] := by
    refine dn_ind 6 (fun n hn_2 ih_2 hno => ?_)
    refine g_iload_n (pc := 2) dX2_ofLetter_2 1 rfl rfl ?_
    refine g_letters (pc := 3) rfl dX2_ofLetter_3 ?_
    refine g_tlen (pc := 6) dX2_ofLetter_6 ?_
    refine g_icmp_ge (pc := 7) (tgt := 27) dX2_ofLetter_7 (by decide) (fun c_7 => ?_) (fun c_7 => ?_)
    · have k_7 := Int32.not_lt.mpr c_7
      have he : n = 6 := Nat.le_antisymm hn_2 (nle_of (N := 6) rfl rfl (by omega) (by omega) c_7)
      subst he
      refine g_bipush (pc := 27) (v := -9) dX2_ofLetter_27 (by decide) ?_
      exact g_iret (pc := 29) hM rfl rfl ⟨rfl, some_int (by rw [h8 hno])⟩ dX2_ofLetter_29
    · have k_7 := Int32.not_le.mp c_7
      have hlt_2 : n < 6 := nlt_of (N := 6) rfl rfl (by omega) (by omega) c_7
      refine g_letters (pc := 10) rfl dX2_ofLetter_10 ?_
      refine g_iload_n (pc := 13) dX2_ofLetter_13 1 rfl rfl ?_
      refine g_tald (pc := 14) n rfl (by omega) dX2_ofLetter_14 ?_
      refine g_iload_n (pc := 15) dX2_ofLetter_15 0 rfl rfl ?_
      refine g_icmp_ne (pc := 16) (tgt := 21) dX2_ofLetter_16 (by decide) (fun c_16 => ?_) (fun c_16 => ?_)
      · refine g_iinc (pc := 21) (L' := [(1, .int (nI n + 1)), (0, .int c)]) dX2_ofLetter_21 (k := 1) rfl (v := nI n + 1) rfl (Nat.le_of_ble_eq_true rfl) rfl ?_
        refine g_goto (pc := 24) (tgt := 2) dX2_ofLetter_24 (by decide) ?_
        refine g_sub (L' := [(0, .int c), (1, .int (nI n + 1))]) [1, 0] rfl ?_
        exact g_eq rfl (by simp only [nI_1]) rfl (ih_2 hlt_2 (fun j hj => by rcases Nat.lt_or_ge j n with q | q; exact hno j q; rw [show j = n by omega]; exact c_16))
      · refine g_iload_n (pc := 19) dX2_ofLetter_19 1 rfl rfl ?_
        exact g_iret (pc := 20) hM rfl rfl ⟨rfl, some_int (h9 n hlt_2 hno c_16)⟩ dX2_ofLetter_20
  refine g_sub (L' := [(0, .int c), (1, .int 0)]) [1, 0] rfl ?_
  exact H_2 0 (by omega) (fun j hj => absurd hj (by omega))
set_option maxRecDepth 100000 in
set_option maxHeartbeats 4000000 in
theorem c_X5_room (E : En) (S : St) (k : Nat) (hk : kd k = 3) : CTe E i_X5_room S [.ref (eA E k)] S (some (.int (nI (ln (k + 10))))) := by
  refine ct_of [(0, .ref (eA E k))] (by decide +kernel) (Nat.le_of_ble_eq_true rfl) rfl (fun X hM => ?_)
  refine g_aload_n (pc := 0) dX5_room_0 0 rfl rfl ?_
  refine gf_X5_19 (pc := 1) (by assumption) rfl dX5_room_1 ?_
  refine g_alen (pc := 4) (v := nI (ln (k + 10))) (kd_c (by assumption)) rfl dX5_room_4 ?_
  exact g_iret (pc := 5) hM rfl rfl ⟨rfl, rfl⟩ dX5_room_5
set_option maxRecDepth 100000 in
set_option maxHeartbeats 4000000 in
theorem c_X5_size (E : En) (S : St) (k : Nat) (hk : kd k = 3) : CTe E i_X5_size S [.ref (eA E k)] S (some (.int (gI S k 1))) := by
  refine ct_of [(0, .ref (eA E k))] (by decide +kernel) (Nat.le_of_ble_eq_true rfl) rfl (fun X hM => ?_)
  refine g_aload_n (pc := 0) dX5_size_0 0 rfl rfl ?_
  refine gf_X5_9 (pc := 1) (by assumption) rfl dX5_size_1 ?_
  exact g_iret (pc := 4) hM rfl rfl ⟨rfl, rfl⟩ dX5_size_4
set_option maxRecDepth 100000 in
set_option maxHeartbeats 4000000 in
theorem c_X5_isMissing (E : En) (S : St) (k : Nat) (hk : kd k = 3) : CTe E i_X5_isMissing S [.ref (eA E k)] S (some (.int (bI (misF S k)))) := by
  refine ct_of [(0, .ref (eA E k))] (by decide +kernel) (Nat.le_of_ble_eq_true rfl) rfl (fun X hM => ?_)
  refine g_aload_n (pc := 0) dX5_isMissing_0 0 rfl rfl ?_
  refine gf_X5_9 (pc := 1) (by assumption) rfl dX5_isMissing_1 ?_
  refine g_if_ge (pc := 4) (tgt := 11) dX5_isMissing_4 (by decide) (fun c_4 => ?_) (fun c_4 => ?_)
  · have k_4 := Int32.not_lt.mpr c_4
    refine g_iconst (pc := 11) (v := 0) dX5_isMissing_11 (by decide) ?_
    exact g_iret (pc := 12) hM rfl rfl ⟨rfl, some_int (by simp [misF, bI, *])⟩ dX5_isMissing_12
  · have k_4 := Int32.not_le.mp c_4
    refine g_iconst (pc := 7) (v := 1) dX5_isMissing_7 (by decide) ?_
    refine g_goto (pc := 8) (tgt := 12) dX5_isMissing_8 (by decide) ?_
    exact g_iret (pc := 12) hM rfl rfl ⟨rfl, some_int (by simp [misF, bI, *])⟩ dX5_isMissing_12
set_option maxRecDepth 100000 in
set_option maxHeartbeats 4000000 in
theorem c_X5_remove (E : En) (S : St) (k : Nat) (hk : kd k = 3) : CTe E i_X5_remove S [.ref (eA E k)] (sI S k 1 (-1)) none := by
  refine ct_of [(0, .ref (eA E k))] (by decide +kernel) (Nat.le_of_ble_eq_true rfl) rfl (fun X hM => ?_)
  refine g_aload_n (pc := 0) dX5_remove_0 0 rfl rfl ?_
  refine g_iconst (pc := 1) (v := -1) dX5_remove_1 (by decide) ?_
  refine pf_X5_9 (pc := 2) (by assumption) rfl dX5_remove_2 ?_
  exact g_vret (pc := 5) hM rfl ⟨rfl, rfl⟩ dX5_remove_5
set_option maxRecDepth 100000 in
set_option maxHeartbeats 4000000 in
theorem c_X5_holds (E : En) (S : St) (k : Nat) (i : Int32) (hk : kd k = 3) : CTe E i_X5_holds S [.ref (eA E k), .int i] S (some (.int (bI (holdsF S k i)))) := by
  refine ct_of [(0, .ref (eA E k)), (1, .int i)] (by decide +kernel) (Nat.le_of_ble_eq_true rfl) rfl (fun X hM => ?_)
  refine g_iload_n (pc := 0) dX5_holds_0 1 rfl rfl ?_
  refine g_if_lt (pc := 1) (tgt := 16) dX5_holds_1 (by decide) (fun c_1 => ?_) (fun c_1 => ?_)
  · have k_1 := Int32.not_le.mpr c_1
    refine g_iconst (pc := 16) (v := 0) dX5_holds_16 (by decide) ?_
    exact g_iret (pc := 17) hM rfl rfl ⟨rfl, some_int (by simp [holdsF, bI, *])⟩ dX5_holds_17
  · have k_1 := Int32.not_lt.mp c_1
    refine g_iload_n (pc := 4) dX5_holds_4 1 rfl rfl ?_
    refine g_aload_n (pc := 5) dX5_holds_5 0 rfl rfl ?_
    refine gf_X5_9 (pc := 6) (by assumption) rfl dX5_holds_6 ?_
    refine g_icmp_ge (pc := 9) (tgt := 16) dX5_holds_9 (by decide) (fun c_9 => ?_) (fun c_9 => ?_)
    · have k_9 := Int32.not_lt.mpr c_9
      refine g_iconst (pc := 16) (v := 0) dX5_holds_16 (by decide) ?_
      exact g_iret (pc := 17) hM rfl rfl ⟨rfl, some_int (by simp [holdsF, bI, *])⟩ dX5_holds_17
    · have k_9 := Int32.not_le.mp c_9
      refine g_iconst (pc := 12) (v := 1) dX5_holds_12 (by decide) ?_
      refine g_goto (pc := 13) (tgt := 17) dX5_holds_13 (by decide) ?_
      exact g_iret (pc := 17) hM rfl rfl ⟨rfl, some_int (by simp [holdsF, bI, *])⟩ dX5_holds_17
set_option maxRecDepth 100000 in
set_option maxHeartbeats 4000000 in
theorem c_X5_get (E : En) (S : St) (k : Nat) (i : Int32) (hk : kd k = 3) (hs : (gI S k 1).toInt ≤ (ln (k + 10) : Int)) : CTe E i_X5_get S [.ref (eA E k), .int i] S (some (.int (getF S k i))) := by
  refine ct_of [(0, .ref (eA E k)), (1, .int i)] (by decide +kernel) (Nat.le_of_ble_eq_true rfl) rfl (fun X hM => ?_)
  refine g_aload_n (pc := 0) dX5_get_0 0 rfl rfl ?_
  refine g_iload_n (pc := 1) dX5_get_1 1 rfl rfl ?_
  refine g_invV (pc := 2) j_X5_holds mw_X5_26 dX5_get_2 (rcv_X5 (by assumption)) (by rfl) (c_X5_holds E S k i (by assumption)) (Nat.le_of_ble_eq_true rfl) (Nat.le_of_ble_eq_true rfl) (by rfl) (Nat.le_of_ble_eq_true rfl) ?_
  refine g_b_eq (pc := 5) (tgt := 17) dX5_get_5 (by decide) (fun c_5 => ?_) (fun c_5 => ?_)
  · refine g_iconst (pc := 17) (v := 0) dX5_get_17 (by decide) ?_
    exact g_iret (pc := 18) hM rfl rfl ⟨rfl, some_int (by first | (rw [getF, if_pos c_5, hj3]; done) | (simp [getF, c_5]; done))⟩ dX5_get_18
  · obtain ⟨j, hj1, hj2, hj3, hj4⟩ := holds_nat hs c_5
    refine g_aload_n (pc := 8) dX5_get_8 0 rfl rfl ?_
    refine gf_X5_19 (pc := 9) (by assumption) rfl dX5_get_9 ?_
    refine g_iload_n (pc := 12) dX5_get_12 1 rfl rfl ?_
    refine g_iald (pc := 13) j hj1 (kd_c (by assumption)) hj2 (by have := ln_c hk; omega) dX5_get_13 ?_
    refine g_goto (pc := 14) (tgt := 18) dX5_get_14 (by decide) ?_
    exact g_iret (pc := 18) hM rfl rfl ⟨rfl, some_int (by first | (rw [getF, if_pos c_5, hj3]; done) | (simp [getF, c_5]; done))⟩ dX5_get_18
set_option maxRecDepth 100000 in
set_option maxHeartbeats 4000000 in
theorem c_X5_set (E : En) (S : St) (k : Nat) (i v : Int32) (hk : kd k = 3) (hs : (gI S k 1).toInt ≤ (ln (k + 10) : Int)) : CTe E i_X5_set S [.ref (eA E k), .int i, .int v] (setF S k i v) none := by
  refine ct_of [(0, .ref (eA E k)), (1, .int i), (2, .int v)] (by decide +kernel) (Nat.le_of_ble_eq_true rfl) rfl (fun X hM => ?_)
  refine g_aload_n (pc := 0) dX5_set_0 0 rfl rfl ?_
  refine g_iload_n (pc := 1) dX5_set_1 1 rfl rfl ?_
  refine g_invV (pc := 2) j_X5_holds mw_X5_26 dX5_set_2 (rcv_X5 (by assumption)) (by rfl) (c_X5_holds E S k i (by assumption)) (Nat.le_of_ble_eq_true rfl) (Nat.le_of_ble_eq_true rfl) (by rfl) (Nat.le_of_ble_eq_true rfl) ?_
  refine g_b_eq (pc := 5) (tgt := 15) dX5_set_5 (by decide) (fun c_5 => ?_) (fun c_5 => ?_)
  · exact g_vret (pc := 15) hM rfl ⟨by first | (rw [setF, if_pos c_5, hj3]; done) | (simp [setF, c_5]; done), rfl⟩ dX5_set_15
  · obtain ⟨j, hj1, hj2, hj3, hj4⟩ := holds_nat hs c_5
    refine g_aload_n (pc := 8) dX5_set_8 0 rfl rfl ?_
    refine gf_X5_19 (pc := 9) (by assumption) rfl dX5_set_9 ?_
    refine g_iload_n (pc := 12) dX5_set_12 1 rfl rfl ?_
    refine g_iload_n (pc := 13) dX5_set_13 2 rfl rfl ?_
    refine g_iast (pc := 14) j hj1 (kd_c (by assumption)) hj2 (by have := ln_c hk; omega) dX5_set_14 ?_
    exact g_vret (pc := 15) hM rfl ⟨by first | (rw [setF, if_pos c_5, hj3]; done) | (simp [setF, c_5]; done), rfl⟩ dX5_set_15
set_option maxRecDepth 100000 in
set_option maxHeartbeats 4000000 in
theorem c_X5_holdsRun (E : En) (S : St) (k : Nat) (a n : Int32) (hk : kd k = 3) : CTe E i_X5_holdsRun S [.ref (eA E k), .int a, .int n] S (some (.int (bI (runF S k a n)))) := by
  refine ct_of [(0, .ref (eA E k)), (1, .int a), (2, .int n)] (by decide +kernel) (Nat.le_of_ble_eq_true rfl) rfl (fun X hM => ?_)
  refine g_aload_n (pc := 0) dX5_holdsRun_0 0 rfl rfl ?_
  refine gf_X5_9 (pc := 1) (by assumption) rfl dX5_holdsRun_1 ?_
  refine g_if_lt (pc := 4) (tgt := 29) dX5_holdsRun_4 (by decide) (fun c_4 => ?_) (fun c_4 => ?_)
  · have k_4 := Int32.not_le.mpr c_4
    refine g_iconst (pc := 29) (v := 0) dX5_holdsRun_29 (by decide) ?_
    exact g_iret (pc := 30) hM rfl rfl ⟨rfl, some_int (by simp [runF, bI, Int32.not_lt.mpr, Int32.not_le.mp, *])⟩ dX5_holdsRun_30
  · have k_4 := Int32.not_lt.mp c_4
    refine g_iload_n (pc := 7) dX5_holdsRun_7 2 rfl rfl ?_
    refine g_if_lt (pc := 8) (tgt := 29) dX5_holdsRun_8 (by decide) (fun c_8 => ?_) (fun c_8 => ?_)
    · have k_8 := Int32.not_le.mpr c_8
      refine g_iconst (pc := 29) (v := 0) dX5_holdsRun_29 (by decide) ?_
      exact g_iret (pc := 30) hM rfl rfl ⟨rfl, some_int (by simp [runF, bI, Int32.not_lt.mpr, Int32.not_le.mp, *])⟩ dX5_holdsRun_30
    · have k_8 := Int32.not_lt.mp c_8
      refine g_iload_n (pc := 11) dX5_holdsRun_11 1 rfl rfl ?_
      refine g_if_lt (pc := 12) (tgt := 29) dX5_holdsRun_12 (by decide) (fun c_12 => ?_) (fun c_12 => ?_)
      · have k_12 := Int32.not_le.mpr c_12
        refine g_iconst (pc := 29) (v := 0) dX5_holdsRun_29 (by decide) ?_
        exact g_iret (pc := 30) hM rfl rfl ⟨rfl, some_int (by simp [runF, bI, Int32.not_lt.mpr, Int32.not_le.mp, *])⟩ dX5_holdsRun_30
      · have k_12 := Int32.not_lt.mp c_12
        refine g_iload_n (pc := 15) dX5_holdsRun_15 1 rfl rfl ?_
        refine g_aload_n (pc := 16) dX5_holdsRun_16 0 rfl rfl ?_
        refine gf_X5_9 (pc := 17) (by assumption) rfl dX5_holdsRun_17 ?_
        refine g_iload_n (pc := 20) dX5_holdsRun_20 2 rfl rfl ?_
        refine g_isub (pc := 21) dX5_holdsRun_21 ?_
        refine g_icmp_gt (pc := 22) (tgt := 29) dX5_holdsRun_22 (by decide) (fun c_22 => ?_) (fun c_22 => ?_)
        · have k_22 := Int32.not_le.mpr c_22
          refine g_iconst (pc := 29) (v := 0) dX5_holdsRun_29 (by decide) ?_
          exact g_iret (pc := 30) hM rfl rfl ⟨rfl, some_int (by simp [runF, bI, Int32.not_lt.mpr, Int32.not_le.mp, *])⟩ dX5_holdsRun_30
        · have k_22 := Int32.not_lt.mp c_22
          refine g_iconst (pc := 25) (v := 1) dX5_holdsRun_25 (by decide) ?_
          refine g_goto (pc := 26) (tgt := 30) dX5_holdsRun_26 (by decide) ?_
          exact g_iret (pc := 30) hM rfl rfl ⟨rfl, some_int (by simp [runF, bI, Int32.not_lt.mpr, Int32.not_le.mp, *])⟩ dX5_holdsRun_30
set_option maxRecDepth 100000 in
set_option maxHeartbeats 4000000 in
theorem c_X5_renew (E : En) (S : St) (k : Nat) (m : Nat) (v : Int32) (hk : kd k = 3) (hm : m ≤ ln (k + 10)) : CTe E i_X5_renew S [.ref (eA E k), .int (nI m), .int v] (sA (sI S k 1 (nI m)) (k + 10) (fillF (gA S (k + 10)) v m)) none := by
  have hL : ln (k + 10) < 2 ^ 31 := by have := ln_c hk; omega
  refine ct_of [(0, .ref (eA E k)), (1, .int (nI m)), (2, .int v)] (by decide +kernel) (Nat.le_of_ble_eq_true rfl) rfl (fun X hM => ?_)
  refine g_aload_n (pc := 0) dX5_renew_0 0 rfl rfl ?_
  refine g_iconst (pc := 1) (v := 0) dX5_renew_1 (by decide) ?_
  refine g_iload_n (pc := 2) dX5_renew_2 1 rfl rfl ?_
  refine g_aload_n (pc := 3) dX5_renew_3 0 rfl rfl ?_
  refine gf_X5_19 (pc := 4) (by assumption) rfl dX5_renew_4 ?_
  refine g_alen (pc := 7) (v := nI (ln (k + 10))) (kd_c (by assumption)) rfl dX5_renew_7 ?_
  refine g_min (pc := 8) mw_X5_23 dX5_renew_8 (Nat.le_of_ble_eq_true rfl) (Nat.le_of_ble_eq_true rfl) ?_
  refine g_max (pc := 11) mw_X5_13 dX5_renew_11 (Nat.le_of_ble_eq_true rfl) (Nat.le_of_ble_eq_true rfl) ?_
  refine pf_X5_9 (pc := 14) (by assumption) rfl dX5_renew_14 ?_
  refine g_iconst (pc := 17) (v := 0) dX5_renew_17 (by decide) ?_
  refine g_istore_n (pc := 18) (L' := [(3, .int 0), (0, .ref (eA E k)), (1, .int (nI m)), (2, .int v)]) dX5_renew_18 rfl (Nat.le_of_ble_eq_true rfl) rfl ?_
  have H_19 : ∀ n : Nat, n ≤ m → G E X i_X5_renew (sA (sI S k 1 (nI m)) (k + 10) (fillF (gA S (k + 10)) v n)) 19 [(0, .ref (eA E k)), (1, .int (nI m)), (2, .int v), (3, .int (nI n))] [] := by
    refine dn_ind m (fun n hn_19 ih_19 => ?_)
    refine g_iload_n (pc := 19) dX5_renew_19 3 rfl rfl ?_
    refine g_aload_n (pc := 20) dX5_renew_20 0 rfl rfl ?_
    refine gf_X5_9 (pc := 21) (by assumption) rfl dX5_renew_21 ?_
    refine g_icmp_ge (pc := 24) (tgt := 40) dX5_renew_24 (by decide) (fun c_24 => ?_) (fun c_24 => ?_)
    · have k_24 := Int32.not_lt.mpr c_24
      have he_19 : n = m := Nat.le_antisymm hn_19 (by exact nle_of (N := m) rfl (by rw [gI_sA, gI_same]) (by omega) (by omega) c_24)
      rw [he_19]
      exact g_vret (pc := 40) hM rfl ⟨rfl, rfl⟩ dX5_renew_40
    · have k_24 := Int32.not_le.mp c_24
      have hlt_19 : n < m := by exact nlt_of (N := m) rfl (by rw [gI_sA, gI_same]) (by omega) (by omega) c_24
      refine g_aload_n (pc := 27) dX5_renew_27 0 rfl rfl ?_
      refine gf_X5_19 (pc := 28) (by assumption) rfl dX5_renew_28 ?_
      refine g_iload_n (pc := 31) dX5_renew_31 3 rfl rfl ?_
      refine g_iload_n (pc := 32) dX5_renew_32 2 rfl rfl ?_
      refine g_iast (pc := 33) n rfl (kd_c (by assumption)) (by omega) hL dX5_renew_33 ?_
      refine g_iinc (pc := 34) (L' := [(3, .int (nI n + 1)), (0, .ref (eA E k)), (1, .int (nI m)), (2, .int v)]) dX5_renew_34 (k := 3) rfl (v := nI n + 1) rfl (Nat.le_of_ble_eq_true rfl) rfl ?_
      refine g_goto (pc := 37) (tgt := 19) dX5_renew_37 (by decide) ?_
      refine g_sub (L' := [(0, .ref (eA E k)), (1, .int (nI m)), (2, .int v), (3, .int (nI n + 1))]) [1, 2, 3, 0] rfl ?_
      exact g_eq (by rw [sA_sA, gA_same, fillF_s]) (by simp only [nI_1]) rfl (ih_19 hlt_19)
  refine g_sub (L' := [(0, .ref (eA E k)), (1, .int (nI m)), (2, .int v), (3, .int 0)]) [1, 2, 3, 0] rfl ?_
  exact g_eq (by rw [fillF_0, ← gA_sI S k 1 (nI m), sA_self, clampM hm hL]) rfl rfl (H_19 0 (Nat.zero_le _))
set_option maxRecDepth 100000 in
set_option maxHeartbeats 4000000 in
theorem c_X5_total (E : En) (S : St) (k : Nat) (m : Nat) (hk : kd k = 3) (hm : gI S k 1 = nI m) (hm2 : m ≤ ln (k + 10)) : CTe E i_X5_total S [.ref (eA E k)] S (some (.long (sumL (gA S (k + 10)) m))) := by
  have hL : ln (k + 10) < 2 ^ 31 := by have := ln_c hk; omega
  refine ct_of [(0, .ref (eA E k))] (by decide +kernel) (Nat.le_of_ble_eq_true rfl) rfl (fun X hM => ?_)
  refine g_lconst (pc := 0) (v := 0) dX5_total_0 (by decide) ?_
  refine g_lstore_n (pc := 1) (L' := [(1, .long 0), (0, .ref (eA E k))]) dX5_total_1 rfl (Nat.le_of_ble_eq_true rfl) rfl ?_
  refine g_iconst (pc := 2) (v := 0) dX5_total_2 (by decide) ?_
  refine g_istore_n (pc := 3) (L' := [(3, .int 0), (1, .long 0), (0, .ref (eA E k))]) dX5_total_3 rfl (Nat.le_of_ble_eq_true rfl) rfl ?_
  have H_4 : ∀ n : Nat, n ≤ m → G E X i_X5_total S 4 [(0, .ref (eA E k)), (1, .long (sumL (gA S (k + 10)) n)), (3, .int (nI n))] [] := by
    refine dn_ind m (fun n hn_4 ih_4 => ?_)
    refine g_iload_n (pc := 4) dX5_total_4 2 rfl rfl ?_
    refine g_aload_n (pc := 5) dX5_total_5 0 rfl rfl ?_
    refine gf_X5_9 (pc := 6) (by assumption) rfl dX5_total_6 ?_
    refine g_icmp_ge (pc := 9) (tgt := 28) dX5_total_9 (by decide) (fun c_9 => ?_) (fun c_9 => ?_)
    · have k_9 := Int32.not_lt.mpr c_9
      have he_4 : n = m := Nat.le_antisymm hn_4 (by exact nle_of (N := m) rfl hm (by omega) (by omega) c_9)
      rw [he_4]
      refine g_lload_n (pc := 28) dX5_total_28 1 rfl rfl ?_
      exact g_lret (pc := 29) hM rfl ⟨rfl, rfl⟩ dX5_total_29
    · have k_9 := Int32.not_le.mp c_9
      have hlt_4 : n < m := by exact nlt_of (N := m) rfl hm (by omega) (by omega) c_9
      refine g_lload_n (pc := 12) dX5_total_12 1 rfl rfl ?_
      refine g_aload_n (pc := 13) dX5_total_13 0 rfl rfl ?_
      refine gf_X5_19 (pc := 14) (by assumption) rfl dX5_total_14 ?_
      refine g_iload_n (pc := 17) dX5_total_17 2 rfl rfl ?_
      refine g_iald (pc := 18) n rfl (kd_c (by assumption)) (by omega) hL dX5_total_18 ?_
      refine g_i2l (pc := 19) dX5_total_19 ?_
      refine g_ladd (pc := 20) dX5_total_20 ?_
      refine g_lstore_n (pc := 21) (L' := [(1, .long (sumL (gA S (k + 10)) n + (gA S (k + 10) n).toInt64)), (0, .ref (eA E k)), (3, .int (nI n))]) dX5_total_21 rfl (Nat.le_of_ble_eq_true rfl) rfl ?_
      refine g_iinc (pc := 22) (L' := [(3, .int (nI n + 1)), (1, .long (sumL (gA S (k + 10)) n + (gA S (k + 10) n).toInt64)), (0, .ref (eA E k))]) dX5_total_22 (k := 2) rfl (v := nI n + 1) rfl (Nat.le_of_ble_eq_true rfl) rfl ?_
      refine g_goto (pc := 25) (tgt := 4) dX5_total_25 (by decide) ?_
      refine g_sub (L' := [(0, .ref (eA E k)), (1, .long (sumL (gA S (k + 10)) n + (gA S (k + 10) n).toInt64)), (3, .int (nI n + 1))]) [2, 1, 0] rfl ?_
      exact g_eq rfl (by simp only [nI_1, sumL]) rfl (ih_4 hlt_4)
  refine g_sub (L' := [(0, .ref (eA E k)), (1, .long 0), (3, .int 0)]) [2, 1, 0] rfl ?_
  exact g_eq rfl rfl rfl (H_4 0 (Nat.zero_le _))
