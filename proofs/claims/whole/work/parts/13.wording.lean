/-! WORDING, WAYS: what they answer, and their contracts -/
def isFigF (S : St) (k : Nat) (s p : Int32) : Bool := !decide (getF S k (s + p) - 48 < 0) && !decide ((if 2 < p then 10 else 6) ≤ getF S k (s + p) - 48) && !(decide (p = 2) && decide (getF S k (s + p) - 48 = getF S k (s + 1) - 48))
def itR (S : St) (k s : Nat) : Nat → Nat → Int32
  | 0, _ => -9
  | f + 1, n => if gI S k 1 ≤ nI (s + 1 + n) then gI S k 1 else if isFigF S k (nI s) (nI (s + 1 + n) - nI s) then itR S k s f (n + 1) else nI (s + 1 + n)
def itemF (S : St) (k s : Nat) : Int32 := if letterF (getF S k (nI s)) = -9 then nI s else itR S k s 4 0
def ffR (S : St) (k : Nat) : Nat → Nat → Nat → Int32
  | 0, _, _ => 0
  | f + 1, i, l => if gI S k 1 ≤ nI i then (if nI l = 0 then gI S k 1 else -9) else if getF S k (nI i) = 32 then ffR S k f (i + 1) l else if (if nI l < 8 then itemF S k i else nI i) = -9 then ffR S k f (i + 5) (l + 1) else (if nI l < 8 then itemF S k i else nI i)
def addS (S : St) (b k i : Nat) : St := if gI S b 6 < 8 then addF S b (letterF (getF S k (nI i))) (getF S k (nI i + 1) - 48) (getF S k (nI i + 2) - 48) (getF S k (nI i + 3) - 48) (getF S k (nI i + 4) - 48) else S
def rdR (b k : Nat) : Nat → Nat → St → St
  | 0, _, S => S
  | f + 1, i, S => if gI S k 1 ≤ nI i then S else if getF S k (nI i) = 32 then rdR b k f (i + 1) S else rdR b k f (i + 5) (addS S b k i)
set_option maxRecDepth 100000 in
set_option maxHeartbeats 4000000 in
theorem c_X7_figureAt (E : En) (S : St) (k : Nat) (i : Int32) (hk : kd k = 3) (hs : (gI S k 1).toInt ≤ (ln (k + 10) : Int)) : CTe E i_X7_figureAt S [.ref (eA E k), .int i] S (some (.int (getF S k i - 48))) := by
  refine ct_of [(0, .ref (eA E k)), (1, .int i)] (by decide +kernel) (Nat.le_of_ble_eq_true rfl) rfl (fun X hM => ?_)
  refine g_aload_n (pc := 0) dX7_figureAt_0 0 rfl rfl ?_
  refine g_iload_n (pc := 1) dX7_figureAt_1 1 rfl rfl ?_
  refine g_invV (pc := 2) j_X5_get mw_X7_15 dX7_figureAt_2 (rcv_X5 (by assumption)) (by rfl) (c_X5_get E S k i (by assumption) (by first | assumption | omega | rfl)) (Nat.le_of_ble_eq_true rfl) (Nat.le_of_ble_eq_true rfl) (by rfl) (Nat.le_of_ble_eq_true rfl) ?_
  refine g_bipush (pc := 5) (v := 48) dX7_figureAt_5 (by decide) ?_
  refine g_isub (pc := 7) dX7_figureAt_7 ?_
  exact g_iret (pc := 8) hM rfl rfl ⟨rfl, rfl⟩ dX7_figureAt_8
set_option maxRecDepth 100000 in
set_option maxHeartbeats 4000000 in
theorem c_X7_isFigureOf (E : En) (S : St) (k : Nat) (s p : Int32) (hk : kd k = 3) (hs : (gI S k 1).toInt ≤ (ln (k + 10) : Int)) : CTe E i_X7_isFigureOf S [.ref (eA E k), .int s, .int p] S (some (.int (bI (isFigF S k s p)))) := by
  refine ct_of [(0, .ref (eA E k)), (1, .int s), (2, .int p)] (by decide +kernel) (Nat.le_of_ble_eq_true rfl) rfl (fun X hM => ?_)
  refine g_aload_n (pc := 0) dX7_isFigureOf_0 0 rfl rfl ?_
  refine g_iload_n (pc := 1) dX7_isFigureOf_1 1 rfl rfl ?_
  refine g_iload_n (pc := 2) dX7_isFigureOf_2 2 rfl rfl ?_
  refine g_iadd (pc := 3) dX7_isFigureOf_3 ?_
  refine g_invS (pc := 4) j_X7_figureAt mw_X7_34 dX7_isFigureOf_4 (by rfl) (c_X7_figureAt E S k (s + p) (by assumption) (by first | assumption | omega | rfl)) (Nat.le_of_ble_eq_true rfl) (Nat.le_of_ble_eq_true rfl) (by rfl) (Nat.le_of_ble_eq_true rfl) ?_
  refine g_istore_n (pc := 7) (L' := [(3, .int (getF S k (s + p) - 48)), (0, .ref (eA E k)), (1, .int s), (2, .int p)]) dX7_isFigureOf_7 rfl (Nat.le_of_ble_eq_true rfl) rfl ?_
  refine g_iload_n (pc := 8) dX7_isFigureOf_8 3 rfl rfl ?_
  refine g_iconst (pc := 9) (v := 2) dX7_isFigureOf_9 (by decide) ?_
  refine g_icmp_gt (pc := 10) (tgt := 18) dX7_isFigureOf_10 (by decide) (fun c_10 => ?_) (fun c_10 => ?_)
  · have k_10 := Int32.not_le.mpr c_10
    refine g_bipush (pc := 18) (v := 10) dX7_isFigureOf_18 (by decide) ?_
    refine g_istore (pc := 20) (L' := [(4, .int 10), (3, .int (getF S k (s + p) - 48)), (0, .ref (eA E k)), (1, .int s), (2, .int p)]) dX7_isFigureOf_20 (Nat.le_of_ble_eq_true rfl) rfl ?_
    refine g_iload_n (pc := 22) dX7_isFigureOf_22 4 rfl rfl ?_
    refine g_iconst (pc := 23) (v := 2) dX7_isFigureOf_23 (by decide) ?_
    refine g_icmp_ne (pc := 24) (tgt := 42) dX7_isFigureOf_24 (by decide) (fun c_24 => ?_) (fun c_24 => ?_)
    · refine g_iconst (pc := 42) (v := 0) dX7_isFigureOf_42 (by decide) ?_
      refine g_istore (pc := 43) (L' := [(5, .int 0), (4, .int 10), (3, .int (getF S k (s + p) - 48)), (0, .ref (eA E k)), (1, .int s), (2, .int p)]) dX7_isFigureOf_43 (Nat.le_of_ble_eq_true rfl) rfl ?_
      refine g_iload_n (pc := 45) dX7_isFigureOf_45 2 rfl rfl ?_
      refine g_if_lt (pc := 46) (tgt := 64) dX7_isFigureOf_46 (by decide) (fun c_46 => ?_) (fun c_46 => ?_)
      · have k_46 := Int32.not_le.mpr c_46
        refine g_iconst (pc := 64) (v := 0) dX7_isFigureOf_64 (by decide) ?_
        exact g_iret (pc := 65) hM rfl rfl ⟨rfl, some_int (by simp only [isFigF, bI, c_10, k_10, c_24, c_46, k_46, if_true, if_false, decide_true, decide_false, Bool.not_true, Bool.not_false, Bool.and_true, Bool.true_and, Bool.and_false, Bool.false_and, Bool.false_eq_true, show ¬ (2 : Int32) < 2 from by decide])⟩ dX7_isFigureOf_65
      · have k_46 := Int32.not_lt.mp c_46
        refine g_iload_n (pc := 49) dX7_isFigureOf_49 2 rfl rfl ?_
        refine g_iload (pc := 50) dX7_isFigureOf_50 1 rfl ?_
        refine g_icmp_ge (pc := 52) (tgt := 64) dX7_isFigureOf_52 (by decide) (fun c_52 => ?_) (fun c_52 => ?_)
        · have k_52 := Int32.not_lt.mpr c_52
          refine g_iconst (pc := 64) (v := 0) dX7_isFigureOf_64 (by decide) ?_
          exact g_iret (pc := 65) hM rfl rfl ⟨rfl, some_int (by simp only [isFigF, bI, c_10, k_10, c_24, c_46, k_46, c_52, k_52, if_true, if_false, decide_true, decide_false, Bool.not_true, Bool.not_false, Bool.and_true, Bool.true_and, Bool.and_false, Bool.false_and, Bool.false_eq_true, show ¬ (2 : Int32) < 2 from by decide])⟩ dX7_isFigureOf_65
        · have k_52 := Int32.not_le.mp c_52
          refine g_iload (pc := 55) dX7_isFigureOf_55 0 rfl ?_
          refine g_if_ne (pc := 57) (tgt := 64) dX7_isFigureOf_57 (by decide) (fun c_57 => ?_) (fun c_57 => ?_)
          · exact absurd c_57 (by decide)
          · refine g_iconst (pc := 60) (v := 1) dX7_isFigureOf_60 (by decide) ?_
            refine g_goto (pc := 61) (tgt := 65) dX7_isFigureOf_61 (by decide) ?_
            exact g_iret (pc := 65) hM rfl rfl ⟨rfl, some_int (by simp only [isFigF, bI, c_10, k_10, c_24, c_46, k_46, c_52, k_52, if_true, if_false, decide_true, decide_false, Bool.not_true, Bool.not_false, Bool.and_true, Bool.true_and, Bool.and_false, Bool.false_and, Bool.false_eq_true, show ¬ (2 : Int32) < 2 from by decide])⟩ dX7_isFigureOf_65
    · refine g_iload_n (pc := 27) dX7_isFigureOf_27 1 rfl rfl ?_
      refine g_aload_n (pc := 28) dX7_isFigureOf_28 2 rfl rfl ?_
      refine g_iload_n (pc := 29) dX7_isFigureOf_29 3 rfl rfl ?_
      refine g_iconst (pc := 30) (v := 1) dX7_isFigureOf_30 (by decide) ?_
      refine g_iadd (pc := 31) dX7_isFigureOf_31 ?_
      refine g_invS (pc := 32) j_X7_figureAt mw_X7_34 dX7_isFigureOf_32 (by rfl) (c_X7_figureAt E S k (s + 1) (by assumption) (by first | assumption | omega | rfl)) (Nat.le_of_ble_eq_true rfl) (Nat.le_of_ble_eq_true rfl) (by rfl) (Nat.le_of_ble_eq_true rfl) ?_
      refine g_icmp_ne (pc := 35) (tgt := 42) dX7_isFigureOf_35 (by decide) (fun c_35 => ?_) (fun c_35 => ?_)
      · refine g_iconst (pc := 42) (v := 0) dX7_isFigureOf_42 (by decide) ?_
        refine g_istore (pc := 43) (L' := [(5, .int 0), (4, .int 10), (3, .int (getF S k (s + p) - 48)), (0, .ref (eA E k)), (1, .int s), (2, .int p)]) dX7_isFigureOf_43 (Nat.le_of_ble_eq_true rfl) rfl ?_
        refine g_iload_n (pc := 45) dX7_isFigureOf_45 2 rfl rfl ?_
        refine g_if_lt (pc := 46) (tgt := 64) dX7_isFigureOf_46 (by decide) (fun c_46 => ?_) (fun c_46 => ?_)
        · have k_46 := Int32.not_le.mpr c_46
          refine g_iconst (pc := 64) (v := 0) dX7_isFigureOf_64 (by decide) ?_
          exact g_iret (pc := 65) hM rfl rfl ⟨rfl, some_int (by simp only [isFigF, bI, c_10, k_10, eq_true c_24, c_35, c_46, k_46, if_true, if_false, decide_true, decide_false, Bool.not_true, Bool.not_false, Bool.and_true, Bool.true_and, Bool.and_false, Bool.false_and, Bool.false_eq_true, show ¬ (2 : Int32) < 2 from by decide])⟩ dX7_isFigureOf_65
        · have k_46 := Int32.not_lt.mp c_46
          refine g_iload_n (pc := 49) dX7_isFigureOf_49 2 rfl rfl ?_
          refine g_iload (pc := 50) dX7_isFigureOf_50 1 rfl ?_
          refine g_icmp_ge (pc := 52) (tgt := 64) dX7_isFigureOf_52 (by decide) (fun c_52 => ?_) (fun c_52 => ?_)
          · have k_52 := Int32.not_lt.mpr c_52
            refine g_iconst (pc := 64) (v := 0) dX7_isFigureOf_64 (by decide) ?_
            exact g_iret (pc := 65) hM rfl rfl ⟨rfl, some_int (by simp only [isFigF, bI, c_10, k_10, eq_true c_24, c_35, c_46, k_46, c_52, k_52, if_true, if_false, decide_true, decide_false, Bool.not_true, Bool.not_false, Bool.and_true, Bool.true_and, Bool.and_false, Bool.false_and, Bool.false_eq_true, show ¬ (2 : Int32) < 2 from by decide])⟩ dX7_isFigureOf_65
          · have k_52 := Int32.not_le.mp c_52
            refine g_iload (pc := 55) dX7_isFigureOf_55 0 rfl ?_
            refine g_if_ne (pc := 57) (tgt := 64) dX7_isFigureOf_57 (by decide) (fun c_57 => ?_) (fun c_57 => ?_)
            · exact absurd c_57 (by decide)
            · refine g_iconst (pc := 60) (v := 1) dX7_isFigureOf_60 (by decide) ?_
              refine g_goto (pc := 61) (tgt := 65) dX7_isFigureOf_61 (by decide) ?_
              exact g_iret (pc := 65) hM rfl rfl ⟨rfl, some_int (by simp only [isFigF, bI, c_10, k_10, eq_true c_24, c_35, c_46, k_46, c_52, k_52, if_true, if_false, decide_true, decide_false, Bool.not_true, Bool.not_false, Bool.and_true, Bool.true_and, Bool.and_false, Bool.false_and, Bool.false_eq_true, show ¬ (2 : Int32) < 2 from by decide])⟩ dX7_isFigureOf_65
      · refine g_iconst (pc := 38) (v := 1) dX7_isFigureOf_38 (by decide) ?_
        refine g_goto (pc := 39) (tgt := 43) dX7_isFigureOf_39 (by decide) ?_
        refine g_istore (pc := 43) (L' := [(5, .int 1), (4, .int 10), (3, .int (getF S k (s + p) - 48)), (0, .ref (eA E k)), (1, .int s), (2, .int p)]) dX7_isFigureOf_43 (Nat.le_of_ble_eq_true rfl) rfl ?_
        refine g_iload_n (pc := 45) dX7_isFigureOf_45 2 rfl rfl ?_
        refine g_if_lt (pc := 46) (tgt := 64) dX7_isFigureOf_46 (by decide) (fun c_46 => ?_) (fun c_46 => ?_)
        · have k_46 := Int32.not_le.mpr c_46
          refine g_iconst (pc := 64) (v := 0) dX7_isFigureOf_64 (by decide) ?_
          exact g_iret (pc := 65) hM rfl rfl ⟨rfl, some_int (by simp only [isFigF, bI, c_10, k_10, eq_true c_24, eq_true c_35, c_46, k_46, if_true, if_false, decide_true, decide_false, Bool.not_true, Bool.not_false, Bool.and_true, Bool.true_and, Bool.and_false, Bool.false_and, Bool.false_eq_true, show ¬ (2 : Int32) < 2 from by decide])⟩ dX7_isFigureOf_65
        · have k_46 := Int32.not_lt.mp c_46
          refine g_iload_n (pc := 49) dX7_isFigureOf_49 2 rfl rfl ?_
          refine g_iload (pc := 50) dX7_isFigureOf_50 1 rfl ?_
          refine g_icmp_ge (pc := 52) (tgt := 64) dX7_isFigureOf_52 (by decide) (fun c_52 => ?_) (fun c_52 => ?_)
          · have k_52 := Int32.not_lt.mpr c_52
            refine g_iconst (pc := 64) (v := 0) dX7_isFigureOf_64 (by decide) ?_
            exact g_iret (pc := 65) hM rfl rfl ⟨rfl, some_int (by simp only [isFigF, bI, c_10, k_10, eq_true c_24, eq_true c_35, c_46, k_46, c_52, k_52, if_true, if_false, decide_true, decide_false, Bool.not_true, Bool.not_false, Bool.and_true, Bool.true_and, Bool.and_false, Bool.false_and, Bool.false_eq_true, show ¬ (2 : Int32) < 2 from by decide])⟩ dX7_isFigureOf_65
          · have k_52 := Int32.not_le.mp c_52
            refine g_iload (pc := 55) dX7_isFigureOf_55 0 rfl ?_
            refine g_if_ne (pc := 57) (tgt := 64) dX7_isFigureOf_57 (by decide) (fun c_57 => ?_) (fun c_57 => ?_)
            · refine g_iconst (pc := 64) (v := 0) dX7_isFigureOf_64 (by decide) ?_
              exact g_iret (pc := 65) hM rfl rfl ⟨rfl, some_int (by simp only [isFigF, bI, c_10, k_10, eq_true c_24, eq_true c_35, c_46, k_46, c_52, k_52, if_true, if_false, decide_true, decide_false, Bool.not_true, Bool.not_false, Bool.and_true, Bool.true_and, Bool.and_false, Bool.false_and, Bool.false_eq_true, show ¬ (2 : Int32) < 2 from by decide])⟩ dX7_isFigureOf_65
            · exact absurd c_57 (by decide)
  · have k_10 := Int32.not_lt.mp c_10
    refine g_bipush (pc := 13) (v := 6) dX7_isFigureOf_13 (by decide) ?_
    refine g_goto (pc := 15) (tgt := 20) dX7_isFigureOf_15 (by decide) ?_
    refine g_istore (pc := 20) (L' := [(4, .int 6), (3, .int (getF S k (s + p) - 48)), (0, .ref (eA E k)), (1, .int s), (2, .int p)]) dX7_isFigureOf_20 (Nat.le_of_ble_eq_true rfl) rfl ?_
    refine g_iload_n (pc := 22) dX7_isFigureOf_22 4 rfl rfl ?_
    refine g_iconst (pc := 23) (v := 2) dX7_isFigureOf_23 (by decide) ?_
    refine g_icmp_ne (pc := 24) (tgt := 42) dX7_isFigureOf_24 (by decide) (fun c_24 => ?_) (fun c_24 => ?_)
    · refine g_iconst (pc := 42) (v := 0) dX7_isFigureOf_42 (by decide) ?_
      refine g_istore (pc := 43) (L' := [(5, .int 0), (4, .int 6), (3, .int (getF S k (s + p) - 48)), (0, .ref (eA E k)), (1, .int s), (2, .int p)]) dX7_isFigureOf_43 (Nat.le_of_ble_eq_true rfl) rfl ?_
      refine g_iload_n (pc := 45) dX7_isFigureOf_45 2 rfl rfl ?_
      refine g_if_lt (pc := 46) (tgt := 64) dX7_isFigureOf_46 (by decide) (fun c_46 => ?_) (fun c_46 => ?_)
      · have k_46 := Int32.not_le.mpr c_46
        refine g_iconst (pc := 64) (v := 0) dX7_isFigureOf_64 (by decide) ?_
        exact g_iret (pc := 65) hM rfl rfl ⟨rfl, some_int (by simp only [isFigF, bI, c_10, k_10, c_24, c_46, k_46, if_true, if_false, decide_true, decide_false, Bool.not_true, Bool.not_false, Bool.and_true, Bool.true_and, Bool.and_false, Bool.false_and, Bool.false_eq_true, show ¬ (2 : Int32) < 2 from by decide])⟩ dX7_isFigureOf_65
      · have k_46 := Int32.not_lt.mp c_46
        refine g_iload_n (pc := 49) dX7_isFigureOf_49 2 rfl rfl ?_
        refine g_iload (pc := 50) dX7_isFigureOf_50 1 rfl ?_
        refine g_icmp_ge (pc := 52) (tgt := 64) dX7_isFigureOf_52 (by decide) (fun c_52 => ?_) (fun c_52 => ?_)
        · have k_52 := Int32.not_lt.mpr c_52
          refine g_iconst (pc := 64) (v := 0) dX7_isFigureOf_64 (by decide) ?_
          exact g_iret (pc := 65) hM rfl rfl ⟨rfl, some_int (by simp only [isFigF, bI, c_10, k_10, c_24, c_46, k_46, c_52, k_52, if_true, if_false, decide_true, decide_false, Bool.not_true, Bool.not_false, Bool.and_true, Bool.true_and, Bool.and_false, Bool.false_and, Bool.false_eq_true, show ¬ (2 : Int32) < 2 from by decide])⟩ dX7_isFigureOf_65
        · have k_52 := Int32.not_le.mp c_52
          refine g_iload (pc := 55) dX7_isFigureOf_55 0 rfl ?_
          refine g_if_ne (pc := 57) (tgt := 64) dX7_isFigureOf_57 (by decide) (fun c_57 => ?_) (fun c_57 => ?_)
          · exact absurd c_57 (by decide)
          · refine g_iconst (pc := 60) (v := 1) dX7_isFigureOf_60 (by decide) ?_
            refine g_goto (pc := 61) (tgt := 65) dX7_isFigureOf_61 (by decide) ?_
            exact g_iret (pc := 65) hM rfl rfl ⟨rfl, some_int (by simp only [isFigF, bI, c_10, k_10, c_24, c_46, k_46, c_52, k_52, if_true, if_false, decide_true, decide_false, Bool.not_true, Bool.not_false, Bool.and_true, Bool.true_and, Bool.and_false, Bool.false_and, Bool.false_eq_true, show ¬ (2 : Int32) < 2 from by decide])⟩ dX7_isFigureOf_65
    · refine g_iload_n (pc := 27) dX7_isFigureOf_27 1 rfl rfl ?_
      refine g_aload_n (pc := 28) dX7_isFigureOf_28 2 rfl rfl ?_
      refine g_iload_n (pc := 29) dX7_isFigureOf_29 3 rfl rfl ?_
      refine g_iconst (pc := 30) (v := 1) dX7_isFigureOf_30 (by decide) ?_
      refine g_iadd (pc := 31) dX7_isFigureOf_31 ?_
      refine g_invS (pc := 32) j_X7_figureAt mw_X7_34 dX7_isFigureOf_32 (by rfl) (c_X7_figureAt E S k (s + 1) (by assumption) (by first | assumption | omega | rfl)) (Nat.le_of_ble_eq_true rfl) (Nat.le_of_ble_eq_true rfl) (by rfl) (Nat.le_of_ble_eq_true rfl) ?_
      refine g_icmp_ne (pc := 35) (tgt := 42) dX7_isFigureOf_35 (by decide) (fun c_35 => ?_) (fun c_35 => ?_)
      · refine g_iconst (pc := 42) (v := 0) dX7_isFigureOf_42 (by decide) ?_
        refine g_istore (pc := 43) (L' := [(5, .int 0), (4, .int 6), (3, .int (getF S k (s + p) - 48)), (0, .ref (eA E k)), (1, .int s), (2, .int p)]) dX7_isFigureOf_43 (Nat.le_of_ble_eq_true rfl) rfl ?_
        refine g_iload_n (pc := 45) dX7_isFigureOf_45 2 rfl rfl ?_
        refine g_if_lt (pc := 46) (tgt := 64) dX7_isFigureOf_46 (by decide) (fun c_46 => ?_) (fun c_46 => ?_)
        · have k_46 := Int32.not_le.mpr c_46
          refine g_iconst (pc := 64) (v := 0) dX7_isFigureOf_64 (by decide) ?_
          exact g_iret (pc := 65) hM rfl rfl ⟨rfl, some_int (by simp only [isFigF, bI, c_10, k_10, eq_true c_24, c_35, c_46, k_46, if_true, if_false, decide_true, decide_false, Bool.not_true, Bool.not_false, Bool.and_true, Bool.true_and, Bool.and_false, Bool.false_and, Bool.false_eq_true, show ¬ (2 : Int32) < 2 from by decide])⟩ dX7_isFigureOf_65
        · have k_46 := Int32.not_lt.mp c_46
          refine g_iload_n (pc := 49) dX7_isFigureOf_49 2 rfl rfl ?_
          refine g_iload (pc := 50) dX7_isFigureOf_50 1 rfl ?_
          refine g_icmp_ge (pc := 52) (tgt := 64) dX7_isFigureOf_52 (by decide) (fun c_52 => ?_) (fun c_52 => ?_)
          · have k_52 := Int32.not_lt.mpr c_52
            refine g_iconst (pc := 64) (v := 0) dX7_isFigureOf_64 (by decide) ?_
            exact g_iret (pc := 65) hM rfl rfl ⟨rfl, some_int (by simp only [isFigF, bI, c_10, k_10, eq_true c_24, c_35, c_46, k_46, c_52, k_52, if_true, if_false, decide_true, decide_false, Bool.not_true, Bool.not_false, Bool.and_true, Bool.true_and, Bool.and_false, Bool.false_and, Bool.false_eq_true, show ¬ (2 : Int32) < 2 from by decide])⟩ dX7_isFigureOf_65
          · have k_52 := Int32.not_le.mp c_52
            refine g_iload (pc := 55) dX7_isFigureOf_55 0 rfl ?_
            refine g_if_ne (pc := 57) (tgt := 64) dX7_isFigureOf_57 (by decide) (fun c_57 => ?_) (fun c_57 => ?_)
            · exact absurd c_57 (by decide)
            · refine g_iconst (pc := 60) (v := 1) dX7_isFigureOf_60 (by decide) ?_
              refine g_goto (pc := 61) (tgt := 65) dX7_isFigureOf_61 (by decide) ?_
              exact g_iret (pc := 65) hM rfl rfl ⟨rfl, some_int (by simp only [isFigF, bI, c_10, k_10, eq_true c_24, c_35, c_46, k_46, c_52, k_52, if_true, if_false, decide_true, decide_false, Bool.not_true, Bool.not_false, Bool.and_true, Bool.true_and, Bool.and_false, Bool.false_and, Bool.false_eq_true, show ¬ (2 : Int32) < 2 from by decide])⟩ dX7_isFigureOf_65
      · refine g_iconst (pc := 38) (v := 1) dX7_isFigureOf_38 (by decide) ?_
        refine g_goto (pc := 39) (tgt := 43) dX7_isFigureOf_39 (by decide) ?_
        refine g_istore (pc := 43) (L' := [(5, .int 1), (4, .int 6), (3, .int (getF S k (s + p) - 48)), (0, .ref (eA E k)), (1, .int s), (2, .int p)]) dX7_isFigureOf_43 (Nat.le_of_ble_eq_true rfl) rfl ?_
        refine g_iload_n (pc := 45) dX7_isFigureOf_45 2 rfl rfl ?_
        refine g_if_lt (pc := 46) (tgt := 64) dX7_isFigureOf_46 (by decide) (fun c_46 => ?_) (fun c_46 => ?_)
        · have k_46 := Int32.not_le.mpr c_46
          refine g_iconst (pc := 64) (v := 0) dX7_isFigureOf_64 (by decide) ?_
          exact g_iret (pc := 65) hM rfl rfl ⟨rfl, some_int (by simp only [isFigF, bI, c_10, k_10, eq_true c_24, eq_true c_35, c_46, k_46, if_true, if_false, decide_true, decide_false, Bool.not_true, Bool.not_false, Bool.and_true, Bool.true_and, Bool.and_false, Bool.false_and, Bool.false_eq_true, show ¬ (2 : Int32) < 2 from by decide])⟩ dX7_isFigureOf_65
        · have k_46 := Int32.not_lt.mp c_46
          refine g_iload_n (pc := 49) dX7_isFigureOf_49 2 rfl rfl ?_
          refine g_iload (pc := 50) dX7_isFigureOf_50 1 rfl ?_
          refine g_icmp_ge (pc := 52) (tgt := 64) dX7_isFigureOf_52 (by decide) (fun c_52 => ?_) (fun c_52 => ?_)
          · have k_52 := Int32.not_lt.mpr c_52
            refine g_iconst (pc := 64) (v := 0) dX7_isFigureOf_64 (by decide) ?_
            exact g_iret (pc := 65) hM rfl rfl ⟨rfl, some_int (by simp only [isFigF, bI, c_10, k_10, eq_true c_24, eq_true c_35, c_46, k_46, c_52, k_52, if_true, if_false, decide_true, decide_false, Bool.not_true, Bool.not_false, Bool.and_true, Bool.true_and, Bool.and_false, Bool.false_and, Bool.false_eq_true, show ¬ (2 : Int32) < 2 from by decide])⟩ dX7_isFigureOf_65
          · have k_52 := Int32.not_le.mp c_52
            refine g_iload (pc := 55) dX7_isFigureOf_55 0 rfl ?_
            refine g_if_ne (pc := 57) (tgt := 64) dX7_isFigureOf_57 (by decide) (fun c_57 => ?_) (fun c_57 => ?_)
            · refine g_iconst (pc := 64) (v := 0) dX7_isFigureOf_64 (by decide) ?_
              exact g_iret (pc := 65) hM rfl rfl ⟨rfl, some_int (by simp only [isFigF, bI, c_10, k_10, eq_true c_24, eq_true c_35, c_46, k_46, c_52, k_52, if_true, if_false, decide_true, decide_false, Bool.not_true, Bool.not_false, Bool.and_true, Bool.true_and, Bool.and_false, Bool.false_and, Bool.false_eq_true, show ¬ (2 : Int32) < 2 from by decide])⟩ dX7_isFigureOf_65
            · exact absurd c_57 (by decide)
set_option maxRecDepth 100000 in
set_option maxHeartbeats 4000000 in
theorem c_X7_itemFault (E : En) (S : St) (k s m : Nat) (hk : kd k = 3) (hm : gI S k 1 = nI m) (hm2 : m ≤ ln (k + 10)) (hs9 : s ≤ 60) : CTe E i_X7_itemFault S [.ref (eA E k), .int (nI s)] S (some (.int (itemF S k s))) := by
  have hs : (gI S k 1).toInt ≤ (ln (k + 10) : Int) := by have := ln_c hk; rw [hm, nI_toInt (by omega)]; omega
  have hln := ln_c hk
  refine ct_of [(0, .ref (eA E k)), (1, .int (nI s))] (by decide +kernel) (Nat.le_of_ble_eq_true rfl) rfl (fun X hM => ?_)
  refine g_aload_n (pc := 0) dX7_itemFault_0 0 rfl rfl ?_
  refine g_iload_n (pc := 1) dX7_itemFault_1 1 rfl rfl ?_
  refine g_invV (pc := 2) j_X5_get mw_X7_15 dX7_itemFault_2 (rcv_X5 (by assumption)) (by rfl) (c_X5_get E S k (nI s) (by assumption) (by first | assumption | omega | rfl)) (Nat.le_of_ble_eq_true rfl) (Nat.le_of_ble_eq_true rfl) (by rfl) (Nat.le_of_ble_eq_true rfl) ?_
  refine g_invS (pc := 5) j_X2_ofLetter mw_X7_25 dX7_itemFault_5 (by rfl) (c_X2_ofLetter E S (getF S k (nI s)) ) (Nat.le_of_ble_eq_true rfl) (Nat.le_of_ble_eq_true rfl) (by rfl) (Nat.le_of_ble_eq_true rfl) ?_
  refine g_bipush (pc := 8) (v := -9) dX7_itemFault_8 (by decide) ?_
  refine g_icmp_ne (pc := 10) (tgt := 15) dX7_itemFault_10 (by decide) (fun c_10 => ?_) (fun c_10 => ?_)
  · refine g_iload_n (pc := 15) dX7_itemFault_15 1 rfl rfl ?_
    refine g_iconst (pc := 16) (v := 1) dX7_itemFault_16 (by decide) ?_
    refine g_iadd (pc := 17) dX7_itemFault_17 ?_
    refine g_istore_n (pc := 18) (L' := [(2, .int (nI s + 1)), (0, .ref (eA E k)), (1, .int (nI s))]) dX7_itemFault_18 rfl (Nat.le_of_ble_eq_true rfl) rfl ?_
    have H_19 : ∀ (f : Nat) (n : Nat), n + f = 4 → itR S k s f n = itR S k s 4 0 → G E X i_X7_itemFault S 19 [(0, .ref (eA E k)), (1, .int (nI s)), (2, .int (nI (s + 1 + n)))] [] := by
      intro f
      induction f with
      | zero =>
        intro n h1 hu
        refine g_iload_n (pc := 19) dX7_itemFault_19 2 rfl rfl ?_
        refine g_iload_n (pc := 20) dX7_itemFault_20 1 rfl rfl ?_
        refine g_iconst (pc := 21) (v := 5) dX7_itemFault_21 (by decide) ?_
        refine g_iadd (pc := 22) dX7_itemFault_22 ?_
        refine g_icmp_ge (pc := 23) (tgt := 58) dX7_itemFault_23 (by decide) (fun c_23 => ?_) (fun c_23 => ?_)
        · have k_23 := Int32.not_lt.mpr c_23
          refine g_bipush (pc := 58) (v := -9) dX7_itemFault_58 (by decide) ?_
          exact g_iret (pc := 60) hM rfl rfl ⟨rfl, some_int (by rw [itemF, if_neg c_10, ← hu]; rfl)⟩ dX7_itemFault_60
        · have k_23 := Int32.not_le.mp c_23
          exact absurd (by show nI s + nI 5 ≤ _; rw [nI_add]; exact nI_le (by omega) (by omega)) c_23
      | succ f ih_19 =>
        intro n h1 hu
        refine g_iload_n (pc := 19) dX7_itemFault_19 2 rfl rfl ?_
        refine g_iload_n (pc := 20) dX7_itemFault_20 1 rfl rfl ?_
        refine g_iconst (pc := 21) (v := 5) dX7_itemFault_21 (by decide) ?_
        refine g_iadd (pc := 22) dX7_itemFault_22 ?_
        refine g_icmp_ge (pc := 23) (tgt := 58) dX7_itemFault_23 (by decide) (fun c_23 => ?_) (fun c_23 => ?_)
        · have k_23 := Int32.not_lt.mpr c_23
          exact absurd ((nI_leI (a := s + 5) (b := s + 1 + n) (by omega) (by omega)).mp (by rw [← nI_add]; exact c_23)) (by omega)
        · have k_23 := Int32.not_le.mp c_23
          refine g_iload_n (pc := 26) dX7_itemFault_26 2 rfl rfl ?_
          refine g_aload_n (pc := 27) dX7_itemFault_27 0 rfl rfl ?_
          refine g_invV (pc := 28) j_X5_size mw_X7_9 dX7_itemFault_28 (rcv_X5 (by assumption)) (by rfl) (c_X5_size E S k (by assumption)) (Nat.le_of_ble_eq_true rfl) (Nat.le_of_ble_eq_true rfl) (by rfl) (Nat.le_of_ble_eq_true rfl) ?_
          refine g_icmp_lt (pc := 31) (tgt := 39) dX7_itemFault_31 (by decide) (fun c_31 => ?_) (fun c_31 => ?_)
          · have k_31 := Int32.not_le.mpr c_31
            refine g_aload_n (pc := 39) dX7_itemFault_39 0 rfl rfl ?_
            refine g_iload_n (pc := 40) dX7_itemFault_40 1 rfl rfl ?_
            refine g_iload_n (pc := 41) dX7_itemFault_41 2 rfl rfl ?_
            refine g_iload_n (pc := 42) dX7_itemFault_42 1 rfl rfl ?_
            refine g_isub (pc := 43) dX7_itemFault_43 ?_
            refine g_invS (pc := 44) j_X7_isFigureOf mw_X7_30 dX7_itemFault_44 (by rfl) (c_X7_isFigureOf E S k (nI s) (nI (s + 1 + n) - nI s) (by assumption) (by first | assumption | omega | rfl)) (Nat.le_of_ble_eq_true rfl) (Nat.le_of_ble_eq_true rfl) (by rfl) (Nat.le_of_ble_eq_true rfl) ?_
            refine g_b_ne (pc := 47) (tgt := 52) dX7_itemFault_47 (by decide) (fun c_47 => ?_) (fun c_47 => ?_)
            · refine g_iinc (pc := 52) (L' := [(2, .int (nI (s + 1 + n) + 1)), (0, .ref (eA E k)), (1, .int (nI s))]) dX7_itemFault_52 (k := 2) rfl (v := nI (s + 1 + n) + 1) rfl (Nat.le_of_ble_eq_true rfl) rfl ?_
              refine g_goto (pc := 55) (tgt := 19) dX7_itemFault_55 (by decide) ?_
              refine g_sub (L' := [(0, .ref (eA E k)), (1, .int (nI s)), (2, .int (nI (s + 1 + n) + 1))]) [1, 2, 0] rfl ?_
              exact g_eq rfl (by simp only [nI_1, Nat.add_assoc]) rfl (ih_19 (n + 1) (by omega) (by rw [← hu, itR, if_neg (Int32.not_le.mpr c_31), if_pos c_47]))
            · refine g_iload_n (pc := 50) dX7_itemFault_50 2 rfl rfl ?_
              exact g_iret (pc := 51) hM rfl rfl ⟨rfl, some_int (by rw [itemF, if_neg c_10, ← hu, itR, if_neg (Int32.not_le.mpr c_31), c_47]; rfl)⟩ dX7_itemFault_51
          · have k_31 := Int32.not_lt.mp c_31
            refine g_aload_n (pc := 34) dX7_itemFault_34 0 rfl rfl ?_
            refine g_invV (pc := 35) j_X5_size mw_X7_9 dX7_itemFault_35 (rcv_X5 (by assumption)) (by rfl) (c_X5_size E S k (by assumption)) (Nat.le_of_ble_eq_true rfl) (Nat.le_of_ble_eq_true rfl) (by rfl) (Nat.le_of_ble_eq_true rfl) ?_
            exact g_iret (pc := 38) hM rfl rfl ⟨rfl, some_int (by rw [itemF, if_neg c_10, ← hu, itR, if_pos (Int32.not_lt.mp c_31)])⟩ dX7_itemFault_38
    refine g_sub (L' := [(0, .ref (eA E k)), (1, .int (nI s)), (2, .int (nI s + 1))]) [1, 2, 0] rfl ?_
    exact g_eq rfl (by simp only [nI_1, Nat.add_zero]) rfl (H_19 4 0 (by omega) rfl)
  · refine g_iload_n (pc := 13) dX7_itemFault_13 1 rfl rfl ?_
    exact g_iret (pc := 14) hM rfl rfl ⟨rfl, some_int (by rw [itemF, if_pos c_10])⟩ dX7_itemFault_14
set_option maxRecDepth 100000 in
set_option maxHeartbeats 4000000 in
theorem c_X7_firstFault (E : En) (S : St) (k m : Nat) (hk : kd k = 3) (hm : gI S k 1 = nI m) (hm2 : m ≤ ln (k + 10)) : CTe E i_X7_firstFault S [.ref (eA E k)] S (some (.int (ffR S k (m + 7) 0 0))) := by
  have hs : (gI S k 1).toInt ≤ (ln (k + 10) : Int) := by have := ln_c hk; rw [hm, nI_toInt (by omega)]; omega
  have hln := ln_c hk
  refine ct_of [(0, .ref (eA E k))] (by decide +kernel) (Nat.le_of_ble_eq_true rfl) rfl (fun X hM => ?_)
  refine g_iconst (pc := 0) (v := 0) dX7_firstFault_0 (by decide) ?_
  refine g_istore_n (pc := 1) (L' := [(1, .int 0), (0, .ref (eA E k))]) dX7_firstFault_1 rfl (Nat.le_of_ble_eq_true rfl) rfl ?_
  refine g_iconst (pc := 2) (v := 0) dX7_firstFault_2 (by decide) ?_
  refine g_istore_n (pc := 3) (L' := [(2, .int 0), (1, .int 0), (0, .ref (eA E k))]) dX7_firstFault_3 rfl (Nat.le_of_ble_eq_true rfl) rfl ?_
  have H_4 : ∀ (f : Nat) (i : Nat) (l : Nat), m + 7 ≤ i + f → i ≤ m + 5 → l ≤ i → ffR S k f i l = ffR S k (m + 7) 0 0 → G E X i_X7_firstFault S 4 [(0, .ref (eA E k)), (1, .int (nI l)), (2, .int (nI i))] [] := by
    intro f
    induction f with
    | zero =>
      intro i l h1 h2 h3 hu
      exact absurd h1 (by omega)
    | succ f ih_4 =>
      intro i l h1 h2 h3 hu
      refine g_iload_n (pc := 4) dX7_firstFault_4 2 rfl rfl ?_
      refine g_aload_n (pc := 5) dX7_firstFault_5 0 rfl rfl ?_
      refine g_invV (pc := 6) j_X5_size mw_X7_9 dX7_firstFault_6 (rcv_X5 (by assumption)) (by rfl) (c_X5_size E S k (by assumption)) (Nat.le_of_ble_eq_true rfl) (Nat.le_of_ble_eq_true rfl) (by rfl) (Nat.le_of_ble_eq_true rfl) ?_
      refine g_icmp_ge (pc := 9) (tgt := 61) dX7_firstFault_9 (by decide) (fun c_9 => ?_) (fun c_9 => ?_)
      · have k_9 := Int32.not_lt.mpr c_9
        refine g_iload_n (pc := 61) dX7_firstFault_61 1 rfl rfl ?_
        refine g_if_ne (pc := 62) (tgt := 72) dX7_firstFault_62 (by decide) (fun c_62 => ?_) (fun c_62 => ?_)
        · refine g_bipush (pc := 72) (v := -9) dX7_firstFault_72 (by decide) ?_
          exact g_iret (pc := 74) hM rfl rfl ⟨rfl, some_int (by rw [← hu, ffR, if_pos c_9, if_neg c_62])⟩ dX7_firstFault_74
        · refine g_aload_n (pc := 65) dX7_firstFault_65 0 rfl rfl ?_
          refine g_invV (pc := 66) j_X5_size mw_X7_9 dX7_firstFault_66 (rcv_X5 (by assumption)) (by rfl) (c_X5_size E S k (by assumption)) (Nat.le_of_ble_eq_true rfl) (Nat.le_of_ble_eq_true rfl) (by rfl) (Nat.le_of_ble_eq_true rfl) ?_
          refine g_goto (pc := 69) (tgt := 74) dX7_firstFault_69 (by decide) ?_
          exact g_iret (pc := 74) hM rfl rfl ⟨rfl, some_int (by rw [← hu, ffR, if_pos c_9, if_pos c_62])⟩ dX7_firstFault_74
      · have k_9 := Int32.not_le.mp c_9
        have hi9 : i < m := by rw [hm] at c_9; exact Nat.not_le.mp (fun q => c_9 (nI_le q (by omega)))
        refine g_aload_n (pc := 12) dX7_firstFault_12 0 rfl rfl ?_
        refine g_iload_n (pc := 13) dX7_firstFault_13 2 rfl rfl ?_
        refine g_invV (pc := 14) j_X5_get mw_X7_15 dX7_firstFault_14 (rcv_X5 (by assumption)) (by rfl) (c_X5_get E S k (nI i) (by assumption) (by first | assumption | omega | rfl)) (Nat.le_of_ble_eq_true rfl) (Nat.le_of_ble_eq_true rfl) (by rfl) (Nat.le_of_ble_eq_true rfl) ?_
        refine g_bipush (pc := 17) (v := 32) dX7_firstFault_17 (by decide) ?_
        refine g_icmp_ne (pc := 19) (tgt := 28) dX7_firstFault_19 (by decide) (fun c_19 => ?_) (fun c_19 => ?_)
        · refine g_iload_n (pc := 28) dX7_firstFault_28 1 rfl rfl ?_
          refine g_bipush (pc := 29) (v := 8) dX7_firstFault_29 (by decide) ?_
          refine g_icmp_lt (pc := 31) (tgt := 38) dX7_firstFault_31 (by decide) (fun c_31 => ?_) (fun c_31 => ?_)
          · have k_31 := Int32.not_le.mpr c_31
            refine g_aload_n (pc := 38) dX7_firstFault_38 0 rfl rfl ?_
            refine g_iload_n (pc := 39) dX7_firstFault_39 2 rfl rfl ?_
            refine g_invS (pc := 40) j_X7_itemFault mw_X7_19 dX7_firstFault_40 (by rfl) (c_X7_itemFault E S k i m (by assumption) (by first | assumption | omega | rfl) (by first | assumption | omega | rfl) (by first | assumption | omega | rfl)) (Nat.le_of_ble_eq_true rfl) (Nat.le_of_ble_eq_true rfl) (by rfl) (Nat.le_of_ble_eq_true rfl) ?_
            refine g_istore_n (pc := 43) (L' := [(3, .int (itemF S k i)), (0, .ref (eA E k)), (1, .int (nI l)), (2, .int (nI i))]) dX7_firstFault_43 rfl (Nat.le_of_ble_eq_true rfl) rfl ?_
            refine g_iload_n (pc := 44) dX7_firstFault_44 0 rfl rfl ?_
            refine g_bipush (pc := 45) (v := -9) dX7_firstFault_45 (by decide) ?_
            refine g_icmp_eq (pc := 47) (tgt := 52) dX7_firstFault_47 (by decide) (fun c_47 => ?_) (fun c_47 => ?_)
            · refine g_iinc (pc := 52) (L' := [(1, .int (nI l + 1)), (3, .int (itemF S k i)), (0, .ref (eA E k)), (2, .int (nI i))]) dX7_firstFault_52 (k := 2) rfl (v := nI l + 1) rfl (Nat.le_of_ble_eq_true rfl) rfl ?_
              refine g_iinc (pc := 55) (L' := [(2, .int (nI i + 5)), (1, .int (nI l + 1)), (3, .int (itemF S k i)), (0, .ref (eA E k))]) dX7_firstFault_55 (k := 3) rfl (v := nI i + 5) rfl (Nat.le_of_ble_eq_true rfl) rfl ?_
              refine g_goto (pc := 58) (tgt := 4) dX7_firstFault_58 (by decide) ?_
              refine g_sub (L' := [(0, .ref (eA E k)), (1, .int (nI l + 1)), (2, .int (nI i + 5))]) [3, 1, 0] rfl ?_
              exact g_eq rfl (by rw [show nI i + 5 = nI (i + 5) from nI_add i 5, nI_1]) rfl (ih_4 (i + 5) (l + 1) (by omega) (by omega) (by omega) (by rw [← hu, ffR, if_neg c_9, if_neg c_19, if_pos c_31, if_pos c_47]))
            · refine g_iload_n (pc := 50) dX7_firstFault_50 0 rfl rfl ?_
              exact g_iret (pc := 51) hM rfl rfl ⟨rfl, some_int (by rw [← hu, ffR, if_neg c_9, if_neg c_19, if_pos c_31, if_neg c_47])⟩ dX7_firstFault_51
          · have k_31 := Int32.not_lt.mp c_31
            refine g_iload_n (pc := 34) dX7_firstFault_34 2 rfl rfl ?_
            refine g_goto (pc := 35) (tgt := 43) dX7_firstFault_35 (by decide) ?_
            refine g_istore_n (pc := 43) (L' := [(3, .int (nI i)), (0, .ref (eA E k)), (1, .int (nI l)), (2, .int (nI i))]) dX7_firstFault_43 rfl (Nat.le_of_ble_eq_true rfl) rfl ?_
            refine g_iload_n (pc := 44) dX7_firstFault_44 0 rfl rfl ?_
            refine g_bipush (pc := 45) (v := -9) dX7_firstFault_45 (by decide) ?_
            refine g_icmp_eq (pc := 47) (tgt := 52) dX7_firstFault_47 (by decide) (fun c_47 => ?_) (fun c_47 => ?_)
            · refine g_iinc (pc := 52) (L' := [(1, .int (nI l + 1)), (3, .int (nI i)), (0, .ref (eA E k)), (2, .int (nI i))]) dX7_firstFault_52 (k := 2) rfl (v := nI l + 1) rfl (Nat.le_of_ble_eq_true rfl) rfl ?_
              refine g_iinc (pc := 55) (L' := [(2, .int (nI i + 5)), (1, .int (nI l + 1)), (3, .int (nI i)), (0, .ref (eA E k))]) dX7_firstFault_55 (k := 3) rfl (v := nI i + 5) rfl (Nat.le_of_ble_eq_true rfl) rfl ?_
              refine g_goto (pc := 58) (tgt := 4) dX7_firstFault_58 (by decide) ?_
              refine g_sub (L' := [(0, .ref (eA E k)), (1, .int (nI l + 1)), (2, .int (nI i + 5))]) [3, 1, 0] rfl ?_
              exact g_eq rfl (by rw [show nI i + 5 = nI (i + 5) from nI_add i 5, nI_1]) rfl (ih_4 (i + 5) (l + 1) (by omega) (by omega) (by omega) (by rw [← hu, ffR, if_neg c_9, if_neg c_19, if_neg c_31, if_pos c_47]))
            · refine g_iload_n (pc := 50) dX7_firstFault_50 0 rfl rfl ?_
              exact g_iret (pc := 51) hM rfl rfl ⟨rfl, some_int (by rw [← hu, ffR, if_neg c_9, if_neg c_19, if_neg c_31, if_neg c_47])⟩ dX7_firstFault_51
        · refine g_iinc (pc := 22) (L' := [(2, .int (nI i + 1)), (0, .ref (eA E k)), (1, .int (nI l))]) dX7_firstFault_22 (k := 2) rfl (v := nI i + 1) rfl (Nat.le_of_ble_eq_true rfl) rfl ?_
          refine g_goto (pc := 25) (tgt := 4) dX7_firstFault_25 (by decide) ?_
          refine g_sub (L' := [(0, .ref (eA E k)), (1, .int (nI l)), (2, .int (nI i + 1))]) [1, 2, 0] rfl ?_
          exact g_eq rfl (by rw [nI_1]) rfl (ih_4 (i + 1) l (by omega) (by omega) (by omega) (by rw [← hu, ffR, if_neg c_9, if_pos c_19]))
  refine g_sub (L' := [(0, .ref (eA E k)), (1, .int 0), (2, .int 0)]) [2, 1, 0] rfl ?_
  exact g_eq rfl rfl rfl (H_4 (m + 7) 0 0 (by omega) (by omega) (by omega) rfl)
theorem gI_addS {S : St} {b k i : Nat} (hk : kd k = 3) (hb : kd b = 0) : gI (addS S b k i) k 1 = gI S k 1 := by
  have h1 := kd_sng hk
  have h2 := kd_bng hb
  unfold addS
  split
  · unfold addF
    rw [gI_ne (by omega), gI_ne (by omega)]
    rfl
  · rfl
theorem okB_clr (S : St) (b : Nat) : okB (sI (sI (sI (sI S b 6 0) b 7 0) b 8 0) b 9 0) b := by
  have e : gI (sI (sI (sI (sI S b 6 0) b 7 0) b 8 0) b 9 0) b 6 = 0 := by
    rw [gI_ne (by omega), gI_ne (by omega), gI_ne (by omega), gI_same]
  have e2 : szB (sI (sI (sI (sI S b 6 0) b 7 0) b 8 0) b 9 0) b = 0 := by unfold szB; rw [e]; rfl
  exact ⟨by rw [e, e2]; rfl, by rw [e2]; omega⟩
theorem okB_addS {S : St} {b k i : Nat} (h : okB S b) : okB (addS S b k i) b := by
  unfold addS
  split
  · rename_i h8
    have e : gI (addF S b (letterF (getF S k (nI i))) (getF S k (nI i + 1) - 48) (getF S k (nI i + 2) - 48) (getF S k (nI i + 3) - 48) (getF S k (nI i + 4) - 48)) b 6 = nI (szB S b + 1) := by
      unfold addF
      rw [gI_same, gI_ne (by omega)]
      show gI S b 6 + 1 = _
      rw [h.1, nI_1]
    have h9 : szB S b < 8 := by rw [h.1] at h8; exact (nI_ltI (b := 8) (by have := h.2; omega) (by omega)).mp h8
    have e2 : szB (addF S b (letterF (getF S k (nI i))) (getF S k (nI i + 1) - 48) (getF S k (nI i + 2) - 48) (getF S k (nI i + 3) - 48) (getF S k (nI i + 4) - 48)) b = szB S b + 1 := by
      have : szB (addF S b (letterF (getF S k (nI i))) (getF S k (nI i + 1) - 48) (getF S k (nI i + 2) - 48) (getF S k (nI i + 3) - 48) (getF S k (nI i + 4) - 48)) b = (nI (szB S b + 1)).toNatClampNeg := by rw [← e]; rfl
      rw [this]
      exact nI_clamp (by omega)
    exact ⟨by rw [e, e2], by rw [e2]; omega⟩
  · exact h
set_option maxRecDepth 100000 in
set_option maxHeartbeats 4000000 in
theorem c_X7_readInto (E : En) (S : St) (b k m : Nat) (hb : kd b = 0) (hk : kd k = 3) (hm : gI S k 1 = nI m) (hm2 : m ≤ ln (k + 10)) : CTe E i_X7_readInto S [.ref (eA E b), .ref (eA E k)] (rdR b k (m + 7) 0 (sI (sI (sI (sI S b 6 0) b 7 0) b 8 0) b 9 0)) none := by
  have hln := ln_c hk
  refine ct_of [(0, .ref (eA E b)), (1, .ref (eA E k))] (by decide +kernel) (Nat.le_of_ble_eq_true rfl) rfl (fun X hM => ?_)
  refine g_aload_n (pc := 0) dX7_readInto_0 0 rfl rfl ?_
  refine g_invN (pc := 1) j_X0_clear mw_X7_37 dX7_readInto_1 (rcv_X0 (by assumption)) (by rfl) (c_X0_clear E S b (by assumption)) (Nat.le_of_ble_eq_true rfl) (Nat.le_of_ble_eq_true rfl) (by rfl) (Nat.le_of_ble_eq_true rfl) ?_
  refine g_iconst (pc := 4) (v := 0) dX7_readInto_4 (by decide) ?_
  refine g_istore_n (pc := 5) (L' := [(2, .int 0), (0, .ref (eA E b)), (1, .ref (eA E k))]) dX7_readInto_5 rfl (Nat.le_of_ble_eq_true rfl) rfl ?_
  have H_6 : ∀ (f : Nat) (i : Nat) (T : St), m + 7 ≤ i + f → i ≤ m + 5 → gI T k 1 = nI m → okB T b → rdR b k f i T = rdR b k (m + 7) 0 (sI (sI (sI (sI S b 6 0) b 7 0) b 8 0) b 9 0) → G E X i_X7_readInto T 6 [(0, .ref (eA E b)), (1, .ref (eA E k)), (2, .int (nI i))] [] := by
    intro f
    induction f with
    | zero =>
      intro i T h1 h2 hTm hzT hu
      exact absurd h1 (by omega)
    | succ f ih_6 =>
      intro i T h1 h2 hTm hzT hu
      refine g_iload_n (pc := 6) dX7_readInto_6 2 rfl rfl ?_
      refine g_aload_n (pc := 7) dX7_readInto_7 1 rfl rfl ?_
      refine g_invV (pc := 8) j_X5_size mw_X7_9 dX7_readInto_8 (rcv_X5 (by assumption)) (by rfl) (c_X5_size E T k (by assumption)) (Nat.le_of_ble_eq_true rfl) (Nat.le_of_ble_eq_true rfl) (by rfl) (Nat.le_of_ble_eq_true rfl) ?_
      refine g_icmp_ge (pc := 11) (tgt := 76) dX7_readInto_11 (by decide) (fun c_11 => ?_) (fun c_11 => ?_)
      · have k_11 := Int32.not_lt.mpr c_11
        exact g_vret (pc := 76) hM rfl ⟨by rw [← hu, rdR, if_pos c_11], rfl⟩ dX7_readInto_76
      · have k_11 := Int32.not_le.mp c_11
        have hi9 : i < m := by rw [hTm] at c_11; exact Nat.not_le.mp (fun q => c_11 (nI_le q (by omega)))
        refine g_aload_n (pc := 14) dX7_readInto_14 1 rfl rfl ?_
        refine g_iload_n (pc := 15) dX7_readInto_15 2 rfl rfl ?_
        refine g_invV (pc := 16) j_X5_get mw_X7_15 dX7_readInto_16 (rcv_X5 (by assumption)) (by rfl) (c_X5_get E T k (nI i) (by assumption) (by rw [hTm, nI_toInt (by omega)]; omega)) (Nat.le_of_ble_eq_true rfl) (Nat.le_of_ble_eq_true rfl) (by rfl) (Nat.le_of_ble_eq_true rfl) ?_
        refine g_bipush (pc := 19) (v := 32) dX7_readInto_19 (by decide) ?_
        refine g_icmp_ne (pc := 21) (tgt := 30) dX7_readInto_21 (by decide) (fun c_21 => ?_) (fun c_21 => ?_)
        · refine g_aload_n (pc := 30) dX7_readInto_30 0 rfl rfl ?_
          refine g_aload_n (pc := 31) dX7_readInto_31 1 rfl rfl ?_
          refine g_iload_n (pc := 32) dX7_readInto_32 2 rfl rfl ?_
          refine g_invV (pc := 33) j_X5_get mw_X7_15 dX7_readInto_33 (rcv_X5 (by assumption)) (by rfl) (c_X5_get E T k (nI i) (by assumption) (by rw [hTm, nI_toInt (by omega)]; omega)) (Nat.le_of_ble_eq_true rfl) (Nat.le_of_ble_eq_true rfl) (by rfl) (Nat.le_of_ble_eq_true rfl) ?_
          refine g_invS (pc := 36) j_X2_ofLetter mw_X7_25 dX7_readInto_36 (by rfl) (c_X2_ofLetter E T (getF T k (nI i)) ) (Nat.le_of_ble_eq_true rfl) (Nat.le_of_ble_eq_true rfl) (by rfl) (Nat.le_of_ble_eq_true rfl) ?_
          refine g_aload_n (pc := 39) dX7_readInto_39 1 rfl rfl ?_
          refine g_iload_n (pc := 40) dX7_readInto_40 2 rfl rfl ?_
          refine g_iconst (pc := 41) (v := 1) dX7_readInto_41 (by decide) ?_
          refine g_iadd (pc := 42) dX7_readInto_42 ?_
          refine g_invS (pc := 43) j_X7_figureAt mw_X7_34 dX7_readInto_43 (by rfl) (c_X7_figureAt E T k (nI i + 1) (by assumption) (by rw [hTm, nI_toInt (by omega)]; omega)) (Nat.le_of_ble_eq_true rfl) (Nat.le_of_ble_eq_true rfl) (by rfl) (Nat.le_of_ble_eq_true rfl) ?_
          refine g_aload_n (pc := 46) dX7_readInto_46 1 rfl rfl ?_
          refine g_iload_n (pc := 47) dX7_readInto_47 2 rfl rfl ?_
          refine g_iconst (pc := 48) (v := 2) dX7_readInto_48 (by decide) ?_
          refine g_iadd (pc := 49) dX7_readInto_49 ?_
          refine g_invS (pc := 50) j_X7_figureAt mw_X7_34 dX7_readInto_50 (by rfl) (c_X7_figureAt E T k (nI i + 2) (by assumption) (by rw [hTm, nI_toInt (by omega)]; omega)) (Nat.le_of_ble_eq_true rfl) (Nat.le_of_ble_eq_true rfl) (by rfl) (Nat.le_of_ble_eq_true rfl) ?_
          refine g_aload_n (pc := 53) dX7_readInto_53 1 rfl rfl ?_
          refine g_iload_n (pc := 54) dX7_readInto_54 2 rfl rfl ?_
          refine g_iconst (pc := 55) (v := 3) dX7_readInto_55 (by decide) ?_
          refine g_iadd (pc := 56) dX7_readInto_56 ?_
          refine g_invS (pc := 57) j_X7_figureAt mw_X7_34 dX7_readInto_57 (by rfl) (c_X7_figureAt E T k (nI i + 3) (by assumption) (by rw [hTm, nI_toInt (by omega)]; omega)) (Nat.le_of_ble_eq_true rfl) (Nat.le_of_ble_eq_true rfl) (by rfl) (Nat.le_of_ble_eq_true rfl) ?_
          refine g_aload_n (pc := 60) dX7_readInto_60 1 rfl rfl ?_
          refine g_iload_n (pc := 61) dX7_readInto_61 2 rfl rfl ?_
          refine g_iconst (pc := 62) (v := 4) dX7_readInto_62 (by decide) ?_
          refine g_iadd (pc := 63) dX7_readInto_63 ?_
          refine g_invS (pc := 64) j_X7_figureAt mw_X7_34 dX7_readInto_64 (by rfl) (c_X7_figureAt E T k (nI i + 4) (by assumption) (by rw [hTm, nI_toInt (by omega)]; omega)) (Nat.le_of_ble_eq_true rfl) (Nat.le_of_ble_eq_true rfl) (by rfl) (Nat.le_of_ble_eq_true rfl) ?_
          refine g_invN (pc := 67) j_X0_add mw_X7_42 dX7_readInto_67 (rcv_X0 (by assumption)) (by rfl) (c_X0_add E T b (letterF (getF T k (nI i))) (getF T k (nI i + 1) - 48) (getF T k (nI i + 2) - 48) (getF T k (nI i + 3) - 48) (getF T k (nI i + 4) - 48) (by assumption) hzT) (Nat.le_of_ble_eq_true rfl) (Nat.le_of_ble_eq_true rfl) (by rfl) (Nat.le_of_ble_eq_true rfl) ?_
          refine g_iinc (pc := 70) (L' := [(2, .int (nI i + 5)), (0, .ref (eA E b)), (1, .ref (eA E k))]) dX7_readInto_70 (k := 2) rfl (v := nI i + 5) rfl (Nat.le_of_ble_eq_true rfl) rfl ?_
          refine g_goto (pc := 73) (tgt := 6) dX7_readInto_73 (by decide) ?_
          refine g_sub (L' := [(0, .ref (eA E b)), (1, .ref (eA E k)), (2, .int (nI i + 5))]) [1, 2, 0] rfl ?_
          exact g_eq rfl (by rw [show nI i + 5 = nI (i + 5) from nI_add i 5]) rfl (ih_6 (i + 5) (addS T b k i) (by omega) (by omega) ((gI_addS hk hb).trans hTm) (okB_addS hzT) (by rw [← hu, rdR, if_neg c_11, if_neg c_21]))
        · refine g_iinc (pc := 24) (L' := [(2, .int (nI i + 1)), (0, .ref (eA E b)), (1, .ref (eA E k))]) dX7_readInto_24 (k := 2) rfl (v := nI i + 1) rfl (Nat.le_of_ble_eq_true rfl) rfl ?_
          refine g_goto (pc := 27) (tgt := 6) dX7_readInto_27 (by decide) ?_
          refine g_sub (L' := [(0, .ref (eA E b)), (1, .ref (eA E k)), (2, .int (nI i + 1))]) [1, 2, 0] rfl ?_
          exact g_eq rfl (by rw [nI_1]) rfl (ih_6 (i + 1) T (by omega) (by omega) hTm hzT (by rw [← hu, rdR, if_neg c_11, if_pos c_21]))
  refine g_sub (L' := [(0, .ref (eA E b)), (1, .ref (eA E k)), (2, .int 0)]) [1, 2, 0] rfl ?_
  exact g_eq rfl rfl rfl (H_6 (m + 7) 0 (sI (sI (sI (sI S b 6 0) b 7 0) b 8 0) b 9 0) (by omega) (by omega) (by rw [gI_ne (by have := kd_sng hk; have := kd_bng hb; omega), gI_ne (by have := kd_sng hk; have := kd_bng hb; omega), gI_ne (by have := kd_sng hk; have := kd_bng hb; omega), gI_ne (by have := kd_sng hk; have := kd_bng hb; omega)]; exact hm) (okB_clr S b) rfl)
def minF (x y : Int32) : Int32 := if y < x then y else x
def wayL (S : St) (b : Nat) : Nat → Int32 × Int32
  | 0 => (0, 0)
  | n + 1 => ((if (wayL S b n).2 + 3072 < (wayL S b n).1 then (wayL S b n).2 + 3072 else (wayL S b n).1) + briF S b (nI n) (gI S b 8) * 1024, ((if (wayL S b n).1 + 3072 < (wayL S b n).2 then (wayL S b n).1 + 3072 else (wayL S b n).2) + briF S b (nI n) (gI S b 8) / 2 * 1024) + ((1 : Int32) <<< (nI n &&& 31)))
set_option maxRecDepth 100000 in
set_option maxHeartbeats 4000000 in
theorem c_X6_darkest (E : En) (S : St) (b : Nat) (hb : kd b = 0) (hz : okB S b) : CTe E i_X6_darkest S [.ref (eA E b)] S (some (.int (minF (wayL S b 10).1 (wayL S b 10).2))) := by
  refine ct_of [(0, .ref (eA E b))] (by decide +kernel) (Nat.le_of_ble_eq_true rfl) rfl (fun X hM => ?_)
  refine g_iconst (pc := 0) (v := 0) dX6_darkest_0 (by decide) ?_
  refine g_istore_n (pc := 1) (L' := [(1, .int 0), (0, .ref (eA E b))]) dX6_darkest_1 rfl (Nat.le_of_ble_eq_true rfl) rfl ?_
  refine g_iconst (pc := 2) (v := 0) dX6_darkest_2 (by decide) ?_
  refine g_istore_n (pc := 3) (L' := [(2, .int 0), (1, .int 0), (0, .ref (eA E b))]) dX6_darkest_3 rfl (Nat.le_of_ble_eq_true rfl) rfl ?_
  refine g_iconst (pc := 4) (v := 0) dX6_darkest_4 (by decide) ?_
  refine g_istore_n (pc := 5) (L' := [(3, .int 0), (2, .int 0), (1, .int 0), (0, .ref (eA E b))]) dX6_darkest_5 rfl (Nat.le_of_ble_eq_true rfl) rfl ?_
  have H_6 : ∀ n : Nat, n ≤ 10 → G E X i_X6_darkest S 6 [(0, .ref (eA E b)), (1, .int ((wayL S b n).1)), (2, .int ((wayL S b n).2)), (3, .int (nI n))] [] := by
    refine dn_ind 10 (fun n hn_6 ih_6 => ?_)
    refine g_iload_n (pc := 6) dX6_darkest_6 3 rfl rfl ?_
    refine g_bipush (pc := 7) (v := 10) dX6_darkest_7 (by decide) ?_
    refine g_icmp_ge (pc := 9) (tgt := 77) dX6_darkest_9 (by decide) (fun c_9 => ?_) (fun c_9 => ?_)
    · have k_9 := Int32.not_lt.mpr c_9
      have he_6 : n = 10 := Nat.le_antisymm hn_6 (by exact nle_of (N := 10) rfl rfl (by omega) (by omega) c_9)
      rw [he_6]
      refine g_iload_n (pc := 77) dX6_darkest_77 1 rfl rfl ?_
      refine g_iload_n (pc := 78) dX6_darkest_78 2 rfl rfl ?_
      refine g_min (pc := 79) mw_X6_21 dX6_darkest_79 (Nat.le_of_ble_eq_true rfl) (Nat.le_of_ble_eq_true rfl) ?_
      exact g_iret (pc := 82) hM rfl rfl ⟨rfl, rfl⟩ dX6_darkest_82
    · have k_9 := Int32.not_le.mp c_9
      have hlt_6 : n < 10 := by exact nlt_of (N := 10) rfl rfl (by omega) (by omega) c_9
      refine g_aload_n (pc := 12) dX6_darkest_12 0 rfl rfl ?_
      refine g_iload_n (pc := 13) dX6_darkest_13 3 rfl rfl ?_
      refine g_aload_n (pc := 14) dX6_darkest_14 0 rfl rfl ?_
      refine g_invV (pc := 15) j_X0_thisNight mw_X6_11 dX6_darkest_15 (rcv_X0 (by assumption)) (by rfl) (c_X0_thisNight E S b (by assumption)) (Nat.le_of_ble_eq_true rfl) (Nat.le_of_ble_eq_true rfl) (by rfl) (Nat.le_of_ble_eq_true rfl) ?_
      refine g_invV (pc := 18) j_X0_brightAt mw_X6_17 dX6_darkest_18 (rcv_X0 (by assumption)) (by rfl) (c_X0_brightAt E S b (nI n) (gI S b 8) (by assumption) (by first | assumption | omega | rfl)) (Nat.le_of_ble_eq_true rfl) (Nat.le_of_ble_eq_true rfl) (by rfl) (Nat.le_of_ble_eq_true rfl) ?_
      refine g_istore (pc := 21) (L' := [(4, .int (briF S b (nI n) (gI S b 8))), (0, .ref (eA E b)), (1, .int ((wayL S b n).1)), (2, .int ((wayL S b n).2)), (3, .int (nI n))]) dX6_darkest_21 (Nat.le_of_ble_eq_true rfl) rfl ?_
      refine g_iload_n (pc := 23) dX6_darkest_23 2 rfl rfl ?_
      refine g_iload_n (pc := 24) dX6_darkest_24 3 rfl rfl ?_
      refine g_sipush (pc := 25) (v := 3072) dX6_darkest_25 (by decide) ?_
      refine g_iadd (pc := 28) dX6_darkest_28 ?_
      refine g_min (pc := 29) mw_X6_21 dX6_darkest_29 (Nat.le_of_ble_eq_true rfl) (Nat.le_of_ble_eq_true rfl) ?_
      refine g_iload (pc := 32) dX6_darkest_32 0 rfl ?_
      refine g_sipush (pc := 34) (v := 1024) dX6_darkest_34 (by decide) ?_
      refine g_imul (pc := 37) dX6_darkest_37 ?_
      refine g_iadd (pc := 38) dX6_darkest_38 ?_
      refine g_istore (pc := 39) (L' := [(5, .int ((if ((wayL S b n).2 + 3072) < (wayL S b n).1 then ((wayL S b n).2 + 3072) else (wayL S b n).1) + (briF S b (nI n) (gI S b 8) * 1024))), (4, .int (briF S b (nI n) (gI S b 8))), (0, .ref (eA E b)), (1, .int ((wayL S b n).1)), (2, .int ((wayL S b n).2)), (3, .int (nI n))]) dX6_darkest_39 (Nat.le_of_ble_eq_true rfl) rfl ?_
      refine g_iload_n (pc := 41) dX6_darkest_41 4 rfl rfl ?_
      refine g_iload_n (pc := 42) dX6_darkest_42 3 rfl rfl ?_
      refine g_sipush (pc := 43) (v := 3072) dX6_darkest_43 (by decide) ?_
      refine g_iadd (pc := 46) dX6_darkest_46 ?_
      refine g_min (pc := 47) mw_X6_21 dX6_darkest_47 (Nat.le_of_ble_eq_true rfl) (Nat.le_of_ble_eq_true rfl) ?_
      refine g_iload (pc := 50) dX6_darkest_50 1 rfl ?_
      refine g_iconst (pc := 52) (v := 2) dX6_darkest_52 (by decide) ?_
      refine g_idiv (pc := 53) dX6_darkest_53 (by decide) ?_
      refine g_sipush (pc := 54) (v := 1024) dX6_darkest_54 (by decide) ?_
      refine g_imul (pc := 57) dX6_darkest_57 ?_
      refine g_iadd (pc := 58) dX6_darkest_58 ?_
      refine g_iconst (pc := 59) (v := 1) dX6_darkest_59 (by decide) ?_
      refine g_iload_n (pc := 60) dX6_darkest_60 5 rfl rfl ?_
      refine g_ishl (pc := 61) dX6_darkest_61 ?_
      refine g_iadd (pc := 62) dX6_darkest_62 ?_
      refine g_istore (pc := 63) (L' := [(6, .int (((if ((wayL S b n).1 + 3072) < (wayL S b n).2 then ((wayL S b n).1 + 3072) else (wayL S b n).2) + ((briF S b (nI n) (gI S b 8) / 2) * 1024)) + ((1 : Int32) <<< ((nI n) &&& 31)))), (5, .int ((if ((wayL S b n).2 + 3072) < (wayL S b n).1 then ((wayL S b n).2 + 3072) else (wayL S b n).1) + (briF S b (nI n) (gI S b 8) * 1024))), (4, .int (briF S b (nI n) (gI S b 8))), (0, .ref (eA E b)), (1, .int ((wayL S b n).1)), (2, .int ((wayL S b n).2)), (3, .int (nI n))]) dX6_darkest_63 (Nat.le_of_ble_eq_true rfl) rfl ?_
      refine g_iload (pc := 65) dX6_darkest_65 1 rfl ?_
      refine g_istore_n (pc := 67) (L' := [(1, .int ((if ((wayL S b n).2 + 3072) < (wayL S b n).1 then ((wayL S b n).2 + 3072) else (wayL S b n).1) + (briF S b (nI n) (gI S b 8) * 1024))), (6, .int (((if ((wayL S b n).1 + 3072) < (wayL S b n).2 then ((wayL S b n).1 + 3072) else (wayL S b n).2) + ((briF S b (nI n) (gI S b 8) / 2) * 1024)) + ((1 : Int32) <<< ((nI n) &&& 31)))), (5, .int ((if ((wayL S b n).2 + 3072) < (wayL S b n).1 then ((wayL S b n).2 + 3072) else (wayL S b n).1) + (briF S b (nI n) (gI S b 8) * 1024))), (4, .int (briF S b (nI n) (gI S b 8))), (0, .ref (eA E b)), (2, .int ((wayL S b n).2)), (3, .int (nI n))]) dX6_darkest_67 rfl (Nat.le_of_ble_eq_true rfl) rfl ?_
      refine g_iload (pc := 68) dX6_darkest_68 1 rfl ?_
      refine g_istore_n (pc := 70) (L' := [(2, .int (((if ((wayL S b n).1 + 3072) < (wayL S b n).2 then ((wayL S b n).1 + 3072) else (wayL S b n).2) + ((briF S b (nI n) (gI S b 8) / 2) * 1024)) + ((1 : Int32) <<< ((nI n) &&& 31)))), (1, .int ((if ((wayL S b n).2 + 3072) < (wayL S b n).1 then ((wayL S b n).2 + 3072) else (wayL S b n).1) + (briF S b (nI n) (gI S b 8) * 1024))), (6, .int (((if ((wayL S b n).1 + 3072) < (wayL S b n).2 then ((wayL S b n).1 + 3072) else (wayL S b n).2) + ((briF S b (nI n) (gI S b 8) / 2) * 1024)) + ((1 : Int32) <<< ((nI n) &&& 31)))), (5, .int ((if ((wayL S b n).2 + 3072) < (wayL S b n).1 then ((wayL S b n).2 + 3072) else (wayL S b n).1) + (briF S b (nI n) (gI S b 8) * 1024))), (4, .int (briF S b (nI n) (gI S b 8))), (0, .ref (eA E b)), (3, .int (nI n))]) dX6_darkest_70 rfl (Nat.le_of_ble_eq_true rfl) rfl ?_
      refine g_iinc (pc := 71) (L' := [(3, .int (nI n + 1)), (2, .int (((if ((wayL S b n).1 + 3072) < (wayL S b n).2 then ((wayL S b n).1 + 3072) else (wayL S b n).2) + ((briF S b (nI n) (gI S b 8) / 2) * 1024)) + ((1 : Int32) <<< ((nI n) &&& 31)))), (1, .int ((if ((wayL S b n).2 + 3072) < (wayL S b n).1 then ((wayL S b n).2 + 3072) else (wayL S b n).1) + (briF S b (nI n) (gI S b 8) * 1024))), (6, .int (((if ((wayL S b n).1 + 3072) < (wayL S b n).2 then ((wayL S b n).1 + 3072) else (wayL S b n).2) + ((briF S b (nI n) (gI S b 8) / 2) * 1024)) + ((1 : Int32) <<< ((nI n) &&& 31)))), (5, .int ((if ((wayL S b n).2 + 3072) < (wayL S b n).1 then ((wayL S b n).2 + 3072) else (wayL S b n).1) + (briF S b (nI n) (gI S b 8) * 1024))), (4, .int (briF S b (nI n) (gI S b 8))), (0, .ref (eA E b))]) dX6_darkest_71 (k := 6) rfl (v := nI n + 1) rfl (Nat.le_of_ble_eq_true rfl) rfl ?_
      refine g_goto (pc := 74) (tgt := 6) dX6_darkest_74 (by decide) ?_
      refine g_sub (L' := [(0, .ref (eA E b)), (1, .int ((if ((wayL S b n).2 + 3072) < (wayL S b n).1 then ((wayL S b n).2 + 3072) else (wayL S b n).1) + (briF S b (nI n) (gI S b 8) * 1024))), (2, .int (((if ((wayL S b n).1 + 3072) < (wayL S b n).2 then ((wayL S b n).1 + 3072) else (wayL S b n).2) + ((briF S b (nI n) (gI S b 8) / 2) * 1024)) + ((1 : Int32) <<< ((nI n) &&& 31)))), (3, .int (nI n + 1))]) [6, 2, 1, 0] rfl ?_
      exact g_eq rfl (by simp only [nI_1, wayL]) rfl (ih_6 hlt_6)
  refine g_sub (L' := [(0, .ref (eA E b)), (1, .int 0), (2, .int 0), (3, .int 0)]) [3, 2, 1, 0] rfl ?_
  exact g_eq rfl rfl rfl (H_6 0 (Nat.zero_le _))
set_option maxRecDepth 100000 in
set_option maxHeartbeats 4000000 in
theorem c_X6_brightness (E : En) (S : St) (x : Int32) : CTe E i_X6_brightness S [.int x] S (some (.int (x / 1024))) := by
  refine ct_of [(0, .int x)] (by decide +kernel) (Nat.le_of_ble_eq_true rfl) rfl (fun X hM => ?_)
  refine g_iload_n (pc := 0) dX6_brightness_0 0 rfl rfl ?_
  refine g_sipush (pc := 1) (v := 1024) dX6_brightness_1 (by decide) ?_
  refine g_idiv (pc := 4) dX6_brightness_4 (by decide) ?_
  exact g_iret (pc := 5) hM rfl rfl ⟨rfl, rfl⟩ dX6_brightness_5
set_option maxRecDepth 100000 in
set_option maxHeartbeats 4000000 in
theorem c_X6_placesOnRoad (E : En) (S : St) (x : Int32) : CTe E i_X6_placesOnRoad S [.int x] S (some (.int (x - x / 1024 * 1024))) := by
  refine ct_of [(0, .int x)] (by decide +kernel) (Nat.le_of_ble_eq_true rfl) rfl (fun X hM => ?_)
  refine g_iload_n (pc := 0) dX6_placesOnRoad_0 0 rfl rfl ?_
  refine g_sipush (pc := 1) (v := 1024) dX6_placesOnRoad_1 (by decide) ?_
  refine g_irem (pc := 4) dX6_placesOnRoad_4 (by decide) ?_
  exact g_iret (pc := 5) hM rfl rfl ⟨rfl, rfl⟩ dX6_placesOnRoad_5
