/-! THE REFERENCE: notes of a row, counts -/
theorem rem2 {m : Nat} (h : m ≤ 40) : nI m - nI m / 2 * 2 = nI (m % 2) := by
  have z : ∀ m : Fin 41, nI m.1 - nI m.1 / 2 * 2 = nI (m.1 % 2) := by decide +kernel
  exact z ⟨m, by omega⟩
def agP (S : St) (n i : Nat) : Bool := inF (gA S 61 (40 * n + i)).toInt64 0 99
def agM (S : St) (n m : Nat) : Int32 := if m % 2 = 0 then (if allB (agP S n) m = true then 0 else 3) else 5
def ftP (S : St) (kind first : Int32) (n i : Nat) : Bool := decide (glowF kind first (gA S 61 (40 * n + 2 * i)) = gA S 61 (40 * n + 2 * i + 1))
def ftM (S : St) (kind first : Int32) (n q : Nat) : Bool := allB (ftP S kind first n) q
def fiM (S : St) (k n q : Nat) : Nat → Int32 | 0 => 0 | i + 1 => fiM S k n q i ||| (if ftM S (gA S 59 (11 + k)) (nI i) n q = true then (1 : Int32) <<< (nI i &&& 31) else 0)
def kiM (S : St) (k n q : Nat) : Nat → Int32 | 0 => 0 | i + 1 => kiM S k n q i ||| (if ftM S (nI i) (gA S 59 (35 + k)) n q = true then (1 : Int32) <<< (nI i &&& 31) else 0)
def gpI (kinds first night : Int32) (a : Nat) : Nat → Int32 | 0 => 0 | b + 1 => gpI kinds first night a b + (if (hsF kinds (nI a) && hsF kinds (nI b) && decide (glowF (nI a) first night = glowF (nI b) first night)) = true then 1 else 0)
def gpO (kinds first night : Int32) : Nat → Int32 | 0 => 0 | a + 1 => if gpI kinds first night a 6 ≤ gpO kinds first night a then gpO kinds first night a else gpI kinds first night a 6
def teM (kinds first : Int32) : Nat → Int32 × Int32 := lowR (fun n => gpO kinds first (nI n) 6) nI
def mnR (S : St) (a b : Int32) : Nat → Int32 | 0 => 0 | n + 1 => mnR S a b n + (if (decide (gA S 59 (11 + n) = a) || decide (gA S 59 (11 + n) = b)) = true then 1 else 0)
def thF (f : Nat → Int32) : Nat → Int32 | 0 => 0 | n + 1 => thF f n + (if 0 ≤ f n then 1 else 0)
def bkR (W : Nat → Int32) : Nat → Int32 | 0 => 0 | n + 1 => bkR W n + (if W (444 + 444 * n) = 0 then 0 else 1)
def cnM (S : St) (i : Int32) : Int32 := if i = 0 then gA S 59 0 else if i = 1 then gA S 59 1 else if i = 2 then gA S 59 43 else if i = 3 then gA S 59 2 else if i = 4 then gaR S (nM S) else if i = 5 then mnR S 3 5 (nM S) else if i = 6 then mnR S 2 4 (nM S) else if i = 7 then thF (gA S 60) 6 else if i = 8 then thF (gA S 62) 4 else if i = 9 then bkR (gA S 59) 3 else -1
theorem cnM_out {S : St} {i : Int32} (h : i.toInt < 0 ∨ 9 < i.toInt) : cnM S i = -1 := by
  have h0 : ¬ i = 0 := by rintro rfl; revert h; decide
  have h1 : ¬ i = 1 := by rintro rfl; revert h; decide
  have h2 : ¬ i = 2 := by rintro rfl; revert h; decide
  have h3 : ¬ i = 3 := by rintro rfl; revert h; decide
  have h4 : ¬ i = 4 := by rintro rfl; revert h; decide
  have h5 : ¬ i = 5 := by rintro rfl; revert h; decide
  have h6 : ¬ i = 6 := by rintro rfl; revert h; decide
  have h7 : ¬ i = 7 := by rintro rfl; revert h; decide
  have h8 : ¬ i = 8 := by rintro rfl; revert h; decide
  have h9 : ¬ i = 9 := by rintro rfl; revert h; decide
  simp [cnM, h0, h1, h2, h3, h4, h5, h6, h7, h8, h9]

set_option maxRecDepth 100000 in
set_option maxHeartbeats 4000000 in
theorem c_X9_against_m (E : En) (S : St) (n : Nat) (hn : n < 6) (h : gA S 60 n = -1) : CTe E i_X9_against S [.ref (eA E 58), .int (nI n)] S (some (.int 1)) := by
  refine ct_of [(0, .ref (eA E 58)), (1, .int (nI n))] (by decide +kernel) (Nat.le_of_ble_eq_true rfl) rfl (fun X hM => ?_)
  refine g_aload_n (pc := 0) dX9_against_0 0 rfl rfl ?_
  refine gf_X9_13 (pc := 1) rfl dX9_against_1 ?_
  refine g_iload_n (pc := 4) dX9_against_4 1 rfl rfl ?_
  refine g_iald (pc := 5) n rfl rfl (show n < 6 from hn) (by decide) dX9_against_5 ?_
  refine g_if_ge (pc := 6) (tgt := 11) dX9_against_6 (by decide) (fun c_6 => ?_) (fun c_6 => ?_)
  · have k_6 := Int32.not_lt.mpr c_6
    exact absurd c_6 (by rw [h]; decide)
  · have k_6 := Int32.not_le.mp c_6
    refine g_iconst (pc := 9) (v := 1) dX9_against_9 (by decide) ?_
    exact g_iret (pc := 10) hM rfl rfl ⟨rfl, rfl⟩ dX9_against_10
set_option maxRecDepth 100000 in
set_option maxHeartbeats 4000000 in
theorem c_X9_against_ok (E : En) (S : St) (n m : Nat) (hn : n < 6) (hm : gA S 60 n = nI m) (hm2 : m ≤ 40) : CTe E i_X9_against S [.ref (eA E 58), .int (nI n)] S (some (.int (agM S n m))) := by
  refine ct_of [(0, .ref (eA E 58)), (1, .int (nI n))] (by decide +kernel) (Nat.le_of_ble_eq_true rfl) rfl (fun X hM => ?_)
  refine g_aload_n (pc := 0) dX9_against_0 0 rfl rfl ?_
  refine gf_X9_13 (pc := 1) rfl dX9_against_1 ?_
  refine g_iload_n (pc := 4) dX9_against_4 1 rfl rfl ?_
  refine g_iald (pc := 5) n rfl rfl (show n < 6 from hn) (by decide) dX9_against_5 ?_
  refine g_if_ge (pc := 6) (tgt := 11) dX9_against_6 (by decide) (fun c_6 => ?_) (fun c_6 => ?_)
  · have k_6 := Int32.not_lt.mpr c_6
    refine g_aload_n (pc := 11) dX9_against_11 0 rfl rfl ?_
    refine gf_X9_13 (pc := 12) rfl dX9_against_12 ?_
    refine g_iload_n (pc := 15) dX9_against_15 1 rfl rfl ?_
    refine g_iald (pc := 16) n rfl rfl (show n < 6 by omega) (by decide) dX9_against_16 ?_
    refine g_iconst (pc := 17) (v := 2) dX9_against_17 (by decide) ?_
    refine g_irem (pc := 18) dX9_against_18 (by decide) ?_
    rw [hm, rem2 hm2]
    refine g_if_eq (pc := 19) (tgt := 24) dX9_against_19 (by decide) (fun c_19 => ?_) (fun c_19 => ?_)
    · refine g_iconst (pc := 24) (v := 1) dX9_against_24 (by decide) ?_
      refine g_istore_n (pc := 25) (L' := [(2, .int 1), (0, .ref (eA E 58)), (1, .int (nI n))]) dX9_against_25 rfl (Nat.le_of_ble_eq_true rfl) rfl ?_
      refine g_iconst (pc := 26) (v := 0) dX9_against_26 (by decide) ?_
      refine g_istore_n (pc := 27) (L' := [(3, .int 0), (2, .int 1), (0, .ref (eA E 58)), (1, .int (nI n))]) dX9_against_27 rfl (Nat.le_of_ble_eq_true rfl) rfl ?_
      have H_28 : ∀ i : Nat, i ≤ m → G E X i_X9_against S 28 [(0, .ref (eA E 58)), (1, .int (nI n)), (2, .int (bI (allB (agP S n) i))), (3, .int (nI i))] [] := by
        refine dn_ind m (fun i hn_28 ih_28 => ?_)
        refine g_iload_n (pc := 28) dX9_against_28 3 rfl rfl ?_
        refine g_aload_n (pc := 29) dX9_against_29 0 rfl rfl ?_
        refine gf_X9_13 (pc := 30) rfl dX9_against_30 ?_
        refine g_iload_n (pc := 33) dX9_against_33 1 rfl rfl ?_
        refine g_iald (pc := 34) n rfl rfl (show n < 6 from hn) (by decide) dX9_against_34 ?_
        refine g_icmp_ge (pc := 35) (tgt := 76) dX9_against_35 (by decide) (fun c_35 => ?_) (fun c_35 => ?_)
        · have k_35 := Int32.not_lt.mpr c_35
          have he_28 : i = m := Nat.le_antisymm hn_28 (by exact nle_of (N := m) rfl hm (by omega) (by omega) c_35)
          rw [he_28]
          refine g_iload_n (pc := 76) dX9_against_76 2 rfl rfl ?_
          refine g_b_eq (pc := 77) (tgt := 84) dX9_against_77 (by decide) (fun c_77 => ?_) (fun c_77 => ?_)
          · refine g_iconst (pc := 84) (v := 3) dX9_against_84 (by decide) ?_
            exact g_iret (pc := 85) hM rfl rfl ⟨rfl, some_int (by rw [agM, if_pos ((nI_eq (b := 0) (by omega) (by omega)).mp c_19), if_neg (by rw [c_77]; decide)])⟩ dX9_against_85
          · refine g_iconst (pc := 80) (v := 0) dX9_against_80 (by decide) ?_
            refine g_goto (pc := 81) (tgt := 85) dX9_against_81 (by decide) ?_
            exact g_iret (pc := 85) hM rfl rfl ⟨rfl, some_int (by rw [agM, if_pos ((nI_eq (b := 0) (by omega) (by omega)).mp c_19), if_pos c_77])⟩ dX9_against_85
        · have k_35 := Int32.not_le.mp c_35
          have hlt_28 : i < m := by exact nlt_of (N := m) rfl hm (by omega) (by omega) c_35
          refine g_iload_n (pc := 38) dX9_against_38 2 rfl rfl ?_
          refine g_b_eq (pc := 39) (tgt := 68) dX9_against_39 (by decide) (fun c_39 => ?_) (fun c_39 => ?_)
          · refine g_iconst (pc := 68) (v := 0) dX9_against_68 (by decide) ?_
            refine g_istore_n (pc := 69) (L' := [(2, .int 0), (0, .ref (eA E 58)), (1, .int (nI n)), (3, .int (nI i))]) dX9_against_69 rfl (Nat.le_of_ble_eq_true rfl) rfl ?_
            refine g_iinc (pc := 70) (L' := [(3, .int (nI i + 1)), (2, .int 0), (0, .ref (eA E 58)), (1, .int (nI n))]) dX9_against_70 (k := 3) rfl (v := nI i + 1) rfl (Nat.le_of_ble_eq_true rfl) rfl ?_
            refine g_goto (pc := 73) (tgt := 28) dX9_against_73 (by decide) ?_
            refine g_sub (L' := [(0, .ref (eA E 58)), (1, .int (nI n)), (2, .int 0), (3, .int (nI i + 1))]) [2, 3, 1, 0] rfl ?_
            exact g_eq rfl (by rw [nI_1, show allB (agP S n) (i + 1) = (allB (agP S n) i && agP S n i) from rfl, agP]; simp only [bI, c_39, if_true, if_false, Bool.false_eq_true, Bool.not_true, Bool.not_false, Bool.and_true, Bool.true_and, Bool.and_false, Bool.false_and, Bool.or_true, Bool.true_or, Bool.or_false, Bool.false_or, decide_true, decide_false, Bool.and_self]) rfl (ih_28 hlt_28)
          · refine g_aload_n (pc := 42) dX9_against_42 0 rfl rfl ?_
            refine gf_X9_16 (pc := 43) rfl dX9_against_43 ?_
            refine g_bipush (pc := 46) (v := 40) dX9_against_46 (by decide) ?_
            refine g_iload_n (pc := 48) dX9_against_48 1 rfl rfl ?_
            refine g_imul (pc := 49) dX9_against_49 ?_
            refine g_iload_n (pc := 50) dX9_against_50 3 rfl rfl ?_
            refine g_iadd (pc := 51) dX9_against_51 ?_
            refine g_iald (pc := 52) ((40 * n) + i) (nI_aE (nI_mE rfl rfl) rfl) rfl (show (40 * n) + i < 240 by omega) (by decide) dX9_against_52 ?_
            refine g_i2l (pc := 53) dX9_against_53 ?_
            refine g_lconst (pc := 54) (v := 0) dX9_against_54 (by decide) ?_
            refine g_ldc2 (pc := 55) kw_X9_141 dX9_against_55 ?_
            refine g_invS (pc := 58) j_X9_in mw_X9_62 dX9_against_58 (by rfl) (c_X9_in E S ((gA S 61 ((40 * n) + i)).toInt64) 0 99 ) (Nat.le_of_ble_eq_true rfl) (Nat.le_of_ble_eq_true rfl) (by rfl) (Nat.le_of_ble_eq_true rfl) ?_
            refine g_b_eq (pc := 61) (tgt := 68) dX9_against_61 (by decide) (fun c_61 => ?_) (fun c_61 => ?_)
            · refine g_iconst (pc := 68) (v := 0) dX9_against_68 (by decide) ?_
              refine g_istore_n (pc := 69) (L' := [(2, .int 0), (0, .ref (eA E 58)), (1, .int (nI n)), (3, .int (nI i))]) dX9_against_69 rfl (Nat.le_of_ble_eq_true rfl) rfl ?_
              refine g_iinc (pc := 70) (L' := [(3, .int (nI i + 1)), (2, .int 0), (0, .ref (eA E 58)), (1, .int (nI n))]) dX9_against_70 (k := 3) rfl (v := nI i + 1) rfl (Nat.le_of_ble_eq_true rfl) rfl ?_
              refine g_goto (pc := 73) (tgt := 28) dX9_against_73 (by decide) ?_
              refine g_sub (L' := [(0, .ref (eA E 58)), (1, .int (nI n)), (2, .int 0), (3, .int (nI i + 1))]) [2, 3, 1, 0] rfl ?_
              exact g_eq rfl (by rw [nI_1, show allB (agP S n) (i + 1) = (allB (agP S n) i && agP S n i) from rfl, agP]; simp only [bI, c_39, c_61, if_true, if_false, Bool.false_eq_true, Bool.not_true, Bool.not_false, Bool.and_true, Bool.true_and, Bool.and_false, Bool.false_and, Bool.or_true, Bool.true_or, Bool.or_false, Bool.false_or, decide_true, decide_false, Bool.and_self]) rfl (ih_28 hlt_28)
            · refine g_iconst (pc := 64) (v := 1) dX9_against_64 (by decide) ?_
              refine g_goto (pc := 65) (tgt := 69) dX9_against_65 (by decide) ?_
              refine g_istore_n (pc := 69) (L' := [(2, .int 1), (0, .ref (eA E 58)), (1, .int (nI n)), (3, .int (nI i))]) dX9_against_69 rfl (Nat.le_of_ble_eq_true rfl) rfl ?_
              refine g_iinc (pc := 70) (L' := [(3, .int (nI i + 1)), (2, .int 1), (0, .ref (eA E 58)), (1, .int (nI n))]) dX9_against_70 (k := 3) rfl (v := nI i + 1) rfl (Nat.le_of_ble_eq_true rfl) rfl ?_
              refine g_goto (pc := 73) (tgt := 28) dX9_against_73 (by decide) ?_
              refine g_sub (L' := [(0, .ref (eA E 58)), (1, .int (nI n)), (2, .int 1), (3, .int (nI i + 1))]) [2, 3, 1, 0] rfl ?_
              exact g_eq rfl (by rw [nI_1, show allB (agP S n) (i + 1) = (allB (agP S n) i && agP S n i) from rfl, agP]; simp only [bI, c_39, c_61, if_true, if_false, Bool.false_eq_true, Bool.not_true, Bool.not_false, Bool.and_true, Bool.true_and, Bool.and_false, Bool.false_and, Bool.or_true, Bool.true_or, Bool.or_false, Bool.false_or, decide_true, decide_false, Bool.and_self]) rfl (ih_28 hlt_28)
      refine g_sub (L' := [(0, .ref (eA E 58)), (1, .int (nI n)), (2, .int 1), (3, .int 0)]) [2, 3, 1, 0] rfl ?_
      exact g_eq rfl rfl rfl (H_28 0 (Nat.zero_le _))
    · refine g_iconst (pc := 22) (v := 5) dX9_against_22 (by decide) ?_
      exact g_iret (pc := 23) hM rfl rfl ⟨rfl, some_int (by rw [agM, if_neg (fun q => c_19 (by rw [q]; rfl))])⟩ dX9_against_23
  · have k_6 := Int32.not_le.mp c_6
    exact absurd (by rw [hm]; exact nI_pos' (by omega)) c_6
set_option maxRecDepth 100000 in
set_option maxHeartbeats 4000000 in
theorem c_X9_fits (E : En) (S : St) (kind first : Int32) (n m q : Nat) (hn : n < 6) (hm : gA S 60 n = nI m) (hm2 : m ≤ 40) (hq : m = 2 * q) : CTe E i_X9_fits S [.ref (eA E 58), .int kind, .int first, .int (nI n)] S (some (.int (bI (ftM S kind first n q)))) := by
  refine ct_of [(0, .ref (eA E 58)), (1, .int kind), (2, .int first), (3, .int (nI n))] (by decide +kernel) (Nat.le_of_ble_eq_true rfl) rfl (fun X hM => ?_)
  refine g_iconst (pc := 0) (v := 1) dX9_fits_0 (by decide) ?_
  refine g_istore (pc := 1) (L' := [(4, .int 1), (0, .ref (eA E 58)), (1, .int kind), (2, .int first), (3, .int (nI n))]) dX9_fits_1 (Nat.le_of_ble_eq_true rfl) rfl ?_
  refine g_iconst (pc := 3) (v := 0) dX9_fits_3 (by decide) ?_
  refine g_istore (pc := 4) (L' := [(5, .int 0), (4, .int 1), (0, .ref (eA E 58)), (1, .int kind), (2, .int first), (3, .int (nI n))]) dX9_fits_4 (Nat.le_of_ble_eq_true rfl) rfl ?_
  have H_6 : ∀ i : Nat, i ≤ q → G E X i_X9_fits S 6 [(0, .ref (eA E 58)), (1, .int kind), (2, .int first), (3, .int (nI n)), (4, .int (bI (allB (ftP S kind first n) i))), (5, .int (nI (2 * i)))] [] := by
    refine dn_ind q (fun i hn_6 ih_6 => ?_)
    refine g_iload (pc := 6) dX9_fits_6 5 rfl ?_
    refine g_aload_n (pc := 8) dX9_fits_8 0 rfl rfl ?_
    refine gf_X9_13 (pc := 9) rfl dX9_fits_9 ?_
    refine g_iload_n (pc := 12) dX9_fits_12 3 rfl rfl ?_
    refine g_iald (pc := 13) n rfl rfl (show n < 6 from hn) (by decide) dX9_fits_13 ?_
    refine g_icmp_ge (pc := 14) (tgt := 69) dX9_fits_14 (by decide) (fun c_14 => ?_) (fun c_14 => ?_)
    · have k_14 := Int32.not_lt.mpr c_14
      have he_6 : i = q := Nat.le_antisymm hn_6 (by have := (nI_leI (a := m) (b := 2 * i) (by omega) (by omega)).mp (by rw [← hm]; exact c_14); omega)
      rw [he_6]
      refine g_iload (pc := 69) dX9_fits_69 4 rfl ?_
      exact g_iret (pc := 71) hM rfl (nar_b _) ⟨rfl, rfl⟩ dX9_fits_71
    · have k_14 := Int32.not_le.mp c_14
      have hlt_6 : i < q := by have := (nI_ltI (a := 2 * i) (b := m) (by omega) (by omega)).mp (by rw [← hm]; exact k_14); omega
      refine g_iload (pc := 17) dX9_fits_17 4 rfl ?_
      refine g_b_eq (pc := 19) (tgt := 60) dX9_fits_19 (by decide) (fun c_19 => ?_) (fun c_19 => ?_)
      · refine g_iconst (pc := 60) (v := 0) dX9_fits_60 (by decide) ?_
        refine g_istore (pc := 61) (L' := [(4, .int 0), (0, .ref (eA E 58)), (1, .int kind), (2, .int first), (3, .int (nI n)), (5, .int (nI (2 * i)))]) dX9_fits_61 (Nat.le_of_ble_eq_true rfl) rfl ?_
        refine g_iinc (pc := 63) (L' := [(5, .int (nI (2 * i) + 2)), (4, .int 0), (0, .ref (eA E 58)), (1, .int kind), (2, .int first), (3, .int (nI n))]) dX9_fits_63 (k := 5) rfl (v := nI (2 * i) + 2) rfl (Nat.le_of_ble_eq_true rfl) rfl ?_
        refine g_goto (pc := 66) (tgt := 6) dX9_fits_66 (by decide) ?_
        refine g_sub (L' := [(0, .ref (eA E 58)), (1, .int kind), (2, .int first), (3, .int (nI n)), (4, .int 0), (5, .int (nI (2 * i) + 2))]) [2, 3, 4, 5, 1, 0] rfl ?_
        exact g_eq rfl (by rw [show nI (2 * i) + 2 = nI (2 * (i + 1)) from nI_add (2 * i) 2, show allB (ftP S kind first n) (i + 1) = (allB (ftP S kind first n) i && ftP S kind first n i) from rfl, ftP]; simp only [bI, c_19, if_true, if_false, Bool.false_eq_true, Bool.not_true, Bool.not_false, Bool.and_true, Bool.true_and, Bool.and_false, Bool.false_and, Bool.or_true, Bool.true_or, Bool.or_false, Bool.false_or, decide_true, decide_false, Bool.and_self]) rfl (ih_6 hlt_6)
      · refine g_iload_n (pc := 22) dX9_fits_22 1 rfl rfl ?_
        refine g_iload_n (pc := 23) dX9_fits_23 2 rfl rfl ?_
        refine g_aload_n (pc := 24) dX9_fits_24 0 rfl rfl ?_
        refine gf_X9_16 (pc := 25) rfl dX9_fits_25 ?_
        refine g_bipush (pc := 28) (v := 40) dX9_fits_28 (by decide) ?_
        refine g_iload_n (pc := 30) dX9_fits_30 3 rfl rfl ?_
        refine g_imul (pc := 31) dX9_fits_31 ?_
        refine g_iload (pc := 32) dX9_fits_32 5 rfl ?_
        refine g_iadd (pc := 34) dX9_fits_34 ?_
        refine g_iald (pc := 35) ((40 * n) + (2 * i)) (nI_aE (nI_mE rfl rfl) rfl) rfl (show (40 * n) + (2 * i) < 240 by omega) (by decide) dX9_fits_35 ?_
        refine g_invS (pc := 36) j_X9_glowBy mw_X9_123 dX9_fits_36 (by rfl) (c_X9_glowBy E S kind first (gA S 61 ((40 * n) + (2 * i))) ) (Nat.le_of_ble_eq_true rfl) (Nat.le_of_ble_eq_true rfl) (by rfl) (Nat.le_of_ble_eq_true rfl) ?_
        refine g_aload_n (pc := 39) dX9_fits_39 0 rfl rfl ?_
        refine gf_X9_16 (pc := 40) rfl dX9_fits_40 ?_
        refine g_bipush (pc := 43) (v := 40) dX9_fits_43 (by decide) ?_
        refine g_iload_n (pc := 45) dX9_fits_45 3 rfl rfl ?_
        refine g_imul (pc := 46) dX9_fits_46 ?_
        refine g_iload (pc := 47) dX9_fits_47 5 rfl ?_
        refine g_iadd (pc := 49) dX9_fits_49 ?_
        refine g_iconst (pc := 50) (v := 1) dX9_fits_50 (by decide) ?_
        refine g_iadd (pc := 51) dX9_fits_51 ?_
        refine g_iald (pc := 52) (((40 * n) + (2 * i)) + 1) (nI_aE (nI_aE (nI_mE rfl rfl) rfl) rfl) rfl (show ((40 * n) + (2 * i)) + 1 < 240 by omega) (by decide) dX9_fits_52 ?_
        refine g_icmp_ne (pc := 53) (tgt := 60) dX9_fits_53 (by decide) (fun c_53 => ?_) (fun c_53 => ?_)
        · refine g_iconst (pc := 60) (v := 0) dX9_fits_60 (by decide) ?_
          refine g_istore (pc := 61) (L' := [(4, .int 0), (0, .ref (eA E 58)), (1, .int kind), (2, .int first), (3, .int (nI n)), (5, .int (nI (2 * i)))]) dX9_fits_61 (Nat.le_of_ble_eq_true rfl) rfl ?_
          refine g_iinc (pc := 63) (L' := [(5, .int (nI (2 * i) + 2)), (4, .int 0), (0, .ref (eA E 58)), (1, .int kind), (2, .int first), (3, .int (nI n))]) dX9_fits_63 (k := 5) rfl (v := nI (2 * i) + 2) rfl (Nat.le_of_ble_eq_true rfl) rfl ?_
          refine g_goto (pc := 66) (tgt := 6) dX9_fits_66 (by decide) ?_
          refine g_sub (L' := [(0, .ref (eA E 58)), (1, .int kind), (2, .int first), (3, .int (nI n)), (4, .int 0), (5, .int (nI (2 * i) + 2))]) [2, 3, 4, 5, 1, 0] rfl ?_
          exact g_eq rfl (by rw [show nI (2 * i) + 2 = nI (2 * (i + 1)) from nI_add (2 * i) 2, show allB (ftP S kind first n) (i + 1) = (allB (ftP S kind first n) i && ftP S kind first n i) from rfl, ftP]; simp only [bI, c_19, c_53, if_true, if_false, Bool.false_eq_true, Bool.not_true, Bool.not_false, Bool.and_true, Bool.true_and, Bool.and_false, Bool.false_and, Bool.or_true, Bool.true_or, Bool.or_false, Bool.false_or, decide_true, decide_false, Bool.and_self]) rfl (ih_6 hlt_6)
        · refine g_iconst (pc := 56) (v := 1) dX9_fits_56 (by decide) ?_
          refine g_goto (pc := 57) (tgt := 61) dX9_fits_57 (by decide) ?_
          refine g_istore (pc := 61) (L' := [(4, .int 1), (0, .ref (eA E 58)), (1, .int kind), (2, .int first), (3, .int (nI n)), (5, .int (nI (2 * i)))]) dX9_fits_61 (Nat.le_of_ble_eq_true rfl) rfl ?_
          refine g_iinc (pc := 63) (L' := [(5, .int (nI (2 * i) + 2)), (4, .int 1), (0, .ref (eA E 58)), (1, .int kind), (2, .int first), (3, .int (nI n))]) dX9_fits_63 (k := 5) rfl (v := nI (2 * i) + 2) rfl (Nat.le_of_ble_eq_true rfl) rfl ?_
          refine g_goto (pc := 66) (tgt := 6) dX9_fits_66 (by decide) ?_
          refine g_sub (L' := [(0, .ref (eA E 58)), (1, .int kind), (2, .int first), (3, .int (nI n)), (4, .int 1), (5, .int (nI (2 * i) + 2))]) [2, 3, 4, 5, 1, 0] rfl ?_
          exact g_eq rfl (by rw [show nI (2 * i) + 2 = nI (2 * (i + 1)) from nI_add (2 * i) 2, show allB (ftP S kind first n) (i + 1) = (allB (ftP S kind first n) i && ftP S kind first n i) from rfl, ftP]; simp only [bI, c_19, eq_true c_53, if_true, if_false, Bool.false_eq_true, Bool.not_true, Bool.not_false, Bool.and_true, Bool.true_and, Bool.and_false, Bool.false_and, Bool.or_true, Bool.true_or, Bool.or_false, Bool.false_or, decide_true, decide_false, Bool.and_self]) rfl (ih_6 hlt_6)
  refine g_sub (L' := [(0, .ref (eA E 58)), (1, .int kind), (2, .int first), (3, .int (nI n)), (4, .int 1), (5, .int 0)]) [2, 3, 4, 5, 1, 0] rfl ?_
  exact g_eq rfl rfl rfl (H_6 0 (Nat.zero_le _))
set_option maxRecDepth 100000 in
set_option maxHeartbeats 4000000 in
theorem c_X9_kindsOf (E : En) (S : St) (k n m q : Nat) (hk : k < 8)(hn : n < 6) (hm : gA S 60 n = nI m) (hm2 : m ≤ 40) (hq : m = 2 * q) : CTe E i_X9_kindsOf S [.ref (eA E 58), .int (nI k), .int (nI n)] S (some (.int (kiM S k n q 6))) := by
  refine ct_of [(0, .ref (eA E 58)), (1, .int (nI k)), (2, .int (nI n))] (by decide +kernel) (Nat.le_of_ble_eq_true rfl) rfl (fun X hM => ?_)
  refine g_iconst (pc := 0) (v := 0) dX9_kindsOf_0 (by decide) ?_
  refine g_istore_n (pc := 1) (L' := [(3, .int 0), (0, .ref (eA E 58)), (1, .int (nI k)), (2, .int (nI n))]) dX9_kindsOf_1 rfl (Nat.le_of_ble_eq_true rfl) rfl ?_
  refine g_iconst (pc := 2) (v := 0) dX9_kindsOf_2 (by decide) ?_
  refine g_istore (pc := 3) (L' := [(4, .int 0), (3, .int 0), (0, .ref (eA E 58)), (1, .int (nI k)), (2, .int (nI n))]) dX9_kindsOf_3 (Nat.le_of_ble_eq_true rfl) rfl ?_
  have H_5 : ∀ i : Nat, i ≤ 6 → G E X i_X9_kindsOf S 5 [(0, .ref (eA E 58)), (1, .int (nI k)), (2, .int (nI n)), (3, .int (kiM S k n q i)), (4, .int (nI i))] [] := by
    refine dn_ind 6 (fun i hn_5 ih_5 => ?_)
    refine g_iload (pc := 5) dX9_kindsOf_5 4 rfl ?_
    refine g_iconst (pc := 7) (v := 5) dX9_kindsOf_7 (by decide) ?_
    refine g_icmp_gt (pc := 8) (tgt := 47) dX9_kindsOf_8 (by decide) (fun c_8 => ?_) (fun c_8 => ?_)
    · have k_8 := Int32.not_le.mpr c_8
      have he_5 : i = 6 := Nat.le_antisymm hn_5 (by have := (nI_ltI (a := 5) (b := i) (by omega) (by omega)).mp c_8; omega)
      rw [he_5]
      refine g_iload_n (pc := 47) dX9_kindsOf_47 3 rfl rfl ?_
      exact g_iret (pc := 48) hM rfl rfl ⟨rfl, rfl⟩ dX9_kindsOf_48
    · have k_8 := Int32.not_lt.mp c_8
      have hlt_5 : i < 6 := by have := (nI_leI (a := i) (b := 5) (by omega) (by omega)).mp k_8; omega
      refine g_iload_n (pc := 11) dX9_kindsOf_11 3 rfl rfl ?_
      refine g_aload_n (pc := 12) dX9_kindsOf_12 0 rfl rfl ?_
      refine g_iload (pc := 13) dX9_kindsOf_13 4 rfl ?_
      refine g_aload_n (pc := 15) dX9_kindsOf_15 0 rfl rfl ?_
      refine gf_X9_7 (pc := 16) rfl dX9_kindsOf_16 ?_
      refine g_bipush (pc := 19) (v := 35) dX9_kindsOf_19 (by decide) ?_
      refine g_iload_n (pc := 21) dX9_kindsOf_21 1 rfl rfl ?_
      refine g_iadd (pc := 22) dX9_kindsOf_22 ?_
      refine g_iald (pc := 23) (35 + k) (nI_aE rfl rfl) rfl (show 35 + k < 1776 by omega) (by decide) dX9_kindsOf_23 ?_
      refine g_iload_n (pc := 24) dX9_kindsOf_24 2 rfl rfl ?_
      refine g_invV (pc := 25) j_X9_fits mw_X9_207 dX9_kindsOf_25 (rcv_X9) (by rfl) (c_X9_fits E S (nI i) (gA S 59 (35 + k)) n m q hn hm hm2 hq) (Nat.le_of_ble_eq_true rfl) (Nat.le_of_ble_eq_true rfl) (by rfl) (Nat.le_of_ble_eq_true rfl) ?_
      refine g_b_eq (pc := 28) (tgt := 38) dX9_kindsOf_28 (by decide) (fun c_28 => ?_) (fun c_28 => ?_)
      · refine g_iconst (pc := 38) (v := 0) dX9_kindsOf_38 (by decide) ?_
        refine g_ior (pc := 39) dX9_kindsOf_39 ?_
        refine g_istore_n (pc := 40) (L' := [(3, .int (kiM S k n q i ||| 0)), (0, .ref (eA E 58)), (1, .int (nI k)), (2, .int (nI n)), (4, .int (nI i))]) dX9_kindsOf_40 rfl (Nat.le_of_ble_eq_true rfl) rfl ?_
        refine g_iinc (pc := 41) (L' := [(4, .int (nI i + 1)), (3, .int (kiM S k n q i ||| 0)), (0, .ref (eA E 58)), (1, .int (nI k)), (2, .int (nI n))]) dX9_kindsOf_41 (k := 4) rfl (v := nI i + 1) rfl (Nat.le_of_ble_eq_true rfl) rfl ?_
        refine g_goto (pc := 44) (tgt := 5) dX9_kindsOf_44 (by decide) ?_
        refine g_sub (L' := [(0, .ref (eA E 58)), (1, .int (nI k)), (2, .int (nI n)), (3, .int (kiM S k n q i ||| 0)), (4, .int (nI i + 1))]) [2, 3, 4, 1, 0] rfl ?_
        exact g_eq rfl (by rw [nI_1, kiM, if_neg (by rw [c_28]; decide)]) rfl (ih_5 hlt_5)
      · refine g_iconst (pc := 31) (v := 1) dX9_kindsOf_31 (by decide) ?_
        refine g_iload (pc := 32) dX9_kindsOf_32 4 rfl ?_
        refine g_ishl (pc := 34) dX9_kindsOf_34 ?_
        refine g_goto (pc := 35) (tgt := 39) dX9_kindsOf_35 (by decide) ?_
        refine g_ior (pc := 39) dX9_kindsOf_39 ?_
        refine g_istore_n (pc := 40) (L' := [(3, .int (kiM S k n q i ||| ((1 : Int32) <<< ((nI i) &&& 31)))), (0, .ref (eA E 58)), (1, .int (nI k)), (2, .int (nI n)), (4, .int (nI i))]) dX9_kindsOf_40 rfl (Nat.le_of_ble_eq_true rfl) rfl ?_
        refine g_iinc (pc := 41) (L' := [(4, .int (nI i + 1)), (3, .int (kiM S k n q i ||| ((1 : Int32) <<< ((nI i) &&& 31)))), (0, .ref (eA E 58)), (1, .int (nI k)), (2, .int (nI n))]) dX9_kindsOf_41 (k := 4) rfl (v := nI i + 1) rfl (Nat.le_of_ble_eq_true rfl) rfl ?_
        refine g_goto (pc := 44) (tgt := 5) dX9_kindsOf_44 (by decide) ?_
        refine g_sub (L' := [(0, .ref (eA E 58)), (1, .int (nI k)), (2, .int (nI n)), (3, .int (kiM S k n q i ||| ((1 : Int32) <<< ((nI i) &&& 31)))), (4, .int (nI i + 1))]) [2, 3, 4, 1, 0] rfl ?_
        exact g_eq rfl (by rw [nI_1, kiM, if_pos c_28]) rfl (ih_5 hlt_5)
  refine g_sub (L' := [(0, .ref (eA E 58)), (1, .int (nI k)), (2, .int (nI n)), (3, .int 0), (4, .int 0)]) [2, 3, 4, 1, 0] rfl ?_
  exact g_eq rfl rfl rfl (H_5 0 (Nat.zero_le _))
set_option maxRecDepth 100000 in
set_option maxHeartbeats 4000000 in
theorem c_X9_firsts_bad (E : En) (S : St) (k r : Int32) (hz : okM S) (h : ¬ (idxF (nM S) k = true ∧ idxF 6 r = true)) : CTe E i_X9_firsts S [.ref (eA E 58), .int k, .int r] S (some (.int (-1))) := by
  refine ct_of [(0, .ref (eA E 58)), (1, .int k), (2, .int r)] (by decide +kernel) (Nat.le_of_ble_eq_true rfl) rfl (fun X hM => ?_)
  refine g_aload_n (pc := 0) dX9_firsts_0 0 rfl rfl ?_
  refine g_iload_n (pc := 1) dX9_firsts_1 1 rfl rfl ?_
  refine g_invV (pc := 2) j_X9_isLight mw_X9_127 dX9_firsts_2 (rcv_X9) (by rfl) (c_X9_isLight E S k (by first | assumption | omega | rfl)) (Nat.le_of_ble_eq_true rfl) (Nat.le_of_ble_eq_true rfl) (by rfl) (Nat.le_of_ble_eq_true rfl) ?_
  refine g_b_eq (pc := 5) (tgt := 15) dX9_firsts_5 (by decide) (fun c_5 => ?_) (fun c_5 => ?_)
  · refine g_iconst (pc := 15) (v := -1) dX9_firsts_15 (by decide) ?_
    exact g_iret (pc := 16) hM rfl rfl ⟨rfl, rfl⟩ dX9_firsts_16
  · refine g_iload_n (pc := 8) dX9_firsts_8 2 rfl rfl ?_
    refine g_invS (pc := 9) j_X9_isRow mw_X9_70 dX9_firsts_9 (by rfl) (c_X9_isRow E S r ) (Nat.le_of_ble_eq_true rfl) (Nat.le_of_ble_eq_true rfl) (by rfl) (Nat.le_of_ble_eq_true rfl) ?_
    refine g_b_ne (pc := 12) (tgt := 17) dX9_firsts_12 (by decide) (fun c_12 => ?_) (fun c_12 => ?_)
    · exact absurd ⟨c_5, c_12⟩ h
    · refine g_iconst (pc := 15) (v := -1) dX9_firsts_15 (by decide) ?_
      exact g_iret (pc := 16) hM rfl rfl ⟨rfl, rfl⟩ dX9_firsts_16
set_option maxRecDepth 100000 in
set_option maxHeartbeats 4000000 in
theorem c_X9_firsts_m (E : En) (S : St) (k n : Nat) (hz : okM S)(hk : k < nM S)(hn : n < 6) (h : gA S 60 n = -1) : CTe E i_X9_firsts S [.ref (eA E 58), .int (nI k), .int (nI n)] (fndS S 1) (some (.int (-3))) := by
  have hz8 := hz.2
  have hx := idx_in hk (show nM S < 2 ^ 31 by omega)
  have hr := idx_in hn (show 6 < 2 ^ 31 by omega)
  refine ct_of [(0, .ref (eA E 58)), (1, .int (nI k)), (2, .int (nI n))] (by decide +kernel) (Nat.le_of_ble_eq_true rfl) rfl (fun X hM => ?_)
  refine g_aload_n (pc := 0) dX9_firsts_0 0 rfl rfl ?_
  refine g_iload_n (pc := 1) dX9_firsts_1 1 rfl rfl ?_
  refine g_invV (pc := 2) j_X9_isLight mw_X9_127 dX9_firsts_2 (rcv_X9) (by rfl) (c_X9_isLight E S (nI k) (by first | assumption | omega | rfl)) (Nat.le_of_ble_eq_true rfl) (Nat.le_of_ble_eq_true rfl) (by rfl) (Nat.le_of_ble_eq_true rfl) ?_
  refine g_b_eq (pc := 5) (tgt := 15) dX9_firsts_5 (by decide) (fun c_5 => ?_) (fun c_5 => ?_)
  · exact absurd (hx.symm.trans c_5) (by decide)
  · refine g_iload_n (pc := 8) dX9_firsts_8 2 rfl rfl ?_
    refine g_invS (pc := 9) j_X9_isRow mw_X9_70 dX9_firsts_9 (by rfl) (c_X9_isRow E S (nI n) ) (Nat.le_of_ble_eq_true rfl) (Nat.le_of_ble_eq_true rfl) (by rfl) (Nat.le_of_ble_eq_true rfl) ?_
    refine g_b_ne (pc := 12) (tgt := 17) dX9_firsts_12 (by decide) (fun c_12 => ?_) (fun c_12 => ?_)
    · refine g_aload_n (pc := 17) dX9_firsts_17 0 rfl rfl ?_
      refine g_iload_n (pc := 18) dX9_firsts_18 2 rfl rfl ?_
      refine g_invV (pc := 19) j_X9_against mw_X9_204 dX9_firsts_19 (rcv_X9) (by rfl) (c_X9_against_m E S n (by first | assumption | omega | rfl) (by first | assumption | omega | rfl)) (Nat.le_of_ble_eq_true rfl) (Nat.le_of_ble_eq_true rfl) (by rfl) (Nat.le_of_ble_eq_true rfl) ?_
      refine g_istore_n (pc := 22) (L' := [(3, .int 1), (0, .ref (eA E 58)), (1, .int (nI k)), (2, .int (nI n))]) dX9_firsts_22 rfl (Nat.le_of_ble_eq_true rfl) rfl ?_
      refine g_iload_n (pc := 23) dX9_firsts_23 0 rfl rfl ?_
      refine g_if_le (pc := 24) (tgt := 33) dX9_firsts_24 (by decide) (fun c_24 => ?_) (fun c_24 => ?_)
      · have k_24 := Int32.not_lt.mpr c_24
        exact absurd c_24 (by decide)
      · have k_24 := Int32.not_le.mp c_24
        refine g_aload_n (pc := 27) dX9_firsts_27 1 rfl rfl ?_
        refine g_iload_n (pc := 28) dX9_firsts_28 0 rfl rfl ?_
        refine g_invV (pc := 29) j_X9_finds mw_X9_74 dX9_firsts_29 (rcv_X9) (by rfl) (c_X9_finds E S 1 (by first | assumption | omega | rfl)) (Nat.le_of_ble_eq_true rfl) (Nat.le_of_ble_eq_true rfl) (by rfl) (Nat.le_of_ble_eq_true rfl) ?_
        exact g_iret (pc := 32) hM rfl rfl ⟨rfl, rfl⟩ dX9_firsts_32
    · exact absurd (hr.symm.trans c_12) (by decide)
set_option maxRecDepth 100000 in
set_option maxHeartbeats 4000000 in
theorem c_X9_firsts_s (E : En) (S : St) (k n m f : Nat) (hz : okM S)(hk : k < nM S)(hn : n < 6) (hm : gA S 60 n = nI m) (hm2 : m ≤ 40) (hf : agM S n m = nI f) (hf0 : 0 < f) (hf6 : f < 6) : CTe E i_X9_firsts S [.ref (eA E 58), .int (nI k), .int (nI n)] (fndS S f) (some (.int (-3))) := by
  have hz8 := hz.2
  have hx := idx_in hk (show nM S < 2 ^ 31 by omega)
  have hr := idx_in hn (show 6 < 2 ^ 31 by omega)
  refine ct_of [(0, .ref (eA E 58)), (1, .int (nI k)), (2, .int (nI n))] (by decide +kernel) (Nat.le_of_ble_eq_true rfl) rfl (fun X hM => ?_)
  refine g_aload_n (pc := 0) dX9_firsts_0 0 rfl rfl ?_
  refine g_iload_n (pc := 1) dX9_firsts_1 1 rfl rfl ?_
  refine g_invV (pc := 2) j_X9_isLight mw_X9_127 dX9_firsts_2 (rcv_X9) (by rfl) (c_X9_isLight E S (nI k) (by first | assumption | omega | rfl)) (Nat.le_of_ble_eq_true rfl) (Nat.le_of_ble_eq_true rfl) (by rfl) (Nat.le_of_ble_eq_true rfl) ?_
  refine g_b_eq (pc := 5) (tgt := 15) dX9_firsts_5 (by decide) (fun c_5 => ?_) (fun c_5 => ?_)
  · exact absurd (hx.symm.trans c_5) (by decide)
  · refine g_iload_n (pc := 8) dX9_firsts_8 2 rfl rfl ?_
    refine g_invS (pc := 9) j_X9_isRow mw_X9_70 dX9_firsts_9 (by rfl) (c_X9_isRow E S (nI n) ) (Nat.le_of_ble_eq_true rfl) (Nat.le_of_ble_eq_true rfl) (by rfl) (Nat.le_of_ble_eq_true rfl) ?_
    refine g_b_ne (pc := 12) (tgt := 17) dX9_firsts_12 (by decide) (fun c_12 => ?_) (fun c_12 => ?_)
    · refine g_aload_n (pc := 17) dX9_firsts_17 0 rfl rfl ?_
      refine g_iload_n (pc := 18) dX9_firsts_18 2 rfl rfl ?_
      refine g_invV (pc := 19) j_X9_against mw_X9_204 dX9_firsts_19 (rcv_X9) (by rfl) (c_X9_against_ok E S n m (by first | assumption | omega | rfl) (by first | assumption | omega | rfl) (by first | assumption | omega | rfl)) (Nat.le_of_ble_eq_true rfl) (Nat.le_of_ble_eq_true rfl) (by rfl) (Nat.le_of_ble_eq_true rfl) ?_
      refine g_istore_n (pc := 22) (L' := [(3, .int (agM S n m)), (0, .ref (eA E 58)), (1, .int (nI k)), (2, .int (nI n))]) dX9_firsts_22 rfl (Nat.le_of_ble_eq_true rfl) rfl ?_
      refine g_iload_n (pc := 23) dX9_firsts_23 0 rfl rfl ?_
      refine g_if_le (pc := 24) (tgt := 33) dX9_firsts_24 (by decide) (fun c_24 => ?_) (fun c_24 => ?_)
      · have k_24 := Int32.not_lt.mpr c_24
        exact absurd c_24 (by rw [hf]; exact Int32.not_le.mpr (nI_gt0 hf0 (by omega)))
      · have k_24 := Int32.not_le.mp c_24
        refine g_aload_n (pc := 27) dX9_firsts_27 1 rfl rfl ?_
        refine g_iload_n (pc := 28) dX9_firsts_28 0 rfl rfl ?_
        rw [hf]
        refine g_invV (pc := 29) j_X9_finds mw_X9_74 dX9_firsts_29 (rcv_X9) (by rfl) (c_X9_finds E S f hf6) (Nat.le_of_ble_eq_true rfl) (Nat.le_of_ble_eq_true rfl) (by rfl) (Nat.le_of_ble_eq_true rfl) ?_
        exact g_iret (pc := 32) hM rfl rfl ⟨rfl, rfl⟩ dX9_firsts_32
    · exact absurd (hr.symm.trans c_12) (by decide)
set_option maxRecDepth 100000 in
set_option maxHeartbeats 4000000 in
theorem c_X9_kinds_bad (E : En) (S : St) (k r : Int32) (hz : okM S) (h : ¬ (idxF (nM S) k = true ∧ idxF 6 r = true)) : CTe E i_X9_kinds S [.ref (eA E 58), .int k, .int r] S (some (.int (-1))) := by
  refine ct_of [(0, .ref (eA E 58)), (1, .int k), (2, .int r)] (by decide +kernel) (Nat.le_of_ble_eq_true rfl) rfl (fun X hM => ?_)
  refine g_aload_n (pc := 0) dX9_kinds_0 0 rfl rfl ?_
  refine g_iload_n (pc := 1) dX9_kinds_1 1 rfl rfl ?_
  refine g_invV (pc := 2) j_X9_isLight mw_X9_127 dX9_kinds_2 (rcv_X9) (by rfl) (c_X9_isLight E S k (by first | assumption | omega | rfl)) (Nat.le_of_ble_eq_true rfl) (Nat.le_of_ble_eq_true rfl) (by rfl) (Nat.le_of_ble_eq_true rfl) ?_
  refine g_b_eq (pc := 5) (tgt := 15) dX9_kinds_5 (by decide) (fun c_5 => ?_) (fun c_5 => ?_)
  · refine g_iconst (pc := 15) (v := -1) dX9_kinds_15 (by decide) ?_
    exact g_iret (pc := 16) hM rfl rfl ⟨rfl, rfl⟩ dX9_kinds_16
  · refine g_iload_n (pc := 8) dX9_kinds_8 2 rfl rfl ?_
    refine g_invS (pc := 9) j_X9_isRow mw_X9_70 dX9_kinds_9 (by rfl) (c_X9_isRow E S r ) (Nat.le_of_ble_eq_true rfl) (Nat.le_of_ble_eq_true rfl) (by rfl) (Nat.le_of_ble_eq_true rfl) ?_
    refine g_b_ne (pc := 12) (tgt := 17) dX9_kinds_12 (by decide) (fun c_12 => ?_) (fun c_12 => ?_)
    · exact absurd ⟨c_5, c_12⟩ h
    · refine g_iconst (pc := 15) (v := -1) dX9_kinds_15 (by decide) ?_
      exact g_iret (pc := 16) hM rfl rfl ⟨rfl, rfl⟩ dX9_kinds_16
set_option maxRecDepth 100000 in
set_option maxHeartbeats 4000000 in
theorem c_X9_kinds_m (E : En) (S : St) (k n : Nat) (hz : okM S)(hk : k < nM S)(hn : n < 6) (h : gA S 60 n = -1) : CTe E i_X9_kinds S [.ref (eA E 58), .int (nI k), .int (nI n)] (fndS S 1) (some (.int (-3))) := by
  have hz8 := hz.2
  have hx := idx_in hk (show nM S < 2 ^ 31 by omega)
  have hr := idx_in hn (show 6 < 2 ^ 31 by omega)
  refine ct_of [(0, .ref (eA E 58)), (1, .int (nI k)), (2, .int (nI n))] (by decide +kernel) (Nat.le_of_ble_eq_true rfl) rfl (fun X hM => ?_)
  refine g_aload_n (pc := 0) dX9_kinds_0 0 rfl rfl ?_
  refine g_iload_n (pc := 1) dX9_kinds_1 1 rfl rfl ?_
  refine g_invV (pc := 2) j_X9_isLight mw_X9_127 dX9_kinds_2 (rcv_X9) (by rfl) (c_X9_isLight E S (nI k) (by first | assumption | omega | rfl)) (Nat.le_of_ble_eq_true rfl) (Nat.le_of_ble_eq_true rfl) (by rfl) (Nat.le_of_ble_eq_true rfl) ?_
  refine g_b_eq (pc := 5) (tgt := 15) dX9_kinds_5 (by decide) (fun c_5 => ?_) (fun c_5 => ?_)
  · exact absurd (hx.symm.trans c_5) (by decide)
  · refine g_iload_n (pc := 8) dX9_kinds_8 2 rfl rfl ?_
    refine g_invS (pc := 9) j_X9_isRow mw_X9_70 dX9_kinds_9 (by rfl) (c_X9_isRow E S (nI n) ) (Nat.le_of_ble_eq_true rfl) (Nat.le_of_ble_eq_true rfl) (by rfl) (Nat.le_of_ble_eq_true rfl) ?_
    refine g_b_ne (pc := 12) (tgt := 17) dX9_kinds_12 (by decide) (fun c_12 => ?_) (fun c_12 => ?_)
    · refine g_aload_n (pc := 17) dX9_kinds_17 0 rfl rfl ?_
      refine g_iload_n (pc := 18) dX9_kinds_18 2 rfl rfl ?_
      refine g_invV (pc := 19) j_X9_against mw_X9_204 dX9_kinds_19 (rcv_X9) (by rfl) (c_X9_against_m E S n (by first | assumption | omega | rfl) (by first | assumption | omega | rfl)) (Nat.le_of_ble_eq_true rfl) (Nat.le_of_ble_eq_true rfl) (by rfl) (Nat.le_of_ble_eq_true rfl) ?_
      refine g_istore_n (pc := 22) (L' := [(3, .int 1), (0, .ref (eA E 58)), (1, .int (nI k)), (2, .int (nI n))]) dX9_kinds_22 rfl (Nat.le_of_ble_eq_true rfl) rfl ?_
      refine g_iload_n (pc := 23) dX9_kinds_23 0 rfl rfl ?_
      refine g_if_le (pc := 24) (tgt := 35) dX9_kinds_24 (by decide) (fun c_24 => ?_) (fun c_24 => ?_)
      · have k_24 := Int32.not_lt.mpr c_24
        exact absurd c_24 (by decide)
      · have k_24 := Int32.not_le.mp c_24
        refine g_aload_n (pc := 27) dX9_kinds_27 1 rfl rfl ?_
        refine g_iload_n (pc := 28) dX9_kinds_28 0 rfl rfl ?_
        refine g_invV (pc := 29) j_X9_finds mw_X9_74 dX9_kinds_29 (rcv_X9) (by rfl) (c_X9_finds E S 1 (by first | assumption | omega | rfl)) (Nat.le_of_ble_eq_true rfl) (Nat.le_of_ble_eq_true rfl) (by rfl) (Nat.le_of_ble_eq_true rfl) ?_
        refine g_goto (pc := 32) (tgt := 41) dX9_kinds_32 (by decide) ?_
        exact g_iret (pc := 41) hM rfl rfl ⟨rfl, rfl⟩ dX9_kinds_41
    · exact absurd (hr.symm.trans c_12) (by decide)
set_option maxRecDepth 100000 in
set_option maxHeartbeats 4000000 in
theorem c_X9_kinds_s (E : En) (S : St) (k n m f : Nat) (hz : okM S)(hk : k < nM S)(hn : n < 6) (hm : gA S 60 n = nI m) (hm2 : m ≤ 40) (hf : agM S n m = nI f) (hf0 : 0 < f) (hf6 : f < 6) : CTe E i_X9_kinds S [.ref (eA E 58), .int (nI k), .int (nI n)] (fndS S f) (some (.int (-3))) := by
  have hz8 := hz.2
  have hx := idx_in hk (show nM S < 2 ^ 31 by omega)
  have hr := idx_in hn (show 6 < 2 ^ 31 by omega)
  refine ct_of [(0, .ref (eA E 58)), (1, .int (nI k)), (2, .int (nI n))] (by decide +kernel) (Nat.le_of_ble_eq_true rfl) rfl (fun X hM => ?_)
  refine g_aload_n (pc := 0) dX9_kinds_0 0 rfl rfl ?_
  refine g_iload_n (pc := 1) dX9_kinds_1 1 rfl rfl ?_
  refine g_invV (pc := 2) j_X9_isLight mw_X9_127 dX9_kinds_2 (rcv_X9) (by rfl) (c_X9_isLight E S (nI k) (by first | assumption | omega | rfl)) (Nat.le_of_ble_eq_true rfl) (Nat.le_of_ble_eq_true rfl) (by rfl) (Nat.le_of_ble_eq_true rfl) ?_
  refine g_b_eq (pc := 5) (tgt := 15) dX9_kinds_5 (by decide) (fun c_5 => ?_) (fun c_5 => ?_)
  · exact absurd (hx.symm.trans c_5) (by decide)
  · refine g_iload_n (pc := 8) dX9_kinds_8 2 rfl rfl ?_
    refine g_invS (pc := 9) j_X9_isRow mw_X9_70 dX9_kinds_9 (by rfl) (c_X9_isRow E S (nI n) ) (Nat.le_of_ble_eq_true rfl) (Nat.le_of_ble_eq_true rfl) (by rfl) (Nat.le_of_ble_eq_true rfl) ?_
    refine g_b_ne (pc := 12) (tgt := 17) dX9_kinds_12 (by decide) (fun c_12 => ?_) (fun c_12 => ?_)
    · refine g_aload_n (pc := 17) dX9_kinds_17 0 rfl rfl ?_
      refine g_iload_n (pc := 18) dX9_kinds_18 2 rfl rfl ?_
      refine g_invV (pc := 19) j_X9_against mw_X9_204 dX9_kinds_19 (rcv_X9) (by rfl) (c_X9_against_ok E S n m (by first | assumption | omega | rfl) (by first | assumption | omega | rfl) (by first | assumption | omega | rfl)) (Nat.le_of_ble_eq_true rfl) (Nat.le_of_ble_eq_true rfl) (by rfl) (Nat.le_of_ble_eq_true rfl) ?_
      refine g_istore_n (pc := 22) (L' := [(3, .int (agM S n m)), (0, .ref (eA E 58)), (1, .int (nI k)), (2, .int (nI n))]) dX9_kinds_22 rfl (Nat.le_of_ble_eq_true rfl) rfl ?_
      refine g_iload_n (pc := 23) dX9_kinds_23 0 rfl rfl ?_
      refine g_if_le (pc := 24) (tgt := 35) dX9_kinds_24 (by decide) (fun c_24 => ?_) (fun c_24 => ?_)
      · have k_24 := Int32.not_lt.mpr c_24
        exact absurd c_24 (by rw [hf]; exact Int32.not_le.mpr (nI_gt0 hf0 (by omega)))
      · have k_24 := Int32.not_le.mp c_24
        refine g_aload_n (pc := 27) dX9_kinds_27 1 rfl rfl ?_
        refine g_iload_n (pc := 28) dX9_kinds_28 0 rfl rfl ?_
        rw [hf]
        refine g_invV (pc := 29) j_X9_finds mw_X9_74 dX9_kinds_29 (rcv_X9) (by rfl) (c_X9_finds E S f hf6) (Nat.le_of_ble_eq_true rfl) (Nat.le_of_ble_eq_true rfl) (by rfl) (Nat.le_of_ble_eq_true rfl) ?_
        refine g_goto (pc := 32) (tgt := 41) dX9_kinds_32 (by decide) ?_
        exact g_iret (pc := 41) hM rfl rfl ⟨rfl, rfl⟩ dX9_kinds_41
    · exact absurd (hr.symm.trans c_12) (by decide)
set_option maxRecDepth 100000 in
set_option maxHeartbeats 4000000 in
theorem c_X9_test_bad (E : En) (S : St) (k r : Int32) (hz : okM S) (h : ¬ (idxF (nM S) k = true ∧ idxF 6 r = true)) : CTe E i_X9_test S [.ref (eA E 58), .int k, .int r] S (some (.int (-1))) := by
  refine ct_of [(0, .ref (eA E 58)), (1, .int k), (2, .int r)] (by decide +kernel) (Nat.le_of_ble_eq_true rfl) rfl (fun X hM => ?_)
  refine g_aload_n (pc := 0) dX9_test_0 0 rfl rfl ?_
  refine g_iload_n (pc := 1) dX9_test_1 1 rfl rfl ?_
  refine g_invV (pc := 2) j_X9_isLight mw_X9_127 dX9_test_2 (rcv_X9) (by rfl) (c_X9_isLight E S k (by first | assumption | omega | rfl)) (Nat.le_of_ble_eq_true rfl) (Nat.le_of_ble_eq_true rfl) (by rfl) (Nat.le_of_ble_eq_true rfl) ?_
  refine g_b_eq (pc := 5) (tgt := 15) dX9_test_5 (by decide) (fun c_5 => ?_) (fun c_5 => ?_)
  · refine g_iconst (pc := 15) (v := -1) dX9_test_15 (by decide) ?_
    exact g_iret (pc := 16) hM rfl rfl ⟨rfl, rfl⟩ dX9_test_16
  · refine g_iload_n (pc := 8) dX9_test_8 2 rfl rfl ?_
    refine g_invS (pc := 9) j_X9_isRow mw_X9_70 dX9_test_9 (by rfl) (c_X9_isRow E S r ) (Nat.le_of_ble_eq_true rfl) (Nat.le_of_ble_eq_true rfl) (by rfl) (Nat.le_of_ble_eq_true rfl) ?_
    refine g_b_ne (pc := 12) (tgt := 17) dX9_test_12 (by decide) (fun c_12 => ?_) (fun c_12 => ?_)
    · exact absurd ⟨c_5, c_12⟩ h
    · refine g_iconst (pc := 15) (v := -1) dX9_test_15 (by decide) ?_
      exact g_iret (pc := 16) hM rfl rfl ⟨rfl, rfl⟩ dX9_test_16
set_option maxRecDepth 100000 in
set_option maxHeartbeats 4000000 in
theorem c_X9_test_m (E : En) (S : St) (k n : Nat) (hz : okM S)(hk : k < nM S)(hn : n < 6) (h : gA S 60 n = -1) : CTe E i_X9_test S [.ref (eA E 58), .int (nI k), .int (nI n)] (fndS S 1) (some (.int (-3))) := by
  have hz8 := hz.2
  have hx := idx_in hk (show nM S < 2 ^ 31 by omega)
  have hr := idx_in hn (show 6 < 2 ^ 31 by omega)
  refine ct_of [(0, .ref (eA E 58)), (1, .int (nI k)), (2, .int (nI n))] (by decide +kernel) (Nat.le_of_ble_eq_true rfl) rfl (fun X hM => ?_)
  refine g_aload_n (pc := 0) dX9_test_0 0 rfl rfl ?_
  refine g_iload_n (pc := 1) dX9_test_1 1 rfl rfl ?_
  refine g_invV (pc := 2) j_X9_isLight mw_X9_127 dX9_test_2 (rcv_X9) (by rfl) (c_X9_isLight E S (nI k) (by first | assumption | omega | rfl)) (Nat.le_of_ble_eq_true rfl) (Nat.le_of_ble_eq_true rfl) (by rfl) (Nat.le_of_ble_eq_true rfl) ?_
  refine g_b_eq (pc := 5) (tgt := 15) dX9_test_5 (by decide) (fun c_5 => ?_) (fun c_5 => ?_)
  · exact absurd (hx.symm.trans c_5) (by decide)
  · refine g_iload_n (pc := 8) dX9_test_8 2 rfl rfl ?_
    refine g_invS (pc := 9) j_X9_isRow mw_X9_70 dX9_test_9 (by rfl) (c_X9_isRow E S (nI n) ) (Nat.le_of_ble_eq_true rfl) (Nat.le_of_ble_eq_true rfl) (by rfl) (Nat.le_of_ble_eq_true rfl) ?_
    refine g_b_ne (pc := 12) (tgt := 17) dX9_test_12 (by decide) (fun c_12 => ?_) (fun c_12 => ?_)
    · refine g_aload_n (pc := 17) dX9_test_17 0 rfl rfl ?_
      refine g_iload_n (pc := 18) dX9_test_18 2 rfl rfl ?_
      refine g_invV (pc := 19) j_X9_against mw_X9_204 dX9_test_19 (rcv_X9) (by rfl) (c_X9_against_m E S n (by first | assumption | omega | rfl) (by first | assumption | omega | rfl)) (Nat.le_of_ble_eq_true rfl) (Nat.le_of_ble_eq_true rfl) (by rfl) (Nat.le_of_ble_eq_true rfl) ?_
      refine g_istore_n (pc := 22) (L' := [(3, .int 1), (0, .ref (eA E 58)), (1, .int (nI k)), (2, .int (nI n))]) dX9_test_22 rfl (Nat.le_of_ble_eq_true rfl) rfl ?_
      refine g_iload_n (pc := 23) dX9_test_23 0 rfl rfl ?_
      refine g_if_le (pc := 24) (tgt := 33) dX9_test_24 (by decide) (fun c_24 => ?_) (fun c_24 => ?_)
      · have k_24 := Int32.not_lt.mpr c_24
        exact absurd c_24 (by decide)
      · have k_24 := Int32.not_le.mp c_24
        refine g_aload_n (pc := 27) dX9_test_27 1 rfl rfl ?_
        refine g_iload_n (pc := 28) dX9_test_28 0 rfl rfl ?_
        refine g_invV (pc := 29) j_X9_finds mw_X9_74 dX9_test_29 (rcv_X9) (by rfl) (c_X9_finds E S 1 (by first | assumption | omega | rfl)) (Nat.le_of_ble_eq_true rfl) (Nat.le_of_ble_eq_true rfl) (by rfl) (Nat.le_of_ble_eq_true rfl) ?_
        exact g_iret (pc := 32) hM rfl rfl ⟨rfl, rfl⟩ dX9_test_32
    · exact absurd (hr.symm.trans c_12) (by decide)
set_option maxRecDepth 100000 in
set_option maxHeartbeats 4000000 in
theorem c_X9_test_s (E : En) (S : St) (k n m f : Nat) (hz : okM S)(hk : k < nM S)(hn : n < 6) (hm : gA S 60 n = nI m) (hm2 : m ≤ 40) (hf : agM S n m = nI f) (hf0 : 0 < f) (hf6 : f < 6) : CTe E i_X9_test S [.ref (eA E 58), .int (nI k), .int (nI n)] (fndS S f) (some (.int (-3))) := by
  have hz8 := hz.2
  have hx := idx_in hk (show nM S < 2 ^ 31 by omega)
  have hr := idx_in hn (show 6 < 2 ^ 31 by omega)
  refine ct_of [(0, .ref (eA E 58)), (1, .int (nI k)), (2, .int (nI n))] (by decide +kernel) (Nat.le_of_ble_eq_true rfl) rfl (fun X hM => ?_)
  refine g_aload_n (pc := 0) dX9_test_0 0 rfl rfl ?_
  refine g_iload_n (pc := 1) dX9_test_1 1 rfl rfl ?_
  refine g_invV (pc := 2) j_X9_isLight mw_X9_127 dX9_test_2 (rcv_X9) (by rfl) (c_X9_isLight E S (nI k) (by first | assumption | omega | rfl)) (Nat.le_of_ble_eq_true rfl) (Nat.le_of_ble_eq_true rfl) (by rfl) (Nat.le_of_ble_eq_true rfl) ?_
  refine g_b_eq (pc := 5) (tgt := 15) dX9_test_5 (by decide) (fun c_5 => ?_) (fun c_5 => ?_)
  · exact absurd (hx.symm.trans c_5) (by decide)
  · refine g_iload_n (pc := 8) dX9_test_8 2 rfl rfl ?_
    refine g_invS (pc := 9) j_X9_isRow mw_X9_70 dX9_test_9 (by rfl) (c_X9_isRow E S (nI n) ) (Nat.le_of_ble_eq_true rfl) (Nat.le_of_ble_eq_true rfl) (by rfl) (Nat.le_of_ble_eq_true rfl) ?_
    refine g_b_ne (pc := 12) (tgt := 17) dX9_test_12 (by decide) (fun c_12 => ?_) (fun c_12 => ?_)
    · refine g_aload_n (pc := 17) dX9_test_17 0 rfl rfl ?_
      refine g_iload_n (pc := 18) dX9_test_18 2 rfl rfl ?_
      refine g_invV (pc := 19) j_X9_against mw_X9_204 dX9_test_19 (rcv_X9) (by rfl) (c_X9_against_ok E S n m (by first | assumption | omega | rfl) (by first | assumption | omega | rfl) (by first | assumption | omega | rfl)) (Nat.le_of_ble_eq_true rfl) (Nat.le_of_ble_eq_true rfl) (by rfl) (Nat.le_of_ble_eq_true rfl) ?_
      refine g_istore_n (pc := 22) (L' := [(3, .int (agM S n m)), (0, .ref (eA E 58)), (1, .int (nI k)), (2, .int (nI n))]) dX9_test_22 rfl (Nat.le_of_ble_eq_true rfl) rfl ?_
      refine g_iload_n (pc := 23) dX9_test_23 0 rfl rfl ?_
      refine g_if_le (pc := 24) (tgt := 33) dX9_test_24 (by decide) (fun c_24 => ?_) (fun c_24 => ?_)
      · have k_24 := Int32.not_lt.mpr c_24
        exact absurd c_24 (by rw [hf]; exact Int32.not_le.mpr (nI_gt0 hf0 (by omega)))
      · have k_24 := Int32.not_le.mp c_24
        refine g_aload_n (pc := 27) dX9_test_27 1 rfl rfl ?_
        refine g_iload_n (pc := 28) dX9_test_28 0 rfl rfl ?_
        rw [hf]
        refine g_invV (pc := 29) j_X9_finds mw_X9_74 dX9_test_29 (rcv_X9) (by rfl) (c_X9_finds E S f hf6) (Nat.le_of_ble_eq_true rfl) (Nat.le_of_ble_eq_true rfl) (by rfl) (Nat.le_of_ble_eq_true rfl) ?_
        exact g_iret (pc := 32) hM rfl rfl ⟨rfl, rfl⟩ dX9_test_32
    · exact absurd (hr.symm.trans c_12) (by decide)
set_option maxRecDepth 100000 in
set_option maxHeartbeats 4000000 in
theorem c_X9_firsts_ok (E : En) (S : St) (k n m q : Nat) (hz : okM S)(hk : k < nM S)(hn : n < 6) (hm : gA S 60 n = nI m) (hm2 : m ≤ 40) (hg : agM S n m = 0) (hq : m = 2 * q) : CTe E i_X9_firsts S [.ref (eA E 58), .int (nI k), .int (nI n)] S (some (.int (fiM S k n q 10))) := by
  have hz8 := hz.2
  have hx := idx_in hk (show nM S < 2 ^ 31 by omega)
  have hr := idx_in hn (show 6 < 2 ^ 31 by omega)
  refine ct_of [(0, .ref (eA E 58)), (1, .int (nI k)), (2, .int (nI n))] (by decide +kernel) (Nat.le_of_ble_eq_true rfl) rfl (fun X hM => ?_)
  refine g_aload_n (pc := 0) dX9_firsts_0 0 rfl rfl ?_
  refine g_iload_n (pc := 1) dX9_firsts_1 1 rfl rfl ?_
  refine g_invV (pc := 2) j_X9_isLight mw_X9_127 dX9_firsts_2 (rcv_X9) (by rfl) (c_X9_isLight E S (nI k) (by first | assumption | omega | rfl)) (Nat.le_of_ble_eq_true rfl) (Nat.le_of_ble_eq_true rfl) (by rfl) (Nat.le_of_ble_eq_true rfl) ?_
  refine g_b_eq (pc := 5) (tgt := 15) dX9_firsts_5 (by decide) (fun c_5 => ?_) (fun c_5 => ?_)
  · exact absurd (hx.symm.trans c_5) (by decide)
  · refine g_iload_n (pc := 8) dX9_firsts_8 2 rfl rfl ?_
    refine g_invS (pc := 9) j_X9_isRow mw_X9_70 dX9_firsts_9 (by rfl) (c_X9_isRow E S (nI n) ) (Nat.le_of_ble_eq_true rfl) (Nat.le_of_ble_eq_true rfl) (by rfl) (Nat.le_of_ble_eq_true rfl) ?_
    refine g_b_ne (pc := 12) (tgt := 17) dX9_firsts_12 (by decide) (fun c_12 => ?_) (fun c_12 => ?_)
    · refine g_aload_n (pc := 17) dX9_firsts_17 0 rfl rfl ?_
      refine g_iload_n (pc := 18) dX9_firsts_18 2 rfl rfl ?_
      refine g_invV (pc := 19) j_X9_against mw_X9_204 dX9_firsts_19 (rcv_X9) (by rfl) (c_X9_against_ok E S n m hn hm hm2) (Nat.le_of_ble_eq_true rfl) (Nat.le_of_ble_eq_true rfl) (by rfl) (Nat.le_of_ble_eq_true rfl) ?_
      refine g_istore_n (pc := 22) (L' := [(3, .int (agM S n m)), (0, .ref (eA E 58)), (1, .int (nI k)), (2, .int (nI n))]) dX9_firsts_22 rfl (Nat.le_of_ble_eq_true rfl) rfl ?_
      refine g_iload_n (pc := 23) dX9_firsts_23 0 rfl rfl ?_
      refine g_if_le (pc := 24) (tgt := 33) dX9_firsts_24 (by decide) (fun c_24 => ?_) (fun c_24 => ?_)
      · have k_24 := Int32.not_lt.mpr c_24
        refine g_iconst (pc := 33) (v := 0) dX9_firsts_33 (by decide) ?_
        refine g_istore (pc := 34) (L' := [(4, .int 0), (3, .int (agM S n m)), (0, .ref (eA E 58)), (1, .int (nI k)), (2, .int (nI n))]) dX9_firsts_34 (Nat.le_of_ble_eq_true rfl) rfl ?_
        refine g_iconst (pc := 36) (v := 0) dX9_firsts_36 (by decide) ?_
        refine g_istore (pc := 37) (L' := [(5, .int 0), (4, .int 0), (3, .int (agM S n m)), (0, .ref (eA E 58)), (1, .int (nI k)), (2, .int (nI n))]) dX9_firsts_37 (Nat.le_of_ble_eq_true rfl) rfl ?_
        have H_39 : ∀ i : Nat, i ≤ 10 → G E X i_X9_firsts S 39 [(0, .ref (eA E 58)), (1, .int (nI k)), (2, .int (nI n)), (4, .int (fiM S k n q i)), (5, .int (nI i))] [] := by
          refine dn_ind 10 (fun i hn_39 ih_39 => ?_)
          refine g_iload (pc := 39) dX9_firsts_39 4 rfl ?_
          refine g_bipush (pc := 41) (v := 10) dX9_firsts_41 (by decide) ?_
          refine g_icmp_ge (pc := 43) (tgt := 84) dX9_firsts_43 (by decide) (fun c_43 => ?_) (fun c_43 => ?_)
          · have k_43 := Int32.not_lt.mpr c_43
            have he_39 : i = 10 := Nat.le_antisymm hn_39 (by exact nle_of (N := 10) rfl rfl (by omega) (by omega) c_43)
            rw [he_39]
            refine g_iload (pc := 84) dX9_firsts_84 3 rfl ?_
            exact g_iret (pc := 86) hM rfl rfl ⟨rfl, rfl⟩ dX9_firsts_86
          · have k_43 := Int32.not_le.mp c_43
            have hlt_39 : i < 10 := by exact nlt_of (N := 10) rfl rfl (by omega) (by omega) c_43
            refine g_iload (pc := 46) dX9_firsts_46 3 rfl ?_
            refine g_aload_n (pc := 48) dX9_firsts_48 0 rfl rfl ?_
            refine g_aload_n (pc := 49) dX9_firsts_49 0 rfl rfl ?_
            refine gf_X9_7 (pc := 50) rfl dX9_firsts_50 ?_
            refine g_bipush (pc := 53) (v := 11) dX9_firsts_53 (by decide) ?_
            refine g_iload_n (pc := 55) dX9_firsts_55 1 rfl rfl ?_
            refine g_iadd (pc := 56) dX9_firsts_56 ?_
            refine g_iald (pc := 57) (11 + k) (nI_aE rfl rfl) rfl (show 11 + k < 1776 by omega) (by decide) dX9_firsts_57 ?_
            refine g_iload (pc := 58) dX9_firsts_58 4 rfl ?_
            refine g_iload_n (pc := 60) dX9_firsts_60 2 rfl rfl ?_
            refine g_invV (pc := 61) j_X9_fits mw_X9_207 dX9_firsts_61 (rcv_X9) (by rfl) (c_X9_fits E S (gA S 59 (11 + k)) (nI i) n m q hn hm hm2 hq) (Nat.le_of_ble_eq_true rfl) (Nat.le_of_ble_eq_true rfl) (by rfl) (Nat.le_of_ble_eq_true rfl) ?_
            refine g_b_eq (pc := 64) (tgt := 74) dX9_firsts_64 (by decide) (fun c_64 => ?_) (fun c_64 => ?_)
            · refine g_iconst (pc := 74) (v := 0) dX9_firsts_74 (by decide) ?_
              refine g_ior (pc := 75) dX9_firsts_75 ?_
              refine g_istore (pc := 76) (L' := [(4, .int (fiM S k n q i ||| 0)), (0, .ref (eA E 58)), (1, .int (nI k)), (2, .int (nI n)), (5, .int (nI i))]) dX9_firsts_76 (Nat.le_of_ble_eq_true rfl) rfl ?_
              refine g_iinc (pc := 78) (L' := [(5, .int (nI i + 1)), (4, .int (fiM S k n q i ||| 0)), (0, .ref (eA E 58)), (1, .int (nI k)), (2, .int (nI n))]) dX9_firsts_78 (k := 4) rfl (v := nI i + 1) rfl (Nat.le_of_ble_eq_true rfl) rfl ?_
              refine g_goto (pc := 81) (tgt := 39) dX9_firsts_81 (by decide) ?_
              refine g_sub (L' := [(0, .ref (eA E 58)), (1, .int (nI k)), (2, .int (nI n)), (4, .int (fiM S k n q i ||| 0)), (5, .int (nI i + 1))]) [2, 3, 4, 1, 0] rfl ?_
              exact g_eq rfl (by rw [nI_1, fiM, if_neg (by rw [c_64]; decide)]) rfl (ih_39 hlt_39)
            · refine g_iconst (pc := 67) (v := 1) dX9_firsts_67 (by decide) ?_
              refine g_iload (pc := 68) dX9_firsts_68 4 rfl ?_
              refine g_ishl (pc := 70) dX9_firsts_70 ?_
              refine g_goto (pc := 71) (tgt := 75) dX9_firsts_71 (by decide) ?_
              refine g_ior (pc := 75) dX9_firsts_75 ?_
              refine g_istore (pc := 76) (L' := [(4, .int (fiM S k n q i ||| ((1 : Int32) <<< ((nI i) &&& 31)))), (0, .ref (eA E 58)), (1, .int (nI k)), (2, .int (nI n)), (5, .int (nI i))]) dX9_firsts_76 (Nat.le_of_ble_eq_true rfl) rfl ?_
              refine g_iinc (pc := 78) (L' := [(5, .int (nI i + 1)), (4, .int (fiM S k n q i ||| ((1 : Int32) <<< ((nI i) &&& 31)))), (0, .ref (eA E 58)), (1, .int (nI k)), (2, .int (nI n))]) dX9_firsts_78 (k := 4) rfl (v := nI i + 1) rfl (Nat.le_of_ble_eq_true rfl) rfl ?_
              refine g_goto (pc := 81) (tgt := 39) dX9_firsts_81 (by decide) ?_
              refine g_sub (L' := [(0, .ref (eA E 58)), (1, .int (nI k)), (2, .int (nI n)), (4, .int (fiM S k n q i ||| ((1 : Int32) <<< ((nI i) &&& 31)))), (5, .int (nI i + 1))]) [2, 3, 4, 1, 0] rfl ?_
              exact g_eq rfl (by rw [nI_1, fiM, if_pos c_64]) rfl (ih_39 hlt_39)
        refine g_sub (L' := [(0, .ref (eA E 58)), (1, .int (nI k)), (2, .int (nI n)), (4, .int 0), (5, .int 0)]) [3, 4, 5, 1, 0] rfl ?_
        exact g_eq rfl rfl rfl (H_39 0 (Nat.zero_le _))
      · have k_24 := Int32.not_le.mp c_24
        exact absurd (by rw [hg]; decide) c_24
    · exact absurd (hr.symm.trans c_12) (by decide)
set_option maxRecDepth 100000 in
set_option maxHeartbeats 4000000 in
theorem c_X9_kinds_ok (E : En) (S : St) (k n m q : Nat) (hz : okM S)(hk : k < nM S)(hn : n < 6) (hm : gA S 60 n = nI m) (hm2 : m ≤ 40) (hg : agM S n m = 0) (hq : m = 2 * q) : CTe E i_X9_kinds S [.ref (eA E 58), .int (nI k), .int (nI n)] S (some (.int (kiM S k n q 6))) := by
  have hz8 := hz.2
  have hx := idx_in hk (show nM S < 2 ^ 31 by omega)
  have hr := idx_in hn (show 6 < 2 ^ 31 by omega)
  refine ct_of [(0, .ref (eA E 58)), (1, .int (nI k)), (2, .int (nI n))] (by decide +kernel) (Nat.le_of_ble_eq_true rfl) rfl (fun X hM => ?_)
  refine g_aload_n (pc := 0) dX9_kinds_0 0 rfl rfl ?_
  refine g_iload_n (pc := 1) dX9_kinds_1 1 rfl rfl ?_
  refine g_invV (pc := 2) j_X9_isLight mw_X9_127 dX9_kinds_2 (rcv_X9) (by rfl) (c_X9_isLight E S (nI k) (by first | assumption | omega | rfl)) (Nat.le_of_ble_eq_true rfl) (Nat.le_of_ble_eq_true rfl) (by rfl) (Nat.le_of_ble_eq_true rfl) ?_
  refine g_b_eq (pc := 5) (tgt := 15) dX9_kinds_5 (by decide) (fun c_5 => ?_) (fun c_5 => ?_)
  · exact absurd (hx.symm.trans c_5) (by decide)
  · refine g_iload_n (pc := 8) dX9_kinds_8 2 rfl rfl ?_
    refine g_invS (pc := 9) j_X9_isRow mw_X9_70 dX9_kinds_9 (by rfl) (c_X9_isRow E S (nI n) ) (Nat.le_of_ble_eq_true rfl) (Nat.le_of_ble_eq_true rfl) (by rfl) (Nat.le_of_ble_eq_true rfl) ?_
    refine g_b_ne (pc := 12) (tgt := 17) dX9_kinds_12 (by decide) (fun c_12 => ?_) (fun c_12 => ?_)
    · refine g_aload_n (pc := 17) dX9_kinds_17 0 rfl rfl ?_
      refine g_iload_n (pc := 18) dX9_kinds_18 2 rfl rfl ?_
      refine g_invV (pc := 19) j_X9_against mw_X9_204 dX9_kinds_19 (rcv_X9) (by rfl) (c_X9_against_ok E S n m hn hm hm2) (Nat.le_of_ble_eq_true rfl) (Nat.le_of_ble_eq_true rfl) (by rfl) (Nat.le_of_ble_eq_true rfl) ?_
      refine g_istore_n (pc := 22) (L' := [(3, .int (agM S n m)), (0, .ref (eA E 58)), (1, .int (nI k)), (2, .int (nI n))]) dX9_kinds_22 rfl (Nat.le_of_ble_eq_true rfl) rfl ?_
      refine g_iload_n (pc := 23) dX9_kinds_23 0 rfl rfl ?_
      refine g_if_le (pc := 24) (tgt := 35) dX9_kinds_24 (by decide) (fun c_24 => ?_) (fun c_24 => ?_)
      · have k_24 := Int32.not_lt.mpr c_24
        refine g_aload_n (pc := 35) dX9_kinds_35 1 rfl rfl ?_
        refine g_iload_n (pc := 36) dX9_kinds_36 2 rfl rfl ?_
        refine g_iload_n (pc := 37) dX9_kinds_37 3 rfl rfl ?_
        refine g_invV (pc := 38) j_X9_kindsOf mw_X9_211 dX9_kinds_38 (rcv_X9) (by rfl) (c_X9_kindsOf E S k n m q (by omega) hn hm hm2 hq) (Nat.le_of_ble_eq_true rfl) (Nat.le_of_ble_eq_true rfl) (by rfl) (Nat.le_of_ble_eq_true rfl) ?_
        exact g_iret (pc := 41) hM rfl rfl ⟨rfl, rfl⟩ dX9_kinds_41
      · have k_24 := Int32.not_le.mp c_24
        exact absurd (by rw [hg]; decide) c_24
    · exact absurd (hr.symm.trans c_12) (by decide)
set_option maxRecDepth 100000 in
set_option maxHeartbeats 4000000 in
theorem c_X9_greatestPart (E : En) (S : St) (kinds first night : Int32) : CTe E i_X9_greatestPart S [.ref (eA E 58), .int kinds, .int first, .int night] S (some (.int (gpO kinds first night 6))) := by
  refine ct_of [(0, .ref (eA E 58)), (1, .int kinds), (2, .int first), (3, .int night)] (by decide +kernel) (Nat.le_of_ble_eq_true rfl) rfl (fun X hM => ?_)
  refine g_iconst (pc := 0) (v := 0) dX9_greatestPart_0 (by decide) ?_
  refine g_istore (pc := 1) (L' := [(4, .int 0), (0, .ref (eA E 58)), (1, .int kinds), (2, .int first), (3, .int night)]) dX9_greatestPart_1 (Nat.le_of_ble_eq_true rfl) rfl ?_
  refine g_iconst (pc := 3) (v := 0) dX9_greatestPart_3 (by decide) ?_
  refine g_istore (pc := 4) (L' := [(5, .int 0), (4, .int 0), (0, .ref (eA E 58)), (1, .int kinds), (2, .int first), (3, .int night)]) dX9_greatestPart_4 (Nat.le_of_ble_eq_true rfl) rfl ?_
  have H_6 : ∀ a : Nat, a ≤ 6 → G E X i_X9_greatestPart S 6 [(0, .ref (eA E 58)), (1, .int kinds), (2, .int first), (3, .int night), (4, .int (gpO kinds first night a)), (5, .int (nI a))] [] := by
    refine dn_ind 6 (fun a hn_6 ih_6 => ?_)
    refine g_iload (pc := 6) dX9_greatestPart_6 5 rfl ?_
    refine g_iconst (pc := 8) (v := 5) dX9_greatestPart_8 (by decide) ?_
    refine g_icmp_gt (pc := 9) (tgt := 97) dX9_greatestPart_9 (by decide) (fun c_9 => ?_) (fun c_9 => ?_)
    · have k_9 := Int32.not_le.mpr c_9
      have he_6 : a = 6 := Nat.le_antisymm hn_6 (by have := (nI_ltI (a := 5) (b := a) (by omega) (by omega)).mp c_9; omega)
      rw [he_6]
      refine g_iload (pc := 97) dX9_greatestPart_97 4 rfl ?_
      exact g_iret (pc := 99) hM rfl rfl ⟨rfl, rfl⟩ dX9_greatestPart_99
    · have k_9 := Int32.not_lt.mp c_9
      have hlt_6 : a < 6 := by have := (nI_leI (a := a) (b := 5) (by omega) (by omega)).mp k_9; omega
      refine g_iconst (pc := 12) (v := 0) dX9_greatestPart_12 (by decide) ?_
      refine g_istore (pc := 13) (L' := [(6, .int 0), (0, .ref (eA E 58)), (1, .int kinds), (2, .int first), (3, .int night), (4, .int (gpO kinds first night a)), (5, .int (nI a))]) dX9_greatestPart_13 (Nat.le_of_ble_eq_true rfl) rfl ?_
      refine g_iconst (pc := 15) (v := 0) dX9_greatestPart_15 (by decide) ?_
      refine g_istore (pc := 16) (L' := [(7, .int 0), (6, .int 0), (0, .ref (eA E 58)), (1, .int kinds), (2, .int first), (3, .int night), (4, .int (gpO kinds first night a)), (5, .int (nI a))]) dX9_greatestPart_16 (Nat.le_of_ble_eq_true rfl) rfl ?_
      have H_18 : ∀ b : Nat, b ≤ 6 → G E X i_X9_greatestPart S 18 [(0, .ref (eA E 58)), (1, .int kinds), (2, .int first), (3, .int night), (4, .int (gpO kinds first night a)), (5, .int (nI a)), (6, .int (gpI kinds first night a b)), (7, .int (nI b))] [] := by
        refine dn_ind 6 (fun b hn_18 ih_18 => ?_)
        refine g_iload (pc := 18) dX9_greatestPart_18 7 rfl ?_
        refine g_iconst (pc := 20) (v := 5) dX9_greatestPart_20 (by decide) ?_
        refine g_icmp_gt (pc := 21) (tgt := 75) dX9_greatestPart_21 (by decide) (fun c_21 => ?_) (fun c_21 => ?_)
        · have k_21 := Int32.not_le.mpr c_21
          have he_18 : b = 6 := Nat.le_antisymm hn_18 (by have := (nI_ltI (a := 5) (b := b) (by omega) (by omega)).mp c_21; omega)
          rw [he_18]
          refine g_iload (pc := 75) dX9_greatestPart_75 6 rfl ?_
          refine g_iload (pc := 77) dX9_greatestPart_77 4 rfl ?_
          refine g_icmp_le (pc := 79) (tgt := 87) dX9_greatestPart_79 (by decide) (fun c_79 => ?_) (fun c_79 => ?_)
          · have k_79 := Int32.not_lt.mpr c_79
            refine g_iload (pc := 87) dX9_greatestPart_87 4 rfl ?_
            refine g_istore (pc := 89) (L' := [(4, .int (gpO kinds first night a)), (0, .ref (eA E 58)), (1, .int kinds), (2, .int first), (3, .int night), (5, .int (nI a)), (6, .int (gpI kinds first night a 6)), (7, .int (nI 6))]) dX9_greatestPart_89 (Nat.le_of_ble_eq_true rfl) rfl ?_
            refine g_iinc (pc := 91) (L' := [(5, .int (nI a + 1)), (4, .int (gpO kinds first night a)), (0, .ref (eA E 58)), (1, .int kinds), (2, .int first), (3, .int night), (6, .int (gpI kinds first night a 6)), (7, .int (nI 6))]) dX9_greatestPart_91 (k := 5) rfl (v := nI a + 1) rfl (Nat.le_of_ble_eq_true rfl) rfl ?_
            refine g_goto (pc := 94) (tgt := 6) dX9_greatestPart_94 (by decide) ?_
            refine g_sub (L' := [(0, .ref (eA E 58)), (1, .int kinds), (2, .int first), (3, .int night), (4, .int (gpO kinds first night a)), (5, .int (nI a + 1))]) [2, 3, 4, 5, 1, 0] rfl ?_
            exact g_eq rfl (by rw [nI_1, gpO, if_pos c_79]) rfl (ih_6 hlt_6)
          · have k_79 := Int32.not_le.mp c_79
            refine g_iload (pc := 82) dX9_greatestPart_82 6 rfl ?_
            refine g_goto (pc := 84) (tgt := 89) dX9_greatestPart_84 (by decide) ?_
            refine g_istore (pc := 89) (L' := [(4, .int (gpI kinds first night a 6)), (0, .ref (eA E 58)), (1, .int kinds), (2, .int first), (3, .int night), (5, .int (nI a)), (6, .int (gpI kinds first night a 6)), (7, .int (nI 6))]) dX9_greatestPart_89 (Nat.le_of_ble_eq_true rfl) rfl ?_
            refine g_iinc (pc := 91) (L' := [(5, .int (nI a + 1)), (4, .int (gpI kinds first night a 6)), (0, .ref (eA E 58)), (1, .int kinds), (2, .int first), (3, .int night), (6, .int (gpI kinds first night a 6)), (7, .int (nI 6))]) dX9_greatestPart_91 (k := 5) rfl (v := nI a + 1) rfl (Nat.le_of_ble_eq_true rfl) rfl ?_
            refine g_goto (pc := 94) (tgt := 6) dX9_greatestPart_94 (by decide) ?_
            refine g_sub (L' := [(0, .ref (eA E 58)), (1, .int kinds), (2, .int first), (3, .int night), (4, .int (gpI kinds first night a 6)), (5, .int (nI a + 1))]) [2, 3, 4, 5, 1, 0] rfl ?_
            exact g_eq rfl (by rw [nI_1, gpO, if_neg c_79]) rfl (ih_6 hlt_6)
        · have k_21 := Int32.not_lt.mp c_21
          have hlt_18 : b < 6 := by have := (nI_leI (a := b) (b := 5) (by omega) (by omega)).mp k_21; omega
          refine g_iload (pc := 24) dX9_greatestPart_24 6 rfl ?_
          refine g_iload_n (pc := 26) dX9_greatestPart_26 1 rfl rfl ?_
          refine g_iload (pc := 27) dX9_greatestPart_27 5 rfl ?_
          refine g_invS (pc := 29) j_X9_has mw_X9_143 dX9_greatestPart_29 (by rfl) (c_X9_has E S kinds (nI a) ) (Nat.le_of_ble_eq_true rfl) (Nat.le_of_ble_eq_true rfl) (by rfl) (Nat.le_of_ble_eq_true rfl) ?_
          refine g_b_eq (pc := 32) (tgt := 65) dX9_greatestPart_32 (by decide) (fun c_32 => ?_) (fun c_32 => ?_)
          · refine g_iconst (pc := 65) (v := 0) dX9_greatestPart_65 (by decide) ?_
            refine g_iadd (pc := 66) dX9_greatestPart_66 ?_
            refine g_istore (pc := 67) (L' := [(6, .int (gpI kinds first night a b + 0)), (0, .ref (eA E 58)), (1, .int kinds), (2, .int first), (3, .int night), (4, .int (gpO kinds first night a)), (5, .int (nI a)), (7, .int (nI b))]) dX9_greatestPart_67 (Nat.le_of_ble_eq_true rfl) rfl ?_
            refine g_iinc (pc := 69) (L' := [(7, .int (nI b + 1)), (6, .int (gpI kinds first night a b + 0)), (0, .ref (eA E 58)), (1, .int kinds), (2, .int first), (3, .int night), (4, .int (gpO kinds first night a)), (5, .int (nI a))]) dX9_greatestPart_69 (k := 7) rfl (v := nI b + 1) rfl (Nat.le_of_ble_eq_true rfl) rfl ?_
            refine g_goto (pc := 72) (tgt := 18) dX9_greatestPart_72 (by decide) ?_
            refine g_sub (L' := [(0, .ref (eA E 58)), (1, .int kinds), (2, .int first), (3, .int night), (4, .int (gpO kinds first night a)), (5, .int (nI a)), (6, .int (gpI kinds first night a b + 0)), (7, .int (nI b + 1))]) [2, 3, 4, 5, 6, 7, 1, 0] rfl ?_
            exact g_eq rfl (by rw [nI_1, gpI]; simp only [c_32, if_true, if_false, Bool.false_eq_true, Bool.not_true, Bool.not_false, Bool.and_true, Bool.true_and, Bool.and_false, Bool.false_and, Bool.or_true, Bool.true_or, Bool.or_false, Bool.false_or, decide_true, decide_false, Bool.and_self]) rfl (ih_18 hlt_18)
          · refine g_iload_n (pc := 35) dX9_greatestPart_35 1 rfl rfl ?_
            refine g_iload (pc := 36) dX9_greatestPart_36 7 rfl ?_
            refine g_invS (pc := 38) j_X9_has mw_X9_143 dX9_greatestPart_38 (by rfl) (c_X9_has E S kinds (nI b) ) (Nat.le_of_ble_eq_true rfl) (Nat.le_of_ble_eq_true rfl) (by rfl) (Nat.le_of_ble_eq_true rfl) ?_
            refine g_b_eq (pc := 41) (tgt := 65) dX9_greatestPart_41 (by decide) (fun c_41 => ?_) (fun c_41 => ?_)
            · refine g_iconst (pc := 65) (v := 0) dX9_greatestPart_65 (by decide) ?_
              refine g_iadd (pc := 66) dX9_greatestPart_66 ?_
              refine g_istore (pc := 67) (L' := [(6, .int (gpI kinds first night a b + 0)), (0, .ref (eA E 58)), (1, .int kinds), (2, .int first), (3, .int night), (4, .int (gpO kinds first night a)), (5, .int (nI a)), (7, .int (nI b))]) dX9_greatestPart_67 (Nat.le_of_ble_eq_true rfl) rfl ?_
              refine g_iinc (pc := 69) (L' := [(7, .int (nI b + 1)), (6, .int (gpI kinds first night a b + 0)), (0, .ref (eA E 58)), (1, .int kinds), (2, .int first), (3, .int night), (4, .int (gpO kinds first night a)), (5, .int (nI a))]) dX9_greatestPart_69 (k := 7) rfl (v := nI b + 1) rfl (Nat.le_of_ble_eq_true rfl) rfl ?_
              refine g_goto (pc := 72) (tgt := 18) dX9_greatestPart_72 (by decide) ?_
              refine g_sub (L' := [(0, .ref (eA E 58)), (1, .int kinds), (2, .int first), (3, .int night), (4, .int (gpO kinds first night a)), (5, .int (nI a)), (6, .int (gpI kinds first night a b + 0)), (7, .int (nI b + 1))]) [2, 3, 4, 5, 6, 7, 1, 0] rfl ?_
              exact g_eq rfl (by rw [nI_1, gpI]; simp only [c_32, c_41, if_true, if_false, Bool.false_eq_true, Bool.not_true, Bool.not_false, Bool.and_true, Bool.true_and, Bool.and_false, Bool.false_and, Bool.or_true, Bool.true_or, Bool.or_false, Bool.false_or, decide_true, decide_false, Bool.and_self]) rfl (ih_18 hlt_18)
            · refine g_iload (pc := 44) dX9_greatestPart_44 5 rfl ?_
              refine g_iload_n (pc := 46) dX9_greatestPart_46 2 rfl rfl ?_
              refine g_iload_n (pc := 47) dX9_greatestPart_47 3 rfl rfl ?_
              refine g_invS (pc := 48) j_X9_glowBy mw_X9_123 dX9_greatestPart_48 (by rfl) (c_X9_glowBy E S (nI a) first night ) (Nat.le_of_ble_eq_true rfl) (Nat.le_of_ble_eq_true rfl) (by rfl) (Nat.le_of_ble_eq_true rfl) ?_
              refine g_iload (pc := 51) dX9_greatestPart_51 7 rfl ?_
              refine g_iload_n (pc := 53) dX9_greatestPart_53 2 rfl rfl ?_
              refine g_iload_n (pc := 54) dX9_greatestPart_54 3 rfl rfl ?_
              refine g_invS (pc := 55) j_X9_glowBy mw_X9_123 dX9_greatestPart_55 (by rfl) (c_X9_glowBy E S (nI b) first night ) (Nat.le_of_ble_eq_true rfl) (Nat.le_of_ble_eq_true rfl) (by rfl) (Nat.le_of_ble_eq_true rfl) ?_
              refine g_icmp_ne (pc := 58) (tgt := 65) dX9_greatestPart_58 (by decide) (fun c_58 => ?_) (fun c_58 => ?_)
              · refine g_iconst (pc := 65) (v := 0) dX9_greatestPart_65 (by decide) ?_
                refine g_iadd (pc := 66) dX9_greatestPart_66 ?_
                refine g_istore (pc := 67) (L' := [(6, .int (gpI kinds first night a b + 0)), (0, .ref (eA E 58)), (1, .int kinds), (2, .int first), (3, .int night), (4, .int (gpO kinds first night a)), (5, .int (nI a)), (7, .int (nI b))]) dX9_greatestPart_67 (Nat.le_of_ble_eq_true rfl) rfl ?_
                refine g_iinc (pc := 69) (L' := [(7, .int (nI b + 1)), (6, .int (gpI kinds first night a b + 0)), (0, .ref (eA E 58)), (1, .int kinds), (2, .int first), (3, .int night), (4, .int (gpO kinds first night a)), (5, .int (nI a))]) dX9_greatestPart_69 (k := 7) rfl (v := nI b + 1) rfl (Nat.le_of_ble_eq_true rfl) rfl ?_
                refine g_goto (pc := 72) (tgt := 18) dX9_greatestPart_72 (by decide) ?_
                refine g_sub (L' := [(0, .ref (eA E 58)), (1, .int kinds), (2, .int first), (3, .int night), (4, .int (gpO kinds first night a)), (5, .int (nI a)), (6, .int (gpI kinds first night a b + 0)), (7, .int (nI b + 1))]) [2, 3, 4, 5, 6, 7, 1, 0] rfl ?_
                exact g_eq rfl (by rw [nI_1, gpI]; simp only [c_32, c_41, c_58, if_true, if_false, Bool.false_eq_true, Bool.not_true, Bool.not_false, Bool.and_true, Bool.true_and, Bool.and_false, Bool.false_and, Bool.or_true, Bool.true_or, Bool.or_false, Bool.false_or, decide_true, decide_false, Bool.and_self]) rfl (ih_18 hlt_18)
              · refine g_iconst (pc := 61) (v := 1) dX9_greatestPart_61 (by decide) ?_
                refine g_goto (pc := 62) (tgt := 66) dX9_greatestPart_62 (by decide) ?_
                refine g_iadd (pc := 66) dX9_greatestPart_66 ?_
                refine g_istore (pc := 67) (L' := [(6, .int (gpI kinds first night a b + 1)), (0, .ref (eA E 58)), (1, .int kinds), (2, .int first), (3, .int night), (4, .int (gpO kinds first night a)), (5, .int (nI a)), (7, .int (nI b))]) dX9_greatestPart_67 (Nat.le_of_ble_eq_true rfl) rfl ?_
                refine g_iinc (pc := 69) (L' := [(7, .int (nI b + 1)), (6, .int (gpI kinds first night a b + 1)), (0, .ref (eA E 58)), (1, .int kinds), (2, .int first), (3, .int night), (4, .int (gpO kinds first night a)), (5, .int (nI a))]) dX9_greatestPart_69 (k := 7) rfl (v := nI b + 1) rfl (Nat.le_of_ble_eq_true rfl) rfl ?_
                refine g_goto (pc := 72) (tgt := 18) dX9_greatestPart_72 (by decide) ?_
                refine g_sub (L' := [(0, .ref (eA E 58)), (1, .int kinds), (2, .int first), (3, .int night), (4, .int (gpO kinds first night a)), (5, .int (nI a)), (6, .int (gpI kinds first night a b + 1)), (7, .int (nI b + 1))]) [2, 3, 4, 5, 6, 7, 1, 0] rfl ?_
                exact g_eq rfl (by rw [nI_1, gpI]; simp only [c_32, c_41, eq_true c_58, if_true, if_false, Bool.false_eq_true, Bool.not_true, Bool.not_false, Bool.and_true, Bool.true_and, Bool.and_false, Bool.false_and, Bool.or_true, Bool.true_or, Bool.or_false, Bool.false_or, decide_true, decide_false, Bool.and_self]) rfl (ih_18 hlt_18)
      refine g_sub (L' := [(0, .ref (eA E 58)), (1, .int kinds), (2, .int first), (3, .int night), (4, .int (gpO kinds first night a)), (5, .int (nI a)), (6, .int 0), (7, .int 0)]) [2, 3, 4, 5, 6, 7, 1, 0] rfl ?_
      exact g_eq rfl rfl rfl (H_18 0 (Nat.zero_le _))
  refine g_sub (L' := [(0, .ref (eA E 58)), (1, .int kinds), (2, .int first), (3, .int night), (4, .int 0), (5, .int 0)]) [2, 3, 4, 5, 1, 0] rfl ?_
  exact g_eq rfl rfl rfl (H_6 0 (Nat.zero_le _))
set_option maxRecDepth 100000 in
set_option maxHeartbeats 4000000 in
theorem c_X9_test_no (E : En) (S : St) (k n m q : Nat) (hz : okM S)(hk : k < nM S)(hn : n < 6) (hm : gA S 60 n = nI m) (hm2 : m ≤ 40) (hg : agM S n m = 0) (hq : m = 2 * q) (h0 : kiM S k n q 6 = 0) : CTe E i_X9_test S [.ref (eA E 58), .int (nI k), .int (nI n)] S (some (.int (-9))) := by
  have hz8 := hz.2
  have hx := idx_in hk (show nM S < 2 ^ 31 by omega)
  have hr := idx_in hn (show 6 < 2 ^ 31 by omega)
  refine ct_of [(0, .ref (eA E 58)), (1, .int (nI k)), (2, .int (nI n))] (by decide +kernel) (Nat.le_of_ble_eq_true rfl) rfl (fun X hM => ?_)
  refine g_aload_n (pc := 0) dX9_test_0 0 rfl rfl ?_
  refine g_iload_n (pc := 1) dX9_test_1 1 rfl rfl ?_
  refine g_invV (pc := 2) j_X9_isLight mw_X9_127 dX9_test_2 (rcv_X9) (by rfl) (c_X9_isLight E S (nI k) (by first | assumption | omega | rfl)) (Nat.le_of_ble_eq_true rfl) (Nat.le_of_ble_eq_true rfl) (by rfl) (Nat.le_of_ble_eq_true rfl) ?_
  refine g_b_eq (pc := 5) (tgt := 15) dX9_test_5 (by decide) (fun c_5 => ?_) (fun c_5 => ?_)
  · exact absurd (hx.symm.trans c_5) (by decide)
  · refine g_iload_n (pc := 8) dX9_test_8 2 rfl rfl ?_
    refine g_invS (pc := 9) j_X9_isRow mw_X9_70 dX9_test_9 (by rfl) (c_X9_isRow E S (nI n) ) (Nat.le_of_ble_eq_true rfl) (Nat.le_of_ble_eq_true rfl) (by rfl) (Nat.le_of_ble_eq_true rfl) ?_
    refine g_b_ne (pc := 12) (tgt := 17) dX9_test_12 (by decide) (fun c_12 => ?_) (fun c_12 => ?_)
    · refine g_aload_n (pc := 17) dX9_test_17 0 rfl rfl ?_
      refine g_iload_n (pc := 18) dX9_test_18 2 rfl rfl ?_
      refine g_invV (pc := 19) j_X9_against mw_X9_204 dX9_test_19 (rcv_X9) (by rfl) (c_X9_against_ok E S n m hn hm hm2) (Nat.le_of_ble_eq_true rfl) (Nat.le_of_ble_eq_true rfl) (by rfl) (Nat.le_of_ble_eq_true rfl) ?_
      refine g_istore_n (pc := 22) (L' := [(3, .int (agM S n m)), (0, .ref (eA E 58)), (1, .int (nI k)), (2, .int (nI n))]) dX9_test_22 rfl (Nat.le_of_ble_eq_true rfl) rfl ?_
      refine g_iload_n (pc := 23) dX9_test_23 0 rfl rfl ?_
      refine g_if_le (pc := 24) (tgt := 33) dX9_test_24 (by decide) (fun c_24 => ?_) (fun c_24 => ?_)
      · have k_24 := Int32.not_lt.mpr c_24
        refine g_aload_n (pc := 33) dX9_test_33 1 rfl rfl ?_
        refine g_iload_n (pc := 34) dX9_test_34 2 rfl rfl ?_
        refine g_iload_n (pc := 35) dX9_test_35 3 rfl rfl ?_
        refine g_invV (pc := 36) j_X9_kindsOf mw_X9_211 dX9_test_36 (rcv_X9) (by rfl) (c_X9_kindsOf E S k n m q (by omega) hn hm hm2 hq) (Nat.le_of_ble_eq_true rfl) (Nat.le_of_ble_eq_true rfl) (by rfl) (Nat.le_of_ble_eq_true rfl) ?_
        refine g_istore (pc := 39) (L' := [(4, .int (kiM S k n q 6)), (3, .int (agM S n m)), (0, .ref (eA E 58)), (1, .int (nI k)), (2, .int (nI n))]) dX9_test_39 (Nat.le_of_ble_eq_true rfl) rfl ?_
        refine g_iload (pc := 41) dX9_test_41 0 rfl ?_
        refine g_if_ne (pc := 43) (tgt := 49) dX9_test_43 (by decide) (fun c_43 => ?_) (fun c_43 => ?_)
        · exact absurd h0 c_43
        · refine g_bipush (pc := 46) (v := -9) dX9_test_46 (by decide) ?_
          exact g_iret (pc := 48) hM rfl rfl ⟨rfl, rfl⟩ dX9_test_48
      · have k_24 := Int32.not_le.mp c_24
        exact absurd (by rw [hg]; decide) c_24
    · exact absurd (hr.symm.trans c_12) (by decide)
set_option maxRecDepth 100000 in
set_option maxHeartbeats 4000000 in
theorem c_X9_test_ok (E : En) (S : St) (k n m q : Nat) (hz : okM S)(hk : k < nM S)(hn : n < 6) (hm : gA S 60 n = nI m) (hm2 : m ≤ 40) (hg : agM S n m = 0) (hq : m = 2 * q) (h0 : ¬ kiM S k n q 6 = 0) : CTe E i_X9_test S [.ref (eA E 58), .int (nI k), .int (nI n)] (sI S 58 7 (teM (kiM S k n q 6) (gA S 59 (35 + k)) 21).2) (some (.int ((teM (kiM S k n q 6) (gA S 59 (35 + k)) 21).1))) := by
  have hz8 := hz.2
  have hx := idx_in hk (show nM S < 2 ^ 31 by omega)
  have hr := idx_in hn (show 6 < 2 ^ 31 by omega)
  refine ct_of [(0, .ref (eA E 58)), (1, .int (nI k)), (2, .int (nI n))] (by decide +kernel) (Nat.le_of_ble_eq_true rfl) rfl (fun X hM => ?_)
  refine g_aload_n (pc := 0) dX9_test_0 0 rfl rfl ?_
  refine g_iload_n (pc := 1) dX9_test_1 1 rfl rfl ?_
  refine g_invV (pc := 2) j_X9_isLight mw_X9_127 dX9_test_2 (rcv_X9) (by rfl) (c_X9_isLight E S (nI k) (by first | assumption | omega | rfl)) (Nat.le_of_ble_eq_true rfl) (Nat.le_of_ble_eq_true rfl) (by rfl) (Nat.le_of_ble_eq_true rfl) ?_
  refine g_b_eq (pc := 5) (tgt := 15) dX9_test_5 (by decide) (fun c_5 => ?_) (fun c_5 => ?_)
  · exact absurd (hx.symm.trans c_5) (by decide)
  · refine g_iload_n (pc := 8) dX9_test_8 2 rfl rfl ?_
    refine g_invS (pc := 9) j_X9_isRow mw_X9_70 dX9_test_9 (by rfl) (c_X9_isRow E S (nI n) ) (Nat.le_of_ble_eq_true rfl) (Nat.le_of_ble_eq_true rfl) (by rfl) (Nat.le_of_ble_eq_true rfl) ?_
    refine g_b_ne (pc := 12) (tgt := 17) dX9_test_12 (by decide) (fun c_12 => ?_) (fun c_12 => ?_)
    · refine g_aload_n (pc := 17) dX9_test_17 0 rfl rfl ?_
      refine g_iload_n (pc := 18) dX9_test_18 2 rfl rfl ?_
      refine g_invV (pc := 19) j_X9_against mw_X9_204 dX9_test_19 (rcv_X9) (by rfl) (c_X9_against_ok E S n m hn hm hm2) (Nat.le_of_ble_eq_true rfl) (Nat.le_of_ble_eq_true rfl) (by rfl) (Nat.le_of_ble_eq_true rfl) ?_
      refine g_istore_n (pc := 22) (L' := [(3, .int (agM S n m)), (0, .ref (eA E 58)), (1, .int (nI k)), (2, .int (nI n))]) dX9_test_22 rfl (Nat.le_of_ble_eq_true rfl) rfl ?_
      refine g_iload_n (pc := 23) dX9_test_23 0 rfl rfl ?_
      refine g_if_le (pc := 24) (tgt := 33) dX9_test_24 (by decide) (fun c_24 => ?_) (fun c_24 => ?_)
      · have k_24 := Int32.not_lt.mpr c_24
        refine g_aload_n (pc := 33) dX9_test_33 1 rfl rfl ?_
        refine g_iload_n (pc := 34) dX9_test_34 2 rfl rfl ?_
        refine g_iload_n (pc := 35) dX9_test_35 3 rfl rfl ?_
        refine g_invV (pc := 36) j_X9_kindsOf mw_X9_211 dX9_test_36 (rcv_X9) (by rfl) (c_X9_kindsOf E S k n m q (by omega) hn hm hm2 hq) (Nat.le_of_ble_eq_true rfl) (Nat.le_of_ble_eq_true rfl) (by rfl) (Nat.le_of_ble_eq_true rfl) ?_
        refine g_istore (pc := 39) (L' := [(4, .int (kiM S k n q 6)), (3, .int (agM S n m)), (0, .ref (eA E 58)), (1, .int (nI k)), (2, .int (nI n))]) dX9_test_39 (Nat.le_of_ble_eq_true rfl) rfl ?_
        refine g_iload (pc := 41) dX9_test_41 0 rfl ?_
        refine g_if_ne (pc := 43) (tgt := 49) dX9_test_43 (by decide) (fun c_43 => ?_) (fun c_43 => ?_)
        · refine g_iconst (pc := 49) (v := 0) dX9_test_49 (by decide) ?_
          refine g_istore (pc := 50) (L' := [(5, .int 0), (4, .int (kiM S k n q 6)), (3, .int (agM S n m)), (0, .ref (eA E 58)), (1, .int (nI k)), (2, .int (nI n))]) dX9_test_50 (Nat.le_of_ble_eq_true rfl) rfl ?_
          refine g_ldc (pc := 52) kw_X9_183 dX9_test_52 ?_
          refine g_istore (pc := 54) (L' := [(6, .int 1000000), (5, .int 0), (4, .int (kiM S k n q 6)), (3, .int (agM S n m)), (0, .ref (eA E 58)), (1, .int (nI k)), (2, .int (nI n))]) dX9_test_54 (Nat.le_of_ble_eq_true rfl) rfl ?_
          refine g_iconst (pc := 56) (v := 0) dX9_test_56 (by decide) ?_
          refine g_istore (pc := 57) (L' := [(7, .int 0), (6, .int 1000000), (5, .int 0), (4, .int (kiM S k n q 6)), (3, .int (agM S n m)), (0, .ref (eA E 58)), (1, .int (nI k)), (2, .int (nI n))]) dX9_test_57 (Nat.le_of_ble_eq_true rfl) rfl ?_
          have H_59 : ∀ n1 : Nat, n1 ≤ 21 → G E X i_X9_test S 59 [(0, .ref (eA E 58)), (1, .int (nI k)), (2, .int (nI n)), (4, .int (kiM S k n q 6)), (5, .int ((teM (kiM S k n q 6) (gA S 59 (35 + k)) n1).1)), (6, .int ((teM (kiM S k n q 6) (gA S 59 (35 + k)) n1).2)), (7, .int (nI n1))] [] := by
            refine dn_ind 21 (fun n1 hn_59 ih_59 => ?_)
            refine g_iload (pc := 59) dX9_test_59 6 rfl ?_
            refine g_bipush (pc := 61) (v := 20) dX9_test_61 (by decide) ?_
            refine g_icmp_gt (pc := 63) (tgt := 123) dX9_test_63 (by decide) (fun c_63 => ?_) (fun c_63 => ?_)
            · have k_63 := Int32.not_le.mpr c_63
              have he_59 : n1 = 21 := Nat.le_antisymm hn_59 (by have := (nI_ltI (a := 20) (b := n1) (by omega) (by omega)).mp c_63; omega)
              rw [he_59]
              refine g_aload_n (pc := 123) dX9_test_123 0 rfl rfl ?_
              refine g_iload (pc := 124) dX9_test_124 5 rfl ?_
              refine pf_X9_57 (pc := 126) rfl dX9_test_126 ?_
              refine g_iload (pc := 129) dX9_test_129 4 rfl ?_
              exact g_iret (pc := 131) hM rfl rfl ⟨rfl, rfl⟩ dX9_test_131
            · have k_63 := Int32.not_lt.mp c_63
              have hlt_59 : n1 < 21 := by have := (nI_leI (a := n1) (b := 20) (by omega) (by omega)).mp k_63; omega
              refine g_aload_n (pc := 66) dX9_test_66 0 rfl rfl ?_
              refine g_iload (pc := 67) dX9_test_67 3 rfl ?_
              refine g_aload_n (pc := 69) dX9_test_69 0 rfl rfl ?_
              refine gf_X9_7 (pc := 70) rfl dX9_test_70 ?_
              refine g_bipush (pc := 73) (v := 35) dX9_test_73 (by decide) ?_
              refine g_iload_n (pc := 75) dX9_test_75 1 rfl rfl ?_
              refine g_iadd (pc := 76) dX9_test_76 ?_
              refine g_iald (pc := 77) (35 + k) (nI_aE rfl rfl) rfl (show 35 + k < 1776 by omega) (by decide) dX9_test_77 ?_
              refine g_iload (pc := 78) dX9_test_78 6 rfl ?_
              refine g_invV (pc := 80) j_X9_greatestPart mw_X9_214 dX9_test_80 (rcv_X9) (by rfl) (c_X9_greatestPart E S (kiM S k n q 6) (gA S 59 (35 + k)) (nI n1) ) (Nat.le_of_ble_eq_true rfl) (Nat.le_of_ble_eq_true rfl) (by rfl) (Nat.le_of_ble_eq_true rfl) ?_
              refine g_istore (pc := 83) (L' := [(8, .int (gpO (kiM S k n q 6) (gA S 59 (35 + k)) (nI n1) 6)), (0, .ref (eA E 58)), (1, .int (nI k)), (2, .int (nI n)), (4, .int (kiM S k n q 6)), (5, .int ((teM (kiM S k n q 6) (gA S 59 (35 + k)) n1).1)), (6, .int ((teM (kiM S k n q 6) (gA S 59 (35 + k)) n1).2)), (7, .int (nI n1))]) dX9_test_83 (Nat.le_of_ble_eq_true rfl) rfl ?_
              refine g_iload (pc := 85) dX9_test_85 0 rfl ?_
              refine g_iload (pc := 87) dX9_test_87 6 rfl ?_
              refine g_icmp_ge (pc := 89) (tgt := 97) dX9_test_89 (by decide) (fun c_89 => ?_) (fun c_89 => ?_)
              · have k_89 := Int32.not_lt.mpr c_89
                refine g_iload (pc := 97) dX9_test_97 5 rfl ?_
                refine g_istore (pc := 99) (L' := [(5, .int ((teM (kiM S k n q 6) (gA S 59 (35 + k)) n1).1)), (8, .int (gpO (kiM S k n q 6) (gA S 59 (35 + k)) (nI n1) 6)), (0, .ref (eA E 58)), (1, .int (nI k)), (2, .int (nI n)), (4, .int (kiM S k n q 6)), (6, .int ((teM (kiM S k n q 6) (gA S 59 (35 + k)) n1).2)), (7, .int (nI n1))]) dX9_test_99 (Nat.le_of_ble_eq_true rfl) rfl ?_
                refine g_iload (pc := 101) dX9_test_101 1 rfl ?_
                refine g_iload (pc := 103) dX9_test_103 6 rfl ?_
                refine g_icmp_ge (pc := 105) (tgt := 113) dX9_test_105 (by decide) (fun c_105 => ?_) (fun c_105 => ?_)
                · have k_105 := Int32.not_lt.mpr c_105
                  refine g_iload (pc := 113) dX9_test_113 6 rfl ?_
                  refine g_istore (pc := 115) (L' := [(6, .int ((teM (kiM S k n q 6) (gA S 59 (35 + k)) n1).2)), (5, .int ((teM (kiM S k n q 6) (gA S 59 (35 + k)) n1).1)), (8, .int (gpO (kiM S k n q 6) (gA S 59 (35 + k)) (nI n1) 6)), (0, .ref (eA E 58)), (1, .int (nI k)), (2, .int (nI n)), (4, .int (kiM S k n q 6)), (7, .int (nI n1))]) dX9_test_115 (Nat.le_of_ble_eq_true rfl) rfl ?_
                  refine g_iinc (pc := 117) (L' := [(7, .int (nI n1 + 1)), (6, .int ((teM (kiM S k n q 6) (gA S 59 (35 + k)) n1).2)), (5, .int ((teM (kiM S k n q 6) (gA S 59 (35 + k)) n1).1)), (8, .int (gpO (kiM S k n q 6) (gA S 59 (35 + k)) (nI n1) 6)), (0, .ref (eA E 58)), (1, .int (nI k)), (2, .int (nI n)), (4, .int (kiM S k n q 6))]) dX9_test_117 (k := 7) rfl (v := nI n1 + 1) rfl (Nat.le_of_ble_eq_true rfl) rfl ?_
                  refine g_goto (pc := 120) (tgt := 59) dX9_test_120 (by decide) ?_
                  refine g_sub (L' := [(0, .ref (eA E 58)), (1, .int (nI k)), (2, .int (nI n)), (4, .int (kiM S k n q 6)), (5, .int ((teM (kiM S k n q 6) (gA S 59 (35 + k)) n1).1)), (6, .int ((teM (kiM S k n q 6) (gA S 59 (35 + k)) n1).2)), (7, .int (nI n1 + 1))]) [4, 5, 6, 7, 2, 1, 0] rfl ?_
                  exact g_eq rfl (by rw [nI_1, show teM (kiM S k n q 6) (gA S 59 (35 + k)) (n1 + 1) = teM (kiM S k n q 6) (gA S 59 (35 + k)) n1 from if_neg k_89]) rfl (ih_59 hlt_59)
                · have k_105 := Int32.not_le.mp c_105
                  exact absurd c_89 c_105
              · have k_89 := Int32.not_le.mp c_89
                refine g_iload (pc := 92) dX9_test_92 7 rfl ?_
                refine g_goto (pc := 94) (tgt := 99) dX9_test_94 (by decide) ?_
                refine g_istore (pc := 99) (L' := [(5, .int (nI n1)), (8, .int (gpO (kiM S k n q 6) (gA S 59 (35 + k)) (nI n1) 6)), (0, .ref (eA E 58)), (1, .int (nI k)), (2, .int (nI n)), (4, .int (kiM S k n q 6)), (6, .int ((teM (kiM S k n q 6) (gA S 59 (35 + k)) n1).2)), (7, .int (nI n1))]) dX9_test_99 (Nat.le_of_ble_eq_true rfl) rfl ?_
                refine g_iload (pc := 101) dX9_test_101 1 rfl ?_
                refine g_iload (pc := 103) dX9_test_103 6 rfl ?_
                refine g_icmp_ge (pc := 105) (tgt := 113) dX9_test_105 (by decide) (fun c_105 => ?_) (fun c_105 => ?_)
                · have k_105 := Int32.not_lt.mpr c_105
                  exact absurd c_105 c_89
                · have k_105 := Int32.not_le.mp c_105
                  refine g_iload (pc := 108) dX9_test_108 1 rfl ?_
                  refine g_goto (pc := 110) (tgt := 115) dX9_test_110 (by decide) ?_
                  refine g_istore (pc := 115) (L' := [(6, .int (gpO (kiM S k n q 6) (gA S 59 (35 + k)) (nI n1) 6)), (5, .int (nI n1)), (8, .int (gpO (kiM S k n q 6) (gA S 59 (35 + k)) (nI n1) 6)), (0, .ref (eA E 58)), (1, .int (nI k)), (2, .int (nI n)), (4, .int (kiM S k n q 6)), (7, .int (nI n1))]) dX9_test_115 (Nat.le_of_ble_eq_true rfl) rfl ?_
                  refine g_iinc (pc := 117) (L' := [(7, .int (nI n1 + 1)), (6, .int (gpO (kiM S k n q 6) (gA S 59 (35 + k)) (nI n1) 6)), (5, .int (nI n1)), (8, .int (gpO (kiM S k n q 6) (gA S 59 (35 + k)) (nI n1) 6)), (0, .ref (eA E 58)), (1, .int (nI k)), (2, .int (nI n)), (4, .int (kiM S k n q 6))]) dX9_test_117 (k := 7) rfl (v := nI n1 + 1) rfl (Nat.le_of_ble_eq_true rfl) rfl ?_
                  refine g_goto (pc := 120) (tgt := 59) dX9_test_120 (by decide) ?_
                  refine g_sub (L' := [(0, .ref (eA E 58)), (1, .int (nI k)), (2, .int (nI n)), (4, .int (kiM S k n q 6)), (5, .int (nI n1)), (6, .int (gpO (kiM S k n q 6) (gA S 59 (35 + k)) (nI n1) 6)), (7, .int (nI n1 + 1))]) [4, 5, 6, 7, 2, 1, 0] rfl ?_
                  exact g_eq rfl (by rw [nI_1, show teM (kiM S k n q 6) (gA S 59 (35 + k)) (n1 + 1) = (nI n1, gpO (kiM S k n q 6) (gA S 59 (35 + k)) (nI n1) 6) from if_pos k_89]) rfl (ih_59 hlt_59)
          refine g_sub (L' := [(0, .ref (eA E 58)), (1, .int (nI k)), (2, .int (nI n)), (4, .int (kiM S k n q 6)), (5, .int 0), (6, .int 1000000), (7, .int 0)]) [5, 6, 7, 3, 2, 1, 0] rfl ?_
          exact g_eq rfl rfl rfl (H_59 0 (Nat.zero_le _))
        · exact absurd c_43 h0
      · have k_24 := Int32.not_le.mp c_24
        exact absurd (by rw [hg]; decide) c_24
    · exact absurd (hr.symm.trans c_12) (by decide)
set_option maxRecDepth 100000 in
set_option maxHeartbeats 4000000 in
theorem c_X9_asked (E : En) (S : St)  : CTe E i_X9_asked S [.ref (eA E 58)] S (some (.int (gI S 58 7))) := by
  refine ct_of [(0, .ref (eA E 58))] (by decide +kernel) (Nat.le_of_ble_eq_true rfl) rfl (fun X hM => ?_)
  refine g_aload_n (pc := 0) dX9_asked_0 0 rfl rfl ?_
  refine gf_X9_57 (pc := 1) rfl dX9_asked_1 ?_
  exact g_iret (pc := 4) hM rfl rfl ⟨rfl, rfl⟩ dX9_asked_4
set_option maxRecDepth 100000 in
set_option maxHeartbeats 4000000 in
theorem c_X9_upper (E : En) (S : St)  : CTe E i_X9_upper S [.ref (eA E 58)] S (some (.long (gL S 58 8))) := by
  refine ct_of [(0, .ref (eA E 58))] (by decide +kernel) (Nat.le_of_ble_eq_true rfl) rfl (fun X hM => ?_)
  refine g_aload_n (pc := 0) dX9_upper_0 0 rfl rfl ?_
  refine gf_X9_223 (pc := 1) rfl dX9_upper_1 ?_
  exact g_lret (pc := 4) hM rfl ⟨rfl, rfl⟩ dX9_upper_4
set_option maxRecDepth 100000 in
set_option maxHeartbeats 4000000 in
theorem c_X9_lower (E : En) (S : St)  : CTe E i_X9_lower S [.ref (eA E 58)] S (some (.long (gL S 58 9))) := by
  refine ct_of [(0, .ref (eA E 58))] (by decide +kernel) (Nat.le_of_ble_eq_true rfl) rfl (fun X hM => ?_)
  refine g_aload_n (pc := 0) dX9_lower_0 0 rfl rfl ?_
  refine gf_X9_28 (pc := 1) rfl dX9_lower_1 ?_
  exact g_lret (pc := 4) hM rfl ⟨rfl, rfl⟩ dX9_lower_4
set_option maxRecDepth 100000 in
set_option maxHeartbeats 4000000 in
theorem c_X9_finding (E : En) (S : St)  : CTe E i_X9_finding S [.ref (eA E 58)] S (some (.int (gI S 58 5))) := by
  refine ct_of [(0, .ref (eA E 58))] (by decide +kernel) (Nat.le_of_ble_eq_true rfl) rfl (fun X hM => ?_)
  refine g_aload_n (pc := 0) dX9_finding_0 0 rfl rfl ?_
  refine gf_X9_53 (pc := 1) rfl dX9_finding_1 ?_
  exact g_iret (pc := 4) hM rfl rfl ⟨rfl, rfl⟩ dX9_finding_4
set_option maxRecDepth 100000 in
set_option maxHeartbeats 4000000 in
theorem c_X9_findings_bad (E : En) (S : St) (x : Int32) (h : inF x.toInt64 1 5 = false) : CTe E i_X9_findings S [.ref (eA E 58), .int x] S (some (.int (-1))) := by
  refine ct_of [(0, .ref (eA E 58)), (1, .int x)] (by decide +kernel) (Nat.le_of_ble_eq_true rfl) rfl (fun X hM => ?_)
  refine g_iload_n (pc := 0) dX9_findings_0 1 rfl rfl ?_
  refine g_i2l (pc := 1) dX9_findings_1 ?_
  refine g_lconst (pc := 2) (v := 1) dX9_findings_2 (by decide) ?_
  refine g_ldc2 (pc := 3) kw_X9_60 dX9_findings_3 ?_
  refine g_invS (pc := 6) j_X9_in mw_X9_62 dX9_findings_6 (by rfl) (c_X9_in E S x.toInt64 1 5 ) (Nat.le_of_ble_eq_true rfl) (Nat.le_of_ble_eq_true rfl) (by rfl) (Nat.le_of_ble_eq_true rfl) ?_
  refine g_b_eq (pc := 9) (tgt := 21) dX9_findings_9 (by decide) (fun c_9 => ?_) (fun c_9 => ?_)
  · refine g_iconst (pc := 21) (v := -1) dX9_findings_21 (by decide) ?_
    exact g_iret (pc := 22) hM rfl rfl ⟨rfl, rfl⟩ dX9_findings_22
  · exact absurd (h.symm.trans c_9) (by decide)
set_option maxRecDepth 100000 in
set_option maxHeartbeats 4000000 in
theorem c_X9_findings_ok (E : En) (S : St) (f : Nat) (h : inF (nI f).toInt64 1 5 = true) (hf : f < 6) : CTe E i_X9_findings S [.ref (eA E 58), .int (nI f)] S (some (.int (gA S 64 f))) := by
  refine ct_of [(0, .ref (eA E 58)), (1, .int (nI f))] (by decide +kernel) (Nat.le_of_ble_eq_true rfl) rfl (fun X hM => ?_)
  refine g_iload_n (pc := 0) dX9_findings_0 1 rfl rfl ?_
  refine g_i2l (pc := 1) dX9_findings_1 ?_
  refine g_lconst (pc := 2) (v := 1) dX9_findings_2 (by decide) ?_
  refine g_ldc2 (pc := 3) kw_X9_60 dX9_findings_3 ?_
  refine g_invS (pc := 6) j_X9_in mw_X9_62 dX9_findings_6 (by rfl) (c_X9_in E S ((nI f).toInt64) 1 5 ) (Nat.le_of_ble_eq_true rfl) (Nat.le_of_ble_eq_true rfl) (by rfl) (Nat.le_of_ble_eq_true rfl) ?_
  refine g_b_eq (pc := 9) (tgt := 21) dX9_findings_9 (by decide) (fun c_9 => ?_) (fun c_9 => ?_)
  · exact absurd (h.symm.trans c_9) (by decide)
  · refine g_aload_n (pc := 12) dX9_findings_12 0 rfl rfl ?_
    refine gf_X9_25 (pc := 13) rfl dX9_findings_13 ?_
    refine g_iload_n (pc := 16) dX9_findings_16 1 rfl rfl ?_
    refine g_iald (pc := 17) f rfl rfl (show f < 6 by omega) (by decide) dX9_findings_17 ?_
    refine g_goto (pc := 18) (tgt := 22) dX9_findings_18 (by decide) ?_
    exact g_iret (pc := 22) hM rfl rfl ⟨rfl, rfl⟩ dX9_findings_22
set_option maxRecDepth 100000 in
set_option maxHeartbeats 4000000 in
theorem c_X9_manyOf (E : En) (S : St) (a b : Int32) (hz : okM S) : CTe E i_X9_manyOf S [.ref (eA E 58), .int a, .int b] S (some (.int (mnR S a b (nM S)))) := by
  have hz8 := hz.2
  refine ct_of [(0, .ref (eA E 58)), (1, .int a), (2, .int b)] (by decide +kernel) (Nat.le_of_ble_eq_true rfl) rfl (fun X hM => ?_)
  refine g_iconst (pc := 0) (v := 0) dX9_manyOf_0 (by decide) ?_
  refine g_istore_n (pc := 1) (L' := [(3, .int 0), (0, .ref (eA E 58)), (1, .int a), (2, .int b)]) dX9_manyOf_1 rfl (Nat.le_of_ble_eq_true rfl) rfl ?_
  refine g_iconst (pc := 2) (v := 0) dX9_manyOf_2 (by decide) ?_
  refine g_istore (pc := 3) (L' := [(4, .int 0), (3, .int 0), (0, .ref (eA E 58)), (1, .int a), (2, .int b)]) dX9_manyOf_3 (Nat.le_of_ble_eq_true rfl) rfl ?_
  have H_5 : ∀ n : Nat, n ≤ (nM S) → G E X i_X9_manyOf S 5 [(0, .ref (eA E 58)), (1, .int a), (2, .int b), (3, .int (mnR S a b n)), (4, .int (nI n))] [] := by
    refine dn_ind (nM S) (fun n hn_5 ih_5 => ?_)
    refine g_iload (pc := 5) dX9_manyOf_5 4 rfl ?_
    refine g_aload_n (pc := 7) dX9_manyOf_7 0 rfl rfl ?_
    refine gf_X9_7 (pc := 8) rfl dX9_manyOf_8 ?_
    refine g_iconst (pc := 11) (v := 0) dX9_manyOf_11 (by decide) ?_
    refine g_iald (pc := 12) 0 rfl rfl (by decide) (by decide) dX9_manyOf_12 ?_
    refine g_icmp_ge (pc := 13) (tgt := 58) dX9_manyOf_13 (by decide) (fun c_13 => ?_) (fun c_13 => ?_)
    · have k_13 := Int32.not_lt.mpr c_13
      have he_5 : n = (nM S) := Nat.le_antisymm hn_5 (by exact nle_of (N := nM S) rfl hz.1 (by omega) (by omega) c_13)
      rw [he_5]
      refine g_iload_n (pc := 58) dX9_manyOf_58 3 rfl rfl ?_
      exact g_iret (pc := 59) hM rfl rfl ⟨rfl, rfl⟩ dX9_manyOf_59
    · have k_13 := Int32.not_le.mp c_13
      have hlt_5 : n < (nM S) := by exact nlt_of (N := nM S) rfl hz.1 (by omega) (by omega) c_13
      refine g_iload_n (pc := 16) dX9_manyOf_16 3 rfl rfl ?_
      refine g_aload_n (pc := 17) dX9_manyOf_17 0 rfl rfl ?_
      refine gf_X9_7 (pc := 18) rfl dX9_manyOf_18 ?_
      refine g_bipush (pc := 21) (v := 11) dX9_manyOf_21 (by decide) ?_
      refine g_iload (pc := 23) dX9_manyOf_23 4 rfl ?_
      refine g_iadd (pc := 25) dX9_manyOf_25 ?_
      refine g_iald (pc := 26) (11 + n) (nI_aE rfl rfl) rfl (show 11 + n < 1776 by omega) (by decide) dX9_manyOf_26 ?_
      refine g_iload_n (pc := 27) dX9_manyOf_27 1 rfl rfl ?_
      refine g_icmp_eq (pc := 28) (tgt := 45) dX9_manyOf_28 (by decide) (fun c_28 => ?_) (fun c_28 => ?_)
      · refine g_iconst (pc := 45) (v := 1) dX9_manyOf_45 (by decide) ?_
        refine g_goto (pc := 46) (tgt := 50) dX9_manyOf_46 (by decide) ?_
        refine g_iadd (pc := 50) dX9_manyOf_50 ?_
        refine g_istore_n (pc := 51) (L' := [(3, .int (mnR S a b n + 1)), (0, .ref (eA E 58)), (1, .int a), (2, .int b), (4, .int (nI n))]) dX9_manyOf_51 rfl (Nat.le_of_ble_eq_true rfl) rfl ?_
        refine g_iinc (pc := 52) (L' := [(4, .int (nI n + 1)), (3, .int (mnR S a b n + 1)), (0, .ref (eA E 58)), (1, .int a), (2, .int b)]) dX9_manyOf_52 (k := 4) rfl (v := nI n + 1) rfl (Nat.le_of_ble_eq_true rfl) rfl ?_
        refine g_goto (pc := 55) (tgt := 5) dX9_manyOf_55 (by decide) ?_
        refine g_sub (L' := [(0, .ref (eA E 58)), (1, .int a), (2, .int b), (3, .int (mnR S a b n + 1)), (4, .int (nI n + 1))]) [2, 3, 4, 1, 0] rfl ?_
        exact g_eq rfl (by rw [nI_1, mnR]; simp only [eq_true c_28, if_true, if_false, Bool.false_eq_true, Bool.not_true, Bool.not_false, Bool.and_true, Bool.true_and, Bool.and_false, Bool.false_and, Bool.or_true, Bool.true_or, Bool.or_false, Bool.false_or, decide_true, decide_false, Bool.and_self]) rfl (ih_5 hlt_5)
      · refine g_aload_n (pc := 31) dX9_manyOf_31 0 rfl rfl ?_
        refine gf_X9_7 (pc := 32) rfl dX9_manyOf_32 ?_
        refine g_bipush (pc := 35) (v := 11) dX9_manyOf_35 (by decide) ?_
        refine g_iload (pc := 37) dX9_manyOf_37 4 rfl ?_
        refine g_iadd (pc := 39) dX9_manyOf_39 ?_
        refine g_iald (pc := 40) (11 + n) (nI_aE rfl rfl) rfl (show 11 + n < 1776 by omega) (by decide) dX9_manyOf_40 ?_
        refine g_iload_n (pc := 41) dX9_manyOf_41 2 rfl rfl ?_
        refine g_icmp_ne (pc := 42) (tgt := 49) dX9_manyOf_42 (by decide) (fun c_42 => ?_) (fun c_42 => ?_)
        · refine g_iconst (pc := 49) (v := 0) dX9_manyOf_49 (by decide) ?_
          refine g_iadd (pc := 50) dX9_manyOf_50 ?_
          refine g_istore_n (pc := 51) (L' := [(3, .int (mnR S a b n + 0)), (0, .ref (eA E 58)), (1, .int a), (2, .int b), (4, .int (nI n))]) dX9_manyOf_51 rfl (Nat.le_of_ble_eq_true rfl) rfl ?_
          refine g_iinc (pc := 52) (L' := [(4, .int (nI n + 1)), (3, .int (mnR S a b n + 0)), (0, .ref (eA E 58)), (1, .int a), (2, .int b)]) dX9_manyOf_52 (k := 4) rfl (v := nI n + 1) rfl (Nat.le_of_ble_eq_true rfl) rfl ?_
          refine g_goto (pc := 55) (tgt := 5) dX9_manyOf_55 (by decide) ?_
          refine g_sub (L' := [(0, .ref (eA E 58)), (1, .int a), (2, .int b), (3, .int (mnR S a b n + 0)), (4, .int (nI n + 1))]) [2, 3, 4, 1, 0] rfl ?_
          exact g_eq rfl (by rw [nI_1, mnR]; simp only [c_28, c_42, if_true, if_false, Bool.false_eq_true, Bool.not_true, Bool.not_false, Bool.and_true, Bool.true_and, Bool.and_false, Bool.false_and, Bool.or_true, Bool.true_or, Bool.or_false, Bool.false_or, decide_true, decide_false, Bool.and_self]) rfl (ih_5 hlt_5)
        · refine g_iconst (pc := 45) (v := 1) dX9_manyOf_45 (by decide) ?_
          refine g_goto (pc := 46) (tgt := 50) dX9_manyOf_46 (by decide) ?_
          refine g_iadd (pc := 50) dX9_manyOf_50 ?_
          refine g_istore_n (pc := 51) (L' := [(3, .int (mnR S a b n + 1)), (0, .ref (eA E 58)), (1, .int a), (2, .int b), (4, .int (nI n))]) dX9_manyOf_51 rfl (Nat.le_of_ble_eq_true rfl) rfl ?_
          refine g_iinc (pc := 52) (L' := [(4, .int (nI n + 1)), (3, .int (mnR S a b n + 1)), (0, .ref (eA E 58)), (1, .int a), (2, .int b)]) dX9_manyOf_52 (k := 4) rfl (v := nI n + 1) rfl (Nat.le_of_ble_eq_true rfl) rfl ?_
          refine g_goto (pc := 55) (tgt := 5) dX9_manyOf_55 (by decide) ?_
          refine g_sub (L' := [(0, .ref (eA E 58)), (1, .int a), (2, .int b), (3, .int (mnR S a b n + 1)), (4, .int (nI n + 1))]) [2, 3, 4, 1, 0] rfl ?_
          exact g_eq rfl (by rw [nI_1, mnR]; simp only [c_28, eq_true c_42, if_true, if_false, Bool.false_eq_true, Bool.not_true, Bool.not_false, Bool.and_true, Bool.true_and, Bool.and_false, Bool.false_and, Bool.or_true, Bool.true_or, Bool.or_false, Bool.false_or, decide_true, decide_false, Bool.and_self]) rfl (ih_5 hlt_5)
  refine g_sub (L' := [(0, .ref (eA E 58)), (1, .int a), (2, .int b), (3, .int 0), (4, .int 0)]) [2, 3, 4, 1, 0] rfl ?_
  exact g_eq rfl rfl rfl (H_5 0 (Nat.zero_le _))
set_option maxRecDepth 100000 in
set_option maxHeartbeats 4000000 in
theorem c_X9_rowsThere (E : En) (S : St)  : CTe E i_X9_rowsThere S [.ref (eA E 58)] S (some (.int (thF (gA S 60) 6))) := by
  refine ct_of [(0, .ref (eA E 58))] (by decide +kernel) (Nat.le_of_ble_eq_true rfl) rfl (fun X hM => ?_)
  refine g_iconst (pc := 0) (v := 0) dX9_rowsThere_0 (by decide) ?_
  refine g_istore_n (pc := 1) (L' := [(1, .int 0), (0, .ref (eA E 58))]) dX9_rowsThere_1 rfl (Nat.le_of_ble_eq_true rfl) rfl ?_
  refine g_iconst (pc := 2) (v := 0) dX9_rowsThere_2 (by decide) ?_
  refine g_istore_n (pc := 3) (L' := [(2, .int 0), (1, .int 0), (0, .ref (eA E 58))]) dX9_rowsThere_3 rfl (Nat.le_of_ble_eq_true rfl) rfl ?_
  have H_4 : ∀ n : Nat, n ≤ 6 → G E X i_X9_rowsThere S 4 [(0, .ref (eA E 58)), (1, .int (thF (gA S 60) n)), (2, .int (nI n))] [] := by
    refine dn_ind 6 (fun n hn_4 ih_4 => ?_)
    refine g_iload_n (pc := 4) dX9_rowsThere_4 2 rfl rfl ?_
    refine g_bipush (pc := 5) (v := 6) dX9_rowsThere_5 (by decide) ?_
    refine g_icmp_ge (pc := 7) (tgt := 33) dX9_rowsThere_7 (by decide) (fun c_7 => ?_) (fun c_7 => ?_)
    · have k_7 := Int32.not_lt.mpr c_7
      have he_4 : n = 6 := Nat.le_antisymm hn_4 (by exact nle_of (N := 6) rfl rfl (by omega) (by omega) c_7)
      rw [he_4]
      refine g_iload_n (pc := 33) dX9_rowsThere_33 1 rfl rfl ?_
      exact g_iret (pc := 34) hM rfl rfl ⟨rfl, rfl⟩ dX9_rowsThere_34
    · have k_7 := Int32.not_le.mp c_7
      have hlt_4 : n < 6 := by exact nlt_of (N := 6) rfl rfl (by omega) (by omega) c_7
      refine g_iload_n (pc := 10) dX9_rowsThere_10 1 rfl rfl ?_
      refine g_aload_n (pc := 11) dX9_rowsThere_11 0 rfl rfl ?_
      refine gf_X9_13 (pc := 12) rfl dX9_rowsThere_12 ?_
      refine g_iload_n (pc := 15) dX9_rowsThere_15 2 rfl rfl ?_
      refine g_iald (pc := 16) n rfl rfl (show n < 6 by omega) (by decide) dX9_rowsThere_16 ?_
      refine g_if_ge (pc := 17) (tgt := 24) dX9_rowsThere_17 (by decide) (fun c_17 => ?_) (fun c_17 => ?_)
      · have k_17 := Int32.not_lt.mpr c_17
        refine g_iconst (pc := 24) (v := 1) dX9_rowsThere_24 (by decide) ?_
        refine g_iadd (pc := 25) dX9_rowsThere_25 ?_
        refine g_istore_n (pc := 26) (L' := [(1, .int (thF (gA S 60) n + 1)), (0, .ref (eA E 58)), (2, .int (nI n))]) dX9_rowsThere_26 rfl (Nat.le_of_ble_eq_true rfl) rfl ?_
        refine g_iinc (pc := 27) (L' := [(2, .int (nI n + 1)), (1, .int (thF (gA S 60) n + 1)), (0, .ref (eA E 58))]) dX9_rowsThere_27 (k := 2) rfl (v := nI n + 1) rfl (Nat.le_of_ble_eq_true rfl) rfl ?_
        refine g_goto (pc := 30) (tgt := 4) dX9_rowsThere_30 (by decide) ?_
        refine g_sub (L' := [(0, .ref (eA E 58)), (1, .int (thF (gA S 60) n + 1)), (2, .int (nI n + 1))]) [2, 1, 0] rfl ?_
        exact g_eq rfl (by rw [nI_1, thF, if_pos c_17]) rfl (ih_4 hlt_4)
      · have k_17 := Int32.not_le.mp c_17
        refine g_iconst (pc := 20) (v := 0) dX9_rowsThere_20 (by decide) ?_
        refine g_goto (pc := 21) (tgt := 25) dX9_rowsThere_21 (by decide) ?_
        refine g_iadd (pc := 25) dX9_rowsThere_25 ?_
        refine g_istore_n (pc := 26) (L' := [(1, .int (thF (gA S 60) n + 0)), (0, .ref (eA E 58)), (2, .int (nI n))]) dX9_rowsThere_26 rfl (Nat.le_of_ble_eq_true rfl) rfl ?_
        refine g_iinc (pc := 27) (L' := [(2, .int (nI n + 1)), (1, .int (thF (gA S 60) n + 0)), (0, .ref (eA E 58))]) dX9_rowsThere_27 (k := 2) rfl (v := nI n + 1) rfl (Nat.le_of_ble_eq_true rfl) rfl ?_
        refine g_goto (pc := 30) (tgt := 4) dX9_rowsThere_30 (by decide) ?_
        refine g_sub (L' := [(0, .ref (eA E 58)), (1, .int (thF (gA S 60) n + 0)), (2, .int (nI n + 1))]) [2, 1, 0] rfl ?_
        exact g_eq rfl (by rw [nI_1, thF, if_neg c_17]) rfl (ih_4 hlt_4)
  refine g_sub (L' := [(0, .ref (eA E 58)), (1, .int 0), (2, .int 0)]) [2, 1, 0] rfl ?_
  exact g_eq rfl rfl rfl (H_4 0 (Nat.zero_le _))
set_option maxRecDepth 100000 in
set_option maxHeartbeats 4000000 in
theorem c_X9_textsThere (E : En) (S : St)  : CTe E i_X9_textsThere S [.ref (eA E 58)] S (some (.int (thF (gA S 62) 4))) := by
  refine ct_of [(0, .ref (eA E 58))] (by decide +kernel) (Nat.le_of_ble_eq_true rfl) rfl (fun X hM => ?_)
  refine g_iconst (pc := 0) (v := 0) dX9_textsThere_0 (by decide) ?_
  refine g_istore_n (pc := 1) (L' := [(1, .int 0), (0, .ref (eA E 58))]) dX9_textsThere_1 rfl (Nat.le_of_ble_eq_true rfl) rfl ?_
  refine g_iconst (pc := 2) (v := 0) dX9_textsThere_2 (by decide) ?_
  refine g_istore_n (pc := 3) (L' := [(2, .int 0), (1, .int 0), (0, .ref (eA E 58))]) dX9_textsThere_3 rfl (Nat.le_of_ble_eq_true rfl) rfl ?_
  have H_4 : ∀ n : Nat, n ≤ 4 → G E X i_X9_textsThere S 4 [(0, .ref (eA E 58)), (1, .int (thF (gA S 62) n)), (2, .int (nI n))] [] := by
    refine dn_ind 4 (fun n hn_4 ih_4 => ?_)
    refine g_iload_n (pc := 4) dX9_textsThere_4 2 rfl rfl ?_
    refine g_iconst (pc := 5) (v := 4) dX9_textsThere_5 (by decide) ?_
    refine g_icmp_ge (pc := 6) (tgt := 32) dX9_textsThere_6 (by decide) (fun c_6 => ?_) (fun c_6 => ?_)
    · have k_6 := Int32.not_lt.mpr c_6
      have he_4 : n = 4 := Nat.le_antisymm hn_4 (by exact nle_of (N := 4) rfl rfl (by omega) (by omega) c_6)
      rw [he_4]
      refine g_iload_n (pc := 32) dX9_textsThere_32 1 rfl rfl ?_
      exact g_iret (pc := 33) hM rfl rfl ⟨rfl, rfl⟩ dX9_textsThere_33
    · have k_6 := Int32.not_le.mp c_6
      have hlt_4 : n < 4 := by exact nlt_of (N := 4) rfl rfl (by omega) (by omega) c_6
      refine g_iload_n (pc := 9) dX9_textsThere_9 1 rfl rfl ?_
      refine g_aload_n (pc := 10) dX9_textsThere_10 0 rfl rfl ?_
      refine gf_X9_19 (pc := 11) rfl dX9_textsThere_11 ?_
      refine g_iload_n (pc := 14) dX9_textsThere_14 2 rfl rfl ?_
      refine g_iald (pc := 15) n rfl rfl (show n < 4 by omega) (by decide) dX9_textsThere_15 ?_
      refine g_if_ge (pc := 16) (tgt := 23) dX9_textsThere_16 (by decide) (fun c_16 => ?_) (fun c_16 => ?_)
      · have k_16 := Int32.not_lt.mpr c_16
        refine g_iconst (pc := 23) (v := 1) dX9_textsThere_23 (by decide) ?_
        refine g_iadd (pc := 24) dX9_textsThere_24 ?_
        refine g_istore_n (pc := 25) (L' := [(1, .int (thF (gA S 62) n + 1)), (0, .ref (eA E 58)), (2, .int (nI n))]) dX9_textsThere_25 rfl (Nat.le_of_ble_eq_true rfl) rfl ?_
        refine g_iinc (pc := 26) (L' := [(2, .int (nI n + 1)), (1, .int (thF (gA S 62) n + 1)), (0, .ref (eA E 58))]) dX9_textsThere_26 (k := 2) rfl (v := nI n + 1) rfl (Nat.le_of_ble_eq_true rfl) rfl ?_
        refine g_goto (pc := 29) (tgt := 4) dX9_textsThere_29 (by decide) ?_
        refine g_sub (L' := [(0, .ref (eA E 58)), (1, .int (thF (gA S 62) n + 1)), (2, .int (nI n + 1))]) [2, 1, 0] rfl ?_
        exact g_eq rfl (by rw [nI_1, thF, if_pos c_16]) rfl (ih_4 hlt_4)
      · have k_16 := Int32.not_le.mp c_16
        refine g_iconst (pc := 19) (v := 0) dX9_textsThere_19 (by decide) ?_
        refine g_goto (pc := 20) (tgt := 24) dX9_textsThere_20 (by decide) ?_
        refine g_iadd (pc := 24) dX9_textsThere_24 ?_
        refine g_istore_n (pc := 25) (L' := [(1, .int (thF (gA S 62) n + 0)), (0, .ref (eA E 58)), (2, .int (nI n))]) dX9_textsThere_25 rfl (Nat.le_of_ble_eq_true rfl) rfl ?_
        refine g_iinc (pc := 26) (L' := [(2, .int (nI n + 1)), (1, .int (thF (gA S 62) n + 0)), (0, .ref (eA E 58))]) dX9_textsThere_26 (k := 2) rfl (v := nI n + 1) rfl (Nat.le_of_ble_eq_true rfl) rfl ?_
        refine g_goto (pc := 29) (tgt := 4) dX9_textsThere_29 (by decide) ?_
        refine g_sub (L' := [(0, .ref (eA E 58)), (1, .int (thF (gA S 62) n + 0)), (2, .int (nI n + 1))]) [2, 1, 0] rfl ?_
        exact g_eq rfl (by rw [nI_1, thF, if_neg c_16]) rfl (ih_4 hlt_4)
  refine g_sub (L' := [(0, .ref (eA E 58)), (1, .int 0), (2, .int 0)]) [2, 1, 0] rfl ?_
  exact g_eq rfl rfl rfl (H_4 0 (Nat.zero_le _))
set_option maxRecDepth 100000 in
set_option maxHeartbeats 4000000 in
theorem c_X9_banksKept (E : En) (S : St)  : CTe E i_X9_banksKept S [.ref (eA E 58)] S (some (.int (bkR (gA S 59) 3))) := by
  refine ct_of [(0, .ref (eA E 58))] (by decide +kernel) (Nat.le_of_ble_eq_true rfl) rfl (fun X hM => ?_)
  refine g_iconst (pc := 0) (v := 0) dX9_banksKept_0 (by decide) ?_
  refine g_istore_n (pc := 1) (L' := [(1, .int 0), (0, .ref (eA E 58))]) dX9_banksKept_1 rfl (Nat.le_of_ble_eq_true rfl) rfl ?_
  refine g_iconst (pc := 2) (v := 0) dX9_banksKept_2 (by decide) ?_
  refine g_istore_n (pc := 3) (L' := [(2, .int 0), (1, .int 0), (0, .ref (eA E 58))]) dX9_banksKept_3 rfl (Nat.le_of_ble_eq_true rfl) rfl ?_
  have H_4 : ∀ n : Nat, n ≤ 3 → G E X i_X9_banksKept S 4 [(0, .ref (eA E 58)), (1, .int (bkR (gA S 59) n)), (2, .int (nI n))] [] := by
    refine dn_ind 3 (fun n hn_4 ih_4 => ?_)
    refine g_iload_n (pc := 4) dX9_banksKept_4 2 rfl rfl ?_
    refine g_iconst (pc := 5) (v := 3) dX9_banksKept_5 (by decide) ?_
    refine g_icmp_ge (pc := 6) (tgt := 42) dX9_banksKept_6 (by decide) (fun c_6 => ?_) (fun c_6 => ?_)
    · have k_6 := Int32.not_lt.mpr c_6
      have he_4 : n = 3 := Nat.le_antisymm hn_4 (by exact nle_of (N := 3) rfl rfl (by omega) (by omega) c_6)
      rw [he_4]
      refine g_iload_n (pc := 42) dX9_banksKept_42 1 rfl rfl ?_
      exact g_iret (pc := 43) hM rfl rfl ⟨rfl, rfl⟩ dX9_banksKept_43
    · have k_6 := Int32.not_le.mp c_6
      have hlt_4 : n < 3 := by exact nlt_of (N := 3) rfl rfl (by omega) (by omega) c_6
      refine g_iload_n (pc := 9) dX9_banksKept_9 1 rfl rfl ?_
      refine g_aload_n (pc := 10) dX9_banksKept_10 0 rfl rfl ?_
      refine gf_X9_7 (pc := 11) rfl dX9_banksKept_11 ?_
      refine g_sipush (pc := 14) (v := 444) dX9_banksKept_14 (by decide) ?_
      refine g_sipush (pc := 17) (v := 444) dX9_banksKept_17 (by decide) ?_
      refine g_iload_n (pc := 20) dX9_banksKept_20 2 rfl rfl ?_
      refine g_imul (pc := 21) dX9_banksKept_21 ?_
      refine g_iadd (pc := 22) dX9_banksKept_22 ?_
      rw [show (444 + (444 * nI n) : Int32) = nI (444 + 444 * n) from nI_aE rfl (nI_mE rfl rfl)]
      refine g_iconst (pc := 23) (v := 0) dX9_banksKept_23 (by decide) ?_
      refine g_iadd (pc := 24) dX9_banksKept_24 ?_
      refine g_iald (pc := 25) (444 + 444 * n) (Int32.add_zero _) rfl (show 444 + 444 * n < 1776 by omega) (by decide) dX9_banksKept_25 ?_
      refine g_if_ne (pc := 26) (tgt := 33) dX9_banksKept_26 (by decide) (fun c_26 => ?_) (fun c_26 => ?_)
      · refine g_iconst (pc := 33) (v := 1) dX9_banksKept_33 (by decide) ?_
        refine g_iadd (pc := 34) dX9_banksKept_34 ?_
        refine g_istore_n (pc := 35) (L' := [(1, .int (bkR (gA S 59) n + 1)), (0, .ref (eA E 58)), (2, .int (nI n))]) dX9_banksKept_35 rfl (Nat.le_of_ble_eq_true rfl) rfl ?_
        refine g_iinc (pc := 36) (L' := [(2, .int (nI n + 1)), (1, .int (bkR (gA S 59) n + 1)), (0, .ref (eA E 58))]) dX9_banksKept_36 (k := 2) rfl (v := nI n + 1) rfl (Nat.le_of_ble_eq_true rfl) rfl ?_
        refine g_goto (pc := 39) (tgt := 4) dX9_banksKept_39 (by decide) ?_
        refine g_sub (L' := [(0, .ref (eA E 58)), (1, .int (bkR (gA S 59) n + 1)), (2, .int (nI n + 1))]) [2, 1, 0] rfl ?_
        exact g_eq rfl (by rw [nI_1, bkR, if_neg c_26]) rfl (ih_4 hlt_4)
      · refine g_iconst (pc := 29) (v := 0) dX9_banksKept_29 (by decide) ?_
        refine g_goto (pc := 30) (tgt := 34) dX9_banksKept_30 (by decide) ?_
        refine g_iadd (pc := 34) dX9_banksKept_34 ?_
        refine g_istore_n (pc := 35) (L' := [(1, .int (bkR (gA S 59) n + 0)), (0, .ref (eA E 58)), (2, .int (nI n))]) dX9_banksKept_35 rfl (Nat.le_of_ble_eq_true rfl) rfl ?_
        refine g_iinc (pc := 36) (L' := [(2, .int (nI n + 1)), (1, .int (bkR (gA S 59) n + 0)), (0, .ref (eA E 58))]) dX9_banksKept_36 (k := 2) rfl (v := nI n + 1) rfl (Nat.le_of_ble_eq_true rfl) rfl ?_
        refine g_goto (pc := 39) (tgt := 4) dX9_banksKept_39 (by decide) ?_
        refine g_sub (L' := [(0, .ref (eA E 58)), (1, .int (bkR (gA S 59) n + 0)), (2, .int (nI n + 1))]) [2, 1, 0] rfl ?_
        exact g_eq rfl (by rw [nI_1, bkR, if_pos c_26]) rfl (ih_4 hlt_4)
  refine g_sub (L' := [(0, .ref (eA E 58)), (1, .int 0), (2, .int 0)]) [2, 1, 0] rfl ?_
  exact g_eq rfl rfl rfl (H_4 0 (Nat.zero_le _))
set_option maxRecDepth 100000 in
set_option maxHeartbeats 4000000 in
theorem c_X9_count (E : En) (S : St) (i : Int32) (hz : okM S) : CTe E i_X9_count S [.ref (eA E 58), .int i] S (some (.int (cnM S i))) := by
  refine ct_of [(0, .ref (eA E 58)), (1, .int i)] (by decide +kernel) (Nat.le_of_ble_eq_true rfl) rfl (fun X hM => ?_)
  refine g_iload_n (pc := 0) dX9_count_0 1 rfl rfl ?_
  rcases tsw0_9 i with c_1 | c_1 | c_1 | c_1 | c_1 | c_1 | c_1 | c_1 | c_1 | c_1 | c_1
  · refine g_tsIn (pc := 1) (tgt := 56) dX9_count_1 (by rw [c_1]; decide) (by rw [c_1]; decide) (by rw [c_1]; rfl) (by decide) ?_
    refine g_aload_n (pc := 56) dX9_count_56 0 rfl rfl ?_
    refine gf_X9_7 (pc := 57) rfl dX9_count_57 ?_
    refine g_iconst (pc := 60) (v := 0) dX9_count_60 (by decide) ?_
    refine g_iald (pc := 61) 0 rfl rfl (by decide) (by decide) dX9_count_61 ?_
    exact g_iret (pc := 62) hM rfl rfl ⟨rfl, some_int (by rw [c_1]; rfl)⟩ dX9_count_62
  · refine g_tsIn (pc := 1) (tgt := 63) dX9_count_1 (by rw [c_1]; decide) (by rw [c_1]; decide) (by rw [c_1]; rfl) (by decide) ?_
    refine g_aload_n (pc := 63) dX9_count_63 0 rfl rfl ?_
    refine gf_X9_7 (pc := 64) rfl dX9_count_64 ?_
    refine g_iconst (pc := 67) (v := 1) dX9_count_67 (by decide) ?_
    refine g_iald (pc := 68) 1 rfl rfl (by decide) (by decide) dX9_count_68 ?_
    exact g_iret (pc := 69) hM rfl rfl ⟨rfl, some_int (by rw [c_1]; rfl)⟩ dX9_count_69
  · refine g_tsIn (pc := 1) (tgt := 70) dX9_count_1 (by rw [c_1]; decide) (by rw [c_1]; decide) (by rw [c_1]; rfl) (by decide) ?_
    refine g_aload_n (pc := 70) dX9_count_70 0 rfl rfl ?_
    refine gf_X9_7 (pc := 71) rfl dX9_count_71 ?_
    refine g_bipush (pc := 74) (v := 43) dX9_count_74 (by decide) ?_
    refine g_iald (pc := 76) 43 rfl rfl (by decide) (by decide) dX9_count_76 ?_
    exact g_iret (pc := 77) hM rfl rfl ⟨rfl, some_int (by rw [c_1]; rfl)⟩ dX9_count_77
  · refine g_tsIn (pc := 1) (tgt := 78) dX9_count_1 (by rw [c_1]; decide) (by rw [c_1]; decide) (by rw [c_1]; rfl) (by decide) ?_
    refine g_aload_n (pc := 78) dX9_count_78 0 rfl rfl ?_
    refine gf_X9_7 (pc := 79) rfl dX9_count_79 ?_
    refine g_iconst (pc := 82) (v := 2) dX9_count_82 (by decide) ?_
    refine g_iald (pc := 83) 2 rfl rfl (by decide) (by decide) dX9_count_83 ?_
    exact g_iret (pc := 84) hM rfl rfl ⟨rfl, some_int (by rw [c_1]; rfl)⟩ dX9_count_84
  · refine g_tsIn (pc := 1) (tgt := 85) dX9_count_1 (by rw [c_1]; decide) (by rw [c_1]; decide) (by rw [c_1]; rfl) (by decide) ?_
    refine g_aload_n (pc := 85) dX9_count_85 0 rfl rfl ?_
    refine g_invV (pc := 86) j_X9_glowAll mw_X9_149 dX9_count_86 (rcv_X9) (by rfl) (c_X9_glowAll E S (by first | assumption | omega | rfl)) (Nat.le_of_ble_eq_true rfl) (Nat.le_of_ble_eq_true rfl) (by rfl) (Nat.le_of_ble_eq_true rfl) ?_
    exact g_iret (pc := 89) hM rfl rfl ⟨rfl, some_int (by rw [c_1]; rfl)⟩ dX9_count_89
  · refine g_tsIn (pc := 1) (tgt := 90) dX9_count_1 (by rw [c_1]; decide) (by rw [c_1]; decide) (by rw [c_1]; rfl) (by decide) ?_
    refine g_aload_n (pc := 90) dX9_count_90 0 rfl rfl ?_
    refine g_iconst (pc := 91) (v := 3) dX9_count_91 (by decide) ?_
    refine g_iconst (pc := 92) (v := 5) dX9_count_92 (by decide) ?_
    refine g_invV (pc := 93) j_X9_manyOf mw_X9_247 dX9_count_93 (rcv_X9) (by rfl) (c_X9_manyOf E S 3 5 (by first | assumption | omega | rfl)) (Nat.le_of_ble_eq_true rfl) (Nat.le_of_ble_eq_true rfl) (by rfl) (Nat.le_of_ble_eq_true rfl) ?_
    exact g_iret (pc := 96) hM rfl rfl ⟨rfl, some_int (by rw [c_1]; rfl)⟩ dX9_count_96
  · refine g_tsIn (pc := 1) (tgt := 97) dX9_count_1 (by rw [c_1]; decide) (by rw [c_1]; decide) (by rw [c_1]; rfl) (by decide) ?_
    refine g_aload_n (pc := 97) dX9_count_97 0 rfl rfl ?_
    refine g_iconst (pc := 98) (v := 2) dX9_count_98 (by decide) ?_
    refine g_iconst (pc := 99) (v := 4) dX9_count_99 (by decide) ?_
    refine g_invV (pc := 100) j_X9_manyOf mw_X9_247 dX9_count_100 (rcv_X9) (by rfl) (c_X9_manyOf E S 2 4 (by first | assumption | omega | rfl)) (Nat.le_of_ble_eq_true rfl) (Nat.le_of_ble_eq_true rfl) (by rfl) (Nat.le_of_ble_eq_true rfl) ?_
    exact g_iret (pc := 103) hM rfl rfl ⟨rfl, some_int (by rw [c_1]; rfl)⟩ dX9_count_103
  · refine g_tsIn (pc := 1) (tgt := 104) dX9_count_1 (by rw [c_1]; decide) (by rw [c_1]; decide) (by rw [c_1]; rfl) (by decide) ?_
    refine g_aload_n (pc := 104) dX9_count_104 0 rfl rfl ?_
    refine g_invV (pc := 105) j_X9_rowsThere mw_X9_250 dX9_count_105 (rcv_X9) (by rfl) (c_X9_rowsThere E S ) (Nat.le_of_ble_eq_true rfl) (Nat.le_of_ble_eq_true rfl) (by rfl) (Nat.le_of_ble_eq_true rfl) ?_
    exact g_iret (pc := 108) hM rfl rfl ⟨rfl, some_int (by rw [c_1]; rfl)⟩ dX9_count_108
  · refine g_tsIn (pc := 1) (tgt := 109) dX9_count_1 (by rw [c_1]; decide) (by rw [c_1]; decide) (by rw [c_1]; rfl) (by decide) ?_
    refine g_aload_n (pc := 109) dX9_count_109 0 rfl rfl ?_
    refine g_invV (pc := 110) j_X9_textsThere mw_X9_253 dX9_count_110 (rcv_X9) (by rfl) (c_X9_textsThere E S ) (Nat.le_of_ble_eq_true rfl) (Nat.le_of_ble_eq_true rfl) (by rfl) (Nat.le_of_ble_eq_true rfl) ?_
    exact g_iret (pc := 113) hM rfl rfl ⟨rfl, some_int (by rw [c_1]; rfl)⟩ dX9_count_113
  · refine g_tsIn (pc := 1) (tgt := 114) dX9_count_1 (by rw [c_1]; decide) (by rw [c_1]; decide) (by rw [c_1]; rfl) (by decide) ?_
    refine g_aload_n (pc := 114) dX9_count_114 0 rfl rfl ?_
    refine g_invV (pc := 115) j_X9_banksKept mw_X9_256 dX9_count_115 (rcv_X9) (by rfl) (c_X9_banksKept E S ) (Nat.le_of_ble_eq_true rfl) (Nat.le_of_ble_eq_true rfl) (by rfl) (Nat.le_of_ble_eq_true rfl) ?_
    exact g_iret (pc := 118) hM rfl rfl ⟨rfl, some_int (by rw [c_1]; rfl)⟩ dX9_count_118
  · refine g_tsOut (pc := 1) (tgt := 119) dX9_count_1 c_1 (by decide) ?_
    refine g_iconst (pc := 119) (v := -1) dX9_count_119 (by decide) ?_
    exact g_iret (pc := 120) hM rfl rfl ⟨rfl, some_int (cnM_out c_1).symm⟩ dX9_count_120
set_option maxRecDepth 100000 in
set_option maxHeartbeats 4000000 in
theorem c_X9_mix (E : En) (S : St) (x : Int64) : CTe E i_X9_mix S [.ref (eA E 58), .long x] (sL S 58 22 (31 * gL S 58 22 + x)) none := by
  refine ct_of [(0, .ref (eA E 58)), (1, .long x)] (by decide +kernel) (Nat.le_of_ble_eq_true rfl) rfl (fun X hM => ?_)
  refine g_aload_n (pc := 0) dX9_mix_0 0 rfl rfl ?_
  refine g_ldc2 (pc := 1) kw_X9_259 dX9_mix_1 ?_
  refine g_aload_n (pc := 4) dX9_mix_4 0 rfl rfl ?_
  refine gf_X9_261 (pc := 5) rfl dX9_mix_5 ?_
  refine g_lmul (pc := 8) dX9_mix_8 ?_
  refine g_lload_n (pc := 9) dX9_mix_9 1 rfl rfl ?_
  refine g_ladd (pc := 10) dX9_mix_10 ?_
  refine pf_X9_261 (pc := 11) rfl dX9_mix_11 ?_
  exact g_vret (pc := 14) hM rfl ⟨rfl, rfl⟩ dX9_mix_14
