/-! THE REFERENCE: whose, digest, lots -/
def woU (S : St) (k i : Nat) : St := sA S 59 (upd (gA S 59) (19 + k) (nI i))
def woV (S : St) (k : Nat) : Nat → St | 0 => S | n + 1 => woU S k n
theorem woV_g {S : St} {k n : Nat} : sA (woV S k n) 59 (upd (gA (woV S k n) 59) (19 + k) (nI n)) = woU S k n := by
  cases n with
  | zero => rfl
  | succ n => unfold woV woU; rw [sA_sA, gA_same, upd_uu]
theorem upd_self {f : Nat → Int32} {k : Nat} : upd f k (f k) = f := by
  funext j
  by_cases q : j = k
  · subst q; exact pk_us
  · exact pk_un q
theorem woV_r {S : St} {k n : Nat} : sA (woV S k n) 59 (upd (gA (woV S k n) 59) (19 + k) (gA S 59 (19 + k))) = S := by
  cases n with
  | zero => rw [show woV S k 0 = S from rfl, upd_self]; exact sA_self S 59
  | succ n => unfold woV woU; rw [sA_sA, gA_same, upd_uu, upd_self]; exact sA_self S 59
theorem woU_27 {S : St} {k i : Nat} (hk : k < 8) : gA (woU S k i) 59 (27 + k) = gA S 59 (27 + k) := by unfold woU; rw [gA_same, pk_un (by omega)]
def whP (S : St) (k n i j : Nat) : Bool := decide (gA S 61 (40 * n + j) = -9) || decide (obM (woU S k i) (nI j) (dbM (woU S k i)) + 100 = gA S 61 (40 * n + j))
def whB (S : St) (k n i j : Nat) : Bool := !decide (nI i = gA S 59 (27 + k)) && allB (whP S k n i) j
def whR (S : St) (k n : Nat) : Nat → Int32 | 0 => 0 | i + 1 => whR S k n i ||| (if whB S k n i 6 = true then (1 : Int32) <<< (nI i &&& 31) else 0)
def wvP (S : St) (n j : Nat) : Bool := inF (gA S 61 (40 * n + j)).toInt64 0 200 || decide (gA S 61 (40 * n + j) = -9)

set_option maxRecDepth 100000 in
set_option maxHeartbeats 4000000 in
theorem c_X9_whose_bad (E : En) (S : St) (k r : Int32) (hz : okM S) (h : ¬ (idxF (nM S) k = true ∧ idxF 6 r = true)) : CTe E i_X9_whose S [.ref (eA E 58), .int k, .int r] S (some (.int (-1))) := by
  refine ct_of [(0, .ref (eA E 58)), (1, .int k), (2, .int r)] (by decide +kernel) (Nat.le_of_ble_eq_true rfl) rfl (fun X hM => ?_)
  refine g_aload_n (pc := 0) dX9_whose_0 0 rfl rfl ?_
  refine g_iload_n (pc := 1) dX9_whose_1 1 rfl rfl ?_
  refine g_invV (pc := 2) j_X9_isLight mw_X9_127 dX9_whose_2 (rcv_X9) (by rfl) (c_X9_isLight E S k (by first | assumption | omega | rfl)) (Nat.le_of_ble_eq_true rfl) (Nat.le_of_ble_eq_true rfl) (by rfl) (Nat.le_of_ble_eq_true rfl) ?_
  refine g_b_eq (pc := 5) (tgt := 15) dX9_whose_5 (by decide) (fun c_5 => ?_) (fun c_5 => ?_)
  · refine g_iconst (pc := 15) (v := -1) dX9_whose_15 (by decide) ?_
    exact g_iret (pc := 16) hM rfl rfl ⟨rfl, rfl⟩ dX9_whose_16
  · refine g_iload_n (pc := 8) dX9_whose_8 2 rfl rfl ?_
    refine g_invS (pc := 9) j_X9_isRow mw_X9_70 dX9_whose_9 (by rfl) (c_X9_isRow E S r ) (Nat.le_of_ble_eq_true rfl) (Nat.le_of_ble_eq_true rfl) (by rfl) (Nat.le_of_ble_eq_true rfl) ?_
    refine g_b_ne (pc := 12) (tgt := 17) dX9_whose_12 (by decide) (fun c_12 => ?_) (fun c_12 => ?_)
    · exact absurd ⟨c_5, c_12⟩ h
    · refine g_iconst (pc := 15) (v := -1) dX9_whose_15 (by decide) ?_
      exact g_iret (pc := 16) hM rfl rfl ⟨rfl, rfl⟩ dX9_whose_16
set_option maxRecDepth 100000 in
set_option maxHeartbeats 4000000 in
theorem c_X9_whose_m (E : En) (S : St) (k n : Nat) (hz : okM S)(hk : k < nM S)(hn : n < 6) (h : gA S 60 n = -1) : CTe E i_X9_whose S [.ref (eA E 58), .int (nI k), .int (nI n)] (fndS S 1) (some (.int (-3))) := by
  have hz8 := hz.2
  have hx := idx_in hk (show nM S < 2 ^ 31 by omega)
  have hr := idx_in hn (show 6 < 2 ^ 31 by omega)
  refine ct_of [(0, .ref (eA E 58)), (1, .int (nI k)), (2, .int (nI n))] (by decide +kernel) (Nat.le_of_ble_eq_true rfl) rfl (fun X hM => ?_)
  refine g_aload_n (pc := 0) dX9_whose_0 0 rfl rfl ?_
  refine g_iload_n (pc := 1) dX9_whose_1 1 rfl rfl ?_
  refine g_invV (pc := 2) j_X9_isLight mw_X9_127 dX9_whose_2 (rcv_X9) (by rfl) (c_X9_isLight E S (nI k) (by first | assumption | omega | rfl)) (Nat.le_of_ble_eq_true rfl) (Nat.le_of_ble_eq_true rfl) (by rfl) (Nat.le_of_ble_eq_true rfl) ?_
  refine g_b_eq (pc := 5) (tgt := 15) dX9_whose_5 (by decide) (fun c_5 => ?_) (fun c_5 => ?_)
  · exact absurd (hx.symm.trans c_5) (by decide)
  · refine g_iload_n (pc := 8) dX9_whose_8 2 rfl rfl ?_
    refine g_invS (pc := 9) j_X9_isRow mw_X9_70 dX9_whose_9 (by rfl) (c_X9_isRow E S (nI n) ) (Nat.le_of_ble_eq_true rfl) (Nat.le_of_ble_eq_true rfl) (by rfl) (Nat.le_of_ble_eq_true rfl) ?_
    refine g_b_ne (pc := 12) (tgt := 17) dX9_whose_12 (by decide) (fun c_12 => ?_) (fun c_12 => ?_)
    · refine g_aload_n (pc := 17) dX9_whose_17 0 rfl rfl ?_
      refine gf_X9_13 (pc := 18) rfl dX9_whose_18 ?_
      refine g_iload_n (pc := 21) dX9_whose_21 2 rfl rfl ?_
      refine g_iald (pc := 22) n rfl rfl (show n < 6 from hn) (by decide) dX9_whose_22 ?_
      refine g_if_ge (pc := 23) (tgt := 32) dX9_whose_23 (by decide) (fun c_23 => ?_) (fun c_23 => ?_)
      · have k_23 := Int32.not_lt.mpr c_23
        exact absurd c_23 (by rw [h]; decide)
      · have k_23 := Int32.not_le.mp c_23
        refine g_aload_n (pc := 26) dX9_whose_26 0 rfl rfl ?_
        refine g_iconst (pc := 27) (v := 1) dX9_whose_27 (by decide) ?_
        refine g_invV (pc := 28) j_X9_finds mw_X9_74 dX9_whose_28 (rcv_X9) (by rfl) (c_X9_finds E S 1 (by first | assumption | omega | rfl)) (Nat.le_of_ble_eq_true rfl) (Nat.le_of_ble_eq_true rfl) (by rfl) (Nat.le_of_ble_eq_true rfl) ?_
        exact g_iret (pc := 31) hM rfl rfl ⟨rfl, rfl⟩ dX9_whose_31
    · exact absurd (hr.symm.trans c_12) (by decide)
set_option maxRecDepth 100000 in
set_option maxHeartbeats 4000000 in
theorem c_X9_whose_z (E : En) (S : St) (k n m : Nat) (hz : okM S)(hk : k < nM S)(hn : n < 6) (hm : gA S 60 n = nI m) (hm2 : m ≤ 40) (h6 : ¬ m = 6) : CTe E i_X9_whose S [.ref (eA E 58), .int (nI k), .int (nI n)] (fndS S 5) (some (.int (-3))) := by
  have hz8 := hz.2
  have hx := idx_in hk (show nM S < 2 ^ 31 by omega)
  have hr := idx_in hn (show 6 < 2 ^ 31 by omega)
  refine ct_of [(0, .ref (eA E 58)), (1, .int (nI k)), (2, .int (nI n))] (by decide +kernel) (Nat.le_of_ble_eq_true rfl) rfl (fun X hM => ?_)
  refine g_aload_n (pc := 0) dX9_whose_0 0 rfl rfl ?_
  refine g_iload_n (pc := 1) dX9_whose_1 1 rfl rfl ?_
  refine g_invV (pc := 2) j_X9_isLight mw_X9_127 dX9_whose_2 (rcv_X9) (by rfl) (c_X9_isLight E S (nI k) (by first | assumption | omega | rfl)) (Nat.le_of_ble_eq_true rfl) (Nat.le_of_ble_eq_true rfl) (by rfl) (Nat.le_of_ble_eq_true rfl) ?_
  refine g_b_eq (pc := 5) (tgt := 15) dX9_whose_5 (by decide) (fun c_5 => ?_) (fun c_5 => ?_)
  · exact absurd (hx.symm.trans c_5) (by decide)
  · refine g_iload_n (pc := 8) dX9_whose_8 2 rfl rfl ?_
    refine g_invS (pc := 9) j_X9_isRow mw_X9_70 dX9_whose_9 (by rfl) (c_X9_isRow E S (nI n) ) (Nat.le_of_ble_eq_true rfl) (Nat.le_of_ble_eq_true rfl) (by rfl) (Nat.le_of_ble_eq_true rfl) ?_
    refine g_b_ne (pc := 12) (tgt := 17) dX9_whose_12 (by decide) (fun c_12 => ?_) (fun c_12 => ?_)
    · refine g_aload_n (pc := 17) dX9_whose_17 0 rfl rfl ?_
      refine gf_X9_13 (pc := 18) rfl dX9_whose_18 ?_
      refine g_iload_n (pc := 21) dX9_whose_21 2 rfl rfl ?_
      refine g_iald (pc := 22) n rfl rfl (show n < 6 from hn) (by decide) dX9_whose_22 ?_
      refine g_if_ge (pc := 23) (tgt := 32) dX9_whose_23 (by decide) (fun c_23 => ?_) (fun c_23 => ?_)
      · have k_23 := Int32.not_lt.mpr c_23
        refine g_aload_n (pc := 32) dX9_whose_32 0 rfl rfl ?_
        refine gf_X9_13 (pc := 33) rfl dX9_whose_33 ?_
        refine g_iload_n (pc := 36) dX9_whose_36 2 rfl rfl ?_
        refine g_iald (pc := 37) n rfl rfl (show n < 6 by omega) (by decide) dX9_whose_37 ?_
        refine g_bipush (pc := 38) (v := 6) dX9_whose_38 (by decide) ?_
        refine g_icmp_eq (pc := 40) (tgt := 49) dX9_whose_40 (by decide) (fun c_40 => ?_) (fun c_40 => ?_)
        · exact absurd ((nI_eq (b := 6) (by omega) (by omega)).mp (by rw [← hm]; exact c_40)) h6
        · refine g_aload_n (pc := 43) dX9_whose_43 0 rfl rfl ?_
          refine g_iconst (pc := 44) (v := 5) dX9_whose_44 (by decide) ?_
          refine g_invV (pc := 45) j_X9_finds mw_X9_74 dX9_whose_45 (rcv_X9) (by rfl) (c_X9_finds E S 5 (by first | assumption | omega | rfl)) (Nat.le_of_ble_eq_true rfl) (Nat.le_of_ble_eq_true rfl) (by rfl) (Nat.le_of_ble_eq_true rfl) ?_
          exact g_iret (pc := 48) hM rfl rfl ⟨rfl, rfl⟩ dX9_whose_48
      · have k_23 := Int32.not_le.mp c_23
        exact absurd (by rw [hm]; exact nI_pos' (by omega)) c_23
    · exact absurd (hr.symm.trans c_12) (by decide)
set_option maxRecDepth 100000 in
set_option maxHeartbeats 4000000 in
theorem c_X9_whose_v (E : En) (S : St) (k n : Nat) (hz : okM S)(hk : k < nM S)(hn : n < 6) (hm : gA S 60 n = nI 6) (hv : allB (wvP S n) 6 = false) : CTe E i_X9_whose S [.ref (eA E 58), .int (nI k), .int (nI n)] (fndS S 3) (some (.int (-3))) := by
  have hz8 := hz.2
  have hx := idx_in hk (show nM S < 2 ^ 31 by omega)
  have hr := idx_in hn (show 6 < 2 ^ 31 by omega)
  refine ct_of [(0, .ref (eA E 58)), (1, .int (nI k)), (2, .int (nI n))] (by decide +kernel) (Nat.le_of_ble_eq_true rfl) rfl (fun X hM => ?_)
  refine g_aload_n (pc := 0) dX9_whose_0 0 rfl rfl ?_
  refine g_iload_n (pc := 1) dX9_whose_1 1 rfl rfl ?_
  refine g_invV (pc := 2) j_X9_isLight mw_X9_127 dX9_whose_2 (rcv_X9) (by rfl) (c_X9_isLight E S (nI k) (by first | assumption | omega | rfl)) (Nat.le_of_ble_eq_true rfl) (Nat.le_of_ble_eq_true rfl) (by rfl) (Nat.le_of_ble_eq_true rfl) ?_
  refine g_b_eq (pc := 5) (tgt := 15) dX9_whose_5 (by decide) (fun c_5 => ?_) (fun c_5 => ?_)
  · exact absurd (hx.symm.trans c_5) (by decide)
  · refine g_iload_n (pc := 8) dX9_whose_8 2 rfl rfl ?_
    refine g_invS (pc := 9) j_X9_isRow mw_X9_70 dX9_whose_9 (by rfl) (c_X9_isRow E S (nI n) ) (Nat.le_of_ble_eq_true rfl) (Nat.le_of_ble_eq_true rfl) (by rfl) (Nat.le_of_ble_eq_true rfl) ?_
    refine g_b_ne (pc := 12) (tgt := 17) dX9_whose_12 (by decide) (fun c_12 => ?_) (fun c_12 => ?_)
    · refine g_aload_n (pc := 17) dX9_whose_17 0 rfl rfl ?_
      refine gf_X9_13 (pc := 18) rfl dX9_whose_18 ?_
      refine g_iload_n (pc := 21) dX9_whose_21 2 rfl rfl ?_
      refine g_iald (pc := 22) n rfl rfl (show n < 6 from hn) (by decide) dX9_whose_22 ?_
      refine g_if_ge (pc := 23) (tgt := 32) dX9_whose_23 (by decide) (fun c_23 => ?_) (fun c_23 => ?_)
      · have k_23 := Int32.not_lt.mpr c_23
        refine g_aload_n (pc := 32) dX9_whose_32 0 rfl rfl ?_
        refine gf_X9_13 (pc := 33) rfl dX9_whose_33 ?_
        refine g_iload_n (pc := 36) dX9_whose_36 2 rfl rfl ?_
        refine g_iald (pc := 37) n rfl rfl (show n < 6 by omega) (by decide) dX9_whose_37 ?_
        refine g_bipush (pc := 38) (v := 6) dX9_whose_38 (by decide) ?_
        refine g_icmp_eq (pc := 40) (tgt := 49) dX9_whose_40 (by decide) (fun c_40 => ?_) (fun c_40 => ?_)
        · refine g_iconst (pc := 49) (v := 0) dX9_whose_49 (by decide) ?_
          refine g_istore_n (pc := 50) (L' := [(3, .int 0), (0, .ref (eA E 58)), (1, .int (nI k)), (2, .int (nI n))]) dX9_whose_50 rfl (Nat.le_of_ble_eq_true rfl) rfl ?_
          have H_51 : ∀ j : Nat, j ≤ 6 → allB (wvP S n) j = true → G E X i_X9_whose S 51 [(0, .ref (eA E 58)), (1, .int (nI k)), (2, .int (nI n)), (3, .int (nI j))] [] := by
            refine dn_ind 6 (fun j hn_51 ih_51 hal => ?_)
            refine g_iload_n (pc := 51) dX9_whose_51 3 rfl rfl ?_
            refine g_bipush (pc := 52) (v := 6) dX9_whose_52 (by decide) ?_
            refine g_icmp_ge (pc := 54) (tgt := 102) dX9_whose_54 (by decide) (fun c_54 => ?_) (fun c_54 => ?_)
            · have k_54 := Int32.not_lt.mpr c_54
              have he_51 : j = 6 := Nat.le_antisymm hn_51 (nle_of (N := 6) rfl rfl (by omega) (by omega) c_54)
              rw [he_51] at hal
              exact absurd (hv.symm.trans hal) (by decide)
            · have k_54 := Int32.not_le.mp c_54
              have hlt_51 : j < 6 := nlt_of (N := 6) rfl rfl (by omega) (by omega) c_54
              refine g_aload_n (pc := 57) dX9_whose_57 0 rfl rfl ?_
              refine gf_X9_16 (pc := 58) rfl dX9_whose_58 ?_
              refine g_bipush (pc := 61) (v := 40) dX9_whose_61 (by decide) ?_
              refine g_iload_n (pc := 63) dX9_whose_63 2 rfl rfl ?_
              refine g_imul (pc := 64) dX9_whose_64 ?_
              refine g_iload_n (pc := 65) dX9_whose_65 3 rfl rfl ?_
              refine g_iadd (pc := 66) dX9_whose_66 ?_
              refine g_iald (pc := 67) ((40 * n) + j) (nI_aE (nI_mE rfl rfl) rfl) rfl (show (40 * n) + j < 240 by omega) (by decide) dX9_whose_67 ?_
              refine g_istore (pc := 68) (L' := [(4, .int (gA S 61 ((40 * n) + j))), (0, .ref (eA E 58)), (1, .int (nI k)), (2, .int (nI n)), (3, .int (nI j))]) dX9_whose_68 (Nat.le_of_ble_eq_true rfl) rfl ?_
              refine g_iload (pc := 70) dX9_whose_70 0 rfl ?_
              refine g_i2l (pc := 72) dX9_whose_72 ?_
              refine g_lconst (pc := 73) (v := 0) dX9_whose_73 (by decide) ?_
              refine g_ldc2 (pc := 74) kw_X9_181 dX9_whose_74 ?_
              refine g_invS (pc := 77) j_X9_in mw_X9_62 dX9_whose_77 (by rfl) (c_X9_in E S ((gA S 61 ((40 * n) + j)).toInt64) 0 200 ) (Nat.le_of_ble_eq_true rfl) (Nat.le_of_ble_eq_true rfl) (by rfl) (Nat.le_of_ble_eq_true rfl) ?_
              refine g_b_ne (pc := 80) (tgt := 96) dX9_whose_80 (by decide) (fun c_80 => ?_) (fun c_80 => ?_)
              · refine g_iinc (pc := 96) (L' := [(3, .int (nI j + 1)), (4, .int (gA S 61 ((40 * n) + j))), (0, .ref (eA E 58)), (1, .int (nI k)), (2, .int (nI n))]) dX9_whose_96 (k := 4) rfl (v := nI j + 1) rfl (Nat.le_of_ble_eq_true rfl) rfl ?_
                refine g_goto (pc := 99) (tgt := 51) dX9_whose_99 (by decide) ?_
                refine g_sub (L' := [(0, .ref (eA E 58)), (1, .int (nI k)), (2, .int (nI n)), (3, .int (nI j + 1))]) [2, 3, 4, 0] rfl ?_
                exact g_eq rfl (by rw [nI_1]) rfl (ih_51 hlt_51 (by rw [allB, hal, Bool.true_and, wvP, c_80, Bool.true_or]))
              · refine g_iload (pc := 83) dX9_whose_83 0 rfl ?_
                refine g_bipush (pc := 85) (v := -9) dX9_whose_85 (by decide) ?_
                refine g_icmp_eq (pc := 87) (tgt := 96) dX9_whose_87 (by decide) (fun c_87 => ?_) (fun c_87 => ?_)
                · refine g_iinc (pc := 96) (L' := [(3, .int (nI j + 1)), (4, .int (gA S 61 ((40 * n) + j))), (0, .ref (eA E 58)), (1, .int (nI k)), (2, .int (nI n))]) dX9_whose_96 (k := 4) rfl (v := nI j + 1) rfl (Nat.le_of_ble_eq_true rfl) rfl ?_
                  refine g_goto (pc := 99) (tgt := 51) dX9_whose_99 (by decide) ?_
                  refine g_sub (L' := [(0, .ref (eA E 58)), (1, .int (nI k)), (2, .int (nI n)), (3, .int (nI j + 1))]) [2, 3, 4, 0] rfl ?_
                  exact g_eq rfl (by rw [nI_1]) rfl (ih_51 hlt_51 (by rw [allB, hal, Bool.true_and, wvP, decide_eq_true c_87, Bool.or_true]))
                · refine g_aload_n (pc := 90) dX9_whose_90 1 rfl rfl ?_
                  refine g_iconst (pc := 91) (v := 3) dX9_whose_91 (by decide) ?_
                  refine g_invV (pc := 92) j_X9_finds mw_X9_74 dX9_whose_92 (rcv_X9) (by rfl) (c_X9_finds E S 3 (by first | assumption | omega | rfl)) (Nat.le_of_ble_eq_true rfl) (Nat.le_of_ble_eq_true rfl) (by rfl) (Nat.le_of_ble_eq_true rfl) ?_
                  exact g_iret (pc := 95) hM rfl rfl ⟨rfl, rfl⟩ dX9_whose_95
          refine g_sub (L' := [(0, .ref (eA E 58)), (1, .int (nI k)), (2, .int (nI n)), (3, .int 0)]) [1, 2, 3, 0] rfl ?_
          exact H_51 0 (Nat.zero_le _) rfl
        · exact absurd hm c_40
      · have k_23 := Int32.not_le.mp c_23
        exact absurd (by rw [hm]; exact nI_pos' (by omega)) c_23
    · exact absurd (hr.symm.trans c_12) (by decide)
set_option maxRecDepth 100000 in
set_option maxHeartbeats 4000000 in
theorem c_X9_whose_ok (E : En) (S : St) (k n : Nat) (hz : okM S)(hk : k < nM S)(hn : n < 6) (hm : gA S 60 n = nI 6) (hv : allB (wvP S n) 6 = true) : CTe E i_X9_whose S [.ref (eA E 58), .int (nI k), .int (nI n)] S (some (.int (whR S k n 6))) := by
  have hz8 := hz.2
  have hx := idx_in hk (show nM S < 2 ^ 31 by omega)
  have hr := idx_in hn (show 6 < 2 ^ 31 by omega)
  refine ct_of [(0, .ref (eA E 58)), (1, .int (nI k)), (2, .int (nI n))] (by decide +kernel) (Nat.le_of_ble_eq_true rfl) rfl (fun X hM => ?_)
  refine g_aload_n (pc := 0) dX9_whose_0 0 rfl rfl ?_
  refine g_iload_n (pc := 1) dX9_whose_1 1 rfl rfl ?_
  refine g_invV (pc := 2) j_X9_isLight mw_X9_127 dX9_whose_2 (rcv_X9) (by rfl) (c_X9_isLight E S (nI k) (by first | assumption | omega | rfl)) (Nat.le_of_ble_eq_true rfl) (Nat.le_of_ble_eq_true rfl) (by rfl) (Nat.le_of_ble_eq_true rfl) ?_
  refine g_b_eq (pc := 5) (tgt := 15) dX9_whose_5 (by decide) (fun c_5 => ?_) (fun c_5 => ?_)
  · exact absurd (hx.symm.trans c_5) (by decide)
  · refine g_iload_n (pc := 8) dX9_whose_8 2 rfl rfl ?_
    refine g_invS (pc := 9) j_X9_isRow mw_X9_70 dX9_whose_9 (by rfl) (c_X9_isRow E S (nI n) ) (Nat.le_of_ble_eq_true rfl) (Nat.le_of_ble_eq_true rfl) (by rfl) (Nat.le_of_ble_eq_true rfl) ?_
    refine g_b_ne (pc := 12) (tgt := 17) dX9_whose_12 (by decide) (fun c_12 => ?_) (fun c_12 => ?_)
    · refine g_aload_n (pc := 17) dX9_whose_17 0 rfl rfl ?_
      refine gf_X9_13 (pc := 18) rfl dX9_whose_18 ?_
      refine g_iload_n (pc := 21) dX9_whose_21 2 rfl rfl ?_
      refine g_iald (pc := 22) n rfl rfl (show n < 6 from hn) (by decide) dX9_whose_22 ?_
      refine g_if_ge (pc := 23) (tgt := 32) dX9_whose_23 (by decide) (fun c_23 => ?_) (fun c_23 => ?_)
      · have k_23 := Int32.not_lt.mpr c_23
        refine g_aload_n (pc := 32) dX9_whose_32 0 rfl rfl ?_
        refine gf_X9_13 (pc := 33) rfl dX9_whose_33 ?_
        refine g_iload_n (pc := 36) dX9_whose_36 2 rfl rfl ?_
        refine g_iald (pc := 37) n rfl rfl (show n < 6 by omega) (by decide) dX9_whose_37 ?_
        refine g_bipush (pc := 38) (v := 6) dX9_whose_38 (by decide) ?_
        refine g_icmp_eq (pc := 40) (tgt := 49) dX9_whose_40 (by decide) (fun c_40 => ?_) (fun c_40 => ?_)
        · refine g_iconst (pc := 49) (v := 0) dX9_whose_49 (by decide) ?_
          refine g_istore_n (pc := 50) (L' := [(3, .int 0), (0, .ref (eA E 58)), (1, .int (nI k)), (2, .int (nI n))]) dX9_whose_50 rfl (Nat.le_of_ble_eq_true rfl) rfl ?_
          have H_51 : ∀ j : Nat, j ≤ 6 → allB (wvP S n) j = true → G E X i_X9_whose S 51 [(0, .ref (eA E 58)), (1, .int (nI k)), (2, .int (nI n)), (3, .int (nI j))] [] := by
            refine dn_ind 6 (fun j hn_51 ih_51 hal => ?_)
            refine g_iload_n (pc := 51) dX9_whose_51 3 rfl rfl ?_
            refine g_bipush (pc := 52) (v := 6) dX9_whose_52 (by decide) ?_
            refine g_icmp_ge (pc := 54) (tgt := 102) dX9_whose_54 (by decide) (fun c_54 => ?_) (fun c_54 => ?_)
            · have k_54 := Int32.not_lt.mpr c_54
              have he_51 : j = 6 := Nat.le_antisymm hn_51 (nle_of (N := 6) rfl rfl (by omega) (by omega) c_54)
              rw [he_51] at hal
              refine g_aload_n (pc := 102) dX9_whose_102 0 rfl rfl ?_
              refine gf_X9_7 (pc := 103) rfl dX9_whose_103 ?_
              refine g_bipush (pc := 106) (v := 19) dX9_whose_106 (by decide) ?_
              refine g_iload_n (pc := 108) dX9_whose_108 1 rfl rfl ?_
              refine g_iadd (pc := 109) dX9_whose_109 ?_
              refine g_iald (pc := 110) (19 + k) (nI_aE rfl rfl) rfl (show 19 + k < 1776 by omega) (by decide) dX9_whose_110 ?_
              refine g_istore_n (pc := 111) (L' := [(3, .int (gA S 59 (19 + k))), (0, .ref (eA E 58)), (1, .int (nI k)), (2, .int (nI n))]) dX9_whose_111 rfl (Nat.le_of_ble_eq_true rfl) rfl ?_
              refine g_iconst (pc := 112) (v := 0) dX9_whose_112 (by decide) ?_
              refine g_istore (pc := 113) (L' := [(4, .int 0), (3, .int (gA S 59 (19 + k))), (0, .ref (eA E 58)), (1, .int (nI k)), (2, .int (nI n))]) dX9_whose_113 (Nat.le_of_ble_eq_true rfl) rfl ?_
              refine g_iconst (pc := 115) (v := 0) dX9_whose_115 (by decide) ?_
              refine g_istore (pc := 116) (L' := [(5, .int 0), (4, .int 0), (3, .int (gA S 59 (19 + k))), (0, .ref (eA E 58)), (1, .int (nI k)), (2, .int (nI n))]) dX9_whose_116 (Nat.le_of_ble_eq_true rfl) rfl ?_
              have H_118 : ∀ i : Nat, i ≤ 6 → G E X i_X9_whose (woV S k i) 118 [(0, .ref (eA E 58)), (1, .int (nI k)), (2, .int (nI n)), (3, .int (gA S 59 (19 + k))), (4, .int (whR S k n i)), (5, .int (nI i))] [] := by
                refine dn_ind 6 (fun i hn_118 ih_118 => ?_)
                refine g_iload (pc := 118) dX9_whose_118 5 rfl ?_
                refine g_bipush (pc := 120) (v := 6) dX9_whose_120 (by decide) ?_
                refine g_icmp_ge (pc := 122) (tgt := 248) dX9_whose_122 (by decide) (fun c_122 => ?_) (fun c_122 => ?_)
                · have k_122 := Int32.not_lt.mpr c_122
                  have he_118 : i = 6 := Nat.le_antisymm hn_118 (by exact nle_of (N := 6) rfl rfl (by omega) (by omega) c_122)
                  rw [he_118]
                  refine g_aload_n (pc := 248) dX9_whose_248 0 rfl rfl ?_
                  refine gf_X9_7 (pc := 249) rfl dX9_whose_249 ?_
                  refine g_bipush (pc := 252) (v := 19) dX9_whose_252 (by decide) ?_
                  refine g_iload_n (pc := 254) dX9_whose_254 1 rfl rfl ?_
                  refine g_iadd (pc := 255) dX9_whose_255 ?_
                  refine g_iload_n (pc := 256) dX9_whose_256 3 rfl rfl ?_
                  refine g_iast (pc := 257) (19 + k) (nI_aE rfl rfl) rfl (show 19 + k < 1776 by omega) (by decide) dX9_whose_257 ?_
                  rw [woV_r]
                  refine g_iload (pc := 258) dX9_whose_258 4 rfl ?_
                  exact g_iret (pc := 260) hM rfl rfl ⟨rfl, rfl⟩ dX9_whose_260
                · have k_122 := Int32.not_le.mp c_122
                  have hlt_118 : i < 6 := by exact nlt_of (N := 6) rfl rfl (by omega) (by omega) c_122
                  refine g_aload_n (pc := 125) dX9_whose_125 0 rfl rfl ?_
                  refine gf_X9_7 (pc := 126) rfl dX9_whose_126 ?_
                  refine g_bipush (pc := 129) (v := 19) dX9_whose_129 (by decide) ?_
                  refine g_iload_n (pc := 131) dX9_whose_131 1 rfl rfl ?_
                  refine g_iadd (pc := 132) dX9_whose_132 ?_
                  refine g_iload (pc := 133) dX9_whose_133 5 rfl ?_
                  refine g_iast (pc := 135) (19 + k) (nI_aE rfl rfl) rfl (show 19 + k < 1776 by omega) (by decide) dX9_whose_135 ?_
                  rw [woV_g]
                  have hz2 := (okM_sA (W := upd (gA S 59) (19 + k) (nI i)) hz (pk_un (by omega))).1
                  refine g_iload (pc := 136) dX9_whose_136 5 rfl ?_
                  refine g_aload_n (pc := 138) dX9_whose_138 0 rfl rfl ?_
                  refine gf_X9_7 (pc := 139) rfl dX9_whose_139 ?_
                  refine g_bipush (pc := 142) (v := 27) dX9_whose_142 (by decide) ?_
                  refine g_iload_n (pc := 144) dX9_whose_144 1 rfl rfl ?_
                  refine g_iadd (pc := 145) dX9_whose_145 ?_
                  refine g_iald (pc := 146) (27 + k) (nI_aE rfl rfl) rfl (show 27 + k < 1776 by omega) (by decide) dX9_whose_146 ?_
                  rw [woU_27 (by omega)]
                  refine g_icmp_eq (pc := 147) (tgt := 154) dX9_whose_147 (by decide) (fun c_147 => ?_) (fun c_147 => ?_)
                  · refine g_iconst (pc := 154) (v := 0) dX9_whose_154 (by decide) ?_
                    refine g_istore (pc := 155) (L' := [(6, .int 0), (0, .ref (eA E 58)), (1, .int (nI k)), (2, .int (nI n)), (3, .int (gA S 59 (19 + k))), (4, .int (whR S k n i)), (5, .int (nI i))]) dX9_whose_155 (Nat.le_of_ble_eq_true rfl) rfl ?_
                    refine g_iconst (pc := 157) (v := 0) dX9_whose_157 (by decide) ?_
                    refine g_istore (pc := 158) (L' := [(7, .int 0), (6, .int 0), (0, .ref (eA E 58)), (1, .int (nI k)), (2, .int (nI n)), (3, .int (gA S 59 (19 + k))), (4, .int (whR S k n i)), (5, .int (nI i))]) dX9_whose_158 (Nat.le_of_ble_eq_true rfl) rfl ?_
                    have H_160 : ∀ j : Nat, j ≤ 6 → G E X i_X9_whose (woU S k i) 160 [(0, .ref (eA E 58)), (1, .int (nI k)), (2, .int (nI n)), (3, .int (gA S 59 (19 + k))), (4, .int (whR S k n i)), (5, .int (nI i)), (6, .int (bI (whB S k n i j))), (7, .int (nI j))] [] := by
                      refine dn_ind 6 (fun j hn_160 ih_160 => ?_)
                      refine g_iload (pc := 160) dX9_whose_160 7 rfl ?_
                      refine g_bipush (pc := 162) (v := 6) dX9_whose_162 (by decide) ?_
                      refine g_icmp_ge (pc := 164) (tgt := 224) dX9_whose_164 (by decide) (fun c_164 => ?_) (fun c_164 => ?_)
                      · have k_164 := Int32.not_lt.mpr c_164
                        have he_160 : j = 6 := Nat.le_antisymm hn_160 (by exact nle_of (N := 6) rfl rfl (by omega) (by omega) c_164)
                        rw [he_160]
                        refine g_iload (pc := 224) dX9_whose_224 4 rfl ?_
                        refine g_iload (pc := 226) dX9_whose_226 6 rfl ?_
                        refine g_b_eq (pc := 228) (tgt := 238) dX9_whose_228 (by decide) (fun c_228 => ?_) (fun c_228 => ?_)
                        · refine g_iconst (pc := 238) (v := 0) dX9_whose_238 (by decide) ?_
                          refine g_ior (pc := 239) dX9_whose_239 ?_
                          refine g_istore (pc := 240) (L' := [(4, .int (whR S k n i ||| 0)), (0, .ref (eA E 58)), (1, .int (nI k)), (2, .int (nI n)), (3, .int (gA S 59 (19 + k))), (5, .int (nI i)), (6, .int (bI (whB S k n i 6))), (7, .int (nI 6))]) dX9_whose_240 (Nat.le_of_ble_eq_true rfl) rfl ?_
                          refine g_iinc (pc := 242) (L' := [(5, .int (nI i + 1)), (4, .int (whR S k n i ||| 0)), (0, .ref (eA E 58)), (1, .int (nI k)), (2, .int (nI n)), (3, .int (gA S 59 (19 + k))), (6, .int (bI (whB S k n i 6))), (7, .int (nI 6))]) dX9_whose_242 (k := 5) rfl (v := nI i + 1) rfl (Nat.le_of_ble_eq_true rfl) rfl ?_
                          refine g_goto (pc := 245) (tgt := 118) dX9_whose_245 (by decide) ?_
                          refine g_sub (L' := [(0, .ref (eA E 58)), (1, .int (nI k)), (2, .int (nI n)), (3, .int (gA S 59 (19 + k))), (4, .int (whR S k n i ||| 0)), (5, .int (nI i + 1))]) [2, 3, 4, 5, 1, 0] rfl ?_
                          exact g_eq rfl (by rw [nI_1, whR, if_neg (by rw [c_228]; decide)]) rfl (ih_118 hlt_118)
                        · refine g_iconst (pc := 231) (v := 1) dX9_whose_231 (by decide) ?_
                          refine g_iload (pc := 232) dX9_whose_232 5 rfl ?_
                          refine g_ishl (pc := 234) dX9_whose_234 ?_
                          refine g_goto (pc := 235) (tgt := 239) dX9_whose_235 (by decide) ?_
                          refine g_ior (pc := 239) dX9_whose_239 ?_
                          refine g_istore (pc := 240) (L' := [(4, .int (whR S k n i ||| ((1 : Int32) <<< ((nI i) &&& 31)))), (0, .ref (eA E 58)), (1, .int (nI k)), (2, .int (nI n)), (3, .int (gA S 59 (19 + k))), (5, .int (nI i)), (6, .int (bI (whB S k n i 6))), (7, .int (nI 6))]) dX9_whose_240 (Nat.le_of_ble_eq_true rfl) rfl ?_
                          refine g_iinc (pc := 242) (L' := [(5, .int (nI i + 1)), (4, .int (whR S k n i ||| ((1 : Int32) <<< ((nI i) &&& 31)))), (0, .ref (eA E 58)), (1, .int (nI k)), (2, .int (nI n)), (3, .int (gA S 59 (19 + k))), (6, .int (bI (whB S k n i 6))), (7, .int (nI 6))]) dX9_whose_242 (k := 5) rfl (v := nI i + 1) rfl (Nat.le_of_ble_eq_true rfl) rfl ?_
                          refine g_goto (pc := 245) (tgt := 118) dX9_whose_245 (by decide) ?_
                          refine g_sub (L' := [(0, .ref (eA E 58)), (1, .int (nI k)), (2, .int (nI n)), (3, .int (gA S 59 (19 + k))), (4, .int (whR S k n i ||| ((1 : Int32) <<< ((nI i) &&& 31)))), (5, .int (nI i + 1))]) [2, 3, 4, 5, 1, 0] rfl ?_
                          exact g_eq rfl (by rw [nI_1, whR, if_pos c_228]) rfl (ih_118 hlt_118)
                      · have k_164 := Int32.not_le.mp c_164
                        have hlt_160 : j < 6 := by exact nlt_of (N := 6) rfl rfl (by omega) (by omega) c_164
                        refine g_aload_n (pc := 167) dX9_whose_167 0 rfl rfl ?_
                        refine gf_X9_16 (pc := 168) rfl dX9_whose_168 ?_
                        refine g_bipush (pc := 171) (v := 40) dX9_whose_171 (by decide) ?_
                        refine g_iload_n (pc := 173) dX9_whose_173 2 rfl rfl ?_
                        refine g_imul (pc := 174) dX9_whose_174 ?_
                        refine g_iload (pc := 175) dX9_whose_175 7 rfl ?_
                        refine g_iadd (pc := 177) dX9_whose_177 ?_
                        refine g_iald (pc := 178) ((40 * n) + j) (nI_aE (nI_mE rfl rfl) rfl) rfl (show (40 * n) + j < 240 by omega) (by decide) dX9_whose_178 ?_
                        rw [show gA (woU S k i) 61 ((40 * n) + j) = (gA S 61) ((40 * n) + j) from congrFun (rfl) ((40 * n) + j)]
                        refine g_istore (pc := 179) (L' := [(8, .int ((gA S 61) ((40 * n) + j))), (0, .ref (eA E 58)), (1, .int (nI k)), (2, .int (nI n)), (3, .int (gA S 59 (19 + k))), (4, .int (whR S k n i)), (5, .int (nI i)), (6, .int (bI (whB S k n i j))), (7, .int (nI j))]) dX9_whose_179 (Nat.le_of_ble_eq_true rfl) rfl ?_
                        refine g_iload (pc := 181) dX9_whose_181 7 rfl ?_
                        refine g_b_eq (pc := 183) (tgt := 215) dX9_whose_183 (by decide) (fun c_183 => ?_) (fun c_183 => ?_)
                        · refine g_iconst (pc := 215) (v := 0) dX9_whose_215 (by decide) ?_
                          refine g_istore (pc := 216) (L' := [(6, .int 0), (8, .int ((gA S 61) ((40 * n) + j))), (0, .ref (eA E 58)), (1, .int (nI k)), (2, .int (nI n)), (3, .int (gA S 59 (19 + k))), (4, .int (whR S k n i)), (5, .int (nI i)), (7, .int (nI j))]) dX9_whose_216 (Nat.le_of_ble_eq_true rfl) rfl ?_
                          refine g_iinc (pc := 218) (L' := [(7, .int (nI j + 1)), (6, .int 0), (8, .int ((gA S 61) ((40 * n) + j))), (0, .ref (eA E 58)), (1, .int (nI k)), (2, .int (nI n)), (3, .int (gA S 59 (19 + k))), (4, .int (whR S k n i)), (5, .int (nI i))]) dX9_whose_218 (k := 8) rfl (v := nI j + 1) rfl (Nat.le_of_ble_eq_true rfl) rfl ?_
                          refine g_goto (pc := 221) (tgt := 160) dX9_whose_221 (by decide) ?_
                          refine g_sub (L' := [(0, .ref (eA E 58)), (1, .int (nI k)), (2, .int (nI n)), (3, .int (gA S 59 (19 + k))), (4, .int (whR S k n i)), (5, .int (nI i)), (6, .int 0), (7, .int (nI j + 1))]) [3, 4, 5, 6, 7, 8, 1, 0] rfl ?_
                          exact g_eq rfl (by rw [nI_1, show whB S k n i (j + 1) = (whB S k n i j && whP S k n i j) from (Bool.and_assoc _ _ _).symm, whP]; simp only [bI, c_183, if_true, if_false, Bool.false_eq_true, Bool.not_true, Bool.not_false, Bool.and_true, Bool.true_and, Bool.and_false, Bool.false_and, Bool.or_true, Bool.true_or, Bool.or_false, Bool.false_or, decide_true, decide_false, Bool.and_self]) rfl (ih_160 hlt_160)
                        · refine g_iload (pc := 186) dX9_whose_186 0 rfl ?_
                          refine g_bipush (pc := 188) (v := -9) dX9_whose_188 (by decide) ?_
                          refine g_icmp_eq (pc := 190) (tgt := 211) dX9_whose_190 (by decide) (fun c_190 => ?_) (fun c_190 => ?_)
                          · refine g_iconst (pc := 211) (v := 1) dX9_whose_211 (by decide) ?_
                            refine g_goto (pc := 212) (tgt := 216) dX9_whose_212 (by decide) ?_
                            refine g_istore (pc := 216) (L' := [(6, .int 1), (8, .int ((gA S 61) ((40 * n) + j))), (0, .ref (eA E 58)), (1, .int (nI k)), (2, .int (nI n)), (3, .int (gA S 59 (19 + k))), (4, .int (whR S k n i)), (5, .int (nI i)), (7, .int (nI j))]) dX9_whose_216 (Nat.le_of_ble_eq_true rfl) rfl ?_
                            refine g_iinc (pc := 218) (L' := [(7, .int (nI j + 1)), (6, .int 1), (8, .int ((gA S 61) ((40 * n) + j))), (0, .ref (eA E 58)), (1, .int (nI k)), (2, .int (nI n)), (3, .int (gA S 59 (19 + k))), (4, .int (whR S k n i)), (5, .int (nI i))]) dX9_whose_218 (k := 8) rfl (v := nI j + 1) rfl (Nat.le_of_ble_eq_true rfl) rfl ?_
                            refine g_goto (pc := 221) (tgt := 160) dX9_whose_221 (by decide) ?_
                            refine g_sub (L' := [(0, .ref (eA E 58)), (1, .int (nI k)), (2, .int (nI n)), (3, .int (gA S 59 (19 + k))), (4, .int (whR S k n i)), (5, .int (nI i)), (6, .int 1), (7, .int (nI j + 1))]) [3, 4, 5, 6, 7, 8, 1, 0] rfl ?_
                            exact g_eq rfl (by rw [nI_1, show whB S k n i (j + 1) = (whB S k n i j && whP S k n i j) from (Bool.and_assoc _ _ _).symm, whP]; simp only [bI, c_183, eq_true c_190, if_true, if_false, Bool.false_eq_true, Bool.not_true, Bool.not_false, Bool.and_true, Bool.true_and, Bool.and_false, Bool.false_and, Bool.or_true, Bool.true_or, Bool.or_false, Bool.false_or, decide_true, decide_false, Bool.and_self]) rfl (ih_160 hlt_160)
                          · refine g_aload_n (pc := 193) dX9_whose_193 1 rfl rfl ?_
                            refine g_iload (pc := 194) dX9_whose_194 8 rfl ?_
                            refine g_aload_n (pc := 196) dX9_whose_196 1 rfl rfl ?_
                            refine g_invV (pc := 197) j_X9_debts mw_X9_189 dX9_whose_197 (rcv_X9) (by rfl) (c_X9_debts E (woU S k i) hz2) (Nat.le_of_ble_eq_true rfl) (Nat.le_of_ble_eq_true rfl) (by rfl) (Nat.le_of_ble_eq_true rfl) ?_
                            refine g_invV (pc := 200) j_X9_owesBy mw_X9_192 dX9_whose_200 (rcv_X9) (by rfl) (c_X9_owesBy E (woU S k i) (nI j) (dbM (woU S k i)) hz2) (Nat.le_of_ble_eq_true rfl) (Nat.le_of_ble_eq_true rfl) (by rfl) (Nat.le_of_ble_eq_true rfl) ?_
                            refine g_bipush (pc := 203) (v := 100) dX9_whose_203 (by decide) ?_
                            refine g_iadd (pc := 205) dX9_whose_205 ?_
                            refine g_iload (pc := 206) dX9_whose_206 0 rfl ?_
                            refine g_icmp_ne (pc := 208) (tgt := 215) dX9_whose_208 (by decide) (fun c_208 => ?_) (fun c_208 => ?_)
                            · refine g_iconst (pc := 215) (v := 0) dX9_whose_215 (by decide) ?_
                              refine g_istore (pc := 216) (L' := [(6, .int 0), (8, .int ((gA S 61) ((40 * n) + j))), (0, .ref (eA E 58)), (1, .int (nI k)), (2, .int (nI n)), (3, .int (gA S 59 (19 + k))), (4, .int (whR S k n i)), (5, .int (nI i)), (7, .int (nI j))]) dX9_whose_216 (Nat.le_of_ble_eq_true rfl) rfl ?_
                              refine g_iinc (pc := 218) (L' := [(7, .int (nI j + 1)), (6, .int 0), (8, .int ((gA S 61) ((40 * n) + j))), (0, .ref (eA E 58)), (1, .int (nI k)), (2, .int (nI n)), (3, .int (gA S 59 (19 + k))), (4, .int (whR S k n i)), (5, .int (nI i))]) dX9_whose_218 (k := 8) rfl (v := nI j + 1) rfl (Nat.le_of_ble_eq_true rfl) rfl ?_
                              refine g_goto (pc := 221) (tgt := 160) dX9_whose_221 (by decide) ?_
                              refine g_sub (L' := [(0, .ref (eA E 58)), (1, .int (nI k)), (2, .int (nI n)), (3, .int (gA S 59 (19 + k))), (4, .int (whR S k n i)), (5, .int (nI i)), (6, .int 0), (7, .int (nI j + 1))]) [3, 4, 5, 6, 7, 8, 1, 0] rfl ?_
                              exact g_eq rfl (by rw [nI_1, show whB S k n i (j + 1) = (whB S k n i j && whP S k n i j) from (Bool.and_assoc _ _ _).symm, whP]; simp only [bI, c_183, c_190, c_208, if_true, if_false, Bool.false_eq_true, Bool.not_true, Bool.not_false, Bool.and_true, Bool.true_and, Bool.and_false, Bool.false_and, Bool.or_true, Bool.true_or, Bool.or_false, Bool.false_or, decide_true, decide_false, Bool.and_self]) rfl (ih_160 hlt_160)
                            · refine g_iconst (pc := 211) (v := 1) dX9_whose_211 (by decide) ?_
                              refine g_goto (pc := 212) (tgt := 216) dX9_whose_212 (by decide) ?_
                              refine g_istore (pc := 216) (L' := [(6, .int 1), (8, .int ((gA S 61) ((40 * n) + j))), (0, .ref (eA E 58)), (1, .int (nI k)), (2, .int (nI n)), (3, .int (gA S 59 (19 + k))), (4, .int (whR S k n i)), (5, .int (nI i)), (7, .int (nI j))]) dX9_whose_216 (Nat.le_of_ble_eq_true rfl) rfl ?_
                              refine g_iinc (pc := 218) (L' := [(7, .int (nI j + 1)), (6, .int 1), (8, .int ((gA S 61) ((40 * n) + j))), (0, .ref (eA E 58)), (1, .int (nI k)), (2, .int (nI n)), (3, .int (gA S 59 (19 + k))), (4, .int (whR S k n i)), (5, .int (nI i))]) dX9_whose_218 (k := 8) rfl (v := nI j + 1) rfl (Nat.le_of_ble_eq_true rfl) rfl ?_
                              refine g_goto (pc := 221) (tgt := 160) dX9_whose_221 (by decide) ?_
                              refine g_sub (L' := [(0, .ref (eA E 58)), (1, .int (nI k)), (2, .int (nI n)), (3, .int (gA S 59 (19 + k))), (4, .int (whR S k n i)), (5, .int (nI i)), (6, .int 1), (7, .int (nI j + 1))]) [3, 4, 5, 6, 7, 8, 1, 0] rfl ?_
                              exact g_eq rfl (by rw [nI_1, show whB S k n i (j + 1) = (whB S k n i j && whP S k n i j) from (Bool.and_assoc _ _ _).symm, whP]; simp only [bI, c_183, c_190, eq_true c_208, if_true, if_false, Bool.false_eq_true, Bool.not_true, Bool.not_false, Bool.and_true, Bool.true_and, Bool.and_false, Bool.false_and, Bool.or_true, Bool.true_or, Bool.or_false, Bool.false_or, decide_true, decide_false, Bool.and_self]) rfl (ih_160 hlt_160)
                    refine g_sub (L' := [(0, .ref (eA E 58)), (1, .int (nI k)), (2, .int (nI n)), (3, .int (gA S 59 (19 + k))), (4, .int (whR S k n i)), (5, .int (nI i)), (6, .int 0), (7, .int 0)]) [2, 3, 4, 5, 6, 7, 1, 0] rfl ?_
                    exact g_eq rfl (by rw [show whB S k n i 0 = !decide (nI i = gA S 59 (27 + k)) from Bool.and_true _]; simp only [bI, eq_true c_147, if_true, if_false, Bool.false_eq_true, Bool.not_true, Bool.not_false, Bool.and_true, Bool.true_and, Bool.and_false, Bool.false_and, Bool.or_true, Bool.true_or, Bool.or_false, Bool.false_or, decide_true, decide_false, Bool.and_self]; rfl) rfl (H_160 0 (Nat.zero_le _))
                  · refine g_iconst (pc := 150) (v := 1) dX9_whose_150 (by decide) ?_
                    refine g_goto (pc := 151) (tgt := 155) dX9_whose_151 (by decide) ?_
                    refine g_istore (pc := 155) (L' := [(6, .int 1), (0, .ref (eA E 58)), (1, .int (nI k)), (2, .int (nI n)), (3, .int (gA S 59 (19 + k))), (4, .int (whR S k n i)), (5, .int (nI i))]) dX9_whose_155 (Nat.le_of_ble_eq_true rfl) rfl ?_
                    refine g_iconst (pc := 157) (v := 0) dX9_whose_157 (by decide) ?_
                    refine g_istore (pc := 158) (L' := [(7, .int 0), (6, .int 1), (0, .ref (eA E 58)), (1, .int (nI k)), (2, .int (nI n)), (3, .int (gA S 59 (19 + k))), (4, .int (whR S k n i)), (5, .int (nI i))]) dX9_whose_158 (Nat.le_of_ble_eq_true rfl) rfl ?_
                    have H_160 : ∀ j : Nat, j ≤ 6 → G E X i_X9_whose (woU S k i) 160 [(0, .ref (eA E 58)), (1, .int (nI k)), (2, .int (nI n)), (3, .int (gA S 59 (19 + k))), (4, .int (whR S k n i)), (5, .int (nI i)), (6, .int (bI (whB S k n i j))), (7, .int (nI j))] [] := by
                      refine dn_ind 6 (fun j hn_160 ih_160 => ?_)
                      refine g_iload (pc := 160) dX9_whose_160 7 rfl ?_
                      refine g_bipush (pc := 162) (v := 6) dX9_whose_162 (by decide) ?_
                      refine g_icmp_ge (pc := 164) (tgt := 224) dX9_whose_164 (by decide) (fun c_164 => ?_) (fun c_164 => ?_)
                      · have k_164 := Int32.not_lt.mpr c_164
                        have he_160 : j = 6 := Nat.le_antisymm hn_160 (by exact nle_of (N := 6) rfl rfl (by omega) (by omega) c_164)
                        rw [he_160]
                        refine g_iload (pc := 224) dX9_whose_224 4 rfl ?_
                        refine g_iload (pc := 226) dX9_whose_226 6 rfl ?_
                        refine g_b_eq (pc := 228) (tgt := 238) dX9_whose_228 (by decide) (fun c_228 => ?_) (fun c_228 => ?_)
                        · refine g_iconst (pc := 238) (v := 0) dX9_whose_238 (by decide) ?_
                          refine g_ior (pc := 239) dX9_whose_239 ?_
                          refine g_istore (pc := 240) (L' := [(4, .int (whR S k n i ||| 0)), (0, .ref (eA E 58)), (1, .int (nI k)), (2, .int (nI n)), (3, .int (gA S 59 (19 + k))), (5, .int (nI i)), (6, .int (bI (whB S k n i 6))), (7, .int (nI 6))]) dX9_whose_240 (Nat.le_of_ble_eq_true rfl) rfl ?_
                          refine g_iinc (pc := 242) (L' := [(5, .int (nI i + 1)), (4, .int (whR S k n i ||| 0)), (0, .ref (eA E 58)), (1, .int (nI k)), (2, .int (nI n)), (3, .int (gA S 59 (19 + k))), (6, .int (bI (whB S k n i 6))), (7, .int (nI 6))]) dX9_whose_242 (k := 5) rfl (v := nI i + 1) rfl (Nat.le_of_ble_eq_true rfl) rfl ?_
                          refine g_goto (pc := 245) (tgt := 118) dX9_whose_245 (by decide) ?_
                          refine g_sub (L' := [(0, .ref (eA E 58)), (1, .int (nI k)), (2, .int (nI n)), (3, .int (gA S 59 (19 + k))), (4, .int (whR S k n i ||| 0)), (5, .int (nI i + 1))]) [2, 3, 4, 5, 1, 0] rfl ?_
                          exact g_eq rfl (by rw [nI_1, whR, if_neg (by rw [c_228]; decide)]) rfl (ih_118 hlt_118)
                        · refine g_iconst (pc := 231) (v := 1) dX9_whose_231 (by decide) ?_
                          refine g_iload (pc := 232) dX9_whose_232 5 rfl ?_
                          refine g_ishl (pc := 234) dX9_whose_234 ?_
                          refine g_goto (pc := 235) (tgt := 239) dX9_whose_235 (by decide) ?_
                          refine g_ior (pc := 239) dX9_whose_239 ?_
                          refine g_istore (pc := 240) (L' := [(4, .int (whR S k n i ||| ((1 : Int32) <<< ((nI i) &&& 31)))), (0, .ref (eA E 58)), (1, .int (nI k)), (2, .int (nI n)), (3, .int (gA S 59 (19 + k))), (5, .int (nI i)), (6, .int (bI (whB S k n i 6))), (7, .int (nI 6))]) dX9_whose_240 (Nat.le_of_ble_eq_true rfl) rfl ?_
                          refine g_iinc (pc := 242) (L' := [(5, .int (nI i + 1)), (4, .int (whR S k n i ||| ((1 : Int32) <<< ((nI i) &&& 31)))), (0, .ref (eA E 58)), (1, .int (nI k)), (2, .int (nI n)), (3, .int (gA S 59 (19 + k))), (6, .int (bI (whB S k n i 6))), (7, .int (nI 6))]) dX9_whose_242 (k := 5) rfl (v := nI i + 1) rfl (Nat.le_of_ble_eq_true rfl) rfl ?_
                          refine g_goto (pc := 245) (tgt := 118) dX9_whose_245 (by decide) ?_
                          refine g_sub (L' := [(0, .ref (eA E 58)), (1, .int (nI k)), (2, .int (nI n)), (3, .int (gA S 59 (19 + k))), (4, .int (whR S k n i ||| ((1 : Int32) <<< ((nI i) &&& 31)))), (5, .int (nI i + 1))]) [2, 3, 4, 5, 1, 0] rfl ?_
                          exact g_eq rfl (by rw [nI_1, whR, if_pos c_228]) rfl (ih_118 hlt_118)
                      · have k_164 := Int32.not_le.mp c_164
                        have hlt_160 : j < 6 := by exact nlt_of (N := 6) rfl rfl (by omega) (by omega) c_164
                        refine g_aload_n (pc := 167) dX9_whose_167 0 rfl rfl ?_
                        refine gf_X9_16 (pc := 168) rfl dX9_whose_168 ?_
                        refine g_bipush (pc := 171) (v := 40) dX9_whose_171 (by decide) ?_
                        refine g_iload_n (pc := 173) dX9_whose_173 2 rfl rfl ?_
                        refine g_imul (pc := 174) dX9_whose_174 ?_
                        refine g_iload (pc := 175) dX9_whose_175 7 rfl ?_
                        refine g_iadd (pc := 177) dX9_whose_177 ?_
                        refine g_iald (pc := 178) ((40 * n) + j) (nI_aE (nI_mE rfl rfl) rfl) rfl (show (40 * n) + j < 240 by omega) (by decide) dX9_whose_178 ?_
                        rw [show gA (woU S k i) 61 ((40 * n) + j) = (gA S 61) ((40 * n) + j) from congrFun (rfl) ((40 * n) + j)]
                        refine g_istore (pc := 179) (L' := [(8, .int ((gA S 61) ((40 * n) + j))), (0, .ref (eA E 58)), (1, .int (nI k)), (2, .int (nI n)), (3, .int (gA S 59 (19 + k))), (4, .int (whR S k n i)), (5, .int (nI i)), (6, .int (bI (whB S k n i j))), (7, .int (nI j))]) dX9_whose_179 (Nat.le_of_ble_eq_true rfl) rfl ?_
                        refine g_iload (pc := 181) dX9_whose_181 7 rfl ?_
                        refine g_b_eq (pc := 183) (tgt := 215) dX9_whose_183 (by decide) (fun c_183 => ?_) (fun c_183 => ?_)
                        · refine g_iconst (pc := 215) (v := 0) dX9_whose_215 (by decide) ?_
                          refine g_istore (pc := 216) (L' := [(6, .int 0), (8, .int ((gA S 61) ((40 * n) + j))), (0, .ref (eA E 58)), (1, .int (nI k)), (2, .int (nI n)), (3, .int (gA S 59 (19 + k))), (4, .int (whR S k n i)), (5, .int (nI i)), (7, .int (nI j))]) dX9_whose_216 (Nat.le_of_ble_eq_true rfl) rfl ?_
                          refine g_iinc (pc := 218) (L' := [(7, .int (nI j + 1)), (6, .int 0), (8, .int ((gA S 61) ((40 * n) + j))), (0, .ref (eA E 58)), (1, .int (nI k)), (2, .int (nI n)), (3, .int (gA S 59 (19 + k))), (4, .int (whR S k n i)), (5, .int (nI i))]) dX9_whose_218 (k := 8) rfl (v := nI j + 1) rfl (Nat.le_of_ble_eq_true rfl) rfl ?_
                          refine g_goto (pc := 221) (tgt := 160) dX9_whose_221 (by decide) ?_
                          refine g_sub (L' := [(0, .ref (eA E 58)), (1, .int (nI k)), (2, .int (nI n)), (3, .int (gA S 59 (19 + k))), (4, .int (whR S k n i)), (5, .int (nI i)), (6, .int 0), (7, .int (nI j + 1))]) [3, 4, 5, 6, 7, 8, 1, 0] rfl ?_
                          exact g_eq rfl (by rw [nI_1, show whB S k n i (j + 1) = (whB S k n i j && whP S k n i j) from (Bool.and_assoc _ _ _).symm, whP]; simp only [bI, c_183, if_true, if_false, Bool.false_eq_true, Bool.not_true, Bool.not_false, Bool.and_true, Bool.true_and, Bool.and_false, Bool.false_and, Bool.or_true, Bool.true_or, Bool.or_false, Bool.false_or, decide_true, decide_false, Bool.and_self]) rfl (ih_160 hlt_160)
                        · refine g_iload (pc := 186) dX9_whose_186 0 rfl ?_
                          refine g_bipush (pc := 188) (v := -9) dX9_whose_188 (by decide) ?_
                          refine g_icmp_eq (pc := 190) (tgt := 211) dX9_whose_190 (by decide) (fun c_190 => ?_) (fun c_190 => ?_)
                          · refine g_iconst (pc := 211) (v := 1) dX9_whose_211 (by decide) ?_
                            refine g_goto (pc := 212) (tgt := 216) dX9_whose_212 (by decide) ?_
                            refine g_istore (pc := 216) (L' := [(6, .int 1), (8, .int ((gA S 61) ((40 * n) + j))), (0, .ref (eA E 58)), (1, .int (nI k)), (2, .int (nI n)), (3, .int (gA S 59 (19 + k))), (4, .int (whR S k n i)), (5, .int (nI i)), (7, .int (nI j))]) dX9_whose_216 (Nat.le_of_ble_eq_true rfl) rfl ?_
                            refine g_iinc (pc := 218) (L' := [(7, .int (nI j + 1)), (6, .int 1), (8, .int ((gA S 61) ((40 * n) + j))), (0, .ref (eA E 58)), (1, .int (nI k)), (2, .int (nI n)), (3, .int (gA S 59 (19 + k))), (4, .int (whR S k n i)), (5, .int (nI i))]) dX9_whose_218 (k := 8) rfl (v := nI j + 1) rfl (Nat.le_of_ble_eq_true rfl) rfl ?_
                            refine g_goto (pc := 221) (tgt := 160) dX9_whose_221 (by decide) ?_
                            refine g_sub (L' := [(0, .ref (eA E 58)), (1, .int (nI k)), (2, .int (nI n)), (3, .int (gA S 59 (19 + k))), (4, .int (whR S k n i)), (5, .int (nI i)), (6, .int 1), (7, .int (nI j + 1))]) [3, 4, 5, 6, 7, 8, 1, 0] rfl ?_
                            exact g_eq rfl (by rw [nI_1, show whB S k n i (j + 1) = (whB S k n i j && whP S k n i j) from (Bool.and_assoc _ _ _).symm, whP]; simp only [bI, c_183, eq_true c_190, if_true, if_false, Bool.false_eq_true, Bool.not_true, Bool.not_false, Bool.and_true, Bool.true_and, Bool.and_false, Bool.false_and, Bool.or_true, Bool.true_or, Bool.or_false, Bool.false_or, decide_true, decide_false, Bool.and_self]) rfl (ih_160 hlt_160)
                          · refine g_aload_n (pc := 193) dX9_whose_193 1 rfl rfl ?_
                            refine g_iload (pc := 194) dX9_whose_194 8 rfl ?_
                            refine g_aload_n (pc := 196) dX9_whose_196 1 rfl rfl ?_
                            refine g_invV (pc := 197) j_X9_debts mw_X9_189 dX9_whose_197 (rcv_X9) (by rfl) (c_X9_debts E (woU S k i) hz2) (Nat.le_of_ble_eq_true rfl) (Nat.le_of_ble_eq_true rfl) (by rfl) (Nat.le_of_ble_eq_true rfl) ?_
                            refine g_invV (pc := 200) j_X9_owesBy mw_X9_192 dX9_whose_200 (rcv_X9) (by rfl) (c_X9_owesBy E (woU S k i) (nI j) (dbM (woU S k i)) hz2) (Nat.le_of_ble_eq_true rfl) (Nat.le_of_ble_eq_true rfl) (by rfl) (Nat.le_of_ble_eq_true rfl) ?_
                            refine g_bipush (pc := 203) (v := 100) dX9_whose_203 (by decide) ?_
                            refine g_iadd (pc := 205) dX9_whose_205 ?_
                            refine g_iload (pc := 206) dX9_whose_206 0 rfl ?_
                            refine g_icmp_ne (pc := 208) (tgt := 215) dX9_whose_208 (by decide) (fun c_208 => ?_) (fun c_208 => ?_)
                            · refine g_iconst (pc := 215) (v := 0) dX9_whose_215 (by decide) ?_
                              refine g_istore (pc := 216) (L' := [(6, .int 0), (8, .int ((gA S 61) ((40 * n) + j))), (0, .ref (eA E 58)), (1, .int (nI k)), (2, .int (nI n)), (3, .int (gA S 59 (19 + k))), (4, .int (whR S k n i)), (5, .int (nI i)), (7, .int (nI j))]) dX9_whose_216 (Nat.le_of_ble_eq_true rfl) rfl ?_
                              refine g_iinc (pc := 218) (L' := [(7, .int (nI j + 1)), (6, .int 0), (8, .int ((gA S 61) ((40 * n) + j))), (0, .ref (eA E 58)), (1, .int (nI k)), (2, .int (nI n)), (3, .int (gA S 59 (19 + k))), (4, .int (whR S k n i)), (5, .int (nI i))]) dX9_whose_218 (k := 8) rfl (v := nI j + 1) rfl (Nat.le_of_ble_eq_true rfl) rfl ?_
                              refine g_goto (pc := 221) (tgt := 160) dX9_whose_221 (by decide) ?_
                              refine g_sub (L' := [(0, .ref (eA E 58)), (1, .int (nI k)), (2, .int (nI n)), (3, .int (gA S 59 (19 + k))), (4, .int (whR S k n i)), (5, .int (nI i)), (6, .int 0), (7, .int (nI j + 1))]) [3, 4, 5, 6, 7, 8, 1, 0] rfl ?_
                              exact g_eq rfl (by rw [nI_1, show whB S k n i (j + 1) = (whB S k n i j && whP S k n i j) from (Bool.and_assoc _ _ _).symm, whP]; simp only [bI, c_183, c_190, c_208, if_true, if_false, Bool.false_eq_true, Bool.not_true, Bool.not_false, Bool.and_true, Bool.true_and, Bool.and_false, Bool.false_and, Bool.or_true, Bool.true_or, Bool.or_false, Bool.false_or, decide_true, decide_false, Bool.and_self]) rfl (ih_160 hlt_160)
                            · refine g_iconst (pc := 211) (v := 1) dX9_whose_211 (by decide) ?_
                              refine g_goto (pc := 212) (tgt := 216) dX9_whose_212 (by decide) ?_
                              refine g_istore (pc := 216) (L' := [(6, .int 1), (8, .int ((gA S 61) ((40 * n) + j))), (0, .ref (eA E 58)), (1, .int (nI k)), (2, .int (nI n)), (3, .int (gA S 59 (19 + k))), (4, .int (whR S k n i)), (5, .int (nI i)), (7, .int (nI j))]) dX9_whose_216 (Nat.le_of_ble_eq_true rfl) rfl ?_
                              refine g_iinc (pc := 218) (L' := [(7, .int (nI j + 1)), (6, .int 1), (8, .int ((gA S 61) ((40 * n) + j))), (0, .ref (eA E 58)), (1, .int (nI k)), (2, .int (nI n)), (3, .int (gA S 59 (19 + k))), (4, .int (whR S k n i)), (5, .int (nI i))]) dX9_whose_218 (k := 8) rfl (v := nI j + 1) rfl (Nat.le_of_ble_eq_true rfl) rfl ?_
                              refine g_goto (pc := 221) (tgt := 160) dX9_whose_221 (by decide) ?_
                              refine g_sub (L' := [(0, .ref (eA E 58)), (1, .int (nI k)), (2, .int (nI n)), (3, .int (gA S 59 (19 + k))), (4, .int (whR S k n i)), (5, .int (nI i)), (6, .int 1), (7, .int (nI j + 1))]) [3, 4, 5, 6, 7, 8, 1, 0] rfl ?_
                              exact g_eq rfl (by rw [nI_1, show whB S k n i (j + 1) = (whB S k n i j && whP S k n i j) from (Bool.and_assoc _ _ _).symm, whP]; simp only [bI, c_183, c_190, eq_true c_208, if_true, if_false, Bool.false_eq_true, Bool.not_true, Bool.not_false, Bool.and_true, Bool.true_and, Bool.and_false, Bool.false_and, Bool.or_true, Bool.true_or, Bool.or_false, Bool.false_or, decide_true, decide_false, Bool.and_self]) rfl (ih_160 hlt_160)
                    refine g_sub (L' := [(0, .ref (eA E 58)), (1, .int (nI k)), (2, .int (nI n)), (3, .int (gA S 59 (19 + k))), (4, .int (whR S k n i)), (5, .int (nI i)), (6, .int 1), (7, .int 0)]) [2, 3, 4, 5, 6, 7, 1, 0] rfl ?_
                    exact g_eq rfl (by rw [show whB S k n i 0 = !decide (nI i = gA S 59 (27 + k)) from Bool.and_true _]; simp only [bI, c_147, if_true, if_false, Bool.false_eq_true, Bool.not_true, Bool.not_false, Bool.and_true, Bool.true_and, Bool.and_false, Bool.false_and, Bool.or_true, Bool.true_or, Bool.or_false, Bool.false_or, decide_true, decide_false, Bool.and_self]; rfl) rfl (H_160 0 (Nat.zero_le _))
              refine g_sub (L' := [(0, .ref (eA E 58)), (1, .int (nI k)), (2, .int (nI n)), (3, .int (gA S 59 (19 + k))), (4, .int 0), (5, .int 0)]) [3, 4, 5, 2, 1, 0] rfl ?_
              exact g_eq rfl rfl rfl (H_118 0 (Nat.zero_le _))
            · have k_54 := Int32.not_le.mp c_54
              have hlt_51 : j < 6 := nlt_of (N := 6) rfl rfl (by omega) (by omega) c_54
              refine g_aload_n (pc := 57) dX9_whose_57 0 rfl rfl ?_
              refine gf_X9_16 (pc := 58) rfl dX9_whose_58 ?_
              refine g_bipush (pc := 61) (v := 40) dX9_whose_61 (by decide) ?_
              refine g_iload_n (pc := 63) dX9_whose_63 2 rfl rfl ?_
              refine g_imul (pc := 64) dX9_whose_64 ?_
              refine g_iload_n (pc := 65) dX9_whose_65 3 rfl rfl ?_
              refine g_iadd (pc := 66) dX9_whose_66 ?_
              refine g_iald (pc := 67) ((40 * n) + j) (nI_aE (nI_mE rfl rfl) rfl) rfl (show (40 * n) + j < 240 by omega) (by decide) dX9_whose_67 ?_
              rw [show gA S 61 ((40 * n) + j) = (gA S 61) ((40 * n) + j) from congrFun (rfl) ((40 * n) + j)]
              refine g_istore (pc := 68) (L' := [(4, .int ((gA S 61) ((40 * n) + j))), (0, .ref (eA E 58)), (1, .int (nI k)), (2, .int (nI n)), (3, .int (nI j))]) dX9_whose_68 (Nat.le_of_ble_eq_true rfl) rfl ?_
              refine g_iload (pc := 70) dX9_whose_70 0 rfl ?_
              refine g_i2l (pc := 72) dX9_whose_72 ?_
              refine g_lconst (pc := 73) (v := 0) dX9_whose_73 (by decide) ?_
              refine g_ldc2 (pc := 74) kw_X9_181 dX9_whose_74 ?_
              refine g_invS (pc := 77) j_X9_in mw_X9_62 dX9_whose_77 (by rfl) (c_X9_in E S (((gA S 61) ((40 * n) + j)).toInt64) 0 200 ) (Nat.le_of_ble_eq_true rfl) (Nat.le_of_ble_eq_true rfl) (by rfl) (Nat.le_of_ble_eq_true rfl) ?_
              refine g_b_ne (pc := 80) (tgt := 96) dX9_whose_80 (by decide) (fun c_80 => ?_) (fun c_80 => ?_)
              · refine g_iinc (pc := 96) (L' := [(3, .int (nI j + 1)), (4, .int ((gA S 61) ((40 * n) + j))), (0, .ref (eA E 58)), (1, .int (nI k)), (2, .int (nI n))]) dX9_whose_96 (k := 4) rfl (v := nI j + 1) rfl (Nat.le_of_ble_eq_true rfl) rfl ?_
                refine g_goto (pc := 99) (tgt := 51) dX9_whose_99 (by decide) ?_
                refine g_sub (L' := [(0, .ref (eA E 58)), (1, .int (nI k)), (2, .int (nI n)), (3, .int (nI j + 1))]) [2, 3, 4, 0] rfl ?_
                exact g_eq rfl (by rw [nI_1]) rfl (ih_51 hlt_51 (by rw [allB, hal, Bool.true_and, wvP, c_80, Bool.true_or]))
              · refine g_iload (pc := 83) dX9_whose_83 0 rfl ?_
                refine g_bipush (pc := 85) (v := -9) dX9_whose_85 (by decide) ?_
                refine g_icmp_eq (pc := 87) (tgt := 96) dX9_whose_87 (by decide) (fun c_87 => ?_) (fun c_87 => ?_)
                · refine g_iinc (pc := 96) (L' := [(3, .int (nI j + 1)), (4, .int ((gA S 61) ((40 * n) + j))), (0, .ref (eA E 58)), (1, .int (nI k)), (2, .int (nI n))]) dX9_whose_96 (k := 4) rfl (v := nI j + 1) rfl (Nat.le_of_ble_eq_true rfl) rfl ?_
                  refine g_goto (pc := 99) (tgt := 51) dX9_whose_99 (by decide) ?_
                  refine g_sub (L' := [(0, .ref (eA E 58)), (1, .int (nI k)), (2, .int (nI n)), (3, .int (nI j + 1))]) [2, 3, 4, 0] rfl ?_
                  exact g_eq rfl (by rw [nI_1]) rfl (ih_51 hlt_51 (by rw [allB, hal, Bool.true_and, wvP, decide_eq_true c_87, Bool.or_true]))
                · exact absurd (hv.symm.trans (allB_f (p := wvP S n) hlt_51 (by rw [wvP, c_80, decide_eq_false c_87]; rfl))) (by decide)
          refine g_sub (L' := [(0, .ref (eA E 58)), (1, .int (nI k)), (2, .int (nI n)), (3, .int 0)]) [1, 2, 3, 0] rfl ?_
          exact H_51 0 (Nat.zero_le _) rfl
        · exact absurd hm c_40
      · have k_23 := Int32.not_le.mp c_23
        exact absurd (by rw [hm]; exact nI_pos' (by omega)) c_23
    · exact absurd (hr.symm.trans c_12) (by decide)
def mxF (h v : Int64) : Int64 := 31 * h + v
def g1M (S : St) : Nat → Int64 | 0 => 17 | n + 1 => mxF (g1M S n) (cnM S (nI n)).toInt64
def g2I (S : St) (k : Nat) (h : Int64) : Nat → Int64 | 0 => h | j + 1 => mxF (g2I S k h j) (ltM S k (nI j)).toInt64
def g2M (S : St) : Nat → Int64 | 0 => g1M S 10 | k + 1 => g2I S k (g2M S k) 7
def g3M (S : St) : Nat → Int64 | 0 => g2M S (nM S) | n + 1 => mxF (g3M S n) (if gA S 59 (444 + 444 * n) = 0 then -1 else (gA S 59 (444 + 444 * n + 43)).toInt64)
def gsI (f : Nat → Int32) (b : Nat) (h : Int64) : Nat → Int64 | 0 => h | j + 1 => mxF (gsI f b h j) (f (b + j)).toInt64
def gsM (f g : Nat → Int32) (c : Nat) (h : Int64) : Nat → Int64 | 0 => h | n + 1 => gsI g (c * n) (mxF (gsM f g c h n) (f n).toInt64) (f n).toNatClampNeg
def g4M (S : St) : Nat → Int64 := gsM (gA S 60) (gA S 61) 40 (g3M S 3)
def g5M (S : St) : Nat → Int64 := gsM (gA S 62) (gA S 63) 60 (g4M S 6)
def okR (f : Nat → Int32) (N M : Nat) : Prop := ∀ n, n < N → f n = -1 ∨ ∃ m, m ≤ M ∧ f n = nI m
theorem okR_le {x : Int32} {N n : Nat} (h : x = -1 ∨ ∃ m, m ≤ N ∧ x = nI m) (hN : N < 2 ^ 31) (hn : n < 2 ^ 31) (q : x ≤ nI n) : x.toNatClampNeg ≤ n := by
  rcases h with h | ⟨m, hm, h⟩
  · rw [h]
    have : (-1 : Int32).toNatClampNeg = 0 := by decide
    omega
  · rw [h, nI_clamp (by omega)]
    rw [h] at q
    exact (nI_leI (by omega) hn).mp q
theorem okR_lt {x : Int32} {N n : Nat} (h : x = -1 ∨ ∃ m, m ≤ N ∧ x = nI m) (hN : N < 2 ^ 31) (hn : n < 2 ^ 31) (q : ¬ x ≤ nI n) : n < x.toNatClampNeg := by
  rcases h with h | ⟨m, hm, h⟩
  · rw [h] at q
    exfalso
    apply q
    rw [Int32.le_iff_toInt_le, nI_toInt hn]
    have : (-1 : Int32).toInt = -1 := by decide
    omega
  · rw [h, nI_clamp (by omega)]
    rw [h] at q
    exact Nat.not_le.mp (fun z => q (nI_le z hn))
theorem okR_sz {x : Int32} {N : Nat} (h : x = -1 ∨ ∃ m, m ≤ N ∧ x = nI m) (hN : N < 2 ^ 31) : x.toNatClampNeg ≤ N := by
  rcases h with h | ⟨m, hm, h⟩
  · rw [h]
    have : (-1 : Int32).toNatClampNeg = 0 := by decide
    omega
  · rw [h, nI_clamp (by omega)]; exact hm
theorem gaR_w {S T : St} (h : gA T 59 = gA S 59) : ∀ n, gaR T n = gaR S n
  | 0 => rfl
  | n + 1 => by rw [gaR, gaR, gaR_w h n]; unfold glQ; rw [h]
theorem mnR_w {S T : St} (h : gA T 59 = gA S 59) {a b : Int32} : ∀ n, mnR T a b n = mnR S a b n
  | 0 => rfl
  | n + 1 => by rw [mnR, mnR, mnR_w h n, h]
theorem cnM_sL {S : St} {a b : Nat} {x : Int64} {i : Int32} : cnM (sL S a b x) i = cnM S i := by
  have h : gA (sL S a b x) 59 = gA S 59 := rfl
  unfold cnM
  rw [gaR_w h, mnR_w h, mnR_w h, nM_w h]
  rfl
theorem ltM_sL {S : St} {a b k : Nat} {x : Int64} {i : Int32} : ltM (sL S a b x) k i = ltM S k i := rfl
theorem sL_sL' (S : St) (k j : Nat) (v u : Int64) : sL (sL S k j v) k j u = sL S k j u := by
  refine st_ext (fun _ _ => rfl) (fun a b => ?_) (fun _ _ => rfl)
  simp only [gL_sL]
  split <;> rfl
set_option maxRecDepth 100000 in
set_option maxHeartbeats 4000000 in
theorem c_X9_digest (E : En) (S : St)  (hz : okM S) (hR : okR (gA S 60) 6 40) (hT : okR (gA S 62) 4 60) : CTe E i_X9_digest S [.ref (eA E 58)] (sL S 58 22 (g5M S 4)) (some (.long (g5M S 4))) := by
  have hz8 := hz.2
  refine ct_of [(0, .ref (eA E 58))] (by decide +kernel) (Nat.le_of_ble_eq_true rfl) rfl (fun X hM => ?_)
  refine g_aload_n (pc := 0) dX9_digest_0 0 rfl rfl ?_
  refine g_ldc2 (pc := 1) kw_X9_264 dX9_digest_1 ?_
  refine pf_X9_261 (pc := 4) rfl dX9_digest_4 ?_
  refine g_iconst (pc := 7) (v := 0) dX9_digest_7 (by decide) ?_
  refine g_istore_n (pc := 8) (L' := [(1, .int 0), (0, .ref (eA E 58))]) dX9_digest_8 rfl (Nat.le_of_ble_eq_true rfl) rfl ?_
  have H_9 : ∀ n : Nat, n ≤ 10 → G E X i_X9_digest (sL S 58 22 (g1M S n)) 9 [(0, .ref (eA E 58)), (1, .int (nI n))] [] := by
    refine dn_ind 10 (fun n hn_9 ih_9 => ?_)
    refine g_iload_n (pc := 9) dX9_digest_9 1 rfl rfl ?_
    refine g_bipush (pc := 10) (v := 10) dX9_digest_10 (by decide) ?_
    refine g_icmp_ge (pc := 12) (tgt := 31) dX9_digest_12 (by decide) (fun c_12 => ?_) (fun c_12 => ?_)
    · have k_12 := Int32.not_lt.mpr c_12
      have he_9 : n = 10 := Nat.le_antisymm hn_9 (by exact nle_of (N := 10) rfl rfl (by omega) (by omega) c_12)
      rw [he_9]
      refine g_iconst (pc := 31) (v := 0) dX9_digest_31 (by decide) ?_
      refine g_istore_n (pc := 32) (L' := [(1, .int 0), (0, .ref (eA E 58))]) dX9_digest_32 rfl (Nat.le_of_ble_eq_true rfl) rfl ?_
      have H_33 : ∀ k : Nat, k ≤ (nM S) → G E X i_X9_digest (sL S 58 22 (g2M S k)) 33 [(0, .ref (eA E 58)), (1, .int (nI k))] [] := by
        refine dn_ind (nM S) (fun k hn_33 ih_33 => ?_)
        refine g_iload_n (pc := 33) dX9_digest_33 1 rfl rfl ?_
        refine g_aload_n (pc := 34) dX9_digest_34 0 rfl rfl ?_
        refine gf_X9_7 (pc := 35) rfl dX9_digest_35 ?_
        refine g_iconst (pc := 38) (v := 0) dX9_digest_38 (by decide) ?_
        refine g_iald (pc := 39) 0 rfl rfl (by decide) (by decide) dX9_digest_39 ?_
        rw [show gA (sL S 58 22 (g2M S k)) 59 0 = (gA S 59) 0 from congrFun (rfl) 0]
        refine g_icmp_ge (pc := 40) (tgt := 74) dX9_digest_40 (by decide) (fun c_40 => ?_) (fun c_40 => ?_)
        · have k_40 := Int32.not_lt.mpr c_40
          have he_33 : k = (nM S) := Nat.le_antisymm hn_33 (by exact nle_of (N := nM S) rfl hz.1 (by omega) (by omega) c_40)
          rw [he_33]
          refine g_iconst (pc := 74) (v := 0) dX9_digest_74 (by decide) ?_
          refine g_istore_n (pc := 75) (L' := [(1, .int 0), (0, .ref (eA E 58))]) dX9_digest_75 rfl (Nat.le_of_ble_eq_true rfl) rfl ?_
          have H_76 : ∀ n : Nat, n ≤ 3 → G E X i_X9_digest (sL S 58 22 (g3M S n)) 76 [(0, .ref (eA E 58)), (1, .int (nI n))] [] := by
            refine dn_ind 3 (fun n hn_76 ih_76 => ?_)
            refine g_iload_n (pc := 76) dX9_digest_76 1 rfl rfl ?_
            refine g_iconst (pc := 77) (v := 3) dX9_digest_77 (by decide) ?_
            refine g_icmp_ge (pc := 78) (tgt := 134) dX9_digest_78 (by decide) (fun c_78 => ?_) (fun c_78 => ?_)
            · have k_78 := Int32.not_lt.mpr c_78
              have he_76 : n = 3 := Nat.le_antisymm hn_76 (by exact nle_of (N := 3) rfl rfl (by omega) (by omega) c_78)
              rw [he_76]
              refine g_iconst (pc := 134) (v := 0) dX9_digest_134 (by decide) ?_
              refine g_istore_n (pc := 135) (L' := [(1, .int 0), (0, .ref (eA E 58))]) dX9_digest_135 rfl (Nat.le_of_ble_eq_true rfl) rfl ?_
              have H_136 : ∀ n : Nat, n ≤ 6 → G E X i_X9_digest (sL S 58 22 (g4M S n)) 136 [(0, .ref (eA E 58)), (1, .int (nI n))] [] := by
                refine dn_ind 6 (fun n hn_136 ih_136 => ?_)
                refine g_iload_n (pc := 136) dX9_digest_136 1 rfl rfl ?_
                refine g_bipush (pc := 137) (v := 6) dX9_digest_137 (by decide) ?_
                refine g_icmp_ge (pc := 139) (tgt := 193) dX9_digest_139 (by decide) (fun c_139 => ?_) (fun c_139 => ?_)
                · have k_139 := Int32.not_lt.mpr c_139
                  have he_136 : n = 6 := Nat.le_antisymm hn_136 (by exact nle_of (N := 6) rfl rfl (by omega) (by omega) c_139)
                  rw [he_136]
                  refine g_iconst (pc := 193) (v := 0) dX9_digest_193 (by decide) ?_
                  refine g_istore_n (pc := 194) (L' := [(1, .int 0), (0, .ref (eA E 58))]) dX9_digest_194 rfl (Nat.le_of_ble_eq_true rfl) rfl ?_
                  have H_195 : ∀ n : Nat, n ≤ 4 → G E X i_X9_digest (sL S 58 22 (g5M S n)) 195 [(0, .ref (eA E 58)), (1, .int (nI n))] [] := by
                    refine dn_ind 4 (fun n hn_195 ih_195 => ?_)
                    refine g_iload_n (pc := 195) dX9_digest_195 1 rfl rfl ?_
                    refine g_iconst (pc := 196) (v := 4) dX9_digest_196 (by decide) ?_
                    refine g_icmp_ge (pc := 197) (tgt := 251) dX9_digest_197 (by decide) (fun c_197 => ?_) (fun c_197 => ?_)
                    · have k_197 := Int32.not_lt.mpr c_197
                      have he_195 : n = 4 := Nat.le_antisymm hn_195 (by exact nle_of (N := 4) rfl rfl (by omega) (by omega) c_197)
                      rw [he_195]
                      refine g_aload_n (pc := 251) dX9_digest_251 0 rfl rfl ?_
                      refine gf_X9_261 (pc := 252) rfl dX9_digest_252 ?_
                      rw [show gL (sL S 58 22 (g5M S 4)) 58 22 = g5M S 4 from (gL_same _ _ _ _)]
                      exact g_lret (pc := 255) hM rfl ⟨rfl, rfl⟩ dX9_digest_255
                    · have k_197 := Int32.not_le.mp c_197
                      have hlt_195 : n < 4 := by exact nlt_of (N := 4) rfl rfl (by omega) (by omega) c_197
                      refine g_aload_n (pc := 200) dX9_digest_200 0 rfl rfl ?_
                      refine g_aload_n (pc := 201) dX9_digest_201 0 rfl rfl ?_
                      refine gf_X9_19 (pc := 202) rfl dX9_digest_202 ?_
                      refine g_iload_n (pc := 205) dX9_digest_205 1 rfl rfl ?_
                      refine g_iald (pc := 206) n rfl rfl (show n < 4 by omega) (by decide) dX9_digest_206 ?_
                      rw [show gA (sL S 58 22 (g5M S n)) 62 n = (gA S 62) n from congrFun (rfl) n]
                      refine g_i2l (pc := 207) dX9_digest_207 ?_
                      refine g_invN (pc := 208) j_X9_mix mw_X9_269 dX9_digest_208 (rcv_X9) (by rfl) (c_X9_mix E (sL S 58 22 (g5M S n)) (((gA S 62) n).toInt64) ) (Nat.le_of_ble_eq_true rfl) (Nat.le_of_ble_eq_true rfl) (by rfl) (Nat.le_of_ble_eq_true rfl) ?_
                      rw [show sL (sL S 58 22 (g5M S n)) 58 22 (31 * gL (sL S 58 22 (g5M S n)) 58 22 + (((gA S 62) n).toInt64)) = sL S 58 22 (mxF (g5M S n) (gA S 62 n).toInt64) by rw [sL_sL', gL_same]; rfl]
                      have hsz := okR_sz (hT n hlt_195) (by omega)
                      refine g_iconst (pc := 211) (v := 0) dX9_digest_211 (by decide) ?_
                      refine g_istore_n (pc := 212) (L' := [(2, .int 0), (0, .ref (eA E 58)), (1, .int (nI n))]) dX9_digest_212 rfl (Nat.le_of_ble_eq_true rfl) rfl ?_
                      have H_213 : ∀ j : Nat, j ≤ ((gA S 62 n).toNatClampNeg) → G E X i_X9_digest (sL S 58 22 (gsI (gA S 63) (60 * n) (mxF (g5M S n) (gA S 62 n).toInt64) j)) 213 [(0, .ref (eA E 58)), (1, .int (nI n)), (2, .int (nI j))] [] := by
                        refine dn_ind ((gA S 62 n).toNatClampNeg) (fun j hn_213 ih_213 => ?_)
                        refine g_iload_n (pc := 213) dX9_digest_213 2 rfl rfl ?_
                        refine g_aload_n (pc := 214) dX9_digest_214 0 rfl rfl ?_
                        refine gf_X9_19 (pc := 215) rfl dX9_digest_215 ?_
                        refine g_iload_n (pc := 218) dX9_digest_218 1 rfl rfl ?_
                        refine g_iald (pc := 219) n rfl rfl (show n < 4 by omega) (by decide) dX9_digest_219 ?_
                        rw [show gA (sL S 58 22 (gsI (gA S 63) (60 * n) (mxF (g5M S n) (gA S 62 n).toInt64) j)) 62 n = (gA S 62) n from congrFun (rfl) n]
                        refine g_icmp_ge (pc := 220) (tgt := 245) dX9_digest_220 (by decide) (fun c_220 => ?_) (fun c_220 => ?_)
                        · have k_220 := Int32.not_lt.mpr c_220
                          have he_213 : j = ((gA S 62 n).toNatClampNeg) := Nat.le_antisymm hn_213 (by exact okR_le (hT n hlt_195) (by omega) (by omega) c_220)
                          rw [he_213]
                          refine g_iinc (pc := 245) (L' := [(1, .int (nI n + 1)), (0, .ref (eA E 58)), (2, .int (nI ((gA S 62 n).toNatClampNeg)))]) dX9_digest_245 (k := 1) rfl (v := nI n + 1) rfl (Nat.le_of_ble_eq_true rfl) rfl ?_
                          refine g_goto (pc := 248) (tgt := 195) dX9_digest_248 (by decide) ?_
                          refine g_sub (L' := [(0, .ref (eA E 58)), (1, .int (nI n + 1))]) [1, 0] rfl ?_
                          exact g_eq rfl (by rw [nI_1]) rfl (ih_195 hlt_195)
                        · have k_220 := Int32.not_le.mp c_220
                          have hlt_213 : j < ((gA S 62 n).toNatClampNeg) := by exact okR_lt (hT n hlt_195) (by omega) (by omega) c_220
                          refine g_aload_n (pc := 223) dX9_digest_223 0 rfl rfl ?_
                          refine g_aload_n (pc := 224) dX9_digest_224 0 rfl rfl ?_
                          refine gf_X9_22 (pc := 225) rfl dX9_digest_225 ?_
                          refine g_bipush (pc := 228) (v := 60) dX9_digest_228 (by decide) ?_
                          refine g_iload_n (pc := 230) dX9_digest_230 1 rfl rfl ?_
                          refine g_imul (pc := 231) dX9_digest_231 ?_
                          refine g_iload_n (pc := 232) dX9_digest_232 2 rfl rfl ?_
                          refine g_iadd (pc := 233) dX9_digest_233 ?_
                          refine g_iald (pc := 234) ((60 * n) + j) (nI_aE (nI_mE rfl rfl) rfl) rfl (show (60 * n) + j < 240 by omega) (by decide) dX9_digest_234 ?_
                          rw [show gA (sL S 58 22 (gsI (gA S 63) (60 * n) (mxF (g5M S n) (gA S 62 n).toInt64) j)) 63 ((60 * n) + j) = (gA S 63) ((60 * n) + j) from congrFun (rfl) ((60 * n) + j)]
                          refine g_i2l (pc := 235) dX9_digest_235 ?_
                          refine g_invN (pc := 236) j_X9_mix mw_X9_269 dX9_digest_236 (rcv_X9) (by rfl) (c_X9_mix E (sL S 58 22 (gsI (gA S 63) (60 * n) (mxF (g5M S n) (gA S 62 n).toInt64) j)) (((gA S 63) ((60 * n) + j)).toInt64) ) (Nat.le_of_ble_eq_true rfl) (Nat.le_of_ble_eq_true rfl) (by rfl) (Nat.le_of_ble_eq_true rfl) ?_
                          rw [show sL (sL S 58 22 (gsI (gA S 63) (60 * n) (mxF (g5M S n) (gA S 62 n).toInt64) j)) 58 22 (31 * gL (sL S 58 22 (gsI (gA S 63) (60 * n) (mxF (g5M S n) (gA S 62 n).toInt64) j)) 58 22 + (((gA S 63) ((60 * n) + j)).toInt64)) = sL S 58 22 (gsI (gA S 63) (60 * n) (mxF (g5M S n) (gA S 62 n).toInt64) (j + 1)) by rw [sL_sL', gL_same]; rfl]
                          refine g_iinc (pc := 239) (L' := [(2, .int (nI j + 1)), (0, .ref (eA E 58)), (1, .int (nI n))]) dX9_digest_239 (k := 2) rfl (v := nI j + 1) rfl (Nat.le_of_ble_eq_true rfl) rfl ?_
                          refine g_goto (pc := 242) (tgt := 213) dX9_digest_242 (by decide) ?_
                          refine g_sub (L' := [(0, .ref (eA E 58)), (1, .int (nI n)), (2, .int (nI j + 1))]) [1, 2, 0] rfl ?_
                          exact g_eq rfl (by rw [nI_1]) rfl (ih_213 hlt_213)
                      refine g_sub (L' := [(0, .ref (eA E 58)), (1, .int (nI n)), (2, .int 0)]) [1, 2, 0] rfl ?_
                      exact g_eq rfl rfl rfl (H_213 0 (Nat.zero_le _))
                  refine g_sub (L' := [(0, .ref (eA E 58)), (1, .int 0)]) [1, 0] rfl ?_
                  exact g_eq rfl rfl rfl (H_195 0 (Nat.zero_le _))
                · have k_139 := Int32.not_le.mp c_139
                  have hlt_136 : n < 6 := by exact nlt_of (N := 6) rfl rfl (by omega) (by omega) c_139
                  refine g_aload_n (pc := 142) dX9_digest_142 0 rfl rfl ?_
                  refine g_aload_n (pc := 143) dX9_digest_143 0 rfl rfl ?_
                  refine gf_X9_13 (pc := 144) rfl dX9_digest_144 ?_
                  refine g_iload_n (pc := 147) dX9_digest_147 1 rfl rfl ?_
                  refine g_iald (pc := 148) n rfl rfl (show n < 6 by omega) (by decide) dX9_digest_148 ?_
                  rw [show gA (sL S 58 22 (g4M S n)) 60 n = (gA S 60) n from congrFun (rfl) n]
                  refine g_i2l (pc := 149) dX9_digest_149 ?_
                  refine g_invN (pc := 150) j_X9_mix mw_X9_269 dX9_digest_150 (rcv_X9) (by rfl) (c_X9_mix E (sL S 58 22 (g4M S n)) (((gA S 60) n).toInt64) ) (Nat.le_of_ble_eq_true rfl) (Nat.le_of_ble_eq_true rfl) (by rfl) (Nat.le_of_ble_eq_true rfl) ?_
                  rw [show sL (sL S 58 22 (g4M S n)) 58 22 (31 * gL (sL S 58 22 (g4M S n)) 58 22 + (((gA S 60) n).toInt64)) = sL S 58 22 (mxF (g4M S n) (gA S 60 n).toInt64) by rw [sL_sL', gL_same]; rfl]
                  have hsz := okR_sz (hR n hlt_136) (by omega)
                  refine g_iconst (pc := 153) (v := 0) dX9_digest_153 (by decide) ?_
                  refine g_istore_n (pc := 154) (L' := [(2, .int 0), (0, .ref (eA E 58)), (1, .int (nI n))]) dX9_digest_154 rfl (Nat.le_of_ble_eq_true rfl) rfl ?_
                  have H_155 : ∀ j : Nat, j ≤ ((gA S 60 n).toNatClampNeg) → G E X i_X9_digest (sL S 58 22 (gsI (gA S 61) (40 * n) (mxF (g4M S n) (gA S 60 n).toInt64) j)) 155 [(0, .ref (eA E 58)), (1, .int (nI n)), (2, .int (nI j))] [] := by
                    refine dn_ind ((gA S 60 n).toNatClampNeg) (fun j hn_155 ih_155 => ?_)
                    refine g_iload_n (pc := 155) dX9_digest_155 2 rfl rfl ?_
                    refine g_aload_n (pc := 156) dX9_digest_156 0 rfl rfl ?_
                    refine gf_X9_13 (pc := 157) rfl dX9_digest_157 ?_
                    refine g_iload_n (pc := 160) dX9_digest_160 1 rfl rfl ?_
                    refine g_iald (pc := 161) n rfl rfl (show n < 6 by omega) (by decide) dX9_digest_161 ?_
                    rw [show gA (sL S 58 22 (gsI (gA S 61) (40 * n) (mxF (g4M S n) (gA S 60 n).toInt64) j)) 60 n = (gA S 60) n from congrFun (rfl) n]
                    refine g_icmp_ge (pc := 162) (tgt := 187) dX9_digest_162 (by decide) (fun c_162 => ?_) (fun c_162 => ?_)
                    · have k_162 := Int32.not_lt.mpr c_162
                      have he_155 : j = ((gA S 60 n).toNatClampNeg) := Nat.le_antisymm hn_155 (by exact okR_le (hR n hlt_136) (by omega) (by omega) c_162)
                      rw [he_155]
                      refine g_iinc (pc := 187) (L' := [(1, .int (nI n + 1)), (0, .ref (eA E 58)), (2, .int (nI ((gA S 60 n).toNatClampNeg)))]) dX9_digest_187 (k := 1) rfl (v := nI n + 1) rfl (Nat.le_of_ble_eq_true rfl) rfl ?_
                      refine g_goto (pc := 190) (tgt := 136) dX9_digest_190 (by decide) ?_
                      refine g_sub (L' := [(0, .ref (eA E 58)), (1, .int (nI n + 1))]) [1, 0] rfl ?_
                      exact g_eq rfl (by rw [nI_1]) rfl (ih_136 hlt_136)
                    · have k_162 := Int32.not_le.mp c_162
                      have hlt_155 : j < ((gA S 60 n).toNatClampNeg) := by exact okR_lt (hR n hlt_136) (by omega) (by omega) c_162
                      refine g_aload_n (pc := 165) dX9_digest_165 0 rfl rfl ?_
                      refine g_aload_n (pc := 166) dX9_digest_166 0 rfl rfl ?_
                      refine gf_X9_16 (pc := 167) rfl dX9_digest_167 ?_
                      refine g_bipush (pc := 170) (v := 40) dX9_digest_170 (by decide) ?_
                      refine g_iload_n (pc := 172) dX9_digest_172 1 rfl rfl ?_
                      refine g_imul (pc := 173) dX9_digest_173 ?_
                      refine g_iload_n (pc := 174) dX9_digest_174 2 rfl rfl ?_
                      refine g_iadd (pc := 175) dX9_digest_175 ?_
                      refine g_iald (pc := 176) ((40 * n) + j) (nI_aE (nI_mE rfl rfl) rfl) rfl (show (40 * n) + j < 240 by omega) (by decide) dX9_digest_176 ?_
                      rw [show gA (sL S 58 22 (gsI (gA S 61) (40 * n) (mxF (g4M S n) (gA S 60 n).toInt64) j)) 61 ((40 * n) + j) = (gA S 61) ((40 * n) + j) from congrFun (rfl) ((40 * n) + j)]
                      refine g_i2l (pc := 177) dX9_digest_177 ?_
                      refine g_invN (pc := 178) j_X9_mix mw_X9_269 dX9_digest_178 (rcv_X9) (by rfl) (c_X9_mix E (sL S 58 22 (gsI (gA S 61) (40 * n) (mxF (g4M S n) (gA S 60 n).toInt64) j)) (((gA S 61) ((40 * n) + j)).toInt64) ) (Nat.le_of_ble_eq_true rfl) (Nat.le_of_ble_eq_true rfl) (by rfl) (Nat.le_of_ble_eq_true rfl) ?_
                      rw [show sL (sL S 58 22 (gsI (gA S 61) (40 * n) (mxF (g4M S n) (gA S 60 n).toInt64) j)) 58 22 (31 * gL (sL S 58 22 (gsI (gA S 61) (40 * n) (mxF (g4M S n) (gA S 60 n).toInt64) j)) 58 22 + (((gA S 61) ((40 * n) + j)).toInt64)) = sL S 58 22 (gsI (gA S 61) (40 * n) (mxF (g4M S n) (gA S 60 n).toInt64) (j + 1)) by rw [sL_sL', gL_same]; rfl]
                      refine g_iinc (pc := 181) (L' := [(2, .int (nI j + 1)), (0, .ref (eA E 58)), (1, .int (nI n))]) dX9_digest_181 (k := 2) rfl (v := nI j + 1) rfl (Nat.le_of_ble_eq_true rfl) rfl ?_
                      refine g_goto (pc := 184) (tgt := 155) dX9_digest_184 (by decide) ?_
                      refine g_sub (L' := [(0, .ref (eA E 58)), (1, .int (nI n)), (2, .int (nI j + 1))]) [1, 2, 0] rfl ?_
                      exact g_eq rfl (by rw [nI_1]) rfl (ih_155 hlt_155)
                  refine g_sub (L' := [(0, .ref (eA E 58)), (1, .int (nI n)), (2, .int 0)]) [1, 2, 0] rfl ?_
                  exact g_eq rfl rfl rfl (H_155 0 (Nat.zero_le _))
              refine g_sub (L' := [(0, .ref (eA E 58)), (1, .int 0)]) [1, 0] rfl ?_
              exact g_eq rfl rfl rfl (H_136 0 (Nat.zero_le _))
            · have k_78 := Int32.not_le.mp c_78
              have hlt_76 : n < 3 := by exact nlt_of (N := 3) rfl rfl (by omega) (by omega) c_78
              refine g_aload_n (pc := 81) dX9_digest_81 0 rfl rfl ?_
              refine g_aload_n (pc := 82) dX9_digest_82 0 rfl rfl ?_
              refine gf_X9_7 (pc := 83) rfl dX9_digest_83 ?_
              refine g_sipush (pc := 86) (v := 444) dX9_digest_86 (by decide) ?_
              refine g_sipush (pc := 89) (v := 444) dX9_digest_89 (by decide) ?_
              refine g_iload_n (pc := 92) dX9_digest_92 1 rfl rfl ?_
              refine g_imul (pc := 93) dX9_digest_93 ?_
              refine g_iadd (pc := 94) dX9_digest_94 ?_
              rw [show (444 + (444 * nI n) : Int32) = nI (444 + 444 * n) from nI_aE rfl (nI_mE rfl rfl)]
              refine g_iconst (pc := 95) (v := 0) dX9_digest_95 (by decide) ?_
              refine g_iadd (pc := 96) dX9_digest_96 ?_
              refine g_iald (pc := 97) (444 + 444 * n) (Int32.add_zero _) rfl (show 444 + 444 * n < 1776 by omega) (by decide) dX9_digest_97 ?_
              rw [show gA (sL S 58 22 (g3M S n)) 59 (444 + 444 * n) = (gA S 59) (444 + 444 * n) from congrFun (rfl) (444 + 444 * n)]
              refine g_if_ne (pc := 98) (tgt := 107) dX9_digest_98 (by decide) (fun c_98 => ?_) (fun c_98 => ?_)
              · refine g_aload_n (pc := 107) dX9_digest_107 0 rfl rfl ?_
                refine gf_X9_7 (pc := 108) rfl dX9_digest_108 ?_
                refine g_sipush (pc := 111) (v := 444) dX9_digest_111 (by decide) ?_
                refine g_sipush (pc := 114) (v := 444) dX9_digest_114 (by decide) ?_
                refine g_iload_n (pc := 117) dX9_digest_117 1 rfl rfl ?_
                refine g_imul (pc := 118) dX9_digest_118 ?_
                refine g_iadd (pc := 119) dX9_digest_119 ?_
                rw [show (444 + (444 * nI n) : Int32) = nI (444 + 444 * n) from nI_aE rfl (nI_mE rfl rfl)]
                refine g_bipush (pc := 120) (v := 43) dX9_digest_120 (by decide) ?_
                refine g_iadd (pc := 122) dX9_digest_122 ?_
                refine g_iald (pc := 123) ((444 + 444 * n) + 43) (nI_aE rfl rfl) rfl (show (444 + 444 * n) + 43 < 1776 by omega) (by decide) dX9_digest_123 ?_
                rw [show gA (sL S 58 22 (g3M S n)) 59 ((444 + 444 * n) + 43) = (gA S 59) ((444 + 444 * n) + 43) from congrFun (rfl) ((444 + 444 * n) + 43)]
                refine g_i2l (pc := 124) dX9_digest_124 ?_
                refine g_invN (pc := 125) j_X9_mix mw_X9_269 dX9_digest_125 (rcv_X9) (by rfl) (c_X9_mix E (sL S 58 22 (g3M S n)) (((gA S 59) ((444 + 444 * n) + 43)).toInt64) ) (Nat.le_of_ble_eq_true rfl) (Nat.le_of_ble_eq_true rfl) (by rfl) (Nat.le_of_ble_eq_true rfl) ?_
                rw [show sL (sL S 58 22 (g3M S n)) 58 22 (31 * gL (sL S 58 22 (g3M S n)) 58 22 + (((gA S 59) ((444 + 444 * n) + 43)).toInt64)) = sL S 58 22 (g3M S (n + 1)) by rw [sL_sL', gL_same, g3M, if_neg c_98]; rfl]
                refine g_iinc (pc := 128) (L' := [(1, .int (nI n + 1)), (0, .ref (eA E 58))]) dX9_digest_128 (k := 1) rfl (v := nI n + 1) rfl (Nat.le_of_ble_eq_true rfl) rfl ?_
                refine g_goto (pc := 131) (tgt := 76) dX9_digest_131 (by decide) ?_
                refine g_sub (L' := [(0, .ref (eA E 58)), (1, .int (nI n + 1))]) [1, 0] rfl ?_
                exact g_eq rfl (by rw [nI_1]) rfl (ih_76 hlt_76)
              · refine g_ldc2 (pc := 101) kw_X9_273 dX9_digest_101 ?_
                refine g_goto (pc := 104) (tgt := 125) dX9_digest_104 (by decide) ?_
                refine g_invN (pc := 125) j_X9_mix mw_X9_269 dX9_digest_125 (rcv_X9) (by rfl) (c_X9_mix E (sL S 58 22 (g3M S n)) (-1) ) (Nat.le_of_ble_eq_true rfl) (Nat.le_of_ble_eq_true rfl) (by rfl) (Nat.le_of_ble_eq_true rfl) ?_
                rw [show sL (sL S 58 22 (g3M S n)) 58 22 (31 * gL (sL S 58 22 (g3M S n)) 58 22 + (-1)) = sL S 58 22 (g3M S (n + 1)) by rw [sL_sL', gL_same, g3M, if_pos c_98]; rfl]
                refine g_iinc (pc := 128) (L' := [(1, .int (nI n + 1)), (0, .ref (eA E 58))]) dX9_digest_128 (k := 1) rfl (v := nI n + 1) rfl (Nat.le_of_ble_eq_true rfl) rfl ?_
                refine g_goto (pc := 131) (tgt := 76) dX9_digest_131 (by decide) ?_
                refine g_sub (L' := [(0, .ref (eA E 58)), (1, .int (nI n + 1))]) [1, 0] rfl ?_
                exact g_eq rfl (by rw [nI_1]) rfl (ih_76 hlt_76)
          refine g_sub (L' := [(0, .ref (eA E 58)), (1, .int 0)]) [1, 0] rfl ?_
          exact g_eq rfl rfl rfl (H_76 0 (Nat.zero_le _))
        · have k_40 := Int32.not_le.mp c_40
          have hlt_33 : k < (nM S) := by exact nlt_of (N := nM S) rfl hz.1 (by omega) (by omega) c_40
          refine g_iconst (pc := 43) (v := 0) dX9_digest_43 (by decide) ?_
          refine g_istore_n (pc := 44) (L' := [(2, .int 0), (0, .ref (eA E 58)), (1, .int (nI k))]) dX9_digest_44 rfl (Nat.le_of_ble_eq_true rfl) rfl ?_
          have H_45 : ∀ j : Nat, j ≤ 7 → G E X i_X9_digest (sL S 58 22 (g2I S k (g2M S k) j)) 45 [(0, .ref (eA E 58)), (1, .int (nI k)), (2, .int (nI j))] [] := by
            refine dn_ind 7 (fun j hn_45 ih_45 => ?_)
            refine g_iload_n (pc := 45) dX9_digest_45 2 rfl rfl ?_
            refine g_bipush (pc := 46) (v := 7) dX9_digest_46 (by decide) ?_
            refine g_icmp_ge (pc := 48) (tgt := 68) dX9_digest_48 (by decide) (fun c_48 => ?_) (fun c_48 => ?_)
            · have k_48 := Int32.not_lt.mpr c_48
              have he_45 : j = 7 := Nat.le_antisymm hn_45 (by exact nle_of (N := 7) rfl rfl (by omega) (by omega) c_48)
              rw [he_45]
              refine g_iinc (pc := 68) (L' := [(1, .int (nI k + 1)), (0, .ref (eA E 58)), (2, .int (nI 7))]) dX9_digest_68 (k := 1) rfl (v := nI k + 1) rfl (Nat.le_of_ble_eq_true rfl) rfl ?_
              refine g_goto (pc := 71) (tgt := 33) dX9_digest_71 (by decide) ?_
              refine g_sub (L' := [(0, .ref (eA E 58)), (1, .int (nI k + 1))]) [1, 0] rfl ?_
              exact g_eq rfl (by rw [nI_1]) rfl (ih_33 hlt_33)
            · have k_48 := Int32.not_le.mp c_48
              have hlt_45 : j < 7 := by exact nlt_of (N := 7) rfl rfl (by omega) (by omega) c_48
              refine g_aload_n (pc := 51) dX9_digest_51 0 rfl rfl ?_
              refine g_aload_n (pc := 52) dX9_digest_52 0 rfl rfl ?_
              refine g_iload_n (pc := 53) dX9_digest_53 1 rfl rfl ?_
              refine g_iload_n (pc := 54) dX9_digest_54 2 rfl rfl ?_
              refine g_invV (pc := 55) j_X9_lightOf mw_X9_132 dX9_digest_55 (rcv_X9) (by rfl) (c_X9_lightOf E (sL S 58 22 (g2I S k (g2M S k) j)) k (nI j) (by omega)) (Nat.le_of_ble_eq_true rfl) (Nat.le_of_ble_eq_true rfl) (by rfl) (Nat.le_of_ble_eq_true rfl) ?_
              rw [ltM_sL]
              refine g_i2l (pc := 58) dX9_digest_58 ?_
              refine g_invN (pc := 59) j_X9_mix mw_X9_269 dX9_digest_59 (rcv_X9) (by rfl) (c_X9_mix E (sL S 58 22 (g2I S k (g2M S k) j)) ((ltM S k (nI j)).toInt64) ) (Nat.le_of_ble_eq_true rfl) (Nat.le_of_ble_eq_true rfl) (by rfl) (Nat.le_of_ble_eq_true rfl) ?_
              rw [show sL (sL S 58 22 (g2I S k (g2M S k) j)) 58 22 (31 * gL (sL S 58 22 (g2I S k (g2M S k) j)) 58 22 + ((ltM S k (nI j)).toInt64)) = sL S 58 22 (g2I S k (g2M S k) (j + 1)) by rw [sL_sL', gL_same]; rfl]
              refine g_iinc (pc := 62) (L' := [(2, .int (nI j + 1)), (0, .ref (eA E 58)), (1, .int (nI k))]) dX9_digest_62 (k := 2) rfl (v := nI j + 1) rfl (Nat.le_of_ble_eq_true rfl) rfl ?_
              refine g_goto (pc := 65) (tgt := 45) dX9_digest_65 (by decide) ?_
              refine g_sub (L' := [(0, .ref (eA E 58)), (1, .int (nI k)), (2, .int (nI j + 1))]) [1, 2, 0] rfl ?_
              exact g_eq rfl (by rw [nI_1]) rfl (ih_45 hlt_45)
          refine g_sub (L' := [(0, .ref (eA E 58)), (1, .int (nI k)), (2, .int 0)]) [1, 2, 0] rfl ?_
          exact g_eq rfl rfl rfl (H_45 0 (Nat.zero_le _))
      refine g_sub (L' := [(0, .ref (eA E 58)), (1, .int 0)]) [1, 0] rfl ?_
      exact g_eq rfl rfl rfl (H_33 0 (Nat.zero_le _))
    · have k_12 := Int32.not_le.mp c_12
      have hlt_9 : n < 10 := by exact nlt_of (N := 10) rfl rfl (by omega) (by omega) c_12
      refine g_aload_n (pc := 15) dX9_digest_15 0 rfl rfl ?_
      refine g_aload_n (pc := 16) dX9_digest_16 0 rfl rfl ?_
      refine g_iload_n (pc := 17) dX9_digest_17 1 rfl rfl ?_
      refine g_invV (pc := 18) j_X9_count mw_X9_266 dX9_digest_18 (rcv_X9) (by rfl) (c_X9_count E (sL S 58 22 (g1M S n)) (nI n) (okM_w rfl hz)) (Nat.le_of_ble_eq_true rfl) (Nat.le_of_ble_eq_true rfl) (by rfl) (Nat.le_of_ble_eq_true rfl) ?_
      rw [cnM_sL]
      refine g_i2l (pc := 21) dX9_digest_21 ?_
      refine g_invN (pc := 22) j_X9_mix mw_X9_269 dX9_digest_22 (rcv_X9) (by rfl) (c_X9_mix E (sL S 58 22 (g1M S n)) ((cnM S (nI n)).toInt64) ) (Nat.le_of_ble_eq_true rfl) (Nat.le_of_ble_eq_true rfl) (by rfl) (Nat.le_of_ble_eq_true rfl) ?_
      rw [show sL (sL S 58 22 (g1M S n)) 58 22 (31 * gL (sL S 58 22 (g1M S n)) 58 22 + ((cnM S (nI n)).toInt64)) = sL S 58 22 (g1M S (n + 1)) by rw [sL_sL', gL_same]; rfl]
      refine g_iinc (pc := 25) (L' := [(1, .int (nI n + 1)), (0, .ref (eA E 58))]) dX9_digest_25 (k := 1) rfl (v := nI n + 1) rfl (Nat.le_of_ble_eq_true rfl) rfl ?_
      refine g_goto (pc := 28) (tgt := 9) dX9_digest_28 (by decide) ?_
      refine g_sub (L' := [(0, .ref (eA E 58)), (1, .int (nI n + 1))]) [1, 0] rfl ?_
      exact g_eq rfl (by rw [nI_1]) rfl (ih_9 hlt_9)
  refine g_sub (L' := [(0, .ref (eA E 58)), (1, .int 0)]) [1, 0] rfl ?_
  exact g_eq rfl rfl rfl (H_9 0 (Nat.zero_le _))
/-- the lots' numbers -/
def sdM (s : Int32) : Nat → Int64 | 0 => s.toInt64 | n + 1 => ltN (sdM s n)
def lkM (S : St) (x : Int64) : Int32 := (x / 8 - x / 8 / (gA S 59 0).toInt64 * (gA S 59 0).toInt64).toInt32
def loW (S : St) (s : Int32) (d : Nat) : Nat → (Nat → Int32)
  | 0 => gA S 59
  | n + 1 => if sdM s (n + 1) - sdM s (n + 1) / 4 * 4 = 0 ∧ mdF (loW S s d n) (d + n) 1 < 40 then upd (mdF (loW S s d n) (d + n)) 1 (mdF (loW S s d n) (d + n) 1 + 1)
    else if sdM s (n + 1) - sdM s (n + 1) / 4 * 4 = 1 then upd (mdF (loW S s d n) (d + n)) (3 + (lkM S (sdM s (n + 1))).toNatClampNeg) ((sdM s (n + 1) / 64 - sdM s (n + 1) / 64 / 10 * 10).toInt32)
    else upd (mdF (loW S s d n) (d + n)) 2 (mdF (loW S s d n) (d + n) 2 ^^^ ((1 : Int32) <<< (lkM S (sdM s (n + 1)) &&& 31)))
theorem mdF_43 {W : Nat → Int32} {d e : Nat} (h : W 43 = nI d) : mdF W e 43 = nI (d + 1) := by rw [mdF, pk_us, mdR_lo (by omega) (by omega), h, nI_1]
theorem loW_43 {S : St} {s : Int32} {d : Nat} (hd : gA S 59 43 = nI d) (hk : ∀ n, (lkM S (sdM s (n + 1))).toNatClampNeg < 8) : ∀ n, loW S s d n 43 = nI (d + n)
  | 0 => hd
  | n + 1 => by
    have ih := mdF_43 (e := d + n) (loW_43 (s := s) hd hk n)
    have hq := hk n
    rw [loW]
    split
    · rw [pk_un (by omega)]; exact ih
    · split
      · rw [pk_un (by omega)]; exact ih
      · rw [pk_un (by omega)]; exact ih
theorem loW_0 {S : St} {s : Int32} {d : Nat} : ∀ n, loW S s d n 0 = gA S 59 0
  | 0 => rfl
  | n + 1 => by
    have ih : mdF (loW S s d n) (d + n) 0 = gA S 59 0 := (mdF_lo (by omega)).trans (loW_0 n)
    rw [loW]
    split
    · rw [pk_un (by omega)]; exact ih
    · split
      · rw [pk_un (by omega)]; exact ih
      · rw [pk_un (by omega)]; exact ih
set_option maxRecDepth 100000 in
set_option maxHeartbeats 4000000 in
theorem c_X9_lots_bad (E : En) (S : St) (x s : Int32) (h : ¬ (inF x.toInt64 1 20 = true ∧ inF s.toInt64 1 2147483646 = true)) : CTe E i_X9_lots S [.ref (eA E 58), .int x, .int s] S (some (.int (-1))) := by
  refine ct_of [(0, .ref (eA E 58)), (1, .int x), (2, .int s)] (by decide +kernel) (Nat.le_of_ble_eq_true rfl) rfl (fun X hM => ?_)
  refine g_iload_n (pc := 0) dX9_lots_0 1 rfl rfl ?_
  refine g_i2l (pc := 1) dX9_lots_1 ?_
  refine g_lconst (pc := 2) (v := 1) dX9_lots_2 (by decide) ?_
  refine g_ldc2 (pc := 3) kw_X9_235 dX9_lots_3 ?_
  refine g_invS (pc := 6) j_X9_in mw_X9_62 dX9_lots_6 (by rfl) (c_X9_in E S x.toInt64 1 20 ) (Nat.le_of_ble_eq_true rfl) (Nat.le_of_ble_eq_true rfl) (by rfl) (Nat.le_of_ble_eq_true rfl) ?_
  refine g_b_eq (pc := 9) (tgt := 24) dX9_lots_9 (by decide) (fun c_9 => ?_) (fun c_9 => ?_)
  · refine g_iconst (pc := 24) (v := -1) dX9_lots_24 (by decide) ?_
    exact g_iret (pc := 25) hM rfl rfl ⟨rfl, rfl⟩ dX9_lots_25
  · refine g_iload_n (pc := 12) dX9_lots_12 2 rfl rfl ?_
    refine g_i2l (pc := 13) dX9_lots_13 ?_
    refine g_lconst (pc := 14) (v := 1) dX9_lots_14 (by decide) ?_
    refine g_ldc2 (pc := 15) kw_X9_237 dX9_lots_15 ?_
    refine g_invS (pc := 18) j_X9_in mw_X9_62 dX9_lots_18 (by rfl) (c_X9_in E S s.toInt64 1 2147483646 ) (Nat.le_of_ble_eq_true rfl) (Nat.le_of_ble_eq_true rfl) (by rfl) (Nat.le_of_ble_eq_true rfl) ?_
    refine g_b_ne (pc := 21) (tgt := 26) dX9_lots_21 (by decide) (fun c_21 => ?_) (fun c_21 => ?_)
    · exact absurd ⟨c_9, c_21⟩ h
    · refine g_iconst (pc := 24) (v := -1) dX9_lots_24 (by decide) ?_
      exact g_iret (pc := 25) hM rfl rfl ⟨rfl, rfl⟩ dX9_lots_25
set_option maxRecDepth 100000 in
set_option maxHeartbeats 4000000 in
theorem c_X9_lots_no (E : En) (S : St) (x s : Int32) (h : (inF x.toInt64 1 20 = true ∧ inF s.toInt64 1 2147483646 = true)) (h0 : gA S 59 0 = 0) : CTe E i_X9_lots S [.ref (eA E 58), .int x, .int s] S (some (.int (-4))) := by
  refine ct_of [(0, .ref (eA E 58)), (1, .int x), (2, .int s)] (by decide +kernel) (Nat.le_of_ble_eq_true rfl) rfl (fun X hM => ?_)
  refine g_iload_n (pc := 0) dX9_lots_0 1 rfl rfl ?_
  refine g_i2l (pc := 1) dX9_lots_1 ?_
  refine g_lconst (pc := 2) (v := 1) dX9_lots_2 (by decide) ?_
  refine g_ldc2 (pc := 3) kw_X9_235 dX9_lots_3 ?_
  refine g_invS (pc := 6) j_X9_in mw_X9_62 dX9_lots_6 (by rfl) (c_X9_in E S x.toInt64 1 20 ) (Nat.le_of_ble_eq_true rfl) (Nat.le_of_ble_eq_true rfl) (by rfl) (Nat.le_of_ble_eq_true rfl) ?_
  refine g_b_eq (pc := 9) (tgt := 24) dX9_lots_9 (by decide) (fun c_9 => ?_) (fun c_9 => ?_)
  · exact absurd (h.1.symm.trans c_9) (by decide)
  · refine g_iload_n (pc := 12) dX9_lots_12 2 rfl rfl ?_
    refine g_i2l (pc := 13) dX9_lots_13 ?_
    refine g_lconst (pc := 14) (v := 1) dX9_lots_14 (by decide) ?_
    refine g_ldc2 (pc := 15) kw_X9_237 dX9_lots_15 ?_
    refine g_invS (pc := 18) j_X9_in mw_X9_62 dX9_lots_18 (by rfl) (c_X9_in E S s.toInt64 1 2147483646 ) (Nat.le_of_ble_eq_true rfl) (Nat.le_of_ble_eq_true rfl) (by rfl) (Nat.le_of_ble_eq_true rfl) ?_
    refine g_b_ne (pc := 21) (tgt := 26) dX9_lots_21 (by decide) (fun c_21 => ?_) (fun c_21 => ?_)
    · refine g_aload_n (pc := 26) dX9_lots_26 0 rfl rfl ?_
      refine gf_X9_7 (pc := 27) rfl dX9_lots_27 ?_
      refine g_iconst (pc := 30) (v := 0) dX9_lots_30 (by decide) ?_
      refine g_iald (pc := 31) 0 rfl rfl (by decide) (by decide) dX9_lots_31 ?_
      refine g_if_ne (pc := 32) (tgt := 38) dX9_lots_32 (by decide) (fun c_32 => ?_) (fun c_32 => ?_)
      · exact absurd h0 c_32
      · refine g_bipush (pc := 35) (v := -4) dX9_lots_35 (by decide) ?_
        exact g_iret (pc := 37) hM rfl rfl ⟨rfl, rfl⟩ dX9_lots_37
    · exact absurd (h.2.symm.trans c_21) (by decide)
set_option maxRecDepth 100000 in
set_option maxHeartbeats 4000000 in
theorem c_X9_lots_full (E : En) (S : St) (x s : Int32) (h : (inF x.toInt64 1 20 = true ∧ inF s.toInt64 1 2147483646 = true)) (h0 : ¬ gA S 59 0 = 0) (hf : ¬ gA S 59 43 + x ≤ 40) : CTe E i_X9_lots S [.ref (eA E 58), .int x, .int s] S (some (.int (-2))) := by
  refine ct_of [(0, .ref (eA E 58)), (1, .int x), (2, .int s)] (by decide +kernel) (Nat.le_of_ble_eq_true rfl) rfl (fun X hM => ?_)
  refine g_iload_n (pc := 0) dX9_lots_0 1 rfl rfl ?_
  refine g_i2l (pc := 1) dX9_lots_1 ?_
  refine g_lconst (pc := 2) (v := 1) dX9_lots_2 (by decide) ?_
  refine g_ldc2 (pc := 3) kw_X9_235 dX9_lots_3 ?_
  refine g_invS (pc := 6) j_X9_in mw_X9_62 dX9_lots_6 (by rfl) (c_X9_in E S x.toInt64 1 20 ) (Nat.le_of_ble_eq_true rfl) (Nat.le_of_ble_eq_true rfl) (by rfl) (Nat.le_of_ble_eq_true rfl) ?_
  refine g_b_eq (pc := 9) (tgt := 24) dX9_lots_9 (by decide) (fun c_9 => ?_) (fun c_9 => ?_)
  · exact absurd (h.1.symm.trans c_9) (by decide)
  · refine g_iload_n (pc := 12) dX9_lots_12 2 rfl rfl ?_
    refine g_i2l (pc := 13) dX9_lots_13 ?_
    refine g_lconst (pc := 14) (v := 1) dX9_lots_14 (by decide) ?_
    refine g_ldc2 (pc := 15) kw_X9_237 dX9_lots_15 ?_
    refine g_invS (pc := 18) j_X9_in mw_X9_62 dX9_lots_18 (by rfl) (c_X9_in E S s.toInt64 1 2147483646 ) (Nat.le_of_ble_eq_true rfl) (Nat.le_of_ble_eq_true rfl) (by rfl) (Nat.le_of_ble_eq_true rfl) ?_
    refine g_b_ne (pc := 21) (tgt := 26) dX9_lots_21 (by decide) (fun c_21 => ?_) (fun c_21 => ?_)
    · refine g_aload_n (pc := 26) dX9_lots_26 0 rfl rfl ?_
      refine gf_X9_7 (pc := 27) rfl dX9_lots_27 ?_
      refine g_iconst (pc := 30) (v := 0) dX9_lots_30 (by decide) ?_
      refine g_iald (pc := 31) 0 rfl rfl (by decide) (by decide) dX9_lots_31 ?_
      refine g_if_ne (pc := 32) (tgt := 38) dX9_lots_32 (by decide) (fun c_32 => ?_) (fun c_32 => ?_)
      · refine g_aload_n (pc := 38) dX9_lots_38 0 rfl rfl ?_
        refine gf_X9_7 (pc := 39) rfl dX9_lots_39 ?_
        refine g_bipush (pc := 42) (v := 43) dX9_lots_42 (by decide) ?_
        refine g_iald (pc := 44) 43 rfl rfl (by decide) (by decide) dX9_lots_44 ?_
        refine g_iload_n (pc := 45) dX9_lots_45 1 rfl rfl ?_
        refine g_iadd (pc := 46) dX9_lots_46 ?_
        refine g_bipush (pc := 47) (v := 40) dX9_lots_47 (by decide) ?_
        refine g_icmp_le (pc := 49) (tgt := 55) dX9_lots_49 (by decide) (fun c_49 => ?_) (fun c_49 => ?_)
        · have k_49 := Int32.not_lt.mpr c_49
          exact absurd c_49 hf
        · have k_49 := Int32.not_le.mp c_49
          refine g_bipush (pc := 52) (v := -2) dX9_lots_52 (by decide) ?_
          exact g_iret (pc := 54) hM rfl rfl ⟨rfl, rfl⟩ dX9_lots_54
      · exact absurd c_32 h0
    · exact absurd (h.2.symm.trans c_21) (by decide)
set_option maxRecDepth 100000 in
set_option maxHeartbeats 4000000 in
theorem c_X9_lots_ok (E : En) (S : St) (w d : Nat) (s : Int32) (hz : okM S) (h : (inF (nI w).toInt64 1 20 = true ∧ inF s.toInt64 1 2147483646 = true)) (h0 : ¬ gA S 59 0 = 0) (hd : gA S 59 43 = nI d) (hdw : d + w ≤ 40) (hf : gA S 59 43 + nI w ≤ 40) (hN0 : ¬ (gA S 59 0).toInt64 = 0) (hk : ∀ n, (lkM S (sdM s (n + 1))).toNatClampNeg < 8) (hki : ∀ n, lkM S (sdM s (n + 1)) = nI (lkM S (sdM s (n + 1))).toNatClampNeg) : CTe E i_X9_lots S [.ref (eA E 58), .int (nI w), .int s] (sA S 59 (loW S s d w)) (some (.int (gaR (sA S 59 (loW S s d w)) (nM (sA S 59 (loW S s d w)))))) := by
  refine ct_of [(0, .ref (eA E 58)), (1, .int (nI w)), (2, .int s)] (by decide +kernel) (Nat.le_of_ble_eq_true rfl) rfl (fun X hM => ?_)
  refine g_iload_n (pc := 0) dX9_lots_0 1 rfl rfl ?_
  refine g_i2l (pc := 1) dX9_lots_1 ?_
  refine g_lconst (pc := 2) (v := 1) dX9_lots_2 (by decide) ?_
  refine g_ldc2 (pc := 3) kw_X9_235 dX9_lots_3 ?_
  refine g_invS (pc := 6) j_X9_in mw_X9_62 dX9_lots_6 (by rfl) (c_X9_in E S ((nI w).toInt64) 1 20 ) (Nat.le_of_ble_eq_true rfl) (Nat.le_of_ble_eq_true rfl) (by rfl) (Nat.le_of_ble_eq_true rfl) ?_
  refine g_b_eq (pc := 9) (tgt := 24) dX9_lots_9 (by decide) (fun c_9 => ?_) (fun c_9 => ?_)
  · exact absurd (h.1.symm.trans c_9) (by decide)
  · refine g_iload_n (pc := 12) dX9_lots_12 2 rfl rfl ?_
    refine g_i2l (pc := 13) dX9_lots_13 ?_
    refine g_lconst (pc := 14) (v := 1) dX9_lots_14 (by decide) ?_
    refine g_ldc2 (pc := 15) kw_X9_237 dX9_lots_15 ?_
    refine g_invS (pc := 18) j_X9_in mw_X9_62 dX9_lots_18 (by rfl) (c_X9_in E S s.toInt64 1 2147483646 ) (Nat.le_of_ble_eq_true rfl) (Nat.le_of_ble_eq_true rfl) (by rfl) (Nat.le_of_ble_eq_true rfl) ?_
    refine g_b_ne (pc := 21) (tgt := 26) dX9_lots_21 (by decide) (fun c_21 => ?_) (fun c_21 => ?_)
    · refine g_aload_n (pc := 26) dX9_lots_26 0 rfl rfl ?_
      refine gf_X9_7 (pc := 27) rfl dX9_lots_27 ?_
      refine g_iconst (pc := 30) (v := 0) dX9_lots_30 (by decide) ?_
      refine g_iald (pc := 31) 0 rfl rfl (by decide) (by decide) dX9_lots_31 ?_
      refine g_if_ne (pc := 32) (tgt := 38) dX9_lots_32 (by decide) (fun c_32 => ?_) (fun c_32 => ?_)
      · refine g_aload_n (pc := 38) dX9_lots_38 0 rfl rfl ?_
        refine gf_X9_7 (pc := 39) rfl dX9_lots_39 ?_
        refine g_bipush (pc := 42) (v := 43) dX9_lots_42 (by decide) ?_
        refine g_iald (pc := 44) 43 rfl rfl (by decide) (by decide) dX9_lots_44 ?_
        refine g_iload_n (pc := 45) dX9_lots_45 1 rfl rfl ?_
        refine g_iadd (pc := 46) dX9_lots_46 ?_
        refine g_bipush (pc := 47) (v := 40) dX9_lots_47 (by decide) ?_
        refine g_icmp_le (pc := 49) (tgt := 55) dX9_lots_49 (by decide) (fun c_49 => ?_) (fun c_49 => ?_)
        · have k_49 := Int32.not_lt.mpr c_49
          refine g_iload_n (pc := 55) dX9_lots_55 2 rfl rfl ?_
          refine g_i2l (pc := 56) dX9_lots_56 ?_
          refine g_lstore_n (pc := 57) (L' := [(3, .long s.toInt64), (0, .ref (eA E 58)), (1, .int (nI w)), (2, .int s)]) dX9_lots_57 rfl (Nat.le_of_ble_eq_true rfl) rfl ?_
          refine g_iconst (pc := 58) (v := 0) dX9_lots_58 (by decide) ?_
          refine g_istore (pc := 59) (L' := [(5, .int 0), (3, .long s.toInt64), (0, .ref (eA E 58)), (1, .int (nI w)), (2, .int s)]) dX9_lots_59 (Nat.le_of_ble_eq_true rfl) rfl ?_
          have H_61 : ∀ n : Nat, n ≤ w → G E X i_X9_lots (sA S 59 (loW S s d n)) 61 [(0, .ref (eA E 58)), (1, .int (nI w)), (2, .int s), (3, .long (sdM s n)), (5, .int (nI n))] [] := by
            refine dn_ind w (fun n hn_61 ih_61 => ?_)
            refine g_iload (pc := 61) dX9_lots_61 4 rfl ?_
            refine g_iload_n (pc := 63) dX9_lots_63 1 rfl rfl ?_
            refine g_icmp_ge (pc := 64) (tgt := 182) dX9_lots_64 (by decide) (fun c_64 => ?_) (fun c_64 => ?_)
            · have k_64 := Int32.not_lt.mpr c_64
              have he_61 : n = w := Nat.le_antisymm hn_61 (by exact nle_of (N := w) rfl rfl (by omega) (by omega) c_64)
              rw [he_61]
              refine g_aload_n (pc := 182) dX9_lots_182 0 rfl rfl ?_
              refine g_invV (pc := 183) j_X9_glowAll mw_X9_149 dX9_lots_183 (rcv_X9) (by rfl) (c_X9_glowAll E (sA S 59 (loW S s d w)) (okM_sA hz (loW_0 w)).1) (Nat.le_of_ble_eq_true rfl) (Nat.le_of_ble_eq_true rfl) (by rfl) (Nat.le_of_ble_eq_true rfl) ?_
              exact g_iret (pc := 186) hM rfl rfl ⟨rfl, rfl⟩ dX9_lots_186
            · have k_64 := Int32.not_le.mp c_64
              have hlt_61 : n < w := by exact nlt_of (N := w) rfl rfl (by omega) (by omega) c_64
              refine g_lload_n (pc := 67) dX9_lots_67 3 rfl rfl ?_
              refine g_ldc2 (pc := 68) kw_X9_239 dX9_lots_68 ?_
              refine g_lmul (pc := 71) dX9_lots_71 ?_
              refine g_ldc2 (pc := 72) kw_X9_241 dX9_lots_72 ?_
              refine g_lrem (pc := 75) dX9_lots_75 (by decide) ?_
              rw [show ((sdM s n * 48271) - (sdM s n * 48271) / 2147483647 * 2147483647) = sdM s (n + 1) from rfl]
              refine g_lstore_n (pc := 76) (L' := [(3, .long (sdM s (n + 1))), (0, .ref (eA E 58)), (1, .int (nI w)), (2, .int s), (5, .int (nI n))]) dX9_lots_76 rfl (Nat.le_of_ble_eq_true rfl) rfl ?_
              refine g_aload_n (pc := 77) dX9_lots_77 1 rfl rfl ?_
              refine g_invN (pc := 78) j_X9_minds mw_X9_146 dX9_lots_78 (rcv_X9) (by rfl) (c_X9_minds E (sA S 59 (loW S s d n)) (d + n) ((congrFun (gA_same _ _ _) 43).trans (loW_43 hd hk n)) (by omega)) (Nat.le_of_ble_eq_true rfl) (Nat.le_of_ble_eq_true rfl) (by rfl) (Nat.le_of_ble_eq_true rfl) ?_
              rw [show sA (sA S 59 (loW S s d n)) 59 (mdF (gA (sA S 59 (loW S s d n)) 59) (d + n)) = sA S 59 (mdF (loW S s d n) (d + n)) by rw [sA_sA, gA_same]]
              have hv0 : mdF (loW S s d n) (d + n) 0 = gA S 59 0 := (mdF_lo (by omega)).trans (loW_0 n)
              refine g_lload_n (pc := 81) dX9_lots_81 0 rfl rfl ?_
              refine g_ldc2 (pc := 82) kw_X9_243 dX9_lots_82 ?_
              refine g_ldiv (pc := 85) dX9_lots_85 (by decide) ?_
              refine g_aload_n (pc := 86) dX9_lots_86 1 rfl rfl ?_
              refine gf_X9_7 (pc := 87) rfl dX9_lots_87 ?_
              refine g_iconst (pc := 90) (v := 0) dX9_lots_90 (by decide) ?_
              refine g_iald (pc := 91) 0 rfl rfl (by decide) (by decide) dX9_lots_91 ?_
              rw [show gA (sA S 59 (mdF (loW S s d n) (d + n))) 59 0 = (mdF (loW S s d n) (d + n)) 0 from congrFun (gA_same _ _ _) 0]
              rw [hv0]
              refine g_i2l (pc := 92) dX9_lots_92 ?_
              refine g_lrem (pc := 93) dX9_lots_93 hN0 ?_
              refine g_l2i (pc := 94) dX9_lots_94 ?_
              obtain ⟨k, hk8, hke⟩ : ∃ k : Nat, k < 8 ∧ k = (lkM S (sdM s (n + 1))).toNatClampNeg := ⟨_, hk n, rfl⟩
              have hkk : lkM S (sdM s (n + 1)) = nI k := (hki n).trans (congrArg nI hke.symm)
              rw [show ((sdM s (n + 1) / 8) - (sdM s (n + 1) / 8) / (gA S 59 0).toInt64 * (gA S 59 0).toInt64).toInt32 = nI k from hkk]
              refine g_istore (pc := 95) (L' := [(6, .int (nI k)), (3, .long (sdM s (n + 1))), (0, .ref (eA E 58)), (1, .int (nI w)), (2, .int s), (5, .int (nI n))]) dX9_lots_95 (Nat.le_of_ble_eq_true rfl) rfl ?_
              refine g_lload_n (pc := 97) dX9_lots_97 1 rfl rfl ?_
              refine g_ldc2 (pc := 98) kw_X9_217 dX9_lots_98 ?_
              refine g_lrem (pc := 101) dX9_lots_101 (by decide) ?_
              refine g_lconst (pc := 102) (v := 0) dX9_lots_102 (by decide) ?_
              refine g_lcmp (pc := 103) dX9_lots_103 ?_
              refine g_lc_ne (pc := 104) (tgt := 131) dX9_lots_104 (by decide) (fun c_104 => ?_) (fun c_104 => ?_)
              · refine g_lload_n (pc := 131) dX9_lots_131 1 rfl rfl ?_
                refine g_ldc2 (pc := 132) kw_X9_217 dX9_lots_132 ?_
                refine g_lrem (pc := 135) dX9_lots_135 (by decide) ?_
                refine g_lconst (pc := 136) (v := 1) dX9_lots_136 (by decide) ?_
                refine g_lcmp (pc := 137) dX9_lots_137 ?_
                refine g_lc_ne (pc := 138) (tgt := 163) dX9_lots_138 (by decide) (fun c_138 => ?_) (fun c_138 => ?_)
                · refine g_aload_n (pc := 163) dX9_lots_163 2 rfl rfl ?_
                  refine gf_X9_7 (pc := 164) rfl dX9_lots_164 ?_
                  refine g_iconst (pc := 167) (v := 2) dX9_lots_167 (by decide) ?_
                  refine g_dup2 (pc := 168) dX9_lots_168 rfl rfl ?_
                  refine g_iald (pc := 169) 2 rfl rfl (by decide) (by decide) dX9_lots_169 ?_
                  rw [show gA (sA S 59 (mdF (loW S s d n) (d + n))) 59 2 = (mdF (loW S s d n) (d + n)) 2 from congrFun (gA_same _ _ _) 2]
                  refine g_iconst (pc := 170) (v := 1) dX9_lots_170 (by decide) ?_
                  refine g_iload (pc := 171) dX9_lots_171 0 rfl ?_
                  refine g_ishl (pc := 173) dX9_lots_173 ?_
                  refine g_ixor (pc := 174) dX9_lots_174 ?_
                  refine g_iast (pc := 175) 2 rfl rfl (by decide) (by decide) dX9_lots_175 ?_
                  refine g_iinc (pc := 176) (L' := [(5, .int (nI n + 1)), (6, .int (nI k)), (3, .long (sdM s (n + 1))), (0, .ref (eA E 58)), (1, .int (nI w)), (2, .int s)]) dX9_lots_176 (k := 5) rfl (v := nI n + 1) rfl (Nat.le_of_ble_eq_true rfl) rfl ?_
                  refine g_goto (pc := 179) (tgt := 61) dX9_lots_179 (by decide) ?_
                  refine g_sub (L' := [(0, .ref (eA E 58)), (1, .int (nI w)), (2, .int s), (3, .long (sdM s (n + 1))), (5, .int (nI n + 1))]) [3, 4, 5, 2, 0] rfl ?_
                  exact g_eq (by rw [sA_sA, gA_same, show loW S s d (n + 1) = _ from rfl, loW, if_neg (fun q => c_104 q.1), if_neg c_138, hkk]) (by rw [nI_1]) rfl (ih_61 hlt_61)
                · refine g_aload_n (pc := 141) dX9_lots_141 2 rfl rfl ?_
                  refine gf_X9_7 (pc := 142) rfl dX9_lots_142 ?_
                  refine g_iconst (pc := 145) (v := 3) dX9_lots_145 (by decide) ?_
                  refine g_iload (pc := 146) dX9_lots_146 0 rfl ?_
                  refine g_iadd (pc := 148) dX9_lots_148 ?_
                  refine g_lload_n (pc := 149) dX9_lots_149 1 rfl rfl ?_
                  refine g_ldc2 (pc := 150) kw_X9_245 dX9_lots_150 ?_
                  refine g_ldiv (pc := 153) dX9_lots_153 (by decide) ?_
                  refine g_ldc2 (pc := 154) kw_X9_184 dX9_lots_154 ?_
                  refine g_lrem (pc := 157) dX9_lots_157 (by decide) ?_
                  refine g_l2i (pc := 158) dX9_lots_158 ?_
                  refine g_iast (pc := 159) (3 + k) (nI_aE rfl rfl) rfl (show 3 + k < 1776 by omega) (by decide) dX9_lots_159 ?_
                  refine g_goto (pc := 160) (tgt := 176) dX9_lots_160 (by decide) ?_
                  refine g_iinc (pc := 176) (L' := [(5, .int (nI n + 1)), (6, .int (nI k)), (3, .long (sdM s (n + 1))), (0, .ref (eA E 58)), (1, .int (nI w)), (2, .int s)]) dX9_lots_176 (k := 5) rfl (v := nI n + 1) rfl (Nat.le_of_ble_eq_true rfl) rfl ?_
                  refine g_goto (pc := 179) (tgt := 61) dX9_lots_179 (by decide) ?_
                  refine g_sub (L' := [(0, .ref (eA E 58)), (1, .int (nI w)), (2, .int s), (3, .long (sdM s (n + 1))), (5, .int (nI n + 1))]) [3, 4, 5, 2, 0] rfl ?_
                  exact g_eq (by rw [sA_sA, gA_same, show loW S s d (n + 1) = _ from rfl, loW, if_neg (fun q => c_104 q.1), if_pos c_138, ← hke]) (by rw [nI_1]) rfl (ih_61 hlt_61)
              · refine g_aload_n (pc := 107) dX9_lots_107 2 rfl rfl ?_
                refine gf_X9_7 (pc := 108) rfl dX9_lots_108 ?_
                refine g_iconst (pc := 111) (v := 1) dX9_lots_111 (by decide) ?_
                refine g_iald (pc := 112) 1 rfl rfl (by decide) (by decide) dX9_lots_112 ?_
                rw [show gA (sA S 59 (mdF (loW S s d n) (d + n))) 59 1 = (mdF (loW S s d n) (d + n)) 1 from congrFun (gA_same _ _ _) 1]
                refine g_bipush (pc := 113) (v := 40) dX9_lots_113 (by decide) ?_
                refine g_icmp_ge (pc := 115) (tgt := 131) dX9_lots_115 (by decide) (fun c_115 => ?_) (fun c_115 => ?_)
                · have k_115 := Int32.not_lt.mpr c_115
                  refine g_lload_n (pc := 131) dX9_lots_131 1 rfl rfl ?_
                  refine g_ldc2 (pc := 132) kw_X9_217 dX9_lots_132 ?_
                  refine g_lrem (pc := 135) dX9_lots_135 (by decide) ?_
                  refine g_lconst (pc := 136) (v := 1) dX9_lots_136 (by decide) ?_
                  refine g_lcmp (pc := 137) dX9_lots_137 ?_
                  refine g_lc_ne (pc := 138) (tgt := 163) dX9_lots_138 (by decide) (fun c_138 => ?_) (fun c_138 => ?_)
                  · refine g_aload_n (pc := 163) dX9_lots_163 2 rfl rfl ?_
                    refine gf_X9_7 (pc := 164) rfl dX9_lots_164 ?_
                    refine g_iconst (pc := 167) (v := 2) dX9_lots_167 (by decide) ?_
                    refine g_dup2 (pc := 168) dX9_lots_168 rfl rfl ?_
                    refine g_iald (pc := 169) 2 rfl rfl (by decide) (by decide) dX9_lots_169 ?_
                    rw [show gA (sA S 59 (mdF (loW S s d n) (d + n))) 59 2 = (mdF (loW S s d n) (d + n)) 2 from congrFun (gA_same _ _ _) 2]
                    refine g_iconst (pc := 170) (v := 1) dX9_lots_170 (by decide) ?_
                    refine g_iload (pc := 171) dX9_lots_171 0 rfl ?_
                    refine g_ishl (pc := 173) dX9_lots_173 ?_
                    refine g_ixor (pc := 174) dX9_lots_174 ?_
                    refine g_iast (pc := 175) 2 rfl rfl (by decide) (by decide) dX9_lots_175 ?_
                    refine g_iinc (pc := 176) (L' := [(5, .int (nI n + 1)), (6, .int (nI k)), (3, .long (sdM s (n + 1))), (0, .ref (eA E 58)), (1, .int (nI w)), (2, .int s)]) dX9_lots_176 (k := 5) rfl (v := nI n + 1) rfl (Nat.le_of_ble_eq_true rfl) rfl ?_
                    refine g_goto (pc := 179) (tgt := 61) dX9_lots_179 (by decide) ?_
                    refine g_sub (L' := [(0, .ref (eA E 58)), (1, .int (nI w)), (2, .int s), (3, .long (sdM s (n + 1))), (5, .int (nI n + 1))]) [3, 4, 5, 2, 0] rfl ?_
                    exact g_eq (by rw [sA_sA, gA_same, show loW S s d (n + 1) = _ from rfl, loW, if_neg (fun q => k_115 q.2), if_neg c_138, hkk]) (by rw [nI_1]) rfl (ih_61 hlt_61)
                  · refine g_aload_n (pc := 141) dX9_lots_141 2 rfl rfl ?_
                    refine gf_X9_7 (pc := 142) rfl dX9_lots_142 ?_
                    refine g_iconst (pc := 145) (v := 3) dX9_lots_145 (by decide) ?_
                    refine g_iload (pc := 146) dX9_lots_146 0 rfl ?_
                    refine g_iadd (pc := 148) dX9_lots_148 ?_
                    refine g_lload_n (pc := 149) dX9_lots_149 1 rfl rfl ?_
                    refine g_ldc2 (pc := 150) kw_X9_245 dX9_lots_150 ?_
                    refine g_ldiv (pc := 153) dX9_lots_153 (by decide) ?_
                    refine g_ldc2 (pc := 154) kw_X9_184 dX9_lots_154 ?_
                    refine g_lrem (pc := 157) dX9_lots_157 (by decide) ?_
                    refine g_l2i (pc := 158) dX9_lots_158 ?_
                    refine g_iast (pc := 159) (3 + k) (nI_aE rfl rfl) rfl (show 3 + k < 1776 by omega) (by decide) dX9_lots_159 ?_
                    refine g_goto (pc := 160) (tgt := 176) dX9_lots_160 (by decide) ?_
                    refine g_iinc (pc := 176) (L' := [(5, .int (nI n + 1)), (6, .int (nI k)), (3, .long (sdM s (n + 1))), (0, .ref (eA E 58)), (1, .int (nI w)), (2, .int s)]) dX9_lots_176 (k := 5) rfl (v := nI n + 1) rfl (Nat.le_of_ble_eq_true rfl) rfl ?_
                    refine g_goto (pc := 179) (tgt := 61) dX9_lots_179 (by decide) ?_
                    refine g_sub (L' := [(0, .ref (eA E 58)), (1, .int (nI w)), (2, .int s), (3, .long (sdM s (n + 1))), (5, .int (nI n + 1))]) [3, 4, 5, 2, 0] rfl ?_
                    exact g_eq (by rw [sA_sA, gA_same, show loW S s d (n + 1) = _ from rfl, loW, if_neg (fun q => k_115 q.2), if_pos c_138, ← hke]) (by rw [nI_1]) rfl (ih_61 hlt_61)
                · have k_115 := Int32.not_le.mp c_115
                  refine g_aload_n (pc := 118) dX9_lots_118 2 rfl rfl ?_
                  refine gf_X9_7 (pc := 119) rfl dX9_lots_119 ?_
                  refine g_iconst (pc := 122) (v := 1) dX9_lots_122 (by decide) ?_
                  refine g_dup2 (pc := 123) dX9_lots_123 rfl rfl ?_
                  refine g_iald (pc := 124) 1 rfl rfl (by decide) (by decide) dX9_lots_124 ?_
                  rw [show gA (sA S 59 (mdF (loW S s d n) (d + n))) 59 1 = (mdF (loW S s d n) (d + n)) 1 from congrFun (gA_same _ _ _) 1]
                  refine g_iconst (pc := 125) (v := 1) dX9_lots_125 (by decide) ?_
                  refine g_iadd (pc := 126) dX9_lots_126 ?_
                  refine g_iast (pc := 127) 1 rfl rfl (by decide) (by decide) dX9_lots_127 ?_
                  refine g_goto (pc := 128) (tgt := 176) dX9_lots_128 (by decide) ?_
                  refine g_iinc (pc := 176) (L' := [(5, .int (nI n + 1)), (6, .int (nI k)), (3, .long (sdM s (n + 1))), (0, .ref (eA E 58)), (1, .int (nI w)), (2, .int s)]) dX9_lots_176 (k := 5) rfl (v := nI n + 1) rfl (Nat.le_of_ble_eq_true rfl) rfl ?_
                  refine g_goto (pc := 179) (tgt := 61) dX9_lots_179 (by decide) ?_
                  refine g_sub (L' := [(0, .ref (eA E 58)), (1, .int (nI w)), (2, .int s), (3, .long (sdM s (n + 1))), (5, .int (nI n + 1))]) [3, 4, 5, 2, 0] rfl ?_
                  exact g_eq (by rw [sA_sA, gA_same, show loW S s d (n + 1) = _ from rfl, loW, if_pos ⟨c_104, k_115⟩]) (by rw [nI_1]) rfl (ih_61 hlt_61)
          refine g_sub (L' := [(0, .ref (eA E 58)), (1, .int (nI w)), (2, .int s), (3, .long s.toInt64), (5, .int 0)]) [2, 3, 4, 1, 0] rfl ?_
          exact g_eq (sA_self S 59).symm rfl rfl (H_61 0 (Nat.zero_le _))
        · have k_49 := Int32.not_le.mp c_49
          exact absurd hf c_49
      · exact absurd c_32 h0
    · exact absurd (h.2.symm.trans c_21) (by decide)
