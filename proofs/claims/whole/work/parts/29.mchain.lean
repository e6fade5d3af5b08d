/-! THE REFERENCE: chain -/
def oN (S : St) (n : Nat) : Nat := (gA S 59 (19 + n)).toNatClampNeg
def tN (S : St) (n : Nat) : Nat := (gA S 59 (27 + n)).toNatClampNeg
/-- every light's two are persons -/
def okP (S : St) : Prop := ∀ n, n < nM S → (gA S 59 (19 + n) = nI (oN S n) ∧ oN S n < 6) ∧ gA S 59 (27 + n) = nI (tN S n) ∧ tN S n < 6
def aw0 (A : Nat → Int32) (b : Nat) : Nat → (Nat → Int32) | 0 => A | n + 1 => upd (aw0 A b n) n (if nI n = nI b then 0 else 1000000)
def awI (S : St) (A : Nat → Int32) : Nat → (Nat → Int32)
  | 0 => A
  | n + 1 => if (hsF (dbM S) (nI n) && decide (awI S A n (tN S n) + 1 < awI S A n (oN S n))) = true then upd (awI S A n) (oN S n) (awI S A n (tN S n) + 1) else awI S A n
def awO (S : St) (b : Nat) : Nat → (Nat → Int32) | 0 => aw0 (gA S 68) b 6 | n + 1 => awI S (awO S b n) (nM S)
def cuM (S : St) (a : Nat) (l : Nat → Nat) : Nat → Nat | 0 => a | n + 1 => tN S (l n)
def paM (F : Nat → Int32) (r : Nat) (l : Nat → Nat) : Nat → (Nat → Int32) | 0 => F | n + 1 => upd (paM F r l n) (40 * r + n) (nI (l n))
def cdM (S : St) (A : Nat → Int32) (c : Nat) (v : Int32) (j : Nat) : Bool := hsF (dbM S) (nI j) && decide (gA S 59 (19 + j) = nI c) && decide (A (tN S j) = v)

set_option maxRecDepth 100000 in
set_option maxHeartbeats 4000000 in
theorem c_X9_chain_bad (E : En) (S : St) (x y r : Int32) (h : ¬ (inF x.toInt64 0 5 = true ∧ inF y.toInt64 0 5 = true ∧ idxF 6 r = true)) : CTe E i_X9_chain S [.ref (eA E 58), .int x, .int y, .int r] S (some (.int (-1))) := by
  refine ct_of [(0, .ref (eA E 58)), (1, .int x), (2, .int y), (3, .int r)] (by decide +kernel) (Nat.le_of_ble_eq_true rfl) rfl (fun X hM => ?_)
  refine g_iload_n (pc := 0) dX9_chain_0 1 rfl rfl ?_
  refine g_i2l (pc := 1) dX9_chain_1 ?_
  refine g_lconst (pc := 2) (v := 0) dX9_chain_2 (by decide) ?_
  refine g_ldc2 (pc := 3) kw_X9_60 dX9_chain_3 ?_
  refine g_invS (pc := 6) j_X9_in mw_X9_62 dX9_chain_6 (by rfl) (c_X9_in E S x.toInt64 0 5 ) (Nat.le_of_ble_eq_true rfl) (Nat.le_of_ble_eq_true rfl) (by rfl) (Nat.le_of_ble_eq_true rfl) ?_
  refine g_b_eq (pc := 9) (tgt := 31) dX9_chain_9 (by decide) (fun c_9 => ?_) (fun c_9 => ?_)
  · refine g_iconst (pc := 31) (v := -1) dX9_chain_31 (by decide) ?_
    exact g_iret (pc := 32) hM rfl rfl ⟨rfl, rfl⟩ dX9_chain_32
  · refine g_iload_n (pc := 12) dX9_chain_12 2 rfl rfl ?_
    refine g_i2l (pc := 13) dX9_chain_13 ?_
    refine g_lconst (pc := 14) (v := 0) dX9_chain_14 (by decide) ?_
    refine g_ldc2 (pc := 15) kw_X9_60 dX9_chain_15 ?_
    refine g_invS (pc := 18) j_X9_in mw_X9_62 dX9_chain_18 (by rfl) (c_X9_in E S y.toInt64 0 5 ) (Nat.le_of_ble_eq_true rfl) (Nat.le_of_ble_eq_true rfl) (by rfl) (Nat.le_of_ble_eq_true rfl) ?_
    refine g_b_eq (pc := 21) (tgt := 31) dX9_chain_21 (by decide) (fun c_21 => ?_) (fun c_21 => ?_)
    · refine g_iconst (pc := 31) (v := -1) dX9_chain_31 (by decide) ?_
      exact g_iret (pc := 32) hM rfl rfl ⟨rfl, rfl⟩ dX9_chain_32
    · refine g_iload_n (pc := 24) dX9_chain_24 3 rfl rfl ?_
      refine g_invS (pc := 25) j_X9_isRow mw_X9_70 dX9_chain_25 (by rfl) (c_X9_isRow E S r ) (Nat.le_of_ble_eq_true rfl) (Nat.le_of_ble_eq_true rfl) (by rfl) (Nat.le_of_ble_eq_true rfl) ?_
      refine g_b_ne (pc := 28) (tgt := 33) dX9_chain_28 (by decide) (fun c_28 => ?_) (fun c_28 => ?_)
      · exact absurd ⟨c_9, c_21, c_28⟩ h
      · refine g_iconst (pc := 31) (v := -1) dX9_chain_31 (by decide) ?_
        exact g_iret (pc := 32) hM rfl rfl ⟨rfl, rfl⟩ dX9_chain_32
set_option maxRecDepth 100000 in
set_option maxHeartbeats 4000000 in
theorem c_X9_chain_no (E : En) (S : St) (a b r : Nat) (hz : okM S) (hP : okP S) (ha : a < 6) (hb : b < 6) (hr6 : r < 6) (hr : (inF (nI a).toInt64 0 5 = true ∧ inF (nI b).toInt64 0 5 = true ∧ idxF 6 (nI r) = true)) (h : 1000000 ≤ awO S b 6 a) : CTe E i_X9_chain S [.ref (eA E 58), .int (nI a), .int (nI b), .int (nI r)] (sA S 68 (awO S b 6)) (some (.int (-9))) := by
  have hz8 := hz.2
  refine ct_of [(0, .ref (eA E 58)), (1, .int (nI a)), (2, .int (nI b)), (3, .int (nI r))] (by decide +kernel) (Nat.le_of_ble_eq_true rfl) rfl (fun X hM => ?_)
  refine g_iload_n (pc := 0) dX9_chain_0 1 rfl rfl ?_
  refine g_i2l (pc := 1) dX9_chain_1 ?_
  refine g_lconst (pc := 2) (v := 0) dX9_chain_2 (by decide) ?_
  refine g_ldc2 (pc := 3) kw_X9_60 dX9_chain_3 ?_
  refine g_invS (pc := 6) j_X9_in mw_X9_62 dX9_chain_6 (by rfl) (c_X9_in E S ((nI a).toInt64) 0 5 ) (Nat.le_of_ble_eq_true rfl) (Nat.le_of_ble_eq_true rfl) (by rfl) (Nat.le_of_ble_eq_true rfl) ?_
  refine g_b_eq (pc := 9) (tgt := 31) dX9_chain_9 (by decide) (fun c_9 => ?_) (fun c_9 => ?_)
  · exact absurd (hr.1.symm.trans c_9) (by decide)
  · refine g_iload_n (pc := 12) dX9_chain_12 2 rfl rfl ?_
    refine g_i2l (pc := 13) dX9_chain_13 ?_
    refine g_lconst (pc := 14) (v := 0) dX9_chain_14 (by decide) ?_
    refine g_ldc2 (pc := 15) kw_X9_60 dX9_chain_15 ?_
    refine g_invS (pc := 18) j_X9_in mw_X9_62 dX9_chain_18 (by rfl) (c_X9_in E S ((nI b).toInt64) 0 5 ) (Nat.le_of_ble_eq_true rfl) (Nat.le_of_ble_eq_true rfl) (by rfl) (Nat.le_of_ble_eq_true rfl) ?_
    refine g_b_eq (pc := 21) (tgt := 31) dX9_chain_21 (by decide) (fun c_21 => ?_) (fun c_21 => ?_)
    · exact absurd (hr.2.1.symm.trans c_21) (by decide)
    · refine g_iload_n (pc := 24) dX9_chain_24 3 rfl rfl ?_
      refine g_invS (pc := 25) j_X9_isRow mw_X9_70 dX9_chain_25 (by rfl) (c_X9_isRow E S (nI r) ) (Nat.le_of_ble_eq_true rfl) (Nat.le_of_ble_eq_true rfl) (by rfl) (Nat.le_of_ble_eq_true rfl) ?_
      refine g_b_ne (pc := 28) (tgt := 33) dX9_chain_28 (by decide) (fun c_28 => ?_) (fun c_28 => ?_)
      · refine g_aload_n (pc := 33) dX9_chain_33 0 rfl rfl ?_
        refine g_invV (pc := 34) j_X9_debts mw_X9_189 dX9_chain_34 (rcv_X9) (by rfl) (c_X9_debts E S (by first | assumption | omega | rfl)) (Nat.le_of_ble_eq_true rfl) (Nat.le_of_ble_eq_true rfl) (by rfl) (Nat.le_of_ble_eq_true rfl) ?_
        refine g_istore (pc := 37) (L' := [(4, .int (dbM S)), (0, .ref (eA E 58)), (1, .int (nI a)), (2, .int (nI b)), (3, .int (nI r))]) dX9_chain_37 (Nat.le_of_ble_eq_true rfl) rfl ?_
        refine g_iconst (pc := 39) (v := 0) dX9_chain_39 (by decide) ?_
        refine g_istore (pc := 40) (L' := [(5, .int 0), (4, .int (dbM S)), (0, .ref (eA E 58)), (1, .int (nI a)), (2, .int (nI b)), (3, .int (nI r))]) dX9_chain_40 (Nat.le_of_ble_eq_true rfl) rfl ?_
        have H_42 : ∀ n : Nat, n ≤ 6 → G E X i_X9_chain (sA S 68 (aw0 (gA S 68) b n)) 42 [(0, .ref (eA E 58)), (1, .int (nI a)), (2, .int (nI b)), (3, .int (nI r)), (4, .int (dbM S)), (5, .int (nI n))] [] := by
          refine dn_ind 6 (fun n hn_42 ih_42 => ?_)
          refine g_iload (pc := 42) dX9_chain_42 5 rfl ?_
          refine g_bipush (pc := 44) (v := 6) dX9_chain_44 (by decide) ?_
          refine g_icmp_ge (pc := 46) (tgt := 74) dX9_chain_46 (by decide) (fun c_46 => ?_) (fun c_46 => ?_)
          · have k_46 := Int32.not_lt.mpr c_46
            have he_42 : n = 6 := Nat.le_antisymm hn_42 (by exact nle_of (N := 6) rfl rfl (by omega) (by omega) c_46)
            rw [he_42]
            refine g_iconst (pc := 74) (v := 0) dX9_chain_74 (by decide) ?_
            refine g_istore (pc := 75) (L' := [(5, .int 0), (0, .ref (eA E 58)), (1, .int (nI a)), (2, .int (nI b)), (3, .int (nI r)), (4, .int (dbM S))]) dX9_chain_75 (Nat.le_of_ble_eq_true rfl) rfl ?_
            have H_77 : ∀ n : Nat, n ≤ 6 → G E X i_X9_chain (sA S 68 (awO S b n)) 77 [(0, .ref (eA E 58)), (1, .int (nI a)), (2, .int (nI b)), (3, .int (nI r)), (4, .int (dbM S)), (5, .int (nI n))] [] := by
              refine dn_ind 6 (fun n hn_77 ih_77 => ?_)
              refine g_iload (pc := 77) dX9_chain_77 5 rfl ?_
              refine g_bipush (pc := 79) (v := 6) dX9_chain_79 (by decide) ?_
              refine g_icmp_ge (pc := 81) (tgt := 187) dX9_chain_81 (by decide) (fun c_81 => ?_) (fun c_81 => ?_)
              · have k_81 := Int32.not_lt.mpr c_81
                have he_77 : n = 6 := Nat.le_antisymm hn_77 (by exact nle_of (N := 6) rfl rfl (by omega) (by omega) c_81)
                rw [he_77]
                refine g_aload_n (pc := 187) dX9_chain_187 0 rfl rfl ?_
                refine gf_X9_41 (pc := 188) rfl dX9_chain_188 ?_
                refine g_iload_n (pc := 191) dX9_chain_191 1 rfl rfl ?_
                refine g_iald (pc := 192) a rfl rfl (show a < 6 by omega) (by decide) dX9_chain_192 ?_
                rw [show gA (sA S 68 (awO S b 6)) 68 a = (awO S b 6) a from congrFun (gA_same _ _ _) a]
                refine g_ldc (pc := 193) kw_X9_183 dX9_chain_193 ?_
                refine g_icmp_lt (pc := 195) (tgt := 201) dX9_chain_195 (by decide) (fun c_195 => ?_) (fun c_195 => ?_)
                · have k_195 := Int32.not_le.mpr c_195
                  exact absurd h (Int32.not_le.mpr c_195)
                · have k_195 := Int32.not_lt.mp c_195
                  refine g_bipush (pc := 198) (v := -9) dX9_chain_198 (by decide) ?_
                  exact g_iret (pc := 200) hM rfl rfl ⟨rfl, rfl⟩ dX9_chain_200
              · have k_81 := Int32.not_le.mp c_81
                have hlt_77 : n < 6 := by exact nlt_of (N := 6) rfl rfl (by omega) (by omega) c_81
                refine g_iconst (pc := 84) (v := 0) dX9_chain_84 (by decide) ?_
                refine g_istore (pc := 85) (L' := [(6, .int 0), (0, .ref (eA E 58)), (1, .int (nI a)), (2, .int (nI b)), (3, .int (nI r)), (4, .int (dbM S)), (5, .int (nI n))]) dX9_chain_85 (Nat.le_of_ble_eq_true rfl) rfl ?_
                have H_87 : ∀ j : Nat, j ≤ (nM S) → G E X i_X9_chain (sA S 68 (awI S (awO S b n) j)) 87 [(0, .ref (eA E 58)), (1, .int (nI a)), (2, .int (nI b)), (3, .int (nI r)), (4, .int (dbM S)), (5, .int (nI n)), (6, .int (nI j))] [] := by
                  refine dn_ind (nM S) (fun j hn_87 ih_87 => ?_)
                  refine g_iload (pc := 87) dX9_chain_87 6 rfl ?_
                  refine g_aload_n (pc := 89) dX9_chain_89 0 rfl rfl ?_
                  refine gf_X9_7 (pc := 90) rfl dX9_chain_90 ?_
                  refine g_iconst (pc := 93) (v := 0) dX9_chain_93 (by decide) ?_
                  refine g_iald (pc := 94) 0 rfl rfl (by decide) (by decide) dX9_chain_94 ?_
                  rw [show gA (sA S 68 (awI S (awO S b n) j)) 59 0 = (gA S 59) 0 from congrFun (rfl) 0]
                  refine g_icmp_ge (pc := 95) (tgt := 181) dX9_chain_95 (by decide) (fun c_95 => ?_) (fun c_95 => ?_)
                  · have k_95 := Int32.not_lt.mpr c_95
                    have he_87 : j = (nM S) := Nat.le_antisymm hn_87 (by exact nle_of (N := nM S) rfl hz.1 (by omega) (by omega) c_95)
                    rw [he_87]
                    refine g_iinc (pc := 181) (L' := [(5, .int (nI n + 1)), (0, .ref (eA E 58)), (1, .int (nI a)), (2, .int (nI b)), (3, .int (nI r)), (4, .int (dbM S)), (6, .int (nI (nM S)))]) dX9_chain_181 (k := 5) rfl (v := nI n + 1) rfl (Nat.le_of_ble_eq_true rfl) rfl ?_
                    refine g_goto (pc := 184) (tgt := 77) dX9_chain_184 (by decide) ?_
                    refine g_sub (L' := [(0, .ref (eA E 58)), (1, .int (nI a)), (2, .int (nI b)), (3, .int (nI r)), (4, .int (dbM S)), (5, .int (nI n + 1))]) [1, 2, 3, 4, 5, 0] rfl ?_
                    exact g_eq rfl (by rw [nI_1]) rfl (ih_77 hlt_77)
                  · have k_95 := Int32.not_le.mp c_95
                    have hlt_87 : j < (nM S) := by exact nlt_of (N := nM S) rfl hz.1 (by omega) (by omega) c_95
                    obtain ⟨⟨ho, ho6⟩, ht, ht6⟩ := hP j hlt_87
                    refine g_iload (pc := 98) dX9_chain_98 4 rfl ?_
                    refine g_iload (pc := 100) dX9_chain_100 6 rfl ?_
                    refine g_invS (pc := 102) j_X9_has mw_X9_143 dX9_chain_102 (by rfl) (c_X9_has E (sA S 68 (awI S (awO S b n) j)) (dbM S) (nI j) ) (Nat.le_of_ble_eq_true rfl) (Nat.le_of_ble_eq_true rfl) (by rfl) (Nat.le_of_ble_eq_true rfl) ?_
                    refine g_b_eq (pc := 105) (tgt := 175) dX9_chain_105 (by decide) (fun c_105 => ?_) (fun c_105 => ?_)
                    · refine g_iinc (pc := 175) (L' := [(6, .int (nI j + 1)), (0, .ref (eA E 58)), (1, .int (nI a)), (2, .int (nI b)), (3, .int (nI r)), (4, .int (dbM S)), (5, .int (nI n))]) dX9_chain_175 (k := 6) rfl (v := nI j + 1) rfl (Nat.le_of_ble_eq_true rfl) rfl ?_
                      refine g_goto (pc := 178) (tgt := 87) dX9_chain_178 (by decide) ?_
                      refine g_sub (L' := [(0, .ref (eA E 58)), (1, .int (nI a)), (2, .int (nI b)), (3, .int (nI r)), (4, .int (dbM S)), (5, .int (nI n)), (6, .int (nI j + 1))]) [1, 2, 3, 4, 5, 6, 0] rfl ?_
                      exact g_eq (by rw [show awI S (awO S b n) (j + 1) = _ from rfl, awI, if_neg (by rw [c_105, Bool.false_and]; decide)]) (by rw [nI_1]) rfl (ih_87 hlt_87)
                    · refine g_aload_n (pc := 108) dX9_chain_108 0 rfl rfl ?_
                      refine gf_X9_41 (pc := 109) rfl dX9_chain_109 ?_
                      refine g_aload_n (pc := 112) dX9_chain_112 0 rfl rfl ?_
                      refine gf_X9_7 (pc := 113) rfl dX9_chain_113 ?_
                      refine g_bipush (pc := 116) (v := 27) dX9_chain_116 (by decide) ?_
                      refine g_iload (pc := 118) dX9_chain_118 6 rfl ?_
                      refine g_iadd (pc := 120) dX9_chain_120 ?_
                      refine g_iald (pc := 121) (27 + j) (nI_aE rfl rfl) rfl (show 27 + j < 1776 by omega) (by decide) dX9_chain_121 ?_
                      rw [show gA (sA S 68 (awI S (awO S b n) j)) 59 (27 + j) = (gA S 59) (27 + j) from congrFun (rfl) (27 + j)]
                      refine g_iald (pc := 122) (tN S j) ht rfl (show tN S j < 6 by omega) (by decide) dX9_chain_122 ?_
                      rw [show gA (sA S 68 (awI S (awO S b n) j)) 68 (tN S j) = (awI S (awO S b n) j) (tN S j) from congrFun (gA_same _ _ _) (tN S j)]
                      refine g_iconst (pc := 123) (v := 1) dX9_chain_123 (by decide) ?_
                      refine g_iadd (pc := 124) dX9_chain_124 ?_
                      refine g_aload_n (pc := 125) dX9_chain_125 0 rfl rfl ?_
                      refine gf_X9_41 (pc := 126) rfl dX9_chain_126 ?_
                      refine g_aload_n (pc := 129) dX9_chain_129 0 rfl rfl ?_
                      refine gf_X9_7 (pc := 130) rfl dX9_chain_130 ?_
                      refine g_bipush (pc := 133) (v := 19) dX9_chain_133 (by decide) ?_
                      refine g_iload (pc := 135) dX9_chain_135 6 rfl ?_
                      refine g_iadd (pc := 137) dX9_chain_137 ?_
                      refine g_iald (pc := 138) (19 + j) (nI_aE rfl rfl) rfl (show 19 + j < 1776 by omega) (by decide) dX9_chain_138 ?_
                      rw [show gA (sA S 68 (awI S (awO S b n) j)) 59 (19 + j) = (gA S 59) (19 + j) from congrFun (rfl) (19 + j)]
                      refine g_iald (pc := 139) (oN S j) ho rfl (show oN S j < 6 by omega) (by decide) dX9_chain_139 ?_
                      rw [show gA (sA S 68 (awI S (awO S b n) j)) 68 (oN S j) = (awI S (awO S b n) j) (oN S j) from congrFun (gA_same _ _ _) (oN S j)]
                      refine g_icmp_ge (pc := 140) (tgt := 175) dX9_chain_140 (by decide) (fun c_140 => ?_) (fun c_140 => ?_)
                      · have k_140 := Int32.not_lt.mpr c_140
                        refine g_iinc (pc := 175) (L' := [(6, .int (nI j + 1)), (0, .ref (eA E 58)), (1, .int (nI a)), (2, .int (nI b)), (3, .int (nI r)), (4, .int (dbM S)), (5, .int (nI n))]) dX9_chain_175 (k := 6) rfl (v := nI j + 1) rfl (Nat.le_of_ble_eq_true rfl) rfl ?_
                        refine g_goto (pc := 178) (tgt := 87) dX9_chain_178 (by decide) ?_
                        refine g_sub (L' := [(0, .ref (eA E 58)), (1, .int (nI a)), (2, .int (nI b)), (3, .int (nI r)), (4, .int (dbM S)), (5, .int (nI n)), (6, .int (nI j + 1))]) [1, 2, 3, 4, 5, 6, 0] rfl ?_
                        exact g_eq (by rw [show awI S (awO S b n) (j + 1) = _ from rfl, awI, if_neg (by rw [decide_eq_false k_140, Bool.and_false]; decide)]) (by rw [nI_1]) rfl (ih_87 hlt_87)
                      · have k_140 := Int32.not_le.mp c_140
                        refine g_aload_n (pc := 143) dX9_chain_143 0 rfl rfl ?_
                        refine gf_X9_41 (pc := 144) rfl dX9_chain_144 ?_
                        refine g_aload_n (pc := 147) dX9_chain_147 0 rfl rfl ?_
                        refine gf_X9_7 (pc := 148) rfl dX9_chain_148 ?_
                        refine g_bipush (pc := 151) (v := 19) dX9_chain_151 (by decide) ?_
                        refine g_iload (pc := 153) dX9_chain_153 6 rfl ?_
                        refine g_iadd (pc := 155) dX9_chain_155 ?_
                        refine g_iald (pc := 156) (19 + j) (nI_aE rfl rfl) rfl (show 19 + j < 1776 by omega) (by decide) dX9_chain_156 ?_
                        rw [show gA (sA S 68 (awI S (awO S b n) j)) 59 (19 + j) = (gA S 59) (19 + j) from congrFun (rfl) (19 + j)]
                        refine g_aload_n (pc := 157) dX9_chain_157 0 rfl rfl ?_
                        refine gf_X9_41 (pc := 158) rfl dX9_chain_158 ?_
                        refine g_aload_n (pc := 161) dX9_chain_161 0 rfl rfl ?_
                        refine gf_X9_7 (pc := 162) rfl dX9_chain_162 ?_
                        refine g_bipush (pc := 165) (v := 27) dX9_chain_165 (by decide) ?_
                        refine g_iload (pc := 167) dX9_chain_167 6 rfl ?_
                        refine g_iadd (pc := 169) dX9_chain_169 ?_
                        refine g_iald (pc := 170) (27 + j) (nI_aE rfl rfl) rfl (show 27 + j < 1776 by omega) (by decide) dX9_chain_170 ?_
                        rw [show gA (sA S 68 (awI S (awO S b n) j)) 59 (27 + j) = (gA S 59) (27 + j) from congrFun (rfl) (27 + j)]
                        refine g_iald (pc := 171) (tN S j) ht rfl (show tN S j < 6 by omega) (by decide) dX9_chain_171 ?_
                        rw [show gA (sA S 68 (awI S (awO S b n) j)) 68 (tN S j) = (awI S (awO S b n) j) (tN S j) from congrFun (gA_same _ _ _) (tN S j)]
                        refine g_iconst (pc := 172) (v := 1) dX9_chain_172 (by decide) ?_
                        refine g_iadd (pc := 173) dX9_chain_173 ?_
                        refine g_iast (pc := 174) (oN S j) ho rfl (show oN S j < 6 by omega) (by decide) dX9_chain_174 ?_
                        refine g_iinc (pc := 175) (L' := [(6, .int (nI j + 1)), (0, .ref (eA E 58)), (1, .int (nI a)), (2, .int (nI b)), (3, .int (nI r)), (4, .int (dbM S)), (5, .int (nI n))]) dX9_chain_175 (k := 6) rfl (v := nI j + 1) rfl (Nat.le_of_ble_eq_true rfl) rfl ?_
                        refine g_goto (pc := 178) (tgt := 87) dX9_chain_178 (by decide) ?_
                        refine g_sub (L' := [(0, .ref (eA E 58)), (1, .int (nI a)), (2, .int (nI b)), (3, .int (nI r)), (4, .int (dbM S)), (5, .int (nI n)), (6, .int (nI j + 1))]) [1, 2, 3, 4, 5, 6, 0] rfl ?_
                        exact g_eq (by rw [sA_sA, gA_same, show awI S (awO S b n) (j + 1) = _ from rfl, awI, if_pos (by rw [c_105, decide_eq_true k_140]; rfl)]) (by rw [nI_1]) rfl (ih_87 hlt_87)
                refine g_sub (L' := [(0, .ref (eA E 58)), (1, .int (nI a)), (2, .int (nI b)), (3, .int (nI r)), (4, .int (dbM S)), (5, .int (nI n)), (6, .int 0)]) [1, 2, 3, 4, 5, 6, 0] rfl ?_
                exact g_eq rfl rfl rfl (H_87 0 (Nat.zero_le _))
            refine g_sub (L' := [(0, .ref (eA E 58)), (1, .int (nI a)), (2, .int (nI b)), (3, .int (nI r)), (4, .int (dbM S)), (5, .int 0)]) [1, 2, 3, 4, 5, 0] rfl ?_
            exact g_eq rfl rfl rfl (H_77 0 (Nat.zero_le _))
          · have k_46 := Int32.not_le.mp c_46
            have hlt_42 : n < 6 := by exact nlt_of (N := 6) rfl rfl (by omega) (by omega) c_46
            refine g_aload_n (pc := 49) dX9_chain_49 0 rfl rfl ?_
            refine gf_X9_41 (pc := 50) rfl dX9_chain_50 ?_
            refine g_iload (pc := 53) dX9_chain_53 5 rfl ?_
            refine g_iload (pc := 55) dX9_chain_55 5 rfl ?_
            refine g_iload_n (pc := 57) dX9_chain_57 2 rfl rfl ?_
            refine g_icmp_ne (pc := 58) (tgt := 65) dX9_chain_58 (by decide) (fun c_58 => ?_) (fun c_58 => ?_)
            · refine g_ldc (pc := 65) kw_X9_183 dX9_chain_65 ?_
              refine g_iast (pc := 67) n rfl rfl (show n < 6 by omega) (by decide) dX9_chain_67 ?_
              refine g_iinc (pc := 68) (L' := [(5, .int (nI n + 1)), (0, .ref (eA E 58)), (1, .int (nI a)), (2, .int (nI b)), (3, .int (nI r)), (4, .int (dbM S))]) dX9_chain_68 (k := 5) rfl (v := nI n + 1) rfl (Nat.le_of_ble_eq_true rfl) rfl ?_
              refine g_goto (pc := 71) (tgt := 42) dX9_chain_71 (by decide) ?_
              refine g_sub (L' := [(0, .ref (eA E 58)), (1, .int (nI a)), (2, .int (nI b)), (3, .int (nI r)), (4, .int (dbM S)), (5, .int (nI n + 1))]) [1, 2, 3, 4, 5, 0] rfl ?_
              exact g_eq (by rw [sA_sA, gA_same, show aw0 (gA S 68) b (n + 1) = _ from rfl, aw0, if_neg c_58]) (by rw [nI_1]) rfl (ih_42 hlt_42)
            · refine g_iconst (pc := 61) (v := 0) dX9_chain_61 (by decide) ?_
              refine g_goto (pc := 62) (tgt := 67) dX9_chain_62 (by decide) ?_
              refine g_iast (pc := 67) n rfl rfl (show n < 6 by omega) (by decide) dX9_chain_67 ?_
              refine g_iinc (pc := 68) (L' := [(5, .int (nI n + 1)), (0, .ref (eA E 58)), (1, .int (nI a)), (2, .int (nI b)), (3, .int (nI r)), (4, .int (dbM S))]) dX9_chain_68 (k := 5) rfl (v := nI n + 1) rfl (Nat.le_of_ble_eq_true rfl) rfl ?_
              refine g_goto (pc := 71) (tgt := 42) dX9_chain_71 (by decide) ?_
              refine g_sub (L' := [(0, .ref (eA E 58)), (1, .int (nI a)), (2, .int (nI b)), (3, .int (nI r)), (4, .int (dbM S)), (5, .int (nI n + 1))]) [1, 2, 3, 4, 5, 0] rfl ?_
              exact g_eq (by rw [sA_sA, gA_same, show aw0 (gA S 68) b (n + 1) = _ from rfl, aw0, if_pos c_58]) (by rw [nI_1]) rfl (ih_42 hlt_42)
        refine g_sub (L' := [(0, .ref (eA E 58)), (1, .int (nI a)), (2, .int (nI b)), (3, .int (nI r)), (4, .int (dbM S)), (5, .int 0)]) [2, 3, 4, 5, 1, 0] rfl ?_
        exact g_eq (sA_self S 68).symm rfl rfl (H_42 0 (Nat.zero_le _))
      · exact absurd (hr.2.2.symm.trans c_28) (by decide)
theorem nI_lt1e6 {d : Nat} (h : d ≤ 5) : nI d < 1000000 := (nI_ltI (b := 1000000) (by omega) (by omega)).mpr (by omega)
def chU (S : St) (b r d : Nat) : St := sA (sA (sA S 68 (awO S b 6)) 60 (upd (gA S 60) r (nI d))) 61 (fllF (gA S 61) (40 * r) 0 40)
set_option maxRecDepth 100000 in
set_option maxHeartbeats 4000000 in
theorem c_X9_chain_ok (E : En) (S : St) (a b r d : Nat) (l : Nat → Nat) (hz : okM S) (hP : okP S) (ha : a < 6) (hb : b < 6) (hr6 : r < 6) (hr : (inF (nI a).toInt64 0 5 = true ∧ inF (nI b).toInt64 0 5 = true ∧ idxF 6 (nI r) = true)) (hd : awO S b 6 a = nI d) (hd5 : d ≤ 5) (hl : ∀ n, n < d → l n < nM S ∧ cdM S (awO S b 6) (cuM S a l n) (nI d - nI n - 1) (l n) = true ∧ ∀ j, j < l n → cdM S (awO S b 6) (cuM S a l n) (nI d - nI n - 1) j = false) : CTe E i_X9_chain S [.ref (eA E 58), .int (nI a), .int (nI b), .int (nI r)] (sA (chU S b r d) 61 (paM (fllF (gA S 61) (40 * r) 0 40) r l d)) (some (.int (nI d))) := by
  have hz8 := hz.2
  refine ct_of [(0, .ref (eA E 58)), (1, .int (nI a)), (2, .int (nI b)), (3, .int (nI r))] (by decide +kernel) (Nat.le_of_ble_eq_true rfl) rfl (fun X hM => ?_)
  refine g_iload_n (pc := 0) dX9_chain_0 1 rfl rfl ?_
  refine g_i2l (pc := 1) dX9_chain_1 ?_
  refine g_lconst (pc := 2) (v := 0) dX9_chain_2 (by decide) ?_
  refine g_ldc2 (pc := 3) kw_X9_60 dX9_chain_3 ?_
  refine g_invS (pc := 6) j_X9_in mw_X9_62 dX9_chain_6 (by rfl) (c_X9_in E S ((nI a).toInt64) 0 5 ) (Nat.le_of_ble_eq_true rfl) (Nat.le_of_ble_eq_true rfl) (by rfl) (Nat.le_of_ble_eq_true rfl) ?_
  refine g_b_eq (pc := 9) (tgt := 31) dX9_chain_9 (by decide) (fun c_9 => ?_) (fun c_9 => ?_)
  · exact absurd (hr.1.symm.trans c_9) (by decide)
  · refine g_iload_n (pc := 12) dX9_chain_12 2 rfl rfl ?_
    refine g_i2l (pc := 13) dX9_chain_13 ?_
    refine g_lconst (pc := 14) (v := 0) dX9_chain_14 (by decide) ?_
    refine g_ldc2 (pc := 15) kw_X9_60 dX9_chain_15 ?_
    refine g_invS (pc := 18) j_X9_in mw_X9_62 dX9_chain_18 (by rfl) (c_X9_in E S ((nI b).toInt64) 0 5 ) (Nat.le_of_ble_eq_true rfl) (Nat.le_of_ble_eq_true rfl) (by rfl) (Nat.le_of_ble_eq_true rfl) ?_
    refine g_b_eq (pc := 21) (tgt := 31) dX9_chain_21 (by decide) (fun c_21 => ?_) (fun c_21 => ?_)
    · exact absurd (hr.2.1.symm.trans c_21) (by decide)
    · refine g_iload_n (pc := 24) dX9_chain_24 3 rfl rfl ?_
      refine g_invS (pc := 25) j_X9_isRow mw_X9_70 dX9_chain_25 (by rfl) (c_X9_isRow E S (nI r) ) (Nat.le_of_ble_eq_true rfl) (Nat.le_of_ble_eq_true rfl) (by rfl) (Nat.le_of_ble_eq_true rfl) ?_
      refine g_b_ne (pc := 28) (tgt := 33) dX9_chain_28 (by decide) (fun c_28 => ?_) (fun c_28 => ?_)
      · refine g_aload_n (pc := 33) dX9_chain_33 0 rfl rfl ?_
        refine g_invV (pc := 34) j_X9_debts mw_X9_189 dX9_chain_34 (rcv_X9) (by rfl) (c_X9_debts E S (by first | assumption | omega | rfl)) (Nat.le_of_ble_eq_true rfl) (Nat.le_of_ble_eq_true rfl) (by rfl) (Nat.le_of_ble_eq_true rfl) ?_
        refine g_istore (pc := 37) (L' := [(4, .int (dbM S)), (0, .ref (eA E 58)), (1, .int (nI a)), (2, .int (nI b)), (3, .int (nI r))]) dX9_chain_37 (Nat.le_of_ble_eq_true rfl) rfl ?_
        refine g_iconst (pc := 39) (v := 0) dX9_chain_39 (by decide) ?_
        refine g_istore (pc := 40) (L' := [(5, .int 0), (4, .int (dbM S)), (0, .ref (eA E 58)), (1, .int (nI a)), (2, .int (nI b)), (3, .int (nI r))]) dX9_chain_40 (Nat.le_of_ble_eq_true rfl) rfl ?_
        have H_42 : ∀ n : Nat, n ≤ 6 → G E X i_X9_chain (sA S 68 (aw0 (gA S 68) b n)) 42 [(0, .ref (eA E 58)), (1, .int (nI a)), (2, .int (nI b)), (3, .int (nI r)), (4, .int (dbM S)), (5, .int (nI n))] [] := by
          refine dn_ind 6 (fun n hn_42 ih_42 => ?_)
          refine g_iload (pc := 42) dX9_chain_42 5 rfl ?_
          refine g_bipush (pc := 44) (v := 6) dX9_chain_44 (by decide) ?_
          refine g_icmp_ge (pc := 46) (tgt := 74) dX9_chain_46 (by decide) (fun c_46 => ?_) (fun c_46 => ?_)
          · have k_46 := Int32.not_lt.mpr c_46
            have he_42 : n = 6 := Nat.le_antisymm hn_42 (by exact nle_of (N := 6) rfl rfl (by omega) (by omega) c_46)
            rw [he_42]
            refine g_iconst (pc := 74) (v := 0) dX9_chain_74 (by decide) ?_
            refine g_istore (pc := 75) (L' := [(5, .int 0), (0, .ref (eA E 58)), (1, .int (nI a)), (2, .int (nI b)), (3, .int (nI r)), (4, .int (dbM S))]) dX9_chain_75 (Nat.le_of_ble_eq_true rfl) rfl ?_
            have H_77 : ∀ n : Nat, n ≤ 6 → G E X i_X9_chain (sA S 68 (awO S b n)) 77 [(0, .ref (eA E 58)), (1, .int (nI a)), (2, .int (nI b)), (3, .int (nI r)), (4, .int (dbM S)), (5, .int (nI n))] [] := by
              refine dn_ind 6 (fun n hn_77 ih_77 => ?_)
              refine g_iload (pc := 77) dX9_chain_77 5 rfl ?_
              refine g_bipush (pc := 79) (v := 6) dX9_chain_79 (by decide) ?_
              refine g_icmp_ge (pc := 81) (tgt := 187) dX9_chain_81 (by decide) (fun c_81 => ?_) (fun c_81 => ?_)
              · have k_81 := Int32.not_lt.mpr c_81
                have he_77 : n = 6 := Nat.le_antisymm hn_77 (by exact nle_of (N := 6) rfl rfl (by omega) (by omega) c_81)
                rw [he_77]
                refine g_aload_n (pc := 187) dX9_chain_187 0 rfl rfl ?_
                refine gf_X9_41 (pc := 188) rfl dX9_chain_188 ?_
                refine g_iload_n (pc := 191) dX9_chain_191 1 rfl rfl ?_
                refine g_iald (pc := 192) a rfl rfl (show a < 6 by omega) (by decide) dX9_chain_192 ?_
                rw [show gA (sA S 68 (awO S b 6)) 68 a = (awO S b 6) a from congrFun (gA_same _ _ _) a]
                refine g_ldc (pc := 193) kw_X9_183 dX9_chain_193 ?_
                refine g_icmp_lt (pc := 195) (tgt := 201) dX9_chain_195 (by decide) (fun c_195 => ?_) (fun c_195 => ?_)
                · have k_195 := Int32.not_le.mpr c_195
                  refine g_aload_n (pc := 201) dX9_chain_201 0 rfl rfl ?_
                  refine gf_X9_41 (pc := 202) rfl dX9_chain_202 ?_
                  refine g_iload_n (pc := 205) dX9_chain_205 1 rfl rfl ?_
                  refine g_iald (pc := 206) a rfl rfl (show a < 6 by omega) (by decide) dX9_chain_206 ?_
                  rw [show gA (sA S 68 (awO S b 6)) 68 a = (awO S b 6) a from congrFun (gA_same _ _ _) a]
                  rw [hd]
                  refine g_istore (pc := 207) (L' := [(5, .int (nI d)), (0, .ref (eA E 58)), (1, .int (nI a)), (2, .int (nI b)), (3, .int (nI r)), (4, .int (dbM S))]) dX9_chain_207 (Nat.le_of_ble_eq_true rfl) rfl ?_
                  refine g_aload_n (pc := 209) dX9_chain_209 1 rfl rfl ?_
                  refine g_iload_n (pc := 210) dX9_chain_210 4 rfl rfl ?_
                  refine g_iload (pc := 211) dX9_chain_211 0 rfl ?_
                  refine g_invV (pc := 213) j_X9_row mw_X9_201 dX9_chain_213 (rcv_X9) (by rfl) (c_X9_row_ok E (sA S 68 (awO S b 6)) r d hr6 (by omega)) (Nat.le_of_ble_eq_true rfl) (Nat.le_of_ble_eq_true rfl) (by rfl) (Nat.le_of_ble_eq_true rfl) ?_
                  rw [show sA (sA (sA S 68 (awO S b 6)) 60 (upd (gA (sA S 68 (awO S b 6)) 60) r (nI d))) 61 (fllF (gA (sA S 68 (awO S b 6)) 61) (40 * r) 0 40) = chU S b r d from rfl]
                  obtain ⟨U, hU⟩ : ∃ U : St, U = chU S b r d := ⟨_, rfl⟩
                  rw [← hU]
                  have h59 : gA U 59 = gA S 59 := by rw [hU]; rfl
                  have h68 : gA U 68 = awO S b 6 := by rw [hU]; rfl
                  refine g_pop (pc := 216) dX9_chain_216 rfl ?_
                  refine g_iload_n (pc := 217) dX9_chain_217 2 rfl rfl ?_
                  refine g_istore (pc := 218) (L' := [(6, .int (nI a)), (5, .int (nI d)), (0, .ref (eA E 58)), (1, .int (nI a)), (2, .int (nI b)), (3, .int (nI r)), (4, .int (dbM S))]) dX9_chain_218 (Nat.le_of_ble_eq_true rfl) rfl ?_
                  refine g_iconst (pc := 220) (v := 0) dX9_chain_220 (by decide) ?_
                  refine g_istore (pc := 221) (L' := [(7, .int 0), (6, .int (nI a)), (5, .int (nI d)), (0, .ref (eA E 58)), (1, .int (nI a)), (2, .int (nI b)), (3, .int (nI r)), (4, .int (dbM S))]) dX9_chain_221 (Nat.le_of_ble_eq_true rfl) rfl ?_
                  have H_223 : ∀ n : Nat, n ≤ d → G E X i_X9_chain (sA U 61 (paM (gA U 61) r l n)) 223 [(0, .ref (eA E 58)), (1, .int (nI a)), (2, .int (nI b)), (3, .int (nI r)), (4, .int (dbM S)), (5, .int (nI d)), (6, .int (nI (cuM S a l n))), (7, .int (nI n))] [] := by
                    refine dn_ind d (fun n hn_223 ih_223 => ?_)
                    refine g_iload (pc := 223) dX9_chain_223 7 rfl ?_
                    refine g_iload (pc := 225) dX9_chain_225 5 rfl ?_
                    refine g_icmp_ge (pc := 227) (tgt := 321) dX9_chain_227 (by decide) (fun c_227 => ?_) (fun c_227 => ?_)
                    · have k_227 := Int32.not_lt.mpr c_227
                      have he_223 : n = d := Nat.le_antisymm hn_223 (by exact nle_of (N := d) rfl rfl (by omega) (by omega) c_227)
                      rw [he_223]
                      refine g_iload (pc := 321) dX9_chain_321 5 rfl ?_
                      exact g_iret (pc := 323) hM rfl rfl ⟨by rw [hU]; rfl, rfl⟩ dX9_chain_323
                    · have k_227 := Int32.not_le.mp c_227
                      have hlt_223 : n < d := by exact nlt_of (N := d) rfl rfl (by omega) (by omega) c_227
                      obtain ⟨hl8, hlt, hlf⟩ := hl n hlt_223
                      refine g_iconst (pc := 230) (v := 0) dX9_chain_230 (by decide) ?_
                      refine g_istore (pc := 231) (L' := [(8, .int 0), (0, .ref (eA E 58)), (1, .int (nI a)), (2, .int (nI b)), (3, .int (nI r)), (4, .int (dbM S)), (5, .int (nI d)), (6, .int (nI (cuM S a l n))), (7, .int (nI n))]) dX9_chain_231 (Nat.le_of_ble_eq_true rfl) rfl ?_
                      have H_233 : ∀ j : Nat, j ≤ l n → G E X i_X9_chain (sA U 61 (paM (gA U 61) r l n)) 233 [(0, .ref (eA E 58)), (1, .int (nI a)), (2, .int (nI b)), (3, .int (nI r)), (4, .int (dbM S)), (5, .int (nI d)), (6, .int (nI (cuM S a l n))), (7, .int (nI n)), (8, .int (nI j))] [] := by
                        refine dn_ind (l n) (fun j hn_233 ih_233 => ?_)
                        obtain ⟨⟨ho, ho6⟩, ht, ht6⟩ := hP j (by omega)
                        refine g_iload (pc := 233) dX9_chain_233 4 rfl ?_
                        refine g_iload (pc := 235) dX9_chain_235 8 rfl ?_
                        refine g_invS (pc := 237) j_X9_has mw_X9_143 dX9_chain_237 (by rfl) (c_X9_has E (sA U 61 (paM (gA U 61) r l n)) (dbM S) (nI j) ) (Nat.le_of_ble_eq_true rfl) (Nat.le_of_ble_eq_true rfl) (by rfl) (Nat.le_of_ble_eq_true rfl) ?_
                        refine g_b_eq (pc := 240) (tgt := 283) dX9_chain_240 (by decide) (fun c_240 => ?_) (fun c_240 => ?_)
                        · refine g_iinc (pc := 283) (L' := [(8, .int (nI j + 1)), (0, .ref (eA E 58)), (1, .int (nI a)), (2, .int (nI b)), (3, .int (nI r)), (4, .int (dbM S)), (5, .int (nI d)), (6, .int (nI (cuM S a l n))), (7, .int (nI n))]) dX9_chain_283 (k := 8) rfl (v := nI j + 1) rfl (Nat.le_of_ble_eq_true rfl) rfl ?_
                          refine g_goto (pc := 286) (tgt := 233) dX9_chain_286 (by decide) ?_
                          have hlt_233 : j < l n := by rcases Nat.lt_or_ge j (l n) with q | q; exact q; have e : j = l n := Nat.le_antisymm hn_233 q; rw [← e, cdM] at hlt; simp [c_240] at hlt
                          refine g_sub (L' := [(0, .ref (eA E 58)), (1, .int (nI a)), (2, .int (nI b)), (3, .int (nI r)), (4, .int (dbM S)), (5, .int (nI d)), (6, .int (nI (cuM S a l n))), (7, .int (nI n)), (8, .int (nI j + 1))]) [1, 2, 3, 4, 5, 6, 7, 8, 0] rfl ?_
                          exact g_eq rfl (by rw [nI_1]) rfl (ih_233 hlt_233)
                        · refine g_aload_n (pc := 243) dX9_chain_243 0 rfl rfl ?_
                          refine gf_X9_7 (pc := 244) rfl dX9_chain_244 ?_
                          refine g_bipush (pc := 247) (v := 19) dX9_chain_247 (by decide) ?_
                          refine g_iload (pc := 249) dX9_chain_249 8 rfl ?_
                          refine g_iadd (pc := 251) dX9_chain_251 ?_
                          refine g_iald (pc := 252) (19 + j) (nI_aE rfl rfl) rfl (show 19 + j < 1776 by omega) (by decide) dX9_chain_252 ?_
                          rw [show gA (sA U 61 (paM (gA U 61) r l n)) 59 (19 + j) = (gA S 59) (19 + j) from congrFun h59 (19 + j)]
                          refine g_iload (pc := 253) dX9_chain_253 6 rfl ?_
                          refine g_icmp_ne (pc := 255) (tgt := 283) dX9_chain_255 (by decide) (fun c_255 => ?_) (fun c_255 => ?_)
                          · refine g_iinc (pc := 283) (L' := [(8, .int (nI j + 1)), (0, .ref (eA E 58)), (1, .int (nI a)), (2, .int (nI b)), (3, .int (nI r)), (4, .int (dbM S)), (5, .int (nI d)), (6, .int (nI (cuM S a l n))), (7, .int (nI n))]) dX9_chain_283 (k := 8) rfl (v := nI j + 1) rfl (Nat.le_of_ble_eq_true rfl) rfl ?_
                            refine g_goto (pc := 286) (tgt := 233) dX9_chain_286 (by decide) ?_
                            have hlt_233 : j < l n := by rcases Nat.lt_or_ge j (l n) with q | q; exact q; have e : j = l n := Nat.le_antisymm hn_233 q; rw [← e, cdM] at hlt; simp [c_255] at hlt
                            refine g_sub (L' := [(0, .ref (eA E 58)), (1, .int (nI a)), (2, .int (nI b)), (3, .int (nI r)), (4, .int (dbM S)), (5, .int (nI d)), (6, .int (nI (cuM S a l n))), (7, .int (nI n)), (8, .int (nI j + 1))]) [1, 2, 3, 4, 5, 6, 7, 8, 0] rfl ?_
                            exact g_eq rfl (by rw [nI_1]) rfl (ih_233 hlt_233)
                          · refine g_aload_n (pc := 258) dX9_chain_258 0 rfl rfl ?_
                            refine gf_X9_41 (pc := 259) rfl dX9_chain_259 ?_
                            refine g_aload_n (pc := 262) dX9_chain_262 0 rfl rfl ?_
                            refine gf_X9_7 (pc := 263) rfl dX9_chain_263 ?_
                            refine g_bipush (pc := 266) (v := 27) dX9_chain_266 (by decide) ?_
                            refine g_iload (pc := 268) dX9_chain_268 8 rfl ?_
                            refine g_iadd (pc := 270) dX9_chain_270 ?_
                            refine g_iald (pc := 271) (27 + j) (nI_aE rfl rfl) rfl (show 27 + j < 1776 by omega) (by decide) dX9_chain_271 ?_
                            rw [show gA (sA U 61 (paM (gA U 61) r l n)) 59 (27 + j) = (gA S 59) (27 + j) from congrFun h59 (27 + j)]
                            refine g_iald (pc := 272) (tN S j) ht rfl (show tN S j < 6 by omega) (by decide) dX9_chain_272 ?_
                            rw [show gA (sA U 61 (paM (gA U 61) r l n)) 68 (tN S j) = (awO S b 6) (tN S j) from congrFun h68 (tN S j)]
                            refine g_iload (pc := 273) dX9_chain_273 5 rfl ?_
                            refine g_iload (pc := 275) dX9_chain_275 7 rfl ?_
                            refine g_isub (pc := 277) dX9_chain_277 ?_
                            refine g_iconst (pc := 278) (v := 1) dX9_chain_278 (by decide) ?_
                            refine g_isub (pc := 279) dX9_chain_279 ?_
                            refine g_icmp_eq (pc := 280) (tgt := 289) dX9_chain_280 (by decide) (fun c_280 => ?_) (fun c_280 => ?_)
                            · have he : j = l n := by rcases Nat.lt_or_ge j (l n) with q | q; exact absurd (show cdM S (awO S b 6) (cuM S a l n) (nI d - nI n - 1) j = true by rw [cdM, c_240, decide_eq_true c_255, decide_eq_true c_280]; rfl) (by rw [hlf j q]; decide); exact Nat.le_antisymm hn_233 q
                              rw [he] at ht ht6 ⊢
                              refine g_aload_n (pc := 289) dX9_chain_289 0 rfl rfl ?_
                              refine gf_X9_16 (pc := 290) rfl dX9_chain_290 ?_
                              refine g_bipush (pc := 293) (v := 40) dX9_chain_293 (by decide) ?_
                              refine g_iload_n (pc := 295) dX9_chain_295 3 rfl rfl ?_
                              refine g_imul (pc := 296) dX9_chain_296 ?_
                              refine g_iload (pc := 297) dX9_chain_297 7 rfl ?_
                              refine g_iadd (pc := 299) dX9_chain_299 ?_
                              refine g_iload (pc := 300) dX9_chain_300 8 rfl ?_
                              refine g_iast (pc := 302) ((40 * r) + n) (nI_aE (nI_mE rfl rfl) rfl) rfl (show (40 * r) + n < 240 by omega) (by decide) dX9_chain_302 ?_
                              refine g_aload_n (pc := 303) dX9_chain_303 0 rfl rfl ?_
                              refine gf_X9_7 (pc := 304) rfl dX9_chain_304 ?_
                              refine g_bipush (pc := 307) (v := 27) dX9_chain_307 (by decide) ?_
                              refine g_iload (pc := 309) dX9_chain_309 8 rfl ?_
                              refine g_iadd (pc := 311) dX9_chain_311 ?_
                              refine g_iald (pc := 312) (27 + (l n)) (nI_aE rfl rfl) rfl (show 27 + (l n) < 1776 by omega) (by decide) dX9_chain_312 ?_
                              rw [show gA (sA (sA U 61 (paM (gA U 61) r l n)) 61 (upd (gA (sA U 61 (paM (gA U 61) r l n)) 61) ((40 * r) + n) (nI (l n)))) 59 (27 + (l n)) = (gA S 59) (27 + (l n)) from congrFun h59 (27 + (l n))]
                              rw [ht]
                              refine g_istore (pc := 313) (L' := [(6, .int (nI (tN S (l n)))), (0, .ref (eA E 58)), (1, .int (nI a)), (2, .int (nI b)), (3, .int (nI r)), (4, .int (dbM S)), (5, .int (nI d)), (7, .int (nI n)), (8, .int (nI (l n)))]) dX9_chain_313 (Nat.le_of_ble_eq_true rfl) rfl ?_
                              refine g_iinc (pc := 315) (L' := [(7, .int (nI n + 1)), (6, .int (nI (tN S (l n)))), (0, .ref (eA E 58)), (1, .int (nI a)), (2, .int (nI b)), (3, .int (nI r)), (4, .int (dbM S)), (5, .int (nI d)), (8, .int (nI (l n)))]) dX9_chain_315 (k := 7) rfl (v := nI n + 1) rfl (Nat.le_of_ble_eq_true rfl) rfl ?_
                              refine g_goto (pc := 318) (tgt := 223) dX9_chain_318 (by decide) ?_
                              refine g_sub (L' := [(0, .ref (eA E 58)), (1, .int (nI a)), (2, .int (nI b)), (3, .int (nI r)), (4, .int (dbM S)), (5, .int (nI d)), (6, .int (nI (tN S (l n)))), (7, .int (nI n + 1))]) [2, 3, 4, 5, 6, 7, 1, 0] rfl ?_
                              exact g_eq (by rw [sA_sA, gA_same]; rfl) (by rw [nI_1]; rfl) rfl (ih_223 hlt_223)
                            · refine g_iinc (pc := 283) (L' := [(8, .int (nI j + 1)), (0, .ref (eA E 58)), (1, .int (nI a)), (2, .int (nI b)), (3, .int (nI r)), (4, .int (dbM S)), (5, .int (nI d)), (6, .int (nI (cuM S a l n))), (7, .int (nI n))]) dX9_chain_283 (k := 8) rfl (v := nI j + 1) rfl (Nat.le_of_ble_eq_true rfl) rfl ?_
                              refine g_goto (pc := 286) (tgt := 233) dX9_chain_286 (by decide) ?_
                              have hlt_233 : j < l n := by rcases Nat.lt_or_ge j (l n) with q | q; exact q; have e : j = l n := Nat.le_antisymm hn_233 q; rw [← e, cdM] at hlt; simp [c_280] at hlt
                              refine g_sub (L' := [(0, .ref (eA E 58)), (1, .int (nI a)), (2, .int (nI b)), (3, .int (nI r)), (4, .int (dbM S)), (5, .int (nI d)), (6, .int (nI (cuM S a l n))), (7, .int (nI n)), (8, .int (nI j + 1))]) [1, 2, 3, 4, 5, 6, 7, 8, 0] rfl ?_
                              exact g_eq rfl (by rw [nI_1]) rfl (ih_233 hlt_233)
                      refine g_sub (L' := [(0, .ref (eA E 58)), (1, .int (nI a)), (2, .int (nI b)), (3, .int (nI r)), (4, .int (dbM S)), (5, .int (nI d)), (6, .int (nI (cuM S a l n))), (7, .int (nI n)), (8, .int 0)]) [1, 2, 3, 4, 5, 6, 7, 8, 0] rfl ?_
                      exact H_233 0 (Nat.zero_le _)
                  refine g_sub (L' := [(0, .ref (eA E 58)), (1, .int (nI a)), (2, .int (nI b)), (3, .int (nI r)), (4, .int (dbM S)), (5, .int (nI d)), (6, .int (nI a)), (7, .int 0)]) [3, 4, 5, 6, 7, 2, 1, 0] rfl ?_
                  exact g_eq (sA_self U 61).symm rfl rfl (H_223 0 (Nat.zero_le _))
                · have k_195 := Int32.not_lt.mp c_195
                  exact absurd (by rw [hd]; exact nI_lt1e6 hd5) c_195
              · have k_81 := Int32.not_le.mp c_81
                have hlt_77 : n < 6 := by exact nlt_of (N := 6) rfl rfl (by omega) (by omega) c_81
                refine g_iconst (pc := 84) (v := 0) dX9_chain_84 (by decide) ?_
                refine g_istore (pc := 85) (L' := [(6, .int 0), (0, .ref (eA E 58)), (1, .int (nI a)), (2, .int (nI b)), (3, .int (nI r)), (4, .int (dbM S)), (5, .int (nI n))]) dX9_chain_85 (Nat.le_of_ble_eq_true rfl) rfl ?_
                have H_87 : ∀ j : Nat, j ≤ (nM S) → G E X i_X9_chain (sA S 68 (awI S (awO S b n) j)) 87 [(0, .ref (eA E 58)), (1, .int (nI a)), (2, .int (nI b)), (3, .int (nI r)), (4, .int (dbM S)), (5, .int (nI n)), (6, .int (nI j))] [] := by
                  refine dn_ind (nM S) (fun j hn_87 ih_87 => ?_)
                  refine g_iload (pc := 87) dX9_chain_87 6 rfl ?_
                  refine g_aload_n (pc := 89) dX9_chain_89 0 rfl rfl ?_
                  refine gf_X9_7 (pc := 90) rfl dX9_chain_90 ?_
                  refine g_iconst (pc := 93) (v := 0) dX9_chain_93 (by decide) ?_
                  refine g_iald (pc := 94) 0 rfl rfl (by decide) (by decide) dX9_chain_94 ?_
                  rw [show gA (sA S 68 (awI S (awO S b n) j)) 59 0 = (gA S 59) 0 from congrFun (rfl) 0]
                  refine g_icmp_ge (pc := 95) (tgt := 181) dX9_chain_95 (by decide) (fun c_95 => ?_) (fun c_95 => ?_)
                  · have k_95 := Int32.not_lt.mpr c_95
                    have he_87 : j = (nM S) := Nat.le_antisymm hn_87 (by exact nle_of (N := nM S) rfl hz.1 (by omega) (by omega) c_95)
                    rw [he_87]
                    refine g_iinc (pc := 181) (L' := [(5, .int (nI n + 1)), (0, .ref (eA E 58)), (1, .int (nI a)), (2, .int (nI b)), (3, .int (nI r)), (4, .int (dbM S)), (6, .int (nI (nM S)))]) dX9_chain_181 (k := 5) rfl (v := nI n + 1) rfl (Nat.le_of_ble_eq_true rfl) rfl ?_
                    refine g_goto (pc := 184) (tgt := 77) dX9_chain_184 (by decide) ?_
                    refine g_sub (L' := [(0, .ref (eA E 58)), (1, .int (nI a)), (2, .int (nI b)), (3, .int (nI r)), (4, .int (dbM S)), (5, .int (nI n + 1))]) [1, 2, 3, 4, 5, 0] rfl ?_
                    exact g_eq rfl (by rw [nI_1]) rfl (ih_77 hlt_77)
                  · have k_95 := Int32.not_le.mp c_95
                    have hlt_87 : j < (nM S) := by exact nlt_of (N := nM S) rfl hz.1 (by omega) (by omega) c_95
                    obtain ⟨⟨ho, ho6⟩, ht, ht6⟩ := hP j hlt_87
                    refine g_iload (pc := 98) dX9_chain_98 4 rfl ?_
                    refine g_iload (pc := 100) dX9_chain_100 6 rfl ?_
                    refine g_invS (pc := 102) j_X9_has mw_X9_143 dX9_chain_102 (by rfl) (c_X9_has E (sA S 68 (awI S (awO S b n) j)) (dbM S) (nI j) ) (Nat.le_of_ble_eq_true rfl) (Nat.le_of_ble_eq_true rfl) (by rfl) (Nat.le_of_ble_eq_true rfl) ?_
                    refine g_b_eq (pc := 105) (tgt := 175) dX9_chain_105 (by decide) (fun c_105 => ?_) (fun c_105 => ?_)
                    · refine g_iinc (pc := 175) (L' := [(6, .int (nI j + 1)), (0, .ref (eA E 58)), (1, .int (nI a)), (2, .int (nI b)), (3, .int (nI r)), (4, .int (dbM S)), (5, .int (nI n))]) dX9_chain_175 (k := 6) rfl (v := nI j + 1) rfl (Nat.le_of_ble_eq_true rfl) rfl ?_
                      refine g_goto (pc := 178) (tgt := 87) dX9_chain_178 (by decide) ?_
                      refine g_sub (L' := [(0, .ref (eA E 58)), (1, .int (nI a)), (2, .int (nI b)), (3, .int (nI r)), (4, .int (dbM S)), (5, .int (nI n)), (6, .int (nI j + 1))]) [1, 2, 3, 4, 5, 6, 0] rfl ?_
                      exact g_eq (by rw [show awI S (awO S b n) (j + 1) = _ from rfl, awI, if_neg (by rw [c_105, Bool.false_and]; decide)]) (by rw [nI_1]) rfl (ih_87 hlt_87)
                    · refine g_aload_n (pc := 108) dX9_chain_108 0 rfl rfl ?_
                      refine gf_X9_41 (pc := 109) rfl dX9_chain_109 ?_
                      refine g_aload_n (pc := 112) dX9_chain_112 0 rfl rfl ?_
                      refine gf_X9_7 (pc := 113) rfl dX9_chain_113 ?_
                      refine g_bipush (pc := 116) (v := 27) dX9_chain_116 (by decide) ?_
                      refine g_iload (pc := 118) dX9_chain_118 6 rfl ?_
                      refine g_iadd (pc := 120) dX9_chain_120 ?_
                      refine g_iald (pc := 121) (27 + j) (nI_aE rfl rfl) rfl (show 27 + j < 1776 by omega) (by decide) dX9_chain_121 ?_
                      rw [show gA (sA S 68 (awI S (awO S b n) j)) 59 (27 + j) = (gA S 59) (27 + j) from congrFun (rfl) (27 + j)]
                      refine g_iald (pc := 122) (tN S j) ht rfl (show tN S j < 6 by omega) (by decide) dX9_chain_122 ?_
                      rw [show gA (sA S 68 (awI S (awO S b n) j)) 68 (tN S j) = (awI S (awO S b n) j) (tN S j) from congrFun (gA_same _ _ _) (tN S j)]
                      refine g_iconst (pc := 123) (v := 1) dX9_chain_123 (by decide) ?_
                      refine g_iadd (pc := 124) dX9_chain_124 ?_
                      refine g_aload_n (pc := 125) dX9_chain_125 0 rfl rfl ?_
                      refine gf_X9_41 (pc := 126) rfl dX9_chain_126 ?_
                      refine g_aload_n (pc := 129) dX9_chain_129 0 rfl rfl ?_
                      refine gf_X9_7 (pc := 130) rfl dX9_chain_130 ?_
                      refine g_bipush (pc := 133) (v := 19) dX9_chain_133 (by decide) ?_
                      refine g_iload (pc := 135) dX9_chain_135 6 rfl ?_
                      refine g_iadd (pc := 137) dX9_chain_137 ?_
                      refine g_iald (pc := 138) (19 + j) (nI_aE rfl rfl) rfl (show 19 + j < 1776 by omega) (by decide) dX9_chain_138 ?_
                      rw [show gA (sA S 68 (awI S (awO S b n) j)) 59 (19 + j) = (gA S 59) (19 + j) from congrFun (rfl) (19 + j)]
                      refine g_iald (pc := 139) (oN S j) ho rfl (show oN S j < 6 by omega) (by decide) dX9_chain_139 ?_
                      rw [show gA (sA S 68 (awI S (awO S b n) j)) 68 (oN S j) = (awI S (awO S b n) j) (oN S j) from congrFun (gA_same _ _ _) (oN S j)]
                      refine g_icmp_ge (pc := 140) (tgt := 175) dX9_chain_140 (by decide) (fun c_140 => ?_) (fun c_140 => ?_)
                      · have k_140 := Int32.not_lt.mpr c_140
                        refine g_iinc (pc := 175) (L' := [(6, .int (nI j + 1)), (0, .ref (eA E 58)), (1, .int (nI a)), (2, .int (nI b)), (3, .int (nI r)), (4, .int (dbM S)), (5, .int (nI n))]) dX9_chain_175 (k := 6) rfl (v := nI j + 1) rfl (Nat.le_of_ble_eq_true rfl) rfl ?_
                        refine g_goto (pc := 178) (tgt := 87) dX9_chain_178 (by decide) ?_
                        refine g_sub (L' := [(0, .ref (eA E 58)), (1, .int (nI a)), (2, .int (nI b)), (3, .int (nI r)), (4, .int (dbM S)), (5, .int (nI n)), (6, .int (nI j + 1))]) [1, 2, 3, 4, 5, 6, 0] rfl ?_
                        exact g_eq (by rw [show awI S (awO S b n) (j + 1) = _ from rfl, awI, if_neg (by rw [decide_eq_false k_140, Bool.and_false]; decide)]) (by rw [nI_1]) rfl (ih_87 hlt_87)
                      · have k_140 := Int32.not_le.mp c_140
                        refine g_aload_n (pc := 143) dX9_chain_143 0 rfl rfl ?_
                        refine gf_X9_41 (pc := 144) rfl dX9_chain_144 ?_
                        refine g_aload_n (pc := 147) dX9_chain_147 0 rfl rfl ?_
                        refine gf_X9_7 (pc := 148) rfl dX9_chain_148 ?_
                        refine g_bipush (pc := 151) (v := 19) dX9_chain_151 (by decide) ?_
                        refine g_iload (pc := 153) dX9_chain_153 6 rfl ?_
                        refine g_iadd (pc := 155) dX9_chain_155 ?_
                        refine g_iald (pc := 156) (19 + j) (nI_aE rfl rfl) rfl (show 19 + j < 1776 by omega) (by decide) dX9_chain_156 ?_
                        rw [show gA (sA S 68 (awI S (awO S b n) j)) 59 (19 + j) = (gA S 59) (19 + j) from congrFun (rfl) (19 + j)]
                        refine g_aload_n (pc := 157) dX9_chain_157 0 rfl rfl ?_
                        refine gf_X9_41 (pc := 158) rfl dX9_chain_158 ?_
                        refine g_aload_n (pc := 161) dX9_chain_161 0 rfl rfl ?_
                        refine gf_X9_7 (pc := 162) rfl dX9_chain_162 ?_
                        refine g_bipush (pc := 165) (v := 27) dX9_chain_165 (by decide) ?_
                        refine g_iload (pc := 167) dX9_chain_167 6 rfl ?_
                        refine g_iadd (pc := 169) dX9_chain_169 ?_
                        refine g_iald (pc := 170) (27 + j) (nI_aE rfl rfl) rfl (show 27 + j < 1776 by omega) (by decide) dX9_chain_170 ?_
                        rw [show gA (sA S 68 (awI S (awO S b n) j)) 59 (27 + j) = (gA S 59) (27 + j) from congrFun (rfl) (27 + j)]
                        refine g_iald (pc := 171) (tN S j) ht rfl (show tN S j < 6 by omega) (by decide) dX9_chain_171 ?_
                        rw [show gA (sA S 68 (awI S (awO S b n) j)) 68 (tN S j) = (awI S (awO S b n) j) (tN S j) from congrFun (gA_same _ _ _) (tN S j)]
                        refine g_iconst (pc := 172) (v := 1) dX9_chain_172 (by decide) ?_
                        refine g_iadd (pc := 173) dX9_chain_173 ?_
                        refine g_iast (pc := 174) (oN S j) ho rfl (show oN S j < 6 by omega) (by decide) dX9_chain_174 ?_
                        refine g_iinc (pc := 175) (L' := [(6, .int (nI j + 1)), (0, .ref (eA E 58)), (1, .int (nI a)), (2, .int (nI b)), (3, .int (nI r)), (4, .int (dbM S)), (5, .int (nI n))]) dX9_chain_175 (k := 6) rfl (v := nI j + 1) rfl (Nat.le_of_ble_eq_true rfl) rfl ?_
                        refine g_goto (pc := 178) (tgt := 87) dX9_chain_178 (by decide) ?_
                        refine g_sub (L' := [(0, .ref (eA E 58)), (1, .int (nI a)), (2, .int (nI b)), (3, .int (nI r)), (4, .int (dbM S)), (5, .int (nI n)), (6, .int (nI j + 1))]) [1, 2, 3, 4, 5, 6, 0] rfl ?_
                        exact g_eq (by rw [sA_sA, gA_same, show awI S (awO S b n) (j + 1) = _ from rfl, awI, if_pos (by rw [c_105, decide_eq_true k_140]; rfl)]) (by rw [nI_1]) rfl (ih_87 hlt_87)
                refine g_sub (L' := [(0, .ref (eA E 58)), (1, .int (nI a)), (2, .int (nI b)), (3, .int (nI r)), (4, .int (dbM S)), (5, .int (nI n)), (6, .int 0)]) [1, 2, 3, 4, 5, 6, 0] rfl ?_
                exact g_eq rfl rfl rfl (H_87 0 (Nat.zero_le _))
            refine g_sub (L' := [(0, .ref (eA E 58)), (1, .int (nI a)), (2, .int (nI b)), (3, .int (nI r)), (4, .int (dbM S)), (5, .int 0)]) [1, 2, 3, 4, 5, 0] rfl ?_
            exact g_eq rfl rfl rfl (H_77 0 (Nat.zero_le _))
          · have k_46 := Int32.not_le.mp c_46
            have hlt_42 : n < 6 := by exact nlt_of (N := 6) rfl rfl (by omega) (by omega) c_46
            refine g_aload_n (pc := 49) dX9_chain_49 0 rfl rfl ?_
            refine gf_X9_41 (pc := 50) rfl dX9_chain_50 ?_
            refine g_iload (pc := 53) dX9_chain_53 5 rfl ?_
            refine g_iload (pc := 55) dX9_chain_55 5 rfl ?_
            refine g_iload_n (pc := 57) dX9_chain_57 2 rfl rfl ?_
            refine g_icmp_ne (pc := 58) (tgt := 65) dX9_chain_58 (by decide) (fun c_58 => ?_) (fun c_58 => ?_)
            · refine g_ldc (pc := 65) kw_X9_183 dX9_chain_65 ?_
              refine g_iast (pc := 67) n rfl rfl (show n < 6 by omega) (by decide) dX9_chain_67 ?_
              refine g_iinc (pc := 68) (L' := [(5, .int (nI n + 1)), (0, .ref (eA E 58)), (1, .int (nI a)), (2, .int (nI b)), (3, .int (nI r)), (4, .int (dbM S))]) dX9_chain_68 (k := 5) rfl (v := nI n + 1) rfl (Nat.le_of_ble_eq_true rfl) rfl ?_
              refine g_goto (pc := 71) (tgt := 42) dX9_chain_71 (by decide) ?_
              refine g_sub (L' := [(0, .ref (eA E 58)), (1, .int (nI a)), (2, .int (nI b)), (3, .int (nI r)), (4, .int (dbM S)), (5, .int (nI n + 1))]) [1, 2, 3, 4, 5, 0] rfl ?_
              exact g_eq (by rw [sA_sA, gA_same, show aw0 (gA S 68) b (n + 1) = _ from rfl, aw0, if_neg c_58]) (by rw [nI_1]) rfl (ih_42 hlt_42)
            · refine g_iconst (pc := 61) (v := 0) dX9_chain_61 (by decide) ?_
              refine g_goto (pc := 62) (tgt := 67) dX9_chain_62 (by decide) ?_
              refine g_iast (pc := 67) n rfl rfl (show n < 6 by omega) (by decide) dX9_chain_67 ?_
              refine g_iinc (pc := 68) (L' := [(5, .int (nI n + 1)), (0, .ref (eA E 58)), (1, .int (nI a)), (2, .int (nI b)), (3, .int (nI r)), (4, .int (dbM S))]) dX9_chain_68 (k := 5) rfl (v := nI n + 1) rfl (Nat.le_of_ble_eq_true rfl) rfl ?_
              refine g_goto (pc := 71) (tgt := 42) dX9_chain_71 (by decide) ?_
              refine g_sub (L' := [(0, .ref (eA E 58)), (1, .int (nI a)), (2, .int (nI b)), (3, .int (nI r)), (4, .int (dbM S)), (5, .int (nI n + 1))]) [1, 2, 3, 4, 5, 0] rfl ?_
              exact g_eq (by rw [sA_sA, gA_same, show aw0 (gA S 68) b (n + 1) = _ from rfl, aw0, if_pos c_58]) (by rw [nI_1]) rfl (ih_42 hlt_42)
        refine g_sub (L' := [(0, .ref (eA E 58)), (1, .int (nI a)), (2, .int (nI b)), (3, .int (nI r)), (4, .int (dbM S)), (5, .int 0)]) [2, 3, 4, 5, 1, 0] rfl ?_
        exact g_eq (sA_self S 68).symm rfl rfl (H_42 0 (Nat.zero_le _))
      · exact absurd (hr.2.2.symm.trans c_28) (by decide)
