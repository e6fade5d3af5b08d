/-! THE REFERENCE: road, rings, dim, notes -/
theorem gv_w {S T : St} (h : gA T 59 = gA S 59) : gvM T = gvM S := by funext k a p n; unfold gvM glQ; rw [h]
theorem brR_w {S T : St} (h : gA T 59 = gA S 59) {pl set night : Int32} : ∀ n, brR T pl set night n = brR S pl set night n
  | 0 => rfl
  | n + 1 => by rw [brR, brR, brR_w h n, gv_w h, h]
theorem nM_w {S T : St} (h : gA T 59 = gA S 59) : nM T = nM S := by unfold nM; rw [h]
theorem okM_w {S T : St} (h : gA T 59 = gA S 59) (hz : okM S) : okM T := ⟨by rw [nM_w h, h]; exact hz.1, by rw [nM_w h]; exact hz.2⟩
theorem brM_w {S T : St} (h : gA T 59 = gA S 59) {pl : Int32} : brM T pl = brM S pl := by unfold brM; rw [brR_w h, h, nM_w h]
def brF (S : St) : Nat → (Nat → Int32) | 0 => gA S 67 | n + 1 => upd (brF S n) n (brM S (nI n))
def isFoM (S : St) (k : Nat) : Bool := decide (gA S 59 (11 + k) = 3) || decide (gA S 59 (11 + k) = 5)
def dbR (S : St) : Nat → Int32 | 0 => 0 | n + 1 => dbR S n ||| (if (hsF (gA S 59 2) (nI n) && !isFoM S n) = true then (1 : Int32) <<< (nI n &&& 31) else 0)
def dbM (S : St) : Int32 := dbR S (nM S)
def obR (S : St) (x set : Int32) : Nat → Int32 | 0 => 0 | n + 1 => obR S x set n + (if (hsF set (nI n) && decide (gA S 59 (19 + n) = x)) = true then 1 else 0) - (if (hsF set (nI n) && decide (gA S 59 (27 + n) = x)) = true then 1 else 0)
def obM (S : St) (x set : Int32) : Int32 := obR S x set (nM S)
def rgM (S : St) (set : Int32) : Bool := decide (set &&& (dbM S ^^^ -1) = 0) && allB (fun x => decide (obM S (nI x) set = 0)) 6
def rbM (S : St) : Nat → Int32 | 0 => 0 | n + 1 => if (rgM S (nI n) && decide (onF (rbM S n) < onF (nI n))) = true then nI n else rbM S n
def rkM (S : St) (k : Nat) : Nat → Int32 | 0 => 0 | n + 1 => rkM S k n + (if (hsF (nI n) (nI k) && rgM S (nI n)) = true then 1 else 0)
def lsM (S : St) (k : Nat) : Nat → Int32 | 0 => 0 | n + 1 => if (hsF (nI n) (nI k) && rgM S (nI n) && (decide (lsM S k n = 0) || decide (onF (nI n) < onF (lsM S k n)))) = true then nI n else lsM S k n
def dmP (S : St) (p v : Int32) (n : Nat) : Bool := decide (nI n &&& (gA S 59 2 ^^^ -1) = 0) && !decide (v < brR S p (gA S 59 2 &&& (nI n ^^^ -1)) (gA S 59 1) (nM S))
def dm1 (S : St) (p v : Int32) : Nat → Int32 | 0 => gA S 59 2 | n + 1 => if (dmP S p v n && decide (onF (nI n) < onF (dm1 S p v n))) = true then nI n else dm1 S p v n
def dm2 (S : St) (p v : Int32) (m : Nat) : Nat → Int32 | 0 => dm1 S p v m | n + 1 => if (dmP S p v (m - 1 - n) && decide (onF (nI (m - 1 - n)) = onF (dm2 S p v m n))) = true then nI (m - 1 - n) else dm2 S p v m n
theorem sh1 {x : Int32} {N : Nat} (h : x = nI N) (hN : N ≤ 8) : (1 : Int32) <<< (x &&& 31) = nI (2 ^ N) := by
  subst h
  rcases (show N = 0 ∨ N = 1 ∨ N = 2 ∨ N = 3 ∨ N = 4 ∨ N = 5 ∨ N = 6 ∨ N = 7 ∨ N = 8 by omega) with rfl | rfl | rfl | rfl | rfl | rfl | rfl | rfl | rfl <;> decide
theorem p2_le {N : Nat} (hN : N ≤ 8) : 2 ^ N ≤ 256 := Nat.pow_le_pow_right (n := 2) (by omega) hN
theorem p2_pos {N : Nat} : 0 < 2 ^ N := Nat.two_pow_pos N

set_option maxRecDepth 100000 in
set_option maxHeartbeats 4000000 in
theorem c_X9_road_no (E : En) (S : St)  (h : gA S 59 0 = 0) : CTe E i_X9_road S [.ref (eA E 58)] S (some (.int (-4))) := by
  refine ct_of [(0, .ref (eA E 58))] (by decide +kernel) (Nat.le_of_ble_eq_true rfl) rfl (fun X hM => ?_)
  refine g_aload_n (pc := 0) dX9_road_0 0 rfl rfl ?_
  refine gf_X9_7 (pc := 1) rfl dX9_road_1 ?_
  refine g_iconst (pc := 4) (v := 0) dX9_road_4 (by decide) ?_
  refine g_iald (pc := 5) 0 rfl rfl (by decide) (by decide) dX9_road_5 ?_
  refine g_if_ne (pc := 6) (tgt := 12) dX9_road_6 (by decide) (fun c_6 => ?_) (fun c_6 => ?_)
  · exact absurd h c_6
  · refine g_bipush (pc := 9) (v := -4) dX9_road_9 (by decide) ?_
    exact g_iret (pc := 11) hM rfl rfl ⟨rfl, rfl⟩ dX9_road_11
set_option maxRecDepth 100000 in
set_option maxHeartbeats 4000000 in
theorem c_X9_road_ok (E : En) (S : St)  (hz : okM S) (h : ¬ gA S 59 0 = 0) : CTe E i_X9_road S [.ref (eA E 58)] (sI (sA S 67 (brF S 10)) 58 7 (rdM (brF S 10) 1024).1) (some (.int ((rdM (brF S 10) 1024).2))) := by
  refine ct_of [(0, .ref (eA E 58))] (by decide +kernel) (Nat.le_of_ble_eq_true rfl) rfl (fun X hM => ?_)
  refine g_aload_n (pc := 0) dX9_road_0 0 rfl rfl ?_
  refine gf_X9_7 (pc := 1) rfl dX9_road_1 ?_
  refine g_iconst (pc := 4) (v := 0) dX9_road_4 (by decide) ?_
  refine g_iald (pc := 5) 0 rfl rfl (by decide) (by decide) dX9_road_5 ?_
  refine g_if_ne (pc := 6) (tgt := 12) dX9_road_6 (by decide) (fun c_6 => ?_) (fun c_6 => ?_)
  · refine g_iconst (pc := 12) (v := 0) dX9_road_12 (by decide) ?_
    refine g_istore_n (pc := 13) (L' := [(1, .int 0), (0, .ref (eA E 58))]) dX9_road_13 rfl (Nat.le_of_ble_eq_true rfl) rfl ?_
    have H_14 : ∀ n : Nat, n ≤ 10 → G E X i_X9_road (sA S 67 (brF S n)) 14 [(0, .ref (eA E 58)), (1, .int (nI n))] [] := by
      refine dn_ind 10 (fun n hn_14 ih_14 => ?_)
      refine g_iload_n (pc := 14) dX9_road_14 1 rfl rfl ?_
      refine g_bipush (pc := 15) (v := 10) dX9_road_15 (by decide) ?_
      refine g_icmp_ge (pc := 17) (tgt := 37) dX9_road_17 (by decide) (fun c_17 => ?_) (fun c_17 => ?_)
      · have k_17 := Int32.not_lt.mpr c_17
        have he_14 : n = 10 := Nat.le_antisymm hn_14 (by exact nle_of (N := 10) rfl rfl (by omega) (by omega) c_17)
        rw [he_14]
        refine g_iconst (pc := 37) (v := 0) dX9_road_37 (by decide) ?_
        refine g_istore_n (pc := 38) (L' := [(1, .int 0), (0, .ref (eA E 58))]) dX9_road_38 rfl (Nat.le_of_ble_eq_true rfl) rfl ?_
        refine g_ldc (pc := 39) kw_X9_183 dX9_road_39 ?_
        refine g_istore_n (pc := 41) (L' := [(2, .int 1000000), (1, .int 0), (0, .ref (eA E 58))]) dX9_road_41 rfl (Nat.le_of_ble_eq_true rfl) rfl ?_
        refine g_iconst (pc := 42) (v := 0) dX9_road_42 (by decide) ?_
        refine g_istore_n (pc := 43) (L' := [(3, .int 0), (2, .int 1000000), (1, .int 0), (0, .ref (eA E 58))]) dX9_road_43 rfl (Nat.le_of_ble_eq_true rfl) rfl ?_
        have H_44 : ∀ n : Nat, n ≤ 1024 → G E X i_X9_road (sA S 67 (brF S 10)) 44 [(0, .ref (eA E 58)), (1, .int ((rdM (brF S 10) n).1)), (2, .int ((rdM (brF S 10) n).2)), (3, .int (nI n))] [] := by
          refine dn_ind 1024 (fun n hn_44 ih_44 => ?_)
          refine g_iload_n (pc := 44) dX9_road_44 3 rfl rfl ?_
          refine g_sipush (pc := 45) (v := 1024) dX9_road_45 (by decide) ?_
          refine g_icmp_ge (pc := 48) (tgt := 166) dX9_road_48 (by decide) (fun c_48 => ?_) (fun c_48 => ?_)
          · have k_48 := Int32.not_lt.mpr c_48
            have he_44 : n = 1024 := Nat.le_antisymm hn_44 (by exact nle_of (N := 1024) rfl rfl (by omega) (by omega) c_48)
            rw [he_44]
            refine g_aload_n (pc := 166) dX9_road_166 0 rfl rfl ?_
            refine g_iload_n (pc := 167) dX9_road_167 1 rfl rfl ?_
            refine pf_X9_57 (pc := 168) rfl dX9_road_168 ?_
            refine g_iload_n (pc := 171) dX9_road_171 2 rfl rfl ?_
            exact g_iret (pc := 172) hM rfl rfl ⟨rfl, rfl⟩ dX9_road_172
          · have k_48 := Int32.not_le.mp c_48
            have hlt_44 : n < 1024 := by exact nlt_of (N := 1024) rfl rfl (by omega) (by omega) c_48
            refine g_iconst (pc := 51) (v := 0) dX9_road_51 (by decide) ?_
            refine g_istore (pc := 52) (L' := [(4, .int 0), (0, .ref (eA E 58)), (1, .int ((rdM (brF S 10) n).1)), (2, .int ((rdM (brF S 10) n).2)), (3, .int (nI n))]) dX9_road_52 (Nat.le_of_ble_eq_true rfl) rfl ?_
            refine g_iconst (pc := 54) (v := 0) dX9_road_54 (by decide) ?_
            refine g_istore (pc := 55) (L' := [(5, .int 0), (4, .int 0), (0, .ref (eA E 58)), (1, .int ((rdM (brF S 10) n).1)), (2, .int ((rdM (brF S 10) n).2)), (3, .int (nI n))]) dX9_road_55 (Nat.le_of_ble_eq_true rfl) rfl ?_
            have H_57 : ∀ j : Nat, j ≤ 10 → G E X i_X9_road (sA S 67 (brF S 10)) 57 [(0, .ref (eA E 58)), (1, .int ((rdM (brF S 10) n).1)), (2, .int ((rdM (brF S 10) n).2)), (3, .int (nI n)), (4, .int (wyM (brF S 10) (nI n) j)), (5, .int (nI j))] [] := by
              refine dn_ind 10 (fun j hn_57 ih_57 => ?_)
              refine g_iload (pc := 57) dX9_road_57 5 rfl ?_
              refine g_bipush (pc := 59) (v := 10) dX9_road_59 (by decide) ?_
              refine g_icmp_ge (pc := 61) (tgt := 135) dX9_road_61 (by decide) (fun c_61 => ?_) (fun c_61 => ?_)
              · have k_61 := Int32.not_lt.mpr c_61
                have he_57 : j = 10 := Nat.le_antisymm hn_57 (by exact nle_of (N := 10) rfl rfl (by omega) (by omega) c_61)
                rw [he_57]
                refine g_iload (pc := 135) dX9_road_135 4 rfl ?_
                refine g_iload_n (pc := 137) dX9_road_137 2 rfl rfl ?_
                refine g_icmp_ge (pc := 138) (tgt := 145) dX9_road_138 (by decide) (fun c_138 => ?_) (fun c_138 => ?_)
                · have k_138 := Int32.not_lt.mpr c_138
                  refine g_iload_n (pc := 145) dX9_road_145 1 rfl rfl ?_
                  refine g_istore_n (pc := 146) (L' := [(1, .int ((rdM (brF S 10) n).1)), (0, .ref (eA E 58)), (2, .int ((rdM (brF S 10) n).2)), (3, .int (nI n)), (4, .int (wyM (brF S 10) (nI n) 10)), (5, .int (nI 10))]) dX9_road_146 rfl (Nat.le_of_ble_eq_true rfl) rfl ?_
                  refine g_iload (pc := 147) dX9_road_147 4 rfl ?_
                  refine g_iload_n (pc := 149) dX9_road_149 2 rfl rfl ?_
                  refine g_icmp_ge (pc := 150) (tgt := 158) dX9_road_150 (by decide) (fun c_150 => ?_) (fun c_150 => ?_)
                  · have k_150 := Int32.not_lt.mpr c_150
                    refine g_iload_n (pc := 158) dX9_road_158 2 rfl rfl ?_
                    refine g_istore_n (pc := 159) (L' := [(2, .int ((rdM (brF S 10) n).2)), (1, .int ((rdM (brF S 10) n).1)), (0, .ref (eA E 58)), (3, .int (nI n)), (4, .int (wyM (brF S 10) (nI n) 10)), (5, .int (nI 10))]) dX9_road_159 rfl (Nat.le_of_ble_eq_true rfl) rfl ?_
                    refine g_iinc (pc := 160) (L' := [(3, .int (nI n + 1)), (2, .int ((rdM (brF S 10) n).2)), (1, .int ((rdM (brF S 10) n).1)), (0, .ref (eA E 58)), (4, .int (wyM (brF S 10) (nI n) 10)), (5, .int (nI 10))]) dX9_road_160 (k := 3) rfl (v := nI n + 1) rfl (Nat.le_of_ble_eq_true rfl) rfl ?_
                    refine g_goto (pc := 163) (tgt := 44) dX9_road_163 (by decide) ?_
                    refine g_sub (L' := [(0, .ref (eA E 58)), (1, .int ((rdM (brF S 10) n).1)), (2, .int ((rdM (brF S 10) n).2)), (3, .int (nI n + 1))]) [3, 2, 1, 0] rfl ?_
                    exact g_eq rfl (by rw [nI_1, show rdM (brF S 10) (n + 1) = rdM (brF S 10) n from if_neg k_138]) rfl (ih_44 hlt_44)
                  · have k_150 := Int32.not_le.mp c_150
                    exact absurd c_138 c_150
                · have k_138 := Int32.not_le.mp c_138
                  refine g_iload_n (pc := 141) dX9_road_141 3 rfl rfl ?_
                  refine g_goto (pc := 142) (tgt := 146) dX9_road_142 (by decide) ?_
                  refine g_istore_n (pc := 146) (L' := [(1, .int (nI n)), (0, .ref (eA E 58)), (2, .int ((rdM (brF S 10) n).2)), (3, .int (nI n)), (4, .int (wyM (brF S 10) (nI n) 10)), (5, .int (nI 10))]) dX9_road_146 rfl (Nat.le_of_ble_eq_true rfl) rfl ?_
                  refine g_iload (pc := 147) dX9_road_147 4 rfl ?_
                  refine g_iload_n (pc := 149) dX9_road_149 2 rfl rfl ?_
                  refine g_icmp_ge (pc := 150) (tgt := 158) dX9_road_150 (by decide) (fun c_150 => ?_) (fun c_150 => ?_)
                  · have k_150 := Int32.not_lt.mpr c_150
                    exact absurd c_150 c_138
                  · have k_150 := Int32.not_le.mp c_150
                    refine g_iload (pc := 153) dX9_road_153 4 rfl ?_
                    refine g_goto (pc := 155) (tgt := 159) dX9_road_155 (by decide) ?_
                    refine g_istore_n (pc := 159) (L' := [(2, .int (wyM (brF S 10) (nI n) 10)), (1, .int (nI n)), (0, .ref (eA E 58)), (3, .int (nI n)), (4, .int (wyM (brF S 10) (nI n) 10)), (5, .int (nI 10))]) dX9_road_159 rfl (Nat.le_of_ble_eq_true rfl) rfl ?_
                    refine g_iinc (pc := 160) (L' := [(3, .int (nI n + 1)), (2, .int (wyM (brF S 10) (nI n) 10)), (1, .int (nI n)), (0, .ref (eA E 58)), (4, .int (wyM (brF S 10) (nI n) 10)), (5, .int (nI 10))]) dX9_road_160 (k := 3) rfl (v := nI n + 1) rfl (Nat.le_of_ble_eq_true rfl) rfl ?_
                    refine g_goto (pc := 163) (tgt := 44) dX9_road_163 (by decide) ?_
                    refine g_sub (L' := [(0, .ref (eA E 58)), (1, .int (nI n)), (2, .int (wyM (brF S 10) (nI n) 10)), (3, .int (nI n + 1))]) [3, 2, 1, 0] rfl ?_
                    exact g_eq rfl (by rw [nI_1, show rdM (brF S 10) (n + 1) = (nI n, wyM (brF S 10) (nI n) 10) from if_pos k_138]) rfl (ih_44 hlt_44)
              · have k_61 := Int32.not_le.mp c_61
                have hlt_57 : j < 10 := by exact nlt_of (N := 10) rfl rfl (by omega) (by omega) c_61
                refine g_iload (pc := 64) dX9_road_64 4 rfl ?_
                refine g_iload_n (pc := 66) dX9_road_66 3 rfl rfl ?_
                refine g_iload (pc := 67) dX9_road_67 5 rfl ?_
                refine g_invS (pc := 69) j_X9_has mw_X9_143 dX9_road_69 (by rfl) (c_X9_has E (sA S 67 (brF S 10)) (nI n) (nI j) ) (Nat.le_of_ble_eq_true rfl) (Nat.le_of_ble_eq_true rfl) (by rfl) (Nat.le_of_ble_eq_true rfl) ?_
                refine g_b_eq (pc := 72) (tgt := 87) dX9_road_72 (by decide) (fun c_72 => ?_) (fun c_72 => ?_)
                · refine g_aload_n (pc := 87) dX9_road_87 0 rfl rfl ?_
                  refine gf_X9_38 (pc := 88) rfl dX9_road_88 ?_
                  refine g_iload (pc := 91) dX9_road_91 5 rfl ?_
                  refine g_iald (pc := 93) j rfl rfl (show j < 10 by omega) (by decide) dX9_road_93 ?_
                  rw [show gA (sA S 67 (brF S 10)) 67 j = (brF S 10) j from congrFun (gA_same _ _ _) j]
                  refine g_iadd (pc := 94) dX9_road_94 ?_
                  refine g_istore (pc := 95) (L' := [(4, .int (wyM (brF S 10) (nI n) j + (brF S 10) j)), (0, .ref (eA E 58)), (1, .int ((rdM (brF S 10) n).1)), (2, .int ((rdM (brF S 10) n).2)), (3, .int (nI n)), (5, .int (nI j))]) dX9_road_95 (Nat.le_of_ble_eq_true rfl) rfl ?_
                  refine g_iload (pc := 97) dX9_road_97 0 rfl ?_
                  refine g_iload (pc := 99) dX9_road_99 5 rfl ?_
                  refine g_if_le (pc := 101) (tgt := 125) dX9_road_101 (by decide) (fun c_101 => ?_) (fun c_101 => ?_)
                  · have k_101 := Int32.not_lt.mpr c_101
                    refine g_iconst (pc := 125) (v := 0) dX9_road_125 (by decide) ?_
                    refine g_iadd (pc := 126) dX9_road_126 ?_
                    refine g_istore (pc := 127) (L' := [(4, .int ((wyM (brF S 10) (nI n) j + (brF S 10) j) + 0)), (0, .ref (eA E 58)), (1, .int ((rdM (brF S 10) n).1)), (2, .int ((rdM (brF S 10) n).2)), (3, .int (nI n)), (5, .int (nI j))]) dX9_road_127 (Nat.le_of_ble_eq_true rfl) rfl ?_
                    refine g_iinc (pc := 129) (L' := [(5, .int (nI j + 1)), (4, .int ((wyM (brF S 10) (nI n) j + (brF S 10) j) + 0)), (0, .ref (eA E 58)), (1, .int ((rdM (brF S 10) n).1)), (2, .int ((rdM (brF S 10) n).2)), (3, .int (nI n))]) dX9_road_129 (k := 5) rfl (v := nI j + 1) rfl (Nat.le_of_ble_eq_true rfl) rfl ?_
                    refine g_goto (pc := 132) (tgt := 57) dX9_road_132 (by decide) ?_
                    refine g_sub (L' := [(0, .ref (eA E 58)), (1, .int ((rdM (brF S 10) n).1)), (2, .int ((rdM (brF S 10) n).2)), (3, .int (nI n)), (4, .int ((wyM (brF S 10) (nI n) j + (brF S 10) j) + 0)), (5, .int (nI j + 1))]) [2, 3, 4, 5, 1, 0] rfl ?_
                    exact g_eq rfl (by rw [nI_1, wyM, if_neg (by rw [c_72]; decide), if_neg (fun q => absurd c_101 (Int32.not_le.mpr (nI_gt0 q.1 (by omega))))]) rfl (ih_57 hlt_57)
                  · have k_101 := Int32.not_le.mp c_101
                    refine g_iload_n (pc := 104) dX9_road_104 4 rfl rfl ?_
                    refine g_iload (pc := 105) dX9_road_105 5 rfl ?_
                    refine g_invS (pc := 107) j_X9_has mw_X9_143 dX9_road_107 (by rfl) (c_X9_has E (sA S 67 (brF S 10)) (nI n) (nI j) ) (Nat.le_of_ble_eq_true rfl) (Nat.le_of_ble_eq_true rfl) (by rfl) (Nat.le_of_ble_eq_true rfl) ?_
                    refine g_iload_n (pc := 110) dX9_road_110 4 rfl rfl ?_
                    refine g_iload (pc := 111) dX9_road_111 5 rfl ?_
                    refine g_iconst (pc := 113) (v := 1) dX9_road_113 (by decide) ?_
                    refine g_isub (pc := 114) dX9_road_114 ?_
                    refine g_invS (pc := 115) j_X9_has mw_X9_143 dX9_road_115 (by rfl) (c_X9_has E (sA S 67 (brF S 10)) (nI n) (nI j - 1) ) (Nat.le_of_ble_eq_true rfl) (Nat.le_of_ble_eq_true rfl) (by rfl) (Nat.le_of_ble_eq_true rfl) ?_
                    refine g_icmp_eq (pc := 118) (tgt := 125) dX9_road_118 (by decide) (fun c_118 => ?_) (fun c_118 => ?_)
                    · refine g_iconst (pc := 125) (v := 0) dX9_road_125 (by decide) ?_
                      refine g_iadd (pc := 126) dX9_road_126 ?_
                      refine g_istore (pc := 127) (L' := [(4, .int ((wyM (brF S 10) (nI n) j + (brF S 10) j) + 0)), (0, .ref (eA E 58)), (1, .int ((rdM (brF S 10) n).1)), (2, .int ((rdM (brF S 10) n).2)), (3, .int (nI n)), (5, .int (nI j))]) dX9_road_127 (Nat.le_of_ble_eq_true rfl) rfl ?_
                      refine g_iinc (pc := 129) (L' := [(5, .int (nI j + 1)), (4, .int ((wyM (brF S 10) (nI n) j + (brF S 10) j) + 0)), (0, .ref (eA E 58)), (1, .int ((rdM (brF S 10) n).1)), (2, .int ((rdM (brF S 10) n).2)), (3, .int (nI n))]) dX9_road_129 (k := 5) rfl (v := nI j + 1) rfl (Nat.le_of_ble_eq_true rfl) rfl ?_
                      refine g_goto (pc := 132) (tgt := 57) dX9_road_132 (by decide) ?_
                      refine g_sub (L' := [(0, .ref (eA E 58)), (1, .int ((rdM (brF S 10) n).1)), (2, .int ((rdM (brF S 10) n).2)), (3, .int (nI n)), (4, .int ((wyM (brF S 10) (nI n) j + (brF S 10) j) + 0)), (5, .int (nI j + 1))]) [2, 3, 4, 5, 1, 0] rfl ?_
                      exact g_eq rfl (by rw [nI_1, wyM, if_neg (by rw [c_72]; decide), if_neg (fun q => q.2 (bI_inj.mp c_118))]) rfl (ih_57 hlt_57)
                    · refine g_iconst (pc := 121) (v := 3) dX9_road_121 (by decide) ?_
                      refine g_goto (pc := 122) (tgt := 126) dX9_road_122 (by decide) ?_
                      refine g_iadd (pc := 126) dX9_road_126 ?_
                      refine g_istore (pc := 127) (L' := [(4, .int ((wyM (brF S 10) (nI n) j + (brF S 10) j) + 3)), (0, .ref (eA E 58)), (1, .int ((rdM (brF S 10) n).1)), (2, .int ((rdM (brF S 10) n).2)), (3, .int (nI n)), (5, .int (nI j))]) dX9_road_127 (Nat.le_of_ble_eq_true rfl) rfl ?_
                      refine g_iinc (pc := 129) (L' := [(5, .int (nI j + 1)), (4, .int ((wyM (brF S 10) (nI n) j + (brF S 10) j) + 3)), (0, .ref (eA E 58)), (1, .int ((rdM (brF S 10) n).1)), (2, .int ((rdM (brF S 10) n).2)), (3, .int (nI n))]) dX9_road_129 (k := 5) rfl (v := nI j + 1) rfl (Nat.le_of_ble_eq_true rfl) rfl ?_
                      refine g_goto (pc := 132) (tgt := 57) dX9_road_132 (by decide) ?_
                      refine g_sub (L' := [(0, .ref (eA E 58)), (1, .int ((rdM (brF S 10) n).1)), (2, .int ((rdM (brF S 10) n).2)), (3, .int (nI n)), (4, .int ((wyM (brF S 10) (nI n) j + (brF S 10) j) + 3)), (5, .int (nI j + 1))]) [2, 3, 4, 5, 1, 0] rfl ?_
                      exact g_eq rfl (by rw [nI_1, wyM, if_neg (by rw [c_72]; decide), if_pos ⟨(nI_ltI (a := 0) (by omega) (by omega)).mp k_101, fun q => c_118 (by rw [q])⟩]) rfl (ih_57 hlt_57)
                · refine g_aload_n (pc := 75) dX9_road_75 0 rfl rfl ?_
                  refine gf_X9_38 (pc := 76) rfl dX9_road_76 ?_
                  refine g_iload (pc := 79) dX9_road_79 5 rfl ?_
                  refine g_iald (pc := 81) j rfl rfl (show j < 10 by omega) (by decide) dX9_road_81 ?_
                  rw [show gA (sA S 67 (brF S 10)) 67 j = (brF S 10) j from congrFun (gA_same _ _ _) j]
                  refine g_iconst (pc := 82) (v := 2) dX9_road_82 (by decide) ?_
                  refine g_idiv (pc := 83) dX9_road_83 (by decide) ?_
                  refine g_goto (pc := 84) (tgt := 94) dX9_road_84 (by decide) ?_
                  refine g_iadd (pc := 94) dX9_road_94 ?_
                  refine g_istore (pc := 95) (L' := [(4, .int (wyM (brF S 10) (nI n) j + ((brF S 10) j / 2))), (0, .ref (eA E 58)), (1, .int ((rdM (brF S 10) n).1)), (2, .int ((rdM (brF S 10) n).2)), (3, .int (nI n)), (5, .int (nI j))]) dX9_road_95 (Nat.le_of_ble_eq_true rfl) rfl ?_
                  refine g_iload (pc := 97) dX9_road_97 0 rfl ?_
                  refine g_iload (pc := 99) dX9_road_99 5 rfl ?_
                  refine g_if_le (pc := 101) (tgt := 125) dX9_road_101 (by decide) (fun c_101 => ?_) (fun c_101 => ?_)
                  · have k_101 := Int32.not_lt.mpr c_101
                    refine g_iconst (pc := 125) (v := 0) dX9_road_125 (by decide) ?_
                    refine g_iadd (pc := 126) dX9_road_126 ?_
                    refine g_istore (pc := 127) (L' := [(4, .int ((wyM (brF S 10) (nI n) j + ((brF S 10) j / 2)) + 0)), (0, .ref (eA E 58)), (1, .int ((rdM (brF S 10) n).1)), (2, .int ((rdM (brF S 10) n).2)), (3, .int (nI n)), (5, .int (nI j))]) dX9_road_127 (Nat.le_of_ble_eq_true rfl) rfl ?_
                    refine g_iinc (pc := 129) (L' := [(5, .int (nI j + 1)), (4, .int ((wyM (brF S 10) (nI n) j + ((brF S 10) j / 2)) + 0)), (0, .ref (eA E 58)), (1, .int ((rdM (brF S 10) n).1)), (2, .int ((rdM (brF S 10) n).2)), (3, .int (nI n))]) dX9_road_129 (k := 5) rfl (v := nI j + 1) rfl (Nat.le_of_ble_eq_true rfl) rfl ?_
                    refine g_goto (pc := 132) (tgt := 57) dX9_road_132 (by decide) ?_
                    refine g_sub (L' := [(0, .ref (eA E 58)), (1, .int ((rdM (brF S 10) n).1)), (2, .int ((rdM (brF S 10) n).2)), (3, .int (nI n)), (4, .int ((wyM (brF S 10) (nI n) j + ((brF S 10) j / 2)) + 0)), (5, .int (nI j + 1))]) [2, 3, 4, 5, 1, 0] rfl ?_
                    exact g_eq rfl (by rw [nI_1, wyM, if_pos c_72, if_neg (fun q => absurd c_101 (Int32.not_le.mpr (nI_gt0 q.1 (by omega))))]) rfl (ih_57 hlt_57)
                  · have k_101 := Int32.not_le.mp c_101
                    refine g_iload_n (pc := 104) dX9_road_104 4 rfl rfl ?_
                    refine g_iload (pc := 105) dX9_road_105 5 rfl ?_
                    refine g_invS (pc := 107) j_X9_has mw_X9_143 dX9_road_107 (by rfl) (c_X9_has E (sA S 67 (brF S 10)) (nI n) (nI j) ) (Nat.le_of_ble_eq_true rfl) (Nat.le_of_ble_eq_true rfl) (by rfl) (Nat.le_of_ble_eq_true rfl) ?_
                    refine g_iload_n (pc := 110) dX9_road_110 4 rfl rfl ?_
                    refine g_iload (pc := 111) dX9_road_111 5 rfl ?_
                    refine g_iconst (pc := 113) (v := 1) dX9_road_113 (by decide) ?_
                    refine g_isub (pc := 114) dX9_road_114 ?_
                    refine g_invS (pc := 115) j_X9_has mw_X9_143 dX9_road_115 (by rfl) (c_X9_has E (sA S 67 (brF S 10)) (nI n) (nI j - 1) ) (Nat.le_of_ble_eq_true rfl) (Nat.le_of_ble_eq_true rfl) (by rfl) (Nat.le_of_ble_eq_true rfl) ?_
                    refine g_icmp_eq (pc := 118) (tgt := 125) dX9_road_118 (by decide) (fun c_118 => ?_) (fun c_118 => ?_)
                    · refine g_iconst (pc := 125) (v := 0) dX9_road_125 (by decide) ?_
                      refine g_iadd (pc := 126) dX9_road_126 ?_
                      refine g_istore (pc := 127) (L' := [(4, .int ((wyM (brF S 10) (nI n) j + ((brF S 10) j / 2)) + 0)), (0, .ref (eA E 58)), (1, .int ((rdM (brF S 10) n).1)), (2, .int ((rdM (brF S 10) n).2)), (3, .int (nI n)), (5, .int (nI j))]) dX9_road_127 (Nat.le_of_ble_eq_true rfl) rfl ?_
                      refine g_iinc (pc := 129) (L' := [(5, .int (nI j + 1)), (4, .int ((wyM (brF S 10) (nI n) j + ((brF S 10) j / 2)) + 0)), (0, .ref (eA E 58)), (1, .int ((rdM (brF S 10) n).1)), (2, .int ((rdM (brF S 10) n).2)), (3, .int (nI n))]) dX9_road_129 (k := 5) rfl (v := nI j + 1) rfl (Nat.le_of_ble_eq_true rfl) rfl ?_
                      refine g_goto (pc := 132) (tgt := 57) dX9_road_132 (by decide) ?_
                      refine g_sub (L' := [(0, .ref (eA E 58)), (1, .int ((rdM (brF S 10) n).1)), (2, .int ((rdM (brF S 10) n).2)), (3, .int (nI n)), (4, .int ((wyM (brF S 10) (nI n) j + ((brF S 10) j / 2)) + 0)), (5, .int (nI j + 1))]) [2, 3, 4, 5, 1, 0] rfl ?_
                      exact g_eq rfl (by rw [nI_1, wyM, if_pos c_72, if_neg (fun q => q.2 (bI_inj.mp c_118))]) rfl (ih_57 hlt_57)
                    · refine g_iconst (pc := 121) (v := 3) dX9_road_121 (by decide) ?_
                      refine g_goto (pc := 122) (tgt := 126) dX9_road_122 (by decide) ?_
                      refine g_iadd (pc := 126) dX9_road_126 ?_
                      refine g_istore (pc := 127) (L' := [(4, .int ((wyM (brF S 10) (nI n) j + ((brF S 10) j / 2)) + 3)), (0, .ref (eA E 58)), (1, .int ((rdM (brF S 10) n).1)), (2, .int ((rdM (brF S 10) n).2)), (3, .int (nI n)), (5, .int (nI j))]) dX9_road_127 (Nat.le_of_ble_eq_true rfl) rfl ?_
                      refine g_iinc (pc := 129) (L' := [(5, .int (nI j + 1)), (4, .int ((wyM (brF S 10) (nI n) j + ((brF S 10) j / 2)) + 3)), (0, .ref (eA E 58)), (1, .int ((rdM (brF S 10) n).1)), (2, .int ((rdM (brF S 10) n).2)), (3, .int (nI n))]) dX9_road_129 (k := 5) rfl (v := nI j + 1) rfl (Nat.le_of_ble_eq_true rfl) rfl ?_
                      refine g_goto (pc := 132) (tgt := 57) dX9_road_132 (by decide) ?_
                      refine g_sub (L' := [(0, .ref (eA E 58)), (1, .int ((rdM (brF S 10) n).1)), (2, .int ((rdM (brF S 10) n).2)), (3, .int (nI n)), (4, .int ((wyM (brF S 10) (nI n) j + ((brF S 10) j / 2)) + 3)), (5, .int (nI j + 1))]) [2, 3, 4, 5, 1, 0] rfl ?_
                      exact g_eq rfl (by rw [nI_1, wyM, if_pos c_72, if_pos ⟨(nI_ltI (a := 0) (by omega) (by omega)).mp k_101, fun q => c_118 (by rw [q])⟩]) rfl (ih_57 hlt_57)
            refine g_sub (L' := [(0, .ref (eA E 58)), (1, .int ((rdM (brF S 10) n).1)), (2, .int ((rdM (brF S 10) n).2)), (3, .int (nI n)), (4, .int 0), (5, .int 0)]) [2, 3, 4, 5, 1, 0] rfl ?_
            exact g_eq rfl rfl rfl (H_57 0 (Nat.zero_le _))
        refine g_sub (L' := [(0, .ref (eA E 58)), (1, .int 0), (2, .int 1000000), (3, .int 0)]) [3, 2, 1, 0] rfl ?_
        exact g_eq rfl rfl rfl (H_44 0 (Nat.zero_le _))
      · have k_17 := Int32.not_le.mp c_17
        have hlt_14 : n < 10 := by exact nlt_of (N := 10) rfl rfl (by omega) (by omega) c_17
        refine g_aload_n (pc := 20) dX9_road_20 0 rfl rfl ?_
        refine gf_X9_38 (pc := 21) rfl dX9_road_21 ?_
        refine g_iload_n (pc := 24) dX9_road_24 1 rfl rfl ?_
        refine g_aload_n (pc := 25) dX9_road_25 0 rfl rfl ?_
        refine g_iload_n (pc := 26) dX9_road_26 1 rfl rfl ?_
        refine g_invV (pc := 27) j_X9_brightNow mw_X9_175 dX9_road_27 (rcv_X9) (by rfl) (c_X9_brightNow E (sA S 67 (brF S n)) (nI n) (okM_w rfl hz)) (Nat.le_of_ble_eq_true rfl) (Nat.le_of_ble_eq_true rfl) (by rfl) (Nat.le_of_ble_eq_true rfl) ?_
        rw [brM_w (S := S) (T := sA S 67 (brF S n)) rfl]
        refine g_iast (pc := 30) n rfl rfl (show n < 10 by omega) (by decide) dX9_road_30 ?_
        refine g_iinc (pc := 31) (L' := [(1, .int (nI n + 1)), (0, .ref (eA E 58))]) dX9_road_31 (k := 1) rfl (v := nI n + 1) rfl (Nat.le_of_ble_eq_true rfl) rfl ?_
        refine g_goto (pc := 34) (tgt := 14) dX9_road_34 (by decide) ?_
        refine g_sub (L' := [(0, .ref (eA E 58)), (1, .int (nI n + 1))]) [1, 0] rfl ?_
        exact g_eq (by rw [sA_sA, gA_same]; rfl) (by simp only [nI_1]) rfl (ih_14 hlt_14)
    refine g_sub (L' := [(0, .ref (eA E 58)), (1, .int 0)]) [1, 0] rfl ?_
    exact g_eq (sA_self S 67).symm rfl rfl (H_14 0 (Nat.zero_le _))
  · exact absurd c_6 h
set_option maxRecDepth 100000 in
set_option maxHeartbeats 4000000 in
theorem c_X9_isForged (E : En) (S : St) (k : Nat) (hk : k < 8) : CTe E i_X9_isForged S [.ref (eA E 58), .int (nI k)] S (some (.int (bI (isFoM S k)))) := by
  refine ct_of [(0, .ref (eA E 58)), (1, .int (nI k))] (by decide +kernel) (Nat.le_of_ble_eq_true rfl) rfl (fun X hM => ?_)
  refine g_aload_n (pc := 0) dX9_isForged_0 0 rfl rfl ?_
  refine gf_X9_7 (pc := 1) rfl dX9_isForged_1 ?_
  refine g_bipush (pc := 4) (v := 11) dX9_isForged_4 (by decide) ?_
  refine g_iload_n (pc := 6) dX9_isForged_6 1 rfl rfl ?_
  refine g_iadd (pc := 7) dX9_isForged_7 ?_
  refine g_iald (pc := 8) (11 + k) (nI_aE rfl rfl) rfl (show 11 + k < 1776 by omega) (by decide) dX9_isForged_8 ?_
  refine g_iconst (pc := 9) (v := 3) dX9_isForged_9 (by decide) ?_
  refine g_icmp_eq (pc := 10) (tgt := 26) dX9_isForged_10 (by decide) (fun c_10 => ?_) (fun c_10 => ?_)
  · refine g_iconst (pc := 26) (v := 1) dX9_isForged_26 (by decide) ?_
    refine g_goto (pc := 27) (tgt := 31) dX9_isForged_27 (by decide) ?_
    exact g_iret (pc := 31) hM rfl rfl ⟨rfl, some_int (by simp only [isFoM, eq_true c_10, if_true, if_false, Bool.false_eq_true, Bool.not_true, Bool.not_false, Bool.and_true, Bool.true_and, Bool.and_false, Bool.false_and, Bool.or_true, Bool.true_or, Bool.or_false, Bool.false_or, decide_true, decide_false, Bool.and_self]; rfl)⟩ dX9_isForged_31
  · refine g_aload_n (pc := 13) dX9_isForged_13 0 rfl rfl ?_
    refine gf_X9_7 (pc := 14) rfl dX9_isForged_14 ?_
    refine g_bipush (pc := 17) (v := 11) dX9_isForged_17 (by decide) ?_
    refine g_iload_n (pc := 19) dX9_isForged_19 1 rfl rfl ?_
    refine g_iadd (pc := 20) dX9_isForged_20 ?_
    refine g_iald (pc := 21) (11 + k) (nI_aE rfl rfl) rfl (show 11 + k < 1776 by omega) (by decide) dX9_isForged_21 ?_
    refine g_iconst (pc := 22) (v := 5) dX9_isForged_22 (by decide) ?_
    refine g_icmp_ne (pc := 23) (tgt := 30) dX9_isForged_23 (by decide) (fun c_23 => ?_) (fun c_23 => ?_)
    · refine g_iconst (pc := 30) (v := 0) dX9_isForged_30 (by decide) ?_
      exact g_iret (pc := 31) hM rfl rfl ⟨rfl, some_int (by simp only [isFoM, c_10, c_23, if_true, if_false, Bool.false_eq_true, Bool.not_true, Bool.not_false, Bool.and_true, Bool.true_and, Bool.and_false, Bool.false_and, Bool.or_true, Bool.true_or, Bool.or_false, Bool.false_or, decide_true, decide_false, Bool.and_self]; rfl)⟩ dX9_isForged_31
    · refine g_iconst (pc := 26) (v := 1) dX9_isForged_26 (by decide) ?_
      refine g_goto (pc := 27) (tgt := 31) dX9_isForged_27 (by decide) ?_
      exact g_iret (pc := 31) hM rfl rfl ⟨rfl, some_int (by simp only [isFoM, c_10, eq_true c_23, if_true, if_false, Bool.false_eq_true, Bool.not_true, Bool.not_false, Bool.and_true, Bool.true_and, Bool.and_false, Bool.false_and, Bool.or_true, Bool.true_or, Bool.or_false, Bool.false_or, decide_true, decide_false, Bool.and_self]; rfl)⟩ dX9_isForged_31
set_option maxRecDepth 100000 in
set_option maxHeartbeats 4000000 in
theorem c_X9_debts (E : En) (S : St)  (hz : okM S) : CTe E i_X9_debts S [.ref (eA E 58)] S (some (.int (dbM S))) := by
  have hz8 := hz.2
  refine ct_of [(0, .ref (eA E 58))] (by decide +kernel) (Nat.le_of_ble_eq_true rfl) rfl (fun X hM => ?_)
  refine g_iconst (pc := 0) (v := 0) dX9_debts_0 (by decide) ?_
  refine g_istore_n (pc := 1) (L' := [(1, .int 0), (0, .ref (eA E 58))]) dX9_debts_1 rfl (Nat.le_of_ble_eq_true rfl) rfl ?_
  refine g_iconst (pc := 2) (v := 0) dX9_debts_2 (by decide) ?_
  refine g_istore_n (pc := 3) (L' := [(2, .int 0), (1, .int 0), (0, .ref (eA E 58))]) dX9_debts_3 rfl (Nat.le_of_ble_eq_true rfl) rfl ?_
  have H_4 : ∀ n : Nat, n ≤ (nM S) → G E X i_X9_debts S 4 [(0, .ref (eA E 58)), (1, .int (dbR S n)), (2, .int (nI n))] [] := by
    refine dn_ind (nM S) (fun n hn_4 ih_4 => ?_)
    refine g_iload_n (pc := 4) dX9_debts_4 2 rfl rfl ?_
    refine g_aload_n (pc := 5) dX9_debts_5 0 rfl rfl ?_
    refine gf_X9_7 (pc := 6) rfl dX9_debts_6 ?_
    refine g_iconst (pc := 9) (v := 0) dX9_debts_9 (by decide) ?_
    refine g_iald (pc := 10) 0 rfl rfl (by decide) (by decide) dX9_debts_10 ?_
    refine g_icmp_ge (pc := 11) (tgt := 51) dX9_debts_11 (by decide) (fun c_11 => ?_) (fun c_11 => ?_)
    · have k_11 := Int32.not_lt.mpr c_11
      have he_4 : n = (nM S) := Nat.le_antisymm hn_4 (by exact nle_of (N := nM S) rfl hz.1 (by omega) (by omega) c_11)
      rw [he_4]
      refine g_iload_n (pc := 51) dX9_debts_51 1 rfl rfl ?_
      exact g_iret (pc := 52) hM rfl rfl ⟨rfl, rfl⟩ dX9_debts_52
    · have k_11 := Int32.not_le.mp c_11
      have hlt_4 : n < (nM S) := by exact nlt_of (N := nM S) rfl hz.1 (by omega) (by omega) c_11
      refine g_iload_n (pc := 14) dX9_debts_14 1 rfl rfl ?_
      refine g_aload_n (pc := 15) dX9_debts_15 0 rfl rfl ?_
      refine gf_X9_7 (pc := 16) rfl dX9_debts_16 ?_
      refine g_iconst (pc := 19) (v := 2) dX9_debts_19 (by decide) ?_
      refine g_iald (pc := 20) 2 rfl rfl (by decide) (by decide) dX9_debts_20 ?_
      refine g_iload_n (pc := 21) dX9_debts_21 2 rfl rfl ?_
      refine g_invS (pc := 22) j_X9_has mw_X9_143 dX9_debts_22 (by rfl) (c_X9_has E S (gA S 59 2) (nI n) ) (Nat.le_of_ble_eq_true rfl) (Nat.le_of_ble_eq_true rfl) (by rfl) (Nat.le_of_ble_eq_true rfl) ?_
      refine g_b_eq (pc := 25) (tgt := 42) dX9_debts_25 (by decide) (fun c_25 => ?_) (fun c_25 => ?_)
      · refine g_iconst (pc := 42) (v := 0) dX9_debts_42 (by decide) ?_
        refine g_ior (pc := 43) dX9_debts_43 ?_
        refine g_istore_n (pc := 44) (L' := [(1, .int (dbR S n ||| 0)), (0, .ref (eA E 58)), (2, .int (nI n))]) dX9_debts_44 rfl (Nat.le_of_ble_eq_true rfl) rfl ?_
        refine g_iinc (pc := 45) (L' := [(2, .int (nI n + 1)), (1, .int (dbR S n ||| 0)), (0, .ref (eA E 58))]) dX9_debts_45 (k := 2) rfl (v := nI n + 1) rfl (Nat.le_of_ble_eq_true rfl) rfl ?_
        refine g_goto (pc := 48) (tgt := 4) dX9_debts_48 (by decide) ?_
        refine g_sub (L' := [(0, .ref (eA E 58)), (1, .int (dbR S n ||| 0)), (2, .int (nI n + 1))]) [2, 1, 0] rfl ?_
        exact g_eq rfl (by rw [nI_1, dbR]; simp only [c_25, if_true, if_false, Bool.false_eq_true, Bool.not_true, Bool.not_false, Bool.and_true, Bool.true_and, Bool.and_false, Bool.false_and, Bool.or_true, Bool.true_or, Bool.or_false, Bool.false_or, decide_true, decide_false, Bool.and_self]) rfl (ih_4 hlt_4)
      · refine g_aload_n (pc := 28) dX9_debts_28 0 rfl rfl ?_
        refine g_iload_n (pc := 29) dX9_debts_29 2 rfl rfl ?_
        refine g_invV (pc := 30) j_X9_isForged mw_X9_186 dX9_debts_30 (rcv_X9) (by rfl) (c_X9_isForged E S n (by omega)) (Nat.le_of_ble_eq_true rfl) (Nat.le_of_ble_eq_true rfl) (by rfl) (Nat.le_of_ble_eq_true rfl) ?_
        refine g_b_ne (pc := 33) (tgt := 42) dX9_debts_33 (by decide) (fun c_33 => ?_) (fun c_33 => ?_)
        · refine g_iconst (pc := 42) (v := 0) dX9_debts_42 (by decide) ?_
          refine g_ior (pc := 43) dX9_debts_43 ?_
          refine g_istore_n (pc := 44) (L' := [(1, .int (dbR S n ||| 0)), (0, .ref (eA E 58)), (2, .int (nI n))]) dX9_debts_44 rfl (Nat.le_of_ble_eq_true rfl) rfl ?_
          refine g_iinc (pc := 45) (L' := [(2, .int (nI n + 1)), (1, .int (dbR S n ||| 0)), (0, .ref (eA E 58))]) dX9_debts_45 (k := 2) rfl (v := nI n + 1) rfl (Nat.le_of_ble_eq_true rfl) rfl ?_
          refine g_goto (pc := 48) (tgt := 4) dX9_debts_48 (by decide) ?_
          refine g_sub (L' := [(0, .ref (eA E 58)), (1, .int (dbR S n ||| 0)), (2, .int (nI n + 1))]) [2, 1, 0] rfl ?_
          exact g_eq rfl (by rw [nI_1, dbR]; simp only [c_25, c_33, if_true, if_false, Bool.false_eq_true, Bool.not_true, Bool.not_false, Bool.and_true, Bool.true_and, Bool.and_false, Bool.false_and, Bool.or_true, Bool.true_or, Bool.or_false, Bool.false_or, decide_true, decide_false, Bool.and_self]) rfl (ih_4 hlt_4)
        · refine g_iconst (pc := 36) (v := 1) dX9_debts_36 (by decide) ?_
          refine g_iload_n (pc := 37) dX9_debts_37 2 rfl rfl ?_
          refine g_ishl (pc := 38) dX9_debts_38 ?_
          refine g_goto (pc := 39) (tgt := 43) dX9_debts_39 (by decide) ?_
          refine g_ior (pc := 43) dX9_debts_43 ?_
          refine g_istore_n (pc := 44) (L' := [(1, .int (dbR S n ||| ((1 : Int32) <<< ((nI n) &&& 31)))), (0, .ref (eA E 58)), (2, .int (nI n))]) dX9_debts_44 rfl (Nat.le_of_ble_eq_true rfl) rfl ?_
          refine g_iinc (pc := 45) (L' := [(2, .int (nI n + 1)), (1, .int (dbR S n ||| ((1 : Int32) <<< ((nI n) &&& 31)))), (0, .ref (eA E 58))]) dX9_debts_45 (k := 2) rfl (v := nI n + 1) rfl (Nat.le_of_ble_eq_true rfl) rfl ?_
          refine g_goto (pc := 48) (tgt := 4) dX9_debts_48 (by decide) ?_
          refine g_sub (L' := [(0, .ref (eA E 58)), (1, .int (dbR S n ||| ((1 : Int32) <<< ((nI n) &&& 31)))), (2, .int (nI n + 1))]) [2, 1, 0] rfl ?_
          exact g_eq rfl (by rw [nI_1, dbR]; simp only [c_25, c_33, if_true, if_false, Bool.false_eq_true, Bool.not_true, Bool.not_false, Bool.and_true, Bool.true_and, Bool.and_false, Bool.false_and, Bool.or_true, Bool.true_or, Bool.or_false, Bool.false_or, decide_true, decide_false, Bool.and_self]) rfl (ih_4 hlt_4)
  refine g_sub (L' := [(0, .ref (eA E 58)), (1, .int 0), (2, .int 0)]) [2, 1, 0] rfl ?_
  exact g_eq rfl rfl rfl (H_4 0 (Nat.zero_le _))
set_option maxRecDepth 100000 in
set_option maxHeartbeats 4000000 in
theorem c_X9_owesBy (E : En) (S : St) (x set : Int32) (hz : okM S) : CTe E i_X9_owesBy S [.ref (eA E 58), .int x, .int set] S (some (.int (obM S x set))) := by
  have hz8 := hz.2
  refine ct_of [(0, .ref (eA E 58)), (1, .int x), (2, .int set)] (by decide +kernel) (Nat.le_of_ble_eq_true rfl) rfl (fun X hM => ?_)
  refine g_iconst (pc := 0) (v := 0) dX9_owesBy_0 (by decide) ?_
  refine g_istore_n (pc := 1) (L' := [(3, .int 0), (0, .ref (eA E 58)), (1, .int x), (2, .int set)]) dX9_owesBy_1 rfl (Nat.le_of_ble_eq_true rfl) rfl ?_
  refine g_iconst (pc := 2) (v := 0) dX9_owesBy_2 (by decide) ?_
  refine g_istore (pc := 3) (L' := [(4, .int 0), (3, .int 0), (0, .ref (eA E 58)), (1, .int x), (2, .int set)]) dX9_owesBy_3 (Nat.le_of_ble_eq_true rfl) rfl ?_
  have H_5 : ∀ n : Nat, n ≤ (nM S) → G E X i_X9_owesBy S 5 [(0, .ref (eA E 58)), (1, .int x), (2, .int set), (3, .int (obR S x set n)), (4, .int (nI n))] [] := by
    refine dn_ind (nM S) (fun n hn_5 ih_5 => ?_)
    refine g_iload (pc := 5) dX9_owesBy_5 4 rfl ?_
    refine g_aload_n (pc := 7) dX9_owesBy_7 0 rfl rfl ?_
    refine gf_X9_7 (pc := 8) rfl dX9_owesBy_8 ?_
    refine g_iconst (pc := 11) (v := 0) dX9_owesBy_11 (by decide) ?_
    refine g_iald (pc := 12) 0 rfl rfl (by decide) (by decide) dX9_owesBy_12 ?_
    refine g_icmp_ge (pc := 13) (tgt := 84) dX9_owesBy_13 (by decide) (fun c_13 => ?_) (fun c_13 => ?_)
    · have k_13 := Int32.not_lt.mpr c_13
      have he_5 : n = (nM S) := Nat.le_antisymm hn_5 (by exact nle_of (N := nM S) rfl hz.1 (by omega) (by omega) c_13)
      rw [he_5]
      refine g_iload_n (pc := 84) dX9_owesBy_84 3 rfl rfl ?_
      exact g_iret (pc := 85) hM rfl rfl ⟨rfl, rfl⟩ dX9_owesBy_85
    · have k_13 := Int32.not_le.mp c_13
      have hlt_5 : n < (nM S) := by exact nlt_of (N := nM S) rfl hz.1 (by omega) (by omega) c_13
      refine g_iload_n (pc := 16) dX9_owesBy_16 3 rfl rfl ?_
      refine g_iload_n (pc := 17) dX9_owesBy_17 2 rfl rfl ?_
      refine g_iload (pc := 18) dX9_owesBy_18 4 rfl ?_
      refine g_invS (pc := 20) j_X9_has mw_X9_143 dX9_owesBy_20 (by rfl) (c_X9_has E S set (nI n) ) (Nat.le_of_ble_eq_true rfl) (Nat.le_of_ble_eq_true rfl) (by rfl) (Nat.le_of_ble_eq_true rfl) ?_
      refine g_b_eq (pc := 23) (tgt := 44) dX9_owesBy_23 (by decide) (fun c_23 => ?_) (fun c_23 => ?_)
      · refine g_iconst (pc := 44) (v := 0) dX9_owesBy_44 (by decide) ?_
        refine g_iadd (pc := 45) dX9_owesBy_45 ?_
        refine g_istore_n (pc := 46) (L' := [(3, .int (obR S x set n + 0)), (0, .ref (eA E 58)), (1, .int x), (2, .int set), (4, .int (nI n))]) dX9_owesBy_46 rfl (Nat.le_of_ble_eq_true rfl) rfl ?_
        refine g_iload_n (pc := 47) dX9_owesBy_47 0 rfl rfl ?_
        refine g_iload_n (pc := 48) dX9_owesBy_48 3 rfl rfl ?_
        refine g_iload (pc := 49) dX9_owesBy_49 4 rfl ?_
        refine g_invS (pc := 51) j_X9_has mw_X9_143 dX9_owesBy_51 (by rfl) (c_X9_has E S set (nI n) ) (Nat.le_of_ble_eq_true rfl) (Nat.le_of_ble_eq_true rfl) (by rfl) (Nat.le_of_ble_eq_true rfl) ?_
        refine g_b_eq (pc := 54) (tgt := 75) dX9_owesBy_54 (by decide) (fun c_54 => ?_) (fun c_54 => ?_)
        · refine g_iconst (pc := 75) (v := 0) dX9_owesBy_75 (by decide) ?_
          refine g_isub (pc := 76) dX9_owesBy_76 ?_
          refine g_istore_n (pc := 77) (L' := [(3, .int ((obR S x set n + 0) - 0)), (0, .ref (eA E 58)), (1, .int x), (2, .int set), (4, .int (nI n))]) dX9_owesBy_77 rfl (Nat.le_of_ble_eq_true rfl) rfl ?_
          refine g_iinc (pc := 78) (L' := [(4, .int (nI n + 1)), (3, .int ((obR S x set n + 0) - 0)), (0, .ref (eA E 58)), (1, .int x), (2, .int set)]) dX9_owesBy_78 (k := 4) rfl (v := nI n + 1) rfl (Nat.le_of_ble_eq_true rfl) rfl ?_
          refine g_goto (pc := 81) (tgt := 5) dX9_owesBy_81 (by decide) ?_
          refine g_sub (L' := [(0, .ref (eA E 58)), (1, .int x), (2, .int set), (3, .int ((obR S x set n + 0) - 0)), (4, .int (nI n + 1))]) [2, 3, 4, 1, 0] rfl ?_
          exact g_eq rfl (by rw [nI_1, obR]; simp only [c_23, c_54, if_true, if_false, Bool.false_eq_true, Bool.not_true, Bool.not_false, Bool.and_true, Bool.true_and, Bool.and_false, Bool.false_and, Bool.or_true, Bool.true_or, Bool.or_false, Bool.false_or, decide_true, decide_false, Bool.and_self]) rfl (ih_5 hlt_5)
        · exact absurd (c_23.symm.trans c_54) (by decide)
      · refine g_aload_n (pc := 26) dX9_owesBy_26 0 rfl rfl ?_
        refine gf_X9_7 (pc := 27) rfl dX9_owesBy_27 ?_
        refine g_bipush (pc := 30) (v := 19) dX9_owesBy_30 (by decide) ?_
        refine g_iload (pc := 32) dX9_owesBy_32 4 rfl ?_
        refine g_iadd (pc := 34) dX9_owesBy_34 ?_
        refine g_iald (pc := 35) (19 + n) (nI_aE rfl rfl) rfl (show 19 + n < 1776 by omega) (by decide) dX9_owesBy_35 ?_
        refine g_iload_n (pc := 36) dX9_owesBy_36 1 rfl rfl ?_
        refine g_icmp_ne (pc := 37) (tgt := 44) dX9_owesBy_37 (by decide) (fun c_37 => ?_) (fun c_37 => ?_)
        · refine g_iconst (pc := 44) (v := 0) dX9_owesBy_44 (by decide) ?_
          refine g_iadd (pc := 45) dX9_owesBy_45 ?_
          refine g_istore_n (pc := 46) (L' := [(3, .int (obR S x set n + 0)), (0, .ref (eA E 58)), (1, .int x), (2, .int set), (4, .int (nI n))]) dX9_owesBy_46 rfl (Nat.le_of_ble_eq_true rfl) rfl ?_
          refine g_iload_n (pc := 47) dX9_owesBy_47 0 rfl rfl ?_
          refine g_iload_n (pc := 48) dX9_owesBy_48 3 rfl rfl ?_
          refine g_iload (pc := 49) dX9_owesBy_49 4 rfl ?_
          refine g_invS (pc := 51) j_X9_has mw_X9_143 dX9_owesBy_51 (by rfl) (c_X9_has E S set (nI n) ) (Nat.le_of_ble_eq_true rfl) (Nat.le_of_ble_eq_true rfl) (by rfl) (Nat.le_of_ble_eq_true rfl) ?_
          refine g_b_eq (pc := 54) (tgt := 75) dX9_owesBy_54 (by decide) (fun c_54 => ?_) (fun c_54 => ?_)
          · exact absurd (c_23.symm.trans c_54) (by decide)
          · refine g_aload_n (pc := 57) dX9_owesBy_57 1 rfl rfl ?_
            refine gf_X9_7 (pc := 58) rfl dX9_owesBy_58 ?_
            refine g_bipush (pc := 61) (v := 27) dX9_owesBy_61 (by decide) ?_
            refine g_iload (pc := 63) dX9_owesBy_63 4 rfl ?_
            refine g_iadd (pc := 65) dX9_owesBy_65 ?_
            refine g_iald (pc := 66) (27 + n) (nI_aE rfl rfl) rfl (show 27 + n < 1776 by omega) (by decide) dX9_owesBy_66 ?_
            refine g_iload_n (pc := 67) dX9_owesBy_67 2 rfl rfl ?_
            refine g_icmp_ne (pc := 68) (tgt := 75) dX9_owesBy_68 (by decide) (fun c_68 => ?_) (fun c_68 => ?_)
            · refine g_iconst (pc := 75) (v := 0) dX9_owesBy_75 (by decide) ?_
              refine g_isub (pc := 76) dX9_owesBy_76 ?_
              refine g_istore_n (pc := 77) (L' := [(3, .int ((obR S x set n + 0) - 0)), (0, .ref (eA E 58)), (1, .int x), (2, .int set), (4, .int (nI n))]) dX9_owesBy_77 rfl (Nat.le_of_ble_eq_true rfl) rfl ?_
              refine g_iinc (pc := 78) (L' := [(4, .int (nI n + 1)), (3, .int ((obR S x set n + 0) - 0)), (0, .ref (eA E 58)), (1, .int x), (2, .int set)]) dX9_owesBy_78 (k := 4) rfl (v := nI n + 1) rfl (Nat.le_of_ble_eq_true rfl) rfl ?_
              refine g_goto (pc := 81) (tgt := 5) dX9_owesBy_81 (by decide) ?_
              refine g_sub (L' := [(0, .ref (eA E 58)), (1, .int x), (2, .int set), (3, .int ((obR S x set n + 0) - 0)), (4, .int (nI n + 1))]) [2, 3, 4, 1, 0] rfl ?_
              exact g_eq rfl (by rw [nI_1, obR]; simp only [c_23, c_37, c_54, c_68, if_true, if_false, Bool.false_eq_true, Bool.not_true, Bool.not_false, Bool.and_true, Bool.true_and, Bool.and_false, Bool.false_and, Bool.or_true, Bool.true_or, Bool.or_false, Bool.false_or, decide_true, decide_false, Bool.and_self]) rfl (ih_5 hlt_5)
            · refine g_iconst (pc := 71) (v := 1) dX9_owesBy_71 (by decide) ?_
              refine g_goto (pc := 72) (tgt := 76) dX9_owesBy_72 (by decide) ?_
              refine g_isub (pc := 76) dX9_owesBy_76 ?_
              refine g_istore_n (pc := 77) (L' := [(3, .int ((obR S x set n + 0) - 1)), (0, .ref (eA E 58)), (1, .int x), (2, .int set), (4, .int (nI n))]) dX9_owesBy_77 rfl (Nat.le_of_ble_eq_true rfl) rfl ?_
              refine g_iinc (pc := 78) (L' := [(4, .int (nI n + 1)), (3, .int ((obR S x set n + 0) - 1)), (0, .ref (eA E 58)), (1, .int x), (2, .int set)]) dX9_owesBy_78 (k := 4) rfl (v := nI n + 1) rfl (Nat.le_of_ble_eq_true rfl) rfl ?_
              refine g_goto (pc := 81) (tgt := 5) dX9_owesBy_81 (by decide) ?_
              refine g_sub (L' := [(0, .ref (eA E 58)), (1, .int x), (2, .int set), (3, .int ((obR S x set n + 0) - 1)), (4, .int (nI n + 1))]) [2, 3, 4, 1, 0] rfl ?_
              exact g_eq rfl (by rw [nI_1, obR]; simp only [c_23, c_37, c_54, eq_true c_68, if_true, if_false, Bool.false_eq_true, Bool.not_true, Bool.not_false, Bool.and_true, Bool.true_and, Bool.and_false, Bool.false_and, Bool.or_true, Bool.true_or, Bool.or_false, Bool.false_or, decide_true, decide_false, Bool.and_self]) rfl (ih_5 hlt_5)
        · refine g_iconst (pc := 40) (v := 1) dX9_owesBy_40 (by decide) ?_
          refine g_goto (pc := 41) (tgt := 45) dX9_owesBy_41 (by decide) ?_
          refine g_iadd (pc := 45) dX9_owesBy_45 ?_
          refine g_istore_n (pc := 46) (L' := [(3, .int (obR S x set n + 1)), (0, .ref (eA E 58)), (1, .int x), (2, .int set), (4, .int (nI n))]) dX9_owesBy_46 rfl (Nat.le_of_ble_eq_true rfl) rfl ?_
          refine g_iload_n (pc := 47) dX9_owesBy_47 0 rfl rfl ?_
          refine g_iload_n (pc := 48) dX9_owesBy_48 3 rfl rfl ?_
          refine g_iload (pc := 49) dX9_owesBy_49 4 rfl ?_
          refine g_invS (pc := 51) j_X9_has mw_X9_143 dX9_owesBy_51 (by rfl) (c_X9_has E S set (nI n) ) (Nat.le_of_ble_eq_true rfl) (Nat.le_of_ble_eq_true rfl) (by rfl) (Nat.le_of_ble_eq_true rfl) ?_
          refine g_b_eq (pc := 54) (tgt := 75) dX9_owesBy_54 (by decide) (fun c_54 => ?_) (fun c_54 => ?_)
          · exact absurd (c_23.symm.trans c_54) (by decide)
          · refine g_aload_n (pc := 57) dX9_owesBy_57 1 rfl rfl ?_
            refine gf_X9_7 (pc := 58) rfl dX9_owesBy_58 ?_
            refine g_bipush (pc := 61) (v := 27) dX9_owesBy_61 (by decide) ?_
            refine g_iload (pc := 63) dX9_owesBy_63 4 rfl ?_
            refine g_iadd (pc := 65) dX9_owesBy_65 ?_
            refine g_iald (pc := 66) (27 + n) (nI_aE rfl rfl) rfl (show 27 + n < 1776 by omega) (by decide) dX9_owesBy_66 ?_
            refine g_iload_n (pc := 67) dX9_owesBy_67 2 rfl rfl ?_
            refine g_icmp_ne (pc := 68) (tgt := 75) dX9_owesBy_68 (by decide) (fun c_68 => ?_) (fun c_68 => ?_)
            · refine g_iconst (pc := 75) (v := 0) dX9_owesBy_75 (by decide) ?_
              refine g_isub (pc := 76) dX9_owesBy_76 ?_
              refine g_istore_n (pc := 77) (L' := [(3, .int ((obR S x set n + 1) - 0)), (0, .ref (eA E 58)), (1, .int x), (2, .int set), (4, .int (nI n))]) dX9_owesBy_77 rfl (Nat.le_of_ble_eq_true rfl) rfl ?_
              refine g_iinc (pc := 78) (L' := [(4, .int (nI n + 1)), (3, .int ((obR S x set n + 1) - 0)), (0, .ref (eA E 58)), (1, .int x), (2, .int set)]) dX9_owesBy_78 (k := 4) rfl (v := nI n + 1) rfl (Nat.le_of_ble_eq_true rfl) rfl ?_
              refine g_goto (pc := 81) (tgt := 5) dX9_owesBy_81 (by decide) ?_
              refine g_sub (L' := [(0, .ref (eA E 58)), (1, .int x), (2, .int set), (3, .int ((obR S x set n + 1) - 0)), (4, .int (nI n + 1))]) [2, 3, 4, 1, 0] rfl ?_
              exact g_eq rfl (by rw [nI_1, obR]; simp only [c_23, eq_true c_37, c_54, c_68, if_true, if_false, Bool.false_eq_true, Bool.not_true, Bool.not_false, Bool.and_true, Bool.true_and, Bool.and_false, Bool.false_and, Bool.or_true, Bool.true_or, Bool.or_false, Bool.false_or, decide_true, decide_false, Bool.and_self]) rfl (ih_5 hlt_5)
            · refine g_iconst (pc := 71) (v := 1) dX9_owesBy_71 (by decide) ?_
              refine g_goto (pc := 72) (tgt := 76) dX9_owesBy_72 (by decide) ?_
              refine g_isub (pc := 76) dX9_owesBy_76 ?_
              refine g_istore_n (pc := 77) (L' := [(3, .int ((obR S x set n + 1) - 1)), (0, .ref (eA E 58)), (1, .int x), (2, .int set), (4, .int (nI n))]) dX9_owesBy_77 rfl (Nat.le_of_ble_eq_true rfl) rfl ?_
              refine g_iinc (pc := 78) (L' := [(4, .int (nI n + 1)), (3, .int ((obR S x set n + 1) - 1)), (0, .ref (eA E 58)), (1, .int x), (2, .int set)]) dX9_owesBy_78 (k := 4) rfl (v := nI n + 1) rfl (Nat.le_of_ble_eq_true rfl) rfl ?_
              refine g_goto (pc := 81) (tgt := 5) dX9_owesBy_81 (by decide) ?_
              refine g_sub (L' := [(0, .ref (eA E 58)), (1, .int x), (2, .int set), (3, .int ((obR S x set n + 1) - 1)), (4, .int (nI n + 1))]) [2, 3, 4, 1, 0] rfl ?_
              exact g_eq rfl (by rw [nI_1, obR]; simp only [c_23, eq_true c_37, c_54, eq_true c_68, if_true, if_false, Bool.false_eq_true, Bool.not_true, Bool.not_false, Bool.and_true, Bool.true_and, Bool.and_false, Bool.false_and, Bool.or_true, Bool.true_or, Bool.or_false, Bool.false_or, decide_true, decide_false, Bool.and_self]) rfl (ih_5 hlt_5)
  refine g_sub (L' := [(0, .ref (eA E 58)), (1, .int x), (2, .int set), (3, .int 0), (4, .int 0)]) [2, 3, 4, 1, 0] rfl ?_
  exact g_eq rfl rfl rfl (H_5 0 (Nat.zero_le _))
set_option maxRecDepth 100000 in
set_option maxHeartbeats 4000000 in
theorem c_X9_isRing (E : En) (S : St) (set : Int32) (hz : okM S) : CTe E i_X9_isRing S [.ref (eA E 58), .int set] S (some (.int (bI (rgM S set)))) := by
  refine ct_of [(0, .ref (eA E 58)), (1, .int set)] (by decide +kernel) (Nat.le_of_ble_eq_true rfl) rfl (fun X hM => ?_)
  refine g_iload_n (pc := 0) dX9_isRing_0 1 rfl rfl ?_
  refine g_aload_n (pc := 1) dX9_isRing_1 0 rfl rfl ?_
  refine g_invV (pc := 2) j_X9_debts mw_X9_189 dX9_isRing_2 (rcv_X9) (by rfl) (c_X9_debts E S (by first | assumption | omega | rfl)) (Nat.le_of_ble_eq_true rfl) (Nat.le_of_ble_eq_true rfl) (by rfl) (Nat.le_of_ble_eq_true rfl) ?_
  refine g_iconst (pc := 5) (v := -1) dX9_isRing_5 (by decide) ?_
  refine g_ixor (pc := 6) dX9_isRing_6 ?_
  refine g_iand (pc := 7) dX9_isRing_7 ?_
  refine g_if_ne (pc := 8) (tgt := 15) dX9_isRing_8 (by decide) (fun c_8 => ?_) (fun c_8 => ?_)
  · refine g_iconst (pc := 15) (v := 0) dX9_isRing_15 (by decide) ?_
    refine g_istore_n (pc := 16) (L' := [(2, .int 0), (0, .ref (eA E 58)), (1, .int set)]) dX9_isRing_16 rfl (Nat.le_of_ble_eq_true rfl) rfl ?_
    refine g_iconst (pc := 17) (v := 0) dX9_isRing_17 (by decide) ?_
    refine g_istore_n (pc := 18) (L' := [(3, .int 0), (2, .int 0), (0, .ref (eA E 58)), (1, .int set)]) dX9_isRing_18 rfl (Nat.le_of_ble_eq_true rfl) rfl ?_
    refine g_iload_n (pc := 19) dX9_isRing_19 0 rfl rfl ?_
    refine g_bipush (pc := 20) (v := 6) dX9_isRing_20 (by decide) ?_
    refine g_icmp_ge (pc := 22) (tgt := 50) dX9_isRing_22 (by decide) (fun c_22 => ?_) (fun c_22 => ?_)
    · have k_22 := Int32.not_lt.mpr c_22
      exact absurd c_22 (by decide)
    · have k_22 := Int32.not_le.mp c_22
      refine g_iload_n (pc := 25) dX9_isRing_25 1 rfl rfl ?_
      refine g_if_eq (pc := 26) (tgt := 50) dX9_isRing_26 (by decide) (fun c_26 => ?_) (fun c_26 => ?_)
      · refine g_iload_n (pc := 50) dX9_isRing_50 1 rfl rfl ?_
        exact g_iret (pc := 51) hM rfl rfl ⟨rfl, some_int (by rw [rgM, decide_eq_false c_8]; rfl)⟩ dX9_isRing_51
      · exact absurd c_26 (by decide)
  · refine g_iconst (pc := 11) (v := 1) dX9_isRing_11 (by decide) ?_
    refine g_goto (pc := 12) (tgt := 16) dX9_isRing_12 (by decide) ?_
    refine g_istore_n (pc := 16) (L' := [(2, .int 1), (0, .ref (eA E 58)), (1, .int set)]) dX9_isRing_16 rfl (Nat.le_of_ble_eq_true rfl) rfl ?_
    refine g_iconst (pc := 17) (v := 0) dX9_isRing_17 (by decide) ?_
    refine g_istore_n (pc := 18) (L' := [(3, .int 0), (2, .int 1), (0, .ref (eA E 58)), (1, .int set)]) dX9_isRing_18 rfl (Nat.le_of_ble_eq_true rfl) rfl ?_
    have H_19 : ∀ n : Nat, n ≤ 6 → allB (fun x => decide (obM S (nI x) set = 0)) n = true → G E X i_X9_isRing S 19 [(0, .ref (eA E 58)), (1, .int set), (2, .int 1), (3, .int (nI n))] [] := by
      refine dn_ind 6 (fun n hn_19 ih_19 hal => ?_)
      refine g_iload_n (pc := 19) dX9_isRing_19 3 rfl rfl ?_
      refine g_bipush (pc := 20) (v := 6) dX9_isRing_20 (by decide) ?_
      refine g_icmp_ge (pc := 22) (tgt := 50) dX9_isRing_22 (by decide) (fun c_22 => ?_) (fun c_22 => ?_)
      · have k_22 := Int32.not_lt.mpr c_22
        have he_19 : n = 6 := Nat.le_antisymm hn_19 (nle_of (N := 6) rfl rfl (by omega) (by omega) c_22)
        rw [he_19] at hal
        refine g_iload_n (pc := 50) dX9_isRing_50 2 rfl rfl ?_
        exact g_iret (pc := 51) hM rfl rfl ⟨rfl, some_int (by rw [rgM, hal, decide_eq_true c_8]; rfl)⟩ dX9_isRing_51
      · have k_22 := Int32.not_le.mp c_22
        have hlt_19 : n < 6 := nlt_of (N := 6) rfl rfl (by omega) (by omega) c_22
        refine g_iload_n (pc := 25) dX9_isRing_25 2 rfl rfl ?_
        refine g_if_eq (pc := 26) (tgt := 50) dX9_isRing_26 (by decide) (fun c_26 => ?_) (fun c_26 => ?_)
        · exact absurd c_26 (by decide)
        · refine g_aload_n (pc := 29) dX9_isRing_29 0 rfl rfl ?_
          refine g_iload_n (pc := 30) dX9_isRing_30 3 rfl rfl ?_
          refine g_iload_n (pc := 31) dX9_isRing_31 1 rfl rfl ?_
          refine g_invV (pc := 32) j_X9_owesBy mw_X9_192 dX9_isRing_32 (rcv_X9) (by rfl) (c_X9_owesBy E S (nI n) set (by first | assumption | omega | rfl)) (Nat.le_of_ble_eq_true rfl) (Nat.le_of_ble_eq_true rfl) (by rfl) (Nat.le_of_ble_eq_true rfl) ?_
          refine g_if_ne (pc := 35) (tgt := 42) dX9_isRing_35 (by decide) (fun c_35 => ?_) (fun c_35 => ?_)
          · refine g_iconst (pc := 42) (v := 0) dX9_isRing_42 (by decide) ?_
            refine g_istore_n (pc := 43) (L' := [(2, .int 0), (0, .ref (eA E 58)), (1, .int set), (3, .int (nI n))]) dX9_isRing_43 rfl (Nat.le_of_ble_eq_true rfl) rfl ?_
            refine g_iinc (pc := 44) (L' := [(3, .int (nI n + 1)), (2, .int 0), (0, .ref (eA E 58)), (1, .int set)]) dX9_isRing_44 (k := 3) rfl (v := nI n + 1) rfl (Nat.le_of_ble_eq_true rfl) rfl ?_
            refine g_goto (pc := 47) (tgt := 19) dX9_isRing_47 (by decide) ?_
            refine g_iload_n (pc := 19) dX9_isRing_19 0 rfl rfl ?_
            refine g_bipush (pc := 20) (v := 6) dX9_isRing_20 (by decide) ?_
            refine g_icmp_ge (pc := 22) (tgt := 50) dX9_isRing_22 (by decide) (fun c_22 => ?_) (fun c_22 => ?_)
            · have k_22 := Int32.not_lt.mpr c_22
              refine g_iload_n (pc := 50) dX9_isRing_50 1 rfl rfl ?_
              exact g_iret (pc := 51) hM rfl rfl ⟨rfl, some_int (by rw [rgM, allB_f (p := (fun x => decide (obM S (nI x) set = 0))) hlt_19 (decide_eq_false c_35), Bool.and_false]; rfl)⟩ dX9_isRing_51
            · have k_22 := Int32.not_le.mp c_22
              refine g_iload_n (pc := 25) dX9_isRing_25 1 rfl rfl ?_
              refine g_if_eq (pc := 26) (tgt := 50) dX9_isRing_26 (by decide) (fun c_26 => ?_) (fun c_26 => ?_)
              · refine g_iload_n (pc := 50) dX9_isRing_50 1 rfl rfl ?_
                exact g_iret (pc := 51) hM rfl rfl ⟨rfl, some_int (by rw [rgM, allB_f (p := (fun x => decide (obM S (nI x) set = 0))) hlt_19 (decide_eq_false c_35), Bool.and_false]; rfl)⟩ dX9_isRing_51
              · exact absurd c_26 (by decide)
          · refine g_iconst (pc := 38) (v := 1) dX9_isRing_38 (by decide) ?_
            refine g_goto (pc := 39) (tgt := 43) dX9_isRing_39 (by decide) ?_
            refine g_istore_n (pc := 43) (L' := [(2, .int 1), (0, .ref (eA E 58)), (1, .int set), (3, .int (nI n))]) dX9_isRing_43 rfl (Nat.le_of_ble_eq_true rfl) rfl ?_
            refine g_iinc (pc := 44) (L' := [(3, .int (nI n + 1)), (2, .int 1), (0, .ref (eA E 58)), (1, .int set)]) dX9_isRing_44 (k := 3) rfl (v := nI n + 1) rfl (Nat.le_of_ble_eq_true rfl) rfl ?_
            refine g_goto (pc := 47) (tgt := 19) dX9_isRing_47 (by decide) ?_
            refine g_sub (L' := [(0, .ref (eA E 58)), (1, .int set), (2, .int 1), (3, .int (nI n + 1))]) [2, 3, 1, 0] rfl ?_
            exact g_eq rfl (by rw [nI_1]) rfl (ih_19 hlt_19 (by rw [allB, hal, Bool.true_and]; exact decide_eq_true c_35))
    refine g_sub (L' := [(0, .ref (eA E 58)), (1, .int set), (2, .int 1), (3, .int 0)]) [2, 3, 1, 0] rfl ?_
    exact H_19 0 (Nat.zero_le _) rfl
set_option maxRecDepth 100000 in
set_option maxHeartbeats 4000000 in
theorem c_X9_owes_bad (E : En) (S : St) (x : Int32) (h : inF x.toInt64 0 5 = false) : CTe E i_X9_owes S [.ref (eA E 58), .int x] S (some (.int (-1))) := by
  refine ct_of [(0, .ref (eA E 58)), (1, .int x)] (by decide +kernel) (Nat.le_of_ble_eq_true rfl) rfl (fun X hM => ?_)
  refine g_iload_n (pc := 0) dX9_owes_0 1 rfl rfl ?_
  refine g_i2l (pc := 1) dX9_owes_1 ?_
  refine g_lconst (pc := 2) (v := 0) dX9_owes_2 (by decide) ?_
  refine g_ldc2 (pc := 3) kw_X9_60 dX9_owes_3 ?_
  refine g_invS (pc := 6) j_X9_in mw_X9_62 dX9_owes_6 (by rfl) (c_X9_in E S x.toInt64 0 5 ) (Nat.le_of_ble_eq_true rfl) (Nat.le_of_ble_eq_true rfl) (by rfl) (Nat.le_of_ble_eq_true rfl) ?_
  refine g_b_eq (pc := 9) (tgt := 27) dX9_owes_9 (by decide) (fun c_9 => ?_) (fun c_9 => ?_)
  · refine g_iconst (pc := 27) (v := -1) dX9_owes_27 (by decide) ?_
    exact g_iret (pc := 28) hM rfl rfl ⟨rfl, rfl⟩ dX9_owes_28
  · exact absurd (h.symm.trans c_9) (by decide)
set_option maxRecDepth 100000 in
set_option maxHeartbeats 4000000 in
theorem c_X9_owes_ok (E : En) (S : St) (x : Int32) (hz : okM S) (h : inF x.toInt64 0 5 = true) : CTe E i_X9_owes S [.ref (eA E 58), .int x] S (some (.int (obM S x (dbM S) + 100))) := by
  refine ct_of [(0, .ref (eA E 58)), (1, .int x)] (by decide +kernel) (Nat.le_of_ble_eq_true rfl) rfl (fun X hM => ?_)
  refine g_iload_n (pc := 0) dX9_owes_0 1 rfl rfl ?_
  refine g_i2l (pc := 1) dX9_owes_1 ?_
  refine g_lconst (pc := 2) (v := 0) dX9_owes_2 (by decide) ?_
  refine g_ldc2 (pc := 3) kw_X9_60 dX9_owes_3 ?_
  refine g_invS (pc := 6) j_X9_in mw_X9_62 dX9_owes_6 (by rfl) (c_X9_in E S x.toInt64 0 5 ) (Nat.le_of_ble_eq_true rfl) (Nat.le_of_ble_eq_true rfl) (by rfl) (Nat.le_of_ble_eq_true rfl) ?_
  refine g_b_eq (pc := 9) (tgt := 27) dX9_owes_9 (by decide) (fun c_9 => ?_) (fun c_9 => ?_)
  · exact absurd (h.symm.trans c_9) (by decide)
  · refine g_aload_n (pc := 12) dX9_owes_12 0 rfl rfl ?_
    refine g_iload_n (pc := 13) dX9_owes_13 1 rfl rfl ?_
    refine g_aload_n (pc := 14) dX9_owes_14 0 rfl rfl ?_
    refine g_invV (pc := 15) j_X9_debts mw_X9_189 dX9_owes_15 (rcv_X9) (by rfl) (c_X9_debts E S (by first | assumption | omega | rfl)) (Nat.le_of_ble_eq_true rfl) (Nat.le_of_ble_eq_true rfl) (by rfl) (Nat.le_of_ble_eq_true rfl) ?_
    refine g_invV (pc := 18) j_X9_owesBy mw_X9_192 dX9_owes_18 (rcv_X9) (by rfl) (c_X9_owesBy E S x (dbM S) (by first | assumption | omega | rfl)) (Nat.le_of_ble_eq_true rfl) (Nat.le_of_ble_eq_true rfl) (by rfl) (Nat.le_of_ble_eq_true rfl) ?_
    refine g_bipush (pc := 21) (v := 100) dX9_owes_21 (by decide) ?_
    refine g_iadd (pc := 23) dX9_owes_23 ?_
    refine g_goto (pc := 24) (tgt := 28) dX9_owes_24 (by decide) ?_
    exact g_iret (pc := 28) hM rfl rfl ⟨rfl, rfl⟩ dX9_owes_28
set_option maxRecDepth 100000 in
set_option maxHeartbeats 4000000 in
theorem c_X9_ring_no (E : En) (S : St)  (h : gA S 59 0 = 0) : CTe E i_X9_ring S [.ref (eA E 58)] S (some (.int (-4))) := by
  refine ct_of [(0, .ref (eA E 58))] (by decide +kernel) (Nat.le_of_ble_eq_true rfl) rfl (fun X hM => ?_)
  refine g_aload_n (pc := 0) dX9_ring_0 0 rfl rfl ?_
  refine gf_X9_7 (pc := 1) rfl dX9_ring_1 ?_
  refine g_iconst (pc := 4) (v := 0) dX9_ring_4 (by decide) ?_
  refine g_iald (pc := 5) 0 rfl rfl (by decide) (by decide) dX9_ring_5 ?_
  refine g_if_ne (pc := 6) (tgt := 12) dX9_ring_6 (by decide) (fun c_6 => ?_) (fun c_6 => ?_)
  · exact absurd h c_6
  · refine g_bipush (pc := 9) (v := -4) dX9_ring_9 (by decide) ?_
    exact g_iret (pc := 11) hM rfl rfl ⟨rfl, rfl⟩ dX9_ring_11
set_option maxRecDepth 100000 in
set_option maxHeartbeats 4000000 in
theorem c_X9_ring_ok (E : En) (S : St)  (hz : okM S) (h : ¬ gA S 59 0 = 0) : CTe E i_X9_ring S [.ref (eA E 58)] (sI S 58 7 (rbM S (2 ^ nM S))) (some (.int (onF (rbM S (2 ^ nM S))))) := by
  have hz8 := hz.2
  have hp2 := p2_le hz.2
  have hpp := p2_pos (N := nM S)
  refine ct_of [(0, .ref (eA E 58))] (by decide +kernel) (Nat.le_of_ble_eq_true rfl) rfl (fun X hM => ?_)
  refine g_aload_n (pc := 0) dX9_ring_0 0 rfl rfl ?_
  refine gf_X9_7 (pc := 1) rfl dX9_ring_1 ?_
  refine g_iconst (pc := 4) (v := 0) dX9_ring_4 (by decide) ?_
  refine g_iald (pc := 5) 0 rfl rfl (by decide) (by decide) dX9_ring_5 ?_
  refine g_if_ne (pc := 6) (tgt := 12) dX9_ring_6 (by decide) (fun c_6 => ?_) (fun c_6 => ?_)
  · refine g_iconst (pc := 12) (v := 0) dX9_ring_12 (by decide) ?_
    refine g_istore_n (pc := 13) (L' := [(1, .int 0), (0, .ref (eA E 58))]) dX9_ring_13 rfl (Nat.le_of_ble_eq_true rfl) rfl ?_
    refine g_iconst (pc := 14) (v := 0) dX9_ring_14 (by decide) ?_
    refine g_istore_n (pc := 15) (L' := [(2, .int 0), (1, .int 0), (0, .ref (eA E 58))]) dX9_ring_15 rfl (Nat.le_of_ble_eq_true rfl) rfl ?_
    have H_16 : ∀ n : Nat, n ≤ (2 ^ nM S) → G E X i_X9_ring S 16 [(0, .ref (eA E 58)), (1, .int (rbM S n)), (2, .int (nI n))] [] := by
      refine dn_ind (2 ^ nM S) (fun n hn_16 ih_16 => ?_)
      refine g_iload_n (pc := 16) dX9_ring_16 2 rfl rfl ?_
      refine g_iconst (pc := 17) (v := 1) dX9_ring_17 (by decide) ?_
      refine g_aload_n (pc := 18) dX9_ring_18 0 rfl rfl ?_
      refine gf_X9_7 (pc := 19) rfl dX9_ring_19 ?_
      refine g_iconst (pc := 22) (v := 0) dX9_ring_22 (by decide) ?_
      refine g_iald (pc := 23) 0 rfl rfl (by decide) (by decide) dX9_ring_23 ?_
      refine g_ishl (pc := 24) dX9_ring_24 ?_
      refine g_icmp_ge (pc := 25) (tgt := 59) dX9_ring_25 (by decide) (fun c_25 => ?_) (fun c_25 => ?_)
      · have k_25 := Int32.not_lt.mpr c_25
        have he_16 : n = (2 ^ nM S) := Nat.le_antisymm hn_16 (by exact nle_of (N := 2 ^ nM S) rfl (sh1 hz.1 hz.2) (by omega) (by omega) c_25)
        rw [he_16]
        refine g_aload_n (pc := 59) dX9_ring_59 0 rfl rfl ?_
        refine g_iload_n (pc := 60) dX9_ring_60 1 rfl rfl ?_
        refine pf_X9_57 (pc := 61) rfl dX9_ring_61 ?_
        refine g_iload_n (pc := 64) dX9_ring_64 1 rfl rfl ?_
        refine g_invS (pc := 65) j_X9_ones mw_X9_198 dX9_ring_65 (by rfl) (c_X9_ones E (sI S 58 7 (rbM S (2 ^ nM S))) (rbM S (2 ^ nM S)) ) (Nat.le_of_ble_eq_true rfl) (Nat.le_of_ble_eq_true rfl) (by rfl) (Nat.le_of_ble_eq_true rfl) ?_
        exact g_iret (pc := 68) hM rfl rfl ⟨rfl, rfl⟩ dX9_ring_68
      · have k_25 := Int32.not_le.mp c_25
        have hlt_16 : n < (2 ^ nM S) := by exact nlt_of (N := 2 ^ nM S) rfl (sh1 hz.1 hz.2) (by omega) (by omega) c_25
        refine g_aload_n (pc := 28) dX9_ring_28 0 rfl rfl ?_
        refine g_iload_n (pc := 29) dX9_ring_29 2 rfl rfl ?_
        refine g_invV (pc := 30) j_X9_isRing mw_X9_195 dX9_ring_30 (rcv_X9) (by rfl) (c_X9_isRing E S (nI n) (by first | assumption | omega | rfl)) (Nat.le_of_ble_eq_true rfl) (Nat.le_of_ble_eq_true rfl) (by rfl) (Nat.le_of_ble_eq_true rfl) ?_
        refine g_b_eq (pc := 33) (tgt := 51) dX9_ring_33 (by decide) (fun c_33 => ?_) (fun c_33 => ?_)
        · refine g_iload_n (pc := 51) dX9_ring_51 1 rfl rfl ?_
          refine g_istore_n (pc := 52) (L' := [(1, .int (rbM S n)), (0, .ref (eA E 58)), (2, .int (nI n))]) dX9_ring_52 rfl (Nat.le_of_ble_eq_true rfl) rfl ?_
          refine g_iinc (pc := 53) (L' := [(2, .int (nI n + 1)), (1, .int (rbM S n)), (0, .ref (eA E 58))]) dX9_ring_53 (k := 2) rfl (v := nI n + 1) rfl (Nat.le_of_ble_eq_true rfl) rfl ?_
          refine g_goto (pc := 56) (tgt := 16) dX9_ring_56 (by decide) ?_
          refine g_sub (L' := [(0, .ref (eA E 58)), (1, .int (rbM S n)), (2, .int (nI n + 1))]) [2, 1, 0] rfl ?_
          exact g_eq rfl (by rw [nI_1, rbM]; simp only [c_33, if_true, if_false, Bool.false_eq_true, Bool.not_true, Bool.not_false, Bool.and_true, Bool.true_and, Bool.and_false, Bool.false_and, Bool.or_true, Bool.true_or, Bool.or_false, Bool.false_or, decide_true, decide_false, Bool.and_self]) rfl (ih_16 hlt_16)
        · refine g_iload_n (pc := 36) dX9_ring_36 2 rfl rfl ?_
          refine g_invS (pc := 37) j_X9_ones mw_X9_198 dX9_ring_37 (by rfl) (c_X9_ones E S (nI n) ) (Nat.le_of_ble_eq_true rfl) (Nat.le_of_ble_eq_true rfl) (by rfl) (Nat.le_of_ble_eq_true rfl) ?_
          refine g_iload_n (pc := 40) dX9_ring_40 1 rfl rfl ?_
          refine g_invS (pc := 41) j_X9_ones mw_X9_198 dX9_ring_41 (by rfl) (c_X9_ones E S (rbM S n) ) (Nat.le_of_ble_eq_true rfl) (Nat.le_of_ble_eq_true rfl) (by rfl) (Nat.le_of_ble_eq_true rfl) ?_
          refine g_icmp_le (pc := 44) (tgt := 51) dX9_ring_44 (by decide) (fun c_44 => ?_) (fun c_44 => ?_)
          · have k_44 := Int32.not_lt.mpr c_44
            refine g_iload_n (pc := 51) dX9_ring_51 1 rfl rfl ?_
            refine g_istore_n (pc := 52) (L' := [(1, .int (rbM S n)), (0, .ref (eA E 58)), (2, .int (nI n))]) dX9_ring_52 rfl (Nat.le_of_ble_eq_true rfl) rfl ?_
            refine g_iinc (pc := 53) (L' := [(2, .int (nI n + 1)), (1, .int (rbM S n)), (0, .ref (eA E 58))]) dX9_ring_53 (k := 2) rfl (v := nI n + 1) rfl (Nat.le_of_ble_eq_true rfl) rfl ?_
            refine g_goto (pc := 56) (tgt := 16) dX9_ring_56 (by decide) ?_
            refine g_sub (L' := [(0, .ref (eA E 58)), (1, .int (rbM S n)), (2, .int (nI n + 1))]) [2, 1, 0] rfl ?_
            exact g_eq rfl (by rw [nI_1, rbM]; simp only [c_33, c_44, k_44, if_true, if_false, Bool.false_eq_true, Bool.not_true, Bool.not_false, Bool.and_true, Bool.true_and, Bool.and_false, Bool.false_and, Bool.or_true, Bool.true_or, Bool.or_false, Bool.false_or, decide_true, decide_false, Bool.and_self]) rfl (ih_16 hlt_16)
          · have k_44 := Int32.not_le.mp c_44
            refine g_iload_n (pc := 47) dX9_ring_47 2 rfl rfl ?_
            refine g_goto (pc := 48) (tgt := 52) dX9_ring_48 (by decide) ?_
            refine g_istore_n (pc := 52) (L' := [(1, .int (nI n)), (0, .ref (eA E 58)), (2, .int (nI n))]) dX9_ring_52 rfl (Nat.le_of_ble_eq_true rfl) rfl ?_
            refine g_iinc (pc := 53) (L' := [(2, .int (nI n + 1)), (1, .int (nI n)), (0, .ref (eA E 58))]) dX9_ring_53 (k := 2) rfl (v := nI n + 1) rfl (Nat.le_of_ble_eq_true rfl) rfl ?_
            refine g_goto (pc := 56) (tgt := 16) dX9_ring_56 (by decide) ?_
            refine g_sub (L' := [(0, .ref (eA E 58)), (1, .int (nI n)), (2, .int (nI n + 1))]) [2, 1, 0] rfl ?_
            exact g_eq rfl (by rw [nI_1, rbM]; simp only [c_33, c_44, k_44, if_true, if_false, Bool.false_eq_true, Bool.not_true, Bool.not_false, Bool.and_true, Bool.true_and, Bool.and_false, Bool.false_and, Bool.or_true, Bool.true_or, Bool.or_false, Bool.false_or, decide_true, decide_false, Bool.and_self]) rfl (ih_16 hlt_16)
    refine g_sub (L' := [(0, .ref (eA E 58)), (1, .int 0), (2, .int 0)]) [2, 1, 0] rfl ?_
    exact g_eq rfl rfl rfl (H_16 0 (Nat.zero_le _))
  · exact absurd c_6 h
set_option maxRecDepth 100000 in
set_option maxHeartbeats 4000000 in
theorem c_X9_rings_bad (E : En) (S : St) (k : Int32) (hz : okM S) (h : idxF (nM S) k = false) : CTe E i_X9_rings S [.ref (eA E 58), .int k] S (some (.int (-1))) := by
  refine ct_of [(0, .ref (eA E 58)), (1, .int k)] (by decide +kernel) (Nat.le_of_ble_eq_true rfl) rfl (fun X hM => ?_)
  refine g_aload_n (pc := 0) dX9_rings_0 0 rfl rfl ?_
  refine g_iload_n (pc := 1) dX9_rings_1 1 rfl rfl ?_
  refine g_invV (pc := 2) j_X9_isLight mw_X9_127 dX9_rings_2 (rcv_X9) (by rfl) (c_X9_isLight E S k (by first | assumption | omega | rfl)) (Nat.le_of_ble_eq_true rfl) (Nat.le_of_ble_eq_true rfl) (by rfl) (Nat.le_of_ble_eq_true rfl) ?_
  refine g_b_ne (pc := 5) (tgt := 10) dX9_rings_5 (by decide) (fun c_5 => ?_) (fun c_5 => ?_)
  · exact absurd (h.symm.trans c_5) (by decide)
  · refine g_iconst (pc := 8) (v := -1) dX9_rings_8 (by decide) ?_
    exact g_iret (pc := 9) hM rfl rfl ⟨rfl, rfl⟩ dX9_rings_9
set_option maxRecDepth 100000 in
set_option maxHeartbeats 4000000 in
theorem c_X9_least_bad (E : En) (S : St) (k : Int32) (hz : okM S) (h : idxF (nM S) k = false) : CTe E i_X9_least S [.ref (eA E 58), .int k] S (some (.int (-1))) := by
  refine ct_of [(0, .ref (eA E 58)), (1, .int k)] (by decide +kernel) (Nat.le_of_ble_eq_true rfl) rfl (fun X hM => ?_)
  refine g_aload_n (pc := 0) dX9_least_0 0 rfl rfl ?_
  refine g_iload_n (pc := 1) dX9_least_1 1 rfl rfl ?_
  refine g_invV (pc := 2) j_X9_isLight mw_X9_127 dX9_least_2 (rcv_X9) (by rfl) (c_X9_isLight E S k (by first | assumption | omega | rfl)) (Nat.le_of_ble_eq_true rfl) (Nat.le_of_ble_eq_true rfl) (by rfl) (Nat.le_of_ble_eq_true rfl) ?_
  refine g_b_ne (pc := 5) (tgt := 10) dX9_least_5 (by decide) (fun c_5 => ?_) (fun c_5 => ?_)
  · exact absurd (h.symm.trans c_5) (by decide)
  · refine g_iconst (pc := 8) (v := -1) dX9_least_8 (by decide) ?_
    exact g_iret (pc := 9) hM rfl rfl ⟨rfl, rfl⟩ dX9_least_9
set_option maxRecDepth 100000 in
set_option maxHeartbeats 4000000 in
theorem c_X9_rings_ok (E : En) (S : St) (k : Nat) (hz : okM S)(hk : k < nM S) : CTe E i_X9_rings S [.ref (eA E 58), .int (nI k)] S (some (.int (rkM S k (2 ^ nM S)))) := by
  have hz8 := hz.2
  have hp2 := p2_le hz.2
  have hpp := p2_pos (N := nM S)
  have hx := idx_in hk (show nM S < 2 ^ 31 by omega)
  refine ct_of [(0, .ref (eA E 58)), (1, .int (nI k))] (by decide +kernel) (Nat.le_of_ble_eq_true rfl) rfl (fun X hM => ?_)
  refine g_aload_n (pc := 0) dX9_rings_0 0 rfl rfl ?_
  refine g_iload_n (pc := 1) dX9_rings_1 1 rfl rfl ?_
  refine g_invV (pc := 2) j_X9_isLight mw_X9_127 dX9_rings_2 (rcv_X9) (by rfl) (c_X9_isLight E S (nI k) (by first | assumption | omega | rfl)) (Nat.le_of_ble_eq_true rfl) (Nat.le_of_ble_eq_true rfl) (by rfl) (Nat.le_of_ble_eq_true rfl) ?_
  refine g_b_ne (pc := 5) (tgt := 10) dX9_rings_5 (by decide) (fun c_5 => ?_) (fun c_5 => ?_)
  · refine g_iconst (pc := 10) (v := 0) dX9_rings_10 (by decide) ?_
    refine g_istore_n (pc := 11) (L' := [(2, .int 0), (0, .ref (eA E 58)), (1, .int (nI k))]) dX9_rings_11 rfl (Nat.le_of_ble_eq_true rfl) rfl ?_
    refine g_iconst (pc := 12) (v := 0) dX9_rings_12 (by decide) ?_
    refine g_istore_n (pc := 13) (L' := [(3, .int 0), (2, .int 0), (0, .ref (eA E 58)), (1, .int (nI k))]) dX9_rings_13 rfl (Nat.le_of_ble_eq_true rfl) rfl ?_
    have H_14 : ∀ n : Nat, n ≤ (2 ^ nM S) → G E X i_X9_rings S 14 [(0, .ref (eA E 58)), (1, .int (nI k)), (2, .int (rkM S k n)), (3, .int (nI n))] [] := by
      refine dn_ind (2 ^ nM S) (fun n hn_14 ih_14 => ?_)
      refine g_iload_n (pc := 14) dX9_rings_14 3 rfl rfl ?_
      refine g_iconst (pc := 15) (v := 1) dX9_rings_15 (by decide) ?_
      refine g_aload_n (pc := 16) dX9_rings_16 0 rfl rfl ?_
      refine gf_X9_7 (pc := 17) rfl dX9_rings_17 ?_
      refine g_iconst (pc := 20) (v := 0) dX9_rings_20 (by decide) ?_
      refine g_iald (pc := 21) 0 rfl rfl (by decide) (by decide) dX9_rings_21 ?_
      refine g_ishl (pc := 22) dX9_rings_22 ?_
      refine g_icmp_ge (pc := 23) (tgt := 56) dX9_rings_23 (by decide) (fun c_23 => ?_) (fun c_23 => ?_)
      · have k_23 := Int32.not_lt.mpr c_23
        have he_14 : n = (2 ^ nM S) := Nat.le_antisymm hn_14 (by exact nle_of (N := 2 ^ nM S) rfl (sh1 hz.1 hz.2) (by omega) (by omega) c_23)
        rw [he_14]
        refine g_iload_n (pc := 56) dX9_rings_56 2 rfl rfl ?_
        exact g_iret (pc := 57) hM rfl rfl ⟨rfl, rfl⟩ dX9_rings_57
      · have k_23 := Int32.not_le.mp c_23
        have hlt_14 : n < (2 ^ nM S) := by exact nlt_of (N := 2 ^ nM S) rfl (sh1 hz.1 hz.2) (by omega) (by omega) c_23
        refine g_iload_n (pc := 26) dX9_rings_26 2 rfl rfl ?_
        refine g_iload_n (pc := 27) dX9_rings_27 3 rfl rfl ?_
        refine g_iload_n (pc := 28) dX9_rings_28 1 rfl rfl ?_
        refine g_invS (pc := 29) j_X9_has mw_X9_143 dX9_rings_29 (by rfl) (c_X9_has E S (nI n) (nI k) ) (Nat.le_of_ble_eq_true rfl) (Nat.le_of_ble_eq_true rfl) (by rfl) (Nat.le_of_ble_eq_true rfl) ?_
        refine g_b_eq (pc := 32) (tgt := 47) dX9_rings_32 (by decide) (fun c_32 => ?_) (fun c_32 => ?_)
        · refine g_iconst (pc := 47) (v := 0) dX9_rings_47 (by decide) ?_
          refine g_iadd (pc := 48) dX9_rings_48 ?_
          refine g_istore_n (pc := 49) (L' := [(2, .int (rkM S k n + 0)), (0, .ref (eA E 58)), (1, .int (nI k)), (3, .int (nI n))]) dX9_rings_49 rfl (Nat.le_of_ble_eq_true rfl) rfl ?_
          refine g_iinc (pc := 50) (L' := [(3, .int (nI n + 1)), (2, .int (rkM S k n + 0)), (0, .ref (eA E 58)), (1, .int (nI k))]) dX9_rings_50 (k := 3) rfl (v := nI n + 1) rfl (Nat.le_of_ble_eq_true rfl) rfl ?_
          refine g_goto (pc := 53) (tgt := 14) dX9_rings_53 (by decide) ?_
          refine g_sub (L' := [(0, .ref (eA E 58)), (1, .int (nI k)), (2, .int (rkM S k n + 0)), (3, .int (nI n + 1))]) [2, 3, 1, 0] rfl ?_
          exact g_eq rfl (by rw [nI_1, rkM]; simp only [c_32, if_true, if_false, Bool.false_eq_true, Bool.not_true, Bool.not_false, Bool.and_true, Bool.true_and, Bool.and_false, Bool.false_and, Bool.or_true, Bool.true_or, Bool.or_false, Bool.false_or, decide_true, decide_false, Bool.and_self]) rfl (ih_14 hlt_14)
        · refine g_aload_n (pc := 35) dX9_rings_35 0 rfl rfl ?_
          refine g_iload_n (pc := 36) dX9_rings_36 3 rfl rfl ?_
          refine g_invV (pc := 37) j_X9_isRing mw_X9_195 dX9_rings_37 (rcv_X9) (by rfl) (c_X9_isRing E S (nI n) (by first | assumption | omega | rfl)) (Nat.le_of_ble_eq_true rfl) (Nat.le_of_ble_eq_true rfl) (by rfl) (Nat.le_of_ble_eq_true rfl) ?_
          refine g_b_eq (pc := 40) (tgt := 47) dX9_rings_40 (by decide) (fun c_40 => ?_) (fun c_40 => ?_)
          · refine g_iconst (pc := 47) (v := 0) dX9_rings_47 (by decide) ?_
            refine g_iadd (pc := 48) dX9_rings_48 ?_
            refine g_istore_n (pc := 49) (L' := [(2, .int (rkM S k n + 0)), (0, .ref (eA E 58)), (1, .int (nI k)), (3, .int (nI n))]) dX9_rings_49 rfl (Nat.le_of_ble_eq_true rfl) rfl ?_
            refine g_iinc (pc := 50) (L' := [(3, .int (nI n + 1)), (2, .int (rkM S k n + 0)), (0, .ref (eA E 58)), (1, .int (nI k))]) dX9_rings_50 (k := 3) rfl (v := nI n + 1) rfl (Nat.le_of_ble_eq_true rfl) rfl ?_
            refine g_goto (pc := 53) (tgt := 14) dX9_rings_53 (by decide) ?_
            refine g_sub (L' := [(0, .ref (eA E 58)), (1, .int (nI k)), (2, .int (rkM S k n + 0)), (3, .int (nI n + 1))]) [2, 3, 1, 0] rfl ?_
            exact g_eq rfl (by rw [nI_1, rkM]; simp only [c_32, c_40, if_true, if_false, Bool.false_eq_true, Bool.not_true, Bool.not_false, Bool.and_true, Bool.true_and, Bool.and_false, Bool.false_and, Bool.or_true, Bool.true_or, Bool.or_false, Bool.false_or, decide_true, decide_false, Bool.and_self]) rfl (ih_14 hlt_14)
          · refine g_iconst (pc := 43) (v := 1) dX9_rings_43 (by decide) ?_
            refine g_goto (pc := 44) (tgt := 48) dX9_rings_44 (by decide) ?_
            refine g_iadd (pc := 48) dX9_rings_48 ?_
            refine g_istore_n (pc := 49) (L' := [(2, .int (rkM S k n + 1)), (0, .ref (eA E 58)), (1, .int (nI k)), (3, .int (nI n))]) dX9_rings_49 rfl (Nat.le_of_ble_eq_true rfl) rfl ?_
            refine g_iinc (pc := 50) (L' := [(3, .int (nI n + 1)), (2, .int (rkM S k n + 1)), (0, .ref (eA E 58)), (1, .int (nI k))]) dX9_rings_50 (k := 3) rfl (v := nI n + 1) rfl (Nat.le_of_ble_eq_true rfl) rfl ?_
            refine g_goto (pc := 53) (tgt := 14) dX9_rings_53 (by decide) ?_
            refine g_sub (L' := [(0, .ref (eA E 58)), (1, .int (nI k)), (2, .int (rkM S k n + 1)), (3, .int (nI n + 1))]) [2, 3, 1, 0] rfl ?_
            exact g_eq rfl (by rw [nI_1, rkM]; simp only [c_32, c_40, if_true, if_false, Bool.false_eq_true, Bool.not_true, Bool.not_false, Bool.and_true, Bool.true_and, Bool.and_false, Bool.false_and, Bool.or_true, Bool.true_or, Bool.or_false, Bool.false_or, decide_true, decide_false, Bool.and_self]) rfl (ih_14 hlt_14)
    refine g_sub (L' := [(0, .ref (eA E 58)), (1, .int (nI k)), (2, .int 0), (3, .int 0)]) [2, 3, 1, 0] rfl ?_
    exact g_eq rfl rfl rfl (H_14 0 (Nat.zero_le _))
  · exact absurd (hx.symm.trans c_5) (by decide)
set_option maxRecDepth 100000 in
set_option maxHeartbeats 4000000 in
theorem c_X9_least_no (E : En) (S : St) (k : Nat) (hz : okM S)(hk : k < nM S) (h : lsM S k (2 ^ nM S) = 0) : CTe E i_X9_least S [.ref (eA E 58), .int (nI k)] S (some (.int (-9))) := by
  have hz8 := hz.2
  have hp2 := p2_le hz.2
  have hpp := p2_pos (N := nM S)
  have hx := idx_in hk (show nM S < 2 ^ 31 by omega)
  refine ct_of [(0, .ref (eA E 58)), (1, .int (nI k))] (by decide +kernel) (Nat.le_of_ble_eq_true rfl) rfl (fun X hM => ?_)
  refine g_aload_n (pc := 0) dX9_least_0 0 rfl rfl ?_
  refine g_iload_n (pc := 1) dX9_least_1 1 rfl rfl ?_
  refine g_invV (pc := 2) j_X9_isLight mw_X9_127 dX9_least_2 (rcv_X9) (by rfl) (c_X9_isLight E S (nI k) (by first | assumption | omega | rfl)) (Nat.le_of_ble_eq_true rfl) (Nat.le_of_ble_eq_true rfl) (by rfl) (Nat.le_of_ble_eq_true rfl) ?_
  refine g_b_ne (pc := 5) (tgt := 10) dX9_least_5 (by decide) (fun c_5 => ?_) (fun c_5 => ?_)
  · refine g_iconst (pc := 10) (v := 0) dX9_least_10 (by decide) ?_
    refine g_istore_n (pc := 11) (L' := [(2, .int 0), (0, .ref (eA E 58)), (1, .int (nI k))]) dX9_least_11 rfl (Nat.le_of_ble_eq_true rfl) rfl ?_
    refine g_iconst (pc := 12) (v := 0) dX9_least_12 (by decide) ?_
    refine g_istore_n (pc := 13) (L' := [(3, .int 0), (2, .int 0), (0, .ref (eA E 58)), (1, .int (nI k))]) dX9_least_13 rfl (Nat.le_of_ble_eq_true rfl) rfl ?_
    have H_14 : ∀ n : Nat, n ≤ (2 ^ nM S) → G E X i_X9_least S 14 [(0, .ref (eA E 58)), (1, .int (nI k)), (2, .int (lsM S k n)), (3, .int (nI n))] [] := by
      refine dn_ind (2 ^ nM S) (fun n hn_14 ih_14 => ?_)
      refine g_iload_n (pc := 14) dX9_least_14 3 rfl rfl ?_
      refine g_iconst (pc := 15) (v := 1) dX9_least_15 (by decide) ?_
      refine g_aload_n (pc := 16) dX9_least_16 0 rfl rfl ?_
      refine gf_X9_7 (pc := 17) rfl dX9_least_17 ?_
      refine g_iconst (pc := 20) (v := 0) dX9_least_20 (by decide) ?_
      refine g_iald (pc := 21) 0 rfl rfl (by decide) (by decide) dX9_least_21 ?_
      refine g_ishl (pc := 22) dX9_least_22 ?_
      refine g_icmp_ge (pc := 23) (tgt := 69) dX9_least_23 (by decide) (fun c_23 => ?_) (fun c_23 => ?_)
      · have k_23 := Int32.not_lt.mpr c_23
        have he_14 : n = (2 ^ nM S) := Nat.le_antisymm hn_14 (by exact nle_of (N := 2 ^ nM S) rfl (sh1 hz.1 hz.2) (by omega) (by omega) c_23)
        rw [he_14]
        refine g_iload_n (pc := 69) dX9_least_69 2 rfl rfl ?_
        refine g_if_ne (pc := 70) (tgt := 76) dX9_least_70 (by decide) (fun c_70 => ?_) (fun c_70 => ?_)
        · exact absurd h c_70
        · refine g_bipush (pc := 73) (v := -9) dX9_least_73 (by decide) ?_
          exact g_iret (pc := 75) hM rfl rfl ⟨rfl, rfl⟩ dX9_least_75
      · have k_23 := Int32.not_le.mp c_23
        have hlt_14 : n < (2 ^ nM S) := by exact nlt_of (N := 2 ^ nM S) rfl (sh1 hz.1 hz.2) (by omega) (by omega) c_23
        refine g_iload_n (pc := 26) dX9_least_26 3 rfl rfl ?_
        refine g_iload_n (pc := 27) dX9_least_27 1 rfl rfl ?_
        refine g_invS (pc := 28) j_X9_has mw_X9_143 dX9_least_28 (by rfl) (c_X9_has E S (nI n) (nI k) ) (Nat.le_of_ble_eq_true rfl) (Nat.le_of_ble_eq_true rfl) (by rfl) (Nat.le_of_ble_eq_true rfl) ?_
        refine g_b_eq (pc := 31) (tgt := 61) dX9_least_31 (by decide) (fun c_31 => ?_) (fun c_31 => ?_)
        · refine g_iload_n (pc := 61) dX9_least_61 2 rfl rfl ?_
          refine g_istore_n (pc := 62) (L' := [(2, .int (lsM S k n)), (0, .ref (eA E 58)), (1, .int (nI k)), (3, .int (nI n))]) dX9_least_62 rfl (Nat.le_of_ble_eq_true rfl) rfl ?_
          refine g_iinc (pc := 63) (L' := [(3, .int (nI n + 1)), (2, .int (lsM S k n)), (0, .ref (eA E 58)), (1, .int (nI k))]) dX9_least_63 (k := 3) rfl (v := nI n + 1) rfl (Nat.le_of_ble_eq_true rfl) rfl ?_
          refine g_goto (pc := 66) (tgt := 14) dX9_least_66 (by decide) ?_
          refine g_sub (L' := [(0, .ref (eA E 58)), (1, .int (nI k)), (2, .int (lsM S k n)), (3, .int (nI n + 1))]) [2, 3, 1, 0] rfl ?_
          exact g_eq rfl (by rw [nI_1, lsM]; simp only [c_31, if_true, if_false, Bool.false_eq_true, Bool.not_true, Bool.not_false, Bool.and_true, Bool.true_and, Bool.and_false, Bool.false_and, Bool.or_true, Bool.true_or, Bool.or_false, Bool.false_or, decide_true, decide_false, Bool.and_self]) rfl (ih_14 hlt_14)
        · refine g_aload_n (pc := 34) dX9_least_34 0 rfl rfl ?_
          refine g_iload_n (pc := 35) dX9_least_35 3 rfl rfl ?_
          refine g_invV (pc := 36) j_X9_isRing mw_X9_195 dX9_least_36 (rcv_X9) (by rfl) (c_X9_isRing E S (nI n) (by first | assumption | omega | rfl)) (Nat.le_of_ble_eq_true rfl) (Nat.le_of_ble_eq_true rfl) (by rfl) (Nat.le_of_ble_eq_true rfl) ?_
          refine g_b_eq (pc := 39) (tgt := 61) dX9_least_39 (by decide) (fun c_39 => ?_) (fun c_39 => ?_)
          · refine g_iload_n (pc := 61) dX9_least_61 2 rfl rfl ?_
            refine g_istore_n (pc := 62) (L' := [(2, .int (lsM S k n)), (0, .ref (eA E 58)), (1, .int (nI k)), (3, .int (nI n))]) dX9_least_62 rfl (Nat.le_of_ble_eq_true rfl) rfl ?_
            refine g_iinc (pc := 63) (L' := [(3, .int (nI n + 1)), (2, .int (lsM S k n)), (0, .ref (eA E 58)), (1, .int (nI k))]) dX9_least_63 (k := 3) rfl (v := nI n + 1) rfl (Nat.le_of_ble_eq_true rfl) rfl ?_
            refine g_goto (pc := 66) (tgt := 14) dX9_least_66 (by decide) ?_
            refine g_sub (L' := [(0, .ref (eA E 58)), (1, .int (nI k)), (2, .int (lsM S k n)), (3, .int (nI n + 1))]) [2, 3, 1, 0] rfl ?_
            exact g_eq rfl (by rw [nI_1, lsM]; simp only [c_31, c_39, if_true, if_false, Bool.false_eq_true, Bool.not_true, Bool.not_false, Bool.and_true, Bool.true_and, Bool.and_false, Bool.false_and, Bool.or_true, Bool.true_or, Bool.or_false, Bool.false_or, decide_true, decide_false, Bool.and_self]) rfl (ih_14 hlt_14)
          · refine g_iload_n (pc := 42) dX9_least_42 2 rfl rfl ?_
            refine g_if_eq (pc := 43) (tgt := 57) dX9_least_43 (by decide) (fun c_43 => ?_) (fun c_43 => ?_)
            · refine g_iload_n (pc := 57) dX9_least_57 3 rfl rfl ?_
              refine g_goto (pc := 58) (tgt := 62) dX9_least_58 (by decide) ?_
              refine g_istore_n (pc := 62) (L' := [(2, .int (nI n)), (0, .ref (eA E 58)), (1, .int (nI k)), (3, .int (nI n))]) dX9_least_62 rfl (Nat.le_of_ble_eq_true rfl) rfl ?_
              refine g_iinc (pc := 63) (L' := [(3, .int (nI n + 1)), (2, .int (nI n)), (0, .ref (eA E 58)), (1, .int (nI k))]) dX9_least_63 (k := 3) rfl (v := nI n + 1) rfl (Nat.le_of_ble_eq_true rfl) rfl ?_
              refine g_goto (pc := 66) (tgt := 14) dX9_least_66 (by decide) ?_
              refine g_sub (L' := [(0, .ref (eA E 58)), (1, .int (nI k)), (2, .int (nI n)), (3, .int (nI n + 1))]) [2, 3, 1, 0] rfl ?_
              exact g_eq rfl (by rw [nI_1, lsM]; simp only [c_31, c_39, eq_true c_43, if_true, if_false, Bool.false_eq_true, Bool.not_true, Bool.not_false, Bool.and_true, Bool.true_and, Bool.and_false, Bool.false_and, Bool.or_true, Bool.true_or, Bool.or_false, Bool.false_or, decide_true, decide_false, Bool.and_self]) rfl (ih_14 hlt_14)
            · refine g_iload_n (pc := 46) dX9_least_46 3 rfl rfl ?_
              refine g_invS (pc := 47) j_X9_ones mw_X9_198 dX9_least_47 (by rfl) (c_X9_ones E S (nI n) ) (Nat.le_of_ble_eq_true rfl) (Nat.le_of_ble_eq_true rfl) (by rfl) (Nat.le_of_ble_eq_true rfl) ?_
              refine g_iload_n (pc := 50) dX9_least_50 2 rfl rfl ?_
              refine g_invS (pc := 51) j_X9_ones mw_X9_198 dX9_least_51 (by rfl) (c_X9_ones E S (lsM S k n) ) (Nat.le_of_ble_eq_true rfl) (Nat.le_of_ble_eq_true rfl) (by rfl) (Nat.le_of_ble_eq_true rfl) ?_
              refine g_icmp_ge (pc := 54) (tgt := 61) dX9_least_54 (by decide) (fun c_54 => ?_) (fun c_54 => ?_)
              · have k_54 := Int32.not_lt.mpr c_54
                refine g_iload_n (pc := 61) dX9_least_61 2 rfl rfl ?_
                refine g_istore_n (pc := 62) (L' := [(2, .int (lsM S k n)), (0, .ref (eA E 58)), (1, .int (nI k)), (3, .int (nI n))]) dX9_least_62 rfl (Nat.le_of_ble_eq_true rfl) rfl ?_
                refine g_iinc (pc := 63) (L' := [(3, .int (nI n + 1)), (2, .int (lsM S k n)), (0, .ref (eA E 58)), (1, .int (nI k))]) dX9_least_63 (k := 3) rfl (v := nI n + 1) rfl (Nat.le_of_ble_eq_true rfl) rfl ?_
                refine g_goto (pc := 66) (tgt := 14) dX9_least_66 (by decide) ?_
                refine g_sub (L' := [(0, .ref (eA E 58)), (1, .int (nI k)), (2, .int (lsM S k n)), (3, .int (nI n + 1))]) [2, 3, 1, 0] rfl ?_
                exact g_eq rfl (by rw [nI_1, lsM]; simp only [c_31, c_39, c_43, c_54, k_54, if_true, if_false, Bool.false_eq_true, Bool.not_true, Bool.not_false, Bool.and_true, Bool.true_and, Bool.and_false, Bool.false_and, Bool.or_true, Bool.true_or, Bool.or_false, Bool.false_or, decide_true, decide_false, Bool.and_self]) rfl (ih_14 hlt_14)
              · have k_54 := Int32.not_le.mp c_54
                refine g_iload_n (pc := 57) dX9_least_57 3 rfl rfl ?_
                refine g_goto (pc := 58) (tgt := 62) dX9_least_58 (by decide) ?_
                refine g_istore_n (pc := 62) (L' := [(2, .int (nI n)), (0, .ref (eA E 58)), (1, .int (nI k)), (3, .int (nI n))]) dX9_least_62 rfl (Nat.le_of_ble_eq_true rfl) rfl ?_
                refine g_iinc (pc := 63) (L' := [(3, .int (nI n + 1)), (2, .int (nI n)), (0, .ref (eA E 58)), (1, .int (nI k))]) dX9_least_63 (k := 3) rfl (v := nI n + 1) rfl (Nat.le_of_ble_eq_true rfl) rfl ?_
                refine g_goto (pc := 66) (tgt := 14) dX9_least_66 (by decide) ?_
                refine g_sub (L' := [(0, .ref (eA E 58)), (1, .int (nI k)), (2, .int (nI n)), (3, .int (nI n + 1))]) [2, 3, 1, 0] rfl ?_
                exact g_eq rfl (by rw [nI_1, lsM]; simp only [c_31, c_39, c_43, c_54, k_54, if_true, if_false, Bool.false_eq_true, Bool.not_true, Bool.not_false, Bool.and_true, Bool.true_and, Bool.and_false, Bool.false_and, Bool.or_true, Bool.true_or, Bool.or_false, Bool.false_or, decide_true, decide_false, Bool.and_self]) rfl (ih_14 hlt_14)
    refine g_sub (L' := [(0, .ref (eA E 58)), (1, .int (nI k)), (2, .int 0), (3, .int 0)]) [2, 3, 1, 0] rfl ?_
    exact g_eq rfl rfl rfl (H_14 0 (Nat.zero_le _))
  · exact absurd (hx.symm.trans c_5) (by decide)
set_option maxRecDepth 100000 in
set_option maxHeartbeats 4000000 in
theorem c_X9_least_ok (E : En) (S : St) (k : Nat) (hz : okM S)(hk : k < nM S) (h : ¬ lsM S k (2 ^ nM S) = 0) : CTe E i_X9_least S [.ref (eA E 58), .int (nI k)] (sI S 58 7 (lsM S k (2 ^ nM S))) (some (.int (onF (lsM S k (2 ^ nM S))))) := by
  have hz8 := hz.2
  have hp2 := p2_le hz.2
  have hpp := p2_pos (N := nM S)
  have hx := idx_in hk (show nM S < 2 ^ 31 by omega)
  refine ct_of [(0, .ref (eA E 58)), (1, .int (nI k))] (by decide +kernel) (Nat.le_of_ble_eq_true rfl) rfl (fun X hM => ?_)
  refine g_aload_n (pc := 0) dX9_least_0 0 rfl rfl ?_
  refine g_iload_n (pc := 1) dX9_least_1 1 rfl rfl ?_
  refine g_invV (pc := 2) j_X9_isLight mw_X9_127 dX9_least_2 (rcv_X9) (by rfl) (c_X9_isLight E S (nI k) (by first | assumption | omega | rfl)) (Nat.le_of_ble_eq_true rfl) (Nat.le_of_ble_eq_true rfl) (by rfl) (Nat.le_of_ble_eq_true rfl) ?_
  refine g_b_ne (pc := 5) (tgt := 10) dX9_least_5 (by decide) (fun c_5 => ?_) (fun c_5 => ?_)
  · refine g_iconst (pc := 10) (v := 0) dX9_least_10 (by decide) ?_
    refine g_istore_n (pc := 11) (L' := [(2, .int 0), (0, .ref (eA E 58)), (1, .int (nI k))]) dX9_least_11 rfl (Nat.le_of_ble_eq_true rfl) rfl ?_
    refine g_iconst (pc := 12) (v := 0) dX9_least_12 (by decide) ?_
    refine g_istore_n (pc := 13) (L' := [(3, .int 0), (2, .int 0), (0, .ref (eA E 58)), (1, .int (nI k))]) dX9_least_13 rfl (Nat.le_of_ble_eq_true rfl) rfl ?_
    have H_14 : ∀ n : Nat, n ≤ (2 ^ nM S) → G E X i_X9_least S 14 [(0, .ref (eA E 58)), (1, .int (nI k)), (2, .int (lsM S k n)), (3, .int (nI n))] [] := by
      refine dn_ind (2 ^ nM S) (fun n hn_14 ih_14 => ?_)
      refine g_iload_n (pc := 14) dX9_least_14 3 rfl rfl ?_
      refine g_iconst (pc := 15) (v := 1) dX9_least_15 (by decide) ?_
      refine g_aload_n (pc := 16) dX9_least_16 0 rfl rfl ?_
      refine gf_X9_7 (pc := 17) rfl dX9_least_17 ?_
      refine g_iconst (pc := 20) (v := 0) dX9_least_20 (by decide) ?_
      refine g_iald (pc := 21) 0 rfl rfl (by decide) (by decide) dX9_least_21 ?_
      refine g_ishl (pc := 22) dX9_least_22 ?_
      refine g_icmp_ge (pc := 23) (tgt := 69) dX9_least_23 (by decide) (fun c_23 => ?_) (fun c_23 => ?_)
      · have k_23 := Int32.not_lt.mpr c_23
        have he_14 : n = (2 ^ nM S) := Nat.le_antisymm hn_14 (by exact nle_of (N := 2 ^ nM S) rfl (sh1 hz.1 hz.2) (by omega) (by omega) c_23)
        rw [he_14]
        refine g_iload_n (pc := 69) dX9_least_69 2 rfl rfl ?_
        refine g_if_ne (pc := 70) (tgt := 76) dX9_least_70 (by decide) (fun c_70 => ?_) (fun c_70 => ?_)
        · refine g_aload_n (pc := 76) dX9_least_76 0 rfl rfl ?_
          refine g_iload_n (pc := 77) dX9_least_77 2 rfl rfl ?_
          refine pf_X9_57 (pc := 78) rfl dX9_least_78 ?_
          refine g_iload_n (pc := 81) dX9_least_81 2 rfl rfl ?_
          refine g_invS (pc := 82) j_X9_ones mw_X9_198 dX9_least_82 (by rfl) (c_X9_ones E (sI S 58 7 (lsM S k (2 ^ nM S))) (lsM S k (2 ^ nM S)) ) (Nat.le_of_ble_eq_true rfl) (Nat.le_of_ble_eq_true rfl) (by rfl) (Nat.le_of_ble_eq_true rfl) ?_
          exact g_iret (pc := 85) hM rfl rfl ⟨rfl, rfl⟩ dX9_least_85
        · exact absurd c_70 h
      · have k_23 := Int32.not_le.mp c_23
        have hlt_14 : n < (2 ^ nM S) := by exact nlt_of (N := 2 ^ nM S) rfl (sh1 hz.1 hz.2) (by omega) (by omega) c_23
        refine g_iload_n (pc := 26) dX9_least_26 3 rfl rfl ?_
        refine g_iload_n (pc := 27) dX9_least_27 1 rfl rfl ?_
        refine g_invS (pc := 28) j_X9_has mw_X9_143 dX9_least_28 (by rfl) (c_X9_has E S (nI n) (nI k) ) (Nat.le_of_ble_eq_true rfl) (Nat.le_of_ble_eq_true rfl) (by rfl) (Nat.le_of_ble_eq_true rfl) ?_
        refine g_b_eq (pc := 31) (tgt := 61) dX9_least_31 (by decide) (fun c_31 => ?_) (fun c_31 => ?_)
        · refine g_iload_n (pc := 61) dX9_least_61 2 rfl rfl ?_
          refine g_istore_n (pc := 62) (L' := [(2, .int (lsM S k n)), (0, .ref (eA E 58)), (1, .int (nI k)), (3, .int (nI n))]) dX9_least_62 rfl (Nat.le_of_ble_eq_true rfl) rfl ?_
          refine g_iinc (pc := 63) (L' := [(3, .int (nI n + 1)), (2, .int (lsM S k n)), (0, .ref (eA E 58)), (1, .int (nI k))]) dX9_least_63 (k := 3) rfl (v := nI n + 1) rfl (Nat.le_of_ble_eq_true rfl) rfl ?_
          refine g_goto (pc := 66) (tgt := 14) dX9_least_66 (by decide) ?_
          refine g_sub (L' := [(0, .ref (eA E 58)), (1, .int (nI k)), (2, .int (lsM S k n)), (3, .int (nI n + 1))]) [2, 3, 1, 0] rfl ?_
          exact g_eq rfl (by rw [nI_1, lsM]; simp only [c_31, if_true, if_false, Bool.false_eq_true, Bool.not_true, Bool.not_false, Bool.and_true, Bool.true_and, Bool.and_false, Bool.false_and, Bool.or_true, Bool.true_or, Bool.or_false, Bool.false_or, decide_true, decide_false, Bool.and_self]) rfl (ih_14 hlt_14)
        · refine g_aload_n (pc := 34) dX9_least_34 0 rfl rfl ?_
          refine g_iload_n (pc := 35) dX9_least_35 3 rfl rfl ?_
          refine g_invV (pc := 36) j_X9_isRing mw_X9_195 dX9_least_36 (rcv_X9) (by rfl) (c_X9_isRing E S (nI n) (by first | assumption | omega | rfl)) (Nat.le_of_ble_eq_true rfl) (Nat.le_of_ble_eq_true rfl) (by rfl) (Nat.le_of_ble_eq_true rfl) ?_
          refine g_b_eq (pc := 39) (tgt := 61) dX9_least_39 (by decide) (fun c_39 => ?_) (fun c_39 => ?_)
          · refine g_iload_n (pc := 61) dX9_least_61 2 rfl rfl ?_
            refine g_istore_n (pc := 62) (L' := [(2, .int (lsM S k n)), (0, .ref (eA E 58)), (1, .int (nI k)), (3, .int (nI n))]) dX9_least_62 rfl (Nat.le_of_ble_eq_true rfl) rfl ?_
            refine g_iinc (pc := 63) (L' := [(3, .int (nI n + 1)), (2, .int (lsM S k n)), (0, .ref (eA E 58)), (1, .int (nI k))]) dX9_least_63 (k := 3) rfl (v := nI n + 1) rfl (Nat.le_of_ble_eq_true rfl) rfl ?_
            refine g_goto (pc := 66) (tgt := 14) dX9_least_66 (by decide) ?_
            refine g_sub (L' := [(0, .ref (eA E 58)), (1, .int (nI k)), (2, .int (lsM S k n)), (3, .int (nI n + 1))]) [2, 3, 1, 0] rfl ?_
            exact g_eq rfl (by rw [nI_1, lsM]; simp only [c_31, c_39, if_true, if_false, Bool.false_eq_true, Bool.not_true, Bool.not_false, Bool.and_true, Bool.true_and, Bool.and_false, Bool.false_and, Bool.or_true, Bool.true_or, Bool.or_false, Bool.false_or, decide_true, decide_false, Bool.and_self]) rfl (ih_14 hlt_14)
          · refine g_iload_n (pc := 42) dX9_least_42 2 rfl rfl ?_
            refine g_if_eq (pc := 43) (tgt := 57) dX9_least_43 (by decide) (fun c_43 => ?_) (fun c_43 => ?_)
            · refine g_iload_n (pc := 57) dX9_least_57 3 rfl rfl ?_
              refine g_goto (pc := 58) (tgt := 62) dX9_least_58 (by decide) ?_
              refine g_istore_n (pc := 62) (L' := [(2, .int (nI n)), (0, .ref (eA E 58)), (1, .int (nI k)), (3, .int (nI n))]) dX9_least_62 rfl (Nat.le_of_ble_eq_true rfl) rfl ?_
              refine g_iinc (pc := 63) (L' := [(3, .int (nI n + 1)), (2, .int (nI n)), (0, .ref (eA E 58)), (1, .int (nI k))]) dX9_least_63 (k := 3) rfl (v := nI n + 1) rfl (Nat.le_of_ble_eq_true rfl) rfl ?_
              refine g_goto (pc := 66) (tgt := 14) dX9_least_66 (by decide) ?_
              refine g_sub (L' := [(0, .ref (eA E 58)), (1, .int (nI k)), (2, .int (nI n)), (3, .int (nI n + 1))]) [2, 3, 1, 0] rfl ?_
              exact g_eq rfl (by rw [nI_1, lsM]; simp only [c_31, c_39, eq_true c_43, if_true, if_false, Bool.false_eq_true, Bool.not_true, Bool.not_false, Bool.and_true, Bool.true_and, Bool.and_false, Bool.false_and, Bool.or_true, Bool.true_or, Bool.or_false, Bool.false_or, decide_true, decide_false, Bool.and_self]) rfl (ih_14 hlt_14)
            · refine g_iload_n (pc := 46) dX9_least_46 3 rfl rfl ?_
              refine g_invS (pc := 47) j_X9_ones mw_X9_198 dX9_least_47 (by rfl) (c_X9_ones E S (nI n) ) (Nat.le_of_ble_eq_true rfl) (Nat.le_of_ble_eq_true rfl) (by rfl) (Nat.le_of_ble_eq_true rfl) ?_
              refine g_iload_n (pc := 50) dX9_least_50 2 rfl rfl ?_
              refine g_invS (pc := 51) j_X9_ones mw_X9_198 dX9_least_51 (by rfl) (c_X9_ones E S (lsM S k n) ) (Nat.le_of_ble_eq_true rfl) (Nat.le_of_ble_eq_true rfl) (by rfl) (Nat.le_of_ble_eq_true rfl) ?_
              refine g_icmp_ge (pc := 54) (tgt := 61) dX9_least_54 (by decide) (fun c_54 => ?_) (fun c_54 => ?_)
              · have k_54 := Int32.not_lt.mpr c_54
                refine g_iload_n (pc := 61) dX9_least_61 2 rfl rfl ?_
                refine g_istore_n (pc := 62) (L' := [(2, .int (lsM S k n)), (0, .ref (eA E 58)), (1, .int (nI k)), (3, .int (nI n))]) dX9_least_62 rfl (Nat.le_of_ble_eq_true rfl) rfl ?_
                refine g_iinc (pc := 63) (L' := [(3, .int (nI n + 1)), (2, .int (lsM S k n)), (0, .ref (eA E 58)), (1, .int (nI k))]) dX9_least_63 (k := 3) rfl (v := nI n + 1) rfl (Nat.le_of_ble_eq_true rfl) rfl ?_
                refine g_goto (pc := 66) (tgt := 14) dX9_least_66 (by decide) ?_
                refine g_sub (L' := [(0, .ref (eA E 58)), (1, .int (nI k)), (2, .int (lsM S k n)), (3, .int (nI n + 1))]) [2, 3, 1, 0] rfl ?_
                exact g_eq rfl (by rw [nI_1, lsM]; simp only [c_31, c_39, c_43, c_54, k_54, if_true, if_false, Bool.false_eq_true, Bool.not_true, Bool.not_false, Bool.and_true, Bool.true_and, Bool.and_false, Bool.false_and, Bool.or_true, Bool.true_or, Bool.or_false, Bool.false_or, decide_true, decide_false, Bool.and_self]) rfl (ih_14 hlt_14)
              · have k_54 := Int32.not_le.mp c_54
                refine g_iload_n (pc := 57) dX9_least_57 3 rfl rfl ?_
                refine g_goto (pc := 58) (tgt := 62) dX9_least_58 (by decide) ?_
                refine g_istore_n (pc := 62) (L' := [(2, .int (nI n)), (0, .ref (eA E 58)), (1, .int (nI k)), (3, .int (nI n))]) dX9_least_62 rfl (Nat.le_of_ble_eq_true rfl) rfl ?_
                refine g_iinc (pc := 63) (L' := [(3, .int (nI n + 1)), (2, .int (nI n)), (0, .ref (eA E 58)), (1, .int (nI k))]) dX9_least_63 (k := 3) rfl (v := nI n + 1) rfl (Nat.le_of_ble_eq_true rfl) rfl ?_
                refine g_goto (pc := 66) (tgt := 14) dX9_least_66 (by decide) ?_
                refine g_sub (L' := [(0, .ref (eA E 58)), (1, .int (nI k)), (2, .int (nI n)), (3, .int (nI n + 1))]) [2, 3, 1, 0] rfl ?_
                exact g_eq rfl (by rw [nI_1, lsM]; simp only [c_31, c_39, c_43, c_54, k_54, if_true, if_false, Bool.false_eq_true, Bool.not_true, Bool.not_false, Bool.and_true, Bool.true_and, Bool.and_false, Bool.false_and, Bool.or_true, Bool.true_or, Bool.or_false, Bool.false_or, decide_true, decide_false, Bool.and_self]) rfl (ih_14 hlt_14)
    refine g_sub (L' := [(0, .ref (eA E 58)), (1, .int (nI k)), (2, .int 0), (3, .int 0)]) [2, 3, 1, 0] rfl ?_
    exact g_eq rfl rfl rfl (H_14 0 (Nat.zero_le _))
  · exact absurd (hx.symm.trans c_5) (by decide)
set_option maxRecDepth 100000 in
set_option maxHeartbeats 4000000 in
theorem c_X9_dim_bad (E : En) (S : St) (p v : Int32) (h : ¬ (placeF p = true ∧ inF v.toInt64 0 99 = true)) : CTe E i_X9_dim S [.ref (eA E 58), .int p, .int v] S (some (.int (-1))) := by
  refine ct_of [(0, .ref (eA E 58)), (1, .int p), (2, .int v)] (by decide +kernel) (Nat.le_of_ble_eq_true rfl) rfl (fun X hM => ?_)
  refine g_iload_n (pc := 0) dX9_dim_0 1 rfl rfl ?_
  refine g_invS (pc := 1) j_X9_isPlace mw_X9_156 dX9_dim_1 (by rfl) (c_X9_isPlace E S p ) (Nat.le_of_ble_eq_true rfl) (Nat.le_of_ble_eq_true rfl) (by rfl) (Nat.le_of_ble_eq_true rfl) ?_
  refine g_b_eq (pc := 4) (tgt := 19) dX9_dim_4 (by decide) (fun c_4 => ?_) (fun c_4 => ?_)
  · refine g_iconst (pc := 19) (v := -1) dX9_dim_19 (by decide) ?_
    exact g_iret (pc := 20) hM rfl rfl ⟨rfl, rfl⟩ dX9_dim_20
  · refine g_iload_n (pc := 7) dX9_dim_7 2 rfl rfl ?_
    refine g_i2l (pc := 8) dX9_dim_8 ?_
    refine g_lconst (pc := 9) (v := 0) dX9_dim_9 (by decide) ?_
    refine g_ldc2 (pc := 10) kw_X9_141 dX9_dim_10 ?_
    refine g_invS (pc := 13) j_X9_in mw_X9_62 dX9_dim_13 (by rfl) (c_X9_in E S v.toInt64 0 99 ) (Nat.le_of_ble_eq_true rfl) (Nat.le_of_ble_eq_true rfl) (by rfl) (Nat.le_of_ble_eq_true rfl) ?_
    refine g_b_ne (pc := 16) (tgt := 21) dX9_dim_16 (by decide) (fun c_16 => ?_) (fun c_16 => ?_)
    · exact absurd ⟨c_4, c_16⟩ h
    · refine g_iconst (pc := 19) (v := -1) dX9_dim_19 (by decide) ?_
      exact g_iret (pc := 20) hM rfl rfl ⟨rfl, rfl⟩ dX9_dim_20
theorem nI_dn {m n : Nat} (h : n < m) (hm : m < 2 ^ 31) : nI (m - n) - 1 + (-1) = nI (m - (n + 1)) - 1 := by
  rw [show nI (m - n) - 1 = nI (m - n - 1) from pk_sub (b := 1) (by omega)]
  rw [show m - n - 1 = m - (n + 1) by omega]
  exact (Int32.sub_eq_add_neg _ _).symm
theorem nI_m1 {m n : Nat} (h : n < m) : nI (m - n) - 1 = nI (m - 1 - n) := by
  rw [show nI (m - n) - 1 = nI (m - n - 1) from pk_sub (b := 1) (by omega), show m - n - 1 = m - 1 - n by omega]
set_option maxRecDepth 100000 in
set_option maxHeartbeats 4000000 in
theorem c_X9_dim_ok (E : En) (S : St) (p v : Int32) (hz : okM S)(hp : placeF p = true) (hv : inF v.toInt64 0 99 = true) : CTe E i_X9_dim S [.ref (eA E 58), .int p, .int v] (sI S 58 7 (dm2 S p v (2 ^ nM S) (2 ^ nM S))) (some (.int (onF (dm2 S p v (2 ^ nM S) (2 ^ nM S))))) := by
  have hz8 := hz.2
  have hp2 := p2_le hz.2
  have hpp := p2_pos (N := nM S)
  refine ct_of [(0, .ref (eA E 58)), (1, .int p), (2, .int v)] (by decide +kernel) (Nat.le_of_ble_eq_true rfl) rfl (fun X hM => ?_)
  refine g_iload_n (pc := 0) dX9_dim_0 1 rfl rfl ?_
  refine g_invS (pc := 1) j_X9_isPlace mw_X9_156 dX9_dim_1 (by rfl) (c_X9_isPlace E S p ) (Nat.le_of_ble_eq_true rfl) (Nat.le_of_ble_eq_true rfl) (by rfl) (Nat.le_of_ble_eq_true rfl) ?_
  refine g_b_eq (pc := 4) (tgt := 19) dX9_dim_4 (by decide) (fun c_4 => ?_) (fun c_4 => ?_)
  · exact absurd (hp.symm.trans c_4) (by decide)
  · refine g_iload_n (pc := 7) dX9_dim_7 2 rfl rfl ?_
    refine g_i2l (pc := 8) dX9_dim_8 ?_
    refine g_lconst (pc := 9) (v := 0) dX9_dim_9 (by decide) ?_
    refine g_ldc2 (pc := 10) kw_X9_141 dX9_dim_10 ?_
    refine g_invS (pc := 13) j_X9_in mw_X9_62 dX9_dim_13 (by rfl) (c_X9_in E S v.toInt64 0 99 ) (Nat.le_of_ble_eq_true rfl) (Nat.le_of_ble_eq_true rfl) (by rfl) (Nat.le_of_ble_eq_true rfl) ?_
    refine g_b_ne (pc := 16) (tgt := 21) dX9_dim_16 (by decide) (fun c_16 => ?_) (fun c_16 => ?_)
    · refine g_aload_n (pc := 21) dX9_dim_21 0 rfl rfl ?_
      refine gf_X9_7 (pc := 22) rfl dX9_dim_22 ?_
      refine g_iconst (pc := 25) (v := 2) dX9_dim_25 (by decide) ?_
      refine g_iald (pc := 26) 2 rfl rfl (by decide) (by decide) dX9_dim_26 ?_
      refine g_istore_n (pc := 27) (L' := [(3, .int (gA S 59 2)), (0, .ref (eA E 58)), (1, .int p), (2, .int v)]) dX9_dim_27 rfl (Nat.le_of_ble_eq_true rfl) rfl ?_
      refine g_iconst (pc := 28) (v := 0) dX9_dim_28 (by decide) ?_
      refine g_istore (pc := 29) (L' := [(4, .int 0), (3, .int (gA S 59 2)), (0, .ref (eA E 58)), (1, .int p), (2, .int v)]) dX9_dim_29 (Nat.le_of_ble_eq_true rfl) rfl ?_
      have H_31 : ∀ n : Nat, n ≤ (2 ^ nM S) → G E X i_X9_dim S 31 [(0, .ref (eA E 58)), (1, .int p), (2, .int v), (3, .int (dm1 S p v n)), (4, .int (nI n))] [] := by
        refine dn_ind (2 ^ nM S) (fun n hn_31 ih_31 => ?_)
        refine g_iload (pc := 31) dX9_dim_31 4 rfl ?_
        refine g_iconst (pc := 33) (v := 1) dX9_dim_33 (by decide) ?_
        refine g_aload_n (pc := 34) dX9_dim_34 0 rfl rfl ?_
        refine gf_X9_7 (pc := 35) rfl dX9_dim_35 ?_
        refine g_iconst (pc := 38) (v := 0) dX9_dim_38 (by decide) ?_
        refine g_iald (pc := 39) 0 rfl rfl (by decide) (by decide) dX9_dim_39 ?_
        refine g_ishl (pc := 40) dX9_dim_40 ?_
        refine g_icmp_ge (pc := 41) (tgt := 121) dX9_dim_41 (by decide) (fun c_41 => ?_) (fun c_41 => ?_)
        · have k_41 := Int32.not_lt.mpr c_41
          have he_31 : n = (2 ^ nM S) := Nat.le_antisymm hn_31 (by exact nle_of (N := 2 ^ nM S) rfl (sh1 hz.1 hz.2) (by omega) (by omega) c_41)
          rw [he_31]
          refine g_iconst (pc := 121) (v := 1) dX9_dim_121 (by decide) ?_
          refine g_aload_n (pc := 122) dX9_dim_122 0 rfl rfl ?_
          refine gf_X9_7 (pc := 123) rfl dX9_dim_123 ?_
          refine g_iconst (pc := 126) (v := 0) dX9_dim_126 (by decide) ?_
          refine g_iald (pc := 127) 0 rfl rfl (by decide) (by decide) dX9_dim_127 ?_
          refine g_ishl (pc := 128) dX9_dim_128 ?_
          refine g_iconst (pc := 129) (v := 1) dX9_dim_129 (by decide) ?_
          refine g_isub (pc := 130) dX9_dim_130 ?_
          refine g_istore (pc := 131) (L' := [(4, .int (((1 : Int32) <<< ((gA S 59 0) &&& 31)) - 1)), (0, .ref (eA E 58)), (1, .int p), (2, .int v), (3, .int (dm1 S p v (2 ^ nM S)))]) dX9_dim_131 (Nat.le_of_ble_eq_true rfl) rfl ?_
          have H_133 : ∀ n : Nat, n ≤ 2 ^ nM S → G E X i_X9_dim S 133 [(0, .ref (eA E 58)), (1, .int p), (2, .int v), (3, .int (dm2 S p v (2 ^ nM S) n)), (4, .int (nI (2 ^ nM S - n) - 1))] [] := by
            refine dn_ind (2 ^ nM S) (fun n hn_133 ih_133 => ?_)
            rcases Nat.lt_or_ge n (2 ^ nM S) with hlt_133 | hge_133
            · rw [nI_m1 hlt_133] at *
              refine g_iload (pc := 133) dX9_dim_133 4 rfl ?_
              refine g_if_lt (pc := 135) (tgt := 215) dX9_dim_135 (by decide) (fun c_135 => ?_) (fun c_135 => ?_)
              · have k_135 := Int32.not_le.mpr c_135
                exact absurd c_135 (nI_pos (by omega))
              · have k_135 := Int32.not_lt.mp c_135
                refine g_iload (pc := 138) dX9_dim_138 4 rfl ?_
                refine g_aload_n (pc := 140) dX9_dim_140 0 rfl rfl ?_
                refine gf_X9_7 (pc := 141) rfl dX9_dim_141 ?_
                refine g_iconst (pc := 144) (v := 2) dX9_dim_144 (by decide) ?_
                refine g_iald (pc := 145) 2 rfl rfl (by decide) (by decide) dX9_dim_145 ?_
                refine g_iconst (pc := 146) (v := -1) dX9_dim_146 (by decide) ?_
                refine g_ixor (pc := 147) dX9_dim_147 ?_
                refine g_iand (pc := 148) dX9_dim_148 ?_
                refine g_if_ne (pc := 149) (tgt := 182) dX9_dim_149 (by decide) (fun c_149 => ?_) (fun c_149 => ?_)
                · refine g_iconst (pc := 182) (v := 0) dX9_dim_182 (by decide) ?_
                  refine g_istore (pc := 183) (L' := [(5, .int 0), (0, .ref (eA E 58)), (1, .int p), (2, .int v), (3, .int (dm2 S p v (2 ^ nM S) n)), (4, .int (nI (2 ^ nM S - 1 - n)))]) dX9_dim_183 (Nat.le_of_ble_eq_true rfl) rfl ?_
                  refine g_iload (pc := 185) dX9_dim_185 0 rfl ?_
                  refine g_if_eq (pc := 187) (tgt := 207) dX9_dim_187 (by decide) (fun c_187 => ?_) (fun c_187 => ?_)
                  · refine g_iload_n (pc := 207) dX9_dim_207 4 rfl rfl ?_
                    refine g_istore_n (pc := 208) (L' := [(3, .int (dm2 S p v (2 ^ nM S) n)), (5, .int 0), (0, .ref (eA E 58)), (1, .int p), (2, .int v), (4, .int (nI (2 ^ nM S - 1 - n)))]) dX9_dim_208 rfl (Nat.le_of_ble_eq_true rfl) rfl ?_
                    refine g_iinc (pc := 209) (L' := [(4, .int (nI (2 ^ nM S - 1 - n) + (-1))), (3, .int (dm2 S p v (2 ^ nM S) n)), (5, .int 0), (0, .ref (eA E 58)), (1, .int p), (2, .int v)]) dX9_dim_209 (k := 5) rfl (v := nI (2 ^ nM S - 1 - n) + (-1)) rfl (Nat.le_of_ble_eq_true rfl) rfl ?_
                    refine g_goto (pc := 212) (tgt := 133) dX9_dim_212 (by decide) ?_
                    refine g_sub (L' := [(0, .ref (eA E 58)), (1, .int p), (2, .int v), (3, .int (dm2 S p v (2 ^ nM S) n)), (4, .int (nI (2 ^ nM S - 1 - n) + (-1)))]) [3, 4, 5, 1, 0] rfl ?_
                    exact g_eq rfl (by rw [dm2, dmP]; simp only [c_149, if_true, if_false, Bool.false_eq_true, Bool.not_true, Bool.not_false, Bool.and_true, Bool.true_and, Bool.and_false, Bool.false_and, Bool.or_true, Bool.true_or, Bool.or_false, Bool.false_or, decide_true, decide_false, Bool.and_self]; rw [← nI_m1 hlt_133, nI_dn hlt_133 (by omega)]) rfl (ih_133 hlt_133)
                  · exact absurd c_187 (by decide)
                · refine g_aload_n (pc := 152) dX9_dim_152 0 rfl rfl ?_
                  refine g_iload_n (pc := 153) dX9_dim_153 1 rfl rfl ?_
                  refine g_aload_n (pc := 154) dX9_dim_154 0 rfl rfl ?_
                  refine gf_X9_7 (pc := 155) rfl dX9_dim_155 ?_
                  refine g_iconst (pc := 158) (v := 2) dX9_dim_158 (by decide) ?_
                  refine g_iald (pc := 159) 2 rfl rfl (by decide) (by decide) dX9_dim_159 ?_
                  refine g_iload (pc := 160) dX9_dim_160 4 rfl ?_
                  refine g_iconst (pc := 162) (v := -1) dX9_dim_162 (by decide) ?_
                  refine g_ixor (pc := 163) dX9_dim_163 ?_
                  refine g_iand (pc := 164) dX9_dim_164 ?_
                  refine g_aload_n (pc := 165) dX9_dim_165 0 rfl rfl ?_
                  refine gf_X9_7 (pc := 166) rfl dX9_dim_166 ?_
                  refine g_iconst (pc := 169) (v := 1) dX9_dim_169 (by decide) ?_
                  refine g_iald (pc := 170) 1 rfl rfl (by decide) (by decide) dX9_dim_170 ?_
                  refine g_invV (pc := 171) j_X9_brightBy mw_X9_172 dX9_dim_171 (rcv_X9) (by rfl) (c_X9_brightBy E S p (gA S 59 2 &&& (nI (2 ^ nM S - 1 - n) ^^^ -1)) (gA S 59 1) (by first | assumption | omega | rfl)) (Nat.le_of_ble_eq_true rfl) (Nat.le_of_ble_eq_true rfl) (by rfl) (Nat.le_of_ble_eq_true rfl) ?_
                  refine g_iload_n (pc := 174) dX9_dim_174 2 rfl rfl ?_
                  refine g_icmp_gt (pc := 175) (tgt := 182) dX9_dim_175 (by decide) (fun c_175 => ?_) (fun c_175 => ?_)
                  · have k_175 := Int32.not_le.mpr c_175
                    refine g_iconst (pc := 182) (v := 0) dX9_dim_182 (by decide) ?_
                    refine g_istore (pc := 183) (L' := [(5, .int 0), (0, .ref (eA E 58)), (1, .int p), (2, .int v), (3, .int (dm2 S p v (2 ^ nM S) n)), (4, .int (nI (2 ^ nM S - 1 - n)))]) dX9_dim_183 (Nat.le_of_ble_eq_true rfl) rfl ?_
                    refine g_iload (pc := 185) dX9_dim_185 0 rfl ?_
                    refine g_if_eq (pc := 187) (tgt := 207) dX9_dim_187 (by decide) (fun c_187 => ?_) (fun c_187 => ?_)
                    · refine g_iload_n (pc := 207) dX9_dim_207 4 rfl rfl ?_
                      refine g_istore_n (pc := 208) (L' := [(3, .int (dm2 S p v (2 ^ nM S) n)), (5, .int 0), (0, .ref (eA E 58)), (1, .int p), (2, .int v), (4, .int (nI (2 ^ nM S - 1 - n)))]) dX9_dim_208 rfl (Nat.le_of_ble_eq_true rfl) rfl ?_
                      refine g_iinc (pc := 209) (L' := [(4, .int (nI (2 ^ nM S - 1 - n) + (-1))), (3, .int (dm2 S p v (2 ^ nM S) n)), (5, .int 0), (0, .ref (eA E 58)), (1, .int p), (2, .int v)]) dX9_dim_209 (k := 5) rfl (v := nI (2 ^ nM S - 1 - n) + (-1)) rfl (Nat.le_of_ble_eq_true rfl) rfl ?_
                      refine g_goto (pc := 212) (tgt := 133) dX9_dim_212 (by decide) ?_
                      refine g_sub (L' := [(0, .ref (eA E 58)), (1, .int p), (2, .int v), (3, .int (dm2 S p v (2 ^ nM S) n)), (4, .int (nI (2 ^ nM S - 1 - n) + (-1)))]) [3, 4, 5, 1, 0] rfl ?_
                      exact g_eq rfl (by rw [dm2, dmP]; simp only [eq_true c_149, c_175, k_175, if_true, if_false, Bool.false_eq_true, Bool.not_true, Bool.not_false, Bool.and_true, Bool.true_and, Bool.and_false, Bool.false_and, Bool.or_true, Bool.true_or, Bool.or_false, Bool.false_or, decide_true, decide_false, Bool.and_self]; rw [← nI_m1 hlt_133, nI_dn hlt_133 (by omega)]) rfl (ih_133 hlt_133)
                    · exact absurd c_187 (by decide)
                  · have k_175 := Int32.not_lt.mp c_175
                    refine g_iconst (pc := 178) (v := 1) dX9_dim_178 (by decide) ?_
                    refine g_goto (pc := 179) (tgt := 183) dX9_dim_179 (by decide) ?_
                    refine g_istore (pc := 183) (L' := [(5, .int 1), (0, .ref (eA E 58)), (1, .int p), (2, .int v), (3, .int (dm2 S p v (2 ^ nM S) n)), (4, .int (nI (2 ^ nM S - 1 - n)))]) dX9_dim_183 (Nat.le_of_ble_eq_true rfl) rfl ?_
                    refine g_iload (pc := 185) dX9_dim_185 0 rfl ?_
                    refine g_if_eq (pc := 187) (tgt := 207) dX9_dim_187 (by decide) (fun c_187 => ?_) (fun c_187 => ?_)
                    · exact absurd c_187 (by decide)
                    · refine g_iload (pc := 190) dX9_dim_190 5 rfl ?_
                      refine g_invS (pc := 192) j_X9_ones mw_X9_198 dX9_dim_192 (by rfl) (c_X9_ones E S (nI (2 ^ nM S - 1 - n)) ) (Nat.le_of_ble_eq_true rfl) (Nat.le_of_ble_eq_true rfl) (by rfl) (Nat.le_of_ble_eq_true rfl) ?_
                      refine g_iload_n (pc := 195) dX9_dim_195 4 rfl rfl ?_
                      refine g_invS (pc := 196) j_X9_ones mw_X9_198 dX9_dim_196 (by rfl) (c_X9_ones E S (dm2 S p v (2 ^ nM S) n) ) (Nat.le_of_ble_eq_true rfl) (Nat.le_of_ble_eq_true rfl) (by rfl) (Nat.le_of_ble_eq_true rfl) ?_
                      refine g_icmp_ne (pc := 199) (tgt := 207) dX9_dim_199 (by decide) (fun c_199 => ?_) (fun c_199 => ?_)
                      · refine g_iload_n (pc := 207) dX9_dim_207 4 rfl rfl ?_
                        refine g_istore_n (pc := 208) (L' := [(3, .int (dm2 S p v (2 ^ nM S) n)), (5, .int 1), (0, .ref (eA E 58)), (1, .int p), (2, .int v), (4, .int (nI (2 ^ nM S - 1 - n)))]) dX9_dim_208 rfl (Nat.le_of_ble_eq_true rfl) rfl ?_
                        refine g_iinc (pc := 209) (L' := [(4, .int (nI (2 ^ nM S - 1 - n) + (-1))), (3, .int (dm2 S p v (2 ^ nM S) n)), (5, .int 1), (0, .ref (eA E 58)), (1, .int p), (2, .int v)]) dX9_dim_209 (k := 5) rfl (v := nI (2 ^ nM S - 1 - n) + (-1)) rfl (Nat.le_of_ble_eq_true rfl) rfl ?_
                        refine g_goto (pc := 212) (tgt := 133) dX9_dim_212 (by decide) ?_
                        refine g_sub (L' := [(0, .ref (eA E 58)), (1, .int p), (2, .int v), (3, .int (dm2 S p v (2 ^ nM S) n)), (4, .int (nI (2 ^ nM S - 1 - n) + (-1)))]) [3, 4, 5, 1, 0] rfl ?_
                        exact g_eq rfl (by rw [dm2, dmP]; simp only [eq_true c_149, c_175, k_175, c_199, if_true, if_false, Bool.false_eq_true, Bool.not_true, Bool.not_false, Bool.and_true, Bool.true_and, Bool.and_false, Bool.false_and, Bool.or_true, Bool.true_or, Bool.or_false, Bool.false_or, decide_true, decide_false, Bool.and_self]; rw [← nI_m1 hlt_133, nI_dn hlt_133 (by omega)]) rfl (ih_133 hlt_133)
                      · refine g_iload (pc := 202) dX9_dim_202 5 rfl ?_
                        refine g_goto (pc := 204) (tgt := 208) dX9_dim_204 (by decide) ?_
                        refine g_istore_n (pc := 208) (L' := [(3, .int (nI (2 ^ nM S - 1 - n))), (5, .int 1), (0, .ref (eA E 58)), (1, .int p), (2, .int v), (4, .int (nI (2 ^ nM S - 1 - n)))]) dX9_dim_208 rfl (Nat.le_of_ble_eq_true rfl) rfl ?_
                        refine g_iinc (pc := 209) (L' := [(4, .int (nI (2 ^ nM S - 1 - n) + (-1))), (3, .int (nI (2 ^ nM S - 1 - n))), (5, .int 1), (0, .ref (eA E 58)), (1, .int p), (2, .int v)]) dX9_dim_209 (k := 5) rfl (v := nI (2 ^ nM S - 1 - n) + (-1)) rfl (Nat.le_of_ble_eq_true rfl) rfl ?_
                        refine g_goto (pc := 212) (tgt := 133) dX9_dim_212 (by decide) ?_
                        refine g_sub (L' := [(0, .ref (eA E 58)), (1, .int p), (2, .int v), (3, .int (nI (2 ^ nM S - 1 - n))), (4, .int (nI (2 ^ nM S - 1 - n) + (-1)))]) [3, 4, 5, 1, 0] rfl ?_
                        exact g_eq rfl (by rw [dm2, dmP]; simp only [eq_true c_149, c_175, k_175, eq_true c_199, if_true, if_false, Bool.false_eq_true, Bool.not_true, Bool.not_false, Bool.and_true, Bool.true_and, Bool.and_false, Bool.false_and, Bool.or_true, Bool.true_or, Bool.or_false, Bool.false_or, decide_true, decide_false, Bool.and_self]; rw [← nI_m1 hlt_133, nI_dn hlt_133 (by omega)]) rfl (ih_133 hlt_133)
            · have he : n = 2 ^ nM S := by omega
              rw [he, Nat.sub_self]
              refine g_iload (pc := 133) dX9_dim_133 4 rfl ?_
              refine g_if_lt (pc := 135) (tgt := 215) dX9_dim_135 (by decide) (fun c_135 => ?_) (fun c_135 => ?_)
              · have k_135 := Int32.not_le.mpr c_135
                refine g_aload_n (pc := 215) dX9_dim_215 0 rfl rfl ?_
                refine g_iload_n (pc := 216) dX9_dim_216 3 rfl rfl ?_
                refine pf_X9_57 (pc := 217) rfl dX9_dim_217 ?_
                refine g_iload_n (pc := 220) dX9_dim_220 3 rfl rfl ?_
                refine g_invS (pc := 221) j_X9_ones mw_X9_198 dX9_dim_221 (by rfl) (c_X9_ones E (sI S 58 7 (dm2 S p v (2 ^ nM S) (2 ^ nM S))) (dm2 S p v (2 ^ nM S) (2 ^ nM S)) ) (Nat.le_of_ble_eq_true rfl) (Nat.le_of_ble_eq_true rfl) (by rfl) (Nat.le_of_ble_eq_true rfl) ?_
                exact g_iret (pc := 224) hM rfl rfl ⟨rfl, rfl⟩ dX9_dim_224
              · have k_135 := Int32.not_lt.mp c_135
                exact absurd (show (nI 0 - 1 : Int32) < 0 by decide) c_135
          refine g_sub (L' := [(0, .ref (eA E 58)), (1, .int p), (2, .int v), (3, .int (dm1 S p v (2 ^ nM S))), (4, .int (((1 : Int32) <<< ((gA S 59 0) &&& 31)) - 1))]) [1, 2, 3, 4, 0] rfl ?_
          exact g_eq rfl (by rw [sh1 hz.1 hz.2]; rfl) rfl (H_133 0 (Nat.zero_le _))
        · have k_41 := Int32.not_le.mp c_41
          have hlt_31 : n < (2 ^ nM S) := by exact nlt_of (N := 2 ^ nM S) rfl (sh1 hz.1 hz.2) (by omega) (by omega) c_41
          refine g_iload (pc := 44) dX9_dim_44 4 rfl ?_
          refine g_aload_n (pc := 46) dX9_dim_46 0 rfl rfl ?_
          refine gf_X9_7 (pc := 47) rfl dX9_dim_47 ?_
          refine g_iconst (pc := 50) (v := 2) dX9_dim_50 (by decide) ?_
          refine g_iald (pc := 51) 2 rfl rfl (by decide) (by decide) dX9_dim_51 ?_
          refine g_iconst (pc := 52) (v := -1) dX9_dim_52 (by decide) ?_
          refine g_ixor (pc := 53) dX9_dim_53 ?_
          refine g_iand (pc := 54) dX9_dim_54 ?_
          refine g_if_ne (pc := 55) (tgt := 88) dX9_dim_55 (by decide) (fun c_55 => ?_) (fun c_55 => ?_)
          · refine g_iconst (pc := 88) (v := 0) dX9_dim_88 (by decide) ?_
            refine g_istore (pc := 89) (L' := [(5, .int 0), (0, .ref (eA E 58)), (1, .int p), (2, .int v), (3, .int (dm1 S p v n)), (4, .int (nI n))]) dX9_dim_89 (Nat.le_of_ble_eq_true rfl) rfl ?_
            refine g_iload (pc := 91) dX9_dim_91 0 rfl ?_
            refine g_if_eq (pc := 93) (tgt := 113) dX9_dim_93 (by decide) (fun c_93 => ?_) (fun c_93 => ?_)
            · refine g_iload_n (pc := 113) dX9_dim_113 4 rfl rfl ?_
              refine g_istore_n (pc := 114) (L' := [(3, .int (dm1 S p v n)), (5, .int 0), (0, .ref (eA E 58)), (1, .int p), (2, .int v), (4, .int (nI n))]) dX9_dim_114 rfl (Nat.le_of_ble_eq_true rfl) rfl ?_
              refine g_iinc (pc := 115) (L' := [(4, .int (nI n + 1)), (3, .int (dm1 S p v n)), (5, .int 0), (0, .ref (eA E 58)), (1, .int p), (2, .int v)]) dX9_dim_115 (k := 5) rfl (v := nI n + 1) rfl (Nat.le_of_ble_eq_true rfl) rfl ?_
              refine g_goto (pc := 118) (tgt := 31) dX9_dim_118 (by decide) ?_
              refine g_sub (L' := [(0, .ref (eA E 58)), (1, .int p), (2, .int v), (3, .int (dm1 S p v n)), (4, .int (nI n + 1))]) [3, 4, 5, 1, 0] rfl ?_
              exact g_eq rfl (by rw [nI_1, dm1, dmP]; simp only [c_55, if_true, if_false, Bool.false_eq_true, Bool.not_true, Bool.not_false, Bool.and_true, Bool.true_and, Bool.and_false, Bool.false_and, Bool.or_true, Bool.true_or, Bool.or_false, Bool.false_or, decide_true, decide_false, Bool.and_self]) rfl (ih_31 hlt_31)
            · exact absurd c_93 (by decide)
          · refine g_aload_n (pc := 58) dX9_dim_58 0 rfl rfl ?_
            refine g_iload_n (pc := 59) dX9_dim_59 1 rfl rfl ?_
            refine g_aload_n (pc := 60) dX9_dim_60 0 rfl rfl ?_
            refine gf_X9_7 (pc := 61) rfl dX9_dim_61 ?_
            refine g_iconst (pc := 64) (v := 2) dX9_dim_64 (by decide) ?_
            refine g_iald (pc := 65) 2 rfl rfl (by decide) (by decide) dX9_dim_65 ?_
            refine g_iload (pc := 66) dX9_dim_66 4 rfl ?_
            refine g_iconst (pc := 68) (v := -1) dX9_dim_68 (by decide) ?_
            refine g_ixor (pc := 69) dX9_dim_69 ?_
            refine g_iand (pc := 70) dX9_dim_70 ?_
            refine g_aload_n (pc := 71) dX9_dim_71 0 rfl rfl ?_
            refine gf_X9_7 (pc := 72) rfl dX9_dim_72 ?_
            refine g_iconst (pc := 75) (v := 1) dX9_dim_75 (by decide) ?_
            refine g_iald (pc := 76) 1 rfl rfl (by decide) (by decide) dX9_dim_76 ?_
            refine g_invV (pc := 77) j_X9_brightBy mw_X9_172 dX9_dim_77 (rcv_X9) (by rfl) (c_X9_brightBy E S p (gA S 59 2 &&& (nI n ^^^ -1)) (gA S 59 1) (by first | assumption | omega | rfl)) (Nat.le_of_ble_eq_true rfl) (Nat.le_of_ble_eq_true rfl) (by rfl) (Nat.le_of_ble_eq_true rfl) ?_
            refine g_iload_n (pc := 80) dX9_dim_80 2 rfl rfl ?_
            refine g_icmp_gt (pc := 81) (tgt := 88) dX9_dim_81 (by decide) (fun c_81 => ?_) (fun c_81 => ?_)
            · have k_81 := Int32.not_le.mpr c_81
              refine g_iconst (pc := 88) (v := 0) dX9_dim_88 (by decide) ?_
              refine g_istore (pc := 89) (L' := [(5, .int 0), (0, .ref (eA E 58)), (1, .int p), (2, .int v), (3, .int (dm1 S p v n)), (4, .int (nI n))]) dX9_dim_89 (Nat.le_of_ble_eq_true rfl) rfl ?_
              refine g_iload (pc := 91) dX9_dim_91 0 rfl ?_
              refine g_if_eq (pc := 93) (tgt := 113) dX9_dim_93 (by decide) (fun c_93 => ?_) (fun c_93 => ?_)
              · refine g_iload_n (pc := 113) dX9_dim_113 4 rfl rfl ?_
                refine g_istore_n (pc := 114) (L' := [(3, .int (dm1 S p v n)), (5, .int 0), (0, .ref (eA E 58)), (1, .int p), (2, .int v), (4, .int (nI n))]) dX9_dim_114 rfl (Nat.le_of_ble_eq_true rfl) rfl ?_
                refine g_iinc (pc := 115) (L' := [(4, .int (nI n + 1)), (3, .int (dm1 S p v n)), (5, .int 0), (0, .ref (eA E 58)), (1, .int p), (2, .int v)]) dX9_dim_115 (k := 5) rfl (v := nI n + 1) rfl (Nat.le_of_ble_eq_true rfl) rfl ?_
                refine g_goto (pc := 118) (tgt := 31) dX9_dim_118 (by decide) ?_
                refine g_sub (L' := [(0, .ref (eA E 58)), (1, .int p), (2, .int v), (3, .int (dm1 S p v n)), (4, .int (nI n + 1))]) [3, 4, 5, 1, 0] rfl ?_
                exact g_eq rfl (by rw [nI_1, dm1, dmP]; simp only [eq_true c_55, c_81, k_81, if_true, if_false, Bool.false_eq_true, Bool.not_true, Bool.not_false, Bool.and_true, Bool.true_and, Bool.and_false, Bool.false_and, Bool.or_true, Bool.true_or, Bool.or_false, Bool.false_or, decide_true, decide_false, Bool.and_self]) rfl (ih_31 hlt_31)
              · exact absurd c_93 (by decide)
            · have k_81 := Int32.not_lt.mp c_81
              refine g_iconst (pc := 84) (v := 1) dX9_dim_84 (by decide) ?_
              refine g_goto (pc := 85) (tgt := 89) dX9_dim_85 (by decide) ?_
              refine g_istore (pc := 89) (L' := [(5, .int 1), (0, .ref (eA E 58)), (1, .int p), (2, .int v), (3, .int (dm1 S p v n)), (4, .int (nI n))]) dX9_dim_89 (Nat.le_of_ble_eq_true rfl) rfl ?_
              refine g_iload (pc := 91) dX9_dim_91 0 rfl ?_
              refine g_if_eq (pc := 93) (tgt := 113) dX9_dim_93 (by decide) (fun c_93 => ?_) (fun c_93 => ?_)
              · exact absurd c_93 (by decide)
              · refine g_iload (pc := 96) dX9_dim_96 5 rfl ?_
                refine g_invS (pc := 98) j_X9_ones mw_X9_198 dX9_dim_98 (by rfl) (c_X9_ones E S (nI n) ) (Nat.le_of_ble_eq_true rfl) (Nat.le_of_ble_eq_true rfl) (by rfl) (Nat.le_of_ble_eq_true rfl) ?_
                refine g_iload_n (pc := 101) dX9_dim_101 4 rfl rfl ?_
                refine g_invS (pc := 102) j_X9_ones mw_X9_198 dX9_dim_102 (by rfl) (c_X9_ones E S (dm1 S p v n) ) (Nat.le_of_ble_eq_true rfl) (Nat.le_of_ble_eq_true rfl) (by rfl) (Nat.le_of_ble_eq_true rfl) ?_
                refine g_icmp_ge (pc := 105) (tgt := 113) dX9_dim_105 (by decide) (fun c_105 => ?_) (fun c_105 => ?_)
                · have k_105 := Int32.not_lt.mpr c_105
                  refine g_iload_n (pc := 113) dX9_dim_113 4 rfl rfl ?_
                  refine g_istore_n (pc := 114) (L' := [(3, .int (dm1 S p v n)), (5, .int 1), (0, .ref (eA E 58)), (1, .int p), (2, .int v), (4, .int (nI n))]) dX9_dim_114 rfl (Nat.le_of_ble_eq_true rfl) rfl ?_
                  refine g_iinc (pc := 115) (L' := [(4, .int (nI n + 1)), (3, .int (dm1 S p v n)), (5, .int 1), (0, .ref (eA E 58)), (1, .int p), (2, .int v)]) dX9_dim_115 (k := 5) rfl (v := nI n + 1) rfl (Nat.le_of_ble_eq_true rfl) rfl ?_
                  refine g_goto (pc := 118) (tgt := 31) dX9_dim_118 (by decide) ?_
                  refine g_sub (L' := [(0, .ref (eA E 58)), (1, .int p), (2, .int v), (3, .int (dm1 S p v n)), (4, .int (nI n + 1))]) [3, 4, 5, 1, 0] rfl ?_
                  exact g_eq rfl (by rw [nI_1, dm1, dmP]; simp only [eq_true c_55, c_81, k_81, c_105, k_105, if_true, if_false, Bool.false_eq_true, Bool.not_true, Bool.not_false, Bool.and_true, Bool.true_and, Bool.and_false, Bool.false_and, Bool.or_true, Bool.true_or, Bool.or_false, Bool.false_or, decide_true, decide_false, Bool.and_self]) rfl (ih_31 hlt_31)
                · have k_105 := Int32.not_le.mp c_105
                  refine g_iload (pc := 108) dX9_dim_108 5 rfl ?_
                  refine g_goto (pc := 110) (tgt := 114) dX9_dim_110 (by decide) ?_
                  refine g_istore_n (pc := 114) (L' := [(3, .int (nI n)), (5, .int 1), (0, .ref (eA E 58)), (1, .int p), (2, .int v), (4, .int (nI n))]) dX9_dim_114 rfl (Nat.le_of_ble_eq_true rfl) rfl ?_
                  refine g_iinc (pc := 115) (L' := [(4, .int (nI n + 1)), (3, .int (nI n)), (5, .int 1), (0, .ref (eA E 58)), (1, .int p), (2, .int v)]) dX9_dim_115 (k := 5) rfl (v := nI n + 1) rfl (Nat.le_of_ble_eq_true rfl) rfl ?_
                  refine g_goto (pc := 118) (tgt := 31) dX9_dim_118 (by decide) ?_
                  refine g_sub (L' := [(0, .ref (eA E 58)), (1, .int p), (2, .int v), (3, .int (nI n)), (4, .int (nI n + 1))]) [3, 4, 5, 1, 0] rfl ?_
                  exact g_eq rfl (by rw [nI_1, dm1, dmP]; simp only [eq_true c_55, c_81, k_81, c_105, k_105, if_true, if_false, Bool.false_eq_true, Bool.not_true, Bool.not_false, Bool.and_true, Bool.true_and, Bool.and_false, Bool.false_and, Bool.or_true, Bool.true_or, Bool.or_false, Bool.false_or, decide_true, decide_false, Bool.and_self]) rfl (ih_31 hlt_31)
      refine g_sub (L' := [(0, .ref (eA E 58)), (1, .int p), (2, .int v), (3, .int (gA S 59 2)), (4, .int 0)]) [2, 3, 4, 1, 0] rfl ?_
      exact g_eq rfl rfl rfl (H_31 0 (Nat.zero_le _))
    · exact absurd (hv.symm.trans c_16) (by decide)
