/-! THE REFERENCE: keeping, brightness -/
def szM (x : Int32) : Int32 := if 0 ≤ x then x else -x
def gvM (S : St) (k : Nat) (at_ place night : Int32) : Int32 := if 0 ≤ glQ S k night - 2 * szM (at_ - place) then glQ S k night - 2 * szM (at_ - place) else 0
def brR (S : St) (pl set night : Int32) : Nat → Int32 | 0 => 0 | n + 1 => brR S pl set night n + (if hsF set (nI n) = true then gvM S n (gA S 59 (3 + n)) pl night else 0)
def brM (S : St) (pl : Int32) : Int32 := brR S pl (gA S 59 2) (gA S 59 1) (nM S)
def alM (S : St) (p : Nat) : Nat → Int32 | 0 => 0 | n + 1 => alM S p n + brM S (nI (p + n))
def stU (S : St) (k n : Nat) : St := sA S 59 (upd (gA S 59) (3 + k) (nI n))
def lowR (x : Nat → Int32) (w : Nat → Int32) : Nat → Int32 × Int32 | 0 => (0, 1000000) | n + 1 => if x n < (lowR x w n).2 then (w n, x n) else lowR x w n
def stM (S : St) (k p m : Nat) : Nat → Int32 × Int32 := lowR (fun n => alM (stU S k n) p m) nI
def dkM (S : St) (m : Nat) : Nat → Int32 × Int32 := lowR (fun n => alM S n m) nI
def wyM (B : Nat → Int32) (x : Int32) : Nat → Int32 | 0 => 0 | n + 1 => wyM B x n + (if hsF x (nI n) = true then B n / 2 else B n) + (if 0 < n ∧ ¬ hsF x (nI n) = hsF x (nI n - 1) then 3 else 0)
def rdM (B : Nat → Int32) : Nat → Int32 × Int32 := lowR (fun n => wyM B (nI n) 10) nI
theorem upd_uu {f : Nat → Int32} {k : Nat} {x y : Int32} : upd (upd f k x) k y = upd f k y := by
  funext j
  by_cases q : j = k
  · subst q; rw [pk_us, pk_us]
  · rw [pk_un q, pk_un q, pk_un q]
theorem bI_inj {a b : Bool} : bI a = bI b ↔ a = b := by cases a <;> cases b <;> decide
theorem okM_sI {S : St} {i j : Nat} {x : Int32} (hz : okM S) : okM (sI S i j x) := hz
theorem nM_stU {S : St} {k n : Nat} (hz : okM S) : okM (stU S k n) ∧ nM (stU S k n) = nM S := okM_sA hz (pk_un (by omega))
theorem in3 {x : Int32} : inF x.toInt64 0 2 = idxF 3 x := in_gen (by omega) (by decide)
theorem movF_43 {W : Nat → Int32} {b : Nat} (hb : 444 ≤ b) : movF W 0 b 444 43 = W 43 := by unfold movF; rw [if_neg (by omega)]

set_option maxRecDepth 100000 in
set_option maxHeartbeats 4000000 in
theorem c_X9_keep_bad (E : En) (S : St) (x : Int32) (h : idxF 3 x = false) : CTe E i_X9_keep S [.ref (eA E 58), .int x] S (some (.int (-1))) := by
  refine ct_of [(0, .ref (eA E 58)), (1, .int x)] (by decide +kernel) (Nat.le_of_ble_eq_true rfl) rfl (fun X hM => ?_)
  refine g_iload_n (pc := 0) dX9_keep_0 1 rfl rfl ?_
  refine g_i2l (pc := 1) dX9_keep_1 ?_
  refine g_lconst (pc := 2) (v := 0) dX9_keep_2 (by decide) ?_
  refine g_ldc2 (pc := 3) kw_X9_159 dX9_keep_3 ?_
  refine g_invS (pc := 6) j_X9_in mw_X9_62 dX9_keep_6 (by rfl) (c_X9_in E S x.toInt64 0 2 ) (Nat.le_of_ble_eq_true rfl) (Nat.le_of_ble_eq_true rfl) (by rfl) (Nat.le_of_ble_eq_true rfl) ?_
  rw [in3]
  refine g_b_ne (pc := 9) (tgt := 14) dX9_keep_9 (by decide) (fun c_9 => ?_) (fun c_9 => ?_)
  · exact absurd (h.symm.trans c_9) (by decide)
  · refine g_iconst (pc := 12) (v := -1) dX9_keep_12 (by decide) ?_
    exact g_iret (pc := 13) hM rfl rfl ⟨rfl, rfl⟩ dX9_keep_13
set_option maxRecDepth 100000 in
set_option maxHeartbeats 4000000 in
theorem c_X9_on_bad (E : En) (S : St) (x : Int32) (h : idxF 3 x = false) : CTe E i_X9_on S [.ref (eA E 58), .int x] S (some (.int (-1))) := by
  refine ct_of [(0, .ref (eA E 58)), (1, .int x)] (by decide +kernel) (Nat.le_of_ble_eq_true rfl) rfl (fun X hM => ?_)
  refine g_iload_n (pc := 0) dX9_on_0 1 rfl rfl ?_
  refine g_i2l (pc := 1) dX9_on_1 ?_
  refine g_lconst (pc := 2) (v := 0) dX9_on_2 (by decide) ?_
  refine g_ldc2 (pc := 3) kw_X9_159 dX9_on_3 ?_
  refine g_invS (pc := 6) j_X9_in mw_X9_62 dX9_on_6 (by rfl) (c_X9_in E S x.toInt64 0 2 ) (Nat.le_of_ble_eq_true rfl) (Nat.le_of_ble_eq_true rfl) (by rfl) (Nat.le_of_ble_eq_true rfl) ?_
  rw [in3]
  refine g_b_ne (pc := 9) (tgt := 14) dX9_on_9 (by decide) (fun c_9 => ?_) (fun c_9 => ?_)
  · exact absurd (h.symm.trans c_9) (by decide)
  · refine g_iconst (pc := 12) (v := -1) dX9_on_12 (by decide) ?_
    exact g_iret (pc := 13) hM rfl rfl ⟨rfl, rfl⟩ dX9_on_13
set_option maxRecDepth 100000 in
set_option maxHeartbeats 4000000 in
theorem c_X9_keep_no (E : En) (S : St) (b : Nat) (hb : b < 3) (h : gA S 59 0 = 0) : CTe E i_X9_keep S [.ref (eA E 58), .int (nI b)] S (some (.int (-4))) := by
  have hx := idx_in hb (show 3 < 2 ^ 31 by omega)
  refine ct_of [(0, .ref (eA E 58)), (1, .int (nI b))] (by decide +kernel) (Nat.le_of_ble_eq_true rfl) rfl (fun X hM => ?_)
  refine g_iload_n (pc := 0) dX9_keep_0 1 rfl rfl ?_
  refine g_i2l (pc := 1) dX9_keep_1 ?_
  refine g_lconst (pc := 2) (v := 0) dX9_keep_2 (by decide) ?_
  refine g_ldc2 (pc := 3) kw_X9_159 dX9_keep_3 ?_
  refine g_invS (pc := 6) j_X9_in mw_X9_62 dX9_keep_6 (by rfl) (c_X9_in E S ((nI b).toInt64) 0 2 ) (Nat.le_of_ble_eq_true rfl) (Nat.le_of_ble_eq_true rfl) (by rfl) (Nat.le_of_ble_eq_true rfl) ?_
  rw [in3]
  refine g_b_ne (pc := 9) (tgt := 14) dX9_keep_9 (by decide) (fun c_9 => ?_) (fun c_9 => ?_)
  · refine g_aload_n (pc := 14) dX9_keep_14 0 rfl rfl ?_
    refine gf_X9_7 (pc := 15) rfl dX9_keep_15 ?_
    refine g_iconst (pc := 18) (v := 0) dX9_keep_18 (by decide) ?_
    refine g_iald (pc := 19) 0 rfl rfl (by decide) (by decide) dX9_keep_19 ?_
    refine g_if_ne (pc := 20) (tgt := 26) dX9_keep_20 (by decide) (fun c_20 => ?_) (fun c_20 => ?_)
    · exact absurd h c_20
    · refine g_bipush (pc := 23) (v := -4) dX9_keep_23 (by decide) ?_
      exact g_iret (pc := 25) hM rfl rfl ⟨rfl, rfl⟩ dX9_keep_25
  · exact absurd (hx.symm.trans c_9) (by decide)
set_option maxRecDepth 100000 in
set_option maxHeartbeats 4000000 in
theorem c_X9_keep_ok (E : En) (S : St) (b : Nat) (hb : b < 3) (h : ¬ gA S 59 0 = 0) : CTe E i_X9_keep S [.ref (eA E 58), .int (nI b)] (sA S 59 (movF (gA S 59) 0 (444 + 444 * b) 444)) (some (.int (gA S 59 43))) := by
  have hx := idx_in hb (show 3 < 2 ^ 31 by omega)
  refine ct_of [(0, .ref (eA E 58)), (1, .int (nI b))] (by decide +kernel) (Nat.le_of_ble_eq_true rfl) rfl (fun X hM => ?_)
  refine g_iload_n (pc := 0) dX9_keep_0 1 rfl rfl ?_
  refine g_i2l (pc := 1) dX9_keep_1 ?_
  refine g_lconst (pc := 2) (v := 0) dX9_keep_2 (by decide) ?_
  refine g_ldc2 (pc := 3) kw_X9_159 dX9_keep_3 ?_
  refine g_invS (pc := 6) j_X9_in mw_X9_62 dX9_keep_6 (by rfl) (c_X9_in E S ((nI b).toInt64) 0 2 ) (Nat.le_of_ble_eq_true rfl) (Nat.le_of_ble_eq_true rfl) (by rfl) (Nat.le_of_ble_eq_true rfl) ?_
  rw [in3]
  refine g_b_ne (pc := 9) (tgt := 14) dX9_keep_9 (by decide) (fun c_9 => ?_) (fun c_9 => ?_)
  · refine g_aload_n (pc := 14) dX9_keep_14 0 rfl rfl ?_
    refine gf_X9_7 (pc := 15) rfl dX9_keep_15 ?_
    refine g_iconst (pc := 18) (v := 0) dX9_keep_18 (by decide) ?_
    refine g_iald (pc := 19) 0 rfl rfl (by decide) (by decide) dX9_keep_19 ?_
    refine g_if_ne (pc := 20) (tgt := 26) dX9_keep_20 (by decide) (fun c_20 => ?_) (fun c_20 => ?_)
    · refine g_aload_n (pc := 26) dX9_keep_26 0 rfl rfl ?_
      refine g_iconst (pc := 27) (v := 0) dX9_keep_27 (by decide) ?_
      refine g_sipush (pc := 28) (v := 444) dX9_keep_28 (by decide) ?_
      refine g_sipush (pc := 31) (v := 444) dX9_keep_31 (by decide) ?_
      refine g_iload_n (pc := 34) dX9_keep_34 1 rfl rfl ?_
      refine g_imul (pc := 35) dX9_keep_35 ?_
      refine g_iadd (pc := 36) dX9_keep_36 ?_
      rw [show ((444 + (444 * nI b)) : Int32) = nI (444 + 444 * b) from nI_aE rfl (nI_mE rfl rfl)]
      refine g_invN (pc := 37) j_X9_bring mw_X9_161 dX9_keep_37 (rcv_X9) (by rfl) (c_X9_bring E S 0 (444 + 444 * b) (by omega) (by omega) (Or.inl (by omega))) (Nat.le_of_ble_eq_true rfl) (Nat.le_of_ble_eq_true rfl) (by rfl) (Nat.le_of_ble_eq_true rfl) ?_
      refine g_aload_n (pc := 40) dX9_keep_40 0 rfl rfl ?_
      refine gf_X9_7 (pc := 41) rfl dX9_keep_41 ?_
      refine g_bipush (pc := 44) (v := 43) dX9_keep_44 (by decide) ?_
      refine g_iald (pc := 46) 43 rfl rfl (by decide) (by decide) dX9_keep_46 ?_
      exact g_iret (pc := 47) hM rfl rfl ⟨rfl, some_int (by rw [gA_same]; exact movF_43 (by omega))⟩ dX9_keep_47
    · exact absurd c_20 h
  · exact absurd (hx.symm.trans c_9) (by decide)
set_option maxRecDepth 100000 in
set_option maxHeartbeats 4000000 in
theorem c_X9_on_no (E : En) (S : St) (b : Nat) (hb : b < 3) (h : gA S 59 (444 + 444 * b) = 0) : CTe E i_X9_on S [.ref (eA E 58), .int (nI b)] (fndS S 1) (some (.int (-3))) := by
  have hx := idx_in hb (show 3 < 2 ^ 31 by omega)
  refine ct_of [(0, .ref (eA E 58)), (1, .int (nI b))] (by decide +kernel) (Nat.le_of_ble_eq_true rfl) rfl (fun X hM => ?_)
  refine g_iload_n (pc := 0) dX9_on_0 1 rfl rfl ?_
  refine g_i2l (pc := 1) dX9_on_1 ?_
  refine g_lconst (pc := 2) (v := 0) dX9_on_2 (by decide) ?_
  refine g_ldc2 (pc := 3) kw_X9_159 dX9_on_3 ?_
  refine g_invS (pc := 6) j_X9_in mw_X9_62 dX9_on_6 (by rfl) (c_X9_in E S ((nI b).toInt64) 0 2 ) (Nat.le_of_ble_eq_true rfl) (Nat.le_of_ble_eq_true rfl) (by rfl) (Nat.le_of_ble_eq_true rfl) ?_
  rw [in3]
  refine g_b_ne (pc := 9) (tgt := 14) dX9_on_9 (by decide) (fun c_9 => ?_) (fun c_9 => ?_)
  · refine g_aload_n (pc := 14) dX9_on_14 0 rfl rfl ?_
    refine gf_X9_7 (pc := 15) rfl dX9_on_15 ?_
    refine g_sipush (pc := 18) (v := 444) dX9_on_18 (by decide) ?_
    refine g_sipush (pc := 21) (v := 444) dX9_on_21 (by decide) ?_
    refine g_iload_n (pc := 24) dX9_on_24 1 rfl rfl ?_
    refine g_imul (pc := 25) dX9_on_25 ?_
    refine g_iadd (pc := 26) dX9_on_26 ?_
    rw [show ((444 + (444 * nI b)) : Int32) = nI (444 + 444 * b) from nI_aE rfl (nI_mE rfl rfl)]
    refine g_iconst (pc := 27) (v := 0) dX9_on_27 (by decide) ?_
    refine g_iadd (pc := 28) dX9_on_28 ?_
    refine g_iald (pc := 29) (444 + 444 * b) (Int32.add_zero _) rfl (show 444 + 444 * b < 1776 by omega) (by decide) dX9_on_29 ?_
    refine g_if_ne (pc := 30) (tgt := 39) dX9_on_30 (by decide) (fun c_30 => ?_) (fun c_30 => ?_)
    · exact absurd h c_30
    · refine g_aload_n (pc := 33) dX9_on_33 0 rfl rfl ?_
      refine g_iconst (pc := 34) (v := 1) dX9_on_34 (by decide) ?_
      refine g_invV (pc := 35) j_X9_finds mw_X9_74 dX9_on_35 (rcv_X9) (by rfl) (c_X9_finds E S 1 (by first | assumption | omega | rfl)) (Nat.le_of_ble_eq_true rfl) (Nat.le_of_ble_eq_true rfl) (by rfl) (Nat.le_of_ble_eq_true rfl) ?_
      exact g_iret (pc := 38) hM rfl rfl ⟨rfl, rfl⟩ dX9_on_38
  · exact absurd (hx.symm.trans c_9) (by decide)
set_option maxRecDepth 100000 in
set_option maxHeartbeats 4000000 in
theorem c_X9_on_ok (E : En) (S : St) (b : Nat) (hb : b < 3) (h : ¬ gA S 59 (444 + 444 * b) = 0) : CTe E i_X9_on S [.ref (eA E 58), .int (nI b)] (sA S 59 (movF (gA S 59) (444 + 444 * b) 0 444)) (some (.int (gA S 59 (444 + 444 * b + 43)))) := by
  have hx := idx_in hb (show 3 < 2 ^ 31 by omega)
  refine ct_of [(0, .ref (eA E 58)), (1, .int (nI b))] (by decide +kernel) (Nat.le_of_ble_eq_true rfl) rfl (fun X hM => ?_)
  refine g_iload_n (pc := 0) dX9_on_0 1 rfl rfl ?_
  refine g_i2l (pc := 1) dX9_on_1 ?_
  refine g_lconst (pc := 2) (v := 0) dX9_on_2 (by decide) ?_
  refine g_ldc2 (pc := 3) kw_X9_159 dX9_on_3 ?_
  refine g_invS (pc := 6) j_X9_in mw_X9_62 dX9_on_6 (by rfl) (c_X9_in E S ((nI b).toInt64) 0 2 ) (Nat.le_of_ble_eq_true rfl) (Nat.le_of_ble_eq_true rfl) (by rfl) (Nat.le_of_ble_eq_true rfl) ?_
  rw [in3]
  refine g_b_ne (pc := 9) (tgt := 14) dX9_on_9 (by decide) (fun c_9 => ?_) (fun c_9 => ?_)
  · refine g_aload_n (pc := 14) dX9_on_14 0 rfl rfl ?_
    refine gf_X9_7 (pc := 15) rfl dX9_on_15 ?_
    refine g_sipush (pc := 18) (v := 444) dX9_on_18 (by decide) ?_
    refine g_sipush (pc := 21) (v := 444) dX9_on_21 (by decide) ?_
    refine g_iload_n (pc := 24) dX9_on_24 1 rfl rfl ?_
    refine g_imul (pc := 25) dX9_on_25 ?_
    refine g_iadd (pc := 26) dX9_on_26 ?_
    rw [show ((444 + (444 * nI b)) : Int32) = nI (444 + 444 * b) from nI_aE rfl (nI_mE rfl rfl)]
    refine g_iconst (pc := 27) (v := 0) dX9_on_27 (by decide) ?_
    refine g_iadd (pc := 28) dX9_on_28 ?_
    refine g_iald (pc := 29) (444 + 444 * b) (Int32.add_zero _) rfl (show 444 + 444 * b < 1776 by omega) (by decide) dX9_on_29 ?_
    refine g_if_ne (pc := 30) (tgt := 39) dX9_on_30 (by decide) (fun c_30 => ?_) (fun c_30 => ?_)
    · refine g_aload_n (pc := 39) dX9_on_39 0 rfl rfl ?_
      refine g_sipush (pc := 40) (v := 444) dX9_on_40 (by decide) ?_
      refine g_sipush (pc := 43) (v := 444) dX9_on_43 (by decide) ?_
      refine g_iload_n (pc := 46) dX9_on_46 1 rfl rfl ?_
      refine g_imul (pc := 47) dX9_on_47 ?_
      refine g_iadd (pc := 48) dX9_on_48 ?_
      rw [show ((444 + (444 * nI b)) : Int32) = nI (444 + 444 * b) from nI_aE rfl (nI_mE rfl rfl)]
      refine g_iconst (pc := 49) (v := 0) dX9_on_49 (by decide) ?_
      refine g_invN (pc := 50) j_X9_bring mw_X9_161 dX9_on_50 (rcv_X9) (by rfl) (c_X9_bring E S (444 + 444 * b) 0 (by omega) (by omega) (Or.inr (by omega))) (Nat.le_of_ble_eq_true rfl) (Nat.le_of_ble_eq_true rfl) (by rfl) (Nat.le_of_ble_eq_true rfl) ?_
      refine g_aload_n (pc := 53) dX9_on_53 0 rfl rfl ?_
      refine gf_X9_7 (pc := 54) rfl dX9_on_54 ?_
      refine g_bipush (pc := 57) (v := 43) dX9_on_57 (by decide) ?_
      refine g_iald (pc := 59) 43 rfl rfl (by decide) (by decide) dX9_on_59 ?_
      exact g_iret (pc := 60) hM rfl rfl ⟨rfl, some_int (by rw [gA_same]; unfold movF; rw [if_pos (by omega)])⟩ dX9_on_60
    · exact absurd c_30 h
  · exact absurd (hx.symm.trans c_9) (by decide)
set_option maxRecDepth 100000 in
set_option maxHeartbeats 4000000 in
theorem c_X9_size (E : En) (S : St) (x : Int32) : CTe E i_X9_size S [.int x] S (some (.int (szM x))) := by
  refine ct_of [(0, .int x)] (by decide +kernel) (Nat.le_of_ble_eq_true rfl) rfl (fun X hM => ?_)
  refine g_iload_n (pc := 0) dX9_size_0 0 rfl rfl ?_
  refine g_if_ge (pc := 1) (tgt := 9) dX9_size_1 (by decide) (fun c_1 => ?_) (fun c_1 => ?_)
  · have k_1 := Int32.not_lt.mpr c_1
    refine g_iload_n (pc := 9) dX9_size_9 0 rfl rfl ?_
    exact g_iret (pc := 10) hM rfl rfl ⟨rfl, some_int (by simp only [szM, c_1, k_1, if_true, if_false, Bool.false_eq_true, Bool.not_true, Bool.not_false, Bool.and_true, Bool.true_and, Bool.and_false, Bool.false_and, Bool.or_true, Bool.true_or, Bool.or_false, Bool.false_or, decide_true, decide_false, Bool.and_self])⟩ dX9_size_10
  · have k_1 := Int32.not_le.mp c_1
    refine g_iload_n (pc := 4) dX9_size_4 0 rfl rfl ?_
    refine g_ineg (pc := 5) dX9_size_5 ?_
    refine g_goto (pc := 6) (tgt := 10) dX9_size_6 (by decide) ?_
    exact g_iret (pc := 10) hM rfl rfl ⟨rfl, some_int (by simp only [szM, c_1, k_1, if_true, if_false, Bool.false_eq_true, Bool.not_true, Bool.not_false, Bool.and_true, Bool.true_and, Bool.and_false, Bool.false_and, Bool.or_true, Bool.true_or, Bool.or_false, Bool.false_or, decide_true, decide_false, Bool.and_self])⟩ dX9_size_10
set_option maxRecDepth 100000 in
set_option maxHeartbeats 4000000 in
theorem c_X9_gives (E : En) (S : St) (k : Nat) (at_ place night : Int32) (hk : k < 8) : CTe E i_X9_gives S [.ref (eA E 58), .int (nI k), .int at_, .int place, .int night] S (some (.int (gvM S k at_ place night))) := by
  refine ct_of [(0, .ref (eA E 58)), (1, .int (nI k)), (2, .int at_), (3, .int place), (4, .int night)] (by decide +kernel) (Nat.le_of_ble_eq_true rfl) rfl (fun X hM => ?_)
  refine g_aload_n (pc := 0) dX9_gives_0 0 rfl rfl ?_
  refine g_iload_n (pc := 1) dX9_gives_1 1 rfl rfl ?_
  refine g_iload (pc := 2) dX9_gives_2 4 rfl ?_
  refine g_invV (pc := 4) j_X9_glowOf mw_X9_135 dX9_gives_4 (rcv_X9) (by rfl) (c_X9_glowOf E S k night (by first | assumption | omega | rfl)) (Nat.le_of_ble_eq_true rfl) (Nat.le_of_ble_eq_true rfl) (by rfl) (Nat.le_of_ble_eq_true rfl) ?_
  refine g_iconst (pc := 7) (v := 2) dX9_gives_7 (by decide) ?_
  refine g_iload_n (pc := 8) dX9_gives_8 2 rfl rfl ?_
  refine g_iload_n (pc := 9) dX9_gives_9 3 rfl rfl ?_
  refine g_isub (pc := 10) dX9_gives_10 ?_
  refine g_invS (pc := 11) j_X9_size mw_X9_165 dX9_gives_11 (by rfl) (c_X9_size E S (at_ - place) ) (Nat.le_of_ble_eq_true rfl) (Nat.le_of_ble_eq_true rfl) (by rfl) (Nat.le_of_ble_eq_true rfl) ?_
  refine g_imul (pc := 14) dX9_gives_14 ?_
  refine g_isub (pc := 15) dX9_gives_15 ?_
  refine g_istore (pc := 16) (L' := [(5, .int (glQ S k night - (2 * szM (at_ - place)))), (0, .ref (eA E 58)), (1, .int (nI k)), (2, .int at_), (3, .int place), (4, .int night)]) dX9_gives_16 (Nat.le_of_ble_eq_true rfl) rfl ?_
  refine g_iload (pc := 18) dX9_gives_18 0 rfl ?_
  refine g_if_ge (pc := 20) (tgt := 27) dX9_gives_20 (by decide) (fun c_20 => ?_) (fun c_20 => ?_)
  · have k_20 := Int32.not_lt.mpr c_20
    refine g_iload (pc := 27) dX9_gives_27 0 rfl ?_
    exact g_iret (pc := 29) hM rfl rfl ⟨rfl, some_int (by simp only [gvM, c_20, k_20, if_true, if_false, Bool.false_eq_true, Bool.not_true, Bool.not_false, Bool.and_true, Bool.true_and, Bool.and_false, Bool.false_and, Bool.or_true, Bool.true_or, Bool.or_false, Bool.false_or, decide_true, decide_false, Bool.and_self])⟩ dX9_gives_29
  · have k_20 := Int32.not_le.mp c_20
    refine g_iconst (pc := 23) (v := 0) dX9_gives_23 (by decide) ?_
    refine g_goto (pc := 24) (tgt := 29) dX9_gives_24 (by decide) ?_
    exact g_iret (pc := 29) hM rfl rfl ⟨rfl, some_int (by simp only [gvM, c_20, k_20, if_true, if_false, Bool.false_eq_true, Bool.not_true, Bool.not_false, Bool.and_true, Bool.true_and, Bool.and_false, Bool.false_and, Bool.or_true, Bool.true_or, Bool.or_false, Bool.false_or, decide_true, decide_false, Bool.and_self])⟩ dX9_gives_29
set_option maxRecDepth 100000 in
set_option maxHeartbeats 4000000 in
theorem c_X9_brightBy (E : En) (S : St) (pl set night : Int32) (hz : okM S) : CTe E i_X9_brightBy S [.ref (eA E 58), .int pl, .int set, .int night] S (some (.int (brR S pl set night (nM S)))) := by
  have hz8 := hz.2
  refine ct_of [(0, .ref (eA E 58)), (1, .int pl), (2, .int set), (3, .int night)] (by decide +kernel) (Nat.le_of_ble_eq_true rfl) rfl (fun X hM => ?_)
  refine g_iconst (pc := 0) (v := 0) dX9_brightBy_0 (by decide) ?_
  refine g_istore (pc := 1) (L' := [(4, .int 0), (0, .ref (eA E 58)), (1, .int pl), (2, .int set), (3, .int night)]) dX9_brightBy_1 (Nat.le_of_ble_eq_true rfl) rfl ?_
  refine g_iconst (pc := 3) (v := 0) dX9_brightBy_3 (by decide) ?_
  refine g_istore (pc := 4) (L' := [(5, .int 0), (4, .int 0), (0, .ref (eA E 58)), (1, .int pl), (2, .int set), (3, .int night)]) dX9_brightBy_4 (Nat.le_of_ble_eq_true rfl) rfl ?_
  have H_6 : ∀ n : Nat, n ≤ (nM S) → G E X i_X9_brightBy S 6 [(0, .ref (eA E 58)), (1, .int pl), (2, .int set), (3, .int night), (4, .int (brR S pl set night n)), (5, .int (nI n))] [] := by
    refine dn_ind (nM S) (fun n hn_6 ih_6 => ?_)
    refine g_iload (pc := 6) dX9_brightBy_6 5 rfl ?_
    refine g_aload_n (pc := 8) dX9_brightBy_8 0 rfl rfl ?_
    refine gf_X9_7 (pc := 9) rfl dX9_brightBy_9 ?_
    refine g_iconst (pc := 12) (v := 0) dX9_brightBy_12 (by decide) ?_
    refine g_iald (pc := 13) 0 rfl rfl (by decide) (by decide) dX9_brightBy_13 ?_
    refine g_icmp_ge (pc := 14) (tgt := 58) dX9_brightBy_14 (by decide) (fun c_14 => ?_) (fun c_14 => ?_)
    · have k_14 := Int32.not_lt.mpr c_14
      have he_6 : n = (nM S) := Nat.le_antisymm hn_6 (by exact nle_of (N := nM S) rfl hz.1 (by omega) (by omega) c_14)
      rw [he_6]
      refine g_iload (pc := 58) dX9_brightBy_58 4 rfl ?_
      exact g_iret (pc := 60) hM rfl rfl ⟨rfl, rfl⟩ dX9_brightBy_60
    · have k_14 := Int32.not_le.mp c_14
      have hlt_6 : n < (nM S) := by exact nlt_of (N := nM S) rfl hz.1 (by omega) (by omega) c_14
      refine g_iload (pc := 17) dX9_brightBy_17 4 rfl ?_
      refine g_iload_n (pc := 19) dX9_brightBy_19 2 rfl rfl ?_
      refine g_iload (pc := 20) dX9_brightBy_20 5 rfl ?_
      refine g_invS (pc := 22) j_X9_has mw_X9_143 dX9_brightBy_22 (by rfl) (c_X9_has E S set (nI n) ) (Nat.le_of_ble_eq_true rfl) (Nat.le_of_ble_eq_true rfl) (by rfl) (Nat.le_of_ble_eq_true rfl) ?_
      refine g_b_eq (pc := 25) (tgt := 48) dX9_brightBy_25 (by decide) (fun c_25 => ?_) (fun c_25 => ?_)
      · refine g_iconst (pc := 48) (v := 0) dX9_brightBy_48 (by decide) ?_
        refine g_iadd (pc := 49) dX9_brightBy_49 ?_
        refine g_istore (pc := 50) (L' := [(4, .int (brR S pl set night n + 0)), (0, .ref (eA E 58)), (1, .int pl), (2, .int set), (3, .int night), (5, .int (nI n))]) dX9_brightBy_50 (Nat.le_of_ble_eq_true rfl) rfl ?_
        refine g_iinc (pc := 52) (L' := [(5, .int (nI n + 1)), (4, .int (brR S pl set night n + 0)), (0, .ref (eA E 58)), (1, .int pl), (2, .int set), (3, .int night)]) dX9_brightBy_52 (k := 5) rfl (v := nI n + 1) rfl (Nat.le_of_ble_eq_true rfl) rfl ?_
        refine g_goto (pc := 55) (tgt := 6) dX9_brightBy_55 (by decide) ?_
        refine g_sub (L' := [(0, .ref (eA E 58)), (1, .int pl), (2, .int set), (3, .int night), (4, .int (brR S pl set night n + 0)), (5, .int (nI n + 1))]) [2, 3, 4, 5, 1, 0] rfl ?_
        exact g_eq rfl (by simp only [nI_1, brR, c_25, if_true, if_false, Bool.false_eq_true]) rfl (ih_6 hlt_6)
      · refine g_aload_n (pc := 28) dX9_brightBy_28 0 rfl rfl ?_
        refine g_iload (pc := 29) dX9_brightBy_29 5 rfl ?_
        refine g_aload_n (pc := 31) dX9_brightBy_31 0 rfl rfl ?_
        refine gf_X9_7 (pc := 32) rfl dX9_brightBy_32 ?_
        refine g_iconst (pc := 35) (v := 3) dX9_brightBy_35 (by decide) ?_
        refine g_iload (pc := 36) dX9_brightBy_36 5 rfl ?_
        refine g_iadd (pc := 38) dX9_brightBy_38 ?_
        refine g_iald (pc := 39) (3 + n) (nI_aE rfl rfl) rfl (show 3 + n < 1776 by omega) (by decide) dX9_brightBy_39 ?_
        refine g_iload_n (pc := 40) dX9_brightBy_40 1 rfl rfl ?_
        refine g_iload_n (pc := 41) dX9_brightBy_41 3 rfl rfl ?_
        refine g_invV (pc := 42) j_X9_gives mw_X9_168 dX9_brightBy_42 (rcv_X9) (by rfl) (c_X9_gives E S n (gA S 59 (3 + n)) pl night (by omega)) (Nat.le_of_ble_eq_true rfl) (Nat.le_of_ble_eq_true rfl) (by rfl) (Nat.le_of_ble_eq_true rfl) ?_
        refine g_goto (pc := 45) (tgt := 49) dX9_brightBy_45 (by decide) ?_
        refine g_iadd (pc := 49) dX9_brightBy_49 ?_
        refine g_istore (pc := 50) (L' := [(4, .int (brR S pl set night n + gvM S n (gA S 59 (3 + n)) pl night)), (0, .ref (eA E 58)), (1, .int pl), (2, .int set), (3, .int night), (5, .int (nI n))]) dX9_brightBy_50 (Nat.le_of_ble_eq_true rfl) rfl ?_
        refine g_iinc (pc := 52) (L' := [(5, .int (nI n + 1)), (4, .int (brR S pl set night n + gvM S n (gA S 59 (3 + n)) pl night)), (0, .ref (eA E 58)), (1, .int pl), (2, .int set), (3, .int night)]) dX9_brightBy_52 (k := 5) rfl (v := nI n + 1) rfl (Nat.le_of_ble_eq_true rfl) rfl ?_
        refine g_goto (pc := 55) (tgt := 6) dX9_brightBy_55 (by decide) ?_
        refine g_sub (L' := [(0, .ref (eA E 58)), (1, .int pl), (2, .int set), (3, .int night), (4, .int (brR S pl set night n + gvM S n (gA S 59 (3 + n)) pl night)), (5, .int (nI n + 1))]) [2, 3, 4, 5, 1, 0] rfl ?_
        exact g_eq rfl (by simp only [nI_1, brR, c_25, if_true, if_false, Bool.false_eq_true]) rfl (ih_6 hlt_6)
  refine g_sub (L' := [(0, .ref (eA E 58)), (1, .int pl), (2, .int set), (3, .int night), (4, .int 0), (5, .int 0)]) [2, 3, 4, 5, 1, 0] rfl ?_
  exact g_eq rfl rfl rfl (H_6 0 (Nat.zero_le _))
set_option maxRecDepth 100000 in
set_option maxHeartbeats 4000000 in
theorem c_X9_brightNow (E : En) (S : St) (pl : Int32) (hz : okM S) : CTe E i_X9_brightNow S [.ref (eA E 58), .int pl] S (some (.int (brM S pl))) := by
  refine ct_of [(0, .ref (eA E 58)), (1, .int pl)] (by decide +kernel) (Nat.le_of_ble_eq_true rfl) rfl (fun X hM => ?_)
  refine g_aload_n (pc := 0) dX9_brightNow_0 0 rfl rfl ?_
  refine g_iload_n (pc := 1) dX9_brightNow_1 1 rfl rfl ?_
  refine g_aload_n (pc := 2) dX9_brightNow_2 0 rfl rfl ?_
  refine gf_X9_7 (pc := 3) rfl dX9_brightNow_3 ?_
  refine g_iconst (pc := 6) (v := 2) dX9_brightNow_6 (by decide) ?_
  refine g_iald (pc := 7) 2 rfl rfl (by decide) (by decide) dX9_brightNow_7 ?_
  refine g_aload_n (pc := 8) dX9_brightNow_8 0 rfl rfl ?_
  refine gf_X9_7 (pc := 9) rfl dX9_brightNow_9 ?_
  refine g_iconst (pc := 12) (v := 1) dX9_brightNow_12 (by decide) ?_
  refine g_iald (pc := 13) 1 rfl rfl (by decide) (by decide) dX9_brightNow_13 ?_
  refine g_invV (pc := 14) j_X9_brightBy mw_X9_172 dX9_brightNow_14 (rcv_X9) (by rfl) (c_X9_brightBy E S pl (gA S 59 2) (gA S 59 1) (by first | assumption | omega | rfl)) (Nat.le_of_ble_eq_true rfl) (Nat.le_of_ble_eq_true rfl) (by rfl) (Nat.le_of_ble_eq_true rfl) ?_
  exact g_iret (pc := 17) hM rfl rfl ⟨rfl, rfl⟩ dX9_brightNow_17
set_option maxRecDepth 100000 in
set_option maxHeartbeats 4000000 in
theorem c_X9_alongNow (E : En) (S : St) (p q m : Nat) (hz : okM S) (hm : p + m = q + 1) (hq : q < 1000) : CTe E i_X9_alongNow S [.ref (eA E 58), .int (nI p), .int (nI q)] S (some (.int (alM S p m))) := by
  refine ct_of [(0, .ref (eA E 58)), (1, .int (nI p)), (2, .int (nI q))] (by decide +kernel) (Nat.le_of_ble_eq_true rfl) rfl (fun X hM => ?_)
  refine g_iconst (pc := 0) (v := 0) dX9_alongNow_0 (by decide) ?_
  refine g_istore_n (pc := 1) (L' := [(3, .int 0), (0, .ref (eA E 58)), (1, .int (nI p)), (2, .int (nI q))]) dX9_alongNow_1 rfl (Nat.le_of_ble_eq_true rfl) rfl ?_
  refine g_iload_n (pc := 2) dX9_alongNow_2 2 rfl rfl ?_
  refine g_istore (pc := 3) (L' := [(4, .int (nI p)), (3, .int 0), (0, .ref (eA E 58)), (1, .int (nI p)), (2, .int (nI q))]) dX9_alongNow_3 (Nat.le_of_ble_eq_true rfl) rfl ?_
  have H_5 : ∀ n : Nat, n ≤ m → G E X i_X9_alongNow S 5 [(0, .ref (eA E 58)), (1, .int (nI p)), (2, .int (nI q)), (3, .int (alM S p n)), (4, .int (nI (p + n)))] [] := by
    refine dn_ind m (fun n hn_5 ih_5 => ?_)
    refine g_iload (pc := 5) dX9_alongNow_5 4 rfl ?_
    refine g_iload_n (pc := 7) dX9_alongNow_7 2 rfl rfl ?_
    refine g_icmp_gt (pc := 8) (tgt := 26) dX9_alongNow_8 (by decide) (fun c_8 => ?_) (fun c_8 => ?_)
    · have k_8 := Int32.not_le.mpr c_8
      have he_5 : n = m := Nat.le_antisymm hn_5 (by have := (nI_ltI (a := q) (b := p + n) (by omega) (by omega)).mp c_8; omega)
      rw [he_5]
      refine g_iload_n (pc := 26) dX9_alongNow_26 3 rfl rfl ?_
      exact g_iret (pc := 27) hM rfl rfl ⟨rfl, rfl⟩ dX9_alongNow_27
    · have k_8 := Int32.not_lt.mp c_8
      have hlt_5 : n < m := by have := (nI_leI (a := p + n) (b := q) (by omega) (by omega)).mp k_8; omega
      refine g_iload_n (pc := 11) dX9_alongNow_11 3 rfl rfl ?_
      refine g_aload_n (pc := 12) dX9_alongNow_12 0 rfl rfl ?_
      refine g_iload (pc := 13) dX9_alongNow_13 4 rfl ?_
      refine g_invV (pc := 15) j_X9_brightNow mw_X9_175 dX9_alongNow_15 (rcv_X9) (by rfl) (c_X9_brightNow E S (nI (p + n)) (by first | assumption | omega | rfl)) (Nat.le_of_ble_eq_true rfl) (Nat.le_of_ble_eq_true rfl) (by rfl) (Nat.le_of_ble_eq_true rfl) ?_
      refine g_iadd (pc := 18) dX9_alongNow_18 ?_
      refine g_istore_n (pc := 19) (L' := [(3, .int (alM S p n + brM S (nI (p + n)))), (0, .ref (eA E 58)), (1, .int (nI p)), (2, .int (nI q)), (4, .int (nI (p + n)))]) dX9_alongNow_19 rfl (Nat.le_of_ble_eq_true rfl) rfl ?_
      refine g_iinc (pc := 20) (L' := [(4, .int (nI (p + n) + 1)), (3, .int (alM S p n + brM S (nI (p + n)))), (0, .ref (eA E 58)), (1, .int (nI p)), (2, .int (nI q))]) dX9_alongNow_20 (k := 4) rfl (v := nI (p + n) + 1) rfl (Nat.le_of_ble_eq_true rfl) rfl ?_
      refine g_goto (pc := 23) (tgt := 5) dX9_alongNow_23 (by decide) ?_
      refine g_sub (L' := [(0, .ref (eA E 58)), (1, .int (nI p)), (2, .int (nI q)), (3, .int (alM S p n + brM S (nI (p + n)))), (4, .int (nI (p + n) + 1))]) [2, 3, 4, 1, 0] rfl ?_
      exact g_eq rfl (by simp only [nI_1]; rfl) rfl (ih_5 hlt_5)
  refine g_sub (L' := [(0, .ref (eA E 58)), (1, .int (nI p)), (2, .int (nI q)), (3, .int 0), (4, .int (nI p))]) [2, 3, 4, 1, 0] rfl ?_
  exact g_eq rfl rfl rfl (H_5 0 (Nat.zero_le _))
set_option maxRecDepth 100000 in
set_option maxHeartbeats 4000000 in
theorem c_X9_bright_bad (E : En) (S : St) (p : Int32) (h : placeF p = false) : CTe E i_X9_bright S [.ref (eA E 58), .int p] S (some (.int (-1))) := by
  refine ct_of [(0, .ref (eA E 58)), (1, .int p)] (by decide +kernel) (Nat.le_of_ble_eq_true rfl) rfl (fun X hM => ?_)
  refine g_iload_n (pc := 0) dX9_bright_0 1 rfl rfl ?_
  refine g_invS (pc := 1) j_X9_isPlace mw_X9_156 dX9_bright_1 (by rfl) (c_X9_isPlace E S p ) (Nat.le_of_ble_eq_true rfl) (Nat.le_of_ble_eq_true rfl) (by rfl) (Nat.le_of_ble_eq_true rfl) ?_
  refine g_b_eq (pc := 4) (tgt := 15) dX9_bright_4 (by decide) (fun c_4 => ?_) (fun c_4 => ?_)
  · refine g_iconst (pc := 15) (v := -1) dX9_bright_15 (by decide) ?_
    exact g_iret (pc := 16) hM rfl rfl ⟨rfl, rfl⟩ dX9_bright_16
  · exact absurd (h.symm.trans c_4) (by decide)
set_option maxRecDepth 100000 in
set_option maxHeartbeats 4000000 in
theorem c_X9_bright_ok (E : En) (S : St) (p : Int32) (hz : okM S) (h : placeF p = true) : CTe E i_X9_bright S [.ref (eA E 58), .int p] S (some (.int (brM S p))) := by
  refine ct_of [(0, .ref (eA E 58)), (1, .int p)] (by decide +kernel) (Nat.le_of_ble_eq_true rfl) rfl (fun X hM => ?_)
  refine g_iload_n (pc := 0) dX9_bright_0 1 rfl rfl ?_
  refine g_invS (pc := 1) j_X9_isPlace mw_X9_156 dX9_bright_1 (by rfl) (c_X9_isPlace E S p ) (Nat.le_of_ble_eq_true rfl) (Nat.le_of_ble_eq_true rfl) (by rfl) (Nat.le_of_ble_eq_true rfl) ?_
  refine g_b_eq (pc := 4) (tgt := 15) dX9_bright_4 (by decide) (fun c_4 => ?_) (fun c_4 => ?_)
  · exact absurd (h.symm.trans c_4) (by decide)
  · refine g_aload_n (pc := 7) dX9_bright_7 0 rfl rfl ?_
    refine g_iload_n (pc := 8) dX9_bright_8 1 rfl rfl ?_
    refine g_invV (pc := 9) j_X9_brightNow mw_X9_175 dX9_bright_9 (rcv_X9) (by rfl) (c_X9_brightNow E S p (by first | assumption | omega | rfl)) (Nat.le_of_ble_eq_true rfl) (Nat.le_of_ble_eq_true rfl) (by rfl) (Nat.le_of_ble_eq_true rfl) ?_
    refine g_goto (pc := 12) (tgt := 16) dX9_bright_12 (by decide) ?_
    exact g_iret (pc := 16) hM rfl rfl ⟨rfl, rfl⟩ dX9_bright_16
set_option maxRecDepth 100000 in
set_option maxHeartbeats 4000000 in
theorem c_X9_along_bad (E : En) (S : St) (x y : Int32) (h : ¬ (placeF x = true ∧ inF y.toInt64 x.toInt64 9 = true)) : CTe E i_X9_along S [.ref (eA E 58), .int x, .int y] S (some (.int (-1))) := by
  refine ct_of [(0, .ref (eA E 58)), (1, .int x), (2, .int y)] (by decide +kernel) (Nat.le_of_ble_eq_true rfl) rfl (fun X hM => ?_)
  refine g_iload_n (pc := 0) dX9_along_0 1 rfl rfl ?_
  refine g_invS (pc := 1) j_X9_isPlace mw_X9_156 dX9_along_1 (by rfl) (c_X9_isPlace E S x ) (Nat.le_of_ble_eq_true rfl) (Nat.le_of_ble_eq_true rfl) (by rfl) (Nat.le_of_ble_eq_true rfl) ?_
  refine g_b_eq (pc := 4) (tgt := 29) dX9_along_4 (by decide) (fun c_4 => ?_) (fun c_4 => ?_)
  · refine g_iconst (pc := 29) (v := -1) dX9_along_29 (by decide) ?_
    exact g_iret (pc := 30) hM rfl rfl ⟨rfl, rfl⟩ dX9_along_30
  · refine g_iload_n (pc := 7) dX9_along_7 2 rfl rfl ?_
    refine g_i2l (pc := 8) dX9_along_8 ?_
    refine g_iload_n (pc := 9) dX9_along_9 1 rfl rfl ?_
    refine g_i2l (pc := 10) dX9_along_10 ?_
    refine g_ldc2 (pc := 11) kw_X9_68 dX9_along_11 ?_
    refine g_invS (pc := 14) j_X9_in mw_X9_62 dX9_along_14 (by rfl) (c_X9_in E S y.toInt64 x.toInt64 9 ) (Nat.le_of_ble_eq_true rfl) (Nat.le_of_ble_eq_true rfl) (by rfl) (Nat.le_of_ble_eq_true rfl) ?_
    refine g_b_eq (pc := 17) (tgt := 29) dX9_along_17 (by decide) (fun c_17 => ?_) (fun c_17 => ?_)
    · refine g_iconst (pc := 29) (v := -1) dX9_along_29 (by decide) ?_
      exact g_iret (pc := 30) hM rfl rfl ⟨rfl, rfl⟩ dX9_along_30
    · exact absurd ⟨c_4, c_17⟩ h
set_option maxRecDepth 100000 in
set_option maxHeartbeats 4000000 in
theorem c_X9_along_ok (E : En) (S : St) (p q m : Nat) (hz : okM S)(hp : placeF (nI p) = true) (hq : inF (nI q).toInt64 (nI p).toInt64 9 = true) (hm : p + m = q + 1) (hq9 : q < 10) : CTe E i_X9_along S [.ref (eA E 58), .int (nI p), .int (nI q)] S (some (.int (alM S p m))) := by
  refine ct_of [(0, .ref (eA E 58)), (1, .int (nI p)), (2, .int (nI q))] (by decide +kernel) (Nat.le_of_ble_eq_true rfl) rfl (fun X hM => ?_)
  refine g_iload_n (pc := 0) dX9_along_0 1 rfl rfl ?_
  refine g_invS (pc := 1) j_X9_isPlace mw_X9_156 dX9_along_1 (by rfl) (c_X9_isPlace E S (nI p) ) (Nat.le_of_ble_eq_true rfl) (Nat.le_of_ble_eq_true rfl) (by rfl) (Nat.le_of_ble_eq_true rfl) ?_
  refine g_b_eq (pc := 4) (tgt := 29) dX9_along_4 (by decide) (fun c_4 => ?_) (fun c_4 => ?_)
  · exact absurd (hp.symm.trans c_4) (by decide)
  · refine g_iload_n (pc := 7) dX9_along_7 2 rfl rfl ?_
    refine g_i2l (pc := 8) dX9_along_8 ?_
    refine g_iload_n (pc := 9) dX9_along_9 1 rfl rfl ?_
    refine g_i2l (pc := 10) dX9_along_10 ?_
    refine g_ldc2 (pc := 11) kw_X9_68 dX9_along_11 ?_
    refine g_invS (pc := 14) j_X9_in mw_X9_62 dX9_along_14 (by rfl) (c_X9_in E S ((nI q).toInt64) ((nI p).toInt64) 9 ) (Nat.le_of_ble_eq_true rfl) (Nat.le_of_ble_eq_true rfl) (by rfl) (Nat.le_of_ble_eq_true rfl) ?_
    refine g_b_eq (pc := 17) (tgt := 29) dX9_along_17 (by decide) (fun c_17 => ?_) (fun c_17 => ?_)
    · exact absurd (hq.symm.trans c_17) (by decide)
    · refine g_aload_n (pc := 20) dX9_along_20 0 rfl rfl ?_
      refine g_iload_n (pc := 21) dX9_along_21 1 rfl rfl ?_
      refine g_iload_n (pc := 22) dX9_along_22 2 rfl rfl ?_
      refine g_invV (pc := 23) j_X9_alongNow mw_X9_178 dX9_along_23 (rcv_X9) (by rfl) (c_X9_alongNow E S p q m (by first | assumption | omega | rfl) (by first | assumption | omega | rfl) (by first | assumption | omega | rfl)) (Nat.le_of_ble_eq_true rfl) (Nat.le_of_ble_eq_true rfl) (by rfl) (Nat.le_of_ble_eq_true rfl) ?_
      refine g_goto (pc := 26) (tgt := 30) dX9_along_26 (by decide) ?_
      exact g_iret (pc := 30) hM rfl rfl ⟨rfl, rfl⟩ dX9_along_30
set_option maxRecDepth 100000 in
set_option maxHeartbeats 4000000 in
theorem c_X9_when_bad (E : En) (S : St) (p v : Int32) (h : ¬ (placeF p = true ∧ inF v.toInt64 0 200 = true)) : CTe E i_X9_when S [.ref (eA E 58), .int p, .int v] S (some (.int (-1))) := by
  refine ct_of [(0, .ref (eA E 58)), (1, .int p), (2, .int v)] (by decide +kernel) (Nat.le_of_ble_eq_true rfl) rfl (fun X hM => ?_)
  refine g_iload_n (pc := 0) dX9_when_0 1 rfl rfl ?_
  refine g_invS (pc := 1) j_X9_isPlace mw_X9_156 dX9_when_1 (by rfl) (c_X9_isPlace E S p ) (Nat.le_of_ble_eq_true rfl) (Nat.le_of_ble_eq_true rfl) (by rfl) (Nat.le_of_ble_eq_true rfl) ?_
  refine g_b_eq (pc := 4) (tgt := 19) dX9_when_4 (by decide) (fun c_4 => ?_) (fun c_4 => ?_)
  · refine g_iconst (pc := 19) (v := -1) dX9_when_19 (by decide) ?_
    exact g_iret (pc := 20) hM rfl rfl ⟨rfl, rfl⟩ dX9_when_20
  · refine g_iload_n (pc := 7) dX9_when_7 2 rfl rfl ?_
    refine g_i2l (pc := 8) dX9_when_8 ?_
    refine g_lconst (pc := 9) (v := 0) dX9_when_9 (by decide) ?_
    refine g_ldc2 (pc := 10) kw_X9_181 dX9_when_10 ?_
    refine g_invS (pc := 13) j_X9_in mw_X9_62 dX9_when_13 (by rfl) (c_X9_in E S v.toInt64 0 200 ) (Nat.le_of_ble_eq_true rfl) (Nat.le_of_ble_eq_true rfl) (by rfl) (Nat.le_of_ble_eq_true rfl) ?_
    refine g_b_ne (pc := 16) (tgt := 21) dX9_when_16 (by decide) (fun c_16 => ?_) (fun c_16 => ?_)
    · exact absurd ⟨c_4, c_16⟩ h
    · refine g_iconst (pc := 19) (v := -1) dX9_when_19 (by decide) ?_
      exact g_iret (pc := 20) hM rfl rfl ⟨rfl, rfl⟩ dX9_when_20
set_option maxRecDepth 100000 in
set_option maxHeartbeats 4000000 in
theorem c_X9_when_ok (E : En) (S : St) (p v : Int32) (n : Nat) (hz : okM S)(hp : placeF p = true) (hv : inF v.toInt64 0 200 = true) (hn : n ≤ 40) (hno : ∀ j, j < n → ¬ v ≤ brR S p (gA S 59 2) (gA S 59 1 + nI j) (nM S)) (hge : v ≤ brR S p (gA S 59 2) (gA S 59 1 + nI n) (nM S)) : CTe E i_X9_when S [.ref (eA E 58), .int p, .int v] (sI S 58 7 (brR S p (gA S 59 2) (gA S 59 1 + nI n) (nM S))) (some (.int (nI n))) := by
  refine ct_of [(0, .ref (eA E 58)), (1, .int p), (2, .int v)] (by decide +kernel) (Nat.le_of_ble_eq_true rfl) rfl (fun X hM => ?_)
  refine g_iload_n (pc := 0) dX9_when_0 1 rfl rfl ?_
  refine g_invS (pc := 1) j_X9_isPlace mw_X9_156 dX9_when_1 (by rfl) (c_X9_isPlace E S p ) (Nat.le_of_ble_eq_true rfl) (Nat.le_of_ble_eq_true rfl) (by rfl) (Nat.le_of_ble_eq_true rfl) ?_
  refine g_b_eq (pc := 4) (tgt := 19) dX9_when_4 (by decide) (fun c_4 => ?_) (fun c_4 => ?_)
  · exact absurd (hp.symm.trans c_4) (by decide)
  · refine g_iload_n (pc := 7) dX9_when_7 2 rfl rfl ?_
    refine g_i2l (pc := 8) dX9_when_8 ?_
    refine g_lconst (pc := 9) (v := 0) dX9_when_9 (by decide) ?_
    refine g_ldc2 (pc := 10) kw_X9_181 dX9_when_10 ?_
    refine g_invS (pc := 13) j_X9_in mw_X9_62 dX9_when_13 (by rfl) (c_X9_in E S v.toInt64 0 200 ) (Nat.le_of_ble_eq_true rfl) (Nat.le_of_ble_eq_true rfl) (by rfl) (Nat.le_of_ble_eq_true rfl) ?_
    refine g_b_ne (pc := 16) (tgt := 21) dX9_when_16 (by decide) (fun c_16 => ?_) (fun c_16 => ?_)
    · refine g_iconst (pc := 21) (v := 0) dX9_when_21 (by decide) ?_
      refine g_istore_n (pc := 22) (L' := [(3, .int 0), (0, .ref (eA E 58)), (1, .int p), (2, .int v)]) dX9_when_22 rfl (Nat.le_of_ble_eq_true rfl) rfl ?_
      have H_23 : ∀ j : Nat, j ≤ n → G E X i_X9_when S 23 [(0, .ref (eA E 58)), (1, .int p), (2, .int v), (3, .int (nI j))] [] := by
        refine dn_ind n (fun j hn_23 ih_23 => ?_)
        refine g_iload_n (pc := 23) dX9_when_23 3 rfl rfl ?_
        refine g_bipush (pc := 24) (v := 40) dX9_when_24 (by decide) ?_
        refine g_icmp_gt (pc := 26) (tgt := 70) dX9_when_26 (by decide) (fun c_26 => ?_) (fun c_26 => ?_)
        · have k_26 := Int32.not_le.mpr c_26
          exact absurd c_26 (nI_nlt (a := 40) (by omega) (by omega))
        · have k_26 := Int32.not_lt.mp c_26
          refine g_aload_n (pc := 29) dX9_when_29 0 rfl rfl ?_
          refine g_iload_n (pc := 30) dX9_when_30 1 rfl rfl ?_
          refine g_aload_n (pc := 31) dX9_when_31 0 rfl rfl ?_
          refine gf_X9_7 (pc := 32) rfl dX9_when_32 ?_
          refine g_iconst (pc := 35) (v := 2) dX9_when_35 (by decide) ?_
          refine g_iald (pc := 36) 2 rfl rfl (by decide) (by decide) dX9_when_36 ?_
          refine g_aload_n (pc := 37) dX9_when_37 0 rfl rfl ?_
          refine gf_X9_7 (pc := 38) rfl dX9_when_38 ?_
          refine g_iconst (pc := 41) (v := 1) dX9_when_41 (by decide) ?_
          refine g_iald (pc := 42) 1 rfl rfl (by decide) (by decide) dX9_when_42 ?_
          refine g_iload_n (pc := 43) dX9_when_43 3 rfl rfl ?_
          refine g_iadd (pc := 44) dX9_when_44 ?_
          refine g_invV (pc := 45) j_X9_brightBy mw_X9_172 dX9_when_45 (rcv_X9) (by rfl) (c_X9_brightBy E S p (gA S 59 2) (gA S 59 1 + nI j) (by first | assumption | omega | rfl)) (Nat.le_of_ble_eq_true rfl) (Nat.le_of_ble_eq_true rfl) (by rfl) (Nat.le_of_ble_eq_true rfl) ?_
          refine g_istore (pc := 48) (L' := [(4, .int (brR S p (gA S 59 2) (gA S 59 1 + nI j) (nM S))), (0, .ref (eA E 58)), (1, .int p), (2, .int v), (3, .int (nI j))]) dX9_when_48 (Nat.le_of_ble_eq_true rfl) rfl ?_
          refine g_iload (pc := 50) dX9_when_50 0 rfl ?_
          refine g_iload_n (pc := 52) dX9_when_52 3 rfl rfl ?_
          refine g_icmp_lt (pc := 53) (tgt := 64) dX9_when_53 (by decide) (fun c_53 => ?_) (fun c_53 => ?_)
          · have k_53 := Int32.not_le.mpr c_53
            have hlt_23 : j < n := by rcases Nat.lt_or_ge j n with q | q; exact q; exact absurd (by rw [show j = n by omega]; exact hge) k_53
            refine g_iinc (pc := 64) (L' := [(3, .int (nI j + 1)), (4, .int (brR S p (gA S 59 2) (gA S 59 1 + nI j) (nM S))), (0, .ref (eA E 58)), (1, .int p), (2, .int v)]) dX9_when_64 (k := 4) rfl (v := nI j + 1) rfl (Nat.le_of_ble_eq_true rfl) rfl ?_
            refine g_goto (pc := 67) (tgt := 23) dX9_when_67 (by decide) ?_
            refine g_sub (L' := [(0, .ref (eA E 58)), (1, .int p), (2, .int v), (3, .int (nI j + 1))]) [2, 3, 4, 0] rfl ?_
            exact g_eq rfl (by rw [nI_1]) rfl (ih_23 hlt_23)
          · have k_53 := Int32.not_lt.mp c_53
            have he : j = n := by rcases Nat.lt_or_ge j n with q | q; exact absurd k_53 (hno j q); omega
            rw [he]
            refine g_aload_n (pc := 56) dX9_when_56 1 rfl rfl ?_
            refine g_iload (pc := 57) dX9_when_57 0 rfl ?_
            refine pf_X9_57 (pc := 59) rfl dX9_when_59 ?_
            refine g_iload_n (pc := 62) dX9_when_62 4 rfl rfl ?_
            exact g_iret (pc := 63) hM rfl rfl ⟨rfl, rfl⟩ dX9_when_63
      refine g_sub (L' := [(0, .ref (eA E 58)), (1, .int p), (2, .int v), (3, .int 0)]) [1, 2, 3, 0] rfl ?_
      exact H_23 0 (Nat.zero_le _)
    · exact absurd (hv.symm.trans c_16) (by decide)
set_option maxRecDepth 100000 in
set_option maxHeartbeats 4000000 in
theorem c_X9_when_no (E : En) (S : St) (p v : Int32) (hz : okM S)(hp : placeF p = true) (hv : inF v.toInt64 0 200 = true) (hno : ∀ j, j ≤ 40 → ¬ v ≤ brR S p (gA S 59 2) (gA S 59 1 + nI j) (nM S)) : CTe E i_X9_when S [.ref (eA E 58), .int p, .int v] S (some (.int (-9))) := by
  refine ct_of [(0, .ref (eA E 58)), (1, .int p), (2, .int v)] (by decide +kernel) (Nat.le_of_ble_eq_true rfl) rfl (fun X hM => ?_)
  refine g_iload_n (pc := 0) dX9_when_0 1 rfl rfl ?_
  refine g_invS (pc := 1) j_X9_isPlace mw_X9_156 dX9_when_1 (by rfl) (c_X9_isPlace E S p ) (Nat.le_of_ble_eq_true rfl) (Nat.le_of_ble_eq_true rfl) (by rfl) (Nat.le_of_ble_eq_true rfl) ?_
  refine g_b_eq (pc := 4) (tgt := 19) dX9_when_4 (by decide) (fun c_4 => ?_) (fun c_4 => ?_)
  · exact absurd (hp.symm.trans c_4) (by decide)
  · refine g_iload_n (pc := 7) dX9_when_7 2 rfl rfl ?_
    refine g_i2l (pc := 8) dX9_when_8 ?_
    refine g_lconst (pc := 9) (v := 0) dX9_when_9 (by decide) ?_
    refine g_ldc2 (pc := 10) kw_X9_181 dX9_when_10 ?_
    refine g_invS (pc := 13) j_X9_in mw_X9_62 dX9_when_13 (by rfl) (c_X9_in E S v.toInt64 0 200 ) (Nat.le_of_ble_eq_true rfl) (Nat.le_of_ble_eq_true rfl) (by rfl) (Nat.le_of_ble_eq_true rfl) ?_
    refine g_b_ne (pc := 16) (tgt := 21) dX9_when_16 (by decide) (fun c_16 => ?_) (fun c_16 => ?_)
    · refine g_iconst (pc := 21) (v := 0) dX9_when_21 (by decide) ?_
      refine g_istore_n (pc := 22) (L' := [(3, .int 0), (0, .ref (eA E 58)), (1, .int p), (2, .int v)]) dX9_when_22 rfl (Nat.le_of_ble_eq_true rfl) rfl ?_
      have H_23 : ∀ j : Nat, j ≤ 41 → G E X i_X9_when S 23 [(0, .ref (eA E 58)), (1, .int p), (2, .int v), (3, .int (nI j))] [] := by
        refine dn_ind 41 (fun j hn_23 ih_23 => ?_)
        refine g_iload_n (pc := 23) dX9_when_23 3 rfl rfl ?_
        refine g_bipush (pc := 24) (v := 40) dX9_when_24 (by decide) ?_
        refine g_icmp_gt (pc := 26) (tgt := 70) dX9_when_26 (by decide) (fun c_26 => ?_) (fun c_26 => ?_)
        · have k_26 := Int32.not_le.mpr c_26
          refine g_bipush (pc := 70) (v := -9) dX9_when_70 (by decide) ?_
          exact g_iret (pc := 72) hM rfl rfl ⟨rfl, rfl⟩ dX9_when_72
        · have k_26 := Int32.not_lt.mp c_26
          have hlt_23 : j < 41 := by have := (nI_leI (a := j) (b := 40) (by omega) (by omega)).mp k_26; omega
          refine g_aload_n (pc := 29) dX9_when_29 0 rfl rfl ?_
          refine g_iload_n (pc := 30) dX9_when_30 1 rfl rfl ?_
          refine g_aload_n (pc := 31) dX9_when_31 0 rfl rfl ?_
          refine gf_X9_7 (pc := 32) rfl dX9_when_32 ?_
          refine g_iconst (pc := 35) (v := 2) dX9_when_35 (by decide) ?_
          refine g_iald (pc := 36) 2 rfl rfl (by decide) (by decide) dX9_when_36 ?_
          refine g_aload_n (pc := 37) dX9_when_37 0 rfl rfl ?_
          refine gf_X9_7 (pc := 38) rfl dX9_when_38 ?_
          refine g_iconst (pc := 41) (v := 1) dX9_when_41 (by decide) ?_
          refine g_iald (pc := 42) 1 rfl rfl (by decide) (by decide) dX9_when_42 ?_
          refine g_iload_n (pc := 43) dX9_when_43 3 rfl rfl ?_
          refine g_iadd (pc := 44) dX9_when_44 ?_
          refine g_invV (pc := 45) j_X9_brightBy mw_X9_172 dX9_when_45 (rcv_X9) (by rfl) (c_X9_brightBy E S p (gA S 59 2) (gA S 59 1 + nI j) (by first | assumption | omega | rfl)) (Nat.le_of_ble_eq_true rfl) (Nat.le_of_ble_eq_true rfl) (by rfl) (Nat.le_of_ble_eq_true rfl) ?_
          refine g_istore (pc := 48) (L' := [(4, .int (brR S p (gA S 59 2) (gA S 59 1 + nI j) (nM S))), (0, .ref (eA E 58)), (1, .int p), (2, .int v), (3, .int (nI j))]) dX9_when_48 (Nat.le_of_ble_eq_true rfl) rfl ?_
          refine g_iload (pc := 50) dX9_when_50 0 rfl ?_
          refine g_iload_n (pc := 52) dX9_when_52 3 rfl rfl ?_
          refine g_icmp_lt (pc := 53) (tgt := 64) dX9_when_53 (by decide) (fun c_53 => ?_) (fun c_53 => ?_)
          · have k_53 := Int32.not_le.mpr c_53
            refine g_iinc (pc := 64) (L' := [(3, .int (nI j + 1)), (4, .int (brR S p (gA S 59 2) (gA S 59 1 + nI j) (nM S))), (0, .ref (eA E 58)), (1, .int p), (2, .int v)]) dX9_when_64 (k := 4) rfl (v := nI j + 1) rfl (Nat.le_of_ble_eq_true rfl) rfl ?_
            refine g_goto (pc := 67) (tgt := 23) dX9_when_67 (by decide) ?_
            refine g_sub (L' := [(0, .ref (eA E 58)), (1, .int p), (2, .int v), (3, .int (nI j + 1))]) [2, 3, 4, 0] rfl ?_
            exact g_eq rfl (by rw [nI_1]) rfl (ih_23 hlt_23)
          · have k_53 := Int32.not_lt.mp c_53
            exact absurd k_53 (hno j (by omega))
      refine g_sub (L' := [(0, .ref (eA E 58)), (1, .int p), (2, .int v), (3, .int 0)]) [1, 2, 3, 0] rfl ?_
      exact H_23 0 (Nat.zero_le _)
    · exact absurd (hv.symm.trans c_16) (by decide)
set_option maxRecDepth 100000 in
set_option maxHeartbeats 4000000 in
theorem c_X9_stow_bad (E : En) (S : St) (k x y : Int32) (hz : okM S) (h : ¬ (idxF (nM S) k = true ∧ placeF x = true ∧ inF y.toInt64 x.toInt64 9 = true)) : CTe E i_X9_stow S [.ref (eA E 58), .int k, .int x, .int y] S (some (.int (-1))) := by
  refine ct_of [(0, .ref (eA E 58)), (1, .int k), (2, .int x), (3, .int y)] (by decide +kernel) (Nat.le_of_ble_eq_true rfl) rfl (fun X hM => ?_)
  refine g_aload_n (pc := 0) dX9_stow_0 0 rfl rfl ?_
  refine g_iload_n (pc := 1) dX9_stow_1 1 rfl rfl ?_
  refine g_invV (pc := 2) j_X9_isLight mw_X9_127 dX9_stow_2 (rcv_X9) (by rfl) (c_X9_isLight E S k (by first | assumption | omega | rfl)) (Nat.le_of_ble_eq_true rfl) (Nat.le_of_ble_eq_true rfl) (by rfl) (Nat.le_of_ble_eq_true rfl) ?_
  refine g_b_eq (pc := 5) (tgt := 28) dX9_stow_5 (by decide) (fun c_5 => ?_) (fun c_5 => ?_)
  · refine g_iconst (pc := 28) (v := -1) dX9_stow_28 (by decide) ?_
    exact g_iret (pc := 29) hM rfl rfl ⟨rfl, rfl⟩ dX9_stow_29
  · refine g_iload_n (pc := 8) dX9_stow_8 2 rfl rfl ?_
    refine g_invS (pc := 9) j_X9_isPlace mw_X9_156 dX9_stow_9 (by rfl) (c_X9_isPlace E S x ) (Nat.le_of_ble_eq_true rfl) (Nat.le_of_ble_eq_true rfl) (by rfl) (Nat.le_of_ble_eq_true rfl) ?_
    refine g_b_eq (pc := 12) (tgt := 28) dX9_stow_12 (by decide) (fun c_12 => ?_) (fun c_12 => ?_)
    · refine g_iconst (pc := 28) (v := -1) dX9_stow_28 (by decide) ?_
      exact g_iret (pc := 29) hM rfl rfl ⟨rfl, rfl⟩ dX9_stow_29
    · refine g_iload_n (pc := 15) dX9_stow_15 3 rfl rfl ?_
      refine g_i2l (pc := 16) dX9_stow_16 ?_
      refine g_iload_n (pc := 17) dX9_stow_17 2 rfl rfl ?_
      refine g_i2l (pc := 18) dX9_stow_18 ?_
      refine g_ldc2 (pc := 19) kw_X9_68 dX9_stow_19 ?_
      refine g_invS (pc := 22) j_X9_in mw_X9_62 dX9_stow_22 (by rfl) (c_X9_in E S y.toInt64 x.toInt64 9 ) (Nat.le_of_ble_eq_true rfl) (Nat.le_of_ble_eq_true rfl) (by rfl) (Nat.le_of_ble_eq_true rfl) ?_
      refine g_b_ne (pc := 25) (tgt := 30) dX9_stow_25 (by decide) (fun c_25 => ?_) (fun c_25 => ?_)
      · exact absurd ⟨c_5, c_12, c_25⟩ h
      · refine g_iconst (pc := 28) (v := -1) dX9_stow_28 (by decide) ?_
        exact g_iret (pc := 29) hM rfl rfl ⟨rfl, rfl⟩ dX9_stow_29
/-- the light's place while the n-th is tried: at the start its own -/
def stV (S : St) (k : Nat) : Nat → St | 0 => S | n + 1 => stU S k n
theorem stV_g {S : St} {k n : Nat} : sA (stV S k n) 59 (upd (gA (stV S k n) 59) (3 + k) (nI n)) = stU S k n := by
  cases n with
  | zero => rfl
  | succ n => unfold stV stU; rw [sA_sA, gA_same, upd_uu]
theorem stV_r {S : St} {k n : Nat} : sA (stV S k n) 59 (upd (gA (stV S k n) 59) (3 + k) (gA S 59 (3 + k))) = S := by
  cases n with
  | zero => rw [show stV S k 0 = S from rfl, show upd (gA S 59) (3 + k) (gA S 59 (3 + k)) = gA S 59 by funext j; by_cases q : j = 3 + k; (subst q; exact pk_us); exact pk_un q]; exact sA_self S 59
  | succ n => unfold stV stU; rw [sA_sA, gA_same, upd_uu, show upd (gA S 59) (3 + k) (gA S 59 (3 + k)) = gA S 59 by funext j; by_cases q : j = 3 + k; (subst q; exact pk_us); exact pk_un q]; exact sA_self S 59
set_option maxRecDepth 100000 in
set_option maxHeartbeats 4000000 in
theorem c_X9_stow_ok (E : En) (S : St) (k p q m : Nat) (hz : okM S)(hk : k < nM S)(hp : placeF (nI p) = true) (hq : inF (nI q).toInt64 (nI p).toInt64 9 = true) (hm : p + m = q + 1) (hq9 : q < 10) : CTe E i_X9_stow S [.ref (eA E 58), .int (nI k), .int (nI p), .int (nI q)] (sI S 58 7 (stM S k p m 10).2) (some (.int ((stM S k p m 10).1))) := by
  have hz8 := hz.2
  have hx := idx_in hk (show nM S < 2 ^ 31 by omega)
  refine ct_of [(0, .ref (eA E 58)), (1, .int (nI k)), (2, .int (nI p)), (3, .int (nI q))] (by decide +kernel) (Nat.le_of_ble_eq_true rfl) rfl (fun X hM => ?_)
  refine g_aload_n (pc := 0) dX9_stow_0 0 rfl rfl ?_
  refine g_iload_n (pc := 1) dX9_stow_1 1 rfl rfl ?_
  refine g_invV (pc := 2) j_X9_isLight mw_X9_127 dX9_stow_2 (rcv_X9) (by rfl) (c_X9_isLight E S (nI k) (by first | assumption | omega | rfl)) (Nat.le_of_ble_eq_true rfl) (Nat.le_of_ble_eq_true rfl) (by rfl) (Nat.le_of_ble_eq_true rfl) ?_
  refine g_b_eq (pc := 5) (tgt := 28) dX9_stow_5 (by decide) (fun c_5 => ?_) (fun c_5 => ?_)
  · exact absurd (hx.symm.trans c_5) (by decide)
  · refine g_iload_n (pc := 8) dX9_stow_8 2 rfl rfl ?_
    refine g_invS (pc := 9) j_X9_isPlace mw_X9_156 dX9_stow_9 (by rfl) (c_X9_isPlace E S (nI p) ) (Nat.le_of_ble_eq_true rfl) (Nat.le_of_ble_eq_true rfl) (by rfl) (Nat.le_of_ble_eq_true rfl) ?_
    refine g_b_eq (pc := 12) (tgt := 28) dX9_stow_12 (by decide) (fun c_12 => ?_) (fun c_12 => ?_)
    · exact absurd (hp.symm.trans c_12) (by decide)
    · refine g_iload_n (pc := 15) dX9_stow_15 3 rfl rfl ?_
      refine g_i2l (pc := 16) dX9_stow_16 ?_
      refine g_iload_n (pc := 17) dX9_stow_17 2 rfl rfl ?_
      refine g_i2l (pc := 18) dX9_stow_18 ?_
      refine g_ldc2 (pc := 19) kw_X9_68 dX9_stow_19 ?_
      refine g_invS (pc := 22) j_X9_in mw_X9_62 dX9_stow_22 (by rfl) (c_X9_in E S ((nI q).toInt64) ((nI p).toInt64) 9 ) (Nat.le_of_ble_eq_true rfl) (Nat.le_of_ble_eq_true rfl) (by rfl) (Nat.le_of_ble_eq_true rfl) ?_
      refine g_b_ne (pc := 25) (tgt := 30) dX9_stow_25 (by decide) (fun c_25 => ?_) (fun c_25 => ?_)
      · refine g_aload_n (pc := 30) dX9_stow_30 0 rfl rfl ?_
        refine gf_X9_7 (pc := 31) rfl dX9_stow_31 ?_
        refine g_iconst (pc := 34) (v := 3) dX9_stow_34 (by decide) ?_
        refine g_iload_n (pc := 35) dX9_stow_35 1 rfl rfl ?_
        refine g_iadd (pc := 36) dX9_stow_36 ?_
        refine g_iald (pc := 37) (3 + k) (nI_aE rfl rfl) rfl (show 3 + k < 1776 by omega) (by decide) dX9_stow_37 ?_
        refine g_istore (pc := 38) (L' := [(4, .int (gA S 59 (3 + k))), (0, .ref (eA E 58)), (1, .int (nI k)), (2, .int (nI p)), (3, .int (nI q))]) dX9_stow_38 (Nat.le_of_ble_eq_true rfl) rfl ?_
        refine g_iconst (pc := 40) (v := 0) dX9_stow_40 (by decide) ?_
        refine g_istore (pc := 41) (L' := [(5, .int 0), (4, .int (gA S 59 (3 + k))), (0, .ref (eA E 58)), (1, .int (nI k)), (2, .int (nI p)), (3, .int (nI q))]) dX9_stow_41 (Nat.le_of_ble_eq_true rfl) rfl ?_
        refine g_ldc (pc := 43) kw_X9_183 dX9_stow_43 ?_
        refine g_istore (pc := 45) (L' := [(6, .int 1000000), (5, .int 0), (4, .int (gA S 59 (3 + k))), (0, .ref (eA E 58)), (1, .int (nI k)), (2, .int (nI p)), (3, .int (nI q))]) dX9_stow_45 (Nat.le_of_ble_eq_true rfl) rfl ?_
        refine g_iconst (pc := 47) (v := 0) dX9_stow_47 (by decide) ?_
        refine g_istore (pc := 48) (L' := [(7, .int 0), (6, .int 1000000), (5, .int 0), (4, .int (gA S 59 (3 + k))), (0, .ref (eA E 58)), (1, .int (nI k)), (2, .int (nI p)), (3, .int (nI q))]) dX9_stow_48 (Nat.le_of_ble_eq_true rfl) rfl ?_
        have H_50 : ∀ n : Nat, n ≤ 10 → G E X i_X9_stow (stV S k n) 50 [(0, .ref (eA E 58)), (1, .int (nI k)), (2, .int (nI p)), (3, .int (nI q)), (4, .int (gA S 59 (3 + k))), (5, .int ((stM S k p m n).1)), (6, .int ((stM S k p m n).2)), (7, .int (nI n))] [] := by
          refine dn_ind 10 (fun n hn_50 ih_50 => ?_)
          refine g_iload (pc := 50) dX9_stow_50 7 rfl ?_
          refine g_bipush (pc := 52) (v := 10) dX9_stow_52 (by decide) ?_
          refine g_icmp_ge (pc := 54) (tgt := 113) dX9_stow_54 (by decide) (fun c_54 => ?_) (fun c_54 => ?_)
          · have k_54 := Int32.not_lt.mpr c_54
            have he_50 : n = 10 := Nat.le_antisymm hn_50 (by exact nle_of (N := 10) rfl rfl (by omega) (by omega) c_54)
            rw [he_50]
            refine g_aload_n (pc := 113) dX9_stow_113 0 rfl rfl ?_
            refine gf_X9_7 (pc := 114) rfl dX9_stow_114 ?_
            refine g_iconst (pc := 117) (v := 3) dX9_stow_117 (by decide) ?_
            refine g_iload_n (pc := 118) dX9_stow_118 1 rfl rfl ?_
            refine g_iadd (pc := 119) dX9_stow_119 ?_
            refine g_iload (pc := 120) dX9_stow_120 4 rfl ?_
            refine g_iast (pc := 122) (3 + k) (nI_aE rfl rfl) rfl (show 3 + k < 1776 by omega) (by decide) dX9_stow_122 ?_
            rw [stV_r]
            refine g_aload_n (pc := 123) dX9_stow_123 0 rfl rfl ?_
            refine g_iload (pc := 124) dX9_stow_124 6 rfl ?_
            refine pf_X9_57 (pc := 126) rfl dX9_stow_126 ?_
            refine g_iload (pc := 129) dX9_stow_129 5 rfl ?_
            exact g_iret (pc := 131) hM rfl rfl ⟨rfl, rfl⟩ dX9_stow_131
          · have k_54 := Int32.not_le.mp c_54
            have hlt_50 : n < 10 := by exact nlt_of (N := 10) rfl rfl (by omega) (by omega) c_54
            refine g_aload_n (pc := 57) dX9_stow_57 0 rfl rfl ?_
            refine gf_X9_7 (pc := 58) rfl dX9_stow_58 ?_
            refine g_iconst (pc := 61) (v := 3) dX9_stow_61 (by decide) ?_
            refine g_iload_n (pc := 62) dX9_stow_62 1 rfl rfl ?_
            refine g_iadd (pc := 63) dX9_stow_63 ?_
            refine g_iload (pc := 64) dX9_stow_64 7 rfl ?_
            refine g_iast (pc := 66) (3 + k) (nI_aE rfl rfl) rfl (show 3 + k < 1776 by omega) (by decide) dX9_stow_66 ?_
            rw [stV_g]
            have hz2 := (nM_stU (k := k) (n := n) hz).1
            refine g_aload_n (pc := 67) dX9_stow_67 0 rfl rfl ?_
            refine g_iload_n (pc := 68) dX9_stow_68 2 rfl rfl ?_
            refine g_iload_n (pc := 69) dX9_stow_69 3 rfl rfl ?_
            refine g_invV (pc := 70) j_X9_alongNow mw_X9_178 dX9_stow_70 (rcv_X9) (by rfl) (c_X9_alongNow E (stU S k n) p q m hz2 hm (by first | assumption | omega | rfl)) (Nat.le_of_ble_eq_true rfl) (Nat.le_of_ble_eq_true rfl) (by rfl) (Nat.le_of_ble_eq_true rfl) ?_
            refine g_istore (pc := 73) (L' := [(8, .int (alM (stU S k n) p m)), (0, .ref (eA E 58)), (1, .int (nI k)), (2, .int (nI p)), (3, .int (nI q)), (4, .int (gA S 59 (3 + k))), (5, .int ((stM S k p m n).1)), (6, .int ((stM S k p m n).2)), (7, .int (nI n))]) dX9_stow_73 (Nat.le_of_ble_eq_true rfl) rfl ?_
            refine g_iload (pc := 75) dX9_stow_75 0 rfl ?_
            refine g_iload (pc := 77) dX9_stow_77 7 rfl ?_
            refine g_icmp_ge (pc := 79) (tgt := 87) dX9_stow_79 (by decide) (fun c_79 => ?_) (fun c_79 => ?_)
            · have k_79 := Int32.not_lt.mpr c_79
              refine g_iload (pc := 87) dX9_stow_87 6 rfl ?_
              refine g_istore (pc := 89) (L' := [(5, .int ((stM S k p m n).1)), (8, .int (alM (stU S k n) p m)), (0, .ref (eA E 58)), (1, .int (nI k)), (2, .int (nI p)), (3, .int (nI q)), (4, .int (gA S 59 (3 + k))), (6, .int ((stM S k p m n).2)), (7, .int (nI n))]) dX9_stow_89 (Nat.le_of_ble_eq_true rfl) rfl ?_
              refine g_iload (pc := 91) dX9_stow_91 1 rfl ?_
              refine g_iload (pc := 93) dX9_stow_93 7 rfl ?_
              refine g_icmp_ge (pc := 95) (tgt := 103) dX9_stow_95 (by decide) (fun c_95 => ?_) (fun c_95 => ?_)
              · have k_95 := Int32.not_lt.mpr c_95
                refine g_iload (pc := 103) dX9_stow_103 7 rfl ?_
                refine g_istore (pc := 105) (L' := [(6, .int ((stM S k p m n).2)), (5, .int ((stM S k p m n).1)), (8, .int (alM (stU S k n) p m)), (0, .ref (eA E 58)), (1, .int (nI k)), (2, .int (nI p)), (3, .int (nI q)), (4, .int (gA S 59 (3 + k))), (7, .int (nI n))]) dX9_stow_105 (Nat.le_of_ble_eq_true rfl) rfl ?_
                refine g_iinc (pc := 107) (L' := [(7, .int (nI n + 1)), (6, .int ((stM S k p m n).2)), (5, .int ((stM S k p m n).1)), (8, .int (alM (stU S k n) p m)), (0, .ref (eA E 58)), (1, .int (nI k)), (2, .int (nI p)), (3, .int (nI q)), (4, .int (gA S 59 (3 + k)))]) dX9_stow_107 (k := 8) rfl (v := nI n + 1) rfl (Nat.le_of_ble_eq_true rfl) rfl ?_
                refine g_goto (pc := 110) (tgt := 50) dX9_stow_110 (by decide) ?_
                refine g_sub (L' := [(0, .ref (eA E 58)), (1, .int (nI k)), (2, .int (nI p)), (3, .int (nI q)), (4, .int (gA S 59 (3 + k))), (5, .int ((stM S k p m n).1)), (6, .int ((stM S k p m n).2)), (7, .int (nI n + 1))]) [4, 5, 6, 7, 8, 2, 1, 0] rfl ?_
                exact g_eq rfl (by rw [nI_1, show stM S k p m (n + 1) = stM S k p m n from if_neg k_79]) rfl (ih_50 hlt_50)
              · have k_95 := Int32.not_le.mp c_95
                exact absurd c_79 c_95
            · have k_79 := Int32.not_le.mp c_79
              refine g_iload (pc := 82) dX9_stow_82 8 rfl ?_
              refine g_goto (pc := 84) (tgt := 89) dX9_stow_84 (by decide) ?_
              refine g_istore (pc := 89) (L' := [(5, .int (nI n)), (8, .int (alM (stU S k n) p m)), (0, .ref (eA E 58)), (1, .int (nI k)), (2, .int (nI p)), (3, .int (nI q)), (4, .int (gA S 59 (3 + k))), (6, .int ((stM S k p m n).2)), (7, .int (nI n))]) dX9_stow_89 (Nat.le_of_ble_eq_true rfl) rfl ?_
              refine g_iload (pc := 91) dX9_stow_91 1 rfl ?_
              refine g_iload (pc := 93) dX9_stow_93 7 rfl ?_
              refine g_icmp_ge (pc := 95) (tgt := 103) dX9_stow_95 (by decide) (fun c_95 => ?_) (fun c_95 => ?_)
              · have k_95 := Int32.not_lt.mpr c_95
                exact absurd c_95 c_79
              · have k_95 := Int32.not_le.mp c_95
                refine g_iload (pc := 98) dX9_stow_98 1 rfl ?_
                refine g_goto (pc := 100) (tgt := 105) dX9_stow_100 (by decide) ?_
                refine g_istore (pc := 105) (L' := [(6, .int (alM (stU S k n) p m)), (5, .int (nI n)), (8, .int (alM (stU S k n) p m)), (0, .ref (eA E 58)), (1, .int (nI k)), (2, .int (nI p)), (3, .int (nI q)), (4, .int (gA S 59 (3 + k))), (7, .int (nI n))]) dX9_stow_105 (Nat.le_of_ble_eq_true rfl) rfl ?_
                refine g_iinc (pc := 107) (L' := [(7, .int (nI n + 1)), (6, .int (alM (stU S k n) p m)), (5, .int (nI n)), (8, .int (alM (stU S k n) p m)), (0, .ref (eA E 58)), (1, .int (nI k)), (2, .int (nI p)), (3, .int (nI q)), (4, .int (gA S 59 (3 + k)))]) dX9_stow_107 (k := 8) rfl (v := nI n + 1) rfl (Nat.le_of_ble_eq_true rfl) rfl ?_
                refine g_goto (pc := 110) (tgt := 50) dX9_stow_110 (by decide) ?_
                refine g_sub (L' := [(0, .ref (eA E 58)), (1, .int (nI k)), (2, .int (nI p)), (3, .int (nI q)), (4, .int (gA S 59 (3 + k))), (5, .int (nI n)), (6, .int (alM (stU S k n) p m)), (7, .int (nI n + 1))]) [4, 5, 6, 7, 8, 2, 1, 0] rfl ?_
                exact g_eq rfl (by rw [nI_1, show stM S k p m (n + 1) = (nI n, alM (stU S k n) p m) from if_pos k_79]) rfl (ih_50 hlt_50)
        refine g_sub (L' := [(0, .ref (eA E 58)), (1, .int (nI k)), (2, .int (nI p)), (3, .int (nI q)), (4, .int (gA S 59 (3 + k))), (5, .int 0), (6, .int 1000000), (7, .int 0)]) [4, 5, 6, 7, 3, 2, 1, 0] rfl ?_
        exact g_eq rfl rfl rfl (H_50 0 (Nat.zero_le _))
      · exact absurd (hq.symm.trans c_25) (by decide)
set_option maxRecDepth 100000 in
set_option maxHeartbeats 4000000 in
theorem c_X9_dark_bad (E : En) (S : St) (x : Int32) (h : inF x.toInt64 1 10 = false) : CTe E i_X9_dark S [.ref (eA E 58), .int x] S (some (.int (-1))) := by
  refine ct_of [(0, .ref (eA E 58)), (1, .int x)] (by decide +kernel) (Nat.le_of_ble_eq_true rfl) rfl (fun X hM => ?_)
  refine g_iload_n (pc := 0) dX9_dark_0 1 rfl rfl ?_
  refine g_i2l (pc := 1) dX9_dark_1 ?_
  refine g_lconst (pc := 2) (v := 1) dX9_dark_2 (by decide) ?_
  refine g_ldc2 (pc := 3) kw_X9_184 dX9_dark_3 ?_
  refine g_invS (pc := 6) j_X9_in mw_X9_62 dX9_dark_6 (by rfl) (c_X9_in E S x.toInt64 1 10 ) (Nat.le_of_ble_eq_true rfl) (Nat.le_of_ble_eq_true rfl) (by rfl) (Nat.le_of_ble_eq_true rfl) ?_
  refine g_b_ne (pc := 9) (tgt := 14) dX9_dark_9 (by decide) (fun c_9 => ?_) (fun c_9 => ?_)
  · exact absurd (h.symm.trans c_9) (by decide)
  · refine g_iconst (pc := 12) (v := -1) dX9_dark_12 (by decide) ?_
    exact g_iret (pc := 13) hM rfl rfl ⟨rfl, rfl⟩ dX9_dark_13
set_option maxRecDepth 100000 in
set_option maxHeartbeats 4000000 in
theorem c_X9_dark_no (E : En) (S : St) (x : Int32) (hx : inF x.toInt64 1 10 = true) (h : gA S 59 0 = 0) : CTe E i_X9_dark S [.ref (eA E 58), .int x] S (some (.int (-4))) := by
  refine ct_of [(0, .ref (eA E 58)), (1, .int x)] (by decide +kernel) (Nat.le_of_ble_eq_true rfl) rfl (fun X hM => ?_)
  refine g_iload_n (pc := 0) dX9_dark_0 1 rfl rfl ?_
  refine g_i2l (pc := 1) dX9_dark_1 ?_
  refine g_lconst (pc := 2) (v := 1) dX9_dark_2 (by decide) ?_
  refine g_ldc2 (pc := 3) kw_X9_184 dX9_dark_3 ?_
  refine g_invS (pc := 6) j_X9_in mw_X9_62 dX9_dark_6 (by rfl) (c_X9_in E S x.toInt64 1 10 ) (Nat.le_of_ble_eq_true rfl) (Nat.le_of_ble_eq_true rfl) (by rfl) (Nat.le_of_ble_eq_true rfl) ?_
  refine g_b_ne (pc := 9) (tgt := 14) dX9_dark_9 (by decide) (fun c_9 => ?_) (fun c_9 => ?_)
  · refine g_aload_n (pc := 14) dX9_dark_14 0 rfl rfl ?_
    refine gf_X9_7 (pc := 15) rfl dX9_dark_15 ?_
    refine g_iconst (pc := 18) (v := 0) dX9_dark_18 (by decide) ?_
    refine g_iald (pc := 19) 0 rfl rfl (by decide) (by decide) dX9_dark_19 ?_
    refine g_if_ne (pc := 20) (tgt := 26) dX9_dark_20 (by decide) (fun c_20 => ?_) (fun c_20 => ?_)
    · exact absurd h c_20
    · refine g_bipush (pc := 23) (v := -4) dX9_dark_23 (by decide) ?_
      exact g_iret (pc := 25) hM rfl rfl ⟨rfl, rfl⟩ dX9_dark_25
  · exact absurd (hx.symm.trans c_9) (by decide)
set_option maxRecDepth 100000 in
set_option maxHeartbeats 4000000 in
theorem c_X9_dark_ok (E : En) (S : St) (m c : Nat) (hz : okM S)(hx : inF (nI m).toInt64 1 10 = true) (h : ¬ gA S 59 0 = 0) (hm1 : 1 ≤ m) (hc : c + m = 11) : CTe E i_X9_dark S [.ref (eA E 58), .int (nI m)] (sI S 58 7 (dkM S m c).2) (some (.int ((dkM S m c).1))) := by
  refine ct_of [(0, .ref (eA E 58)), (1, .int (nI m))] (by decide +kernel) (Nat.le_of_ble_eq_true rfl) rfl (fun X hM => ?_)
  refine g_iload_n (pc := 0) dX9_dark_0 1 rfl rfl ?_
  refine g_i2l (pc := 1) dX9_dark_1 ?_
  refine g_lconst (pc := 2) (v := 1) dX9_dark_2 (by decide) ?_
  refine g_ldc2 (pc := 3) kw_X9_184 dX9_dark_3 ?_
  refine g_invS (pc := 6) j_X9_in mw_X9_62 dX9_dark_6 (by rfl) (c_X9_in E S ((nI m).toInt64) 1 10 ) (Nat.le_of_ble_eq_true rfl) (Nat.le_of_ble_eq_true rfl) (by rfl) (Nat.le_of_ble_eq_true rfl) ?_
  refine g_b_ne (pc := 9) (tgt := 14) dX9_dark_9 (by decide) (fun c_9 => ?_) (fun c_9 => ?_)
  · refine g_aload_n (pc := 14) dX9_dark_14 0 rfl rfl ?_
    refine gf_X9_7 (pc := 15) rfl dX9_dark_15 ?_
    refine g_iconst (pc := 18) (v := 0) dX9_dark_18 (by decide) ?_
    refine g_iald (pc := 19) 0 rfl rfl (by decide) (by decide) dX9_dark_19 ?_
    refine g_if_ne (pc := 20) (tgt := 26) dX9_dark_20 (by decide) (fun c_20 => ?_) (fun c_20 => ?_)
    · refine g_iconst (pc := 26) (v := 0) dX9_dark_26 (by decide) ?_
      refine g_istore_n (pc := 27) (L' := [(2, .int 0), (0, .ref (eA E 58)), (1, .int (nI m))]) dX9_dark_27 rfl (Nat.le_of_ble_eq_true rfl) rfl ?_
      refine g_ldc (pc := 28) kw_X9_183 dX9_dark_28 ?_
      refine g_istore_n (pc := 30) (L' := [(3, .int 1000000), (2, .int 0), (0, .ref (eA E 58)), (1, .int (nI m))]) dX9_dark_30 rfl (Nat.le_of_ble_eq_true rfl) rfl ?_
      refine g_iconst (pc := 31) (v := 0) dX9_dark_31 (by decide) ?_
      refine g_istore (pc := 32) (L' := [(4, .int 0), (3, .int 1000000), (2, .int 0), (0, .ref (eA E 58)), (1, .int (nI m))]) dX9_dark_32 (Nat.le_of_ble_eq_true rfl) rfl ?_
      have H_34 : ∀ n : Nat, n ≤ c → G E X i_X9_dark S 34 [(0, .ref (eA E 58)), (1, .int (nI m)), (2, .int ((dkM S m n).1)), (3, .int ((dkM S m n).2)), (4, .int (nI n))] [] := by
        refine dn_ind c (fun n hn_34 ih_34 => ?_)
        refine g_iload (pc := 34) dX9_dark_34 4 rfl ?_
        refine g_iload_n (pc := 36) dX9_dark_36 1 rfl rfl ?_
        refine g_iadd (pc := 37) dX9_dark_37 ?_
        refine g_bipush (pc := 38) (v := 10) dX9_dark_38 (by decide) ?_
        refine g_icmp_gt (pc := 40) (tgt := 89) dX9_dark_40 (by decide) (fun c_40 => ?_) (fun c_40 => ?_)
        · have k_40 := Int32.not_le.mpr c_40
          have he_34 : n = c := Nat.le_antisymm hn_34 (by have := (nI_ltI (a := 10) (b := n + m) (by omega) (by omega)).mp (by rw [← nI_add]; exact c_40); omega)
          rw [he_34]
          refine g_aload_n (pc := 89) dX9_dark_89 0 rfl rfl ?_
          refine g_iload_n (pc := 90) dX9_dark_90 3 rfl rfl ?_
          refine pf_X9_57 (pc := 91) rfl dX9_dark_91 ?_
          refine g_iload_n (pc := 94) dX9_dark_94 2 rfl rfl ?_
          exact g_iret (pc := 95) hM rfl rfl ⟨rfl, rfl⟩ dX9_dark_95
        · have k_40 := Int32.not_lt.mp c_40
          have hlt_34 : n < c := by have := (nI_leI (a := n + m) (b := 10) (by omega) (by omega)).mp (by rw [← nI_add]; exact k_40); omega
          refine g_aload_n (pc := 43) dX9_dark_43 0 rfl rfl ?_
          refine g_iload (pc := 44) dX9_dark_44 4 rfl ?_
          refine g_iload (pc := 46) dX9_dark_46 4 rfl ?_
          refine g_iload_n (pc := 48) dX9_dark_48 1 rfl rfl ?_
          refine g_iadd (pc := 49) dX9_dark_49 ?_
          refine g_iconst (pc := 50) (v := 1) dX9_dark_50 (by decide) ?_
          refine g_isub (pc := 51) dX9_dark_51 ?_
          rw [show (nI n + nI m - 1 : Int32) = nI (n + m - 1) from nI_sE (nI_aE rfl rfl) rfl (by omega)]
          refine g_invV (pc := 52) j_X9_alongNow mw_X9_178 dX9_dark_52 (rcv_X9) (by rfl) (c_X9_alongNow E S n (n + m - 1) m (by first | assumption | omega | rfl) (by omega) (by first | assumption | omega | rfl)) (Nat.le_of_ble_eq_true rfl) (Nat.le_of_ble_eq_true rfl) (by rfl) (Nat.le_of_ble_eq_true rfl) ?_
          refine g_istore (pc := 55) (L' := [(5, .int (alM S n m)), (0, .ref (eA E 58)), (1, .int (nI m)), (2, .int ((dkM S m n).1)), (3, .int ((dkM S m n).2)), (4, .int (nI n))]) dX9_dark_55 (Nat.le_of_ble_eq_true rfl) rfl ?_
          refine g_iload (pc := 57) dX9_dark_57 0 rfl ?_
          refine g_iload_n (pc := 59) dX9_dark_59 4 rfl rfl ?_
          refine g_icmp_ge (pc := 60) (tgt := 68) dX9_dark_60 (by decide) (fun c_60 => ?_) (fun c_60 => ?_)
          · have k_60 := Int32.not_lt.mpr c_60
            refine g_iload_n (pc := 68) dX9_dark_68 3 rfl rfl ?_
            refine g_istore_n (pc := 69) (L' := [(2, .int ((dkM S m n).1)), (5, .int (alM S n m)), (0, .ref (eA E 58)), (1, .int (nI m)), (3, .int ((dkM S m n).2)), (4, .int (nI n))]) dX9_dark_69 rfl (Nat.le_of_ble_eq_true rfl) rfl ?_
            refine g_iload (pc := 70) dX9_dark_70 1 rfl ?_
            refine g_iload_n (pc := 72) dX9_dark_72 4 rfl rfl ?_
            refine g_icmp_ge (pc := 73) (tgt := 81) dX9_dark_73 (by decide) (fun c_73 => ?_) (fun c_73 => ?_)
            · have k_73 := Int32.not_lt.mpr c_73
              refine g_iload_n (pc := 81) dX9_dark_81 4 rfl rfl ?_
              refine g_istore_n (pc := 82) (L' := [(3, .int ((dkM S m n).2)), (2, .int ((dkM S m n).1)), (5, .int (alM S n m)), (0, .ref (eA E 58)), (1, .int (nI m)), (4, .int (nI n))]) dX9_dark_82 rfl (Nat.le_of_ble_eq_true rfl) rfl ?_
              refine g_iinc (pc := 83) (L' := [(4, .int (nI n + 1)), (3, .int ((dkM S m n).2)), (2, .int ((dkM S m n).1)), (5, .int (alM S n m)), (0, .ref (eA E 58)), (1, .int (nI m))]) dX9_dark_83 (k := 5) rfl (v := nI n + 1) rfl (Nat.le_of_ble_eq_true rfl) rfl ?_
              refine g_goto (pc := 86) (tgt := 34) dX9_dark_86 (by decide) ?_
              refine g_sub (L' := [(0, .ref (eA E 58)), (1, .int (nI m)), (2, .int ((dkM S m n).1)), (3, .int ((dkM S m n).2)), (4, .int (nI n + 1))]) [4, 5, 2, 1, 0] rfl ?_
              exact g_eq rfl (by rw [nI_1, show dkM S m (n + 1) = dkM S m n from if_neg k_60]) rfl (ih_34 hlt_34)
            · have k_73 := Int32.not_le.mp c_73
              exact absurd c_60 c_73
          · have k_60 := Int32.not_le.mp c_60
            refine g_iload (pc := 63) dX9_dark_63 5 rfl ?_
            refine g_goto (pc := 65) (tgt := 69) dX9_dark_65 (by decide) ?_
            refine g_istore_n (pc := 69) (L' := [(2, .int (nI n)), (5, .int (alM S n m)), (0, .ref (eA E 58)), (1, .int (nI m)), (3, .int ((dkM S m n).2)), (4, .int (nI n))]) dX9_dark_69 rfl (Nat.le_of_ble_eq_true rfl) rfl ?_
            refine g_iload (pc := 70) dX9_dark_70 1 rfl ?_
            refine g_iload_n (pc := 72) dX9_dark_72 4 rfl rfl ?_
            refine g_icmp_ge (pc := 73) (tgt := 81) dX9_dark_73 (by decide) (fun c_73 => ?_) (fun c_73 => ?_)
            · have k_73 := Int32.not_lt.mpr c_73
              exact absurd c_73 c_60
            · have k_73 := Int32.not_le.mp c_73
              refine g_iload (pc := 76) dX9_dark_76 1 rfl ?_
              refine g_goto (pc := 78) (tgt := 82) dX9_dark_78 (by decide) ?_
              refine g_istore_n (pc := 82) (L' := [(3, .int (alM S n m)), (2, .int (nI n)), (5, .int (alM S n m)), (0, .ref (eA E 58)), (1, .int (nI m)), (4, .int (nI n))]) dX9_dark_82 rfl (Nat.le_of_ble_eq_true rfl) rfl ?_
              refine g_iinc (pc := 83) (L' := [(4, .int (nI n + 1)), (3, .int (alM S n m)), (2, .int (nI n)), (5, .int (alM S n m)), (0, .ref (eA E 58)), (1, .int (nI m))]) dX9_dark_83 (k := 5) rfl (v := nI n + 1) rfl (Nat.le_of_ble_eq_true rfl) rfl ?_
              refine g_goto (pc := 86) (tgt := 34) dX9_dark_86 (by decide) ?_
              refine g_sub (L' := [(0, .ref (eA E 58)), (1, .int (nI m)), (2, .int (nI n)), (3, .int (alM S n m)), (4, .int (nI n + 1))]) [4, 5, 2, 1, 0] rfl ?_
              exact g_eq rfl (by rw [nI_1, show dkM S m (n + 1) = (nI n, alM S n m) from if_pos k_60]) rfl (ih_34 hlt_34)
      refine g_sub (L' := [(0, .ref (eA E 58)), (1, .int (nI m)), (2, .int 0), (3, .int 1000000), (4, .int 0)]) [3, 4, 2, 1, 0] rfl ?_
      exact g_eq rfl rfl rfl (H_34 0 (Nat.zero_le _))
    · exact absurd c_20 h
  · exact absurd (hx.symm.trans c_9) (by decide)
