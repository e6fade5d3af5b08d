/-! THE REFERENCE: glows, doings, keeping -/
theorem dew_le {f n : Int32} (h : f + n ≤ 20) : f + n = dewF f n := by
  unfold dewF
  split
  · rfl
  · rename_i q
    exact Int32.le_antisymm h (Int32.not_lt.mp q)
theorem dew_gt {f n : Int32} (h : ¬ f + n ≤ 20) : (20 : Int32) = dewF f n := by
  unfold dewF
  rw [if_neg (fun q => h (Int32.le_of_lt q))]
theorem glow5_a {f n : Int32} (h : 5 ≤ forF f n) : forF f n = glowF 5 f n := by
  have e : glowF 5 f n = if 5 < forF f n then forF f n else 5 := by simp [glowF]
  rw [e]
  split
  · rfl
  · rename_i q
    exact Int32.le_antisymm (Int32.not_lt.mp q) h
theorem glow5_b {f n : Int32} (h : ¬ 5 ≤ forF f n) : (5 : Int32) = glowF 5 f n := by
  have e : glowF 5 f n = if 5 < forF f n then forF f n else 5 := by simp [glowF]
  rw [e, if_neg (fun q => h (Int32.le_of_lt q))]
def glQ (S : St) (k : Nat) (night : Int32) : Int32 := glowF (gA S 59 (11 + k)) (gA S 59 (35 + k)) night
def ltM (S : St) (k : Nat) (what : Int32) : Int32 := if what = 0 then gA S 59 (11 + k) else if what = 1 then gA S 59 (19 + k) else if what = 2 then gA S 59 (27 + k) else if what = 3 then gA S 59 (3 + k) else if what = 4 then gA S 59 (35 + k) else if what = 5 then (gA S 59 2 >>> (nI k &&& 31)) &&& 1 else glQ S k (gA S 59 1)
theorem ltM_out {S : St} {k : Nat} {what : Int32} (h : what.toInt < 0 ∨ 5 < what.toInt) : ltM S k what = glQ S k (gA S 59 1) := by
  have h0 : ¬ what = 0 := by rintro rfl; revert h; decide
  have h1 : ¬ what = 1 := by rintro rfl; revert h; decide
  have h2 : ¬ what = 2 := by rintro rfl; revert h; decide
  have h3 : ¬ what = 3 := by rintro rfl; revert h; decide
  have h4 : ¬ what = 4 := by rintro rfl; revert h; decide
  have h5 : ¬ what = 5 := by rintro rfl; revert h; decide
  simp [ltM, h0, h1, h2, h3, h4, h5]
def isAM (kind what : Int32) : Bool := decide (kind = what) || (decide (what = 2) && decide (kind = 4)) || (decide (what = 3) && decide (kind = 5))
def mkM (S : St) (k : Nat) (what : Int32) : Int32 := if what = 1 then gA S 59 (35 + k) - glQ S k (gA S 59 1) else if what = 2 then 100 + glQ S k (gA S 59 1) - gA S 59 (35 + k) else if what = 3 then 100 + gA S 59 (35 + k) - glQ S k (gA S 59 1) else if what = 4 then dewF (gA S 59 (35 + k)) (gA S 59 1) - glQ S k (gA S 59 1) else glQ S k (gA S 59 1) - forF (gA S 59 (35 + k)) (gA S 59 1)
theorem mkM_out {S : St} {k : Nat} {what : Int32} (h : what.toInt < 1 ∨ 4 < what.toInt) : mkM S k what = glQ S k (gA S 59 1) - forF (gA S 59 (35 + k)) (gA S 59 1) := by
  have h1 : ¬ what = 1 := by rintro rfl; revert h; decide
  have h2 : ¬ what = 2 := by rintro rfl; revert h; decide
  have h3 : ¬ what = 3 := by rintro rfl; revert h; decide
  have h4 : ¬ what = 4 := by rintro rfl; revert h; decide
  simp [mkM, h1, h2, h3, h4]
/-- the keeping of what was: at b, n places done -/
def mdR (W : Nat → Int32) (b : Nat) : Nat → (Nat → Int32)
  | 0 => upd (upd W b (W 1)) (b + 1) (upd W b (W 1) 2)
  | n + 1 => upd (mdR W b n) ((b + 2) + n) (mdR W b n (3 + n))
def mdF (W : Nat → Int32) (d : Nat) : Nat → Int32 := upd (mdR W (44 + 10 * d) 8) 43 (mdR W (44 + 10 * d) 8 43 + 1)
def ntW (W : Nat → Int32) (d : Nat) : Nat → Int32 := upd (mdF W d) 1 (mdF W d 1 + 1)
def lgW (W : Nat → Int32) (d k : Nat) : Nat → Int32 := upd (mdF W d) 2 (mdF W d 2 ^^^ ((1 : Int32) <<< (nI k &&& 31)))
def cyW (W : Nat → Int32) (d k : Nat) (p : Int32) : Nat → Int32 := upd (mdF W d) (3 + k) p
theorem mdR_lo {W : Nat → Int32} {b i : Nat} (hb : 44 ≤ b) (hi : i < 44) : ∀ n, mdR W b n i = W i
  | 0 => by rw [mdR, pk_un (by omega), pk_un (by omega)]
  | n + 1 => by rw [mdR, pk_un (by omega)]; exact mdR_lo hb hi n
theorem mdF_lo {W : Nat → Int32} {d i : Nat} (hi : i < 43) : mdF W d i = W i := by rw [mdF, pk_un (by omega), mdR_lo (by omega) (by omega)]
theorem okM_sA {S : St} {W : Nat → Int32} (hz : okM S) (h : W 0 = gA S 59 0) : okM (sA S 59 W) ∧ nM (sA S 59 W) = nM S := by
  have e : nM (sA S 59 W) = nM S := by unfold nM; rw [gA_same, h]
  refine ⟨⟨?_, ?_⟩, e⟩
  · rw [e, gA_same, h]; exact hz.1
  · rw [e]; exact hz.2
def gaR (S : St) : Nat → Int32 | 0 => 0 | n + 1 => gaR S n + (if hsF (gA S 59 2) (nI n) = true then glQ S n (gA S 59 1) else 0)
def udR (W : Nat → Int32) (b : Nat) : Nat → (Nat → Int32)
  | 0 => upd (upd W 1 (W b)) 2 (upd W 1 (W b) (b + 1))
  | n + 1 => upd (udR W b n) (3 + n) (udR W b n ((b + 2) + n))
def udF (W : Nat → Int32) (u : Nat) : Nat → Int32 := upd (udR W (44 + 10 * u) 8) 43 (nI u)
theorem in_le {x : Int32} {d : Nat} (hd : d < 2 ^ 30) : inF x.toInt64 0 (nI d).toInt64 = idxF (d + 1) x := in_gen (by omega) (by rw [Int32.toInt_toInt64, nI_toInt (by omega)]; omega)

set_option maxRecDepth 100000 in
set_option maxHeartbeats 4000000 in
theorem c_X9_dew (E : En) (S : St) (f n : Int32) : CTe E i_X9_dew S [.int f, .int n] S (some (.int (dewF f n))) := by
  refine ct_of [(0, .int f), (1, .int n)] (by decide +kernel) (Nat.le_of_ble_eq_true rfl) rfl (fun X hM => ?_)
  refine g_iload_n (pc := 0) dX9_dew_0 0 rfl rfl ?_
  refine g_iload_n (pc := 1) dX9_dew_1 1 rfl rfl ?_
  refine g_iadd (pc := 2) dX9_dew_2 ?_
  refine g_bipush (pc := 3) (v := 20) dX9_dew_3 (by decide) ?_
  refine g_icmp_le (pc := 5) (tgt := 13) dX9_dew_5 (by decide) (fun c_5 => ?_) (fun c_5 => ?_)
  · have k_5 := Int32.not_lt.mpr c_5
    refine g_iload_n (pc := 13) dX9_dew_13 0 rfl rfl ?_
    refine g_iload_n (pc := 14) dX9_dew_14 1 rfl rfl ?_
    refine g_iadd (pc := 15) dX9_dew_15 ?_
    exact g_iret (pc := 16) hM rfl rfl ⟨rfl, some_int (dew_le c_5)⟩ dX9_dew_16
  · have k_5 := Int32.not_le.mp c_5
    refine g_bipush (pc := 8) (v := 20) dX9_dew_8 (by decide) ?_
    refine g_goto (pc := 10) (tgt := 16) dX9_dew_10 (by decide) ?_
    exact g_iret (pc := 16) hM rfl rfl ⟨rfl, some_int (dew_gt c_5)⟩ dX9_dew_16
set_option maxRecDepth 100000 in
set_option maxHeartbeats 4000000 in
theorem c_X9_forged (E : En) (S : St) (f n : Int32) : CTe E i_X9_forged S [.int f, .int n] S (some (.int (forF f n))) := by
  refine ct_of [(0, .int f), (1, .int n)] (by decide +kernel) (Nat.le_of_ble_eq_true rfl) rfl (fun X hM => ?_)
  refine g_bipush (pc := 0) (v := 9) dX9_forged_0 (by decide) ?_
  refine g_iload_n (pc := 2) dX9_forged_2 0 rfl rfl ?_
  refine g_isub (pc := 3) dX9_forged_3 ?_
  refine g_iload_n (pc := 4) dX9_forged_4 1 rfl rfl ?_
  refine g_iconst (pc := 5) (v := 2) dX9_forged_5 (by decide) ?_
  refine g_irem (pc := 6) dX9_forged_6 (by decide) ?_
  refine g_iadd (pc := 7) dX9_forged_7 ?_
  exact g_iret (pc := 8) hM rfl rfl ⟨rfl, rfl⟩ dX9_forged_8
set_option maxRecDepth 100000 in
set_option maxHeartbeats 4000000 in
theorem c_X9_glowBy (E : En) (S : St) (kind first night : Int32) : CTe E i_X9_glowBy S [.int kind, .int first, .int night] S (some (.int (glowF kind first night))) := by
  refine ct_of [(0, .int kind), (1, .int first), (2, .int night)] (by decide +kernel) (Nat.le_of_ble_eq_true rfl) rfl (fun X hM => ?_)
  refine g_iload_n (pc := 0) dX9_glowBy_0 0 rfl rfl ?_
  rcases tsw1_5 kind with c_1 | c_1 | c_1 | c_1 | c_1 | c_1
  · refine g_tsIn (pc := 1) (tgt := 36) dX9_glowBy_1 (by rw [c_1]; decide) (by rw [c_1]; decide) (by rw [c_1]; rfl) (by decide) ?_
    refine g_iload_n (pc := 36) dX9_glowBy_36 1 rfl rfl ?_
    refine g_iconst (pc := 37) (v := 1) dX9_glowBy_37 (by decide) ?_
    refine g_iadd (pc := 38) dX9_glowBy_38 ?_
    refine g_iconst (pc := 39) (v := 2) dX9_glowBy_39 (by decide) ?_
    refine g_idiv (pc := 40) dX9_glowBy_40 (by decide) ?_
    exact g_iret (pc := 41) hM rfl rfl ⟨rfl, some_int (by rw [c_1]; simp [glowF, c_1])⟩ dX9_glowBy_41
  · refine g_tsIn (pc := 1) (tgt := 42) dX9_glowBy_1 (by rw [c_1]; decide) (by rw [c_1]; decide) (by rw [c_1]; rfl) (by decide) ?_
    refine g_iload_n (pc := 42) dX9_glowBy_42 1 rfl rfl ?_
    refine g_iload_n (pc := 43) dX9_glowBy_43 2 rfl rfl ?_
    refine g_invS (pc := 44) j_X9_dew mw_X9_116 dX9_glowBy_44 (by rfl) (c_X9_dew E S first night ) (Nat.le_of_ble_eq_true rfl) (Nat.le_of_ble_eq_true rfl) (by rfl) (Nat.le_of_ble_eq_true rfl) ?_
    exact g_iret (pc := 47) hM rfl rfl ⟨rfl, some_int (by rw [c_1]; simp [glowF, c_1])⟩ dX9_glowBy_47
  · refine g_tsIn (pc := 1) (tgt := 48) dX9_glowBy_1 (by rw [c_1]; decide) (by rw [c_1]; decide) (by rw [c_1]; rfl) (by decide) ?_
    refine g_iload_n (pc := 48) dX9_glowBy_48 1 rfl rfl ?_
    refine g_iload_n (pc := 49) dX9_glowBy_49 2 rfl rfl ?_
    refine g_invS (pc := 50) j_X9_forged mw_X9_120 dX9_glowBy_50 (by rfl) (c_X9_forged E S first night ) (Nat.le_of_ble_eq_true rfl) (Nat.le_of_ble_eq_true rfl) (by rfl) (Nat.le_of_ble_eq_true rfl) ?_
    exact g_iret (pc := 53) hM rfl rfl ⟨rfl, some_int (by rw [c_1]; simp [glowF, c_1])⟩ dX9_glowBy_53
  · refine g_tsIn (pc := 1) (tgt := 54) dX9_glowBy_1 (by rw [c_1]; decide) (by rw [c_1]; decide) (by rw [c_1]; rfl) (by decide) ?_
    refine g_iload_n (pc := 54) dX9_glowBy_54 2 rfl rfl ?_
    refine g_iconst (pc := 55) (v := 5) dX9_glowBy_55 (by decide) ?_
    refine g_icmp_lt (pc := 56) (tgt := 69) dX9_glowBy_56 (by decide) (fun c_56 => ?_) (fun c_56 => ?_)
    · have k_56 := Int32.not_le.mpr c_56
      refine g_iload_n (pc := 69) dX9_glowBy_69 1 rfl rfl ?_
      refine g_iload_n (pc := 70) dX9_glowBy_70 2 rfl rfl ?_
      refine g_invS (pc := 71) j_X9_dew mw_X9_116 dX9_glowBy_71 (by rfl) (c_X9_dew E S first night ) (Nat.le_of_ble_eq_true rfl) (Nat.le_of_ble_eq_true rfl) (by rfl) (Nat.le_of_ble_eq_true rfl) ?_
      exact g_iret (pc := 74) hM rfl rfl ⟨rfl, some_int (by rw [c_1]; simp [glowF, c_1, c_56, k_56])⟩ dX9_glowBy_74
    · have k_56 := Int32.not_lt.mp c_56
      refine g_iload_n (pc := 59) dX9_glowBy_59 1 rfl rfl ?_
      refine g_iload_n (pc := 60) dX9_glowBy_60 2 rfl rfl ?_
      refine g_invS (pc := 61) j_X9_dew mw_X9_116 dX9_glowBy_61 (by rfl) (c_X9_dew E S first night ) (Nat.le_of_ble_eq_true rfl) (Nat.le_of_ble_eq_true rfl) (by rfl) (Nat.le_of_ble_eq_true rfl) ?_
      refine g_iconst (pc := 64) (v := 2) dX9_glowBy_64 (by decide) ?_
      refine g_idiv (pc := 65) dX9_glowBy_65 (by decide) ?_
      refine g_goto (pc := 66) (tgt := 74) dX9_glowBy_66 (by decide) ?_
      exact g_iret (pc := 74) hM rfl rfl ⟨rfl, some_int (by rw [c_1]; simp [glowF, c_1, c_56, k_56])⟩ dX9_glowBy_74
  · refine g_tsIn (pc := 1) (tgt := 75) dX9_glowBy_1 (by rw [c_1]; decide) (by rw [c_1]; decide) (by rw [c_1]; rfl) (by decide) ?_
    refine g_iload_n (pc := 75) dX9_glowBy_75 1 rfl rfl ?_
    refine g_iload_n (pc := 76) dX9_glowBy_76 2 rfl rfl ?_
    refine g_invS (pc := 77) j_X9_forged mw_X9_120 dX9_glowBy_77 (by rfl) (c_X9_forged E S first night ) (Nat.le_of_ble_eq_true rfl) (Nat.le_of_ble_eq_true rfl) (by rfl) (Nat.le_of_ble_eq_true rfl) ?_
    refine g_iconst (pc := 80) (v := 5) dX9_glowBy_80 (by decide) ?_
    refine g_icmp_ge (pc := 81) (tgt := 88) dX9_glowBy_81 (by decide) (fun c_81 => ?_) (fun c_81 => ?_)
    · have k_81 := Int32.not_lt.mpr c_81
      refine g_iload_n (pc := 88) dX9_glowBy_88 1 rfl rfl ?_
      refine g_iload_n (pc := 89) dX9_glowBy_89 2 rfl rfl ?_
      refine g_invS (pc := 90) j_X9_forged mw_X9_120 dX9_glowBy_90 (by rfl) (c_X9_forged E S first night ) (Nat.le_of_ble_eq_true rfl) (Nat.le_of_ble_eq_true rfl) (by rfl) (Nat.le_of_ble_eq_true rfl) ?_
      exact g_iret (pc := 93) hM rfl rfl ⟨rfl, some_int (by rw [c_1]; exact glow5_a c_81)⟩ dX9_glowBy_93
    · have k_81 := Int32.not_le.mp c_81
      refine g_iconst (pc := 84) (v := 5) dX9_glowBy_84 (by decide) ?_
      refine g_goto (pc := 85) (tgt := 93) dX9_glowBy_85 (by decide) ?_
      exact g_iret (pc := 93) hM rfl rfl ⟨rfl, some_int (by rw [c_1]; exact glow5_b c_81)⟩ dX9_glowBy_93
  · refine g_tsOut (pc := 1) (tgt := 94) dX9_glowBy_1 c_1 (by decide) ?_
    refine g_iload_n (pc := 94) dX9_glowBy_94 1 rfl rfl ?_
    exact g_iret (pc := 95) hM rfl rfl ⟨rfl, some_int (glowF_out c_1).symm⟩ dX9_glowBy_95
set_option maxRecDepth 100000 in
set_option maxHeartbeats 4000000 in
theorem c_X9_glowOf (E : En) (S : St) (k : Nat) (night : Int32) (hk : k < 8) : CTe E i_X9_glowOf S [.ref (eA E 58), .int (nI k), .int night] S (some (.int (glQ S k night))) := by
  refine ct_of [(0, .ref (eA E 58)), (1, .int (nI k)), (2, .int night)] (by decide +kernel) (Nat.le_of_ble_eq_true rfl) rfl (fun X hM => ?_)
  refine g_aload_n (pc := 0) dX9_glowOf_0 0 rfl rfl ?_
  refine gf_X9_7 (pc := 1) rfl dX9_glowOf_1 ?_
  refine g_bipush (pc := 4) (v := 11) dX9_glowOf_4 (by decide) ?_
  refine g_iload_n (pc := 6) dX9_glowOf_6 1 rfl rfl ?_
  refine g_iadd (pc := 7) dX9_glowOf_7 ?_
  refine g_iald (pc := 8) (11 + k) (nI_aE rfl rfl) rfl (show 11 + k < 1776 by omega) (by decide) dX9_glowOf_8 ?_
  refine g_aload_n (pc := 9) dX9_glowOf_9 0 rfl rfl ?_
  refine gf_X9_7 (pc := 10) rfl dX9_glowOf_10 ?_
  refine g_bipush (pc := 13) (v := 35) dX9_glowOf_13 (by decide) ?_
  refine g_iload_n (pc := 15) dX9_glowOf_15 1 rfl rfl ?_
  refine g_iadd (pc := 16) dX9_glowOf_16 ?_
  refine g_iald (pc := 17) (35 + k) (nI_aE rfl rfl) rfl (show 35 + k < 1776 by omega) (by decide) dX9_glowOf_17 ?_
  refine g_iload_n (pc := 18) dX9_glowOf_18 2 rfl rfl ?_
  refine g_invS (pc := 19) j_X9_glowBy mw_X9_123 dX9_glowOf_19 (by rfl) (c_X9_glowBy E S (gA S 59 (11 + k)) (gA S 59 (35 + k)) night ) (Nat.le_of_ble_eq_true rfl) (Nat.le_of_ble_eq_true rfl) (by rfl) (Nat.le_of_ble_eq_true rfl) ?_
  exact g_iret (pc := 22) hM rfl rfl ⟨rfl, rfl⟩ dX9_glowOf_22
set_option maxRecDepth 100000 in
set_option maxHeartbeats 4000000 in
theorem c_X9_lightOf (E : En) (S : St) (k : Nat) (what : Int32) (hk : k < 8) : CTe E i_X9_lightOf S [.ref (eA E 58), .int (nI k), .int what] S (some (.int (ltM S k what))) := by
  refine ct_of [(0, .ref (eA E 58)), (1, .int (nI k)), (2, .int what)] (by decide +kernel) (Nat.le_of_ble_eq_true rfl) rfl (fun X hM => ?_)
  refine g_iload_n (pc := 0) dX9_lightOf_0 2 rfl rfl ?_
  rcases tsw0_5 what with c_1 | c_1 | c_1 | c_1 | c_1 | c_1 | c_1
  · refine g_tsIn (pc := 1) (tgt := 40) dX9_lightOf_1 (by rw [c_1]; decide) (by rw [c_1]; decide) (by rw [c_1]; rfl) (by decide) ?_
    refine g_aload_n (pc := 40) dX9_lightOf_40 0 rfl rfl ?_
    refine gf_X9_7 (pc := 41) rfl dX9_lightOf_41 ?_
    refine g_bipush (pc := 44) (v := 11) dX9_lightOf_44 (by decide) ?_
    refine g_iload_n (pc := 46) dX9_lightOf_46 1 rfl rfl ?_
    refine g_iadd (pc := 47) dX9_lightOf_47 ?_
    refine g_iald (pc := 48) (11 + k) (nI_aE rfl rfl) rfl (show 11 + k < 1776 by omega) (by decide) dX9_lightOf_48 ?_
    exact g_iret (pc := 49) hM rfl rfl ⟨rfl, some_int (by rw [c_1]; rfl)⟩ dX9_lightOf_49
  · refine g_tsIn (pc := 1) (tgt := 50) dX9_lightOf_1 (by rw [c_1]; decide) (by rw [c_1]; decide) (by rw [c_1]; rfl) (by decide) ?_
    refine g_aload_n (pc := 50) dX9_lightOf_50 0 rfl rfl ?_
    refine gf_X9_7 (pc := 51) rfl dX9_lightOf_51 ?_
    refine g_bipush (pc := 54) (v := 19) dX9_lightOf_54 (by decide) ?_
    refine g_iload_n (pc := 56) dX9_lightOf_56 1 rfl rfl ?_
    refine g_iadd (pc := 57) dX9_lightOf_57 ?_
    refine g_iald (pc := 58) (19 + k) (nI_aE rfl rfl) rfl (show 19 + k < 1776 by omega) (by decide) dX9_lightOf_58 ?_
    exact g_iret (pc := 59) hM rfl rfl ⟨rfl, some_int (by rw [c_1]; rfl)⟩ dX9_lightOf_59
  · refine g_tsIn (pc := 1) (tgt := 60) dX9_lightOf_1 (by rw [c_1]; decide) (by rw [c_1]; decide) (by rw [c_1]; rfl) (by decide) ?_
    refine g_aload_n (pc := 60) dX9_lightOf_60 0 rfl rfl ?_
    refine gf_X9_7 (pc := 61) rfl dX9_lightOf_61 ?_
    refine g_bipush (pc := 64) (v := 27) dX9_lightOf_64 (by decide) ?_
    refine g_iload_n (pc := 66) dX9_lightOf_66 1 rfl rfl ?_
    refine g_iadd (pc := 67) dX9_lightOf_67 ?_
    refine g_iald (pc := 68) (27 + k) (nI_aE rfl rfl) rfl (show 27 + k < 1776 by omega) (by decide) dX9_lightOf_68 ?_
    exact g_iret (pc := 69) hM rfl rfl ⟨rfl, some_int (by rw [c_1]; rfl)⟩ dX9_lightOf_69
  · refine g_tsIn (pc := 1) (tgt := 70) dX9_lightOf_1 (by rw [c_1]; decide) (by rw [c_1]; decide) (by rw [c_1]; rfl) (by decide) ?_
    refine g_aload_n (pc := 70) dX9_lightOf_70 0 rfl rfl ?_
    refine gf_X9_7 (pc := 71) rfl dX9_lightOf_71 ?_
    refine g_iconst (pc := 74) (v := 3) dX9_lightOf_74 (by decide) ?_
    refine g_iload_n (pc := 75) dX9_lightOf_75 1 rfl rfl ?_
    refine g_iadd (pc := 76) dX9_lightOf_76 ?_
    refine g_iald (pc := 77) (3 + k) (nI_aE rfl rfl) rfl (show 3 + k < 1776 by omega) (by decide) dX9_lightOf_77 ?_
    exact g_iret (pc := 78) hM rfl rfl ⟨rfl, some_int (by rw [c_1]; rfl)⟩ dX9_lightOf_78
  · refine g_tsIn (pc := 1) (tgt := 79) dX9_lightOf_1 (by rw [c_1]; decide) (by rw [c_1]; decide) (by rw [c_1]; rfl) (by decide) ?_
    refine g_aload_n (pc := 79) dX9_lightOf_79 0 rfl rfl ?_
    refine gf_X9_7 (pc := 80) rfl dX9_lightOf_80 ?_
    refine g_bipush (pc := 83) (v := 35) dX9_lightOf_83 (by decide) ?_
    refine g_iload_n (pc := 85) dX9_lightOf_85 1 rfl rfl ?_
    refine g_iadd (pc := 86) dX9_lightOf_86 ?_
    refine g_iald (pc := 87) (35 + k) (nI_aE rfl rfl) rfl (show 35 + k < 1776 by omega) (by decide) dX9_lightOf_87 ?_
    exact g_iret (pc := 88) hM rfl rfl ⟨rfl, some_int (by rw [c_1]; rfl)⟩ dX9_lightOf_88
  · refine g_tsIn (pc := 1) (tgt := 89) dX9_lightOf_1 (by rw [c_1]; decide) (by rw [c_1]; decide) (by rw [c_1]; rfl) (by decide) ?_
    refine g_aload_n (pc := 89) dX9_lightOf_89 0 rfl rfl ?_
    refine gf_X9_7 (pc := 90) rfl dX9_lightOf_90 ?_
    refine g_iconst (pc := 93) (v := 2) dX9_lightOf_93 (by decide) ?_
    refine g_iald (pc := 94) 2 rfl rfl (by decide) (by decide) dX9_lightOf_94 ?_
    refine g_iload_n (pc := 95) dX9_lightOf_95 1 rfl rfl ?_
    refine g_ishr (pc := 96) dX9_lightOf_96 ?_
    refine g_iconst (pc := 97) (v := 1) dX9_lightOf_97 (by decide) ?_
    refine g_iand (pc := 98) dX9_lightOf_98 ?_
    exact g_iret (pc := 99) hM rfl rfl ⟨rfl, some_int (by rw [c_1]; rfl)⟩ dX9_lightOf_99
  · refine g_tsOut (pc := 1) (tgt := 100) dX9_lightOf_1 c_1 (by decide) ?_
    refine g_aload_n (pc := 100) dX9_lightOf_100 0 rfl rfl ?_
    refine g_iload_n (pc := 101) dX9_lightOf_101 1 rfl rfl ?_
    refine g_aload_n (pc := 102) dX9_lightOf_102 0 rfl rfl ?_
    refine gf_X9_7 (pc := 103) rfl dX9_lightOf_103 ?_
    refine g_iconst (pc := 106) (v := 1) dX9_lightOf_106 (by decide) ?_
    refine g_iald (pc := 107) 1 rfl rfl (by decide) (by decide) dX9_lightOf_107 ?_
    refine g_invV (pc := 108) j_X9_glowOf mw_X9_135 dX9_lightOf_108 (rcv_X9) (by rfl) (c_X9_glowOf E S k (gA S 59 1) (by first | assumption | omega | rfl)) (Nat.le_of_ble_eq_true rfl) (Nat.le_of_ble_eq_true rfl) (by rfl) (Nat.le_of_ble_eq_true rfl) ?_
    exact g_iret (pc := 111) hM rfl rfl ⟨rfl, some_int (ltM_out c_1).symm⟩ dX9_lightOf_111
set_option maxRecDepth 100000 in
set_option maxHeartbeats 4000000 in
theorem c_X9_light_bad (E : En) (S : St) (k what : Int32) (hz : okM S) (h : ¬ (idxF (nM S) k = true ∧ inF what.toInt64 0 6 = true)) : CTe E i_X9_light S [.ref (eA E 58), .int k, .int what] S (some (.int (-1))) := by
  refine ct_of [(0, .ref (eA E 58)), (1, .int k), (2, .int what)] (by decide +kernel) (Nat.le_of_ble_eq_true rfl) rfl (fun X hM => ?_)
  refine g_aload_n (pc := 0) dX9_light_0 0 rfl rfl ?_
  refine g_iload_n (pc := 1) dX9_light_1 1 rfl rfl ?_
  refine g_invV (pc := 2) j_X9_isLight mw_X9_127 dX9_light_2 (rcv_X9) (by rfl) (c_X9_isLight E S k (by first | assumption | omega | rfl)) (Nat.le_of_ble_eq_true rfl) (Nat.le_of_ble_eq_true rfl) (by rfl) (Nat.le_of_ble_eq_true rfl) ?_
  refine g_b_eq (pc := 5) (tgt := 20) dX9_light_5 (by decide) (fun c_5 => ?_) (fun c_5 => ?_)
  · refine g_iconst (pc := 20) (v := -1) dX9_light_20 (by decide) ?_
    exact g_iret (pc := 21) hM rfl rfl ⟨rfl, rfl⟩ dX9_light_21
  · refine g_iload_n (pc := 8) dX9_light_8 2 rfl rfl ?_
    refine g_i2l (pc := 9) dX9_light_9 ?_
    refine g_lconst (pc := 10) (v := 0) dX9_light_10 (by decide) ?_
    refine g_ldc2 (pc := 11) kw_X9_130 dX9_light_11 ?_
    refine g_invS (pc := 14) j_X9_in mw_X9_62 dX9_light_14 (by rfl) (c_X9_in E S what.toInt64 0 6 ) (Nat.le_of_ble_eq_true rfl) (Nat.le_of_ble_eq_true rfl) (by rfl) (Nat.le_of_ble_eq_true rfl) ?_
    refine g_b_ne (pc := 17) (tgt := 22) dX9_light_17 (by decide) (fun c_17 => ?_) (fun c_17 => ?_)
    · exact absurd ⟨c_5, c_17⟩ h
    · refine g_iconst (pc := 20) (v := -1) dX9_light_20 (by decide) ?_
      exact g_iret (pc := 21) hM rfl rfl ⟨rfl, rfl⟩ dX9_light_21
set_option maxRecDepth 100000 in
set_option maxHeartbeats 4000000 in
theorem c_X9_light_ok (E : En) (S : St) (k : Nat) (what : Int32) (hz : okM S)(hk : k < nM S) (hw : inF what.toInt64 0 6 = true) : CTe E i_X9_light S [.ref (eA E 58), .int (nI k), .int what] (sI S 58 7 (ltM S k what)) (some (.int 1)) := by
  have hz8 := hz.2
  have hx := idx_in hk (show nM S < 2 ^ 31 by omega)
  refine ct_of [(0, .ref (eA E 58)), (1, .int (nI k)), (2, .int what)] (by decide +kernel) (Nat.le_of_ble_eq_true rfl) rfl (fun X hM => ?_)
  refine g_aload_n (pc := 0) dX9_light_0 0 rfl rfl ?_
  refine g_iload_n (pc := 1) dX9_light_1 1 rfl rfl ?_
  refine g_invV (pc := 2) j_X9_isLight mw_X9_127 dX9_light_2 (rcv_X9) (by rfl) (c_X9_isLight E S (nI k) (by first | assumption | omega | rfl)) (Nat.le_of_ble_eq_true rfl) (Nat.le_of_ble_eq_true rfl) (by rfl) (Nat.le_of_ble_eq_true rfl) ?_
  refine g_b_eq (pc := 5) (tgt := 20) dX9_light_5 (by decide) (fun c_5 => ?_) (fun c_5 => ?_)
  · exact absurd (hx.symm.trans c_5) (by decide)
  · refine g_iload_n (pc := 8) dX9_light_8 2 rfl rfl ?_
    refine g_i2l (pc := 9) dX9_light_9 ?_
    refine g_lconst (pc := 10) (v := 0) dX9_light_10 (by decide) ?_
    refine g_ldc2 (pc := 11) kw_X9_130 dX9_light_11 ?_
    refine g_invS (pc := 14) j_X9_in mw_X9_62 dX9_light_14 (by rfl) (c_X9_in E S what.toInt64 0 6 ) (Nat.le_of_ble_eq_true rfl) (Nat.le_of_ble_eq_true rfl) (by rfl) (Nat.le_of_ble_eq_true rfl) ?_
    refine g_b_ne (pc := 17) (tgt := 22) dX9_light_17 (by decide) (fun c_17 => ?_) (fun c_17 => ?_)
    · refine g_aload_n (pc := 22) dX9_light_22 0 rfl rfl ?_
      refine g_aload_n (pc := 23) dX9_light_23 0 rfl rfl ?_
      refine g_iload_n (pc := 24) dX9_light_24 1 rfl rfl ?_
      refine g_iload_n (pc := 25) dX9_light_25 2 rfl rfl ?_
      refine g_invV (pc := 26) j_X9_lightOf mw_X9_132 dX9_light_26 (rcv_X9) (by rfl) (c_X9_lightOf E S k what (by first | assumption | omega | rfl)) (Nat.le_of_ble_eq_true rfl) (Nat.le_of_ble_eq_true rfl) (by rfl) (Nat.le_of_ble_eq_true rfl) ?_
      refine g_invV (pc := 29) j_X9_tells mw_X9_77 dX9_light_29 (rcv_X9) (by rfl) (c_X9_tells E S (ltM S k what) ) (Nat.le_of_ble_eq_true rfl) (Nat.le_of_ble_eq_true rfl) (by rfl) (Nat.le_of_ble_eq_true rfl) ?_
      exact g_iret (pc := 32) hM rfl rfl ⟨rfl, rfl⟩ dX9_light_32
    · exact absurd (hw.symm.trans c_17) (by decide)
set_option maxRecDepth 100000 in
set_option maxHeartbeats 4000000 in
theorem c_X9_isA (E : En) (S : St) (kind what : Int32) : CTe E i_X9_isA S [.int kind, .int what] S (some (.int (bI (isAM kind what)))) := by
  refine ct_of [(0, .int kind), (1, .int what)] (by decide +kernel) (Nat.le_of_ble_eq_true rfl) rfl (fun X hM => ?_)
  refine g_iload_n (pc := 0) dX9_isA_0 0 rfl rfl ?_
  refine g_iload_n (pc := 1) dX9_isA_1 1 rfl rfl ?_
  refine g_icmp_eq (pc := 2) (tgt := 25) dX9_isA_2 (by decide) (fun c_2 => ?_) (fun c_2 => ?_)
  · refine g_iconst (pc := 25) (v := 1) dX9_isA_25 (by decide) ?_
    refine g_goto (pc := 26) (tgt := 30) dX9_isA_26 (by decide) ?_
    exact g_iret (pc := 30) hM rfl rfl ⟨rfl, some_int (by simp [isAM, bI, eq_true c_2])⟩ dX9_isA_30
  · refine g_iload_n (pc := 5) dX9_isA_5 1 rfl rfl ?_
    refine g_iconst (pc := 6) (v := 2) dX9_isA_6 (by decide) ?_
    refine g_icmp_ne (pc := 7) (tgt := 15) dX9_isA_7 (by decide) (fun c_7 => ?_) (fun c_7 => ?_)
    · refine g_iload_n (pc := 15) dX9_isA_15 1 rfl rfl ?_
      refine g_iconst (pc := 16) (v := 3) dX9_isA_16 (by decide) ?_
      refine g_icmp_ne (pc := 17) (tgt := 29) dX9_isA_17 (by decide) (fun c_17 => ?_) (fun c_17 => ?_)
      · refine g_iconst (pc := 29) (v := 0) dX9_isA_29 (by decide) ?_
        exact g_iret (pc := 30) hM rfl rfl ⟨rfl, some_int (by simp [isAM, bI, c_2, c_7, c_17])⟩ dX9_isA_30
      · refine g_iload_n (pc := 20) dX9_isA_20 0 rfl rfl ?_
        refine g_iconst (pc := 21) (v := 5) dX9_isA_21 (by decide) ?_
        refine g_icmp_ne (pc := 22) (tgt := 29) dX9_isA_22 (by decide) (fun c_22 => ?_) (fun c_22 => ?_)
        · refine g_iconst (pc := 29) (v := 0) dX9_isA_29 (by decide) ?_
          exact g_iret (pc := 30) hM rfl rfl ⟨rfl, some_int (by simp [isAM, bI, c_2, c_7, eq_true c_17, c_22])⟩ dX9_isA_30
        · refine g_iconst (pc := 25) (v := 1) dX9_isA_25 (by decide) ?_
          refine g_goto (pc := 26) (tgt := 30) dX9_isA_26 (by decide) ?_
          exact g_iret (pc := 30) hM rfl rfl ⟨rfl, some_int (by simp [isAM, bI, c_2, c_7, eq_true c_17, eq_true c_22])⟩ dX9_isA_30
    · refine g_iload_n (pc := 10) dX9_isA_10 0 rfl rfl ?_
      refine g_iconst (pc := 11) (v := 4) dX9_isA_11 (by decide) ?_
      refine g_icmp_eq (pc := 12) (tgt := 25) dX9_isA_12 (by decide) (fun c_12 => ?_) (fun c_12 => ?_)
      · refine g_iconst (pc := 25) (v := 1) dX9_isA_25 (by decide) ?_
        refine g_goto (pc := 26) (tgt := 30) dX9_isA_26 (by decide) ?_
        exact g_iret (pc := 30) hM rfl rfl ⟨rfl, some_int (by simp [isAM, bI, c_2, eq_true c_7, eq_true c_12])⟩ dX9_isA_30
      · refine g_iload_n (pc := 15) dX9_isA_15 1 rfl rfl ?_
        refine g_iconst (pc := 16) (v := 3) dX9_isA_16 (by decide) ?_
        refine g_icmp_ne (pc := 17) (tgt := 29) dX9_isA_17 (by decide) (fun c_17 => ?_) (fun c_17 => ?_)
        · refine g_iconst (pc := 29) (v := 0) dX9_isA_29 (by decide) ?_
          exact g_iret (pc := 30) hM rfl rfl ⟨rfl, some_int (by simp [isAM, bI, c_2, eq_true c_7, c_12, c_17])⟩ dX9_isA_30
        · refine g_iload_n (pc := 20) dX9_isA_20 0 rfl rfl ?_
          refine g_iconst (pc := 21) (v := 5) dX9_isA_21 (by decide) ?_
          refine g_icmp_ne (pc := 22) (tgt := 29) dX9_isA_22 (by decide) (fun c_22 => ?_) (fun c_22 => ?_)
          · refine g_iconst (pc := 29) (v := 0) dX9_isA_29 (by decide) ?_
            exact g_iret (pc := 30) hM rfl rfl ⟨rfl, some_int (by simp [isAM, bI, c_2, eq_true c_7, c_12, eq_true c_17, c_22])⟩ dX9_isA_30
          · refine g_iconst (pc := 25) (v := 1) dX9_isA_25 (by decide) ?_
            refine g_goto (pc := 26) (tgt := 30) dX9_isA_26 (by decide) ?_
            exact g_iret (pc := 30) hM rfl rfl ⟨rfl, some_int (by simp [isAM, bI, c_2, eq_true c_7, c_12, eq_true c_17, eq_true c_22])⟩ dX9_isA_30
set_option maxRecDepth 100000 in
set_option maxHeartbeats 4000000 in
theorem c_X9_mark_bad (E : En) (S : St) (k what : Int32) (hz : okM S) (h : ¬ (idxF (nM S) k = true ∧ inF what.toInt64 1 5 = true)) : CTe E i_X9_mark S [.ref (eA E 58), .int k, .int what] S (some (.int (-1))) := by
  refine ct_of [(0, .ref (eA E 58)), (1, .int k), (2, .int what)] (by decide +kernel) (Nat.le_of_ble_eq_true rfl) rfl (fun X hM => ?_)
  refine g_aload_n (pc := 0) dX9_mark_0 0 rfl rfl ?_
  refine g_iload_n (pc := 1) dX9_mark_1 1 rfl rfl ?_
  refine g_invV (pc := 2) j_X9_isLight mw_X9_127 dX9_mark_2 (rcv_X9) (by rfl) (c_X9_isLight E S k (by first | assumption | omega | rfl)) (Nat.le_of_ble_eq_true rfl) (Nat.le_of_ble_eq_true rfl) (by rfl) (Nat.le_of_ble_eq_true rfl) ?_
  refine g_b_eq (pc := 5) (tgt := 20) dX9_mark_5 (by decide) (fun c_5 => ?_) (fun c_5 => ?_)
  · refine g_iconst (pc := 20) (v := -1) dX9_mark_20 (by decide) ?_
    exact g_iret (pc := 21) hM rfl rfl ⟨rfl, rfl⟩ dX9_mark_21
  · refine g_iload_n (pc := 8) dX9_mark_8 2 rfl rfl ?_
    refine g_i2l (pc := 9) dX9_mark_9 ?_
    refine g_lconst (pc := 10) (v := 1) dX9_mark_10 (by decide) ?_
    refine g_ldc2 (pc := 11) kw_X9_60 dX9_mark_11 ?_
    refine g_invS (pc := 14) j_X9_in mw_X9_62 dX9_mark_14 (by rfl) (c_X9_in E S what.toInt64 1 5 ) (Nat.le_of_ble_eq_true rfl) (Nat.le_of_ble_eq_true rfl) (by rfl) (Nat.le_of_ble_eq_true rfl) ?_
    refine g_b_ne (pc := 17) (tgt := 22) dX9_mark_17 (by decide) (fun c_17 => ?_) (fun c_17 => ?_)
    · exact absurd ⟨c_5, c_17⟩ h
    · refine g_iconst (pc := 20) (v := -1) dX9_mark_20 (by decide) ?_
      exact g_iret (pc := 21) hM rfl rfl ⟨rfl, rfl⟩ dX9_mark_21
set_option maxRecDepth 100000 in
set_option maxHeartbeats 4000000 in
theorem c_X9_mark_no (E : En) (S : St) (k : Nat) (what : Int32) (hz : okM S)(hk : k < nM S) (hw : inF what.toInt64 1 5 = true) (ha : isAM (gA S 59 (11 + k)) what = false) : CTe E i_X9_mark S [.ref (eA E 58), .int (nI k), .int what] (fndS S 3) (some (.int (-3))) := by
  have hz8 := hz.2
  have hx := idx_in hk (show nM S < 2 ^ 31 by omega)
  refine ct_of [(0, .ref (eA E 58)), (1, .int (nI k)), (2, .int what)] (by decide +kernel) (Nat.le_of_ble_eq_true rfl) rfl (fun X hM => ?_)
  refine g_aload_n (pc := 0) dX9_mark_0 0 rfl rfl ?_
  refine g_iload_n (pc := 1) dX9_mark_1 1 rfl rfl ?_
  refine g_invV (pc := 2) j_X9_isLight mw_X9_127 dX9_mark_2 (rcv_X9) (by rfl) (c_X9_isLight E S (nI k) (by first | assumption | omega | rfl)) (Nat.le_of_ble_eq_true rfl) (Nat.le_of_ble_eq_true rfl) (by rfl) (Nat.le_of_ble_eq_true rfl) ?_
  refine g_b_eq (pc := 5) (tgt := 20) dX9_mark_5 (by decide) (fun c_5 => ?_) (fun c_5 => ?_)
  · exact absurd (hx.symm.trans c_5) (by decide)
  · refine g_iload_n (pc := 8) dX9_mark_8 2 rfl rfl ?_
    refine g_i2l (pc := 9) dX9_mark_9 ?_
    refine g_lconst (pc := 10) (v := 1) dX9_mark_10 (by decide) ?_
    refine g_ldc2 (pc := 11) kw_X9_60 dX9_mark_11 ?_
    refine g_invS (pc := 14) j_X9_in mw_X9_62 dX9_mark_14 (by rfl) (c_X9_in E S what.toInt64 1 5 ) (Nat.le_of_ble_eq_true rfl) (Nat.le_of_ble_eq_true rfl) (by rfl) (Nat.le_of_ble_eq_true rfl) ?_
    refine g_b_ne (pc := 17) (tgt := 22) dX9_mark_17 (by decide) (fun c_17 => ?_) (fun c_17 => ?_)
    · refine g_aload_n (pc := 22) dX9_mark_22 0 rfl rfl ?_
      refine gf_X9_7 (pc := 23) rfl dX9_mark_23 ?_
      refine g_bipush (pc := 26) (v := 11) dX9_mark_26 (by decide) ?_
      refine g_iload_n (pc := 28) dX9_mark_28 1 rfl rfl ?_
      refine g_iadd (pc := 29) dX9_mark_29 ?_
      refine g_iald (pc := 30) (11 + k) (nI_aE rfl rfl) rfl (show 11 + k < 1776 by omega) (by decide) dX9_mark_30 ?_
      refine g_iload_n (pc := 31) dX9_mark_31 2 rfl rfl ?_
      refine g_invS (pc := 32) j_X9_isA mw_X9_138 dX9_mark_32 (by rfl) (c_X9_isA E S (gA S 59 (11 + k)) what ) (Nat.le_of_ble_eq_true rfl) (Nat.le_of_ble_eq_true rfl) (by rfl) (Nat.le_of_ble_eq_true rfl) ?_
      refine g_b_ne (pc := 35) (tgt := 44) dX9_mark_35 (by decide) (fun c_35 => ?_) (fun c_35 => ?_)
      · exact absurd (ha.symm.trans c_35) (by decide)
      · refine g_aload_n (pc := 38) dX9_mark_38 0 rfl rfl ?_
        refine g_iconst (pc := 39) (v := 3) dX9_mark_39 (by decide) ?_
        refine g_invV (pc := 40) j_X9_finds mw_X9_74 dX9_mark_40 (rcv_X9) (by rfl) (c_X9_finds E S 3 (by first | assumption | omega | rfl)) (Nat.le_of_ble_eq_true rfl) (Nat.le_of_ble_eq_true rfl) (by rfl) (Nat.le_of_ble_eq_true rfl) ?_
        exact g_iret (pc := 43) hM rfl rfl ⟨rfl, rfl⟩ dX9_mark_43
    · exact absurd (hw.symm.trans c_17) (by decide)
set_option maxRecDepth 100000 in
set_option maxHeartbeats 4000000 in
theorem c_X9_mark_ok (E : En) (S : St) (k : Nat) (what : Int32) (hz : okM S)(hk : k < nM S) (hw : inF what.toInt64 1 5 = true) (ha : isAM (gA S 59 (11 + k)) what = true) : CTe E i_X9_mark S [.ref (eA E 58), .int (nI k), .int what] S (some (.int (mkM S k what))) := by
  have hz8 := hz.2
  have hx := idx_in hk (show nM S < 2 ^ 31 by omega)
  refine ct_of [(0, .ref (eA E 58)), (1, .int (nI k)), (2, .int what)] (by decide +kernel) (Nat.le_of_ble_eq_true rfl) rfl (fun X hM => ?_)
  refine g_aload_n (pc := 0) dX9_mark_0 0 rfl rfl ?_
  refine g_iload_n (pc := 1) dX9_mark_1 1 rfl rfl ?_
  refine g_invV (pc := 2) j_X9_isLight mw_X9_127 dX9_mark_2 (rcv_X9) (by rfl) (c_X9_isLight E S (nI k) (by first | assumption | omega | rfl)) (Nat.le_of_ble_eq_true rfl) (Nat.le_of_ble_eq_true rfl) (by rfl) (Nat.le_of_ble_eq_true rfl) ?_
  refine g_b_eq (pc := 5) (tgt := 20) dX9_mark_5 (by decide) (fun c_5 => ?_) (fun c_5 => ?_)
  · exact absurd (hx.symm.trans c_5) (by decide)
  · refine g_iload_n (pc := 8) dX9_mark_8 2 rfl rfl ?_
    refine g_i2l (pc := 9) dX9_mark_9 ?_
    refine g_lconst (pc := 10) (v := 1) dX9_mark_10 (by decide) ?_
    refine g_ldc2 (pc := 11) kw_X9_60 dX9_mark_11 ?_
    refine g_invS (pc := 14) j_X9_in mw_X9_62 dX9_mark_14 (by rfl) (c_X9_in E S what.toInt64 1 5 ) (Nat.le_of_ble_eq_true rfl) (Nat.le_of_ble_eq_true rfl) (by rfl) (Nat.le_of_ble_eq_true rfl) ?_
    refine g_b_ne (pc := 17) (tgt := 22) dX9_mark_17 (by decide) (fun c_17 => ?_) (fun c_17 => ?_)
    · refine g_aload_n (pc := 22) dX9_mark_22 0 rfl rfl ?_
      refine gf_X9_7 (pc := 23) rfl dX9_mark_23 ?_
      refine g_bipush (pc := 26) (v := 11) dX9_mark_26 (by decide) ?_
      refine g_iload_n (pc := 28) dX9_mark_28 1 rfl rfl ?_
      refine g_iadd (pc := 29) dX9_mark_29 ?_
      refine g_iald (pc := 30) (11 + k) (nI_aE rfl rfl) rfl (show 11 + k < 1776 by omega) (by decide) dX9_mark_30 ?_
      refine g_iload_n (pc := 31) dX9_mark_31 2 rfl rfl ?_
      refine g_invS (pc := 32) j_X9_isA mw_X9_138 dX9_mark_32 (by rfl) (c_X9_isA E S (gA S 59 (11 + k)) what ) (Nat.le_of_ble_eq_true rfl) (Nat.le_of_ble_eq_true rfl) (by rfl) (Nat.le_of_ble_eq_true rfl) ?_
      refine g_b_ne (pc := 35) (tgt := 44) dX9_mark_35 (by decide) (fun c_35 => ?_) (fun c_35 => ?_)
      · refine g_aload_n (pc := 44) dX9_mark_44 0 rfl rfl ?_
        refine gf_X9_7 (pc := 45) rfl dX9_mark_45 ?_
        refine g_bipush (pc := 48) (v := 35) dX9_mark_48 (by decide) ?_
        refine g_iload_n (pc := 50) dX9_mark_50 1 rfl rfl ?_
        refine g_iadd (pc := 51) dX9_mark_51 ?_
        refine g_iald (pc := 52) (35 + k) (nI_aE rfl rfl) rfl (show 35 + k < 1776 by omega) (by decide) dX9_mark_52 ?_
        refine g_istore_n (pc := 53) (L' := [(3, .int (gA S 59 (35 + k))), (0, .ref (eA E 58)), (1, .int (nI k)), (2, .int what)]) dX9_mark_53 rfl (Nat.le_of_ble_eq_true rfl) rfl ?_
        refine g_aload_n (pc := 54) dX9_mark_54 1 rfl rfl ?_
        refine g_iload_n (pc := 55) dX9_mark_55 2 rfl rfl ?_
        refine g_aload_n (pc := 56) dX9_mark_56 1 rfl rfl ?_
        refine gf_X9_7 (pc := 57) rfl dX9_mark_57 ?_
        refine g_iconst (pc := 60) (v := 1) dX9_mark_60 (by decide) ?_
        refine g_iald (pc := 61) 1 rfl rfl (by decide) (by decide) dX9_mark_61 ?_
        refine g_invV (pc := 62) j_X9_glowOf mw_X9_135 dX9_mark_62 (rcv_X9) (by rfl) (c_X9_glowOf E S k (gA S 59 1) (by first | assumption | omega | rfl)) (Nat.le_of_ble_eq_true rfl) (Nat.le_of_ble_eq_true rfl) (by rfl) (Nat.le_of_ble_eq_true rfl) ?_
        refine g_istore (pc := 65) (L' := [(4, .int (glQ S k (gA S 59 1))), (3, .int (gA S 59 (35 + k))), (0, .ref (eA E 58)), (1, .int (nI k)), (2, .int what)]) dX9_mark_65 (Nat.le_of_ble_eq_true rfl) rfl ?_
        refine g_iload_n (pc := 67) dX9_mark_67 4 rfl rfl ?_
        rcases tsw1_4 what with c_68 | c_68 | c_68 | c_68 | c_68
        · refine g_tsIn (pc := 68) (tgt := 100) dX9_mark_68 (by rw [c_68]; decide) (by rw [c_68]; decide) (by rw [c_68]; rfl) (by decide) ?_
          refine g_iload_n (pc := 100) dX9_mark_100 1 rfl rfl ?_
          refine g_iload (pc := 101) dX9_mark_101 0 rfl ?_
          refine g_isub (pc := 103) dX9_mark_103 ?_
          exact g_iret (pc := 104) hM rfl rfl ⟨rfl, some_int (by rw [c_68]; rfl)⟩ dX9_mark_104
        · refine g_tsIn (pc := 68) (tgt := 105) dX9_mark_68 (by rw [c_68]; decide) (by rw [c_68]; decide) (by rw [c_68]; rfl) (by decide) ?_
          refine g_bipush (pc := 105) (v := 100) dX9_mark_105 (by decide) ?_
          refine g_iload (pc := 107) dX9_mark_107 0 rfl ?_
          refine g_iadd (pc := 109) dX9_mark_109 ?_
          refine g_iload_n (pc := 110) dX9_mark_110 1 rfl rfl ?_
          refine g_isub (pc := 111) dX9_mark_111 ?_
          exact g_iret (pc := 112) hM rfl rfl ⟨rfl, some_int (by rw [c_68]; rfl)⟩ dX9_mark_112
        · refine g_tsIn (pc := 68) (tgt := 113) dX9_mark_68 (by rw [c_68]; decide) (by rw [c_68]; decide) (by rw [c_68]; rfl) (by decide) ?_
          refine g_bipush (pc := 113) (v := 100) dX9_mark_113 (by decide) ?_
          refine g_iload_n (pc := 115) dX9_mark_115 1 rfl rfl ?_
          refine g_iadd (pc := 116) dX9_mark_116 ?_
          refine g_iload (pc := 117) dX9_mark_117 0 rfl ?_
          refine g_isub (pc := 119) dX9_mark_119 ?_
          exact g_iret (pc := 120) hM rfl rfl ⟨rfl, some_int (by rw [c_68]; rfl)⟩ dX9_mark_120
        · refine g_tsIn (pc := 68) (tgt := 121) dX9_mark_68 (by rw [c_68]; decide) (by rw [c_68]; decide) (by rw [c_68]; rfl) (by decide) ?_
          refine g_iload_n (pc := 121) dX9_mark_121 1 rfl rfl ?_
          refine g_aload_n (pc := 122) dX9_mark_122 2 rfl rfl ?_
          refine gf_X9_7 (pc := 123) rfl dX9_mark_123 ?_
          refine g_iconst (pc := 126) (v := 1) dX9_mark_126 (by decide) ?_
          refine g_iald (pc := 127) 1 rfl rfl (by decide) (by decide) dX9_mark_127 ?_
          refine g_invS (pc := 128) j_X9_dew mw_X9_116 dX9_mark_128 (by rfl) (c_X9_dew E S (gA S 59 (35 + k)) (gA S 59 1) ) (Nat.le_of_ble_eq_true rfl) (Nat.le_of_ble_eq_true rfl) (by rfl) (Nat.le_of_ble_eq_true rfl) ?_
          refine g_iload (pc := 131) dX9_mark_131 0 rfl ?_
          refine g_isub (pc := 133) dX9_mark_133 ?_
          exact g_iret (pc := 134) hM rfl rfl ⟨rfl, some_int (by rw [c_68]; rfl)⟩ dX9_mark_134
        · refine g_tsOut (pc := 68) (tgt := 135) dX9_mark_68 c_68 (by decide) ?_
          refine g_iload (pc := 135) dX9_mark_135 0 rfl ?_
          refine g_iload_n (pc := 137) dX9_mark_137 1 rfl rfl ?_
          refine g_aload_n (pc := 138) dX9_mark_138 2 rfl rfl ?_
          refine gf_X9_7 (pc := 139) rfl dX9_mark_139 ?_
          refine g_iconst (pc := 142) (v := 1) dX9_mark_142 (by decide) ?_
          refine g_iald (pc := 143) 1 rfl rfl (by decide) (by decide) dX9_mark_143 ?_
          refine g_invS (pc := 144) j_X9_forged mw_X9_120 dX9_mark_144 (by rfl) (c_X9_forged E S (gA S 59 (35 + k)) (gA S 59 1) ) (Nat.le_of_ble_eq_true rfl) (Nat.le_of_ble_eq_true rfl) (by rfl) (Nat.le_of_ble_eq_true rfl) ?_
          refine g_isub (pc := 147) dX9_mark_147 ?_
          exact g_iret (pc := 148) hM rfl rfl ⟨rfl, some_int (mkM_out c_68).symm⟩ dX9_mark_148
      · exact absurd (ha.symm.trans c_35) (by decide)
    · exact absurd (hw.symm.trans c_17) (by decide)
set_option maxRecDepth 100000 in
set_option maxHeartbeats 4000000 in
theorem c_X9_glows_bad (E : En) (S : St) (k night : Int32) (hz : okM S) (h : ¬ (idxF (nM S) k = true ∧ inF night.toInt64 0 99 = true)) : CTe E i_X9_glows S [.ref (eA E 58), .int k, .int night] S (some (.int (-1))) := by
  refine ct_of [(0, .ref (eA E 58)), (1, .int k), (2, .int night)] (by decide +kernel) (Nat.le_of_ble_eq_true rfl) rfl (fun X hM => ?_)
  refine g_aload_n (pc := 0) dX9_glows_0 0 rfl rfl ?_
  refine g_iload_n (pc := 1) dX9_glows_1 1 rfl rfl ?_
  refine g_invV (pc := 2) j_X9_isLight mw_X9_127 dX9_glows_2 (rcv_X9) (by rfl) (c_X9_isLight E S k (by first | assumption | omega | rfl)) (Nat.le_of_ble_eq_true rfl) (Nat.le_of_ble_eq_true rfl) (by rfl) (Nat.le_of_ble_eq_true rfl) ?_
  refine g_b_eq (pc := 5) (tgt := 29) dX9_glows_5 (by decide) (fun c_5 => ?_) (fun c_5 => ?_)
  · refine g_iconst (pc := 29) (v := -1) dX9_glows_29 (by decide) ?_
    exact g_iret (pc := 30) hM rfl rfl ⟨rfl, rfl⟩ dX9_glows_30
  · refine g_iload_n (pc := 8) dX9_glows_8 2 rfl rfl ?_
    refine g_i2l (pc := 9) dX9_glows_9 ?_
    refine g_lconst (pc := 10) (v := 0) dX9_glows_10 (by decide) ?_
    refine g_ldc2 (pc := 11) kw_X9_141 dX9_glows_11 ?_
    refine g_invS (pc := 14) j_X9_in mw_X9_62 dX9_glows_14 (by rfl) (c_X9_in E S night.toInt64 0 99 ) (Nat.le_of_ble_eq_true rfl) (Nat.le_of_ble_eq_true rfl) (by rfl) (Nat.le_of_ble_eq_true rfl) ?_
    refine g_b_eq (pc := 17) (tgt := 29) dX9_glows_17 (by decide) (fun c_17 => ?_) (fun c_17 => ?_)
    · refine g_iconst (pc := 29) (v := -1) dX9_glows_29 (by decide) ?_
      exact g_iret (pc := 30) hM rfl rfl ⟨rfl, rfl⟩ dX9_glows_30
    · exact absurd ⟨c_5, c_17⟩ h
set_option maxRecDepth 100000 in
set_option maxHeartbeats 4000000 in
theorem c_X9_glows_ok (E : En) (S : St) (k : Nat) (night : Int32) (hz : okM S)(hk : k < nM S) (hw : inF night.toInt64 0 99 = true) : CTe E i_X9_glows S [.ref (eA E 58), .int (nI k), .int night] S (some (.int (glQ S k night))) := by
  have hz8 := hz.2
  have hx := idx_in hk (show nM S < 2 ^ 31 by omega)
  refine ct_of [(0, .ref (eA E 58)), (1, .int (nI k)), (2, .int night)] (by decide +kernel) (Nat.le_of_ble_eq_true rfl) rfl (fun X hM => ?_)
  refine g_aload_n (pc := 0) dX9_glows_0 0 rfl rfl ?_
  refine g_iload_n (pc := 1) dX9_glows_1 1 rfl rfl ?_
  refine g_invV (pc := 2) j_X9_isLight mw_X9_127 dX9_glows_2 (rcv_X9) (by rfl) (c_X9_isLight E S (nI k) (by first | assumption | omega | rfl)) (Nat.le_of_ble_eq_true rfl) (Nat.le_of_ble_eq_true rfl) (by rfl) (Nat.le_of_ble_eq_true rfl) ?_
  refine g_b_eq (pc := 5) (tgt := 29) dX9_glows_5 (by decide) (fun c_5 => ?_) (fun c_5 => ?_)
  · exact absurd (hx.symm.trans c_5) (by decide)
  · refine g_iload_n (pc := 8) dX9_glows_8 2 rfl rfl ?_
    refine g_i2l (pc := 9) dX9_glows_9 ?_
    refine g_lconst (pc := 10) (v := 0) dX9_glows_10 (by decide) ?_
    refine g_ldc2 (pc := 11) kw_X9_141 dX9_glows_11 ?_
    refine g_invS (pc := 14) j_X9_in mw_X9_62 dX9_glows_14 (by rfl) (c_X9_in E S night.toInt64 0 99 ) (Nat.le_of_ble_eq_true rfl) (Nat.le_of_ble_eq_true rfl) (by rfl) (Nat.le_of_ble_eq_true rfl) ?_
    refine g_b_eq (pc := 17) (tgt := 29) dX9_glows_17 (by decide) (fun c_17 => ?_) (fun c_17 => ?_)
    · exact absurd (hw.symm.trans c_17) (by decide)
    · refine g_aload_n (pc := 20) dX9_glows_20 0 rfl rfl ?_
      refine g_iload_n (pc := 21) dX9_glows_21 1 rfl rfl ?_
      refine g_iload_n (pc := 22) dX9_glows_22 2 rfl rfl ?_
      refine g_invV (pc := 23) j_X9_glowOf mw_X9_135 dX9_glows_23 (rcv_X9) (by rfl) (c_X9_glowOf E S k night (by first | assumption | omega | rfl)) (Nat.le_of_ble_eq_true rfl) (Nat.le_of_ble_eq_true rfl) (by rfl) (Nat.le_of_ble_eq_true rfl) ?_
      refine g_goto (pc := 26) (tgt := 30) dX9_glows_26 (by decide) ?_
      exact g_iret (pc := 30) hM rfl rfl ⟨rfl, rfl⟩ dX9_glows_30
set_option maxRecDepth 100000 in
set_option maxHeartbeats 4000000 in
theorem c_X9_minds (E : En) (S : St) (d : Nat) (hd : gA S 59 43 = nI d) (hd2 : d < 40) : CTe E i_X9_minds S [.ref (eA E 58)] (sA S 59 (mdF (gA S 59) d)) none := by
  refine ct_of [(0, .ref (eA E 58))] (by decide +kernel) (Nat.le_of_ble_eq_true rfl) rfl (fun X hM => ?_)
  refine g_bipush (pc := 0) (v := 44) dX9_minds_0 (by decide) ?_
  refine g_bipush (pc := 2) (v := 10) dX9_minds_2 (by decide) ?_
  refine g_aload_n (pc := 4) dX9_minds_4 0 rfl rfl ?_
  refine gf_X9_7 (pc := 5) rfl dX9_minds_5 ?_
  refine g_bipush (pc := 8) (v := 43) dX9_minds_8 (by decide) ?_
  refine g_iald (pc := 10) 43 rfl rfl (by decide) (by decide) dX9_minds_10 ?_
  refine g_imul (pc := 11) dX9_minds_11 ?_
  refine g_iadd (pc := 12) dX9_minds_12 ?_
  rw [show (44 + (10 * gA S 59 43) : Int32) = nI (44 + 10 * d) from nI_aE rfl (nI_mE rfl hd)]
  refine g_istore_n (pc := 13) (L' := [(1, .int (nI (44 + 10 * d))), (0, .ref (eA E 58))]) dX9_minds_13 rfl (Nat.le_of_ble_eq_true rfl) rfl ?_
  refine g_aload_n (pc := 14) dX9_minds_14 1 rfl rfl ?_
  refine gf_X9_7 (pc := 15) rfl dX9_minds_15 ?_
  refine g_iload_n (pc := 18) dX9_minds_18 0 rfl rfl ?_
  refine g_aload_n (pc := 19) dX9_minds_19 1 rfl rfl ?_
  refine gf_X9_7 (pc := 20) rfl dX9_minds_20 ?_
  refine g_iconst (pc := 23) (v := 1) dX9_minds_23 (by decide) ?_
  refine g_iald (pc := 24) 1 rfl rfl (by decide) (by decide) dX9_minds_24 ?_
  refine g_iast (pc := 25) (44 + 10 * d) rfl rfl (show 44 + 10 * d < 1776 by omega) (by decide) dX9_minds_25 ?_
  refine g_aload_n (pc := 26) dX9_minds_26 1 rfl rfl ?_
  refine gf_X9_7 (pc := 27) rfl dX9_minds_27 ?_
  refine g_iload_n (pc := 30) dX9_minds_30 0 rfl rfl ?_
  refine g_iconst (pc := 31) (v := 1) dX9_minds_31 (by decide) ?_
  refine g_iadd (pc := 32) dX9_minds_32 ?_
  refine g_aload_n (pc := 33) dX9_minds_33 1 rfl rfl ?_
  refine gf_X9_7 (pc := 34) rfl dX9_minds_34 ?_
  refine g_iconst (pc := 37) (v := 2) dX9_minds_37 (by decide) ?_
  refine g_iald (pc := 38) 2 rfl rfl (by decide) (by decide) dX9_minds_38 ?_
  refine g_iast (pc := 39) ((44 + 10 * d) + 1) (nI_aE rfl rfl) rfl (show (44 + 10 * d) + 1 < 1776 by omega) (by decide) dX9_minds_39 ?_
  refine g_iconst (pc := 40) (v := 0) dX9_minds_40 (by decide) ?_
  refine g_istore_n (pc := 41) (L' := [(2, .int 0), (1, .int (nI (44 + 10 * d))), (0, .ref (eA E 58))]) dX9_minds_41 rfl (Nat.le_of_ble_eq_true rfl) rfl ?_
  have H_42 : ∀ n : Nat, n ≤ 8 → G E X i_X9_minds (sA S 59 (mdR (gA S 59) (44 + 10 * d) n)) 42 [(0, .ref (eA E 58)), (1, .int (nI (44 + 10 * d))), (2, .int (nI n))] [] := by
    refine dn_ind 8 (fun n hn_42 ih_42 => ?_)
    refine g_iload_n (pc := 42) dX9_minds_42 2 rfl rfl ?_
    refine g_bipush (pc := 43) (v := 8) dX9_minds_43 (by decide) ?_
    refine g_icmp_ge (pc := 45) (tgt := 72) dX9_minds_45 (by decide) (fun c_45 => ?_) (fun c_45 => ?_)
    · have k_45 := Int32.not_lt.mpr c_45
      have he_42 : n = 8 := Nat.le_antisymm hn_42 (by exact nle_of (N := 8) rfl rfl (by omega) (by omega) c_45)
      rw [he_42]
      refine g_aload_n (pc := 72) dX9_minds_72 0 rfl rfl ?_
      refine gf_X9_7 (pc := 73) rfl dX9_minds_73 ?_
      refine g_bipush (pc := 76) (v := 43) dX9_minds_76 (by decide) ?_
      refine g_dup2 (pc := 78) dX9_minds_78 rfl rfl ?_
      refine g_iald (pc := 79) 43 rfl rfl (by decide) (by decide) dX9_minds_79 ?_
      refine g_iconst (pc := 80) (v := 1) dX9_minds_80 (by decide) ?_
      refine g_iadd (pc := 81) dX9_minds_81 ?_
      refine g_iast (pc := 82) 43 rfl rfl (by decide) (by decide) dX9_minds_82 ?_
      exact g_vret (pc := 83) hM rfl ⟨by simp only [sA_sA, gA_same]; rfl, rfl⟩ dX9_minds_83
    · have k_45 := Int32.not_le.mp c_45
      have hlt_42 : n < 8 := by exact nlt_of (N := 8) rfl rfl (by omega) (by omega) c_45
      refine g_aload_n (pc := 48) dX9_minds_48 0 rfl rfl ?_
      refine gf_X9_7 (pc := 49) rfl dX9_minds_49 ?_
      refine g_iload_n (pc := 52) dX9_minds_52 1 rfl rfl ?_
      refine g_iconst (pc := 53) (v := 2) dX9_minds_53 (by decide) ?_
      refine g_iadd (pc := 54) dX9_minds_54 ?_
      refine g_iload_n (pc := 55) dX9_minds_55 2 rfl rfl ?_
      refine g_iadd (pc := 56) dX9_minds_56 ?_
      refine g_aload_n (pc := 57) dX9_minds_57 0 rfl rfl ?_
      refine gf_X9_7 (pc := 58) rfl dX9_minds_58 ?_
      refine g_iconst (pc := 61) (v := 3) dX9_minds_61 (by decide) ?_
      refine g_iload_n (pc := 62) dX9_minds_62 2 rfl rfl ?_
      refine g_iadd (pc := 63) dX9_minds_63 ?_
      refine g_iald (pc := 64) (3 + n) (nI_aE rfl rfl) rfl (show 3 + n < 1776 by omega) (by decide) dX9_minds_64 ?_
      refine g_iast (pc := 65) (((44 + 10 * d) + 2) + n) (nI_aE (nI_aE rfl rfl) rfl) rfl (show ((44 + 10 * d) + 2) + n < 1776 by omega) (by decide) dX9_minds_65 ?_
      refine g_iinc (pc := 66) (L' := [(2, .int (nI n + 1)), (0, .ref (eA E 58)), (1, .int (nI (44 + 10 * d)))]) dX9_minds_66 (k := 2) rfl (v := nI n + 1) rfl (Nat.le_of_ble_eq_true rfl) rfl ?_
      refine g_goto (pc := 69) (tgt := 42) dX9_minds_69 (by decide) ?_
      refine g_sub (L' := [(0, .ref (eA E 58)), (1, .int (nI (44 + 10 * d))), (2, .int (nI n + 1))]) [1, 2, 0] rfl ?_
      exact g_eq (by simp only [sA_sA, gA_same]; rfl) (by simp only [nI_1]) rfl (ih_42 hlt_42)
  refine g_sub (L' := [(0, .ref (eA E 58)), (1, .int (nI (44 + 10 * d))), (2, .int 0)]) [2, 1, 0] rfl ?_
  exact g_eq (by simp only [sA_sA, gA_same]; rfl) rfl rfl (H_42 0 (Nat.zero_le _))
set_option maxRecDepth 100000 in
set_option maxHeartbeats 4000000 in
theorem c_X9_glowAll (E : En) (S : St)  (hz : okM S) : CTe E i_X9_glowAll S [.ref (eA E 58)] S (some (.int (gaR S (nM S)))) := by
  have hz8 := hz.2
  refine ct_of [(0, .ref (eA E 58))] (by decide +kernel) (Nat.le_of_ble_eq_true rfl) rfl (fun X hM => ?_)
  refine g_iconst (pc := 0) (v := 0) dX9_glowAll_0 (by decide) ?_
  refine g_istore_n (pc := 1) (L' := [(1, .int 0), (0, .ref (eA E 58))]) dX9_glowAll_1 rfl (Nat.le_of_ble_eq_true rfl) rfl ?_
  refine g_iconst (pc := 2) (v := 0) dX9_glowAll_2 (by decide) ?_
  refine g_istore_n (pc := 3) (L' := [(2, .int 0), (1, .int 0), (0, .ref (eA E 58))]) dX9_glowAll_3 rfl (Nat.le_of_ble_eq_true rfl) rfl ?_
  have H_4 : ∀ n : Nat, n ≤ (nM S) → G E X i_X9_glowAll S 4 [(0, .ref (eA E 58)), (1, .int (gaR S n)), (2, .int (nI n))] [] := by
    refine dn_ind (nM S) (fun n hn_4 ih_4 => ?_)
    refine g_iload_n (pc := 4) dX9_glowAll_4 2 rfl rfl ?_
    refine g_aload_n (pc := 5) dX9_glowAll_5 0 rfl rfl ?_
    refine gf_X9_7 (pc := 6) rfl dX9_glowAll_6 ?_
    refine g_iconst (pc := 9) (v := 0) dX9_glowAll_9 (by decide) ?_
    refine g_iald (pc := 10) 0 rfl rfl (by decide) (by decide) dX9_glowAll_10 ?_
    refine g_icmp_ge (pc := 11) (tgt := 51) dX9_glowAll_11 (by decide) (fun c_11 => ?_) (fun c_11 => ?_)
    · have k_11 := Int32.not_lt.mpr c_11
      have he_4 : n = (nM S) := Nat.le_antisymm hn_4 (by exact nle_of (N := nM S) rfl hz.1 (by omega) (by omega) c_11)
      rw [he_4]
      refine g_iload_n (pc := 51) dX9_glowAll_51 1 rfl rfl ?_
      exact g_iret (pc := 52) hM rfl rfl ⟨rfl, rfl⟩ dX9_glowAll_52
    · have k_11 := Int32.not_le.mp c_11
      have hlt_4 : n < (nM S) := by exact nlt_of (N := nM S) rfl hz.1 (by omega) (by omega) c_11
      refine g_iload_n (pc := 14) dX9_glowAll_14 1 rfl rfl ?_
      refine g_aload_n (pc := 15) dX9_glowAll_15 0 rfl rfl ?_
      refine gf_X9_7 (pc := 16) rfl dX9_glowAll_16 ?_
      refine g_iconst (pc := 19) (v := 2) dX9_glowAll_19 (by decide) ?_
      refine g_iald (pc := 20) 2 rfl rfl (by decide) (by decide) dX9_glowAll_20 ?_
      refine g_iload_n (pc := 21) dX9_glowAll_21 2 rfl rfl ?_
      refine g_invS (pc := 22) j_X9_has mw_X9_143 dX9_glowAll_22 (by rfl) (c_X9_has E S (gA S 59 2) (nI n) ) (Nat.le_of_ble_eq_true rfl) (Nat.le_of_ble_eq_true rfl) (by rfl) (Nat.le_of_ble_eq_true rfl) ?_
      refine g_b_eq (pc := 25) (tgt := 42) dX9_glowAll_25 (by decide) (fun c_25 => ?_) (fun c_25 => ?_)
      · refine g_iconst (pc := 42) (v := 0) dX9_glowAll_42 (by decide) ?_
        refine g_iadd (pc := 43) dX9_glowAll_43 ?_
        refine g_istore_n (pc := 44) (L' := [(1, .int (gaR S n + 0)), (0, .ref (eA E 58)), (2, .int (nI n))]) dX9_glowAll_44 rfl (Nat.le_of_ble_eq_true rfl) rfl ?_
        refine g_iinc (pc := 45) (L' := [(2, .int (nI n + 1)), (1, .int (gaR S n + 0)), (0, .ref (eA E 58))]) dX9_glowAll_45 (k := 2) rfl (v := nI n + 1) rfl (Nat.le_of_ble_eq_true rfl) rfl ?_
        refine g_goto (pc := 48) (tgt := 4) dX9_glowAll_48 (by decide) ?_
        refine g_sub (L' := [(0, .ref (eA E 58)), (1, .int (gaR S n + 0)), (2, .int (nI n + 1))]) [2, 1, 0] rfl ?_
        exact g_eq rfl (by simp only [nI_1, gaR, c_25, if_true, if_false, Bool.false_eq_true]) rfl (ih_4 hlt_4)
      · refine g_aload_n (pc := 28) dX9_glowAll_28 0 rfl rfl ?_
        refine g_iload_n (pc := 29) dX9_glowAll_29 2 rfl rfl ?_
        refine g_aload_n (pc := 30) dX9_glowAll_30 0 rfl rfl ?_
        refine gf_X9_7 (pc := 31) rfl dX9_glowAll_31 ?_
        refine g_iconst (pc := 34) (v := 1) dX9_glowAll_34 (by decide) ?_
        refine g_iald (pc := 35) 1 rfl rfl (by decide) (by decide) dX9_glowAll_35 ?_
        refine g_invV (pc := 36) j_X9_glowOf mw_X9_135 dX9_glowAll_36 (rcv_X9) (by rfl) (c_X9_glowOf E S n (gA S 59 1) (by first | assumption | omega | rfl)) (Nat.le_of_ble_eq_true rfl) (Nat.le_of_ble_eq_true rfl) (by rfl) (Nat.le_of_ble_eq_true rfl) ?_
        refine g_goto (pc := 39) (tgt := 43) dX9_glowAll_39 (by decide) ?_
        refine g_iadd (pc := 43) dX9_glowAll_43 ?_
        refine g_istore_n (pc := 44) (L' := [(1, .int (gaR S n + glQ S n (gA S 59 1))), (0, .ref (eA E 58)), (2, .int (nI n))]) dX9_glowAll_44 rfl (Nat.le_of_ble_eq_true rfl) rfl ?_
        refine g_iinc (pc := 45) (L' := [(2, .int (nI n + 1)), (1, .int (gaR S n + glQ S n (gA S 59 1))), (0, .ref (eA E 58))]) dX9_glowAll_45 (k := 2) rfl (v := nI n + 1) rfl (Nat.le_of_ble_eq_true rfl) rfl ?_
        refine g_goto (pc := 48) (tgt := 4) dX9_glowAll_48 (by decide) ?_
        refine g_sub (L' := [(0, .ref (eA E 58)), (1, .int (gaR S n + glQ S n (gA S 59 1))), (2, .int (nI n + 1))]) [2, 1, 0] rfl ?_
        exact g_eq rfl (by simp only [nI_1, gaR, c_25, if_true, if_false, Bool.false_eq_true]) rfl (ih_4 hlt_4)
  refine g_sub (L' := [(0, .ref (eA E 58)), (1, .int 0), (2, .int 0)]) [2, 1, 0] rfl ?_
  exact g_eq rfl rfl rfl (H_4 0 (Nat.zero_le _))
set_option maxRecDepth 100000 in
set_option maxHeartbeats 4000000 in
theorem c_X9_night_no (E : En) (S : St)  (h : gA S 59 0 = 0 ∨ gA S 59 1 = 40) : CTe E i_X9_night S [.ref (eA E 58)] S (some (.int (-4))) := by
  refine ct_of [(0, .ref (eA E 58))] (by decide +kernel) (Nat.le_of_ble_eq_true rfl) rfl (fun X hM => ?_)
  refine g_aload_n (pc := 0) dX9_night_0 0 rfl rfl ?_
  refine gf_X9_7 (pc := 1) rfl dX9_night_1 ?_
  refine g_iconst (pc := 4) (v := 0) dX9_night_4 (by decide) ?_
  refine g_iald (pc := 5) 0 rfl rfl (by decide) (by decide) dX9_night_5 ?_
  refine g_if_eq (pc := 6) (tgt := 20) dX9_night_6 (by decide) (fun c_6 => ?_) (fun c_6 => ?_)
  · refine g_bipush (pc := 20) (v := -4) dX9_night_20 (by decide) ?_
    exact g_iret (pc := 22) hM rfl rfl ⟨rfl, rfl⟩ dX9_night_22
  · refine g_aload_n (pc := 9) dX9_night_9 0 rfl rfl ?_
    refine gf_X9_7 (pc := 10) rfl dX9_night_10 ?_
    refine g_iconst (pc := 13) (v := 1) dX9_night_13 (by decide) ?_
    refine g_iald (pc := 14) 1 rfl rfl (by decide) (by decide) dX9_night_14 ?_
    refine g_bipush (pc := 15) (v := 40) dX9_night_15 (by decide) ?_
    refine g_icmp_ne (pc := 17) (tgt := 23) dX9_night_17 (by decide) (fun c_17 => ?_) (fun c_17 => ?_)
    · exact absurd h (by rintro (q | q); exact c_6 q; exact c_17 q)
    · refine g_bipush (pc := 20) (v := -4) dX9_night_20 (by decide) ?_
      exact g_iret (pc := 22) hM rfl rfl ⟨rfl, rfl⟩ dX9_night_22
set_option maxRecDepth 100000 in
set_option maxHeartbeats 4000000 in
theorem c_X9_night_full (E : En) (S : St)  (h0 : ¬ gA S 59 0 = 0) (h1 : ¬ gA S 59 1 = 40) (hd : gA S 59 43 = 40) : CTe E i_X9_night S [.ref (eA E 58)] S (some (.int (-2))) := by
  refine ct_of [(0, .ref (eA E 58))] (by decide +kernel) (Nat.le_of_ble_eq_true rfl) rfl (fun X hM => ?_)
  refine g_aload_n (pc := 0) dX9_night_0 0 rfl rfl ?_
  refine gf_X9_7 (pc := 1) rfl dX9_night_1 ?_
  refine g_iconst (pc := 4) (v := 0) dX9_night_4 (by decide) ?_
  refine g_iald (pc := 5) 0 rfl rfl (by decide) (by decide) dX9_night_5 ?_
  refine g_if_eq (pc := 6) (tgt := 20) dX9_night_6 (by decide) (fun c_6 => ?_) (fun c_6 => ?_)
  · exact absurd c_6 h0
  · refine g_aload_n (pc := 9) dX9_night_9 0 rfl rfl ?_
    refine gf_X9_7 (pc := 10) rfl dX9_night_10 ?_
    refine g_iconst (pc := 13) (v := 1) dX9_night_13 (by decide) ?_
    refine g_iald (pc := 14) 1 rfl rfl (by decide) (by decide) dX9_night_14 ?_
    refine g_bipush (pc := 15) (v := 40) dX9_night_15 (by decide) ?_
    refine g_icmp_ne (pc := 17) (tgt := 23) dX9_night_17 (by decide) (fun c_17 => ?_) (fun c_17 => ?_)
    · refine g_aload_n (pc := 23) dX9_night_23 0 rfl rfl ?_
      refine gf_X9_7 (pc := 24) rfl dX9_night_24 ?_
      refine g_bipush (pc := 27) (v := 43) dX9_night_27 (by decide) ?_
      refine g_iald (pc := 29) 43 rfl rfl (by decide) (by decide) dX9_night_29 ?_
      refine g_bipush (pc := 30) (v := 40) dX9_night_30 (by decide) ?_
      refine g_icmp_ne (pc := 32) (tgt := 38) dX9_night_32 (by decide) (fun c_32 => ?_) (fun c_32 => ?_)
      · exact absurd hd c_32
      · refine g_bipush (pc := 35) (v := -2) dX9_night_35 (by decide) ?_
        exact g_iret (pc := 37) hM rfl rfl ⟨rfl, rfl⟩ dX9_night_37
    · exact absurd c_17 h1
theorem nI_n40 {d : Nat} (h : d < 40) : ¬ nI d = 40 := fun q => by have := (nI_eq (a := d) (b := 40) (by omega) (by omega)).mp q; omega
set_option maxRecDepth 100000 in
set_option maxHeartbeats 4000000 in
theorem c_X9_night_ok (E : En) (S : St) (d : Nat) (hz : okM S)(h0 : ¬ gA S 59 0 = 0) (h1 : ¬ gA S 59 1 = 40)(hd : gA S 59 43 = nI d) (hd2 : d < 40) : CTe E i_X9_night S [.ref (eA E 58)] (sA S 59 (ntW (gA S 59) d)) (some (.int (gaR (sA S 59 (ntW (gA S 59) d)) (nM (sA S 59 (ntW (gA S 59) d)))))) := by
  refine ct_of [(0, .ref (eA E 58))] (by decide +kernel) (Nat.le_of_ble_eq_true rfl) rfl (fun X hM => ?_)
  refine g_aload_n (pc := 0) dX9_night_0 0 rfl rfl ?_
  refine gf_X9_7 (pc := 1) rfl dX9_night_1 ?_
  refine g_iconst (pc := 4) (v := 0) dX9_night_4 (by decide) ?_
  refine g_iald (pc := 5) 0 rfl rfl (by decide) (by decide) dX9_night_5 ?_
  refine g_if_eq (pc := 6) (tgt := 20) dX9_night_6 (by decide) (fun c_6 => ?_) (fun c_6 => ?_)
  · exact absurd c_6 h0
  · refine g_aload_n (pc := 9) dX9_night_9 0 rfl rfl ?_
    refine gf_X9_7 (pc := 10) rfl dX9_night_10 ?_
    refine g_iconst (pc := 13) (v := 1) dX9_night_13 (by decide) ?_
    refine g_iald (pc := 14) 1 rfl rfl (by decide) (by decide) dX9_night_14 ?_
    refine g_bipush (pc := 15) (v := 40) dX9_night_15 (by decide) ?_
    refine g_icmp_ne (pc := 17) (tgt := 23) dX9_night_17 (by decide) (fun c_17 => ?_) (fun c_17 => ?_)
    · refine g_aload_n (pc := 23) dX9_night_23 0 rfl rfl ?_
      refine gf_X9_7 (pc := 24) rfl dX9_night_24 ?_
      refine g_bipush (pc := 27) (v := 43) dX9_night_27 (by decide) ?_
      refine g_iald (pc := 29) 43 rfl rfl (by decide) (by decide) dX9_night_29 ?_
      refine g_bipush (pc := 30) (v := 40) dX9_night_30 (by decide) ?_
      refine g_icmp_ne (pc := 32) (tgt := 38) dX9_night_32 (by decide) (fun c_32 => ?_) (fun c_32 => ?_)
      · refine g_aload_n (pc := 38) dX9_night_38 0 rfl rfl ?_
        refine g_invN (pc := 39) j_X9_minds mw_X9_146 dX9_night_39 (rcv_X9) (by rfl) (c_X9_minds E S _ (by first | assumption | omega | rfl) (by first | assumption | omega | rfl)) (Nat.le_of_ble_eq_true rfl) (Nat.le_of_ble_eq_true rfl) (by rfl) (Nat.le_of_ble_eq_true rfl) ?_
        refine g_aload_n (pc := 42) dX9_night_42 0 rfl rfl ?_
        refine gf_X9_7 (pc := 43) rfl dX9_night_43 ?_
        refine g_iconst (pc := 46) (v := 1) dX9_night_46 (by decide) ?_
        refine g_dup2 (pc := 47) dX9_night_47 rfl rfl ?_
        refine g_iald (pc := 48) 1 rfl rfl (by decide) (by decide) dX9_night_48 ?_
        refine g_iconst (pc := 49) (v := 1) dX9_night_49 (by decide) ?_
        refine g_iadd (pc := 50) dX9_night_50 ?_
        refine g_iast (pc := 51) 1 rfl rfl (by decide) (by decide) dX9_night_51 ?_
        rw [show sA (sA S 59 (mdF (gA S 59) d)) 59 (upd (gA (sA S 59 (mdF (gA S 59) d)) 59) 1 (gA (sA S 59 (mdF (gA S 59) d)) 59 1 + 1)) = sA S 59 (ntW (gA S 59) d) by simp only [sA_sA, gA_same]; rfl]
        have hz2 := (okM_sA (W := ntW (gA S 59) d) hz (by rw [ntW, pk_un (by omega), mdF_lo (by omega)])).1
        refine g_aload_n (pc := 52) dX9_night_52 0 rfl rfl ?_
        refine g_invV (pc := 53) j_X9_glowAll mw_X9_149 dX9_night_53 (rcv_X9) (by rfl) (c_X9_glowAll E (sA S 59 (ntW (gA S 59) d)) hz2) (Nat.le_of_ble_eq_true rfl) (Nat.le_of_ble_eq_true rfl) (by rfl) (Nat.le_of_ble_eq_true rfl) ?_
        exact g_iret (pc := 56) hM rfl rfl ⟨rfl, rfl⟩ dX9_night_56
      · exact absurd (hd.symm.trans c_32) (nI_n40 hd2)
    · exact absurd c_17 h1
set_option maxRecDepth 100000 in
set_option maxHeartbeats 4000000 in
theorem c_X9_lights_bad (E : En) (S : St) (k : Int32) (flag : Int32) (hz : okM S) (h : idxF (nM S) k = false) : CTe E i_X9_lights S [.ref (eA E 58), .int k, .int flag] S (some (.int (-1))) := by
  refine ct_of [(0, .ref (eA E 58)), (1, .int k), (2, .int flag)] (by decide +kernel) (Nat.le_of_ble_eq_true rfl) rfl (fun X hM => ?_)
  refine g_aload_n (pc := 0) dX9_lights_0 0 rfl rfl ?_
  refine g_iload_n (pc := 1) dX9_lights_1 1 rfl rfl ?_
  refine g_invV (pc := 2) j_X9_isLight mw_X9_127 dX9_lights_2 (rcv_X9) (by rfl) (c_X9_isLight E S k (by first | assumption | omega | rfl)) (Nat.le_of_ble_eq_true rfl) (Nat.le_of_ble_eq_true rfl) (by rfl) (Nat.le_of_ble_eq_true rfl) ?_
  refine g_b_ne (pc := 5) (tgt := 10) dX9_lights_5 (by decide) (fun c_5 => ?_) (fun c_5 => ?_)
  · exact absurd (h.symm.trans c_5) (by decide)
  · refine g_iconst (pc := 8) (v := -1) dX9_lights_8 (by decide) ?_
    exact g_iret (pc := 9) hM rfl rfl ⟨rfl, rfl⟩ dX9_lights_9
set_option maxRecDepth 100000 in
set_option maxHeartbeats 4000000 in
theorem c_X9_lights_no (E : En) (S : St) (k : Nat) (flag : Int32) (hz : okM S)(hk : k < nM S) (h : bI (hsF (gA S 59 2) (nI k)) = flag) : CTe E i_X9_lights S [.ref (eA E 58), .int (nI k), .int flag] S (some (.int (-4))) := by
  have hz8 := hz.2
  have hx := idx_in hk (show nM S < 2 ^ 31 by omega)
  refine ct_of [(0, .ref (eA E 58)), (1, .int (nI k)), (2, .int flag)] (by decide +kernel) (Nat.le_of_ble_eq_true rfl) rfl (fun X hM => ?_)
  refine g_aload_n (pc := 0) dX9_lights_0 0 rfl rfl ?_
  refine g_iload_n (pc := 1) dX9_lights_1 1 rfl rfl ?_
  refine g_invV (pc := 2) j_X9_isLight mw_X9_127 dX9_lights_2 (rcv_X9) (by rfl) (c_X9_isLight E S (nI k) (by first | assumption | omega | rfl)) (Nat.le_of_ble_eq_true rfl) (Nat.le_of_ble_eq_true rfl) (by rfl) (Nat.le_of_ble_eq_true rfl) ?_
  refine g_b_ne (pc := 5) (tgt := 10) dX9_lights_5 (by decide) (fun c_5 => ?_) (fun c_5 => ?_)
  · refine g_aload_n (pc := 10) dX9_lights_10 0 rfl rfl ?_
    refine gf_X9_7 (pc := 11) rfl dX9_lights_11 ?_
    refine g_iconst (pc := 14) (v := 2) dX9_lights_14 (by decide) ?_
    refine g_iald (pc := 15) 2 rfl rfl (by decide) (by decide) dX9_lights_15 ?_
    refine g_iload_n (pc := 16) dX9_lights_16 1 rfl rfl ?_
    refine g_invS (pc := 17) j_X9_has mw_X9_143 dX9_lights_17 (by rfl) (c_X9_has E S (gA S 59 2) (nI k) ) (Nat.le_of_ble_eq_true rfl) (Nat.le_of_ble_eq_true rfl) (by rfl) (Nat.le_of_ble_eq_true rfl) ?_
    refine g_iload_n (pc := 20) dX9_lights_20 2 rfl rfl ?_
    refine g_icmp_ne (pc := 21) (tgt := 27) dX9_lights_21 (by decide) (fun c_21 => ?_) (fun c_21 => ?_)
    · exact absurd h c_21
    · refine g_bipush (pc := 24) (v := -4) dX9_lights_24 (by decide) ?_
      exact g_iret (pc := 26) hM rfl rfl ⟨rfl, rfl⟩ dX9_lights_26
  · exact absurd (hx.symm.trans c_5) (by decide)
set_option maxRecDepth 100000 in
set_option maxHeartbeats 4000000 in
theorem c_X9_lights_full (E : En) (S : St) (k : Nat) (flag : Int32) (hz : okM S)(hk : k < nM S) (h : ¬ bI (hsF (gA S 59 2) (nI k)) = flag) (hd : gA S 59 43 = 40) : CTe E i_X9_lights S [.ref (eA E 58), .int (nI k), .int flag] S (some (.int (-2))) := by
  have hz8 := hz.2
  have hx := idx_in hk (show nM S < 2 ^ 31 by omega)
  refine ct_of [(0, .ref (eA E 58)), (1, .int (nI k)), (2, .int flag)] (by decide +kernel) (Nat.le_of_ble_eq_true rfl) rfl (fun X hM => ?_)
  refine g_aload_n (pc := 0) dX9_lights_0 0 rfl rfl ?_
  refine g_iload_n (pc := 1) dX9_lights_1 1 rfl rfl ?_
  refine g_invV (pc := 2) j_X9_isLight mw_X9_127 dX9_lights_2 (rcv_X9) (by rfl) (c_X9_isLight E S (nI k) (by first | assumption | omega | rfl)) (Nat.le_of_ble_eq_true rfl) (Nat.le_of_ble_eq_true rfl) (by rfl) (Nat.le_of_ble_eq_true rfl) ?_
  refine g_b_ne (pc := 5) (tgt := 10) dX9_lights_5 (by decide) (fun c_5 => ?_) (fun c_5 => ?_)
  · refine g_aload_n (pc := 10) dX9_lights_10 0 rfl rfl ?_
    refine gf_X9_7 (pc := 11) rfl dX9_lights_11 ?_
    refine g_iconst (pc := 14) (v := 2) dX9_lights_14 (by decide) ?_
    refine g_iald (pc := 15) 2 rfl rfl (by decide) (by decide) dX9_lights_15 ?_
    refine g_iload_n (pc := 16) dX9_lights_16 1 rfl rfl ?_
    refine g_invS (pc := 17) j_X9_has mw_X9_143 dX9_lights_17 (by rfl) (c_X9_has E S (gA S 59 2) (nI k) ) (Nat.le_of_ble_eq_true rfl) (Nat.le_of_ble_eq_true rfl) (by rfl) (Nat.le_of_ble_eq_true rfl) ?_
    refine g_iload_n (pc := 20) dX9_lights_20 2 rfl rfl ?_
    refine g_icmp_ne (pc := 21) (tgt := 27) dX9_lights_21 (by decide) (fun c_21 => ?_) (fun c_21 => ?_)
    · refine g_aload_n (pc := 27) dX9_lights_27 0 rfl rfl ?_
      refine gf_X9_7 (pc := 28) rfl dX9_lights_28 ?_
      refine g_bipush (pc := 31) (v := 43) dX9_lights_31 (by decide) ?_
      refine g_iald (pc := 33) 43 rfl rfl (by decide) (by decide) dX9_lights_33 ?_
      refine g_bipush (pc := 34) (v := 40) dX9_lights_34 (by decide) ?_
      refine g_icmp_ne (pc := 36) (tgt := 42) dX9_lights_36 (by decide) (fun c_36 => ?_) (fun c_36 => ?_)
      · exact absurd hd c_36
      · refine g_bipush (pc := 39) (v := -2) dX9_lights_39 (by decide) ?_
        exact g_iret (pc := 41) hM rfl rfl ⟨rfl, rfl⟩ dX9_lights_41
    · exact absurd c_21 h
  · exact absurd (hx.symm.trans c_5) (by decide)
set_option maxRecDepth 100000 in
set_option maxHeartbeats 4000000 in
theorem c_X9_lights_ok (E : En) (S : St) (k d : Nat) (flag : Int32) (hz : okM S)(hk : k < nM S) (h : ¬ bI (hsF (gA S 59 2) (nI k)) = flag)(hd : gA S 59 43 = nI d) (hd2 : d < 40) : CTe E i_X9_lights S [.ref (eA E 58), .int (nI k), .int flag] (sA S 59 (lgW (gA S 59) d k)) (some (.int (glQ (sA S 59 (lgW (gA S 59) d k)) k (gA (sA S 59 (lgW (gA S 59) d k)) 59 1)))) := by
  have hz8 := hz.2
  have hx := idx_in hk (show nM S < 2 ^ 31 by omega)
  refine ct_of [(0, .ref (eA E 58)), (1, .int (nI k)), (2, .int flag)] (by decide +kernel) (Nat.le_of_ble_eq_true rfl) rfl (fun X hM => ?_)
  refine g_aload_n (pc := 0) dX9_lights_0 0 rfl rfl ?_
  refine g_iload_n (pc := 1) dX9_lights_1 1 rfl rfl ?_
  refine g_invV (pc := 2) j_X9_isLight mw_X9_127 dX9_lights_2 (rcv_X9) (by rfl) (c_X9_isLight E S (nI k) (by first | assumption | omega | rfl)) (Nat.le_of_ble_eq_true rfl) (Nat.le_of_ble_eq_true rfl) (by rfl) (Nat.le_of_ble_eq_true rfl) ?_
  refine g_b_ne (pc := 5) (tgt := 10) dX9_lights_5 (by decide) (fun c_5 => ?_) (fun c_5 => ?_)
  · refine g_aload_n (pc := 10) dX9_lights_10 0 rfl rfl ?_
    refine gf_X9_7 (pc := 11) rfl dX9_lights_11 ?_
    refine g_iconst (pc := 14) (v := 2) dX9_lights_14 (by decide) ?_
    refine g_iald (pc := 15) 2 rfl rfl (by decide) (by decide) dX9_lights_15 ?_
    refine g_iload_n (pc := 16) dX9_lights_16 1 rfl rfl ?_
    refine g_invS (pc := 17) j_X9_has mw_X9_143 dX9_lights_17 (by rfl) (c_X9_has E S (gA S 59 2) (nI k) ) (Nat.le_of_ble_eq_true rfl) (Nat.le_of_ble_eq_true rfl) (by rfl) (Nat.le_of_ble_eq_true rfl) ?_
    refine g_iload_n (pc := 20) dX9_lights_20 2 rfl rfl ?_
    refine g_icmp_ne (pc := 21) (tgt := 27) dX9_lights_21 (by decide) (fun c_21 => ?_) (fun c_21 => ?_)
    · refine g_aload_n (pc := 27) dX9_lights_27 0 rfl rfl ?_
      refine gf_X9_7 (pc := 28) rfl dX9_lights_28 ?_
      refine g_bipush (pc := 31) (v := 43) dX9_lights_31 (by decide) ?_
      refine g_iald (pc := 33) 43 rfl rfl (by decide) (by decide) dX9_lights_33 ?_
      refine g_bipush (pc := 34) (v := 40) dX9_lights_34 (by decide) ?_
      refine g_icmp_ne (pc := 36) (tgt := 42) dX9_lights_36 (by decide) (fun c_36 => ?_) (fun c_36 => ?_)
      · refine g_aload_n (pc := 42) dX9_lights_42 0 rfl rfl ?_
        refine g_invN (pc := 43) j_X9_minds mw_X9_146 dX9_lights_43 (rcv_X9) (by rfl) (c_X9_minds E S _ (by first | assumption | omega | rfl) (by first | assumption | omega | rfl)) (Nat.le_of_ble_eq_true rfl) (Nat.le_of_ble_eq_true rfl) (by rfl) (Nat.le_of_ble_eq_true rfl) ?_
        refine g_aload_n (pc := 46) dX9_lights_46 0 rfl rfl ?_
        refine gf_X9_7 (pc := 47) rfl dX9_lights_47 ?_
        refine g_iconst (pc := 50) (v := 2) dX9_lights_50 (by decide) ?_
        refine g_dup2 (pc := 51) dX9_lights_51 rfl rfl ?_
        refine g_iald (pc := 52) 2 rfl rfl (by decide) (by decide) dX9_lights_52 ?_
        refine g_iconst (pc := 53) (v := 1) dX9_lights_53 (by decide) ?_
        refine g_iload_n (pc := 54) dX9_lights_54 1 rfl rfl ?_
        refine g_ishl (pc := 55) dX9_lights_55 ?_
        refine g_ixor (pc := 56) dX9_lights_56 ?_
        refine g_iast (pc := 57) 2 rfl rfl (by decide) (by decide) dX9_lights_57 ?_
        rw [show sA (sA S 59 (mdF (gA S 59) d)) 59 (upd (gA (sA S 59 (mdF (gA S 59) d)) 59) 2 (gA (sA S 59 (mdF (gA S 59) d)) 59 2 ^^^ ((1 : Int32) <<< ((nI k) &&& 31)))) = sA S 59 (lgW (gA S 59) d k) by simp only [sA_sA, gA_same]; rfl]
        refine g_aload_n (pc := 58) dX9_lights_58 0 rfl rfl ?_
        refine g_iload_n (pc := 59) dX9_lights_59 1 rfl rfl ?_
        refine g_aload_n (pc := 60) dX9_lights_60 0 rfl rfl ?_
        refine gf_X9_7 (pc := 61) rfl dX9_lights_61 ?_
        refine g_iconst (pc := 64) (v := 1) dX9_lights_64 (by decide) ?_
        refine g_iald (pc := 65) 1 rfl rfl (by decide) (by decide) dX9_lights_65 ?_
        refine g_invV (pc := 66) j_X9_glowOf mw_X9_135 dX9_lights_66 (rcv_X9) (by rfl) (c_X9_glowOf E (sA S 59 (lgW (gA S 59) d k)) k (gA (sA S 59 (lgW (gA S 59) d k)) 59 1) (by omega)) (Nat.le_of_ble_eq_true rfl) (Nat.le_of_ble_eq_true rfl) (by rfl) (Nat.le_of_ble_eq_true rfl) ?_
        exact g_iret (pc := 69) hM rfl rfl ⟨rfl, rfl⟩ dX9_lights_69
      · exact absurd (hd.symm.trans c_36) (nI_n40 hd2)
    · exact absurd c_21 h
  · exact absurd (hx.symm.trans c_5) (by decide)
set_option maxRecDepth 100000 in
set_option maxHeartbeats 4000000 in
theorem c_X9_answer_bad (E : En) (S : St) (k : Int32) (hz : okM S) (h : idxF (nM S) k = false) : CTe E i_X9_answer S [.ref (eA E 58), .int k] S (some (.int (-1))) := by
  refine ct_of [(0, .ref (eA E 58)), (1, .int k)] (by decide +kernel) (Nat.le_of_ble_eq_true rfl) rfl (fun X hM => ?_)
  refine g_aload_n (pc := 0) dX9_answer_0 0 rfl rfl ?_
  refine g_iload_n (pc := 1) dX9_answer_1 1 rfl rfl ?_
  refine g_iconst (pc := 2) (v := 0) dX9_answer_2 (by decide) ?_
  refine g_invV (pc := 3) j_X9_lights mw_X9_152 dX9_answer_3 (rcv_X9) (by rfl) (c_X9_lights_bad E S k 0 (by first | assumption | omega | rfl) (by first | assumption | omega | rfl)) (Nat.le_of_ble_eq_true rfl) (Nat.le_of_ble_eq_true rfl) (by rfl) (Nat.le_of_ble_eq_true rfl) ?_
  exact g_iret (pc := 6) hM rfl rfl ⟨rfl, rfl⟩ dX9_answer_6
set_option maxRecDepth 100000 in
set_option maxHeartbeats 4000000 in
theorem c_X9_answer_no (E : En) (S : St) (k : Nat) (hz : okM S)(hk : k < nM S) (h : bI (hsF (gA S 59 2) (nI k)) = 0) : CTe E i_X9_answer S [.ref (eA E 58), .int (nI k)] S (some (.int (-4))) := by
  refine ct_of [(0, .ref (eA E 58)), (1, .int (nI k))] (by decide +kernel) (Nat.le_of_ble_eq_true rfl) rfl (fun X hM => ?_)
  refine g_aload_n (pc := 0) dX9_answer_0 0 rfl rfl ?_
  refine g_iload_n (pc := 1) dX9_answer_1 1 rfl rfl ?_
  refine g_iconst (pc := 2) (v := 0) dX9_answer_2 (by decide) ?_
  refine g_invV (pc := 3) j_X9_lights mw_X9_152 dX9_answer_3 (rcv_X9) (by rfl) (c_X9_lights_no E S k 0 (by first | assumption | omega | rfl) (by first | assumption | omega | rfl) (by first | assumption | omega | rfl)) (Nat.le_of_ble_eq_true rfl) (Nat.le_of_ble_eq_true rfl) (by rfl) (Nat.le_of_ble_eq_true rfl) ?_
  exact g_iret (pc := 6) hM rfl rfl ⟨rfl, rfl⟩ dX9_answer_6
set_option maxRecDepth 100000 in
set_option maxHeartbeats 4000000 in
theorem c_X9_answer_full (E : En) (S : St) (k : Nat) (hz : okM S)(hk : k < nM S) (h : ¬ bI (hsF (gA S 59 2) (nI k)) = 0) (hd : gA S 59 43 = 40) : CTe E i_X9_answer S [.ref (eA E 58), .int (nI k)] S (some (.int (-2))) := by
  refine ct_of [(0, .ref (eA E 58)), (1, .int (nI k))] (by decide +kernel) (Nat.le_of_ble_eq_true rfl) rfl (fun X hM => ?_)
  refine g_aload_n (pc := 0) dX9_answer_0 0 rfl rfl ?_
  refine g_iload_n (pc := 1) dX9_answer_1 1 rfl rfl ?_
  refine g_iconst (pc := 2) (v := 0) dX9_answer_2 (by decide) ?_
  refine g_invV (pc := 3) j_X9_lights mw_X9_152 dX9_answer_3 (rcv_X9) (by rfl) (c_X9_lights_full E S k 0 (by first | assumption | omega | rfl) (by first | assumption | omega | rfl) (by first | assumption | omega | rfl) (by first | assumption | omega | rfl)) (Nat.le_of_ble_eq_true rfl) (Nat.le_of_ble_eq_true rfl) (by rfl) (Nat.le_of_ble_eq_true rfl) ?_
  exact g_iret (pc := 6) hM rfl rfl ⟨rfl, rfl⟩ dX9_answer_6
set_option maxRecDepth 100000 in
set_option maxHeartbeats 4000000 in
theorem c_X9_answer_ok (E : En) (S : St) (k d : Nat) (hz : okM S)(hk : k < nM S) (h : ¬ bI (hsF (gA S 59 2) (nI k)) = 0)(hd : gA S 59 43 = nI d) (hd2 : d < 40) : CTe E i_X9_answer S [.ref (eA E 58), .int (nI k)] (sA S 59 (lgW (gA S 59) d k)) (some (.int (glQ (sA S 59 (lgW (gA S 59) d k)) k (gA (sA S 59 (lgW (gA S 59) d k)) 59 1)))) := by
  refine ct_of [(0, .ref (eA E 58)), (1, .int (nI k))] (by decide +kernel) (Nat.le_of_ble_eq_true rfl) rfl (fun X hM => ?_)
  refine g_aload_n (pc := 0) dX9_answer_0 0 rfl rfl ?_
  refine g_iload_n (pc := 1) dX9_answer_1 1 rfl rfl ?_
  refine g_iconst (pc := 2) (v := 0) dX9_answer_2 (by decide) ?_
  refine g_invV (pc := 3) j_X9_lights mw_X9_152 dX9_answer_3 (rcv_X9) (by rfl) (c_X9_lights_ok E S k d 0 (by first | assumption | omega | rfl) (by first | assumption | omega | rfl) (by first | assumption | omega | rfl) (by first | assumption | omega | rfl) (by first | assumption | omega | rfl)) (Nat.le_of_ble_eq_true rfl) (Nat.le_of_ble_eq_true rfl) (by rfl) (Nat.le_of_ble_eq_true rfl) ?_
  exact g_iret (pc := 6) hM rfl rfl ⟨rfl, rfl⟩ dX9_answer_6
set_option maxRecDepth 100000 in
set_option maxHeartbeats 4000000 in
theorem c_X9_relight_bad (E : En) (S : St) (k : Int32) (hz : okM S) (h : idxF (nM S) k = false) : CTe E i_X9_relight S [.ref (eA E 58), .int k] S (some (.int (-1))) := by
  refine ct_of [(0, .ref (eA E 58)), (1, .int k)] (by decide +kernel) (Nat.le_of_ble_eq_true rfl) rfl (fun X hM => ?_)
  refine g_aload_n (pc := 0) dX9_relight_0 0 rfl rfl ?_
  refine g_iload_n (pc := 1) dX9_relight_1 1 rfl rfl ?_
  refine g_iconst (pc := 2) (v := 1) dX9_relight_2 (by decide) ?_
  refine g_invV (pc := 3) j_X9_lights mw_X9_152 dX9_relight_3 (rcv_X9) (by rfl) (c_X9_lights_bad E S k 1 (by first | assumption | omega | rfl) (by first | assumption | omega | rfl)) (Nat.le_of_ble_eq_true rfl) (Nat.le_of_ble_eq_true rfl) (by rfl) (Nat.le_of_ble_eq_true rfl) ?_
  exact g_iret (pc := 6) hM rfl rfl ⟨rfl, rfl⟩ dX9_relight_6
set_option maxRecDepth 100000 in
set_option maxHeartbeats 4000000 in
theorem c_X9_relight_no (E : En) (S : St) (k : Nat) (hz : okM S)(hk : k < nM S) (h : bI (hsF (gA S 59 2) (nI k)) = 1) : CTe E i_X9_relight S [.ref (eA E 58), .int (nI k)] S (some (.int (-4))) := by
  refine ct_of [(0, .ref (eA E 58)), (1, .int (nI k))] (by decide +kernel) (Nat.le_of_ble_eq_true rfl) rfl (fun X hM => ?_)
  refine g_aload_n (pc := 0) dX9_relight_0 0 rfl rfl ?_
  refine g_iload_n (pc := 1) dX9_relight_1 1 rfl rfl ?_
  refine g_iconst (pc := 2) (v := 1) dX9_relight_2 (by decide) ?_
  refine g_invV (pc := 3) j_X9_lights mw_X9_152 dX9_relight_3 (rcv_X9) (by rfl) (c_X9_lights_no E S k 1 (by first | assumption | omega | rfl) (by first | assumption | omega | rfl) (by first | assumption | omega | rfl)) (Nat.le_of_ble_eq_true rfl) (Nat.le_of_ble_eq_true rfl) (by rfl) (Nat.le_of_ble_eq_true rfl) ?_
  exact g_iret (pc := 6) hM rfl rfl ⟨rfl, rfl⟩ dX9_relight_6
set_option maxRecDepth 100000 in
set_option maxHeartbeats 4000000 in
theorem c_X9_relight_full (E : En) (S : St) (k : Nat) (hz : okM S)(hk : k < nM S) (h : ¬ bI (hsF (gA S 59 2) (nI k)) = 1) (hd : gA S 59 43 = 40) : CTe E i_X9_relight S [.ref (eA E 58), .int (nI k)] S (some (.int (-2))) := by
  refine ct_of [(0, .ref (eA E 58)), (1, .int (nI k))] (by decide +kernel) (Nat.le_of_ble_eq_true rfl) rfl (fun X hM => ?_)
  refine g_aload_n (pc := 0) dX9_relight_0 0 rfl rfl ?_
  refine g_iload_n (pc := 1) dX9_relight_1 1 rfl rfl ?_
  refine g_iconst (pc := 2) (v := 1) dX9_relight_2 (by decide) ?_
  refine g_invV (pc := 3) j_X9_lights mw_X9_152 dX9_relight_3 (rcv_X9) (by rfl) (c_X9_lights_full E S k 1 (by first | assumption | omega | rfl) (by first | assumption | omega | rfl) (by first | assumption | omega | rfl) (by first | assumption | omega | rfl)) (Nat.le_of_ble_eq_true rfl) (Nat.le_of_ble_eq_true rfl) (by rfl) (Nat.le_of_ble_eq_true rfl) ?_
  exact g_iret (pc := 6) hM rfl rfl ⟨rfl, rfl⟩ dX9_relight_6
set_option maxRecDepth 100000 in
set_option maxHeartbeats 4000000 in
theorem c_X9_relight_ok (E : En) (S : St) (k d : Nat) (hz : okM S)(hk : k < nM S) (h : ¬ bI (hsF (gA S 59 2) (nI k)) = 1)(hd : gA S 59 43 = nI d) (hd2 : d < 40) : CTe E i_X9_relight S [.ref (eA E 58), .int (nI k)] (sA S 59 (lgW (gA S 59) d k)) (some (.int (glQ (sA S 59 (lgW (gA S 59) d k)) k (gA (sA S 59 (lgW (gA S 59) d k)) 59 1)))) := by
  refine ct_of [(0, .ref (eA E 58)), (1, .int (nI k))] (by decide +kernel) (Nat.le_of_ble_eq_true rfl) rfl (fun X hM => ?_)
  refine g_aload_n (pc := 0) dX9_relight_0 0 rfl rfl ?_
  refine g_iload_n (pc := 1) dX9_relight_1 1 rfl rfl ?_
  refine g_iconst (pc := 2) (v := 1) dX9_relight_2 (by decide) ?_
  refine g_invV (pc := 3) j_X9_lights mw_X9_152 dX9_relight_3 (rcv_X9) (by rfl) (c_X9_lights_ok E S k d 1 (by first | assumption | omega | rfl) (by first | assumption | omega | rfl) (by first | assumption | omega | rfl) (by first | assumption | omega | rfl) (by first | assumption | omega | rfl)) (Nat.le_of_ble_eq_true rfl) (Nat.le_of_ble_eq_true rfl) (by rfl) (Nat.le_of_ble_eq_true rfl) ?_
  exact g_iret (pc := 6) hM rfl rfl ⟨rfl, rfl⟩ dX9_relight_6
set_option maxRecDepth 100000 in
set_option maxHeartbeats 4000000 in
theorem c_X9_carry_bad (E : En) (S : St) (k p : Int32) (hz : okM S) (h : ¬ (idxF (nM S) k = true ∧ placeF p = true)) : CTe E i_X9_carry S [.ref (eA E 58), .int k, .int p] S (some (.int (-1))) := by
  refine ct_of [(0, .ref (eA E 58)), (1, .int k), (2, .int p)] (by decide +kernel) (Nat.le_of_ble_eq_true rfl) rfl (fun X hM => ?_)
  refine g_aload_n (pc := 0) dX9_carry_0 0 rfl rfl ?_
  refine g_iload_n (pc := 1) dX9_carry_1 1 rfl rfl ?_
  refine g_invV (pc := 2) j_X9_isLight mw_X9_127 dX9_carry_2 (rcv_X9) (by rfl) (c_X9_isLight E S k (by first | assumption | omega | rfl)) (Nat.le_of_ble_eq_true rfl) (Nat.le_of_ble_eq_true rfl) (by rfl) (Nat.le_of_ble_eq_true rfl) ?_
  refine g_b_eq (pc := 5) (tgt := 15) dX9_carry_5 (by decide) (fun c_5 => ?_) (fun c_5 => ?_)
  · refine g_iconst (pc := 15) (v := -1) dX9_carry_15 (by decide) ?_
    exact g_iret (pc := 16) hM rfl rfl ⟨rfl, rfl⟩ dX9_carry_16
  · refine g_iload_n (pc := 8) dX9_carry_8 2 rfl rfl ?_
    refine g_invS (pc := 9) j_X9_isPlace mw_X9_156 dX9_carry_9 (by rfl) (c_X9_isPlace E S p ) (Nat.le_of_ble_eq_true rfl) (Nat.le_of_ble_eq_true rfl) (by rfl) (Nat.le_of_ble_eq_true rfl) ?_
    refine g_b_ne (pc := 12) (tgt := 17) dX9_carry_12 (by decide) (fun c_12 => ?_) (fun c_12 => ?_)
    · exact absurd ⟨c_5, c_12⟩ h
    · refine g_iconst (pc := 15) (v := -1) dX9_carry_15 (by decide) ?_
      exact g_iret (pc := 16) hM rfl rfl ⟨rfl, rfl⟩ dX9_carry_16
set_option maxRecDepth 100000 in
set_option maxHeartbeats 4000000 in
theorem c_X9_carry_no (E : En) (S : St) (k : Nat) (p : Int32) (hz : okM S)(hk : k < nM S)(hp : placeF p = true) (h : gA S 59 (3 + k) = p) : CTe E i_X9_carry S [.ref (eA E 58), .int (nI k), .int p] S (some (.int (-4))) := by
  have hz8 := hz.2
  have hx := idx_in hk (show nM S < 2 ^ 31 by omega)
  refine ct_of [(0, .ref (eA E 58)), (1, .int (nI k)), (2, .int p)] (by decide +kernel) (Nat.le_of_ble_eq_true rfl) rfl (fun X hM => ?_)
  refine g_aload_n (pc := 0) dX9_carry_0 0 rfl rfl ?_
  refine g_iload_n (pc := 1) dX9_carry_1 1 rfl rfl ?_
  refine g_invV (pc := 2) j_X9_isLight mw_X9_127 dX9_carry_2 (rcv_X9) (by rfl) (c_X9_isLight E S (nI k) (by first | assumption | omega | rfl)) (Nat.le_of_ble_eq_true rfl) (Nat.le_of_ble_eq_true rfl) (by rfl) (Nat.le_of_ble_eq_true rfl) ?_
  refine g_b_eq (pc := 5) (tgt := 15) dX9_carry_5 (by decide) (fun c_5 => ?_) (fun c_5 => ?_)
  · exact absurd (hx.symm.trans c_5) (by decide)
  · refine g_iload_n (pc := 8) dX9_carry_8 2 rfl rfl ?_
    refine g_invS (pc := 9) j_X9_isPlace mw_X9_156 dX9_carry_9 (by rfl) (c_X9_isPlace E S p ) (Nat.le_of_ble_eq_true rfl) (Nat.le_of_ble_eq_true rfl) (by rfl) (Nat.le_of_ble_eq_true rfl) ?_
    refine g_b_ne (pc := 12) (tgt := 17) dX9_carry_12 (by decide) (fun c_12 => ?_) (fun c_12 => ?_)
    · refine g_aload_n (pc := 17) dX9_carry_17 0 rfl rfl ?_
      refine gf_X9_7 (pc := 18) rfl dX9_carry_18 ?_
      refine g_iconst (pc := 21) (v := 3) dX9_carry_21 (by decide) ?_
      refine g_iload_n (pc := 22) dX9_carry_22 1 rfl rfl ?_
      refine g_iadd (pc := 23) dX9_carry_23 ?_
      refine g_iald (pc := 24) (3 + k) (nI_aE rfl rfl) rfl (show 3 + k < 1776 by omega) (by decide) dX9_carry_24 ?_
      refine g_istore_n (pc := 25) (L' := [(3, .int (gA S 59 (3 + k))), (0, .ref (eA E 58)), (1, .int (nI k)), (2, .int p)]) dX9_carry_25 rfl (Nat.le_of_ble_eq_true rfl) rfl ?_
      refine g_iload_n (pc := 26) dX9_carry_26 0 rfl rfl ?_
      refine g_iload_n (pc := 27) dX9_carry_27 3 rfl rfl ?_
      refine g_icmp_ne (pc := 28) (tgt := 34) dX9_carry_28 (by decide) (fun c_28 => ?_) (fun c_28 => ?_)
      · exact absurd h c_28
      · refine g_bipush (pc := 31) (v := -4) dX9_carry_31 (by decide) ?_
        exact g_iret (pc := 33) hM rfl rfl ⟨rfl, rfl⟩ dX9_carry_33
    · exact absurd (hp.symm.trans c_12) (by decide)
set_option maxRecDepth 100000 in
set_option maxHeartbeats 4000000 in
theorem c_X9_carry_full (E : En) (S : St) (k : Nat) (p : Int32) (hz : okM S)(hk : k < nM S)(hp : placeF p = true) (h : ¬ gA S 59 (3 + k) = p) (hd : gA S 59 43 = 40) : CTe E i_X9_carry S [.ref (eA E 58), .int (nI k), .int p] S (some (.int (-2))) := by
  have hz8 := hz.2
  have hx := idx_in hk (show nM S < 2 ^ 31 by omega)
  refine ct_of [(0, .ref (eA E 58)), (1, .int (nI k)), (2, .int p)] (by decide +kernel) (Nat.le_of_ble_eq_true rfl) rfl (fun X hM => ?_)
  refine g_aload_n (pc := 0) dX9_carry_0 0 rfl rfl ?_
  refine g_iload_n (pc := 1) dX9_carry_1 1 rfl rfl ?_
  refine g_invV (pc := 2) j_X9_isLight mw_X9_127 dX9_carry_2 (rcv_X9) (by rfl) (c_X9_isLight E S (nI k) (by first | assumption | omega | rfl)) (Nat.le_of_ble_eq_true rfl) (Nat.le_of_ble_eq_true rfl) (by rfl) (Nat.le_of_ble_eq_true rfl) ?_
  refine g_b_eq (pc := 5) (tgt := 15) dX9_carry_5 (by decide) (fun c_5 => ?_) (fun c_5 => ?_)
  · exact absurd (hx.symm.trans c_5) (by decide)
  · refine g_iload_n (pc := 8) dX9_carry_8 2 rfl rfl ?_
    refine g_invS (pc := 9) j_X9_isPlace mw_X9_156 dX9_carry_9 (by rfl) (c_X9_isPlace E S p ) (Nat.le_of_ble_eq_true rfl) (Nat.le_of_ble_eq_true rfl) (by rfl) (Nat.le_of_ble_eq_true rfl) ?_
    refine g_b_ne (pc := 12) (tgt := 17) dX9_carry_12 (by decide) (fun c_12 => ?_) (fun c_12 => ?_)
    · refine g_aload_n (pc := 17) dX9_carry_17 0 rfl rfl ?_
      refine gf_X9_7 (pc := 18) rfl dX9_carry_18 ?_
      refine g_iconst (pc := 21) (v := 3) dX9_carry_21 (by decide) ?_
      refine g_iload_n (pc := 22) dX9_carry_22 1 rfl rfl ?_
      refine g_iadd (pc := 23) dX9_carry_23 ?_
      refine g_iald (pc := 24) (3 + k) (nI_aE rfl rfl) rfl (show 3 + k < 1776 by omega) (by decide) dX9_carry_24 ?_
      refine g_istore_n (pc := 25) (L' := [(3, .int (gA S 59 (3 + k))), (0, .ref (eA E 58)), (1, .int (nI k)), (2, .int p)]) dX9_carry_25 rfl (Nat.le_of_ble_eq_true rfl) rfl ?_
      refine g_iload_n (pc := 26) dX9_carry_26 0 rfl rfl ?_
      refine g_iload_n (pc := 27) dX9_carry_27 3 rfl rfl ?_
      refine g_icmp_ne (pc := 28) (tgt := 34) dX9_carry_28 (by decide) (fun c_28 => ?_) (fun c_28 => ?_)
      · refine g_aload_n (pc := 34) dX9_carry_34 1 rfl rfl ?_
        refine gf_X9_7 (pc := 35) rfl dX9_carry_35 ?_
        refine g_bipush (pc := 38) (v := 43) dX9_carry_38 (by decide) ?_
        refine g_iald (pc := 40) 43 rfl rfl (by decide) (by decide) dX9_carry_40 ?_
        refine g_bipush (pc := 41) (v := 40) dX9_carry_41 (by decide) ?_
        refine g_icmp_ne (pc := 43) (tgt := 49) dX9_carry_43 (by decide) (fun c_43 => ?_) (fun c_43 => ?_)
        · exact absurd hd c_43
        · refine g_bipush (pc := 46) (v := -2) dX9_carry_46 (by decide) ?_
          exact g_iret (pc := 48) hM rfl rfl ⟨rfl, rfl⟩ dX9_carry_48
      · exact absurd c_28 h
    · exact absurd (hp.symm.trans c_12) (by decide)
set_option maxRecDepth 100000 in
set_option maxHeartbeats 4000000 in
theorem c_X9_carry_ok (E : En) (S : St) (k d : Nat) (p : Int32) (hz : okM S)(hk : k < nM S)(hp : placeF p = true) (h : ¬ gA S 59 (3 + k) = p)(hd : gA S 59 43 = nI d) (hd2 : d < 40) : CTe E i_X9_carry S [.ref (eA E 58), .int (nI k), .int p] (sA S 59 (cyW (gA S 59) d k p)) (some (.int (gA S 59 (3 + k)))) := by
  have hz8 := hz.2
  have hx := idx_in hk (show nM S < 2 ^ 31 by omega)
  refine ct_of [(0, .ref (eA E 58)), (1, .int (nI k)), (2, .int p)] (by decide +kernel) (Nat.le_of_ble_eq_true rfl) rfl (fun X hM => ?_)
  refine g_aload_n (pc := 0) dX9_carry_0 0 rfl rfl ?_
  refine g_iload_n (pc := 1) dX9_carry_1 1 rfl rfl ?_
  refine g_invV (pc := 2) j_X9_isLight mw_X9_127 dX9_carry_2 (rcv_X9) (by rfl) (c_X9_isLight E S (nI k) (by first | assumption | omega | rfl)) (Nat.le_of_ble_eq_true rfl) (Nat.le_of_ble_eq_true rfl) (by rfl) (Nat.le_of_ble_eq_true rfl) ?_
  refine g_b_eq (pc := 5) (tgt := 15) dX9_carry_5 (by decide) (fun c_5 => ?_) (fun c_5 => ?_)
  · exact absurd (hx.symm.trans c_5) (by decide)
  · refine g_iload_n (pc := 8) dX9_carry_8 2 rfl rfl ?_
    refine g_invS (pc := 9) j_X9_isPlace mw_X9_156 dX9_carry_9 (by rfl) (c_X9_isPlace E S p ) (Nat.le_of_ble_eq_true rfl) (Nat.le_of_ble_eq_true rfl) (by rfl) (Nat.le_of_ble_eq_true rfl) ?_
    refine g_b_ne (pc := 12) (tgt := 17) dX9_carry_12 (by decide) (fun c_12 => ?_) (fun c_12 => ?_)
    · refine g_aload_n (pc := 17) dX9_carry_17 0 rfl rfl ?_
      refine gf_X9_7 (pc := 18) rfl dX9_carry_18 ?_
      refine g_iconst (pc := 21) (v := 3) dX9_carry_21 (by decide) ?_
      refine g_iload_n (pc := 22) dX9_carry_22 1 rfl rfl ?_
      refine g_iadd (pc := 23) dX9_carry_23 ?_
      refine g_iald (pc := 24) (3 + k) (nI_aE rfl rfl) rfl (show 3 + k < 1776 by omega) (by decide) dX9_carry_24 ?_
      refine g_istore_n (pc := 25) (L' := [(3, .int (gA S 59 (3 + k))), (0, .ref (eA E 58)), (1, .int (nI k)), (2, .int p)]) dX9_carry_25 rfl (Nat.le_of_ble_eq_true rfl) rfl ?_
      refine g_iload_n (pc := 26) dX9_carry_26 0 rfl rfl ?_
      refine g_iload_n (pc := 27) dX9_carry_27 3 rfl rfl ?_
      refine g_icmp_ne (pc := 28) (tgt := 34) dX9_carry_28 (by decide) (fun c_28 => ?_) (fun c_28 => ?_)
      · refine g_aload_n (pc := 34) dX9_carry_34 1 rfl rfl ?_
        refine gf_X9_7 (pc := 35) rfl dX9_carry_35 ?_
        refine g_bipush (pc := 38) (v := 43) dX9_carry_38 (by decide) ?_
        refine g_iald (pc := 40) 43 rfl rfl (by decide) (by decide) dX9_carry_40 ?_
        refine g_bipush (pc := 41) (v := 40) dX9_carry_41 (by decide) ?_
        refine g_icmp_ne (pc := 43) (tgt := 49) dX9_carry_43 (by decide) (fun c_43 => ?_) (fun c_43 => ?_)
        · refine g_aload_n (pc := 49) dX9_carry_49 1 rfl rfl ?_
          refine g_invN (pc := 50) j_X9_minds mw_X9_146 dX9_carry_50 (rcv_X9) (by rfl) (c_X9_minds E S _ (by first | assumption | omega | rfl) (by first | assumption | omega | rfl)) (Nat.le_of_ble_eq_true rfl) (Nat.le_of_ble_eq_true rfl) (by rfl) (Nat.le_of_ble_eq_true rfl) ?_
          refine g_aload_n (pc := 53) dX9_carry_53 1 rfl rfl ?_
          refine gf_X9_7 (pc := 54) rfl dX9_carry_54 ?_
          refine g_iconst (pc := 57) (v := 3) dX9_carry_57 (by decide) ?_
          refine g_iload_n (pc := 58) dX9_carry_58 2 rfl rfl ?_
          refine g_iadd (pc := 59) dX9_carry_59 ?_
          refine g_iload_n (pc := 60) dX9_carry_60 3 rfl rfl ?_
          refine g_iast (pc := 61) (3 + k) (nI_aE rfl rfl) rfl (show 3 + k < 1776 by omega) (by decide) dX9_carry_61 ?_
          refine g_iload_n (pc := 62) dX9_carry_62 0 rfl rfl ?_
          exact g_iret (pc := 63) hM rfl rfl ⟨by simp only [sA_sA, gA_same]; rfl, rfl⟩ dX9_carry_63
        · exact absurd (hd.symm.trans c_43) (nI_n40 hd2)
      · exact absurd c_28 h
    · exact absurd (hp.symm.trans c_12) (by decide)
set_option maxRecDepth 100000 in
set_option maxHeartbeats 4000000 in
theorem c_X9_undo_bad (E : En) (S : St) (d : Nat) (x : Int32) (hd : gA S 59 43 = nI d) (hd2 : d ≤ 40) (h : idxF (d + 1) x = false) : CTe E i_X9_undo S [.ref (eA E 58), .int x] S (some (.int (-1))) := by
  refine ct_of [(0, .ref (eA E 58)), (1, .int x)] (by decide +kernel) (Nat.le_of_ble_eq_true rfl) rfl (fun X hM => ?_)
  refine g_iload_n (pc := 0) dX9_undo_0 1 rfl rfl ?_
  refine g_i2l (pc := 1) dX9_undo_1 ?_
  refine g_lconst (pc := 2) (v := 0) dX9_undo_2 (by decide) ?_
  refine g_aload_n (pc := 3) dX9_undo_3 0 rfl rfl ?_
  refine gf_X9_7 (pc := 4) rfl dX9_undo_4 ?_
  refine g_bipush (pc := 7) (v := 43) dX9_undo_7 (by decide) ?_
  refine g_iald (pc := 9) 43 rfl rfl (by decide) (by decide) dX9_undo_9 ?_
  refine g_i2l (pc := 10) dX9_undo_10 ?_
  refine g_invS (pc := 11) j_X9_in mw_X9_62 dX9_undo_11 (by rfl) (c_X9_in E S x.toInt64 0 ((gA S 59 43).toInt64) ) (Nat.le_of_ble_eq_true rfl) (Nat.le_of_ble_eq_true rfl) (by rfl) (Nat.le_of_ble_eq_true rfl) ?_
  rw [hd, in_le (by omega)]
  refine g_b_ne (pc := 14) (tgt := 19) dX9_undo_14 (by decide) (fun c_14 => ?_) (fun c_14 => ?_)
  · exact absurd (h.symm.trans c_14) (by decide)
  · refine g_iconst (pc := 17) (v := -1) dX9_undo_17 (by decide) ?_
    exact g_iret (pc := 18) hM rfl rfl ⟨rfl, rfl⟩ dX9_undo_18
set_option maxRecDepth 100000 in
set_option maxHeartbeats 4000000 in
theorem c_X9_undo_same (E : En) (S : St) (d u : Nat) (hd : gA S 59 43 = nI d) (hd2 : d ≤ 40) (hu : u = d) : CTe E i_X9_undo S [.ref (eA E 58), .int (nI u)] S (some (.int 0)) := by
  have hx := idx_in (show u < d + 1 by omega) (show d + 1 < 2 ^ 31 by omega)
  refine ct_of [(0, .ref (eA E 58)), (1, .int (nI u))] (by decide +kernel) (Nat.le_of_ble_eq_true rfl) rfl (fun X hM => ?_)
  refine g_iload_n (pc := 0) dX9_undo_0 1 rfl rfl ?_
  refine g_i2l (pc := 1) dX9_undo_1 ?_
  refine g_lconst (pc := 2) (v := 0) dX9_undo_2 (by decide) ?_
  refine g_aload_n (pc := 3) dX9_undo_3 0 rfl rfl ?_
  refine gf_X9_7 (pc := 4) rfl dX9_undo_4 ?_
  refine g_bipush (pc := 7) (v := 43) dX9_undo_7 (by decide) ?_
  refine g_iald (pc := 9) 43 rfl rfl (by decide) (by decide) dX9_undo_9 ?_
  refine g_i2l (pc := 10) dX9_undo_10 ?_
  refine g_invS (pc := 11) j_X9_in mw_X9_62 dX9_undo_11 (by rfl) (c_X9_in E S ((nI u).toInt64) 0 ((gA S 59 43).toInt64) ) (Nat.le_of_ble_eq_true rfl) (Nat.le_of_ble_eq_true rfl) (by rfl) (Nat.le_of_ble_eq_true rfl) ?_
  rw [hd, in_le (by omega)]
  refine g_b_ne (pc := 14) (tgt := 19) dX9_undo_14 (by decide) (fun c_14 => ?_) (fun c_14 => ?_)
  · refine g_aload_n (pc := 19) dX9_undo_19 0 rfl rfl ?_
    refine gf_X9_7 (pc := 20) rfl dX9_undo_20 ?_
    refine g_bipush (pc := 23) (v := 43) dX9_undo_23 (by decide) ?_
    refine g_iald (pc := 25) 43 rfl rfl (by decide) (by decide) dX9_undo_25 ?_
    refine g_iload_n (pc := 26) dX9_undo_26 1 rfl rfl ?_
    refine g_isub (pc := 27) dX9_undo_27 ?_
    rw [show gA S 59 43 - nI u = nI (d - u) from nI_sE hd rfl (by omega)]
    refine g_istore_n (pc := 28) (L' := [(2, .int (nI (d - u))), (0, .ref (eA E 58)), (1, .int (nI u))]) dX9_undo_28 rfl (Nat.le_of_ble_eq_true rfl) rfl ?_
    refine g_iload_n (pc := 29) dX9_undo_29 0 rfl rfl ?_
    refine g_if_le (pc := 30) (tgt := 111) dX9_undo_30 (by decide) (fun c_30 => ?_) (fun c_30 => ?_)
    · have k_30 := Int32.not_lt.mpr c_30
      refine g_iload_n (pc := 111) dX9_undo_111 0 rfl rfl ?_
      exact g_iret (pc := 112) hM rfl rfl ⟨rfl, some_int (by rw [show d - u = 0 by omega]; rfl)⟩ dX9_undo_112
    · have k_30 := Int32.not_le.mp c_30
      exact absurd (by rw [show d - u = 0 by omega]; decide) c_30
  · exact absurd (hx.symm.trans c_14) (by decide)
theorem nI_gt0 {d : Nat} (h : 0 < d) (h2 : d < 2 ^ 31) : 0 < nI d := (nI_ltI (a := 0) (by omega) h2).mpr h
set_option maxRecDepth 100000 in
set_option maxHeartbeats 4000000 in
theorem c_X9_undo_ok (E : En) (S : St) (d u : Nat) (hd : gA S 59 43 = nI d) (hd2 : d ≤ 40) (hu : u < d) : CTe E i_X9_undo S [.ref (eA E 58), .int (nI u)] (sA S 59 (udF (gA S 59) u)) (some (.int (nI (d - u)))) := by
  have hx := idx_in (show u < d + 1 by omega) (show d + 1 < 2 ^ 31 by omega)
  refine ct_of [(0, .ref (eA E 58)), (1, .int (nI u))] (by decide +kernel) (Nat.le_of_ble_eq_true rfl) rfl (fun X hM => ?_)
  refine g_iload_n (pc := 0) dX9_undo_0 1 rfl rfl ?_
  refine g_i2l (pc := 1) dX9_undo_1 ?_
  refine g_lconst (pc := 2) (v := 0) dX9_undo_2 (by decide) ?_
  refine g_aload_n (pc := 3) dX9_undo_3 0 rfl rfl ?_
  refine gf_X9_7 (pc := 4) rfl dX9_undo_4 ?_
  refine g_bipush (pc := 7) (v := 43) dX9_undo_7 (by decide) ?_
  refine g_iald (pc := 9) 43 rfl rfl (by decide) (by decide) dX9_undo_9 ?_
  refine g_i2l (pc := 10) dX9_undo_10 ?_
  refine g_invS (pc := 11) j_X9_in mw_X9_62 dX9_undo_11 (by rfl) (c_X9_in E S ((nI u).toInt64) 0 ((gA S 59 43).toInt64) ) (Nat.le_of_ble_eq_true rfl) (Nat.le_of_ble_eq_true rfl) (by rfl) (Nat.le_of_ble_eq_true rfl) ?_
  rw [hd, in_le (by omega)]
  refine g_b_ne (pc := 14) (tgt := 19) dX9_undo_14 (by decide) (fun c_14 => ?_) (fun c_14 => ?_)
  · refine g_aload_n (pc := 19) dX9_undo_19 0 rfl rfl ?_
    refine gf_X9_7 (pc := 20) rfl dX9_undo_20 ?_
    refine g_bipush (pc := 23) (v := 43) dX9_undo_23 (by decide) ?_
    refine g_iald (pc := 25) 43 rfl rfl (by decide) (by decide) dX9_undo_25 ?_
    refine g_iload_n (pc := 26) dX9_undo_26 1 rfl rfl ?_
    refine g_isub (pc := 27) dX9_undo_27 ?_
    rw [show gA S 59 43 - nI u = nI (d - u) from nI_sE hd rfl (by omega)]
    refine g_istore_n (pc := 28) (L' := [(2, .int (nI (d - u))), (0, .ref (eA E 58)), (1, .int (nI u))]) dX9_undo_28 rfl (Nat.le_of_ble_eq_true rfl) rfl ?_
    refine g_iload_n (pc := 29) dX9_undo_29 0 rfl rfl ?_
    refine g_if_le (pc := 30) (tgt := 111) dX9_undo_30 (by decide) (fun c_30 => ?_) (fun c_30 => ?_)
    · have k_30 := Int32.not_lt.mpr c_30
      exact absurd c_30 (Int32.not_le.mpr (nI_gt0 (by omega) (by omega)))
    · have k_30 := Int32.not_le.mp c_30
      refine g_bipush (pc := 33) (v := 44) dX9_undo_33 (by decide) ?_
      refine g_bipush (pc := 35) (v := 10) dX9_undo_35 (by decide) ?_
      refine g_iload_n (pc := 37) dX9_undo_37 2 rfl rfl ?_
      refine g_imul (pc := 38) dX9_undo_38 ?_
      refine g_iadd (pc := 39) dX9_undo_39 ?_
      rw [show (44 + (10 * nI u) : Int32) = nI (44 + 10 * u) from nI_aE rfl (nI_mE rfl rfl)]
      refine g_istore_n (pc := 40) (L' := [(3, .int (nI (44 + 10 * u))), (2, .int (nI (d - u))), (0, .ref (eA E 58)), (1, .int (nI u))]) dX9_undo_40 rfl (Nat.le_of_ble_eq_true rfl) rfl ?_
      refine g_aload_n (pc := 41) dX9_undo_41 2 rfl rfl ?_
      refine gf_X9_7 (pc := 42) rfl dX9_undo_42 ?_
      refine g_iconst (pc := 45) (v := 1) dX9_undo_45 (by decide) ?_
      refine g_aload_n (pc := 46) dX9_undo_46 2 rfl rfl ?_
      refine gf_X9_7 (pc := 47) rfl dX9_undo_47 ?_
      refine g_iload_n (pc := 50) dX9_undo_50 0 rfl rfl ?_
      refine g_iald (pc := 51) (44 + 10 * u) rfl rfl (show 44 + 10 * u < 1776 by omega) (by decide) dX9_undo_51 ?_
      refine g_iast (pc := 52) 1 rfl rfl (by decide) (by decide) dX9_undo_52 ?_
      refine g_aload_n (pc := 53) dX9_undo_53 2 rfl rfl ?_
      refine gf_X9_7 (pc := 54) rfl dX9_undo_54 ?_
      refine g_iconst (pc := 57) (v := 2) dX9_undo_57 (by decide) ?_
      refine g_aload_n (pc := 58) dX9_undo_58 2 rfl rfl ?_
      refine gf_X9_7 (pc := 59) rfl dX9_undo_59 ?_
      refine g_iload_n (pc := 62) dX9_undo_62 0 rfl rfl ?_
      refine g_iconst (pc := 63) (v := 1) dX9_undo_63 (by decide) ?_
      refine g_iadd (pc := 64) dX9_undo_64 ?_
      refine g_iald (pc := 65) ((44 + 10 * u) + 1) (nI_aE rfl rfl) rfl (show (44 + 10 * u) + 1 < 1776 by omega) (by decide) dX9_undo_65 ?_
      refine g_iast (pc := 66) 2 rfl rfl (by decide) (by decide) dX9_undo_66 ?_
      refine g_iconst (pc := 67) (v := 0) dX9_undo_67 (by decide) ?_
      refine g_istore (pc := 68) (L' := [(4, .int 0), (3, .int (nI (44 + 10 * u))), (2, .int (nI (d - u))), (0, .ref (eA E 58)), (1, .int (nI u))]) dX9_undo_68 (Nat.le_of_ble_eq_true rfl) rfl ?_
      have H_70 : ∀ n : Nat, n ≤ 8 → G E X i_X9_undo (sA S 59 (udR (gA S 59) (44 + 10 * u) n)) 70 [(0, .ref (eA E 58)), (1, .int (nI u)), (2, .int (nI (d - u))), (3, .int (nI (44 + 10 * u))), (4, .int (nI n))] [] := by
        refine dn_ind 8 (fun n hn_70 ih_70 => ?_)
        refine g_iload (pc := 70) dX9_undo_70 4 rfl ?_
        refine g_bipush (pc := 72) (v := 8) dX9_undo_72 (by decide) ?_
        refine g_icmp_ge (pc := 74) (tgt := 103) dX9_undo_74 (by decide) (fun c_74 => ?_) (fun c_74 => ?_)
        · have k_74 := Int32.not_lt.mpr c_74
          have he_70 : n = 8 := Nat.le_antisymm hn_70 (by exact nle_of (N := 8) rfl rfl (by omega) (by omega) c_74)
          rw [he_70]
          refine g_aload_n (pc := 103) dX9_undo_103 0 rfl rfl ?_
          refine gf_X9_7 (pc := 104) rfl dX9_undo_104 ?_
          refine g_bipush (pc := 107) (v := 43) dX9_undo_107 (by decide) ?_
          refine g_iload_n (pc := 109) dX9_undo_109 1 rfl rfl ?_
          refine g_iast (pc := 110) 43 rfl rfl (by decide) (by decide) dX9_undo_110 ?_
          refine g_iload_n (pc := 111) dX9_undo_111 2 rfl rfl ?_
          exact g_iret (pc := 112) hM rfl rfl ⟨by simp only [sA_sA, gA_same]; rfl, rfl⟩ dX9_undo_112
        · have k_74 := Int32.not_le.mp c_74
          have hlt_70 : n < 8 := by exact nlt_of (N := 8) rfl rfl (by omega) (by omega) c_74
          refine g_aload_n (pc := 77) dX9_undo_77 0 rfl rfl ?_
          refine gf_X9_7 (pc := 78) rfl dX9_undo_78 ?_
          refine g_iconst (pc := 81) (v := 3) dX9_undo_81 (by decide) ?_
          refine g_iload (pc := 82) dX9_undo_82 4 rfl ?_
          refine g_iadd (pc := 84) dX9_undo_84 ?_
          refine g_aload_n (pc := 85) dX9_undo_85 0 rfl rfl ?_
          refine gf_X9_7 (pc := 86) rfl dX9_undo_86 ?_
          refine g_iload_n (pc := 89) dX9_undo_89 3 rfl rfl ?_
          refine g_iconst (pc := 90) (v := 2) dX9_undo_90 (by decide) ?_
          refine g_iadd (pc := 91) dX9_undo_91 ?_
          refine g_iload (pc := 92) dX9_undo_92 4 rfl ?_
          refine g_iadd (pc := 94) dX9_undo_94 ?_
          refine g_iald (pc := 95) (((44 + 10 * u) + 2) + n) (nI_aE (nI_aE rfl rfl) rfl) rfl (show ((44 + 10 * u) + 2) + n < 1776 by omega) (by decide) dX9_undo_95 ?_
          refine g_iast (pc := 96) (3 + n) (nI_aE rfl rfl) rfl (show 3 + n < 1776 by omega) (by decide) dX9_undo_96 ?_
          refine g_iinc (pc := 97) (L' := [(4, .int (nI n + 1)), (0, .ref (eA E 58)), (1, .int (nI u)), (2, .int (nI (d - u))), (3, .int (nI (44 + 10 * u)))]) dX9_undo_97 (k := 4) rfl (v := nI n + 1) rfl (Nat.le_of_ble_eq_true rfl) rfl ?_
          refine g_goto (pc := 100) (tgt := 70) dX9_undo_100 (by decide) ?_
          refine g_sub (L' := [(0, .ref (eA E 58)), (1, .int (nI u)), (2, .int (nI (d - u))), (3, .int (nI (44 + 10 * u))), (4, .int (nI n + 1))]) [1, 2, 3, 4, 0] rfl ?_
          exact g_eq (by simp only [sA_sA, gA_same]; rfl) (by simp only [nI_1]) rfl (ih_70 hlt_70)
      refine g_sub (L' := [(0, .ref (eA E 58)), (1, .int (nI u)), (2, .int (nI (d - u))), (3, .int (nI (44 + 10 * u))), (4, .int 0)]) [3, 4, 2, 1, 0] rfl ?_
      exact g_eq (by simp only [sA_sA, gA_same]; rfl) rfl rfl (H_70 0 (Nat.zero_le _))
  · exact absurd (hx.symm.trans c_14) (by decide)
